/** The document's face, so that one run of calls can be asked of the class and of the tests' own model. */
interface Office {
    int feed(int a, int b, int c, int d, int e);
    boolean end(int n);
    int guest(int kind, int date, int age, int width, int eye, int worth);
    boolean gone(int guest, boolean gone);
    boolean bar(int a, int b, boolean bar);
    int row(int wide, int floor, int deep);
    boolean set(int stage, int free, int empty);
    int rules();
    int fault(int what);
    int rank(int guest);
    int ranked(int i);
    int seat(boolean anew);
    int moved();
    int sits(int guest, int what);
    int at(int row, int place);
    int spare(int row);
    int hidden(int guest);
    int hider(int guest, int k);
    int stage(int guest);
    int morning(int gates, int shut);
    int comes(int guest, int what);
    int all(int what);
}
