/** The class under test, behind the tests' interface. */
final class RealOffice implements Office {
    private final CrowningSeats seats = new CrowningSeats();

    public int feed(int a, int b, int c, int d, int e) { return seats.feed(a, b, c, d, e); }
    public boolean end(int n) { return seats.end(n); }
    public int guest(int kind, int date, int age, int width, int eye, int worth) {
        return seats.guest(kind, date, age, width, eye, worth);
    }
    public boolean gone(int guest, boolean gone) { return seats.gone(guest, gone); }
    public boolean bar(int a, int b, boolean bar) { return seats.bar(a, b, bar); }
    public int row(int wide, int floor, int deep) { return seats.row(wide, floor, deep); }
    public boolean set(int stage, int free, int empty) { return seats.set(stage, free, empty); }
    public int rules() { return seats.rules(); }
    public int fault(int what) { return seats.fault(what); }
    public int rank(int guest) { return seats.rank(guest); }
    public int ranked(int i) { return seats.ranked(i); }
    public int seat(boolean anew) { return seats.seat(anew); }
    public int moved() { return seats.moved(); }
    public int sits(int guest, int what) { return seats.sits(guest, what); }
    public int at(int row, int place) { return seats.at(row, place); }
    public int spare(int row) { return seats.spare(row); }
    public int hidden(int guest) { return seats.hidden(guest); }
    public int hider(int guest, int k) { return seats.hider(guest, k); }
    public int stage(int guest) { return seats.stage(guest); }
    public int morning(int gates, int shut) { return seats.morning(gates, shut); }
    public int comes(int guest, int what) { return seats.comes(guest, what); }
    public int all(int what) { return seats.all(what); }
}
