/-! ===== the picture of the heap ===== -/
abbrev FN : Type := Int → Int
abbrev rf (k : Nat) : AV := .inr (.inr (.inl (some k)))
abbrev nl : AV := .inr (.inr (.inl none))
abbrev iv (z : Int) : AV := .inl z
abbrev ia (n : Nat) (f : FN) : AC := .inl (0, n, f)
abbrev ya (n : Nat) (f : FN) : AC := .inl (1, n, f)
abbrev za (n : Nat) (f : FN) : AC := .inl (2, n, f)
abbrev ob (c : Nat) (fs : List AV) : AC := .inr (.inr (c, fs))
abbrev AC49 : Type := AC × AC × AC × AC × AC × AC × AC × AC × AC × AC × AC × AC × AC × AC × AC × AC × AC × AC × AC × AC × AC × AC × AC × AC × AC × AC × AC × AC × AC × AC × AC × AC × AC × AC × AC × AC × AC × AC × AC × AC × AC × AC × AC × AC × AC × AC × AC × AC × AC
abbrev AC24 : Type := AC × AC × AC × AC × AC × AC × AC × AC × AC × AC × AC × AC × AC × AC × AC × AC × AC × AC × AC × AC × AC × AC × AC × AC
def CV (a : AC49) (t : AH) : AH := a.1 :: a.2.1 :: a.2.2.1 :: a.2.2.2.1 :: a.2.2.2.2.1 :: a.2.2.2.2.2.1 :: a.2.2.2.2.2.2.1 :: a.2.2.2.2.2.2.2.1 :: a.2.2.2.2.2.2.2.2.1 :: a.2.2.2.2.2.2.2.2.2.1 :: a.2.2.2.2.2.2.2.2.2.2.1 :: a.2.2.2.2.2.2.2.2.2.2.2.1 :: a.2.2.2.2.2.2.2.2.2.2.2.2.1 :: a.2.2.2.2.2.2.2.2.2.2.2.2.2.1 :: a.2.2.2.2.2.2.2.2.2.2.2.2.2.2.1 :: a.2.2.2.2.2.2.2.2.2.2.2.2.2.2.2.1 :: a.2.2.2.2.2.2.2.2.2.2.2.2.2.2.2.2.1 :: a.2.2.2.2.2.2.2.2.2.2.2.2.2.2.2.2.2.1 :: a.2.2.2.2.2.2.2.2.2.2.2.2.2.2.2.2.2.2.1 :: a.2.2.2.2.2.2.2.2.2.2.2.2.2.2.2.2.2.2.2.1 :: a.2.2.2.2.2.2.2.2.2.2.2.2.2.2.2.2.2.2.2.2.1 :: a.2.2.2.2.2.2.2.2.2.2.2.2.2.2.2.2.2.2.2.2.2.1 :: a.2.2.2.2.2.2.2.2.2.2.2.2.2.2.2.2.2.2.2.2.2.2.1 :: a.2.2.2.2.2.2.2.2.2.2.2.2.2.2.2.2.2.2.2.2.2.2.2.1 :: a.2.2.2.2.2.2.2.2.2.2.2.2.2.2.2.2.2.2.2.2.2.2.2.2.1 :: a.2.2.2.2.2.2.2.2.2.2.2.2.2.2.2.2.2.2.2.2.2.2.2.2.2.1 :: a.2.2.2.2.2.2.2.2.2.2.2.2.2.2.2.2.2.2.2.2.2.2.2.2.2.2.1 :: a.2.2.2.2.2.2.2.2.2.2.2.2.2.2.2.2.2.2.2.2.2.2.2.2.2.2.2.1 :: a.2.2.2.2.2.2.2.2.2.2.2.2.2.2.2.2.2.2.2.2.2.2.2.2.2.2.2.2.1 :: a.2.2.2.2.2.2.2.2.2.2.2.2.2.2.2.2.2.2.2.2.2.2.2.2.2.2.2.2.2.1 :: a.2.2.2.2.2.2.2.2.2.2.2.2.2.2.2.2.2.2.2.2.2.2.2.2.2.2.2.2.2.2.1 :: a.2.2.2.2.2.2.2.2.2.2.2.2.2.2.2.2.2.2.2.2.2.2.2.2.2.2.2.2.2.2.2.1 :: a.2.2.2.2.2.2.2.2.2.2.2.2.2.2.2.2.2.2.2.2.2.2.2.2.2.2.2.2.2.2.2.2.1 :: a.2.2.2.2.2.2.2.2.2.2.2.2.2.2.2.2.2.2.2.2.2.2.2.2.2.2.2.2.2.2.2.2.2.1 :: a.2.2.2.2.2.2.2.2.2.2.2.2.2.2.2.2.2.2.2.2.2.2.2.2.2.2.2.2.2.2.2.2.2.2.1 :: a.2.2.2.2.2.2.2.2.2.2.2.2.2.2.2.2.2.2.2.2.2.2.2.2.2.2.2.2.2.2.2.2.2.2.2.1 :: a.2.2.2.2.2.2.2.2.2.2.2.2.2.2.2.2.2.2.2.2.2.2.2.2.2.2.2.2.2.2.2.2.2.2.2.2.1 :: a.2.2.2.2.2.2.2.2.2.2.2.2.2.2.2.2.2.2.2.2.2.2.2.2.2.2.2.2.2.2.2.2.2.2.2.2.2.1 :: a.2.2.2.2.2.2.2.2.2.2.2.2.2.2.2.2.2.2.2.2.2.2.2.2.2.2.2.2.2.2.2.2.2.2.2.2.2.2.1 :: a.2.2.2.2.2.2.2.2.2.2.2.2.2.2.2.2.2.2.2.2.2.2.2.2.2.2.2.2.2.2.2.2.2.2.2.2.2.2.2.1 :: a.2.2.2.2.2.2.2.2.2.2.2.2.2.2.2.2.2.2.2.2.2.2.2.2.2.2.2.2.2.2.2.2.2.2.2.2.2.2.2.2.1 :: a.2.2.2.2.2.2.2.2.2.2.2.2.2.2.2.2.2.2.2.2.2.2.2.2.2.2.2.2.2.2.2.2.2.2.2.2.2.2.2.2.2.1 :: a.2.2.2.2.2.2.2.2.2.2.2.2.2.2.2.2.2.2.2.2.2.2.2.2.2.2.2.2.2.2.2.2.2.2.2.2.2.2.2.2.2.2.1 :: a.2.2.2.2.2.2.2.2.2.2.2.2.2.2.2.2.2.2.2.2.2.2.2.2.2.2.2.2.2.2.2.2.2.2.2.2.2.2.2.2.2.2.2.1 :: a.2.2.2.2.2.2.2.2.2.2.2.2.2.2.2.2.2.2.2.2.2.2.2.2.2.2.2.2.2.2.2.2.2.2.2.2.2.2.2.2.2.2.2.2.1 :: a.2.2.2.2.2.2.2.2.2.2.2.2.2.2.2.2.2.2.2.2.2.2.2.2.2.2.2.2.2.2.2.2.2.2.2.2.2.2.2.2.2.2.2.2.2.1 :: a.2.2.2.2.2.2.2.2.2.2.2.2.2.2.2.2.2.2.2.2.2.2.2.2.2.2.2.2.2.2.2.2.2.2.2.2.2.2.2.2.2.2.2.2.2.2.1 :: a.2.2.2.2.2.2.2.2.2.2.2.2.2.2.2.2.2.2.2.2.2.2.2.2.2.2.2.2.2.2.2.2.2.2.2.2.2.2.2.2.2.2.2.2.2.2.2.1 :: a.2.2.2.2.2.2.2.2.2.2.2.2.2.2.2.2.2.2.2.2.2.2.2.2.2.2.2.2.2.2.2.2.2.2.2.2.2.2.2.2.2.2.2.2.2.2.2.2 :: t
def MV (b : AC24) (t : AH) : AH := b.1 :: b.2.1 :: b.2.2.1 :: b.2.2.2.1 :: b.2.2.2.2.1 :: b.2.2.2.2.2.1 :: b.2.2.2.2.2.2.1 :: b.2.2.2.2.2.2.2.1 :: b.2.2.2.2.2.2.2.2.1 :: b.2.2.2.2.2.2.2.2.2.1 :: b.2.2.2.2.2.2.2.2.2.2.1 :: b.2.2.2.2.2.2.2.2.2.2.2.1 :: b.2.2.2.2.2.2.2.2.2.2.2.2.1 :: b.2.2.2.2.2.2.2.2.2.2.2.2.2.1 :: b.2.2.2.2.2.2.2.2.2.2.2.2.2.2.1 :: b.2.2.2.2.2.2.2.2.2.2.2.2.2.2.2.1 :: b.2.2.2.2.2.2.2.2.2.2.2.2.2.2.2.2.1 :: b.2.2.2.2.2.2.2.2.2.2.2.2.2.2.2.2.2.1 :: b.2.2.2.2.2.2.2.2.2.2.2.2.2.2.2.2.2.2.1 :: b.2.2.2.2.2.2.2.2.2.2.2.2.2.2.2.2.2.2.2.1 :: b.2.2.2.2.2.2.2.2.2.2.2.2.2.2.2.2.2.2.2.2.1 :: b.2.2.2.2.2.2.2.2.2.2.2.2.2.2.2.2.2.2.2.2.2.1 :: b.2.2.2.2.2.2.2.2.2.2.2.2.2.2.2.2.2.2.2.2.2.2.1 :: b.2.2.2.2.2.2.2.2.2.2.2.2.2.2.2.2.2.2.2.2.2.2.2 :: t
abbrev TyT : Type := FN × Int
abbrev TyG : Type := FN × FN × FN × FN × FN × FN × FN × FN × Int × Int × Int
abbrev TyL : Type := (Int → Option Nat) × Int × Int × Int × Int
abbrev TyO : Type := FN × Int
abbrev TyR : Type := Int × Int × Int × Int × Int × Int
abbrev TyP : Type := FN × FN × FN × FN × FN × FN × FN × FN × Int × Int × Int × Int × Int × Int
abbrev TyC : Type := FN × FN × FN × FN
abbrev TyB : Type := FN × FN × FN × FN × Int × Int
abbrev TyS : Type := FN × FN × FN × Int × Int × Int × Int
/-- the office: sb, ss: which of the two books, seatings is the first one -/
abbrev CA (sb ss : Nat) (T : TyT) (G : TyG) (L : TyL) (O : TyO) (R : TyR) (P : TyP) (C : TyC) (B D : TyB) (S N : TyS) : AC49 := (ob 11 [rf 1, rf 3, rf 12, rf 14, rf 16, rf 17, rf 26, rf (31 + 5 * sb), rf (36 - 5 * sb), rf (41 + 4 * ss), rf (45 - 4 * ss)],
  ob 10 [rf 2, iv T.2],
  ya 200 T.1,
  ob 2 [rf 4, rf 5, rf 6, rf 7, rf 8, rf 9, rf 10, rf 11, iv G.2.2.2.2.2.2.2.2.1, iv G.2.2.2.2.2.2.2.2.2.1, iv G.2.2.2.2.2.2.2.2.2.2],
  ia 32 G.1,
  ia 32 G.2.1,
  ia 32 G.2.2.1,
  ia 32 G.2.2.2.1,
  ia 32 G.2.2.2.2.1,
  ia 32 G.2.2.2.2.2.1,
  za 32 G.2.2.2.2.2.2.1,
  ia 32 G.2.2.2.2.2.2.2.1,
  ob 3 [rf 13, iv L.2.1, iv L.2.2.1, iv L.2.2.2.1, iv L.2.2.2.2],
  .inr (.inl (6, L.1)),
  ob 4 [rf 15, iv O.2],
  ia 32 O.1,
  ob 7 [iv R.1, iv R.2.1, iv R.2.2.1, iv R.2.2.2.1, iv R.2.2.2.2.1, iv R.2.2.2.2.2],
  ob 5 [rf 18, rf 19, rf 20, rf 21, rf 22, rf 23, rf 24, rf 25, iv P.2.2.2.2.2.2.2.2.1, iv P.2.2.2.2.2.2.2.2.2.1, iv P.2.2.2.2.2.2.2.2.2.2.1, iv P.2.2.2.2.2.2.2.2.2.2.2.1, iv P.2.2.2.2.2.2.2.2.2.2.2.2.1, iv P.2.2.2.2.2.2.2.2.2.2.2.2.2],
  ia 32 P.1,
  ia 32 P.2.1,
  ia 32 P.2.2.1,
  ia 32 P.2.2.2.1,
  ia 32 P.2.2.2.2.1,
  ia 32 P.2.2.2.2.2.1,
  ia 32 P.2.2.2.2.2.2.1,
  ia 33 P.2.2.2.2.2.2.2.1,
  ob 1 [rf 27, rf 28, rf 29, rf 30],
  ia 32 C.1,
  ia 32 C.2.1,
  ia 32 C.2.2.1,
  ia 4 C.2.2.2,
  ob 6 [rf 32, rf 33, rf 34, rf 35, iv B.2.2.2.2.1, iv B.2.2.2.2.2],
  ia 8 B.1,
  ia 8 B.2.1,
  ia 25 B.2.2.1,
  za 25 B.2.2.2.1,
  ob 6 [rf 37, rf 38, rf 39, rf 40, iv D.2.2.2.2.1, iv D.2.2.2.2.2],
  ia 8 D.1,
  ia 8 D.2.1,
  ia 25 D.2.2.1,
  za 25 D.2.2.2.1,
  ob 8 [rf 42, rf 43, rf 44, iv S.2.2.2.1, iv S.2.2.2.2.1, iv S.2.2.2.2.2.1, iv S.2.2.2.2.2.2],
  ia 32 S.1,
  ia 32 S.2.1,
  ia 32 S.2.2.1,
  ob 8 [rf 46, rf 47, rf 48, iv N.2.2.2.1, iv N.2.2.2.2.1, iv N.2.2.2.2.2.1, iv N.2.2.2.2.2.2],
  ia 32 N.1,
  ia 32 N.2.1,
  ia 32 N.2.2.1)
abbrev CH (sb ss : Nat) (T : TyT) (G : TyG) (L : TyL) (O : TyO) (R : TyR) (P : TyP) (C : TyC) (B D : TyB) (S N : TyS) (t : AH) : AH := CV (CA sb ss T G L O R P C B D S N) t
abbrev TyMG : Type := FN × FN × FN × Int
abbrev TyMR : Type := FN × FN × FN × Int × Int × Int × Int
abbrev TyMU : Type := FN × FN × FN × Int
abbrev TyMP : Type := FN × FN × FN × Int × Int × Int × Int × Int
abbrev TyMS : Type := FN × FN × FN × FN × FN × Int × Int × Int × Int
abbrev TyMN : Type := FN × FN × FN × FN × Int × Int
abbrev MA (mT : TyT) (mG : TyMG) (mR : TyMR) (mU : TyMU) (mP : TyMP) (mO : TyO) (mS : TyMS) (mN : TyMN) : AC24 := (ob 12 [rf 50, iv mT.2, iv mG.2.2.2, rf 51, rf 52, rf 53, iv mR.2.2.2.1, rf 54, rf 55, rf 56, iv mR.2.2.2.2.1, iv mR.2.2.2.2.2.1, iv mR.2.2.2.2.2.2, iv mU.2.2.2, rf 57, rf 58, rf 59, iv mP.2.2.2.1, iv mP.2.2.2.2.1, iv mP.2.2.2.2.2.1, iv mP.2.2.2.2.2.2.1, iv mP.2.2.2.2.2.2.2, rf 60, rf 61, rf 62, iv mO.2, rf 63, iv mS.2.2.2.2.2.1, rf 64, rf 65, rf 66, rf 67, iv mS.2.2.2.2.2.2.1, iv mS.2.2.2.2.2.2.2.1, iv mS.2.2.2.2.2.2.2.2, rf 68, iv mN.2.2.2.2.1, iv mN.2.2.2.2.2, rf 69, rf 70, rf 71, rf 72],
  ia 200 mT.1,
  ia 192 mG.1,
  za 32 mG.2.1,
  za 1024 mG.2.2.1,
  ia 6 mR.1,
  ia 6 mR.2.1,
  ia 6 mR.2.2.1,
  ia 8 mU.1,
  ia 8 mU.2.1,
  ia 640 mU.2.2.1,
  ia 8 mP.1,
  ia 9 mP.2.1,
  ia 720 mP.2.2.1,
  ia 32 mO.1,
  ia 32 mS.1,
  ia 32 mS.2.1,
  ia 32 mS.2.2.1,
  ia 32 mS.2.2.2.1,
  ia 267894 mS.2.2.2.2.1,
  ia 32 mN.1,
  ia 32 mN.2.1,
  ia 32 mN.2.2.1,
  ia 4 mN.2.2.2.1)
abbrev MH (mT : TyT) (mG : TyMG) (mR : TyMR) (mU : TyMU) (mP : TyMP) (mO : TyO) (mS : TyMS) (mN : TyMN) (t : AH) : AH := MV (MA mT mG mR mU mP mO mS mN) t
/-- a bench: number, wide, floor, distance, rest, after, behind -/
abbrev TyBn : Type := Int × Int × Int × Int × FN × FN × FN
def BH : Nat → List TyBn → AH
  | _, [] => []
  | p, b :: bs => ob 0 [iv b.1, iv b.2.1, iv b.2.2.1, iv b.2.2.2.1, rf (p + 1), rf (p + 2), rf (p + 3)] :: ia (33 * (b.2.1 + 1)).toNat b.2.2.2.2.1 :: ia (32 * (b.2.1 + 1)).toNat b.2.2.2.2.2.1 :: ia 33 b.2.2.2.2.2.2 :: BH (p + 4) bs
/-- the methods known by their numbers alone -/
noncomputable def I0 : AI := fun mj h as => match mj with
  | 100 => match as with
    | [.inl a, .inl b, .inl c] => some (inR a ∧ inR b ∧ inR c, some (.inl (bI (b ≤ a ∧ a ≤ c))), h)
    | _ => none
  | 101 => match as with
    | [.inl a, .inl b, .inl c] => some (inR a ∧ inR b ∧ inR c, some (.inl (bI (b ≤ a ∧ a ≤ c))), h)
    | _ => none
  | 113 => match as with
    | [.inl a] => some (inR a, some (.inl (bI (97 ≤ a ∧ a ≤ 122))), h)
    | _ => none
  | 146 => match as with
    | [.inl a, .inl b] => some (inR a ∧ inR b, some (.inl (max a b)), h)
    | _ => none
  | 147 => match as with
    | [.inl a, .inl b] => some (inR a ∧ inR b, some (.inl (min a b)), h)
    | _ => none
  | 127 => match as with
    | [.inl i, .inl l, .inl r, .inl p] => some (True, some (.inl (((33 * i + l + 1) * 6 + r) * 41 + p)), h)
    | _ => none
  | _ => none
noncomputable def In : AI := fun _ _ _ => none
theorem In_ok (X : AX) (k : Nat) : AIok X k In := fun _ _ _ _ _ _ h => by cases h

