/-! The relation of the class's cells and the reference's arrays: requests, fetches, replies. -/
/-- a request: its cell, its place, its number if it is a client's, its ints, its conditions -/
abbrev Rq : Type := Nat × Nat × Option Nat × (Nat → Int32) × Option (Nat → Int32)
/-- a fetch: its cell, its place, its ints -/
abbrev Fz : Type := Nat × Nat × (Nat → Int32)
/-- the blocks that a client's fetch asks for -/
def isBl (S : mS) (r : Nat) (x y : Int32) : Prop :=
  if rd S 620 (23 * r + 21) = -1 ∧ (rd S 620 (23 * r + 3) = 1 ∨ rd S 620 (23 * r + 3) = 2) then (∃ A, A < 100000 ∧ rd S 620 (23 * r + 4) = Int32.ofNat A ∧ x = Int32.ofNat (min A 255 / 16) ∧ ((rd S 620 (23 * r + 3) = 2 ∧ y = 15) ∨ (rd S 620 (23 * r + 3) = 1 ∧ ∃ B, B < 100000 ∧ rd S 620 (23 * r + 5) = Int32.ofNat B ∧ y = Int32.ofNat (min B 255 / 16)))) else x = 0 ∧ y = 15
/-- none or a number -/
def may (x : Int32) : Prop := x = -1 ∨ few 100000 x
/-- what only a FETCH's request has -/
def isQf (g row : Nat → Int32) (n : Nat) : Prop := n ≤ 2 ∧ row 2 = -1 ∧ row 3 = g 15 ∧ (∃ e, 3 ≤ e ∧ e ≤ 6 ∧ g 15 = Int32.ofNat e) ∧ row 4 = g 16 ∧ row 5 = g 4 ∧ row 6 = g 5 ∧ row 7 = g 11 ∧ row 8 = g 6 ∧ row 9 = g 17 ∧ g 7 = 0 ∧ g 8 = -1 ∧ g 9 = -1 ∧ g 10 = -1
/-- what only a client's request has -/
def isQc (S : mS) (r : Nat) (g k row : Nat → Int32) (n : Nat) : Prop := 3 ≤ n ∧ isCl S r k ∧ flag (k 0) ∧ row 2 = Int32.ofNat r ∧ row 7 = 0 ∧ g 11 = 0 ∧ row 8 = 0 ∧ g 6 = rd S 620 (23 * r + 16) ∧ g 7 = rd S 620 (23 * r + 17) ∧ flag (g 7) ∧ g 8 = rd S 620 (23 * r + 18) ∧ may (g 8) ∧ g 9 = rd S 620 (23 * r + 20) ∧ may (g 9) ∧ ((g 10 = rd S 620 (23 * r + 19) ∧ may (g 10)) ∨ (g 10 = 1000000 ∧ rd S 620 (23 * r + 19) = 1000000000)) ∧ isBl S r (g 4) (g 5) ∧ rd S 620 (23 * r) = g 0 ∧ rd S 620 (23 * r + 1) = g 1
/-- what all have -/
def isQa (f : Nat) (g row : Nat → Int32) (n : Nat) : Prop := (1 ≤ n ∧ n < 7) ∧ (∃ p v, p < 32 ∧ v < 4 ∧ f = 128 * n + (4 * p + v) ∧ g 0 = Int32.ofNat p ∧ g 1 = Int32.ofNat v ∧ row 0 = Int32.ofNat n ∧ row 1 = Int32.ofNat (4 * p + v)) ∧ (∃ la fo, la < 4 ∧ fo < 2 ∧ g 2 = Int32.ofNat la ∧ g 3 = Int32.ofNat fo ∧ row 11 = Int32.ofNat (la + 4 * fo)) ∧ flag (g 12) ∧ row 10 = g 12 ∧ flag (g 6) ∧ few 16 (g 4) ∧ few 16 (g 5)
/-- the cells of a request -/
def isQt (T : tT) (S : mS) (rs : List Nat) (z : Rq) : Prop := match z.2.2.1, z.2.2.2.2 with
  | none, none => ∃ b, T.1 z.1 = some (cReq z.2.2.2.1 none none b)
  | some r, some k => (∃ ca ra s b, T.1 z.1 = some (cReq z.2.2.2.1 (some ca) (some ra) b) ∧ T.1 ca = some (cCond k s) ∧ isTags T S r s k ∧ rs[r]? = some ra) ∧ rd S 621 r = 1
  | _, _ => False
def isQs (S : mS) (z : Rq) (row : Nat → Int32) (n : Nat) : Prop := match z.2.2.1, z.2.2.2.2 with
  | none, none => isQf z.2.2.2.1 row n
  | some r, some k => isQc S r z.2.2.2.1 k row n
  | _, _ => False
def isQr (T : tT) (S : mS) (rs : List Nat) (z : Rq) (row : Nat → Int32) : Prop := isQt T S rs z ∧ ∃ n, isQa z.2.1 z.2.2.2.1 row n ∧ isQs S z row n
/-- the chain of a place -/
def ch (Q : List Rq) (f : Nat) : List Nat := (Q.filter (fun z => decide (z.2.1 = f))).map Prod.fst
def lnk (T : tT) : List Nat → Prop
  | [] => True
  | q :: L => (∃ g c r, T.1 q = some (cReq g c r L.head?)) ∧ lnk T L
def nmb (z : Fz) : Nat := (z.2.2 7).toNatClampNeg
def isFe (T : tT) (S : mS) (n : Nat) (z : Fz) (L : List Nat) : Prop := T.1 z.1 = some (cFetch (fup z.2.2 11 (Int32.ofNat L.length)) L.head? L.getLast?) ∧ (∃ p v, p < 32 ∧ v < 4 ∧ z.2.1 = 128 * n + (4 * p + v) ∧ z.2.2 0 = Int32.ofNat p ∧ z.2.2 1 = Int32.ofNat v) ∧ (∃ la fo, la < 4 ∧ fo < 2 ∧ z.2.2 2 = Int32.ofNat la ∧ z.2.2 3 = Int32.ofNat fo ∧ rd S 616 z.2.1 = Int32.ofNat (la + 4 * fo)) ∧ flag (z.2.2 4) ∧ rd S 610 z.2.1 = z.2.2 4 ∧ few 16 (z.2.2 5) ∧ rd S 613 z.2.1 = z.2.2 5 ∧ few 16 (z.2.2 6) ∧ rd S 614 z.2.1 = z.2.2 6 ∧ rd S 611 z.2.1 = z.2.2 7 ∧ few 1000000000 (z.2.2 7) ∧ rd S 617 z.2.1 = z.2.2 8 ∧ (n ≤ 2 ∨ z.2.2 8 = 1 ∨ z.2.2 8 = 2) ∧ rd S 615 z.2.1 = z.2.2 9 ∧ rd S 612 z.2.1 = z.2.2 10 ∧ rd S 609 z.2.1 = 1
def RF (T : tT) (S : mS) (Z : Nat → List Fz) (C : Nat → List Nat) : Prop :=
  (∀ n, 1 ≤ n → n < 7 → (∃ c, T.1 (531 + 8 * n) = some (.inr (.inr (c, (Z n).map Prod.fst)))) ∧ (∀ z ∈ Z n, isFe T S n z (C z.2.1)) ∧ (Z n).Pairwise (fun a b => nmb a < nmb b) ∧ ∀ f, 128 * n ≤ f → f < 128 * n + 128 → ¬ rd S 609 f = 0 → ∃ z ∈ Z n, z.2.1 = f) ∧
  ∀ n m z y, 1 ≤ n → n < 7 → 1 ≤ m → m < 7 → z ∈ Z n → y ∈ Z m → z.1 = y.1 → n = m
/-- rows that wait, the one that is looked at, those that were taken -/
def RQ (T : tT) (S : mS) (rs : List Nat) (Q cz Pd : List Rq) (j0 : Nat) : Prop :=
  (S.1 74 = Int32.ofNat Q.length ∧ (Q ++ (cz ++ Pd)).length ≤ 700 ∧ j0 + Pd.length ≤ 700 ∧ cz.length ≤ 1) ∧
  (∀ k z, Q[k]? = some z → isQr T S rs z (fun i => rd S 622 (12 * k + i))) ∧
  (∀ z ∈ cz, isQr T S rs z (fun i => rd S 622 (12 * (Q.length + 1) + i))) ∧
  (∀ k z, Pd[k]? = some z → isQr T S rs z (fun i => rd S 623 (12 * (j0 + k) + i))) ∧
  ((Q ++ (cz ++ Pd)).map Prod.fst).Nodup ∧ ((Q ++ (cz ++ Pd)).filterMap (fun z => z.2.2.1)).Nodup ∧
  (∀ f, lnk T (ch Q f)) ∧ lnk T (Pd.map Prod.fst) ∧ (∀ z ∈ Q, rd S 609 z.2.1 = 1)
/-- a reply -/
def isAns (S : mS) (r : Nat) (g : Nat → Int32) : Prop := g 1 = rd S 627 (9 * r) ∧ g 3 = rd S 627 (9 * r + 1) ∧ g 6 = rd S 627 (9 * r + 2) ∧ g 7 = rd S 627 (9 * r + 4) ∧ g 12 = rd S 627 (9 * r + 5) ∧ g 4 = rd S 627 (9 * r + 7) ∧ g 5 = rd S 627 (9 * r + 8) ∧
  ((g 3 = 0 ∧ (g 1 = 400 ∨ g 1 = 404 ∨ g 1 = 502 ∨ g 1 = 503 ∨ g 1 = 504) ∧ g 4 = 0 ∧ g 5 = 0 ∧ g 6 = 0 ∧ g 7 = 0 ∧ g 10 = 0 ∧ g 9 = 0 ∧ rd S 627 (9 * r + 3) = 0) ∨
   ∃ k d wh z, isCl S r k ∧ flag (k 0) ∧ k 0 = g 2 ∧ okT d ∧ z < 256 ∧ d 1 = Int32.ofNat z ∧ g 3 = d 0 ∧ g 4 = wh ∧ few 8 wh ∧ g 5 = d 8 ∧ g 8 = d 1 ∧ rd S 627 (9 * r + 3) = d 1 ∧ (g 7 = 0 ∨ g 7 = 1 ∨ g 7 = 2) ∧ few 100000 (g 6) ∧ g 1 = v_status S r k d wh z ∧ g 9 = Int32.ofNat (nFrom (v_counts k (8 * d 0 + wh)) k z) ∧ g 10 = v_count S r k d wh z ∧ g 11 = ((31 * rd S 620 (23 * r) + 17 * rd S 620 (23 * r + 1)) + 5 * wh) + 13 * d 0)
/-- the text of a reply -/
def sC (s : String) : List Int32 := s.toList.map (fun c => Int32.ofNat c.toNat)
def dgF : Nat → Nat → List Int32
  | 0, _ => []
  | k + 1, n => if n < 10 then [Int32.ofNat (48 + n)] else dgF k (n / 10) ++ [Int32.ofNat (48 + n % 10)]
def dg (x : Int32) : List Int32 := dgF 10 x.toNatClampNeg
def txW (st : Int32) : List Int32 := if st = 200 then sC "OK" else if st = 206 then sC "Partial Content" else if st = 304 then sC "Not Modified" else if st = 400 then sC "Bad Request" else if st = 404 then sC "Not Found" else if st = 416 then sC "Range Not Satisfiable" else if st = 502 then sC "Bad Gateway" else if st = 503 then sC "Service Unavailable" else sC "Gateway Timeout"
def txL (g : Nat → Int32) : List Int32 := sC "etag: \"" ++ dg (8 * g 3 + g 4) ++ sC "\"\n" ++ sC "age: " ++ dg (g 6) ++ sC "\n" ++ sC "cache: " ++ (if g 7 = 1 then sC "hit" else if g 7 = 2 then sC "stale" else sC "miss") ++ sC "\n" ++ (if g 5 = 0 then [] else sC "vary: " ++ (if g 5 &&& 1 = 0 then [] else sC "accept-language") ++ (if g 5 = 3 then sC ", " else []) ++ (if g 5 &&& 2 = 0 then [] else sC "accept-encoding") ++ sC "\n") ++ (if g 1 = 206 then sC "content-range: bytes " ++ dg (g 9) ++ sC "-" ++ dg ((g 9 + g 10) - 1) ++ sC "/" ++ dg (g 8) ++ sC "\n" else []) ++ (if g 1 = 416 then sC "content-range: bytes */" ++ dg (g 8) ++ sC "\n" else []) ++ (if g 1 = 200 ∨ g 1 = 206 then sC "length: " ++ dg (g 10) ++ sC "\n" else [])
def txB (g : Nat → Int32) : List Int32 := (List.range (g 10).toNatClampNeg).map (fun j => (g 11 + 7 * (g 9 + Int32.ofNat j) + ((g 9 + Int32.ofNat j) >>> ((4 : Int32) &&& 31))) &&& 255)
def txt (g : Nat → Int32) : List Int32 := dg (g 1) ++ sC " " ++ txW (g 1) ++ sC "\n" ++ (if g 3 = 0 then [] else txL g) ++ sC "\n" ++ (if g 2 = 0 then txB g else [])
def TX (T : tT) (g : Nat → Int32) (s : Nat) : Prop := s = 31 ∨ ∃ b n f h0 h1, 512 ≤ s ∧ T.1 s = some (.inl (12, [.ref b, .int 0, .int h0, .int h1])) ∧ T.1 b = some (.inr (.inl (3, n, f))) ∧ n = (txt g).length ∧ ∀ i x, (txt g)[i]? = some x → m_toI (f i) &&& 255 = x
def isRep (T : tT) (S : mS) (r a : Nat) : Prop := ∃ g s, T.1 a = some (cReply g s) ∧ flag (rd S 621 r) ∧ g 0 = rd S 627 (9 * r + 6) ∧ (rd S 621 r = 1 → (∀ i, 1 ≤ i → i < 13 → g i = 0) ∧ s = 31) ∧ (rd S 621 r = 0 → isAns S r g ∧ TX T g s)
def RRep (T : tT) (S : mS) (rs : List Nat) : Prop := (∃ c, T.1 524 = some (.inr (.inr (c, rs)))) ∧ rs.length ≤ 300 ∧ S.1 70 = Int32.ofNat rs.length ∧ (rs.Nodup ∧ (∀ r, rs.length ≤ r → rd S 627 (9 * r + 6) = 0) ∧ ∀ r, r < 300 → few 9 (rd S 620 (23 * r + 7))) ∧ ∀ r a, rs[r]? = some a → isRep T S r a
/-- the stores of all nodes -/
def sumY (Y : Nat → List (Nat × Nat)) : Nat := (Y 1).length + (Y 2).length + (Y 3).length + (Y 4).length + (Y 5).length + (Y 6).length
def RSt (T : tT) (S : mS) (X Y : Nat → List (Nat × Nat)) (c : Nat) : Prop := (∀ n, 1 ≤ n → n < 7 → RS T S n (X n) (Y n) ∧ (X n).length + (Y n).length ≤ 126 ∧ ∀ q ∈ X n ++ Y n, 512 ≤ q.1) ∧ (∀ n m q r, 1 ≤ n → n < 7 → 1 ≤ m → m < 7 → q ∈ X n ++ Y n → r ∈ X m ++ Y m → q.1 = r.1 → n = m) ∧ RV S ∧ ∃ U, RTn S U ∧ U + sumY Y ≤ c
/-- things, purges, strikes, the reader -/
def RTh (T : tT) (S : mS) : Prop := (∃ f, T.1 517 = some (.inr (.inl (6, 32, f))) ∧ ∀ p, p < 32 → (rd S 589 (9 * p) = 0 ∧ f p = .null) ∨ ∃ t, f p = .ref t ∧ T.1 t = some (cTold (Int32.ofNat p) (fun i => rd S 589 (9 * p + i))) ∧ okT (fun i => rd S 589 (9 * p + i))) ∧ ∃ f, T.1 518 = some (.inr (.inl (0, 32, f))) ∧ ∀ p, p < 32 → m_toI (f p) = rd S 590 p
def isPu (b w : Int32) : Prop := (b = 0 ∧ few 32 w) ∨ (b = 1 ∧ few 8 w)
def RPk (T : tT) (S : mS) (fb fw : Nat → Value) (o n : Nat) : Prop := ∃ fk K, T.1 (532 + 8 * n) = some (.inr (.inl (4, 61, fk))) ∧ rd S 597 n = Int32.ofNat K ∧ K ≤ 60 ∧ (∀ i, i < K → ∃ j, 1 ≤ j ∧ j ≤ o ∧ rd S 598 (64 * n + i) = Int32.ofNat j ∧ rd S 599 (64 * n + i) = m_toI (fb j) ∧ rd S 600 (64 * n + i) = m_toI (fw j) ∧ m_toI (fk j) = 1 ∧ Int32.ofNat j ≤ rd S 593 n) ∧ ∀ j, 1 ≤ j → j ≤ 60 → m_toI (fk j) = 0 ∨ (m_toI (fk j) = 1 ∧ ∃ i, i < K ∧ rd S 598 (64 * n + i) = Int32.ofNat j)
def RPu (T : tT) (S : mS) : Prop := ∃ o fb fw, S.1 37 = Int32.ofNat o ∧ o ≤ 60 ∧ T.1 521 = some (.inr (.inl (0, 61, fb))) ∧ T.1 522 = some (.inr (.inl (0, 61, fw))) ∧ (∀ k, 1 ≤ k → k ≤ o → isPu (m_toI (fb k)) (m_toI (fw k))) ∧ (∀ n, 1 ≤ n → n < 7 → RPk T S fb fw o n) ∧ ∀ k, Int32.ofNat k < S.1 77 → k < 100 → mRow S k 0 = 2 → ∃ j, 1 ≤ j ∧ j ≤ o ∧ mRow S k 3 = Int32.ofNat j ∧ mRow S k 5 = m_toI (fb j) ∧ mRow S k 4 = m_toI (fw j)
def RSk (T : tT) (S : mS) : Prop := ∀ n, 1 ≤ n → n < 7 → ∃ f h, T.1 (533 + 8 * n) = some (.inr (.inl (0, 3, f))) ∧ T.1 (534 + 8 * n) = some (.inr (.inl (0, 3, h))) ∧ flag (rd S 618 (2 * n)) ∧ flag (rd S 618 (2 * n + 1)) ∧ m_toI (f 1) = rd S 618 (2 * n) ∧ m_toI (f 2) = rd S 618 (2 * n + 1) ∧ m_toI (h 1) = rd S 619 (2 * n) ∧ m_toI (h 2) = rd S 619 (2 * n + 1) ∧ (n ≤ 2 → rd S 618 (2 * n) = 0 ∧ rd S 618 (2 * n + 1) = 0 ∧ rd S 619 (2 * n) = 0 ∧ rd S 619 (2 * n + 1) = 0)
def RRd (T : tT) (S : mS) : Prop := ∃ f1 f2 f3 L x2 x5 x6 x7 x8 x9 x10 x11 y13 y14 y15, T.1 513 = some (.inl (1, [.ref 514, .int (Int32.ofNat L), .int x2, .int (S.1 3), .ref 515, .int x5, .int x6, .int x7, .int x8, .int x9, .int x10, .int x11, .ref 516, rv y13, rv y14, rv y15])) ∧ L ≤ 300 ∧ S.1 2 = Int32.ofNat L ∧ T.1 514 = some (.inr (.inl (2, 300, f1))) ∧ T.1 515 = some (.inr (.inl (0, 300, f2))) ∧ T.1 516 = some (.inr (.inl (0, 4, f3))) ∧ ∀ i, i < L → m_toI (f1 i) = rd S 584 i ∧ ∃ k, k < 127 ∧ rd S 584 i = Int32.ofNat k
def RX (T : tT) (S : mS) : Prop := RTh T S ∧ RPu T S ∧ RSk T S ∧ RRd T S ∧ few 256 (rd S 626 1)
/-- what may be seen of the reference's state -/
def vM (S : mS) : List (Nat → Int32) := (List.range (S.1 77).toNatClampNeg).map (fun k i => if i < 22 then rd S 624 (22 * k + i) else 0)
def vE (S : mS) : Nat → Option (Nat → Int32) := fun e => if e < 7168 ∧ ¬ rd S 601 e = 0 then some (fun i => if i < 9 then rd S 603 (9 * e + i) else if i = 9 then rd S 604 e else if i = 10 then rd S 607 e else if i = 11 then rd S 605 e else if i = 12 then rd S 606 e else 0) else none
def vS (S : mS) : Nat → Nat → Int32 := fun j k => if j = 0 then rd S 593 k else if j = 1 then rd S 596 k else if j = 2 then S.1 37 else if j = 3 then S.1 70 else if j = 4 then rd S 589 k else if j = 5 then rd S 590 k else if j = 6 then rd S 597 k else S.1 36
/-- the unary side: messages, rows, rows taken, fetches, entries, numbers, cells, slots -/
abbrev Iv : Type := List (Nat → Int32) → List Rq → List Rq → (Nat → List Fz) → (Nat → Option (Nat → Int32)) → (Nat → Nat → Int32) → Nat → Nat → Prop
/-- the whole relation -/
def RB (T : tT) (S : mS) (X Y : Nat → List (Nat × Nat)) (Z : Nat → List Fz) (Q cz Pd : List Rq) (j0 : Nat) (rs : List Nat) (c : Nat) : Prop :=
  okL T ∧ RHouse T S ∧ RPost T S ∧ RPts T ∧ RNodes T S ∧ RSt T S X Y c ∧ RF T S Z (ch Q) ∧ RQ T S rs Q cz Pd j0 ∧ RRep T S rs ∧ RX T S
/-- the row that is looked at, marked -/
def lk1 (z : Rq) : Rq := (z.1, z.2.1 + 1024, z.2.2.1, z.2.2.2.1, z.2.2.2.2)
def RA (I : Iv) (T : tT) (S : mS) (X Y : Nat → List (Nat × Nat)) (Z : Nat → List Fz) (Q cz Pd : List Rq) (j0 : Nat) (rs : List Nat) (c k1 k2 : Nat) : Prop :=
  RB T S X Y Z Q cz Pd j0 rs c ∧ (T.2.1 ≤ k1 + capS T ∧ T.2.2 ≤ k2 + 4 * capS T) ∧ I (vM S) Q (cz.map lk1 ++ Pd) Z (vE S) (vS S) k1 k2
