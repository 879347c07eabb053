section Q09B
/-- what the object has been told: the tape (bytes, how many, the fault's place), the round, images, choir, laws, book, refusals -/
abbrev RT : Type := (Nat → Int32) × (Nat → Int32) × (Nat → Int32) × Nat × Nat × Nat × Int32 × Int32 × Int32
abbrev CS : Type := ((Nat → Int32) × Nat × Int32) × RT × ((Nat → RT) × Nat) × ((Nat → Int32) × Nat) × (CD × CD) × BD × (Int32 × Int32 × Int32)
def E0 (ic ns un tb : Int32) : qE := .inl (11, [.ref 1, .ref 3, .ref 7, .ref 20, .ref 22, .ref 26, .ref 30, .ref 33, .ref 43, .ref 48, .ref 50, .ref 54, .ref 62, .int ic, .int ns, .int un, .int tb])
def Ro (d : Nat) (n k u : Int32) (st ve cl : Int32) : qE := .inl (6, [.ref d, .ref (d + 1), .ref (d + 2), .int n, .int k, .int u, .int st, .int ve, .int cl])
def aI' (n : Nat) (f : Nat → Int32) : qE := .inr (.inl (.int, n, f))
def imA : qE := .inr (.inr (.inr (RX6, 3, fun i => if i = 2 then some 16 else if i = 1 then some 12 else if i = 0 then some 8 else none)))
/-- what each of the object's cells holds -/
def cel (S : CS) (j : Nat) (e : qE) : Prop := match j with
  | 0 => e = E0 (nI S.2.2.1.2) S.2.2.2.2.2.2.1 S.2.2.2.2.2.2.2.1 S.2.2.2.2.2.2.2.2
  | 1 => ∃ en po fr ki : Int32, e = .inl (8, [.ref 2, .int (nI S.1.2.1), .int en, .int po, .int fr, .int ki, .int S.1.2.2])
  | 2 => e = .inr (.inl (.byte, 600, S.1.1))
  | 3 => e = Ro 4 (nI S.2.1.2.2.2.1) (nI S.2.1.2.2.2.2.1) (nI S.2.1.2.2.2.2.2.1) S.2.1.2.2.2.2.2.2.1 S.2.1.2.2.2.2.2.2.2.1 S.2.1.2.2.2.2.2.2.2.2
  | 4 => e = aI' 100 S.2.1.1
  | 5 => e = aI' 30 S.2.1.2.1
  | 6 => e = aI' 100 S.2.1.2.2.1
  | 7 => e = imA
  | 8 => e = Ro 9 (nI (S.2.2.1.1 0).2.2.2.1) (nI (S.2.2.1.1 0).2.2.2.2.1) (nI (S.2.2.1.1 0).2.2.2.2.2.1) (S.2.2.1.1 0).2.2.2.2.2.2.1 (S.2.2.1.1 0).2.2.2.2.2.2.2.1 (S.2.2.1.1 0).2.2.2.2.2.2.2.2
  | 9 => e = aI' 100 (S.2.2.1.1 0).1
  | 10 => e = aI' 30 (S.2.2.1.1 0).2.1
  | 11 => e = aI' 100 (S.2.2.1.1 0).2.2.1
  | 12 => e = Ro 13 (nI (S.2.2.1.1 1).2.2.2.1) (nI (S.2.2.1.1 1).2.2.2.2.1) (nI (S.2.2.1.1 1).2.2.2.2.2.1) (S.2.2.1.1 1).2.2.2.2.2.2.1 (S.2.2.1.1 1).2.2.2.2.2.2.2.1 (S.2.2.1.1 1).2.2.2.2.2.2.2.2
  | 13 => e = aI' 100 (S.2.2.1.1 1).1
  | 14 => e = aI' 30 (S.2.2.1.1 1).2.1
  | 15 => e = aI' 100 (S.2.2.1.1 1).2.2.1
  | 16 => e = Ro 17 (nI (S.2.2.1.1 2).2.2.2.1) (nI (S.2.2.1.1 2).2.2.2.2.1) (nI (S.2.2.1.1 2).2.2.2.2.2.1) (S.2.2.1.1 2).2.2.2.2.2.2.1 (S.2.2.1.1 2).2.2.2.2.2.2.2.1 (S.2.2.1.1 2).2.2.2.2.2.2.2.2
  | 17 => e = aI' 100 (S.2.2.1.1 2).1
  | 18 => e = aI' 30 (S.2.2.1.1 2).2.1
  | 19 => e = aI' 100 (S.2.2.1.1 2).2.2.1
  | 20 => e = .inl (1, [.ref 21, .int (nI S.2.2.2.1.2)])
  | 21 => e = aI' 32 S.2.2.2.1.1
  | 22 => e = .inl (3, [.ref 23, .ref 24, .ref 25, .int (nI S.2.2.2.2.1.1.2.2)])
  | 23 => e = aI' 150 S.2.2.2.2.1.1.1
  | 24 => e = aI' 150 S.2.2.2.2.1.1.2.1
  | 25 => ∃ f, e = aI' 152 f
  | 26 => e = .inl (3, [.ref 27, .ref 28, .ref 29, .int (nI S.2.2.2.2.1.2.2.2)])
  | 27 => e = aI' 150 S.2.2.2.2.1.2.1
  | 28 => e = aI' 150 S.2.2.2.2.1.2.2.1
  | 29 => ∃ f, e = aI' 152 f
  | 30 => ∃ se fi ia ino : Int32, e = Bo 31 32 (nI S.2.2.2.2.2.1.2.2) se fi ia ino
  | 31 => e = aI' 8 S.2.2.2.2.2.1.1
  | 32 => e = aI' 8 S.2.2.2.2.2.1.2.1
  | 33 => e = E33
  | 34 => ∃ n k u st ve cl : Int32, e = Ro 35 n k u st ve cl
  | 35 => ∃ f, e = aI' 100 f
  | 36 => ∃ f, e = aI' 30 f
  | 37 => ∃ f, e = aI' 100 f
  | 38 => ∃ m : Int32, e = .inl (1, [.ref 39, .int m])
  | 39 => ∃ f, e = aI' 32 f
  | 40 => ∃ n se fi ia ino : Int32, e = Bo 41 42 n se fi ia ino
  | 41 => ∃ f, e = aI' 8 f
  | 42 => ∃ f, e = aI' 8 f
  | 43 => e = E43
  | 44 => ∃ z : Int32, e = .inl (3, [.ref 45, .ref 46, .ref 47, .int z])
  | 45 => ∃ f, e = aI' 150 f
  | 46 => ∃ f, e = aI' 150 f
  | 47 => ∃ f, e = aI' 152 f
  | 48 => ∃ a b d f : Int64, e = V48 a b d f
  | 49 => ∃ f, e = aI' 10 f
  | 50 => ∃ (a b d f : Int64) (sd : Int32) (sw : Int64) (pa pd : Int32), e = T50 a b d f sd sw pa pd
  | 51 => ∃ f : Nat → Int64, e = .inr (.inr (.inl (10, f)))
  | 52 => ∃ w : Nat → Nat, (∀ j, w j < 10) ∧ e = aI' 10 (fun j => nI (w j))
  | 53 => ∃ f, e = aI' 11 f
  | 54 => ∃ (dc : Int32) (fv : Int64) (fl : Int32), e = E54 dc fv fl
  | 55 => ∃ f : Nat → Int64, e = .inr (.inr (.inl (90, f)))
  | 56 => ∃ f, e = aI' 90 f
  | 57 => ∃ f, e = aI' 90 f
  | 58 => ∃ f, e = aI' 5 f
  | 59 => ∃ f : Nat → Int64, e = .inr (.inr (.inl (6, f)))
  | 60 => ∃ f, e = aI' 5 f
  | 61 => ∃ f, e = aI' 5 f
  | 62 => ∃ f : Nat → Int32, e = E62 f
  | _ => True
def CH (h : qH) (S : CS) : Prop := ∀ j : Nat, j < 63 → ∃ e : qE, h.2 j = some e ∧ cel S j e
/-- cells from 63 on stay, and none goes -/
def gro (h h' : qH) : Prop := h.1 ≤ h'.1 ∧ ∀ j : Nat, 63 ≤ j → h'.2 j = h.2 j
theorem gro.rf {h : qH} : gro h h := ⟨Nat.le_refl _, fun _ _ => rfl⟩
theorem gro.tr {h h' h'' : qH} (a : gro h h') (b : gro h' h'') : gro h h'' := ⟨Nat.le_trans a.1 b.1, fun j hj => (b.2 j hj).trans (a.2 j hj)⟩
theorem gro.of {h h' : qH} {Z : List Nat} (hs : same h h' Z) (hz : Z.all (fun j => decide (j < 63)) = true) : gro h h' := ⟨Nat.le_of_eq hs.1.symm, fun j hj => hs.2 j (fun q => by
  have := of_decide_eq_true (List.all_eq_true.mp hz j q)
  omega)⟩
/-- the same was told, other cells for the sums -/
theorem CH.up {h h' : qH} {S : CS} {Z : List Nat} (hC : CH h S) (hs : same h h' Z) (hz : ∀ j ∈ Z, ∃ e : qE, h'.2 j = some e ∧ cel S j e) : CH h' S := by
  intro j hj
  by_cases c : j ∈ Z
  · exact hz j c
  · obtain ⟨e, h1, h2⟩ := hC j hj
    exact ⟨e, (hs.2 j c).trans h1, h2⟩
theorem fz_nil {p : Nat → Prop} : ∀ j ∈ ([] : List Nat), p j := fun _ h => absurd h List.not_mem_nil
theorem fz_cons {p : Nat → Prop} {a : Nat} {l : List Nat} (h : p a) (t : ∀ j ∈ l, p j) : ∀ j ∈ a :: l, p j := List.forall_mem_cons.mpr ⟨h, t⟩
theorem CH.obj {h : qH} {S : CS} (hC : CH h S) : h.2 0 = some (E0 (nI S.2.2.1.2) S.2.2.2.2.2.2.1 S.2.2.2.2.2.2.2.1 S.2.2.2.2.2.2.2.2) := by
  obtain ⟨e0, h0, rfl⟩ := hC 0 (by decide)
  exact h0
theorem CH.tape {h : qH} {S : CS} (hC : CH h S) : ∃ en po fr ki : Int32, isT h 1 2 S.1.1 (nI S.1.2.1) en po fr ki S.1.2.2 := by
  obtain ⟨e1, h1, en, po, fr, ki, rfl⟩ := hC 1 (by decide)
  obtain ⟨e2, h2, rfl⟩ := hC 2 (by decide)
  exact ⟨en, po, fr, ki, h1, h2⟩
theorem CH.rnd {h : qH} {S : CS} (hC : CH h S) : isR h 3 4 5 6 S.2.1.1 S.2.1.2.1 S.2.1.2.2.1 (nI S.2.1.2.2.2.1) (nI S.2.1.2.2.2.2.1) (nI S.2.1.2.2.2.2.2.1) S.2.1.2.2.2.2.2.2.1 S.2.1.2.2.2.2.2.2.2.1 S.2.1.2.2.2.2.2.2.2.2 := by
  obtain ⟨e3, h3, rfl⟩ := hC 3 (by decide)
  obtain ⟨e4, h4, rfl⟩ := hC 4 (by decide)
  obtain ⟨e5, h5, rfl⟩ := hC 5 (by decide)
  obtain ⟨e6, h6, rfl⟩ := hC 6 (by decide)
  exact ⟨h3, h4, h5, h6⟩
theorem CH.im0 {h : qH} {S : CS} (hC : CH h S) : isR h 8 9 10 11 (S.2.2.1.1 0).1 (S.2.2.1.1 0).2.1 (S.2.2.1.1 0).2.2.1 (nI (S.2.2.1.1 0).2.2.2.1) (nI (S.2.2.1.1 0).2.2.2.2.1) (nI (S.2.2.1.1 0).2.2.2.2.2.1) (S.2.2.1.1 0).2.2.2.2.2.2.1 (S.2.2.1.1 0).2.2.2.2.2.2.2.1 (S.2.2.1.1 0).2.2.2.2.2.2.2.2 := by
  obtain ⟨e8, h8, rfl⟩ := hC 8 (by decide)
  obtain ⟨e9, h9, rfl⟩ := hC 9 (by decide)
  obtain ⟨e10, h10, rfl⟩ := hC 10 (by decide)
  obtain ⟨e11, h11, rfl⟩ := hC 11 (by decide)
  exact ⟨h8, h9, h10, h11⟩
theorem CH.im1 {h : qH} {S : CS} (hC : CH h S) : isR h 12 13 14 15 (S.2.2.1.1 1).1 (S.2.2.1.1 1).2.1 (S.2.2.1.1 1).2.2.1 (nI (S.2.2.1.1 1).2.2.2.1) (nI (S.2.2.1.1 1).2.2.2.2.1) (nI (S.2.2.1.1 1).2.2.2.2.2.1) (S.2.2.1.1 1).2.2.2.2.2.2.1 (S.2.2.1.1 1).2.2.2.2.2.2.2.1 (S.2.2.1.1 1).2.2.2.2.2.2.2.2 := by
  obtain ⟨e12, h12, rfl⟩ := hC 12 (by decide)
  obtain ⟨e13, h13, rfl⟩ := hC 13 (by decide)
  obtain ⟨e14, h14, rfl⟩ := hC 14 (by decide)
  obtain ⟨e15, h15, rfl⟩ := hC 15 (by decide)
  exact ⟨h12, h13, h14, h15⟩
theorem CH.im2 {h : qH} {S : CS} (hC : CH h S) : isR h 16 17 18 19 (S.2.2.1.1 2).1 (S.2.2.1.1 2).2.1 (S.2.2.1.1 2).2.2.1 (nI (S.2.2.1.1 2).2.2.2.1) (nI (S.2.2.1.1 2).2.2.2.2.1) (nI (S.2.2.1.1 2).2.2.2.2.2.1) (S.2.2.1.1 2).2.2.2.2.2.2.1 (S.2.2.1.1 2).2.2.2.2.2.2.2.1 (S.2.2.1.1 2).2.2.2.2.2.2.2.2 := by
  obtain ⟨e16, h16, rfl⟩ := hC 16 (by decide)
  obtain ⟨e17, h17, rfl⟩ := hC 17 (by decide)
  obtain ⟨e18, h18, rfl⟩ := hC 18 (by decide)
  obtain ⟨e19, h19, rfl⟩ := hC 19 (by decide)
  exact ⟨h16, h17, h18, h19⟩
theorem CH.ima {h : qH} {S : CS} (hC : CH h S) : h.2 7 = some imA := by
  obtain ⟨e7, h7, rfl⟩ := hC 7 (by decide)
  exact h7
theorem CH.choir {h : qH} {S : CS} (hC : CH h S) : isC h 20 21 S.2.2.2.1.1 (nI S.2.2.2.1.2) := by
  obtain ⟨e20, h20, rfl⟩ := hC 20 (by decide)
  obtain ⟨e21, h21, rfl⟩ := hC 21 (by decide)
  exact ⟨h20, h21⟩
theorem CH.give {h : qH} {S : CS} (hC : CH h S) : ∃ f, isL h 22 23 24 25 S.2.2.2.2.1.1.1 S.2.2.2.2.1.1.2.1 f (nI S.2.2.2.2.1.1.2.2) := by
  obtain ⟨e22, h22, rfl⟩ := hC 22 (by decide)
  obtain ⟨e23, h23, rfl⟩ := hC 23 (by decide)
  obtain ⟨e24, h24, rfl⟩ := hC 24 (by decide)
  obtain ⟨e25, h25, f, rfl⟩ := hC 25 (by decide)
  exact ⟨f, h22, h23, h24, h25⟩
theorem CH.on {h : qH} {S : CS} (hC : CH h S) : ∃ f, isL h 26 27 28 29 S.2.2.2.2.1.2.1 S.2.2.2.2.1.2.2.1 f (nI S.2.2.2.2.1.2.2.2) := by
  obtain ⟨e26, h26, rfl⟩ := hC 26 (by decide)
  obtain ⟨e27, h27, rfl⟩ := hC 27 (by decide)
  obtain ⟨e28, h28, rfl⟩ := hC 28 (by decide)
  obtain ⟨e29, h29, f, rfl⟩ := hC 29 (by decide)
  exact ⟨f, h26, h27, h28, h29⟩
theorem CH.book {h : qH} {S : CS} (hC : CH h S) : ∃ se fi ia ino : Int32, isB h 30 31 32 S.2.2.2.2.2.1.1 S.2.2.2.2.2.1.2.1 (nI S.2.2.2.2.2.1.2.2) se fi ia ino := by
  obtain ⟨e30, h30, se, fi, ia, ino, rfl⟩ := hC 30 (by decide)
  obtain ⟨e31, h31, rfl⟩ := hC 31 (by decide)
  obtain ⟨e32, h32, rfl⟩ := hC 32 (by decide)
  exact ⟨se, fi, ia, ino, h30, h31, h32⟩
theorem CH.reader {h : qH} {S : CS} (hC : CH h S) : h.2 33 = some E33 := by
  obtain ⟨e33, h33, rfl⟩ := hC 33 (by decide)
  exact h33
theorem CH.lreader {h : qH} {S : CS} (hC : CH h S) : h.2 43 = some E43 := by
  obtain ⟨e43, h43, rfl⟩ := hC 43 (by decide)
  exact h43
theorem CH.sR {h : qH} {S : CS} (hC : CH h S) : ∃ (D P U : Nat → Int32) (n k u st ve cl : Int32), isR h 34 35 36 37 D P U n k u st ve cl := by
  obtain ⟨e34, h34, n, k, u, st, ve, cl, rfl⟩ := hC 34 (by decide)
  obtain ⟨e35, h35, D, rfl⟩ := hC 35 (by decide)
  obtain ⟨e36, h36, P, rfl⟩ := hC 36 (by decide)
  obtain ⟨e37, h37, U, rfl⟩ := hC 37 (by decide)
  exact ⟨D, P, U, n, k, u, st, ve, cl, h34, h35, h36, h37⟩
theorem CH.sC {h : qH} {S : CS} (hC : CH h S) : ∃ (Q : Nat → Int32) (m : Int32), isC h 38 39 Q m := by
  obtain ⟨e38, h38, m, rfl⟩ := hC 38 (by decide)
  obtain ⟨e39, h39, Q, rfl⟩ := hC 39 (by decide)
  exact ⟨Q, m, h38, h39⟩
theorem CH.sB {h : qH} {S : CS} (hC : CH h S) : ∃ (B1 B2 : Nat → Int32) (n se fi ia ino : Int32), isB h 40 41 42 B1 B2 n se fi ia ino := by
  obtain ⟨e40, h40, n, se, fi, ia, ino, rfl⟩ := hC 40 (by decide)
  obtain ⟨e41, h41, B1, rfl⟩ := hC 41 (by decide)
  obtain ⟨e42, h42, B2, rfl⟩ := hC 42 (by decide)
  exact ⟨B1, B2, n, se, fi, ia, ino, h40, h41, h42⟩
theorem CH.sL {h : qH} {S : CS} (hC : CH h S) : ∃ (K V f : Nat → Int32) (z : Int32), isL h 44 45 46 47 K V f z := by
  obtain ⟨e44, h44, z, rfl⟩ := hC 44 (by decide)
  obtain ⟨e45, h45, K, rfl⟩ := hC 45 (by decide)
  obtain ⟨e46, h46, V, rfl⟩ := hC 46 (by decide)
  obtain ⟨e47, h47, f, rfl⟩ := hC 47 (by decide)
  exact ⟨K, V, f, z, h44, h45, h46, h47⟩
theorem CH.visit {h : qH} {S : CS} (hC : CH h S) : ∃ a b d f : Int64, isV h a b d f := by
  obtain ⟨e48, h48, a, b, d, f, rfl⟩ := hC 48 (by decide)
  exact ⟨a, b, d, f, h48⟩
theorem CH.tour {h : qH} {S : CS} (hC : CH h S) : ∃ (a b d f : Int64) (sd : Int32) (sw : Int64) (pa pd : Int32), h.2 50 = some (T50 a b d f sd sw pa pd) := by
  obtain ⟨e50, h50, a, b, d, f, sd, sw, pa, pd, rfl⟩ := hC 50 (by decide)
  exact ⟨a, b, d, f, sd, sw, pa, pd, h50⟩
theorem CH.worths {h : qH} {S : CS} (hC : CH h S) : ∃ f : Nat → Int64, h.2 51 = some (.inr (.inr (.inl (10, f)))) := by
  obtain ⟨e51, h51, f, rfl⟩ := hC 51 (by decide)
  exact ⟨f, h51⟩
theorem CH.row {h : qH} {S : CS} (hC : CH h S) : ∃ w : Nat → Nat, (∀ j, w j < 10) ∧ h.2 52 = some (.inr (.inl (.int, 10, fun j => nI (w j)))) := by
  obtain ⟨e52, h52, w, hw, rfl⟩ := hC 52 (by decide)
  exact ⟨w, hw, h52⟩
theorem CH.ahead {h : qH} {S : CS} (hC : CH h S) : ∃ f : Nat → Int32, h.2 53 = some (.inr (.inl (.int, 11, f))) := by
  obtain ⟨e53, h53, f, rfl⟩ := hC 53 (by decide)
  exact ⟨f, h53⟩
theorem CH.search {h : qH} {S : CS} (hC : CH h S) : ∃ (dc : Int32) (fv : Int64) (fl : Int32), h.2 54 = some (E54 dc fv fl) := by
  obtain ⟨e54, h54, dc, fv, fl, rfl⟩ := hC 54 (by decide)
  exact ⟨dc, fv, fl, h54⟩
theorem CH.lists {h : qH} {S : CS} (hC : CH h S) : ∃ (VL HO : Nat → Int64) (LN CO SZ : Nat → Int32), isS h VL LN CO SZ HO := by
  obtain ⟨e55, h55, VL, rfl⟩ := hC 55 (by decide)
  obtain ⟨e56, h56, LN, rfl⟩ := hC 56 (by decide)
  obtain ⟨e57, h57, CO, rfl⟩ := hC 57 (by decide)
  obtain ⟨e58, h58, SZ, rfl⟩ := hC 58 (by decide)
  obtain ⟨e59, h59, HO, rfl⟩ := hC 59 (by decide)
  exact ⟨VL, HO, LN, CO, SZ, h55, h56, h57, h58, h59⟩
theorem CH.chosen {h : qH} {S : CS} (hC : CH h S) : ∃ f : Nat → Int32, h.2 60 = some (aI 5 f) := by
  obtain ⟨e60, h60, f, rfl⟩ := hC 60 (by decide)
  exact ⟨f, h60⟩
theorem CH.found {h : qH} {S : CS} (hC : CH h S) : ∃ f : Nat → Int32, h.2 61 = some (aI 5 f) := by
  obtain ⟨e61, h61, f, rfl⟩ := hC 61 (by decide)
  exact ⟨f, h61⟩
theorem CH.night {h : qH} {S : CS} (hC : CH h S) : ∃ f : Nat → Int32, h.2 62 = some (E62 f) := by
  obtain ⟨e62, h62, f, rfl⟩ := hC 62 (by decide)
  exact ⟨f, h62⟩
/-- a law that stands is well made -/
def lwf (c : CD) : Prop := c.2.2 ≤ 150 ∧ (c.2.2 ≠ 0 → lok c.1 c.2.1 0 c.2.2 0)
abbrev isWS (h : qH) (S : CS) : Prop := isW h S.2.1.1 S.2.1.2.1 S.2.1.2.2.1 S.2.2.2.1.1 S.2.2.2.2.1.1.1 S.2.2.2.2.1.1.2.1 (nI S.2.1.2.2.2.1) (nI S.2.1.2.2.2.2.1) (nI S.2.1.2.2.2.2.2.1) S.2.1.2.2.2.2.2.2.1 S.2.1.2.2.2.2.2.2.2.1 S.2.1.2.2.2.2.2.2.2.2 (nI S.2.2.2.1.2) S.2.2.2.2.1.1.2.2
theorem CH.W {h : qH} {S : CS} (hC : CH h S) (hl : lwf S.2.2.2.2.1.1) : isWS h S := by
  obtain ⟨e49, h49, f, rfl⟩ := hC 49 (by decide)
  obtain ⟨a, b, d, f2, hV⟩ := hC.visit
  exact ⟨hC.rnd, hC.choir, hC.give, hl, ⟨f, h49⟩, a, b, d, f2, hV⟩
theorem CH.O {h : qH} {S : CS} (hC : CH h S) (hl : lwf S.2.2.2.2.1.2) : isO h S.2.2.2.2.1.2.1 S.2.2.2.2.1.2.2.1 S.2.2.2.2.1.2.2.2 := ⟨hC.on, hl⟩
/-- cells of the visit, out of isW -/
theorem cW {h : qH} {S : CS} (hW : isWS h S) : (∃ e : qE, h.2 25 = some e ∧ cel S 25 e) ∧ (∃ e : qE, h.2 48 = some e ∧ cel S 48 e) ∧ (∃ e : qE, h.2 49 = some e ∧ cel S 49 e) := by
  obtain ⟨-, -, ⟨f, hL⟩, -, ⟨nm, h49⟩, a, b, d, f2, hV⟩ := hW
  exact ⟨⟨_, hL.2.2.2, f, rfl⟩, ⟨_, hV, a, b, d, f2, rfl⟩, ⟨_, h49, nm, rfl⟩⟩
theorem cO {h : qH} {S : CS} (hO : isO h S.2.2.2.2.1.2.1 S.2.2.2.2.1.2.2.1 S.2.2.2.2.1.2.2.2) : ∃ e : qE, h.2 29 = some e ∧ cel S 29 e := by
  obtain ⟨⟨f, hL⟩, -⟩ := hO
  exact ⟨_, hL.2.2.2, f, rfl⟩
set_option maxHeartbeats 1000000 in
theorem CH.setR {h h' : qH} {S : CS} (hC : CH h S) {R : RT}  (hs : same h h' [3, 4, 5, 6]) (hR : isR h' 3 4 5 6 R.1 R.2.1 R.2.2.1 (nI R.2.2.2.1) (nI R.2.2.2.2.1) (nI R.2.2.2.2.2.1) R.2.2.2.2.2.2.1 R.2.2.2.2.2.2.2.1 R.2.2.2.2.2.2.2.2) : CH h' (S.1, R, S.2.2) := by
  intro j hj
  have hk : j ∉ [3, 4, 5, 6] → ∃ e : qE, h'.2 j = some e ∧ cel S j e := fun q => by
    obtain ⟨e, h1, h2⟩ := hC j hj
    exact ⟨e, (hs.2 j q).trans h1, h2⟩
  match j, hj, hk with
  | 0, _, hk => exact hk (by decide)
  | 1, _, hk => exact hk (by decide)
  | 2, _, hk => exact hk (by decide)
  | 3, _, _ => exact ⟨_, hR.1, rfl⟩
  | 4, _, _ => exact ⟨_, hR.2.1, rfl⟩
  | 5, _, _ => exact ⟨_, hR.2.2.1, rfl⟩
  | 6, _, _ => exact ⟨_, hR.2.2.2, rfl⟩
  | 7, _, hk => exact hk (by decide)
  | 8, _, hk => exact hk (by decide)
  | 9, _, hk => exact hk (by decide)
  | 10, _, hk => exact hk (by decide)
  | 11, _, hk => exact hk (by decide)
  | 12, _, hk => exact hk (by decide)
  | 13, _, hk => exact hk (by decide)
  | 14, _, hk => exact hk (by decide)
  | 15, _, hk => exact hk (by decide)
  | 16, _, hk => exact hk (by decide)
  | 17, _, hk => exact hk (by decide)
  | 18, _, hk => exact hk (by decide)
  | 19, _, hk => exact hk (by decide)
  | 20, _, hk => exact hk (by decide)
  | 21, _, hk => exact hk (by decide)
  | 22, _, hk => exact hk (by decide)
  | 23, _, hk => exact hk (by decide)
  | 24, _, hk => exact hk (by decide)
  | 25, _, hk => exact hk (by decide)
  | 26, _, hk => exact hk (by decide)
  | 27, _, hk => exact hk (by decide)
  | 28, _, hk => exact hk (by decide)
  | 29, _, hk => exact hk (by decide)
  | 30, _, hk => exact hk (by decide)
  | 31, _, hk => exact hk (by decide)
  | 32, _, hk => exact hk (by decide)
  | 33, _, hk => exact hk (by decide)
  | 34, _, hk => exact hk (by decide)
  | 35, _, hk => exact hk (by decide)
  | 36, _, hk => exact hk (by decide)
  | 37, _, hk => exact hk (by decide)
  | 38, _, hk => exact hk (by decide)
  | 39, _, hk => exact hk (by decide)
  | 40, _, hk => exact hk (by decide)
  | 41, _, hk => exact hk (by decide)
  | 42, _, hk => exact hk (by decide)
  | 43, _, hk => exact hk (by decide)
  | 44, _, hk => exact hk (by decide)
  | 45, _, hk => exact hk (by decide)
  | 46, _, hk => exact hk (by decide)
  | 47, _, hk => exact hk (by decide)
  | 48, _, hk => exact hk (by decide)
  | 49, _, hk => exact hk (by decide)
  | 50, _, hk => exact hk (by decide)
  | 51, _, hk => exact hk (by decide)
  | 52, _, hk => exact hk (by decide)
  | 53, _, hk => exact hk (by decide)
  | 54, _, hk => exact hk (by decide)
  | 55, _, hk => exact hk (by decide)
  | 56, _, hk => exact hk (by decide)
  | 57, _, hk => exact hk (by decide)
  | 58, _, hk => exact hk (by decide)
  | 59, _, hk => exact hk (by decide)
  | 60, _, hk => exact hk (by decide)
  | 61, _, hk => exact hk (by decide)
  | 62, _, hk => exact hk (by decide)
  | k + 63, hj, _ => exact absurd hj (by omega)
set_option maxHeartbeats 1000000 in
theorem CH.setT {h h' : qH} {S : CS} (hC : CH h S) {F : Nat → Int32} {he : Nat} {pl en po fr ki : Int32}  (hs : same h h' [1, 2]) (hT : isT h' 1 2 F (nI he) en po fr ki pl) : CH h' ((F, he, pl), S.2) := by
  intro j hj
  have hk : j ∉ [1, 2] → ∃ e : qE, h'.2 j = some e ∧ cel S j e := fun q => by
    obtain ⟨e, h1, h2⟩ := hC j hj
    exact ⟨e, (hs.2 j q).trans h1, h2⟩
  match j, hj, hk with
  | 0, _, hk => exact hk (by decide)
  | 1, _, _ => exact ⟨_, hT.1, en, po, fr, ki, rfl⟩
  | 2, _, _ => exact ⟨_, hT.2, rfl⟩
  | 3, _, hk => exact hk (by decide)
  | 4, _, hk => exact hk (by decide)
  | 5, _, hk => exact hk (by decide)
  | 6, _, hk => exact hk (by decide)
  | 7, _, hk => exact hk (by decide)
  | 8, _, hk => exact hk (by decide)
  | 9, _, hk => exact hk (by decide)
  | 10, _, hk => exact hk (by decide)
  | 11, _, hk => exact hk (by decide)
  | 12, _, hk => exact hk (by decide)
  | 13, _, hk => exact hk (by decide)
  | 14, _, hk => exact hk (by decide)
  | 15, _, hk => exact hk (by decide)
  | 16, _, hk => exact hk (by decide)
  | 17, _, hk => exact hk (by decide)
  | 18, _, hk => exact hk (by decide)
  | 19, _, hk => exact hk (by decide)
  | 20, _, hk => exact hk (by decide)
  | 21, _, hk => exact hk (by decide)
  | 22, _, hk => exact hk (by decide)
  | 23, _, hk => exact hk (by decide)
  | 24, _, hk => exact hk (by decide)
  | 25, _, hk => exact hk (by decide)
  | 26, _, hk => exact hk (by decide)
  | 27, _, hk => exact hk (by decide)
  | 28, _, hk => exact hk (by decide)
  | 29, _, hk => exact hk (by decide)
  | 30, _, hk => exact hk (by decide)
  | 31, _, hk => exact hk (by decide)
  | 32, _, hk => exact hk (by decide)
  | 33, _, hk => exact hk (by decide)
  | 34, _, hk => exact hk (by decide)
  | 35, _, hk => exact hk (by decide)
  | 36, _, hk => exact hk (by decide)
  | 37, _, hk => exact hk (by decide)
  | 38, _, hk => exact hk (by decide)
  | 39, _, hk => exact hk (by decide)
  | 40, _, hk => exact hk (by decide)
  | 41, _, hk => exact hk (by decide)
  | 42, _, hk => exact hk (by decide)
  | 43, _, hk => exact hk (by decide)
  | 44, _, hk => exact hk (by decide)
  | 45, _, hk => exact hk (by decide)
  | 46, _, hk => exact hk (by decide)
  | 47, _, hk => exact hk (by decide)
  | 48, _, hk => exact hk (by decide)
  | 49, _, hk => exact hk (by decide)
  | 50, _, hk => exact hk (by decide)
  | 51, _, hk => exact hk (by decide)
  | 52, _, hk => exact hk (by decide)
  | 53, _, hk => exact hk (by decide)
  | 54, _, hk => exact hk (by decide)
  | 55, _, hk => exact hk (by decide)
  | 56, _, hk => exact hk (by decide)
  | 57, _, hk => exact hk (by decide)
  | 58, _, hk => exact hk (by decide)
  | 59, _, hk => exact hk (by decide)
  | 60, _, hk => exact hk (by decide)
  | 61, _, hk => exact hk (by decide)
  | 62, _, hk => exact hk (by decide)
  | k + 63, hj, _ => exact absurd hj (by omega)
set_option maxHeartbeats 1000000 in
theorem CH.setO {h h' : qH} {S : CS} (hC : CH h S) {ic : Nat} {ns un tb : Int32}  (hs : same h h' [0]) (hO : h'.2 0 = some (E0 (nI ic) ns un tb)) : CH h' (S.1, S.2.1, (S.2.2.1.1, ic), S.2.2.2.1, S.2.2.2.2.1, S.2.2.2.2.2.1, (ns, un, tb)) := by
  intro j hj
  have hk : j ∉ [0] → ∃ e : qE, h'.2 j = some e ∧ cel S j e := fun q => by
    obtain ⟨e, h1, h2⟩ := hC j hj
    exact ⟨e, (hs.2 j q).trans h1, h2⟩
  match j, hj, hk with
  | 0, _, _ => exact ⟨_, hO, rfl⟩
  | 1, _, hk => exact hk (by decide)
  | 2, _, hk => exact hk (by decide)
  | 3, _, hk => exact hk (by decide)
  | 4, _, hk => exact hk (by decide)
  | 5, _, hk => exact hk (by decide)
  | 6, _, hk => exact hk (by decide)
  | 7, _, hk => exact hk (by decide)
  | 8, _, hk => exact hk (by decide)
  | 9, _, hk => exact hk (by decide)
  | 10, _, hk => exact hk (by decide)
  | 11, _, hk => exact hk (by decide)
  | 12, _, hk => exact hk (by decide)
  | 13, _, hk => exact hk (by decide)
  | 14, _, hk => exact hk (by decide)
  | 15, _, hk => exact hk (by decide)
  | 16, _, hk => exact hk (by decide)
  | 17, _, hk => exact hk (by decide)
  | 18, _, hk => exact hk (by decide)
  | 19, _, hk => exact hk (by decide)
  | 20, _, hk => exact hk (by decide)
  | 21, _, hk => exact hk (by decide)
  | 22, _, hk => exact hk (by decide)
  | 23, _, hk => exact hk (by decide)
  | 24, _, hk => exact hk (by decide)
  | 25, _, hk => exact hk (by decide)
  | 26, _, hk => exact hk (by decide)
  | 27, _, hk => exact hk (by decide)
  | 28, _, hk => exact hk (by decide)
  | 29, _, hk => exact hk (by decide)
  | 30, _, hk => exact hk (by decide)
  | 31, _, hk => exact hk (by decide)
  | 32, _, hk => exact hk (by decide)
  | 33, _, hk => exact hk (by decide)
  | 34, _, hk => exact hk (by decide)
  | 35, _, hk => exact hk (by decide)
  | 36, _, hk => exact hk (by decide)
  | 37, _, hk => exact hk (by decide)
  | 38, _, hk => exact hk (by decide)
  | 39, _, hk => exact hk (by decide)
  | 40, _, hk => exact hk (by decide)
  | 41, _, hk => exact hk (by decide)
  | 42, _, hk => exact hk (by decide)
  | 43, _, hk => exact hk (by decide)
  | 44, _, hk => exact hk (by decide)
  | 45, _, hk => exact hk (by decide)
  | 46, _, hk => exact hk (by decide)
  | 47, _, hk => exact hk (by decide)
  | 48, _, hk => exact hk (by decide)
  | 49, _, hk => exact hk (by decide)
  | 50, _, hk => exact hk (by decide)
  | 51, _, hk => exact hk (by decide)
  | 52, _, hk => exact hk (by decide)
  | 53, _, hk => exact hk (by decide)
  | 54, _, hk => exact hk (by decide)
  | 55, _, hk => exact hk (by decide)
  | 56, _, hk => exact hk (by decide)
  | 57, _, hk => exact hk (by decide)
  | 58, _, hk => exact hk (by decide)
  | 59, _, hk => exact hk (by decide)
  | 60, _, hk => exact hk (by decide)
  | 61, _, hk => exact hk (by decide)
  | 62, _, hk => exact hk (by decide)
  | k + 63, hj, _ => exact absurd hj (by omega)
set_option maxHeartbeats 1000000 in
theorem CH.setI0 {h h' : qH} {S : CS} (hC : CH h S) {R : RT}  (hs : same h h' [8, 9, 10, 11]) (hR : isR h' 8 9 10 11 R.1 R.2.1 R.2.2.1 (nI R.2.2.2.1) (nI R.2.2.2.2.1) (nI R.2.2.2.2.2.1) R.2.2.2.2.2.2.1 R.2.2.2.2.2.2.2.1 R.2.2.2.2.2.2.2.2) : CH h' (S.1, S.2.1, (fun i => if i = 0 then R else S.2.2.1.1 i, S.2.2.1.2), S.2.2.2) := by
  intro j hj
  have hk : j ∉ [8, 9, 10, 11] → ∃ e : qE, h'.2 j = some e ∧ cel S j e := fun q => by
    obtain ⟨e, h1, h2⟩ := hC j hj
    exact ⟨e, (hs.2 j q).trans h1, h2⟩
  match j, hj, hk with
  | 0, _, hk => exact hk (by decide)
  | 1, _, hk => exact hk (by decide)
  | 2, _, hk => exact hk (by decide)
  | 3, _, hk => exact hk (by decide)
  | 4, _, hk => exact hk (by decide)
  | 5, _, hk => exact hk (by decide)
  | 6, _, hk => exact hk (by decide)
  | 7, _, hk => exact hk (by decide)
  | 8, _, _ => exact ⟨_, hR.1, rfl⟩
  | 9, _, _ => exact ⟨_, hR.2.1, rfl⟩
  | 10, _, _ => exact ⟨_, hR.2.2.1, rfl⟩
  | 11, _, _ => exact ⟨_, hR.2.2.2, rfl⟩
  | 12, _, hk => exact hk (by decide)
  | 13, _, hk => exact hk (by decide)
  | 14, _, hk => exact hk (by decide)
  | 15, _, hk => exact hk (by decide)
  | 16, _, hk => exact hk (by decide)
  | 17, _, hk => exact hk (by decide)
  | 18, _, hk => exact hk (by decide)
  | 19, _, hk => exact hk (by decide)
  | 20, _, hk => exact hk (by decide)
  | 21, _, hk => exact hk (by decide)
  | 22, _, hk => exact hk (by decide)
  | 23, _, hk => exact hk (by decide)
  | 24, _, hk => exact hk (by decide)
  | 25, _, hk => exact hk (by decide)
  | 26, _, hk => exact hk (by decide)
  | 27, _, hk => exact hk (by decide)
  | 28, _, hk => exact hk (by decide)
  | 29, _, hk => exact hk (by decide)
  | 30, _, hk => exact hk (by decide)
  | 31, _, hk => exact hk (by decide)
  | 32, _, hk => exact hk (by decide)
  | 33, _, hk => exact hk (by decide)
  | 34, _, hk => exact hk (by decide)
  | 35, _, hk => exact hk (by decide)
  | 36, _, hk => exact hk (by decide)
  | 37, _, hk => exact hk (by decide)
  | 38, _, hk => exact hk (by decide)
  | 39, _, hk => exact hk (by decide)
  | 40, _, hk => exact hk (by decide)
  | 41, _, hk => exact hk (by decide)
  | 42, _, hk => exact hk (by decide)
  | 43, _, hk => exact hk (by decide)
  | 44, _, hk => exact hk (by decide)
  | 45, _, hk => exact hk (by decide)
  | 46, _, hk => exact hk (by decide)
  | 47, _, hk => exact hk (by decide)
  | 48, _, hk => exact hk (by decide)
  | 49, _, hk => exact hk (by decide)
  | 50, _, hk => exact hk (by decide)
  | 51, _, hk => exact hk (by decide)
  | 52, _, hk => exact hk (by decide)
  | 53, _, hk => exact hk (by decide)
  | 54, _, hk => exact hk (by decide)
  | 55, _, hk => exact hk (by decide)
  | 56, _, hk => exact hk (by decide)
  | 57, _, hk => exact hk (by decide)
  | 58, _, hk => exact hk (by decide)
  | 59, _, hk => exact hk (by decide)
  | 60, _, hk => exact hk (by decide)
  | 61, _, hk => exact hk (by decide)
  | 62, _, hk => exact hk (by decide)
  | k + 63, hj, _ => exact absurd hj (by omega)
set_option maxHeartbeats 1000000 in
theorem CH.setI1 {h h' : qH} {S : CS} (hC : CH h S) {R : RT}  (hs : same h h' [12, 13, 14, 15]) (hR : isR h' 12 13 14 15 R.1 R.2.1 R.2.2.1 (nI R.2.2.2.1) (nI R.2.2.2.2.1) (nI R.2.2.2.2.2.1) R.2.2.2.2.2.2.1 R.2.2.2.2.2.2.2.1 R.2.2.2.2.2.2.2.2) : CH h' (S.1, S.2.1, (fun i => if i = 1 then R else S.2.2.1.1 i, S.2.2.1.2), S.2.2.2) := by
  intro j hj
  have hk : j ∉ [12, 13, 14, 15] → ∃ e : qE, h'.2 j = some e ∧ cel S j e := fun q => by
    obtain ⟨e, h1, h2⟩ := hC j hj
    exact ⟨e, (hs.2 j q).trans h1, h2⟩
  match j, hj, hk with
  | 0, _, hk => exact hk (by decide)
  | 1, _, hk => exact hk (by decide)
  | 2, _, hk => exact hk (by decide)
  | 3, _, hk => exact hk (by decide)
  | 4, _, hk => exact hk (by decide)
  | 5, _, hk => exact hk (by decide)
  | 6, _, hk => exact hk (by decide)
  | 7, _, hk => exact hk (by decide)
  | 8, _, hk => exact hk (by decide)
  | 9, _, hk => exact hk (by decide)
  | 10, _, hk => exact hk (by decide)
  | 11, _, hk => exact hk (by decide)
  | 12, _, _ => exact ⟨_, hR.1, rfl⟩
  | 13, _, _ => exact ⟨_, hR.2.1, rfl⟩
  | 14, _, _ => exact ⟨_, hR.2.2.1, rfl⟩
  | 15, _, _ => exact ⟨_, hR.2.2.2, rfl⟩
  | 16, _, hk => exact hk (by decide)
  | 17, _, hk => exact hk (by decide)
  | 18, _, hk => exact hk (by decide)
  | 19, _, hk => exact hk (by decide)
  | 20, _, hk => exact hk (by decide)
  | 21, _, hk => exact hk (by decide)
  | 22, _, hk => exact hk (by decide)
  | 23, _, hk => exact hk (by decide)
  | 24, _, hk => exact hk (by decide)
  | 25, _, hk => exact hk (by decide)
  | 26, _, hk => exact hk (by decide)
  | 27, _, hk => exact hk (by decide)
  | 28, _, hk => exact hk (by decide)
  | 29, _, hk => exact hk (by decide)
  | 30, _, hk => exact hk (by decide)
  | 31, _, hk => exact hk (by decide)
  | 32, _, hk => exact hk (by decide)
  | 33, _, hk => exact hk (by decide)
  | 34, _, hk => exact hk (by decide)
  | 35, _, hk => exact hk (by decide)
  | 36, _, hk => exact hk (by decide)
  | 37, _, hk => exact hk (by decide)
  | 38, _, hk => exact hk (by decide)
  | 39, _, hk => exact hk (by decide)
  | 40, _, hk => exact hk (by decide)
  | 41, _, hk => exact hk (by decide)
  | 42, _, hk => exact hk (by decide)
  | 43, _, hk => exact hk (by decide)
  | 44, _, hk => exact hk (by decide)
  | 45, _, hk => exact hk (by decide)
  | 46, _, hk => exact hk (by decide)
  | 47, _, hk => exact hk (by decide)
  | 48, _, hk => exact hk (by decide)
  | 49, _, hk => exact hk (by decide)
  | 50, _, hk => exact hk (by decide)
  | 51, _, hk => exact hk (by decide)
  | 52, _, hk => exact hk (by decide)
  | 53, _, hk => exact hk (by decide)
  | 54, _, hk => exact hk (by decide)
  | 55, _, hk => exact hk (by decide)
  | 56, _, hk => exact hk (by decide)
  | 57, _, hk => exact hk (by decide)
  | 58, _, hk => exact hk (by decide)
  | 59, _, hk => exact hk (by decide)
  | 60, _, hk => exact hk (by decide)
  | 61, _, hk => exact hk (by decide)
  | 62, _, hk => exact hk (by decide)
  | k + 63, hj, _ => exact absurd hj (by omega)
set_option maxHeartbeats 1000000 in
theorem CH.setI2 {h h' : qH} {S : CS} (hC : CH h S) {R : RT}  (hs : same h h' [16, 17, 18, 19]) (hR : isR h' 16 17 18 19 R.1 R.2.1 R.2.2.1 (nI R.2.2.2.1) (nI R.2.2.2.2.1) (nI R.2.2.2.2.2.1) R.2.2.2.2.2.2.1 R.2.2.2.2.2.2.2.1 R.2.2.2.2.2.2.2.2) : CH h' (S.1, S.2.1, (fun i => if i = 2 then R else S.2.2.1.1 i, S.2.2.1.2), S.2.2.2) := by
  intro j hj
  have hk : j ∉ [16, 17, 18, 19] → ∃ e : qE, h'.2 j = some e ∧ cel S j e := fun q => by
    obtain ⟨e, h1, h2⟩ := hC j hj
    exact ⟨e, (hs.2 j q).trans h1, h2⟩
  match j, hj, hk with
  | 0, _, hk => exact hk (by decide)
  | 1, _, hk => exact hk (by decide)
  | 2, _, hk => exact hk (by decide)
  | 3, _, hk => exact hk (by decide)
  | 4, _, hk => exact hk (by decide)
  | 5, _, hk => exact hk (by decide)
  | 6, _, hk => exact hk (by decide)
  | 7, _, hk => exact hk (by decide)
  | 8, _, hk => exact hk (by decide)
  | 9, _, hk => exact hk (by decide)
  | 10, _, hk => exact hk (by decide)
  | 11, _, hk => exact hk (by decide)
  | 12, _, hk => exact hk (by decide)
  | 13, _, hk => exact hk (by decide)
  | 14, _, hk => exact hk (by decide)
  | 15, _, hk => exact hk (by decide)
  | 16, _, _ => exact ⟨_, hR.1, rfl⟩
  | 17, _, _ => exact ⟨_, hR.2.1, rfl⟩
  | 18, _, _ => exact ⟨_, hR.2.2.1, rfl⟩
  | 19, _, _ => exact ⟨_, hR.2.2.2, rfl⟩
  | 20, _, hk => exact hk (by decide)
  | 21, _, hk => exact hk (by decide)
  | 22, _, hk => exact hk (by decide)
  | 23, _, hk => exact hk (by decide)
  | 24, _, hk => exact hk (by decide)
  | 25, _, hk => exact hk (by decide)
  | 26, _, hk => exact hk (by decide)
  | 27, _, hk => exact hk (by decide)
  | 28, _, hk => exact hk (by decide)
  | 29, _, hk => exact hk (by decide)
  | 30, _, hk => exact hk (by decide)
  | 31, _, hk => exact hk (by decide)
  | 32, _, hk => exact hk (by decide)
  | 33, _, hk => exact hk (by decide)
  | 34, _, hk => exact hk (by decide)
  | 35, _, hk => exact hk (by decide)
  | 36, _, hk => exact hk (by decide)
  | 37, _, hk => exact hk (by decide)
  | 38, _, hk => exact hk (by decide)
  | 39, _, hk => exact hk (by decide)
  | 40, _, hk => exact hk (by decide)
  | 41, _, hk => exact hk (by decide)
  | 42, _, hk => exact hk (by decide)
  | 43, _, hk => exact hk (by decide)
  | 44, _, hk => exact hk (by decide)
  | 45, _, hk => exact hk (by decide)
  | 46, _, hk => exact hk (by decide)
  | 47, _, hk => exact hk (by decide)
  | 48, _, hk => exact hk (by decide)
  | 49, _, hk => exact hk (by decide)
  | 50, _, hk => exact hk (by decide)
  | 51, _, hk => exact hk (by decide)
  | 52, _, hk => exact hk (by decide)
  | 53, _, hk => exact hk (by decide)
  | 54, _, hk => exact hk (by decide)
  | 55, _, hk => exact hk (by decide)
  | 56, _, hk => exact hk (by decide)
  | 57, _, hk => exact hk (by decide)
  | 58, _, hk => exact hk (by decide)
  | 59, _, hk => exact hk (by decide)
  | 60, _, hk => exact hk (by decide)
  | 61, _, hk => exact hk (by decide)
  | 62, _, hk => exact hk (by decide)
  | k + 63, hj, _ => exact absurd hj (by omega)
set_option maxHeartbeats 1000000 in
theorem CH.setL0 {h h' : qH} {S : CS} (hC : CH h S) {L : CD} {f : Nat → Int32}  (hs : same h h' [22, 23, 24]) (hL : isL h' 22 23 24 25 L.1 L.2.1 f (nI L.2.2)) : CH h' (S.1, S.2.1, S.2.2.1, S.2.2.2.1, (L, S.2.2.2.2.1.2), S.2.2.2.2.2) := by
  intro j hj
  have hk : j ∉ [22, 23, 24] → ∃ e : qE, h'.2 j = some e ∧ cel S j e := fun q => by
    obtain ⟨e, h1, h2⟩ := hC j hj
    exact ⟨e, (hs.2 j q).trans h1, h2⟩
  match j, hj, hk with
  | 0, _, hk => exact hk (by decide)
  | 1, _, hk => exact hk (by decide)
  | 2, _, hk => exact hk (by decide)
  | 3, _, hk => exact hk (by decide)
  | 4, _, hk => exact hk (by decide)
  | 5, _, hk => exact hk (by decide)
  | 6, _, hk => exact hk (by decide)
  | 7, _, hk => exact hk (by decide)
  | 8, _, hk => exact hk (by decide)
  | 9, _, hk => exact hk (by decide)
  | 10, _, hk => exact hk (by decide)
  | 11, _, hk => exact hk (by decide)
  | 12, _, hk => exact hk (by decide)
  | 13, _, hk => exact hk (by decide)
  | 14, _, hk => exact hk (by decide)
  | 15, _, hk => exact hk (by decide)
  | 16, _, hk => exact hk (by decide)
  | 17, _, hk => exact hk (by decide)
  | 18, _, hk => exact hk (by decide)
  | 19, _, hk => exact hk (by decide)
  | 20, _, hk => exact hk (by decide)
  | 21, _, hk => exact hk (by decide)
  | 22, _, _ => exact ⟨_, hL.1, rfl⟩
  | 23, _, _ => exact ⟨_, hL.2.1, rfl⟩
  | 24, _, _ => exact ⟨_, hL.2.2.1, rfl⟩
  | 25, _, hk => exact hk (by decide)
  | 26, _, hk => exact hk (by decide)
  | 27, _, hk => exact hk (by decide)
  | 28, _, hk => exact hk (by decide)
  | 29, _, hk => exact hk (by decide)
  | 30, _, hk => exact hk (by decide)
  | 31, _, hk => exact hk (by decide)
  | 32, _, hk => exact hk (by decide)
  | 33, _, hk => exact hk (by decide)
  | 34, _, hk => exact hk (by decide)
  | 35, _, hk => exact hk (by decide)
  | 36, _, hk => exact hk (by decide)
  | 37, _, hk => exact hk (by decide)
  | 38, _, hk => exact hk (by decide)
  | 39, _, hk => exact hk (by decide)
  | 40, _, hk => exact hk (by decide)
  | 41, _, hk => exact hk (by decide)
  | 42, _, hk => exact hk (by decide)
  | 43, _, hk => exact hk (by decide)
  | 44, _, hk => exact hk (by decide)
  | 45, _, hk => exact hk (by decide)
  | 46, _, hk => exact hk (by decide)
  | 47, _, hk => exact hk (by decide)
  | 48, _, hk => exact hk (by decide)
  | 49, _, hk => exact hk (by decide)
  | 50, _, hk => exact hk (by decide)
  | 51, _, hk => exact hk (by decide)
  | 52, _, hk => exact hk (by decide)
  | 53, _, hk => exact hk (by decide)
  | 54, _, hk => exact hk (by decide)
  | 55, _, hk => exact hk (by decide)
  | 56, _, hk => exact hk (by decide)
  | 57, _, hk => exact hk (by decide)
  | 58, _, hk => exact hk (by decide)
  | 59, _, hk => exact hk (by decide)
  | 60, _, hk => exact hk (by decide)
  | 61, _, hk => exact hk (by decide)
  | 62, _, hk => exact hk (by decide)
  | k + 63, hj, _ => exact absurd hj (by omega)
set_option maxHeartbeats 1000000 in
theorem CH.setL1 {h h' : qH} {S : CS} (hC : CH h S) {L : CD} {f : Nat → Int32}  (hs : same h h' [26, 27, 28]) (hL : isL h' 26 27 28 29 L.1 L.2.1 f (nI L.2.2)) : CH h' (S.1, S.2.1, S.2.2.1, S.2.2.2.1, (S.2.2.2.2.1.1, L), S.2.2.2.2.2) := by
  intro j hj
  have hk : j ∉ [26, 27, 28] → ∃ e : qE, h'.2 j = some e ∧ cel S j e := fun q => by
    obtain ⟨e, h1, h2⟩ := hC j hj
    exact ⟨e, (hs.2 j q).trans h1, h2⟩
  match j, hj, hk with
  | 0, _, hk => exact hk (by decide)
  | 1, _, hk => exact hk (by decide)
  | 2, _, hk => exact hk (by decide)
  | 3, _, hk => exact hk (by decide)
  | 4, _, hk => exact hk (by decide)
  | 5, _, hk => exact hk (by decide)
  | 6, _, hk => exact hk (by decide)
  | 7, _, hk => exact hk (by decide)
  | 8, _, hk => exact hk (by decide)
  | 9, _, hk => exact hk (by decide)
  | 10, _, hk => exact hk (by decide)
  | 11, _, hk => exact hk (by decide)
  | 12, _, hk => exact hk (by decide)
  | 13, _, hk => exact hk (by decide)
  | 14, _, hk => exact hk (by decide)
  | 15, _, hk => exact hk (by decide)
  | 16, _, hk => exact hk (by decide)
  | 17, _, hk => exact hk (by decide)
  | 18, _, hk => exact hk (by decide)
  | 19, _, hk => exact hk (by decide)
  | 20, _, hk => exact hk (by decide)
  | 21, _, hk => exact hk (by decide)
  | 22, _, hk => exact hk (by decide)
  | 23, _, hk => exact hk (by decide)
  | 24, _, hk => exact hk (by decide)
  | 25, _, hk => exact hk (by decide)
  | 26, _, _ => exact ⟨_, hL.1, rfl⟩
  | 27, _, _ => exact ⟨_, hL.2.1, rfl⟩
  | 28, _, _ => exact ⟨_, hL.2.2.1, rfl⟩
  | 29, _, hk => exact hk (by decide)
  | 30, _, hk => exact hk (by decide)
  | 31, _, hk => exact hk (by decide)
  | 32, _, hk => exact hk (by decide)
  | 33, _, hk => exact hk (by decide)
  | 34, _, hk => exact hk (by decide)
  | 35, _, hk => exact hk (by decide)
  | 36, _, hk => exact hk (by decide)
  | 37, _, hk => exact hk (by decide)
  | 38, _, hk => exact hk (by decide)
  | 39, _, hk => exact hk (by decide)
  | 40, _, hk => exact hk (by decide)
  | 41, _, hk => exact hk (by decide)
  | 42, _, hk => exact hk (by decide)
  | 43, _, hk => exact hk (by decide)
  | 44, _, hk => exact hk (by decide)
  | 45, _, hk => exact hk (by decide)
  | 46, _, hk => exact hk (by decide)
  | 47, _, hk => exact hk (by decide)
  | 48, _, hk => exact hk (by decide)
  | 49, _, hk => exact hk (by decide)
  | 50, _, hk => exact hk (by decide)
  | 51, _, hk => exact hk (by decide)
  | 52, _, hk => exact hk (by decide)
  | 53, _, hk => exact hk (by decide)
  | 54, _, hk => exact hk (by decide)
  | 55, _, hk => exact hk (by decide)
  | 56, _, hk => exact hk (by decide)
  | 57, _, hk => exact hk (by decide)
  | 58, _, hk => exact hk (by decide)
  | 59, _, hk => exact hk (by decide)
  | 60, _, hk => exact hk (by decide)
  | 61, _, hk => exact hk (by decide)
  | 62, _, hk => exact hk (by decide)
  | k + 63, hj, _ => exact absurd hj (by omega)
set_option maxHeartbeats 1000000 in
theorem CH.setB {h h' : qH} {S : CS} (hC : CH h S) {B : BD} {se fi ia ino : Int32}  (hs : same h h' [30, 31, 32]) (hB : isB h' 30 31 32 B.1 B.2.1 (nI B.2.2) se fi ia ino) : CH h' (S.1, S.2.1, S.2.2.1, S.2.2.2.1, S.2.2.2.2.1, B, S.2.2.2.2.2.2) := by
  intro j hj
  have hk : j ∉ [30, 31, 32] → ∃ e : qE, h'.2 j = some e ∧ cel S j e := fun q => by
    obtain ⟨e, h1, h2⟩ := hC j hj
    exact ⟨e, (hs.2 j q).trans h1, h2⟩
  match j, hj, hk with
  | 0, _, hk => exact hk (by decide)
  | 1, _, hk => exact hk (by decide)
  | 2, _, hk => exact hk (by decide)
  | 3, _, hk => exact hk (by decide)
  | 4, _, hk => exact hk (by decide)
  | 5, _, hk => exact hk (by decide)
  | 6, _, hk => exact hk (by decide)
  | 7, _, hk => exact hk (by decide)
  | 8, _, hk => exact hk (by decide)
  | 9, _, hk => exact hk (by decide)
  | 10, _, hk => exact hk (by decide)
  | 11, _, hk => exact hk (by decide)
  | 12, _, hk => exact hk (by decide)
  | 13, _, hk => exact hk (by decide)
  | 14, _, hk => exact hk (by decide)
  | 15, _, hk => exact hk (by decide)
  | 16, _, hk => exact hk (by decide)
  | 17, _, hk => exact hk (by decide)
  | 18, _, hk => exact hk (by decide)
  | 19, _, hk => exact hk (by decide)
  | 20, _, hk => exact hk (by decide)
  | 21, _, hk => exact hk (by decide)
  | 22, _, hk => exact hk (by decide)
  | 23, _, hk => exact hk (by decide)
  | 24, _, hk => exact hk (by decide)
  | 25, _, hk => exact hk (by decide)
  | 26, _, hk => exact hk (by decide)
  | 27, _, hk => exact hk (by decide)
  | 28, _, hk => exact hk (by decide)
  | 29, _, hk => exact hk (by decide)
  | 30, _, _ => exact ⟨_, hB.1, se, fi, ia, ino, rfl⟩
  | 31, _, _ => exact ⟨_, hB.2.1, rfl⟩
  | 32, _, _ => exact ⟨_, hB.2.2, rfl⟩
  | 33, _, hk => exact hk (by decide)
  | 34, _, hk => exact hk (by decide)
  | 35, _, hk => exact hk (by decide)
  | 36, _, hk => exact hk (by decide)
  | 37, _, hk => exact hk (by decide)
  | 38, _, hk => exact hk (by decide)
  | 39, _, hk => exact hk (by decide)
  | 40, _, hk => exact hk (by decide)
  | 41, _, hk => exact hk (by decide)
  | 42, _, hk => exact hk (by decide)
  | 43, _, hk => exact hk (by decide)
  | 44, _, hk => exact hk (by decide)
  | 45, _, hk => exact hk (by decide)
  | 46, _, hk => exact hk (by decide)
  | 47, _, hk => exact hk (by decide)
  | 48, _, hk => exact hk (by decide)
  | 49, _, hk => exact hk (by decide)
  | 50, _, hk => exact hk (by decide)
  | 51, _, hk => exact hk (by decide)
  | 52, _, hk => exact hk (by decide)
  | 53, _, hk => exact hk (by decide)
  | 54, _, hk => exact hk (by decide)
  | 55, _, hk => exact hk (by decide)
  | 56, _, hk => exact hk (by decide)
  | 57, _, hk => exact hk (by decide)
  | 58, _, hk => exact hk (by decide)
  | 59, _, hk => exact hk (by decide)
  | 60, _, hk => exact hk (by decide)
  | 61, _, hk => exact hk (by decide)
  | 62, _, hk => exact hk (by decide)
  | k + 63, hj, _ => exact absurd hj (by omega)
set_option maxHeartbeats 1000000 in
theorem CH.setC {h h' : qH} {S : CS} (hC : CH h S) {C : (Nat → Int32) × Nat}  (hs : same h h' [20, 21]) (hQ : isC h' 20 21 C.1 (nI C.2)) : CH h' (S.1, S.2.1, S.2.2.1, C, S.2.2.2.2) := by
  intro j hj
  have hk : j ∉ [20, 21] → ∃ e : qE, h'.2 j = some e ∧ cel S j e := fun q => by
    obtain ⟨e, h1, h2⟩ := hC j hj
    exact ⟨e, (hs.2 j q).trans h1, h2⟩
  match j, hj, hk with
  | 0, _, hk => exact hk (by decide)
  | 1, _, hk => exact hk (by decide)
  | 2, _, hk => exact hk (by decide)
  | 3, _, hk => exact hk (by decide)
  | 4, _, hk => exact hk (by decide)
  | 5, _, hk => exact hk (by decide)
  | 6, _, hk => exact hk (by decide)
  | 7, _, hk => exact hk (by decide)
  | 8, _, hk => exact hk (by decide)
  | 9, _, hk => exact hk (by decide)
  | 10, _, hk => exact hk (by decide)
  | 11, _, hk => exact hk (by decide)
  | 12, _, hk => exact hk (by decide)
  | 13, _, hk => exact hk (by decide)
  | 14, _, hk => exact hk (by decide)
  | 15, _, hk => exact hk (by decide)
  | 16, _, hk => exact hk (by decide)
  | 17, _, hk => exact hk (by decide)
  | 18, _, hk => exact hk (by decide)
  | 19, _, hk => exact hk (by decide)
  | 20, _, _ => exact ⟨_, hQ.1, rfl⟩
  | 21, _, _ => exact ⟨_, hQ.2, rfl⟩
  | 22, _, hk => exact hk (by decide)
  | 23, _, hk => exact hk (by decide)
  | 24, _, hk => exact hk (by decide)
  | 25, _, hk => exact hk (by decide)
  | 26, _, hk => exact hk (by decide)
  | 27, _, hk => exact hk (by decide)
  | 28, _, hk => exact hk (by decide)
  | 29, _, hk => exact hk (by decide)
  | 30, _, hk => exact hk (by decide)
  | 31, _, hk => exact hk (by decide)
  | 32, _, hk => exact hk (by decide)
  | 33, _, hk => exact hk (by decide)
  | 34, _, hk => exact hk (by decide)
  | 35, _, hk => exact hk (by decide)
  | 36, _, hk => exact hk (by decide)
  | 37, _, hk => exact hk (by decide)
  | 38, _, hk => exact hk (by decide)
  | 39, _, hk => exact hk (by decide)
  | 40, _, hk => exact hk (by decide)
  | 41, _, hk => exact hk (by decide)
  | 42, _, hk => exact hk (by decide)
  | 43, _, hk => exact hk (by decide)
  | 44, _, hk => exact hk (by decide)
  | 45, _, hk => exact hk (by decide)
  | 46, _, hk => exact hk (by decide)
  | 47, _, hk => exact hk (by decide)
  | 48, _, hk => exact hk (by decide)
  | 49, _, hk => exact hk (by decide)
  | 50, _, hk => exact hk (by decide)
  | 51, _, hk => exact hk (by decide)
  | 52, _, hk => exact hk (by decide)
  | 53, _, hk => exact hk (by decide)
  | 54, _, hk => exact hk (by decide)
  | 55, _, hk => exact hk (by decide)
  | 56, _, hk => exact hk (by decide)
  | 57, _, hk => exact hk (by decide)
  | 58, _, hk => exact hk (by decide)
  | 59, _, hk => exact hk (by decide)
  | 60, _, hk => exact hk (by decide)
  | 61, _, hk => exact hk (by decide)
  | 62, _, hk => exact hk (by decide)
  | k + 63, hj, _ => exact absurd hj (by omega)
def exN (k : Nat) : String := match k with
  | 0 => "java/util/NoSuchElementException"
  | 1 => "java/lang/IllegalArgumentException"
  | _ => "java/lang/IllegalStateException"
/-- one refusal more -/
def bump (S : CS) (k : Nat) : CS := (S.1, S.2.1, S.2.2.1, S.2.2.2.1, S.2.2.2.2.1, S.2.2.2.2.2.1, match k with
  | 0 => (S.2.2.2.2.2.2.1 + 1, S.2.2.2.2.2.2.2.1, S.2.2.2.2.2.2.2.2)
  | 1 => (S.2.2.2.2.2.2.1, S.2.2.2.2.2.2.2.1 + 1, S.2.2.2.2.2.2.2.2)
  | _ => (S.2.2.2.2.2.2.1, S.2.2.2.2.2.2.2.1, S.2.2.2.2.2.2.2.2 + 1))
/-- it has thrown: which class, on what condition, and all is told as before -/
def TX (h : qH) (S : CS) (Q : Nat → Prop) : String → qH → Prop := fun E h' => ∃ k : Nat, E = exN k ∧ Q k ∧ CH h' (bump S k) ∧ gro h h'
theorem TX.mono {h : qH} {S : CS} {Q Q' : Nat → Prop} (hQ : ∀ k, Q k → Q' k) {E : String} {h' : qH} (t : TX h S Q E h') : TX h S Q' E h' := by
  obtain ⟨k, h1, h2, h3⟩ := t
  exact ⟨k, h1, hQ k h2, h3⟩
theorem CH.grow {h h' : qH} {S : CS} (hC : CH h S) (h2 : h'.2 = h.2) : CH h' S := by
  intro j hj
  rw [h2]
  exact hC j hj
theorem X_need {g : qG} (hg : qOK g) (hT : qTHR g) {h : qH} {S : CS} (hC : CH h S) (b : Bool) : qSpecX g 6 1 6 mX11_need [.ref 0, .int (qb b)] h (fun r h' => b = true ∧ r = none ∧ h' = h) (TX h S (fun k => k = 1 ∧ ¬ b = true)) := by
  refine qSpecX_runT "need" hg hT mX11_need_ok rfl rfl (Nat.le_of_ble_eq_true rfl) ?_
  intro run step stepT
  refine step.1 _ _ _ _ _ _ _ sgX11_need_0_ok ?_
  refine ⟨fun c1 => ?_, fun c1 => ?_⟩
  · have hb : b = true := qb_1.mp c1
    refine step.1 _ _ _ _ _ _ _ sgX11_need_25_ok ?_
    refine ⟨rfl, Nat.le_of_ble_eq_true rfl, Nat.le_of_ble_eq_true rfl, ?_⟩
    exact ⟨hb, rfl, rfl⟩
  · have hb : ¬ b = true := by rw [qb_0.mp c1]; decide
    refine ⟨rfl, ?_⟩
    refine ⟨by decide, _, _, hC.obj, rfl, ?_⟩
    refine ⟨_, hC.obj, Nat.le_of_ble_eq_true rfl, rfl, ?_⟩
    have hs : same h (h.1, qup h.2 0 (E0 (nI S.2.2.1.2) S.2.2.2.2.2.2.1 (S.2.2.2.2.2.2.2.1 + 1) S.2.2.2.2.2.2.2.2)) [0] := same.up (by simp)
    exact stepT (exN 1) 404 406 408 14 _ _ _ _ _ (Or.inr (Or.inl ⟨rfl, rfl, rfl, rfl⟩)) (by decide +kernel) (by decide +kernel) (by decide +kernel) (by decide +kernel) (by decide +kernel) (Nat.le_refl _) (Nat.le_of_ble_eq_true rfl) (Nat.le_refl _) (Nat.le_refl _) (fun h' h1 h2 => ⟨1, rfl, ⟨rfl, hb⟩, (hC.setO hs rfl).grow h2, h1, fun j hj => by rw [h2]; exact hs.2 j (by simp; omega)⟩)
theorem X_needFound {g : qG} (hg : qOK g) (hT : qTHR g) {h : qH} {S : CS} (hC : CH h S) (b : Bool) : qSpecX g 6 1 6 mX11_needFound [.ref 0, .int (qb b)] h (fun r h' => b = true ∧ r = none ∧ h' = h) (TX h S (fun k => k = 0 ∧ ¬ b = true)) := by
  refine qSpecX_runT "needFound" hg hT mX11_needFound_ok rfl rfl (Nat.le_of_ble_eq_true rfl) ?_
  intro run step stepT
  refine step.1 _ _ _ _ _ _ _ sgX11_needFound_0_ok ?_
  refine ⟨fun c1 => ?_, fun c1 => ?_⟩
  · have hb : b = true := qb_1.mp c1
    refine step.1 _ _ _ _ _ _ _ sgX11_needFound_25_ok ?_
    refine ⟨rfl, Nat.le_of_ble_eq_true rfl, Nat.le_of_ble_eq_true rfl, ?_⟩
    exact ⟨hb, rfl, rfl⟩
  · have hb : ¬ b = true := by rw [qb_0.mp c1]; decide
    refine ⟨rfl, ?_⟩
    refine ⟨by decide, _, _, hC.obj, rfl, ?_⟩
    refine ⟨_, hC.obj, Nat.le_of_ble_eq_true rfl, rfl, ?_⟩
    have hs : same h (h.1, qup h.2 0 (E0 (nI S.2.2.1.2) (S.2.2.2.2.2.2.1 + 1) S.2.2.2.2.2.2.2.1 S.2.2.2.2.2.2.2.2)) [0] := same.up (by simp)
    exact stepT (exN 0) 397 399 401 14 _ _ _ _ _ (Or.inl ⟨rfl, rfl, rfl, rfl⟩) (by decide +kernel) (by decide +kernel) (by decide +kernel) (by decide +kernel) (by decide +kernel) (Nat.le_refl _) (Nat.le_of_ble_eq_true rfl) (Nat.le_refl _) (Nat.le_refl _) (fun h' h1 h2 => ⟨0, rfl, ⟨rfl, hb⟩, (hC.setO hs rfl).grow h2, h1, fun j hj => by rw [h2]; exact hs.2 j (by simp; omega)⟩)
theorem X_needFew {g : qG} (hg : qOK g) (hT : qTHR g) {h : qH} {S : CS} (hC : CH h S) (hn : S.2.1.2.2.2.1 ≤ 10) : qSpecX g 6 1 6 mX11_needFewDoors [.ref 0] h (fun r h' => S.2.1.2.2.2.1 ≤ 5 ∧ r = none ∧ h' = h) (TX h S (fun k => k = 2 ∧ ¬ S.2.1.2.2.2.1 ≤ 5)) := by
  refine qSpecX_runT "needFewDoors" hg hT mX11_needFewDoors_ok rfl rfl (Nat.le_of_ble_eq_true rfl) ?_
  intro run step stepT
  refine step.1 _ _ _ _ _ _ _ sgX11_needFewDoors_0_ok ?_
  refine ⟨by decide, _, _, hC.obj, rfl, ?_⟩
  refine ⟨by decide, _, _, hC.rnd.1, rfl, ?_⟩
  refine ⟨fun c8 => ?_, fun c8 => ?_⟩
  · have hb : S.2.1.2.2.2.1 ≤ 5 := (nI_leI (b := 5) (by omega) (by decide)).mp c8
    refine step.1 _ _ _ _ _ _ _ sgX11_needFewDoors_32_ok ?_
    refine ⟨rfl, Nat.le_of_ble_eq_true rfl, Nat.le_of_ble_eq_true rfl, ?_⟩
    exact ⟨hb, rfl, rfl⟩
  · have hb : ¬ S.2.1.2.2.2.1 ≤ 5 := fun z => c8 (nI_le (b := 5) z (by decide))
    refine ⟨rfl, ?_⟩
    refine ⟨by decide, _, _, hC.obj, rfl, ?_⟩
    refine ⟨_, hC.obj, Nat.le_of_ble_eq_true rfl, rfl, ?_⟩
    have hs : same h (h.1, qup h.2 0 (E0 (nI S.2.2.1.2) S.2.2.2.2.2.2.1 S.2.2.2.2.2.2.2.1 (S.2.2.2.2.2.2.2.2 + 1))) [0] := same.up (by simp)
    exact stepT (exN 2) 409 411 413 21 _ _ _ _ _ (Or.inr (Or.inr ⟨rfl, rfl, rfl, rfl⟩)) (by decide +kernel) (by decide +kernel) (by decide +kernel) (by decide +kernel) (by decide +kernel) (Nat.le_refl _) (Nat.le_of_ble_eq_true rfl) (Nat.le_refl _) (Nat.le_refl _) (fun h' h1 h2 => ⟨2, rfl, ⟨rfl, hb⟩, (hC.setO hs rfl).grow h2, h1, fun j hj => by rw [h2]; exact hs.2 j (by simp; omega)⟩)
abbrev wi (a b v : Int32) : Bool := decide (a ≤ v) && decide (v ≤ b)
theorem wi_nat {m : Nat} {v : Int32} (hm : m < 2 ^ 31) (h : wi 0 (nI m) v = true) : ∃ x : Nat, x ≤ m ∧ v = nI x := by
  simp only [Bool.and_eq_true, decide_eq_true_eq] at h
  obtain ⟨x, hx, rfl⟩ := nI_of (Int32.not_lt.mpr h.1)
  exact ⟨x, (nI_leI hx hm).mp h.2, rfl⟩
theorem wi_lt {m : Nat} {v : Int32} (hm : m ≤ 1000) (h : wi 0 (nI m - 1) v = true) : ∃ x : Nat, x < m ∧ v = nI x := by
  simp only [Bool.and_eq_true, decide_eq_true_eq] at h
  obtain ⟨x, hx, rfl⟩ := nI_of (Int32.not_lt.mpr h.1)
  refine ⟨x, ?_, rfl⟩
  cases m with
  | zero => exact absurd (show (nI 0 - 1 : Int32) < nI x from by
      rw [Int32.lt_iff_toInt_lt, nI_toInt hx]
      have : (nI 0 - 1 : Int32).toInt = -1 := by decide
      omega) (Int32.not_lt.mpr h.2)
  | succ m =>
    rw [nI_pred] at h
    have := (nI_leI hx (by omega)).mp h.2
    omega
theorem X_needDoor {g : qG} (hg : qOK g) (hT : qTHR g) {h : qH} {S : CS} (hC : CH h S) (v : Int32) : qSpecX g 7 1 6 mX11_needDoor [.ref 0, .int v] h (fun r h' => wi 0 (nI S.2.1.2.2.2.1 - 1) v = true ∧ r = none ∧ h' = h) (TX h S (fun k => k = 0 ∧ ¬ wi 0 (nI S.2.1.2.2.2.1 - 1) v = true)) := by
  refine qSpecX_runT "needDoor" hg hT mX11_needDoor_ok rfl rfl (Nat.le_of_ble_eq_true rfl) ?_
  intro run step stepT
  refine step.1 _ _ _ _ _ _ _ sgX11_needDoor_0_ok ?_
  refine ⟨by decide, _, _, hC.obj, rfl, ?_⟩
  refine ⟨by decide, _, _, hC.rnd.1, rfl, ?_⟩
  refine Or.inl ⟨rfl, _, 1, 0, 0, _, Or.inl qi_11_147, ⟨rfl, rfl⟩, rfl, rfl, sp_within hg _ _ _, fun y12 h12 hy12 => ?_⟩
  obtain ⟨rfl, hh⟩ := hy12
  rw [hh]
  clear hh
  refine Or.inr ⟨rfl, _, 6, 1, 6, _, _, _, _, qi_11_203, ⟨rfl, rfl⟩, ⟨hC.obj, rfl⟩, rfl, rfl, X_needFound hg hT hC _, fun y15 h15 hy15 => ?_, fun E h9 z => ⟨z.mono (fun k hk => hk), Nat.le_of_ble_eq_true rfl, Nat.le_of_ble_eq_true rfl⟩⟩
  obtain ⟨hb, rfl, hh⟩ := hy15
  rw [hh]
  clear hh
  refine ⟨rfl, Nat.le_of_ble_eq_true rfl, Nat.le_of_ble_eq_true rfl, ?_⟩
  exact ⟨hb, rfl, rfl⟩
theorem X_needLine {g : qG} (hg : qOK g) (hT : qTHR g) {h : qH} {S : CS} (hC : CH h S) (v : Int32) : qSpecX g 7 1 6 mX11_needLine [.ref 0, .int v] h (fun r h' => wi 0 (nI S.2.1.2.2.2.2.1 - 1) v = true ∧ r = none ∧ h' = h) (TX h S (fun k => k = 0 ∧ ¬ wi 0 (nI S.2.1.2.2.2.2.1 - 1) v = true)) := by
  refine qSpecX_runT "needLine" hg hT mX11_needLine_ok rfl rfl (Nat.le_of_ble_eq_true rfl) ?_
  intro run step stepT
  refine step.1 _ _ _ _ _ _ _ sgX11_needLine_0_ok ?_
  refine ⟨by decide, _, _, hC.obj, rfl, ?_⟩
  refine ⟨by decide, _, _, hC.rnd.1, rfl, ?_⟩
  refine Or.inl ⟨rfl, _, 1, 0, 0, _, Or.inl qi_11_147, ⟨rfl, rfl⟩, rfl, rfl, sp_within hg _ _ _, fun y12 h12 hy12 => ?_⟩
  obtain ⟨rfl, hh⟩ := hy12
  rw [hh]
  clear hh
  refine Or.inr ⟨rfl, _, 6, 1, 6, _, _, _, _, qi_11_203, ⟨rfl, rfl⟩, ⟨hC.obj, rfl⟩, rfl, rfl, X_needFound hg hT hC _, fun y15 h15 hy15 => ?_, fun E h9 z => ⟨z.mono (fun k hk => hk), Nat.le_of_ble_eq_true rfl, Nat.le_of_ble_eq_true rfl⟩⟩
  obtain ⟨hb, rfl, hh⟩ := hy15
  rw [hh]
  clear hh
  refine ⟨rfl, Nat.le_of_ble_eq_true rfl, Nat.le_of_ble_eq_true rfl, ?_⟩
  exact ⟨hb, rfl, rfl⟩
theorem X_needText {g : qG} (hg : qOK g) (hT : qTHR g) {h : qH} {S : CS} (hC : CH h S) (hhe : S.1.2.1 ≤ 600) (v most : Int32) : qSpecX g 7 1 6 mX11_needText [.ref 0, .int v, .int most] h (fun r h' => (wi 0 most v && decide (v ≤ nI S.1.2.1)) = true ∧ r = none ∧ h' = h) (TX h S (fun k => k = 1 ∧ ¬ (wi 0 most v && decide (v ≤ nI S.1.2.1)) = true)) := by
  refine qSpecX_runT "needText" hg hT mX11_needText_ok rfl rfl (Nat.le_of_ble_eq_true rfl) ?_
  intro run step stepT
  obtain ⟨en, po, fr, ki, hTp⟩ := hC.tape
  refine step.1 _ _ _ _ _ _ _ sgX11_needText_0_ok ?_
  refine Or.inl ⟨rfl, _, 1, 0, 0, _, Or.inl qi_11_147, ⟨rfl, rfl⟩, rfl, rfl, sp_within hg _ _ _, fun y4 h4 hy4 => ?_⟩
  obtain ⟨rfl, hh⟩ := hy4
  rw [hh]
  clear hh
  refine ⟨fun c7 => ?_, fun c7 => ?_⟩
  · have w7 : wi 0 most v = false := qb_0.mp c7
    refine step.1 _ _ _ _ _ _ _ sgX11_needText_25_ok ?_
    refine step.1 _ _ _ _ _ _ _ sgX11_needText_26_ok ?_
    refine Or.inr ⟨rfl, _, 6, 1, 6, _, _, _, _, qi_11_151, ⟨rfl, rfl⟩, ⟨hC.obj, rfl⟩, rfl, rfl, X_need hg hT hC false, fun y26 h26 hy26 => ?_, fun E h9 z => ⟨z.mono (fun k hk => ⟨hk.1, fun z => by rw [w7] at z; cases z⟩), Nat.le_of_ble_eq_true rfl, Nat.le_of_ble_eq_true rfl⟩⟩
    obtain ⟨hb, rfl, hh⟩ := hy26
    rw [hh]
    clear hh
    refine ⟨rfl, Nat.le_of_ble_eq_true rfl, Nat.le_of_ble_eq_true rfl, ?_⟩
    cases hb
  · have w7 : wi 0 most v = true := qb_1.mp c7
    refine ⟨by decide, _, _, hC.obj, rfl, ?_⟩
    refine ⟨by decide, _, _, hTp.1, rfl, ?_⟩
    refine ⟨fun c18 => ?_, fun c18 => ?_⟩
    · have w18 : decide (v ≤ nI S.1.2.1) = false := decide_eq_false (Int32.not_le.mpr c18)
      refine step.1 _ _ _ _ _ _ _ sgX11_needText_25_ok ?_
      refine step.1 _ _ _ _ _ _ _ sgX11_needText_26_ok ?_
      refine Or.inr ⟨rfl, _, 6, 1, 6, _, _, _, _, qi_11_151, ⟨rfl, rfl⟩, ⟨hC.obj, rfl⟩, rfl, rfl, X_need hg hT hC false, fun y26 h26 hy26 => ?_, fun E h9 z => ⟨z.mono (fun k hk => ⟨hk.1, fun z => by rw [w7, w18] at z; cases z⟩), Nat.le_of_ble_eq_true rfl, Nat.le_of_ble_eq_true rfl⟩⟩
      obtain ⟨hb, rfl, hh⟩ := hy26
      rw [hh]
      clear hh
      refine ⟨rfl, Nat.le_of_ble_eq_true rfl, Nat.le_of_ble_eq_true rfl, ?_⟩
      cases hb
    · have w18 : decide (v ≤ nI S.1.2.1) = true := decide_eq_true (Int32.not_lt.mp c18)
      refine step.1 _ _ _ _ _ _ _ sgX11_needText_26_ok ?_
      refine Or.inr ⟨rfl, _, 6, 1, 6, _, _, _, _, qi_11_151, ⟨rfl, rfl⟩, ⟨hC.obj, rfl⟩, rfl, rfl, X_need hg hT hC true, fun y26 h26 hy26 => ?_, fun E h9 z => ⟨z.mono (fun k hk => absurd rfl hk.2), Nat.le_of_ble_eq_true rfl, Nat.le_of_ble_eq_true rfl⟩⟩
      obtain ⟨hb, rfl, hh⟩ := hy26
      rw [hh]
      clear hh
      refine ⟨rfl, Nat.le_of_ble_eq_true rfl, Nat.le_of_ble_eq_true rfl, ?_⟩
      exact ⟨by rw [w7, w18]; rfl, rfl, rfl⟩
end Q09B
