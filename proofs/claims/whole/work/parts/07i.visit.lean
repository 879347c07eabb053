section Q07I
/-- THE CELLS OF CarolDoors, by number (the constructor's order): 0 itself; 1 Tape, 2 bytes; 3 Round (4 doors, 5 lines, 6 changes); 7 images, 8 12 16 their Rounds (9 10 11, 13 14 15, 17 18 19); 20 Choir, 21; 22 give (23 24 25); 26 on (27 28 29); 30 years (31 32); 33 Reader: 34 (35 36 37), 38 (39), 40 (41 42); 43 LawReader: 44 (45 46 47); 48 Visit, 49 named; 50 Tour: 51 52 53; 54 Search: 55 .. 61; 62 Evening -/
def same (h h' : qH) (l : List Nat) : Prop := h'.1 = h.1 ∧ ∀ j : Nat, j ∉ l → h'.2 j = h.2 j
theorem same.rf {h : qH} {l : List Nat} : same h h l := ⟨rfl, fun _ _ => rfl⟩
theorem same.tr {h h' h'' : qH} {l l' l2 : List Nat} (a : same h h' l) (b : same h' h'' l') (h1 : ∀ j ∈ l, j ∈ l2) (h2 : ∀ j ∈ l', j ∈ l2) : same h h'' l2 := ⟨b.1.trans a.1, fun j hj => (b.2 j (fun q => hj (h2 j q))).trans (a.2 j (fun q => hj (h1 j q)))⟩
theorem same.up {h : qH} {k : Nat} {e : qE} {l : List Nat} (hk : k ∈ l) : same h (h.1, qup h.2 k e) l := ⟨rfl, fun j hj => qup_n (fun q => hj (q ▸ hk))⟩
theorem isR.up {h : qH} {a d l c q : Nat} {e : qE} {D P U : Nat → Int32} {n k u st ve cl : Int32} (hR : isR h a d l c D P U n k u st ve cl) (h1 : a ≠ q) (h2 : d ≠ q) (h3 : l ≠ q) (h4 : c ≠ q) : isR (h.1, qup h.2 q e) a d l c D P U n k u st ve cl := ⟨(qup_n h1).trans hR.1, (qup_n h2).trans hR.2.1, (qup_n h3).trans hR.2.2.1, (qup_n h4).trans hR.2.2.2⟩
theorem isC.up {h : qH} {a f q : Nat} {e : qE} {Q : Nat → Int32} {m : Int32} (hC : isC h a f Q m) (h1 : a ≠ q) (h2 : f ≠ q) : isC (h.1, qup h.2 q e) a f Q m := ⟨(qup_n h1).trans hC.1, (qup_n h2).trans hC.2⟩
theorem isL.up {h : qH} {a ka va sk q : Nat} {e : qE} {K V S : Nat → Int32} {sz : Int32} (hL : isL h a ka va sk K V S sz) (h1 : a ≠ q) (h2 : ka ≠ q) (h3 : va ≠ q) (h4 : sk ≠ q) : isL (h.1, qup h.2 q e) a ka va sk K V S sz := ⟨(qup_n h1).trans hL.1, (qup_n h2).trans hL.2.1, (qup_n h3).trans hL.2.2.1, (qup_n h4).trans hL.2.2.2⟩
theorem isR.sm {h h' : qH} {a d l c : Nat} {D P U : Nat → Int32} {n k u st ve cl : Int32} {z : List Nat} (hR : isR h a d l c D P U n k u st ve cl) (hs : same h h' z) (h1 : a ∉ z) (h2 : d ∉ z) (h3 : l ∉ z) (h4 : c ∉ z) : isR h' a d l c D P U n k u st ve cl := ⟨(hs.2 _ h1).trans hR.1, (hs.2 _ h2).trans hR.2.1, (hs.2 _ h3).trans hR.2.2.1, (hs.2 _ h4).trans hR.2.2.2⟩
theorem isC.sm {h h' : qH} {a f : Nat} {Q : Nat → Int32} {m : Int32} {z : List Nat} (hC : isC h a f Q m) (hs : same h h' z) (h1 : a ∉ z) (h2 : f ∉ z) : isC h' a f Q m := ⟨(hs.2 _ h1).trans hC.1, (hs.2 _ h2).trans hC.2⟩
theorem isL.sm {h h' : qH} {a ka va sk : Nat} {K V S : Nat → Int32} {sz : Int32} {z : List Nat} (hL : isL h a ka va sk K V S sz) (hs : same h h' z) (h1 : a ∉ z) (h2 : ka ∉ z) (h3 : va ∉ z) (h4 : sk ∉ z) : isL h' a ka va sk K V S sz := ⟨(hs.2 _ h1).trans hL.1, (hs.2 _ h2).trans hL.2.1, (hs.2 _ h3).trans hL.2.2.1, (hs.2 _ h4).trans hL.2.2.2⟩
theorem lworth_congr {K V nm nm' : Nat → Int32} (hnm : ∀ j : Nat, j < 10 → nm j = nm' j) : ∀ (m i top : Nat) (S S' : Nat → Int32), lok K V i m top → (∀ j : Nat, j < top → S j = S' j) → lworth K V nm i m top S = lworth K V nm' i m top S' := by
  intro m
  induction m with
  | zero =>
    intro i top S S' hk hS
    have e : top = 1 := hk
    exact hS 0 (by omega)
  | succ m ih =>
    intro i top S S' hk hS
    have step : ∀ (t : Nat) (x : Int32) (j : Nat), (t ≤ top) → j < t + 1 → upd S t x j = upd S' t x j := by
      intro t x j ht hj
      unfold upd
      split
      · rfl
      · exact hS j (by omega)
    rcases hk with ⟨k0, hk⟩ | ⟨k0, ⟨j, hj, hv⟩, hk⟩ | ⟨k0, h3, hk⟩ | ⟨⟨k, hk2, hk7, k0⟩, h3, hk⟩
    · rw [lworth, lworth, if_pos k0, if_pos k0]
      exact ih _ _ _ _ hk (fun j hj => step _ _ j (Nat.le_refl _) hj)
    · have k1 : ¬ K i = 0 := by rw [k0]; decide
      rw [lworth, lworth, if_neg k1, if_neg k1, if_pos k0, if_pos k0, hv, h_tn (by omega), hnm j hj]
      exact ih _ _ _ _ hk (fun j hj => step _ _ j (Nat.le_refl _) hj)
    · have k1 : ¬ K i = 0 := by rw [k0]; decide
      have k2 : ¬ K i = 1 := by rw [k0]; decide
      rw [lworth, lworth, if_neg k1, if_neg k1, if_neg k2, if_neg k2, if_pos k0, if_pos k0, hS (top - 3) (by omega), hS (top - 2) (by omega), hS (top - 1) (by omega)]
      exact ih _ _ _ _ hk (fun j hj => step _ _ j (by omega) (by omega))
    · have k1 : ¬ K i = 0 := fun e => by rw [k0] at e; exact absurd ((nI_eq (b := 0) (by omega) (by decide)).mp e) (by omega)
      have k2 : ¬ K i = 1 := fun e => by rw [k0] at e; exact absurd ((nI_eq (b := 1) (by omega) (by decide)).mp e) (by omega)
      have k3 : ¬ K i = 8 := fun e => by rw [k0] at e; exact absurd ((nI_eq (b := 8) (by omega) (by decide)).mp e) (by omega)
      rw [lworth, lworth, if_neg k1, if_neg k1, if_neg k2, if_neg k2, if_neg k3, if_neg k3, hS (top - 2) (by omega), hS (top - 1) (by omega)]
      exact ih _ _ _ _ hk (fun j hj => step _ _ j (by omega) (by omega))
/-- the values of a law's names -/
def vnm (D : Nat → Int32) (m : Int32) (x : Nat) (v p mi bo to : Int32) : Nat → Int32 := fun j => match j with
  | 0 => v
  | 1 => D (x * 10 + 1)
  | 2 => D (x * 10 + 2)
  | 3 => p
  | 4 => m
  | 5 => D (x * 10 + 8)
  | 6 => D (x * 10 + 9)
  | 7 => mi
  | 8 => bo
  | _ => to
def vclamp (w : Int32) : Int32 := if 0 ≤ w then (if w ≤ 999 then w else 999) else 0
/-- what a door gives -/
def vgift (D K V : Nat → Int32) (N : Nat) (m : Int32) (x : Nat) (v p : Int32) : Int32 := if N = 0 then D (x * 10 + 1) else vclamp (lworth K V (vnm D m x v p 0 0 0) 0 N 0 (fun _ => 0))
/-- the Visit -/
def isV (h : qH) (c p j m : Int64) : Prop := h.2 48 = some (.inl (10, [.ref 3, .ref 20, .ref 22, .ref 49, .long c, .long p, .long j, .long m]))
/-- what the Visit's methods stand on -/
def isW (h : qH) (D P U Q K V : Nat → Int32) (n k u st ve cl m : Int32) (N : Nat) : Prop :=
  isR h 3 4 5 6 D P U n k u st ve cl ∧ isC h 20 21 Q m ∧ (∃ S, isL h 22 23 24 25 K V S (nI N)) ∧ (N ≤ 150 ∧ (N ≠ 0 → lok K V 0 N 0)) ∧ (∃ nm : Nat → Int32, h.2 49 = some (.inr (.inl (.int, 10, nm)))) ∧ ∃ c p j mm, isV h c p j mm
theorem isW.sm {h h' : qH} {D P U Q K V : Nat → Int32} {n k u st ve cl m : Int32} {N : Nat} {z : List Nat} (hW : isW h D P U Q K V n k u st ve cl m N) (hs : same h h' z) (hz : [3, 4, 5, 6, 20, 21, 22, 23, 24, 25, 48, 49].all (fun j => decide (j ∉ z)) = true) : isW h' D P U Q K V n k u st ve cl m N := by
  obtain ⟨h1, h2, ⟨S, h3⟩, h4, ⟨nm, h5⟩, c, p, j, mm, h6⟩ := hW
  have hz := fun j hj => of_decide_eq_true (List.all_eq_true.mp hz j hj)
  exact ⟨h1.sm hs (hz 3 (by simp)) (hz 4 (by simp)) (hz 5 (by simp)) (hz 6 (by simp)), h2.sm hs (hz 20 (by simp)) (hz 21 (by simp)), ⟨S, h3.sm hs (hz 22 (by simp)) (hz 23 (by simp)) (hz 24 (by simp)) (hz 25 (by simp))⟩, h4, ⟨nm, (hs.2 _ (hz 49 (by simp))).trans h5⟩, c, p, j, mm, (hs.2 _ (hz 48 (by simp))).trans h6⟩
theorem V_names {g : qG} (hg : qOK g) {h : qH} {D P U Q K V : Nat → Int32} {n k u st ve cl m : Int32} {N : Nat} (hW : isW h D P U Q K V n k u st ve cl m N) (x : Nat) (hx : x < 10) (v p mi bo to : Int32) : qSpec g 2 0 0 mX10_names [.ref 48, .int (nI x), .int v, .int p, .int mi, .int bo, .int to] h (fun r h' => r = some (.ref 49) ∧ same h h' [49] ∧ ∃ nm : Nat → Int32, h'.2 49 = some (.inr (.inl (.int, 10, nm))) ∧ ∀ j : Nat, j < 10 → nm j = vnm D m x v p mi bo to j) := by
  refine qSpec_run 10 "names" false hg mX10_names_ok rfl rfl (Nat.le_of_ble_eq_true rfl) (by decide) ?_
  intro run step
  obtain ⟨hR, hC, hL, hN, ⟨nm, h49⟩, c0, p0, j0, m0, hV⟩ := hW
  refine step.1 _ _ _ _ _ _ _ sgX10_names_0_ok ?_
  refine ⟨by decide, _, _, hV, rfl, ?_⟩
  refine ⟨_, _, h49, vp_in_nI (n := 0) (by decide) (by decide), ?_⟩
  refine ⟨by decide, _, _, hV, rfl, ?_⟩
  refine ⟨by decide, _, _, hV, rfl, ?_⟩
  refine Or.inl ⟨rfl, _, 1, 0, 0, _, _, _, qi_10_35, ⟨rfl, rfl⟩, ⟨hR.1, rfl⟩, rfl, rfl, R_of hg (hR.up (q := 49) (by decide) (by decide) (by decide) (by decide)) x 1 hx (by decide), fun y1 h9 hy => ?_⟩
  obtain ⟨rfl, hh⟩ := hy
  rw [hh]
  clear hh
  refine ⟨_, _, rfl, vp_in_nI (n := 1) (by decide) (by decide), ?_⟩
  refine ⟨by decide, _, _, hV, rfl, ?_⟩
  refine ⟨by decide, _, _, hV, rfl, ?_⟩
  refine Or.inl ⟨rfl, _, 1, 0, 0, _, _, _, qi_10_35, ⟨rfl, rfl⟩, ⟨hR.1, rfl⟩, rfl, rfl, R_of hg ((hR.up (q := 49) (by decide) (by decide) (by decide) (by decide)).up (q := 49) (by decide) (by decide) (by decide) (by decide)) x 2 hx (by decide), fun y1 h9 hy => ?_⟩
  obtain ⟨rfl, hh⟩ := hy
  rw [hh]
  clear hh
  refine ⟨_, _, rfl, vp_in_nI (n := 2) (by decide) (by decide), ?_⟩
  refine ⟨by decide, _, _, hV, rfl, ?_⟩
  refine ⟨_, _, rfl, vp_in_nI (n := 3) (by decide) (by decide), ?_⟩
  refine ⟨by decide, _, _, hV, rfl, ?_⟩
  refine ⟨by decide, _, _, hV, rfl, by decide, _, _, hC.1, rfl, ?_⟩
  refine ⟨_, _, rfl, vp_in_nI (n := 4) (by decide) (by decide), ?_⟩
  refine ⟨by decide, _, _, hV, rfl, ?_⟩
  refine ⟨by decide, _, _, hV, rfl, ?_⟩
  refine Or.inl ⟨rfl, _, 1, 0, 0, _, _, _, qi_10_35, ⟨rfl, rfl⟩, ⟨hR.1, rfl⟩, rfl, rfl, R_of hg (((((hR.up (q := 49) (by decide) (by decide) (by decide) (by decide)).up (q := 49) (by decide) (by decide) (by decide) (by decide)).up (q := 49) (by decide) (by decide) (by decide) (by decide)).up (q := 49) (by decide) (by decide) (by decide) (by decide)).up (q := 49) (by decide) (by decide) (by decide) (by decide)) x 8 hx (by decide), fun y1 h9 hy => ?_⟩
  obtain ⟨rfl, hh⟩ := hy
  rw [hh]
  clear hh
  refine ⟨_, _, rfl, vp_in_nI (n := 5) (by decide) (by decide), ?_⟩
  refine ⟨by decide, _, _, hV, rfl, ?_⟩
  refine ⟨by decide, _, _, hV, rfl, ?_⟩
  refine Or.inl ⟨rfl, _, 1, 0, 0, _, _, _, qi_10_35, ⟨rfl, rfl⟩, ⟨hR.1, rfl⟩, rfl, rfl, R_of hg ((((((hR.up (q := 49) (by decide) (by decide) (by decide) (by decide)).up (q := 49) (by decide) (by decide) (by decide) (by decide)).up (q := 49) (by decide) (by decide) (by decide) (by decide)).up (q := 49) (by decide) (by decide) (by decide) (by decide)).up (q := 49) (by decide) (by decide) (by decide) (by decide)).up (q := 49) (by decide) (by decide) (by decide) (by decide)) x 9 hx (by decide), fun y1 h9 hy => ?_⟩
  obtain ⟨rfl, hh⟩ := hy
  rw [hh]
  clear hh
  refine ⟨_, _, rfl, vp_in_nI (n := 6) (by decide) (by decide), ?_⟩
  refine ⟨by decide, _, _, hV, rfl, ?_⟩
  refine ⟨_, _, rfl, vp_in_nI (n := 7) (by decide) (by decide), ?_⟩
  refine ⟨by decide, _, _, hV, rfl, ?_⟩
  refine ⟨_, _, rfl, vp_in_nI (n := 8) (by decide) (by decide), ?_⟩
  refine ⟨by decide, _, _, hV, rfl, ?_⟩
  refine ⟨_, _, rfl, vp_in_nI (n := 9) (by decide) (by decide), ?_⟩
  refine ⟨by decide, _, _, hV, rfl, _, rfl, Or.inr ⟨_, rfl⟩, Nat.le_refl _, Nat.le_refl _, rfl, ⟨rfl, fun j hj => ?_⟩, _, rfl, fun j hj => ?_⟩
  · have hj : j ≠ 49 := fun q => hj (by rw [q]; simp)
    simp only [qup_n hj]
  · rcases (show j = 0 ∨ j = 1 ∨ j = 2 ∨ j = 3 ∨ j = 4 ∨ j = 5 ∨ j = 6 ∨ j = 7 ∨ j = 8 ∨ j = 9 by omega) with rfl | rfl | rfl | rfl | rfl | rfl | rfl | rfl | rfl | rfl <;> rfl
theorem V_gift {g : qG} (hg : qOK g) {h : qH} {D P U Q K V : Nat → Int32} {n k u st ve cl m : Int32} {N : Nat} (hW : isW h D P U Q K V n k u st ve cl m N) (x : Nat) (hx : x < 10) (v p : Int32) : qSpec g 3 0 0 mX10_gift [.ref 48, .int (nI x), .int v, .int p] h (fun r h' => r = some (.int (vgift D K V N m x v p)) ∧ same h h' [25, 49] ∧ isW h' D P U Q K V n k u st ve cl m N) := by
  refine qSpec_run 10 "gift" false hg mX10_gift_ok rfl rfl (Nat.le_of_ble_eq_true rfl) (by decide) ?_
  intro run step
  have hW0 := hW
  obtain ⟨hR, hC, ⟨S, hL⟩, ⟨hN, hok⟩, ⟨nm, h49⟩, c0, p0, j0, m0, hV⟩ := hW
  refine step.1 _ _ _ _ _ _ _ sgX10_gift_0_ok ?_
  refine ⟨by decide, _, _, hV, rfl, ?_⟩
  refine Or.inl ⟨rfl, _, 1, 0, 0, _, _, _, qi_10_29, ⟨rfl, rfl⟩, ⟨hL.1, rfl⟩, rfl, rfl, L_stands hg hL, fun y1 h9 hy => ?_⟩
  obtain ⟨rfl, hh⟩ := hy
  rw [hh]
  clear hh
  refine ⟨fun c1 => ?_, fun c1 => ?_⟩
  · have hN0 : N ≠ 0 := by
      intro e
      have c1 := qb_1.mp c1
      rw [e] at c1
      exact absurd c1 (by decide)
    refine step.1 _ _ _ _ _ _ _ sgX10_gift_20_ok ?_
    refine ⟨by decide, _, _, hV, rfl, ?_⟩
    refine Or.inl ⟨rfl, _, 2, 0, 0, _, _, _, qi_10_41, ⟨rfl, rfl⟩, ⟨hV, rfl⟩, rfl, rfl, V_names hg hW0 x hx v p 0 0 0, fun y1 h9 hy => ?_⟩
    obtain ⟨rfl, hs, nm1, hn1, hn2⟩ := hy
    have hL1 := hL.sm hs (by simp) (by simp) (by simp) (by simp)
    refine Or.inl ⟨rfl, _, 2, 0, 0, _, _, _, qi_10_45, ⟨rfl, rfl⟩, ⟨hL1.1, rfl⟩, rfl, rfl, L_worth hg hL1 hN hn1 (by decide) (by decide) (by decide) (hok hN0), fun y2 h8 hy2 => ?_⟩
    obtain ⟨rfl, S2, hh⟩ := hy2
    rw [lworth_congr hn2 N 0 0 S (fun _ => 0) (hok hN0) (fun j hj => absurd hj (Nat.not_lt_zero j))]
    have hs2 : same h h8 [25, 49] := hs.tr (l' := [25]) (by rw [hh]; exact same.up (by simp)) (by simp) (by simp)
    have hW1 : isW h8 D P U Q K V n k u st ve cl m N := by
      refine ⟨hR.sm hs2 (by simp) (by simp) (by simp) (by simp), hC.sm hs2 (by simp) (by simp), ⟨S2, ?_⟩, ⟨hN, hok⟩, ⟨nm1, ?_⟩, c0, p0, j0, m0, (hs2.2 48 (by simp)).trans hV⟩
      · rw [hh]
        exact hL1.stk (by decide) (by decide)
      · rw [hh]
        exact hn1
    have fin : ∀ (L : List (Nat × Value)) (z : Int32), z = vgift D K V N m x v p → run 64 L [.int z] h8 0 0 := by
      intro L z hz
      refine step.1 _ _ _ _ _ _ _ sgX10_gift_64_ok ?_
      exact ⟨.int, rfl, rfl, Nat.le_refl _, Nat.le_refl _, by rw [hz], hs2, hW1⟩
    have e : vgift D K V N m x v p = vclamp (lworth K V (vnm D m x v p 0 0 0) 0 N 0 (fun _ => 0)) := if_neg hN0
    generalize lworth K V (vnm D m x v p 0 0 0) 0 N 0 (fun _ => 0) = w at e
    refine ⟨fun c2 => ?_, fun c2 => ?_⟩
    · have c2 : 0 ≤ w := c2
      refine step.1 _ _ _ _ _ _ _ sgX10_gift_48_ok ?_
      refine ⟨fun c3 => ?_, fun c3 => ?_⟩
      · have c3 : w ≤ 999 := c3
        refine step.1 _ _ _ _ _ _ _ sgX10_gift_62_ok ?_
        exact fin _ _ (by rw [e, vclamp, if_pos c2, if_pos c3])
      · have c3 : ¬ w ≤ 999 := c3
        exact fin _ _ (by rw [e, vclamp, if_pos c2, if_neg c3])
    · have c2 : ¬ 0 ≤ w := c2
      exact fin _ _ (by rw [e, vclamp, if_neg c2])
  · have hN0 : N = 0 := by
      have c1 := qb_0.mp c1
      by_cases e : N = 0
      · exact e
      · have c1 := of_decide_eq_false c1
        exact absurd ((nI_ltI (a := 0) (by decide) (by omega)).mpr (by omega)) c1
    refine ⟨by decide, _, _, hV, rfl, ?_⟩
    refine Or.inl ⟨rfl, _, 1, 0, 0, _, _, _, qi_10_35, ⟨rfl, rfl⟩, ⟨hR.1, rfl⟩, rfl, rfl, R_of hg hR x 1 hx (by decide), fun y1 h9 hy => ?_⟩
    obtain ⟨rfl, hh⟩ := hy
    rw [hh]
    clear hh
    exact ⟨.int, rfl, rfl, Nat.le_refl _, Nat.le_refl _, by rw [vgift, if_pos hN0], same.rf, hW0⟩
theorem V_asSeen {g : qG} (hg : qOK g) {h : qH} (a s : Int32) : qSpec g 1 0 0 mX10_asSeen [.int a, .int s] h (fun r h' => r = some (.long (if s = 0 then (16 - a).toInt64 else if s = 1 then a.toInt64 else 16)) ∧ h' = h) := by
  refine qSpec_run 10 "asSeen" false hg mX10_asSeen_ok rfl rfl (Nat.le_of_ble_eq_true rfl) (by decide) ?_
  intro run step
  refine step.1 _ _ _ _ _ _ _ sgX10_asSeen_0_ok ?_
  refine ⟨fun c1 => ?_, fun c1 => ?_⟩
  · have c1 : ¬ s = 0 := c1
    refine step.1 _ _ _ _ _ _ _ sgX10_asSeen_12_ok ?_
    refine ⟨fun c2 => ?_, fun c2 => ?_⟩
    · have c2 : ¬ s = 1 := c2
      refine step.1 _ _ _ _ _ _ _ sgX10_asSeen_22_ok ?_
      refine step.1 _ _ _ _ _ _ _ sgX10_asSeen_25_ok ?_
      exact ⟨rfl, Nat.le_refl _, Nat.le_refl _, by rw [if_neg c1, if_neg c2], rfl⟩
    · have c2 : s = 1 := c2
      refine step.1 _ _ _ _ _ _ _ sgX10_asSeen_25_ok ?_
      exact ⟨rfl, Nat.le_refl _, Nat.le_refl _, by rw [if_neg c1, if_pos c2], rfl⟩
  · have c1 : s = 0 := c1
    refine step.1 _ _ _ _ _ _ _ sgX10_asSeen_25_ok ?_
    exact ⟨rfl, Nat.le_refl _, Nat.le_refl _, by rw [if_pos c1], rfl⟩
/-- a power, by its rounds -/
def vpow (b : Int64) : Nat → Int64 → Int64
  | 0, z => z
  | m + 1, z => vpow b m (z * b)
theorem V_power {g : qG} (hg : qOK g) {h : qH} (b : Int64) (E : Nat) (hE : E ≤ 100) : qSpec g 1 0 0 mX10_power [.long b, .int (nI E)] h (fun r h' => r = some (.long (vpow b E 1)) ∧ h' = h) := by
  refine qSpec_run 10 "power" false hg mX10_power_ok rfl rfl (Nat.le_of_ble_eq_true rfl) (by decide) ?_
  intro run step
  have loop : ∀ (m i : Nat) (z : Int64), i + m = E → vpow b m z = vpow b E 1 → run 5 [(5, .int (nI i)), (3, .long z), (0, .long b), (2, .int (nI E))] [] h 0 0 := by
    intro m
    induction m with
    | zero =>
      intro i z hi hs
      refine step.1 _ _ _ _ _ _ _ sgX10_power_5_ok ?_
      refine ⟨fun c1 => ?_, fun c1 => absurd ((nI_leI (a := E) (b := i) (by omega) (by omega)).mpr (by omega)) c1⟩
      refine step.1 _ _ _ _ _ _ _ sgX10_power_21_ok ?_
      exact ⟨rfl, Nat.le_refl _, Nat.le_refl _, by rw [← hs]; rfl, rfl⟩
    | succ m ih =>
      intro i z hi hs
      refine step.1 _ _ _ _ _ _ _ sgX10_power_5_ok ?_
      refine ⟨fun c1 => absurd c1 (h_nle (by omega) (by omega)), fun c1 => ?_⟩
      have kk := ih (i + 1) (z * b) (by omega) hs
      rw [← nI_1] at kk
      exact kk
  refine step.1 _ _ _ _ _ _ _ sgX10_power_0_ok ?_
  exact loop E 0 1 (by omega) rfl
end Q07I
