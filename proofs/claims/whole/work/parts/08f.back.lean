section Q08F
/-- the lines from i down, each one place on -/
def lins (P : Nat → Int32) : Nat → Nat → (Nat → Int32)
  | 0, _ => P
  | m + 1, i => lins (lput P i (P ((i - 1) * 3)) (P ((i - 1) * 3 + 1)) (P ((i - 1) * 3 + 2))) m (i - 1)
theorem same.r0 {h h' : qH} {l : List Nat} (hs : same h h' l) : h'.1 = h.1 := hs.1
theorem R_putIn {g : qG} (hg : qOK g) {h : qH} {D P U : Nat → Int32} {n u st ve cl : Int32} {K : Nat} (hR : isR h 3 4 5 6 D P U n (nI K) u st ve cl) (x : Nat) (p v r : Int32) (hx : x ≤ K) (hK : K ≤ 9) : qSpec g 4 0 0 mX6_putIn [.ref 3, .int (nI x), .int p, .int v, .int r] h (fun y h' => y = none ∧ same h h' [3, 5] ∧ isR h' 3 4 5 6 D (lput (lins P (K - x) K) x p v r) U n (nI (K + 1)) u st ve cl) := by
  refine qSpec_run 6 "putIn" false hg mX6_putIn_ok rfl rfl (Nat.le_of_ble_eq_true rfl) (by decide) ?_
  intro run step
  have loop : ∀ (m i : Nat) (P' : Nat → Int32) (hX : qH), i = x + m → i ≤ 9 → lins P' m i = lins P (K - x) K → same h hX [3, 5] → isR hX 3 4 5 6 D P' U n (nI K) u st ve cl → run 6 [(5, .int (nI i)), (0, .ref 3), (1, .int (nI x)), (2, .int p), (3, .int v), (4, .int r)] [] hX 0 0 := by
    intro m
    induction m with
    | zero =>
      intro i P' hX hi hi9 hst hsX hRX
      have hst : P' = lins P (K - x) K := hst
      refine step.1 _ _ _ _ _ _ _ sgX6_putIn_6_ok ?_
      refine ⟨fun c9 => ?_, fun c9 => absurd (nI_le (a := i) (b := x) (by omega) (by omega)) c9⟩
      refine step.1 _ _ _ _ _ _ _ sgX6_putIn_28_ok ?_
      refine Or.inl ⟨rfl, _, 2, 0, 0, _, _, _, qi_6_68, ⟨rfl, rfl⟩, ⟨hRX.1, rfl⟩, rfl, rfl, R_setLine hg hRX x p v r (by omega), fun y34 h34 hy34 => ?_⟩
      obtain ⟨rfl, hh⟩ := hy34
      subst hh
      have hR9 : isR (hX.1, qup hX.2 5 (.inr (.inl (.int, 30, lput P' x p v r)))) 3 4 5 6 D (lput P' x p v r) U n (nI K) u st ve cl := ⟨hRX.1, hRX.2.1, rfl, hRX.2.2.2⟩
      refine ⟨rfl, ?_⟩
      refine ⟨by decide, _, _, hR9.1, rfl, ?_⟩
      refine ⟨_, hR9.1, Nat.le_of_ble_eq_true rfl, rfl, ?_⟩
      refine ⟨rfl, Nat.le_refl _, Nat.le_refl _, ?_⟩
      refine ⟨rfl, hsX.t2 (l' := [3, 5]) ⟨rfl, fun j hj => by
          have hj0 : j ≠ 3 := fun q => hj (by rw [q]; simp)
          have hj1 : j ≠ 5 := fun q => hj (by rw [q]; simp)
          simp only [qup_n hj0, qup_n hj1]⟩ (by decide), ?_, hRX.2.1, ?_, hRX.2.2.2⟩
      · rw [← nI_1]; rfl
      · rw [← hst]; rfl
    | succ m ih =>
      intro i P' hX hi hi9 hst hsX hRX
      refine step.1 _ _ _ _ _ _ _ sgX6_putIn_6_ok ?_
      refine ⟨fun c9 => absurd c9 (nI_ge (by omega) (by omega)), fun c9 => ?_⟩
      refine Or.inl ⟨rfl, _, 3, 0, 0, _, _, _, qi_6_64, ⟨rfl, rfl⟩, ⟨hRX.1, rfl⟩, rfl, rfl, (by rw [show (nI i - 1 : Int32) = nI (i - 1) from pk_sub (a := i) (b := 1) (by omega)]; exact R_copyLine hg hRX (i - 1) i (by omega) (by omega)), fun y19 h19 hy19 => ?_⟩
      obtain ⟨rfl, hh⟩ := hy19
      subst hh
      have kk2 := fun hZ => ih (i - 1) (lput P' i (P' ((i - 1) * 3)) (P' ((i - 1) * 3 + 1)) (P' ((i - 1) * 3 + 2))) hZ (by omega) (by omega) (by rw [← hst]; rfl)
      rw [show (nI (i - 1) : Int32) = nI i + (-1) from by rw [← Int32.sub_eq_add_neg]; exact (pk_sub (a := i) (b := 1) (by omega)).symm] at kk2
      exact kk2 _ (hsX.t2 (l' := [3, 5]) (same.up (by simp)) (by decide)) ⟨hRX.1, hRX.2.1, rfl, hRX.2.2.2⟩
  refine step.1 _ _ _ _ _ _ _ sgX6_putIn_0_ok ?_
  refine ⟨by decide, _, _, hR.1, rfl, ?_⟩
  exact loop (K - x) K P h (by omega) (by omega) rfl same.rf hR
theorem R_back0 {g : qG} (hg : qOK g) {h : qH} {D P U : Nat → Int32} {n k st ve cl : Int32} {x : Nat} (hR : isR h 3 4 5 6 D P U n k (nI (x + 1)) st ve cl) (hx : x < 20) (hk0 : U (x * 5) = 0) {a b : Nat} (ha : U (x * 5 + 1) = nI a) (ha2 : a < 10) (hb : U (x * 5 + 2) = nI b) (hb2 : b < 10) : qSpec g 5 0 0 mX6_takeBack [.ref 3] h (fun r h' => r = none ∧ same h h' [3, 4, 5] ∧ isR h' 3 4 5 6 (upd D (a * 10 + b) (U (x * 5 + 3))) P U n k (nI x) st ve cl) := by
  refine qSpec_run 6 "takeBack" false hg mX6_takeBack_ok rfl rfl (Nat.le_of_ble_eq_true rfl) (by decide) ?_
  intro run step
  have e1 : (nI (x + 1) - 1 : Int32) = nI x := nI_pred x
  have e5 : (nI x * 5 : Int32) = nI (x * 5) := pk_mul x 5
  have f1 : U ((nI (x + 1) - 1) * 5 + 1 : Int32).toNatClampNeg = U (x * 5 + 1) := by rw [e1, e5, show (nI (x * 5) + 1 : Int32) = nI (x * 5 + 1) from nI_1 _, h_tn (by omega)]
  have f2 : U ((nI (x + 1) - 1) * 5 + 2 : Int32).toNatClampNeg = U (x * 5 + 2) := by rw [e1, e5, show (nI (x * 5) + 2 : Int32) = nI (x * 5 + 2) from nI_add _ 2, h_tn (by omega)]
  have f3 : U ((nI (x + 1) - 1) * 5 + 3 : Int32).toNatClampNeg = U (x * 5 + 3) := by rw [e1, e5, show (nI (x * 5) + 3 : Int32) = nI (x * 5 + 3) from nI_add _ 3, h_tn (by omega)]
  have f4 : U ((nI (x + 1) - 1) * 5 + 4 : Int32).toNatClampNeg = U (x * 5 + 4) := by rw [e1, e5, show (nI (x * 5) + 4 : Int32) = nI (x * 5 + 4) from nI_add _ 4, h_tn (by omega)]
  have hR1 : isR (h.1, qup h.2 3 (.inl (6, [.ref 4, .ref 5, .ref 6, .int n, .int k, .int (nI (x + 1) - 1), .int st, .int ve, .int cl]))) 3 4 5 6 D P U n k (nI x) st ve cl := by
    rw [← e1]
    exact ⟨rfl, hR.2.1, hR.2.2.1, hR.2.2.2⟩
  have main : ∀ (hX : qH), hX = (h.1, qup h.2 3 (.inl (6, [.ref 4, .ref 5, .ref 6, .int n, .int k, .int (nI (x + 1) - 1), .int st, .int ve, .int cl]))) → run 96 [(4, .int (U ((nI (x + 1) - 1) * 5 + 3 : Int32).toNatClampNeg)), (3, .int (U ((nI (x + 1) - 1) * 5 + 2 : Int32).toNatClampNeg)), (2, .int (U ((nI (x + 1) - 1) * 5 + 1 : Int32).toNatClampNeg)), (1, .int ((nI (x + 1) - 1) * 5)), (0, .ref 3)] [] hX 0 0 := by
    intro hX hh
    have hRX : isR hX 3 4 5 6 D P U n k (nI x) st ve cl := by rw [hh]; exact hR1
    have hsX : same h hX [3, 4, 5] := by rw [hh]; exact same.up (by simp)
    refine step.1 _ _ _ _ _ _ _ sgX6_takeBack_96_ok ?_
    refine Or.inl ⟨rfl, _, 1, 0, 0, _, _, _, qi_6_46, ⟨rfl, rfl⟩, ⟨hRX.1, rfl⟩, rfl, rfl, (by rw [f1, f2, ha, hb]; exact R_setDoor hg hRX a b _ ha2 hb2), fun y101 h101 hy101 => ?_⟩
    obtain ⟨rfl, hh9⟩ := hy101
    subst hh9
    refine step.1 _ _ _ _ _ _ _ sgX6_takeBack_157_ok ?_
    refine ⟨rfl, Nat.le_refl _, Nat.le_refl _, ?_⟩
    rw [← f3]
    exact ⟨rfl, hsX.t2 (l' := [4]) (same.up (by simp)) (by decide), hRX.1, rfl, hRX.2.2.1, hRX.2.2.2⟩
  refine step.1 _ _ _ _ _ _ _ sgX6_takeBack_0_ok ?_
  refine ⟨by decide, _, _, hR.1, rfl, ?_⟩
  refine Or.inl ⟨rfl, _, 1, 0, 0, _, Or.inr qi_6_50, ⟨rfl, rfl⟩, rfl, rfl, sp_within hg _ _ _, fun y7 h7 hy7 => ?_⟩
  obtain ⟨rfl, hh⟩ := hy7
  rw [hh]
  clear hh
  refine ⟨fun c10 => ?_, fun c10 => absurd c10 (by rw [show (decide ((1 : Int32) ≤ nI (x + 1)) && decide (nI (x + 1) ≤ 20)) = true from within_t (lo := 1) (x := x + 1) (hi := 20) (by omega) (by omega) (by decide)]; decide)⟩
  
  refine step.1 _ _ _ _ _ _ _ sgX6_takeBack_14_ok ?_
  refine ⟨rfl, ?_⟩
  refine ⟨by decide, _, _, hR.1, rfl, ?_⟩
  refine ⟨_, hR.1, Nat.le_of_ble_eq_true rfl, rfl, ?_⟩
  refine ⟨by decide, _, _, rfl, rfl, ?_⟩
  refine ⟨by decide, _, _, rfl, rfl, ?_⟩
  refine ⟨_, _, hR.2.2.2, by rw [show ((nI (x + 1) - 1) * 5 + 1 : Int32) = nI (x * 5 + 1) from by rw [e1, e5]; exact nI_1 _]; exact vp_in_nI (by omega) (by decide), ?_⟩
  refine ⟨by decide, _, _, rfl, rfl, ?_⟩
  refine ⟨_, _, hR.2.2.2, by rw [show ((nI (x + 1) - 1) * 5 + 2 : Int32) = nI (x * 5 + 2) from by rw [e1, e5]; exact nI_add _ 2]; exact vp_in_nI (by omega) (by decide), ?_⟩
  refine ⟨by decide, _, _, rfl, rfl, ?_⟩
  refine ⟨_, _, hR.2.2.2, by rw [show ((nI (x + 1) - 1) * 5 + 3 : Int32) = nI (x * 5 + 3) from by rw [e1, e5]; exact nI_add _ 3]; exact vp_in_nI (by omega) (by decide), ?_⟩
  refine ⟨by decide, _, _, rfl, rfl, ?_⟩
  refine ⟨_, _, hR.2.2.2, by rw [show ((nI (x + 1) - 1) * 5 : Int32) = nI (x * 5) from by rw [e1, e5]]; exact vp_in_nI (by omega) (by decide), ?_⟩
  have eK : U ((nI (x + 1) - 1 : Int32) * 5).toNatClampNeg = 0 := by rw [e1, e5, h_tn (n := x * 5) (by omega)]; exact hk0
  refine ⟨fun c => ?_, fun j ca cb cj => ?_⟩
  · exact absurd c (by rw [eK]; decide)
  · rw [eK] at cj
    have cj : 0 = j := cj
    subst cj
    refine ⟨_, 96, rfl, by decide, ?_⟩
    exact main _ rfl
theorem R_back1 {g : qG} (hg : qOK g) {h : qH} {D P U : Nat → Int32} {n k st ve cl : Int32} {x : Nat} (hR : isR h 3 4 5 6 D P U n k (nI (x + 1)) st ve cl) (hx : x < 20) (hk0 : U (x * 5) = 1) {a : Nat} (ha : U (x * 5 + 1) = nI a) (ha2 : a < 10) : qSpec g 5 0 0 mX6_takeBack [.ref 3] h (fun r h' => r = none ∧ same h h' [3, 4, 5] ∧ isR h' 3 4 5 6 D (lput P a (P (a * 3)) (U (x * 5 + 2)) (U (x * 5 + 3))) U n k (nI x) st ve cl) := by
  refine qSpec_run 6 "takeBack" false hg mX6_takeBack_ok rfl rfl (Nat.le_of_ble_eq_true rfl) (by decide) ?_
  intro run step
  have e1 : (nI (x + 1) - 1 : Int32) = nI x := nI_pred x
  have e5 : (nI x * 5 : Int32) = nI (x * 5) := pk_mul x 5
  have f1 : U ((nI (x + 1) - 1) * 5 + 1 : Int32).toNatClampNeg = U (x * 5 + 1) := by rw [e1, e5, show (nI (x * 5) + 1 : Int32) = nI (x * 5 + 1) from nI_1 _, h_tn (by omega)]
  have f2 : U ((nI (x + 1) - 1) * 5 + 2 : Int32).toNatClampNeg = U (x * 5 + 2) := by rw [e1, e5, show (nI (x * 5) + 2 : Int32) = nI (x * 5 + 2) from nI_add _ 2, h_tn (by omega)]
  have f3 : U ((nI (x + 1) - 1) * 5 + 3 : Int32).toNatClampNeg = U (x * 5 + 3) := by rw [e1, e5, show (nI (x * 5) + 3 : Int32) = nI (x * 5 + 3) from nI_add _ 3, h_tn (by omega)]
  have f4 : U ((nI (x + 1) - 1) * 5 + 4 : Int32).toNatClampNeg = U (x * 5 + 4) := by rw [e1, e5, show (nI (x * 5) + 4 : Int32) = nI (x * 5 + 4) from nI_add _ 4, h_tn (by omega)]
  have hR1 : isR (h.1, qup h.2 3 (.inl (6, [.ref 4, .ref 5, .ref 6, .int n, .int k, .int (nI (x + 1) - 1), .int st, .int ve, .int cl]))) 3 4 5 6 D P U n k (nI x) st ve cl := by
    rw [← e1]
    exact ⟨rfl, hR.2.1, hR.2.2.1, hR.2.2.2⟩
  have main : ∀ (hX : qH), hX = (h.1, qup h.2 3 (.inl (6, [.ref 4, .ref 5, .ref 6, .int n, .int k, .int (nI (x + 1) - 1), .int st, .int ve, .int cl]))) → run 107 [(4, .int (U ((nI (x + 1) - 1) * 5 + 3 : Int32).toNatClampNeg)), (3, .int (U ((nI (x + 1) - 1) * 5 + 2 : Int32).toNatClampNeg)), (2, .int (U ((nI (x + 1) - 1) * 5 + 1 : Int32).toNatClampNeg)), (1, .int ((nI (x + 1) - 1) * 5)), (0, .ref 3)] [] hX 0 0 := by
    intro hX hh
    have hRX : isR hX 3 4 5 6 D P U n k (nI x) st ve cl := by rw [hh]; exact hR1
    have hsX : same h hX [3, 4, 5] := by rw [hh]; exact same.up (by simp)
    refine step.1 _ _ _ _ _ _ _ sgX6_takeBack_107_ok ?_
    refine Or.inl ⟨rfl, _, 1, 0, 0, _, _, _, qi_6_54, ⟨rfl, rfl⟩, ⟨hRX.1, rfl⟩, rfl, rfl, (by rw [f1, ha]; exact R_ofLine hg hRX a 0 ha2 (by decide)), fun y112 h112 hy112 => ?_⟩
    obtain ⟨rfl, hh⟩ := hy112
    rw [hh]
    clear hh
    refine Or.inl ⟨rfl, _, 2, 0, 0, _, _, _, qi_6_68, ⟨rfl, rfl⟩, ⟨hRX.1, rfl⟩, rfl, rfl, (by rw [f1, ha]; exact R_setLine hg hRX a _ _ _ ha2), fun y118 h118 hy118 => ?_⟩
    obtain ⟨rfl, hh9⟩ := hy118
    subst hh9
    refine step.1 _ _ _ _ _ _ _ sgX6_takeBack_157_ok ?_
    refine ⟨rfl, Nat.le_refl _, Nat.le_refl _, ?_⟩
    rw [← f2, ← f3]
    exact ⟨rfl, hsX.t2 (l' := [5]) (same.up (by simp)) (by decide), hRX.1, hRX.2.1, rfl, hRX.2.2.2⟩
  refine step.1 _ _ _ _ _ _ _ sgX6_takeBack_0_ok ?_
  refine ⟨by decide, _, _, hR.1, rfl, ?_⟩
  refine Or.inl ⟨rfl, _, 1, 0, 0, _, Or.inr qi_6_50, ⟨rfl, rfl⟩, rfl, rfl, sp_within hg _ _ _, fun y7 h7 hy7 => ?_⟩
  obtain ⟨rfl, hh⟩ := hy7
  rw [hh]
  clear hh
  refine ⟨fun c10 => ?_, fun c10 => absurd c10 (by rw [show (decide ((1 : Int32) ≤ nI (x + 1)) && decide (nI (x + 1) ≤ 20)) = true from within_t (lo := 1) (x := x + 1) (hi := 20) (by omega) (by omega) (by decide)]; decide)⟩
  
  refine step.1 _ _ _ _ _ _ _ sgX6_takeBack_14_ok ?_
  refine ⟨rfl, ?_⟩
  refine ⟨by decide, _, _, hR.1, rfl, ?_⟩
  refine ⟨_, hR.1, Nat.le_of_ble_eq_true rfl, rfl, ?_⟩
  refine ⟨by decide, _, _, rfl, rfl, ?_⟩
  refine ⟨by decide, _, _, rfl, rfl, ?_⟩
  refine ⟨_, _, hR.2.2.2, by rw [show ((nI (x + 1) - 1) * 5 + 1 : Int32) = nI (x * 5 + 1) from by rw [e1, e5]; exact nI_1 _]; exact vp_in_nI (by omega) (by decide), ?_⟩
  refine ⟨by decide, _, _, rfl, rfl, ?_⟩
  refine ⟨_, _, hR.2.2.2, by rw [show ((nI (x + 1) - 1) * 5 + 2 : Int32) = nI (x * 5 + 2) from by rw [e1, e5]; exact nI_add _ 2]; exact vp_in_nI (by omega) (by decide), ?_⟩
  refine ⟨by decide, _, _, rfl, rfl, ?_⟩
  refine ⟨_, _, hR.2.2.2, by rw [show ((nI (x + 1) - 1) * 5 + 3 : Int32) = nI (x * 5 + 3) from by rw [e1, e5]; exact nI_add _ 3]; exact vp_in_nI (by omega) (by decide), ?_⟩
  refine ⟨by decide, _, _, rfl, rfl, ?_⟩
  refine ⟨_, _, hR.2.2.2, by rw [show ((nI (x + 1) - 1) * 5 : Int32) = nI (x * 5) from by rw [e1, e5]]; exact vp_in_nI (by omega) (by decide), ?_⟩
  have eK : U ((nI (x + 1) - 1 : Int32) * 5).toNatClampNeg = 1 := by rw [e1, e5, h_tn (n := x * 5) (by omega)]; exact hk0
  refine ⟨fun c => ?_, fun j ca cb cj => ?_⟩
  · exact absurd c (by rw [eK]; decide)
  · rw [eK] at cj
    have cj : 1 = j := cj
    subst cj
    refine ⟨_, 107, rfl, by decide, ?_⟩
    exact main _ rfl
theorem R_back2 {g : qG} (hg : qOK g) {h : qH} {D P U : Nat → Int32} {n k st ve cl : Int32} {x : Nat} (hR : isR h 3 4 5 6 D P U n k (nI (x + 1)) st ve cl) (hx : x < 20) (hk0 : U (x * 5) = 2) {a b : Nat} (ha : U (x * 5 + 1) = nI a) (ha2 : a < 10) (hb : U (x * 5 + 2) = nI b) (hb2 : b < 10) : qSpec g 5 0 0 mX6_takeBack [.ref 3] h (fun r h' => r = none ∧ same h h' [3, 4, 5] ∧ isR h' 3 4 5 6 D (lput (lput P a (P (b * 3)) (P (b * 3 + 1)) (P (b * 3 + 2))) b (P (a * 3)) (P (a * 3 + 1)) (P (a * 3 + 2))) U n k (nI x) st ve cl) := by
  refine qSpec_run 6 "takeBack" false hg mX6_takeBack_ok rfl rfl (Nat.le_of_ble_eq_true rfl) (by decide) ?_
  intro run step
  have e1 : (nI (x + 1) - 1 : Int32) = nI x := nI_pred x
  have e5 : (nI x * 5 : Int32) = nI (x * 5) := pk_mul x 5
  have f1 : U ((nI (x + 1) - 1) * 5 + 1 : Int32).toNatClampNeg = U (x * 5 + 1) := by rw [e1, e5, show (nI (x * 5) + 1 : Int32) = nI (x * 5 + 1) from nI_1 _, h_tn (by omega)]
  have f2 : U ((nI (x + 1) - 1) * 5 + 2 : Int32).toNatClampNeg = U (x * 5 + 2) := by rw [e1, e5, show (nI (x * 5) + 2 : Int32) = nI (x * 5 + 2) from nI_add _ 2, h_tn (by omega)]
  have f3 : U ((nI (x + 1) - 1) * 5 + 3 : Int32).toNatClampNeg = U (x * 5 + 3) := by rw [e1, e5, show (nI (x * 5) + 3 : Int32) = nI (x * 5 + 3) from nI_add _ 3, h_tn (by omega)]
  have f4 : U ((nI (x + 1) - 1) * 5 + 4 : Int32).toNatClampNeg = U (x * 5 + 4) := by rw [e1, e5, show (nI (x * 5) + 4 : Int32) = nI (x * 5 + 4) from nI_add _ 4, h_tn (by omega)]
  have hR1 : isR (h.1, qup h.2 3 (.inl (6, [.ref 4, .ref 5, .ref 6, .int n, .int k, .int (nI (x + 1) - 1), .int st, .int ve, .int cl]))) 3 4 5 6 D P U n k (nI x) st ve cl := by
    rw [← e1]
    exact ⟨rfl, hR.2.1, hR.2.2.1, hR.2.2.2⟩
  have main : ∀ (hX : qH), hX = (h.1, qup h.2 3 (.inl (6, [.ref 4, .ref 5, .ref 6, .int n, .int k, .int (nI (x + 1) - 1), .int st, .int ve, .int cl]))) → run 124 [(4, .int (U ((nI (x + 1) - 1) * 5 + 3 : Int32).toNatClampNeg)), (3, .int (U ((nI (x + 1) - 1) * 5 + 2 : Int32).toNatClampNeg)), (2, .int (U ((nI (x + 1) - 1) * 5 + 1 : Int32).toNatClampNeg)), (1, .int ((nI (x + 1) - 1) * 5)), (0, .ref 3)] [] hX 0 0 := by
    intro hX hh
    have hRX : isR hX 3 4 5 6 D P U n k (nI x) st ve cl := by rw [hh]; exact hR1
    have hsX : same h hX [3, 4, 5] := by rw [hh]; exact same.up (by simp)
    refine step.1 _ _ _ _ _ _ _ sgX6_takeBack_124_ok ?_
    refine Or.inl ⟨rfl, _, 4, 0, 0, _, _, _, qi_6_72, ⟨rfl, rfl⟩, ⟨hRX.1, rfl⟩, rfl, rfl, (by rw [f1, f2, ha, hb]; exact R_exchange hg hRX a b ha2 hb2 (by decide) (by decide)), fun y127 h127 hy127 => ?_⟩
    obtain ⟨rfl, hh9⟩ := hy127
    subst hh9
    refine step.1 _ _ _ _ _ _ _ sgX6_takeBack_157_ok ?_
    refine ⟨rfl, Nat.le_refl _, Nat.le_refl _, ?_⟩
    exact ⟨rfl, hsX.t2 (l' := [5]) (same.up (by simp)) (by decide), hRX.1, hRX.2.1, rfl, hRX.2.2.2⟩
  refine step.1 _ _ _ _ _ _ _ sgX6_takeBack_0_ok ?_
  refine ⟨by decide, _, _, hR.1, rfl, ?_⟩
  refine Or.inl ⟨rfl, _, 1, 0, 0, _, Or.inr qi_6_50, ⟨rfl, rfl⟩, rfl, rfl, sp_within hg _ _ _, fun y7 h7 hy7 => ?_⟩
  obtain ⟨rfl, hh⟩ := hy7
  rw [hh]
  clear hh
  refine ⟨fun c10 => ?_, fun c10 => absurd c10 (by rw [show (decide ((1 : Int32) ≤ nI (x + 1)) && decide (nI (x + 1) ≤ 20)) = true from within_t (lo := 1) (x := x + 1) (hi := 20) (by omega) (by omega) (by decide)]; decide)⟩
  
  refine step.1 _ _ _ _ _ _ _ sgX6_takeBack_14_ok ?_
  refine ⟨rfl, ?_⟩
  refine ⟨by decide, _, _, hR.1, rfl, ?_⟩
  refine ⟨_, hR.1, Nat.le_of_ble_eq_true rfl, rfl, ?_⟩
  refine ⟨by decide, _, _, rfl, rfl, ?_⟩
  refine ⟨by decide, _, _, rfl, rfl, ?_⟩
  refine ⟨_, _, hR.2.2.2, by rw [show ((nI (x + 1) - 1) * 5 + 1 : Int32) = nI (x * 5 + 1) from by rw [e1, e5]; exact nI_1 _]; exact vp_in_nI (by omega) (by decide), ?_⟩
  refine ⟨by decide, _, _, rfl, rfl, ?_⟩
  refine ⟨_, _, hR.2.2.2, by rw [show ((nI (x + 1) - 1) * 5 + 2 : Int32) = nI (x * 5 + 2) from by rw [e1, e5]; exact nI_add _ 2]; exact vp_in_nI (by omega) (by decide), ?_⟩
  refine ⟨by decide, _, _, rfl, rfl, ?_⟩
  refine ⟨_, _, hR.2.2.2, by rw [show ((nI (x + 1) - 1) * 5 + 3 : Int32) = nI (x * 5 + 3) from by rw [e1, e5]; exact nI_add _ 3]; exact vp_in_nI (by omega) (by decide), ?_⟩
  refine ⟨by decide, _, _, rfl, rfl, ?_⟩
  refine ⟨_, _, hR.2.2.2, by rw [show ((nI (x + 1) - 1) * 5 : Int32) = nI (x * 5) from by rw [e1, e5]]; exact vp_in_nI (by omega) (by decide), ?_⟩
  have eK : U ((nI (x + 1) - 1 : Int32) * 5).toNatClampNeg = 2 := by rw [e1, e5, h_tn (n := x * 5) (by omega)]; exact hk0
  refine ⟨fun c => ?_, fun j ca cb cj => ?_⟩
  · exact absurd c (by rw [eK]; decide)
  · rw [eK] at cj
    have cj : 2 = j := cj
    subst cj
    refine ⟨_, 124, rfl, by decide, ?_⟩
    exact main _ rfl
theorem R_back3 {g : qG} (hg : qOK g) {h : qH} {D P U : Nat → Int32} {n st ve cl : Int32} {x : Nat} {K : Nat} (hR : isR h 3 4 5 6 D P U n (nI K) (nI (x + 1)) st ve cl) (hx : x < 20) (hk0 : U (x * 5) = 3) {a : Nat} (ha : U (x * 5 + 1) = nI a) (ha2 : a ≤ K) (hK : K ≤ 9) : qSpec g 5 0 0 mX6_takeBack [.ref 3] h (fun r h' => r = none ∧ same h h' [3, 4, 5] ∧ isR h' 3 4 5 6 D (lput (lins P (K - a) K) a (U (x * 5 + 2)) (U (x * 5 + 3)) (U (x * 5 + 4))) U n (nI (K + 1)) (nI x) st ve cl) := by
  refine qSpec_run 6 "takeBack" false hg mX6_takeBack_ok rfl rfl (Nat.le_of_ble_eq_true rfl) (by decide) ?_
  intro run step
  have e1 : (nI (x + 1) - 1 : Int32) = nI x := nI_pred x
  have e5 : (nI x * 5 : Int32) = nI (x * 5) := pk_mul x 5
  have f1 : U ((nI (x + 1) - 1) * 5 + 1 : Int32).toNatClampNeg = U (x * 5 + 1) := by rw [e1, e5, show (nI (x * 5) + 1 : Int32) = nI (x * 5 + 1) from nI_1 _, h_tn (by omega)]
  have f2 : U ((nI (x + 1) - 1) * 5 + 2 : Int32).toNatClampNeg = U (x * 5 + 2) := by rw [e1, e5, show (nI (x * 5) + 2 : Int32) = nI (x * 5 + 2) from nI_add _ 2, h_tn (by omega)]
  have f3 : U ((nI (x + 1) - 1) * 5 + 3 : Int32).toNatClampNeg = U (x * 5 + 3) := by rw [e1, e5, show (nI (x * 5) + 3 : Int32) = nI (x * 5 + 3) from nI_add _ 3, h_tn (by omega)]
  have f4 : U ((nI (x + 1) - 1) * 5 + 4 : Int32).toNatClampNeg = U (x * 5 + 4) := by rw [e1, e5, show (nI (x * 5) + 4 : Int32) = nI (x * 5 + 4) from nI_add _ 4, h_tn (by omega)]
  have hR1 : isR (h.1, qup h.2 3 (.inl (6, [.ref 4, .ref 5, .ref 6, .int n, .int (nI K), .int (nI (x + 1) - 1), .int st, .int ve, .int cl]))) 3 4 5 6 D P U n (nI K) (nI x) st ve cl := by
    rw [← e1]
    exact ⟨rfl, hR.2.1, hR.2.2.1, hR.2.2.2⟩
  have main : ∀ (hX : qH), hX = (h.1, qup h.2 3 (.inl (6, [.ref 4, .ref 5, .ref 6, .int n, .int (nI K), .int (nI (x + 1) - 1), .int st, .int ve, .int cl]))) → run 133 [(4, .int (U ((nI (x + 1) - 1) * 5 + 3 : Int32).toNatClampNeg)), (3, .int (U ((nI (x + 1) - 1) * 5 + 2 : Int32).toNatClampNeg)), (2, .int (U ((nI (x + 1) - 1) * 5 + 1 : Int32).toNatClampNeg)), (1, .int ((nI (x + 1) - 1) * 5)), (0, .ref 3)] [] hX 0 0 := by
    intro hX hh
    have hRX : isR hX 3 4 5 6 D P U n (nI K) (nI x) st ve cl := by rw [hh]; exact hR1
    have hsX : same h hX [3, 4, 5] := by rw [hh]; exact same.up (by simp)
    refine step.1 _ _ _ _ _ _ _ sgX6_takeBack_133_ok ?_
    refine ⟨by decide, _, _, hRX.1, rfl, ?_⟩
    refine ⟨_, _, hRX.2.2.2, by rw [show ((nI (x + 1) - 1) * 5 + 4 : Int32) = nI (x * 5 + 4) from by rw [e1, e5]; exact nI_add _ 4]; exact vp_in_nI (by omega) (by decide), ?_⟩
    refine Or.inl ⟨rfl, _, 4, 0, 0, _, _, _, qi_6_75, ⟨rfl, rfl⟩, ⟨hRX.1, rfl⟩, rfl, rfl, (by rw [f1, ha]; exact R_putIn hg hRX a _ _ _ ha2 hK), fun y146 h146 hy146 => ?_⟩
    obtain ⟨rfl, hs9, hR9⟩ := hy146
    refine step.1 _ _ _ _ _ _ _ sgX6_takeBack_157_ok ?_
    refine ⟨rfl, Nat.le_refl _, Nat.le_refl _, ?_⟩
    rw [f2, f3, f4] at hR9
    exact ⟨rfl, hsX.t2 (l' := [3, 5]) hs9 (by decide), hR9⟩
  refine step.1 _ _ _ _ _ _ _ sgX6_takeBack_0_ok ?_
  refine ⟨by decide, _, _, hR.1, rfl, ?_⟩
  refine Or.inl ⟨rfl, _, 1, 0, 0, _, Or.inr qi_6_50, ⟨rfl, rfl⟩, rfl, rfl, sp_within hg _ _ _, fun y7 h7 hy7 => ?_⟩
  obtain ⟨rfl, hh⟩ := hy7
  rw [hh]
  clear hh
  refine ⟨fun c10 => ?_, fun c10 => absurd c10 (by rw [show (decide ((1 : Int32) ≤ nI (x + 1)) && decide (nI (x + 1) ≤ 20)) = true from within_t (lo := 1) (x := x + 1) (hi := 20) (by omega) (by omega) (by decide)]; decide)⟩
  
  refine step.1 _ _ _ _ _ _ _ sgX6_takeBack_14_ok ?_
  refine ⟨rfl, ?_⟩
  refine ⟨by decide, _, _, hR.1, rfl, ?_⟩
  refine ⟨_, hR.1, Nat.le_of_ble_eq_true rfl, rfl, ?_⟩
  refine ⟨by decide, _, _, rfl, rfl, ?_⟩
  refine ⟨by decide, _, _, rfl, rfl, ?_⟩
  refine ⟨_, _, hR.2.2.2, by rw [show ((nI (x + 1) - 1) * 5 + 1 : Int32) = nI (x * 5 + 1) from by rw [e1, e5]; exact nI_1 _]; exact vp_in_nI (by omega) (by decide), ?_⟩
  refine ⟨by decide, _, _, rfl, rfl, ?_⟩
  refine ⟨_, _, hR.2.2.2, by rw [show ((nI (x + 1) - 1) * 5 + 2 : Int32) = nI (x * 5 + 2) from by rw [e1, e5]; exact nI_add _ 2]; exact vp_in_nI (by omega) (by decide), ?_⟩
  refine ⟨by decide, _, _, rfl, rfl, ?_⟩
  refine ⟨_, _, hR.2.2.2, by rw [show ((nI (x + 1) - 1) * 5 + 3 : Int32) = nI (x * 5 + 3) from by rw [e1, e5]; exact nI_add _ 3]; exact vp_in_nI (by omega) (by decide), ?_⟩
  refine ⟨by decide, _, _, rfl, rfl, ?_⟩
  refine ⟨_, _, hR.2.2.2, by rw [show ((nI (x + 1) - 1) * 5 : Int32) = nI (x * 5) from by rw [e1, e5]]; exact vp_in_nI (by omega) (by decide), ?_⟩
  have eK : U ((nI (x + 1) - 1 : Int32) * 5).toNatClampNeg = 3 := by rw [e1, e5, h_tn (n := x * 5) (by omega)]; exact hk0
  refine ⟨fun c => ?_, fun j ca cb cj => ?_⟩
  · exact absurd c (by rw [eK]; decide)
  · rw [eK] at cj
    have cj : 3 = j := cj
    subst cj
    refine ⟨_, 133, rfl, by decide, ?_⟩
    exact main _ rfl
theorem R_back4 {g : qG} (hg : qOK g) {h : qH} {D P U : Nat → Int32} {n k st ve cl : Int32} {x : Nat} (hR : isR h 3 4 5 6 D P U n k (nI (x + 1)) st ve cl) (hx : x < 20) (hk0 : U (x * 5) = 4)  : qSpec g 5 0 0 mX6_takeBack [.ref 3] h (fun r h' => r = none ∧ same h h' [3, 4, 5] ∧ isR h' 3 4 5 6 D P U n k (nI x) st ve (U (x * 5 + 1))) := by
  refine qSpec_run 6 "takeBack" false hg mX6_takeBack_ok rfl rfl (Nat.le_of_ble_eq_true rfl) (by decide) ?_
  intro run step
  have e1 : (nI (x + 1) - 1 : Int32) = nI x := nI_pred x
  have e5 : (nI x * 5 : Int32) = nI (x * 5) := pk_mul x 5
  have f1 : U ((nI (x + 1) - 1) * 5 + 1 : Int32).toNatClampNeg = U (x * 5 + 1) := by rw [e1, e5, show (nI (x * 5) + 1 : Int32) = nI (x * 5 + 1) from nI_1 _, h_tn (by omega)]
  have f2 : U ((nI (x + 1) - 1) * 5 + 2 : Int32).toNatClampNeg = U (x * 5 + 2) := by rw [e1, e5, show (nI (x * 5) + 2 : Int32) = nI (x * 5 + 2) from nI_add _ 2, h_tn (by omega)]
  have f3 : U ((nI (x + 1) - 1) * 5 + 3 : Int32).toNatClampNeg = U (x * 5 + 3) := by rw [e1, e5, show (nI (x * 5) + 3 : Int32) = nI (x * 5 + 3) from nI_add _ 3, h_tn (by omega)]
  have f4 : U ((nI (x + 1) - 1) * 5 + 4 : Int32).toNatClampNeg = U (x * 5 + 4) := by rw [e1, e5, show (nI (x * 5) + 4 : Int32) = nI (x * 5 + 4) from nI_add _ 4, h_tn (by omega)]
  have hR1 : isR (h.1, qup h.2 3 (.inl (6, [.ref 4, .ref 5, .ref 6, .int n, .int k, .int (nI (x + 1) - 1), .int st, .int ve, .int cl]))) 3 4 5 6 D P U n k (nI x) st ve cl := by
    rw [← e1]
    exact ⟨rfl, hR.2.1, hR.2.2.1, hR.2.2.2⟩
  have main : ∀ (hX : qH), hX = (h.1, qup h.2 3 (.inl (6, [.ref 4, .ref 5, .ref 6, .int n, .int k, .int (nI (x + 1) - 1), .int st, .int ve, .int cl]))) → run 152 [(4, .int (U ((nI (x + 1) - 1) * 5 + 3 : Int32).toNatClampNeg)), (3, .int (U ((nI (x + 1) - 1) * 5 + 2 : Int32).toNatClampNeg)), (2, .int (U ((nI (x + 1) - 1) * 5 + 1 : Int32).toNatClampNeg)), (1, .int ((nI (x + 1) - 1) * 5)), (0, .ref 3)] [] hX 0 0 := by
    intro hX hh
    have hRX : isR hX 3 4 5 6 D P U n k (nI x) st ve cl := by rw [hh]; exact hR1
    have hsX : same h hX [3, 4, 5] := by rw [hh]; exact same.up (by simp)
    refine step.1 _ _ _ _ _ _ _ sgX6_takeBack_152_ok ?_
    refine ⟨_, hRX.1, Nat.le_of_ble_eq_true rfl, rfl, ?_⟩
    refine step.1 _ _ _ _ _ _ _ sgX6_takeBack_157_ok ?_
    refine ⟨rfl, Nat.le_refl _, Nat.le_refl _, ?_⟩
    rw [← f1]
    exact ⟨rfl, hsX.t2 (l' := [3]) (same.up (by simp)) (by decide), rfl, hRX.2.1, hRX.2.2.1, hRX.2.2.2⟩
  refine step.1 _ _ _ _ _ _ _ sgX6_takeBack_0_ok ?_
  refine ⟨by decide, _, _, hR.1, rfl, ?_⟩
  refine Or.inl ⟨rfl, _, 1, 0, 0, _, Or.inr qi_6_50, ⟨rfl, rfl⟩, rfl, rfl, sp_within hg _ _ _, fun y7 h7 hy7 => ?_⟩
  obtain ⟨rfl, hh⟩ := hy7
  rw [hh]
  clear hh
  refine ⟨fun c10 => ?_, fun c10 => absurd c10 (by rw [show (decide ((1 : Int32) ≤ nI (x + 1)) && decide (nI (x + 1) ≤ 20)) = true from within_t (lo := 1) (x := x + 1) (hi := 20) (by omega) (by omega) (by decide)]; decide)⟩
  
  refine step.1 _ _ _ _ _ _ _ sgX6_takeBack_14_ok ?_
  refine ⟨rfl, ?_⟩
  refine ⟨by decide, _, _, hR.1, rfl, ?_⟩
  refine ⟨_, hR.1, Nat.le_of_ble_eq_true rfl, rfl, ?_⟩
  refine ⟨by decide, _, _, rfl, rfl, ?_⟩
  refine ⟨by decide, _, _, rfl, rfl, ?_⟩
  refine ⟨_, _, hR.2.2.2, by rw [show ((nI (x + 1) - 1) * 5 + 1 : Int32) = nI (x * 5 + 1) from by rw [e1, e5]; exact nI_1 _]; exact vp_in_nI (by omega) (by decide), ?_⟩
  refine ⟨by decide, _, _, rfl, rfl, ?_⟩
  refine ⟨_, _, hR.2.2.2, by rw [show ((nI (x + 1) - 1) * 5 + 2 : Int32) = nI (x * 5 + 2) from by rw [e1, e5]; exact nI_add _ 2]; exact vp_in_nI (by omega) (by decide), ?_⟩
  refine ⟨by decide, _, _, rfl, rfl, ?_⟩
  refine ⟨_, _, hR.2.2.2, by rw [show ((nI (x + 1) - 1) * 5 + 3 : Int32) = nI (x * 5 + 3) from by rw [e1, e5]; exact nI_add _ 3]; exact vp_in_nI (by omega) (by decide), ?_⟩
  refine ⟨by decide, _, _, rfl, rfl, ?_⟩
  refine ⟨_, _, hR.2.2.2, by rw [show ((nI (x + 1) - 1) * 5 : Int32) = nI (x * 5) from by rw [e1, e5]]; exact vp_in_nI (by omega) (by decide), ?_⟩
  have eK : U ((nI (x + 1) - 1 : Int32) * 5).toNatClampNeg = 4 := by rw [e1, e5, h_tn (n := x * 5) (by omega)]; exact hk0
  refine ⟨fun c => ⟨152, by decide, ?_⟩, fun j ca cb cj => absurd cb (by rw [eK]; decide)⟩
  exact main _ rfl
end Q08F
