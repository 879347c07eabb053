section Q10K
/-- the first i of f, then t -/
def cp (f t : Nat → Int32) (i : Nat) : Nat → Int32 := fun j => if j < i then f j else t j
theorem cp_0 (f t : Nat → Int32) : cp f t 0 = t := funext fun j => if_neg (by omega)
theorem cp_s (f t : Nat → Int32) (i : Nat) : upd (cp f t i) i (f i) = cp f t (i + 1) := by
  funext j
  unfold upd cp
  by_cases c : j = i
  · rw [if_pos c, if_pos (by omega), c]
  · by_cases c2 : j < i
    · rw [if_neg c, if_pos c2, if_pos (by omega)]
    · rw [if_neg c, if_neg c2, if_neg (by omega)]
theorem M_copies {g : qG} (hg : qOK g) {h : qH} {a b sa sb n : Nat} {f t : Nat → Int32} (hA : h.2 a = some (aI' sa f)) (hB : h.2 b = some (aI' sb t)) (hab : a ≠ b) (hna : n ≤ sa) (hnb : n ≤ sb) (hsa : sa < 10000) (hsb : sb < 10000) : qSpec g 1 0 0 mX12_copies [.ref 63, .ref a, .ref b, .int (nI n)] h (fun r h' => r = none ∧ h'.2 b = some (aI' sb (cp f t n)) ∧ same h h' [b]) := by
  refine qSpec_run 12 "copies" false hg mX12_copies_ok rfl rfl (Nat.le_of_ble_eq_true rfl) (by decide) ?_
  intro run step
  have loop : ∀ (m i : Nat) (hX : qH), i + m = n → hX.2 b = some (aI' sb (cp f t i)) → same h hX [b] → run 3 [(4, .int (nI i)), (0, .ref 63), (1, .ref a), (2, .ref b), (3, .int (nI n))] [] hX 0 0 := by
    intro m
    induction m with
    | zero =>
      intro i hX hm hX2 hs
      have hAX := (hs.2 a (by simpa using hab)).trans hA
      refine step.1 _ _ _ _ _ _ _ sgX12_copies_3_ok ?_
      refine ⟨fun c6 => ?_, fun c6 => absurd (show nI n ≤ nI i from nI_le (by omega) (by omega)) c6⟩
      
      refine step.1 _ _ _ _ _ _ _ sgX12_copies_23_ok ?_
      refine ⟨rfl, Nat.le_refl _, Nat.le_refl _, ?_⟩
      exact ⟨rfl, by rw [hX2, show i = n by omega], hs⟩
    | succ m ih =>
      intro i hX hm hX2 hs
      have hAX := (hs.2 a (by simpa using hab)).trans hA
      refine step.1 _ _ _ _ _ _ _ sgX12_copies_3_ok ?_
      refine ⟨fun c6 => absurd c6 (h_nle (by omega) (by omega)), fun c6 => ?_⟩
      refine ⟨_, _, hAX, vp_in_nI (n := i) (N := sa) (by omega) (by omega), ?_⟩
      refine ⟨_, _, hX2, vp_in_nI (n := i) (N := sb) (by omega) (by omega), ?_⟩
      have kk2 := fun hZ => ih (i + 1) hZ (by omega)
      rw [← nI_1] at kk2
      refine kk2 _ ?_ ?_
      · refine qup_s.trans ?_
        show some (aI' sb (upd (cp f t i) (nI i).toNatClampNeg (f (nI i).toNatClampNeg))) = _
        rw [h_tn (n := i) (by omega), cp_s]
      · exact hs.t2 (same.up (List.mem_singleton.mpr rfl) : same hX _ [b]) (by simp)
  refine step.1 _ _ _ _ _ _ _ sgX12_copies_0_ok ?_
  exact loop n 0 h (by omega) (by rw [cp_0]; exact hB) same.rf
theorem M_clears {g : qG} (hg : qOK g) {h : qH} {x : Nat → Int32} {y : Nat → Int64} (hM : h.2 63 = some (M63 x y)) : qSpec g 1 0 0 mX12_clears [.ref 63] h (fun r h' => r = none ∧ h' = (h.1, h'.2) ∧ h'.2 63 = some (M63 (upd (upd (upd (upd (upd x 14 0) 15 0) 16 0) 17 2) 18 120) y) ∧ same h h' [63]) := by
  refine qSpec_run 12 "clears" false hg mX12_clears_ok rfl rfl (Nat.le_of_ble_eq_true rfl) (by decide) ?_
  intro run step
  refine step.1 _ _ _ _ _ _ _ sgX12_clears_0_ok ?_
  refine ⟨_, hM, Nat.le_of_ble_eq_true rfl, rfl, ?_⟩
  refine ⟨_, rfl, Nat.le_of_ble_eq_true rfl, rfl, ?_⟩
  refine ⟨_, rfl, Nat.le_of_ble_eq_true rfl, rfl, ?_⟩
  refine ⟨_, rfl, Nat.le_of_ble_eq_true rfl, rfl, ?_⟩
  refine ⟨_, rfl, Nat.le_of_ble_eq_true rfl, rfl, ?_⟩
  refine ⟨rfl, Nat.le_refl _, Nat.le_refl _, ?_⟩
  exact ⟨rfl, rfl, rfl, rfl, fun j hj => by
    have hj2 : ¬ j = 63 := by simpa using hj
    simp only [qup, if_neg hj2]⟩
end Q10K
