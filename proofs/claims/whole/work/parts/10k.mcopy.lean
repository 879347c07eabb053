section Q10K
/-- the first i of f, then t -/
def cp (f t : Nat → Int32) (i : Nat) : Nat → Int32 := fun j => if j < i then f j else t j
theorem cp_0 (f t : Nat → Int32) : cp f t 0 = t := funext fun j => if_neg (by omega)
theorem cp_s (f t : Nat → Int32) (i : Nat) : upd (cp f t i) i (f i) = cp f t (i + 1) := by
  funext j
  unfold upd cp
  by_cases c : j = i
  · rw [if_pos c, if_pos (by omega), c]
  · by_cases c2 : j < i
    · rw [if_neg c, if_pos c2, if_pos (by omega)]
    · rw [if_neg c, if_neg c2, if_neg (by omega)]
theorem M_copies {g : qG} (hg : qOK g) {h : qH} {a b sa sb n : Nat} {f t : Nat → Int32} (hA : h.2 a = some (aI' sa f)) (hB : h.2 b = some (aI' sb t)) (hab : a ≠ b) (hna : n ≤ sa) (hnb : n ≤ sb) (hsa : sa < 10000) (hsb : sb < 10000) : qSpec g 1 0 0 mX12_copies [.ref 63, .ref a, .ref b, .int (nI n)] h (fun r h' => r = none ∧ h'.2 b = some (aI' sb (cp f t n)) ∧ same h h' [b]) := by
  refine qSpec_run 12 "copies" false hg mX12_copies_ok rfl rfl (Nat.le_of_ble_eq_true rfl) (by decide) ?_
  intro run step
  have loop : ∀ (m i : Nat) (hX : qH), i + m = n → hX.2 b = some (aI' sb (cp f t i)) → same h hX [b] → run 3 [(4, .int (nI i)), (0, .ref 63), (1, .ref a), (2, .ref b), (3, .int (nI n))] [] hX 0 0 := by
    intro m
    induction m with
    | zero =>
      intro i hX hm hX2 hs
      have hAX := (hs.2 a (by simpa using hab)).trans hA
      refine step.1 _ _ _ _ _ _ _ sgX12_copies_3_ok ?_
      refine ⟨fun c6 => ?_, fun c6 => absurd (show nI n ≤ nI i from nI_le (by omega) (by omega)) c6⟩
      
      refine step.1 _ _ _ _ _ _ _ sgX12_copies_23_ok ?_
      refine ⟨rfl, Nat.le_refl _, Nat.le_refl _, ?_⟩
      exact ⟨rfl, by rw [hX2, show i = n by omega], hs⟩
    | succ m ih =>
      intro i hX hm hX2 hs
      have hAX := (hs.2 a (by simpa using hab)).trans hA
      refine step.1 _ _ _ _ _ _ _ sgX12_copies_3_ok ?_
      refine ⟨fun c6 => absurd c6 (h_nle (by omega) (by omega)), fun c6 => ?_⟩
      refine ⟨_, _, hAX, vp_in_nI (n := i) (N := sa) (by omega) (by omega), ?_⟩
      refine ⟨_, _, hX2, vp_in_nI (n := i) (N := sb) (by omega) (by omega), ?_⟩
      have kk2 := fun hZ => ih (i + 1) hZ (by omega)
      rw [← nI_1] at kk2
      refine kk2 _ ?_ ?_
      · refine qup_s.trans ?_
        show some (aI' sb (upd (cp f t i) (nI i).toNatClampNeg (f (nI i).toNatClampNeg))) = _
        rw [h_tn (n := i) (by omega), cp_s]
      · exact hs.t2 (same.up (List.mem_singleton.mpr rfl) : same hX _ [b]) (by simp)
  refine step.1 _ _ _ _ _ _ _ sgX12_copies_0_ok ?_
  exact loop n 0 h (by omega) (by rw [cp_0]; exact hB) same.rf
theorem M_clears {g : qG} (hg : qOK g) {h : qH} {x : Nat → Int32} {y : Nat → Int64} (hM : h.2 63 = some (M63 x y)) : qSpec g 1 0 0 mX12_clears [.ref 63] h (fun r h' => r = none ∧ h' = (h.1, h'.2) ∧ h'.2 63 = some (M63 (upd (upd (upd (upd (upd x 14 0) 15 0) 16 0) 17 2) 18 120) y) ∧ same h h' [63]) := by
  refine qSpec_run 12 "clears" false hg mX12_clears_ok rfl rfl (Nat.le_of_ble_eq_true rfl) (by decide) ?_
  intro run step
  refine step.1 _ _ _ _ _ _ _ sgX12_clears_0_ok ?_
  refine ⟨_, hM, Nat.le_of_ble_eq_true rfl, rfl, ?_⟩
  refine ⟨_, rfl, Nat.le_of_ble_eq_true rfl, rfl, ?_⟩
  refine ⟨_, rfl, Nat.le_of_ble_eq_true rfl, rfl, ?_⟩
  refine ⟨_, rfl, Nat.le_of_ble_eq_true rfl, rfl, ?_⟩
  refine ⟨_, rfl, Nat.le_of_ble_eq_true rfl, rfl, ?_⟩
  refine ⟨rfl, Nat.le_refl _, Nat.le_refl _, ?_⟩
  exact ⟨rfl, rfl, rfl, rfl, fun j hj => by
    have hj2 : ¬ j = 63 := by simpa using hj
    simp only [qup, if_neg hj2]⟩
set_option maxHeartbeats 1000000 in
theorem M_sets {g : qG} (hg : qOK g) {h : qH} {x : Nat → Int32} {y : Nat → Int64} (hM : h.2 63 = some (M63 x y)) {nd dr ns sg cs : Nat → Int32} (hNd : h.2 66 = some (aI' 100 nd)) (hDr : h.2 67 = some (aI' 100 dr)) (hNs : h.2 68 = some (aI' 32 ns)) (hSg : h.2 69 = some (aI' 32 sg)) (hCs : h.2 74 = some (aI' 2 cs)) : qSpec g 2 0 0 mX12_sets [.ref 63] h (fun r h' => r = none ∧ ∃ x' : Nat → Int32, h'.2 63 = some (M63 x' y) ∧ h'.2 67 = some (aI' 100 (cp nd dr 100)) ∧ h'.2 69 = some (aI' 32 (cp ns sg 32)) ∧ h'.2 74 = some (aI' 2 (upd (upd cs 0 0) 1 0)) ∧ same h h' [63, 67, 69, 74] ∧ x' 19 = x 14 ∧ x' 20 = x 15 ∧ x' 21 = x 16 ∧ x' 22 = x 17 ∧ x' 23 = x 18 ∧ x' 36 = 0 ∧ x' 37 = 0 ∧ x' 62 = 0 ∧ x' 64 = 0 ∧ (∀ k : Nat, k ∉ [19, 20, 21, 22, 23, 36, 37, 62, 64] → x' k = x k)) := by
  refine qSpec_run 12 "sets" false hg mX12_sets_ok rfl rfl (Nat.le_of_ble_eq_true rfl) (by decide) ?_
  intro run step
  refine step.1 _ _ _ _ _ _ _ sgX12_sets_0_ok ?_
  refine ⟨by decide, _, _, hM, rfl, ?_⟩
  refine ⟨_, hM, Nat.le_of_ble_eq_true rfl, rfl, ?_⟩
  refine ⟨by decide, _, _, rfl, rfl, ?_⟩
  refine ⟨_, rfl, Nat.le_of_ble_eq_true rfl, rfl, ?_⟩
  refine ⟨by decide, _, _, rfl, rfl, ?_⟩
  refine ⟨_, rfl, Nat.le_of_ble_eq_true rfl, rfl, ?_⟩
  refine ⟨by decide, _, _, rfl, rfl, ?_⟩
  refine ⟨_, rfl, Nat.le_of_ble_eq_true rfl, rfl, ?_⟩
  refine ⟨by decide, _, _, rfl, rfl, ?_⟩
  refine ⟨_, rfl, Nat.le_of_ble_eq_true rfl, rfl, ?_⟩
  refine ⟨by decide, _, _, rfl, rfl, ?_⟩
  refine ⟨by decide, _, _, rfl, rfl, ?_⟩
  refine Or.inl ⟨rfl, _, 1, 0, 0, _, _, _, qi_12_186, ⟨rfl, rfl⟩, ⟨rfl, rfl⟩, rfl, rfl, M_copies hg (a := 66) (b := 67) (sa := 100) (sb := 100) (n := 100) (f := nd) (t := dr) (by exact hNd) (by exact hDr) (by decide) (Nat.le_refl _) (Nat.le_refl _) (by decide) (by decide), fun y51 h51 hy51 => ?_⟩
  obtain ⟨rfl, hDr6, hs6⟩ := hy51
  have hM6 : h51.2 63 = some (M63 (upd (upd (upd (upd (upd x 19 (x 14)) 20 (x 15)) 21 (x 16)) 22 (x 17)) 23 (x 18)) y) := (hs6.2 63 (by decide)).trans rfl
  have hNs6 := (hs6.2 68 (by decide)).trans hNs
  have hSg6 := (hs6.2 69 (by decide)).trans hSg
  have hCs6 := (hs6.2 74 (by decide)).trans hCs
  have hsA : same h h51 [63, 67, 69, 74] := same.tr (l := [63]) (by
    refine ⟨rfl, fun j hj => ?_⟩
    have hj2 : ¬ j = 63 := by simpa using hj
    simp only [qup, if_neg hj2]) hs6 (by simp) (by simp)
  refine ⟨by decide, _, _, hM6, rfl, ?_⟩
  refine ⟨by decide, _, _, hM6, rfl, ?_⟩
  refine Or.inl ⟨rfl, _, 1, 0, 0, _, _, _, qi_12_186, ⟨rfl, rfl⟩, ⟨hM6, rfl⟩, rfl, rfl, M_copies hg (n := 32) hNs6 hSg6 (by decide) (Nat.le_refl _) (Nat.le_refl _) (by decide) (by decide), fun y65 h65 hy65 => ?_⟩
  obtain ⟨rfl, hSg7, hs7⟩ := hy65
  have hM7 := (hs7.2 63 (by decide)).trans hM6
  have hCs7 := (hs7.2 74 (by decide)).trans hCs6
  have hDr7 := (hs7.2 67 (by decide)).trans hDr6
  have hsB := hsA.t2 hs7 (by decide)
  refine ⟨by decide, _, _, hM7, rfl, ?_⟩
  refine ⟨_, _, hCs7, (vp_in_nI (n := 0) (N := 2) (by decide) (by decide) : vp_in (nI 0) 2), ?_⟩
  refine ⟨by decide, _, _, hM7, rfl, ?_⟩
  refine ⟨_, _, rfl, (vp_in_nI (n := 1) (N := 2) (by decide) (by decide) : vp_in (nI 1) 2), ?_⟩
  refine ⟨_, hM7, Nat.le_of_ble_eq_true rfl, rfl, ?_⟩
  refine ⟨_, rfl, Nat.le_of_ble_eq_true rfl, rfl, ?_⟩
  refine ⟨_, rfl, Nat.le_of_ble_eq_true rfl, rfl, ?_⟩
  refine ⟨_, rfl, Nat.le_of_ble_eq_true rfl, rfl, ?_⟩
  refine ⟨rfl, Nat.le_refl _, Nat.le_refl _, ?_⟩
  exact ⟨rfl, (upd (upd (upd (upd (upd (upd (upd (upd (upd x 19 (x 14)) 20 (x 15)) 21 (x 16)) 22 (x 17)) 23 (x 18)) 36 0) 37 0) 62 0) 64 0), rfl, hDr7, hSg7, rfl, ⟨hsB.1, fun j hj => by
    have h63 : ¬ j = 63 := fun e => hj (e ▸ by simp)
    have h74 : ¬ j = 74 := fun e => hj (e ▸ by simp)
    simp only [qup, if_neg h63, if_neg h74]
    exact hsB.2 j hj⟩, rfl, rfl, rfl, rfl, rfl, rfl, rfl, rfl, rfl, fun k hk => by
    simp at hk
    obtain ⟨h1, h2, h3, h4, h5, h6, h7, h8, h9⟩ := hk
    simp only [upd, if_neg h1, if_neg h2, if_neg h3, if_neg h4, if_neg h5, if_neg h6, if_neg h7, if_neg h8, if_neg h9]⟩
end Q10K
