section Q09K
theorem I_reader {g : qG} (hg : qOK g) {f : Nat → Option qE} (ho : f 33 = some (.inl (5, qdef 5 4))) : qSpec g 2 9 296 mX5_init [.ref 33, .ref 1] (34, f) (fun r h' => r = none ∧ ∃ f' : Nat → Option qE, h' = (43, f') ∧ (∀ j : Nat, j < 33 → f' j = f j) ∧ f' 33 = some E33 ∧ isR (43, f') 34 35 36 37 z0 z0 z0 0 0 0 0 2 120 ∧ isC (43, f') 38 39 z0 0 ∧ isB (43, f') 40 41 42 z0 z0 0 0 0 0 0) := by
  refine qSpec_run 5 "<init>" true hg mX5_init_ok rfl rfl (Nat.le_of_ble_eq_true rfl) (by decide) ?_
  intro run step
  refine step.1 _ _ _ _ _ _ _ sgX5_init_0_ok ?_
  refine Or.inr ⟨by decide, rfl, ⟨by decide, by decide⟩, ?_⟩
  refine ⟨Nat.le_of_ble_eq_true rfl, Nat.le_of_ble_eq_true rfl, ?_⟩
  refine ⟨rfl, ?_⟩
  refine Or.inl ⟨rfl, _, 1, 3, 230, _, Or.inr qi_5_11, ⟨rfl, rfl⟩, rfl, rfl, I_round_34 hg rfl, fun y9 h9 hy9 => ?_⟩
  obtain ⟨rfl, f1, rfl, hk, hR⟩ := hy9
  have ho := (hk 33 (by decide)).trans ho
  have hkk : ∀ j : Nat, j < 33 → f1 j = f j := fun j hj => (hk j (by omega)).trans (qup_n (f := f) (k := 34) (by omega))
  clear hk
  refine ⟨_, ho, Nat.le_of_ble_eq_true rfl, rfl, ?_⟩
  refine ⟨Nat.le_of_ble_eq_true rfl, Nat.le_of_ble_eq_true rfl, ?_⟩
  refine ⟨rfl, ?_⟩
  refine Or.inl ⟨rfl, _, 1, 1, 32, _, Or.inr qi_5_20, ⟨rfl, rfl⟩, rfl, rfl, I_choir_38 hg rfl, fun y20 h20 hy20 => ?_⟩
  obtain ⟨rfl, f2, rfl, hk, hQ⟩ := hy20
  have ho := (hk 33 (by decide)).trans rfl
  have hR : isR (40, f2) 34 35 36 37 z0 z0 z0 0 0 0 0 2 120 := ⟨(hk 34 (by decide)).trans hR.1, (hk 35 (by decide)).trans hR.2.1, (hk 36 (by decide)).trans hR.2.2.1, (hk 37 (by decide)).trans hR.2.2.2⟩
  have hkk : ∀ j : Nat, j < 33 → f2 j = f j := fun j hj => (hk j (by omega)).trans (by
    simp only [qup, if_neg (show ¬ j = 38 by omega), if_neg (show ¬ j = 33 by omega)]
    exact hkk j hj)
  clear hk
  refine ⟨_, ho, Nat.le_of_ble_eq_true rfl, rfl, ?_⟩
  refine ⟨Nat.le_of_ble_eq_true rfl, Nat.le_of_ble_eq_true rfl, ?_⟩
  refine ⟨rfl, ?_⟩
  refine Or.inl ⟨rfl, _, 1, 2, 16, _, Or.inr qi_5_27, ⟨rfl, rfl⟩, rfl, rfl, I_book_40 hg rfl, fun y31 h31 hy31 => ?_⟩
  obtain ⟨rfl, f3, rfl, hk, hB⟩ := hy31
  have ho := (hk 33 (by decide)).trans rfl
  have hR : isR (43, f3) 34 35 36 37 z0 z0 z0 0 0 0 0 2 120 := ⟨(hk 34 (by decide)).trans hR.1, (hk 35 (by decide)).trans hR.2.1, (hk 36 (by decide)).trans hR.2.2.1, (hk 37 (by decide)).trans hR.2.2.2⟩
  have hQ : isC (43, f3) 38 39 z0 0 := ⟨(hk 38 (by decide)).trans hQ.1, (hk 39 (by decide)).trans hQ.2⟩
  have hkk : ∀ j : Nat, j < 33 → f3 j = f j := fun j hj => (hk j (by omega)).trans (by
    simp only [qup, if_neg (show ¬ j = 40 by omega), if_neg (show ¬ j = 33 by omega)]
    exact hkk j hj)
  clear hk
  refine ⟨_, ho, Nat.le_of_ble_eq_true rfl, rfl, ?_⟩
  refine ⟨_, rfl, Nat.le_of_ble_eq_true rfl, rfl, ?_⟩
  refine ⟨rfl, Nat.le_refl _, Nat.le_refl _, ?_⟩
  exact ⟨rfl, _, rfl, (fun j hj => by
    simp only [qup, if_neg (show ¬ j = 33 by omega)]
    exact hkk j hj), rfl, ⟨hR.1, hR.2.1, hR.2.2.1, hR.2.2.2⟩, ⟨hQ.1, hQ.2⟩, ⟨hB.1, hB.2.1, hB.2.2⟩⟩
theorem I_lreader {g : qG} (hg : qOK g) {f : Nat → Option qE} (ho : f 43 = some (.inl (4, qdef 4 2))) : qSpec g 2 4 456 mX4_init [.ref 43, .ref 1] (44, f) (fun r h' => r = none ∧ ∃ f' : Nat → Option qE, h' = (48, f') ∧ (∀ j : Nat, j < 43 → f' j = f j) ∧ f' 43 = some E43 ∧ isL (48, f') 44 45 46 47 z0 z0 z0 0) := by
  refine qSpec_run 4 "<init>" true hg mX4_init_ok rfl rfl (Nat.le_of_ble_eq_true rfl) (by decide) ?_
  intro run step
  refine step.1 _ _ _ _ _ _ _ sgX4_init_0_ok ?_
  refine Or.inr ⟨by decide, rfl, ⟨by decide, by decide⟩, ?_⟩
  refine ⟨Nat.le_of_ble_eq_true rfl, Nat.le_of_ble_eq_true rfl, ?_⟩
  refine ⟨rfl, ?_⟩
  refine Or.inl ⟨rfl, _, 1, 3, 452, _, Or.inr qi_4_11, ⟨rfl, rfl⟩, rfl, rfl, I_law_44 hg rfl, fun y9 h9 hy9 => ?_⟩
  obtain ⟨rfl, f1, rfl, hk, hL⟩ := hy9
  have ho := (hk 43 (by decide)).trans ho
  have hkk : ∀ j : Nat, j < 43 → f1 j = f j := fun j hj => (hk j (by omega)).trans (qup_n (f := f) (k := 44) (by omega))
  clear hk
  refine ⟨_, ho, Nat.le_of_ble_eq_true rfl, rfl, ?_⟩
  refine ⟨_, rfl, Nat.le_of_ble_eq_true rfl, rfl, ?_⟩
  refine ⟨rfl, Nat.le_refl _, Nat.le_refl _, ?_⟩
  exact ⟨rfl, _, rfl, (fun j hj => by
    simp only [qup, if_neg (show ¬ j = 43 by omega)]
    exact hkk j hj), rfl, ⟨hL.1, hL.2.1, hL.2.2.1, hL.2.2.2⟩⟩
end Q09K
