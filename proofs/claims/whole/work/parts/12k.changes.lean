section Q12K
theorem M_changes {g : qG} (hg : qOK g) {h : qH} {x : Nat → Int32} {y : Nat → Int64} {F : Nat → Nat → Int32} {G : Nat → Nat → Int64} (hM : MX h x y F G) {S : CS} (hR : Rel S x F) (hu : S.2.1.2.2.2.2.2.1 ≤ 20) : qSpec g 2 0 0 mX12_changes [.ref 63] h (fun r h' => (S.2.1.2.2.2.2.2.1 = 20 ∧ r = some (.int 0) ∧ h' = h) ∨ (S.2.1.2.2.2.2.2.1 < 20 ∧ r = some (.int 1) ∧ MX h' (upd x 62 (nI (S.2.1.2.2.2.2.2.1 + 1))) y (fup F 90 (krow (F 90) (132 * S.2.1.2.2.2.2.2.1) (F 67) (F 78) (x 36) (x 23))) G ∧ kp h h')) := by
  refine qSpec_run 12 "changes" false hg mX12_changes_ok rfl rfl (Nat.le_of_ble_eq_true rfl) (by decide) ?_
  intro run step
  have e62 : x 62 = nI S.2.1.2.2.2.2.2.1 := hR.1.2.2.2.2.2.2.2.2.2.1
  have e132 : (132 * x 62 : Int32) = nI (132 * S.2.1.2.2.2.2.2.1) := by rw [e62, Int32.mul_comm]; exact (pk_mul _ 132).trans (by rw [Nat.mul_comm])
  refine step.1 _ _ _ _ _ _ _ sgX12_changes_0_ok ?_
  refine ⟨by decide, _, _, hM.1, rfl, ?_⟩
  refine ⟨fun c6 => ?_, fun c6 => ?_⟩
  · have d6 : ¬ S.2.1.2.2.2.2.2.1 = 20 := fun q => c6 (by rw [e62, q]; rfl)
    refine step.1 _ _ _ _ _ _ _ sgX12_changes_11_ok ?_
    refine ⟨by decide, _, _, hM.1, rfl, ?_⟩
    refine ⟨by decide, _, _, hM.1, rfl, ?_⟩
    refine Or.inl ⟨rfl, _, 1, 0, 0, _, _, _, qi_12_524, ⟨rfl, rfl⟩, ⟨hM.1, rfl⟩, rfl, rfl, (by rw [e132]; exact M_keepsIn hg hM (a := 90) (sz := 2640) (b := 132 * S.2.1.2.2.2.2.2.1) hM.c90 (by decide) (by decide) (by decide) (by omega) (by decide)), fun y24 h24 hy24 => ?_⟩
    obtain ⟨rfl, hA, hs⟩ := hy24
    have hM2 : MX h24 x y (fup F 90 (krow (F 90) (132 * S.2.1.2.2.2.2.2.1) (F 67) (F 78) (x 36) (x 23))) G := hM.vk (by decide) hA (fun j hj => hs.2 j (by simpa using hj))
    have hk2 := (kp.rf (h := h)).s hs (by simp)
    refine ⟨rfl, ?_⟩
    refine ⟨by decide, _, _, hM2.1, rfl, ?_⟩
    refine ⟨_, hM2.1, Nat.le_of_ble_eq_true rfl, rfl, ?_⟩
    refine ⟨.boolean, rfl, rfl, Nat.le_refl _, Nat.le_refl _, ?_⟩
    refine Or.inr ⟨by omega, rfl, hM2.p63 ?_, hk2.u (by decide) (by decide)⟩
    rw [← nI_1, ← e62]
    exact sI_62 rfl
  · have d6 : S.2.1.2.2.2.2.2.1 = 20 := (nI_eq (b := 20) (by omega) (by decide)).mp (by rw [← e62]; exact c6)
    refine ⟨.boolean, rfl, rfl, Nat.le_refl _, Nat.le_refl _, ?_⟩
    exact Or.inl ⟨d6, rfl, rfl⟩
end Q12K
