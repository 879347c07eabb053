section Q15E
theorem K_of {s : State} {a : Array Value} (hts : ∀ w ∈ lw_tbl, w.before a s = true) : ∃ D : va_G, va_K D vwCl [] s := by
  have h0 : ∀ ci : Nat, ∃ q : ClassId × (Nat → Nat), ∀ r : vw_C, vwCl[ci]? = some r → u_Kn s r.1 r.2.1 r.2.2 q.1 q.2 := by
    intro ci
    have key : ∀ r : vw_C, vwCl[ci]? = some r → Jvm.Cond.instantiable r.1 r.2.2 ∈ lw_tbl → ∃ q : ClassId × (Nat → Nat), ∀ r : vw_C, vwCl[ci]? = some r → u_Kn s r.1 r.2.1 r.2.2 q.1 q.2 := fun r hr hi => by
      obtain ⟨cC, iS, hk⟩ := u_known hts (fun w hw => (q_lays ci r hr w hw).1) (hts _ hi)
      exact ⟨(cC, iS), fun r2 h2 => by rw [hr] at h2; cases h2; exact hk⟩
    match ci with
    | 0 => exact key _ rfl (qat_in (p := (1, 163)) (by decide +kernel))
    | 1 => exact key _ rfl (qat_in (p := (1, 128)) (by decide +kernel))
    | 2 => exact key _ rfl (qat_in (p := (2, 140)) (by decide +kernel))
    | 3 => exact key _ rfl (qat_in (p := (1, 144)) (by decide +kernel))
    | 4 => exact key _ rfl (qat_in (p := (1, 224)) (by decide +kernel))
    | 5 => exact key _ rfl (qat_in (p := (1, 196)) (by decide +kernel))
    | 6 => exact key _ rfl (qat_in (p := (1, 70)) (by decide +kernel))
    | 7 => exact key _ rfl (qat_in (p := (2, 95)) (by decide +kernel))
    | 8 => exact key _ rfl (qat_in (p := (1, 34)) (by decide +kernel))
    | 9 => exact key _ rfl (qat_in (p := (2, 39)) (by decide +kernel))
    | 10 => exact key _ rfl (qat_in (p := (2, 0)) (by decide +kernel))
    | 11 => exact key _ rfl (qat_in (p := (1, 26)) (by decide +kernel))
    | 12 => exact key _ rfl (qat_in (p := (7, 21)) (by decide +kernel))
    | n + 13 => exact ⟨(by first | exact (0 : Nat) | exact default | exact (⟨0⟩), fun _ => 0), fun r hr => by cases hr⟩
  obtain ⟨D, hD⟩ := Classical.axiomOfChoice h0
  exact ⟨(fun c => (D c).1, fun c => (D c).2), fun c q hq => hD c q hq, fun k q hq => by cases hq⟩
theorem qCAT_of {g : qG} {a : Array Value} (h : ∀ j k : Nat, j < 3 → k < 3 → j ≠ k → (Jvm.Cond.not (.castable (exN j) (exN k))).before a g.2.1 = true) : qCAT g := fun j k hj hk hjk => va_Nc.of (h j k hj hk hjk)
theorem J_check3n {g : qG} (hg : qOK g) {h : qH} {n i : Nat} (hn : n < 1000) (hi : i < n) : qSpec g 1 0 0 mJ3_checkIndex_8e157 [.int (nI i), .int (nI n), .null] h (fun r h' => r = some (.int (nI i)) ∧ h' = h) := by
  refine qSpec_run 17 "checkIndex" false hg mJ3_checkIndex_8e157_ok rfl rfl (Nat.le_of_ble_eq_true rfl) (by decide) ?_
  intro run step
  refine step.1 _ _ _ _ _ _ _ sgJ3_checkIndex_8e157_0_ok ?_
  refine ⟨fun c => absurd c (h_nn (by omega)), fun c => ⟨fun c2 => ?_, fun c2 => absurd (nI_lt hi (by omega)) c2⟩⟩
  refine step.1 _ _ _ _ _ _ _ sgJ3_checkIndex_8e157_16_ok ?_
  exact ⟨.int, rfl, rfl, Nat.le_refl _, Nat.le_refl _, rfl, rfl⟩
theorem J_checkN {g : qG} (hg : qOK g) (hJ : qGS g RJ0 38 (.int 1) ∧ (qGS g RJ0 1053 .null ∨ qGS g RJ0 1053 (.retAddr 2))) {h : qH} {n i : Nat} (hn : n < 1000) (hi : i < n) : qSpec g 2 0 0 mJ0_checkIndex_df160 [.int (nI i), .int (nI n)] h (fun r h' => r = none ∧ h' = h) := by
  refine qSpec_run 14 "checkIndex" false hg mJ0_checkIndex_df160_ok rfl rfl (Nat.le_of_ble_eq_true rfl) (by decide) ?_
  intro run step
  refine step.1 _ _ _ _ _ _ _ sgJ0_checkIndex_df160_0_ok ?_
  rcases hJ.2 with hJ2 | hJ2
  · refine ⟨_, hJ2, Or.inl ⟨rfl, _, 1, 0, 0, _, Or.inl qi_14_1059, ⟨rfl, rfl⟩, rfl, rfl, J_check3n hg hn hi, fun y h2 hy => ?_⟩⟩
    obtain ⟨rfl, rfl⟩ := hy
    exact ⟨rfl, rfl, Nat.le_refl _, Nat.le_refl _, rfl, rfl⟩
  · refine ⟨_, hJ2, Or.inl ⟨rfl, _, 1, 0, 0, _, Or.inl qi_14_1059, ⟨rfl, rfl⟩, rfl, rfl, J_check3 hg hn hi, fun y h2 hy => ?_⟩⟩
    obtain ⟨rfl, rfl⟩ := hy
    exact ⟨rfl, rfl, Nat.le_refl _, Nat.le_refl _, rfl, rfl⟩
end Q15E
