section Q09J
/-- nothing has been told yet -/
def z0 : Nat → Int32 := fun _ => 0
def R0 : RT := (z0, z0, z0, 0, 0, 0, 0, 2, 120)
def S0 : CS := ((z0, 0, -1), R0, (fun _ => R0, 0), (z0, 0), ((z0, z0, 0), (z0, z0, 0)), (z0, z0, 0), (0, 0, 0))
theorem I_tape {g : qG} (hg : qOK g) {f : Nat → Option qE} (ho : f 1 = some (.inl (8, qdef 8 7))) : qSpec g 1 1 600 mX8_init [.ref 1] (2, f) (fun r h' => r = none ∧ ∃ f' : Nat → Option qE, h' = (3, f') ∧ (∀ j : Nat, j < 1 → f' j = f j) ∧ isT (3, f') 1 2 z0 0 0 0 0 0 (-1)) := by
  refine qSpec_run 8 "<init>" true hg mX8_init_ok rfl rfl (Nat.le_of_ble_eq_true rfl) (by decide) ?_
  intro run step
  refine step.1 _ _ _ _ _ _ _ sgX8_init_0_ok ?_
  refine Or.inr ⟨by decide, rfl, ⟨by decide, by decide⟩, ?_⟩
  refine ⟨_, _, rfl, by decide, by decide, rfl, Nat.le_of_ble_eq_true rfl, Nat.le_of_ble_eq_true rfl, Nat.le_of_ble_eq_true rfl, ?_⟩
  refine ⟨_, ho, Nat.le_of_ble_eq_true rfl, rfl, ?_⟩
  refine ⟨_, rfl, Nat.le_of_ble_eq_true rfl, rfl, ?_⟩
  refine ⟨rfl, Nat.le_refl _, Nat.le_refl _, ?_⟩
  exact ⟨rfl, _, rfl, (fun j hj => by
    have h1 : ¬ j = 1 := by omega
    have h2 : ¬ j = 2 := by omega
    simp only [qup, if_neg h1, if_neg h2]), rfl, rfl⟩
theorem I_round_3 {g : qG} (hg : qOK g) {f : Nat → Option qE} (ho : f 3 = some (.inl (6, qdef 6 9))) : qSpec g 1 3 230 mX6_init [.ref 3] (4, f) (fun r h' => r = none ∧ ∃ f' : Nat → Option qE, h' = (7, f') ∧ (∀ j : Nat, j < 3 → f' j = f j) ∧ isR (7, f') 3 4 5 6 z0 z0 z0 0 0 0 0 2 120) := by
  refine qSpec_run 6 "<init>" true hg mX6_init_ok rfl rfl (Nat.le_of_ble_eq_true rfl) (by decide) ?_
  intro run step
  refine step.1 _ _ _ _ _ _ _ sgX6_init_0_ok ?_
  refine Or.inr ⟨by decide, rfl, ⟨by decide, by decide⟩, ?_⟩
  refine ⟨_, _, rfl, by decide, by decide, rfl, Nat.le_of_ble_eq_true rfl, Nat.le_of_ble_eq_true rfl, Nat.le_of_ble_eq_true rfl, ?_⟩
  refine ⟨_, ho, Nat.le_of_ble_eq_true rfl, rfl, ?_⟩
  refine ⟨_, _, rfl, by decide, by decide, rfl, Nat.le_of_ble_eq_true rfl, Nat.le_of_ble_eq_true rfl, Nat.le_of_ble_eq_true rfl, ?_⟩
  refine ⟨_, rfl, Nat.le_of_ble_eq_true rfl, rfl, ?_⟩
  refine ⟨_, _, rfl, by decide, by decide, rfl, Nat.le_of_ble_eq_true rfl, Nat.le_of_ble_eq_true rfl, Nat.le_of_ble_eq_true rfl, ?_⟩
  refine ⟨_, rfl, Nat.le_of_ble_eq_true rfl, rfl, ?_⟩
  refine ⟨_, rfl, Nat.le_of_ble_eq_true rfl, rfl, ?_⟩
  refine ⟨_, rfl, Nat.le_of_ble_eq_true rfl, rfl, ?_⟩
  refine ⟨rfl, Nat.le_refl _, Nat.le_refl _, ?_⟩
  exact ⟨rfl, _, rfl, (fun j hj => by
    have h3 : ¬ j = 3 := by omega
    have h4 : ¬ j = 4 := by omega
    have h5 : ¬ j = 5 := by omega
    have h6 : ¬ j = 6 := by omega
    simp only [qup, if_neg h3, if_neg h4, if_neg h5, if_neg h6]), rfl, rfl, rfl, rfl⟩
theorem I_round_8 {g : qG} (hg : qOK g) {f : Nat → Option qE} (ho : f 8 = some (.inl (6, qdef 6 9))) : qSpec g 1 3 230 mX6_init [.ref 8] (9, f) (fun r h' => r = none ∧ ∃ f' : Nat → Option qE, h' = (12, f') ∧ (∀ j : Nat, j < 8 → f' j = f j) ∧ isR (12, f') 8 9 10 11 z0 z0 z0 0 0 0 0 2 120) := by
  refine qSpec_run 6 "<init>" true hg mX6_init_ok rfl rfl (Nat.le_of_ble_eq_true rfl) (by decide) ?_
  intro run step
  refine step.1 _ _ _ _ _ _ _ sgX6_init_0_ok ?_
  refine Or.inr ⟨by decide, rfl, ⟨by decide, by decide⟩, ?_⟩
  refine ⟨_, _, rfl, by decide, by decide, rfl, Nat.le_of_ble_eq_true rfl, Nat.le_of_ble_eq_true rfl, Nat.le_of_ble_eq_true rfl, ?_⟩
  refine ⟨_, ho, Nat.le_of_ble_eq_true rfl, rfl, ?_⟩
  refine ⟨_, _, rfl, by decide, by decide, rfl, Nat.le_of_ble_eq_true rfl, Nat.le_of_ble_eq_true rfl, Nat.le_of_ble_eq_true rfl, ?_⟩
  refine ⟨_, rfl, Nat.le_of_ble_eq_true rfl, rfl, ?_⟩
  refine ⟨_, _, rfl, by decide, by decide, rfl, Nat.le_of_ble_eq_true rfl, Nat.le_of_ble_eq_true rfl, Nat.le_of_ble_eq_true rfl, ?_⟩
  refine ⟨_, rfl, Nat.le_of_ble_eq_true rfl, rfl, ?_⟩
  refine ⟨_, rfl, Nat.le_of_ble_eq_true rfl, rfl, ?_⟩
  refine ⟨_, rfl, Nat.le_of_ble_eq_true rfl, rfl, ?_⟩
  refine ⟨rfl, Nat.le_refl _, Nat.le_refl _, ?_⟩
  exact ⟨rfl, _, rfl, (fun j hj => by
    have h8 : ¬ j = 8 := by omega
    have h9 : ¬ j = 9 := by omega
    have h10 : ¬ j = 10 := by omega
    have h11 : ¬ j = 11 := by omega
    simp only [qup, if_neg h8, if_neg h9, if_neg h10, if_neg h11]), rfl, rfl, rfl, rfl⟩
theorem I_round_12 {g : qG} (hg : qOK g) {f : Nat → Option qE} (ho : f 12 = some (.inl (6, qdef 6 9))) : qSpec g 1 3 230 mX6_init [.ref 12] (13, f) (fun r h' => r = none ∧ ∃ f' : Nat → Option qE, h' = (16, f') ∧ (∀ j : Nat, j < 12 → f' j = f j) ∧ isR (16, f') 12 13 14 15 z0 z0 z0 0 0 0 0 2 120) := by
  refine qSpec_run 6 "<init>" true hg mX6_init_ok rfl rfl (Nat.le_of_ble_eq_true rfl) (by decide) ?_
  intro run step
  refine step.1 _ _ _ _ _ _ _ sgX6_init_0_ok ?_
  refine Or.inr ⟨by decide, rfl, ⟨by decide, by decide⟩, ?_⟩
  refine ⟨_, _, rfl, by decide, by decide, rfl, Nat.le_of_ble_eq_true rfl, Nat.le_of_ble_eq_true rfl, Nat.le_of_ble_eq_true rfl, ?_⟩
  refine ⟨_, ho, Nat.le_of_ble_eq_true rfl, rfl, ?_⟩
  refine ⟨_, _, rfl, by decide, by decide, rfl, Nat.le_of_ble_eq_true rfl, Nat.le_of_ble_eq_true rfl, Nat.le_of_ble_eq_true rfl, ?_⟩
  refine ⟨_, rfl, Nat.le_of_ble_eq_true rfl, rfl, ?_⟩
  refine ⟨_, _, rfl, by decide, by decide, rfl, Nat.le_of_ble_eq_true rfl, Nat.le_of_ble_eq_true rfl, Nat.le_of_ble_eq_true rfl, ?_⟩
  refine ⟨_, rfl, Nat.le_of_ble_eq_true rfl, rfl, ?_⟩
  refine ⟨_, rfl, Nat.le_of_ble_eq_true rfl, rfl, ?_⟩
  refine ⟨_, rfl, Nat.le_of_ble_eq_true rfl, rfl, ?_⟩
  refine ⟨rfl, Nat.le_refl _, Nat.le_refl _, ?_⟩
  exact ⟨rfl, _, rfl, (fun j hj => by
    have h12 : ¬ j = 12 := by omega
    have h13 : ¬ j = 13 := by omega
    have h14 : ¬ j = 14 := by omega
    have h15 : ¬ j = 15 := by omega
    simp only [qup, if_neg h12, if_neg h13, if_neg h14, if_neg h15]), rfl, rfl, rfl, rfl⟩
theorem I_round_16 {g : qG} (hg : qOK g) {f : Nat → Option qE} (ho : f 16 = some (.inl (6, qdef 6 9))) : qSpec g 1 3 230 mX6_init [.ref 16] (17, f) (fun r h' => r = none ∧ ∃ f' : Nat → Option qE, h' = (20, f') ∧ (∀ j : Nat, j < 16 → f' j = f j) ∧ isR (20, f') 16 17 18 19 z0 z0 z0 0 0 0 0 2 120) := by
  refine qSpec_run 6 "<init>" true hg mX6_init_ok rfl rfl (Nat.le_of_ble_eq_true rfl) (by decide) ?_
  intro run step
  refine step.1 _ _ _ _ _ _ _ sgX6_init_0_ok ?_
  refine Or.inr ⟨by decide, rfl, ⟨by decide, by decide⟩, ?_⟩
  refine ⟨_, _, rfl, by decide, by decide, rfl, Nat.le_of_ble_eq_true rfl, Nat.le_of_ble_eq_true rfl, Nat.le_of_ble_eq_true rfl, ?_⟩
  refine ⟨_, ho, Nat.le_of_ble_eq_true rfl, rfl, ?_⟩
  refine ⟨_, _, rfl, by decide, by decide, rfl, Nat.le_of_ble_eq_true rfl, Nat.le_of_ble_eq_true rfl, Nat.le_of_ble_eq_true rfl, ?_⟩
  refine ⟨_, rfl, Nat.le_of_ble_eq_true rfl, rfl, ?_⟩
  refine ⟨_, _, rfl, by decide, by decide, rfl, Nat.le_of_ble_eq_true rfl, Nat.le_of_ble_eq_true rfl, Nat.le_of_ble_eq_true rfl, ?_⟩
  refine ⟨_, rfl, Nat.le_of_ble_eq_true rfl, rfl, ?_⟩
  refine ⟨_, rfl, Nat.le_of_ble_eq_true rfl, rfl, ?_⟩
  refine ⟨_, rfl, Nat.le_of_ble_eq_true rfl, rfl, ?_⟩
  refine ⟨rfl, Nat.le_refl _, Nat.le_refl _, ?_⟩
  exact ⟨rfl, _, rfl, (fun j hj => by
    have h16 : ¬ j = 16 := by omega
    have h17 : ¬ j = 17 := by omega
    have h18 : ¬ j = 18 := by omega
    have h19 : ¬ j = 19 := by omega
    simp only [qup, if_neg h16, if_neg h17, if_neg h18, if_neg h19]), rfl, rfl, rfl, rfl⟩
theorem I_round_34 {g : qG} (hg : qOK g) {f : Nat → Option qE} (ho : f 34 = some (.inl (6, qdef 6 9))) : qSpec g 1 3 230 mX6_init [.ref 34] (35, f) (fun r h' => r = none ∧ ∃ f' : Nat → Option qE, h' = (38, f') ∧ (∀ j : Nat, j < 34 → f' j = f j) ∧ isR (38, f') 34 35 36 37 z0 z0 z0 0 0 0 0 2 120) := by
  refine qSpec_run 6 "<init>" true hg mX6_init_ok rfl rfl (Nat.le_of_ble_eq_true rfl) (by decide) ?_
  intro run step
  refine step.1 _ _ _ _ _ _ _ sgX6_init_0_ok ?_
  refine Or.inr ⟨by decide, rfl, ⟨by decide, by decide⟩, ?_⟩
  refine ⟨_, _, rfl, by decide, by decide, rfl, Nat.le_of_ble_eq_true rfl, Nat.le_of_ble_eq_true rfl, Nat.le_of_ble_eq_true rfl, ?_⟩
  refine ⟨_, ho, Nat.le_of_ble_eq_true rfl, rfl, ?_⟩
  refine ⟨_, _, rfl, by decide, by decide, rfl, Nat.le_of_ble_eq_true rfl, Nat.le_of_ble_eq_true rfl, Nat.le_of_ble_eq_true rfl, ?_⟩
  refine ⟨_, rfl, Nat.le_of_ble_eq_true rfl, rfl, ?_⟩
  refine ⟨_, _, rfl, by decide, by decide, rfl, Nat.le_of_ble_eq_true rfl, Nat.le_of_ble_eq_true rfl, Nat.le_of_ble_eq_true rfl, ?_⟩
  refine ⟨_, rfl, Nat.le_of_ble_eq_true rfl, rfl, ?_⟩
  refine ⟨_, rfl, Nat.le_of_ble_eq_true rfl, rfl, ?_⟩
  refine ⟨_, rfl, Nat.le_of_ble_eq_true rfl, rfl, ?_⟩
  refine ⟨rfl, Nat.le_refl _, Nat.le_refl _, ?_⟩
  exact ⟨rfl, _, rfl, (fun j hj => by
    have h34 : ¬ j = 34 := by omega
    have h35 : ¬ j = 35 := by omega
    have h36 : ¬ j = 36 := by omega
    have h37 : ¬ j = 37 := by omega
    simp only [qup, if_neg h34, if_neg h35, if_neg h36, if_neg h37]), rfl, rfl, rfl, rfl⟩
theorem I_choir_20 {g : qG} (hg : qOK g) {f : Nat → Option qE} (ho : f 20 = some (.inl (1, qdef 1 2))) : qSpec g 1 1 32 mX1_init [.ref 20] (21, f) (fun r h' => r = none ∧ ∃ f' : Nat → Option qE, h' = (22, f') ∧ (∀ j : Nat, j < 20 → f' j = f j) ∧ isC (22, f') 20 21 z0 0) := by
  refine qSpec_run 1 "<init>" true hg mX1_init_ok rfl rfl (Nat.le_of_ble_eq_true rfl) (by decide) ?_
  intro run step
  refine step.1 _ _ _ _ _ _ _ sgX1_init_0_ok ?_
  refine Or.inr ⟨by decide, rfl, ⟨by decide, by decide⟩, ?_⟩
  refine ⟨_, _, rfl, by decide, by decide, rfl, Nat.le_of_ble_eq_true rfl, Nat.le_of_ble_eq_true rfl, Nat.le_of_ble_eq_true rfl, ?_⟩
  refine ⟨_, ho, Nat.le_of_ble_eq_true rfl, rfl, ?_⟩
  refine ⟨rfl, Nat.le_refl _, Nat.le_refl _, ?_⟩
  exact ⟨rfl, _, rfl, (fun j hj => by
    have h20 : ¬ j = 20 := by omega
    have h21 : ¬ j = 21 := by omega
    simp only [qup, if_neg h20, if_neg h21]), rfl, rfl⟩
theorem I_choir_38 {g : qG} (hg : qOK g) {f : Nat → Option qE} (ho : f 38 = some (.inl (1, qdef 1 2))) : qSpec g 1 1 32 mX1_init [.ref 38] (39, f) (fun r h' => r = none ∧ ∃ f' : Nat → Option qE, h' = (40, f') ∧ (∀ j : Nat, j < 38 → f' j = f j) ∧ isC (40, f') 38 39 z0 0) := by
  refine qSpec_run 1 "<init>" true hg mX1_init_ok rfl rfl (Nat.le_of_ble_eq_true rfl) (by decide) ?_
  intro run step
  refine step.1 _ _ _ _ _ _ _ sgX1_init_0_ok ?_
  refine Or.inr ⟨by decide, rfl, ⟨by decide, by decide⟩, ?_⟩
  refine ⟨_, _, rfl, by decide, by decide, rfl, Nat.le_of_ble_eq_true rfl, Nat.le_of_ble_eq_true rfl, Nat.le_of_ble_eq_true rfl, ?_⟩
  refine ⟨_, ho, Nat.le_of_ble_eq_true rfl, rfl, ?_⟩
  refine ⟨rfl, Nat.le_refl _, Nat.le_refl _, ?_⟩
  exact ⟨rfl, _, rfl, (fun j hj => by
    have h38 : ¬ j = 38 := by omega
    have h39 : ¬ j = 39 := by omega
    simp only [qup, if_neg h38, if_neg h39]), rfl, rfl⟩
theorem I_law_22 {g : qG} (hg : qOK g) {f : Nat → Option qE} (ho : f 22 = some (.inl (3, qdef 3 4))) : qSpec g 1 3 452 mX3_init [.ref 22] (23, f) (fun r h' => r = none ∧ ∃ f' : Nat → Option qE, h' = (26, f') ∧ (∀ j : Nat, j < 22 → f' j = f j) ∧ isL (26, f') 22 23 24 25 z0 z0 z0 0) := by
  refine qSpec_run 3 "<init>" true hg mX3_init_ok rfl rfl (Nat.le_of_ble_eq_true rfl) (by decide) ?_
  intro run step
  refine step.1 _ _ _ _ _ _ _ sgX3_init_0_ok ?_
  refine Or.inr ⟨by decide, rfl, ⟨by decide, by decide⟩, ?_⟩
  refine ⟨_, _, rfl, by decide, by decide, rfl, Nat.le_of_ble_eq_true rfl, Nat.le_of_ble_eq_true rfl, Nat.le_of_ble_eq_true rfl, ?_⟩
  refine ⟨_, ho, Nat.le_of_ble_eq_true rfl, rfl, ?_⟩
  refine ⟨_, _, rfl, by decide, by decide, rfl, Nat.le_of_ble_eq_true rfl, Nat.le_of_ble_eq_true rfl, Nat.le_of_ble_eq_true rfl, ?_⟩
  refine ⟨_, rfl, Nat.le_of_ble_eq_true rfl, rfl, ?_⟩
  refine ⟨_, _, rfl, by decide, by decide, rfl, Nat.le_of_ble_eq_true rfl, Nat.le_of_ble_eq_true rfl, Nat.le_of_ble_eq_true rfl, ?_⟩
  refine ⟨_, rfl, Nat.le_of_ble_eq_true rfl, rfl, ?_⟩
  refine ⟨rfl, Nat.le_refl _, Nat.le_refl _, ?_⟩
  exact ⟨rfl, _, rfl, (fun j hj => by
    have h22 : ¬ j = 22 := by omega
    have h23 : ¬ j = 23 := by omega
    have h24 : ¬ j = 24 := by omega
    have h25 : ¬ j = 25 := by omega
    simp only [qup, if_neg h22, if_neg h23, if_neg h24, if_neg h25]), rfl, rfl, rfl, rfl⟩
theorem I_law_26 {g : qG} (hg : qOK g) {f : Nat → Option qE} (ho : f 26 = some (.inl (3, qdef 3 4))) : qSpec g 1 3 452 mX3_init [.ref 26] (27, f) (fun r h' => r = none ∧ ∃ f' : Nat → Option qE, h' = (30, f') ∧ (∀ j : Nat, j < 26 → f' j = f j) ∧ isL (30, f') 26 27 28 29 z0 z0 z0 0) := by
  refine qSpec_run 3 "<init>" true hg mX3_init_ok rfl rfl (Nat.le_of_ble_eq_true rfl) (by decide) ?_
  intro run step
  refine step.1 _ _ _ _ _ _ _ sgX3_init_0_ok ?_
  refine Or.inr ⟨by decide, rfl, ⟨by decide, by decide⟩, ?_⟩
  refine ⟨_, _, rfl, by decide, by decide, rfl, Nat.le_of_ble_eq_true rfl, Nat.le_of_ble_eq_true rfl, Nat.le_of_ble_eq_true rfl, ?_⟩
  refine ⟨_, ho, Nat.le_of_ble_eq_true rfl, rfl, ?_⟩
  refine ⟨_, _, rfl, by decide, by decide, rfl, Nat.le_of_ble_eq_true rfl, Nat.le_of_ble_eq_true rfl, Nat.le_of_ble_eq_true rfl, ?_⟩
  refine ⟨_, rfl, Nat.le_of_ble_eq_true rfl, rfl, ?_⟩
  refine ⟨_, _, rfl, by decide, by decide, rfl, Nat.le_of_ble_eq_true rfl, Nat.le_of_ble_eq_true rfl, Nat.le_of_ble_eq_true rfl, ?_⟩
  refine ⟨_, rfl, Nat.le_of_ble_eq_true rfl, rfl, ?_⟩
  refine ⟨rfl, Nat.le_refl _, Nat.le_refl _, ?_⟩
  exact ⟨rfl, _, rfl, (fun j hj => by
    have h26 : ¬ j = 26 := by omega
    have h27 : ¬ j = 27 := by omega
    have h28 : ¬ j = 28 := by omega
    have h29 : ¬ j = 29 := by omega
    simp only [qup, if_neg h26, if_neg h27, if_neg h28, if_neg h29]), rfl, rfl, rfl, rfl⟩
theorem I_law_44 {g : qG} (hg : qOK g) {f : Nat → Option qE} (ho : f 44 = some (.inl (3, qdef 3 4))) : qSpec g 1 3 452 mX3_init [.ref 44] (45, f) (fun r h' => r = none ∧ ∃ f' : Nat → Option qE, h' = (48, f') ∧ (∀ j : Nat, j < 44 → f' j = f j) ∧ isL (48, f') 44 45 46 47 z0 z0 z0 0) := by
  refine qSpec_run 3 "<init>" true hg mX3_init_ok rfl rfl (Nat.le_of_ble_eq_true rfl) (by decide) ?_
  intro run step
  refine step.1 _ _ _ _ _ _ _ sgX3_init_0_ok ?_
  refine Or.inr ⟨by decide, rfl, ⟨by decide, by decide⟩, ?_⟩
  refine ⟨_, _, rfl, by decide, by decide, rfl, Nat.le_of_ble_eq_true rfl, Nat.le_of_ble_eq_true rfl, Nat.le_of_ble_eq_true rfl, ?_⟩
  refine ⟨_, ho, Nat.le_of_ble_eq_true rfl, rfl, ?_⟩
  refine ⟨_, _, rfl, by decide, by decide, rfl, Nat.le_of_ble_eq_true rfl, Nat.le_of_ble_eq_true rfl, Nat.le_of_ble_eq_true rfl, ?_⟩
  refine ⟨_, rfl, Nat.le_of_ble_eq_true rfl, rfl, ?_⟩
  refine ⟨_, _, rfl, by decide, by decide, rfl, Nat.le_of_ble_eq_true rfl, Nat.le_of_ble_eq_true rfl, Nat.le_of_ble_eq_true rfl, ?_⟩
  refine ⟨_, rfl, Nat.le_of_ble_eq_true rfl, rfl, ?_⟩
  refine ⟨rfl, Nat.le_refl _, Nat.le_refl _, ?_⟩
  exact ⟨rfl, _, rfl, (fun j hj => by
    have h44 : ¬ j = 44 := by omega
    have h45 : ¬ j = 45 := by omega
    have h46 : ¬ j = 46 := by omega
    have h47 : ¬ j = 47 := by omega
    simp only [qup, if_neg h44, if_neg h45, if_neg h46, if_neg h47]), rfl, rfl, rfl, rfl⟩
theorem I_book_30 {g : qG} (hg : qOK g) {f : Nat → Option qE} (ho : f 30 = some (.inl (0, qdef 0 7))) : qSpec g 1 2 16 mX0_init [.ref 30] (31, f) (fun r h' => r = none ∧ ∃ f' : Nat → Option qE, h' = (33, f') ∧ (∀ j : Nat, j < 30 → f' j = f j) ∧ isB (33, f') 30 31 32 z0 z0 0 0 0 0 0) := by
  refine qSpec_run 0 "<init>" true hg mX0_init_ok rfl rfl (Nat.le_of_ble_eq_true rfl) (by decide) ?_
  intro run step
  refine step.1 _ _ _ _ _ _ _ sgX0_init_0_ok ?_
  refine Or.inr ⟨by decide, rfl, ⟨by decide, by decide⟩, ?_⟩
  refine ⟨_, _, rfl, by decide, by decide, rfl, Nat.le_of_ble_eq_true rfl, Nat.le_of_ble_eq_true rfl, Nat.le_of_ble_eq_true rfl, ?_⟩
  refine ⟨_, ho, Nat.le_of_ble_eq_true rfl, rfl, ?_⟩
  refine ⟨_, _, rfl, by decide, by decide, rfl, Nat.le_of_ble_eq_true rfl, Nat.le_of_ble_eq_true rfl, Nat.le_of_ble_eq_true rfl, ?_⟩
  refine ⟨_, rfl, Nat.le_of_ble_eq_true rfl, rfl, ?_⟩
  refine ⟨rfl, Nat.le_refl _, Nat.le_refl _, ?_⟩
  exact ⟨rfl, _, rfl, (fun j hj => by
    have h30 : ¬ j = 30 := by omega
    have h31 : ¬ j = 31 := by omega
    have h32 : ¬ j = 32 := by omega
    simp only [qup, if_neg h30, if_neg h31, if_neg h32]), rfl, rfl, rfl⟩
theorem I_book_40 {g : qG} (hg : qOK g) {f : Nat → Option qE} (ho : f 40 = some (.inl (0, qdef 0 7))) : qSpec g 1 2 16 mX0_init [.ref 40] (41, f) (fun r h' => r = none ∧ ∃ f' : Nat → Option qE, h' = (43, f') ∧ (∀ j : Nat, j < 40 → f' j = f j) ∧ isB (43, f') 40 41 42 z0 z0 0 0 0 0 0) := by
  refine qSpec_run 0 "<init>" true hg mX0_init_ok rfl rfl (Nat.le_of_ble_eq_true rfl) (by decide) ?_
  intro run step
  refine step.1 _ _ _ _ _ _ _ sgX0_init_0_ok ?_
  refine Or.inr ⟨by decide, rfl, ⟨by decide, by decide⟩, ?_⟩
  refine ⟨_, _, rfl, by decide, by decide, rfl, Nat.le_of_ble_eq_true rfl, Nat.le_of_ble_eq_true rfl, Nat.le_of_ble_eq_true rfl, ?_⟩
  refine ⟨_, ho, Nat.le_of_ble_eq_true rfl, rfl, ?_⟩
  refine ⟨_, _, rfl, by decide, by decide, rfl, Nat.le_of_ble_eq_true rfl, Nat.le_of_ble_eq_true rfl, Nat.le_of_ble_eq_true rfl, ?_⟩
  refine ⟨_, rfl, Nat.le_of_ble_eq_true rfl, rfl, ?_⟩
  refine ⟨rfl, Nat.le_refl _, Nat.le_refl _, ?_⟩
  exact ⟨rfl, _, rfl, (fun j hj => by
    have h40 : ¬ j = 40 := by omega
    have h41 : ¬ j = 41 := by omega
    have h42 : ¬ j = 42 := by omega
    simp only [qup, if_neg h40, if_neg h41, if_neg h42]), rfl, rfl, rfl⟩
theorem I_visit {g : qG} (hg : qOK g) {f : Nat → Option qE} (ho : f 48 = some (.inl (10, qdef 10 8))) : qSpec g 1 1 10 mX10_init [.ref 48, .ref 3, .ref 20, .ref 22] (49, f) (fun r h' => r = none ∧ ∃ f' : Nat → Option qE, h' = (50, f') ∧ (∀ j : Nat, j < 48 → f' j = f j) ∧ isV (50, f') 0 0 0 0 ∧ f' 49 = some (aI' 10 z0)) := by
  refine qSpec_run 10 "<init>" true hg mX10_init_ok rfl rfl (Nat.le_of_ble_eq_true rfl) (by decide) ?_
  intro run step
  refine step.1 _ _ _ _ _ _ _ sgX10_init_0_ok ?_
  refine Or.inr ⟨by decide, rfl, ⟨by decide, by decide⟩, ?_⟩
  refine ⟨_, _, rfl, by decide, by decide, rfl, Nat.le_of_ble_eq_true rfl, Nat.le_of_ble_eq_true rfl, Nat.le_of_ble_eq_true rfl, ?_⟩
  refine ⟨_, ho, Nat.le_of_ble_eq_true rfl, rfl, ?_⟩
  refine ⟨_, rfl, Nat.le_of_ble_eq_true rfl, rfl, ?_⟩
  refine ⟨_, rfl, Nat.le_of_ble_eq_true rfl, rfl, ?_⟩
  refine ⟨_, rfl, Nat.le_of_ble_eq_true rfl, rfl, ?_⟩
  refine ⟨rfl, Nat.le_refl _, Nat.le_refl _, ?_⟩
  exact ⟨rfl, _, rfl, (fun j hj => by
    have h48 : ¬ j = 48 := by omega
    have h49 : ¬ j = 49 := by omega
    simp only [qup, if_neg h48, if_neg h49]), rfl, rfl⟩
theorem I_tour {g : qG} (hg : qOK g) {f : Nat → Option qE} (ho : f 50 = some (.inl (9, qdef 9 14))) : qSpec g 1 3 31 mX9_init [.ref 50, .ref 3, .ref 20, .ref 48] (51, f) (fun r h' => r = none ∧ ∃ f' : Nat → Option qE, h' = (54, f') ∧ (∀ j : Nat, j < 50 → f' j = f j) ∧ f' 50 = some (T50 0 0 0 0 0 0 0 0) ∧ f' 51 = some (.inr (.inr (.inl (10, fun _ => 0)))) ∧ f' 52 = some (aI' 10 z0) ∧ f' 53 = some (aI' 11 z0)) := by
  refine qSpec_run 9 "<init>" true hg mX9_init_ok rfl rfl (Nat.le_of_ble_eq_true rfl) (by decide) ?_
  intro run step
  refine step.1 _ _ _ _ _ _ _ sgX9_init_0_ok ?_
  refine Or.inr ⟨by decide, rfl, ⟨by decide, by decide⟩, ?_⟩
  refine ⟨_, _, rfl, by decide, by decide, rfl, Nat.le_of_ble_eq_true rfl, Nat.le_of_ble_eq_true rfl, Nat.le_of_ble_eq_true rfl, ?_⟩
  refine ⟨_, ho, Nat.le_of_ble_eq_true rfl, rfl, ?_⟩
  refine ⟨_, _, rfl, by decide, by decide, rfl, Nat.le_of_ble_eq_true rfl, Nat.le_of_ble_eq_true rfl, Nat.le_of_ble_eq_true rfl, ?_⟩
  refine ⟨_, rfl, Nat.le_of_ble_eq_true rfl, rfl, ?_⟩
  refine ⟨_, _, rfl, by decide, by decide, rfl, Nat.le_of_ble_eq_true rfl, Nat.le_of_ble_eq_true rfl, Nat.le_of_ble_eq_true rfl, ?_⟩
  refine ⟨_, rfl, Nat.le_of_ble_eq_true rfl, rfl, ?_⟩
  refine ⟨_, rfl, Nat.le_of_ble_eq_true rfl, rfl, ?_⟩
  refine ⟨_, rfl, Nat.le_of_ble_eq_true rfl, rfl, ?_⟩
  refine ⟨_, rfl, Nat.le_of_ble_eq_true rfl, rfl, ?_⟩
  refine ⟨rfl, Nat.le_refl _, Nat.le_refl _, ?_⟩
  exact ⟨rfl, _, rfl, (fun j hj => by
    have h50 : ¬ j = 50 := by omega
    have h51 : ¬ j = 51 := by omega
    have h52 : ¬ j = 52 := by omega
    have h53 : ¬ j = 53 := by omega
    simp only [qup, if_neg h50, if_neg h51, if_neg h52, if_neg h53]), rfl, rfl, rfl, rfl⟩
theorem I_search {g : qG} (hg : qOK g) {f : Nat → Option qE} (ho : f 54 = some (.inl (7, qdef 7 12))) : qSpec g 1 7 291 mX7_init [.ref 54, .ref 3, .ref 48] (55, f) (fun r h' => r = none ∧ ∃ f' : Nat → Option qE, h' = (62, f') ∧ (∀ j : Nat, j < 54 → f' j = f j) ∧ f' 54 = some (E54 0 0 0) ∧ f' 55 = some (.inr (.inr (.inl (90, fun _ => 0)))) ∧ f' 56 = some (aI' 90 z0) ∧ f' 57 = some (aI' 90 z0) ∧ f' 58 = some (aI' 5 z0) ∧ f' 59 = some (.inr (.inr (.inl (6, fun _ => 0)))) ∧ f' 60 = some (aI' 5 z0) ∧ f' 61 = some (aI' 5 z0)) := by
  refine qSpec_run 7 "<init>" true hg mX7_init_ok rfl rfl (Nat.le_of_ble_eq_true rfl) (by decide) ?_
  intro run step
  have hkk : ∀ j : Nat, j < 54 → f j = f j := fun _ _ => rfl
  refine step.1 _ _ _ _ _ _ _ srX7_init_0_ok ?_
  refine Or.inr ⟨by decide, rfl, ⟨by decide, by decide⟩, ?_⟩
  refine ⟨_, _, rfl, by decide, by decide, rfl, Nat.le_of_ble_eq_true rfl, Nat.le_of_ble_eq_true rfl, Nat.le_of_ble_eq_true rfl, ?_⟩
  refine ⟨_, ho, Nat.le_of_ble_eq_true rfl, rfl, ?_⟩
  suffices H : ∀ f1 : Nat → Option qE, (∀ j : Nat, j < 54 → f1 j = f j) → f1 54 = some (.inl (7, (qdef 7 12).set 2 (.ref 55))) → f1 55 = some (qarr .long 90) → run 12 [(0, .ref 54), (1, .ref 3), (2, .ref 48)] [] (56, f1) 1 90 from H _ (fun j hj => by
    have hn54 : ¬ j = 54 := by omega
    have hn55 : ¬ j = 55 := by omega
    simp only [qup, if_neg hn54, if_neg hn55] <;> exact hkk j hj) rfl rfl
  intro f1 hk ho h55
  clear hkk
  have hkk := hk
  refine step.1 _ _ _ _ _ _ _ srX7_init_12_ok ?_
  refine ⟨_, _, rfl, by decide, by decide, rfl, Nat.le_of_ble_eq_true rfl, Nat.le_of_ble_eq_true rfl, Nat.le_of_ble_eq_true rfl, ?_⟩
  refine ⟨_, ho, Nat.le_of_ble_eq_true rfl, rfl, ?_⟩
  suffices H : ∀ f1 : Nat → Option qE, (∀ j : Nat, j < 54 → f1 j = f j) → f1 54 = some (.inl (7, ((qdef 7 12).set 2 (.ref 55)).set 3 (.ref 56))) → f1 55 = some (qarr .long 90) → f1 56 = some (qarr .int 90) → run 20 [(0, .ref 54), (1, .ref 3), (2, .ref 48)] [] (57, f1) 2 180 from H _ (fun j hj => by
    have hn54 : ¬ j = 54 := by omega
    have hn55 : ¬ j = 55 := by omega
    have hn56 : ¬ j = 56 := by omega
    simp only [qup, if_neg hn54, if_neg hn55, if_neg hn56] <;> exact hkk j hj) rfl h55 rfl
  intro f1 hk ho h55 h56
  clear hkk
  have hkk := hk
  refine step.1 _ _ _ _ _ _ _ srX7_init_20_ok ?_
  refine ⟨_, _, rfl, by decide, by decide, rfl, Nat.le_of_ble_eq_true rfl, Nat.le_of_ble_eq_true rfl, Nat.le_of_ble_eq_true rfl, ?_⟩
  refine ⟨_, ho, Nat.le_of_ble_eq_true rfl, rfl, ?_⟩
  suffices H : ∀ f1 : Nat → Option qE, (∀ j : Nat, j < 54 → f1 j = f j) → f1 54 = some (.inl (7, (((qdef 7 12).set 2 (.ref 55)).set 3 (.ref 56)).set 4 (.ref 57))) → f1 55 = some (qarr .long 90) → f1 56 = some (qarr .int 90) → f1 57 = some (qarr .int 90) → run 28 [(0, .ref 54), (1, .ref 3), (2, .ref 48)] [] (58, f1) 3 270 from H _ (fun j hj => by
    have hn54 : ¬ j = 54 := by omega
    have hn55 : ¬ j = 55 := by omega
    have hn56 : ¬ j = 56 := by omega
    have hn57 : ¬ j = 57 := by omega
    simp only [qup, if_neg hn54, if_neg hn55, if_neg hn56, if_neg hn57] <;> exact hkk j hj) rfl h55 h56 rfl
  intro f1 hk ho h55 h56 h57
  clear hkk
  have hkk := hk
  refine step.1 _ _ _ _ _ _ _ srX7_init_28_ok ?_
  refine ⟨_, _, rfl, by decide, by decide, rfl, Nat.le_of_ble_eq_true rfl, Nat.le_of_ble_eq_true rfl, Nat.le_of_ble_eq_true rfl, ?_⟩
  refine ⟨_, ho, Nat.le_of_ble_eq_true rfl, rfl, ?_⟩
  suffices H : ∀ f1 : Nat → Option qE, (∀ j : Nat, j < 54 → f1 j = f j) → f1 54 = some (.inl (7, ((((qdef 7 12).set 2 (.ref 55)).set 3 (.ref 56)).set 4 (.ref 57)).set 5 (.ref 58))) → f1 55 = some (qarr .long 90) → f1 56 = some (qarr .int 90) → f1 57 = some (qarr .int 90) → f1 58 = some (qarr .int 5) → run 35 [(0, .ref 54), (1, .ref 3), (2, .ref 48)] [] (59, f1) 4 275 from H _ (fun j hj => by
    have hn54 : ¬ j = 54 := by omega
    have hn55 : ¬ j = 55 := by omega
    have hn56 : ¬ j = 56 := by omega
    have hn57 : ¬ j = 57 := by omega
    have hn58 : ¬ j = 58 := by omega
    simp only [qup, if_neg hn54, if_neg hn55, if_neg hn56, if_neg hn57, if_neg hn58] <;> exact hkk j hj) rfl h55 h56 h57 rfl
  intro f1 hk ho h55 h56 h57 h58
  clear hkk
  have hkk := hk
  refine step.1 _ _ _ _ _ _ _ srX7_init_35_ok ?_
  refine ⟨_, _, rfl, by decide, by decide, rfl, Nat.le_of_ble_eq_true rfl, Nat.le_of_ble_eq_true rfl, Nat.le_of_ble_eq_true rfl, ?_⟩
  refine ⟨_, ho, Nat.le_of_ble_eq_true rfl, rfl, ?_⟩
  suffices H : ∀ f1 : Nat → Option qE, (∀ j : Nat, j < 54 → f1 j = f j) → f1 54 = some (.inl (7, (((((qdef 7 12).set 2 (.ref 55)).set 3 (.ref 56)).set 4 (.ref 57)).set 5 (.ref 58)).set 6 (.ref 59))) → f1 55 = some (qarr .long 90) → f1 56 = some (qarr .int 90) → f1 57 = some (qarr .int 90) → f1 58 = some (qarr .int 5) → f1 59 = some (qarr .long 6) → run 43 [(0, .ref 54), (1, .ref 3), (2, .ref 48)] [] (60, f1) 5 281 from H _ (fun j hj => by
    have hn54 : ¬ j = 54 := by omega
    have hn55 : ¬ j = 55 := by omega
    have hn56 : ¬ j = 56 := by omega
    have hn57 : ¬ j = 57 := by omega
    have hn58 : ¬ j = 58 := by omega
    have hn59 : ¬ j = 59 := by omega
    simp only [qup, if_neg hn54, if_neg hn55, if_neg hn56, if_neg hn57, if_neg hn58, if_neg hn59] <;> exact hkk j hj) rfl h55 h56 h57 h58 rfl
  intro f1 hk ho h55 h56 h57 h58 h59
  clear hkk
  have hkk := hk
  refine step.1 _ _ _ _ _ _ _ srX7_init_43_ok ?_
  refine ⟨_, _, rfl, by decide, by decide, rfl, Nat.le_of_ble_eq_true rfl, Nat.le_of_ble_eq_true rfl, Nat.le_of_ble_eq_true rfl, ?_⟩
  refine ⟨_, ho, Nat.le_of_ble_eq_true rfl, rfl, ?_⟩
  suffices H : ∀ f1 : Nat → Option qE, (∀ j : Nat, j < 54 → f1 j = f j) → f1 54 = some (.inl (7, ((((((qdef 7 12).set 2 (.ref 55)).set 3 (.ref 56)).set 4 (.ref 57)).set 5 (.ref 58)).set 6 (.ref 59)).set 7 (.ref 60))) → f1 55 = some (qarr .long 90) → f1 56 = some (qarr .int 90) → f1 57 = some (qarr .int 90) → f1 58 = some (qarr .int 5) → f1 59 = some (qarr .long 6) → f1 60 = some (qarr .int 5) → run 50 [(0, .ref 54), (1, .ref 3), (2, .ref 48)] [] (61, f1) 6 286 from H _ (fun j hj => by
    have hn54 : ¬ j = 54 := by omega
    have hn55 : ¬ j = 55 := by omega
    have hn56 : ¬ j = 56 := by omega
    have hn57 : ¬ j = 57 := by omega
    have hn58 : ¬ j = 58 := by omega
    have hn59 : ¬ j = 59 := by omega
    have hn60 : ¬ j = 60 := by omega
    simp only [qup, if_neg hn54, if_neg hn55, if_neg hn56, if_neg hn57, if_neg hn58, if_neg hn59, if_neg hn60] <;> exact hkk j hj) rfl h55 h56 h57 h58 h59 rfl
  intro f1 hk ho h55 h56 h57 h58 h59 h60
  clear hkk
  have hkk := hk
  refine step.1 _ _ _ _ _ _ _ srX7_init_50_ok ?_
  refine ⟨_, _, rfl, by decide, by decide, rfl, Nat.le_of_ble_eq_true rfl, Nat.le_of_ble_eq_true rfl, Nat.le_of_ble_eq_true rfl, ?_⟩
  refine ⟨_, ho, Nat.le_of_ble_eq_true rfl, rfl, ?_⟩
  suffices H : ∀ f1 : Nat → Option qE, (∀ j : Nat, j < 54 → f1 j = f j) → f1 54 = some (.inl (7, (((((((qdef 7 12).set 2 (.ref 55)).set 3 (.ref 56)).set 4 (.ref 57)).set 5 (.ref 58)).set 6 (.ref 59)).set 7 (.ref 60)).set 8 (.ref 61))) → f1 55 = some (qarr .long 90) → f1 56 = some (qarr .int 90) → f1 57 = some (qarr .int 90) → f1 58 = some (qarr .int 5) → f1 59 = some (qarr .long 6) → f1 60 = some (qarr .int 5) → f1 61 = some (qarr .int 5) → run 57 [(0, .ref 54), (1, .ref 3), (2, .ref 48)] [] (62, f1) 7 291 from H _ (fun j hj => by
    have hn54 : ¬ j = 54 := by omega
    have hn55 : ¬ j = 55 := by omega
    have hn56 : ¬ j = 56 := by omega
    have hn57 : ¬ j = 57 := by omega
    have hn58 : ¬ j = 58 := by omega
    have hn59 : ¬ j = 59 := by omega
    have hn60 : ¬ j = 60 := by omega
    have hn61 : ¬ j = 61 := by omega
    simp only [qup, if_neg hn54, if_neg hn55, if_neg hn56, if_neg hn57, if_neg hn58, if_neg hn59, if_neg hn60, if_neg hn61] <;> exact hkk j hj) rfl h55 h56 h57 h58 h59 h60 rfl
  intro f1 hk ho h55 h56 h57 h58 h59 h60 h61
  clear hkk
  have hkk := hk
  refine step.1 _ _ _ _ _ _ _ srX7_init_57_ok ?_
  refine ⟨_, ho, Nat.le_of_ble_eq_true rfl, rfl, ?_⟩
  suffices H : ∀ f1 : Nat → Option qE, (∀ j : Nat, j < 54 → f1 j = f j) → f1 54 = some (.inl (7, ((((((((qdef 7 12).set 2 (.ref 55)).set 3 (.ref 56)).set 4 (.ref 57)).set 5 (.ref 58)).set 6 (.ref 59)).set 7 (.ref 60)).set 8 (.ref 61)).set 0 (.ref 3))) → f1 55 = some (qarr .long 90) → f1 56 = some (qarr .int 90) → f1 57 = some (qarr .int 90) → f1 58 = some (qarr .int 5) → f1 59 = some (qarr .long 6) → f1 60 = some (qarr .int 5) → f1 61 = some (qarr .int 5) → run 62 [(0, .ref 54), (1, .ref 3), (2, .ref 48)] [] (62, f1) 7 291 from H _ (fun j hj => by
    have hn54 : ¬ j = 54 := by omega
    have hn55 : ¬ j = 55 := by omega
    have hn56 : ¬ j = 56 := by omega
    have hn57 : ¬ j = 57 := by omega
    have hn58 : ¬ j = 58 := by omega
    have hn59 : ¬ j = 59 := by omega
    have hn60 : ¬ j = 60 := by omega
    have hn61 : ¬ j = 61 := by omega
    simp only [qup, if_neg hn54, if_neg hn55, if_neg hn56, if_neg hn57, if_neg hn58, if_neg hn59, if_neg hn60, if_neg hn61] <;> exact hkk j hj) rfl h55 h56 h57 h58 h59 h60 h61
  intro f1 hk ho h55 h56 h57 h58 h59 h60 h61
  clear hkk
  have hkk := hk
  refine step.1 _ _ _ _ _ _ _ srX7_init_62_ok ?_
  refine ⟨_, ho, Nat.le_of_ble_eq_true rfl, rfl, ?_⟩
  suffices H : ∀ f1 : Nat → Option qE, (∀ j : Nat, j < 54 → f1 j = f j) → f1 54 = some (.inl (7, (((((((((qdef 7 12).set 2 (.ref 55)).set 3 (.ref 56)).set 4 (.ref 57)).set 5 (.ref 58)).set 6 (.ref 59)).set 7 (.ref 60)).set 8 (.ref 61)).set 0 (.ref 3)).set 1 (.ref 48))) → f1 55 = some (qarr .long 90) → f1 56 = some (qarr .int 90) → f1 57 = some (qarr .int 90) → f1 58 = some (qarr .int 5) → f1 59 = some (qarr .long 6) → f1 60 = some (qarr .int 5) → f1 61 = some (qarr .int 5) → run 67 [(0, .ref 54), (1, .ref 3), (2, .ref 48)] [] (62, f1) 7 291 from H _ (fun j hj => by
    have hn54 : ¬ j = 54 := by omega
    have hn55 : ¬ j = 55 := by omega
    have hn56 : ¬ j = 56 := by omega
    have hn57 : ¬ j = 57 := by omega
    have hn58 : ¬ j = 58 := by omega
    have hn59 : ¬ j = 59 := by omega
    have hn60 : ¬ j = 60 := by omega
    have hn61 : ¬ j = 61 := by omega
    simp only [qup, if_neg hn54, if_neg hn55, if_neg hn56, if_neg hn57, if_neg hn58, if_neg hn59, if_neg hn60, if_neg hn61] <;> exact hkk j hj) rfl h55 h56 h57 h58 h59 h60 h61
  intro f1 hk ho h55 h56 h57 h58 h59 h60 h61
  clear hkk
  have hkk := hk
  refine step.1 _ _ _ _ _ _ _ srX7_init_67_ok ?_
  refine ⟨rfl, Nat.le_refl _, Nat.le_refl _, ?_⟩
  exact ⟨rfl, _, rfl, hk, ho, h55, h56, h57, h58, h59, h60, h61⟩
theorem I_night {g : qG} (hg : qOK g) {f : Nat → Option qE} (ho : f 62 = some (.inl (2, qdef 2 12))) : qSpec g 1 0 0 mX2_init [.ref 62, .ref 3, .ref 48, .ref 26] (63, f) (fun r h' => r = none ∧ ∃ f' : Nat → Option qE, h' = (63, f') ∧ (∀ j : Nat, j < 62 → f' j = f j) ∧ f' 62 = some (E62 z0)) := by
  refine qSpec_run 2 "<init>" true hg mX2_init_ok rfl rfl (Nat.le_of_ble_eq_true rfl) (by decide) ?_
  intro run step
  refine step.1 _ _ _ _ _ _ _ sgX2_init_0_ok ?_
  refine Or.inr ⟨by decide, rfl, ⟨by decide, by decide⟩, ?_⟩
  refine ⟨_, ho, Nat.le_of_ble_eq_true rfl, rfl, ?_⟩
  refine ⟨_, rfl, Nat.le_of_ble_eq_true rfl, rfl, ?_⟩
  refine ⟨_, rfl, Nat.le_of_ble_eq_true rfl, rfl, ?_⟩
  refine ⟨rfl, Nat.le_refl _, Nat.le_refl _, ?_⟩
  exact ⟨rfl, _, rfl, (fun j hj => by
    have h62 : ¬ j = 62 := by omega
    simp only [qup, if_neg h62]), rfl⟩
end Q09J
