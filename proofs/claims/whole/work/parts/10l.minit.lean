section Q10L
def xi : Nat → Int32 := upd (fun _ => 0) 8 (-1)
def xc : Nat → Int32 := upd (upd (upd (upd (upd xi 14 0) 15 0) 16 0) 17 2) 18 120
set_option maxHeartbeats 8000000 in
theorem M_init {g : qG} (hg : qOK g) {f : Nat → Option qE} (ho : f 63 = some (.inl (12, qdef 12 65))) : qSpec g 3 28 105729 mX12_init [.ref 63] (64, f) (fun r h' => r = none ∧ h'.1 = 92 ∧ ∃ x' : Nat → Int32, h'.2 63 = some (M63 x' (fun _ => 0)) ∧ ((∀ j : Nat, j < 63 → h'.2 j = f j) ∧ h'.2 64 = some (aI' 3 z0) ∧ h'.2 65 = some (aI' 600 z0) ∧ h'.2 66 = some (aI' 100 z0) ∧ h'.2 67 = some (aI' 100 (cp z0 z0 100)) ∧ h'.2 68 = some (aI' 32 z0) ∧ h'.2 69 = some (aI' 32 (cp z0 z0 32)) ∧ h'.2 70 = some (aI' 150 z0) ∧ h'.2 71 = some (aI' 150 z0) ∧ h'.2 72 = some (aI' 300 z0) ∧ h'.2 73 = some (aI' 300 z0) ∧ h'.2 74 = some (aI' 2 (upd (upd z0 0 0) 1 0)) ∧ h'.2 75 = some (aI' 150 z0) ∧ h'.2 76 = some (aI' 10 z0) ∧ h'.2 77 = some (aI' 30 z0) ∧ h'.2 78 = some (aI' 30 z0) ∧ h'.2 79 = some (aI' 16 z0) ∧ h'.2 80 = some (aI' 16 z0) ∧ h'.2 81 = some (.inr (.inr (.inl (92352, fun _ => 0)))) ∧ h'.2 82 = some (.inr (.inr (.inl (95, fun _ => 0)))) ∧ h'.2 83 = some (aI' 95 z0) ∧ h'.2 84 = some (aI' 5 z0) ∧ h'.2 85 = some (aI' 32 z0) ∧ h'.2 86 = some (.inr (.inl (.boolean, 32, z0))) ∧ h'.2 87 = some (aI' 10 z0) ∧ h'.2 88 = some (aI' 121 z0) ∧ h'.2 89 = some (aI' 7 z0) ∧ h'.2 90 = some (aI' 2640 z0) ∧ h'.2 91 = some (aI' 8319 z0)) ∧ x' 19 = xc 14 ∧ x' 20 = xc 15 ∧ x' 21 = xc 16 ∧ x' 22 = xc 17 ∧ x' 23 = xc 18 ∧ x' 36 = 0 ∧ x' 37 = 0 ∧ x' 62 = 0 ∧ x' 64 = 0 ∧ (∀ k : Nat, k ∉ [19, 20, 21, 22, 23, 36, 37, 62, 64] → x' k = xc k)) := by
  refine qSpec_run 12 "<init>" true hg mX12_init_ok rfl rfl (Nat.le_of_ble_eq_true rfl) (by decide) ?_
  intro run step
  have hkk : ∀ j : Nat, j < 63 → f j = f j := fun _ _ => rfl
  refine step.1 _ _ _ _ _ _ _ srX12_init_0_ok ?_
  refine Or.inr ⟨by decide, rfl, ⟨by decide, by decide⟩, ?_⟩
  refine ⟨_, _, rfl, by decide, by decide, rfl, Nat.le_of_ble_eq_true rfl, Nat.le_of_ble_eq_true rfl, Nat.le_of_ble_eq_true rfl, ?_⟩
  refine ⟨_, ho, Nat.le_of_ble_eq_true rfl, rfl, ?_⟩
  suffices H : ∀ f1 : Nat → Option qE, (∀ j : Nat, j < 63 → f1 j = f j) → f1 63 = some (.inl (12, (qdef 12 65).set 1 (.ref 64))) → f1 64 = some (qarr .int 3) → run 11 [(0, .ref 63)] [] (65, f1) 1 3 from H _ (fun j hj => by
    have hn63 : ¬ j = 63 := by omega
    have hn64 : ¬ j = 64 := by omega
    simp only [qup, if_neg hn63, if_neg hn64] <;> exact hkk j hj) rfl rfl
  intro f1 hk ho h64
  clear hkk
  have hkk := hk
  refine step.1 _ _ _ _ _ _ _ srX12_init_11_ok ?_
  refine ⟨_, ho, Nat.le_of_ble_eq_true rfl, rfl, ?_⟩
  suffices H : ∀ f1 : Nat → Option qE, (∀ j : Nat, j < 63 → f1 j = f j) → f1 63 = some (.inl (12, ((qdef 12 65).set 1 (.ref 64)).set 8 (.int (-1)))) → f1 64 = some (qarr .int 3) → run 16 [(0, .ref 63)] [] (65, f1) 1 3 from H _ (fun j hj => by
    have hn63 : ¬ j = 63 := by omega
    have hn64 : ¬ j = 64 := by omega
    simp only [qup, if_neg hn63, if_neg hn64] <;> exact hkk j hj) rfl h64
  intro f1 hk ho h64
  clear hkk
  have hkk := hk
  refine step.1 _ _ _ _ _ _ _ srX12_init_16_ok ?_
  refine ⟨_, _, rfl, by decide, by decide, rfl, Nat.le_of_ble_eq_true rfl, Nat.le_of_ble_eq_true rfl, Nat.le_of_ble_eq_true rfl, ?_⟩
  refine ⟨_, ho, Nat.le_of_ble_eq_true rfl, rfl, ?_⟩
  suffices H : ∀ f1 : Nat → Option qE, (∀ j : Nat, j < 63 → f1 j = f j) → f1 63 = some (.inl (12, (((qdef 12 65).set 1 (.ref 64)).set 8 (.int (-1))).set 9 (.ref 65))) → f1 64 = some (qarr .int 3) → f1 65 = some (qarr .int 600) → run 25 [(0, .ref 63)] [] (66, f1) 2 603 from H _ (fun j hj => by
    have hn63 : ¬ j = 63 := by omega
    have hn64 : ¬ j = 64 := by omega
    have hn65 : ¬ j = 65 := by omega
    simp only [qup, if_neg hn63, if_neg hn64, if_neg hn65] <;> exact hkk j hj) rfl h64 rfl
  intro f1 hk ho h64 h65
  clear hkk
  have hkk := hk
  refine step.1 _ _ _ _ _ _ _ srX12_init_25_ok ?_
  refine ⟨_, _, rfl, by decide, by decide, rfl, Nat.le_of_ble_eq_true rfl, Nat.le_of_ble_eq_true rfl, Nat.le_of_ble_eq_true rfl, ?_⟩
  refine ⟨_, ho, Nat.le_of_ble_eq_true rfl, rfl, ?_⟩
  suffices H : ∀ f1 : Nat → Option qE, (∀ j : Nat, j < 63 → f1 j = f j) → f1 63 = some (.inl (12, ((((qdef 12 65).set 1 (.ref 64)).set 8 (.int (-1))).set 9 (.ref 65)).set 10 (.ref 66))) → f1 64 = some (qarr .int 3) → f1 65 = some (qarr .int 600) → f1 66 = some (qarr .int 100) → run 33 [(0, .ref 63)] [] (67, f1) 3 703 from H _ (fun j hj => by
    have hn63 : ¬ j = 63 := by omega
    have hn64 : ¬ j = 64 := by omega
    have hn65 : ¬ j = 65 := by omega
    have hn66 : ¬ j = 66 := by omega
    simp only [qup, if_neg hn63, if_neg hn64, if_neg hn65, if_neg hn66] <;> exact hkk j hj) rfl h64 h65 rfl
  intro f1 hk ho h64 h65 h66
  clear hkk
  have hkk := hk
  refine step.1 _ _ _ _ _ _ _ srX12_init_33_ok ?_
  refine ⟨_, _, rfl, by decide, by decide, rfl, Nat.le_of_ble_eq_true rfl, Nat.le_of_ble_eq_true rfl, Nat.le_of_ble_eq_true rfl, ?_⟩
  refine ⟨_, ho, Nat.le_of_ble_eq_true rfl, rfl, ?_⟩
  suffices H : ∀ f1 : Nat → Option qE, (∀ j : Nat, j < 63 → f1 j = f j) → f1 63 = some (.inl (12, (((((qdef 12 65).set 1 (.ref 64)).set 8 (.int (-1))).set 9 (.ref 65)).set 10 (.ref 66)).set 11 (.ref 67))) → f1 64 = some (qarr .int 3) → f1 65 = some (qarr .int 600) → f1 66 = some (qarr .int 100) → f1 67 = some (qarr .int 100) → run 41 [(0, .ref 63)] [] (68, f1) 4 803 from H _ (fun j hj => by
    have hn63 : ¬ j = 63 := by omega
    have hn64 : ¬ j = 64 := by omega
    have hn65 : ¬ j = 65 := by omega
    have hn66 : ¬ j = 66 := by omega
    have hn67 : ¬ j = 67 := by omega
    simp only [qup, if_neg hn63, if_neg hn64, if_neg hn65, if_neg hn66, if_neg hn67] <;> exact hkk j hj) rfl h64 h65 h66 rfl
  intro f1 hk ho h64 h65 h66 h67
  clear hkk
  have hkk := hk
  refine step.1 _ _ _ _ _ _ _ srX12_init_41_ok ?_
  refine ⟨_, _, rfl, by decide, by decide, rfl, Nat.le_of_ble_eq_true rfl, Nat.le_of_ble_eq_true rfl, Nat.le_of_ble_eq_true rfl, ?_⟩
  refine ⟨_, ho, Nat.le_of_ble_eq_true rfl, rfl, ?_⟩
  suffices H : ∀ f1 : Nat → Option qE, (∀ j : Nat, j < 63 → f1 j = f j) → f1 63 = some (.inl (12, ((((((qdef 12 65).set 1 (.ref 64)).set 8 (.int (-1))).set 9 (.ref 65)).set 10 (.ref 66)).set 11 (.ref 67)).set 12 (.ref 68))) → f1 64 = some (qarr .int 3) → f1 65 = some (qarr .int 600) → f1 66 = some (qarr .int 100) → f1 67 = some (qarr .int 100) → f1 68 = some (qarr .int 32) → run 49 [(0, .ref 63)] [] (69, f1) 5 835 from H _ (fun j hj => by
    have hn63 : ¬ j = 63 := by omega
    have hn64 : ¬ j = 64 := by omega
    have hn65 : ¬ j = 65 := by omega
    have hn66 : ¬ j = 66 := by omega
    have hn67 : ¬ j = 67 := by omega
    have hn68 : ¬ j = 68 := by omega
    simp only [qup, if_neg hn63, if_neg hn64, if_neg hn65, if_neg hn66, if_neg hn67, if_neg hn68] <;> exact hkk j hj) rfl h64 h65 h66 h67 rfl
  intro f1 hk ho h64 h65 h66 h67 h68
  clear hkk
  have hkk := hk
  refine step.1 _ _ _ _ _ _ _ srX12_init_49_ok ?_
  refine ⟨_, _, rfl, by decide, by decide, rfl, Nat.le_of_ble_eq_true rfl, Nat.le_of_ble_eq_true rfl, Nat.le_of_ble_eq_true rfl, ?_⟩
  refine ⟨_, ho, Nat.le_of_ble_eq_true rfl, rfl, ?_⟩
  suffices H : ∀ f1 : Nat → Option qE, (∀ j : Nat, j < 63 → f1 j = f j) → f1 63 = some (.inl (12, (((((((qdef 12 65).set 1 (.ref 64)).set 8 (.int (-1))).set 9 (.ref 65)).set 10 (.ref 66)).set 11 (.ref 67)).set 12 (.ref 68)).set 13 (.ref 69))) → f1 64 = some (qarr .int 3) → f1 65 = some (qarr .int 600) → f1 66 = some (qarr .int 100) → f1 67 = some (qarr .int 100) → f1 68 = some (qarr .int 32) → f1 69 = some (qarr .int 32) → run 57 [(0, .ref 63)] [] (70, f1) 6 867 from H _ (fun j hj => by
    have hn63 : ¬ j = 63 := by omega
    have hn64 : ¬ j = 64 := by omega
    have hn65 : ¬ j = 65 := by omega
    have hn66 : ¬ j = 66 := by omega
    have hn67 : ¬ j = 67 := by omega
    have hn68 : ¬ j = 68 := by omega
    have hn69 : ¬ j = 69 := by omega
    simp only [qup, if_neg hn63, if_neg hn64, if_neg hn65, if_neg hn66, if_neg hn67, if_neg hn68, if_neg hn69] <;> exact hkk j hj) rfl h64 h65 h66 h67 h68 rfl
  intro f1 hk ho h64 h65 h66 h67 h68 h69
  clear hkk
  have hkk := hk
  refine step.1 _ _ _ _ _ _ _ srX12_init_57_ok ?_
  refine ⟨_, _, rfl, by decide, by decide, rfl, Nat.le_of_ble_eq_true rfl, Nat.le_of_ble_eq_true rfl, Nat.le_of_ble_eq_true rfl, ?_⟩
  refine ⟨_, ho, Nat.le_of_ble_eq_true rfl, rfl, ?_⟩
  suffices H : ∀ f1 : Nat → Option qE, (∀ j : Nat, j < 63 → f1 j = f j) → f1 63 = some (.inl (12, ((((((((qdef 12 65).set 1 (.ref 64)).set 8 (.int (-1))).set 9 (.ref 65)).set 10 (.ref 66)).set 11 (.ref 67)).set 12 (.ref 68)).set 13 (.ref 69)).set 24 (.ref 70))) → f1 64 = some (qarr .int 3) → f1 65 = some (qarr .int 600) → f1 66 = some (qarr .int 100) → f1 67 = some (qarr .int 100) → f1 68 = some (qarr .int 32) → f1 69 = some (qarr .int 32) → f1 70 = some (qarr .int 150) → run 66 [(0, .ref 63)] [] (71, f1) 7 1017 from H _ (fun j hj => by
    have hn63 : ¬ j = 63 := by omega
    have hn64 : ¬ j = 64 := by omega
    have hn65 : ¬ j = 65 := by omega
    have hn66 : ¬ j = 66 := by omega
    have hn67 : ¬ j = 67 := by omega
    have hn68 : ¬ j = 68 := by omega
    have hn69 : ¬ j = 69 := by omega
    have hn70 : ¬ j = 70 := by omega
    simp only [qup, if_neg hn63, if_neg hn64, if_neg hn65, if_neg hn66, if_neg hn67, if_neg hn68, if_neg hn69, if_neg hn70] <;> exact hkk j hj) rfl h64 h65 h66 h67 h68 h69 rfl
  intro f1 hk ho h64 h65 h66 h67 h68 h69 h70
  clear hkk
  have hkk := hk
  refine step.1 _ _ _ _ _ _ _ srX12_init_66_ok ?_
  refine ⟨_, _, rfl, by decide, by decide, rfl, Nat.le_of_ble_eq_true rfl, Nat.le_of_ble_eq_true rfl, Nat.le_of_ble_eq_true rfl, ?_⟩
  refine ⟨_, ho, Nat.le_of_ble_eq_true rfl, rfl, ?_⟩
  suffices H : ∀ f1 : Nat → Option qE, (∀ j : Nat, j < 63 → f1 j = f j) → f1 63 = some (.inl (12, (((((((((qdef 12 65).set 1 (.ref 64)).set 8 (.int (-1))).set 9 (.ref 65)).set 10 (.ref 66)).set 11 (.ref 67)).set 12 (.ref 68)).set 13 (.ref 69)).set 24 (.ref 70)).set 25 (.ref 71))) → f1 64 = some (qarr .int 3) → f1 65 = some (qarr .int 600) → f1 66 = some (qarr .int 100) → f1 67 = some (qarr .int 100) → f1 68 = some (qarr .int 32) → f1 69 = some (qarr .int 32) → f1 70 = some (qarr .int 150) → f1 71 = some (qarr .int 150) → run 75 [(0, .ref 63)] [] (72, f1) 8 1167 from H _ (fun j hj => by
    have hn63 : ¬ j = 63 := by omega
    have hn64 : ¬ j = 64 := by omega
    have hn65 : ¬ j = 65 := by omega
    have hn66 : ¬ j = 66 := by omega
    have hn67 : ¬ j = 67 := by omega
    have hn68 : ¬ j = 68 := by omega
    have hn69 : ¬ j = 69 := by omega
    have hn70 : ¬ j = 70 := by omega
    have hn71 : ¬ j = 71 := by omega
    simp only [qup, if_neg hn63, if_neg hn64, if_neg hn65, if_neg hn66, if_neg hn67, if_neg hn68, if_neg hn69, if_neg hn70, if_neg hn71] <;> exact hkk j hj) rfl h64 h65 h66 h67 h68 h69 h70 rfl
  intro f1 hk ho h64 h65 h66 h67 h68 h69 h70 h71
  clear hkk
  have hkk := hk
  refine step.1 _ _ _ _ _ _ _ srX12_init_75_ok ?_
  refine ⟨_, _, rfl, by decide, by decide, rfl, Nat.le_of_ble_eq_true rfl, Nat.le_of_ble_eq_true rfl, Nat.le_of_ble_eq_true rfl, ?_⟩
  refine ⟨_, ho, Nat.le_of_ble_eq_true rfl, rfl, ?_⟩
  suffices H : ∀ f1 : Nat → Option qE, (∀ j : Nat, j < 63 → f1 j = f j) → f1 63 = some (.inl (12, ((((((((((qdef 12 65).set 1 (.ref 64)).set 8 (.int (-1))).set 9 (.ref 65)).set 10 (.ref 66)).set 11 (.ref 67)).set 12 (.ref 68)).set 13 (.ref 69)).set 24 (.ref 70)).set 25 (.ref 71)).set 26 (.ref 72))) → f1 64 = some (qarr .int 3) → f1 65 = some (qarr .int 600) → f1 66 = some (qarr .int 100) → f1 67 = some (qarr .int 100) → f1 68 = some (qarr .int 32) → f1 69 = some (qarr .int 32) → f1 70 = some (qarr .int 150) → f1 71 = some (qarr .int 150) → f1 72 = some (qarr .int 300) → run 84 [(0, .ref 63)] [] (73, f1) 9 1467 from H _ (fun j hj => by
    have hn63 : ¬ j = 63 := by omega
    have hn64 : ¬ j = 64 := by omega
    have hn65 : ¬ j = 65 := by omega
    have hn66 : ¬ j = 66 := by omega
    have hn67 : ¬ j = 67 := by omega
    have hn68 : ¬ j = 68 := by omega
    have hn69 : ¬ j = 69 := by omega
    have hn70 : ¬ j = 70 := by omega
    have hn71 : ¬ j = 71 := by omega
    have hn72 : ¬ j = 72 := by omega
    simp only [qup, if_neg hn63, if_neg hn64, if_neg hn65, if_neg hn66, if_neg hn67, if_neg hn68, if_neg hn69, if_neg hn70, if_neg hn71, if_neg hn72] <;> exact hkk j hj) rfl h64 h65 h66 h67 h68 h69 h70 h71 rfl
  intro f1 hk ho h64 h65 h66 h67 h68 h69 h70 h71 h72
  clear hkk
  have hkk := hk
  refine step.1 _ _ _ _ _ _ _ srX12_init_84_ok ?_
  refine ⟨_, _, rfl, by decide, by decide, rfl, Nat.le_of_ble_eq_true rfl, Nat.le_of_ble_eq_true rfl, Nat.le_of_ble_eq_true rfl, ?_⟩
  refine ⟨_, ho, Nat.le_of_ble_eq_true rfl, rfl, ?_⟩
  suffices H : ∀ f1 : Nat → Option qE, (∀ j : Nat, j < 63 → f1 j = f j) → f1 63 = some (.inl (12, (((((((((((qdef 12 65).set 1 (.ref 64)).set 8 (.int (-1))).set 9 (.ref 65)).set 10 (.ref 66)).set 11 (.ref 67)).set 12 (.ref 68)).set 13 (.ref 69)).set 24 (.ref 70)).set 25 (.ref 71)).set 26 (.ref 72)).set 27 (.ref 73))) → f1 64 = some (qarr .int 3) → f1 65 = some (qarr .int 600) → f1 66 = some (qarr .int 100) → f1 67 = some (qarr .int 100) → f1 68 = some (qarr .int 32) → f1 69 = some (qarr .int 32) → f1 70 = some (qarr .int 150) → f1 71 = some (qarr .int 150) → f1 72 = some (qarr .int 300) → f1 73 = some (qarr .int 300) → run 93 [(0, .ref 63)] [] (74, f1) 10 1767 from H _ (fun j hj => by
    have hn63 : ¬ j = 63 := by omega
    have hn64 : ¬ j = 64 := by omega
    have hn65 : ¬ j = 65 := by omega
    have hn66 : ¬ j = 66 := by omega
    have hn67 : ¬ j = 67 := by omega
    have hn68 : ¬ j = 68 := by omega
    have hn69 : ¬ j = 69 := by omega
    have hn70 : ¬ j = 70 := by omega
    have hn71 : ¬ j = 71 := by omega
    have hn72 : ¬ j = 72 := by omega
    have hn73 : ¬ j = 73 := by omega
    simp only [qup, if_neg hn63, if_neg hn64, if_neg hn65, if_neg hn66, if_neg hn67, if_neg hn68, if_neg hn69, if_neg hn70, if_neg hn71, if_neg hn72, if_neg hn73] <;> exact hkk j hj) rfl h64 h65 h66 h67 h68 h69 h70 h71 h72 rfl
  intro f1 hk ho h64 h65 h66 h67 h68 h69 h70 h71 h72 h73
  clear hkk
  have hkk := hk
  refine step.1 _ _ _ _ _ _ _ srX12_init_93_ok ?_
  refine ⟨_, _, rfl, by decide, by decide, rfl, Nat.le_of_ble_eq_true rfl, Nat.le_of_ble_eq_true rfl, Nat.le_of_ble_eq_true rfl, ?_⟩
  refine ⟨_, ho, Nat.le_of_ble_eq_true rfl, rfl, ?_⟩
  suffices H : ∀ f1 : Nat → Option qE, (∀ j : Nat, j < 63 → f1 j = f j) → f1 63 = some (.inl (12, ((((((((((((qdef 12 65).set 1 (.ref 64)).set 8 (.int (-1))).set 9 (.ref 65)).set 10 (.ref 66)).set 11 (.ref 67)).set 12 (.ref 68)).set 13 (.ref 69)).set 24 (.ref 70)).set 25 (.ref 71)).set 26 (.ref 72)).set 27 (.ref 73)).set 28 (.ref 74))) → f1 64 = some (qarr .int 3) → f1 65 = some (qarr .int 600) → f1 66 = some (qarr .int 100) → f1 67 = some (qarr .int 100) → f1 68 = some (qarr .int 32) → f1 69 = some (qarr .int 32) → f1 70 = some (qarr .int 150) → f1 71 = some (qarr .int 150) → f1 72 = some (qarr .int 300) → f1 73 = some (qarr .int 300) → f1 74 = some (qarr .int 2) → run 100 [(0, .ref 63)] [] (75, f1) 11 1769 from H _ (fun j hj => by
    have hn63 : ¬ j = 63 := by omega
    have hn64 : ¬ j = 64 := by omega
    have hn65 : ¬ j = 65 := by omega
    have hn66 : ¬ j = 66 := by omega
    have hn67 : ¬ j = 67 := by omega
    have hn68 : ¬ j = 68 := by omega
    have hn69 : ¬ j = 69 := by omega
    have hn70 : ¬ j = 70 := by omega
    have hn71 : ¬ j = 71 := by omega
    have hn72 : ¬ j = 72 := by omega
    have hn73 : ¬ j = 73 := by omega
    have hn74 : ¬ j = 74 := by omega
    simp only [qup, if_neg hn63, if_neg hn64, if_neg hn65, if_neg hn66, if_neg hn67, if_neg hn68, if_neg hn69, if_neg hn70, if_neg hn71, if_neg hn72, if_neg hn73, if_neg hn74] <;> exact hkk j hj) rfl h64 h65 h66 h67 h68 h69 h70 h71 h72 h73 rfl
  intro f1 hk ho h64 h65 h66 h67 h68 h69 h70 h71 h72 h73 h74
  clear hkk
  have hkk := hk
  refine step.1 _ _ _ _ _ _ _ srX12_init_100_ok ?_
  refine ⟨_, _, rfl, by decide, by decide, rfl, Nat.le_of_ble_eq_true rfl, Nat.le_of_ble_eq_true rfl, Nat.le_of_ble_eq_true rfl, ?_⟩
  refine ⟨_, ho, Nat.le_of_ble_eq_true rfl, rfl, ?_⟩
  suffices H : ∀ f1 : Nat → Option qE, (∀ j : Nat, j < 63 → f1 j = f j) → f1 63 = some (.inl (12, (((((((((((((qdef 12 65).set 1 (.ref 64)).set 8 (.int (-1))).set 9 (.ref 65)).set 10 (.ref 66)).set 11 (.ref 67)).set 12 (.ref 68)).set 13 (.ref 69)).set 24 (.ref 70)).set 25 (.ref 71)).set 26 (.ref 72)).set 27 (.ref 73)).set 28 (.ref 74)).set 29 (.ref 75))) → f1 64 = some (qarr .int 3) → f1 65 = some (qarr .int 600) → f1 66 = some (qarr .int 100) → f1 67 = some (qarr .int 100) → f1 68 = some (qarr .int 32) → f1 69 = some (qarr .int 32) → f1 70 = some (qarr .int 150) → f1 71 = some (qarr .int 150) → f1 72 = some (qarr .int 300) → f1 73 = some (qarr .int 300) → f1 74 = some (qarr .int 2) → f1 75 = some (qarr .int 150) → run 109 [(0, .ref 63)] [] (76, f1) 12 1919 from H _ (fun j hj => by
    have hn63 : ¬ j = 63 := by omega
    have hn64 : ¬ j = 64 := by omega
    have hn65 : ¬ j = 65 := by omega
    have hn66 : ¬ j = 66 := by omega
    have hn67 : ¬ j = 67 := by omega
    have hn68 : ¬ j = 68 := by omega
    have hn69 : ¬ j = 69 := by omega
    have hn70 : ¬ j = 70 := by omega
    have hn71 : ¬ j = 71 := by omega
    have hn72 : ¬ j = 72 := by omega
    have hn73 : ¬ j = 73 := by omega
    have hn74 : ¬ j = 74 := by omega
    have hn75 : ¬ j = 75 := by omega
    simp only [qup, if_neg hn63, if_neg hn64, if_neg hn65, if_neg hn66, if_neg hn67, if_neg hn68, if_neg hn69, if_neg hn70, if_neg hn71, if_neg hn72, if_neg hn73, if_neg hn74, if_neg hn75] <;> exact hkk j hj) rfl h64 h65 h66 h67 h68 h69 h70 h71 h72 h73 h74 rfl
  intro f1 hk ho h64 h65 h66 h67 h68 h69 h70 h71 h72 h73 h74 h75
  clear hkk
  have hkk := hk
  refine step.1 _ _ _ _ _ _ _ srX12_init_109_ok ?_
  refine ⟨_, _, rfl, by decide, by decide, rfl, Nat.le_of_ble_eq_true rfl, Nat.le_of_ble_eq_true rfl, Nat.le_of_ble_eq_true rfl, ?_⟩
  refine ⟨_, ho, Nat.le_of_ble_eq_true rfl, rfl, ?_⟩
  suffices H : ∀ f1 : Nat → Option qE, (∀ j : Nat, j < 63 → f1 j = f j) → f1 63 = some (.inl (12, ((((((((((((((qdef 12 65).set 1 (.ref 64)).set 8 (.int (-1))).set 9 (.ref 65)).set 10 (.ref 66)).set 11 (.ref 67)).set 12 (.ref 68)).set 13 (.ref 69)).set 24 (.ref 70)).set 25 (.ref 71)).set 26 (.ref 72)).set 27 (.ref 73)).set 28 (.ref 74)).set 29 (.ref 75)).set 31 (.ref 76))) → f1 64 = some (qarr .int 3) → f1 65 = some (qarr .int 600) → f1 66 = some (qarr .int 100) → f1 67 = some (qarr .int 100) → f1 68 = some (qarr .int 32) → f1 69 = some (qarr .int 32) → f1 70 = some (qarr .int 150) → f1 71 = some (qarr .int 150) → f1 72 = some (qarr .int 300) → f1 73 = some (qarr .int 300) → f1 74 = some (qarr .int 2) → f1 75 = some (qarr .int 150) → f1 76 = some (qarr .int 10) → run 117 [(0, .ref 63)] [] (77, f1) 13 1929 from H _ (fun j hj => by
    have hn63 : ¬ j = 63 := by omega
    have hn64 : ¬ j = 64 := by omega
    have hn65 : ¬ j = 65 := by omega
    have hn66 : ¬ j = 66 := by omega
    have hn67 : ¬ j = 67 := by omega
    have hn68 : ¬ j = 68 := by omega
    have hn69 : ¬ j = 69 := by omega
    have hn70 : ¬ j = 70 := by omega
    have hn71 : ¬ j = 71 := by omega
    have hn72 : ¬ j = 72 := by omega
    have hn73 : ¬ j = 73 := by omega
    have hn74 : ¬ j = 74 := by omega
    have hn75 : ¬ j = 75 := by omega
    have hn76 : ¬ j = 76 := by omega
    simp only [qup, if_neg hn63, if_neg hn64, if_neg hn65, if_neg hn66, if_neg hn67, if_neg hn68, if_neg hn69, if_neg hn70, if_neg hn71, if_neg hn72, if_neg hn73, if_neg hn74, if_neg hn75, if_neg hn76] <;> exact hkk j hj) rfl h64 h65 h66 h67 h68 h69 h70 h71 h72 h73 h74 h75 rfl
  intro f1 hk ho h64 h65 h66 h67 h68 h69 h70 h71 h72 h73 h74 h75 h76
  clear hkk
  have hkk := hk
  refine step.1 _ _ _ _ _ _ _ srX12_init_117_ok ?_
  refine ⟨_, _, rfl, by decide, by decide, rfl, Nat.le_of_ble_eq_true rfl, Nat.le_of_ble_eq_true rfl, Nat.le_of_ble_eq_true rfl, ?_⟩
  refine ⟨_, ho, Nat.le_of_ble_eq_true rfl, rfl, ?_⟩
  suffices H : ∀ f1 : Nat → Option qE, (∀ j : Nat, j < 63 → f1 j = f j) → f1 63 = some (.inl (12, (((((((((((((((qdef 12 65).set 1 (.ref 64)).set 8 (.int (-1))).set 9 (.ref 65)).set 10 (.ref 66)).set 11 (.ref 67)).set 12 (.ref 68)).set 13 (.ref 69)).set 24 (.ref 70)).set 25 (.ref 71)).set 26 (.ref 72)).set 27 (.ref 73)).set 28 (.ref 74)).set 29 (.ref 75)).set 31 (.ref 76)).set 32 (.ref 77))) → f1 64 = some (qarr .int 3) → f1 65 = some (qarr .int 600) → f1 66 = some (qarr .int 100) → f1 67 = some (qarr .int 100) → f1 68 = some (qarr .int 32) → f1 69 = some (qarr .int 32) → f1 70 = some (qarr .int 150) → f1 71 = some (qarr .int 150) → f1 72 = some (qarr .int 300) → f1 73 = some (qarr .int 300) → f1 74 = some (qarr .int 2) → f1 75 = some (qarr .int 150) → f1 76 = some (qarr .int 10) → f1 77 = some (qarr .int 30) → run 125 [(0, .ref 63)] [] (78, f1) 14 1959 from H _ (fun j hj => by
    have hn63 : ¬ j = 63 := by omega
    have hn64 : ¬ j = 64 := by omega
    have hn65 : ¬ j = 65 := by omega
    have hn66 : ¬ j = 66 := by omega
    have hn67 : ¬ j = 67 := by omega
    have hn68 : ¬ j = 68 := by omega
    have hn69 : ¬ j = 69 := by omega
    have hn70 : ¬ j = 70 := by omega
    have hn71 : ¬ j = 71 := by omega
    have hn72 : ¬ j = 72 := by omega
    have hn73 : ¬ j = 73 := by omega
    have hn74 : ¬ j = 74 := by omega
    have hn75 : ¬ j = 75 := by omega
    have hn76 : ¬ j = 76 := by omega
    have hn77 : ¬ j = 77 := by omega
    simp only [qup, if_neg hn63, if_neg hn64, if_neg hn65, if_neg hn66, if_neg hn67, if_neg hn68, if_neg hn69, if_neg hn70, if_neg hn71, if_neg hn72, if_neg hn73, if_neg hn74, if_neg hn75, if_neg hn76, if_neg hn77] <;> exact hkk j hj) rfl h64 h65 h66 h67 h68 h69 h70 h71 h72 h73 h74 h75 h76 rfl
  intro f1 hk ho h64 h65 h66 h67 h68 h69 h70 h71 h72 h73 h74 h75 h76 h77
  clear hkk
  have hkk := hk
  refine step.1 _ _ _ _ _ _ _ srX12_init_125_ok ?_
  refine ⟨_, _, rfl, by decide, by decide, rfl, Nat.le_of_ble_eq_true rfl, Nat.le_of_ble_eq_true rfl, Nat.le_of_ble_eq_true rfl, ?_⟩
  refine ⟨_, ho, Nat.le_of_ble_eq_true rfl, rfl, ?_⟩
  suffices H : ∀ f1 : Nat → Option qE, (∀ j : Nat, j < 63 → f1 j = f j) → f1 63 = some (.inl (12, ((((((((((((((((qdef 12 65).set 1 (.ref 64)).set 8 (.int (-1))).set 9 (.ref 65)).set 10 (.ref 66)).set 11 (.ref 67)).set 12 (.ref 68)).set 13 (.ref 69)).set 24 (.ref 70)).set 25 (.ref 71)).set 26 (.ref 72)).set 27 (.ref 73)).set 28 (.ref 74)).set 29 (.ref 75)).set 31 (.ref 76)).set 32 (.ref 77)).set 33 (.ref 78))) → f1 64 = some (qarr .int 3) → f1 65 = some (qarr .int 600) → f1 66 = some (qarr .int 100) → f1 67 = some (qarr .int 100) → f1 68 = some (qarr .int 32) → f1 69 = some (qarr .int 32) → f1 70 = some (qarr .int 150) → f1 71 = some (qarr .int 150) → f1 72 = some (qarr .int 300) → f1 73 = some (qarr .int 300) → f1 74 = some (qarr .int 2) → f1 75 = some (qarr .int 150) → f1 76 = some (qarr .int 10) → f1 77 = some (qarr .int 30) → f1 78 = some (qarr .int 30) → run 133 [(0, .ref 63)] [] (79, f1) 15 1989 from H _ (fun j hj => by
    have hn63 : ¬ j = 63 := by omega
    have hn64 : ¬ j = 64 := by omega
    have hn65 : ¬ j = 65 := by omega
    have hn66 : ¬ j = 66 := by omega
    have hn67 : ¬ j = 67 := by omega
    have hn68 : ¬ j = 68 := by omega
    have hn69 : ¬ j = 69 := by omega
    have hn70 : ¬ j = 70 := by omega
    have hn71 : ¬ j = 71 := by omega
    have hn72 : ¬ j = 72 := by omega
    have hn73 : ¬ j = 73 := by omega
    have hn74 : ¬ j = 74 := by omega
    have hn75 : ¬ j = 75 := by omega
    have hn76 : ¬ j = 76 := by omega
    have hn77 : ¬ j = 77 := by omega
    have hn78 : ¬ j = 78 := by omega
    simp only [qup, if_neg hn63, if_neg hn64, if_neg hn65, if_neg hn66, if_neg hn67, if_neg hn68, if_neg hn69, if_neg hn70, if_neg hn71, if_neg hn72, if_neg hn73, if_neg hn74, if_neg hn75, if_neg hn76, if_neg hn77, if_neg hn78] <;> exact hkk j hj) rfl h64 h65 h66 h67 h68 h69 h70 h71 h72 h73 h74 h75 h76 h77 rfl
  intro f1 hk ho h64 h65 h66 h67 h68 h69 h70 h71 h72 h73 h74 h75 h76 h77 h78
  clear hkk
  have hkk := hk
  refine step.1 _ _ _ _ _ _ _ srX12_init_133_ok ?_
  refine ⟨_, _, rfl, by decide, by decide, rfl, Nat.le_of_ble_eq_true rfl, Nat.le_of_ble_eq_true rfl, Nat.le_of_ble_eq_true rfl, ?_⟩
  refine ⟨_, ho, Nat.le_of_ble_eq_true rfl, rfl, ?_⟩
  suffices H : ∀ f1 : Nat → Option qE, (∀ j : Nat, j < 63 → f1 j = f j) → f1 63 = some (.inl (12, (((((((((((((((((qdef 12 65).set 1 (.ref 64)).set 8 (.int (-1))).set 9 (.ref 65)).set 10 (.ref 66)).set 11 (.ref 67)).set 12 (.ref 68)).set 13 (.ref 69)).set 24 (.ref 70)).set 25 (.ref 71)).set 26 (.ref 72)).set 27 (.ref 73)).set 28 (.ref 74)).set 29 (.ref 75)).set 31 (.ref 76)).set 32 (.ref 77)).set 33 (.ref 78)).set 34 (.ref 79))) → f1 64 = some (qarr .int 3) → f1 65 = some (qarr .int 600) → f1 66 = some (qarr .int 100) → f1 67 = some (qarr .int 100) → f1 68 = some (qarr .int 32) → f1 69 = some (qarr .int 32) → f1 70 = some (qarr .int 150) → f1 71 = some (qarr .int 150) → f1 72 = some (qarr .int 300) → f1 73 = some (qarr .int 300) → f1 74 = some (qarr .int 2) → f1 75 = some (qarr .int 150) → f1 76 = some (qarr .int 10) → f1 77 = some (qarr .int 30) → f1 78 = some (qarr .int 30) → f1 79 = some (qarr .int 16) → run 141 [(0, .ref 63)] [] (80, f1) 16 2005 from H _ (fun j hj => by
    have hn63 : ¬ j = 63 := by omega
    have hn64 : ¬ j = 64 := by omega
    have hn65 : ¬ j = 65 := by omega
    have hn66 : ¬ j = 66 := by omega
    have hn67 : ¬ j = 67 := by omega
    have hn68 : ¬ j = 68 := by omega
    have hn69 : ¬ j = 69 := by omega
    have hn70 : ¬ j = 70 := by omega
    have hn71 : ¬ j = 71 := by omega
    have hn72 : ¬ j = 72 := by omega
    have hn73 : ¬ j = 73 := by omega
    have hn74 : ¬ j = 74 := by omega
    have hn75 : ¬ j = 75 := by omega
    have hn76 : ¬ j = 76 := by omega
    have hn77 : ¬ j = 77 := by omega
    have hn78 : ¬ j = 78 := by omega
    have hn79 : ¬ j = 79 := by omega
    simp only [qup, if_neg hn63, if_neg hn64, if_neg hn65, if_neg hn66, if_neg hn67, if_neg hn68, if_neg hn69, if_neg hn70, if_neg hn71, if_neg hn72, if_neg hn73, if_neg hn74, if_neg hn75, if_neg hn76, if_neg hn77, if_neg hn78, if_neg hn79] <;> exact hkk j hj) rfl h64 h65 h66 h67 h68 h69 h70 h71 h72 h73 h74 h75 h76 h77 h78 rfl
  intro f1 hk ho h64 h65 h66 h67 h68 h69 h70 h71 h72 h73 h74 h75 h76 h77 h78 h79
  clear hkk
  have hkk := hk
  refine step.1 _ _ _ _ _ _ _ srX12_init_141_ok ?_
  refine ⟨_, _, rfl, by decide, by decide, rfl, Nat.le_of_ble_eq_true rfl, Nat.le_of_ble_eq_true rfl, Nat.le_of_ble_eq_true rfl, ?_⟩
  refine ⟨_, ho, Nat.le_of_ble_eq_true rfl, rfl, ?_⟩
  suffices H : ∀ f1 : Nat → Option qE, (∀ j : Nat, j < 63 → f1 j = f j) → f1 63 = some (.inl (12, ((((((((((((((((((qdef 12 65).set 1 (.ref 64)).set 8 (.int (-1))).set 9 (.ref 65)).set 10 (.ref 66)).set 11 (.ref 67)).set 12 (.ref 68)).set 13 (.ref 69)).set 24 (.ref 70)).set 25 (.ref 71)).set 26 (.ref 72)).set 27 (.ref 73)).set 28 (.ref 74)).set 29 (.ref 75)).set 31 (.ref 76)).set 32 (.ref 77)).set 33 (.ref 78)).set 34 (.ref 79)).set 35 (.ref 80))) → f1 64 = some (qarr .int 3) → f1 65 = some (qarr .int 600) → f1 66 = some (qarr .int 100) → f1 67 = some (qarr .int 100) → f1 68 = some (qarr .int 32) → f1 69 = some (qarr .int 32) → f1 70 = some (qarr .int 150) → f1 71 = some (qarr .int 150) → f1 72 = some (qarr .int 300) → f1 73 = some (qarr .int 300) → f1 74 = some (qarr .int 2) → f1 75 = some (qarr .int 150) → f1 76 = some (qarr .int 10) → f1 77 = some (qarr .int 30) → f1 78 = some (qarr .int 30) → f1 79 = some (qarr .int 16) → f1 80 = some (qarr .int 16) → run 149 [(0, .ref 63)] [] (81, f1) 17 2021 from H _ (fun j hj => by
    have hn63 : ¬ j = 63 := by omega
    have hn64 : ¬ j = 64 := by omega
    have hn65 : ¬ j = 65 := by omega
    have hn66 : ¬ j = 66 := by omega
    have hn67 : ¬ j = 67 := by omega
    have hn68 : ¬ j = 68 := by omega
    have hn69 : ¬ j = 69 := by omega
    have hn70 : ¬ j = 70 := by omega
    have hn71 : ¬ j = 71 := by omega
    have hn72 : ¬ j = 72 := by omega
    have hn73 : ¬ j = 73 := by omega
    have hn74 : ¬ j = 74 := by omega
    have hn75 : ¬ j = 75 := by omega
    have hn76 : ¬ j = 76 := by omega
    have hn77 : ¬ j = 77 := by omega
    have hn78 : ¬ j = 78 := by omega
    have hn79 : ¬ j = 79 := by omega
    have hn80 : ¬ j = 80 := by omega
    simp only [qup, if_neg hn63, if_neg hn64, if_neg hn65, if_neg hn66, if_neg hn67, if_neg hn68, if_neg hn69, if_neg hn70, if_neg hn71, if_neg hn72, if_neg hn73, if_neg hn74, if_neg hn75, if_neg hn76, if_neg hn77, if_neg hn78, if_neg hn79, if_neg hn80] <;> exact hkk j hj) rfl h64 h65 h66 h67 h68 h69 h70 h71 h72 h73 h74 h75 h76 h77 h78 h79 rfl
  intro f1 hk ho h64 h65 h66 h67 h68 h69 h70 h71 h72 h73 h74 h75 h76 h77 h78 h79 h80
  clear hkk
  have hkk := hk
  refine step.1 _ _ _ _ _ _ _ srX12_init_149_ok ?_
  refine Or.inr ⟨by decide, ?_⟩
  refine ⟨_, _, rfl, by decide, by decide, rfl, Nat.le_of_ble_eq_true rfl, Nat.le_of_ble_eq_true rfl, Nat.le_of_ble_eq_true rfl, ?_⟩
  refine ⟨_, ho, Nat.le_of_ble_eq_true rfl, rfl, ?_⟩
  suffices H : ∀ f1 : Nat → Option qE, (∀ j : Nat, j < 63 → f1 j = f j) → f1 63 = some (.inl (12, (((((((((((((((((((qdef 12 65).set 1 (.ref 64)).set 8 (.int (-1))).set 9 (.ref 65)).set 10 (.ref 66)).set 11 (.ref 67)).set 12 (.ref 68)).set 13 (.ref 69)).set 24 (.ref 70)).set 25 (.ref 71)).set 26 (.ref 72)).set 27 (.ref 73)).set 28 (.ref 74)).set 29 (.ref 75)).set 31 (.ref 76)).set 32 (.ref 77)).set 33 (.ref 78)).set 34 (.ref 79)).set 35 (.ref 80)).set 43 (.ref 81))) → f1 64 = some (qarr .int 3) → f1 65 = some (qarr .int 600) → f1 66 = some (qarr .int 100) → f1 67 = some (qarr .int 100) → f1 68 = some (qarr .int 32) → f1 69 = some (qarr .int 32) → f1 70 = some (qarr .int 150) → f1 71 = some (qarr .int 150) → f1 72 = some (qarr .int 300) → f1 73 = some (qarr .int 300) → f1 74 = some (qarr .int 2) → f1 75 = some (qarr .int 150) → f1 76 = some (qarr .int 10) → f1 77 = some (qarr .int 30) → f1 78 = some (qarr .int 30) → f1 79 = some (qarr .int 16) → f1 80 = some (qarr .int 16) → f1 81 = some (qarr .long 92352) → run 157 [(0, .ref 63)] [] (82, f1) 18 94373 from H _ (fun j hj => by
    have hn63 : ¬ j = 63 := by omega
    have hn64 : ¬ j = 64 := by omega
    have hn65 : ¬ j = 65 := by omega
    have hn66 : ¬ j = 66 := by omega
    have hn67 : ¬ j = 67 := by omega
    have hn68 : ¬ j = 68 := by omega
    have hn69 : ¬ j = 69 := by omega
    have hn70 : ¬ j = 70 := by omega
    have hn71 : ¬ j = 71 := by omega
    have hn72 : ¬ j = 72 := by omega
    have hn73 : ¬ j = 73 := by omega
    have hn74 : ¬ j = 74 := by omega
    have hn75 : ¬ j = 75 := by omega
    have hn76 : ¬ j = 76 := by omega
    have hn77 : ¬ j = 77 := by omega
    have hn78 : ¬ j = 78 := by omega
    have hn79 : ¬ j = 79 := by omega
    have hn80 : ¬ j = 80 := by omega
    have hn81 : ¬ j = 81 := by omega
    simp only [qup, if_neg hn63, if_neg hn64, if_neg hn65, if_neg hn66, if_neg hn67, if_neg hn68, if_neg hn69, if_neg hn70, if_neg hn71, if_neg hn72, if_neg hn73, if_neg hn74, if_neg hn75, if_neg hn76, if_neg hn77, if_neg hn78, if_neg hn79, if_neg hn80, if_neg hn81] <;> exact hkk j hj) rfl h64 h65 h66 h67 h68 h69 h70 h71 h72 h73 h74 h75 h76 h77 h78 h79 h80 rfl
  intro f1 hk ho h64 h65 h66 h67 h68 h69 h70 h71 h72 h73 h74 h75 h76 h77 h78 h79 h80 h81
  clear hkk
  have hkk := hk
  refine step.1 _ _ _ _ _ _ _ srX12_init_157_ok ?_
  refine ⟨_, _, rfl, by decide, by decide, rfl, Nat.le_of_ble_eq_true rfl, Nat.le_of_ble_eq_true rfl, Nat.le_of_ble_eq_true rfl, ?_⟩
  refine ⟨_, ho, Nat.le_of_ble_eq_true rfl, rfl, ?_⟩
  suffices H : ∀ f1 : Nat → Option qE, (∀ j : Nat, j < 63 → f1 j = f j) → f1 63 = some (.inl (12, ((((((((((((((((((((qdef 12 65).set 1 (.ref 64)).set 8 (.int (-1))).set 9 (.ref 65)).set 10 (.ref 66)).set 11 (.ref 67)).set 12 (.ref 68)).set 13 (.ref 69)).set 24 (.ref 70)).set 25 (.ref 71)).set 26 (.ref 72)).set 27 (.ref 73)).set 28 (.ref 74)).set 29 (.ref 75)).set 31 (.ref 76)).set 32 (.ref 77)).set 33 (.ref 78)).set 34 (.ref 79)).set 35 (.ref 80)).set 43 (.ref 81)).set 44 (.ref 82))) → f1 64 = some (qarr .int 3) → f1 65 = some (qarr .int 600) → f1 66 = some (qarr .int 100) → f1 67 = some (qarr .int 100) → f1 68 = some (qarr .int 32) → f1 69 = some (qarr .int 32) → f1 70 = some (qarr .int 150) → f1 71 = some (qarr .int 150) → f1 72 = some (qarr .int 300) → f1 73 = some (qarr .int 300) → f1 74 = some (qarr .int 2) → f1 75 = some (qarr .int 150) → f1 76 = some (qarr .int 10) → f1 77 = some (qarr .int 30) → f1 78 = some (qarr .int 30) → f1 79 = some (qarr .int 16) → f1 80 = some (qarr .int 16) → f1 81 = some (qarr .long 92352) → f1 82 = some (qarr .long 95) → run 165 [(0, .ref 63)] [] (83, f1) 19 94468 from H _ (fun j hj => by
    have hn63 : ¬ j = 63 := by omega
    have hn64 : ¬ j = 64 := by omega
    have hn65 : ¬ j = 65 := by omega
    have hn66 : ¬ j = 66 := by omega
    have hn67 : ¬ j = 67 := by omega
    have hn68 : ¬ j = 68 := by omega
    have hn69 : ¬ j = 69 := by omega
    have hn70 : ¬ j = 70 := by omega
    have hn71 : ¬ j = 71 := by omega
    have hn72 : ¬ j = 72 := by omega
    have hn73 : ¬ j = 73 := by omega
    have hn74 : ¬ j = 74 := by omega
    have hn75 : ¬ j = 75 := by omega
    have hn76 : ¬ j = 76 := by omega
    have hn77 : ¬ j = 77 := by omega
    have hn78 : ¬ j = 78 := by omega
    have hn79 : ¬ j = 79 := by omega
    have hn80 : ¬ j = 80 := by omega
    have hn81 : ¬ j = 81 := by omega
    have hn82 : ¬ j = 82 := by omega
    simp only [qup, if_neg hn63, if_neg hn64, if_neg hn65, if_neg hn66, if_neg hn67, if_neg hn68, if_neg hn69, if_neg hn70, if_neg hn71, if_neg hn72, if_neg hn73, if_neg hn74, if_neg hn75, if_neg hn76, if_neg hn77, if_neg hn78, if_neg hn79, if_neg hn80, if_neg hn81, if_neg hn82] <;> exact hkk j hj) rfl h64 h65 h66 h67 h68 h69 h70 h71 h72 h73 h74 h75 h76 h77 h78 h79 h80 h81 rfl
  intro f1 hk ho h64 h65 h66 h67 h68 h69 h70 h71 h72 h73 h74 h75 h76 h77 h78 h79 h80 h81 h82
  clear hkk
  have hkk := hk
  refine step.1 _ _ _ _ _ _ _ srX12_init_165_ok ?_
  refine ⟨_, _, rfl, by decide, by decide, rfl, Nat.le_of_ble_eq_true rfl, Nat.le_of_ble_eq_true rfl, Nat.le_of_ble_eq_true rfl, ?_⟩
  refine ⟨_, ho, Nat.le_of_ble_eq_true rfl, rfl, ?_⟩
  suffices H : ∀ f1 : Nat → Option qE, (∀ j : Nat, j < 63 → f1 j = f j) → f1 63 = some (.inl (12, (((((((((((((((((((((qdef 12 65).set 1 (.ref 64)).set 8 (.int (-1))).set 9 (.ref 65)).set 10 (.ref 66)).set 11 (.ref 67)).set 12 (.ref 68)).set 13 (.ref 69)).set 24 (.ref 70)).set 25 (.ref 71)).set 26 (.ref 72)).set 27 (.ref 73)).set 28 (.ref 74)).set 29 (.ref 75)).set 31 (.ref 76)).set 32 (.ref 77)).set 33 (.ref 78)).set 34 (.ref 79)).set 35 (.ref 80)).set 43 (.ref 81)).set 44 (.ref 82)).set 45 (.ref 83))) → f1 64 = some (qarr .int 3) → f1 65 = some (qarr .int 600) → f1 66 = some (qarr .int 100) → f1 67 = some (qarr .int 100) → f1 68 = some (qarr .int 32) → f1 69 = some (qarr .int 32) → f1 70 = some (qarr .int 150) → f1 71 = some (qarr .int 150) → f1 72 = some (qarr .int 300) → f1 73 = some (qarr .int 300) → f1 74 = some (qarr .int 2) → f1 75 = some (qarr .int 150) → f1 76 = some (qarr .int 10) → f1 77 = some (qarr .int 30) → f1 78 = some (qarr .int 30) → f1 79 = some (qarr .int 16) → f1 80 = some (qarr .int 16) → f1 81 = some (qarr .long 92352) → f1 82 = some (qarr .long 95) → f1 83 = some (qarr .int 95) → run 173 [(0, .ref 63)] [] (84, f1) 20 94563 from H _ (fun j hj => by
    have hn63 : ¬ j = 63 := by omega
    have hn64 : ¬ j = 64 := by omega
    have hn65 : ¬ j = 65 := by omega
    have hn66 : ¬ j = 66 := by omega
    have hn67 : ¬ j = 67 := by omega
    have hn68 : ¬ j = 68 := by omega
    have hn69 : ¬ j = 69 := by omega
    have hn70 : ¬ j = 70 := by omega
    have hn71 : ¬ j = 71 := by omega
    have hn72 : ¬ j = 72 := by omega
    have hn73 : ¬ j = 73 := by omega
    have hn74 : ¬ j = 74 := by omega
    have hn75 : ¬ j = 75 := by omega
    have hn76 : ¬ j = 76 := by omega
    have hn77 : ¬ j = 77 := by omega
    have hn78 : ¬ j = 78 := by omega
    have hn79 : ¬ j = 79 := by omega
    have hn80 : ¬ j = 80 := by omega
    have hn81 : ¬ j = 81 := by omega
    have hn82 : ¬ j = 82 := by omega
    have hn83 : ¬ j = 83 := by omega
    simp only [qup, if_neg hn63, if_neg hn64, if_neg hn65, if_neg hn66, if_neg hn67, if_neg hn68, if_neg hn69, if_neg hn70, if_neg hn71, if_neg hn72, if_neg hn73, if_neg hn74, if_neg hn75, if_neg hn76, if_neg hn77, if_neg hn78, if_neg hn79, if_neg hn80, if_neg hn81, if_neg hn82, if_neg hn83] <;> exact hkk j hj) rfl h64 h65 h66 h67 h68 h69 h70 h71 h72 h73 h74 h75 h76 h77 h78 h79 h80 h81 h82 rfl
  intro f1 hk ho h64 h65 h66 h67 h68 h69 h70 h71 h72 h73 h74 h75 h76 h77 h78 h79 h80 h81 h82 h83
  clear hkk
  have hkk := hk
  refine step.1 _ _ _ _ _ _ _ srX12_init_173_ok ?_
  refine ⟨_, _, rfl, by decide, by decide, rfl, Nat.le_of_ble_eq_true rfl, Nat.le_of_ble_eq_true rfl, Nat.le_of_ble_eq_true rfl, ?_⟩
  refine ⟨_, ho, Nat.le_of_ble_eq_true rfl, rfl, ?_⟩
  suffices H : ∀ f1 : Nat → Option qE, (∀ j : Nat, j < 63 → f1 j = f j) → f1 63 = some (.inl (12, ((((((((((((((((((((((qdef 12 65).set 1 (.ref 64)).set 8 (.int (-1))).set 9 (.ref 65)).set 10 (.ref 66)).set 11 (.ref 67)).set 12 (.ref 68)).set 13 (.ref 69)).set 24 (.ref 70)).set 25 (.ref 71)).set 26 (.ref 72)).set 27 (.ref 73)).set 28 (.ref 74)).set 29 (.ref 75)).set 31 (.ref 76)).set 32 (.ref 77)).set 33 (.ref 78)).set 34 (.ref 79)).set 35 (.ref 80)).set 43 (.ref 81)).set 44 (.ref 82)).set 45 (.ref 83)).set 46 (.ref 84))) → f1 64 = some (qarr .int 3) → f1 65 = some (qarr .int 600) → f1 66 = some (qarr .int 100) → f1 67 = some (qarr .int 100) → f1 68 = some (qarr .int 32) → f1 69 = some (qarr .int 32) → f1 70 = some (qarr .int 150) → f1 71 = some (qarr .int 150) → f1 72 = some (qarr .int 300) → f1 73 = some (qarr .int 300) → f1 74 = some (qarr .int 2) → f1 75 = some (qarr .int 150) → f1 76 = some (qarr .int 10) → f1 77 = some (qarr .int 30) → f1 78 = some (qarr .int 30) → f1 79 = some (qarr .int 16) → f1 80 = some (qarr .int 16) → f1 81 = some (qarr .long 92352) → f1 82 = some (qarr .long 95) → f1 83 = some (qarr .int 95) → f1 84 = some (qarr .int 5) → run 180 [(0, .ref 63)] [] (85, f1) 21 94568 from H _ (fun j hj => by
    have hn63 : ¬ j = 63 := by omega
    have hn64 : ¬ j = 64 := by omega
    have hn65 : ¬ j = 65 := by omega
    have hn66 : ¬ j = 66 := by omega
    have hn67 : ¬ j = 67 := by omega
    have hn68 : ¬ j = 68 := by omega
    have hn69 : ¬ j = 69 := by omega
    have hn70 : ¬ j = 70 := by omega
    have hn71 : ¬ j = 71 := by omega
    have hn72 : ¬ j = 72 := by omega
    have hn73 : ¬ j = 73 := by omega
    have hn74 : ¬ j = 74 := by omega
    have hn75 : ¬ j = 75 := by omega
    have hn76 : ¬ j = 76 := by omega
    have hn77 : ¬ j = 77 := by omega
    have hn78 : ¬ j = 78 := by omega
    have hn79 : ¬ j = 79 := by omega
    have hn80 : ¬ j = 80 := by omega
    have hn81 : ¬ j = 81 := by omega
    have hn82 : ¬ j = 82 := by omega
    have hn83 : ¬ j = 83 := by omega
    have hn84 : ¬ j = 84 := by omega
    simp only [qup, if_neg hn63, if_neg hn64, if_neg hn65, if_neg hn66, if_neg hn67, if_neg hn68, if_neg hn69, if_neg hn70, if_neg hn71, if_neg hn72, if_neg hn73, if_neg hn74, if_neg hn75, if_neg hn76, if_neg hn77, if_neg hn78, if_neg hn79, if_neg hn80, if_neg hn81, if_neg hn82, if_neg hn83, if_neg hn84] <;> exact hkk j hj) rfl h64 h65 h66 h67 h68 h69 h70 h71 h72 h73 h74 h75 h76 h77 h78 h79 h80 h81 h82 h83 rfl
  intro f1 hk ho h64 h65 h66 h67 h68 h69 h70 h71 h72 h73 h74 h75 h76 h77 h78 h79 h80 h81 h82 h83 h84
  clear hkk
  have hkk := hk
  refine step.1 _ _ _ _ _ _ _ srX12_init_180_ok ?_
  refine ⟨_, _, rfl, by decide, by decide, rfl, Nat.le_of_ble_eq_true rfl, Nat.le_of_ble_eq_true rfl, Nat.le_of_ble_eq_true rfl, ?_⟩
  refine ⟨_, ho, Nat.le_of_ble_eq_true rfl, rfl, ?_⟩
  suffices H : ∀ f1 : Nat → Option qE, (∀ j : Nat, j < 63 → f1 j = f j) → f1 63 = some (.inl (12, (((((((((((((((((((((((qdef 12 65).set 1 (.ref 64)).set 8 (.int (-1))).set 9 (.ref 65)).set 10 (.ref 66)).set 11 (.ref 67)).set 12 (.ref 68)).set 13 (.ref 69)).set 24 (.ref 70)).set 25 (.ref 71)).set 26 (.ref 72)).set 27 (.ref 73)).set 28 (.ref 74)).set 29 (.ref 75)).set 31 (.ref 76)).set 32 (.ref 77)).set 33 (.ref 78)).set 34 (.ref 79)).set 35 (.ref 80)).set 43 (.ref 81)).set 44 (.ref 82)).set 45 (.ref 83)).set 46 (.ref 84)).set 47 (.ref 85))) → f1 64 = some (qarr .int 3) → f1 65 = some (qarr .int 600) → f1 66 = some (qarr .int 100) → f1 67 = some (qarr .int 100) → f1 68 = some (qarr .int 32) → f1 69 = some (qarr .int 32) → f1 70 = some (qarr .int 150) → f1 71 = some (qarr .int 150) → f1 72 = some (qarr .int 300) → f1 73 = some (qarr .int 300) → f1 74 = some (qarr .int 2) → f1 75 = some (qarr .int 150) → f1 76 = some (qarr .int 10) → f1 77 = some (qarr .int 30) → f1 78 = some (qarr .int 30) → f1 79 = some (qarr .int 16) → f1 80 = some (qarr .int 16) → f1 81 = some (qarr .long 92352) → f1 82 = some (qarr .long 95) → f1 83 = some (qarr .int 95) → f1 84 = some (qarr .int 5) → f1 85 = some (qarr .int 32) → run 188 [(0, .ref 63)] [] (86, f1) 22 94600 from H _ (fun j hj => by
    have hn63 : ¬ j = 63 := by omega
    have hn64 : ¬ j = 64 := by omega
    have hn65 : ¬ j = 65 := by omega
    have hn66 : ¬ j = 66 := by omega
    have hn67 : ¬ j = 67 := by omega
    have hn68 : ¬ j = 68 := by omega
    have hn69 : ¬ j = 69 := by omega
    have hn70 : ¬ j = 70 := by omega
    have hn71 : ¬ j = 71 := by omega
    have hn72 : ¬ j = 72 := by omega
    have hn73 : ¬ j = 73 := by omega
    have hn74 : ¬ j = 74 := by omega
    have hn75 : ¬ j = 75 := by omega
    have hn76 : ¬ j = 76 := by omega
    have hn77 : ¬ j = 77 := by omega
    have hn78 : ¬ j = 78 := by omega
    have hn79 : ¬ j = 79 := by omega
    have hn80 : ¬ j = 80 := by omega
    have hn81 : ¬ j = 81 := by omega
    have hn82 : ¬ j = 82 := by omega
    have hn83 : ¬ j = 83 := by omega
    have hn84 : ¬ j = 84 := by omega
    have hn85 : ¬ j = 85 := by omega
    simp only [qup, if_neg hn63, if_neg hn64, if_neg hn65, if_neg hn66, if_neg hn67, if_neg hn68, if_neg hn69, if_neg hn70, if_neg hn71, if_neg hn72, if_neg hn73, if_neg hn74, if_neg hn75, if_neg hn76, if_neg hn77, if_neg hn78, if_neg hn79, if_neg hn80, if_neg hn81, if_neg hn82, if_neg hn83, if_neg hn84, if_neg hn85] <;> exact hkk j hj) rfl h64 h65 h66 h67 h68 h69 h70 h71 h72 h73 h74 h75 h76 h77 h78 h79 h80 h81 h82 h83 h84 rfl
  intro f1 hk ho h64 h65 h66 h67 h68 h69 h70 h71 h72 h73 h74 h75 h76 h77 h78 h79 h80 h81 h82 h83 h84 h85
  clear hkk
  have hkk := hk
  refine step.1 _ _ _ _ _ _ _ srX12_init_188_ok ?_
  refine ⟨_, _, rfl, by decide, by decide, rfl, Nat.le_of_ble_eq_true rfl, Nat.le_of_ble_eq_true rfl, Nat.le_of_ble_eq_true rfl, ?_⟩
  refine ⟨_, ho, Nat.le_of_ble_eq_true rfl, rfl, ?_⟩
  suffices H : ∀ f1 : Nat → Option qE, (∀ j : Nat, j < 63 → f1 j = f j) → f1 63 = some (.inl (12, ((((((((((((((((((((((((qdef 12 65).set 1 (.ref 64)).set 8 (.int (-1))).set 9 (.ref 65)).set 10 (.ref 66)).set 11 (.ref 67)).set 12 (.ref 68)).set 13 (.ref 69)).set 24 (.ref 70)).set 25 (.ref 71)).set 26 (.ref 72)).set 27 (.ref 73)).set 28 (.ref 74)).set 29 (.ref 75)).set 31 (.ref 76)).set 32 (.ref 77)).set 33 (.ref 78)).set 34 (.ref 79)).set 35 (.ref 80)).set 43 (.ref 81)).set 44 (.ref 82)).set 45 (.ref 83)).set 46 (.ref 84)).set 47 (.ref 85)).set 48 (.ref 86))) → f1 64 = some (qarr .int 3) → f1 65 = some (qarr .int 600) → f1 66 = some (qarr .int 100) → f1 67 = some (qarr .int 100) → f1 68 = some (qarr .int 32) → f1 69 = some (qarr .int 32) → f1 70 = some (qarr .int 150) → f1 71 = some (qarr .int 150) → f1 72 = some (qarr .int 300) → f1 73 = some (qarr .int 300) → f1 74 = some (qarr .int 2) → f1 75 = some (qarr .int 150) → f1 76 = some (qarr .int 10) → f1 77 = some (qarr .int 30) → f1 78 = some (qarr .int 30) → f1 79 = some (qarr .int 16) → f1 80 = some (qarr .int 16) → f1 81 = some (qarr .long 92352) → f1 82 = some (qarr .long 95) → f1 83 = some (qarr .int 95) → f1 84 = some (qarr .int 5) → f1 85 = some (qarr .int 32) → f1 86 = some (qarr .boolean 32) → run 196 [(0, .ref 63)] [] (87, f1) 23 94632 from H _ (fun j hj => by
    have hn63 : ¬ j = 63 := by omega
    have hn64 : ¬ j = 64 := by omega
    have hn65 : ¬ j = 65 := by omega
    have hn66 : ¬ j = 66 := by omega
    have hn67 : ¬ j = 67 := by omega
    have hn68 : ¬ j = 68 := by omega
    have hn69 : ¬ j = 69 := by omega
    have hn70 : ¬ j = 70 := by omega
    have hn71 : ¬ j = 71 := by omega
    have hn72 : ¬ j = 72 := by omega
    have hn73 : ¬ j = 73 := by omega
    have hn74 : ¬ j = 74 := by omega
    have hn75 : ¬ j = 75 := by omega
    have hn76 : ¬ j = 76 := by omega
    have hn77 : ¬ j = 77 := by omega
    have hn78 : ¬ j = 78 := by omega
    have hn79 : ¬ j = 79 := by omega
    have hn80 : ¬ j = 80 := by omega
    have hn81 : ¬ j = 81 := by omega
    have hn82 : ¬ j = 82 := by omega
    have hn83 : ¬ j = 83 := by omega
    have hn84 : ¬ j = 84 := by omega
    have hn85 : ¬ j = 85 := by omega
    have hn86 : ¬ j = 86 := by omega
    simp only [qup, if_neg hn63, if_neg hn64, if_neg hn65, if_neg hn66, if_neg hn67, if_neg hn68, if_neg hn69, if_neg hn70, if_neg hn71, if_neg hn72, if_neg hn73, if_neg hn74, if_neg hn75, if_neg hn76, if_neg hn77, if_neg hn78, if_neg hn79, if_neg hn80, if_neg hn81, if_neg hn82, if_neg hn83, if_neg hn84, if_neg hn85, if_neg hn86] <;> exact hkk j hj) rfl h64 h65 h66 h67 h68 h69 h70 h71 h72 h73 h74 h75 h76 h77 h78 h79 h80 h81 h82 h83 h84 h85 rfl
  intro f1 hk ho h64 h65 h66 h67 h68 h69 h70 h71 h72 h73 h74 h75 h76 h77 h78 h79 h80 h81 h82 h83 h84 h85 h86
  clear hkk
  have hkk := hk
  refine step.1 _ _ _ _ _ _ _ srX12_init_196_ok ?_
  refine ⟨_, _, rfl, by decide, by decide, rfl, Nat.le_of_ble_eq_true rfl, Nat.le_of_ble_eq_true rfl, Nat.le_of_ble_eq_true rfl, ?_⟩
  refine ⟨_, ho, Nat.le_of_ble_eq_true rfl, rfl, ?_⟩
  suffices H : ∀ f1 : Nat → Option qE, (∀ j : Nat, j < 63 → f1 j = f j) → f1 63 = some (.inl (12, (((((((((((((((((((((((((qdef 12 65).set 1 (.ref 64)).set 8 (.int (-1))).set 9 (.ref 65)).set 10 (.ref 66)).set 11 (.ref 67)).set 12 (.ref 68)).set 13 (.ref 69)).set 24 (.ref 70)).set 25 (.ref 71)).set 26 (.ref 72)).set 27 (.ref 73)).set 28 (.ref 74)).set 29 (.ref 75)).set 31 (.ref 76)).set 32 (.ref 77)).set 33 (.ref 78)).set 34 (.ref 79)).set 35 (.ref 80)).set 43 (.ref 81)).set 44 (.ref 82)).set 45 (.ref 83)).set 46 (.ref 84)).set 47 (.ref 85)).set 48 (.ref 86)).set 55 (.ref 87))) → f1 64 = some (qarr .int 3) → f1 65 = some (qarr .int 600) → f1 66 = some (qarr .int 100) → f1 67 = some (qarr .int 100) → f1 68 = some (qarr .int 32) → f1 69 = some (qarr .int 32) → f1 70 = some (qarr .int 150) → f1 71 = some (qarr .int 150) → f1 72 = some (qarr .int 300) → f1 73 = some (qarr .int 300) → f1 74 = some (qarr .int 2) → f1 75 = some (qarr .int 150) → f1 76 = some (qarr .int 10) → f1 77 = some (qarr .int 30) → f1 78 = some (qarr .int 30) → f1 79 = some (qarr .int 16) → f1 80 = some (qarr .int 16) → f1 81 = some (qarr .long 92352) → f1 82 = some (qarr .long 95) → f1 83 = some (qarr .int 95) → f1 84 = some (qarr .int 5) → f1 85 = some (qarr .int 32) → f1 86 = some (qarr .boolean 32) → f1 87 = some (qarr .int 10) → run 204 [(0, .ref 63)] [] (88, f1) 24 94642 from H _ (fun j hj => by
    have hn63 : ¬ j = 63 := by omega
    have hn64 : ¬ j = 64 := by omega
    have hn65 : ¬ j = 65 := by omega
    have hn66 : ¬ j = 66 := by omega
    have hn67 : ¬ j = 67 := by omega
    have hn68 : ¬ j = 68 := by omega
    have hn69 : ¬ j = 69 := by omega
    have hn70 : ¬ j = 70 := by omega
    have hn71 : ¬ j = 71 := by omega
    have hn72 : ¬ j = 72 := by omega
    have hn73 : ¬ j = 73 := by omega
    have hn74 : ¬ j = 74 := by omega
    have hn75 : ¬ j = 75 := by omega
    have hn76 : ¬ j = 76 := by omega
    have hn77 : ¬ j = 77 := by omega
    have hn78 : ¬ j = 78 := by omega
    have hn79 : ¬ j = 79 := by omega
    have hn80 : ¬ j = 80 := by omega
    have hn81 : ¬ j = 81 := by omega
    have hn82 : ¬ j = 82 := by omega
    have hn83 : ¬ j = 83 := by omega
    have hn84 : ¬ j = 84 := by omega
    have hn85 : ¬ j = 85 := by omega
    have hn86 : ¬ j = 86 := by omega
    have hn87 : ¬ j = 87 := by omega
    simp only [qup, if_neg hn63, if_neg hn64, if_neg hn65, if_neg hn66, if_neg hn67, if_neg hn68, if_neg hn69, if_neg hn70, if_neg hn71, if_neg hn72, if_neg hn73, if_neg hn74, if_neg hn75, if_neg hn76, if_neg hn77, if_neg hn78, if_neg hn79, if_neg hn80, if_neg hn81, if_neg hn82, if_neg hn83, if_neg hn84, if_neg hn85, if_neg hn86, if_neg hn87] <;> exact hkk j hj) rfl h64 h65 h66 h67 h68 h69 h70 h71 h72 h73 h74 h75 h76 h77 h78 h79 h80 h81 h82 h83 h84 h85 h86 rfl
  intro f1 hk ho h64 h65 h66 h67 h68 h69 h70 h71 h72 h73 h74 h75 h76 h77 h78 h79 h80 h81 h82 h83 h84 h85 h86 h87
  clear hkk
  have hkk := hk
  refine step.1 _ _ _ _ _ _ _ srX12_init_204_ok ?_
  refine ⟨_, _, rfl, by decide, by decide, rfl, Nat.le_of_ble_eq_true rfl, Nat.le_of_ble_eq_true rfl, Nat.le_of_ble_eq_true rfl, ?_⟩
  refine ⟨_, ho, Nat.le_of_ble_eq_true rfl, rfl, ?_⟩
  suffices H : ∀ f1 : Nat → Option qE, (∀ j : Nat, j < 63 → f1 j = f j) → f1 63 = some (.inl (12, ((((((((((((((((((((((((((qdef 12 65).set 1 (.ref 64)).set 8 (.int (-1))).set 9 (.ref 65)).set 10 (.ref 66)).set 11 (.ref 67)).set 12 (.ref 68)).set 13 (.ref 69)).set 24 (.ref 70)).set 25 (.ref 71)).set 26 (.ref 72)).set 27 (.ref 73)).set 28 (.ref 74)).set 29 (.ref 75)).set 31 (.ref 76)).set 32 (.ref 77)).set 33 (.ref 78)).set 34 (.ref 79)).set 35 (.ref 80)).set 43 (.ref 81)).set 44 (.ref 82)).set 45 (.ref 83)).set 46 (.ref 84)).set 47 (.ref 85)).set 48 (.ref 86)).set 55 (.ref 87)).set 56 (.ref 88))) → f1 64 = some (qarr .int 3) → f1 65 = some (qarr .int 600) → f1 66 = some (qarr .int 100) → f1 67 = some (qarr .int 100) → f1 68 = some (qarr .int 32) → f1 69 = some (qarr .int 32) → f1 70 = some (qarr .int 150) → f1 71 = some (qarr .int 150) → f1 72 = some (qarr .int 300) → f1 73 = some (qarr .int 300) → f1 74 = some (qarr .int 2) → f1 75 = some (qarr .int 150) → f1 76 = some (qarr .int 10) → f1 77 = some (qarr .int 30) → f1 78 = some (qarr .int 30) → f1 79 = some (qarr .int 16) → f1 80 = some (qarr .int 16) → f1 81 = some (qarr .long 92352) → f1 82 = some (qarr .long 95) → f1 83 = some (qarr .int 95) → f1 84 = some (qarr .int 5) → f1 85 = some (qarr .int 32) → f1 86 = some (qarr .boolean 32) → f1 87 = some (qarr .int 10) → f1 88 = some (qarr .int 121) → run 212 [(0, .ref 63)] [] (89, f1) 25 94763 from H _ (fun j hj => by
    have hn63 : ¬ j = 63 := by omega
    have hn64 : ¬ j = 64 := by omega
    have hn65 : ¬ j = 65 := by omega
    have hn66 : ¬ j = 66 := by omega
    have hn67 : ¬ j = 67 := by omega
    have hn68 : ¬ j = 68 := by omega
    have hn69 : ¬ j = 69 := by omega
    have hn70 : ¬ j = 70 := by omega
    have hn71 : ¬ j = 71 := by omega
    have hn72 : ¬ j = 72 := by omega
    have hn73 : ¬ j = 73 := by omega
    have hn74 : ¬ j = 74 := by omega
    have hn75 : ¬ j = 75 := by omega
    have hn76 : ¬ j = 76 := by omega
    have hn77 : ¬ j = 77 := by omega
    have hn78 : ¬ j = 78 := by omega
    have hn79 : ¬ j = 79 := by omega
    have hn80 : ¬ j = 80 := by omega
    have hn81 : ¬ j = 81 := by omega
    have hn82 : ¬ j = 82 := by omega
    have hn83 : ¬ j = 83 := by omega
    have hn84 : ¬ j = 84 := by omega
    have hn85 : ¬ j = 85 := by omega
    have hn86 : ¬ j = 86 := by omega
    have hn87 : ¬ j = 87 := by omega
    have hn88 : ¬ j = 88 := by omega
    simp only [qup, if_neg hn63, if_neg hn64, if_neg hn65, if_neg hn66, if_neg hn67, if_neg hn68, if_neg hn69, if_neg hn70, if_neg hn71, if_neg hn72, if_neg hn73, if_neg hn74, if_neg hn75, if_neg hn76, if_neg hn77, if_neg hn78, if_neg hn79, if_neg hn80, if_neg hn81, if_neg hn82, if_neg hn83, if_neg hn84, if_neg hn85, if_neg hn86, if_neg hn87, if_neg hn88] <;> exact hkk j hj) rfl h64 h65 h66 h67 h68 h69 h70 h71 h72 h73 h74 h75 h76 h77 h78 h79 h80 h81 h82 h83 h84 h85 h86 h87 rfl
  intro f1 hk ho h64 h65 h66 h67 h68 h69 h70 h71 h72 h73 h74 h75 h76 h77 h78 h79 h80 h81 h82 h83 h84 h85 h86 h87 h88
  clear hkk
  have hkk := hk
  refine step.1 _ _ _ _ _ _ _ srX12_init_212_ok ?_
  refine ⟨_, _, rfl, by decide, by decide, rfl, Nat.le_of_ble_eq_true rfl, Nat.le_of_ble_eq_true rfl, Nat.le_of_ble_eq_true rfl, ?_⟩
  refine ⟨_, ho, Nat.le_of_ble_eq_true rfl, rfl, ?_⟩
  suffices H : ∀ f1 : Nat → Option qE, (∀ j : Nat, j < 63 → f1 j = f j) → f1 63 = some (.inl (12, (((((((((((((((((((((((((((qdef 12 65).set 1 (.ref 64)).set 8 (.int (-1))).set 9 (.ref 65)).set 10 (.ref 66)).set 11 (.ref 67)).set 12 (.ref 68)).set 13 (.ref 69)).set 24 (.ref 70)).set 25 (.ref 71)).set 26 (.ref 72)).set 27 (.ref 73)).set 28 (.ref 74)).set 29 (.ref 75)).set 31 (.ref 76)).set 32 (.ref 77)).set 33 (.ref 78)).set 34 (.ref 79)).set 35 (.ref 80)).set 43 (.ref 81)).set 44 (.ref 82)).set 45 (.ref 83)).set 46 (.ref 84)).set 47 (.ref 85)).set 48 (.ref 86)).set 55 (.ref 87)).set 56 (.ref 88)).set 58 (.ref 89))) → f1 64 = some (qarr .int 3) → f1 65 = some (qarr .int 600) → f1 66 = some (qarr .int 100) → f1 67 = some (qarr .int 100) → f1 68 = some (qarr .int 32) → f1 69 = some (qarr .int 32) → f1 70 = some (qarr .int 150) → f1 71 = some (qarr .int 150) → f1 72 = some (qarr .int 300) → f1 73 = some (qarr .int 300) → f1 74 = some (qarr .int 2) → f1 75 = some (qarr .int 150) → f1 76 = some (qarr .int 10) → f1 77 = some (qarr .int 30) → f1 78 = some (qarr .int 30) → f1 79 = some (qarr .int 16) → f1 80 = some (qarr .int 16) → f1 81 = some (qarr .long 92352) → f1 82 = some (qarr .long 95) → f1 83 = some (qarr .int 95) → f1 84 = some (qarr .int 5) → f1 85 = some (qarr .int 32) → f1 86 = some (qarr .boolean 32) → f1 87 = some (qarr .int 10) → f1 88 = some (qarr .int 121) → f1 89 = some (qarr .int 7) → run 220 [(0, .ref 63)] [] (90, f1) 26 94770 from H _ (fun j hj => by
    have hn63 : ¬ j = 63 := by omega
    have hn64 : ¬ j = 64 := by omega
    have hn65 : ¬ j = 65 := by omega
    have hn66 : ¬ j = 66 := by omega
    have hn67 : ¬ j = 67 := by omega
    have hn68 : ¬ j = 68 := by omega
    have hn69 : ¬ j = 69 := by omega
    have hn70 : ¬ j = 70 := by omega
    have hn71 : ¬ j = 71 := by omega
    have hn72 : ¬ j = 72 := by omega
    have hn73 : ¬ j = 73 := by omega
    have hn74 : ¬ j = 74 := by omega
    have hn75 : ¬ j = 75 := by omega
    have hn76 : ¬ j = 76 := by omega
    have hn77 : ¬ j = 77 := by omega
    have hn78 : ¬ j = 78 := by omega
    have hn79 : ¬ j = 79 := by omega
    have hn80 : ¬ j = 80 := by omega
    have hn81 : ¬ j = 81 := by omega
    have hn82 : ¬ j = 82 := by omega
    have hn83 : ¬ j = 83 := by omega
    have hn84 : ¬ j = 84 := by omega
    have hn85 : ¬ j = 85 := by omega
    have hn86 : ¬ j = 86 := by omega
    have hn87 : ¬ j = 87 := by omega
    have hn88 : ¬ j = 88 := by omega
    have hn89 : ¬ j = 89 := by omega
    simp only [qup, if_neg hn63, if_neg hn64, if_neg hn65, if_neg hn66, if_neg hn67, if_neg hn68, if_neg hn69, if_neg hn70, if_neg hn71, if_neg hn72, if_neg hn73, if_neg hn74, if_neg hn75, if_neg hn76, if_neg hn77, if_neg hn78, if_neg hn79, if_neg hn80, if_neg hn81, if_neg hn82, if_neg hn83, if_neg hn84, if_neg hn85, if_neg hn86, if_neg hn87, if_neg hn88, if_neg hn89] <;> exact hkk j hj) rfl h64 h65 h66 h67 h68 h69 h70 h71 h72 h73 h74 h75 h76 h77 h78 h79 h80 h81 h82 h83 h84 h85 h86 h87 h88 rfl
  intro f1 hk ho h64 h65 h66 h67 h68 h69 h70 h71 h72 h73 h74 h75 h76 h77 h78 h79 h80 h81 h82 h83 h84 h85 h86 h87 h88 h89
  clear hkk
  have hkk := hk
  refine step.1 _ _ _ _ _ _ _ srX12_init_220_ok ?_
  refine ⟨_, _, rfl, by decide, by decide, rfl, Nat.le_of_ble_eq_true rfl, Nat.le_of_ble_eq_true rfl, Nat.le_of_ble_eq_true rfl, ?_⟩
  refine ⟨_, ho, Nat.le_of_ble_eq_true rfl, rfl, ?_⟩
  suffices H : ∀ f1 : Nat → Option qE, (∀ j : Nat, j < 63 → f1 j = f j) → f1 63 = some (.inl (12, ((((((((((((((((((((((((((((qdef 12 65).set 1 (.ref 64)).set 8 (.int (-1))).set 9 (.ref 65)).set 10 (.ref 66)).set 11 (.ref 67)).set 12 (.ref 68)).set 13 (.ref 69)).set 24 (.ref 70)).set 25 (.ref 71)).set 26 (.ref 72)).set 27 (.ref 73)).set 28 (.ref 74)).set 29 (.ref 75)).set 31 (.ref 76)).set 32 (.ref 77)).set 33 (.ref 78)).set 34 (.ref 79)).set 35 (.ref 80)).set 43 (.ref 81)).set 44 (.ref 82)).set 45 (.ref 83)).set 46 (.ref 84)).set 47 (.ref 85)).set 48 (.ref 86)).set 55 (.ref 87)).set 56 (.ref 88)).set 58 (.ref 89)).set 61 (.ref 90))) → f1 64 = some (qarr .int 3) → f1 65 = some (qarr .int 600) → f1 66 = some (qarr .int 100) → f1 67 = some (qarr .int 100) → f1 68 = some (qarr .int 32) → f1 69 = some (qarr .int 32) → f1 70 = some (qarr .int 150) → f1 71 = some (qarr .int 150) → f1 72 = some (qarr .int 300) → f1 73 = some (qarr .int 300) → f1 74 = some (qarr .int 2) → f1 75 = some (qarr .int 150) → f1 76 = some (qarr .int 10) → f1 77 = some (qarr .int 30) → f1 78 = some (qarr .int 30) → f1 79 = some (qarr .int 16) → f1 80 = some (qarr .int 16) → f1 81 = some (qarr .long 92352) → f1 82 = some (qarr .long 95) → f1 83 = some (qarr .int 95) → f1 84 = some (qarr .int 5) → f1 85 = some (qarr .int 32) → f1 86 = some (qarr .boolean 32) → f1 87 = some (qarr .int 10) → f1 88 = some (qarr .int 121) → f1 89 = some (qarr .int 7) → f1 90 = some (qarr .int 2640) → run 229 [(0, .ref 63)] [] (91, f1) 27 97410 from H _ (fun j hj => by
    have hn63 : ¬ j = 63 := by omega
    have hn64 : ¬ j = 64 := by omega
    have hn65 : ¬ j = 65 := by omega
    have hn66 : ¬ j = 66 := by omega
    have hn67 : ¬ j = 67 := by omega
    have hn68 : ¬ j = 68 := by omega
    have hn69 : ¬ j = 69 := by omega
    have hn70 : ¬ j = 70 := by omega
    have hn71 : ¬ j = 71 := by omega
    have hn72 : ¬ j = 72 := by omega
    have hn73 : ¬ j = 73 := by omega
    have hn74 : ¬ j = 74 := by omega
    have hn75 : ¬ j = 75 := by omega
    have hn76 : ¬ j = 76 := by omega
    have hn77 : ¬ j = 77 := by omega
    have hn78 : ¬ j = 78 := by omega
    have hn79 : ¬ j = 79 := by omega
    have hn80 : ¬ j = 80 := by omega
    have hn81 : ¬ j = 81 := by omega
    have hn82 : ¬ j = 82 := by omega
    have hn83 : ¬ j = 83 := by omega
    have hn84 : ¬ j = 84 := by omega
    have hn85 : ¬ j = 85 := by omega
    have hn86 : ¬ j = 86 := by omega
    have hn87 : ¬ j = 87 := by omega
    have hn88 : ¬ j = 88 := by omega
    have hn89 : ¬ j = 89 := by omega
    have hn90 : ¬ j = 90 := by omega
    simp only [qup, if_neg hn63, if_neg hn64, if_neg hn65, if_neg hn66, if_neg hn67, if_neg hn68, if_neg hn69, if_neg hn70, if_neg hn71, if_neg hn72, if_neg hn73, if_neg hn74, if_neg hn75, if_neg hn76, if_neg hn77, if_neg hn78, if_neg hn79, if_neg hn80, if_neg hn81, if_neg hn82, if_neg hn83, if_neg hn84, if_neg hn85, if_neg hn86, if_neg hn87, if_neg hn88, if_neg hn89, if_neg hn90] <;> exact hkk j hj) rfl h64 h65 h66 h67 h68 h69 h70 h71 h72 h73 h74 h75 h76 h77 h78 h79 h80 h81 h82 h83 h84 h85 h86 h87 h88 h89 rfl
  intro f1 hk ho h64 h65 h66 h67 h68 h69 h70 h71 h72 h73 h74 h75 h76 h77 h78 h79 h80 h81 h82 h83 h84 h85 h86 h87 h88 h89 h90
  clear hkk
  have hkk := hk
  refine step.1 _ _ _ _ _ _ _ srX12_init_229_ok ?_
  refine ⟨_, _, rfl, by decide, by decide, rfl, Nat.le_of_ble_eq_true rfl, Nat.le_of_ble_eq_true rfl, Nat.le_of_ble_eq_true rfl, ?_⟩
  refine ⟨_, ho, Nat.le_of_ble_eq_true rfl, rfl, ?_⟩
  suffices H : ∀ f1 : Nat → Option qE, (∀ j : Nat, j < 63 → f1 j = f j) → f1 63 = some (.inl (12, (((((((((((((((((((((((((((((qdef 12 65).set 1 (.ref 64)).set 8 (.int (-1))).set 9 (.ref 65)).set 10 (.ref 66)).set 11 (.ref 67)).set 12 (.ref 68)).set 13 (.ref 69)).set 24 (.ref 70)).set 25 (.ref 71)).set 26 (.ref 72)).set 27 (.ref 73)).set 28 (.ref 74)).set 29 (.ref 75)).set 31 (.ref 76)).set 32 (.ref 77)).set 33 (.ref 78)).set 34 (.ref 79)).set 35 (.ref 80)).set 43 (.ref 81)).set 44 (.ref 82)).set 45 (.ref 83)).set 46 (.ref 84)).set 47 (.ref 85)).set 48 (.ref 86)).set 55 (.ref 87)).set 56 (.ref 88)).set 58 (.ref 89)).set 61 (.ref 90)).set 63 (.ref 91))) → f1 64 = some (qarr .int 3) → f1 65 = some (qarr .int 600) → f1 66 = some (qarr .int 100) → f1 67 = some (qarr .int 100) → f1 68 = some (qarr .int 32) → f1 69 = some (qarr .int 32) → f1 70 = some (qarr .int 150) → f1 71 = some (qarr .int 150) → f1 72 = some (qarr .int 300) → f1 73 = some (qarr .int 300) → f1 74 = some (qarr .int 2) → f1 75 = some (qarr .int 150) → f1 76 = some (qarr .int 10) → f1 77 = some (qarr .int 30) → f1 78 = some (qarr .int 30) → f1 79 = some (qarr .int 16) → f1 80 = some (qarr .int 16) → f1 81 = some (qarr .long 92352) → f1 82 = some (qarr .long 95) → f1 83 = some (qarr .int 95) → f1 84 = some (qarr .int 5) → f1 85 = some (qarr .int 32) → f1 86 = some (qarr .boolean 32) → f1 87 = some (qarr .int 10) → f1 88 = some (qarr .int 121) → f1 89 = some (qarr .int 7) → f1 90 = some (qarr .int 2640) → f1 91 = some (qarr .int 8319) → run 238 [(0, .ref 63)] [] (92, f1) 28 105729 from H _ (fun j hj => by
    have hn63 : ¬ j = 63 := by omega
    have hn64 : ¬ j = 64 := by omega
    have hn65 : ¬ j = 65 := by omega
    have hn66 : ¬ j = 66 := by omega
    have hn67 : ¬ j = 67 := by omega
    have hn68 : ¬ j = 68 := by omega
    have hn69 : ¬ j = 69 := by omega
    have hn70 : ¬ j = 70 := by omega
    have hn71 : ¬ j = 71 := by omega
    have hn72 : ¬ j = 72 := by omega
    have hn73 : ¬ j = 73 := by omega
    have hn74 : ¬ j = 74 := by omega
    have hn75 : ¬ j = 75 := by omega
    have hn76 : ¬ j = 76 := by omega
    have hn77 : ¬ j = 77 := by omega
    have hn78 : ¬ j = 78 := by omega
    have hn79 : ¬ j = 79 := by omega
    have hn80 : ¬ j = 80 := by omega
    have hn81 : ¬ j = 81 := by omega
    have hn82 : ¬ j = 82 := by omega
    have hn83 : ¬ j = 83 := by omega
    have hn84 : ¬ j = 84 := by omega
    have hn85 : ¬ j = 85 := by omega
    have hn86 : ¬ j = 86 := by omega
    have hn87 : ¬ j = 87 := by omega
    have hn88 : ¬ j = 88 := by omega
    have hn89 : ¬ j = 89 := by omega
    have hn90 : ¬ j = 90 := by omega
    have hn91 : ¬ j = 91 := by omega
    simp only [qup, if_neg hn63, if_neg hn64, if_neg hn65, if_neg hn66, if_neg hn67, if_neg hn68, if_neg hn69, if_neg hn70, if_neg hn71, if_neg hn72, if_neg hn73, if_neg hn74, if_neg hn75, if_neg hn76, if_neg hn77, if_neg hn78, if_neg hn79, if_neg hn80, if_neg hn81, if_neg hn82, if_neg hn83, if_neg hn84, if_neg hn85, if_neg hn86, if_neg hn87, if_neg hn88, if_neg hn89, if_neg hn90, if_neg hn91] <;> exact hkk j hj) rfl h64 h65 h66 h67 h68 h69 h70 h71 h72 h73 h74 h75 h76 h77 h78 h79 h80 h81 h82 h83 h84 h85 h86 h87 h88 h89 h90 rfl
  intro f1 hk ho h64 h65 h66 h67 h68 h69 h70 h71 h72 h73 h74 h75 h76 h77 h78 h79 h80 h81 h82 h83 h84 h85 h86 h87 h88 h89 h90 h91
  clear hkk
  have hkk := hk
  have hMi : f1 63 = some (M63 xi (fun _ => 0)) := ho.trans rfl
  refine step.1 _ _ _ _ _ _ _ srX12_init_238_ok ?_
  refine Or.inl ⟨rfl, _, 1, 0, 0, _, _, _, qi_12_104, ⟨rfl, rfl⟩, ⟨ho, rfl⟩, rfl, rfl, M_clears hg (x := xi) (y := fun _ => 0) (by exact hMi), fun y239 h239 hy239 => ?_⟩
  obtain ⟨rfl, hh1, hM1, hs1⟩ := hy239
  have g66 := (hs1.2 66 (by decide)).trans h66
  have g67 := (hs1.2 67 (by decide)).trans h67
  have g68 := (hs1.2 68 (by decide)).trans h68
  have g69 := (hs1.2 69 (by decide)).trans h69
  have g74 := (hs1.2 74 (by decide)).trans h74
  refine Or.inl ⟨rfl, _, 2, 0, 0, _, _, _, qi_12_107, ⟨rfl, rfl⟩, ⟨hM1, rfl⟩, rfl, rfl, M_sets hg hM1 g66 g67 g68 g69 g74, fun y243 h243 hy243 => ?_⟩
  obtain ⟨rfl, x', hM2, h67', h69', h74', hs2, e19, e20, e21, e22, e23, e36, e37, e62, e64, ek⟩ := hy243
  have hs : same (92, f1) h243 [63, 67, 69, 74] := hs1.tr hs2 (by simp) (fun _ z => z)
  refine ⟨rfl, Nat.le_of_ble_eq_true rfl, Nat.le_of_ble_eq_true rfl, ?_⟩
  exact ⟨rfl, hs.1, x', hM2, ⟨fun j hj => (hs.2 j (by simp; omega)).trans (hk j hj), (hs.2 64 (by decide)).trans h64, (hs.2 65 (by decide)).trans h65, (hs.2 66 (by decide)).trans h66, h67', (hs.2 68 (by decide)).trans h68, h69', (hs.2 70 (by decide)).trans h70, (hs.2 71 (by decide)).trans h71, (hs.2 72 (by decide)).trans h72, (hs.2 73 (by decide)).trans h73, h74', (hs.2 75 (by decide)).trans h75, (hs.2 76 (by decide)).trans h76, (hs.2 77 (by decide)).trans h77, (hs.2 78 (by decide)).trans h78, (hs.2 79 (by decide)).trans h79, (hs.2 80 (by decide)).trans h80, (hs.2 81 (by decide)).trans h81, (hs.2 82 (by decide)).trans h82, (hs.2 83 (by decide)).trans h83, (hs.2 84 (by decide)).trans h84, (hs.2 85 (by decide)).trans h85, (hs.2 86 (by decide)).trans h86, (hs.2 87 (by decide)).trans h87, (hs.2 88 (by decide)).trans h88, (hs.2 89 (by decide)).trans h89, (hs.2 90 (by decide)).trans h90, (hs.2 91 (by decide)).trans h91⟩, e19, e20, e21, e22, e23, e36, e37, e62, e64, ek⟩
end Q10L
