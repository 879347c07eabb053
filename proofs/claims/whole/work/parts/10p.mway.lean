section Q10P
theorem i3 {l : Nat} (h : ¬ l = 0) (hl : l < 10) : (3 * nI l - 3 : Int32) = nI (l * 3 - 3) := by
  rcases (show l = 1 ∨ l = 2 ∨ l = 3 ∨ l = 4 ∨ l = 5 ∨ l = 6 ∨ l = 7 ∨ l = 8 ∨ l = 9 by omega) with rfl | rfl | rfl | rfl | rfl | rfl | rfl | rfl | rfl <;> decide
theorem M_wayTo {g : qG} (hg : qOK g) {h : qH} {x : Nat → Int32} {y : Nat → Int64} (hM : h.2 63 = some (M63 x y)) {dr pl : Nat → Int32} (hD : h.2 67 = some (aI' 100 dr)) (hP : h.2 78 = some (aI' 30 pl)) (l p : Nat) (hl : l < 10) (hp : pl (l * 3) = nI p) (hp10 : p < 10) (hq : ¬ l = 0 → ∃ q : Nat, pl (l * 3 - 3) = nI q ∧ q < 10) : qSpec g 2 0 0 mX12_wayTo [.ref 63, .int (nI l)] h (fun r h' => r = some (.int (iapart (if l = 0 then x 21 else dr ((pl (l * 3 - 3)).toNatClampNeg * 10 + 0)) (dr (p * 10 + 0)))) ∧ h' = h) := by
  refine qSpec_run 12 "wayTo" false hg mX12_wayTo_ok rfl rfl (Nat.le_of_ble_eq_true rfl) (by decide) ?_
  intro run step
  have e3 : (3 * nI l : Int32) = nI (l * 3) := by rw [Int32.mul_comm]; exact pk_mul l 3
  have e3t : (3 * nI l : Int32).toNatClampNeg = l * 3 := by rw [e3, h_tn (n := l * 3) (by omega)]
  refine step.1 _ _ _ _ _ _ _ sgX12_wayTo_0_ok ?_
  refine ⟨fun c1 => ?_, fun c1 => ?_⟩
  · have c1 : ¬ l = 0 := fun z => c1 (congrArg nI z)
    obtain ⟨q, hq, hq10⟩ := hq c1
    have e0 : (3 * nI l - 3 : Int32) = nI (l * 3 - 3) := i3 c1 hl
    have e0t : (3 * nI l - 3 : Int32).toNatClampNeg = l * 3 - 3 := by rw [e0, h_tn (n := l * 3 - 3) (by omega)]
    refine step.1 _ _ _ _ _ _ _ sgX12_wayTo_11_ok ?_
    refine ⟨by decide, _, _, hM, rfl, ?_⟩
    refine ⟨_, _, hP, (by rw [e0]; exact vp_in_nI (n := l * 3 - 3) (N := 30) (by omega) (by decide)), ?_⟩
    refine Or.inl ⟨rfl, _, 1, 0, 0, _, _, _, qi_12_347, ⟨rfl, rfl⟩, ⟨hM, rfl⟩, rfl, rfl, (by rw [e0t, hq]; exact M_xOf hg hM hD q hq10), fun y22 h22 hy22 => ?_⟩
    obtain ⟨rfl, hh⟩ := hy22
    rw [hh]
    clear hh
    refine step.1 _ _ _ _ _ _ _ sgX12_wayTo_25_ok ?_
    refine ⟨by decide, _, _, hM, rfl, ?_⟩
    refine ⟨_, _, hP, (by rw [e3]; exact vp_in_nI (n := l * 3) (N := 30) (by omega) (by decide)), ?_⟩
    refine Or.inl ⟨rfl, _, 1, 0, 0, _, _, _, qi_12_347, ⟨rfl, rfl⟩, ⟨hM, rfl⟩, rfl, rfl, (by rw [e3t, hp]; exact M_xOf hg hM hD p hp10), fun y34 h34 hy34 => ?_⟩
    obtain ⟨rfl, hh⟩ := hy34
    rw [hh]
    clear hh
    refine Or.inl ⟨rfl, _, 1, 0, 0, _, Or.inl qi_12_350, ⟨rfl, rfl⟩, rfl, rfl, M_apart hg _ _, fun y37 h37 hy37 => ?_⟩
    obtain ⟨rfl, hh⟩ := hy37
    rw [hh]
    clear hh
    refine ⟨.int, rfl, rfl, Nat.le_refl _, Nat.le_refl _, ?_⟩
    exact ⟨congrArg (fun z => some (Value.int z)) (by rw [if_neg c1, hq, h_tn (n := q) (by omega)]), rfl⟩
  · have c1 : l = 0 := (nI_eq (b := 0) (by omega) (by decide)).mp c1
    refine ⟨by decide, _, _, hM, rfl, ?_⟩
    refine step.1 _ _ _ _ _ _ _ sgX12_wayTo_25_ok ?_
    refine ⟨by decide, _, _, hM, rfl, ?_⟩
    refine ⟨_, _, hP, (by rw [e3]; exact vp_in_nI (n := l * 3) (N := 30) (by omega) (by decide)), ?_⟩
    refine Or.inl ⟨rfl, _, 1, 0, 0, _, _, _, qi_12_347, ⟨rfl, rfl⟩, ⟨hM, rfl⟩, rfl, rfl, (by rw [e3t, hp]; exact M_xOf hg hM hD p hp10), fun y34 h34 hy34 => ?_⟩
    obtain ⟨rfl, hh⟩ := hy34
    rw [hh]
    clear hh
    refine Or.inl ⟨rfl, _, 1, 0, 0, _, Or.inl qi_12_350, ⟨rfl, rfl⟩, rfl, rfl, M_apart hg _ _, fun y37 h37 hy37 => ?_⟩
    obtain ⟨rfl, hh⟩ := hy37
    rw [hh]
    clear hh
    refine ⟨.int, rfl, rfl, Nat.le_refl _, Nat.le_refl _, ?_⟩
    exact ⟨congrArg (fun z => some (Value.int z)) (by rw [if_pos c1]), rfl⟩
end Q10P
