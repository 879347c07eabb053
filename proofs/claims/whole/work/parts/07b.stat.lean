section Q07B
theorem sp_within {g : qG} (hg : qOK g) {h : qH} (v a b : Int32) : qSpec g 1 0 0 mX11_within [.int v, .int a, .int b] h (fun r h' => r = some (.int (qb (decide (a ≤ v) && decide (v ≤ b)))) ∧ h' = h) := by
  refine qSpec_run 11 "within" false hg mX11_within_ok rfl rfl (Nat.le_of_ble_eq_true rfl) (by decide) ?_
  intro run step
  have fin : ∀ (L : List (Nat × Value)) (y : Bool), y = (decide (a ≤ v) && decide (v ≤ b)) → run 15 L [.int (qb y)] h 0 0 := by
    intro L y hy
    refine step.1 _ _ _ _ _ _ _ sgX11_within_15_ok ?_
    exact ⟨.boolean, rfl, qb_n y, Nat.le_refl _, Nat.le_refl _, by rw [hy], rfl⟩
  have zero : ∀ (L : List (Nat × Value)), (decide (a ≤ v) && decide (v ≤ b)) = false → run 14 L [] h 0 0 := by
    intro L hy
    refine step.1 _ _ _ _ _ _ _ sgX11_within_14_ok ?_
    exact fin _ false hy.symm
  refine step.1 _ _ _ _ _ _ _ sgX11_within_0_ok ?_
  refine ⟨fun c1 => zero _ ?_, fun c1 => ?_⟩
  · have c1 : v < a := c1
    rw [decide_eq_false (Int32.not_le.mpr c1)]; rfl
  refine ⟨fun c2 => zero _ ?_, fun c2 => ?_⟩
  · have c2 : b < v := c2
    rw [decide_eq_false (p := v ≤ b) (Int32.not_le.mpr c2), Bool.and_false]
  refine fin _ true ?_
  have c1 : ¬ v < a := c1
  have c2 : ¬ b < v := c2
  rw [decide_eq_true (Int32.not_lt.mp c1), decide_eq_true (Int32.not_lt.mp c2)]; rfl
theorem sp_apart {g : qG} (hg : qOK g) {h : qH} (a b : Int32) : qSpec g 1 0 0 mX11_apart [.int a, .int b] h (fun r h' => r = some (.int (iapart a b)) ∧ h' = h) := by
  refine qSpec_run 11 "apart" false hg mX11_apart_ok rfl rfl (Nat.le_of_ble_eq_true rfl) (by decide) ?_
  intro run step
  refine step.1 _ _ _ _ _ _ _ sgX11_apart_0_ok ?_
  refine ⟨fun c1 => ?_, fun c1 => ?_⟩
  · refine step.1 _ _ _ _ _ _ _ sgX11_apart_11_ok ?_
    refine step.1 _ _ _ _ _ _ _ sgX11_apart_14_ok ?_
    refine ⟨.int, rfl, rfl, Nat.le_refl _, Nat.le_refl _, ?_, rfl⟩
    have c1 : a ≤ b := c1
    rw [iapart, if_neg (Int32.not_lt.mpr c1)]
  · refine step.1 _ _ _ _ _ _ _ sgX11_apart_14_ok ?_
    refine ⟨.int, rfl, rfl, Nat.le_refl _, Nat.le_refl _, ?_, rfl⟩
    have c1 : ¬ a ≤ b := c1
    rw [iapart, if_pos (Int32.not_le.mp c1)]
end Q07B
