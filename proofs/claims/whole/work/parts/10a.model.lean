section Q10A
/-- the model's object: its ints, its longs -/
def M63 (x : Nat → Int32) (y : Nat → Int64) : qE := .inl (12, [.int (x 0), .ref 64, .int (x 2), .int (x 3), .int (x 4), .int (x 5), .int (x 6), .int (x 7), .int (x 8), .ref 65, .ref 66, .ref 67, .ref 68, .ref 69, .int (x 14), .int (x 15), .int (x 16), .int (x 17), .int (x 18), .int (x 19), .int (x 20), .int (x 21), .int (x 22), .int (x 23), .ref 70, .ref 71, .ref 72, .ref 73, .ref 74, .ref 75, .int (x 30), .ref 76, .ref 77, .ref 78, .ref 79, .ref 80, .int (x 36), .int (x 37), .long (y 38), .long (y 39), .long (y 40), .long (y 41), .int (x 42), .ref 81, .ref 82, .ref 83, .ref 84, .ref 85, .ref 86, .long (y 49), .int (x 50), .long (y 51), .long (y 52), .int (x 53), .long (y 54), .ref 87, .ref 88, .int (x 57), .ref 89, .int (x 59), .int (x 60), .ref 90, .int (x 62), .ref 91, .int (x 64)])
def updL (f : Nat → Int64) (k : Nat) (v : Int64) : Nat → Int64 := fun j => if j = k then v else f j
theorem M_within {g : qG} (hg : qOK g) {h : qH} (v a b : Int32) : qSpec g 1 0 0 mX12_within [.int v, .int a, .int b] h (fun r h' => r = some (.int (qb (wi a b v))) ∧ h' = h) := by
  refine qSpec_run 12 "within" false hg mX12_within_ok rfl rfl (Nat.le_of_ble_eq_true rfl) (by decide) ?_
  intro run step
  refine step.1 _ _ _ _ _ _ _ sgX12_within_0_ok ?_
  refine ⟨fun c2 => ?_, fun c2 => ?_⟩
  · have e : wi a b v = false := by rw [wi, decide_eq_false (Int32.not_le.mpr c2)]; rfl
    refine step.1 _ _ _ _ _ _ _ sgX12_within_14_ok ?_
    refine step.1 _ _ _ _ _ _ _ sgX12_within_15_ok ?_
    refine ⟨.boolean, rfl, rfl, Nat.le_refl _, Nat.le_refl _, ?_⟩
    rw [e]
    exact ⟨rfl, rfl⟩
  · refine ⟨fun c7 => ?_, fun c7 => ?_⟩
    · have e : wi a b v = false := by rw [wi, decide_eq_false (Int32.not_le.mpr c7), Bool.and_false]
      refine step.1 _ _ _ _ _ _ _ sgX12_within_14_ok ?_
      refine step.1 _ _ _ _ _ _ _ sgX12_within_15_ok ?_
      refine ⟨.boolean, rfl, rfl, Nat.le_refl _, Nat.le_refl _, ?_⟩
      rw [e]
      exact ⟨rfl, rfl⟩
    · have e : wi a b v = true := by rw [wi, decide_eq_true (Int32.not_lt.mp c2), decide_eq_true (Int32.not_lt.mp c7)]; rfl
      refine step.1 _ _ _ _ _ _ _ sgX12_within_15_ok ?_
      refine ⟨.boolean, rfl, rfl, Nat.le_refl _, Nat.le_refl _, ?_⟩
      rw [e]
      exact ⟨rfl, rfl⟩
theorem M_isSmall {g : qG} (hg : qOK g) {h : qH} (v : Int32) : qSpec g 1 0 0 mX12_isSmall [.int v] h (fun r h' => r = some (.int (qb (wi 97 122 v))) ∧ h' = h) := by
  refine qSpec_run 12 "isSmall" false hg mX12_isSmall_ok rfl rfl (Nat.le_of_ble_eq_true rfl) (by decide) ?_
  intro run step
  refine step.1 _ _ _ _ _ _ _ sgX12_isSmall_0_ok ?_
  refine ⟨fun c3 => ?_, fun c3 => ?_⟩
  · have e : wi 97 122 v = false := by rw [wi, decide_eq_false (Int32.not_le.mpr c3)]; rfl
    refine step.1 _ _ _ _ _ _ _ sgX12_isSmall_16_ok ?_
    refine step.1 _ _ _ _ _ _ _ sgX12_isSmall_17_ok ?_
    refine ⟨.boolean, rfl, rfl, Nat.le_refl _, Nat.le_refl _, ?_⟩
    rw [e]
    exact ⟨rfl, rfl⟩
  · refine ⟨fun c9 => ?_, fun c9 => ?_⟩
    · have e : wi 97 122 v = false := by rw [wi, decide_eq_false (Int32.not_le.mpr c9), Bool.and_false]
      refine step.1 _ _ _ _ _ _ _ sgX12_isSmall_16_ok ?_
      refine step.1 _ _ _ _ _ _ _ sgX12_isSmall_17_ok ?_
      refine ⟨.boolean, rfl, rfl, Nat.le_refl _, Nat.le_refl _, ?_⟩
      rw [e]
      exact ⟨rfl, rfl⟩
    · have e : wi 97 122 v = true := by rw [wi, decide_eq_true (Int32.not_lt.mp c3), decide_eq_true (Int32.not_lt.mp c9)]; rfl
      refine step.1 _ _ _ _ _ _ _ sgX12_isSmall_17_ok ?_
      refine ⟨.boolean, rfl, rfl, Nat.le_refl _, Nat.le_refl _, ?_⟩
      rw [e]
      exact ⟨rfl, rfl⟩
theorem M_isDigit {g : qG} (hg : qOK g) {h : qH} (v : Int32) : qSpec g 1 0 0 mX12_isDigit [.int v] h (fun r h' => r = some (.int (qb (wi 48 57 v))) ∧ h' = h) := by
  refine qSpec_run 12 "isDigit" false hg mX12_isDigit_ok rfl rfl (Nat.le_of_ble_eq_true rfl) (by decide) ?_
  intro run step
  refine step.1 _ _ _ _ _ _ _ sgX12_isDigit_0_ok ?_
  refine ⟨fun c3 => ?_, fun c3 => ?_⟩
  · have e : wi 48 57 v = false := by rw [wi, decide_eq_false (Int32.not_le.mpr c3)]; rfl
    refine step.1 _ _ _ _ _ _ _ sgX12_isDigit_16_ok ?_
    refine step.1 _ _ _ _ _ _ _ sgX12_isDigit_17_ok ?_
    refine ⟨.boolean, rfl, rfl, Nat.le_refl _, Nat.le_refl _, ?_⟩
    rw [e]
    exact ⟨rfl, rfl⟩
  · refine ⟨fun c9 => ?_, fun c9 => ?_⟩
    · have e : wi 48 57 v = false := by rw [wi, decide_eq_false (Int32.not_le.mpr c9), Bool.and_false]
      refine step.1 _ _ _ _ _ _ _ sgX12_isDigit_16_ok ?_
      refine step.1 _ _ _ _ _ _ _ sgX12_isDigit_17_ok ?_
      refine ⟨.boolean, rfl, rfl, Nat.le_refl _, Nat.le_refl _, ?_⟩
      rw [e]
      exact ⟨rfl, rfl⟩
    · have e : wi 48 57 v = true := by rw [wi, decide_eq_true (Int32.not_lt.mp c3), decide_eq_true (Int32.not_lt.mp c9)]; rfl
      refine step.1 _ _ _ _ _ _ _ sgX12_isDigit_17_ok ?_
      refine ⟨.boolean, rfl, rfl, Nat.le_refl _, Nat.le_refl _, ?_⟩
      rw [e]
      exact ⟨rfl, rfl⟩
theorem M_isMinute {g : qG} (hg : qOK g) {h : qH} (v : Int32) : qSpec g 1 0 0 mX12_isMinute [.int v] h (fun r h' => r = some (.int (qb (wi 0 480 v))) ∧ h' = h) := by
  refine qSpec_run 12 "isMinute" false hg mX12_isMinute_ok rfl rfl (Nat.le_of_ble_eq_true rfl) (by decide) ?_
  intro run step
  refine step.1 _ _ _ _ _ _ _ sgX12_isMinute_0_ok ?_
  refine ⟨fun c1 => ?_, fun c1 => ?_⟩
  · have e : wi 0 480 v = false := by rw [wi, decide_eq_false (Int32.not_le.mpr c1)]; rfl
    refine step.1 _ _ _ _ _ _ _ sgX12_isMinute_15_ok ?_
    refine step.1 _ _ _ _ _ _ _ sgX12_isMinute_16_ok ?_
    refine ⟨.boolean, rfl, rfl, Nat.le_refl _, Nat.le_refl _, ?_⟩
    rw [e]
    exact ⟨rfl, rfl⟩
  · refine ⟨fun c8 => ?_, fun c8 => ?_⟩
    · have e : wi 0 480 v = false := by rw [wi, decide_eq_false (Int32.not_le.mpr c8), Bool.and_false]
      refine step.1 _ _ _ _ _ _ _ sgX12_isMinute_15_ok ?_
      refine step.1 _ _ _ _ _ _ _ sgX12_isMinute_16_ok ?_
      refine ⟨.boolean, rfl, rfl, Nat.le_refl _, Nat.le_refl _, ?_⟩
      rw [e]
      exact ⟨rfl, rfl⟩
    · have e : wi 0 480 v = true := by rw [wi, decide_eq_true (Int32.not_lt.mp c1), decide_eq_true (Int32.not_lt.mp c8)]; rfl
      refine step.1 _ _ _ _ _ _ _ sgX12_isMinute_16_ok ?_
      refine ⟨.boolean, rfl, rfl, Nat.le_refl _, Nat.le_refl _, ?_⟩
      rw [e]
      exact ⟨rfl, rfl⟩
theorem M_thrown {g : qG} (hg : qOK g) {h : qH} {x : Nat → Int32} {y : Nat → Int64} (hM : h.2 63 = some (M63 x y)) : qSpec g 1 0 0 mX12_thrown [.ref 63] h (fun r h' => r = some (.int (x 0)) ∧ h' = h) := by
  refine qSpec_run 12 "thrown" false hg mX12_thrown_ok rfl rfl (Nat.le_of_ble_eq_true rfl) (by decide) ?_
  intro run step
  refine step.1 _ _ _ _ _ _ _ sgX12_thrown_0_ok ?_
  refine ⟨by decide, _, _, hM, rfl, ?_⟩
  refine ⟨.int, rfl, rfl, Nat.le_refl _, Nat.le_refl _, ?_⟩
  exact ⟨rfl, rfl⟩
theorem M_fine {g : qG} (hg : qOK g) {h : qH} {x : Nat → Int32} {y : Nat → Int64} (hM : h.2 63 = some (M63 x y)) : qSpec g 1 0 0 mX12_fine [.ref 63] h (fun r h' => r = some (.int (qb (decide (x 5 = -1)))) ∧ h' = h) := by
  refine qSpec_run 12 "fine" false hg mX12_fine_ok rfl rfl (Nat.le_of_ble_eq_true rfl) (by decide) ?_
  intro run step
  refine step.1 _ _ _ _ _ _ _ sgX12_fine_0_ok ?_
  refine ⟨by decide, _, _, hM, rfl, ?_⟩
  refine ⟨fun c5 => ?_, fun c5 => ?_⟩
  · have c5 : ¬ x 5 = -1 := c5
    refine step.1 _ _ _ _ _ _ _ sgX12_fine_12_ok ?_
    refine step.1 _ _ _ _ _ _ _ sgX12_fine_13_ok ?_
    refine ⟨.boolean, rfl, rfl, Nat.le_refl _, Nat.le_refl _, ?_⟩
    rw [decide_eq_false c5]
    exact ⟨rfl, rfl⟩
  · have c5 : x 5 = -1 := c5
    refine step.1 _ _ _ _ _ _ _ sgX12_fine_13_ok ?_
    refine ⟨.boolean, rfl, rfl, Nat.le_refl _, Nat.le_refl _, ?_⟩
    rw [decide_eq_true c5]
    exact ⟨rfl, rfl⟩
theorem ap_ge {a b : Int32} (h : b ≤ a) : a - b = iapart a b := by
  unfold iapart
  by_cases c : b < a
  · rw [if_pos c]
  · have e : a = b := Int32.le_antisymm (Int32.not_lt.mp c) h
    rw [if_neg c, e]
theorem ap_lt {a b : Int32} (h : ¬ b ≤ a) : b - a = iapart a b := by
  unfold iapart
  rw [if_neg (fun z => h (Int32.le_of_lt z))]
theorem M_apart {g : qG} (hg : qOK g) {h : qH} (a b : Int32) : qSpec g 1 0 0 mX12_apart [.int a, .int b] h (fun r h' => r = some (.int (iapart a b)) ∧ h' = h) := by
  refine qSpec_run 12 "apart" false hg mX12_apart_ok rfl rfl (Nat.le_of_ble_eq_true rfl) (by decide) ?_
  intro run step
  refine step.1 _ _ _ _ _ _ _ sgX12_apart_0_ok ?_
  refine ⟨fun c2 => ?_, fun c2 => ?_⟩
  · have c2 : b ≤ a := c2
    refine step.1 _ _ _ _ _ _ _ sgX12_apart_11_ok ?_
    refine step.1 _ _ _ _ _ _ _ sgX12_apart_14_ok ?_
    refine ⟨.int, rfl, rfl, Nat.le_refl _, Nat.le_refl _, ?_⟩
    exact ⟨congrArg (fun z => some (Value.int z)) (show a - b = iapart a b from ap_ge c2), rfl⟩
  · have c2 : ¬ b ≤ a := c2
    refine step.1 _ _ _ _ _ _ _ sgX12_apart_14_ok ?_
    refine ⟨.int, rfl, rfl, Nat.le_refl _, Nat.le_refl _, ?_⟩
    exact ⟨congrArg (fun z => some (Value.int z)) (show b - a = iapart a b from ap_lt c2), rfl⟩

theorem M_may {g : qG} (hg : qOK g) {h : qH} {x : Nat → Int32} {y : Nat → Int64} (hM : h.2 63 = some (M63 x y)) (hx : x 0 = 0) (c k : Int32) : qSpec g 1 0 0 mX12_may [.ref 63, .int 1, .int c, .int k] h (fun r h' => r = some (.int 1) ∧ h' = h) := by
  refine qSpec_run 12 "may" false hg mX12_may_ok rfl rfl (Nat.le_of_ble_eq_true rfl) (by decide) ?_
  intro run step
  refine step.1 _ _ _ _ _ _ _ sgX12_may_0_ok ?_
  refine ⟨fun c1 => ?_, fun c1 => absurd c1 (by decide)⟩
  
  refine step.1 _ _ _ _ _ _ _ sgX12_may_26_ok ?_
  refine ⟨by decide, _, _, hM, rfl, ?_⟩
  refine ⟨fun c30 => absurd hx c30, fun c30 => ?_⟩
  refine step.1 _ _ _ _ _ _ _ sgX12_may_38_ok ?_
  refine ⟨.boolean, rfl, rfl, Nat.le_refl _, Nat.le_refl _, ?_⟩
  exact ⟨rfl, rfl⟩
theorem M_may0 {g : qG} (hg : qOK g) {h : qH} {x : Nat → Int32} {y : Nat → Int64} (hM : h.2 63 = some (M63 x y)) (hx : x 0 = 0) {rf : Nat → Int32} (hF : h.2 64 = some (aI' 3 rf)) (c : Int32) (hc : ¬ c = 0) (k : Nat) (hk : k < 3) : qSpec g 1 0 0 mX12_may [.ref 63, .int 0, .int c, .int (nI k)] h (fun r h' => r = some (.int 0) ∧ h' = (h.1, qup (qup h.2 63 (M63 (upd x 0 c) y)) 64 (aI' 3 (upd rf k (rf k + 1))))) := by
  refine qSpec_run 12 "may" false hg mX12_may_ok rfl rfl (Nat.le_of_ble_eq_true rfl) (by decide) ?_
  intro run step
  refine step.1 _ _ _ _ _ _ _ sgX12_may_0_ok ?_
  refine ⟨fun c1 => absurd (by decide) c1, fun c1 => ?_⟩
  
  refine ⟨by decide, _, _, hM, rfl, ?_⟩
  refine ⟨fun c8 => absurd hx c8, fun c8 => ?_⟩
  refine ⟨_, hM, Nat.le_of_ble_eq_true rfl, rfl, ?_⟩
  refine ⟨by decide, _, _, rfl, rfl, ?_⟩
  refine ⟨⟨rfl, rfl⟩, ?_⟩
  refine ⟨_, _, hF, vp_in_nI (by omega) (by decide), ?_⟩
  refine ⟨_, _, hF, vp_in_nI (by omega) (by decide), ?_⟩
  refine step.1 _ _ _ _ _ _ _ sgX12_may_26_ok ?_
  refine ⟨by decide, _, _, rfl, rfl, ?_⟩
  refine ⟨fun c30 => ?_, fun c30 => absurd (show c = 0 from c30) hc⟩
  
  refine step.1 _ _ _ _ _ _ _ sgX12_may_37_ok ?_
  refine step.1 _ _ _ _ _ _ _ sgX12_may_38_ok ?_
  refine ⟨.boolean, rfl, rfl, Nat.le_refl _, Nat.le_refl _, ?_⟩
  rw [h_tn (n := k) (by omega)]
  exact ⟨rfl, rfl⟩
end Q10A
