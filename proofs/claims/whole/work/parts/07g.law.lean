section Q07G
/-- a Law: kinds, values, the stack, the number of steps -/
def isL (h : qH) (a ka va sk : Nat) (K V S : Nat → Int32) (sz : Int32) : Prop := h.2 a = some (.inl (3, [.ref ka, .ref va, .ref sk, .int sz])) ∧ h.2 ka = some (.inr (.inl (.int, 150, K))) ∧ h.2 va = some (.inr (.inl (.int, 150, V))) ∧ h.2 sk = some (.inr (.inl (.int, 152, S)))
theorem isL.stk {h : qH} {a ka va sk : Nat} {K V S S' : Nat → Int32} {sz : Int32} (hL : isL h a ka va sk K V S sz) (hk : ka ≠ sk) (hv : va ≠ sk) : isL (h.1, qup h.2 sk (.inr (.inl (.int, 152, S')))) a ka va sk K V S' sz := ⟨(qup_n (q_ne hL.1 hL.2.2.2)).trans hL.1, (qup_n hk).trans hL.2.1, (qup_n hv).trans hL.2.2.1, qup_s⟩
def ljoin (k a b : Int32) : Int32 := if k = 2 then a + b else if k = 3 then a - b else if k = 4 then a * b else if k = 5 then (if b = 0 then 0 else a / b) else if k = 6 then (if b ≤ a then b else a) else (if a ≤ b then b else a)
/-- the worth of the steps i .. i+m-1 over a stack of so many -/
def lworth (K V nm : Nat → Int32) (i : Nat) : Nat → Nat → (Nat → Int32) → Int32
  | 0, _, S => S 0
  | m + 1, top, S => if K i = 0 then lworth K V nm (i + 1) m (top + 1) (upd S top (V i)) else if K i = 1 then lworth K V nm (i + 1) m (top + 1) (upd S top (nm (V i).toNatClampNeg)) else if K i = 8 then lworth K V nm (i + 1) m (top - 2) (upd S (top - 3) (if S (top - 3) ≤ 0 then S (top - 1) else S (top - 2))) else lworth K V nm (i + 1) m (top - 1) (upd S (top - 2) (ljoin (K i) (S (top - 2)) (S (top - 1))))
/-- the steps never want more than the stack holds -/
def lok (K V : Nat → Int32) (i : Nat) : Nat → Nat → Prop
  | 0, top => top = 1
  | m + 1, top => (K i = 0 ∧ lok K V (i + 1) m (top + 1)) ∨ (K i = 1 ∧ (∃ j : Nat, j < 10 ∧ V i = nI j) ∧ lok K V (i + 1) m (top + 1)) ∨ (K i = 8 ∧ 3 ≤ top ∧ lok K V (i + 1) m (top - 2)) ∨ ((∃ k : Nat, 2 ≤ k ∧ k ≤ 7 ∧ K i = nI k) ∧ 2 ≤ top ∧ lok K V (i + 1) m (top - 1))
theorem L_stands {g : qG} (hg : qOK g) {h : qH} {a ka va sk : Nat} {K V S : Nat → Int32} {sz : Int32} (hL : isL h a ka va sk K V S sz) : qSpec g 1 0 0 mX3_stands [.ref a] h (fun r h' => r = some (.int (qb (decide (0 < sz)))) ∧ h' = h) := by
  refine qSpec_run 3 "stands" false hg mX3_stands_ok rfl rfl (Nat.le_of_ble_eq_true rfl) (by decide) ?_
  intro run step
  refine step.1 _ _ _ _ _ _ _ sgX3_stands_0_ok ?_
  refine ⟨by decide, _, _, hL.1, rfl, fun c1 => ?_, fun c1 => ?_⟩
  · refine step.1 _ _ _ _ _ _ _ sgX3_stands_11_ok ?_
    refine step.1 _ _ _ _ _ _ _ sgX3_stands_12_ok ?_
    have c1 : sz ≤ 0 := c1
    exact ⟨.boolean, rfl, rfl, Nat.le_refl _, Nat.le_refl _, by rw [decide_eq_false (Int32.not_lt.mpr c1)]; rfl, rfl⟩
  · refine step.1 _ _ _ _ _ _ _ sgX3_stands_12_ok ?_
    have c1 : ¬ sz ≤ 0 := c1
    exact ⟨.boolean, rfl, rfl, Nat.le_refl _, Nat.le_refl _, by rw [decide_eq_true (Int32.not_le.mp c1)]; rfl, rfl⟩
theorem L_clear {g : qG} (hg : qOK g) {h : qH} {a ka va sk : Nat} {K V S : Nat → Int32} {sz : Int32} (hL : isL h a ka va sk K V S sz) : qSpec g 1 0 0 mX3_clear [.ref a] h (fun r h' => r = none ∧ h' = (h.1, qup h.2 a (.inl (3, [.ref ka, .ref va, .ref sk, .int 0])))) := by
  refine qSpec_run 3 "clear" false hg mX3_clear_ok rfl rfl (Nat.le_of_ble_eq_true rfl) (by decide) ?_
  intro run step
  refine step.1 _ _ _ _ _ _ _ sgX3_clear_0_ok ?_
  exact ⟨_, hL.1, Nat.le_of_ble_eq_true rfl, rfl, rfl, Nat.le_refl _, Nat.le_refl _, rfl, rfl⟩
theorem L_add {g : qG} (hg : qOK g) {h : qH} {a ka va sk x : Nat} {K V S : Nat → Int32} (hL : isL h a ka va sk K V S (nI x)) (hx : x < 150) (hkv : va ≠ ka) (kd v : Int32) : qSpec g 2 0 0 mX3_add [.ref a, .int kd, .int v] h (fun r h' => r = none ∧ h' = (h.1, qup (qup (qup h.2 ka (.inr (.inl (.int, 150, upd K x kd)))) va (.inr (.inl (.int, 150, upd V x v)))) a (.inl (3, [.ref ka, .ref va, .ref sk, .int (nI (x + 1))])))) := by
  refine qSpec_run 3 "add" false hg mX3_add_ok rfl rfl (Nat.le_of_ble_eq_true rfl) (by decide) ?_
  intro run step
  obtain ⟨h1, h2, h3, h4⟩ := hL
  have n1 := q_ne h1 h2
  have n2 := q_ne h1 h3
  refine step.1 _ _ _ _ _ _ _ sgX3_add_0_ok ?_
  refine ⟨by decide, _, _, h1, rfl, ?_⟩
  refine Or.inl ⟨rfl, _, 1, 0, 0, _, Or.inr qi_3_31, ⟨rfl, rfl⟩, rfl, rfl, sp_within hg (nI x) 0 149, fun y1 h9 hy => ?_⟩
  obtain ⟨rfl, hh⟩ := hy
  rw [hh]
  clear hh
  have hw : (decide ((0 : Int32) ≤ nI x) && decide (nI x ≤ 149)) = true := by
    rw [decide_eq_true (Int32.not_lt.mp (h_nn (j := x) (by omega))), decide_eq_true (p := nI x ≤ 149) ((nI_leI (b := 149) (by omega) (by decide)).mpr (by omega))]; rfl
  rw [hw]
  refine ⟨fun c1 => absurd c1 (by decide), fun c1 => ?_⟩
  refine ⟨by decide, _, _, h1, rfl, by decide, _, _, h1, rfl, _, _, h2, vp_in_nI (by omega) (by decide), ?_⟩
  refine ⟨by decide, _, _, (qup_n n1).trans h1, rfl, by decide, _, _, (qup_n n1).trans h1, rfl, _, _, (qup_n hkv).trans h3, vp_in_nI (by omega) (by decide), ?_⟩
  refine ⟨rfl, by decide, _, _, (qup_n n2).trans ((qup_n n1).trans h1), rfl, _, (qup_n n2).trans ((qup_n n1).trans h1), Nat.le_of_ble_eq_true rfl, rfl, ?_⟩
  refine step.1 _ _ _ _ _ _ _ sgX3_add_44_ok ?_
  refine ⟨rfl, Nat.le_refl _, Nat.le_refl _, rfl, ?_⟩
  rw [h_tn (by omega), ← nI_1]
  rfl
theorem L_join2 {g : qG} (hg : qOK g) {h : qH} (x y : Int32) : qSpec g 1 0 0 mX3_join [.int 2, .int x, .int y] h (fun r h' => r = some (.int (ljoin 2 x y)) ∧ h' = h) := by
  refine qSpec_run 3 "join" false hg mX3_join_ok rfl rfl (Nat.le_of_ble_eq_true rfl) (by decide) ?_
  intro run step
  refine step.1 _ _ _ _ _ _ _ sgX3_join_0_ok ?_
  refine ⟨fun c => absurd c (by decide), fun j c1 c2 cj => ?_⟩
  have cj : 0 = j := cj
  subst cj
  refine ⟨_, 36, rfl, by decide, ?_⟩
  refine step.1 _ _ _ _ _ _ _ sgX3_join_36_ok ?_
  exact ⟨.int, rfl, rfl, Nat.le_refl _, Nat.le_refl _, rfl, rfl⟩
theorem L_join3 {g : qG} (hg : qOK g) {h : qH} (x y : Int32) : qSpec g 1 0 0 mX3_join [.int 3, .int x, .int y] h (fun r h' => r = some (.int (ljoin 3 x y)) ∧ h' = h) := by
  refine qSpec_run 3 "join" false hg mX3_join_ok rfl rfl (Nat.le_of_ble_eq_true rfl) (by decide) ?_
  intro run step
  refine step.1 _ _ _ _ _ _ _ sgX3_join_0_ok ?_
  refine ⟨fun c => absurd c (by decide), fun j c1 c2 cj => ?_⟩
  have cj : 1 = j := cj
  subst cj
  refine ⟨_, 40, rfl, by decide, ?_⟩
  refine step.1 _ _ _ _ _ _ _ sgX3_join_40_ok ?_
  exact ⟨.int, rfl, rfl, Nat.le_refl _, Nat.le_refl _, rfl, rfl⟩
theorem L_join4 {g : qG} (hg : qOK g) {h : qH} (x y : Int32) : qSpec g 1 0 0 mX3_join [.int 4, .int x, .int y] h (fun r h' => r = some (.int (ljoin 4 x y)) ∧ h' = h) := by
  refine qSpec_run 3 "join" false hg mX3_join_ok rfl rfl (Nat.le_of_ble_eq_true rfl) (by decide) ?_
  intro run step
  refine step.1 _ _ _ _ _ _ _ sgX3_join_0_ok ?_
  refine ⟨fun c => absurd c (by decide), fun j c1 c2 cj => ?_⟩
  have cj : 2 = j := cj
  subst cj
  refine ⟨_, 44, rfl, by decide, ?_⟩
  refine step.1 _ _ _ _ _ _ _ sgX3_join_44_ok ?_
  exact ⟨.int, rfl, rfl, Nat.le_refl _, Nat.le_refl _, rfl, rfl⟩
theorem L_join5 {g : qG} (hg : qOK g) {h : qH} (x y : Int32) : qSpec g 1 0 0 mX3_join [.int 5, .int x, .int y] h (fun r h' => r = some (.int (ljoin 5 x y)) ∧ h' = h) := by
  refine qSpec_run 3 "join" false hg mX3_join_ok rfl rfl (Nat.le_of_ble_eq_true rfl) (by decide) ?_
  intro run step
  refine step.1 _ _ _ _ _ _ _ sgX3_join_0_ok ?_
  refine ⟨fun c => absurd c (by decide), fun j c1 c2 cj => ?_⟩
  have cj : 3 = j := cj
  subst cj
  refine ⟨_, 48, rfl, by decide, ?_⟩
  refine step.1 _ _ _ _ _ _ _ sgX3_join_48_ok ?_
  refine ⟨fun c1 => ?_, fun c1 => ?_⟩
  · have c1 : ¬ y = 0 := c1
    refine step.1 _ _ _ _ _ _ _ sgX3_join_56_ok ?_
    refine ⟨c1, ?_⟩
    refine step.1 _ _ _ _ _ _ _ sgX3_join_59_ok ?_
    exact ⟨.int, rfl, rfl, Nat.le_refl _, Nat.le_refl _, (by show _ = some (Value.int (if y = 0 then 0 else x / y)); rw [if_neg c1]), rfl⟩
  · have c1 : y = 0 := c1
    refine step.1 _ _ _ _ _ _ _ sgX3_join_59_ok ?_
    exact ⟨.int, rfl, rfl, Nat.le_refl _, Nat.le_refl _, (by show _ = some (Value.int (if y = 0 then 0 else x / y)); rw [if_pos c1]), rfl⟩
theorem L_join6 {g : qG} (hg : qOK g) {h : qH} (x y : Int32) : qSpec g 1 0 0 mX3_join [.int 6, .int x, .int y] h (fun r h' => r = some (.int (ljoin 6 x y)) ∧ h' = h) := by
  refine qSpec_run 3 "join" false hg mX3_join_ok rfl rfl (Nat.le_of_ble_eq_true rfl) (by decide) ?_
  intro run step
  refine step.1 _ _ _ _ _ _ _ sgX3_join_0_ok ?_
  refine ⟨fun c => absurd c (by decide), fun j c1 c2 cj => ?_⟩
  have cj : 4 = j := cj
  subst cj
  refine ⟨_, 60, rfl, by decide, ?_⟩
  refine step.1 _ _ _ _ _ _ _ sgX3_join_60_ok ?_
  refine ⟨fun c1 => ?_, fun c1 => ?_⟩
  · have c1 : y ≤ x := c1
    refine step.1 _ _ _ _ _ _ _ sgX3_join_69_ok ?_
    refine step.1 _ _ _ _ _ _ _ sgX3_join_70_ok ?_
    exact ⟨.int, rfl, rfl, Nat.le_refl _, Nat.le_refl _, (by show _ = some (Value.int (if y ≤ x then y else x)); rw [if_pos c1]), rfl⟩
  · have c1 : ¬ y ≤ x := c1
    refine step.1 _ _ _ _ _ _ _ sgX3_join_70_ok ?_
    exact ⟨.int, rfl, rfl, Nat.le_refl _, Nat.le_refl _, (by show _ = some (Value.int (if y ≤ x then y else x)); rw [if_neg c1]), rfl⟩
theorem L_join7 {g : qG} (hg : qOK g) {h : qH} (x y : Int32) : qSpec g 1 0 0 mX3_join [.int 7, .int x, .int y] h (fun r h' => r = some (.int (ljoin 7 x y)) ∧ h' = h) := by
  refine qSpec_run 3 "join" false hg mX3_join_ok rfl rfl (Nat.le_of_ble_eq_true rfl) (by decide) ?_
  intro run step
  refine step.1 _ _ _ _ _ _ _ sgX3_join_0_ok ?_
  refine ⟨fun c => ⟨71, by decide, ?_⟩, fun j c1 c2 cj => absurd (show ((6 : Int) < (7 : Int32).toInt) by decide) c2⟩
  refine step.1 _ _ _ _ _ _ _ sgX3_join_71_ok ?_
  refine ⟨fun c1 => ?_, fun c1 => ?_⟩
  · have c1 : x ≤ y := c1
    refine step.1 _ _ _ _ _ _ _ sgX3_join_80_ok ?_
    refine step.1 _ _ _ _ _ _ _ sgX3_join_81_ok ?_
    exact ⟨.int, rfl, rfl, Nat.le_refl _, Nat.le_refl _, (by show _ = some (Value.int (if x ≤ y then y else x)); rw [if_pos c1]), rfl⟩
  · have c1 : ¬ x ≤ y := c1
    refine step.1 _ _ _ _ _ _ _ sgX3_join_81_ok ?_
    exact ⟨.int, rfl, rfl, Nat.le_refl _, Nat.le_refl _, (by show _ = some (Value.int (if x ≤ y then y else x)); rw [if_neg c1]), rfl⟩
theorem L_join {g : qG} (hg : qOK g) {h : qH} (k : Nat) (h2 : 2 ≤ k) (h7 : k ≤ 7) (x y : Int32) : qSpec g 1 0 0 mX3_join [.int (nI k), .int x, .int y] h (fun r h' => r = some (.int (ljoin (nI k) x y)) ∧ h' = h) := by
  rcases (show k = 2 ∨ k = 3 ∨ k = 4 ∨ k = 5 ∨ k = 6 ∨ k = 7 by omega) with rfl | rfl | rfl | rfl | rfl | rfl
  · exact L_join2 hg x y
  · exact L_join3 hg x y
  · exact L_join4 hg x y
  · exact L_join5 hg x y
  · exact L_join6 hg x y
  · exact L_join7 hg x y
end Q07G
