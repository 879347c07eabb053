section Q07D
/-- the Tape and its bytes -/
def isT (h : qH) (t b : Nat) (F : Nat → Int32) (he en po fr ki pl : Int32) : Prop :=
  h.2 t = some (.inl (8, [.ref b, .int he, .int en, .int po, .int fr, .int ki, .int pl])) ∧ h.2 b = some (.inr (.inl (.byte, 600, F)))
/-- the heap with the Tape's numbers set -/
def sT (h : qH) (t b : Nat) (he en po fr ki pl : Int32) : qH := (h.1, qup h.2 t (.inl (8, [.ref b, .int he, .int en, .int po, .int fr, .int ki, .int pl])))
theorem isT.set {h : qH} {t b : Nat} {F : Nat → Int32} {he en po fr ki pl : Int32} (hT : isT h t b F he en po fr ki pl) (he' en' po' fr' ki' pl' : Int32) : isT (sT h t b he' en' po' fr' ki' pl') t b F he' en' po' fr' ki' pl' := ⟨qup_s, (qup_n (Ne.symm (q_ne hT.1 hT.2))).trans hT.2⟩
theorem sT_sT {h : qH} {t b : Nat} {he en po fr ki pl he' en' po' fr' ki' pl' : Int32} : sT (sT h t b he en po fr ki pl) t b he' en' po' fr' ki' pl' = sT h t b he' en' po' fr' ki' pl' := by
  unfold sT
  rw [qup_qup]
theorem qup_self {f : Nat → Option qE} {k : Nat} {e : qE} (h : f k = some e) : qup f k e = f := by
  funext j
  unfold qup
  split
  · rename_i hj; rw [hj, h]
  · rfl
theorem isT.same {h : qH} {t b : Nat} {F : Nat → Int32} {he en po fr ki pl : Int32} (hT : isT h t b F he en po fr ki pl) : sT h t b he en po fr ki pl = h := by
  unfold sT
  rw [qup_self hT.1]
/-- the byte at a place of the text, -1 behind it -/
def tby (F : Nat → Int32) (n i : Nat) : Int32 := if i < n then F i &&& 255 else -1
/-- the next place that holds no blank -/
def skp (F : Nat → Int32) (n : Nat) : Nat → Nat → Nat
  | 0, i => i
  | m + 1, i => if tby F n i = 32 then skp F n m (i + 1) else i
theorem skp_le (F : Nat → Int32) (n : Nat) : ∀ (m i : Nat), i ≤ skp F n m i ∧ skp F n m i ≤ i + m
  | 0, i => ⟨Nat.le_refl _, Nat.le_refl _⟩
  | m + 1, i => by
    unfold skp
    split
    · have := skp_le F n m (i + 1); omega
    · omega
theorem T_hasRoom {g : qG} (hg : qOK g) {h : qH} {t b : Nat} {F : Nat → Int32} {he en po fr ki pl : Int32} (hT : isT h t b F he en po fr ki pl) : qSpec g 1 0 0 mX8_hasRoom [.ref t] h (fun r h' => r = some (.int (qb (decide (he + 20 ≤ 600)))) ∧ h' = h) := by
  refine qSpec_run 8 "hasRoom" false hg mX8_hasRoom_ok rfl rfl (Nat.le_of_ble_eq_true rfl) (by decide) ?_
  intro run step
  obtain ⟨h1, h2⟩ := hT
  refine step.1 _ _ _ _ _ _ _ sgX8_hasRoom_0_ok ?_
  refine ⟨by decide, _, _, h1, rfl, by decide, _, _, h1, rfl, _, _, h2, rfl, fun c1 => ?_, fun c1 => ?_⟩
  · refine step.1 _ _ _ _ _ _ _ sgX8_hasRoom_19_ok ?_
    refine step.1 _ _ _ _ _ _ _ sgX8_hasRoom_20_ok ?_
    have c1 : (600 : Int32) < he + 20 := c1
    exact ⟨.boolean, rfl, rfl, Nat.le_refl _, Nat.le_refl _, by rw [decide_eq_false (Int32.not_le.mpr c1)]; rfl, rfl⟩
  · refine step.1 _ _ _ _ _ _ _ sgX8_hasRoom_20_ok ?_
    have c1 : ¬ (600 : Int32) < he + 20 := c1
    exact ⟨.boolean, rfl, rfl, Nat.le_refl _, Nat.le_refl _, by rw [decide_eq_true (Int32.not_lt.mp c1)]; rfl, rfl⟩
theorem T_begin {g : qG} (hg : qOK g) {h : qH} {t b : Nat} {F : Nat → Int32} {he en po fr ki pl : Int32} (hT : isT h t b F he en po fr ki pl) (n : Int32) : qSpec g 1 0 0 mX8_begin [.ref t, .int n] h (fun r h' => r = none ∧ h' = sT h t b 0 n 0 fr 0 (-1)) := by
  refine qSpec_run 8 "begin" false hg mX8_begin_ok rfl rfl (Nat.le_of_ble_eq_true rfl) (by decide) ?_
  intro run step
  obtain ⟨h1, h2⟩ := hT
  refine step.1 _ _ _ _ _ _ _ sgX8_begin_0_ok ?_
  refine ⟨_, h1, Nat.le_of_ble_eq_true rfl, rfl, _, qup_s, Nat.le_of_ble_eq_true rfl, rfl, _, qup_s, Nat.le_of_ble_eq_true rfl, rfl, _, qup_s, Nat.le_of_ble_eq_true rfl, rfl, _, qup_s, Nat.le_of_ble_eq_true rfl, rfl, rfl, Nat.le_refl _, Nat.le_refl _, rfl, ?_⟩
  rw [qup_qup, qup_qup, qup_qup, qup_qup]
  rfl
theorem T_isFaulty {g : qG} (hg : qOK g) {h : qH} {t b : Nat} {F : Nat → Int32} {he en po fr ki pl : Int32} (hT : isT h t b F he en po fr ki pl) : qSpec g 1 0 0 mX8_isFaulty [.ref t] h (fun r h' => r = some (.int (qb (!decide (ki = 0)))) ∧ h' = h) := by
  refine qSpec_run 8 "isFaulty" false hg mX8_isFaulty_ok rfl rfl (Nat.le_of_ble_eq_true rfl) (by decide) ?_
  intro run step
  obtain ⟨h1, h2⟩ := hT
  refine step.1 _ _ _ _ _ _ _ sgX8_isFaulty_0_ok ?_
  refine ⟨by decide, _, _, h1, rfl, fun c1 => ?_, fun c1 => ?_⟩
  · refine step.1 _ _ _ _ _ _ _ sgX8_isFaulty_11_ok ?_
    refine step.1 _ _ _ _ _ _ _ sgX8_isFaulty_12_ok ?_
    have c1 : ki = 0 := c1
    exact ⟨.boolean, rfl, rfl, Nat.le_refl _, Nat.le_refl _, by rw [decide_eq_true c1]; rfl, rfl⟩
  · refine step.1 _ _ _ _ _ _ _ sgX8_isFaulty_12_ok ?_
    have c1 : ¬ ki = 0 := c1
    exact ⟨.boolean, rfl, rfl, Nat.le_refl _, Nat.le_refl _, by rw [decide_eq_false c1]; rfl, rfl⟩
theorem T_fail {g : qG} (hg : qOK g) {h : qH} {t b : Nat} {F : Nat → Int32} {he en po fr ki pl : Int32} (hT : isT h t b F he en po fr ki pl) (k p : Int32) : qSpec g 1 0 0 mX8_fail [.ref t, .int k, .int p] h (fun r h' => r = none ∧ h' = sT h t b he en po fr (if ki = 0 then k else ki) (if ki = 0 then p else pl)) := by
  refine qSpec_run 8 "fail" false hg mX8_fail_ok rfl rfl (Nat.le_of_ble_eq_true rfl) (by decide) ?_
  intro run step
  have hT0 := hT
  obtain ⟨h1, h2⟩ := hT
  refine step.1 _ _ _ _ _ _ _ sgX8_fail_0_ok ?_
  refine ⟨by decide, _, _, h1, rfl, fun c1 => ?_, fun c1 => ?_⟩
  · refine step.1 _ _ _ _ _ _ _ sgX8_fail_17_ok ?_
    have c1 : ¬ ki = 0 := c1
    exact ⟨rfl, Nat.le_refl _, Nat.le_refl _, rfl, by rw [if_neg c1, if_neg c1, hT0.same]⟩
  · refine ⟨_, h1, Nat.le_of_ble_eq_true rfl, rfl, _, qup_s, Nat.le_of_ble_eq_true rfl, rfl, ?_⟩
    refine step.1 _ _ _ _ _ _ _ sgX8_fail_17_ok ?_
    have c1 : ki = 0 := c1
    exact ⟨rfl, Nat.le_refl _, Nat.le_refl _, rfl, by rw [if_pos c1, if_pos c1, qup_qup]; rfl⟩
theorem T_byteAt {g : qG} (hg : qOK g) {h : qH} {t b n : Nat} {F : Nat → Int32} {he po fr ki pl : Int32} (hT : isT h t b F he (nI n) po fr ki pl) (hn : n ≤ 600) (i : Nat) (hi : i < 2 ^ 31) : qSpec g 1 0 0 mX8_byteAt [.ref t, .int (nI i)] h (fun r h' => r = some (.int (tby F n i)) ∧ h' = h) := by
  refine qSpec_run 8 "byteAt" false hg mX8_byteAt_ok rfl rfl (Nat.le_of_ble_eq_true rfl) (by decide) ?_
  intro run step
  obtain ⟨h1, h2⟩ := hT
  have out : ∀ (L : List (Nat × Value)), ¬ i < n → run 34 L [] h 0 0 := by
    intro L hin
    refine step.1 _ _ _ _ _ _ _ sgX8_byteAt_34_ok ?_
    refine step.1 _ _ _ _ _ _ _ sgX8_byteAt_35_ok ?_
    exact ⟨.int, rfl, rfl, Nat.le_refl _, Nat.le_refl _, by rw [tby, if_neg hin], rfl⟩
  refine step.1 _ _ _ _ _ _ _ sgX8_byteAt_0_ok ?_
  refine ⟨fun c1 => absurd c1 (h_nn hi), fun c1 => ?_⟩
  refine ⟨by decide, _, _, h1, rfl, fun c2 => out _ ?_, fun c2 => ?_⟩
  · have c2 : nI n ≤ nI i := c2
    rw [nI_leI (by omega) hi] at c2
    omega
  have c2 : ¬ nI n ≤ nI i := c2
  rw [nI_leI (by omega) hi] at c2
  refine ⟨by decide, _, _, h1, rfl, _, _, h2, rfl, fun c3 => absurd c3 (h_nle (b := 600) (by omega) (by decide)), fun c3 => ?_⟩
  refine ⟨by decide, _, _, h1, rfl, _, _, _, h2, Or.inl rfl, vp_in_nI (by omega) (by decide), ?_⟩
  refine step.1 _ _ _ _ _ _ _ sgX8_byteAt_35_ok ?_
  exact ⟨.int, rfl, rfl, Nat.le_refl _, Nat.le_refl _, by rw [tby, if_pos (by omega), h_tn hi], rfl⟩
theorem T_look {g : qG} (hg : qOK g) {h : qH} {t b n p : Nat} {F : Nat → Int32} {he fr ki pl : Int32} (hT : isT h t b F he (nI n) (nI p) fr ki pl) (hn : n ≤ 600) (hp : p ≤ 600) : qSpec g 2 0 0 mX8_look [.ref t] h (fun r h' => r = some (.int (tby F n (skp F n (n - p) p))) ∧ h' = sT h t b he (nI n) (nI (skp F n (n - p) p)) fr ki pl) := by
  refine qSpec_run 8 "look" false hg mX8_look_ok rfl rfl (Nat.le_of_ble_eq_true rfl) (by decide) ?_
  intro run step
  have fin : ∀ (L : List (Nat × Value)) (q : Nat) (h' : qH), qld L 0 = some (.ref t) → q = skp F n (n - p) p → isT h' t b F he (nI n) (nI q) fr ki pl → h' = sT h t b he (nI n) (nI q) fr ki pl → run 38 L [] h' 0 0 := by
    intro L q h' hL hq hT' hh
    refine step.2 _ L [(0, .ref t)] _ _ _ _ (fun x hx => by rw [List.mem_singleton.mp hx]; exact qld_mem hL) ?_
    have hT1 := hT'
    obtain ⟨h1, h2⟩ := hT'
    have hb := skp_le F n (n - p) p
    refine step.1 _ _ _ _ _ _ _ sgX8_look_38_ok ?_
    refine ⟨by decide, _, _, h1, rfl, ?_⟩
    refine Or.inl ⟨rfl, _, 1, 0, 0, _, _, _, qi_8_31, ⟨rfl, rfl⟩, ⟨h1, rfl⟩, rfl, rfl, T_byteAt hg hT1 hn q (by omega), fun y h'' hy => ?_⟩
    obtain ⟨rfl, rfl⟩ := hy
    exact ⟨.int, rfl, rfl, Nat.le_refl _, Nat.le_refl _, by rw [hq], by rw [hh, hq]⟩
  have loop : ∀ (m i q : Nat) (h' : qH), n - q = m → i ≤ q → q ≤ 600 → skp F n m q = skp F n (n - p) p → isT h' t b F he (nI n) (nI q) fr ki pl → h' = sT h t b he (nI n) (nI q) fr ki pl → run 2 [(1, .int (nI i)), (0, .ref t)] [] h' 0 0 := by
    intro m
    induction m with
    | zero =>
      intro i q h' hm hi hq hs hT' hh
      have hT1 := hT'
      obtain ⟨h1, h2⟩ := hT'
      refine step.1 _ _ _ _ _ _ _ sgX8_look_2_ok ?_
      refine ⟨fun c1 => fin _ q h' rfl hs hT1 hh, fun c1 => ?_⟩
      refine ⟨by decide, _, _, h1, rfl, ?_⟩
      refine Or.inl ⟨rfl, _, 1, 0, 0, _, _, _, qi_8_31, ⟨rfl, rfl⟩, ⟨h1, rfl⟩, rfl, rfl, T_byteAt hg hT1 hn q (by omega), fun y h'' hy => ?_⟩
      obtain ⟨rfl, hh2⟩ := hy
      subst hh2
      refine ⟨fun c2 => fin _ q _ rfl hs hT1 hh, fun c2 => absurd c2 ?_⟩
      rw [tby, if_neg (by omega)]
      decide
    | succ m ih =>
      intro i q h' hm hi hq hs hT' hh
      have hT1 := hT'
      obtain ⟨h1, h2⟩ := hT'
      refine step.1 _ _ _ _ _ _ _ sgX8_look_2_ok ?_
      refine ⟨fun c1 => absurd c1 (h_nle (b := 600) (by omega) (by decide)), fun c1 => ?_⟩
      refine ⟨by decide, _, _, h1, rfl, ?_⟩
      refine Or.inl ⟨rfl, _, 1, 0, 0, _, _, _, qi_8_31, ⟨rfl, rfl⟩, ⟨h1, rfl⟩, rfl, rfl, T_byteAt hg hT1 hn q (by omega), fun y h'' hy => ?_⟩
      obtain ⟨rfl, hh2⟩ := hy
      subst hh2
      refine ⟨fun c2 => fin _ q _ rfl ?_ hT1 hh, fun c2 => ?_⟩
      · have c2 : ¬ tby F n q = 32 := c2
        rw [← hs, skp, if_neg c2]
      · have c2 : tby F n q = 32 := c2
        refine ⟨rfl, by decide, _, _, h1, rfl, _, h1, Nat.le_of_ble_eq_true rfl, rfl, ?_⟩
        have k := ih (i + 1) (q + 1) (sT h'' t b he (nI n) (nI (q + 1)) fr ki pl) (by omega) (by omega) (by omega) (by rw [← hs, skp, if_pos c2]) (hT1.set _ _ _ _ _ _) (by rw [hh, sT_sT])
        rw [← nI_1, ← nI_1] at k
        exact k
  refine step.1 _ _ _ _ _ _ _ sgX8_look_0_ok ?_
  exact loop (n - p) 0 p h rfl (Nat.zero_le _) hp rfl hT hT.same.symm
theorem T_step {g : qG} (hg : qOK g) {h : qH} {t b n p : Nat} {F : Nat → Int32} {he fr ki pl : Int32} (hT : isT h t b F he (nI n) (nI p) fr ki pl) (hn : n ≤ 600) (hp : p ≤ 600) : qSpec g 1 0 0 mX8_step [.ref t] h (fun r h' => r = none ∧ h' = sT h t b he (nI n) (nI (if p < n then p + 1 else p)) fr ki pl) := by
  refine qSpec_run 8 "step" false hg mX8_step_ok rfl rfl (Nat.le_of_ble_eq_true rfl) (by decide) ?_
  intro run step
  have hT0 := hT
  obtain ⟨h1, h2⟩ := hT
  refine step.1 _ _ _ _ _ _ _ sgX8_step_0_ok ?_
  refine ⟨by decide, _, _, h1, rfl, by decide, _, _, h1, rfl, fun c1 => ?_, fun c1 => ?_⟩
  · refine step.1 _ _ _ _ _ _ _ sgX8_step_21_ok ?_
    have c1 : nI n ≤ nI p := c1
    rw [nI_leI (by omega) (by omega)] at c1
    exact ⟨rfl, Nat.le_refl _, Nat.le_refl _, rfl, by rw [if_neg (by omega), hT0.same]⟩
  · have c1 : ¬ nI n ≤ nI p := c1
    rw [nI_leI (by omega) (by omega)] at c1
    refine ⟨rfl, by decide, _, _, h1, rfl, _, h1, Nat.le_of_ble_eq_true rfl, rfl, ?_⟩
    refine step.1 _ _ _ _ _ _ _ sgX8_step_21_ok ?_
    refine ⟨rfl, Nat.le_refl _, Nat.le_refl _, rfl, ?_⟩
    rw [if_pos (by omega), ← nI_1]
    rfl
theorem T_isOver {g : qG} (hg : qOK g) {h : qH} {t b n p : Nat} {F : Nat → Int32} {he fr ki pl : Int32} (hT : isT h t b F he (nI n) (nI p) fr ki pl) (hn : n ≤ 600) (hp : p ≤ 600) : qSpec g 3 0 0 mX8_isOver [.ref t] h (fun r h' => r = some (.int (qb (decide (tby F n (skp F n (n - p) p) = -1)))) ∧ h' = sT h t b he (nI n) (nI (skp F n (n - p) p)) fr ki pl) := by
  refine qSpec_run 8 "isOver" false hg mX8_isOver_ok rfl rfl (Nat.le_of_ble_eq_true rfl) (by decide) ?_
  intro run step
  refine step.1 _ _ _ _ _ _ _ sgX8_isOver_0_ok ?_
  refine Or.inl ⟨rfl, _, 2, 0, 0, _, _, _, qi_8_35, ⟨rfl, rfl⟩, ⟨hT.1, rfl⟩, rfl, rfl, T_look hg hT hn hp, fun y h' hy => ?_⟩
  obtain ⟨rfl, rfl⟩ := hy
  refine ⟨fun c1 => ?_, fun c1 => ?_⟩
  · refine step.1 _ _ _ _ _ _ _ sgX8_isOver_12_ok ?_
    refine step.1 _ _ _ _ _ _ _ sgX8_isOver_13_ok ?_
    have c1 : ¬ tby F n (skp F n (n - p) p) = -1 := c1
    exact ⟨.boolean, rfl, rfl, Nat.le_refl _, Nat.le_refl _, by rw [decide_eq_false c1]; rfl, rfl⟩
  · refine step.1 _ _ _ _ _ _ _ sgX8_isOver_13_ok ?_
    have c1 : tby F n (skp F n (n - p) p) = -1 := c1
    exact ⟨.boolean, rfl, rfl, Nat.le_refl _, Nat.le_refl _, by rw [decide_eq_true c1]; rfl, rfl⟩
theorem T_isDigit {g : qG} (hg : qOK g) {h : qH} {t b n p : Nat} {F : Nat → Int32} {he fr ki pl : Int32} (hT : isT h t b F he (nI n) (nI p) fr ki pl) (hn : n ≤ 600) (hp : p ≤ 600) : qSpec g 3 0 0 mX8_isDigit [.ref t] h (fun r h' => r = some (.int (qb (decide ((48 : Int32) ≤ tby F n (skp F n (n - p) p)) && decide (tby F n (skp F n (n - p) p) ≤ 57)))) ∧ h' = sT h t b he (nI n) (nI (skp F n (n - p) p)) fr ki pl) := by
  refine qSpec_run 8 "isDigit" false hg mX8_isDigit_ok rfl rfl (Nat.le_of_ble_eq_true rfl) (by decide) ?_
  intro run step
  refine step.1 _ _ _ _ _ _ _ sgX8_isDigit_0_ok ?_
  refine Or.inl ⟨rfl, _, 2, 0, 0, _, _, _, qi_8_35, ⟨rfl, rfl⟩, ⟨hT.1, rfl⟩, rfl, rfl, T_look hg hT hn hp, fun y h' hy => ?_⟩
  obtain ⟨rfl, rfl⟩ := hy
  refine ⟨fun c1 => ?_, fun c1 => ?_⟩
  · refine step.1 _ _ _ _ _ _ _ sgX8_isDigit_21_ok ?_
    refine step.1 _ _ _ _ _ _ _ sgX8_isDigit_22_ok ?_
    have c1 : tby F n (skp F n (n - p) p) < 48 := c1
    exact ⟨.boolean, rfl, rfl, Nat.le_refl _, Nat.le_refl _, by rw [decide_eq_false (Int32.not_le.mpr c1)]; rfl, rfl⟩
  have c1 : ¬ tby F n (skp F n (n - p) p) < 48 := c1
  refine ⟨fun c2 => ?_, fun c2 => ?_⟩
  · refine step.1 _ _ _ _ _ _ _ sgX8_isDigit_21_ok ?_
    refine step.1 _ _ _ _ _ _ _ sgX8_isDigit_22_ok ?_
    have c2 : (57 : Int32) < tby F n (skp F n (n - p) p) := c2
    exact ⟨.boolean, rfl, rfl, Nat.le_refl _, Nat.le_refl _, by rw [decide_eq_false (p := tby F n (skp F n (n - p) p) ≤ 57) (Int32.not_le.mpr c2), Bool.and_false]; rfl, rfl⟩
  · refine step.1 _ _ _ _ _ _ _ sgX8_isDigit_22_ok ?_
    have c2 : ¬ (57 : Int32) < tby F n (skp F n (n - p) p) := c2
    exact ⟨.boolean, rfl, rfl, Nat.le_refl _, Nat.le_refl _, by rw [decide_eq_true (Int32.not_lt.mp c1), decide_eq_true (Int32.not_lt.mp c2)]; rfl, rfl⟩
theorem T_isLetter {g : qG} (hg : qOK g) {h : qH} {t b n p : Nat} {F : Nat → Int32} {he fr ki pl : Int32} (hT : isT h t b F he (nI n) (nI p) fr ki pl) (hn : n ≤ 600) (hp : p ≤ 600) : qSpec g 3 0 0 mX8_isLetter [.ref t] h (fun r h' => r = some (.int (qb (decide ((97 : Int32) ≤ tby F n (skp F n (n - p) p)) && decide (tby F n (skp F n (n - p) p) ≤ 122)))) ∧ h' = sT h t b he (nI n) (nI (skp F n (n - p) p)) fr ki pl) := by
  refine qSpec_run 8 "isLetter" false hg mX8_isLetter_ok rfl rfl (Nat.le_of_ble_eq_true rfl) (by decide) ?_
  intro run step
  refine step.1 _ _ _ _ _ _ _ sgX8_isLetter_0_ok ?_
  refine Or.inl ⟨rfl, _, 2, 0, 0, _, _, _, qi_8_35, ⟨rfl, rfl⟩, ⟨hT.1, rfl⟩, rfl, rfl, T_look hg hT hn hp, fun y h' hy => ?_⟩
  obtain ⟨rfl, rfl⟩ := hy
  refine ⟨fun c1 => ?_, fun c1 => ?_⟩
  · refine step.1 _ _ _ _ _ _ _ sgX8_isLetter_21_ok ?_
    refine step.1 _ _ _ _ _ _ _ sgX8_isLetter_22_ok ?_
    have c1 : tby F n (skp F n (n - p) p) < 97 := c1
    exact ⟨.boolean, rfl, rfl, Nat.le_refl _, Nat.le_refl _, by rw [decide_eq_false (Int32.not_le.mpr c1)]; rfl, rfl⟩
  have c1 : ¬ tby F n (skp F n (n - p) p) < 97 := c1
  refine ⟨fun c2 => ?_, fun c2 => ?_⟩
  · refine step.1 _ _ _ _ _ _ _ sgX8_isLetter_21_ok ?_
    refine step.1 _ _ _ _ _ _ _ sgX8_isLetter_22_ok ?_
    have c2 : (122 : Int32) < tby F n (skp F n (n - p) p) := c2
    exact ⟨.boolean, rfl, rfl, Nat.le_refl _, Nat.le_refl _, by rw [decide_eq_false (p := tby F n (skp F n (n - p) p) ≤ 122) (Int32.not_le.mpr c2), Bool.and_false]; rfl, rfl⟩
  · refine step.1 _ _ _ _ _ _ _ sgX8_isLetter_22_ok ?_
    have c2 : ¬ (122 : Int32) < tby F n (skp F n (n - p) p) := c2
    exact ⟨.boolean, rfl, rfl, Nat.le_refl _, Nat.le_refl _, by rw [decide_eq_true (Int32.not_lt.mp c1), decide_eq_true (Int32.not_lt.mp c2)]; rfl, rfl⟩
theorem T_sign {g : qG} (hg : qOK g) {h : qH} {t b n p : Nat} {F : Nat → Int32} {he fr ki pl : Int32} (hT : isT h t b F he (nI n) (nI p) fr ki pl) (hn : n ≤ 600) (hp : p ≤ 600) (w : Int32) : qSpec g 3 0 0 mX8_sign [.ref t, .int w] h (fun r h' => r = none ∧ h' = sT h t b he (nI n) (nI (if tby F n (skp F n (n - p) p) = w then skp F n (n - p) p + 1 else skp F n (n - p) p)) fr (if tby F n (skp F n (n - p) p) = w ∨ ¬ ki = 0 then ki else 1) (if tby F n (skp F n (n - p) p) = w ∨ ¬ ki = 0 then pl else nI (skp F n (n - p) p))) := by
  refine qSpec_run 8 "sign" false hg mX8_sign_ok rfl rfl (Nat.le_of_ble_eq_true rfl) (by decide) ?_
  intro run step
  refine step.1 _ _ _ _ _ _ _ sgX8_sign_0_ok ?_
  refine Or.inl ⟨rfl, _, 2, 0, 0, _, _, _, qi_8_35, ⟨rfl, rfl⟩, ⟨hT.1, rfl⟩, rfl, rfl, T_look hg hT hn hp, fun y h' hy => ?_⟩
  obtain ⟨rfl, rfl⟩ := hy
  have hT1 := hT.set he (nI n) (nI (skp F n (n - p) p)) fr ki pl
  have h1 := hT1.1
  refine ⟨fun c1 => ?_, fun c1 => ?_⟩
  · have c1 : ¬ tby F n (skp F n (n - p) p) = w := c1
    refine step.1 _ _ _ _ _ _ _ sgX8_sign_21_ok ?_
    refine ⟨by decide, _, _, h1, rfl, ?_⟩
    refine Or.inl ⟨rfl, _, 1, 0, 0, _, _, _, qi_8_39, ⟨rfl, rfl⟩, ⟨h1, rfl⟩, rfl, rfl, T_fail hg hT1 1 _, fun y h' hy => ?_⟩
    obtain ⟨rfl, rfl⟩ := hy
    refine step.1 _ _ _ _ _ _ _ sgX8_sign_30_ok ?_
    refine ⟨rfl, Nat.le_refl _, Nat.le_refl _, rfl, ?_⟩
    rw [sT_sT, if_neg c1]
    by_cases hk : ki = 0
    · rw [if_pos hk, if_pos hk, if_neg (by rintro (q | q) <;> contradiction), if_neg (by rintro (q | q) <;> contradiction)]
    · rw [if_neg hk, if_neg hk, if_pos (Or.inr hk), if_pos (Or.inr hk)]
  · have c1 : tby F n (skp F n (n - p) p) = w := c1
    refine ⟨rfl, by decide, _, _, h1, rfl, _, h1, Nat.le_of_ble_eq_true rfl, rfl, ?_⟩
    refine step.1 _ _ _ _ _ _ _ sgX8_sign_30_ok ?_
    refine ⟨rfl, Nat.le_refl _, Nat.le_refl _, rfl, ?_⟩
    rw [if_pos c1, if_pos (Or.inl c1), if_pos (Or.inl c1), ← nI_1]
    show (_, _) = _
    unfold sT
    rw [qup_qup]
    rfl
end Q07D
