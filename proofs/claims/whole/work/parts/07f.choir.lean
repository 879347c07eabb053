section Q07F
/-- the singers -/
def isC (h : qH) (a f : Nat) (Q : Nat → Int32) (m : Int32) : Prop := h.2 a = some (.inl (1, [.ref f, .int m])) ∧ h.2 f = some (.inr (.inl (.int, 32, Q)))
theorem isC.set {h : qH} {a f : Nat} {Q Q' : Nat → Int32} {m : Int32} (hC : isC h a f Q m) : isC (h.1, qup h.2 f (.inr (.inl (.int, 32, Q')))) a f Q' m := ⟨(qup_n (q_ne hC.1 hC.2)).trans hC.1, qup_s⟩
theorem C_of {g : qG} (hg : qOK g) {h : qH} {a f : Nat} {Q : Nat → Int32} {m : Int32} (hC : isC h a f Q m) (x y : Nat) (hx : x < 8) (hy : y < 4) : qSpec g 1 0 0 mX1_of [.ref a, .int (nI x), .int (nI y)] h (fun r h' => r = some (.int (Q (x * 4 + y))) ∧ h' = h) := by
  refine qSpec_run 1 "of" false hg mX1_of_ok rfl rfl (Nat.le_of_ble_eq_true rfl) (by decide) ?_
  intro run step
  obtain ⟨h1, h2⟩ := hC
  have hi : (nI x * 4 + nI y : Int32) = nI (x * 4 + y) := h_ix x y 4
  refine step.1 _ _ _ _ _ _ _ sgX1_of_0_ok ?_
  refine ⟨fun c1 => ?_, fun c1 => ?_⟩
  · exact absurd (hi ▸ c1) (h_nn (by omega))
  refine ⟨by decide, _, _, h1, rfl, _, _, h2, rfl, fun c2 => ?_, fun c2 => ?_⟩
  · exact absurd (hi ▸ c2) (h_nle (b := 32) (by omega) (by omega))
  refine ⟨by decide, _, _, h1, rfl, _, _, h2, h_vin (by decide) c1 c2, ?_⟩
  refine step.1 _ _ _ _ _ _ _ sgX1_of_29_ok ?_
  exact ⟨.int, rfl, rfl, Nat.le_refl _, Nat.le_refl _, by rw [hi, h_tn (by omega)], rfl⟩
theorem C_set {g : qG} (hg : qOK g) {h : qH} {a f : Nat} {Q : Nat → Int32} {m : Int32} (hC : isC h a f Q m) (x y : Nat) (v : Int32) (hx : x < 8) (hy : y < 4) : qSpec g 1 0 0 mX1_set [.ref a, .int (nI x), .int (nI y), .int v] h (fun r h' => r = none ∧ h' = (h.1, qup h.2 f (.inr (.inl (.int, 32, upd Q (x * 4 + y) v))))) := by
  refine qSpec_run 1 "set" false hg mX1_set_ok rfl rfl (Nat.le_of_ble_eq_true rfl) (by decide) ?_
  intro run step
  obtain ⟨h1, h2⟩ := hC
  have hi : (nI x * 4 + nI y : Int32) = nI (x * 4 + y) := h_ix x y 4
  refine step.1 _ _ _ _ _ _ _ sgX1_set_0_ok ?_
  refine ⟨fun c1 => ?_, fun c1 => ?_⟩
  · exact absurd (hi ▸ c1) (h_nn (by omega))
  refine ⟨by decide, _, _, h1, rfl, _, _, h2, rfl, fun c2 => ?_, fun c2 => ?_⟩
  · exact absurd (hi ▸ c2) (h_nle (b := 32) (by omega) (by omega))
  refine ⟨by decide, _, _, h1, rfl, _, _, h2, h_vin (by decide) c1 c2, ?_⟩
  refine step.1 _ _ _ _ _ _ _ sgX1_set_30_ok ?_
  exact ⟨rfl, Nat.le_refl _, Nat.le_refl _, rfl, by rw [hi, h_tn (by omega)]⟩
/-- a new singer's four facts -/
def asing (Q : Nat → Int32) (x : Nat) (v p : Int32) : Nat → Int32 := upd (upd (upd (upd Q (x * 4 + 0) v) (x * 4 + 1) p) (x * 4 + 2) (-1)) (x * 4 + 3) 0
theorem C_add {g : qG} (hg : qOK g) {h : qH} {a f x : Nat} {Q : Nat → Int32} (hC : isC h a f Q (nI x)) (hx : x < 8) (v p : Int32) : qSpec g 2 0 0 mX1_add [.ref a, .int v, .int p] h (fun r h' => r = none ∧ h' = (h.1, qup (qup h.2 f (.inr (.inl (.int, 32, asing Q x v p)))) a (.inl (1, [.ref f, .int (nI (x + 1))])))) := by
  refine qSpec_run 1 "add" false hg mX1_add_ok rfl rfl (Nat.le_of_ble_eq_true rfl) (by decide) ?_
  intro run step
  refine step.1 _ _ _ _ _ _ _ sgX1_add_0_ok ?_
  refine ⟨by decide, _, _, hC.1, rfl, ?_⟩
  refine Or.inl ⟨rfl, _, 1, 0, 0, _, _, _, qi_1_25, ⟨rfl, rfl⟩, ⟨hC.1, rfl⟩, rfl, rfl, C_set hg hC x 0 _ hx (by decide), fun y1 h9 hy => ?_⟩
  obtain ⟨rfl, hh⟩ := hy
  rw [hh]
  clear hh
  have hC1 := hC.set (Q' := upd Q (x * 4 + 0) v)
  refine Or.inl ⟨rfl, _, 1, 0, 0, _, _, _, qi_1_25, ⟨rfl, rfl⟩, ⟨hC1.1, rfl⟩, rfl, rfl, C_set hg hC1 x 1 _ hx (by decide), fun y1 h9 hy => ?_⟩
  obtain ⟨rfl, hh⟩ := hy
  rw [hh]
  clear hh
  have hC2 := hC1.set (Q' := upd (upd Q (x * 4 + 0) v) (x * 4 + 1) p)
  refine Or.inl ⟨rfl, _, 1, 0, 0, _, _, _, qi_1_25, ⟨rfl, rfl⟩, ⟨hC2.1, rfl⟩, rfl, rfl, C_set hg hC2 x 2 _ hx (by decide), fun y1 h9 hy => ?_⟩
  obtain ⟨rfl, hh⟩ := hy
  rw [hh]
  clear hh
  have hC3 := hC2.set (Q' := upd (upd (upd Q (x * 4 + 0) v) (x * 4 + 1) p) (x * 4 + 2) (-1))
  refine Or.inl ⟨rfl, _, 1, 0, 0, _, _, _, qi_1_25, ⟨rfl, rfl⟩, ⟨hC3.1, rfl⟩, rfl, rfl, C_set hg hC3 x 3 _ hx (by decide), fun y1 h9 hy => ?_⟩
  obtain ⟨rfl, hh⟩ := hy
  rw [hh]
  clear hh
  have hC4 := hC3.set (Q' := upd (upd (upd (upd Q (x * 4 + 0) v) (x * 4 + 1) p) (x * 4 + 2) (-1)) (x * 4 + 3) 0)
  refine ⟨rfl, by decide, _, _, hC4.1, rfl, _, hC4.1, Nat.le_of_ble_eq_true rfl, rfl, rfl, Nat.le_refl _, Nat.le_refl _, rfl, ?_⟩
  rw [← nI_1]
  simp only [qup_qup]
  rfl
theorem C_clear {g : qG} (hg : qOK g) {h : qH} {a f : Nat} {Q : Nat → Int32} {m : Int32} (hC : isC h a f Q m) : qSpec g 1 0 0 mX1_clear [.ref a] h (fun r h' => r = none ∧ h' = (h.1, qup h.2 a (.inl (1, [.ref f, .int 0])))) := by
  refine qSpec_run 1 "clear" false hg mX1_clear_ok rfl rfl (Nat.le_of_ble_eq_true rfl) (by decide) ?_
  intro run step
  refine step.1 _ _ _ _ _ _ _ sgX1_clear_0_ok ?_
  exact ⟨_, hC.1, Nat.le_of_ble_eq_true rfl, rfl, rfl, Nat.le_refl _, Nat.le_refl _, rfl, rfl⟩
/-- the solos told, from singer i on -/
def csol (Q : Nat → Int32) (i : Nat) : Nat → Int32 → Int32
  | 0, acc => acc
  | m + 1, acc => csol Q (i + 1) m (acc + Q (i * 4 + 3))
theorem C_allSolos {g : qG} (hg : qOK g) {h : qH} {a f M : Nat} {Q : Nat → Int32} (hC : isC h a f Q (nI M)) (hM : M ≤ 8) : qSpec g 2 0 0 mX1_allSolos [.ref a] h (fun r h' => r = some (.int (csol Q 0 M 0)) ∧ h' = h) := by
  refine qSpec_run 1 "allSolos" false hg mX1_allSolos_ok rfl rfl (Nat.le_of_ble_eq_true rfl) (by decide) ?_
  intro run step
  have loop : ∀ (m i : Nat) (acc : Int32), i + m = M → csol Q i m acc = csol Q 0 M 0 → run 4 [(2, .int (nI i)), (1, .int acc), (0, .ref a)] [] h 0 0 := by
    intro m
    induction m with
    | zero =>
      intro i acc hi hs
      refine step.1 _ _ _ _ _ _ _ sgX1_allSolos_4_ok ?_
      refine ⟨by decide, _, _, hC.1, rfl, fun c1 => ?_, fun c1 => absurd ((nI_leI (a := M) (b := i) (by omega) (by omega)).mpr (by omega)) c1⟩
      refine step.1 _ _ _ _ _ _ _ sgX1_allSolos_27_ok ?_
      exact ⟨.int, rfl, rfl, Nat.le_refl _, Nat.le_refl _, by rw [← hs]; rfl, rfl⟩
    | succ m ih =>
      intro i acc hi hs
      refine step.1 _ _ _ _ _ _ _ sgX1_allSolos_4_ok ?_
      refine ⟨by decide, _, _, hC.1, rfl, fun c1 => absurd c1 (h_nle (by omega) (by omega)), fun c1 => ?_⟩
      refine Or.inl ⟨rfl, _, 1, 0, 0, _, _, _, qi_1_29, ⟨rfl, rfl⟩, ⟨hC.1, rfl⟩, rfl, rfl, C_of hg hC i 3 (by omega) (by decide), fun y1 h9 hy => ?_⟩
      obtain ⟨rfl, hh⟩ := hy
      rw [hh]
      clear hh
      have kk := ih (i + 1) (acc + Q (i * 4 + 3)) (by omega) hs
      rw [← nI_1] at kk
      exact kk
  refine step.1 _ _ _ _ _ _ _ sgX1_allSolos_0_ok ?_
  exact loop M 0 0 (by omega) rfl
/-- is the singer x there at the minute -/
def cthere (Q : Nat → Int32) (x : Nat) (mi : Int32) : Bool := decide (Q (x * 4 + 2) = -1) || decide (mi < Q (x * 4 + 2))
theorem C_isThere {g : qG} (hg : qOK g) {h : qH} {a f : Nat} {Q : Nat → Int32} {m : Int32} (hC : isC h a f Q m) (x : Nat) (hx : x < 8) (mi : Int32) : qSpec g 2 0 0 mX1_isThere [.ref a, .int (nI x), .int mi] h (fun r h' => r = some (.int (qb (cthere Q x mi))) ∧ h' = h) := by
  refine qSpec_run 1 "isThere" false hg mX1_isThere_ok rfl rfl (Nat.le_of_ble_eq_true rfl) (by decide) ?_
  intro run step
  have yes : ∀ (L : List (Nat × Value)), cthere Q x mi = true → run 17 L [] h 0 0 := by
    intro L hy
    refine step.1 _ _ _ _ _ _ _ sgX1_isThere_17_ok ?_
    refine step.1 _ _ _ _ _ _ _ sgX1_isThere_22_ok ?_
    exact ⟨.boolean, rfl, rfl, Nat.le_refl _, Nat.le_refl _, by rw [hy]; rfl, rfl⟩
  refine step.1 _ _ _ _ _ _ _ sgX1_isThere_0_ok ?_
  refine Or.inl ⟨rfl, _, 1, 0, 0, _, _, _, qi_1_29, ⟨rfl, rfl⟩, ⟨hC.1, rfl⟩, rfl, rfl, C_of hg hC x 2 hx (by decide), fun y1 h9 hy => ?_⟩
  obtain ⟨rfl, hh⟩ := hy
  rw [hh]
  clear hh
  refine ⟨fun c1 => yes _ ?_, fun c1 => ?_⟩
  · have c1 : Q (x * 4 + 2) = -1 := c1
    rw [cthere, decide_eq_true c1]; rfl
  have c1 : ¬ Q (x * 4 + 2) = -1 := c1
  refine ⟨fun c2 => ?_, fun c2 => yes _ ?_⟩
  · have c2 : Q (x * 4 + 2) ≤ mi := c2
    refine step.1 _ _ _ _ _ _ _ sgX1_isThere_21_ok ?_
    refine step.1 _ _ _ _ _ _ _ sgX1_isThere_22_ok ?_
    exact ⟨.boolean, rfl, rfl, Nat.le_refl _, Nat.le_refl _, by rw [cthere, decide_eq_false c1, decide_eq_false (Int32.not_lt.mpr c2)]; rfl, rfl⟩
  · have c2 : ¬ Q (x * 4 + 2) ≤ mi := c2
    rw [cthere, decide_eq_true (Int32.not_le.mp c2), Bool.or_true]
/-- who isn't home: a bit a singer -/
def cnoth (Q : Nat → Int32) (mi : Int32) (i : Nat) : Nat → Int32 → Int32
  | 0, b => b
  | m + 1, b => cnoth Q mi (i + 1) m (b ||| (if cthere Q i mi = true then 1 <<< (nI i &&& 31) else 0))
theorem C_notHome {g : qG} (hg : qOK g) {h : qH} {a f M : Nat} {Q : Nat → Int32} (hC : isC h a f Q (nI M)) (hM : M ≤ 8) (mi : Int32) : qSpec g 3 0 0 mX1_notHome [.ref a, .int mi] h (fun r h' => r = some (.int (cnoth Q mi 0 M 0)) ∧ h' = h) := by
  refine qSpec_run 1 "notHome" false hg mX1_notHome_ok rfl rfl (Nat.le_of_ble_eq_true rfl) (by decide) ?_
  intro run step
  have loop : ∀ (m i : Nat) (b : Int32), i + m = M → cnoth Q mi i m b = cnoth Q mi 0 M 0 → run 4 [(3, .int (nI i)), (2, .int b), (0, .ref a), (1, .int mi)] [] h 0 0 := by
    intro m
    induction m with
    | zero =>
      intro i b hi hs
      refine step.1 _ _ _ _ _ _ _ sgX1_notHome_4_ok ?_
      refine ⟨by decide, _, _, hC.1, rfl, fun c1 => ?_, fun c1 => absurd ((nI_leI (a := M) (b := i) (by omega) (by omega)).mpr (by omega)) c1⟩
      refine step.1 _ _ _ _ _ _ _ sgX1_notHome_37_ok ?_
      exact ⟨.int, rfl, rfl, Nat.le_refl _, Nat.le_refl _, by rw [← hs]; rfl, rfl⟩
    | succ m ih =>
      intro i b hi hs
      have fin : ∀ z : Int32, z = (if cthere Q i mi = true then 1 <<< (nI i &&& 31) else 0) → run 29 [(3, .int (nI i)), (2, .int b), (0, .ref a), (1, .int mi)] [.int z, .int b] h 0 0 := by
        intro z hz
        refine step.1 _ _ _ _ _ _ _ sgX1_notHome_29_ok ?_
        have kk := ih (i + 1) (b ||| z) (by omega) (by rw [← hs, cnoth, hz])
        rw [← nI_1] at kk
        exact kk
      refine step.1 _ _ _ _ _ _ _ sgX1_notHome_4_ok ?_
      refine ⟨by decide, _, _, hC.1, rfl, fun c1 => absurd c1 (h_nle (by omega) (by omega)), fun c1 => ?_⟩
      refine Or.inl ⟨rfl, _, 2, 0, 0, _, _, _, qi_1_33, ⟨rfl, rfl⟩, ⟨hC.1, rfl⟩, rfl, rfl, C_isThere hg hC i (by omega) mi, fun y1 h9 hy => ?_⟩
      obtain ⟨rfl, hh⟩ := hy
      rw [hh]
      clear hh
      refine ⟨fun c2 => ?_, fun c2 => ?_⟩
      · have c2 : cthere Q i mi = false := qb_0.mp c2
        refine step.1 _ _ _ _ _ _ _ sgX1_notHome_28_ok ?_
        exact fin _ (by rw [c2]; rfl)
      · have c2 : cthere Q i mi = true := qb_1.mp c2
        exact fin _ (by rw [if_pos c2])
  refine step.1 _ _ _ _ _ _ _ sgX1_notHome_0_ok ?_
  exact loop M 0 0 (by omega) rfl
/-- does a singer sing in this part -/
def cneed (Q : Nat → Int32) (p : Int32) (i : Nat) : Nat → Bool
  | 0 => false
  | m + 1 => if Q (i * 4 + 1) = p then true else cneed Q p (i + 1) m
theorem C_isNeeded {g : qG} (hg : qOK g) {h : qH} {a f M : Nat} {Q : Nat → Int32} (hC : isC h a f Q (nI M)) (hM : M ≤ 8) (p : Int32) : qSpec g 2 0 0 mX1_isNeeded [.ref a, .int p] h (fun r h' => r = some (.int (qb (cneed Q p 0 M))) ∧ h' = h) := by
  refine qSpec_run 1 "isNeeded" false hg mX1_isNeeded_ok rfl rfl (Nat.le_of_ble_eq_true rfl) (by decide) ?_
  intro run step
  have loop : ∀ (m i : Nat), i + m = M → cneed Q p i m = cneed Q p 0 M → run 2 [(2, .int (nI i)), (0, .ref a), (1, .int p)] [] h 0 0 := by
    intro m
    induction m with
    | zero =>
      intro i hi hs
      refine step.1 _ _ _ _ _ _ _ sgX1_isNeeded_2_ok ?_
      refine ⟨by decide, _, _, hC.1, rfl, fun c1 => ?_, fun c1 => absurd ((nI_leI (a := M) (b := i) (by omega) (by omega)).mpr (by omega)) c1⟩
      refine step.1 _ _ _ _ _ _ _ sgX1_isNeeded_28_ok ?_
      exact ⟨.boolean, rfl, rfl, Nat.le_refl _, Nat.le_refl _, by rw [← hs]; rfl, rfl⟩
    | succ m ih =>
      intro i hi hs
      refine step.1 _ _ _ _ _ _ _ sgX1_isNeeded_2_ok ?_
      refine ⟨by decide, _, _, hC.1, rfl, fun c1 => absurd c1 (h_nle (by omega) (by omega)), fun c1 => ?_⟩
      refine Or.inl ⟨rfl, _, 1, 0, 0, _, _, _, qi_1_29, ⟨rfl, rfl⟩, ⟨hC.1, rfl⟩, rfl, rfl, C_of hg hC i 1 (by omega) (by decide), fun y1 h9 hy => ?_⟩
      obtain ⟨rfl, hh⟩ := hy
      rw [hh]
      clear hh
      refine ⟨fun c2 => ?_, fun c2 => ?_⟩
      · have c2 : ¬ Q (i * 4 + 1) = p := c2
        refine step.1 _ _ _ _ _ _ _ sgX1_isNeeded_22_ok ?_
        have kk := ih (i + 1) (by omega) (by rw [← hs, cneed, if_neg c2])
        rw [← nI_1] at kk
        exact kk
      · have c2 : Q (i * 4 + 1) = p := c2
        exact ⟨.boolean, rfl, rfl, Nat.le_refl _, Nat.le_refl _, by rw [← hs, cneed, if_pos c2]; rfl, rfl⟩
  refine step.1 _ _ _ _ _ _ _ sgX1_isNeeded_0_ok ?_
  exact loop M 0 (by omega) rfl
/-- when the last of a part goes home; -1: never -/
def cgone (Q : Nat → Int32) (p : Int32) (i : Nat) : Nat → Int32 → Int32
  | 0, lt => lt
  | m + 1, lt => if Q (i * 4 + 1) = p then (if Q (i * 4 + 2) = -1 then -1 else cgone Q p (i + 1) m (if Q (i * 4 + 2) ≤ lt then lt else Q (i * 4 + 2))) else cgone Q p (i + 1) m lt
theorem C_goneFrom {g : qG} (hg : qOK g) {h : qH} {a f M : Nat} {Q : Nat → Int32} (hC : isC h a f Q (nI M)) (hM : M ≤ 8) (p : Int32) : qSpec g 2 0 0 mX1_goneFrom [.ref a, .int p] h (fun r h' => r = some (.int (cgone Q p 0 M (-1))) ∧ h' = h) := by
  refine qSpec_run 1 "goneFrom" false hg mX1_goneFrom_ok rfl rfl (Nat.le_of_ble_eq_true rfl) (by decide) ?_
  intro run step
  have loop : ∀ (m i : Nat) (lt : Int32), i + m = M → cgone Q p i m lt = cgone Q p 0 M (-1) → run 4 [(3, .int (nI i)), (2, .int lt), (0, .ref a), (1, .int p)] [] h 0 0 := by
    intro m
    induction m with
    | zero =>
      intro i lt hi hs
      refine step.1 _ _ _ _ _ _ _ sgX1_goneFrom_4_ok ?_
      refine ⟨by decide, _, _, hC.1, rfl, fun c1 => ?_, fun c1 => absurd ((nI_leI (a := M) (b := i) (by omega) (by omega)).mpr (by omega)) c1⟩
      refine step.1 _ _ _ _ _ _ _ sgX1_goneFrom_57_ok ?_
      exact ⟨.int, rfl, rfl, Nat.le_refl _, Nat.le_refl _, by rw [← hs]; rfl, rfl⟩
    | succ m ih =>
      intro i lt hi hs
      refine step.1 _ _ _ _ _ _ _ sgX1_goneFrom_4_ok ?_
      refine ⟨by decide, _, _, hC.1, rfl, fun c1 => absurd c1 (h_nle (by omega) (by omega)), fun c1 => ?_⟩
      refine Or.inl ⟨rfl, _, 1, 0, 0, _, _, _, qi_1_29, ⟨rfl, rfl⟩, ⟨hC.1, rfl⟩, rfl, rfl, C_of hg hC i 1 (by omega) (by decide), fun y1 h9 hy => ?_⟩
      obtain ⟨rfl, hh⟩ := hy
      rw [hh]
      clear hh
      refine ⟨fun c2 => ?_, fun c2 => ?_⟩
      · have c2 : ¬ Q (i * 4 + 1) = p := c2
        refine step.1 _ _ _ _ _ _ _ sgX1_goneFrom_51_ok ?_
        have kk := ih (i + 1) lt (by omega) (by rw [← hs, cgone, if_neg c2])
        rw [← nI_1] at kk
        exact kk
      · have c2 : Q (i * 4 + 1) = p := c2
        refine Or.inl ⟨rfl, _, 1, 0, 0, _, _, _, qi_1_29, ⟨rfl, rfl⟩, ⟨hC.1, rfl⟩, rfl, rfl, C_of hg hC i 2 (by omega) (by decide), fun y1 h9 hy => ?_⟩
        obtain ⟨rfl, hh⟩ := hy
        rw [hh]
        clear hh
        refine ⟨fun c3 => ?_, fun c3 => ?_⟩
        · have c3 : ¬ Q (i * 4 + 2) = -1 := c3
          have fin : ∀ z : Int32, z = (if Q (i * 4 + 2) ≤ lt then lt else Q (i * 4 + 2)) → run 50 [(4, .int (Q (i * 4 + 2))), (3, .int (nI i)), (2, .int lt), (0, .ref a), (1, .int p)] [.int z] h 0 0 := by
            intro z hz
            refine step.1 _ _ _ _ _ _ _ sgX1_goneFrom_50_ok ?_
            refine step.1 _ _ _ _ _ _ _ sgX1_goneFrom_51_ok ?_
            refine step.2 _ [(3, .int (nI i + 1)), (2, .int z), (4, .int (Q (i * 4 + 2))), (0, .ref a), (1, .int p)] [(3, .int (nI i + 1)), (2, .int z), (0, .ref a), (1, .int p)] _ _ _ _ (by intro x hx; simp only [List.mem_cons, List.not_mem_nil, or_false] at hx ⊢; rcases hx with e | e | e | e <;> simp only [e, true_or, or_true]) ?_
            have kk := ih (i + 1) z (by omega) (by rw [← hs, cgone, if_pos c2, if_neg c3, hz])
            rw [← nI_1] at kk
            exact kk
          refine step.1 _ _ _ _ _ _ _ sgX1_goneFrom_38_ok ?_
          refine ⟨fun c4 => ?_, fun c4 => ?_⟩
          · have c4 : Q (i * 4 + 2) ≤ lt := c4
            refine step.1 _ _ _ _ _ _ _ sgX1_goneFrom_49_ok ?_
            exact fin _ (by rw [if_pos c4])
          · have c4 : ¬ Q (i * 4 + 2) ≤ lt := c4
            exact fin _ (by rw [if_neg c4])
        · have c3 : Q (i * 4 + 2) = -1 := c3
          exact ⟨.int, rfl, rfl, Nat.le_refl _, Nat.le_refl _, by rw [← hs, cgone, if_pos c2, if_pos c3], rfl⟩
  refine step.1 _ _ _ _ _ _ _ sgX1_goneFrom_0_ok ?_
  exact loop M 0 (-1) (by omega) rfl
/-- what a part's singers that are there sing of so many verses -/
def csung (Q : Nat → Int32) (p v mi : Int32) (i : Nat) : Nat → Int32 → Int32
  | 0, s => s
  | m + 1, s => csung Q p v mi (i + 1) m (if Q (i * 4 + 1) = p then (if cthere Q i mi = true then s + (if v ≤ Q (i * 4 + 0) then v else Q (i * 4 + 0)) else s) else s)
theorem C_sungIn {g : qG} (hg : qOK g) {h : qH} {a f M : Nat} {Q : Nat → Int32} (hC : isC h a f Q (nI M)) (hM : M ≤ 8) (p v mi : Int32) : qSpec g 3 0 0 mX1_sungIn [.ref a, .int p, .int v, .int mi] h (fun r h' => r = some (.int (csung Q p v mi 0 M 0)) ∧ h' = h) := by
  refine qSpec_run 1 "sungIn" false hg mX1_sungIn_ok rfl rfl (Nat.le_of_ble_eq_true rfl) (by decide) ?_
  intro run step
  have loop : ∀ (m i : Nat) (s : Int32), i + m = M → csung Q p v mi i m s = csung Q p v mi 0 M 0 → run 6 [(5, .int (nI i)), (4, .int s), (0, .ref a), (1, .int p), (2, .int v), (3, .int mi)] [] h 0 0 := by
    intro m
    induction m with
    | zero =>
      intro i s hi hs
      refine step.1 _ _ _ _ _ _ _ sgX1_sungIn_6_ok ?_
      refine ⟨by decide, _, _, hC.1, rfl, fun c1 => ?_, fun c1 => absurd ((nI_leI (a := M) (b := i) (by omega) (by omega)).mpr (by omega)) c1⟩
      refine step.1 _ _ _ _ _ _ _ sgX1_sungIn_68_ok ?_
      exact ⟨.int, rfl, rfl, Nat.le_refl _, Nat.le_refl _, by rw [← hs]; rfl, rfl⟩
    | succ m ih =>
      intro i s hi hs
      have nxt : s = (if Q (i * 4 + 1) = p then (if cthere Q i mi = true then s + (if v ≤ Q (i * 4 + 0) then v else Q (i * 4 + 0)) else s) else s) → run 62 [(5, .int (nI i)), (4, .int s), (0, .ref a), (1, .int p), (2, .int v), (3, .int mi)] [] h 0 0 := by
        intro hz
        refine step.1 _ _ _ _ _ _ _ sgX1_sungIn_62_ok ?_
        have kk := ih (i + 1) s (by omega) (by rw [← hs, csung, ← hz])
        rw [← nI_1] at kk
        exact kk
      refine step.1 _ _ _ _ _ _ _ sgX1_sungIn_6_ok ?_
      refine ⟨by decide, _, _, hC.1, rfl, fun c1 => absurd c1 (h_nle (by omega) (by omega)), fun c1 => ?_⟩
      refine Or.inl ⟨rfl, _, 1, 0, 0, _, _, _, qi_1_29, ⟨rfl, rfl⟩, ⟨hC.1, rfl⟩, rfl, rfl, C_of hg hC i 1 (by omega) (by decide), fun y1 h9 hy => ?_⟩
      obtain ⟨rfl, hh⟩ := hy
      rw [hh]
      clear hh
      refine ⟨fun c2 => nxt ?_, fun c2 => ?_⟩
      · have c2 : ¬ Q (i * 4 + 1) = p := c2
        rw [if_neg c2]
      have c2 : Q (i * 4 + 1) = p := c2
      refine Or.inl ⟨rfl, _, 2, 0, 0, _, _, _, qi_1_33, ⟨rfl, rfl⟩, ⟨hC.1, rfl⟩, rfl, rfl, C_isThere hg hC i (by omega) mi, fun y1 h9 hy => ?_⟩
      obtain ⟨rfl, hh⟩ := hy
      rw [hh]
      clear hh
      refine ⟨fun c3 => nxt ?_, fun c3 => ?_⟩
      · have c3 : cthere Q i mi = false := qb_0.mp c3
        rw [if_pos c2, c3]; rfl
      have c3 : cthere Q i mi = true := qb_1.mp c3
      refine Or.inl ⟨rfl, _, 1, 0, 0, _, _, _, qi_1_29, ⟨rfl, rfl⟩, ⟨hC.1, rfl⟩, rfl, rfl, C_of hg hC i 0 (by omega) (by decide), fun y1 h9 hy => ?_⟩
      obtain ⟨rfl, hh⟩ := hy
      rw [hh]
      clear hh
      have fin : ∀ z : Int32, z = (if v ≤ Q (i * 4 + 0) then v else Q (i * 4 + 0)) → run 59 [(6, .int (Q (i * 4 + 0))), (5, .int (nI i)), (4, .int s), (0, .ref a), (1, .int p), (2, .int v), (3, .int mi)] [.int z, .int s] h 0 0 := by
        intro z hz
        refine step.1 _ _ _ _ _ _ _ sgX1_sungIn_59_ok ?_
        refine step.1 _ _ _ _ _ _ _ sgX1_sungIn_62_ok ?_
        refine step.2 _ [(5, .int (nI i + 1)), (4, .int (s + z)), (6, .int (Q (i * 4 + 0))), (0, .ref a), (1, .int p), (2, .int v), (3, .int mi)] [(5, .int (nI i + 1)), (4, .int (s + z)), (0, .ref a), (1, .int p), (2, .int v), (3, .int mi)] _ _ _ _ (by intro x hx; simp only [List.mem_cons, List.not_mem_nil, or_false] at hx ⊢; rcases hx with e | e | e | e | e | e <;> simp only [e, true_or, or_true]) ?_
        have kk := ih (i + 1) (s + z) (by omega) (by rw [← hs, csung, if_pos c2, if_pos c3, hz])
        rw [← nI_1] at kk
        exact kk
      refine ⟨fun c4 => ?_, fun c4 => ?_⟩
      · have c4 : v ≤ Q (i * 4 + 0) := c4
        refine step.1 _ _ _ _ _ _ _ sgX1_sungIn_58_ok ?_
        exact fin _ (by rw [if_pos c4])
      · have c4 : ¬ v ≤ Q (i * 4 + 0) := c4
        exact fin _ (by rw [if_neg c4])
  refine step.1 _ _ _ _ _ _ _ sgX1_sungIn_0_ok ?_
  exact loop M 0 0 (by omega) rfl
end Q07F
