section Q07C
/-- a Round: the cells of its doors, lines, changes; then the numbers -/
def isR (h : qH) (a d l c : Nat) (D P U : Nat → Int32) (n k u st ve cl : Int32) : Prop :=
  h.2 a = some (.inl (6, [.ref d, .ref l, .ref c, .int n, .int k, .int u, .int st, .int ve, .int cl])) ∧ h.2 d = some (.inr (.inl (.int, 100, D))) ∧ h.2 l = some (.inr (.inl (.int, 30, P))) ∧ h.2 c = some (.inr (.inl (.int, 100, U)))
theorem q_ne {h : qH} {a b : Nat} {x : Nat × List Value} {y : (FieldType × Nat × (Nat → Int32)) ⊕ ((Nat × (Nat → Int64)) ⊕ (String × Nat × (Nat → Option Nat)))} (ha : h.2 a = some (.inl x)) (hb : h.2 b = some (.inr y)) : a ≠ b := fun e => by
  rw [e, hb] at ha
  cases ha
def lput (P : Nat → Int32) (x : Nat) (p v r : Int32) : Nat → Int32 := upd (upd (upd P (x * 3) p) (x * 3 + 1) v) (x * 3 + 2) r
theorem R_of {g : qG} (hg : qOK g) {h : qH} {a d l c : Nat} {D P U : Nat → Int32} {n k u st ve cl : Int32} (hR : isR h a d l c D P U n k u st ve cl) (x y : Nat) (hx : x < 10) (hy : y < 10) : qSpec g 1 0 0 mX6_of [.ref a, .int (nI x), .int (nI y)] h (fun r h' => r = some (.int (D (x * 10 + y))) ∧ h' = h) := by
  refine qSpec_run 6 "of" false hg mX6_of_ok rfl rfl (Nat.le_of_ble_eq_true rfl) (by decide) ?_
  intro run step
  obtain ⟨h1, h2, h3, h4⟩ := hR
  have hi : (nI x * 10 + nI y : Int32) = nI (x * 10 + y) := h_ix x y 10
  refine step.1 _ _ _ _ _ _ _ sgX6_of_0_ok ?_
  refine ⟨fun c1 => ?_, fun c1 => ?_⟩
  · exact absurd (hi ▸ c1) (h_nn (by omega))
  refine ⟨by decide, _, _, h1, rfl, _, _, h2, rfl, fun c2 => ?_, fun c2 => ?_⟩
  · exact absurd (hi ▸ c2) (h_nle (b := 100) (by omega) (by omega))
  refine ⟨by decide, _, _, h1, rfl, _, _, h2, h_vin (by decide) c1 c2, ?_⟩
  refine step.1 _ _ _ _ _ _ _ sgX6_of_30_ok ?_
  exact ⟨.int, rfl, rfl, Nat.le_refl _, Nat.le_refl _, by rw [hi, h_tn (by omega)], rfl⟩
theorem R_ofLine {g : qG} (hg : qOK g) {h : qH} {a d l c : Nat} {D P U : Nat → Int32} {n k u st ve cl : Int32} (hR : isR h a d l c D P U n k u st ve cl) (x y : Nat) (hx : x < 10) (hy : y < 3) : qSpec g 1 0 0 mX6_ofLine [.ref a, .int (nI x), .int (nI y)] h (fun r h' => r = some (.int (P (x * 3 + y))) ∧ h' = h) := by
  refine qSpec_run 6 "ofLine" false hg mX6_ofLine_ok rfl rfl (Nat.le_of_ble_eq_true rfl) (by decide) ?_
  intro run step
  obtain ⟨h1, h2, h3, h4⟩ := hR
  have hi : (nI x * 3 + nI y : Int32) = nI (x * 3 + y) := h_ix x y 3
  refine step.1 _ _ _ _ _ _ _ sgX6_ofLine_0_ok ?_
  refine ⟨fun c1 => ?_, fun c1 => ?_⟩
  · exact absurd (hi ▸ c1) (h_nn (by omega))
  refine ⟨by decide, _, _, h1, rfl, _, _, h3, rfl, fun c2 => ?_, fun c2 => ?_⟩
  · exact absurd (hi ▸ c2) (h_nle (b := 30) (by omega) (by omega))
  refine ⟨by decide, _, _, h1, rfl, _, _, h3, h_vin (by decide) c1 c2, ?_⟩
  refine step.1 _ _ _ _ _ _ _ sgX6_ofLine_29_ok ?_
  exact ⟨.int, rfl, rfl, Nat.le_refl _, Nat.le_refl _, by rw [hi, h_tn (by omega)], rfl⟩
theorem R_setDoor {g : qG} (hg : qOK g) {h : qH} {a d l c : Nat} {D P U : Nat → Int32} {n k u st ve cl : Int32} (hR : isR h a d l c D P U n k u st ve cl) (x y : Nat) (v : Int32) (hx : x < 10) (hy : y < 10) : qSpec g 1 0 0 mX6_setDoor [.ref a, .int (nI x), .int (nI y), .int v] h (fun r h' => r = none ∧ h' = (h.1, qup h.2 d (.inr (.inl (.int, 100, upd D (x * 10 + y) v))))) := by
  refine qSpec_run 6 "setDoor" false hg mX6_setDoor_ok rfl rfl (Nat.le_of_ble_eq_true rfl) (by decide) ?_
  intro run step
  obtain ⟨h1, h2, h3, h4⟩ := hR
  have hi : (nI x * 10 + nI y : Int32) = nI (x * 10 + y) := h_ix x y 10
  refine step.1 _ _ _ _ _ _ _ sgX6_setDoor_0_ok ?_
  refine ⟨fun c1 => ?_, fun c1 => ?_⟩
  · exact absurd (hi ▸ c1) (h_nn (by omega))
  refine ⟨by decide, _, _, h1, rfl, _, _, h2, rfl, fun c2 => ?_, fun c2 => ?_⟩
  · exact absurd (hi ▸ c2) (h_nle (b := 100) (by omega) (by omega))
  refine ⟨by decide, _, _, h1, rfl, _, _, h2, h_vin (by decide) c1 c2, ?_⟩
  refine step.1 _ _ _ _ _ _ _ sgX6_setDoor_31_ok ?_
  exact ⟨rfl, Nat.le_refl _, Nat.le_refl _, rfl, by rw [hi, h_tn (by omega)]⟩
theorem R_allDoors {g : qG} (hg : qOK g) {h : qH} {a d l c : Nat} {D P U : Nat → Int32} {n k u st ve cl : Int32} (hR : isR h a d l c D P U n k u st ve cl) : qSpec g 1 0 0 mX6_allDoors [.ref a] h (fun r h' => r = some (.int ((1 <<< (n &&& 31)) - 1)) ∧ h' = h) := by
  refine qSpec_run 6 "allDoors" false hg mX6_allDoors_ok rfl rfl (Nat.le_of_ble_eq_true rfl) (by decide) ?_
  intro run step
  obtain ⟨h1, h2, h3, h4⟩ := hR
  refine step.1 _ _ _ _ _ _ _ sgX6_allDoors_0_ok ?_
  exact ⟨by decide, _, _, h1, rfl, .int, rfl, rfl, Nat.le_refl _, Nat.le_refl _, rfl, rfl⟩
theorem R_isFull {g : qG} (hg : qOK g) {h : qH} {a d l c : Nat} {D P U : Nat → Int32} {n k u st ve cl : Int32} (hR : isR h a d l c D P U n k u st ve cl) : qSpec g 1 0 0 mX6_isFull [.ref a] h (fun r h' => r = some (.int (qb (decide (20 ≤ u)))) ∧ h' = h) := by
  refine qSpec_run 6 "isFull" false hg mX6_isFull_ok rfl rfl (Nat.le_of_ble_eq_true rfl) (by decide) ?_
  intro run step
  obtain ⟨h1, h2, h3, h4⟩ := hR
  refine step.1 _ _ _ _ _ _ _ sgX6_isFull_0_ok ?_
  refine ⟨by decide, _, _, h1, rfl, fun c1 => ?_, fun c1 => ?_⟩
  · refine step.1 _ _ _ _ _ _ _ sgX6_isFull_13_ok ?_
    refine step.1 _ _ _ _ _ _ _ sgX6_isFull_14_ok ?_
    have c1 : u < 20 := c1
    exact ⟨.boolean, rfl, rfl, Nat.le_refl _, Nat.le_refl _, by rw [decide_eq_false (Int32.not_le.mpr c1)]; rfl, rfl⟩
  · refine step.1 _ _ _ _ _ _ _ sgX6_isFull_14_ok ?_
    have c1 : ¬ u < 20 := c1
    exact ⟨.boolean, rfl, rfl, Nat.le_refl _, Nat.le_refl _, by rw [decide_eq_true (Int32.not_lt.mp c1)]; rfl, rfl⟩
theorem R_setLine {g : qG} (hg : qOK g) {h : qH} {a d l c : Nat} {D P U : Nat → Int32} {n k u st ve cl : Int32} (hR : isR h a d l c D P U n k u st ve cl) (x : Nat) (p v r : Int32) (hx : x < 10) : qSpec g 2 0 0 mX6_setLine [.ref a, .int (nI x), .int p, .int v, .int r] h (fun y h' => y = none ∧ h' = (h.1, qup h.2 l (.inr (.inl (.int, 30, lput P x p v r))))) := by
  refine qSpec_run 6 "setLine" false hg mX6_setLine_ok rfl rfl (Nat.le_of_ble_eq_true rfl) (by decide) ?_
  intro run step
  obtain ⟨h1, h2, h3, h4⟩ := hR
  have n1 := q_ne h1 h3
  have hi : ∀ j : Nat, (nI x * 3 + nI j : Int32) = nI (x * 3 + j) := fun j => h_ix x j 3
  refine step.1 _ _ _ _ _ _ _ sgX6_setLine_0_ok ?_
  refine Or.inl ⟨rfl, _, 1, 0, 0, _, Or.inr qi_6_50, ⟨rfl, rfl⟩, rfl, rfl, sp_within hg (nI x) 0 9, fun y h' hy => ?_⟩
  obtain ⟨rfl, rfl⟩ := hy
  have hw : (decide ((0 : Int32) ≤ nI x) && decide (nI x ≤ 9)) = true := by
    rw [decide_eq_true (Int32.not_lt.mp (h_nn (j := x) (by omega))), decide_eq_true (p := nI x ≤ 9) ((nI_leI (b := 9) (by omega) (by decide)).mpr (by omega))]; rfl
  rw [hw]
  refine ⟨fun c1 => absurd c1 (by decide), fun c1 => ?_⟩
  refine ⟨by decide, _, _, h1, rfl, _, _, h3, ?_, ?_⟩
  · exact (hi 0) ▸ vp_in_nI (by omega) (by decide)
  refine ⟨by decide, _, _, (qup_n n1).trans h1, rfl, _, _, qup_s, ?_, ?_⟩
  · exact (hi 1) ▸ vp_in_nI (by omega) (by decide)
  refine ⟨by decide, _, _, (qup_n n1).trans ((qup_n n1).trans h1), rfl, _, _, qup_s, ?_, ?_⟩
  · exact (hi 2) ▸ vp_in_nI (by omega) (by decide)
  refine step.1 _ _ _ _ _ _ _ sgX6_setLine_44_ok ?_
  refine ⟨rfl, Nat.le_refl _, Nat.le_refl _, rfl, ?_⟩
  rw [show (nI x * 3 + 0 : Int32) = nI (x * 3) from hi 0, show (nI x * 3 + 1 : Int32) = nI (x * 3 + 1) from hi 1, show (nI x * 3 + 2 : Int32) = nI (x * 3 + 2) from hi 2, h_tn (by omega), h_tn (by omega), h_tn (by omega), qup_qup, qup_qup]
  rfl
theorem isR.line {h : qH} {a d l c : Nat} {D P U P' : Nat → Int32} {n k u st ve cl : Int32} (hR : isR h a d l c D P U n k u st ve cl) (hlc : l ≠ c) (hdl : d ≠ l) : isR (h.1, qup h.2 l (.inr (.inl (.int, 30, P')))) a d l c D P' U n k u st ve cl := by
  obtain ⟨h1, h2, h3, h4⟩ := hR
  exact ⟨(qup_n (q_ne h1 h3)).trans h1, (qup_n hdl).trans h2, qup_s, (qup_n (Ne.symm hlc)).trans h4⟩
theorem isR.num {h : qH} {a d l c : Nat} {D P U : Nat → Int32} {n k u st ve cl : Int32} {n' k' u' st' ve' cl' : Int32} (hR : isR h a d l c D P U n k u st ve cl) : isR (h.1, qup h.2 a (.inl (6, [.ref d, .ref l, .ref c, .int n', .int k', .int u', .int st', .int ve', .int cl']))) a d l c D P U n' k' u' st' ve' cl' := by
  obtain ⟨h1, h2, h3, h4⟩ := hR
  exact ⟨qup_s, (qup_n (Ne.symm (q_ne h1 h2))).trans h2, (qup_n (Ne.symm (q_ne h1 h3))).trans h3, (qup_n (Ne.symm (q_ne h1 h4))).trans h4⟩
theorem R_copyLine {g : qG} (hg : qOK g) {h : qH} {a d l c : Nat} {D P U : Nat → Int32} {n k u st ve cl : Int32} (hR : isR h a d l c D P U n k u st ve cl) (x y : Nat) (hx : x < 10) (hy0 : y < 10) : qSpec g 3 0 0 mX6_copyLine [.ref a, .int (nI x), .int (nI y)] h (fun r h' => r = none ∧ h' = (h.1, qup h.2 l (.inr (.inl (.int, 30, lput P y (P (x * 3)) (P (x * 3 + 1)) (P (x * 3 + 2))))))) := by
  refine qSpec_run 6 "copyLine" false hg mX6_copyLine_ok rfl rfl (Nat.le_of_ble_eq_true rfl) (by decide) ?_
  intro run step
  have hR0 := hR
  obtain ⟨h1, h2, h3, h4⟩ := hR
  refine step.1 _ _ _ _ _ _ _ sgX6_copyLine_0_ok ?_
  refine Or.inl ⟨rfl, _, 1, 0, 0, _, _, _, qi_6_54, ⟨rfl, rfl⟩, ⟨h1, rfl⟩, rfl, rfl, R_ofLine hg hR0 x 0 hx (by decide), fun y h' hy => ?_⟩
  obtain ⟨rfl, rfl⟩ := hy
  refine Or.inl ⟨rfl, _, 1, 0, 0, _, _, _, qi_6_54, ⟨rfl, rfl⟩, ⟨h1, rfl⟩, rfl, rfl, R_ofLine hg hR0 x 1 hx (by decide), fun y h' hy => ?_⟩
  obtain ⟨rfl, rfl⟩ := hy
  refine Or.inl ⟨rfl, _, 1, 0, 0, _, _, _, qi_6_54, ⟨rfl, rfl⟩, ⟨h1, rfl⟩, rfl, rfl, R_ofLine hg hR0 x 2 hx (by decide), fun y h' hy => ?_⟩
  obtain ⟨rfl, rfl⟩ := hy
  refine Or.inl ⟨rfl, _, 2, 0, 0, _, _, _, qi_6_68, ⟨rfl, rfl⟩, ⟨h1, rfl⟩, rfl, rfl, R_setLine hg hR0 y _ _ _ hy0, fun y h' hy => ?_⟩
  obtain ⟨rfl, rfl⟩ := hy
  exact ⟨rfl, Nat.le_refl _, Nat.le_refl _, rfl, rfl⟩
theorem R_exchange {g : qG} (hg : qOK g) {h : qH} {a d l c : Nat} {D P U : Nat → Int32} {n k u st ve cl : Int32} (hR : isR h a d l c D P U n k u st ve cl) (x y : Nat) (hx : x < 10) (hy0 : y < 10) (hlc : l ≠ c) (hdl : d ≠ l) : qSpec g 4 0 0 mX6_exchange [.ref a, .int (nI x), .int (nI y)] h (fun r h' => r = none ∧ h' = (h.1, qup h.2 l (.inr (.inl (.int, 30, lput (lput P x (P (y * 3)) (P (y * 3 + 1)) (P (y * 3 + 2))) y (P (x * 3)) (P (x * 3 + 1)) (P (x * 3 + 2))))))) := by
  refine qSpec_run 6 "exchange" false hg mX6_exchange_ok rfl rfl (Nat.le_of_ble_eq_true rfl) (by decide) ?_
  intro run step
  have hR0 := hR
  obtain ⟨h1, h2, h3, h4⟩ := hR
  refine step.1 _ _ _ _ _ _ _ sgX6_exchange_0_ok ?_
  refine Or.inl ⟨rfl, _, 1, 0, 0, _, _, _, qi_6_54, ⟨rfl, rfl⟩, ⟨h1, rfl⟩, rfl, rfl, R_ofLine hg hR0 x 0 hx (by decide), fun y h' hy => ?_⟩
  obtain ⟨rfl, rfl⟩ := hy
  refine Or.inl ⟨rfl, _, 1, 0, 0, _, _, _, qi_6_54, ⟨rfl, rfl⟩, ⟨h1, rfl⟩, rfl, rfl, R_ofLine hg hR0 x 1 hx (by decide), fun y h' hy => ?_⟩
  obtain ⟨rfl, rfl⟩ := hy
  refine Or.inl ⟨rfl, _, 1, 0, 0, _, _, _, qi_6_54, ⟨rfl, rfl⟩, ⟨h1, rfl⟩, rfl, rfl, R_ofLine hg hR0 x 2 hx (by decide), fun y h' hy => ?_⟩
  obtain ⟨rfl, rfl⟩ := hy
  refine Or.inl ⟨rfl, _, 3, 0, 0, _, _, _, qi_6_64, ⟨rfl, rfl⟩, ⟨h1, rfl⟩, rfl, rfl, R_copyLine hg hR0 y x hy0 hx, fun y h' hy => ?_⟩
  obtain ⟨rfl, rfl⟩ := hy
  refine Or.inl ⟨rfl, _, 2, 0, 0, _, _, _, qi_6_68, ⟨rfl, rfl⟩, ⟨(qup_n (q_ne h1 h3)).trans h1, rfl⟩, rfl, rfl, R_setLine hg (hR0.line hlc hdl) y _ _ _ hy0, fun y h' hy => ?_⟩
  obtain ⟨rfl, rfl⟩ := hy
  exact ⟨rfl, Nat.le_refl _, Nat.le_refl _, rfl, by rw [qup_qup]; rfl⟩
/-- lines i+1, i+2 .. i+m one place down -/
def ltake (P : Nat → Int32) (i : Nat) : Nat → (Nat → Int32)
  | 0 => P
  | m + 1 => ltake (lput P i (P ((i + 1) * 3)) (P ((i + 1) * 3 + 1)) (P ((i + 1) * 3 + 2))) (i + 1) m
theorem R_takeOut {g : qG} (hg : qOK g) {h : qH} {a d l c : Nat} {D P U : Nat → Int32} {n u st ve cl : Int32} {K : Nat} (hR : isR h a d l c D P U n (nI K) u st ve cl) (x : Nat) (hx : x < K) (hK : K ≤ 10) (hlc : l ≠ c) (hdl : d ≠ l) : qSpec g 4 0 0 mX6_takeOut [.ref a, .int (nI x)] h (fun r h' => r = none ∧ h' = (h.1, qup (qup h.2 l (.inr (.inl (.int, 30, ltake P x (K - 1 - x))))) a (.inl (6, [.ref d, .ref l, .ref c, .int n, .int (nI (K - 1)), .int u, .int st, .int ve, .int cl])))) := by
  refine qSpec_run 6 "takeOut" false hg mX6_takeOut_ok rfl rfl (Nat.le_of_ble_eq_true rfl) (by decide) ?_
  intro run step
  have hk1 : (nI K - 1 : Int32) = nI (K - 1) := pk_sub (a := K) (b := 1) (by omega)
  have loop : ∀ (m i : Nat) (P' : Nat → Int32) (h' : qH), isR h' a d l c D P' U n (nI K) u st ve cl → i + m + 1 = K → h'.1 = h.1 → qup (qup h'.2 l (.inr (.inl (.int, 30, ltake P' i m)))) a (.inl (6, [.ref d, .ref l, .ref c, .int n, .int (nI (K - 1)), .int u, .int st, .int ve, .int cl])) = qup (qup h.2 l (.inr (.inl (.int, 30, ltake P x (K - 1 - x))))) a (.inl (6, [.ref d, .ref l, .ref c, .int n, .int (nI (K - 1)), .int u, .int st, .int ve, .int cl])) → run 2 [(2, .int (nI i)), (0, .ref a), (1, .int (nI x))] [] h' 0 0 := by
    intro m
    induction m with
    | zero =>
      intro i P' h' hR' hi hs hfin
      obtain ⟨h1, h2, h3, h4⟩ := hR'
      refine step.1 _ _ _ _ _ _ _ sgX6_takeOut_2_ok ?_
      refine ⟨by decide, _, _, h1, rfl, fun c1 => ?_, fun c1 => ?_⟩
      · refine step.1 _ _ _ _ _ _ _ sgX6_takeOut_26_ok ?_
        refine ⟨rfl, by decide, _, _, h1, rfl, _, h1, Nat.le_of_ble_eq_true rfl, rfl, rfl, Nat.le_refl _, Nat.le_refl _, rfl, ?_⟩
        rw [← hfin, ← hs, ← hk1]
        have e : qup h'.2 l (.inr (.inl (.int, 30, ltake P' i 0))) = h'.2 := by
          funext j
          unfold qup
          split
          · rename_i hj; rw [hj, h3]; rfl
          · rfl
        rw [e]
        rfl
      · exact absurd (by rw [hk1]; exact (nI_leI (by omega) (by omega)).mpr (by omega)) c1
    | succ m ih =>
      intro i P' h' hR' hi hs hfin
      have hR1 := hR'
      obtain ⟨h1, h2, h3, h4⟩ := hR'
      refine step.1 _ _ _ _ _ _ _ sgX6_takeOut_2_ok ?_
      refine ⟨by decide, _, _, h1, rfl, fun c1 => ?_, fun c1 => ?_⟩
      · rw [hk1] at c1
        exact absurd c1 (h_nle (by omega) (by omega))
      · refine Or.inl ⟨rfl, _, 3, 0, 0, _, _, _, qi_6_64, ⟨rfl, rfl⟩, ⟨h1, rfl⟩, rfl, rfl, (show qSpec g 3 0 0 mX6_copyLine [.ref a, .int (nI i + 1), .int (nI i)] h' _ from (nI_1 i).symm ▸ R_copyLine hg hR1 (i + 1) i (by omega) (by omega)), fun y h'' hy => ?_⟩
        obtain ⟨rfl, rfl⟩ := hy
        have k := ih (i + 1) _ _ (hR1.line (P' := lput P' i (P' ((i + 1) * 3)) (P' ((i + 1) * 3 + 1)) (P' ((i + 1) * 3 + 2))) hlc hdl) (by omega) hs (by rw [← hfin]; rw [show ltake P' i (m + 1) = ltake (lput P' i (P' ((i + 1) * 3)) (P' ((i + 1) * 3 + 1)) (P' ((i + 1) * 3 + 2))) (i + 1) m from rfl]; exact congrArg (fun z => qup z a _) qup_qup)
        rw [← nI_1] at k
        exact k
  refine step.1 _ _ _ _ _ _ _ sgX6_takeOut_0_ok ?_
  exact loop (K - 1 - x) x P h hR (by omega) rfl rfl
end Q07C
