section Q13J
theorem nJ_neg {n : Nat} (h : n < 2 ^ 31) : ¬ nI n ≤ (-1 : Int32) := fun q => nI_pos h (Int32.lt_of_le_of_lt q (by decide))
theorem nJ_sub {a b : Nat} (h : b ≤ a) : nI a - nI b = nI (a - b) := by
  have e : nI a = nI (a - b) + nI b := by rw [nI_add]; congr 1; omega
  rw [e]
  exact Int32.add_sub_cancel _ _
/-- a value of the table: none, or a number -/
def enc (r : Option Nat) : Int64 := match r with
  | none => -1
  | some v => Int64.ofNat v
def omx (a b : Option Nat) : Option Nat := match a, b with
  | none, b => b
  | a, none => a
  | some u, some v => some (max u v)
def mpf (R : Nat → Option Nat) (A T : Nat → Nat) (b : Bool) (t : Nat) : Nat → Option Nat
  | 0 => none
  | k + 1 => if b = decide (0 < k) ∧ T k ≤ t then omx (mpf R A T b t k) ((R (t - T k)).map (fun v => A k + v)) else mpf R A T b t k
/-- the most that the doors from dc - f on bring, some of them left out as told, in so many minutes -/
def mo (A T : Nat → Nat → Nat) (s dc : Nat) : Nat → Nat → Option Nat
  | 0, _ => some 0
  | f + 1, t => mpf (mo A T s dc f) (A (dc - (f + 1))) (T (dc - (f + 1))) (s.testBit (dc - (f + 1))) t 19
def wst (r : Option (Nat × Nat)) (a : Nat) : Option (Nat × Nat) := match r with
  | none => some (a, a)
  | some (l, h) => some (min l a, max h a)
/-- the least and the greatest X of a set of doors -/
def wrun (X : Nat → Nat) (B : Nat → Bool) : Nat → Option (Nat × Nat)
  | 0 => none
  | d + 1 => if B d = true then wst (wrun X B d) (X d) else wrun X B d
def ndist (a b : Nat) : Nat := (a - b) + (b - a)
def wayl (st : Nat) (r : Option (Nat × Nat)) : Nat := match r with
  | none => 0
  | some (l, h) => h - l + min (ndist st l) (ndist st h)
def wlo (r : Option (Nat × Nat)) : Int32 := match r with
  | none => 1000
  | some (l, _) => nI l
def whi (r : Option (Nat × Nat)) : Int32 := match r with
  | none => -1
  | some (_, h) => nI h
def wfit (r : Option (Nat × Nat)) : Prop := ∀ l h : Nat, r = some (l, h) → l ≤ h ∧ h ≤ 99
theorem wrun_fit {X : Nat → Nat} {B : Nat → Bool} : ∀ d : Nat, (∀ a : Nat, a < d → X a ≤ 99) → wfit (wrun X B d) := by
  intro d
  induction d with
  | zero => intro _ l h e; cases e
  | succ d ih =>
    intro hX
    have h1 := ih (fun a ha => hX a (by omega))
    have h2 := hX d (by omega)
    unfold wrun
    split
    · intro l h e
      cases hr : wrun X B d with
      | none =>
        rw [hr] at e
        cases e
        exact ⟨Nat.le_refl _, h2⟩
      | some q =>
        obtain ⟨l0, g0⟩ := q
        have h3 := h1 l0 g0 hr
        rw [hr] at e
        cases e
        omega
    · exact h1
theorem wlo_k {r : Option (Nat × Nat)} {a : Nat} (ha : a ≤ 99) (hf : wfit r) (h : wlo r ≤ nI a) : wlo (wst r a) = wlo r := by
  cases r with
  | none => exact absurd (show nI 1000 ≤ nI a from h) (h_nle (by omega) (by omega))
  | some q =>
    obtain ⟨l, g⟩ := q
    have h1 := hf l g rfl
    have h2 := (nI_leI (by omega) (by omega)).mp (show nI l ≤ nI a from h)
    show nI (min l a) = nI l
    rw [Nat.min_eq_left h2]
theorem wlo_n {r : Option (Nat × Nat)} {a : Nat} (ha : a ≤ 99) (hf : wfit r) (h : ¬ wlo r ≤ nI a) : wlo (wst r a) = nI a := by
  cases r with
  | none => rfl
  | some q =>
    obtain ⟨l, g⟩ := q
    have h1 := hf l g rfl
    have h2 : a ≤ l := Nat.le_of_not_lt fun q => h (show nI l ≤ nI a from nI_le (by omega) (by omega))
    show nI (min l a) = nI a
    rw [Nat.min_eq_right h2]
theorem whi_k {r : Option (Nat × Nat)} {a : Nat} (ha : a ≤ 99) (hf : wfit r) (h : nI a ≤ whi r) : whi (wst r a) = whi r := by
  cases r with
  | none => exact absurd (show nI a ≤ (-1 : Int32) from h) (nJ_neg (by omega))
  | some q =>
    obtain ⟨l, g⟩ := q
    have h1 := hf l g rfl
    have h2 := (nI_leI (by omega) (by omega)).mp (show nI a ≤ nI g from h)
    show nI (max g a) = nI g
    rw [Nat.max_eq_left h2]
theorem whi_n {r : Option (Nat × Nat)} {a : Nat} (ha : a ≤ 99) (hf : wfit r) (h : ¬ nI a ≤ whi r) : whi (wst r a) = nI a := by
  cases r with
  | none => rfl
  | some q =>
    obtain ⟨l, g⟩ := q
    have h1 := hf l g rfl
    have h2 : g ≤ a := Nat.le_of_not_lt fun q => h (show nI a ≤ nI g from nI_le (by omega) (by omega))
    show nI (max g a) = nI a
    rw [Nat.max_eq_right h2]
theorem iap_n {a b : Nat} (ha : a < 2 ^ 20) (hb : b < 2 ^ 20) : iapart (nI a) (nI b) = nI (ndist a b) := by
  unfold iapart ndist
  by_cases h : b < a
  · rw [if_pos (nI_lt (by omega) (by omega)), nJ_sub (by omega)]
    congr 1; omega
  · rw [if_neg (fun q => absurd ((nI_ltI (by omega) (by omega)).mp q) (by omega)), nJ_sub (by omega)]
    congr 1; omega
theorem M_index {g : qG} (hg : qOK g) {h : qH} (s d t : Nat) : qSpec g 1 0 0 mX12_index [.ref 63, .int (nI s), .int (nI d), .int (nI t)] h (fun r h' => r = some (.int (nI ((s * 6 + d) * 481 + t))) ∧ h' = h) := by
  refine qSpec_run 12 "index" false hg mX12_index_ok rfl rfl (Nat.le_of_ble_eq_true rfl) (by decide) ?_
  intro run step
  refine step.1 _ _ _ _ _ _ _ sgX12_index_0_ok ?_
  refine ⟨.int, rfl, rfl, Nat.le_refl _, Nat.le_refl _, ?_⟩
  have e : ((6 * nI s + nI d) * 481 + nI t : Int32) = nI ((s * 6 + d) * 481 + t) := by
    rw [show (6 * nI s + nI d : Int32) = nI (s * 6 + d) from ixk (k := 6), Int32.mul_comm]
    exact ixk (k := 481)
  exact ⟨congrArg (fun z => some (Value.int z)) e, rfl⟩
theorem M_isOf {g : qG} (hg : qOK g) {h : qH} {s d q : Nat} (hs : s < 2 ^ 31) (hd : d < 31) (hq : q < 2 ^ 31) : qSpec g 1 0 0 mX12_isOf [.ref 63, .int (nI s), .int (nI d), .int (nI q)] h (fun r h' => r = some (.int (qb (s.testBit d == decide (0 < q)))) ∧ h' = h) := by
  refine qSpec_run 12 "isOf" false hg mX12_isOf_ok rfl rfl (Nat.le_of_ble_eq_true rfl) (by decide) ?_
  intro run step
  refine step.1 _ _ _ _ _ _ _ sgX12_isOf_0_ok ?_
  refine ⟨fun c6 => ?_, fun c6 => ?_⟩
  · have hb : s.testBit d = false := by
      cases z : s.testBit d with
      | false => rfl
      | true => exact absurd (by rw [b_bit hs hd, if_pos z]; rfl) c6
    refine step.1 _ _ _ _ _ _ _ sgX12_isOf_13_ok ?_
    refine step.1 _ _ _ _ _ _ _ sgX12_isOf_14_ok ?_
    refine ⟨fun c15 => ?_, fun c15 => ?_⟩
    · have hq0 : decide (0 < q) = false := decide_eq_false (fun z => absurd (show nI q ≤ nI 0 from c15) (h_nle z hq))
      refine step.1 _ _ _ _ _ _ _ sgX12_isOf_22_ok ?_
      refine step.1 _ _ _ _ _ _ _ sgX12_isOf_23_ok ?_
      refine ⟨fun c23 => absurd c23 (by decide), fun _ => ?_⟩
      refine step.1 _ _ _ _ _ _ _ sgX12_isOf_31_ok ?_
      refine ⟨.boolean, rfl, rfl, Nat.le_refl _, Nat.le_refl _, ?_⟩
      rw [hb, hq0]
      exact ⟨rfl, rfl⟩
    · have hq0 : decide (0 < q) = true := decide_eq_true (Nat.pos_of_ne_zero fun z => c15 (by rw [z]; exact Int32.le_refl _))
      refine step.1 _ _ _ _ _ _ _ sgX12_isOf_23_ok ?_
      refine ⟨fun _ => ?_, fun c23 => absurd c23 (by decide)⟩
      refine step.1 _ _ _ _ _ _ _ sgX12_isOf_30_ok ?_
      refine step.1 _ _ _ _ _ _ _ sgX12_isOf_31_ok ?_
      refine ⟨.boolean, rfl, rfl, Nat.le_refl _, Nat.le_refl _, ?_⟩
      rw [hb, hq0]
      exact ⟨rfl, rfl⟩
  · have hb : s.testBit d = true := by
      cases z : s.testBit d with
      | true => rfl
      | false => exact absurd (c6.symm.trans (by rw [b_bit hs hd, if_neg (by rw [z]; decide)])) (by decide)
    refine step.1 _ _ _ _ _ _ _ sgX12_isOf_14_ok ?_
    refine ⟨fun c15 => ?_, fun c15 => ?_⟩
    · have hq0 : decide (0 < q) = false := decide_eq_false (fun z => absurd (show nI q ≤ nI 0 from c15) (h_nle z hq))
      refine step.1 _ _ _ _ _ _ _ sgX12_isOf_22_ok ?_
      refine step.1 _ _ _ _ _ _ _ sgX12_isOf_23_ok ?_
      refine ⟨fun _ => ?_, fun c23 => absurd c23 (by decide)⟩
      refine step.1 _ _ _ _ _ _ _ sgX12_isOf_30_ok ?_
      refine step.1 _ _ _ _ _ _ _ sgX12_isOf_31_ok ?_
      refine ⟨.boolean, rfl, rfl, Nat.le_refl _, Nat.le_refl _, ?_⟩
      rw [hb, hq0]
      exact ⟨rfl, rfl⟩
    · have hq0 : decide (0 < q) = true := decide_eq_true (Nat.pos_of_ne_zero fun z => c15 (by rw [z]; exact Int32.le_refl _))
      refine step.1 _ _ _ _ _ _ _ sgX12_isOf_23_ok ?_
      refine ⟨fun c23 => absurd c23 (by decide), fun _ => ?_⟩
      refine step.1 _ _ _ _ _ _ _ sgX12_isOf_31_ok ?_
      refine ⟨.boolean, rfl, rfl, Nat.le_refl _, Nat.le_refl _, ?_⟩
      rw [hb, hq0]
      exact ⟨rfl, rfl⟩
/-- where the doors are -/
def nX (D : Nat → Int32) (d : Nat) : Nat := (D (d * 10 + 0)).toNatClampNeg
theorem nX_e {R : RT} (hR : ROK R) {d : Nat} (hd : d < R.2.2.2.1) : R.1 (d * 10 + 0) = nI (nX R.1 d) ∧ nX R.1 d ≤ 99 := by
  obtain ⟨v, hv, e⟩ := hR.d hd (f := 0) (by decide)
  have hv : v ≤ 99 := hv
  unfold nX
  rw [e, h_tn (by omega)]
  exact ⟨rfl, hv⟩
theorem M_xOfN {g : qG} (hg : qOK g) {h : qH} {x : Nat → Int32} {y : Nat → Int64} {F : Nat → Nat → Int32} {G : Nat → Nat → Int64} (hM : MX h x y F G) {S : CS} (hR : Rel S x F) (hI : ROK S.2.1) {d : Nat} (hd : d < S.2.1.2.2.2.1) : qSpec g 1 0 0 mX12_xOf [.ref 63, .int (nI d)] h (fun r h' => r = some (.int (nI (nX S.2.1.1 d))) ∧ h' = h) := qSpec_mono (M_xOf hg hM.1 hM.c67 d (by have := hI.1.1; omega)) fun r h' hy => ⟨by rw [hy.1, hR.2.2.1.1 _ (by omega), (nX_e hI hd).1], hy.2⟩
theorem M_apartN {g : qG} (hg : qOK g) {h : qH} {a b : Nat} (ha : a < 2 ^ 20) (hb : b < 2 ^ 20) : qSpec g 1 0 0 mX12_apart [.int (nI a), .int (nI b)] h (fun r h' => r = some (.int (nI (ndist a b))) ∧ h' = h) := qSpec_mono (M_apart hg _ _) fun r h' hy => ⟨by rw [hy.1, iap_n ha hb], hy.2⟩
theorem M_wayOver {g : qG} (hg : qOK g) {h : qH} {x : Nat → Int32} {y : Nat → Int64} {F : Nat → Nat → Int32} {G : Nat → Nat → Int64} (hM : MX h x y F G) {S : CS} (hR : Rel S x F) (hI : ROK S.2.1) {s : Nat} (hs : s < 2 ^ 31) : qSpec g 2 0 0 mX12_wayOver [.ref 63, .int (nI s)] h (fun r h' => r = some (.int (nI (wayl (S.2.1.2.2.2.2.2.2.1).toNatClampNeg (wrun (nX S.2.1.1) (s.testBit) S.2.1.2.2.2.1)))) ∧ h' = h) := by
  refine qSpec_run 12 "wayOver" false hg mX12_wayOver_ok rfl rfl (Nat.le_of_ble_eq_true rfl) (by decide) ?_
  intro run step
  have hn10 := hI.1.1
  have hXd : ∀ d : Nat, d < S.2.1.2.2.2.1 → S.2.1.1 (d * 10 + 0) = nI (nX S.2.1.1 d) ∧ nX S.2.1.1 d ≤ 99 := fun d hd => nX_e hI hd
  obtain ⟨a0, ha0, ea⟩ := hI.2.2.2.1
  have e21 : x 21 = nI a0 := hR.1.2.2.2.2.1.trans ea
  have at78 : run 78 [(4, .int (nI S.2.1.2.2.2.1)), (3, .int (whi (wrun (nX S.2.1.1) (s.testBit) S.2.1.2.2.2.1))), (2, .int (wlo (wrun (nX S.2.1.1) (s.testBit) S.2.1.2.2.2.1))), (0, .ref 63), (1, .int (nI s))] [] h 0 0 := by
    have hfN : wfit (wrun (nX S.2.1.1) (s.testBit) S.2.1.2.2.2.1) := wrun_fit S.2.1.2.2.2.1 (fun a ha => (hXd a ha).2)
    have e9 : nI (wayl (S.2.1.2.2.2.2.2.2.1).toNatClampNeg (wrun (nX S.2.1.1) (s.testBit) S.2.1.2.2.2.1)) = nI (wayl a0 (wrun (nX S.2.1.1) (s.testBit) S.2.1.2.2.2.1)) := by rw [ea, h_tn (by omega)]
    rw [e9] at step
    generalize (wrun (nX S.2.1.1) (s.testBit) S.2.1.2.2.2.1) = r at hfN step ⊢
    cases r with
    | none =>
      refine step.1 _ _ _ _ _ _ _ sgX12_wayOver_78_ok ?_
      refine ⟨fun c79 => absurd (show (0 : Int32) ≤ -1 from c79) (by decide), fun c79 => ?_⟩
    
      refine ⟨.int, rfl, rfl, Nat.le_refl _, Nat.le_refl _, ?_⟩
      exact ⟨rfl, rfl⟩
    | some q =>
      obtain ⟨l, u⟩ := q
      obtain ⟨hlu, hu99⟩ := hfN l u rfl
      have hd1 : ndist a0 l ≤ 99 := by unfold ndist; omega
      have hd2 : ndist a0 u ≤ 99 := by unfold ndist; omega
      refine step.1 _ _ _ _ _ _ _ sgX12_wayOver_78_ok ?_
      refine ⟨fun c79 => ?_, fun c79 => absurd (show (0 : Int32) ≤ nI u from nI_pos' (by omega)) c79⟩
    
      refine step.1 _ _ _ _ _ _ _ sgX12_wayOver_84_ok ?_
      refine ⟨by decide, _, _, hM.1, rfl, ?_⟩
      refine Or.inl ⟨rfl, _, 1, 0, 0, _, Or.inl qi_12_350, ⟨rfl, rfl⟩, rfl, rfl, (by rw [e21]; exact M_apartN hg (a := a0) (b := l) (by omega) (by omega)), fun y89 h89 hy89 => ?_⟩
      obtain ⟨rfl, hh⟩ := hy89
      rw [hh]
      clear hh
      refine ⟨by decide, _, _, hM.1, rfl, ?_⟩
      refine Or.inl ⟨rfl, _, 1, 0, 0, _, Or.inl qi_12_350, ⟨rfl, rfl⟩, rfl, rfl, (by rw [e21]; exact M_apartN hg (a := a0) (b := u) (by omega) (by omega)), fun y99 h99 hy99 => ?_⟩
      obtain ⟨rfl, hh⟩ := hy99
      rw [hh]
      clear hh
      refine ⟨fun c111 => ?_, fun c111 => ?_⟩
      · refine step.1 _ _ _ _ _ _ _ sgX12_wayOver_119_ok ?_
        refine step.1 _ _ _ _ _ _ _ sgX12_wayOver_121_ok ?_
        refine ⟨.int, rfl, rfl, Nat.le_refl _, Nat.le_refl _, ?_⟩
        refine ⟨congrArg (fun z => some (Value.int z)) ?_, rfl⟩
        have h1 := (nI_leI (by omega) (by omega)).mp (show nI (ndist a0 u) ≤ nI (ndist a0 l) from c111)
        show nI u - nI l + nI (ndist a0 u) = nI (u - l + min (ndist a0 l) (ndist a0 u))
        rw [nJ_sub (by omega), nI_add, Nat.min_eq_right h1]
      · refine step.1 _ _ _ _ _ _ _ sgX12_wayOver_121_ok ?_
        refine ⟨.int, rfl, rfl, Nat.le_refl _, Nat.le_refl _, ?_⟩
        refine ⟨congrArg (fun z => some (Value.int z)) ?_, rfl⟩
        have h1 : ndist a0 l ≤ ndist a0 u := Nat.le_of_not_lt fun q => c111 (show nI (ndist a0 u) ≤ nI (ndist a0 l) from nI_le (by omega) (by omega))
        show nI u - nI l + nI (ndist a0 l) = nI (u - l + min (ndist a0 l) (ndist a0 u))
        rw [nJ_sub (by omega), nI_add, Nat.min_eq_left h1]
  have loop : ∀ (m d : Nat), d + m = S.2.1.2.2.2.1 → run 9 [(4, .int (nI d)), (3, .int (whi (wrun (nX S.2.1.1) (s.testBit) d))), (2, .int (wlo (wrun (nX S.2.1.1) (s.testBit) d))), (0, .ref 63), (1, .int (nI s))] [] h 0 0 := by
    intro m
    induction m with
    | zero =>
      intro d hd
      have e19 : x 19 = nI S.2.1.2.2.2.1 := hR.1.2.2.1
      refine step.1 _ _ _ _ _ _ _ sgX12_wayOver_9_ok ?_
      refine ⟨by decide, _, _, hM.1, rfl, ?_⟩
      refine ⟨fun c15 => ?_, fun c15 => absurd (show x 19 ≤ nI d from by rw [e19]; exact nI_le (by omega) (by omega)) c15⟩
      
      obtain rfl : d = S.2.1.2.2.2.1 := by omega
      exact at78
    | succ m ih =>
      intro d hd
      have hfit : wfit (wrun (nX S.2.1.1) (s.testBit) d) := wrun_fit d (fun a ha => (hXd a (by omega)).2)
      have e19 : x 19 = nI S.2.1.2.2.2.1 := hR.1.2.2.1
      refine step.1 _ _ _ _ _ _ _ sgX12_wayOver_9_ok ?_
      refine ⟨by decide, _, _, hM.1, rfl, ?_⟩
      refine ⟨fun c15 => absurd (show nI S.2.1.2.2.2.1 ≤ nI d from by rw [← e19]; exact c15) (h_nle (by omega) (by omega)), fun c15 => ?_⟩
      
      refine ⟨fun c24 => ?_, fun c24 => ?_⟩
      · have hbt : (wrun (nX S.2.1.1) (s.testBit) (d + 1)) = wst (wrun (nX S.2.1.1) (s.testBit) d) (nX S.2.1.1 d) := by
          refine if_pos ?_
          cases z : s.testBit d with
          | true => rfl
          | false => exact absurd (by rw [b_bit hs (by omega), if_neg (by rw [z]; decide)]; rfl) c24
        refine step.1 _ _ _ _ _ _ _ sgX12_wayOver_30_ok ?_
        refine Or.inl ⟨rfl, _, 1, 0, 0, _, _, _, qi_12_347, ⟨rfl, rfl⟩, ⟨hM.1, rfl⟩, rfl, rfl, M_xOfN hg hM hR hI (d := d) (by omega), fun y33 h33 hy33 => ?_⟩
        obtain ⟨rfl, hh⟩ := hy33
        rw [hh]
        clear hh
        refine ⟨fun c37 => ?_, fun c37 => ?_⟩
        · refine step.1 _ _ _ _ _ _ _ sgX12_wayOver_49_ok ?_
          refine step.1 _ _ _ _ _ _ _ sgX12_wayOver_50_ok ?_
          refine Or.inl ⟨rfl, _, 1, 0, 0, _, _, _, qi_12_347, ⟨rfl, rfl⟩, ⟨hM.1, rfl⟩, rfl, rfl, M_xOfN hg hM hR hI (d := d) (by omega), fun y54 h54 hy54 => ?_⟩
          obtain ⟨rfl, hh⟩ := hy54
          rw [hh]
          clear hh
          refine ⟨fun c58 => ?_, fun c58 => ?_⟩
          · refine step.1 _ _ _ _ _ _ _ sgX12_wayOver_70_ok ?_
            refine step.1 _ _ _ _ _ _ _ sgX12_wayOver_71_ok ?_
            refine step.1 _ _ _ _ _ _ _ sgX12_wayOver_72_ok ?_
            have kk := ih (d + 1) (by omega)
            rw [hbt, wlo_k (hXd d (by omega)).2 hfit c37, whi_k (hXd d (by omega)).2 hfit c58, ← nI_1] at kk
            exact kk
          · refine Or.inl ⟨rfl, _, 1, 0, 0, _, _, _, qi_12_347, ⟨rfl, rfl⟩, ⟨hM.1, rfl⟩, rfl, rfl, M_xOfN hg hM hR hI (d := d) (by omega), fun y64 h64 hy64 => ?_⟩
            obtain ⟨rfl, hh⟩ := hy64
            rw [hh]
            clear hh
            refine step.1 _ _ _ _ _ _ _ sgX12_wayOver_71_ok ?_
            refine step.1 _ _ _ _ _ _ _ sgX12_wayOver_72_ok ?_
            have kk := ih (d + 1) (by omega)
            rw [hbt, wlo_k (hXd d (by omega)).2 hfit c37, whi_n (hXd d (by omega)).2 hfit c58, ← nI_1] at kk
            exact kk
        · refine Or.inl ⟨rfl, _, 1, 0, 0, _, _, _, qi_12_347, ⟨rfl, rfl⟩, ⟨hM.1, rfl⟩, rfl, rfl, M_xOfN hg hM hR hI (d := d) (by omega), fun y43 h43 hy43 => ?_⟩
          obtain ⟨rfl, hh⟩ := hy43
          rw [hh]
          clear hh
          refine step.1 _ _ _ _ _ _ _ sgX12_wayOver_50_ok ?_
          refine Or.inl ⟨rfl, _, 1, 0, 0, _, _, _, qi_12_347, ⟨rfl, rfl⟩, ⟨hM.1, rfl⟩, rfl, rfl, M_xOfN hg hM hR hI (d := d) (by omega), fun y54 h54 hy54 => ?_⟩
          obtain ⟨rfl, hh⟩ := hy54
          rw [hh]
          clear hh
          refine ⟨fun c58 => ?_, fun c58 => ?_⟩
          · refine step.1 _ _ _ _ _ _ _ sgX12_wayOver_70_ok ?_
            refine step.1 _ _ _ _ _ _ _ sgX12_wayOver_71_ok ?_
            refine step.1 _ _ _ _ _ _ _ sgX12_wayOver_72_ok ?_
            have kk := ih (d + 1) (by omega)
            rw [hbt, wlo_n (hXd d (by omega)).2 hfit c37, whi_k (hXd d (by omega)).2 hfit c58, ← nI_1] at kk
            exact kk
          · refine Or.inl ⟨rfl, _, 1, 0, 0, _, _, _, qi_12_347, ⟨rfl, rfl⟩, ⟨hM.1, rfl⟩, rfl, rfl, M_xOfN hg hM hR hI (d := d) (by omega), fun y64 h64 hy64 => ?_⟩
            obtain ⟨rfl, hh⟩ := hy64
            rw [hh]
            clear hh
            refine step.1 _ _ _ _ _ _ _ sgX12_wayOver_71_ok ?_
            refine step.1 _ _ _ _ _ _ _ sgX12_wayOver_72_ok ?_
            have kk := ih (d + 1) (by omega)
            rw [hbt, wlo_n (hXd d (by omega)).2 hfit c37, whi_n (hXd d (by omega)).2 hfit c58, ← nI_1] at kk
            exact kk
      · have hbt : (wrun (nX S.2.1.1) (s.testBit) (d + 1)) = (wrun (nX S.2.1.1) (s.testBit) d) := by
          refine if_neg ?_
          intro z
          rw [b_bit hs (by omega), if_pos z] at c24
          exact absurd c24 (by decide)
        refine step.1 _ _ _ _ _ _ _ sgX12_wayOver_72_ok ?_
        have kk := ih (d + 1) (by omega)
        rw [hbt, ← nI_1] at kk
        exact kk
  refine step.1 _ _ _ _ _ _ _ sgX12_wayOver_0_ok ?_
  exact loop S.2.1.2.2.2.1 0 (by omega)
end Q13J
