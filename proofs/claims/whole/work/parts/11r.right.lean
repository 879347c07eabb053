section Q11R
/-- the pence of the doors that are told by bits -/
def rsum (D : Nat → Int32) (c : Nat) : Nat → Nat → Int32 → Int32
  | 0, _, s => s
  | m + 1, i, s => rsum D c m (i + 1) (s + nI (if c.testBit i = true then 1 else 0) * D (i * 10 + 1))
theorem rsum_0 (D : Nat → Int32) {c : Nat} : ∀ (m i : Nat) (s : Int32), (∀ j : Nat, i ≤ j → c.testBit j = false) → rsum D c m i s = s := by
  intro m
  induction m with
  | zero => intro i s _; rfl
  | succ m ih =>
    intro i s h
    show rsum D c m (i + 1) _ = s
    rw [if_neg (by rw [h i (Nat.le_refl _)]; decide), ih (i + 1) _ (fun j hj => h j (by omega)), show nI 0 = 0 from rfl, Int32.zero_mul, Int32.add_zero]
theorem rsum_add (D : Nat → Int32) (c : Nat) : ∀ (m k i : Nat) (s : Int32), rsum D c (m + k) i s = rsum D c k (i + m) (rsum D c m i s) := by
  intro m
  induction m with
  | zero => intro k i s; rw [Nat.zero_add]; rfl
  | succ m ih =>
    intro k i s
    rw [show m + 1 + k = (m + k) + 1 by omega]
    show rsum D c (m + k) (i + 1) _ = rsum D c k (i + (m + 1)) (rsum D c m (i + 1) _)
    rw [ih k (i + 1), show i + 1 + m = i + (m + 1) by omega]
theorem tb_hi {c n : Nat} (h : c < 2 ^ n) {j : Nat} (hj : n ≤ j) : c.testBit j = false := Nat.testBit_lt_two_pow (Nat.lt_of_lt_of_le h (Nat.pow_le_pow_right (by decide) hj))
theorem bbox_r (D : Nat → Int32) {c : Nat} (hc : c < 2 ^ 31) : ∀ (m i : Nat) (s : Int32), i + m ≤ 30 → bbox D m i (nI (c / 2 ^ i)) s = rsum D c m i s := by
  intro m
  induction m with
  | zero => intro i s _; rfl
  | succ m ih =>
    intro i s hi
    have hle : c / 2 ^ i ≤ c := Nat.div_le_self c (2 ^ i)
    unfold bbox
    by_cases c0 : c / 2 ^ i = 0
    · rw [if_pos (by rw [c0]; rfl)]
      have hlt : c < 2 ^ i := by
        rcases Nat.lt_or_ge c (2 ^ i) with q | q
        · exact q
        · exact absurd c0 (by have := Nat.div_pos q (Nat.two_pow_pos i); omega)
      exact (rsum_0 D (m + 1) i s (fun j hj => tb_hi hlt hj)).symm
    · rw [if_neg (show ¬ nI (c / 2 ^ i) = 0 from fun q => c0 ((nI_eq (b := 0) (by omega) (by decide)).mp q))]
      show bbox D m (i + 1) _ _ = rsum D c m (i + 1) _
      rw [← ih (i + 1) _ (by omega), show (1 : Int32) = nI 1 from rfl, pk_shrN (n := c / 2 ^ i) (by omega) (nI 1 &&& 31) 1 (by decide), b_and, Nat.and_one_is_mod, Nat.div_div_eq_div_mul, ← Nat.pow_add]
      congr 4
      rw [Nat.testBit_eq_decide_div_mod_eq]
      by_cases q : c / 2 ^ i % 2 = 1
      · rw [q]; rfl
      · rw [if_neg (by simpa using q)]; omega
/-- what a book's line says of a set of doors -/
theorem bbox_n {D : Nat → Int32} {b n : Nat} (hb : b < 2 ^ n) (hn : n ≤ 10) (B : Int32) : ∃ c : Nat, c < 2 ^ n ∧ B &&& nI b = nI c ∧ nI b &&& B = nI c ∧ bbox D 10 0 (nI b &&& B) 0 = rsum D c n 0 0 := by
  obtain ⟨q, hq, rfl⟩ := nI_any B
  have hc : b &&& q < 2 ^ n := Nat.lt_of_le_of_lt Nat.and_le_left hb
  have h31 : (2 : Nat) ^ n ≤ 2 ^ 10 := Nat.pow_le_pow_right (by decide) hn
  refine ⟨b &&& q, hc, by rw [b_and, Nat.and_comm], b_and b q, ?_⟩
  rw [b_and]
  have := bbox_r D (c := b &&& q) (by omega) 10 0 0 (by omega)
  rw [Nat.pow_zero, Nat.div_one] at this
  rw [this, show 10 = n + (10 - n) by omega, rsum_add, rsum_0 D (10 - n) (0 + n) _ (fun j hj => tb_hi hc (by omega))]
theorem M_isRight {g : qG} (hg : qOK g) {h : qH} {x : Nat → Int32} {y : Nat → Int64} {F : Nat → Nat → Int32} {G : Nat → Nat → Int64} (hM : MX h x y F G) {S : CS} (hR : Rel S x F) (hn : S.2.1.2.2.2.1 ≤ 10) (hb8 : S.2.2.2.2.2.1.2.2 ≤ 8) {l b : Nat} (hl : l < S.2.2.2.2.2.1.2.2) (hb : b < 2 ^ S.2.1.2.2.2.1) : qSpec g 1 0 0 mX12_isRight [.ref 63, .int (nI l), .int (nI b)] h (fun r h' => r = some (.int (qb (decide (bbox S.2.1.1 10 0 (nI b &&& S.2.2.2.2.2.1.1 l) 0 = S.2.2.2.2.2.1.2.1 l)))) ∧ h' = h) := by
  refine qSpec_run 12 "isRight" false hg mX12_isRight_ok rfl rfl (Nat.le_of_ble_eq_true rfl) (by decide) ?_
  intro run step
  have e19 : x 19 = nI S.2.1.2.2.2.1 := hR.1.2.2.1
  have hyr := hR.2.2.2.2.1 l hl
  obtain ⟨c, hc, ec1, ec2, ec⟩ := bbox_n (D := S.2.1.1) hb hn (S.2.2.2.2.2.1.1 l)
  have hc31 : c < 2 ^ 31 := by
    have : (2 : Nat) ^ S.2.1.2.2.2.1 ≤ 2 ^ 10 := Nat.pow_le_pow_right (by decide) hn
    omega
  have l0 : (2 * nI l : Int32) = nI (2 * l) := pk_mul 2 l
  have l1 : (2 * nI l + 1 : Int32) = nI (2 * l + 1) := by rw [l0, nI_1]
  have y0 : F 80 (2 * nI l : Int32).toNatClampNeg = S.2.2.2.2.2.1.1 l := by rw [l0, h_tn (by omega)]; exact hyr.1
  have y1 : F 80 (2 * nI l + 1 : Int32).toNatClampNeg = S.2.2.2.2.2.1.2.1 l := by rw [l1, h_tn (by omega)]; exact hyr.2
  have loop : ∀ (m i : Nat) (s : Int32), i + m = S.2.1.2.2.2.1 → rsum S.2.1.1 c m i s = rsum S.2.1.1 c S.2.1.2.2.2.1 0 0 → run 5 [(4, .int (nI i)), (3, .int s), (0, .ref 63), (1, .int (nI l)), (2, .int (nI b))] [] h 0 0 := by
    intro m
    induction m with
    | zero =>
      intro i s hi hres
      refine step.1 _ _ _ _ _ _ _ sgX12_isRight_5_ok ?_
      refine ⟨by decide, _, _, hM.1, rfl, ?_⟩
      refine ⟨fun c11 => ?_, fun c11 => absurd (show x 19 ≤ nI i from by rw [e19]; exact nI_le (by omega) (by omega)) c11⟩
      
      refine step.1 _ _ _ _ _ _ _ sgX12_isRight_51_ok ?_
      refine ⟨by decide, _, _, hM.1, rfl, ?_⟩
      refine ⟨_, _, hM.c80, (by rw [l1]; exact vp_in_nI (n := 2 * l + 1) (N := 16) (by omega) (by decide)), ?_⟩
      refine ⟨fun c62 => ?_, fun c62 => ?_⟩
      · have d62 : ¬ bbox S.2.1.1 10 0 (nI b &&& S.2.2.2.2.2.1.1 l) 0 = S.2.2.2.2.2.1.2.1 l := fun q => c62 (by rw [y1, ← q, ec, ← hres]; rfl)
        refine step.1 _ _ _ _ _ _ _ sgX12_isRight_69_ok ?_
        refine step.1 _ _ _ _ _ _ _ sgX12_isRight_70_ok ?_
        refine ⟨.boolean, rfl, rfl, Nat.le_refl _, Nat.le_refl _, ?_⟩
        exact ⟨congrArg (fun z => some (Value.int z)) (by rw [decide_eq_false d62]; rfl), rfl⟩
      · have d62 : bbox S.2.1.1 10 0 (nI b &&& S.2.2.2.2.2.1.1 l) 0 = S.2.2.2.2.2.1.2.1 l := by rw [ec, ← hres, ← y1]; exact c62
        refine step.1 _ _ _ _ _ _ _ sgX12_isRight_70_ok ?_
        refine ⟨.boolean, rfl, rfl, Nat.le_refl _, Nat.le_refl _, ?_⟩
        exact ⟨congrArg (fun z => some (Value.int z)) (by rw [decide_eq_true d62]; rfl), rfl⟩
    | succ m ih =>
      intro i s hi hres
      have j1 : (10 * nI i + 1 : Int32) = nI (i * 10 + 1) := ixk (k := 10) (w := 1)
      have g1 : F 67 (10 * nI i + 1 : Int32).toNatClampNeg = S.2.1.1 (i * 10 + 1) := by rw [j1, h_tn (n := i * 10 + 1) (by omega)]; exact hR.2.2.1.1 _ (by omega)
      refine step.1 _ _ _ _ _ _ _ sgX12_isRight_5_ok ?_
      refine ⟨by decide, _, _, hM.1, rfl, ?_⟩
      refine ⟨fun c11 => absurd (show nI S.2.1.2.2.2.1 ≤ nI i from by rw [← e19]; exact c11) (h_nle (by omega) (by omega)), fun c11 => ?_⟩
      
      refine ⟨by decide, _, _, hM.1, rfl, ?_⟩
      refine ⟨_, _, hM.c80, (by rw [l0]; exact vp_in_nI (n := 2 * l) (N := 16) (by omega) (by decide)), ?_⟩
      refine ⟨by decide, _, _, hM.1, rfl, ?_⟩
      refine ⟨_, _, hM.c67, (by rw [j1]; exact vp_in_nI (n := i * 10 + 1) (N := 100) (by omega) (by decide)), ?_⟩
      rw [y0, ec1, b_bit hc31 (by omega), g1]
      have kk := ih (i + 1) (s + nI (if c.testBit i = true then 1 else 0) * S.2.1.1 (i * 10 + 1)) (by omega) hres
      rw [← nI_1] at kk
      exact kk
  refine step.1 _ _ _ _ _ _ _ sgX12_isRight_0_ok ?_
  exact loop S.2.1.2.2.2.1 0 0 (by omega) rfl
theorem M_right {g : qG} (hg : qOK g) {h : qH} {x : Nat → Int32} {y : Nat → Int64} {F : Nat → Nat → Int32} {G : Nat → Nat → Int64} (hM : MX h x y F G) {S : CS} (hR : Rel S x F) (hn : S.2.1.2.2.2.1 ≤ 10) (hb8 : S.2.2.2.2.2.1.2.2 ≤ 8) (v : Int32) : qSpec g 3 0 0 mX12_right [.ref 63, .int v] h (fun r h' => ((wi 0 (nI (2 ^ S.2.1.2.2.2.1 - 1)) v = true) ∧ (r = some (.int (nI (brt S.2.1.1 S.2.2.2.2.2.1.1 S.2.2.2.2.2.1.2.1 v S.2.2.2.2.2.1.2.2 0)))) ∧ MG h h' S) ∨ ∃ (k : Nat) (c : Int32), ((k = 1 ∧ c = 1 ∧ ¬ (wi 0 (nI (2 ^ S.2.1.2.2.2.1 - 1)) v = true))) ∧ (∃ z, r = some (.int z)) ∧ mbad h h' S k c) := by
  refine qSpec_run 12 "right" false hg mX12_right_ok rfl rfl (Nat.le_of_ble_eq_true rfl) (by decide) ?_
  intro run step
  have e19 : (upd x 0 0) 19 = nI S.2.1.2.2.2.1 := hR.1.2.2.1
  have eall : ((1 : Int32) <<< ((upd x 0 0) 19 &&& 31)) - 1 = nI (2 ^ S.2.1.2.2.2.1 - 1) := by rw [e19]; exact all_nn _ (by omega)
  refine step.1 _ _ _ _ _ _ _ sgX12_right_0_ok ?_
  refine ⟨_, hM.1, Nat.le_of_ble_eq_true rfl, rfl, ?_⟩
  have hM0 := hM.p63 (sI_0 (v := 0) (rfl : _ = M63l x y))
  have hR0 : Rel S (upd x 0 0) F := hR.t 0
  have hk0 := kp.rf (h := h) |>.u (k := 63) (e := .inl (12, (M63l x y).set 0 (.int 0))) (by decide) (by decide)
  refine ⟨by decide, _, _, hM0.1, rfl, ?_⟩
  refine Or.inl ⟨rfl, _, 1, 0, 0, _, Or.inl qi_12_324, ⟨rfl, rfl⟩, rfl, rfl, (by rw [eall]; exact M_within hg _ _ _), fun y16 h16 hy16 => ?_⟩
  obtain ⟨rfl, hh⟩ := hy16
  rw [hh]
  clear hh
  refine Or.inl ⟨rfl, _, 1, 0, 0, _, _, _, qi_12_247, ⟨rfl, rfl⟩, ⟨hM0.1, rfl⟩, rfl, rfl, M_mayU hg hM0 hR0 rfl _ 1 (by decide) 1 (by decide), fun y21 h21 hy21 => ?_⟩
  rcases hy21 with ⟨w21, rfl, hb⟩ | ⟨w21, rfl, hh⟩
  · refine ⟨fun c24 => absurd c24 (by decide), fun _ => ?_⟩
    refine ⟨.int, rfl, rfl, Nat.le_refl _, Nat.le_refl _, ?_⟩
    exact Or.inr ⟨1, 1, ⟨rfl, rfl, (by rw [w21]; decide)⟩, ⟨_, rfl⟩, mbad.l hk0 hb⟩
  · rw [hh]
    clear hh
    obtain ⟨b, hb', eb⟩ := wi_nat (m := 2 ^ S.2.1.2.2.2.1 - 1) (by have : (2 : Nat) ^ S.2.1.2.2.2.1 ≤ 2 ^ 10 := Nat.pow_le_pow_right (by decide) hn; omega) w21
    have hb : b < 2 ^ S.2.1.2.2.2.1 := by have := Nat.two_pow_pos S.2.1.2.2.2.1; omega
    have e37 := (show (upd x 0 0) 37 = nI S.2.2.2.2.2.1.2.2 from hR0.1.2.2.2.2.2.2.2.2.1)
    have hW := w21
    subst eb
    have loop : ∀ (m i : Nat), i + m = S.2.2.2.2.2.1.2.2 → (brt S.2.1.1 S.2.2.2.2.2.1.1 S.2.2.2.2.2.1.2.1 (nI b) m i) = (brt S.2.1.1 S.2.2.2.2.2.1.1 S.2.2.2.2.2.1.2.1 (nI b) S.2.2.2.2.2.1.2.2 0) → run 31 [(2, .int (nI i)), (0, .ref 63), (1, .int (nI b))] [] (h.1, qup h.2 63 (.inl (12, (M63l x y).set 0 (.int 0)))) 0 0 := by
        intro m
        induction m with
        | zero =>
          intro i hi hres
          refine step.1 _ _ _ _ _ _ _ sgX12_right_31_ok ?_
          refine ⟨by decide, _, _, hM0.1, rfl, ?_⟩
          refine ⟨fun c36 => ?_, fun c36 => absurd (show (upd x 0 0) 37 ≤ nI i from by rw [e37]; exact nI_le (by omega) (by omega)) c36⟩
          
          refine step.1 _ _ _ _ _ _ _ sgX12_right_54_ok ?_
          refine ⟨.int, rfl, rfl, Nat.le_refl _, Nat.le_refl _, ?_⟩
          exact Or.inl ⟨hW, by rw [← hres]; rfl, MG.of hM0 hk0 hR0 rfl⟩
        | succ m ih =>
          intro i hi hres
          refine step.1 _ _ _ _ _ _ _ sgX12_right_31_ok ?_
          refine ⟨by decide, _, _, hM0.1, rfl, ?_⟩
          refine ⟨fun c36 => absurd (show nI S.2.2.2.2.2.1.2.2 ≤ nI i from by rw [← e37]; exact c36) (h_nle (by omega) (by omega)), fun c36 => ?_⟩
          
          refine Or.inl ⟨rfl, _, 1, 0, 0, _, _, _, qi_12_490, ⟨rfl, rfl⟩, ⟨hM0.1, rfl⟩, rfl, rfl, M_isRight hg hM0 hR0 hn hb8 (l := i) (b := b) (by omega) hb, fun y42 h42 hy42 => ?_⟩
          obtain ⟨rfl, hh⟩ := hy42
          rw [hh]
          clear hh
          refine ⟨fun c45 => ?_, fun c45 => ?_⟩
          · have d45 : ¬ bbox S.2.1.1 10 0 (nI b &&& S.2.2.2.2.2.1.1 i) 0 = S.2.2.2.2.2.1.2.1 i := of_decide_eq_false (qb_0.mp c45)
            refine step.1 _ _ _ _ _ _ _ sgX12_right_54_ok ?_
            refine ⟨.int, rfl, rfl, Nat.le_refl _, Nat.le_refl _, ?_⟩
            exact Or.inl ⟨hW, by rw [← hres, brt, if_neg d45], MG.of hM0 hk0 hR0 rfl⟩
          · have d45 : bbox S.2.1.1 10 0 (nI b &&& S.2.2.2.2.2.1.1 i) 0 = S.2.2.2.2.2.1.2.1 i := of_decide_eq_true (qb_1.mp c45)
            have kk := ih (i + 1) (by omega) (by rw [← hres, brt, if_pos d45])
            rw [← nI_1] at kk
            exact kk
    refine ⟨fun _ => ?_, fun c24 => absurd c24 (by decide)⟩
    refine step.1 _ _ _ _ _ _ _ sgX12_right_29_ok ?_
    exact loop S.2.2.2.2.2.1.2.2 0 (by omega) rfl
end Q11R
