section Q11K
theorem vpow_z (b : Int64) : ∀ (m : Nat) (z : Int64), vpow b m z = z * vpow b m 1 := by
  intro m
  induction m with
  | zero => intro z; show z = z * 1; rw [Int64.mul_one]
  | succ m ih =>
    intro z
    show vpow b m (z * b) = z * vpow b m (1 * b)
    rw [ih (z * b), ih (1 * b), Int64.one_mul, Int64.mul_assoc]
theorem vpow_n (b : Nat) : ∀ (m z : Nat), vpow (Int64.ofNat b) m (Int64.ofNat z) = Int64.ofNat (z * b ^ m) := by
  intro m
  induction m with
  | zero => intro z; rw [Nat.pow_zero, Nat.mul_one]; rfl
  | succ m ih =>
    intro z
    show vpow _ m (Int64.ofNat z * Int64.ofNat b) = _
    rw [← Int64.ofNat_mul, ih, Nat.pow_succ, Nat.mul_assoc, Nat.mul_comm b]
/-- that somebody is out, and it looks so -/
def vout (D : Nat → Int32) (x : Nat) (s : Int32) (E : Nat) : Int64 := (16 - D (x * 10 + 3)).toInt64 * vseen (D (x * 10 + 7)) s * vpow 16 E 1
theorem vall_o (D : Nat → Int32) (x : Nat) (s : Int32) (E : Nat) : vall D x s E = vin D x s E + vout D x s E := rfl
theorem vseen_n {a s : Nat} (ha : a ≤ 16) (hs : s ≤ 2) : ∃ q : Nat, q ≤ 16 ∧ vseen (nI a) (nI s) = Int64.ofNat q := by
  rcases (show s = 0 ∨ s = 1 ∨ s = 2 by omega) with rfl | rfl | rfl
  · refine ⟨16 - a, by omega, ?_⟩
    show (nI 16 - nI a).toInt64 = _
    rw [pk_sub ha, l_n (by omega)]
  · exact ⟨a, ha, l_n (by omega)⟩
  · exact ⟨16, by omega, rfl⟩
theorem vin_n {R : RT} (hR : ROK R) {a s E : Nat} (ha : a < R.2.2.2.1) (hs : s ≤ 2) (hE : E ≤ 10) : ∃ I O : Nat, I ≤ 2 ^ 48 ∧ O ≤ 2 ^ 48 ∧ vin R.1 a (nI s) E = Int64.ofNat I ∧ vout R.1 a (nI s) E = Int64.ofNat O := by
  obtain ⟨v3, h3, e3⟩ := hR.d ha (f := 3) (by decide)
  obtain ⟨v4, h4, e4⟩ := hR.d ha (f := 4) (by decide)
  obtain ⟨v6, h6, e6⟩ := hR.d ha (f := 6) (by decide)
  obtain ⟨v7, h7, e7⟩ := hR.d ha (f := 7) (by decide)
  have h3 : v3 ≤ 16 := h3
  have h4 : v4 ≤ 16 := h4
  obtain ⟨q6, g6, f6⟩ := vseen_n (a := v6) (s := s) h6 hs
  obtain ⟨q7, g7, f7⟩ := vseen_n (a := v7) (s := s) h7 hs
  have hp1 : (16 - v4) ^ E ≤ 16 ^ 10 := Nat.le_trans (Nat.pow_le_pow_left (by omega) E) (Nat.pow_le_pow_right (by decide) hE)
  have hp2 : 16 ^ E ≤ 16 ^ 10 := Nat.pow_le_pow_right (by decide) hE
  refine ⟨v3 * q6 * (1 * (16 - v4) ^ E), (16 - v3) * q7 * (1 * 16 ^ E), ?_, ?_, ?_, ?_⟩
  · have := Nat.mul_le_mul (Nat.mul_le_mul h3 g6) (show 1 * (16 - v4) ^ E ≤ 16 ^ 10 by omega)
    exact Nat.le_trans this (by decide)
  · have := Nat.mul_le_mul (Nat.mul_le_mul (show 16 - v3 ≤ 16 by omega) g7) (show 1 * 16 ^ E ≤ 16 ^ 10 by omega)
    exact Nat.le_trans this (by decide)
  · unfold vin
    rw [e3, e4, e6, f6, show (16 - nI v4 : Int32) = nI (16 - v4) from pk_sub (a := 16) h4, l_n (by omega), l_n (by omega), show (1 : Int64) = Int64.ofNat 1 from rfl, vpow_n, ← Int64.ofNat_mul, ← Int64.ofNat_mul]
  · unfold vout
    rw [e3, e7, f7, show (16 - nI v3 : Int32) = nI (16 - v3) from pk_sub (a := 16) h3, l_n (by omega), show (16 : Int64) = Int64.ofNat 16 from rfl, show (1 : Int64) = Int64.ofNat 1 from rfl, vpow_n, ← Int64.ofNat_mul, ← Int64.ofNat_mul]
set_option maxHeartbeats 1000000 in
theorem M_weigh0 {g : qG} (hg : qOK g) {h : qH} {x : Nat → Int32} {y : Nat → Int64} {F : Nat → Nat → Int32} {G : Nat → Nat → Int64} (hM : MX h x y F G) {S : CS} (hR : Rel S x F) {d v : Nat} (hd : d < S.2.1.2.2.2.1) (hn : S.2.1.2.2.2.1 ≤ 10) (hv : v ≤ 11) (se : Int32) : qSpec g 1 0 0 mX12_weigh [.ref 63, .int (nI d), .int se, .int (nI v)] h (fun r h' => r = none ∧ ∃ y' : Nat → Int64, MX h' x y' F G ∧ y' 51 = vpow (16 - S.2.1.1 (d * 10 + 4)).toInt64 v ((S.2.1.1 (d * 10 + 3)).toInt64 * vseen (S.2.1.1 (d * 10 + 6)) se) ∧ y' 52 = vpow 16 v ((16 - S.2.1.1 (d * 10 + 3)).toInt64 * vseen (S.2.1.1 (d * 10 + 7)) se) ∧ (∀ k : Nat, k ∉ [51, 52] → y' k = y k) ∧ kp h h') := by
  refine qSpec_run 12 "weigh" false hg mX12_weigh_ok rfl rfl (Nat.le_of_ble_eq_true rfl) (by decide) ?_
  intro run step
  have i3 : vp_in (10 * nI d + 3 : Int32) 100 := by rw [show (10 * nI d + 3 : Int32) = nI (d * 10 + 3) from ixk (k := 10) (w := 3)]; exact vp_in_nI (by omega) (by decide)
  have e3 : F 67 (10 * nI d + 3 : Int32).toNatClampNeg = S.2.1.1 (d * 10 + 3) := by rw [show (10 * nI d + 3 : Int32) = nI (d * 10 + 3) from ixk (k := 10) (w := 3), h_tn (n := d * 10 + 3) (by omega)]; exact hR.2.2.1.1 _ (by omega)
  have i4 : vp_in (10 * nI d + 4 : Int32) 100 := by rw [show (10 * nI d + 4 : Int32) = nI (d * 10 + 4) from ixk (k := 10) (w := 4)]; exact vp_in_nI (by omega) (by decide)
  have e4 : F 67 (10 * nI d + 4 : Int32).toNatClampNeg = S.2.1.1 (d * 10 + 4) := by rw [show (10 * nI d + 4 : Int32) = nI (d * 10 + 4) from ixk (k := 10) (w := 4), h_tn (n := d * 10 + 4) (by omega)]; exact hR.2.2.1.1 _ (by omega)
  have i6 : vp_in (10 * nI d + 6 : Int32) 100 := by rw [show (10 * nI d + 6 : Int32) = nI (d * 10 + 6) from ixk (k := 10) (w := 6)]; exact vp_in_nI (by omega) (by decide)
  have e6 : F 67 (10 * nI d + 6 : Int32).toNatClampNeg = S.2.1.1 (d * 10 + 6) := by rw [show (10 * nI d + 6 : Int32) = nI (d * 10 + 6) from ixk (k := 10) (w := 6), h_tn (n := d * 10 + 6) (by omega)]; exact hR.2.2.1.1 _ (by omega)
  have i7 : vp_in (10 * nI d + 7 : Int32) 100 := by rw [show (10 * nI d + 7 : Int32) = nI (d * 10 + 7) from ixk (k := 10) (w := 7)]; exact vp_in_nI (by omega) (by decide)
  have e7 : F 67 (10 * nI d + 7 : Int32).toNatClampNeg = S.2.1.1 (d * 10 + 7) := by rw [show (10 * nI d + 7 : Int32) = nI (d * 10 + 7) from ixk (k := 10) (w := 7), h_tn (n := d * 10 + 7) (by omega)]; exact hR.2.2.1.1 _ (by omega)
  have loop : ∀ (m i : Nat) (a b : Int64) (hX : qH) (yX : Nat → Int64), i + m = v → MX hX x yX F G → yX 51 = a → yX 52 = b → (∀ k : Nat, k ∉ [51, 52] → yX k = y k) → kp h hX → vpow (16 - S.2.1.1 (d * 10 + 4)).toInt64 m a = vpow (16 - S.2.1.1 (d * 10 + 4)).toInt64 v ((S.2.1.1 (d * 10 + 3)).toInt64 * vseen (S.2.1.1 (d * 10 + 6)) se) → vpow 16 m b = vpow 16 v ((16 - S.2.1.1 (d * 10 + 3)).toInt64 * vseen (S.2.1.1 (d * 10 + 7)) se) → run 116 [(7, .int (nI i)), (4, .int (10 * nI d)), (0, .ref 63), (1, .int (nI d)), (2, .int se), (3, .int (nI v))] [] hX 0 0 := by
    intro m
    induction m with
    | zero =>
      intro i a b hX yX hi hMX h51 h52 hyX hkX r1 r2
      refine step.1 _ _ _ _ _ _ _ sgX12_weigh_116_ok ?_
      refine ⟨fun c119 => ?_, fun c119 => absurd (show nI v ≤ nI i from nI_le (by omega) (by omega)) c119⟩
      
      refine step.1 _ _ _ _ _ _ _ sgX12_weigh_162_ok ?_
      refine ⟨rfl, Nat.le_refl _, Nat.le_refl _, ?_⟩
      exact ⟨rfl, yX, hMX, by rw [h51, ← r1]; rfl, by rw [h52, ← r2]; rfl, hyX, hkX⟩
    | succ m ih =>
      intro i a b hX yX hi hMX h51 h52 hyX hkX r1 r2
      refine step.1 _ _ _ _ _ _ _ sgX12_weigh_116_ok ?_
      refine ⟨fun c119 => absurd c119 (h_nle (by omega) (by omega)), fun c119 => ?_⟩
      
      refine ⟨rfl, ?_⟩
      refine ⟨by decide, _, _, hMX.1, rfl, ?_⟩
      refine ⟨by decide, _, _, hMX.1, rfl, ?_⟩
      refine ⟨_, _, hMX.c67, i4, ?_⟩
      refine ⟨_, hMX.1, Nat.le_of_ble_eq_true rfl, rfl, ?_⟩
      refine ⟨rfl, ?_⟩
      refine ⟨by decide, _, _, rfl, rfl, ?_⟩
      refine ⟨_, rfl, Nat.le_of_ble_eq_true rfl, rfl, ?_⟩
      have kk := fun hZ => ih (i + 1) (a * (16 - S.2.1.1 (d * 10 + 4)).toInt64) (b * 16) hZ (updL (updL yX 51 (yX 51 * (16 - F 67 (10 * nI d + 4 : Int32).toNatClampNeg).toInt64)) 52 (yX 52 * 16)) (by omega)
      rw [← nI_1] at kk
      refine kk _ (hMX.e63 rfl (fun j hj => by simp only [qup, if_neg hj]) (sL_52 (sL_51 rfl))) ?_ ?_ ?_ ((hkX.u (by decide) (by decide)).u (by decide) (by decide)) r1 r2
      · show yX 51 * _ = _
        rw [e4, h51]
      · show yX 52 * _ = _
        rw [h52]
      · intro k hk
        have hk2 := hk
        simp at hk2
        exact (updL_n hk2.2).trans ((updL_n hk2.1).trans (hyX k hk))
  have at108 : ∀ (A : Int64) (z : Int32), A = ((S.2.1.1 (d * 10 + 3)).toInt64 * vseen (S.2.1.1 (d * 10 + 6)) se) → z.toInt64 = vseen (S.2.1.1 (d * 10 + 7)) se → run 108 [(6, .int (F 67 (10 * nI d + 7 : Int32).toNatClampNeg)), (5, .int (F 67 (10 * nI d + 6 : Int32).toNatClampNeg)), (4, .int (10 * nI d)), (0, .ref 63), (1, .int (nI d)), (2, .int se), (3, .int (nI v))] [.int z, .long (16 - F 67 (10 * nI d + 3 : Int32).toNatClampNeg).toInt64, .ref 63] (h.1, qup h.2 63 (.inl (12, (M63l x y).set 51 (.long A)))) 0 0 := by
    intro A z hA hz
    refine step.1 _ _ _ _ _ _ _ sgX12_weigh_108_ok ?_
    refine ⟨_, rfl, Nat.le_of_ble_eq_true rfl, rfl, ?_⟩
    refine step.2 _ _ _ _ _ _ _ (qsub_cons 0 rfl (qsub_cons 3 rfl (qsub_cons 4 rfl (qsub_cons 5 rfl (qsub_cons 6 rfl (qsub_cons 7 rfl qsub_nil)))))) ?_
    refine loop v 0 ((S.2.1.1 (d * 10 + 3)).toInt64 * vseen (S.2.1.1 (d * 10 + 6)) se) ((16 - S.2.1.1 (d * 10 + 3)).toInt64 * vseen (S.2.1.1 (d * 10 + 7)) se) _ (updL (updL y 51 A) 52 ((16 - F 67 (10 * nI d + 3 : Int32).toNatClampNeg).toInt64 * z.toInt64)) (by omega) (hM.e63 rfl (fun j hj => by simp only [qup, if_neg hj]) (sL_52 (sL_51 rfl))) hA ?_ (fun k hk => ?_) ((kp.rf.u (by decide) (by decide)).u (by decide) (by decide)) rfl rfl
    · show _ * z.toInt64 = _
      rw [e3, hz]
    · simp at hk
      rw [updL_n hk.2, updL_n hk.1]
  have at65 : ∀ z : Int32, z.toInt64 = vseen (S.2.1.1 (d * 10 + 6)) se → run 65 [(6, .int (F 67 (10 * nI d + 7 : Int32).toNatClampNeg)), (5, .int (F 67 (10 * nI d + 6 : Int32).toNatClampNeg)), (4, .int (10 * nI d)), (0, .ref 63), (1, .int (nI d)), (2, .int se), (3, .int (nI v))] [.int z, .long (F 67 (10 * nI d + 3 : Int32).toNatClampNeg).toInt64, .ref 63] h 0 0 := by
    intro z hz
    refine step.1 _ _ _ _ _ _ _ sgX12_weigh_65_ok ?_
    refine ⟨_, hM.1, Nat.le_of_ble_eq_true rfl, rfl, ?_⟩
    have hA : (F 67 (10 * nI d + 3 : Int32).toNatClampNeg).toInt64 * z.toInt64 = ((S.2.1.1 (d * 10 + 3)).toInt64 * vseen (S.2.1.1 (d * 10 + 6)) se) := by rw [e3, hz]
    refine ⟨by decide, _, _, rfl, rfl, ?_⟩
    refine ⟨_, _, hM.c67, i3, ?_⟩
    refine ⟨fun c85 => ?_, fun c85 => ?_⟩
    · have d1 : ¬ se = 0 := c85
      refine step.1 _ _ _ _ _ _ _ sgX12_weigh_96_ok ?_
      refine ⟨fun c98 => ?_, fun c98 => ?_⟩
      · have d2 : ¬ se = 1 := c98
        refine step.1 _ _ _ _ _ _ _ sgX12_weigh_106_ok ?_
        exact at108 _ _ hA (by unfold vseen; rw [if_neg d1, if_neg d2]; rfl)
      · have d2 : se = 1 := c98
        exact at108 _ _ hA (by unfold vseen; rw [if_neg d1, if_pos d2, ← e7])
    · have d1 : se = 0 := c85
      exact at108 _ _ hA (by unfold vseen; rw [if_pos d1, ← e7])
  refine step.1 _ _ _ _ _ _ _ sgX12_weigh_0_ok ?_
  refine ⟨by decide, _, _, hM.1, rfl, ?_⟩
  refine ⟨_, _, hM.c67, i6, ?_⟩
  refine ⟨by decide, _, _, hM.1, rfl, ?_⟩
  refine ⟨_, _, hM.c67, i7, ?_⟩
  refine ⟨by decide, _, _, hM.1, rfl, ?_⟩
  refine ⟨_, _, hM.c67, i3, ?_⟩
  refine ⟨fun c42 => ?_, fun c42 => ?_⟩
  · have d1 : ¬ se = 0 := c42
    refine step.1 _ _ _ _ _ _ _ sgX12_weigh_53_ok ?_
    refine ⟨fun c55 => ?_, fun c55 => ?_⟩
    · have d2 : ¬ se = 1 := c55
      refine step.1 _ _ _ _ _ _ _ sgX12_weigh_63_ok ?_
      exact at65 _ (by unfold vseen; rw [if_neg d1, if_neg d2]; rfl)
    · have d2 : se = 1 := c55
      exact at65 _ (by unfold vseen; rw [if_neg d1, if_pos d2, ← e6])
  · have d1 : se = 0 := c42
    exact at65 _ (by unfold vseen; rw [if_pos d1, ← e6])
theorem M_weigh {g : qG} (hg : qOK g) {h : qH} {x : Nat → Int32} {y : Nat → Int64} {F : Nat → Nat → Int32} {G : Nat → Nat → Int64} (hM : MX h x y F G) {S : CS} (hR : Rel S x F) {d v : Nat} (hd : d < S.2.1.2.2.2.1) (hn : S.2.1.2.2.2.1 ≤ 10) (hv : v ≤ 11) (se : Int32) : qSpec g 1 0 0 mX12_weigh [.ref 63, .int (nI d), .int se, .int (nI v)] h (fun r h' => r = none ∧ ∃ y' : Nat → Int64, MX h' x y' F G ∧ y' 51 = vin S.2.1.1 d se v ∧ y' 52 = vout S.2.1.1 d se v ∧ (∀ k : Nat, k ∉ [51, 52] → y' k = y k) ∧ kp h h') := by
  refine qSpec_mono (M_weigh0 hg hM hR hd hn hv se) (fun r h' hy => ?_)
  obtain ⟨h1, y', h2, h3, h4, h5, h6⟩ := hy
  exact ⟨h1, y', h2, by rw [h3, vpow_z]; rfl, by rw [h4, vpow_z]; rfl, h5, h6⟩
end Q11K
