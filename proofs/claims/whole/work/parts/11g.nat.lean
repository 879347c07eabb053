section Q11G
theorem vgift_b {R : RT} (hR : ROK R) {a : Nat} (ha : a < R.2.2.2.1) (K V : Nat → Int32) (N : Nat) (m z p : Int32) : ∃ q : Nat, q ≤ 999 ∧ vgift R.1 K V N m a z p = nI q := by
  unfold vgift
  by_cases c : N = 0
  · rw [if_pos c]
    obtain ⟨v, hv, e⟩ := hR.d ha (f := 1) (by decide)
    have hv : v ≤ 240 := hv
    exact ⟨v, by omega, e⟩
  · rw [if_neg c]
    generalize lworth K V (vnm R.1 m a z p 0 0 0) 0 N 0 (fun _ => 0) = w
    unfold vclamp
    by_cases c1 : 0 ≤ w
    · rw [if_pos c1]
      by_cases c2 : w ≤ 999
      · rw [if_pos c2]
        exact wi_nat (m := 999) (by decide) (by simp only [Bool.and_eq_true, decide_eq_true_eq]; exact ⟨c1, c2⟩)
      · rw [if_neg c2]; exact ⟨999, by omega, rfl⟩
    · rw [if_neg c1]; exact ⟨0, by omega, rfl⟩
/-- a run's numbers are natural ones, and small -/
def mvN (i : Nat) (s : vS) : Prop := ∃ W C P Q : Nat, W + C ≤ 2 ^ 28 ∧ P ≤ 999 * C ∧ Q ≤ 2 ^ 28 * (40 + 9 * i) ∧ s.1 = Int64.ofNat W ∧ s.2.2.1 = Int64.ofNat C ∧ s.2.2.2.1 = Int64.ofNat P ∧ s.2.2.2.2 = Int64.ofNat Q
theorem mvN_step {G : Int32 → Int32} {D : Nat → Int32} {ve : Int32} {x i : Nat} {s : vS} (b : Bool) (hG : ∀ z : Int32, ∃ q : Nat, q ≤ 999 ∧ G z = nI q) (hv : ∃ v : Nat, v ≤ 9 ∧ ve = nI v) (h4 : ∃ v : Nat, v ≤ 16 ∧ D (x * 10 + 4) = nI v) (h5 : ∃ v : Nat, v ≤ 16 ∧ D (x * 10 + 5) = nI v) (h : mvN i s) : mvN (i + 1) (vst G D ve x b s) := by
  obtain ⟨w, vs, c, p, mi⟩ := s
  obtain ⟨W, C, P, Q, h1, h2, h3, e1, e2, e3, e4⟩ := h
  simp only at e1 e2 e3 e4
  subst e1 e2 e3 e4
  have key : ∀ (o z g2 : Nat), o ≤ 16 → z ≤ 9 → g2 ≤ 999 → Int64.ofNat W / 16 * (16 - (nI o).toInt64) = Int64.ofNat (W / 16 * (16 - o)) ∧ Int64.ofNat W / 16 * (nI o).toInt64 = Int64.ofNat (W / 16 * o) ∧ (268435456 - Int64.ofNat C) * (nI z).toInt64 = Int64.ofNat ((268435456 - C) * z) ∧ (if Int64.ofNat (W / 16 * o) = 0 then 0 else Int64.ofNat (W / 16 * o) * (nI g2).toInt64) = Int64.ofNat (W / 16 * o * g2) ∧ W / 16 * (16 - o) + W / 16 * o ≤ W ∧ (268435456 - C) * z ≤ 2 ^ 28 * 9 ∧ W / 16 * o * g2 ≤ 999 * (W / 16 * o) := by
    intro o z g2 ho hz hg
    have e16 : Int64.ofNat W / 16 = Int64.ofNat (W / 16) := by rw [show (16 : Int64) = Int64.ofNat 16 from rfl, ← Int64.ofNat_div (by omega) (by decide)]
    rw [l_n (by omega), l_n (by omega), l_n (by omega)]
    refine ⟨?_, ?_, ?_, ?_, ?_, ?_, ?_⟩
    · rw [e16, show (16 : Int64) = Int64.ofNat 16 from rfl, ← Int64.ofNat_sub _ _ ho, ← Int64.ofNat_mul]
    · rw [e16, ← Int64.ofNat_mul]
    · rw [show (268435456 : Int64) = Int64.ofNat 268435456 from rfl, ← Int64.ofNat_sub _ _ (by omega), ← Int64.ofNat_mul]
    · by_cases q : Int64.ofNat (W / 16 * o) = 0
      · rw [if_pos q, Int64.ofNat_mul (W / 16 * o), q, Int64.zero_mul]
      · rw [if_neg q, ← Int64.ofNat_mul]
    · rw [← Nat.mul_add, show 16 - o + o = 16 by omega]; omega
    · have := Nat.mul_le_mul (show 268435456 - C ≤ 2 ^ 28 by omega) hz
      omega
    · rw [Nat.mul_comm]; exact Nat.mul_le_mul_right _ hg
  cases b with
  | true =>
    obtain ⟨o, ho, e5⟩ := h5
    obtain ⟨g2, hg2, eg⟩ := hG (vs + 0)
    obtain ⟨k1, k2, k3, k4, k5, k6, k7⟩ := key o 1 g2 ho (by decide) hg2
    refine ⟨W / 16 * (16 - o), C + W / 16 * o, P + W / 16 * o * g2, Q + (268435456 - C) * 1, by omega, by omega, by omega, ?_, ?_, ?_, ?_⟩
    · show Int64.ofNat W / 16 * (16 - (D (x * 10 + 5)).toInt64) = _
      rw [e5]; exact k1
    · show Int64.ofNat C + Int64.ofNat W / 16 * (D (x * 10 + 5)).toInt64 = _
      rw [e5, k2, ← Int64.ofNat_add]
    · show Int64.ofNat P + (if Int64.ofNat W / 16 * (D (x * 10 + 5)).toInt64 = 0 then 0 else Int64.ofNat W / 16 * (D (x * 10 + 5)).toInt64 * (G (vs + 0)).toInt64) = _
      rw [e5, k2, eg, k4, ← Int64.ofNat_add]
    · show Int64.ofNat Q + (268435456 - Int64.ofNat C) * ((1 : Int32)).toInt64 = _
      rw [show (1 : Int32) = nI 1 from rfl, k3, ← Int64.ofNat_add]
  | false =>
    obtain ⟨o, ho, e5⟩ := h4
    obtain ⟨g2, hg2, eg⟩ := hG (vs + 1)
    obtain ⟨z, hz, ez⟩ := hv
    obtain ⟨k1, k2, k3, k4, k5, k6, k7⟩ := key o z g2 ho hz hg2
    refine ⟨W / 16 * (16 - o), C + W / 16 * o, P + W / 16 * o * g2, Q + (268435456 - C) * z, by omega, by omega, by omega, ?_, ?_, ?_, ?_⟩
    · show Int64.ofNat W / 16 * (16 - (D (x * 10 + 4)).toInt64) = _
      rw [e5]; exact k1
    · show Int64.ofNat C + Int64.ofNat W / 16 * (D (x * 10 + 4)).toInt64 = _
      rw [e5, k2, ← Int64.ofNat_add]
    · show Int64.ofNat P + (if Int64.ofNat W / 16 * (D (x * 10 + 4)).toInt64 = 0 then 0 else Int64.ofNat W / 16 * (D (x * 10 + 4)).toInt64 * (G (vs + 1)).toInt64) = _
      rw [e5, k2, eg, k4, ← Int64.ofNat_add]
    · show Int64.ofNat Q + (268435456 - Int64.ofNat C) * ve.toInt64 = _
      rw [ez, k3, ← Int64.ofNat_add]
theorem mvN_run {G : Int32 → Int32} {D : Nat → Int32} {ve : Int32} {x r n : Nat} (hG : ∀ z : Int32, ∃ q : Nat, q ≤ 999 ∧ G z = nI q) (hv : ∃ v : Nat, v ≤ 9 ∧ ve = nI v) (h4 : ∃ v : Nat, v ≤ 16 ∧ D (x * 10 + 4) = nI v) (h5 : ∃ v : Nat, v ≤ 16 ∧ D (x * 10 + 5) = nI v) : ∀ (m i : Nat) (s : vS), mvN i s → mvN (i + m) (vrun G D ve x r n i m s) := by
  intro m
  induction m with
  | zero => intro i s h; exact h
  | succ m ih =>
    intro i s h
    have := ih (i + 1) _ (mvN_step (vrg r n i) hG hv h4 h5 h)
    rw [show i + (m + 1) = i + 1 + m by omega]
    exact this
theorem vm_nat {G : Int32 → Int32} {R : RT} (hR : ROK R) {a r n : Nat} (ha : a < R.2.2.2.1) (hn : n ≤ 5) (hG : ∀ z : Int32, ∃ q : Nat, q ≤ 999 ∧ G z = nI q) : ∃ C P T : Nat, C ≤ 2 ^ 28 ∧ P ≤ 999 * 2 ^ 28 ∧ T ≤ 124 * 2 ^ 28 ∧ (vmean G R.1 R.2.2.2.2.2.2.2.1 a r n).2.2.1 = Int64.ofNat C ∧ (vmean G R.1 R.2.2.2.2.2.2.2.1 a r n).2.2.2.1 = Int64.ofNat P ∧ (vmean G R.1 R.2.2.2.2.2.2.2.1 a r n).2.2.2.2 + (vmean G R.1 R.2.2.2.2.2.2.2.1 a r n).2.2.1 * (R.1 (a * 10 + 9)).toInt64 = Int64.ofNat T := by
  obtain ⟨v3, hv3, e3⟩ := hR.d ha (f := 3) (by decide)
  obtain ⟨v8, hv8, e8⟩ := hR.d ha (f := 8) (by decide)
  obtain ⟨v9, hv9, e9⟩ := hR.d ha (f := 9) (by decide)
  have h4 := hR.d ha (f := 4) (by decide)
  have h5 := hR.d ha (f := 5) (by decide)
  have hve : ∃ v : Nat, v ≤ 9 ∧ R.2.2.2.2.2.2.2.1 = nI v := by
    obtain ⟨v, h1, h2, h3⟩ := hR.2.2.2.2.1
    exact ⟨v, h2, h3⟩
  have hv3 : v3 ≤ 16 := hv3
  have hv8 : v8 ≤ 20 := hv8
  have hv9 : v9 ≤ 30 := hv9
  have h0 : mvN 0 (16777216 * (R.1 (a * 10 + 3)).toInt64, 0, 0, 0, 536870912 * (R.1 (a * 10 + 8)).toInt64) := by
    refine ⟨16777216 * v3, 0, 0, 536870912 * v8, by omega, by omega, by omega, ?_, rfl, rfl, ?_⟩
    · show 16777216 * (R.1 (a * 10 + 3)).toInt64 = _
      rw [e3, l_n (by omega), Int64.ofNat_mul]; rfl
    · show 536870912 * (R.1 (a * 10 + 8)).toInt64 = _
      rw [e8, l_n (by omega), Int64.ofNat_mul]; rfl
  have hst : (if r = 0 then n else n + 1) ≤ 6 := by split <;> omega
  obtain ⟨W, C, P, T, h1, h2, h3, -, f2, f3, f4⟩ := mvN_run (G := G) (r := r) (n := n) hG hve h4 h5 (if r = 0 then n else n + 1) 0 _ h0
  have hC9 : C * v9 ≤ 2 ^ 28 * 30 := Nat.mul_le_mul (by omega) hv9
  refine ⟨C, P, T + C * v9, by omega, by omega, by omega, f2, f3, ?_⟩
  show (vrun G R.1 R.2.2.2.2.2.2.2.1 a r n 0 (if r = 0 then n else n + 1) _).2.2.2.2 + (vrun G R.1 R.2.2.2.2.2.2.2.1 a r n 0 (if r = 0 then n else n + 1) _).2.2.1 * _ = _
  rw [f2, f4, e9, l_n (by omega), ← Int64.ofNat_mul, ← Int64.ofNat_add]
theorem lway_n {R : RT} (hR : ROK R) {pf vf rf : Nat → Nat} (hpn : ∀ i : Nat, i < R.2.2.2.2.1 → pf i < R.2.2.2.1) {l : Nat} (hl : l < R.2.2.2.2.1) : ∃ q : Nat, q ≤ 99 ∧ lwayv R.1 R.2.2.2.2.2.2.1 pf l = nI q := by
  obtain ⟨a, ha, ea⟩ := hR.d (hpn l hl) (f := 0) (by decide)
  have ha : a ≤ 99 := ha
  have hb : ∃ b : Nat, b ≤ 99 ∧ (if l = 0 then R.2.2.2.2.2.2.1 else R.1 (pf (l - 1) * 10 + 0)) = nI b := by
    by_cases c : l = 0
    · rw [if_pos c]; exact hR.2.2.2.1
    · rw [if_neg c]
      obtain ⟨b, hb, eb⟩ := hR.d (hpn (l - 1) (by omega)) (f := 0) (by decide)
      exact ⟨b, hb, eb⟩
  obtain ⟨b, hb, eb⟩ := hb
  unfold lwayv iapart
  rw [ea, eb]
  by_cases c : nI b < nI a
  · rw [if_pos c, pk_sub (Nat.le_of_lt ((nI_ltI (by omega) (by omega)).mp c))]
    exact ⟨a - b, by omega, rfl⟩
  · rw [if_neg c]
    have : a ≤ b := Nat.le_of_not_lt (fun z => c ((nI_ltI (by omega) (by omega)).mpr z))
    rw [pk_sub this]
    exact ⟨b - a, by omega, rfl⟩
/-- the plan's sums are natural numbers, and small -/
theorem tsum_n {R : RT} (hR : ROK R) {pf vf rf : Nat → Nat} (hP : isP R.2.1 R.2.2.2.2.1 pf vf rf) (hpn : ∀ i : Nat, i < R.2.2.2.2.1 → pf i < R.2.2.2.1) (K V : Nat → Int32) (N : Nat) (m : Int32) : ∀ (q i A B C T : Nat), i + q = R.2.2.2.2.1 → A + B + C + T ≤ i * 2000 * 2 ^ 28 → ∃ A' B' C' T' : Nat, A' + B' + C' + T' ≤ (i + q) * 2000 * 2 ^ 28 ∧ tsum R.1 K V N m R.2.2.2.2.2.2.1 R.2.2.2.2.2.2.2.1 pf vf rf i q (Int64.ofNat A, Int64.ofNat B, Int64.ofNat C, Int64.ofNat T) = (Int64.ofNat A', Int64.ofNat B', Int64.ofNat C', Int64.ofNat T') := by
  intro q
  induction q with
  | zero => intro i A B C T hi h; exact ⟨A, B, C, T, h, rfl⟩
  | succ q ih =>
    intro i A B C T hi h
    have hp := hpn i (by omega)
    obtain ⟨c1, p1, t1, b1, b2, b3, e1, e2, e3⟩ := vm_nat (G := fun z => vgift R.1 K V N m (pf i) z (nI i)) (r := rf i) hR hp ((hP i (by omega)).2.1.2) (fun z => vgift_b hR hp K V N m z (nI i))
    obtain ⟨j2, hj2, ej⟩ := hR.d hp (f := 2) (by decide)
    have hj2 : j2 ≤ 99 := hj2
    obtain ⟨w, hw, ew⟩ := lway_n hR hpn (vf := vf) (rf := rf) (l := i) (by omega)
    have hcj : c1 * j2 ≤ 2 ^ 28 * 99 := Nat.mul_le_mul b1 hj2
    have hww : 268435456 * w ≤ 268435456 * 99 := Nat.mul_le_mul_left _ hw
    have hz : (i + 1) * 2000 * 2 ^ 28 = i * 2000 * 2 ^ 28 + 2000 * 2 ^ 28 := by rw [Nat.add_mul, Nat.add_mul, Nat.one_mul]
    obtain ⟨A', B', C', T', h9, e9⟩ := ih (i + 1) (A + c1) (B + p1) (C + c1 * j2) (T + (t1 + 268435456 * w)) (by omega) (by omega)
    refine ⟨A', B', C', T', by rw [show i + (q + 1) = i + 1 + q by omega]; exact h9, ?_⟩
    rw [← e9]
    show tsum _ _ _ _ _ _ _ _ _ _ (i + 1) q (tadd _ _ _ _ _ _ _ _ _ _ i _) = _
    congr 1
    unfold tadd lmean
    simp only
    rw [e3, e1, e2, ej, ew, l_n (show j2 < 2 ^ 31 by omega), l_n (show w < 2 ^ 31 by omega), ← Int64.ofNat_mul, show (268435456 : Int64) = Int64.ofNat 268435456 from rfl, ← Int64.ofNat_mul]
    simp only [← Int64.ofNat_add]
end Q11G
