section Q14M
/-- an option is kept, or one ahead of it brings as much, or one as long behind it more -/
def cov (A T : Nat → Nat) (w z : Nat) (k : Nat → Nat) (q : Nat) : Prop := (∃ i : Nat, i < z ∧ k i = q) ∨ (∃ q' : Nat, q' < q ∧ A q ≤ A q') ∨ ∃ q' : Nat, q' ≤ w ∧ q < q' ∧ T q' = T q ∧ A q < A q'
/-- the list of a door, as far as its options up to w go -/
def dfc (A T : Nat → Nat) (x w z : Nat) (k : Nat → Nat) (VL : Nat → Int64) (LN CO : Nat → Int32) : Prop := (∀ i : Nat, i < z → 1 ≤ k i ∧ k i ≤ w ∧ VL (x * 18 + i) = Int64.ofNat (A (k i)) ∧ LN (x * 18 + i) = nI (T (k i)) ∧ CO (x * 18 + i) = bcode (k i)) ∧ (∀ i j : Nat, i < j → j < z → k i < k j) ∧ ∀ q : Nat, 1 ≤ q → q ≤ w → cov A T w z k q
def lI (A T : Nat → Nat) (x w : Nat) (s : lS) : Prop := ∃ (k : Nat → Nat) (m : Nat), s.2.1 ≤ w ∧ m ≤ 2 ^ 42 ∧ s.1 = Int64.ofNat m ∧ (∀ q : Nat, q ≤ w → A q ≤ m) ∧ (∃ q : Nat, q ≤ w ∧ A q = m) ∧ (0 < s.2.1 → A (k (s.2.1 - 1)) = m) ∧ dfc A T x w s.2.1 k s.2.2.1 s.2.2.2.1 s.2.2.2.2
def lfr (x : Nat) (s s' : lS) : Prop := ∀ y i : Nat, y ≠ x → i < 18 → s'.2.2.1 (y * 18 + i) = s.2.2.1 (y * 18 + i) ∧ s'.2.2.2.1 (y * 18 + i) = s.2.2.2.1 (y * 18 + i) ∧ s'.2.2.2.2 (y * 18 + i) = s.2.2.2.2 (y * 18 + i)
theorem vupL_s {f : Nat → Int64} {k : Nat} {v : Int64} : vp_updL f k v k = v := if_pos rfl
theorem vupL_n {f : Nat → Int64} {k j : Nat} {v : Int64} (h : j ≠ k) : vp_updL f k v j = f j := if_neg h
theorem bcode_s (w : Nat) : (nI (w / 3) * 10 + nI (w % 3) : Int32) = bcode (w + 1) := by
  show _ = if w + 1 = 0 then -1 else 10 * nI ((w + 1 - 1) / 3) + nI ((w + 1 - 1) % 3)
  rw [if_neg (by omega), Nat.add_sub_cancel, Int32.mul_comm]
section
variable {A T : Nat → Nat} {x : Nat}
theorem cov.up {w z : Nat} {k : Nat → Nat} {q : Nat} (h : cov A T w z k q) : cov A T (w + 1) z k q := by
  rcases h with h | h | ⟨q', h1, h2⟩
  · exact Or.inl h
  · exact Or.inr (Or.inl h)
  · exact Or.inr (Or.inr ⟨q', by omega, h2⟩)
theorem lI_step {w : Nat} {s : lS} (h : lI A T x w s) (hw : w < 18) {v : Int64} {len : Int32} (hv : v = Int64.ofNat (A (w + 1))) (hvb : A (w + 1) ≤ 2 ^ 42) (hl : len = nI (T (w + 1))) (hT : ∀ q : Nat, q ≤ 18 → T q ≤ 200) : lI A T x (w + 1) (lwst v len x w s) ∧ lfr x s (lwst v len x w s) := by
  obtain ⟨k, m, hz, hm, em, hub, ⟨q0, hq0, eq0⟩, hla, hk, hks, hcv⟩ := h
  unfold lwst
  by_cases c : v ≤ s.1
  · rw [if_pos c]
    rw [hv, em] at c
    have c := (n_le (by omega) (by omega)).mp c
    refine ⟨⟨k, m, by omega, hm, em, fun q hq => ?_, ⟨q0, by omega, eq0⟩, hla, fun i hi => ?_, hks, fun q h1 hq => ?_⟩, fun y i _ _ => ⟨rfl, rfl, rfl⟩⟩
    · by_cases e : q = w + 1
      · rw [e]; exact c
      · exact hub q (by omega)
    · obtain ⟨k1, k2, k3⟩ := hk i hi
      exact ⟨k1, by omega, k3⟩
    · by_cases e : q = w + 1
      · exact Or.inr (Or.inl ⟨q0, by omega, by rw [e, eq0]; exact c⟩)
      · exact (hcv q h1 (by omega)).up
  · rw [if_neg c]
    rw [hv, em] at c
    have c : m < A (w + 1) := Nat.not_le.mp fun q => c ((n_le (by omega) (by omega)).mpr q)
    -- where it goes
    have hzz : ∃ z : Nat, lz len x s = z ∧ z ≤ s.2.1 ∧ ((z = s.2.1) ∨ (z + 1 = s.2.1 ∧ T (k z) = T (w + 1) ∧ A (k z) = m)) := by
      unfold lz
      by_cases c1 : 0 < s.2.1
      · rw [if_pos c1]
        by_cases c2 : s.2.2.2.1 (x * 18 + s.2.1 - 1) = len
        · rw [if_pos c2]
          refine ⟨_, rfl, by omega, Or.inr ⟨by omega, ?_, hla c1⟩⟩
          obtain ⟨k1, k2, k3, k4, k5⟩ := hk (s.2.1 - 1) (by omega)
          rw [show x * 18 + s.2.1 - 1 = x * 18 + (s.2.1 - 1) by omega, k4, hl] at c2
          have h1 := hT (k (s.2.1 - 1)) (by omega)
          have h2 := hT (w + 1) (by omega)
          exact (nI_eq (by omega) (by omega)).mp c2
        · rw [if_neg c2]
          exact ⟨_, rfl, Nat.le_refl _, Or.inl rfl⟩
      · rw [if_neg c1]
        exact ⟨_, rfl, Nat.le_refl _, Or.inl rfl⟩
    obtain ⟨z, ez, hzs, hzc⟩ := hzz
    rw [ez]
    have hkz : psw k z (w + 1) z = w + 1 := psw_s
    have hkn : ∀ i : Nat, i ≠ z → psw k z (w + 1) i = k i := fun i hi => psw_n hi
    refine ⟨⟨psw k z (w + 1), A (w + 1), by show z + 1 ≤ w + 1; omega, hvb, hv, fun q hq => ?_, ⟨w + 1, Nat.le_refl _, rfl⟩, fun _ => ?_, fun i hi => ?_, fun i j hij hj => ?_, fun q h1 hq => ?_⟩, fun y i hy hi => ⟨vupL_n (by omega), upd_n (by omega), upd_n (by omega)⟩⟩
    · by_cases e : q = w + 1
      · rw [e]; exact Nat.le_refl _
      · have := hub q (by omega); omega
    · show A (psw k z (w + 1) (z + 1 - 1)) = _
      rw [Nat.add_sub_cancel, hkz]
    · have hi : i < z + 1 := hi
      show _ ∧ _ ∧ vp_updL s.2.2.1 (x * 18 + z) v (x * 18 + i) = _ ∧ upd s.2.2.2.1 (x * 18 + z) len (x * 18 + i) = _ ∧ upd s.2.2.2.2 (x * 18 + z) (nI (w / 3) * 10 + nI (w % 3)) (x * 18 + i) = _
      by_cases e : i = z
      · subst e
        rw [hkz, vupL_s, upd_s, upd_s]
        exact ⟨by omega, Nat.le_refl _, hv, hl, bcode_s w⟩
      · rw [hkn i e, vupL_n (by omega), upd_n (by omega), upd_n (by omega)]
        obtain ⟨k1, k2, k3⟩ := hk i (by omega)
        exact ⟨k1, by omega, k3⟩
    · have hj : j < z + 1 := hj
      rw [hkn i (by omega)]
      by_cases e : j = z
      · subst e
        rw [hkz]
        have := (hk i (by omega)).2.1
        omega
      · rw [hkn j e]
        exact hks i j hij (by omega)
    · show cov A T (w + 1) (z + 1) (psw k z (w + 1)) q
      by_cases e : q = w + 1
      · exact Or.inl ⟨z, by omega, by rw [hkz, e]⟩
      · rcases hcv q h1 (by omega) with ⟨i, hi, ei⟩ | h | ⟨q', g1, g2⟩
        · by_cases e2 : i < z
          · exact Or.inl ⟨i, by omega, by rw [hkn i (by omega)]; exact ei⟩
          · rcases hzc with h | ⟨h3, h4, h5⟩
            · omega
            · have e3 : i = z := by omega
              subst e3
              rw [ei] at h4 h5
              exact Or.inr (Or.inr ⟨w + 1, Nat.le_refl _, by omega, h4.symm, by omega⟩)
        · exact Or.inr (Or.inl h)
        · exact Or.inr (Or.inr ⟨q', by omega, g2⟩)
theorem lI_run {val : Nat → Int64} {len : Nat → Int32} (hv : ∀ w : Nat, w < 18 → val w = Int64.ofNat (A (w + 1)) ∧ A (w + 1) ≤ 2 ^ 42 ∧ len w = nI (T (w + 1))) (hT : ∀ q : Nat, q ≤ 18 → T q ≤ 200) : ∀ (m w : Nat) (s : lS), w + m = 18 → lI A T x w s → lI A T x 18 (lwrun val len x m w s) ∧ lfr x s (lwrun val len x m w s) := by
  intro m
  induction m with
  | zero =>
    intro w s hw h
    obtain rfl : w = 18 := by omega
    exact ⟨h, fun y i _ _ => ⟨rfl, rfl, rfl⟩⟩
  | succ m ih =>
    intro w s hw h
    obtain ⟨e1, e2, e3⟩ := hv w (by omega)
    obtain ⟨h1, h2⟩ := lI_step h (by omega) e1 e2 e3 hT
    obtain ⟨h3, h4⟩ := ih (w + 1) _ (by omega) h1
    refine ⟨h3, fun y i hy hi => ?_⟩
    obtain ⟨a1, a2, a3⟩ := h2 y i hy hi
    obtain ⟨b1, b2, b3⟩ := h4 y i hy hi
    exact ⟨b1.trans a1, b2.trans a2, b3.trans a3⟩
end
/-- the lists of the doors from m on -/
def kI (A T : Nat → Nat → Nat) (dc m : Nat) (s : kS) : Prop := ∃ (kq : Nat → Nat → Nat) (hn : Nat → Nat), hn dc = 0 ∧ (∀ y : Nat, m ≤ y → y ≤ dc → s.2.2.2.2 y = Int64.ofNat (hn y) ∧ hn y ≤ (dc - y) * 2 ^ 42) ∧ ∀ y : Nat, m ≤ y → y < dc → (∃ z : Nat, z ≤ 18 ∧ s.2.2.2.1 y = nI z ∧ dfc (A y) (T y) y 18 z (kq y) s.1 s.2.1 s.2.2.1) ∧ ∀ q : Nat, q ≤ 18 → hn (y + 1) + A y q ≤ hn y
theorem dfc.fr {A T : Nat → Nat} {x w z : Nat} {k : Nat → Nat} {VL VL' : Nat → Int64} {LN LN' CO CO' : Nat → Int32} (h : dfc A T x w z k VL LN CO) (hz : z ≤ 18) (hf : ∀ i : Nat, i < 18 → VL' (x * 18 + i) = VL (x * 18 + i) ∧ LN' (x * 18 + i) = LN (x * 18 + i) ∧ CO' (x * 18 + i) = CO (x * 18 + i)) : dfc A T x w z k VL' LN' CO' := by
  obtain ⟨h1, h2⟩ := h
  refine ⟨fun i hi => ?_, h2⟩
  obtain ⟨e1, e2, e3⟩ := hf i (by omega)
  rw [e1, e2, e3]
  exact h1 i hi
section
variable {A T : Nat → Nat → Nat} {dc : Nat} {val : Nat → Nat → Int64} {len : Nat → Nat → Int32}
theorem kI_step (hdc : dc ≤ 5) (hv : ∀ y w : Nat, y < dc → w < 18 → val y w = Int64.ofNat (A y (w + 1)) ∧ A y (w + 1) ≤ 2 ^ 42 ∧ len y w = nI (T y (w + 1))) (hT : ∀ y q : Nat, y < dc → q ≤ 18 → T y q ≤ 200) (hA0 : ∀ y : Nat, y < dc → A y 0 = 0) {m : Nat} (hm : m < dc) {s : kS} (h : kI A T dc (m + 1) s) : kI A T dc m (kstep val len m s) := by
  obtain ⟨kq, hn, h0, hh, hd⟩ := h
  have i0 : lI (A m) (T m) m 0 (0, 0, s.1, s.2.1, s.2.2.1) := by
    refine ⟨fun _ => 0, 0, Nat.le_refl _, Nat.zero_le _, rfl, fun q hq => ?_, ⟨0, Nat.le_refl _, hA0 m hm⟩, fun c => absurd c (Nat.lt_irrefl 0), fun i hi => absurd hi (Nat.not_lt_zero i), fun i j _ hj => absurd hj (Nat.not_lt_zero j), fun q h1 h2 => by omega⟩
    obtain rfl : q = 0 := by omega
    rw [hA0 m hm]
    exact Nat.le_refl _
  have hW : lI (A m) (T m) m 18 (klw val len m s) ∧ lfr m (0, 0, s.1, s.2.1, s.2.2.1) (klw val len m s) := lI_run (fun w hw => hv m w hm hw) (fun q hq => hT m q hm hq) 18 0 _ rfl i0
  show kI A T dc m (kput m (klw val len m s) s)
  generalize klw val len m s = W at hW ⊢
  obtain ⟨⟨k, mx, hz, hmx, emx, hub, -, -, hdf⟩, hfr⟩ := hW
  refine ⟨fun y => if y = m then k else kq y, fun y => if y = m then hn (m + 1) + mx else hn y, ?_, fun y h1 h2 => ?_, fun y h1 h2 => ?_⟩
  · show (if dc = m then _ else hn dc) = 0
    rw [if_neg (by omega)]
    exact h0
  · show vp_updL s.2.2.2.2 m (s.2.2.2.2 (m + 1) + W.1) y = Int64.ofNat (if y = m then _ else hn y) ∧ (if y = m then _ else hn y) ≤ _
    by_cases e : y = m
    · subst e
      obtain ⟨g1, g2⟩ := hh (y + 1) (Nat.le_refl _) hm
      rw [if_pos rfl, vupL_s, g1, show W.1 = Int64.ofNat mx from emx, ← Int64.ofNat_add]
      refine ⟨rfl, ?_⟩
      rw [show dc - y = (dc - (y + 1)) + 1 by omega, Nat.succ_mul]
      omega
    · rw [if_neg e, vupL_n e]
      exact hh y (by omega) h2
  · by_cases e : y = m
    · subst e
      refine ⟨⟨W.2.1, hz, upd_s, ?_⟩, fun q hq => ?_⟩
      · show dfc (A y) (T y) y 18 _ (if y = y then k else kq y) _ _ _
        rw [if_pos rfl]
        exact hdf
      · show (if y + 1 = y then _ else hn (y + 1)) + A y q ≤ if y = y then _ else hn y
        rw [if_neg (by omega), if_pos rfl]
        exact Nat.add_le_add_left (hub q hq) _
    · obtain ⟨⟨z, g1, g2, g3⟩, g4⟩ := hd y (by omega) h2
      refine ⟨⟨z, g1, (upd_n e).trans g2, ?_⟩, fun q hq => ?_⟩
      · show dfc (A y) (T y) y 18 _ (if y = m then k else kq y) _ _ _
        rw [if_neg e]
        exact g3.fr g1 (fun i hi => hfr y i e hi)
      · show (if y + 1 = m then _ else hn (y + 1)) + A y q ≤ if y = m then _ else hn y
        rw [if_neg (by omega), if_neg e]
        exact g4 q hq
theorem kI_run (hdc : dc ≤ 5) (hv : ∀ y w : Nat, y < dc → w < 18 → val y w = Int64.ofNat (A y (w + 1)) ∧ A y (w + 1) ≤ 2 ^ 42 ∧ len y w = nI (T y (w + 1))) (hT : ∀ y q : Nat, y < dc → q ≤ 18 → T y q ≤ 200) (hA0 : ∀ y : Nat, y < dc → A y 0 = 0) : ∀ (m : Nat) (s : kS), m ≤ dc → kI A T dc m s → kI A T dc 0 (krun val len m s)
  | 0, s, _, h => h
  | m + 1, s, hm, h => kI_run hdc hv hT hA0 m _ (by omega) (kI_step hdc hv hT hA0 (by omega) h)
end
theorem nT_mono {R : RT} (hR : ROK R) {a q q' : Nat} (ha : a < R.2.2.2.1) (h : q ≤ q') (h19 : q' < 19) : nT (slen R.1 R.2.2.2.2.2.2.2.1) a q ≤ nT (slen R.1 R.2.2.2.2.2.2.2.1) a q' := by
  unfold nT olen
  by_cases c : q = 0
  · rw [if_pos c]; exact Nat.zero_le _
  · rw [if_neg c, if_neg (by omega)]
    obtain ⟨v, d8, d9, h1, h2, h3, h4, e1, e2, e3, h5⟩ := slen_n hR ha (z := q - 1) (by omega)
    obtain ⟨v', d8', d9', h1', h2', h3', h4', e1', e2', e3', h5'⟩ := slen_n hR ha (z := q' - 1) (by omega)
    obtain rfl : v = v' := (nI_eq (by omega) (by omega)).mp (e1.symm.trans e1')
    obtain rfl : d8 = d8' := (nI_eq (by omega) (by omega)).mp (e2.symm.trans e2')
    obtain rfl : d9 = d9' := (nI_eq (by omega) (by omega)).mp (e3.symm.trans e3')
    have h6 : (q - 1) / 3 * v ≤ 5 * 9 := Nat.mul_le_mul (by omega) h2
    have h6' : (q' - 1) / 3 * v ≤ 5 * 9 := Nat.mul_le_mul (by omega) h2
    have h7 : ∀ z : Nat, (if z % 3 = 0 then 0 else 1) ≤ 1 := fun z => by split <;> omega
    have h7a := h7 (q - 1)
    have h7b := h7 (q' - 1)
    rw [h5, h5', h_tn (by omega), h_tn (by omega)]
    rcases Nat.lt_or_ge ((q - 1) / 3) ((q' - 1) / 3) with z | z
    · have h8 : ((q - 1) / 3 + 1) * v ≤ (q' - 1) / 3 * v := Nat.mul_le_mul_right _ z
      rw [Nat.succ_mul] at h8
      omega
    · have e : (q - 1) / 3 = (q' - 1) / 3 := by omega
      rw [e]
      have h9 : (if (q - 1) % 3 = 0 then 0 else 1) ≤ if (q' - 1) % 3 = 0 then 0 else 1 := by
        by_cases c1 : (q' - 1) % 3 = 0
        · rw [if_pos c1, if_pos (by omega)]
          exact Nat.le_refl _
        · rw [if_neg c1]
          exact h7a
      omega
/-- what the program's search finds -/
theorem bend_e {R : RT} (hR : ROK R) (h5 : R.2.2.2.1 ≤ 5) (K V : Nat → Int32) (N : Nat) (m : Int32) {w0 : Nat} (hw : w0 ≤ 9) {V0 : Nat} {ch : Nat → Nat} (hL : lexO (nX R.1) (nA (sval R.1 K V N m R.2.2.2.2.2.2.2.1 (nI w0))) (nT (slen R.1 R.2.2.2.2.2.2.2.1)) R.2.2.2.1 (R.2.2.2.2.2.2.1).toNatClampNeg (R.2.2.2.2.2.2.2.2).toNatClampNeg V0 ch) (s : kS) (FO CH : Nat → Int32) : fnd V0 (sumN (fun a => nT (slen R.1 R.2.2.2.2.2.2.2.1) a (ch a)) R.2.2.2.1 + wayC (nX R.1) R.2.2.2.1 (R.2.2.2.2.2.2.1).toNatClampNeg ch) R.2.2.2.1 ch (bend R.1 R.2.2.2.2.2.2.1 R.2.2.2.2.2.2.2.2 R.2.2.2.1 (kend R.1 K V N m R.2.2.2.2.2.2.2.1 (nI w0) R.2.2.2.1 s) FO CH) := by
  obtain ⟨st, hst, est⟩ := hR.2.2.2.1
  obtain ⟨cl, hcl, ecl⟩ := hR.2.2.2.2.2
  rw [est, ecl, h_tn (by omega), h_tn (by omega)] at hL
  rw [est, ecl, h_tn (by omega)]
  have hX : ∀ a : Nat, a < R.2.2.2.1 → nX R.1 a ≤ 99 := fun a ha => (nX_e hR ha).2
  have hA0 : ∀ a : Nat, a < R.2.2.2.1 → nA (sval R.1 K V N m R.2.2.2.2.2.2.2.1 (nI w0)) a 0 = 0 := fun a _ => rfl
  have hT0 : ∀ a : Nat, a < R.2.2.2.1 → nT (slen R.1 R.2.2.2.2.2.2.2.1) a 0 = 0 := fun a _ => rfl
  have hA : ∀ a q : Nat, a < R.2.2.2.1 → q < 19 → nA (sval R.1 K V N m R.2.2.2.2.2.2.2.1 (nI w0)) a q ≤ 2 ^ 42 := fun a q ha hq => (oval_n hR K V N m hw ha hq).2
  have hT : ∀ a q : Nat, a < R.2.2.2.1 → q < 19 → nT (slen R.1 R.2.2.2.2.2.2.2.1) a q ≤ 200 := fun a q ha hq => (olen_n hR ha hq).2
  have hk0 : kI (nA (sval R.1 K V N m R.2.2.2.2.2.2.2.1 (nI w0))) (nT (slen R.1 R.2.2.2.2.2.2.2.1)) R.2.2.2.1 R.2.2.2.1 (s.1, s.2.1, s.2.2.1, s.2.2.2.1, hzer R.2.2.2.1 s.2.2.2.2) := by
    refine ⟨fun _ _ => 0, fun _ => 0, rfl, fun y h1 h2 => ?_, fun y h1 h2 => by omega⟩
    obtain rfl : y = R.2.2.2.1 := by omega
    exact ⟨hzer_e h5, Nat.zero_le _⟩
  have hv : ∀ y w : Nat, y < R.2.2.2.1 → w < 18 → KV R.1 K V N m R.2.2.2.2.2.2.2.1 (nI w0) y w = Int64.ofNat (nA (sval R.1 K V N m R.2.2.2.2.2.2.2.1 (nI w0)) y (w + 1)) ∧ nA (sval R.1 K V N m R.2.2.2.2.2.2.2.1 (nI w0)) y (w + 1) ≤ 2 ^ 42 ∧ KL R.1 R.2.2.2.2.2.2.2.1 y w = nI (nT (slen R.1 R.2.2.2.2.2.2.2.1) y (w + 1)) := fun y w hy hw2 => ⟨(oval_n hR K V N m hw hy (q := w + 1) (by omega)).1, hA y _ hy (by omega), (olen_n hR hy (q := w + 1) (by omega)).1⟩
  obtain ⟨kq, hn, hn0, hhn, hdn⟩ := kI_run h5 hv (fun y q hy hq => hT y q hy (by omega)) hA0 R.2.2.2.1 _ (Nat.le_refl _) hk0
  have hsz : ∀ x : Nat, x < R.2.2.2.1 → dfc (nA (sval R.1 K V N m R.2.2.2.2.2.2.2.1 (nI w0)) x) (nT (slen R.1 R.2.2.2.2.2.2.2.1) x) x 18 ((kend R.1 K V N m R.2.2.2.2.2.2.2.1 (nI w0) R.2.2.2.1 s).2.2.2.1 x).toNatClampNeg (kq x) (kend R.1 K V N m R.2.2.2.2.2.2.2.1 (nI w0) R.2.2.2.1 s).1 (kend R.1 K V N m R.2.2.2.2.2.2.2.1 (nI w0) R.2.2.2.1 s).2.1 (kend R.1 K V N m R.2.2.2.2.2.2.2.1 (nI w0) R.2.2.2.1 s).2.2.1 := fun x hx => by
    obtain ⟨⟨z, hz, ez, hd⟩, -⟩ := hdn x (Nat.zero_le _) hx
    rw [show (kend R.1 K V N m R.2.2.2.2.2.2.2.1 (nI w0) R.2.2.2.1 s).2.2.2.1 x = nI z from ez, h_tn (by omega)]
    exact hd
  have hb := bt_main (X := nX R.1) (A := nA (sval R.1 K V N m R.2.2.2.2.2.2.2.1 (nI w0))) (T := nT (slen R.1 R.2.2.2.2.2.2.2.1)) (dc := R.2.2.2.1) (st := st) (cl := cl) (V := V0) (ch := ch) (VL := (kend R.1 K V N m R.2.2.2.2.2.2.2.1 (nI w0) R.2.2.2.1 s).1) (HO := (kend R.1 K V N m R.2.2.2.2.2.2.2.1 (nI w0) R.2.2.2.1 s).2.2.2.2) (LN := (kend R.1 K V N m R.2.2.2.2.2.2.2.1 (nI w0) R.2.2.2.1 s).2.1) (CO := (kend R.1 K V N m R.2.2.2.2.2.2.2.1 (nI w0) R.2.2.2.1 s).2.2.1) (XD := fun x => R.1 (x * 10 + 0)) (sz := fun x => ((kend R.1 K V N m R.2.2.2.2.2.2.2.1 (nI w0) R.2.2.2.1 s).2.2.2.1 x).toNatClampNeg) (hn := hn) (kq := kq) h5 hX hst hcl hA hT hA0 hT0
    (fun x i hx hi => by
      obtain ⟨k1, k2, k3⟩ := (hsz x hx).1 i hi
      exact ⟨k1, by omega, k3⟩)
    (fun x i j hx hij hj => (hsz x hx).2.1 i j hij hj)
    (fun x hx => by
      obtain ⟨g1, g2⟩ := hhn x (Nat.zero_le _) hx
      have g3 : (R.2.2.2.1 - x) * 2 ^ 42 ≤ 5 * 2 ^ 42 := Nat.mul_le_mul_right _ (by omega)
      exact ⟨g1, by omega⟩) hn0
    (fun x hx => (hdn x (Nat.zero_le _) hx).2 _ (by have := hL.2.1.1 x hx; omega))
    (fun x hx => by
      have h19 := hL.2.1.1 x hx
      by_cases c : ch x = 0
      · exact Or.inl c
      · refine Or.inr ?_
        rcases (hsz x hx).2.2 (ch x) (by omega) (by omega) with h | ⟨q', h1, h2⟩ | ⟨q', h1, h2, h3, h4⟩
        · exact h
        · exact (lexO_k1 hL hX hx h1 h2 (nT_mono hR hx (Nat.le_of_lt h1) h19)).elim
        · exact (lexO_k2 hL hX hx (by omega) (by omega) h4 h3).elim)
    hL (fun a ha => (nX_e hR ha).1) R.2.2.2.1 0 (Nat.zero_add _) (fun _ => 0) (-1, 0, FO, CH) (fun a ha => absurd ha (Nat.not_lt_zero a)) (fun a ha => absurd ha (Nat.not_lt_zero a))
  refine (hb.2.1 (fun a ha => absurd ha (Nat.not_lt_zero a)) ?_).1
  show (-1 : Int64) ≤ Int64.ofNat V0
  refine Int64.le_trans (show (-1 : Int64) ≤ Int64.ofNat 0 by decide) ((n_le (by omega) ?_).mpr (Nat.zero_le _))
  have := lexO_b hR K V N m hw h5 hL
  omega
end Q14M
