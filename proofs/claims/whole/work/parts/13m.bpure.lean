section Q13M
/-- the sum of the first ones -/
def sumN (f : Nat → Nat) : Nat → Nat
  | 0 => 0
  | n + 1 => sumN f n + f n
/-- the sum from d on -/
def sumR (f : Nat → Nat) (d : Nat) : Nat → Nat
  | 0 => 0
  | n + 1 => f d + sumR f (d + 1) n
theorem sumR_s (f : Nat → Nat) : ∀ (n d : Nat), sumR f d (n + 1) = sumR f d n + f (d + n) := by
  intro n
  induction n with
  | zero => intro d; show f d + 0 = 0 + f (d + 0); rw [Nat.add_zero, Nat.add_zero, Nat.zero_add]
  | succ n ih =>
    intro d
    show f d + sumR f (d + 1) (n + 1) = (f d + sumR f (d + 1) n) + f (d + (n + 1))
    rw [ih (d + 1), show d + 1 + n = d + (n + 1) by omega]
    omega
theorem sumN_R (f : Nat → Nat) (d : Nat) : ∀ n : Nat, sumN f (d + n) = sumN f d + sumR f d n := by
  intro n
  induction n with
  | zero => rfl
  | succ n ih =>
    show sumN f (d + n) + f (d + n) = _
    rw [ih, sumR_s]
    omega
theorem sumN_c {f g : Nat → Nat} : ∀ n : Nat, (∀ a : Nat, a < n → f a = g a) → sumN f n = sumN g n := by
  intro n
  induction n with
  | zero => intro _; rfl
  | succ n ih =>
    intro h
    show sumN f n + f n = sumN g n + g n
    rw [ih (fun a ha => h a (by omega)), h n (by omega)]
theorem sumR_c {f g : Nat → Nat} : ∀ n d : Nat, (∀ a : Nat, d ≤ a → a < d + n → f a = g a) → sumR f d n = sumR g d n := by
  intro n
  induction n with
  | zero => intro d _; rfl
  | succ n ih =>
    intro d h
    show f d + sumR f (d + 1) n = g d + sumR g (d + 1) n
    rw [ih (d + 1) (fun a h1 h2 => h a (by omega) (by omega)), h d (by omega) (by omega)]
theorem sumN_b {f : Nat → Nat} {B : Nat} : ∀ n : Nat, (∀ a : Nat, a < n → f a ≤ B) → sumN f n ≤ n * B := by
  intro n
  induction n with
  | zero => intro _; exact Nat.zero_le _
  | succ n ih =>
    intro h
    have h1 := ih (fun a ha => h a (by omega))
    have h2 := h n (by omega)
    show sumN f n + f n ≤ (n + 1) * B
    rw [Nat.succ_mul]
    omega
theorem mpf_ex {R : Nat → Option Nat} {A T : Nat → Nat} {b : Bool} {t : Nat} : ∀ (k v : Nat), mpf R A T b t k = some v → ∃ q u : Nat, q < k ∧ b = decide (0 < q) ∧ T q ≤ t ∧ R (t - T q) = some u ∧ v = A q + u := by
  intro k
  induction k with
  | zero => intro v e; cases e
  | succ k ih =>
    intro v e
    by_cases h : b = decide (0 < k) ∧ T k ≤ t
    · cases hr : R (t - T k) with
      | none =>
        rw [mpf_x h hr] at e
        obtain ⟨q, u, h1, h2⟩ := ih v e
        exact ⟨q, u, by omega, h2⟩
      | some u =>
        rw [mpf_s h hr] at e
        cases hp : mpf R A T b t k with
        | none =>
          rw [hp] at e
          cases e
          exact ⟨k, u, by omega, h.1, h.2, hr, rfl⟩
        | some w =>
          rw [hp] at e
          cases e
          rcases Nat.le_total w (A k + u) with z | z
          · rw [Nat.max_eq_right z]
            exact ⟨k, u, by omega, h.1, h.2, hr, rfl⟩
          · rw [Nat.max_eq_left z]
            obtain ⟨q, u2, h1, h2⟩ := ih w hp
            exact ⟨q, u2, by omega, h2⟩
    · rw [mpf_k h] at e
      obtain ⟨q, u, h1, h2⟩ := ih v e
      exact ⟨q, u, by omega, h2⟩
theorem omx_l {a : Nat} {p : Option Nat} : ∃ v : Nat, omx p (some a) = some v ∧ a ≤ v := by
  cases p with
  | none => exact ⟨a, rfl, Nat.le_refl _⟩
  | some w => exact ⟨max w a, rfl, Nat.le_max_right _ _⟩
theorem omx_r {a w : Nat} {p : Option Nat} (h : p = some w) : ∃ v : Nat, omx p (some a) = some v ∧ w ≤ v := by
  subst h
  exact ⟨max w a, rfl, Nat.le_max_left _ _⟩
theorem mpf_ub {R : Nat → Option Nat} {A T : Nat → Nat} {b : Bool} {t q u : Nat} (hb : b = decide (0 < q)) (ht : T q ≤ t) (hr : R (t - T q) = some u) : ∀ k : Nat, q < k → ∃ v : Nat, mpf R A T b t k = some v ∧ A q + u ≤ v := by
  intro k
  induction k with
  | zero => intro h; omega
  | succ k ih =>
    intro hq
    by_cases e : q = k
    · subst e
      rw [mpf_s ⟨hb, ht⟩ hr]
      exact omx_l
    · obtain ⟨w, h1, h2⟩ := ih (by omega)
      by_cases h : b = decide (0 < k) ∧ T k ≤ t
      · cases hr2 : R (t - T k) with
        | none =>
          rw [mpf_x h hr2]
          exact ⟨w, h1, h2⟩
        | some u2 =>
          rw [mpf_s h hr2]
          obtain ⟨v, h3, h4⟩ := omx_r (a := A k + u2) h1
          exact ⟨v, h3, by omega⟩
      · rw [mpf_k h]
        exact ⟨w, h1, h2⟩
/-- a plan that keeps to a set from a door on -/
def keepS (c : Nat → Nat) (s d n : Nat) : Prop := ∀ a : Nat, d ≤ a → a < d + n → c a < 19 ∧ s.testBit a = decide (0 < c a)
theorem mo_ex {A T : Nat → Nat → Nat} {s dc : Nat} : ∀ (f t v : Nat), f ≤ dc → mo A T s dc f t = some v → ∃ c : Nat → Nat, keepS c s (dc - f) f ∧ sumR (fun a => T a (c a)) (dc - f) f ≤ t ∧ sumR (fun a => A a (c a)) (dc - f) f = v := by
  intro f
  induction f with
  | zero =>
    intro t v _ e
    cases e
    exact ⟨fun _ => 0, fun a h1 h2 => by omega, Nat.zero_le _, rfl⟩
  | succ f ih =>
    intro t v hf e
    obtain ⟨q, u, h1, h2, h3, h4, h5⟩ := mpf_ex 19 v e
    obtain ⟨c, g1, g2, g3⟩ := ih (t - T (dc - (f + 1)) q) u (by omega) h4
    have ed : dc - f = dc - (f + 1) + 1 := by omega
    rw [ed] at g1 g2 g3
    have hc : ∀ h : Nat → Nat → Nat, sumR (fun a => h a (if a = dc - (f + 1) then q else c a)) (dc - (f + 1) + 1) f = sumR (fun a => h a (c a)) (dc - (f + 1) + 1) f := fun h => sumR_c f _ (fun a h1 h2 => by
      show h a (if a = dc - (f + 1) then q else c a) = h a (c a)
      rw [if_neg (by omega)])
    refine ⟨fun a => if a = dc - (f + 1) then q else c a, fun a ha hb => ?_, ?_, ?_⟩
    · show (if a = dc - (f + 1) then q else c a) < 19 ∧ s.testBit a = decide (0 < (if a = dc - (f + 1) then q else c a))
      by_cases z : a = dc - (f + 1)
      · rw [if_pos z, z]
        exact ⟨h1, h2⟩
      · rw [if_neg z]
        exact g1 a (by omega) (by omega)
    · show T (dc - (f + 1)) (if dc - (f + 1) = dc - (f + 1) then q else c (dc - (f + 1))) + sumR (fun a => T a (if a = dc - (f + 1) then q else c a)) (dc - (f + 1) + 1) f ≤ t
      rw [if_pos rfl, hc T]
      omega
    · show A (dc - (f + 1)) (if dc - (f + 1) = dc - (f + 1) then q else c (dc - (f + 1))) + sumR (fun a => A a (if a = dc - (f + 1) then q else c a)) (dc - (f + 1) + 1) f = v
      rw [if_pos rfl, hc A, g3]
      exact h5.symm
theorem mo_ub {A T : Nat → Nat → Nat} {s dc : Nat} {c : Nat → Nat} : ∀ (f t : Nat), f ≤ dc → keepS c s (dc - f) f → sumR (fun a => T a (c a)) (dc - f) f ≤ t → ∃ v : Nat, mo A T s dc f t = some v ∧ sumR (fun a => A a (c a)) (dc - f) f ≤ v := by
  intro f
  induction f with
  | zero => intro t _ _ _; exact ⟨0, rfl, Nat.le_refl _⟩
  | succ f ih =>
    intro t hf hk ht
    have ed : dc - f = dc - (f + 1) + 1 := by omega
    have ht2 : T (dc - (f + 1)) (c (dc - (f + 1))) + sumR (fun a => T a (c a)) (dc - (f + 1) + 1) f ≤ t := ht
    obtain ⟨u, h1, h2⟩ := ih (t - T (dc - (f + 1)) (c (dc - (f + 1)))) (by omega) (fun a ha hb => hk a (by omega) (by omega)) (by rw [ed]; omega)
    obtain ⟨k1, k2⟩ := hk (dc - (f + 1)) (Nat.le_refl _) (by omega)
    obtain ⟨v, h3, h4⟩ := mpf_ub (A := A (dc - (f + 1))) k2 (by omega) h1 19 k1
    rw [ed] at h2
    exact ⟨v, h3, Nat.le_trans (Nat.add_le_add_left h2 _) h4⟩
theorem wrun_c {X : Nat → Nat} {B B' : Nat → Bool} : ∀ n : Nat, (∀ a : Nat, a < n → B a = B' a) → wrun X B n = wrun X B' n := by
  intro n
  induction n with
  | zero => intro _; rfl
  | succ n ih =>
    intro h
    unfold wrun
    rw [ih (fun a ha => h a (by omega)), h n (by omega)]
section
variable (X : Nat → Nat) (A T : Nat → Nat → Nat) (dc st cl : Nat)
/-- the way of a set, of a plan -/
def wayS (s : Nat) : Nat := wayl st (wrun X (fun a => s.testBit a) dc)
def wayC (c : Nat → Nat) : Nat := wayl st (wrun X (fun a => decide (0 < c a)) dc)
/-- a plan that can be -/
def feas (c : Nat → Nat) : Prop := (∀ a : Nat, a < dc → c a < 19) ∧ sumN (fun a => T a (c a)) dc + wayC X dc st c ≤ cl
def valC (c : Nat → Nat) : Nat := sumN (fun a => A a (c a)) dc
/-- what the best one brings -/
def optV (V : Nat) : Prop := (∃ c : Nat → Nat, feas X T dc st cl c ∧ valC A dc c = V) ∧ ∀ c : Nat → Nat, feas X T dc st cl c → valC A dc c ≤ V
/-- the first of the best -/
def lexO (V : Nat) (c : Nat → Nat) : Prop := optV X A T dc st cl V ∧ feas X T dc st cl c ∧ valC A dc c = V ∧ ∀ (a : Nat) (c' : Nat → Nat), a < dc → feas X T dc st cl c' → valC A dc c' = V → (∀ b : Nat, b < a → c' b = c b) → c a ≤ c' a
def bvf : Nat → Option Nat
  | 0 => none
  | k + 1 => if wayS X dc st k ≤ cl then omx (bvf k) (mo A T k dc dc (cl - wayS X dc st k)) else bvf k
/-- a set by which a door's option is right -/
def gw (V d q bt got : Nat) (al : Nat → Bool) (s : Nat) : Prop := al s = true ∧ s.testBit d = decide (0 < q) ∧ wayS X dc st s + bt + T d q ≤ cl ∧ ∃ v : Nat, mo A T s dc (dc - (d + 1)) (cl - wayS X dc st s - bt - T d q) = some v ∧ got + A d q + v = V
end
section
variable {X : Nat → Nat} {A T : Nat → Nat → Nat} {dc st cl : Nat}
theorem lexO.uniq {V V' : Nat} {c c' : Nat → Nat} (h : lexO X A T dc st cl V c) (h' : lexO X A T dc st cl V' c') : V = V' ∧ ∀ a : Nat, a < dc → c a = c' a := by
  obtain ⟨o1, f1, v1, l1⟩ := h
  obtain ⟨o2, f2, v2, l2⟩ := h'
  have hV : V = V' := Nat.le_antisymm (by rw [← v1]; exact o2.2 c f1) (by rw [← v2]; exact o1.2 c' f2)
  refine ⟨hV, ?_⟩
  have key : ∀ n : Nat, n ≤ dc → ∀ a : Nat, a < n → c a = c' a := by
    intro n
    induction n with
    | zero => intro _ a ha; omega
    | succ n ih =>
      intro hn a ha
      by_cases e : a = n
      · subst e
        have h1 := l1 a c' (by omega) f2 (v2.trans hV.symm) (fun b hb => (ih (by omega) b hb).symm)
        have h2 := l2 a c (by omega) f1 (v1.trans hV) (fun b hb => ih (by omega) b hb)
        omega
      · exact ih (by omega) a (by omega)
  exact fun a ha => key dc (Nat.le_refl _) a ha
theorem wayC_c {c c' : Nat → Nat} (h : ∀ a : Nat, a < dc → c a = c' a) : wayC X dc st c = wayC X dc st c' := by
  unfold wayC
  rw [wrun_c dc (fun a ha => by show decide (0 < c a) = decide (0 < c' a); rw [h a ha])]
theorem wayS_C {s : Nat} {c : Nat → Nat} (h : ∀ a : Nat, a < dc → s.testBit a = decide (0 < c a)) : wayS X dc st s = wayC X dc st c := by
  unfold wayS wayC
  rw [wrun_c dc h]
theorem bvf_ex : ∀ (k v : Nat), bvf X A T dc st cl k = some v → ∃ s : Nat, s < k ∧ wayS X dc st s ≤ cl ∧ mo A T s dc dc (cl - wayS X dc st s) = some v := by
  intro k
  induction k with
  | zero => intro v e; cases e
  | succ k ih =>
    intro v e
    unfold bvf at e
    by_cases h : wayS X dc st k ≤ cl
    · rw [if_pos h] at e
      cases hm : mo A T k dc dc (cl - wayS X dc st k) with
      | none =>
        rw [hm, omx_n] at e
        obtain ⟨s, h1, h2⟩ := ih v e
        exact ⟨s, by omega, h2⟩
      | some u =>
        rw [hm] at e
        cases hp : bvf X A T dc st cl k with
        | none =>
          rw [hp] at e
          cases e
          exact ⟨k, by omega, h, hm⟩
        | some w =>
          rw [hp] at e
          cases e
          rcases Nat.le_total w u with z | z
          · rw [Nat.max_eq_right z]
            exact ⟨k, by omega, h, hm⟩
          · rw [Nat.max_eq_left z]
            obtain ⟨s, h1, h2⟩ := ih w hp
            exact ⟨s, by omega, h2⟩
    · rw [if_neg h] at e
      obtain ⟨s, h1, h2⟩ := ih v e
      exact ⟨s, by omega, h2⟩
theorem bvf_ub {s u : Nat} (hw : wayS X dc st s ≤ cl) (hm : mo A T s dc dc (cl - wayS X dc st s) = some u) : ∀ k : Nat, s < k → ∃ v : Nat, bvf X A T dc st cl k = some v ∧ u ≤ v := by
  intro k
  induction k with
  | zero => intro h; omega
  | succ k ih =>
    intro hk
    by_cases e : s = k
    · subst e
      unfold bvf
      rw [if_pos hw, hm]
      exact omx_l
    · obtain ⟨w, h1, h2⟩ := ih (by omega)
      unfold bvf
      by_cases h : wayS X dc st k ≤ cl
      · rw [if_pos h]
        cases hm2 : mo A T k dc dc (cl - wayS X dc st k) with
        | none => rw [omx_n]; exact ⟨w, h1, h2⟩
        | some u2 =>
          obtain ⟨v, h3, h4⟩ := omx_r (a := u2) h1
          exact ⟨v, h3, by omega⟩
      · rw [if_neg h]; exact ⟨w, h1, h2⟩
theorem set_of (c : Nat → Nat) : ∃ s : Nat, s < 2 ^ dc ∧ ∀ a : Nat, a < dc → s.testBit a = decide (0 < c a) := ⟨msk (fun a => decide (0 < c a)) dc, msk_lt _ dc, fun a ha => by rw [msk_bit, decide_eq_true ha]; rfl⟩
theorem wrun_0 {B : Nat → Bool} : ∀ n : Nat, (∀ a : Nat, a < n → B a = false) → wrun X B n = none := by
  intro n
  induction n with
  | zero => intro _; rfl
  | succ n ih =>
    intro h
    unfold wrun
    rw [h n (by omega), if_neg Bool.false_ne_true]
    exact ih (fun a ha => h a (by omega))
theorem sumN_0R (f : Nat → Nat) (n : Nat) : sumN f n = sumR f 0 n := by
  have h := sumN_R f 0 n
  rw [Nat.zero_add] at h
  rw [h]
  exact Nat.zero_add _
theorem bvf_feas {c : Nat → Nat} (h : feas X T dc st cl c) : ∃ v : Nat, bvf X A T dc st cl (2 ^ dc) = some v ∧ valC A dc c ≤ v := by
  obtain ⟨s, hs, hb⟩ := set_of (dc := dc) c
  have hw : wayS X dc st s = wayC X dc st c := wayS_C hb
  obtain ⟨h1, h2⟩ := h
  rw [sumN_0R] at h2
  obtain ⟨u, g1, g2⟩ := mo_ub (A := A) (T := T) (s := s) (dc := dc) (c := c) dc (cl - wayS X dc st s) (Nat.le_refl _) (fun a ha hb2 => ⟨h1 a (by omega), hb a (by omega)⟩) (by rw [Nat.sub_self]; omega)
  obtain ⟨v, g3, g4⟩ := bvf_ub (X := X) (st := st) (by omega) g1 (2 ^ dc) hs
  refine ⟨v, g3, ?_⟩
  rw [Nat.sub_self] at g2
  unfold valC
  rw [sumN_0R]
  omega
/-- the greatest value is the best plan's -/
theorem bvf_opt (hT0 : ∀ a : Nat, a < dc → T a 0 = 0) : ∃ V : Nat, bvf X A T dc st cl (2 ^ dc) = some V ∧ optV X A T dc st cl V := by
  have h0 : feas X T dc st cl (fun _ => 0) := by
    refine ⟨fun a _ => (by decide : 0 < 19), ?_⟩
    have e1 : wayC X dc st (fun _ => 0) = 0 := by
      unfold wayC
      rw [wrun_0 (B := fun a => decide (0 < (fun _ : Nat => 0) a)) dc (fun a _ => rfl)]
      rfl
    have e2 := sumN_b (f := fun a => T a 0) (B := 0) dc (fun a ha => by rw [hT0 a ha]; exact Nat.le_refl _)
    rw [e1]
    show sumN (fun a => T a 0) dc + 0 ≤ cl
    omega
  obtain ⟨V, hV, _⟩ := bvf_feas (A := A) h0
  refine ⟨V, hV, ?_, fun c hc => ?_⟩
  · obtain ⟨s, hs, hw, hm⟩ := bvf_ex _ V hV
    obtain ⟨c, g1, g2, g3⟩ := mo_ex dc _ V (Nat.le_refl _) hm
    rw [Nat.sub_self] at g1 g2 g3
    have hb : ∀ a : Nat, a < dc → s.testBit a = decide (0 < c a) := fun a ha => (g1 a (Nat.zero_le _) (by omega)).2
    refine ⟨c, ⟨fun a ha => (g1 a (Nat.zero_le _) (by omega)).1, ?_⟩, ?_⟩
    · rw [sumN_0R, ← wayS_C hb]
      omega
    · unfold valC
      rw [sumN_0R]
      exact g3
  · obtain ⟨v, h1, h2⟩ := bvf_feas (A := A) hc
    rw [hV] at h1
    cases h1
    exact h2
/-- out of a set and a value of the table, a plan -/
theorem gw_plan {ch : Nat → Nat} {d q s v : Nat} (hd : d < dc) (hq : q < 19) (hch : ∀ a : Nat, a < d → ch a < 19) (hb : ∀ a : Nat, a < d → s.testBit a = decide (0 < ch a)) (hbd : s.testBit d = decide (0 < q)) (hle : wayS X dc st s + sumN (fun a => T a (ch a)) d + T d q ≤ cl) (hm : mo A T s dc (dc - (d + 1)) (cl - wayS X dc st s - sumN (fun a => T a (ch a)) d - T d q) = some v) : ∃ c : Nat → Nat, feas X T dc st cl c ∧ valC A dc c = sumN (fun a => A a (ch a)) d + A d q + v ∧ (∀ a : Nat, a < d → c a = ch a) ∧ c d = q := by
  obtain ⟨c1, g1, g2, g3⟩ := mo_ex (dc - (d + 1)) _ v (by omega) hm
  have ed : dc - (dc - (d + 1)) = d + 1 := by omega
  rw [ed] at g1 g2 g3
  have hlo : ∀ a : Nat, a < d → (if a < d then ch a else if a = d then q else c1 a) = ch a := fun a ha => if_pos ha
  have hmi : (if d < d then ch d else if d = d then q else c1 d) = q := by rw [if_neg (by omega), if_pos rfl]
  have hhi : ∀ a : Nat, d + 1 ≤ a → (if a < d then ch a else if a = d then q else c1 a) = c1 a := fun a ha => by rw [if_neg (by omega), if_neg (by omega)]
  have hsum : ∀ f : Nat → Nat → Nat, sumN (fun a => f a (if a < d then ch a else if a = d then q else c1 a)) dc = sumN (fun a => f a (ch a)) d + f d q + sumR (fun a => f a (c1 a)) (d + 1) (dc - (d + 1)) := fun f => by
    have e1 : dc = d + 1 + (dc - (d + 1)) := by omega
    have e2 := sumN_R (fun a => f a (if a < d then ch a else if a = d then q else c1 a)) (d + 1) (dc - (d + 1))
    rw [← e1] at e2
    rw [e2, sumR_c (f := fun a => f a (if a < d then ch a else if a = d then q else c1 a)) (g := fun a => f a (c1 a)) (dc - (d + 1)) (d + 1) (fun a h1 h2 => by show f a (if a < d then ch a else if a = d then q else c1 a) = f a (c1 a); rw [hhi a h1])]
    show sumN (fun a => f a (if a < d then ch a else if a = d then q else c1 a)) d + f d (if d < d then ch d else if d = d then q else c1 d) + _ = _
    rw [hmi, sumN_c (f := fun a => f a (if a < d then ch a else if a = d then q else c1 a)) (g := fun a => f a (ch a)) d (fun a ha => by show f a (if a < d then ch a else if a = d then q else c1 a) = f a (ch a); rw [hlo a ha])]
  have hbits : ∀ a : Nat, a < dc → s.testBit a = decide (0 < (if a < d then ch a else if a = d then q else c1 a)) := fun a ha => by
    by_cases z : a < d
    · rw [hlo a z]; exact hb a z
    · by_cases z2 : a = d
      · subst z2; rw [hmi]; exact hbd
      · rw [hhi a (by omega)]; exact (g1 a (by omega) (by omega)).2
  refine ⟨fun a => if a < d then ch a else if a = d then q else c1 a, ⟨fun a ha => ?_, ?_⟩, ?_, hlo, hmi⟩
  · show (if a < d then ch a else if a = d then q else c1 a) < 19
    by_cases z : a < d
    · rw [hlo a z]; exact hch a z
    · by_cases z2 : a = d
      · subst z2; rw [hmi]; exact hq
      · rw [hhi a (by omega)]; exact (g1 a (by omega) (by omega)).1
  · have e1 := wayS_C (X := X) (st := st) (c := fun a => if a < d then ch a else if a = d then q else c1 a) hbits
    rw [← e1, hsum T]
    omega
  · unfold valC
    rw [hsum A, g3]
theorem gw_iff {V : Nat} (ho : optV X A T dc st cl V) {ch : Nat → Nat} {d q : Nat} (hd : d < dc) (hq : q < 19) (hch : ∀ a : Nat, a < d → ch a < 19) {al : Nat → Bool} (hal : ∀ s : Nat, s < 2 ^ dc → (al s = true ↔ wayS X dc st s ≤ cl ∧ ∀ a : Nat, a < d → s.testBit a = decide (0 < ch a))) : (∃ s : Nat, s < 2 ^ dc ∧ gw X A T dc st cl V d q (sumN (fun a => T a (ch a)) d) (sumN (fun a => A a (ch a)) d) al s) ↔ ∃ c : Nat → Nat, feas X T dc st cl c ∧ valC A dc c = V ∧ (∀ a : Nat, a < d → c a = ch a) ∧ c d = q := by
  constructor
  · rintro ⟨s, hs, h1, h2, h3, v, h4, h5⟩
    obtain ⟨c, g1, g2, g3⟩ := gw_plan hd hq hch ((hal s hs).mp h1).2 h2 h3 h4
    exact ⟨c, g1, g2.trans h5, g3⟩
  · rintro ⟨c, g1, g2, g3, g4⟩
    obtain ⟨s, hs, hb⟩ := set_of (dc := dc) c
    have hw : wayS X dc st s = wayC X dc st c := wayS_C hb
    have hsum : ∀ f : Nat → Nat → Nat, sumN (fun a => f a (c a)) dc = sumN (fun a => f a (ch a)) d + f d q + sumR (fun a => f a (c a)) (d + 1) (dc - (d + 1)) := fun f => by
      have e1 : dc = d + 1 + (dc - (d + 1)) := by omega
      have e2 := sumN_R (fun a => f a (c a)) (d + 1) (dc - (d + 1))
      rw [← e1] at e2
      rw [e2]
      show sumN (fun a => f a (c a)) d + f d (c d) + _ = _
      rw [g4, sumN_c (f := fun a => f a (c a)) (g := fun a => f a (ch a)) d (fun a ha => by show f a (c a) = f a (ch a); rw [g3 a ha])]
    have hT := g1.2
    rw [hsum T] at hT
    have hbch : ∀ a : Nat, a < d → s.testBit a = decide (0 < ch a) := fun a ha => by rw [← g3 a ha]; exact hb a (by omega)
    have hbd : s.testBit d = decide (0 < q) := by rw [← g4]; exact hb d hd
    have ed : dc - (dc - (d + 1)) = d + 1 := by omega
    obtain ⟨v, k1, k2⟩ := mo_ub (A := A) (T := T) (s := s) (dc := dc) (c := c) (dc - (d + 1)) (cl - wayS X dc st s - sumN (fun a => T a (ch a)) d - T d q) (by omega) (fun a ha hb2 => ⟨g1.1 a (by omega), hb a (by omega)⟩) (by rw [ed]; omega)
    rw [ed] at k2
    have hle : wayS X dc st s + sumN (fun a => T a (ch a)) d + T d q ≤ cl := by omega
    obtain ⟨c2, m1, m2, m3⟩ := gw_plan hd hq hch hbch hbd hle k1
    have hup := ho.2 c2 m1
    have hv := g2
    unfold valC at hv
    rw [hsum A] at hv
    exact ⟨s, hs, (hal s hs).mpr ⟨by omega, hbch⟩, hbd, hle, v, k1, by omega⟩
end
end Q13M
