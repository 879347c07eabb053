section Q11X
/-- a sum over those that are told -/
def sm (V : Nat → Nat) (T : Nat → Bool) : Nat → Nat
  | 0 => 0
  | n + 1 => sm V T n + (if T n = true then V n else 0)
theorem sm_congr (V : Nat → Nat) {T T' : Nat → Bool} : ∀ n : Nat, (∀ d : Nat, d < n → T d = T' d) → sm V T n = sm V T' n := by
  intro n
  induction n with
  | zero => intro _; rfl
  | succ n ih =>
    intro h
    show sm V T n + _ = sm V T' n + _
    rw [ih (fun d hd => h d (by omega)), h n (by omega)]
theorem sm_add (V : Nat → Nat) {T : Nat → Bool} {b : Nat} (hb : T b = false) : ∀ n : Nat, sm V (fun d => T d || decide (d = b)) n = sm V T n + (if b < n then V b else 0) := by
  intro n
  induction n with
  | zero => rfl
  | succ n ih =>
    show sm V _ n + (if (T n || decide (n = b)) = true then V n else 0) = sm V T n + (if T n = true then V n else 0) + _
    rw [ih]
    by_cases c : n = b
    · subst c
      simp [hb]
    · have e : (b < n + 1) = (b < n) := propext ⟨fun h => by omega, fun h => by omega⟩
      simp only [decide_eq_false c, Bool.or_false, e]
      exact Nat.add_right_comm _ _ _
theorem sm_rem (V : Nat → Nat) {T : Nat → Bool} {b : Nat} (hb : T b = true) {n : Nat} (hn : b < n) : sm V (fun d => T d && !decide (d = b)) n + V b = sm V T n := by
  have h := sm_add V (T := fun d => T d && !decide (d = b)) (b := b) (by simp) n
  rw [if_pos hn] at h
  rw [← h]
  refine sm_congr V n (fun d _ => ?_)
  by_cases c : d = b
  · subst c; simp [hb]
  · simp [c]
theorem msk_sm (T : Nat → Bool) : ∀ n : Nat, msk T n = sm (fun d => 2 ^ d) T n := by
  intro n
  induction n with
  | zero => rfl
  | succ n ih =>
    show msk T n ||| _ = sm _ T n + _
    rw [← ih]
    by_cases c : T n = true
    · rw [if_pos c, Nat.or_comm, Nat.add_comm]
      have h := Nat.two_pow_add_eq_or_of_lt (msk_lt T n) 1
      rw [Nat.mul_one] at h
      exact h.symm
    · simp [c]
theorem msk_add {T : Nat → Bool} {b n : Nat} (hn : b < n) : msk (fun d => T d || decide (d = b)) n = 2 ^ b ||| msk T n := by
  apply Nat.eq_of_testBit_eq
  intro i
  rw [Nat.testBit_or, msk_bit, msk_bit, Nat.testBit_two_pow]
  by_cases c : i = b
  · subst c; simp [hn]
  · simp [c, fun e => c (Eq.symm e)]
    omega
/-- the first greatest -/
theorem tbest_p (W : Nat → Int64) : ∀ (m d b : Nat), b < d → (∀ j : Nat, j < d → W j ≤ W b ∧ (W j = W b → b ≤ j)) → tbest W m d b < d + m ∧ ∀ j : Nat, j < d + m → W j ≤ W (tbest W m d b) ∧ (W j = W (tbest W m d b) → tbest W m d b ≤ j) := by
  intro m
  induction m with
  | zero => intro d b hb h; exact ⟨by show b < d + 0; omega, fun j hj => h j (by omega)⟩
  | succ m ih =>
    intro d b hb h
    rw [show d + (m + 1) = d + 1 + m by omega]
    show tbest W m (d + 1) (if W b < W d then d else b) < _ ∧ _
    by_cases c : W b < W d
    · rw [tbest, if_pos c]
      refine ih (d + 1) d (by omega) (fun j hj => ?_)
      by_cases e : j = d
      · subst e; exact ⟨Int64.le_refl _, fun _ => Nat.le_refl _⟩
      · have hh := (h j (by omega)).1
        exact ⟨Int64.le_trans hh (Int64.le_of_lt c), fun e2 => absurd (Int64.lt_of_le_of_lt hh c) (by rw [e2]; exact Int64.lt_irrefl)⟩
    · rw [tbest, if_neg c]
      refine ih (d + 1) b (by omega) (fun j hj => ?_)
      by_cases e : j = d
      · subst e; exact ⟨Int64.not_lt.mp c, fun _ => by omega⟩
      · exact h j (by omega)
/-- the greedy choice is the best of all choices -/
theorem greedy (V : Nat → Nat) (hV : ∀ d : Nat, V d < 2 ^ 40) : ∀ (m : Nat) (A : Nat → Bool) (W : Nat → Int64) (b0 : Int32) (s0 : Int64), (∀ d : Nat, d < 10 → W d = if A d = true then Int64.ofNat (V d) else -1) → m ≤ sm (fun _ => 1) A 10 → ∃ T : Nat → Bool, (∀ d : Nat, T d = true → A d = true ∧ d < 10) ∧ sm (fun _ => 1) T 10 = m ∧ (∀ U : Nat → Bool, (∀ d : Nat, U d = true → A d = true ∧ d < 10) → sm (fun _ => 1) U 10 = m → sm V U 10 < sm V T 10 ∨ (sm V U 10 = sm V T 10 ∧ msk T 10 ≤ msk U 10)) ∧ (stakes m (W, b0, s0)).2.1 = b0 ||| nI (msk T 10) ∧ (stakes m (W, b0, s0)).2.2 = s0 + Int64.ofNat (sm V T 10) := by
  intro m
  have one : ∀ (A : Nat → Bool) (n : Nat), 0 < sm (fun _ => 1) A n → ∃ d : Nat, d < n ∧ A d = true := by
    intro A n
    induction n with
    | zero => intro h; exact absurd h (Nat.lt_irrefl 0)
    | succ n ih =>
      intro h
      by_cases c : A n = true
      · exact ⟨n, by omega, c⟩
      · have h : 0 < sm (fun _ => 1) A n + (if A n = true then 1 else 0) := h
        rw [if_neg c] at h
        obtain ⟨d, hd, ha⟩ := ih h
        exact ⟨d, by omega, ha⟩
  induction m with
  | zero =>
    intro A W b0 s0 _ _
    have z : ∀ (V : Nat → Nat) (n : Nat), sm V (fun _ => false) n = 0 := by
      intro V n
      induction n with
      | zero => rfl
      | succ n ih => show sm V (fun _ => false) n + 0 = 0; rw [ih]
    refine ⟨fun _ => false, fun d h => absurd h (show ¬ false = true by decide), z _ 10, fun U hU hc => ?_, ?_, ?_⟩
    · right
      have hn : ∀ d : Nat, d < 10 → U d = false := by
        intro d hd
        cases hu : U d with
        | false => rfl
        | true =>
          have := sm_rem (fun _ => 1) hu hd
          omega
      rw [sm_congr V 10 (T' := fun _ => false) hn, msk_sm, msk_sm, sm_congr _ 10 (T' := fun _ => false) hn]
      exact ⟨rfl, Nat.le_refl _⟩
    · rw [msk_sm, z]
      show b0 = b0 ||| 0
      rw [Int32.or_zero]
    · rw [z]
      show s0 = s0 + 0
      rw [Int64.add_zero]
  | succ m ih =>
    intro A W b0 s0 hW hm
    obtain ⟨hb10, hbest⟩ := tbest_p W 9 1 0 (by decide) (fun j hj => by rw [show j = 0 by omega]; exact ⟨Int64.le_refl _, fun _ => Nat.le_refl _⟩)
    have hb10 : tbest W 9 1 0 < 10 := hb10
    obtain ⟨b, hb⟩ : ∃ b : Nat, b = tbest W 9 1 0 := ⟨_, rfl⟩
    rw [← hb] at hb10 hbest
    have pos : ∀ d : Nat, (0 : Int64) ≤ Int64.ofNat (V d) := fun d => (Int64.ofNat_le_iff_le (a := 0) (b := V d) (by decide) (by have := hV d; omega)).mpr (Nat.zero_le _)
    have hAb : A b = true := by
      obtain ⟨d, hd, ha⟩ := one A 10 (by omega)
      have h1 := (hbest d (by omega)).1
      rw [hW d hd, if_pos ha, hW b hb10] at h1
      by_cases c : A b = true
      · exact c
      · rw [if_neg c] at h1
        exact absurd (Int64.le_trans (pos d) h1) (by decide)
    have hWb : W b = Int64.ofNat (V b) := by rw [hW b hb10, if_pos hAb]
    have hge : ∀ d : Nat, d < 10 → A d = true → V d < V b ∨ (V d = V b ∧ b ≤ d) := by
      intro d hd ha
      have h1 := hbest d (by omega)
      rw [hWb, hW d hd, if_pos ha] at h1
      have h2 := (Int64.ofNat_le_iff_le (by have := hV d; omega) (by have := hV b; omega)).mp h1.1
      rcases Nat.lt_or_ge (V d) (V b) with q | q
      · exact Or.inl q
      · have e : V d = V b := by omega
        exact Or.inr ⟨e, h1.2 (by rw [e])⟩
    have hst : stake (W, b0, s0) = (vp_updL W b (-1), b0 ||| (1 <<< (nI b &&& 31)), s0 + W b) := by
      unfold stake
      show (if 0 ≤ W (tbest W 9 1 0) then _ else _) = _
      rw [← hb, if_pos (by rw [hWb]; exact pos b)]
    have hA' : ∀ d : Nat, d < 10 → vp_updL W b (-1) d = if (A d && !decide (d = b)) = true then Int64.ofNat (V d) else -1 := by
      intro d hd
      unfold vp_updL
      by_cases c : d = b
      · rw [if_pos c, decide_eq_true c, Bool.not_true, Bool.and_false, if_neg (by decide)]
      · rw [if_neg c, decide_eq_false c, Bool.not_false, Bool.and_true, hW d hd]
    have hcnt := sm_rem (fun _ => 1) hAb hb10
    obtain ⟨T', hT1, hT2, hT3, hT4, hT5⟩ := ih (fun d => A d && !decide (d = b)) (vp_updL W b (-1)) (b0 ||| (1 <<< (nI b &&& 31))) (s0 + W b) hA' (by omega)
    have hT'b : T' b = false := by
      cases q : T' b with
      | false => rfl
      | true => have := (hT1 b q).1; simp at this
    refine ⟨fun d => T' d || decide (d = b), fun d hd => ?_, ?_, ?_, ?_, ?_⟩
    · simp only [Bool.or_eq_true, decide_eq_true_eq] at hd
      rcases hd with q | q
      · have := hT1 d q
        simp only [Bool.and_eq_true] at this
        exact ⟨this.1.1, this.2⟩
      · subst q; exact ⟨hAb, hb10⟩
    · rw [sm_add _ hT'b, if_pos hb10, hT2]
    · -- all other choices
      have main : ∀ U : Nat → Bool, U b = true → (∀ d : Nat, U d = true → A d = true ∧ d < 10) → sm (fun _ => 1) U 10 = m + 1 → sm V U 10 < sm V (fun d => T' d || decide (d = b)) 10 ∨ (sm V U 10 = sm V (fun d => T' d || decide (d = b)) 10 ∧ msk (fun d => T' d || decide (d = b)) 10 ≤ msk U 10) := by
        intro U hUb hU hc
        have r1 := sm_rem (fun _ => 1) hUb hb10
        have r2 := sm_rem V hUb hb10
        have r3 := sm_rem (fun d => 2 ^ d) hUb hb10
        have := hT3 (fun d => U d && !decide (d = b)) (fun d hd => by
          simp only [Bool.and_eq_true] at hd ⊢
          have := hU d hd.1
          exact ⟨⟨this.1, hd.2⟩, this.2⟩) (by omega)
        rw [msk_sm, msk_sm] at this
        rw [msk_sm, msk_sm, sm_add V hT'b, sm_add (fun d => 2 ^ d) hT'b, if_pos hb10, if_pos hb10]
        rcases this with q | ⟨q1, q2⟩
        · left; omega
        · right; exact ⟨by omega, by omega⟩
      intro U hU hc
      by_cases hUb : U b = true
      · exact main U hUb hU hc
      · have hUb : U b = false := by simpa using hUb
        obtain ⟨c, hc10, hUc⟩ := one U 10 (by omega)
        have hcb : c ≠ b := fun e => by rw [e, hUb] at hUc; cases hUc
        have r1 := sm_rem (fun _ => 1) hUc hc10
        have r2 := sm_rem V hUc hc10
        have r3 := sm_rem (fun d => 2 ^ d) hUc hc10
        have n0 : (fun d => U d && !decide (d = c)) b = false := by simp [hUb]
        have a1 := sm_add (fun _ => 1) (T := fun d => U d && !decide (d = c)) (b := b) n0 10
        have a2 := sm_add V (T := fun d => U d && !decide (d = c)) (b := b) n0 10
        have a3 := sm_add (fun d => 2 ^ d) (T := fun d => U d && !decide (d = c)) (b := b) n0 10
        rw [if_pos hb10] at a1 a2 a3
        have := main (fun d => U d && !decide (d = c) || decide (d = b)) (by simp) (fun d hd => by
          simp only [Bool.or_eq_true, Bool.and_eq_true, decide_eq_true_eq] at hd
          rcases hd with q | q
          · exact hU d q.1
          · rw [q]; exact ⟨hAb, hb10⟩) (by omega)
        rw [msk_sm, msk_sm] at this
        rw [msk_sm, msk_sm]
        rcases hge c hc10 (hU c hUc).1 with q | ⟨q1, q2⟩
        · left; rcases this with z | z <;> omega
        · have hlt : 2 ^ b < 2 ^ c := Nat.pow_lt_pow_right (by decide) (by omega)
          have r3 : _ + 2 ^ c = _ := r3
          have a3 : _ = _ + 2 ^ b := a3
          rcases this with z | z
          · left; omega
          · right; exact ⟨by omega, by omega⟩
    · show (stakes m (stake (W, b0, s0))).2.1 = _
      rw [hst, hT4, msk_add hb10, ← b_or, b_shl (by omega), Int32.or_assoc]
    · show (stakes m (stake (W, b0, s0))).2.2 = _
      rw [hst, hT5, sm_add V hT'b, if_pos hb10, hWb, Int64.ofNat_add, Int64.add_assoc, Int64.add_comm (Int64.ofNat (V b))]
end Q11X
