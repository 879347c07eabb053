section Q11Y
/-- the doors of the first lines -/
def avl (p : Nat → Nat) : Nat → Nat → Bool
  | 0, _ => false
  | k + 1, d => avl p k d || decide (d = p k)
/-- what a door's line brings -/
def vl (p J : Nat → Nat) : Nat → Nat → Nat
  | 0, _ => 0
  | k + 1, d => if d = p k then J k else vl p J k d
/-- the doors of those lines that a set holds -/
def tl2 (p : Nat → Nat) (S : Nat) : Nat → Nat → Bool
  | 0, _ => false
  | k + 1, d => tl2 p S k d || (S.testBit k && decide (d = p k))
theorem avl_e (p : Nat → Nat) (d : Nat) : ∀ k : Nat, avl p k d = true ↔ ∃ l : Nat, l < k ∧ p l = d := by
  intro k
  induction k with
  | zero =>
    constructor
    · intro h; cases h
    · rintro ⟨l, hl, -⟩; omega
  | succ k ih =>
    show (avl p k d || decide (d = p k)) = true ↔ _
    rw [Bool.or_eq_true, ih, decide_eq_true_eq]
    constructor
    · rintro (⟨l, hl, e⟩ | e)
      · exact ⟨l, by omega, e⟩
      · exact ⟨k, by omega, e.symm⟩
    · rintro ⟨l, hl, e⟩
      by_cases c : l = k
      · subst c; exact Or.inr e.symm
      · exact Or.inl ⟨l, by omega, e⟩
theorem tl2_e (p : Nat → Nat) (S d : Nat) : ∀ k : Nat, tl2 p S k d = true ↔ ∃ l : Nat, l < k ∧ S.testBit l = true ∧ p l = d := by
  intro k
  induction k with
  | zero =>
    constructor
    · intro h; cases h
    · rintro ⟨l, hl, -⟩; omega
  | succ k ih =>
    show (tl2 p S k d || (S.testBit k && decide (d = p k))) = true ↔ _
    rw [Bool.or_eq_true, ih, Bool.and_eq_true, decide_eq_true_eq]
    constructor
    · rintro (⟨l, hl, e⟩ | ⟨e1, e⟩)
      · exact ⟨l, by omega, e⟩
      · exact ⟨k, by omega, e1, e.symm⟩
    · rintro ⟨l, hl, e1, e⟩
      by_cases c : l = k
      · subst c; exact Or.inr ⟨e1, e.symm⟩
      · exact Or.inl ⟨l, by omega, e1, e⟩
theorem vl_e {p J : Nat → Nat} : ∀ (k : Nat), (∀ i j : Nat, i < k → j < k → p i = p j → i = j) → ∀ l : Nat, l < k → vl p J k (p l) = J l := by
  intro k
  induction k with
  | zero => intro _ l hl; omega
  | succ k ih =>
    intro hi l hl
    unfold vl
    by_cases c : l = k
    · subst c; rw [if_pos rfl]
    · rw [if_neg (fun e => c (hi l k (by omega) (by omega) e))]
      exact ih (fun i j h1 h2 => hi i j (by omega) (by omega)) l (by omega)
theorem vl_b {p J : Nat → Nat} {B : Nat} (hB : 0 < B) : ∀ (k : Nat), (∀ l : Nat, l < k → J l < B) → ∀ d : Nat, vl p J k d < B := by
  intro k
  induction k with
  | zero => intro _ d; exact hB
  | succ k ih =>
    intro h d
    unfold vl
    split
    · exact h k (by omega)
    · exact ih (fun l hl => h l (by omega)) d
/-- a line's doors, one by one: bits, sum, how many -/
theorem tl2_s {p : Nat → Nat} {S i : Nat} (V : Nat → Nat) (hp : p i < 10) (hn : ∀ l : Nat, l < i → p l ≠ p i) : sm V (tl2 p S (i + 1)) 10 = sm V (tl2 p S i) 10 + (if S.testBit i = true then V (p i) else 0) ∧ msk (tl2 p S (i + 1)) 10 = msk (tl2 p S i) 10 ||| (if S.testBit i = true then 2 ^ p i else 0) := by
  have hf : tl2 p S i (p i) = false := by
    cases q : tl2 p S i (p i) with
    | false => rfl
    | true =>
      obtain ⟨l, hl, -, e⟩ := (tl2_e p S (p i) i).mp q
      exact absurd e (hn l hl)
  by_cases c : S.testBit i = true
  · have e : tl2 p S (i + 1) = fun d => tl2 p S i d || decide (d = p i) := by
      funext d
      show (tl2 p S i d || (S.testBit i && decide (d = p i))) = _
      rw [c, Bool.true_and]
    rw [e, if_pos c, if_pos c, sm_add V hf, if_pos hp, msk_add hp, Nat.or_comm]
    exact ⟨rfl, rfl⟩
  · have e : tl2 p S (i + 1) = tl2 p S i := by
      funext d
      show (tl2 p S i d || (S.testBit i && decide (d = p i))) = _
      rw [show S.testBit i = false by simpa using c, Bool.false_and, Bool.or_false]
    rw [e, if_neg c, if_neg c, Nat.or_zero, Nat.add_zero]
    exact ⟨rfl, rfl⟩
theorem tl2_c {p : Nat → Nat} {S : Nat} : ∀ k : Nat, (∀ l : Nat, l < k → p l < 10) → (∀ i j : Nat, i < k → j < k → p i = p j → i = j) → sm (fun _ => 1) (tl2 p S k) 10 = sm (fun _ => 1) (fun l => S.testBit l) k := by
  intro k
  induction k with
  | zero =>
    intro _ _
    have z : ∀ n : Nat, sm (fun _ => 1) (tl2 p S 0) n = 0 := by
      intro n
      induction n with
      | zero => rfl
      | succ n ih => show sm (fun _ => 1) (tl2 p S 0) n + 0 = 0; rw [ih]
    rw [z]; rfl
  | succ k ih =>
    intro h1 h2
    rw [(tl2_s (fun _ => 1) (h1 k (by omega)) (fun l hl e => absurd (h2 l k (by omega) (by omega) e) (by omega))).1, ih (fun l hl => h1 l (by omega)) (fun i j hi hj => h2 i j (by omega) (by omega))]
    rfl
theorem avl_c {p : Nat → Nat} : ∀ k : Nat, (∀ l : Nat, l < k → p l < 10) → (∀ i j : Nat, i < k → j < k → p i = p j → i = j) → sm (fun _ => 1) (avl p k) 10 = k := by
  intro k
  induction k with
  | zero =>
    intro _ _
    have z : ∀ n : Nat, sm (fun _ => 1) (avl p 0) n = 0 := by
      intro n
      induction n with
      | zero => rfl
      | succ n ih => show sm (fun _ => 1) (avl p 0) n + 0 = 0; rw [ih]
    exact z 10
  | succ k ih =>
    intro h1 h2
    have hf : avl p k (p k) = false := by
      cases q : avl p k (p k) with
      | false => rfl
      | true =>
        obtain ⟨l, hl, e⟩ := (avl_e p (p k) k).mp q
        exact absurd (h2 l k (by omega) (by omega) e) (by omega)
    show sm (fun _ => 1) (fun d => avl p k d || decide (d = p k)) 10 = k + 1
    rw [sm_add _ hf, if_pos (h1 k (by omega)), ih (fun l hl => h1 l (by omega)) (fun i j hi hj => h2 i j (by omega) (by omega))]
/-- the model's search through all sets of lines -/
def scand (p V : Nat → Nat) (k S : Nat) : Nat × Nat := (msk (tl2 p S k) 10, sm V (tl2 p S k) 10)
def sones (k S : Nat) : Nat := sm (fun _ => 1) (fun l => S.testBit l) k
def sstep (p V : Nat → Nat) (k many S : Nat) (st : Option (Nat × Nat)) : Option (Nat × Nat) := if sones k S = many then (match st with
  | none => some (scand p V k S)
  | some c => if (scand p V k S).2 < c.2 ∨ ((scand p V k S).2 = c.2 ∧ c.1 < (scand p V k S).1) then some c else some (scand p V k S)) else st
def sfold (p V : Nat → Nat) (k many : Nat) : Nat → Nat → Option (Nat × Nat) → Option (Nat × Nat)
  | 0, _, st => st
  | m + 1, i, st => sfold p V k many m (i + 1) (sstep p V k many i st)
def sinv (p V : Nat → Nat) (k many i : Nat) (st : Option (Nat × Nat)) : Prop := (st = none ∧ ∀ j : Nat, j < i → ¬ sones k j = many) ∨ ∃ j : Nat, j < i ∧ sones k j = many ∧ st = some (scand p V k j) ∧ ∀ q : Nat, q < i → sones k q = many → (scand p V k q).2 < (scand p V k j).2 ∨ ((scand p V k q).2 = (scand p V k j).2 ∧ (scand p V k j).1 ≤ (scand p V k q).1)
theorem sinv_s {p V : Nat → Nat} {k many i : Nat} {st : Option (Nat × Nat)} (h : sinv p V k many i st) : sinv p V k many (i + 1) (sstep p V k many i st) := by
  unfold sstep
  by_cases c : sones k i = many
  · rw [if_pos c]
    rcases h with ⟨rfl, h⟩ | ⟨j, hj, hm, rfl, h⟩
    · right
      refine ⟨i, by omega, c, rfl, fun q hq hqm => ?_⟩
      by_cases e : q = i
      · subst e; exact Or.inr ⟨rfl, Nat.le_refl _⟩
      · exact absurd hqm (h q (by omega))
    · show sinv p V k many (i + 1) (if (scand p V k i).2 < (scand p V k j).2 ∨ ((scand p V k i).2 = (scand p V k j).2 ∧ (scand p V k j).1 < (scand p V k i).1) then some (scand p V k j) else some (scand p V k i))
      by_cases c2 : (scand p V k i).2 < (scand p V k j).2 ∨ ((scand p V k i).2 = (scand p V k j).2 ∧ (scand p V k j).1 < (scand p V k i).1)
      · rw [if_pos c2]
        right
        refine ⟨j, by omega, hm, rfl, fun q hq hqm => ?_⟩
        by_cases e : q = i
        · subst e; rcases c2 with z | ⟨z1, z2⟩
          · exact Or.inl z
          · exact Or.inr ⟨z1, by omega⟩
        · exact h q (by omega) hqm
      · rw [if_neg c2]
        right
        refine ⟨i, by omega, c, rfl, fun q hq hqm => ?_⟩
        by_cases e : q = i
        · subst e; exact Or.inr ⟨rfl, Nat.le_refl _⟩
        · have := h q (by omega) hqm
          have c2 := not_or.mp c2
          omega
  · rw [if_neg c]
    rcases h with ⟨rfl, h⟩ | ⟨j, hj, hm, rfl, h⟩
    · left
      refine ⟨rfl, fun q hq => ?_⟩
      by_cases e : q = i
      · subst e; exact c
      · exact h q (by omega)
    · right
      refine ⟨j, by omega, hm, rfl, fun q hq hqm => ?_⟩
      by_cases e : q = i
      · subst e; exact absurd hqm c
      · exact h q (by omega) hqm
theorem sinv_f {p V : Nat → Nat} {k many : Nat} : ∀ (m i : Nat) (st : Option (Nat × Nat)), sinv p V k many i st → sinv p V k many (i + m) (sfold p V k many m i st) := by
  intro m
  induction m with
  | zero => intro i st h; exact h
  | succ m ih =>
    intro i st h
    have := ih (i + 1) _ (sinv_s h)
    rw [show i + (m + 1) = i + 1 + m by omega]
    exact this
/-- both find the same -/
theorem solo_e {p J : Nat → Nat} {k many : Nat} (hk : k ≤ 10) (hp : ∀ l : Nat, l < k → p l < 10) (hi : ∀ i j : Nat, i < k → j < k → p i = p j → i = j) (hJ : ∀ l : Nat, l < k → J l < 2 ^ 40) (hm : many ≤ k) {W : Nat → Int64} (hW : ∀ d : Nat, d < 10 → W d = if avl p k d = true then Int64.ofNat (vl p J k d) else -1) : ∃ b s : Nat, sfold p (vl p J k) k many (2 ^ k) 0 none = some (b, s) ∧ b < 2 ^ 10 ∧ s < 2 ^ 50 ∧ (stakes many (W, 0, 0)).2.1 = nI b ∧ (stakes many (W, 0, 0)).2.2 = Int64.ofNat s := by
  have hVb := vl_b (p := p) (J := J) (B := 2 ^ 40) (by decide) k hJ
  obtain ⟨T, hT1, hT2, hT3, hT4, hT5⟩ := greedy (vl p J k) hVb many (avl p k) W 0 0 hW (by rw [avl_c k hp hi]; exact hm)
  -- the set of lines of the greedy choice
  have htl : ∀ d : Nat, tl2 p (msk (fun l => T (p l)) k) k d = T d := by
    intro d
    rw [Bool.eq_iff_iff, tl2_e]
    constructor
    · rintro ⟨l, hl, h1, h2⟩
      rw [msk_bit, Bool.and_eq_true] at h1
      rw [← h2]; exact h1.2
    · intro h
      obtain ⟨l, hl, e⟩ := (avl_e p d k).mp (hT1 d h).1
      refine ⟨l, hl, ?_, e⟩
      rw [msk_bit, decide_eq_true hl, Bool.true_and]
      show T (p l) = true
      rw [e]; exact h
  have htl2 : tl2 p (msk (fun l => T (p l)) k) k = T := funext htl
  have hon : sones k (msk (fun l => T (p l)) k) = many := by
    unfold sones
    rw [← tl2_c k hp hi, htl2, hT2]
  have hU : ∀ S : Nat, ∀ d : Nat, tl2 p S k d = true → avl p k d = true ∧ d < 10 := by
    intro S d h
    obtain ⟨l, hl, -, e⟩ := (tl2_e p S d k).mp h
    exact ⟨(avl_e p d k).mpr ⟨l, hl, e⟩, by rw [← e]; exact hp l hl⟩
  have hs : ∀ n : Nat, n ≤ 10 → sm (vl p J k) T n ≤ n * 2 ^ 40 := by
    intro n
    induction n with
    | zero => intro _; exact Nat.zero_le _
    | succ n ih =>
      intro hn
      have := ih (by omega)
      have h2 := hVb n
      show sm (vl p J k) T n + (if T n = true then vl p J k n else 0) ≤ (n + 1) * 2 ^ 40
      have h3 : (if T n = true then vl p J k n else 0) ≤ 2 ^ 40 := by
        by_cases c : T n = true
        · rw [if_pos c]; exact Nat.le_of_lt h2
        · rw [if_neg c]; exact Nat.zero_le _
      rw [Nat.succ_mul]
      exact Nat.add_le_add this h3
  have fin := sinv_f (2 ^ k) 0 none (p := p) (V := vl p J k) (k := k) (many := many) (Or.inl ⟨rfl, fun j hj => absurd hj (Nat.not_lt_zero j)⟩)
  rw [Nat.zero_add] at fin
  have hlt := msk_lt (fun l => T (p l)) k
  rcases fin with ⟨-, h⟩ | ⟨j, hj, hjm, e, h⟩
  · exact absurd hon (h _ hlt)
  · have h1 := h _ hlt hon
    have h2 := hT3 (tl2 p j k) (hU j) (by rw [tl2_c k hp hi]; exact hjm)
    unfold scand at h1 e
    rw [htl2] at h1
    have e1 : sm (vl p J k) (tl2 p j k) 10 = sm (vl p J k) T 10 := by
      have h1 : sm (vl p J k) T 10 < sm (vl p J k) (tl2 p j k) 10 ∨ (sm (vl p J k) T 10 = sm (vl p J k) (tl2 p j k) 10 ∧ msk (tl2 p j k) 10 ≤ msk T 10) := h1
      omega
    have e2 : msk (tl2 p j k) 10 = msk T 10 := by
      have h1 : sm (vl p J k) T 10 < sm (vl p J k) (tl2 p j k) 10 ∨ (sm (vl p J k) T 10 = sm (vl p J k) (tl2 p j k) 10 ∧ msk (tl2 p j k) 10 ≤ msk T 10) := h1
      omega
    refine ⟨msk T 10, sm (vl p J k) T 10, by rw [e, e1, e2], msk_lt T 10, by have := hs 10 (Nat.le_refl _); omega, ?_, ?_⟩
    · rw [hT4, Int32.zero_or]
    · rw [hT5, Int64.zero_add]
end Q11Y
