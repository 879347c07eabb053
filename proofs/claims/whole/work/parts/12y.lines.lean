section Q12Y
theorem lhas_iff (P : Nat → Int32) (v : Int32) : ∀ (m i : Nat), lhas P v i m = true ↔ ∃ j : Nat, i ≤ j ∧ j < i + m ∧ P (j * 3 + 0) = v := by
  intro m
  induction m with
  | zero => intro i; exact ⟨fun h => (by cases h), fun ⟨j, a, b, _⟩ => (by omega)⟩
  | succ m ih =>
    intro i
    show (if P (i * 3 + 0) = v then true else lhas P v (i + 1) m) = true ↔ _
    by_cases c : P (i * 3 + 0) = v
    · rw [if_pos c]; exact ⟨fun _ => ⟨i, Nat.le_refl _, by omega, c⟩, fun _ => rfl⟩
    · rw [if_neg c, ih (i + 1)]
      constructor
      · rintro ⟨j, a, b, e⟩; exact ⟨j, by omega, by omega, e⟩
      · rintro ⟨j, a, b, e⟩
        refine ⟨j, ?_, by omega, e⟩
        rcases Nat.lt_or_ge i j with z | z
        · exact z
        · exact absurd (show P (i * 3 + 0) = v by rw [show i = j by omega]; exact e) c
/-- no more names than there are -/
theorem pigeon : ∀ (N i : Nat) (pf : Nat → Nat), (∀ j : Nat, j < i → pf j < N) → (∀ j k : Nat, j < i → k < i → pf j = pf k → j = k) → i ≤ N := by
  intro N
  induction N with
  | zero =>
    intro i pf h _
    rcases Nat.eq_zero_or_pos i with z | z
    · omega
    · exact absurd (h 0 z) (Nat.not_lt_zero _)
  | succ N ih =>
    intro i pf h hi
    by_cases c : ∃ j : Nat, j < i ∧ pf j = N
    · obtain ⟨j, hj, ej⟩ := c
      have := ih (i - 1) (fun k => pf (if k < j then k else k + 1)) (fun k hk => by
        have h1 := h (if k < j then k else k + 1) (by split <;> omega)
        have h2 : pf (if k < j then k else k + 1) ≠ N := fun e => by
          have := hi _ _ (show (if k < j then k else k + 1) < i by split <;> omega) hj (e.trans ej.symm)
          split at this <;> omega
        show pf (if k < j then k else k + 1) < N
        omega) (fun k l hk hl e => by
        have := hi _ _ (show (if k < j then k else k + 1) < i by split <;> omega) (show (if l < j then l else l + 1) < i by split <;> omega) e
        by_cases a : k < j
        · rw [if_pos a] at this
          by_cases b : l < j
          · rw [if_pos b] at this; exact this
          · rw [if_neg b] at this; omega
        · rw [if_neg a] at this
          by_cases b : l < j
          · rw [if_pos b] at this; omega
          · rw [if_neg b] at this; omega)
      omega
    · have := ih i pf (fun j hj => by
        have h1 := h j hj
        have h2 : pf j ≠ N := fun e => c ⟨j, hj, e⟩
        omega) hi
      omega
/-- lines that a plan may have -/
def LG (P : Nat → Int32) (i N : Nat) : Prop := ∃ pf vf rf : Nat → Nat, isP P i pf vf rf ∧ (∀ j : Nat, j < i → pf j < N) ∧ ∀ j k : Nat, j < i → k < i → pf j = pf k → j = k
theorem LG.le {P : Nat → Int32} {i N : Nat} (h : LG P i N) : i ≤ N := by
  obtain ⟨pf, vf, rf, _, h1, h2⟩ := h
  exact pigeon N i pf h1 h2
theorem LG.add {P : Nat → Int32} {i N d v r : Nat} (h : LG P i N) (hN : N ≤ 10) (hd : d < N) (hl : lhas P (nI d) 0 i = false) (hv : v ≤ 5) (hr : r ≤ 2) : LG (lput P i (nI d) (nI v) (nI r)) (i + 1) N := by
  obtain ⟨pf, vf, rf, h1, h2, h3⟩ := h
  have hno : ∀ j : Nat, j < i → pf j ≠ d := fun j hj e => by
    have q := (lhas_iff P (nI d) i 0).mpr ⟨j, Nat.zero_le _, by omega, by rw [(h1 j hj).1.1, e]⟩
    rw [hl] at q; cases q
  refine ⟨fun j => if j = i then d else pf j, fun j => if j = i then v else vf j, fun j => if j = i then r else rf j, fun j hj => ?_, fun j hj => ?_, fun j k hj hk e => ?_⟩
  · show (lput _ _ _ _ _ _ = nI (if j = i then d else pf j) ∧ (if j = i then d else pf j) < 10) ∧ (lput _ _ _ _ _ _ = nI (if j = i then v else vf j) ∧ (if j = i then v else vf j) ≤ 5) ∧ (lput _ _ _ _ _ _ = nI (if j = i then r else rf j) ∧ (if j = i then r else rf j) ≤ 2)
    simp only [lput_e]
    by_cases c : j = i
    · subst c
      simp
      omega
    · rw [if_neg c, if_neg c, if_neg c, if_neg (by omega), if_neg (by omega), if_neg (by omega), if_neg (by omega), if_neg (by omega), if_neg (by omega), if_neg (by omega), if_neg (by omega), if_neg (by omega)]
      exact h1 j (by omega)
  · show (if j = i then d else pf j) < N
    split
    · exact hd
    · exact h2 j (by omega)
  · replace e : (if j = i then d else pf j) = (if k = i then d else pf k) := e
    by_cases a : j = i
    · by_cases b : k = i
      · omega
      · rw [if_pos a, if_neg b] at e
        exact absurd e.symm (hno k (by omega))
    · rw [if_neg a] at e
      by_cases b : k = i
      · rw [if_pos b] at e
        exact absurd e (hno j (by omega))
      · rw [if_neg b] at e
        exact h3 j k (by omega) (by omega) e
theorem LG.room {P : Nat → Int32} {i N d : Nat} (h : LG P i N) (hN : N ≤ 10) (hd : d < N) (hl : lhas P (nI d) 0 i = false) : i < 10 := by
  have := (h.add (v := 0) (r := 0) hN hd hl (by decide) (by decide)).le
  omega
theorem LG.ag {P P' : Nat → Int32} {i N : Nat} (h : LG P i N) (ha : ag (i * 3) P' P) : LG P' i N := by
  obtain ⟨pf, vf, rf, h1, h2, h3⟩ := h
  refine ⟨pf, vf, rf, fun j hj => ?_, h2, h3⟩
  rw [ha (j * 3 + 0) (by omega), ha (j * 3 + 1) (by omega), ha (j * 3 + 2) (by omega)]
  exact h1 j hj
theorem lhas_put (P : Nat → Int32) (i : Nat) (v a b w : Int32) : lhas (lput P i v a b) w 0 (i + 1) = (lhas P w 0 i || decide (v = w)) := by
  rw [Bool.eq_iff_iff, Bool.or_eq_true, lhas_iff, lhas_iff, decide_eq_true_eq]
  constructor
  · rintro ⟨j, h0, h1, e⟩
    rw [lput_e, if_neg (by omega), if_neg (by omega)] at e
    by_cases c : j = i
    · rw [if_pos (by omega)] at e; exact Or.inr e
    · rw [if_neg (by omega)] at e; exact Or.inl ⟨j, h0, by omega, e⟩
  · rintro (⟨j, h0, h1, e⟩ | e)
    · refine ⟨j, h0, by omega, ?_⟩
      rw [lput_e, if_neg (by omega), if_neg (by omega), if_neg (by omega)]; exact e
    · refine ⟨i, Nat.zero_le _, by omega, ?_⟩
      rw [lput_e, if_neg (by omega), if_neg (by omega), if_pos (by omega)]; exact e
/-- the doors that a plan's text has told, as bits -/
def GB (gm : Nat) (P : Nat → Int32) (i : Nat) : Prop := gm < 2 ^ 10 ∧ ∀ d : Nat, d < 10 → gm.testBit d = lhas P (nI d) 0 i
theorem GB.z (P : Nat → Int32) : GB 0 P 0 := ⟨by decide, fun d _ => Nat.zero_testBit d⟩
theorem GB.add {gm : Nat} {P : Nat → Int32} {i d : Nat} (h : GB gm P i) (hd : d < 10) (a b : Int32) : GB (gm ||| 2 ^ d) (lput P i (nI d) a b) (i + 1) := by
  refine ⟨Nat.or_lt_two_pow h.1 (Nat.pow_lt_pow_right (by decide) hd), fun e he => ?_⟩
  rw [Nat.testBit_or, h.2 e he, lhas_put, Nat.testBit_two_pow]
  congr 1
  rw [decide_eq_decide]
  exact (nI_eq (by omega) (by omega)).symm
theorem GB.bit {gm : Nat} {P : Nat → Int32} {i d : Nat} (h : GB gm P i) (hd : d < 10) : (nI gm >>> (nI d &&& 31)) &&& 1 = qb (lhas P (nI d) 0 i) := by
  rw [b_bit (Nat.lt_trans h.1 (by decide)) (by omega), h.2 d hd]
  cases lhas P (nI d) 0 i <;> rfl
/-- the program's words for a ring are the model's -/
def rbr (f : Nat → Nat) (len : Nat) : Prop := ∀ (F : Nat → Int32) (n a : Nat), a ≤ n → n ≤ 600 → (mword F n (sk F n a) = nI (wpk 23) ∧ islt (tby F n (sk F n a)) = true ∧ pword F n f len a = 0) ∨ (mword F n (sk F n a) = nI (wpk 24) ∧ islt (tby F n (sk F n a)) = true ∧ pword F n f len a = 1) ∨ (¬ mword F n (sk F n a) = nI (wpk 23) ∧ ¬ mword F n (sk F n a) = nI (wpk 24) ∧ (islt (tby F n (sk F n a)) = true → pword F n f len a = -1))
section
variable {F : Nat → Int32} {n : Nat} {f : Nat → Nat} {len : Nat}
theorem pring_1 (hr : rbr f len) {b : Nat} (hb : b ≤ n) (hn : n ≤ 600) (h : mword F n (sk F n b) = nI (wpk 23)) : pring F n f len (.inr b) = (.inr (pwend F n b), 1) := by
  have hs := sk_sk F hb
  have q := hr F n (sk F n b) (sk_le F hb).2 hn
  rw [hs] at q
  rcases q with ⟨_, h2, h3⟩ | ⟨h1, _⟩ | ⟨h1, _⟩
  · show (if islt (tby F n (sk F n b)) then (pwst F n f len (.inr (sk F n b)), pword F n f len (sk F n b) + 1) else (.inr (sk F n b), 0)) = _
    rw [if_pos h2, h3]
    show ((if pword F n f len (sk F n b) = -1 then _ else (.inr (pwend F n (sk F n b)) : PS)), (0 + 1 : Int32)) = _
    rw [if_neg (by rw [h3]; decide)]
    unfold pwend
    rw [hs]
    rfl
  · rw [h] at h1; exact absurd h1 (by decide)
  · exact absurd h h1
theorem pring_2 (hr : rbr f len) {b : Nat} (hb : b ≤ n) (hn : n ≤ 600) (h : mword F n (sk F n b) = nI (wpk 24)) : pring F n f len (.inr b) = (.inr (pwend F n b), 2) := by
  have hs := sk_sk F hb
  have q := hr F n (sk F n b) (sk_le F hb).2 hn
  rw [hs] at q
  rcases q with ⟨h1, _⟩ | ⟨_, h2, h3⟩ | ⟨_, h1, _⟩
  · rw [h] at h1; exact absurd h1 (by decide)
  · show (if islt (tby F n (sk F n b)) then (pwst F n f len (.inr (sk F n b)), pword F n f len (sk F n b) + 1) else (.inr (sk F n b), 0)) = _
    rw [if_pos h2, h3]
    show ((if pword F n f len (sk F n b) = -1 then _ else (.inr (pwend F n (sk F n b)) : PS)), (1 + 1 : Int32)) = _
    rw [if_neg (by rw [h3]; decide)]
    unfold pwend
    rw [hs]
    rfl
  · exact absurd h h1
theorem pring_0 (hr : rbr f len) {b : Nat} (hb : b ≤ n) (hn : n ≤ 600) (h1 : ¬ mword F n (sk F n b) = nI (wpk 23)) (h2 : ¬ mword F n (sk F n b) = nI (wpk 24)) : psign F n 59 (pring F n f len (.inr b)).1 = psign F n 59 (.inr (sk F n b)) ∧ (pbad (psign F n 59 (pring F n f len (.inr b)).1) = false → (pring F n f len (.inr b)).2 = 0) := by
  have hs := sk_sk F hb
  have q := hr F n (sk F n b) (sk_le F hb).2 hn
  rw [hs] at q
  rcases q with ⟨q, _⟩ | ⟨q, _⟩ | ⟨_, _, h3⟩
  · exact absurd q h1
  · exact absurd q h2
  · have e : pring F n f len (.inr b) = (if islt (tby F n (sk F n b)) then (pwst F n f len (.inr (sk F n b)), pword F n f len (sk F n b) + 1) else (.inr (sk F n b), 0)) := rfl
    by_cases c : islt (tby F n (sk F n b)) = true
    · have e2 : (pring F n f len (.inr b)).1 = .inl (1, sk F n b) := by
        rw [e, if_pos c]
        show (if pword F n f len (sk F n b) = -1 then (.inl (1, sk F n (sk F n b)) : PS) else _) = _
        rw [if_pos (h3 c), hs]
      rw [e2]
      refine ⟨?_, fun z => by cases z⟩
      show _ = (if tby F n (sk F n (sk F n b)) = 59 then (.inr (sk F n (sk F n b) + 1) : PS) else .inl (1, sk F n (sk F n b)))
      rw [hs, if_neg (fun z => by rw [z] at c; exact absurd c (by decide))]
      rfl
    · rw [e, if_neg c]
      exact ⟨rfl, fun _ => rfl⟩
end
end Q12Y
