section Q11P
theorem pmk_congr {w w' : Nat → Bool} (pt : Nat → Nat) : ∀ n : Nat, (∀ i : Nat, i < n → w i = w' i) → pmk w pt n = pmk w' pt n := by
  intro n
  induction n with
  | zero => intro _; rfl
  | succ n ih =>
    intro h
    show pmk w pt n ||| (if w n = true then 2 ^ pt n else 0) = pmk w' pt n ||| (if w' n = true then 2 ^ pt n else 0)
    rw [ih (fun i hi => h i (by omega)), h n (by omega)]
theorem pmk_all (pt : Nat → Nat) (M : Nat) : pmk (fun j => (2 ^ M - 1).testBit j) pt M = pmk (fun _ => true) pt M := pmk_congr pt M (fun i hi => by rw [Nat.testBit_two_pow_sub_one]; exact decide_eq_true hi)
theorem nd_lt {Q : Nat → Int32} {M : Nat} (h : QOK Q M) (w : Nat → Bool) : pmk w (qpt Q) M < 16 := pmk_lt w (qpt Q) 4 M (fun i hi => by have := (h.pt hi).2; omega)
theorem nim1 {p : Nat} (hp : p < 2 ^ 31) : ¬ nI p = -1 := fun e => by
  have := nI_toInt (n := p) hp
  rw [e] at this
  have e2 : (-1 : Int32).toInt = -1 := by decide
  omega
theorem wo_b : ∀ nd : Nat, nd < 16 → ∀ q : Nat, q < 4 → nI nd &&& (((1 : Int32) <<< (nI q &&& 31)) ^^^ (-1)) = nI (nd &&& (15 ^^^ 2 ^ q)) ∧ nd &&& (15 ^^^ 2 ^ q) < 16 ∧ ∀ p : Nat, p < 4 → (nd &&& (15 ^^^ 2 ^ q)).testBit p = (!(decide (p = q)) && nd.testBit p) := by decide +kernel
/-- the latest of a part -/
theorem cgone_1 (Q : Nat → Int32) (p : Int32) : ∀ (m i : Nat) (lt : Int32), (∃ j : Nat, i ≤ j ∧ j < i + m ∧ Q (j * 4 + 1) = p ∧ Q (j * 4 + 2) = -1) → cgone Q p i m lt = -1 := by
  intro m
  induction m with
  | zero => rintro i lt ⟨j, h1, h2, -⟩; omega
  | succ m ih =>
    rintro i lt ⟨j, h1, h2, h3, h4⟩
    unfold cgone
    by_cases c : Q (i * 4 + 1) = p
    · rw [if_pos c]
      by_cases c2 : Q (i * 4 + 2) = -1
      · rw [if_pos c2]
      · rw [if_neg c2]
        by_cases e : j = i
        · subst e; exact absurd h4 c2
        · exact ih _ _ ⟨j, by omega, by omega, h3, h4⟩
    · rw [if_neg c]
      by_cases e : j = i
      · subst e; exact absurd h3 c
      · exact ih _ _ ⟨j, by omega, by omega, h3, h4⟩
theorem cgone_2 (Q : Nat → Int32) (p : Int32) : ∀ (m i : Nat) (lt : Int32), (¬ ∃ j : Nat, i ≤ j ∧ j < i + m ∧ Q (j * 4 + 1) = p ∧ Q (j * 4 + 2) = -1) → (cgone Q p i m lt = lt ∨ ∃ j : Nat, i ≤ j ∧ j < i + m ∧ Q (j * 4 + 1) = p ∧ cgone Q p i m lt = Q (j * 4 + 2)) ∧ lt ≤ cgone Q p i m lt ∧ ∀ j : Nat, i ≤ j → j < i + m → Q (j * 4 + 1) = p → Q (j * 4 + 2) ≤ cgone Q p i m lt := by
  intro m
  induction m with
  | zero => intro i lt _; exact ⟨Or.inl rfl, Int32.le_refl _, fun j h1 h2 => by omega⟩
  | succ m ih =>
    intro i lt hn
    have hn1 : ¬ ∃ j : Nat, i + 1 ≤ j ∧ j < i + 1 + m ∧ Q (j * 4 + 1) = p ∧ Q (j * 4 + 2) = -1 := fun ⟨j, h1, h2, h3⟩ => hn ⟨j, by omega, by omega, h3⟩
    unfold cgone
    by_cases c : Q (i * 4 + 1) = p
    · have c2 : ¬ Q (i * 4 + 2) = -1 := fun q => hn ⟨i, by omega, by omega, c, q⟩
      rw [if_pos c, if_neg c2]
      obtain ⟨k1, k2, k3⟩ := ih (i + 1) (if Q (i * 4 + 2) ≤ lt then lt else Q (i * 4 + 2)) hn1
      by_cases c3 : Q (i * 4 + 2) ≤ lt
      · rw [if_pos c3] at k1 k2 k3 ⊢
        refine ⟨k1.elim Or.inl (fun ⟨j, h1, h2, h3⟩ => Or.inr ⟨j, by omega, by omega, h3⟩), k2, fun j h1 h2 h3 => ?_⟩
        by_cases e : j = i
        · subst e; exact Int32.le_trans c3 k2
        · exact k3 j (by omega) (by omega) h3
      · rw [if_neg c3] at k1 k2 k3 ⊢
        refine ⟨Or.inr (k1.elim (fun q => ⟨i, by omega, by omega, c, q⟩) (fun ⟨j, h1, h2, h3⟩ => ⟨j, by omega, by omega, h3⟩)), Int32.le_trans (Int32.le_of_lt (Int32.not_le.mp c3)) k2, fun j h1 h2 h3 => ?_⟩
        by_cases e : j = i
        · subst e; exact k2
        · exact k3 j (by omega) (by omega) h3
    · rw [if_neg c]
      obtain ⟨k1, k2, k3⟩ := ih (i + 1) lt hn1
      refine ⟨k1.elim Or.inl (fun ⟨j, h1, h2, h3⟩ => Or.inr ⟨j, by omega, by omega, h3⟩), k2, fun j h1 h2 h3 => ?_⟩
      by_cases e : j = i
      · subst e; exact absurd h3 c
      · exact k3 j (by omega) (by omega) h3
/-- a part is gone by t -/
theorem cgo_e {Q : Nat → Int32} {M : Nat} (h : QOK Q M) {p : Nat} (t : Nat) (ht : t < 2 ^ 31) : (¬ cgo Q M (nI p) = -1 ∧ cgo Q M (nI p) ≤ nI t) ↔ (cneed Q (nI p) 0 M = true ∧ ∀ j : Nat, j < M → Q (j * 4 + 1) = nI p → ¬ cthere Q j (nI t) = true) := by
  have ct : ∀ j : Nat, ¬ cthere Q j (nI t) = true ↔ (¬ Q (j * 4 + 2) = -1 ∧ Q (j * 4 + 2) ≤ nI t) := by
    intro j
    unfold cthere
    rw [Bool.or_eq_true, decide_eq_true_eq, decide_eq_true_eq, not_or, Int32.not_lt]
  unfold cgo
  by_cases c : cneed Q (nI p) 0 M = true
  · rw [if_pos c]
    by_cases c1 : ∃ j : Nat, 0 ≤ j ∧ j < 0 + M ∧ Q (j * 4 + 1) = nI p ∧ Q (j * 4 + 2) = -1
    · rw [cgone_1 Q (nI p) M 0 (-1) c1]
      constructor
      · intro q; exact absurd rfl q.1
      · rintro ⟨-, q⟩
        obtain ⟨j, -, h2, h3, h4⟩ := c1
        exact absurd h4 ((ct j).mp (q j (by omega) h3)).1
    · obtain ⟨k1, k2, k3⟩ := cgone_2 Q (nI p) M 0 (-1) c1
      constructor
      · rintro ⟨-, q⟩
        refine ⟨c, fun j hj hp => (ct j).mpr ⟨fun e => c1 ⟨j, by omega, by omega, hp, e⟩, Int32.le_trans (k3 j (by omega) (by omega) hp) q⟩⟩
      · rintro ⟨-, q⟩
        obtain ⟨j, -, hj, hp⟩ := (cneed_e Q (nI p) M 0).mp c
        have hj : j < M := by omega
        have hh := (h.2 j hj).2.2.1
        have hne := ((ct j).mp (q j hj hp)).1
        obtain ⟨v, hv, ev⟩ := hh.resolve_left hne
        have hge := k3 j (by omega) (by omega) hp
        refine ⟨fun e => ?_, ?_⟩
        · rw [e, ev] at hge
          exact absurd hge (by rw [Int32.not_le]; exact Int32.lt_of_lt_of_le (by decide : (-1 : Int32) < 0) (Int32.not_lt.mp (h_nn (by omega))))
        · rcases k1 with k1 | ⟨j2, -, hj2, hp2, k1⟩
          · rw [k1, ev] at hge
            exact absurd hge (by rw [Int32.not_le]; exact Int32.lt_of_lt_of_le (by decide : (-1 : Int32) < 0) (Int32.not_lt.mp (h_nn (by omega))))
          · rw [k1]; exact ((ct j2).mp (q j2 (by omega) hp2)).2
  · rw [if_neg c]
    constructor
    · intro q; exact absurd rfl q.1
    · intro q; exact absurd q.1 c
theorem cgo_v {Q : Nat → Int32} {M : Nat} (h : QOK Q M) (p : Nat) : cgo Q M (nI p) = -1 ∨ ∃ g : Nat, g ≤ 480 ∧ cgo Q M (nI p) = nI g := by
  unfold cgo
  by_cases c : cneed Q (nI p) 0 M = true
  · rw [if_pos c]
    by_cases c1 : ∃ j : Nat, 0 ≤ j ∧ j < 0 + M ∧ Q (j * 4 + 1) = nI p ∧ Q (j * 4 + 2) = -1
    · left; exact cgone_1 Q (nI p) M 0 (-1) c1
    · rcases (cgone_2 Q (nI p) M 0 (-1) c1).1 with k | ⟨j, -, hj, hp, k⟩
      · left; exact k
      · rw [k]; exact (h.2 j (by omega)).2.2.1
  · rw [if_neg c]; left; rfl
theorem cfirst_e (Q : Nat → Int32) (M : Nat) : ∀ (j p : Nat) (fm : Int32), (cfirst Q M p j fm = fm ∨ ∃ q : Nat, p ≤ q ∧ q < p + j ∧ ¬ cgo Q M (nI q) = -1 ∧ cfirst Q M p j fm = cgo Q M (nI q)) ∧ (cfirst Q M p j fm = -1 → fm = -1 ∧ ∀ q : Nat, p ≤ q → q < p + j → cgo Q M (nI q) = -1) ∧ ((¬ fm = -1 → cfirst Q M p j fm ≤ fm) ∧ ∀ q : Nat, p ≤ q → q < p + j → ¬ cgo Q M (nI q) = -1 → cfirst Q M p j fm ≤ cgo Q M (nI q)) := by
  intro j
  induction j with
  | zero => intro p fm; exact ⟨Or.inl rfl, fun e => ⟨e, fun q h1 h2 => by omega⟩, fun _ => Int32.le_refl _, fun q h1 h2 => by omega⟩
  | succ j ih =>
    intro p fm
    unfold cfirst
    by_cases c : cgo Q M (nI p) = -1
    · rw [if_pos c]
      obtain ⟨k1, k2, k3, k4⟩ := ih (p + 1) fm
      refine ⟨k1.elim Or.inl (fun ⟨q, h1, h2, h3⟩ => Or.inr ⟨q, by omega, by omega, h3⟩), fun e => ⟨(k2 e).1, fun q h1 h2 => ?_⟩, k3, fun q h1 h2 h3 => ?_⟩
      · by_cases e2 : q = p
        · rw [e2]; exact c
        · exact (k2 e).2 q (by omega) (by omega)
      · by_cases e2 : q = p
        · rw [e2] at h3; exact absurd c h3
        · exact k4 q (by omega) (by omega) h3
    · rw [if_neg c]
      by_cases c2 : fm = -1
      · rw [if_pos c2]
        obtain ⟨k1, k2, k3, k4⟩ := ih (p + 1) (cgo Q M (nI p))
        refine ⟨Or.inr (k1.elim (fun e => ⟨p, by omega, by omega, c, e⟩) (fun ⟨q, h1, h2, h3⟩ => ⟨q, by omega, by omega, h3⟩)), fun e => absurd (k2 e).1 c, fun e => absurd c2 e, fun q h1 h2 h3 => ?_⟩
        by_cases e2 : q = p
        · rw [e2]; exact k3 c
        · exact k4 q (by omega) (by omega) h3
      · rw [if_neg c2]
        by_cases c3 : fm ≤ cgo Q M (nI p)
        · rw [if_pos c3]
          obtain ⟨k1, k2, k3, k4⟩ := ih (p + 1) fm
          refine ⟨k1.elim Or.inl (fun ⟨q, h1, h2, h3⟩ => Or.inr ⟨q, by omega, by omega, h3⟩), fun e => absurd (k2 e).1 c2, k3, fun q h1 h2 h3 => ?_⟩
          by_cases e2 : q = p
          · rw [e2]; exact Int32.le_trans (k3 c2) c3
          · exact k4 q (by omega) (by omega) h3
        · rw [if_neg c3]
          obtain ⟨k1, k2, k3, k4⟩ := ih (p + 1) (cgo Q M (nI p))
          refine ⟨Or.inr (k1.elim (fun e => ⟨p, by omega, by omega, c, e⟩) (fun ⟨q, h1, h2, h3⟩ => ⟨q, by omega, by omega, h3⟩)), fun e => absurd (k2 e).1 c, fun _ => Int32.le_trans (k3 c) (Int32.le_of_lt (Int32.not_le.mp c3)), fun q h1 h2 h3 => ?_⟩
          by_cases e2 : q = p
          · rw [e2]; exact k3 c
          · exact k4 q (by omega) (by omega) h3
/-- a part is missing in the minute t -/
theorem miss_e {Q : Nat → Int32} {M : Nat} (h : QOK Q M) (t : Nat) (ht : t < 2 ^ 31) : ¬ pmk (fun j => (msk (fun j => cthere Q j (nI t)) M).testBit j) (qpt Q) M = pmk (fun _ => true) (qpt Q) M ↔ ∃ p : Nat, p < 4 ∧ ¬ cgo Q M (nI p) = -1 ∧ cgo Q M (nI p) ≤ nI t := by
  have hb : ∀ p : Nat, p < 4 → ((pmk (fun j => (msk (fun j => cthere Q j (nI t)) M).testBit j) (qpt Q) M).testBit p = true ↔ ∃ j : Nat, j < M ∧ Q (j * 4 + 1) = nI p ∧ cthere Q j (nI t) = true) := by
    intro p hp
    rw [pmk_bit]
    constructor
    · rintro ⟨j, hj, h1, h2⟩
      rw [msk_bit, Bool.and_eq_true] at h1
      exact ⟨j, hj, by rw [(h.pt hj).1, h2], h1.2⟩
    · rintro ⟨j, hj, h1, h2⟩
      refine ⟨j, hj, by rw [msk_bit, decide_eq_true hj, h2]; rfl, ?_⟩
      have := h.pt hj
      rw [this.1] at h1
      exact (nI_eq (by omega) (by omega)).mp h1
  constructor
  · intro hne
    by_cases c : ∃ p : Nat, p < 4 ∧ ¬ cgo Q M (nI p) = -1 ∧ cgo Q M (nI p) ≤ nI t
    · exact c
    · exfalso
      apply hne
      apply Nat.eq_of_testBit_eq
      intro p
      by_cases hp : p < 4
      · rw [need_bit h hp, Bool.eq_iff_iff, hb p hp]
        constructor
        · rintro ⟨j, hj, h1, -⟩
          exact (cneed_e Q (nI p) M 0).mpr ⟨j, by omega, by omega, h1⟩
        · intro hn
          by_cases c2 : ∃ j : Nat, j < M ∧ Q (j * 4 + 1) = nI p ∧ cthere Q j (nI t) = true
          · exact c2
          · exact absurd ⟨p, hp, (cgo_e h t ht).mpr ⟨hn, fun j hj h1 h2 => c2 ⟨j, hj, h1, h2⟩⟩⟩ c
      · rw [Nat.testBit_lt_two_pow (Nat.lt_of_lt_of_le (nd_lt h _) (Nat.pow_le_pow_right (n := 2) (by decide) (show 4 ≤ p by omega))), Nat.testBit_lt_two_pow (Nat.lt_of_lt_of_le (nd_lt h _) (Nat.pow_le_pow_right (n := 2) (by decide) (show 4 ≤ p by omega)))]
  · rintro ⟨p, hp, hc⟩ heq
    obtain ⟨hn, hg⟩ := (cgo_e h t ht).mp hc
    have h1 : (pmk (fun _ => true) (qpt Q) M).testBit p = true := by rw [need_bit h hp]; exact hn
    rw [← heq] at h1
    obtain ⟨j, hj, h2, h3⟩ := (hb p hp).mp h1
    exact hg j hj h2 h3
theorem flat_hit {Q : Nat → Int32} {M : Nat} (h : QOK Q M) {t : Nat} (ht : t ≤ 480) (hm : ∃ p : Nat, p < 4 ∧ ¬ cgo Q M (nI p) = -1 ∧ cgo Q M (nI p) ≤ nI t) (hn : ∀ u : Nat, u < t → ¬ ∃ p : Nat, p < 4 ∧ ¬ cgo Q M (nI p) = -1 ∧ cgo Q M (nI p) ≤ nI u) : nI t = cfirst Q M 0 4 (-1) := by
  obtain ⟨k1, k2, k3, k4⟩ := cfirst_e Q M 4 0 (-1)
  obtain ⟨p, hp, h1, h2⟩ := hm
  have hle := k4 p (by omega) (by omega) h1
  rcases k1 with k1 | ⟨q, -, hq, h3, k1⟩
  · exact absurd ((k2 k1).2 p (by omega) (by omega)) h1
  · obtain ⟨g, hg, eg⟩ := (cgo_v h q).resolve_left h3
    rw [k1, eg] at hle ⊢
    have hgt : g ≤ t := (nI_leI (by omega) (by omega)).mp (Int32.le_trans hle h2)
    by_cases e : g = t
    · rw [e]
    · exact absurd ⟨q, by omega, h3, by rw [eg]; exact Int32.le_refl _⟩ (hn g (by omega))
theorem flat_none {Q : Nat → Int32} {M : Nat} (h : QOK Q M) (hn : ∀ u : Nat, u < 481 → ¬ ∃ p : Nat, p < 4 ∧ ¬ cgo Q M (nI p) = -1 ∧ cgo Q M (nI p) ≤ nI u) : -1 = cfirst Q M 0 4 (-1) := by
  obtain ⟨k1, k2, k3, k4⟩ := cfirst_e Q M 4 0 (-1)
  rcases k1 with k1 | ⟨q, -, hq, h3, k1⟩
  · exact k1.symm
  · obtain ⟨g, hg, eg⟩ := (cgo_v h q).resolve_left h3
    exact absurd ⟨q, by omega, h3, by rw [eg]; exact Int32.le_refl _⟩ (hn g (by omega))
end Q11P
