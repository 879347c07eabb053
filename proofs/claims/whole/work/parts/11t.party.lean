section Q11T
/-- by how much who is to take is ahead in a stretch of the row: so many from a on -/
def plt (D : Nat → Int32) (w : Nat → Nat) : Nat → Nat → Int32
  | 0, _ => 0
  | l + 1, a => if D (w a * 10 + 1) - plt D w l (a + 1) < D (w (a + l) * 10 + 1) - plt D w l a then D (w (a + l) * 10 + 1) - plt D w l a else D (w a * 10 + 1) - plt D w l (a + 1)
theorem pst_1 (D : Nat → Int32) (w : Nat → Nat) (l i : Nat) (s : pS) (h0 : s.1 i = plt D w l i) (h1 : s.1 (i + 1) = plt D w l (i + 1)) : (pst D w (l + 1) i s).1 i = plt D w (l + 1) i ∧ ∀ j : Nat, j ≠ i → (pst D w (l + 1) i s).1 j = s.1 j := by
  unfold pst
  rw [h0, h1, show i + (l + 1) - 1 = i + l by omega]
  by_cases c : D (w i * 10 + 1) - plt D w l (i + 1) < D (w (i + l) * 10 + 1) - plt D w l i
  · rw [if_pos c]
    exact ⟨upd_s.trans (by rw [plt, if_pos c]), fun j hj => upd_n hj⟩
  · rw [if_neg c]
    exact ⟨upd_s.trans (by rw [plt, if_neg c]), fun j hj => upd_n hj⟩
theorem pin_e (D : Nat → Int32) (w : Nat → Nat) (l : Nat) : ∀ (m i : Nat) (s : pS), (∀ j : Nat, j < i → s.1 j = plt D w (l + 1) j) → (∀ j : Nat, i ≤ j → j ≤ i + m → s.1 j = plt D w l j) → ∀ j : Nat, j < i + m → (pin D w (l + 1) m i s).1 j = plt D w (l + 1) j := by
  intro m
  induction m with
  | zero => intro i s h1 _ j hj; exact h1 j (by omega)
  | succ m ih =>
    intro i s h1 h2 j hj
    obtain ⟨p1, p2⟩ := pst_1 D w l i s (h2 i (by omega) (by omega)) (h2 (i + 1) (by omega) (by omega))
    refine ih (i + 1) _ (fun q hq => ?_) (fun q hq1 hq2 => ?_) j (by omega)
    · by_cases c : q = i
      · subst c; exact p1
      · rw [p2 q c]; exact h1 q (by omega)
    · rw [p2 q (by omega)]; exact h2 q (by omega) (by omega)
theorem pout_e (D : Nat → Int32) (w : Nat → Nat) (n : Nat) : ∀ (m l : Nat) (s : pS), l + 1 + m = n → (∀ j : Nat, j ≤ n - l → s.1 j = plt D w l j) → ∃ s' : pS, s'.1 0 = plt D w (n - 1) 0 ∧ s'.1 1 = plt D w (n - 1) 1 ∧ pout D w n (m + 1) (l + 1) s = pst D w n 0 s' := by
  intro m
  induction m with
  | zero =>
    intro l s hl h
    have e : l = n - 1 := by omega
    refine ⟨s, by rw [h 0 (by omega), e], by rw [h 1 (by omega), e], ?_⟩
    show pin D w (l + 1) (n + 1 - (l + 1)) 0 s = _
    rw [show n + 1 - (l + 1) = 1 by omega, show l + 1 = n by omega]
    rfl
  | succ m ih =>
    intro l s hl h
    show ∃ s' : pS, _ ∧ _ ∧ pout D w n (m + 1) (l + 1 + 1) (pin D w (l + 1) (n + 1 - (l + 1)) 0 s) = _
    refine ih (l + 1) _ (by omega) (fun j hj => pin_e D w l (n + 1 - (l + 1)) 0 s (fun q hq => absurd hq (Nat.not_lt_zero q)) (fun q _ hq => h q (by omega)) j (by omega))
/-- what the other party's game comes to -/
theorem party_e (D : Nat → Int32) (w : Nat → Nat) (n : Nat) (a0 : Nat → Int32) (h0 : ∀ j : Nat, j < 11 → a0 j = 0) (hn : n ≤ 10) : (pout D w n n 1 (a0, -1)).1 0 = plt D w n 0 ∧ (pout D w n n 1 (a0, -1)).2 = (if n = 0 then -1 else if D (w 0 * 10 + 1) - plt D w (n - 1) 1 = plt D w n 0 then nI (w 0) else nI (w (n - 1))) := by
  by_cases c : n = 0
  · subst c
    exact ⟨h0 0 (by decide), rfl⟩
  · obtain ⟨s', e0, e1, e2⟩ := pout_e D w n (n - 1) 0 (a0, -1) (by omega) (fun j hj => h0 j (by omega))
    rw [show n - 1 + 1 = n by omega] at e2
    have e2 : pout D w n n 1 (a0, -1) = pst D w n 0 s' := e2
    have e3 := pst_1 D w (n - 1) 0 s' e0 e1
    rw [show n - 1 + 1 = n by omega] at e3
    rw [e2, if_neg c]
    refine ⟨e3.1, ?_⟩
    have en : plt D w n 0 = plt D w (n - 1 + 1) 0 := by rw [show n - 1 + 1 = n by omega]
    rw [en, plt, Nat.zero_add]
    unfold pst
    rw [e0, e1, Nat.zero_add, Nat.zero_add]
    by_cases q : D (w 0 * 10 + 1) - plt D w (n - 1) 1 < D (w (n - 1) * 10 + 1) - plt D w (n - 1) 0
    · rw [if_pos q, if_pos q, if_neg (fun z => absurd q (by rw [← z]; exact Int32.lt_irrefl))]
    · rw [if_neg q, if_neg q, if_pos rfl]
theorem sins_c (D : Nat → Int32) (d : Nat) : ∀ (i : Nat) (w w' : Nat → Nat), (∀ j : Nat, j < i → w j = w' j) → (sins D d i w).1 = (sins D d i w').1 ∧ ∀ j : Nat, j ≠ (sins D d i w).1 → (w j = w' j) → (sins D d i w).2 j = (sins D d i w').2 j := by
  intro i
  induction i with
  | zero => intro w w' _; exact ⟨rfl, fun j _ h => h⟩
  | succ i ih =>
    intro w w' h
    unfold sins
    rw [← h i (by omega)]
    by_cases c : D (w i * 10 + 0) ≤ D (d * 10 + 0)
    · rw [if_pos c, if_pos c]; exact ⟨rfl, fun j _ hj => hj⟩
    · rw [if_neg c, if_neg c]
      have := ih (wup w (i + 1) (w i)) (wup w' (i + 1) (w i)) (fun j hj => by unfold wup; rw [if_neg (by omega), if_neg (by omega)]; exact h j (by omega))
      refine ⟨this.1, fun j hj hjw => this.2 j hj ?_⟩
      unfold wup
      split
      · rfl
      · exact hjw
/-- entries behind the one that is put in are those that stood there, one place on -/
theorem sins_g (D : Nat → Int32) (d : Nat) : ∀ (i : Nat) (w w' : Nat → Nat), (∀ j : Nat, j < i → w j = w' j) → ∀ j : Nat, j ≤ i → j ≠ (sins D d i w).1 → (sins D d i w).2 j = (sins D d i w').2 j := by
  intro i
  induction i with
  | zero => intro w w' _ j hj hne; exact absurd (show j = 0 by omega) hne
  | succ i ih =>
    intro w w' h j hj hne
    unfold sins at hne ⊢
    rw [← h i (by omega)]
    by_cases c : D (w i * 10 + 0) ≤ D (d * 10 + 0)
    · rw [if_pos c] at hne
      rw [if_pos c, if_pos c]
      have hne : j ≠ i + 1 := hne
      exact h j (by omega)
    · rw [if_neg c] at hne
      rw [if_neg c, if_neg c]
      have hh : ∀ q : Nat, q < i → wup w (i + 1) (w i) q = wup w' (i + 1) (w i) q := fun q hq => by unfold wup; rw [if_neg (by omega), if_neg (by omega)]; exact h q (by omega)
      by_cases e : j = i + 1
      · exact (sins_c D d i _ _ hh).2 j hne (by unfold wup; rw [if_pos e, if_pos e])
      · exact ih _ _ hh j (by omega) hne
theorem srow_c (D : Nat → Int32) : ∀ (m d : Nat) (w w' : Nat → Nat), (∀ j : Nat, j < d → w j = w' j) → ∀ j : Nat, j < d + m → srow D m d w j = srow D m d w' j := by
  intro m
  induction m with
  | zero => intro d w w' h j hj; exact h j (by omega)
  | succ m ih =>
    intro d w w' h j hj
    refine ih (d + 1) _ _ (fun q hq => ?_) j (by omega)
    have hc := sins_c D d d w w' h
    unfold wup
    rw [← hc.1]
    by_cases e : q = (sins D d d w).1
    · rw [if_pos e, if_pos e]
    · rw [if_neg e, if_neg e]
      exact sins_g D d d w w' h q (by omega) e
theorem plt_c (D : Nat → Int32) {w w' : Nat → Nat} {n : Nat} (h : ∀ j : Nat, j < n → w j = w' j) : ∀ (l a : Nat), a + l ≤ n → plt D w l a = plt D w' l a := by
  intro l
  induction l with
  | zero => intro a _; rfl
  | succ l ih =>
    intro a ha
    unfold plt
    rw [ih a (by omega), ih (a + 1) (by omega), h a (by omega), h (a + l) (by omega)]
end Q11T
