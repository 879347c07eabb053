section Q12M
theorem INV.push {S : CS} (hI : INV S) {R' : RT} (h : ROK R') (hn : R'.2.2.2.1 = S.2.1.2.2.2.1) (hst : R'.2.2.2.2.2.2.1 = S.2.1.2.2.2.2.2.2.1) (hve : R'.2.2.2.2.2.2.2.1 = S.2.1.2.2.2.2.2.2.2.1) : INV (S.1, R', S.2.2) := by
  obtain ⟨h1, h2, h3, h4, h5, h6, h7⟩ := hI
  refine ⟨h1, h, h3, h4, h5, h6, fun q hq => ?_⟩
  obtain ⟨a, b, c, d⟩ := h7 q hq
  exact ⟨a, b.trans hn.symm, c.trans hst.symm, d.trans hve.symm⟩
theorem fmost_big (y : Nat) : fmost y < 2 ^ 31 := by
  unfold fmost
  split <;> decide
theorem ROK_change {R : RT} (hR : ROK R) (hu : R.2.2.2.2.2.1 < 20) {x y : Nat} (hy : y ≤ 9) {v : Int32} (hv : wi 0 (nI (fmost y)) v = true) (U : Nat → Int32) : ROK (upd R.1 (x * 10 + y) v, R.2.1, U, R.2.2.2.1, R.2.2.2.2.1, R.2.2.2.2.2.1 + 1, R.2.2.2.2.2.2) := by
  obtain ⟨⟨h1, h2, h3⟩, h4, h5, h6⟩ := hR
  refine ⟨⟨h1, h2, hu⟩, fun a f ha hf => ?_, h5, h6⟩
  show ∃ v' : Nat, v' ≤ fmost f ∧ upd R.1 (x * 10 + y) v (a * 10 + f) = nI v'
  by_cases c : a * 10 + f = x * 10 + y
  · obtain ⟨w, hw, ew⟩ := wi_nat (fmost_big y) hv
    have : f = y := by omega
    rw [c, this]
    exact ⟨w, hw, upd_s.trans ew⟩
  · rw [upd_n c]
    exact h4 a f ha hf
theorem ROK_sing {R : RT} (hR : ROK R) (hu : R.2.2.2.2.2.1 < 20) {x : Nat} {v r : Int32} (hv : wi 0 5 v = true) (hr : wi 0 2 r = true) (U : Nat → Int32) : ROK (R.1, lput R.2.1 x (R.2.1 (x * 3)) v r, U, R.2.2.2.1, R.2.2.2.2.1, R.2.2.2.2.2.1 + 1, R.2.2.2.2.2.2) := by
  obtain ⟨⟨h1, h2, h3⟩, h4, ⟨pf, vf, rf, h5, h6, h7⟩, h8⟩ := hR
  obtain ⟨vn, hvn, rfl⟩ := wi_nat (m := 5) (by decide) hv
  obtain ⟨rn, hrn, rfl⟩ := wi_nat (m := 2) (by decide) hr
  refine ⟨⟨h1, h2, hu⟩, h4, ⟨pf, fun i => if i = x then vn else vf i, fun i => if i = x then rn else rf i, fun i hi => ?_, h6, h7⟩, h8⟩
  obtain ⟨a, b, c⟩ := h5 i hi
  show (lput _ _ _ _ _ _ = _ ∧ _) ∧ (lput _ _ _ _ _ _ = nI (if i = x then vn else vf i) ∧ (if i = x then vn else vf i) ≤ 5) ∧ (lput _ _ _ _ _ _ = nI (if i = x then rn else rf i) ∧ (if i = x then rn else rf i) ≤ 2)
  rw [lput_e, lput_e, lput_e]
  by_cases q : i = x
  · subst q
    refine ⟨⟨?_, a.2⟩, ⟨?_, by rw [if_pos rfl]; exact hvn⟩, ⟨?_, by rw [if_pos rfl]; exact hrn⟩⟩
    · rw [if_neg (by omega), if_neg (by omega), if_pos (by omega)]; exact a.1
    · rw [if_neg (by omega), if_pos rfl, if_pos rfl]
    · rw [if_pos rfl, if_pos rfl]
  · rw [if_neg (show ¬ i * 3 + 0 = x * 3 + 2 by omega), if_neg (show ¬ i * 3 + 0 = x * 3 + 1 by omega), if_neg (show ¬ i * 3 + 0 = x * 3 by omega), if_neg (show ¬ i * 3 + 1 = x * 3 + 2 by omega), if_neg (show ¬ i * 3 + 1 = x * 3 + 1 by omega), if_neg (show ¬ i * 3 + 1 = x * 3 by omega), if_neg (show ¬ i * 3 + 2 = x * 3 + 2 by omega), if_neg (show ¬ i * 3 + 2 = x * 3 + 1 by omega), if_neg (show ¬ i * 3 + 2 = x * 3 by omega), if_neg q, if_neg q]
    exact ⟨a, b, c⟩
theorem ROK_swap {R : RT} (hR : ROK R) (hu : R.2.2.2.2.2.1 < 20) {x y : Nat} (hx : x < R.2.2.2.2.1) (hy : y < R.2.2.2.2.1) (hxy : x ≠ y) (U : Nat → Int32) : ROK (R.1, lxch R.2.1 x y, U, R.2.2.2.1, R.2.2.2.2.1, R.2.2.2.2.2.1 + 1, R.2.2.2.2.2.2) := by
  obtain ⟨⟨h1, h2, h3⟩, h4, ⟨pf, vf, rf, h5, h6, h7⟩, h8⟩ := hR
  have hs : ∀ i : Nat, i < R.2.2.2.2.1 → (if i = x then y else if i = y then x else i) < R.2.2.2.2.1 := by
    intro i hi
    split
    · exact hy
    · split
      · exact hx
      · exact hi
  refine ⟨⟨h1, h2, hu⟩, h4, ⟨fun i => pf (if i = x then y else if i = y then x else i), fun i => vf (if i = x then y else if i = y then x else i), fun i => rf (if i = x then y else if i = y then x else i), fun i hi => ?_, fun i hi => h6 _ (hs i hi), fun i j hi hj e => ?_⟩, h8⟩
  · have q := h5 _ (hs i hi)
    have e : ∀ w : Nat, w < 3 → lxch R.2.1 x y (i * 3 + w) = R.2.1 ((if i = x then y else if i = y then x else i) * 3 + w) := by
      intro w hw
      rw [lxch_e _ hxy]
      by_cases c : i = x
      · rw [if_pos c, if_pos (by omega)]
        exact congrArg R.2.1 (by omega)
      · rw [if_neg c, if_neg (by omega)]
        by_cases c2 : i = y
        · rw [if_pos c2, if_pos (by omega)]
          exact congrArg R.2.1 (by omega)
        · rw [if_neg c2, if_neg (by omega)]
    show (lxch _ _ _ _ = _ ∧ _) ∧ (lxch _ _ _ _ = _ ∧ _) ∧ (lxch _ _ _ _ = _ ∧ _)
    rw [e 0 (by decide), e 1 (by decide), e 2 (by decide)]
    exact q
  · have q := h7 _ _ (hs i hi) (hs j hj) e
    by_cases a : i = x
    · by_cases b : j = x
      · omega
      · rw [if_pos a, if_neg b] at q
        by_cases c : j = y
        · rw [if_pos c] at q; omega
        · rw [if_neg c] at q; omega
    · rw [if_neg a] at q
      by_cases a2 : i = y
      · rw [if_pos a2] at q
        by_cases b : j = x
        · rw [if_pos b] at q; omega
        · rw [if_neg b] at q
          by_cases c : j = y
          · omega
          · rw [if_neg c] at q; omega
      · rw [if_neg a2] at q
        by_cases b : j = x
        · rw [if_pos b] at q; omega
        · rw [if_neg b] at q
          by_cases c : j = y
          · rw [if_pos c] at q; omega
          · rw [if_neg c] at q; exact q
theorem ROK_skip {R : RT} (hR : ROK R) (hu : R.2.2.2.2.2.1 < 20) {x : Nat} (hx : x < R.2.2.2.2.1) (U : Nat → Int32) : ROK (R.1, ltake R.2.1 x (R.2.2.2.2.1 - 1 - x), U, R.2.2.2.1, R.2.2.2.2.1 - 1, R.2.2.2.2.2.1 + 1, R.2.2.2.2.2.2) := by
  obtain ⟨⟨h1, h2, h3⟩, h4, ⟨pf, vf, rf, h5, h6, h7⟩, h8⟩ := hR
  have hs : ∀ i : Nat, i < R.2.2.2.2.1 - 1 → (if i < x then i else i + 1) < R.2.2.2.2.1 := by
    intro i hi
    split <;> omega
  refine ⟨⟨h1, (by show R.2.2.2.2.1 - 1 ≤ 10; omega), hu⟩, h4, ⟨fun i => pf (if i < x then i else i + 1), fun i => vf (if i < x then i else i + 1), fun i => rf (if i < x then i else i + 1), fun i hi => ?_, fun i hi => h6 _ (hs i hi), fun i j hi hj e => ?_⟩, h8⟩
  · have q := h5 _ (hs i hi)
    replace hi : i < R.2.2.2.2.1 - 1 := hi
    have e : ∀ w : Nat, w < 3 → ltake R.2.1 x (R.2.2.2.2.1 - 1 - x) (i * 3 + w) = R.2.1 ((if i < x then i else i + 1) * 3 + w) := by
      intro w hw
      rw [ltake_e]
      by_cases c : i < x
      · rw [if_pos c, if_neg (by omega)]
      · rw [if_neg c, if_pos (by omega)]
        exact congrArg R.2.1 (by omega)
    show (ltake _ _ _ _ = _ ∧ _) ∧ (ltake _ _ _ _ = _ ∧ _) ∧ (ltake _ _ _ _ = _ ∧ _)
    rw [e 0 (by decide), e 1 (by decide), e 2 (by decide)]
    exact q
  · have q := h7 _ _ (hs i hi) (hs j hj) e
    by_cases a : i < x
    · rw [if_pos a] at q
      by_cases b : j < x
      · rw [if_pos b] at q; exact q
      · rw [if_neg b] at q; omega
    · rw [if_neg a] at q
      by_cases b : j < x
      · rw [if_pos b] at q; omega
      · rw [if_neg b] at q; omega
theorem ROK_until {R : RT} (hR : ROK R) (hu : R.2.2.2.2.2.1 < 20) {w : Int32} (hw : wi 0 480 w = true) (U : Nat → Int32) : ROK (R.1, R.2.1, U, R.2.2.2.1, R.2.2.2.2.1, R.2.2.2.2.2.1 + 1, R.2.2.2.2.2.2.1, R.2.2.2.2.2.2.2.1, w) := by
  obtain ⟨⟨h1, h2, h3⟩, h4, h5, h6, h7, h8⟩ := hR
  exact ⟨⟨h1, h2, hu⟩, h4, h5, h6, h7, wi_nat (m := 480) (by decide) hw⟩
end Q12M
