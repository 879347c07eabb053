section Q12H
theorem lput_e (P : Nat → Int32) (x : Nat) (p v r : Int32) (j : Nat) : lput P x p v r j = if j = x * 3 + 2 then r else if j = x * 3 + 1 then v else if j = x * 3 then p else P j := rfl
theorem ltake_e : ∀ (m i : Nat) (P : Nat → Int32) (j : Nat), ltake P i m j = if i * 3 ≤ j ∧ j < (i + m) * 3 then P (j + 3) else P j := by
  intro m
  induction m with
  | zero => intro i P j; rw [if_neg (by omega)]; rfl
  | succ m ih =>
    intro i P j
    show ltake _ (i + 1) m j = _
    rw [ih]
    by_cases c : (i + 1) * 3 ≤ j ∧ j < (i + 1 + m) * 3
    · rw [if_pos c, if_pos (by omega), lput_e, if_neg (by omega), if_neg (by omega), if_neg (by omega)]
    · rw [if_neg c, lput_e]
      by_cases c2 : j = i * 3 + 2
      · rw [if_pos c2, if_pos (by omega), c2]; exact congrArg P (by omega)
      · rw [if_neg c2]
        by_cases c1 : j = i * 3 + 1
        · rw [if_pos c1, if_pos (by omega), c1]; exact congrArg P (by omega)
        · rw [if_neg c1]
          by_cases c0 : j = i * 3
          · rw [if_pos c0, if_pos (by omega), c0]; exact congrArg P (by omega)
          · rw [if_neg c0, if_neg (by omega)]
theorem lins_e : ∀ (m i : Nat) (P : Nat → Int32) (j : Nat), m ≤ i → lins P m i j = if (i - m + 1) * 3 ≤ j ∧ j < (i + 1) * 3 then P (j - 3) else P j := by
  intro m
  induction m with
  | zero => intro i P j _; rw [if_neg (by omega)]; rfl
  | succ m ih =>
    intro i P j hm
    show lins _ m (i - 1) j = _
    rw [ih (i - 1) _ j (by omega)]
    by_cases c : (i - 1 - m + 1) * 3 ≤ j ∧ j < (i - 1 + 1) * 3
    · rw [if_pos c, if_pos (by omega), lput_e, if_neg (by omega), if_neg (by omega), if_neg (by omega)]
    · rw [if_neg c, lput_e]
      by_cases c2 : j = i * 3 + 2
      · rw [if_pos c2, if_pos (by omega), c2]; exact congrArg P (by omega)
      · rw [if_neg c2]
        by_cases c1 : j = i * 3 + 1
        · rw [if_pos c1, if_pos (by omega), c1]; exact congrArg P (by omega)
        · rw [if_neg c1]
          by_cases c0 : j = i * 3
          · rw [if_pos c0, if_pos (by omega), c0]; exact congrArg P (by omega)
          · rw [if_neg c0, if_neg (by omega)]
/-- two rounds that tell the same, as far as undoing looks -/
def RA (u : Nat) (R R' : RT) : Prop := (∀ j : Nat, j < 100 → R'.1 j = R.1 j) ∧ (∀ j : Nat, j < 30 → R'.2.1 j = R.2.1 j) ∧ (∀ j : Nat, j < 5 * u → R'.2.2.1 j = R.2.2.1 j) ∧ R'.2.2.2.1 = R.2.2.2.1 ∧ R'.2.2.2.2.1 = R.2.2.2.2.1 ∧ R'.2.2.2.2.2.2 = R.2.2.2.2.2.2
theorem RA.rf {u : Nat} {R : RT} : RA u R R := ⟨fun _ _ => rfl, fun _ _ => rfl, fun _ _ => rfl, rfl, rfl, rfl⟩
theorem lput_c {P P' : Nat → Int32} (h : ∀ j : Nat, j < 30 → P' j = P j) {x x' : Nat} {p p' v v' r r' : Int32} (hx : x' = x) (hp : p' = p) (hv : v' = v) (hr : r' = r) : ∀ j : Nat, j < 30 → lput P' x' p' v' r' j = lput P x p v r j := by
  intro j hj
  subst hx hp hv hr
  rw [lput_e, lput_e, h j hj]
theorem lins_c {P P' : Nat → Int32} (h : ∀ j : Nat, j < 30 → P' j = P j) {m i : Nat} (hm : m ≤ i) : ∀ j : Nat, j < 30 → lins P' m i j = lins P m i j := by
  intro j hj
  rw [lins_e m i P' j hm, lins_e m i P j hm, h j hj, h (j - 3) (by omega)]
theorem ROK.c {R R' : RT} {u : Nat} (h : ROK R) (hu : R'.2.2.2.2.2.1 ≤ 20) (a : RA u R R') : ROK R' := by
  obtain ⟨a1, a2, a3, a4, a5, a6⟩ := a
  obtain ⟨⟨h1, h2, h3⟩, h4, ⟨pf, vf, rf, h5, h6, h7⟩, h8, h9, h10⟩ := h
  refine ⟨⟨by rw [a4]; exact h1, by rw [a5]; exact h2, hu⟩, fun b f hb hf => ?_, ⟨pf, vf, rf, fun i hi => ?_, fun i hi => ?_, fun i j hi hj => ?_⟩, ?_, ?_, ?_⟩
  · rw [a4] at hb
    rw [a1 _ (by omega)]
    exact h4 b f hb hf
  · rw [a5] at hi
    rw [a2 _ (by omega), a2 _ (by omega), a2 _ (by omega)]
    exact h5 i hi
  · rw [a5] at hi
    rw [a4]; exact h6 i hi
  · rw [a5] at hi hj
    exact h7 i j hi hj
  · rw [a6]; exact h8
  · rw [a6]; exact h9
  · rw [a6]; exact h10
theorem mrow_c {Z Z' : Nat → Int32} {b b' : Nat} {R R' : RT} {u : Nat} (h : mrow Z b R) (hR : ROK R) (hz : ∀ j : Nat, j < 132 → Z' (b' + j) = Z (b + j)) (a : RA u R R') : mrow Z' b' R' := by
  obtain ⟨a1, a2, a3, a4, a5, a6⟩ := a
  obtain ⟨h1, h2, h3, h4⟩ := h
  have hn := hR.1.1
  have hk := hR.1.2.1
  refine ⟨fun j hj => ?_, fun j hj => ?_, ?_, ?_⟩
  · rw [a4] at hj
    rw [hz j (by omega), a1 j (by omega)]
    exact h1 j hj
  · rw [a5] at hj
    rw [Nat.add_assoc, hz (100 + j) (by omega), ← Nat.add_assoc, a2 j (by omega)]
    exact h2 j hj
  · rw [hz 130 (by omega), a5]; exact h3
  · rw [hz 131 (by omega), a6]; exact h4
theorem rbk_c {R R' R1 : RT} {u : Nat} (h : rbk R u R1) (a : RA (u + 1) R R') (hk : R.2.2.2.2.1 ≤ 10) : ∃ R1' : RT, rbk R' u R1' ∧ RA u R1 R1' := by
  obtain ⟨a1, a2, a3, a4, a5, a6⟩ := a
  have b0 := a3 (u * 5) (by omega)
  have b1 := a3 (u * 5 + 1) (by omega)
  have b2 := a3 (u * 5 + 2) (by omega)
  have b3 := a3 (u * 5 + 3) (by omega)
  have b4 := a3 (u * 5 + 4) (by omega)
  have bU : ∀ j : Nat, j < 5 * u → R'.2.2.1 j = R.2.2.1 j := fun j hj => a3 j (by omega)
  rcases h with ⟨h0, x, f, h1, h2, h3, h4, rfl⟩ | ⟨h0, x, h1, h3, rfl⟩ | ⟨h0, x, z, h1, h2, h3, h4, rfl⟩ | ⟨h0, x, h1, h2, h3, rfl⟩ | ⟨h0, rfl⟩
  · refine ⟨_, Or.inl ⟨by rw [b0]; exact h0, x, f, h1, h2, by rw [b1]; exact h3, by rw [b2]; exact h4, rfl⟩, fun j hj => ?_, a2, bU, a4, a5, a6⟩
    show upd R'.1 _ _ j = upd R.1 _ _ j
    unfold upd
    rw [b3, a1 j hj]
  · exact ⟨_, Or.inr (Or.inl ⟨by rw [b0]; exact h0, x, h1, by rw [b1]; exact h3, rfl⟩), a1, lput_c a2 rfl (a2 _ (by omega)) b2 b3, bU, a4, a5, a6⟩
  · exact ⟨_, Or.inr (Or.inr (Or.inl ⟨by rw [b0]; exact h0, x, z, h1, h2, by rw [b1]; exact h3, by rw [b2]; exact h4, rfl⟩)), a1, lput_c (lput_c a2 rfl (a2 _ (by omega)) (a2 _ (by omega)) (a2 _ (by omega))) rfl (a2 _ (by omega)) (a2 _ (by omega)) (a2 _ (by omega)), bU, a4, a5, a6⟩
  · refine ⟨_, Or.inr (Or.inr (Or.inr (Or.inl ⟨by rw [b0]; exact h0, x, by rw [a5]; exact h1, by rw [a5]; exact h2, by rw [b1]; exact h3, rfl⟩))), a1, ?_, bU, a4, by show R'.2.2.2.2.1 + 1 = R.2.2.2.2.1 + 1; rw [a5], a6⟩
    show ∀ j : Nat, j < 30 → lput (lins R'.2.1 (R'.2.2.2.2.1 - x) R'.2.2.2.2.1) x _ _ _ j = _
    rw [a5]
    exact lput_c (lins_c a2 (Nat.sub_le _ _)) rfl b2 b3 b4
  · refine ⟨_, Or.inr (Or.inr (Or.inr (Or.inr ⟨by rw [b0]; exact h0, rfl⟩))), a1, a2, bU, a4, a5, ?_⟩
    show (R'.2.2.2.2.2.2.1, R'.2.2.2.2.2.2.2.1, R'.2.2.1 (u * 5 + 1)) = _
    rw [a6, b1]
theorem rbk_k {R R1 : RT} {u : Nat} (h : rbk R u R1) : R1.2.2.2.2.2.1 = u ∧ R1.2.2.2.1 = R.2.2.2.1 := by
  rcases h with ⟨h0, x, f, h1, h2, h3, h4, rfl⟩ | ⟨h0, x, h1, h3, rfl⟩ | ⟨h0, x, z, h1, h2, h3, h4, rfl⟩ | ⟨h0, x, h1, h2, h3, rfl⟩ | ⟨h0, rfl⟩ <;> exact ⟨rfl, rfl⟩
/-- the past of rounds that tell the same -/
theorem mch_c {Z Z' : Nat → Int32} {b b' : Nat} : ∀ (u : Nat) (R R' : RT), ROK R → mch Z b u R → (∀ j : Nat, j < 132 * u → Z' (b' + j) = Z (b + j)) → RA u R R' → mch Z' b' u R' := by
  intro u
  induction u with
  | zero => intro R R' _ _ _ _; trivial
  | succ u ih =>
    intro R R' hR h hz a
    obtain ⟨R1, h1, h2, h3, h4⟩ := h
    obtain ⟨R1', g1, g2⟩ := rbk_c h1 a hR.1.2.1
    refine ⟨R1', g1, h2.c (by rw [(rbk_k g1).1]; have := h2.1.2.2; rw [(rbk_k h1).1] at this; exact this) g2, mrow_c h3 h2 (fun j hj => ?_) g2, ih R1 R1' h2 h4 (fun j hj => hz j (by omega)) g2⟩
    have := hz (132 * u + j) (by omega)
    rw [← Nat.add_assoc, ← Nat.add_assoc] at this
    exact this
end Q12H
