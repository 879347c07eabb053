section Q12Z
/-- the model amid a text: what stays, where it reads, the rows that it writes -/
def VT (Z : List Nat) (c1 w1 : Nat) (f1 : Nat → Int32) (c2 w2 : Nat) (f2 : Nat → Int32) (h0 hX : qH) (x0 x' : Nat → Int32) (y : Nat → Int64) (n : Nat) (s : PS) : Prop := hX.2 63 = some (M63 x' y) ∧ same h0 hX Z ∧ (∀ k : Nat, k ∉ [2, 3, 4, 5, 6, 7, 8, 30] → x' k = x0 k) ∧ x' 2 = 0 ∧ mT x' n s ∧ hX.2 c1 = some (aI' w1 f1) ∧ hX.2 c2 = some (aI' w2 f2)
theorem VT.st {Z : List Nat} {c1 w1 : Nat} {f1 : Nat → Int32} {c2 w2 : Nat} {f2 : Nat → Int32} {h0 hX h' : qH} {x0 x' : Nat → Int32} {y : Nat → Int64} {n : Nat} {s s' : PS} {Y : List Nat} (hV : VT Z c1 w1 f1 c2 w2 f2 h0 hX x0 x' y n s) (hp : mP hX h' x' y Y n s') (hz : ∀ k : Nat, k ∈ Y → k = 4 ∨ k = 5 ∨ k = 6) (h63 : 63 ∈ Z) (h1 : c1 ≠ 63) (h2 : c2 ≠ 63) : ∃ x2 : Nat → Int32, VT Z c1 w1 f1 c2 w2 f2 h0 h' x0 x2 y n s' ∧ x2 7 = x' 7 ∧ x2 30 = x' 30 := by
  obtain ⟨a1, a2, a3, a4, a5, a6, a7⟩ := hV
  obtain ⟨x2, g1, g2, g3, g4⟩ := hp
  have e : ∀ k : Nat, ¬ (k = 4 ∨ k = 5 ∨ k = 6) → x2 k = x' k := fun k hk => g3 k (fun q => hk (hz k q))
  refine ⟨x2, ⟨g1, same.tr a2 g2 (fun j hj => hj) (fun j hj => by simp at hj; subst hj; exact h63), fun k hk => ?_, (e 2 (by decide)).trans a4, g4, (g2.2 c1 (by simpa using h1)).trans a6, (g2.2 c2 (by simpa using h2)).trans a7⟩, e 7 (by decide), e 30 (by decide)⟩
  rw [e k (fun q => hk (by rcases q with rfl | rfl | rfl <;> decide))]
  exact a3 k hk
theorem Rel.plan {S : CS} {x x' : Nat → Int32} {F F' : Nat → Nat → Int32} (hR : Rel S x F) {v : Int32} {P' : Nat → Int32} {i : Nat} (h2' : x' 2 = 0) (h8' : x' 8 = v) (h36n : x' 36 = nI i) (h62n : x' 62 = 0) (hx : ∀ k : Nat, k ∈ [19, 20, 21, 22, 23, 37, 64] → x' k = x k) (hF : ∀ j : Nat, j ∈ [64, 65, 67, 69, 72, 73, 74, 80, 90, 91] → F' j = F j) (h78 : ag (i * 3) (F' 78) P') : Rel ((S.1.1, 0, v), (S.2.1.1, P', S.2.1.2.2.1, S.2.1.2.2.2.1, i, 0, S.2.1.2.2.2.2.2.2), S.2.2) x' F' := by
  obtain ⟨⟨h2, h8, h19, h20, h21, h22, h23', h36', h37, h62', h64'⟩, hbt, ⟨hd, hc, hp⟩, hl, hy, hr, hm, hi⟩ := hR
  have e := fun k hk => hx k hk
  have f := fun k hk => hF k hk
  unfold Rel
  rw [e 19 (by decide), e 20 (by decide), e 21 (by decide), e 22 (by decide), e 23 (by decide), e 37 (by decide), e 64 (by decide), f 64 (by decide), f 65 (by decide), f 67 (by decide), f 69 (by decide), f 72 (by decide), f 73 (by decide), f 74 (by decide), f 80 (by decide), f 91 (by decide), h2', h8', h36n, h62n]
  exact ⟨⟨rfl, rfl, h19, h20, h21, h22, h23', rfl, h37, rfl, h64'⟩, hbt, ⟨hd, hc, h78⟩, hl, hy, hr, trivial, hi⟩
theorem tOK_g {he m : Nat} {v : Int32} (hv : nI m < v) : tOK he (nI m) v = false := by
  unfold tOK
  rw [show wi 0 (nI m) v = false by rw [wi, decide_eq_false (Int32.not_le.mpr hv), Bool.and_false]]; rfl
theorem tOK_t {he m : Nat} {v : Int32} (h0 : ¬ v < 0) (h1 : ¬ nI he < v) (h2 : ¬ nI m < v) : tOK he (nI m) v = true := by
  unfold tOK
  rw [wi, decide_eq_true (Int32.not_lt.mp h0), decide_eq_true (Int32.not_lt.mp h1), decide_eq_true (Int32.not_lt.mp h2)]; rfl
section
variable {F : Nat → Int32} {n : Nat} {f : Nat → Nat} {len : Nat}
theorem pprun_b {N : Nat} {r : PS × PD} (h : pbad r.1 = true) (m i : Nat) : pprun F n f len N m i r = r := by
  cases m with
  | zero => rfl
  | succ m =>
    obtain ⟨s, V⟩ := r
    cases s with
    | inl e => rfl
    | inr a => cases h
theorem pln1_b {N i q a : Nat} {P : Nat → Int32} (h : pbad (pnumS F n 0 (nI N - 1) (.inr a)) = true) : pln1 F n N i q P (.inr a) = pnumS F n 0 (nI N - 1) (.inr a) := by
  unfold pln1
  cases e : pnumS F n 0 (nI N - 1) (.inr a) with
  | inr b => rw [e] at h; cases h
  | inl z => split <;> split <;> rfl
theorem pln1_h {N i q a : Nat} {P : Nat → Int32} (h : lhas P (pnum F n 0 (nI N - 1) (.inr a)).2 0 i = true) : pln1 F n N i q P (.inr a) = pfail 2 q (pnumS F n 0 (nI N - 1) (.inr a)) := by
  unfold pln1
  rw [if_pos h]
  split
  · cases pnumS F n 0 (nI N - 1) (.inr a) <;> rfl
  · rfl
theorem pln1_g {N i q a : Nat} {P : Nat → Int32} (h : ¬ lhas P (pnum F n 0 (nI N - 1) (.inr a)).2 0 i = true) (hi : i < 10) : pln1 F n N i q P (.inr a) = pnumS F n 0 (nI N - 1) (.inr a) := by
  unfold pln1
  rw [if_neg h, if_neg (by omega)]
theorem pln1_f {N i q a : Nat} {P : Nat → Int32} (h : pbad (pln1 F n N i q P (.inr a)) = false) : pbad (pnumS F n 0 (nI N - 1) (.inr a)) = false ∧ ¬ lhas P (pnum F n 0 (nI N - 1) (.inr a)).2 0 i = true ∧ i < 10 := by
  unfold pln1 at h
  have c2 : ¬ 10 ≤ i := fun q => by rw [if_pos q, pbad_fail] at h; cases h
  rw [if_neg c2] at h
  have c1 : ¬ lhas P (pnum F n 0 (nI N - 1) (.inr a)).2 0 i = true := fun q => by rw [if_pos q, pbad_fail] at h; cases h
  rw [if_neg c1] at h
  exact ⟨h, c1, by omega⟩
theorem pring_le (hr : rbr f len) {b : Nat} (hb : b ≤ n) (hn : n ≤ 600) (h : pbad (psign F n 59 (pring F n f len (.inr b)).1) = false) : ∃ r : Nat, r ≤ 2 ∧ (pring F n f len (.inr b)).2 = nI r := by
  by_cases c1 : mword F n (sk F n b) = nI (wpk 23)
  · exact ⟨1, by decide, by rw [pring_1 hr hb hn c1]; rfl⟩
  · by_cases c2 : mword F n (sk F n b) = nI (wpk 24)
    · exact ⟨2, by decide, by rw [pring_2 hr hb hn c2]; rfl⟩
    · exact ⟨0, by decide, by rw [(pring_0 hr hb hn c1 c2).2 h]; rfl⟩
end
end Q12Z
