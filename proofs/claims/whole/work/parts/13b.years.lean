section Q13B
theorem Rel.book {S : CS} {x x' : Nat → Int32} {F F' : Nat → Nat → Int32} (hR : Rel S x F) {v : Int32} {C1 C2 : Nat → Int32} {i : Nat} (h2' : x' 2 = 0) (h8' : x' 8 = v) (h37n : x' 37 = nI i) (hx : ∀ k : Nat, k ∈ [19, 20, 21, 22, 23, 36, 62, 64] → x' k = x k) (hF : ∀ j : Nat, j ∈ [64, 65, 67, 69, 72, 73, 74, 78, 90, 91] → F' j = F j) (h80 : ∀ j : Nat, j < i → F' 80 (2 * j) = C1 j ∧ F' 80 (2 * j + 1) = C2 j) : Rel ((S.1.1, 0, v), S.2.1, S.2.2.1, S.2.2.2.1, S.2.2.2.2.1, (C1, C2, i), S.2.2.2.2.2.2) x' F' := by
  obtain ⟨⟨h2, h8, h19, h20, h21, h22, h23', h36', h37, h62', h64'⟩, hbt, h3, hl, hy, hr, hm, hi⟩ := hR
  have e := fun k hk => hx k hk
  have f := fun k hk => hF k hk
  unfold Rel
  rw [e 19 (by decide), e 20 (by decide), e 21 (by decide), e 22 (by decide), e 23 (by decide), e 36 (by decide), e 62 (by decide), e 64 (by decide), f 64 (by decide), f 65 (by decide), f 67 (by decide), f 69 (by decide), f 72 (by decide), f 73 (by decide), f 74 (by decide), f 78 (by decide), f 90 (by decide), f 91 (by decide), h2', h8', h37n]
  exact ⟨⟨rfl, rfl, h19, h20, h21, h22, h23', h36', rfl, h62', h64'⟩, hbt, h3, hl, h80, hr, hm, hi⟩
section
variable {F : Nat → Int32} {n : Nat}
theorem psign_k {w : Int32} {a : Nat} (ha : a ≤ n) : psign F n w (.inr (sk F n a)) = psign F n w (.inr a) := by
  show (if tby F n (sk F n (sk F n a)) = w then (.inr (sk F n (sk F n a) + 1) : PS) else .inl (1, sk F n (sk F n a))) = _
  rw [sk_sk F ha]
  rfl
theorem pbrun_b {N : Nat} {r : PS × BD} (h : pbad r.1 = true) (m i : Nat) : pbrun F n N m i r = r := by
  cases m with
  | zero => rfl
  | succ m =>
    obtain ⟨s, V⟩ := r
    cases s with
    | inl e => rfl
    | inr a => cases h
theorem pyd_b {N i : Nat} {r : PS × Int32} (h : pbad r.1 = true) (m : Nat) : pyd F n N i m r = r := by
  cases m with
  | zero => rfl
  | succ m =>
    obtain ⟨s, V⟩ := r
    cases s with
    | inl e => rfl
    | inr a => cases h
theorem pyst_b {N i b : Nat} {d : Int32} (h : pbad (pnumS F n 0 (nI N - 1) (.inr b)) = true) : (pyst F n N i b d).1 = pnumS F n 0 (nI N - 1) (.inr b) := by
  unfold pyst
  cases e : pnumS F n 0 (nI N - 1) (.inr b) with
  | inr z => rw [e] at h; cases h
  | inl z =>
    dsimp only
    split <;> split <;> rfl
theorem pyst_d {N i b : Nat} {d : Int32} (h : ¬ (d >>> ((pnum F n 0 (nI N - 1) (.inr b)).2 &&& 31)) &&& 1 = 0) : (pyst F n N i b d).1 = pfail 2 (sk F n b) (pnumS F n 0 (nI N - 1) (.inr b)) := by
  unfold pyst
  rw [if_neg h]
  dsimp only
  split
  · cases pnumS F n 0 (nI N - 1) (.inr b) <;> rfl
  · rfl
theorem pyst_8 {N i b : Nat} {d : Int32} (h : (d >>> ((pnum F n 0 (nI N - 1) (.inr b)).2 &&& 31)) &&& 1 = 0) (hi : 8 ≤ i) : (pyst F n N i b d).1 = pfail 3 (sk F n b) (pnumS F n 0 (nI N - 1) (.inr b)) := by
  unfold pyst
  rw [if_pos h]
  exact if_pos hi
theorem pyst_g {N i b : Nat} {d : Int32} (h : (d >>> ((pnum F n 0 (nI N - 1) (.inr b)).2 &&& 31)) &&& 1 = 0) (hi : i < 8) : pyst F n N i b d = (pnumS F n 0 (nI N - 1) (.inr b), d ||| 1 <<< ((pnum F n 0 (nI N - 1) (.inr b)).2 &&& 31)) := by
  unfold pyst
  rw [if_pos h, if_neg (by omega)]
theorem isdg_h (F : Nat → Int32) (n q : Nat) : wi 48 57 (hch F n q) = isdg (tby F n q) := by
  show isdg (hch F n q) = _
  unfold hch
  split
  · rfl
  · rw [tby_end (by omega)]; rfl
theorem hch_61 {F : Nat → Int32} {n q : Nat} : hch F n q = 61 ↔ tby F n q = 61 := by
  unfold hch
  split
  · exact Iff.rfl
  · rw [tby_end (by omega)]
    exact ⟨fun h => absurd h (by decide), fun h => absurd h (by decide)⟩
end
end Q13B
