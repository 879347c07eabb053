/-! numbers: small helps -/
section QHELP
theorem h_nn {j : Nat} (hj : j < 2 ^ 31) : ¬ nI j < 0 := fun q => by
  have : nI j < nI 0 := q
  rw [nI_ltI hj (by decide)] at this
  omega
theorem h_nle {a b : Nat} (h : a < b) (hb : b < 2 ^ 31) : ¬ nI b ≤ nI a := fun q => by
  rw [nI_leI hb (by omega)] at q
  omega
theorem h_vin {i : Int32} {n : Nat} (hn : n < 2 ^ 31) (h0 : ¬ i < 0) (h1 : ¬ Int32.ofNat n ≤ i) : vp_in i n := by
  rcases pk_ix i hn with q | q | ⟨j, hj, rfl⟩
  · exact absurd q h0
  · exact absurd q h1
  · exact vp_in_nI hj hn
theorem h_ix (a b c : Nat) : nI a * nI c + nI b = nI (a * c + b) := by rw [pk_mul, nI_add]
theorem h_tn {n : Nat} (h : n < 2 ^ 31) : (nI n).toNatClampNeg = n := pk_cl n rfl h
def qb (b : Bool) : Int32 := bif b then 1 else 0
theorem qb_n (b : Bool) : narrow .boolean (.int (qb b)) = .int (qb b) := by cases b <;> rfl
theorem qb_0 {b : Bool} : qb b = 0 ↔ b = false := by cases b <;> decide
theorem qb_1 {b : Bool} : ¬ qb b = 0 ↔ b = true := by cases b <;> decide
theorem upd_s {f : Nat → Int32} {k : Nat} {x : Int32} : upd f k x k = x := if_pos rfl
theorem upd_n {f : Nat → Int32} {k j : Nat} {x : Int32} (h : j ≠ k) : upd f k x j = f j := if_neg h
def iapart (a b : Int32) : Int32 := if b < a then a - b else b - a
end QHELP
section QHELP2
theorem qup_qup {f : Nat → Option qE} {k : Nat} {e e' : qE} : qup (qup f k e) k e' = qup f k e' := by
  funext j
  unfold qup
  split <;> rfl
theorem qup_comm {f : Nat → Option qE} {k j : Nat} {e e' : qE} (h : k ≠ j) : qup (qup f k e) j e' = qup (qup f j e') k e := by
  funext i
  unfold qup
  by_cases h1 : i = j
  · subst h1
    rw [if_pos rfl, if_neg (Ne.symm h), if_pos rfl]
  · rw [if_neg h1, if_neg h1]
end QHELP2
