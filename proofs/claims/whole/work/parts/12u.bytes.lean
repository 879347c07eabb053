section Q12U
theorem b255_hi : ∀ k : Fin 32, 8 ≤ k.val → (255#32)[k.val] = false := by decide
theorem b255 (x : Int32) : x.toInt8.toInt32 &&& 255 = x &&& 255 := by
  apply Int32.toBitVec_inj.mp
  simp only [Int32.toBitVec_and, Int8.toBitVec_toInt32, Int32.toBitVec_toInt8]
  ext i hi
  rcases (show i < 8 ∨ 8 ≤ i by omega) with c | c
  · simp [BitVec.getElem_signExtend, c, hi]
  · have q := b255_hi ⟨i, hi⟩ c
    have q2 : (255#32)[i] = false := q
    simp [q2]
theorem bby_255 (v : Int32) (i : Nat) : bby v i &&& 255 = (v >>> (shf i &&& 31)) &&& 255 := by
  have e : ∀ z : Int32, vp_nar .byte z = z.toInt8.toInt32 := fun z => rfl
  unfold bby
  rw [e, b255, b255]
theorem shf_m (i : Nat) (hi : i < 20) : (24 - 8 * (nI i - nI i / 4 * 4) : Int32) = shf (i % 4) := by
  rcases (show i = 0 ∨ i = 1 ∨ i = 2 ∨ i = 3 ∨ i = 4 ∨ i = 5 ∨ i = 6 ∨ i = 7 ∨ i = 8 ∨ i = 9 ∨ i = 10 ∨ i = 11 ∨ i = 12 ∨ i = 13 ∨ i = 14 ∨ i = 15 ∨ i = 16 ∨ i = 17 ∨ i = 18 ∨ i = 19 by omega) with rfl | rfl | rfl | rfl | rfl | rfl | rfl | rfl | rfl | rfl | rfl | rfl | rfl | rfl | rfl | rfl | rfl | rfl | rfl | rfl <;> decide
theorem bput_e (F : Nat → Int32) (p : Nat) (v : Int32) : ∀ (m j : Nat), bput F p v m j = if p ≤ j ∧ j < p + m then bby v (j - p) else F j := by
  intro m
  induction m with
  | zero => intro j; rw [if_neg (by omega)]; rfl
  | succ m ih =>
    intro j
    show upd (bput F p v m) (p + m) (bby v m) j = _
    unfold upd
    by_cases c : j = p + m
    · rw [if_pos c, if_pos (by omega), show j - p = m by omega]
    · rw [if_neg c, ih j]
      by_cases c2 : p ≤ j ∧ j < p + m
      · rw [if_pos c2, if_pos (by omega)]
      · rw [if_neg c2, if_neg (by omega)]
/-- the number that a byte comes from -/
def fsel (a b c d e : Int32) (i : Nat) : Int32 := if i < 4 then a else if i < 8 then b else if i < 12 then c else if i < 16 then d else e
theorem bfeed_e (F : Nat → Int32) (p : Nat) (a b c d e : Int32) (j : Nat) : bfeed F p a b c d e j = if p ≤ j ∧ j < p + 20 then bby (fsel a b c d e (j - p)) ((j - p) % 4) else F j := by
  unfold bfeed fsel
  rw [bput_e]
  by_cases c4 : p + 4 + 4 + 4 + 4 ≤ j ∧ j < p + 4 + 4 + 4 + 4 + 4
  · rw [if_pos c4, if_pos (by omega), if_neg (by omega), if_neg (by omega), if_neg (by omega), if_neg (by omega), show j - (p + 4 + 4 + 4 + 4) = (j - p) % 4 by omega]
  · rw [if_neg c4, bput_e]
    by_cases c3 : p + 4 + 4 + 4 ≤ j ∧ j < p + 4 + 4 + 4 + 4
    · rw [if_pos c3, if_pos (by omega), if_neg (by omega), if_neg (by omega), if_neg (by omega), if_pos (by omega), show j - (p + 4 + 4 + 4) = (j - p) % 4 by omega]
    · rw [if_neg c3, bput_e]
      by_cases c2 : p + 4 + 4 ≤ j ∧ j < p + 4 + 4 + 4
      · rw [if_pos c2, if_pos (by omega), if_neg (by omega), if_neg (by omega), if_pos (by omega), show j - (p + 4 + 4) = (j - p) % 4 by omega]
      · rw [if_neg c2, bput_e]
        by_cases c1 : p + 4 ≤ j ∧ j < p + 4 + 4
        · rw [if_pos c1, if_pos (by omega), if_neg (by omega), if_pos (by omega), show j - (p + 4) = (j - p) % 4 by omega]
        · rw [if_neg c1, bput_e]
          by_cases c0 : p ≤ j ∧ j < p + 4
          · rw [if_pos c0, if_pos (by omega), if_pos (by omega), show j - p = (j - p) % 4 by omega]
            exact congrArg (bby a) (by omega)
          · rw [if_neg c0, if_neg (by omega)]
/-- the bytes fed, so far -/
def fbt (T B : Nat → Int32) (p : Nat) (i : Nat) : Nat → Int32 := fun j => if p ≤ j ∧ j < p + i then B j &&& 255 else T j
theorem fbt_0 (T B : Nat → Int32) (p : Nat) : fbt T B p 0 = T := funext fun j => if_neg (by omega)
theorem fbt_s (T B : Nat → Int32) (p i : Nat) {v : Int32} (hv : v = B (p + i) &&& 255) : upd (fbt T B p i) (p + i) v = fbt T B p (i + 1) := by
  funext j
  unfold upd fbt
  by_cases c : j = p + i
  · rw [if_pos c, if_pos (by omega), hv, c]
  · by_cases c2 : p ≤ j ∧ j < p + i
    · rw [if_neg c, if_pos c2, if_pos (by omega)]
    · rw [if_neg c, if_neg c2, if_neg (by omega)]
theorem fbt_v (F : Nat → Int32) (p : Nat) (a b c d e : Int32) {i : Nat} (hi : i < 20) {v : Int32} (hv : v = fsel a b c d e i) : (v >>> ((24 - 8 * (nI i - nI i / 4 * 4)) &&& 31)) &&& 255 = bfeed F p a b c d e (p + i) &&& 255 := by
  rw [bfeed_e, if_pos (by omega), show p + i - p = i by omega, bby_255, hv, shf_m i hi]
end Q12U
