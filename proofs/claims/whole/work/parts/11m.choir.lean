section Q11M
theorem b_or (a b : Nat) : nI a ||| nI b = nI (a ||| b) := by
  rw [← Int32.toBitVec_inj]
  show BitVec.ofNat 32 a ||| BitVec.ofNat 32 b = BitVec.ofNat 32 (a ||| b)
  exact BitVec.ofNat_or.symm
theorem b_and (a b : Nat) : nI a &&& nI b = nI (a &&& b) := by
  rw [← Int32.toBitVec_inj]
  show BitVec.ofNat 32 a &&& BitVec.ofNat 32 b = BitVec.ofNat 32 (a &&& b)
  exact BitVec.ofNat_and.symm
theorem b_s : ∀ i : Nat, i < 31 → ((nI i &&& 31 : Int32).toBitVec.smod 32).toNat = i := by decide +kernel
theorem b_shl {i : Nat} (hi : i < 31) : (1 : Int32) <<< (nI i &&& 31) = nI (2 ^ i) := by
  have h2 : 2 ^ i ≤ 2 ^ 30 := Nat.pow_le_pow_right (by decide) (by omega)
  exact (pk_shlN (n := 1) (nI i &&& 31) i (b_s i hi) (by omega)).trans (by rw [Nat.one_mul])
/-- a bit of a number -/
theorem b_bit {b i : Nat} (hb : b < 2 ^ 31) (hi : i < 31) : (nI b >>> (nI i &&& 31)) &&& 1 = nI (if b.testBit i = true then 1 else 0) := by
  rw [pk_shrN hb (nI i &&& 31) i (b_s i hi), show (1 : Int32) = nI 1 from rfl, b_and, Nat.and_one_is_mod]
  congr 1
  rw [Nat.testBit_eq_decide_div_mod_eq]
  by_cases c : b / 2 ^ i % 2 = 1
  · rw [c]; rfl
  · rw [if_neg (by simpa using c)]; omega
/-- the number of these bits -/
def msk (f : Nat → Bool) : Nat → Nat
  | 0 => 0
  | n + 1 => msk f n ||| (if f n = true then 2 ^ n else 0)
theorem msk_lt (f : Nat → Bool) : ∀ n : Nat, msk f n < 2 ^ n := by
  intro n
  induction n with
  | zero => exact Nat.zero_lt_one
  | succ n ih =>
    have h2 : 2 ^ n < 2 ^ (n + 1) := by rw [Nat.pow_succ]; omega
    refine Nat.or_lt_two_pow (Nat.lt_trans ih h2) ?_
    split
    · exact h2
    · omega
theorem msk_bit (f : Nat → Bool) : ∀ n i : Nat, (msk f n).testBit i = (decide (i < n) && f i) := by
  intro n
  induction n with
  | zero => intro i; show Nat.testBit 0 i = _; rw [Nat.zero_testBit]; simp
  | succ n ih =>
    intro i
    show (msk f n ||| (if f n = true then 2 ^ n else 0)).testBit i = _
    rw [Nat.testBit_or, ih]
    by_cases c : f n = true
    · rw [if_pos c, Nat.testBit_two_pow]
      by_cases e : n = i
      · subst e; simp [c]
      · rw [decide_eq_false e, Bool.or_false]
        congr 1
        rw [decide_eq_decide]
        omega
    · rw [if_neg c, Nat.zero_testBit, Bool.or_false]
      by_cases e : i = n
      · subst e; simp [c]
      · congr 1
        rw [decide_eq_decide]
        omega
/-- the parts of those who are told by bits -/
def pmk (w : Nat → Bool) (pt : Nat → Nat) : Nat → Nat
  | 0 => 0
  | n + 1 => pmk w pt n ||| (if w n = true then 2 ^ pt n else 0)
theorem pmk_lt (w : Nat → Bool) (pt : Nat → Nat) (k : Nat) : ∀ n : Nat, (∀ i : Nat, i < n → pt i < k) → pmk w pt n < 2 ^ k := by
  intro n
  induction n with
  | zero => intro _; exact Nat.two_pow_pos k
  | succ n ih =>
    intro h
    refine Nat.or_lt_two_pow (ih (fun i hi => h i (by omega))) ?_
    split
    · exact Nat.pow_lt_pow_right (by decide) (h n (by omega))
    · exact Nat.two_pow_pos k
theorem pmk_bit (w : Nat → Bool) (pt : Nat → Nat) (p : Nat) : ∀ n : Nat, (pmk w pt n).testBit p = true ↔ ∃ i : Nat, i < n ∧ w i = true ∧ pt i = p := by
  intro n
  induction n with
  | zero =>
    show Nat.testBit 0 p = true ↔ _
    rw [Nat.zero_testBit]
    constructor
    · intro h; cases h
    · rintro ⟨i, hi, -⟩; omega
  | succ n ih =>
    show (pmk w pt n ||| (if w n = true then 2 ^ pt n else 0)).testBit p = true ↔ _
    rw [Nat.testBit_or, Bool.or_eq_true, ih]
    constructor
    · rintro (⟨i, hi, h1, h2⟩ | h)
      · exact ⟨i, by omega, h1, h2⟩
      · by_cases c : w n = true
        · rw [if_pos c, Nat.testBit_two_pow] at h
          exact ⟨n, by omega, c, of_decide_eq_true h⟩
        · rw [if_neg c, Nat.zero_testBit] at h; cases h
    · rintro ⟨i, hi, h1, h2⟩
      by_cases e : i = n
      · subst e
        right
        rw [if_pos h1, Nat.testBit_two_pow]
        exact decide_eq_true h2
      · left; exact ⟨i, by omega, h1, h2⟩
theorem cnoth_m (Q : Nat → Int32) (mi : Int32) : ∀ (m i : Nat), i + m ≤ 30 → cnoth Q mi i m (nI (msk (fun j => cthere Q j mi) i)) = nI (msk (fun j => cthere Q j mi) (i + m)) := by
  intro m
  induction m with
  | zero => intro i _; rfl
  | succ m ih =>
    intro i hi
    show cnoth Q mi (i + 1) m (nI (msk (fun j => cthere Q j mi) i) ||| (if cthere Q i mi = true then 1 <<< (nI i &&& 31) else 0)) = _
    rw [show i + (m + 1) = i + 1 + m by omega, ← ih (i + 1) (by omega)]
    congr 1
    show _ = nI (msk (fun j => cthere Q j mi) i ||| (if cthere Q i mi = true then 2 ^ i else 0))
    rw [← b_or]
    congr 1
    by_cases c : cthere Q i mi = true
    · rw [if_pos c, if_pos c, b_shl (by omega)]
    · rw [if_neg c, if_neg c]; rfl
/-- a choir in its bounds -/
def QOK (Q : Nat → Int32) (M : Nat) : Prop := M ≤ 8 ∧ ∀ a : Nat, a < M → (∃ v : Nat, v ≤ 99 ∧ Q (a * 4 + 0) = nI v) ∧ (∃ v : Nat, v ≤ 3 ∧ Q (a * 4 + 1) = nI v) ∧ (Q (a * 4 + 2) = -1 ∨ ∃ v : Nat, v ≤ 480 ∧ Q (a * 4 + 2) = nI v) ∧ ∃ v : Nat, v ≤ 9 ∧ Q (a * 4 + 3) = nI v
/-- a singer's part -/
def qpt (Q : Nat → Int32) (a : Nat) : Nat := (Q (a * 4 + 1)).toNatClampNeg
theorem QOK.pt {Q : Nat → Int32} {M a : Nat} (h : QOK Q M) (ha : a < M) : Q (a * 4 + 1) = nI (qpt Q a) ∧ qpt Q a ≤ 3 := by
  obtain ⟨v, hv, e⟩ := (h.2 a ha).2.1
  unfold qpt
  rw [e, h_tn (by omega)]
  exact ⟨rfl, hv⟩
theorem cneed_e (Q : Nat → Int32) (p : Int32) : ∀ (m i : Nat), cneed Q p i m = true ↔ ∃ j : Nat, i ≤ j ∧ j < i + m ∧ Q (j * 4 + 1) = p := by
  intro m
  induction m with
  | zero =>
    intro i
    constructor
    · intro h; cases h
    · rintro ⟨j, h1, h2, -⟩; omega
  | succ m ih =>
    intro i
    unfold cneed
    by_cases c : Q (i * 4 + 1) = p
    · rw [if_pos c]; exact ⟨fun _ => ⟨i, by omega, by omega, c⟩, fun _ => rfl⟩
    · rw [if_neg c, ih]
      constructor
      · rintro ⟨j, h1, h2, h3⟩; exact ⟨j, by omega, by omega, h3⟩
      · rintro ⟨j, h1, h2, h3⟩
        by_cases e : j = i
        · subst e; exact absurd h3 c
        · exact ⟨j, by omega, by omega, h3⟩
/-- the parts that one of all has -/
theorem need_bit {Q : Nat → Int32} {M p : Nat} (h : QOK Q M) (hp : p < 4) : (pmk (fun _ => true) (qpt Q) M).testBit p = cneed Q (nI p) 0 M := by
  rw [Bool.eq_iff_iff, pmk_bit, cneed_e]
  constructor
  · rintro ⟨i, hi, -, e⟩
    exact ⟨i, by omega, by omega, by rw [(h.pt hi).1, e]⟩
  · rintro ⟨j, -, hj, e⟩
    have hj : j < M := by omega
    refine ⟨j, hj, rfl, ?_⟩
    have := h.pt hj
    rw [this.1] at e
    exact (nI_eq (by omega) (by omega)).mp e
theorem csung_s (Q : Nat → Int32) (p v mi : Int32) : ∀ (m i : Nat) (s : Int32), csung Q p v mi i (m + 1) s = (if Q ((i + m) * 4 + 1) = p then (if cthere Q (i + m) mi = true then csung Q p v mi i m s + (if v ≤ Q ((i + m) * 4 + 0) then v else Q ((i + m) * 4 + 0)) else csung Q p v mi i m s) else csung Q p v mi i m s) := by
  intro m
  induction m with
  | zero => intro i s; rfl
  | succ m ih =>
    intro i s
    show csung Q p v mi (i + 1) (m + 1) _ = _
    rw [ih (i + 1), show i + 1 + m = i + (m + 1) by omega]
    rfl
/-- the parts that are needed have enough -/
def okr (B : Nat → Int32) (nd : Nat → Bool) (v : Int32) (p : Nat) : Nat → Bool
  | 0 => true
  | m + 1 => (!(decide (B p < v) && nd p)) && okr B nd v (p + 1) m
theorem ccan_e (Q : Nat → Int32) (M : Nat) (v mm mi sp : Int32) : ∀ (j p : Nat) (all : Int32), ccan Q M v mm mi sp p j all = (okr (fun q => csung Q (nI q) v mi 0 M 0) (fun q => !decide (nI q = sp) && cneed Q (nI q) 0 M) v p j && decide (mm * v ≤ (match j with | 0 => all | 1 => all + csung Q (nI p) v mi 0 M 0 | 2 => all + csung Q (nI p) v mi 0 M 0 + csung Q (nI (p + 1)) v mi 0 M 0 | 3 => all + csung Q (nI p) v mi 0 M 0 + csung Q (nI (p + 1)) v mi 0 M 0 + csung Q (nI (p + 2)) v mi 0 M 0 | 4 => all + csung Q (nI p) v mi 0 M 0 + csung Q (nI (p + 1)) v mi 0 M 0 + csung Q (nI (p + 2)) v mi 0 M 0 + csung Q (nI (p + 3)) v mi 0 M 0 | _ => 0))) ∨ 4 < j := by
  intro j
  have stp : ∀ (j p : Nat) (all : Int32) (X : Bool), ccan Q M v mm mi sp (p + 1) j (all + csung Q (nI p) v mi 0 M 0) = (okr (fun q => csung Q (nI q) v mi 0 M 0) (fun q => !decide (nI q = sp) && cneed Q (nI q) 0 M) v (p + 1) j && X) → ccan Q M v mm mi sp p (j + 1) all = (okr (fun q => csung Q (nI q) v mi 0 M 0) (fun q => !decide (nI q = sp) && cneed Q (nI q) 0 M) v p (j + 1) && X) := by
    intro j p all X h
    show (if _ then false else _) = (((!(decide (csung Q (nI p) v mi 0 M 0 < v) && (!decide (nI p = sp) && cneed Q (nI p) 0 M))) && _) && X)
    by_cases c : csung Q (nI p) v mi 0 M 0 < v ∧ ¬ nI p = sp ∧ cneed Q (nI p) 0 M = true
    · rw [if_pos c, decide_eq_true c.1, decide_eq_false c.2.1, c.2.2]; rfl
    · rw [if_neg c, h, Bool.and_assoc]
      have e : (decide (csung Q (nI p) v mi 0 M 0 < v) && (!decide (nI p = sp) && cneed Q (nI p) 0 M)) = false := by
        cases hh : (decide (csung Q (nI p) v mi 0 M 0 < v) && (!decide (nI p = sp) && cneed Q (nI p) 0 M)) with
        | false => rfl
        | true =>
          simp only [Bool.and_eq_true, decide_eq_true_eq, Bool.not_eq_true', decide_eq_false_iff_not] at hh
          exact absurd hh c
      rw [e]; rfl
  match j with
  | 0 => intro p all; left; show decide _ = _; rfl
  | 1 => intro p all; left; exact stp 0 p all _ rfl
  | 2 => intro p all; left; exact stp 1 p all _ (stp 0 (p + 1) _ _ rfl)
  | 3 => intro p all; left; exact stp 2 p all _ (stp 1 (p + 1) _ _ (stp 0 (p + 2) _ _ rfl))
  | 4 => intro p all; left; exact stp 3 p all _ (stp 2 (p + 1) _ _ (stp 1 (p + 2) _ _ (stp 0 (p + 3) _ _ rfl)))
  | j + 5 => intro p all; right; omega
/-- nothing can always be sung -/
theorem csung_0 {Q : Nat → Int32} {M : Nat} (h : QOK Q M) (p mi : Int32) : ∀ m : Nat, m ≤ M → csung Q p 0 mi 0 m 0 = 0 := by
  intro m
  induction m with
  | zero => intro _; rfl
  | succ m ih =>
    intro hm
    rw [csung_s, ih (by omega)]
    obtain ⟨v, hv, e⟩ := (h.2 (0 + m) (by omega)).1
    have e0 : (0 : Int32) ≤ Q ((0 + m) * 4 + 0) := by rw [e]; exact Int32.not_lt.mp (h_nn (by omega))
    rw [if_pos e0]
    split
    · split <;> rfl
    · rfl
theorem ccan_0 {Q : Nat → Int32} {M : Nat} (h : QOK Q M) (mm mi sp : Int32) : ccan Q M 0 mm mi sp 0 4 0 = true := by
  rcases ccan_e Q M 0 mm mi sp 4 0 0 with q | q
  · rw [q]
    simp only [csung_0 h _ mi M (Nat.le_refl _), okr, Int32.lt_irrefl, decide_false, Bool.false_and, Bool.not_false, Bool.true_and, Int32.mul_zero]
    rfl
  · omega
end Q11M
