section Q08G
/-- where the reading stands: a fault (its kind, its place), or a place in the text -/
abbrev PS : Type := (Nat × Nat) ⊕ Nat
def sk (F : Nat → Int32) (n a : Nat) : Nat := skp F n (n - a) a
def pnr (F : Nat → Int32) (n a : Nat) : Nat × Int32 := nrun F n (n - sk F n a) (sk F n a) 0
def pnum (F : Nat → Int32) (n : Nat) (lo hi : Int32) (s : PS) : PS × Int32 := match s with
  | .inl e => (.inl e, 0)
  | .inr a => if (pnr F n a).1 = sk F n a then (.inl (1, sk F n a), 0) else if (pnr F n a).2 < lo ∨ hi < (pnr F n a).2 then (.inl (2, sk F n a), 0) else (.inr (pnr F n a).1, (pnr F n a).2)
def pfail (k q : Nat) (s : PS) : PS := match s with
  | .inl e => .inl e
  | .inr _ => .inl (k, q)
def psign (F : Nat → Int32) (n : Nat) (w : Int32) (s : PS) : PS := match s with
  | .inl e => .inl e
  | .inr a => if tby F n (sk F n a) = w then .inr (sk F n a + 1) else .inl (1, sk F n a)
def pwend (F : Nat → Int32) (n a : Nat) : Nat := lrun F n (n - sk F n a) (sk F n a)
def pword (F : Nat → Int32) (n : Nat) (f : Nat → Nat) (len a : Nat) : Int32 := twd F n f len (sk F n a) (pwend F n a)
def pbad (s : PS) : Bool := match s with
  | .inl _ => true
  | .inr _ => false
/-- the Tape at such a place; q: from -/
def cT (h : qH) (F : Nat → Int32) (n : Nat) (s : PS) (q : Nat) : Prop := ∃ (p : Nat) (ki pl : Int32), isT h 1 2 F 0 (nI n) (nI p) (nI q) ki pl ∧ p ≤ n ∧ n ≤ 600 ∧ q < 2 ^ 32 ∧ (match s with
  | .inl e => ki = nI e.1 ∧ pl = nI e.2 ∧ (1 ≤ e.1 ∧ e.1 ≤ 3)
  | .inr a => a = p ∧ ki = 0 ∧ pl = -1)
theorem cT.sm {h h' : qH} {F : Nat → Int32} {n q : Nat} {s : PS} {z : List Nat} (hT : cT h F n s q) (hs : same h h' z) (h1 : 1 ∉ z) (h2 : 2 ∉ z) : cT h' F n s q := by
  obtain ⟨p, ki, pl, hT, hr⟩ := hT
  exact ⟨p, ki, pl, ⟨(hs.2 _ h1).trans hT.1, (hs.2 _ h2).trans hT.2⟩, hr⟩
theorem sk_le (F : Nat → Int32) {n a : Nat} (h : a ≤ n) : a ≤ sk F n a ∧ sk F n a ≤ n := by
  have := skp_le F n (n - a) a
  unfold sk
  omega
theorem pnr_le (F : Nat → Int32) {n a : Nat} (h : a ≤ n) : sk F n a ≤ (pnr F n a).1 ∧ (pnr F n a).1 ≤ n := by
  have h1 := sk_le F h
  have := nrun_le F n (n - sk F n a) (sk F n a) 0
  unfold pnr
  omega
theorem pwend_le (F : Nat → Int32) {n a : Nat} (h : a ≤ n) : sk F n a ≤ pwend F n a ∧ pwend F n a ≤ n := by
  have h1 := sk_le F h
  have := lrun_le F n (n - sk F n a) (sk F n a)
  unfold pwend
  omega
theorem cT_ne {k : Nat} (h1 : 1 ≤ k) (h3 : k ≤ 3) : ¬ nI k = 0 := by
  rcases (show k = 1 ∨ k = 2 ∨ k = 3 by omega) with rfl | rfl | rfl <;> decide
theorem T1_same {h : qH} {he en po fr ki pl : Int32} : same h (sT h 1 2 he en po fr ki pl) [1] := same.up (by simp)
theorem cT_number {g : qG} (hg : qOK g) {h : qH} {F : Nat → Int32} {n q : Nat} {s : PS} (hT : cT h F n s q) (lo hi : Int32) : qSpec g 3 0 0 mX8_number [.ref 1, .int lo, .int hi] h (fun r h' => r = some (.int (pnum F n lo hi s).2) ∧ same h h' [1] ∧ ∃ q' : Nat, (∀ a, s = .inr a → q' = sk F n a) ∧ cT h' F n (pnum F n lo hi s).1 q') := by
  obtain ⟨p, ki, pl, hT, hp, hn, hq, hs⟩ := hT
  have hb := sk_le F hp
  have hr := pnr_le F hp
  refine qSpec_mono (T_number hg hT hn hp lo hi) ?_
  intro r h' hy
  obtain ⟨hr0, rfl⟩ := hy
  have hT' := hT.set 0 (nI n) (nI (pnr F n p).1) (nI (sk F n p)) (tnk lo hi ki (sk F n p) (pnr F n p)) (tnp lo hi ki pl (sk F n p) (pnr F n p))
  refine ⟨?_, T1_same, sk F n p, ?_, (pnr F n p).1, _, _, hT', hr.2, hn, by omega, ?_⟩
  · rw [hr0]
    show some (Value.int (if tnk lo hi ki (sk F n p) (pnr F n p) = 0 then (pnr F n p).2 else 0)) = _
    match s, hs with
    | .inl e, ⟨h1, h2, h3, h4⟩ =>
      have hne : ¬ ki = 0 := by rw [h1]; exact cT_ne h3 h4
      rw [show tnk lo hi ki (sk F n p) (pnr F n p) = ki from by unfold tnk; simp only [if_neg hne, ite_self], if_neg hne]
      rfl
    | .inr a, ⟨h1, h2, h3⟩ =>
      subst h1; subst h2
      unfold tnk pnum
      by_cases c : (pnr F n a).1 = sk F n a
      · simp only [if_pos c]
        split <;> rfl
      · simp only [if_neg c]
        by_cases c2 : (pnr F n a).2 < lo ∨ hi < (pnr F n a).2
        · simp only [if_pos c2]; rfl
        · simp only [if_neg c2]; rfl
  · intro a e
    match s, hs, e with
    | .inr a, ⟨h1, _⟩, rfl => rw [h1]
  · match s, hs with
    | .inl e, ⟨h1, h2, h3, h4⟩ =>
      have hne : ¬ ki = 0 := by rw [h1]; exact cT_ne h3 h4
      have e1 : tnk lo hi ki (sk F n p) (pnr F n p) = ki := by unfold tnk; simp only [if_neg hne, ite_self]
      have e2 : tnp lo hi ki pl (sk F n p) (pnr F n p) = pl := by unfold tnp; simp only [if_neg hne, ite_self]
      exact ⟨e1.trans h1, e2.trans h2, h3, h4⟩
    | .inr a, ⟨h1, h2, h3⟩ =>
      subst h1; subst h2
      unfold tnk tnp pnum
      by_cases c : (pnr F n a).1 = sk F n a
      · simp only [if_pos c]
        by_cases c2 : (pnr F n a).2 < lo ∨ hi < (pnr F n a).2
        · simp only [if_pos c2]; exact ⟨rfl, rfl, by decide, by decide⟩
        · simp only [if_neg c2]; exact ⟨rfl, rfl, by decide, by decide⟩
      · simp only [if_neg c]
        by_cases c2 : (pnr F n a).2 < lo ∨ hi < (pnr F n a).2
        · simp only [if_pos c2]; exact ⟨rfl, rfl, by decide, by decide⟩
        · simp only [if_neg c2]; exact ⟨trivial, trivial, h3⟩
theorem cT_sign {g : qG} (hg : qOK g) {h : qH} {F : Nat → Int32} {n q : Nat} {s : PS} (hT : cT h F n s q) (w : Int32) (hw : ¬ w = -1) : qSpec g 3 0 0 mX8_sign [.ref 1, .int w] h (fun r h' => r = none ∧ same h h' [1] ∧ cT h' F n (psign F n w s) q) := by
  obtain ⟨p, ki, pl, hT, hp, hn, hq, hs⟩ := hT
  have hb := sk_le F hp
  refine qSpec_mono (T_sign hg hT hn (by omega) w) ?_
  intro r h' hy
  obtain ⟨rfl, rfl⟩ := hy
  have hlt : tby F n (sk F n p) = w → sk F n p < n := fun e => by
    by_cases c : sk F n p < n
    · exact c
    · rw [tby_end (by omega)] at e
      exact absurd e.symm hw
  refine ⟨rfl, T1_same, _, _, _, hT.set _ _ _ _ _ _, ?_, hn, hq, ?_⟩
  · show (if tby F n (sk F n p) = w then sk F n p + 1 else sk F n p) ≤ n
    split
    · have := hlt (by assumption); omega
    · exact hb.2
  · match s, hs with
    | .inl e, ⟨h1, h2, h3, h4⟩ =>
      have hne : ¬ ki = 0 := by rw [h1]; exact cT_ne h3 h4
      rw [if_pos (Or.inr hne), if_pos (Or.inr hne)]
      exact ⟨h1, h2, h3, h4⟩
    | .inr a, ⟨h1, h2, h3⟩ =>
      subst h1; subst h2
      by_cases c : tby F n (sk F n a) = w
      · rw [show psign F n w (.inr a) = .inr (sk F n a + 1) from if_pos c]
        exact ⟨(if_pos c).symm, if_pos (Or.inl c), (if_pos (Or.inl c)).trans h3⟩
      · have c2 : ¬ (tby F n (sk F n a) = w ∨ ¬ (0 : Int32) = 0) := fun z => z.elim c (fun z => z rfl)
        rw [show psign F n w (.inr a) = .inl (1, sk F n a) from if_neg c]
        exact ⟨if_neg c2, if_neg c2, Nat.le_refl _, (by decide : (1 : Nat) ≤ 3)⟩
theorem cT_fail {g : qG} (hg : qOK g) {h : qH} {F : Nat → Int32} {n q : Nat} {s : PS} (hT : cT h F n s q) (k e : Nat) (hk : 1 ≤ k ∧ k ≤ 3) : qSpec g 1 0 0 mX8_fail [.ref 1, .int (nI k), .int (nI e)] h (fun r h' => r = none ∧ same h h' [1] ∧ cT h' F n (pfail k e s) q) := by
  obtain ⟨p, ki, pl, hT, hp, hn, hq, hs⟩ := hT
  refine qSpec_mono (T_fail hg hT (nI k) (nI e)) ?_
  intro r h' hy
  obtain ⟨rfl, rfl⟩ := hy
  refine ⟨rfl, T1_same, p, _, _, hT.set _ _ _ _ _ _, hp, hn, hq, ?_⟩
  match s, hs with
  | .inl e, ⟨h1, h2, h3, h4⟩ =>
    have hne : ¬ ki = 0 := by rw [h1]; exact cT_ne h3 h4
    rw [if_neg hne, if_neg hne]
    exact ⟨h1, h2, h3, h4⟩
  | .inr a, ⟨h1, h2, h3⟩ =>
    rw [if_pos h2, if_pos h2]
    exact ⟨rfl, rfl, hk⟩
theorem cT_faulty {g : qG} (hg : qOK g) {h : qH} {F : Nat → Int32} {n q : Nat} {s : PS} (hT : cT h F n s q) : qSpec g 1 0 0 mX8_isFaulty [.ref 1] h (fun r h' => r = some (.int (qb (pbad s))) ∧ h' = h) := by
  obtain ⟨p, ki, pl, hT, hp, hn, hq, hs⟩ := hT
  refine qSpec_mono (T_isFaulty hg hT) ?_
  intro r h' hy
  obtain ⟨rfl, rfl⟩ := hy
  refine ⟨?_, rfl⟩
  match s, hs with
  | .inl e, ⟨h1, h2, h3, h4⟩ =>
    have hne : ¬ ki = 0 := by rw [h1]; exact cT_ne h3 h4
    rw [decide_eq_false hne]; rfl
  | .inr a, ⟨h1, h2, h3⟩ => rw [decide_eq_true h2]; rfl
/-- the place behind blanks -/
def pskip (F : Nat → Int32) (n : Nat) (s : PS) : PS := match s with
  | .inl e => .inl e
  | .inr a => .inr (sk F n a)
theorem cT_skip {h : qH} {F : Nat → Int32} {n q p : Nat} {ki pl : Int32} {s : PS} (hT : isT h 1 2 F 0 (nI n) (nI p) (nI q) ki pl) (hp : p ≤ n) (hn : n ≤ 600) (hq : q < 2 ^ 32) (hs : match (generalizing := false) s with
  | .inl e => ki = nI e.1 ∧ pl = nI e.2 ∧ (1 ≤ e.1 ∧ e.1 ≤ 3)
  | .inr a => a = p ∧ ki = 0 ∧ pl = -1) : cT (sT h 1 2 0 (nI n) (nI (sk F n p)) (nI q) ki pl) F n (pskip F n s) q := by
  refine ⟨sk F n p, ki, pl, hT.set _ _ _ _ _ _, (sk_le F hp).2, hn, hq, ?_⟩
  match s, hs with
  | .inl e, h1 => exact h1
  | .inr a, ⟨h1, h2, h3⟩ => exact ⟨by rw [h1], h2, h3⟩
theorem cT_over {g : qG} (hg : qOK g) {h : qH} {F : Nat → Int32} {n q : Nat} {s : PS} (hT : cT h F n s q) : qSpec g 3 0 0 mX8_isOver [.ref 1] h (fun r h' => (∃ b : Bool, r = some (.int (qb b)) ∧ ∀ a, s = .inr a → b = decide (tby F n (sk F n a) = -1)) ∧ same h h' [1] ∧ cT h' F n (pskip F n s) q) := by
  obtain ⟨p, ki, pl, hT, hp, hn, hq, hs⟩ := hT
  refine qSpec_mono (T_isOver hg hT hn (by omega)) ?_
  intro r h' hy
  obtain ⟨rfl, rfl⟩ := hy
  refine ⟨⟨_, rfl, fun a e => ?_⟩, T1_same, cT_skip hT hp hn hq hs⟩
  match s, hs, e with
  | .inr a, ⟨h1, _⟩, rfl => rw [h1]; rfl
theorem cT_digit {g : qG} (hg : qOK g) {h : qH} {F : Nat → Int32} {n q : Nat} {s : PS} (hT : cT h F n s q) : qSpec g 3 0 0 mX8_isDigit [.ref 1] h (fun r h' => (∃ b : Bool, r = some (.int (qb b)) ∧ ∀ a, s = .inr a → b = isdg (tby F n (sk F n a))) ∧ same h h' [1] ∧ cT h' F n (pskip F n s) q) := by
  obtain ⟨p, ki, pl, hT, hp, hn, hq, hs⟩ := hT
  refine qSpec_mono (T_isDigit hg hT hn (by omega)) ?_
  intro r h' hy
  obtain ⟨rfl, rfl⟩ := hy
  refine ⟨⟨_, rfl, fun a e => ?_⟩, T1_same, cT_skip hT hp hn hq hs⟩
  match s, hs, e with
  | .inr a, ⟨h1, _⟩, rfl => rw [h1]; rfl
theorem cT_letter {g : qG} (hg : qOK g) {h : qH} {F : Nat → Int32} {n q : Nat} {s : PS} (hT : cT h F n s q) : qSpec g 3 0 0 mX8_isLetter [.ref 1] h (fun r h' => (∃ b : Bool, r = some (.int (qb b)) ∧ ∀ a, s = .inr a → b = islt (tby F n (sk F n a))) ∧ same h h' [1] ∧ cT h' F n (pskip F n s) q) := by
  obtain ⟨p, ki, pl, hT, hp, hn, hq, hs⟩ := hT
  refine qSpec_mono (T_isLetter hg hT hn (by omega)) ?_
  intro r h' hy
  obtain ⟨rfl, rfl⟩ := hy
  refine ⟨⟨_, rfl, fun a e => ?_⟩, T1_same, cT_skip hT hp hn hq hs⟩
  match s, hs, e with
  | .inr a, ⟨h1, _⟩, rfl => rw [h1]; rfl
theorem cT_look {g : qG} (hg : qOK g) {h : qH} {F : Nat → Int32} {n q : Nat} {s : PS} (hT : cT h F n s q) : qSpec g 2 0 0 mX8_look [.ref 1] h (fun r h' => (∃ c : Int32, r = some (.int c) ∧ ∀ a, s = .inr a → c = tby F n (sk F n a)) ∧ same h h' [1] ∧ cT h' F n (pskip F n s) q) := by
  obtain ⟨p, ki, pl, hT, hp, hn, hq, hs⟩ := hT
  refine qSpec_mono (T_look hg hT hn (by omega)) ?_
  intro r h' hy
  obtain ⟨rfl, rfl⟩ := hy
  refine ⟨⟨_, rfl, fun a e => ?_⟩, T1_same, cT_skip hT hp hn hq hs⟩
  match s, hs, e with
  | .inr a, ⟨h1, _⟩, rfl => rw [h1]; rfl
theorem cT_step {g : qG} (hg : qOK g) {h : qH} {F : Nat → Int32} {n q a : Nat} (hT : cT h F n (.inr a) q) (ha : a < n) : qSpec g 1 0 0 mX8_step [.ref 1] h (fun r h' => r = none ∧ same h h' [1] ∧ cT h' F n (.inr (a + 1)) q) := by
  obtain ⟨p, ki, pl, hT, hp, hn, hq, h1, h2, h3⟩ := hT
  subst h1
  refine qSpec_mono (T_step hg hT hn (by omega)) ?_
  intro r h' hy
  obtain ⟨rfl, rfl⟩ := hy
  exact ⟨rfl, T1_same, a + 1, ki, pl, by rw [if_pos ha]; exact hT.set _ _ _ _ _ _, ha, hn, hq, rfl, h2, h3⟩
def pwst (F : Nat → Int32) (n : Nat) (f : Nat → Nat) (len : Nat) (s : PS) : PS := match s with
  | .inl e => .inl e
  | .inr a => if pword F n f len a = -1 then .inl (1, sk F n a) else .inr (pwend F n a)
theorem cT_word {g : qG} (hg : qOK g) (hJ : qJDK g) {j jv len : Nat} {f : Nat → Nat} (hS : qSTR g j jv len f) {h : qH} {F : Nat → Int32} {n q : Nat} {s : PS} (hT : cT h F n s q) : qSpec g 7 0 0 mX8_word [.ref 1, .retAddr j] h (fun r h' => (∃ w : Int32, r = some (.int w) ∧ ∀ a, s = .inr a → w = pword F n f len a) ∧ same h h' [1] ∧ ∃ q' : Nat, (∀ a, s = .inr a → q' = sk F n a) ∧ cT h' F n (pwst F n f len s) q') := by
  obtain ⟨p, ki, pl, hT, hp, hn, hq, hs⟩ := hT
  have hb := sk_le F hp
  have hw := pwend_le F hp
  refine qSpec_mono (T_word hg hJ hS hT hn hp) ?_
  intro r h' hy
  obtain ⟨rfl, rfl⟩ := hy
  have hT' := hT.set 0 (nI n) (nI (pwend F n p)) (nI (sk F n p)) (if pword F n f len p = -1 ∧ ki = 0 then 1 else ki) (if pword F n f len p = -1 ∧ ki = 0 then nI (sk F n p) else pl)
  refine ⟨⟨_, rfl, fun a e => ?_⟩, T1_same, sk F n p, fun a e => ?_, pwend F n p, _, _, hT', hw.2, hn, by omega, ?_⟩
  · match s, hs, e with
    | .inr a, ⟨h1, _⟩, rfl => rw [h1]; rfl
  · match s, hs, e with
    | .inr a, ⟨h1, _⟩, rfl => rw [h1]
  · match s, hs with
    | .inl e, ⟨h1, h2, h3, h4⟩ =>
      have hne : ¬ ki = 0 := by rw [h1]; exact cT_ne h3 h4
      rw [if_neg (fun z => hne z.2), if_neg (fun z => hne z.2)]
      exact ⟨h1, h2, h3, h4⟩
    | .inr a, ⟨h1, h2, h3⟩ =>
      subst h1; subst h2
      by_cases c : pword F n f len a = -1
      · rw [show pwst F n f len (.inr a) = .inl (1, sk F n a) from if_pos c]
        exact ⟨if_pos ⟨c, rfl⟩, if_pos ⟨c, rfl⟩, Nat.le_refl _, (by decide : (1 : Nat) ≤ 3)⟩
      · rw [show pwst F n f len (.inr a) = .inr (pwend F n a) from if_neg c]
        exact ⟨rfl, if_neg (fun z => c z.1), (if_neg (fun z => c z.1)).trans h3⟩
end Q08G
