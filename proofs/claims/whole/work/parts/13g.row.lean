section Q13G
def Eop (E : Option PE) (s : PS) (c : CD) : PS × CD := match s with
  | .inl e => (.inl e, c)
  | .inr a => match E with
    | none => (.inr a, c)
    | some e => e a c
def opE (E : Option PE) (a b : Nat) : PS := match E with
  | none => .inl (3, a)
  | some _ => .inr (a + b)
def rst (F : Nat → Int32) (n : Nat) (E : Option PE) (r : PS × CD) : PS × CD := Eop E (psign F n 44 r.1) r.2
def row3 (F : Nat → Int32) (n : Nat) (E : Option PE) (k : Int32) (s : PS) (c : CD) : PS × CD := if k = 8 then rst F n E (rst F n E (Eop E s c)) else rst F n E (Eop E s c)
def rowR (F : Nat → Int32) (n : Nat) (E : Option PE) (k : Int32) (q b : Nat) (c : CD) : PS × CD := (psign F n 93 (row3 F n E k (psign F n 91 (opE E q b)) c).1, cadd k 0 (row3 F n E k (psign F n 91 (opE E q b)) c).2)
/-- how many steps come of how many bytes -/
def gT (n : Nat) (s : PS) (c : CD) (r : PS × CD) (k : Nat) : Prop := (∀ a : Nat, s = .inr a → a ≤ n) → ∀ b : Nat, r.1 = .inr b → b ≤ n ∧ ∃ a : Nat, s = .inr a ∧ a + k ≤ b ∧ r.2.2.2 + a + k ≤ b + c.2.2
def gE (n : Nat) (E : PE) : Prop := ∀ (a : Nat) (c : CD), gT n (.inr a) c (E a c) 0
def gEo (n : Nat) (E : Option PE) : Prop := ∀ e : PE, E = some e → gE n e
theorem mT.le' {x : Nat → Int32} {n a : Nat} (h : mT x n (.inr a)) : a ≤ n := h.2.2.2.2
theorem gT.tr {n : Nat} {s : PS} {c : CD} {r r' : PS × CD} {k j : Nat} (h : gT n s c r k) (h' : gT n r.1 r.2 r' j) : gT n s c r' (k + j) := fun hs b hb => by
  have hr : ∀ a : Nat, r.1 = .inr a → a ≤ n := fun a ha => (h hs a ha).1
  obtain ⟨q1, a1, q2, q3, q4⟩ := h' hr b hb
  obtain ⟨p1, a2, p2, p3, p4⟩ := h hs a1 q2
  exact ⟨q1, a2, p2, by omega, by omega⟩
theorem gT.le {n : Nat} {s : PS} {c : CD} {r : PS × CD} {k j : Nat} (h : gT n s c r k) (hj : j ≤ k) : gT n s c r j := fun hs b hb => by
  obtain ⟨q1, a1, q2, q3, q4⟩ := h hs b hb
  exact ⟨q1, a1, q2, by omega, by omega⟩
theorem cadd_1 (k v : Int32) (c : CD) : (cadd k v c).2.2 ≤ c.2.2 + 1 := by
  unfold cadd
  split
  · exact Nat.le_refl _
  · omega
theorem gT.add {n : Nat} {s : PS} {c : CD} {r : PS × CD} {k : Nat} (h : gT n s c r (k + 1)) (kd v : Int32) : gT n s c (r.1, cadd kd v r.2) k := fun hs b hb => by
  obtain ⟨q1, a1, q2, q3, q4⟩ := h hs b hb
  have := cadd_1 kd v r.2
  exact ⟨q1, a1, q2, by omega, by show (cadd kd v r.2).2.2 + a1 + k ≤ _; omega⟩
theorem gT.rf {n : Nat} {s : PS} {c : CD} : gT n s c (s, c) 0 := fun hs b hb => ⟨hs b hb, b, hb, Nat.le_refl _, by show c.2.2 + b + 0 ≤ b + c.2.2; omega⟩
theorem tby_w {F : Nat → Int32} {n q : Nat} {w : Int32} (hw : ¬ w = -1) (h : tby F n q = w) : q < n := by
  by_cases c : q < n
  · exact c
  · exact absurd ((tby_end (F := F) (by omega)).symm.trans h).symm hw
theorem gT.sg {F : Nat → Int32} {n : Nat} {s : PS} {c : CD} {w : Int32} (hw : ¬ w = -1) : gT n s c (psign F n w s, c) 1 := fun hs b hb => by
  obtain ⟨a, h1, h2⟩ := psign_le hs hb
  have hb2 : psign F n w s = .inr b := hb
  subst h1
  have h3 : (if tby F n (sk F n a) = w then (.inr (sk F n a + 1) : PS) else .inl (1, sk F n a)) = .inr b := hb2
  by_cases q : tby F n (sk F n a) = w
  · rw [if_pos q] at h3
    cases h3
    have := tby_w hw q
    exact ⟨by omega, a, rfl, by omega, by show c.2.2 + a + 1 ≤ _; omega⟩
  · rw [if_neg q] at h3; cases h3
theorem gT.op {n : Nat} {E : Option PE} (hG : gEo n E) {s : PS} {c : CD} : gT n s c (Eop E s c) 0 := by
  cases s with
  | inl e => exact gT.rf
  | inr a =>
    cases E with
    | none => exact gT.rf
    | some e => exact hG e rfl a c
theorem gT.rs {F : Nat → Int32} {n : Nat} {E : Option PE} (hG : gEo n E) {r : PS × CD} : gT n r.1 r.2 (rst F n E r) 1 := (gT.sg (F := F) (w := 44) (by decide)).tr (gT.op hG (s := psign F n 44 r.1) (c := r.2))
theorem gT.r3 {F : Nat → Int32} {n : Nat} {E : Option PE} (hG : gEo n E) {k : Int32} {s : PS} {c : CD} : gT n s c (row3 F n E k s c) 0 := by
  unfold row3
  split
  · exact ((gT.op hG).tr ((gT.rs hG).tr (gT.rs hG))).le (by omega)
  · exact ((gT.op hG).tr (gT.rs hG)).le (by omega)
theorem ppart_eq {F : Nat → Int32} {n : Nat} {w : Int32} {r : PS × CD} : ppart F n w r = (psign F n w r.1, r.2) := by
  unfold ppart
  split
  · rename_i h
    obtain ⟨s, c⟩ := r
    cases s with
    | inl e => rfl
    | inr a => cases h
  · rfl
theorem pwloop_b {F : Nat → Int32} {n : Nat} {e : PE} {k : Nat} {r : PS × CD} (h : pbad r.1 = true) : ∀ m i : Nat, pwloop F n e k m i r = r := by
  intro m i
  cases m with
  | zero => rfl
  | succ m =>
    obtain ⟨s, c⟩ := r
    cases s with
    | inl e => rfl
    | inr a => cases h
theorem pwloop_s {F : Nat → Int32} {n : Nat} {e : PE} {k m i : Nat} {s : PS} {c : CD} : pwloop F n e k (m + 1) i (s, c) = pwloop F n e k m (i + 1) (psign F n (if i = k then 93 else 44) (Eop (some e) s c).1, (Eop (some e) s c).2) := by
  cases s with
  | inl q => exact (pwloop_b (r := (.inl q, c)) rfl m (i + 1)).symm
  | inr a =>
    show pwloop F n e k m (i + 1) (ppart F n (if i = k then 93 else 44) (e a c)) = _
    rw [ppart_eq]
    rfl
theorem pwl2 {F : Nat → Int32} {n : Nat} {e : PE} {s : PS} {c : CD} : pwloop F n e 2 2 1 (s, c) = (psign F n 93 (rst F n (some e) (Eop (some e) s c)).1, (rst F n (some e) (Eop (some e) s c)).2) := by
  rw [pwloop_s, pwloop_s]
  rfl
theorem pwl3 {F : Nat → Int32} {n : Nat} {e : PE} {s : PS} {c : CD} : pwloop F n e 3 3 1 (s, c) = (psign F n 93 (rst F n (some e) (rst F n (some e) (Eop (some e) s c))).1, (rst F n (some e) (rst F n (some e) (Eop (some e) s c))).2) := by
  rw [pwloop_s, pwloop_s, pwloop_s]
  rfl
theorem gT.lp {F : Nat → Int32} {n : Nat} {e : PE} (hG : gE n e) {k : Nat} : ∀ (m i : Nat) (s : PS) (c : CD), gT n s c (pwloop F n e k m i (s, c)) 0 := by
  intro m
  induction m with
  | zero => intro i s c; exact gT.rf
  | succ m ih =>
    intro i s c
    rw [pwloop_s]
    have h1 : gT n s c (Eop (some e) s c) 0 := gT.op (fun e' q => by cases q; exact hG)
    have h2 : gT n (Eop (some e) s c).1 (Eop (some e) s c).2 (psign F n (if i = k then 93 else 44) (Eop (some e) s c).1, (Eop (some e) s c).2) 1 := gT.sg (by split <;> decide)
    exact ((h1.tr h2).tr (ih _ _ _)).le (by omega)
theorem pnumS_gt {F : Nat → Int32} {n a b : Nat} {lo hi : Int32} (ha : a ≤ n) (h : pnumS F n lo hi (.inr a) = .inr b) : a < b ∧ b ≤ n ∧ sk F n a < b := by
  have h1 := sk_le F ha
  have h2 := pnr_le F ha
  unfold pnumS pnum at h
  by_cases c : (pnr F n a).1 = sk F n a
  · simp only [if_pos c] at h
    cases h
  · simp only [if_neg c] at h
    by_cases c2 : (pnr F n a).2 < lo ∨ hi < (pnr F n a).2
    · simp only [if_pos c2] at h
      cases h
    · simp only [if_neg c2] at h
      cases h
      omega
theorem pw_gt {F : Nat → Int32} {n a : Nat} {f : Nat → Nat} {len : Nat} (ha : a ≤ n) (h : ¬ pword F n f len a = -1) : sk F n a < pwend F n a ∧ pwend F n a ≤ n := by
  have h1 := pwend_le F ha
  have h2 : ¬ pwend F n a = sk F n a := fun q => h (by unfold pword twd; rw [if_pos q])
  omega
theorem pwst_x {F : Nat → Int32} {n a : Nat} {f : Nat → Nat} {len : Nat} (h : pword F n f len a = -1) : pwst F n f len (.inr a) = .inl (1, sk F n a) := if_pos h
theorem pwst_n {F : Nat → Int32} {n a : Nat} {f : Nat → Nat} {len : Nat} (h : ¬ pword F n f len a = -1) : pwst F n f len (.inr a) = .inr (pwend F n a) := if_neg h
theorem gE_word {F : Nat → Int32} {n : Nat} {f : Nat → Nat} {len : Nat} {E : Option PE} (hG : gEo n E) : gE n (pwordR F n f len E) := by
  intro a c
  by_cases hx : pword F n f len a = -1
  · have e : pwordR F n f len E a c = (.inl (1, sk F n a), c) := by
      unfold pwordR
      rw [pwst_x hx]
      rfl
    rw [e]
    exact fun _ b hb => by cases hb
  · have e1 := pwst_n hx
    by_cases h10 : pword F n f len a < 10
    · have e : pwordR F n f len E a c = (.inr (pwend F n a), cadd 1 (pword F n f len a) c) := by
        unfold pwordR
        rw [e1, if_neg (show ¬ pbad (.inr (pwend F n a)) = true from Bool.false_ne_true), if_pos h10]
      rw [e]
      intro hs b hb
      have ha := hs a rfl
      have h3 := pw_gt ha hx
      have h4 := sk_le F ha
      cases hb
      have := cadd_1 1 (pword F n f len a) c
      exact ⟨h3.2, a, rfl, by omega, by show (cadd 1 (pword F n f len a) c).2.2 + a + 0 ≤ _; omega⟩
    · have e : pwordR F n f len E a c = pwtail F n f len E a c := by
        unfold pwordR
        rw [e1, if_neg (show ¬ pbad (.inr (pwend F n a)) = true from Bool.false_ne_true), if_neg h10]
      rw [e]
      cases E with
      | none =>
        have e2 : pwtail F n f len none a c = (.inl (3, sk F n a), c) := by
          unfold pwtail
          simp only [e1]
          rfl
        rw [e2]
        exact fun _ b hb => by cases hb
      | some u =>
        intro hs
        have ha := hs a rfl
        have h3 := pw_gt ha hx
        have h4 := sk_le F ha
        have hg : gT n (.inr (pwend F n a)) c (pwtail F n f len (some u) a c) 0 := by
          unfold pwtail
          simp only [e1]
          exact ((gT.sg (F := F) (n := n) (s := .inr (pwend F n a)) (c := c) (w := 91) (by decide)).tr (gT.lp (hG u rfl) _ 1 _ _)).add _ _
        intro b hb
        obtain ⟨q1, a1, q2, q3, q4⟩ := hg (fun z hz => by cases hz; exact h3.2) b hb
        cases q2
        exact ⟨q1, a, rfl, by omega, by omega⟩
theorem gE_unit {F : Nat → Int32} {n : Nat} {f : Nat → Nat} {len : Nat} {E : Option PE} (hG : gEo n E) : gE n (punit F n f len E) := by
  intro a c hs
  have ha := hs a rfl
  have hk := sk_le F ha
  unfold punit
  split
  · intro b hb
    have h1 := pnumS_gt hk.2 hb
    have := cadd_1 0 (pnum F n 0 999 (.inr (sk F n a))).2 c
    exact ⟨h1.2.1, a, rfl, by omega, by show (cadd 0 (pnum F n 0 999 (.inr (sk F n a))).2 c).2.2 + a + 0 ≤ _; omega⟩
  · split
    · rename_i h40
      have hlt := tby_w (w := 40) (by decide) h40
      cases E with
      | none => exact fun b hb => by cases hb
      | some e =>
        intro b hb
        have hg : gT n (.inr (sk F n a + 1)) c (ppart F n 41 (e (sk F n a + 1) c)) 0 := by
          rw [ppart_eq]
          exact ((hG e rfl (sk F n a + 1) c).tr (gT.sg (by decide))).le (by omega)
        obtain ⟨q1, a1, q2, q3, q4⟩ := hg (fun z hz => by cases hz; omega) b hb
        cases q2
        exact ⟨q1, a, rfl, by omega, by show (ppart F n 41 (e (sk F n a + 1) c)).2.2.2 + a + 0 ≤ _; omega⟩
    · intro b hb
      obtain ⟨q1, a1, q2, q3, q4⟩ := gE_word hG (sk F n a) c (fun z hz => by cases hz; exact hk.2) b hb
      cases q2
      exact ⟨q1, a, rfl, by omega, by omega⟩
theorem gT.ops {F : Nat → Int32} {n : Nat} {U : PE} (hU : gE n U) {c1 c2 k1 k2 : Int32} (h1 : ¬ c1 = -1) (h2 : ¬ c2 = -1) : ∀ (m : Nat) (s : PS) (c : CD), gT n s c (pops F n U c1 c2 k1 k2 m (s, c)) 0 := by
  intro m
  induction m with
  | zero => intro s c; exact gT.rf
  | succ m ih =>
    intro s c
    cases s with
    | inl e => exact gT.rf
    | inr a =>
      intro hs
      have ha := hs a rfl
      have hk := sk_le F ha
      unfold pops
      simp only
      by_cases q : tby F n (sk F n a) = c1 ∨ tby F n (sk F n a) = c2
      · rw [if_pos q]
        have hlt : sk F n a < n := by
          rcases q with q | q
          · exact tby_w h1 q
          · exact tby_w h2 q
        intro b hb
        have hg := ih (U (sk F n a + 1) c).1 (cadd (if tby F n (sk F n a) = c1 then k1 else k2) 0 (U (sk F n a + 1) c).2)
        have hu := hU (sk F n a + 1) c (fun z hz => by cases hz; omega)
        obtain ⟨q1, a1, q2, q3, q4⟩ := hg (fun z hz => (hu z hz).1) b hb
        obtain ⟨p1, a2, p2, p3, p4⟩ := hu a1 q2
        cases p2
        have := cadd_1 (if tby F n (sk F n a) = c1 then k1 else k2) 0 (U (sk F n a + 1) c).2
        exact ⟨q1, a, rfl, by omega, by omega⟩
      · rw [if_neg q]
        intro b hb
        cases hb
        exact ⟨hk.2, a, rfl, by omega, by show c.2.2 + a + 0 ≤ _; omega⟩
theorem gE_prod {F : Nat → Int32} {n : Nat} {f : Nat → Nat} {len : Nat} {E : Option PE} (hG : gEo n E) : gE n (pprod F n f len E) := fun a c => (gE_unit hG a c).tr (gT.ops (gE_unit hG) (by decide) (by decide) 150 _ _)
theorem gE_sum {F : Nat → Int32} {n : Nat} {f : Nat → Nat} {len : Nat} {E : Option PE} (hG : gEo n E) : gE n (psum F n f len E) := fun a c => (gE_prod hG a c).tr (gT.ops (gE_prod hG) (by decide) (by decide) 150 _ _)
theorem gE_exp {F : Nat → Int32} {n : Nat} {f : Nat → Nat} {len : Nat} : ∀ l : Nat, gE n (pexp F n f len l) := by
  intro l
  induction l with
  | zero => exact gE_sum (fun e q => by cases q)
  | succ l ih => exact gE_sum (fun e q => by cases q; exact ih)
/-- amid a method that reads a law -/
def LGX (h0 hX : qH) (x0 xX : Nat → Int32) (y : Nat → Int64) (n o : Nat) (s : PS) (c : CD) : Prop := LTS hX xX y n o s c ∧ same h0 hX [63, 70, 71] ∧ ∀ k : Nat, k ∉ [4, 5, 6, 7, 30] → xX k = x0 k
section
variable {h0 hX h' : qH} {x0 xX : Nat → Int32} {y : Nat → Int64} {n o o' : Nat} {s s' : PS} {c c' : CD}
theorem LGX.rf (hL : LTS h0 x0 y n o s c) : LGX h0 h0 x0 x0 y n o s c := ⟨hL, same.rf, fun _ _ => rfl⟩
theorem LGX.tr (hV : LGX h0 hX x0 xX y n o s c) (hp : ∃ x' : Nat → Int32, LTS h' x' y n o' s' c' ∧ same hX h' [63, 70, 71] ∧ ∀ k : Nat, k ∉ [4, 5, 6, 7, 30] → x' k = xX k) : ∃ x' : Nat → Int32, LGX h0 h' x0 x' y n o' s' c' := by
  obtain ⟨x', q1, q2, q3⟩ := hp
  exact ⟨x', q1, hV.2.1.t2 q2 (by decide), fun k hk => (q3 k hk).trans (hV.2.2 k hk)⟩
theorem LGX.mp {Z : List Nat} (hV : LGX h0 hX x0 xX y n o s c) (hp : mP hX h' xX y Z n s') (hz : ∀ k : Nat, k ∈ Z → k = 4 ∨ k = 5 ∨ k = 6) (hs : ∀ b : Nat, s' = .inr b → ∃ a : Nat, s = .inr a ∧ a ≤ b) : ∃ x' : Nat → Int32, LGX h0 h' x0 x' y n o s' c := hV.tr (hV.1.st hp hz hs)
theorem LGX.B {F : Nat → Int32} (hV : LGX h0 hX x0 xX y n o s c) (hB : mB h0 F) : mB hX F := hB.sm hV.2.1 (by decide)
theorem LGX.m (hV : LGX h0 hX x0 xX y n o s c) : hX.2 63 = some (M63 xX y) := hV.1.1
theorem LGX.t (hV : LGX h0 hX x0 xX y n o s c) : mT xX n s := hV.1.2.2.1
theorem LGX.fin {r : PS × CD} (hV : LGX h0 hX x0 xX y n o r.1 r.2) : LTP h0 hX x0 y n o r := ⟨xX, hV⟩
theorem LGX.sk0 {F : Nat → Int32} {a : Nat} (hV : LGX h0 hX x0 xX y n o (.inr a) c) (hp : mP hX h' xX y [4] n (.inr (sk F n a))) : ∃ x' : Nat → Int32, LGX h0 h' x0 x' y n o (.inr (sk F n a)) c := hV.mp hp (by simp) (fun b hb => ⟨a, rfl, by cases hb; exact (sk_le F hV.1.2.2.1.le').1⟩)
theorem LGX.set4 {a : Nat} {v : Int32} {L : List Value} (hV : LGX h0 hX x0 xX y n o (.inr a) c) (e : L = M63l (upd xX 4 v) y) (hv : v = nI (a + 1)) (ha : a + 1 ≤ n) : LGX h0 (hX.1, qup hX.2 63 (.inl (12, L))) x0 (upd xX 4 v) y n o (.inr (a + 1)) c := by
  subst e
  obtain ⟨⟨a1, a2, a3, K, V, a4, a5, a6⟩, hs, hx⟩ := hV
  obtain ⟨b1, b2, b3, b4⟩ := a6 a rfl
  refine ⟨⟨(show qup hX.2 63 (.inl (12, M63l (upd xX 4 v) y)) 63 = some (M63 (upd xX 4 v) y) from qup_s), (upd_n (by decide)).trans a2, ⟨a3.1, a3.2.1, a3.2.2.1, upd_s.trans hv, ha⟩, K, V, (qup_n (f := hX.2) (k := 63) (e := .inl (12, M63l (upd xX 4 v) y)) (j := 70) (by decide)).trans a4, (qup_n (f := hX.2) (k := 63) (e := .inl (12, M63l (upd xX 4 v) y)) (j := 71) (by decide)).trans a5, fun z hz => ?_⟩, hs.t2 (same.up (by simp) : same _ _ [63]) (by decide), fun k hk => (upd_n (fun q => hk (by rw [q]; decide))).trans (hx k hk)⟩
  cases hz
  exact ⟨(upd_n (by decide)).trans b1, b2, b3, by omega⟩
theorem LGX.set7 {v : Int32} {L : List Value} (hV : LGX h0 hX x0 xX y n o' s c) (e : L = M63l (upd xX 7 v) y) (hv : v = nI o) : LGX h0 (hX.1, qup hX.2 63 (.inl (12, L))) x0 (upd xX 7 v) y n o s c := by
  subst e
  obtain ⟨⟨a1, a2, a3, K, V, a4, a5, a6⟩, hs, hx⟩ := hV
  refine ⟨⟨(show qup hX.2 63 (.inl (12, M63l (upd xX 7 v) y)) 63 = some (M63 (upd xX 7 v) y) from qup_s), upd_s.trans hv, a3.upk (by decide) _, K, V, (qup_n (f := hX.2) (k := 63) (e := .inl (12, M63l (upd xX 7 v) y)) (j := 70) (by decide)).trans a4, (qup_n (f := hX.2) (k := 63) (e := .inl (12, M63l (upd xX 7 v) y)) (j := 71) (by decide)).trans a5, fun z hz => ?_⟩, hs.t2 (same.up (by simp) : same _ _ [63]) (by decide), fun k hk => (upd_n (fun q => hk (by rw [q]; decide))).trans (hx k hk)⟩
  obtain ⟨b1, b2, b3, b4⟩ := a6 z hz
  exact ⟨(upd_n (by decide)).trans b1, b2, b3, b4⟩
end
def mEo (g : qG) (F : Nat → Int32) (n d o : Nat) (E : Option PE) : Prop := match E with
  | none => o = 6
  | some e => o < 6 ∧ mE g F n d (o + 1) mX12_readSum e
theorem M_sumA {g : qG} (hg : qOK g) {h : qH} {F : Nat → Int32} {x : Nat → Int32} {y : Nat → Int64} {n d o : Nat} {E : Option PE} (hO : mEo g F n (d + 8) o E) {s : PS} {c : CD} (hL : LTS h x y n (o + 1) s c) (hE : E = none → pbad s = true) (hB : mB h F) : qSpec g (d + 8) 0 0 mX12_readSum [.ref 63] h (fun r h' => r = none ∧ LTP h h' x y n (o + 1) (Eop E s c)) := by
  cases s with
  | inl e => exact qSpec_mono (M_sum_l (d := d + 4) hg hL.1 hL.2.2.1) fun r h' hy => ⟨hy.1, by rw [hy.2]; exact ⟨x, hL, same.rf, fun _ _ => rfl⟩⟩
  | inr a =>
    cases E with
    | none => exact absurd (show pbad (.inr a) = true from hE rfl) Bool.false_ne_true
    | some e => exact hO.2 h x y a c hL hB
theorem M_openA {g : qG} (hg : qOK g) {h : qH} {F : Nat → Int32} {x : Nat → Int32} {y : Nat → Int64} {n d o : Nat} {E : Option PE} (hO : mEo g F n d o E) {q : Nat} {c : CD} (hL : LTS h x y n o (.inr q) c) (b : Nat) (hb : q + b ≤ n) : qSpec g 2 0 0 mX12_opensOne [.ref 63, .int (nI b)] h (fun r h' => r = none ∧ ∃ x' : Nat → Int32, LTS h' x' y n (o + 1) (opE E q b) c ∧ same h h' [63, 70, 71] ∧ ∀ k : Nat, k ∉ [4, 5, 6, 7, 30] → x' k = x k) := by
  obtain ⟨a1, a2, a3, K, V, a4, a5, a6⟩ := id hL
  obtain ⟨b1, b2, b3, b4⟩ := a6 q rfl
  cases E with
  | none =>
    have ho : o = 6 := hO
    subst ho
    refine qSpec_mono (M_open_6 hg a1 a3 a2 (nI b)) fun r h' hy => ?_
    obtain ⟨e1, x', e2, e3, e4, e5, e6⟩ := hy
    exact ⟨e1, x', ⟨e2, e5, e6, K, V, (e3.2 70 (by decide)).trans a4, (e3.2 71 (by decide)).trans a5, fun z hz => by cases hz⟩, e3.sub (by simp), fun k hk => e4 k (fun q => hk (by simp at q ⊢; omega))⟩
  | some e =>
    refine qSpec_mono (M_open_ok hg a1 a3 a2 hO.1 b hb) fun r h' hy => ?_
    obtain ⟨e1, x', e2, e3, e4, e5, e6⟩ := hy
    refine ⟨e1, x', ⟨e2, e5, e6, K, V, (e3.2 70 (by decide)).trans a4, (e3.2 71 (by decide)).trans a5, fun z hz => ?_⟩, e3.sub (by simp), fun k hk => e4 k (fun q => hk (by simp at q ⊢; omega))⟩
    cases hz
    exact ⟨(e4 30 (by decide)).trans b1, b2, b3, by omega⟩
theorem M_rowA {g : qG} (hg : qOK g) {h : qH} {F : Nat → Int32} {x : Nat → Int32} {y : Nat → Int64} {n d o : Nat} {E : Option PE} (hO : mEo g F n (d + 8) o E) (hG : gEo n E) (hn : n ≤ 150) {q : Nat} {c : CD} (hL : LTS h x y n o (.inr q) c) (hB : mB h F) (b : Nat) (hb : q + b ≤ n) (k : Int32) : qSpec g (d + 9) 0 0 mX12_readRow [.ref 63, .int (nI b), .int k] h (fun r h' => r = none ∧ LTP h h' x y n o (rowR F n E k q b c)) := by
  refine qSpec_run 12 "readRow" false hg mX12_readRow_ok rfl rfl (Nat.le_of_ble_eq_true rfl) (by decide) ?_
  intro run step
  have gz : ∀ z : Nat, psign F n 93 (row3 F n E k (psign F n 91 (opE E q b)) c).1 = .inr z → (row3 F n E k (psign F n 91 (opE E q b)) c).2.2.2 < z := fun z hz => by
    have hc : c.2.2 ≤ q := by
      obtain ⟨K, V, a4, a5, a6⟩ := hL.2.2.2
      exact (a6 q rfl).2.2.2
    cases E with
    | none =>
      have e0 : (row3 F n none k (psign F n 91 (opE none q b)) c).1 = .inl (3, q) := by unfold row3; split <;> rfl
      rw [e0] at hz
      cases hz
    | some e =>
      have h0 : gT n (.inr (q + b)) c (psign F n 91 (.inr (q + b)), c) 1 := gT.sg (by decide)
      obtain ⟨p1, a1, p2, p3, p4⟩ := ((h0.tr (gT.r3 (F := F) hG (k := k))).tr (gT.sg (F := F) (w := 93) (by decide))) (fun u hu => by cases hu; exact hb) z hz
      cases p2
      have p5 : (row3 F n (some e) k (psign F n 91 (.inr (q + b))) c).2.2.2 + (q + b) + (1 + 0 + 1) ≤ z + c.2.2 := p4
      show (row3 F n (some e) k (psign F n 91 (.inr (q + b))) c).2.2.2 < z
      omega
  have at41 : ∀ (hX : qH) (xX : Nat → Int32), LGX h hX x xX y n (o + 1) (row3 F n E k (psign F n 91 (opE E q b)) c).1 (row3 F n E k (psign F n 91 (opE E q b)) c).2 → run 41 [(0, .ref 63), (1, .int (nI b)), (2, .int k)] [] hX 0 0 := by
    intro hX xX hV6
    refine step.1 _ _ _ _ _ _ _ sgX12_readRow_41_ok ?_
    refine Or.inl ⟨rfl, _, 2, 0, 0, _, _, _, qi_12_269, ⟨rfl, rfl⟩, ⟨hV6.m, rfl⟩, (qnum_rec (by omega) (by omega) (by omega) rfl), rfl, M_signL hg hV6.1 (hV6.B hB) 93 (by decide) (by decide), fun y44 h44 hy44 => ?_⟩
    obtain ⟨rfl, hp44⟩ := hy44
    obtain ⟨x44, hV44⟩ := hV6.tr hp44
    refine ⟨rfl, ?_⟩
    refine ⟨by decide, _, _, hV44.m, rfl, ?_⟩
    refine ⟨_, hV44.m, Nat.le_of_ble_eq_true rfl, rfl, ?_⟩
    have e7 : x44 7 - 1 = nI o := by rw [hV44.1.2.1, ← nI_1]; exact Int32.add_sub_cancel _ _
    have hV54 := hV44.set7 (o := o) (sI_7 (v := x44 7 - 1) (rfl : _ = M63l x44 y)) e7
    refine Or.inl ⟨rfl, _, 2, 0, 0, _, _, _, qi_12_282, ⟨rfl, rfl⟩, ⟨hV54.m, rfl⟩, (qnum_rec (by omega) (by omega) (by omega) rfl), rfl, M_emitL hg hV54.1 hn (fun z hz => gz z hz) k 0, fun y60 h60 hy60 => ?_⟩
    obtain ⟨rfl, hp60⟩ := hy60
    obtain ⟨x60, hV60⟩ := hV54.tr hp60
    refine ⟨rfl, Nat.le_refl _, Nat.le_refl _, ?_⟩
    exact ⟨rfl, x60, hV60⟩
  refine step.1 _ _ _ _ _ _ _ sgX12_readRow_0_ok ?_
  refine Or.inl ⟨rfl, _, 2, 0, 0, _, _, _, qi_12_288, ⟨rfl, rfl⟩, ⟨hL.1, rfl⟩, (qnum_rec (by omega) (by omega) (by omega) rfl), rfl, M_openA hg hO hL b hb, fun y2 h2 hy2 => ?_⟩
  obtain ⟨rfl, hp2⟩ := hy2
  obtain ⟨x2, hV2⟩ := (LGX.rf hL).tr hp2
  refine Or.inl ⟨rfl, _, 2, 0, 0, _, _, _, qi_12_269, ⟨rfl, rfl⟩, ⟨hV2.m, rfl⟩, (qnum_rec (by omega) (by omega) (by omega) rfl), rfl, M_signL hg hV2.1 (hV2.B hB) 91 (by decide) (by decide), fun y8 h8 hy8 => ?_⟩
  obtain ⟨rfl, hp8⟩ := hy8
  obtain ⟨x8, hV8⟩ := hV2.tr hp8
  refine Or.inl ⟨rfl, _, d + 8, 0, 0, _, _, _, qi_12_291, ⟨rfl, rfl⟩, ⟨hV8.m, rfl⟩, (qnum_rec (by omega) (by omega) (by omega) rfl), rfl, M_sumA hg hO hV8.1 (fun q => by subst q; rfl) (hV8.B hB), fun y12 h12 hy12 => ?_⟩
  obtain ⟨rfl, hp12⟩ := hy12
  obtain ⟨x12, hV12⟩ := hV8.tr hp12
  refine Or.inl ⟨rfl, _, 2, 0, 0, _, _, _, qi_12_269, ⟨rfl, rfl⟩, ⟨hV12.m, rfl⟩, (qnum_rec (by omega) (by omega) (by omega) rfl), rfl, M_signL hg hV12.1 (hV12.B hB) 44 (by decide) (by decide), fun y18 h18 hy18 => ?_⟩
  obtain ⟨rfl, hp18⟩ := hy18
  obtain ⟨x18, hV18⟩ := hV12.tr hp18
  refine Or.inl ⟨rfl, _, d + 8, 0, 0, _, _, _, qi_12_291, ⟨rfl, rfl⟩, ⟨hV18.m, rfl⟩, (qnum_rec (by omega) (by omega) (by omega) rfl), rfl, M_sumA hg hO hV18.1 (fun q => by subst q; rfl) (hV18.B hB), fun y22 h22 hy22 => ?_⟩
  obtain ⟨rfl, hp22⟩ := hy22
  obtain ⟨x22, hV22⟩ := hV18.tr hp22
  refine ⟨fun c28 => ?_, fun c28 => ?_⟩
  · exact at41 _ _ (by rw [show row3 F n E k (psign F n 91 (opE E q b)) c = (rst F n E (Eop E (psign F n 91 (opE E q b)) c)) from if_neg c28]; exact hV22)
  · refine Or.inl ⟨rfl, _, 2, 0, 0, _, _, _, qi_12_269, ⟨rfl, rfl⟩, ⟨hV22.m, rfl⟩, (qnum_rec (by omega) (by omega) (by omega) rfl), rfl, M_signL hg hV22.1 (hV22.B hB) 44 (by decide) (by decide), fun y34 h34 hy34 => ?_⟩
    obtain ⟨rfl, hp34⟩ := hy34
    obtain ⟨x34, hV34⟩ := hV22.tr hp34
    refine Or.inl ⟨rfl, _, d + 8, 0, 0, _, _, _, qi_12_291, ⟨rfl, rfl⟩, ⟨hV34.m, rfl⟩, (qnum_rec (by omega) (by omega) (by omega) rfl), rfl, M_sumA hg hO hV34.1 (fun q => by subst q; rfl) (hV34.B hB), fun y38 h38 hy38 => ?_⟩
    obtain ⟨rfl, hp38⟩ := hy38
    obtain ⟨x38, hV38⟩ := hV34.tr hp38
    exact at41 _ _ (by rw [show row3 F n E k (psign F n 91 (opE E q b)) c = (rst F n E (rst F n E (Eop E (psign F n 91 (opE E q b)) c))) from if_pos c28]; exact hV38)
end Q13G
