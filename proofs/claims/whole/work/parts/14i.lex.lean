section Q14I
/-- codes that take the stack's height from one to another -/
def lex (K V : Nat → Int32) (i : Nat) : Nat → Nat → Nat → Prop
  | 0, t, t' => t = t'
  | m + 1, t, t' => (K i = 0 ∧ lex K V (i + 1) m (t + 1) t') ∨ (K i = 1 ∧ (∃ j : Nat, j < 10 ∧ V i = nI j) ∧ lex K V (i + 1) m (t + 1) t') ∨ (K i = 8 ∧ 3 ≤ t ∧ lex K V (i + 1) m (t - 2) t') ∨ ((∃ k : Nat, 2 ≤ k ∧ k ≤ 7 ∧ K i = nI k) ∧ 2 ≤ t ∧ lex K V (i + 1) m (t - 1) t')
theorem lex_lok {K V : Nat → Int32} : ∀ (m i t : Nat), lex K V i m t 1 → lok K V i m t := by
  intro m
  induction m with
  | zero => intro i t h; exact h
  | succ m ih =>
    intro i t h
    rcases h with ⟨h1, h2⟩ | ⟨h1, h2, h3⟩ | ⟨h1, h2, h3⟩ | ⟨h1, h2, h3⟩
    · exact Or.inl ⟨h1, ih _ _ h2⟩
    · exact Or.inr (Or.inl ⟨h1, h2, ih _ _ h3⟩)
    · exact Or.inr (Or.inr (Or.inl ⟨h1, h2, ih _ _ h3⟩))
    · exact Or.inr (Or.inr (Or.inr ⟨h1, h2, ih _ _ h3⟩))
theorem lex_app {K V : Nat → Int32} {t1 t2 m2 : Nat} : ∀ (m i t : Nat), lex K V i m t t1 → lex K V (i + m) m2 t1 t2 → lex K V i (m + m2) t t2 := by
  intro m
  induction m with
  | zero =>
    intro i t h h'
    cases h
    rw [Nat.zero_add]
    exact h'
  | succ m ih =>
    intro i t h h'
    rw [show m + 1 + m2 = (m + m2) + 1 by omega]
    have e : i + (m + 1) = i + 1 + m := by omega
    rw [e] at h'
    rcases h with ⟨h1, h2⟩ | ⟨h1, h2, h3⟩ | ⟨h1, h2, h3⟩ | ⟨h1, h2, h3⟩
    · exact Or.inl ⟨h1, ih _ _ h2 h'⟩
    · exact Or.inr (Or.inl ⟨h1, h2, ih _ _ h3 h'⟩)
    · exact Or.inr (Or.inr (Or.inl ⟨h1, h2, ih _ _ h3 h'⟩))
    · exact Or.inr (Or.inr (Or.inr ⟨h1, h2, ih _ _ h3 h'⟩))
theorem lex_c {K V K' V' : Nat → Int32} {t' : Nat} : ∀ (m i t : Nat), (∀ j : Nat, i ≤ j → j < i + m → K' j = K j ∧ V' j = V j) → lex K V i m t t' → lex K' V' i m t t' := by
  intro m
  induction m with
  | zero => intro i t _ h; exact h
  | succ m ih =>
    intro i t he h
    obtain ⟨e1, e2⟩ := he i (Nat.le_refl _) (by omega)
    have hx := fun t h => ih (i + 1) t (fun j h1 h2 => he j (by omega) (by omega)) h
    rcases h with ⟨h1, h2⟩ | ⟨h1, h2, h3⟩ | ⟨h1, h2, h3⟩ | ⟨h1, h2, h3⟩
    · exact Or.inl ⟨e1.trans h1, hx _ h2⟩
    · exact Or.inr (Or.inl ⟨e1.trans h1, by rw [e2]; exact h2, hx _ h3⟩)
    · exact Or.inr (Or.inr (Or.inl ⟨e1.trans h1, h2, hx _ h3⟩))
    · exact Or.inr (Or.inr (Or.inr ⟨by rw [e1]; exact h1, h2, hx _ h3⟩))
/-- codes put behind others: the others stay; these take the height from t to t' -/
def lap (c c' : CD) (t t' : Nat) : Prop := c.2.2 ≤ c'.2.2 ∧ (∀ j : Nat, j < c.2.2 → c'.1 j = c.1 j ∧ c'.2.1 j = c.2.1 j) ∧ lex c'.1 c'.2.1 c.2.2 (c'.2.2 - c.2.2) t t'
theorem lap.tr {c c' c2 : CD} {t t' t2 : Nat} (h : lap c c' t t') (h' : lap c' c2 t' t2) : lap c c2 t t2 := by
  obtain ⟨a1, a2, a3⟩ := h
  obtain ⟨b1, b2, b3⟩ := h'
  refine ⟨by omega, fun j hj => ?_, ?_⟩
  · obtain ⟨p1, p2⟩ := b2 j (by omega)
    obtain ⟨q1, q2⟩ := a2 j hj
    exact ⟨p1.trans q1, p2.trans q2⟩
  · rw [show c2.2.2 - c.2.2 = (c'.2.2 - c.2.2) + (c2.2.2 - c'.2.2) by omega]
    refine lex_app _ _ _ (lex_c _ _ _ (fun j h1 h2 => b2 j (by omega)) a3) ?_
    rw [show c.2.2 + (c'.2.2 - c.2.2) = c'.2.2 by omega]
    exact b3
theorem lap.add {c : CD} {k v : Int32} {t t' : Nat} (hc : c.2.2 < 150) (h : ∀ K V : Nat → Int32, K c.2.2 = k → V c.2.2 = v → lex K V c.2.2 1 t t') : lap c (cadd k v c) t t' := by
  unfold cadd
  rw [if_pos hc]
  refine ⟨Nat.le_succ _, fun j hj => ⟨upd_n (by omega), upd_n (by omega)⟩, ?_⟩
  show lex (upd c.1 c.2.2 k) (upd c.2.1 c.2.2 v) c.2.2 (c.2.2 + 1 - c.2.2) t t'
  rw [show c.2.2 + 1 - c.2.2 = 1 by omega]
  exact h _ _ upd_s upd_s
theorem lap.num {c : CD} {v : Int32} {t : Nat} (hc : c.2.2 < 150) : lap c (cadd 0 v c) t (t + 1) := .add hc fun K V h1 _ => Or.inl ⟨h1, rfl⟩
theorem lap.nam {c : CD} {j t : Nat} (hc : c.2.2 < 150) (hj : j < 10) : lap c (cadd 1 (nI j) c) t (t + 1) := .add hc fun K V h1 h2 => Or.inr (Or.inl ⟨h1, ⟨j, hj, h2⟩, rfl⟩)
theorem lap.two {c : CD} {k : Nat} {v : Int32} {t : Nat} (hc : c.2.2 < 150) (h2 : 2 ≤ k) (h7 : k ≤ 7) : lap c (cadd (nI k) v c) (t + 2) (t + 1) := .add hc fun K V h1 _ => Or.inr (Or.inr (Or.inr ⟨⟨k, h2, h7, h1⟩, by omega, by show t + 2 - 1 = t + 1; omega⟩))
theorem lap.thr {c : CD} {v : Int32} {t : Nat} (hc : c.2.2 < 150) : lap c (cadd 8 v c) (t + 3) (t + 1) := .add hc fun K V h1 _ => Or.inr (Or.inr (Or.inl ⟨h1, by omega, by show t + 3 - 2 = t + 1; omega⟩))
/-- a part of a law's text leaves one value more -/
def lE (n : Nat) (E : PE) : Prop := ∀ (a b : Nat) (c : CD), a ≤ n → c.2.2 ≤ a → (E a c).1 = .inr b → ∀ t : Nat, lap c (E a c).2 t (t + 1)
theorem psign_in {F : Nat → Int32} {n : Nat} {w : Int32} {s : PS} {b : Nat} (hn : ∀ a : Nat, s = .inr a → a ≤ n) (hw : ¬ w = -1) (h : psign F n w s = .inr b) : ∃ a : Nat, s = .inr a ∧ a < b ∧ b ≤ n := by
  have h1 := gT.sg (F := F) (n := n) (s := s) (c := ((fun _ => 0, fun _ => 0, 0) : CD)) hw hn b h
  obtain ⟨h2, a, h3, h4, -⟩ := h1
  exact ⟨a, h3, by omega, h2⟩
/-- the parts of a row, one behind another: heights -/
theorem lE_loop {F : Nat → Int32} {n : Nat} {e : PE} (hG : gE n e) (hE : lE n e) {k : Nat} : ∀ (m i a b : Nat) (c : CD), a ≤ n → c.2.2 ≤ a → (pwloop F n e k m i (.inr a, c)).1 = .inr b → ∀ t : Nat, lap c (pwloop F n e k m i (.inr a, c)).2 t (t + m) := by
  intro m
  induction m with
  | zero =>
    intro i a b c _ _ _ t
    exact ⟨Nat.le_refl _, fun j _ => ⟨rfl, rfl⟩, by show lex c.1 c.2.1 c.2.2 (c.2.2 - c.2.2) t (t + 0); rw [Nat.sub_self]; rfl⟩
  | succ m ih =>
    intro i a b c ha hc h t
    rw [pwloop_s] at h ⊢
    cases he : (e a c).1 with
    | inl q =>
      have e0 : (Eop (some e) (.inr a) c).1 = .inl q := he
      rw [e0] at h
      rw [show psign F n (if i = k then 93 else 44) (.inl q) = .inl q from rfl, pwloop_b (r := (.inl q, (Eop (some e) (.inr a) c).2)) rfl] at h
      cases h
    | inr z =>
      have e0 : (Eop (some e) (.inr a) c).1 = .inr z := he
      obtain ⟨g1, a1, g2, g3, g4⟩ := hG a c (fun u hu => by cases hu; exact ha) z he
      cases g2
      have hl := hE a z c ha hc he t
      cases hs : psign F n (if i = k then 93 else 44) (.inr z) with
      | inl q =>
        rw [e0, hs, pwloop_b (r := (.inl q, (Eop (some e) (.inr a) c).2)) rfl] at h
        cases h
      | inr z2 =>
        obtain ⟨z3, k1, k2, k3⟩ := psign_in (fun u hu => by cases hu; exact g1) (by split <;> decide) hs
        cases k1
        rw [e0, hs] at h ⊢
        have := ih (i + 1) z2 b (Eop (some e) (.inr a) c).2 k3 (by show (e a c).2.2.2 ≤ z2; omega) h (t + 1)
        rw [show t + (m + 1) = t + 1 + m by omega]
        exact hl.tr this
theorem lE_word {F : Nat → Int32} {n : Nat} {f : Nat → Nat} {len : Nat} (hn : n ≤ 150) (hw : ∀ a : Nat, a ≤ n → pword F n f len a = -1 ∨ ∃ k : Nat, k < 13 ∧ pword F n f len a = nI k) {E : Option PE} (hG : gEo n E) (hE : ∀ e : PE, E = some e → lE n e) : lE n (pwordR F n f len E) := by
  intro a b c ha hc h t
  have hg := gE_word (F := F) (f := f) (len := len) hG a c (fun u hu => by cases hu; exact ha) b h
  rcases hw a ha with hx | ⟨k, hk, hk2⟩
  · unfold pwordR at h
    rw [pwst_x hx] at h
    cases h
  · have hx : ¬ pword F n f len a = -1 := by rw [hk2]; exact mne (by omega)
    have h3 := pw_gt ha hx
    have h4 := sk_le F ha
    have e1 := pwst_n hx
    by_cases h10 : k < 10
    · have hlt : pword F n f len a < 10 := by rw [hk2]; exact nI_lt (a := k) (b := 10) h10 (by omega)
      have e : pwordR F n f len E a c = (.inr (pwend F n a), cadd 1 (nI k) c) := by
        unfold pwordR
        rw [e1, if_neg (show ¬ pbad (.inr (pwend F n a)) = true from Bool.false_ne_true), if_pos hlt, hk2]
      rw [e]
      exact lap.nam (by omega) h10
    · have hge : ¬ pword F n f len a < 10 := by
        rw [hk2]
        exact fun q => absurd ((nI_ltI (a := k) (b := 10) (by omega) (by decide)).mp q) h10
      have e : pwordR F n f len E a c = pwtail F n f len E a c := by
        unfold pwordR
        rw [e1, if_neg (show ¬ pbad (.inr (pwend F n a)) = true from Bool.false_ne_true), if_neg hge]
      rw [e] at h ⊢
      cases E with
      | none =>
        exfalso
        have e2 : pwtail F n f len none a c = (.inl (3, sk F n a), c) := by
          unfold pwtail
          simp only [e1]
          rfl
        rw [e2] at h
        cases h
      | some u =>
        have hw2 : (pparts (nI k) = 2 ∧ ∃ q : Nat, 2 ≤ q ∧ q ≤ 7 ∧ pkd (nI k) = nI q) ∨ (pparts (nI k) = 3 ∧ pkd (nI k) = 8) := by
          have : k = 10 ∨ k = 11 ∨ k = 12 := by omega
          rcases this with rfl | rfl | rfl
          · exact Or.inl ⟨by decide, 6, by decide, by decide, by decide⟩
          · exact Or.inl ⟨by decide, 7, by decide, by decide, by decide⟩
          · exact Or.inr ⟨by decide, by decide⟩
        unfold pwtail at h ⊢
        simp only [e1, hk2] at h ⊢
        cases hs : psign F n 91 (.inr (pwend F n a)) with
        | inl q =>
          rw [hs] at h
          rw [pwloop_b (r := (.inl q, c)) rfl] at h
          cases h
        | inr z2 =>
          obtain ⟨z3, k1, k2, k3⟩ := psign_in (fun v hv => by cases hv; exact h3.2) (by decide) hs
          cases k1
          rw [hs] at h
          have hl := fun t => lE_loop (hG u rfl) (hE u rfl) (pparts (nI k)) 1 z2 b c k3 (by omega) h t
          have hg2 := gT.lp (hG u rfl) (k := pparts (nI k)) (F := F) (pparts (nI k)) 1 (.inr z2) c (fun v hv => by cases hv; exact k3) b h
          obtain ⟨g1, a1, g2, g3, g4⟩ := hg2
          cases g2
          have hlt : (pwloop F n u (pparts (nI k)) (pparts (nI k)) 1 (.inr z2, c)).2.2.2 < 150 := by omega
          rcases hw2 with ⟨p1, q, q2, q7, p2⟩ | ⟨p1, p2⟩
          · have hl2 := hl t
            rw [p1] at hl2
            rw [p2]
            rw [p1] at hlt ⊢
            exact hl2.tr (lap.two hlt q2 q7)
          · have hl2 := hl t
            rw [p1] at hl2
            rw [p2]
            rw [p1] at hlt ⊢
            exact hl2.tr (lap.thr hlt)
theorem lE_unit {F : Nat → Int32} {n : Nat} {f : Nat → Nat} {len : Nat} (hn : n ≤ 150) (hw : ∀ a : Nat, a ≤ n → pword F n f len a = -1 ∨ ∃ k : Nat, k < 13 ∧ pword F n f len a = nI k) {E : Option PE} (hG : gEo n E) (hE : ∀ e : PE, E = some e → lE n e) : lE n (punit F n f len E) := by
  intro a b c ha hc h t
  have hk := sk_le F ha
  unfold punit at h ⊢
  by_cases q : isdg (tby F n (sk F n a)) = true
  · rw [if_pos q] at h ⊢
    have h1 := pnumS_gt hk.2 h
    exact lap.num (by omega)
  · rw [if_neg q] at h ⊢
    by_cases q2 : tby F n (sk F n a) = 40
    · rw [if_pos q2] at h ⊢
      have hlt := tby_w (w := 40) (by decide) q2
      cases E with
      | none => cases h
      | some e =>
        simp only [ppart_eq] at h ⊢
        cases he : (e (sk F n a + 1) c).1 with
        | inl z => rw [he] at h; cases h
        | inr z => exact hE e rfl (sk F n a + 1) z c (by omega) (by omega) he t
    · rw [if_neg q2] at h ⊢
      exact lE_word hn hw hG hE (sk F n a) b c hk.2 (by omega) h t
theorem lE_ops {F : Nat → Int32} {n : Nat} {U : PE} (hn : n ≤ 150) (hG : gE n U) (hU : lE n U) {c1 c2 : Int32} {k1 k2 : Nat} (h1 : ¬ c1 = -1) (h2 : ¬ c2 = -1) (hk1 : 2 ≤ k1 ∧ k1 ≤ 7) (hk2 : 2 ≤ k2 ∧ k2 ≤ 7) : ∀ (m a b : Nat) (c : CD), a ≤ n → c.2.2 ≤ a → (pops F n U c1 c2 (nI k1) (nI k2) m (.inr a, c)).1 = .inr b → ∀ t : Nat, lap c (pops F n U c1 c2 (nI k1) (nI k2) m (.inr a, c)).2 (t + 1) (t + 1) := by
  intro m
  induction m with
  | zero =>
    intro a b c _ _ _ t
    exact ⟨Nat.le_refl _, fun j _ => ⟨rfl, rfl⟩, by show lex c.1 c.2.1 c.2.2 (c.2.2 - c.2.2) (t + 1) (t + 1); rw [Nat.sub_self]; rfl⟩
  | succ m ih =>
    intro a b c ha hc h t
    have hk := sk_le F ha
    unfold pops at h ⊢
    simp only at h ⊢
    by_cases q : tby F n (sk F n a) = c1 ∨ tby F n (sk F n a) = c2
    · rw [if_pos q] at h ⊢
      have hlt : sk F n a < n := by
        rcases q with q | q
        · exact tby_w h1 q
        · exact tby_w h2 q
      cases hu : (U (sk F n a + 1) c).1 with
      | inl z =>
        rw [hu] at h
        exfalso
        cases m with
        | zero => cases h
        | succ m => cases h
      | inr z =>
        obtain ⟨g1, a1, g2, g3, g4⟩ := hG (sk F n a + 1) c (fun u e => by cases e; omega) z hu
        cases g2
        have hl := hU (sk F n a + 1) z c (by omega) (by omega) hu (t + 1)
        rw [hu] at h
        have hlt2 : (U (sk F n a + 1) c).2.2.2 < 150 := by omega
        have hca := cadd_1 (if tby F n (sk F n a) = c1 then nI k1 else nI k2) 0 (U (sk F n a + 1) c).2
        have h3 : lap (U (sk F n a + 1) c).2 (cadd (if tby F n (sk F n a) = c1 then nI k1 else nI k2) 0 (U (sk F n a + 1) c).2) (t + 2) (t + 1) := by
          by_cases q3 : tby F n (sk F n a) = c1
          · rw [if_pos q3]; exact lap.two hlt2 hk1.1 hk1.2
          · rw [if_neg q3]; exact lap.two hlt2 hk2.1 hk2.2
        exact (hl.tr h3).tr (ih z b _ g1 (by omega) h t)
    · rw [if_neg q]
      exact ⟨Nat.le_refl _, fun j _ => ⟨rfl, rfl⟩, by show lex c.1 c.2.1 c.2.2 (c.2.2 - c.2.2) (t + 1) (t + 1); rw [Nat.sub_self]; rfl⟩
theorem lE_sum {F : Nat → Int32} {n : Nat} {f : Nat → Nat} {len : Nat} (hn : n ≤ 150) (hw : ∀ a : Nat, a ≤ n → pword F n f len a = -1 ∨ ∃ k : Nat, k < 13 ∧ pword F n f len a = nI k) {E : Option PE} (hG : gEo n E) (hE : ∀ e : PE, E = some e → lE n e) : lE n (psum F n f len E) := by
  have two : ∀ (U : PE) (c1 c2 : Int32) (k1 k2 : Nat), gE n U → lE n U → ¬ c1 = -1 → ¬ c2 = -1 → (2 ≤ k1 ∧ k1 ≤ 7) → (2 ≤ k2 ∧ k2 ≤ 7) → lE n (fun a c => pops F n U c1 c2 (nI k1) (nI k2) 150 (U a c)) := by
    intro U c1 c2 k1 k2 gU lU h1 h2 h3 h4 a b c ha hc h t
    show lap c (pops F n U c1 c2 (nI k1) (nI k2) 150 (U a c)).2 t (t + 1)
    have h : (pops F n U c1 c2 (nI k1) (nI k2) 150 (U a c)).1 = .inr b := h
    cases hu : (U a c).1 with
    | inl z =>
      have e : pops F n U c1 c2 (nI k1) (nI k2) 150 (U a c) = U a c := by
        rw [show U a c = (.inl z, (U a c).2) from Prod.ext hu rfl]
        rfl
      rw [e, hu] at h
      cases h
    | inr z =>
      obtain ⟨g1, a1, g2, g3, g4⟩ := gU a c (fun u e => by cases e; exact ha) z hu
      cases g2
      have hl := lU a z c ha hc hu t
      have e : U a c = (.inr z, (U a c).2) := Prod.ext hu rfl
      rw [e] at h ⊢
      exact hl.tr (lE_ops hn gU lU h1 h2 h3 h4 150 z b _ g1 (by omega) h t)
  have hp : lE n (pprod F n f len E) := two _ 42 47 4 5 (gE_unit hG) (lE_unit hn hw hG hE) (by decide) (by decide) (by decide) (by decide)
  exact two _ 43 45 2 3 (gE_prod hG) hp (by decide) (by decide) (by decide) (by decide)
theorem lE_exp {F : Nat → Int32} {n : Nat} {f : Nat → Nat} {len : Nat} (hn : n ≤ 150) (hw : ∀ a : Nat, a ≤ n → pword F n f len a = -1 ∨ ∃ k : Nat, k < 13 ∧ pword F n f len a = nI k) : ∀ l : Nat, lE n (pexp F n f len l) := by
  intro l
  induction l with
  | zero => exact lE_sum hn hw (fun e q => by cases q) (fun e q => by cases q)
  | succ l ih => exact lE_sum hn hw (fun e q => by cases q; exact gE_exp l) (fun e q => by cases q; exact ih)
/-- a law that was read is well made -/
theorem lwf_exp {F : Nat → Int32} {n : Nat} {f : Nat → Nat} {len : Nat} (hn : n ≤ 150) (hw : ∀ a : Nat, a ≤ n → pword F n f len a = -1 ∨ ∃ k : Nat, k < 13 ∧ pword F n f len a = nI k) {K V : Nat → Int32} (h : pbad (plend F n (pexp F n f len 6 0 (K, V, 0)).1) = false) (K2 V2 : Nat → Int32) : lwf (va_cpy (pexp F n f len 6 0 (K, V, 0)).2.1 K2 0 0 150, va_cpy (pexp F n f len 6 0 (K, V, 0)).2.2.1 V2 0 0 150, (pexp F n f len 6 0 (K, V, 0)).2.2.2) := by
  cases hs : (pexp F n f len 6 0 (K, V, 0)).1 with
  | inl e => rw [hs] at h; cases h
  | inr b =>
    obtain ⟨g1, a1, g2, g3, g4⟩ := gE_exp (F := F) (n := n) (f := f) (len := len) 6 0 (K, V, 0) (fun u e => by cases e; exact Nat.zero_le _) b hs
    cases g2
    have g4 : (pexp F n f len 6 0 (K, V, 0)).2.2.2 + 0 + 0 ≤ b + 0 := g4
    obtain ⟨-, -, h3⟩ := lE_exp hn hw 6 0 b (K, V, 0) (Nat.zero_le _) (Nat.le_refl _) hs 0
    refine ⟨by show (pexp F n f len 6 0 (K, V, 0)).2.2.2 ≤ 150; omega, fun _ => lex_lok _ _ _ (lex_c _ _ _ (fun j _ h2 => ?_) h3)⟩
    have h2 : j < 0 + (pexp F n f len 6 0 (K, V, 0)).2.2.2 := h2
    exact ⟨cpy_at (by omega), cpy_at (by omega)⟩
end Q14I
