section Q14L
/-- the range of some doors lies within that of others -/
def wsub (r r' : Option (Nat × Nat)) : Prop := ∀ l h : Nat, r = some (l, h) → ∃ l' h' : Nat, r' = some (l', h') ∧ l' ≤ l ∧ h ≤ h'
theorem wsub.rf (r : Option (Nat × Nat)) : wsub r r := fun l h e => ⟨l, h, e, Nat.le_refl _, Nat.le_refl _⟩
theorem wsub.tr {r r' r2 : Option (Nat × Nat)} (h : wsub r r') (h' : wsub r' r2) : wsub r r2 := fun l g e => by
  obtain ⟨l1, g1, e1, a1, b1⟩ := h l g e
  obtain ⟨l2, g2, e2, a2, b2⟩ := h' l1 g1 e1
  exact ⟨l2, g2, e2, by omega, by omega⟩
theorem wsub.st {r r' : Option (Nat × Nat)} (h : wsub r r') (a : Nat) : wsub (wst r a) (wst r' a) := fun l g e => by
  cases r with
  | none =>
    cases e
    cases r' with
    | none => exact ⟨a, a, rfl, Nat.le_refl _, Nat.le_refl _⟩
    | some q => exact ⟨min q.1 a, max q.2 a, rfl, Nat.min_le_right _ _, Nat.le_max_right _ _⟩
  | some q =>
    obtain ⟨l0, g0⟩ := q
    obtain ⟨l1, g1, e1, a1, b1⟩ := h l0 g0 rfl
    subst e1
    cases e
    exact ⟨min l1 a, max g1 a, rfl, by omega, by omega⟩
theorem wsub.ad {r r' : Option (Nat × Nat)} (h : wsub r r') (a : Nat) : wsub r (wst r' a) := fun l g e => by
  obtain ⟨l1, g1, e1, a1, b1⟩ := h l g e
  subst e1
  exact ⟨min l1 a, max g1 a, rfl, by omega, by omega⟩
theorem wrun_mono {X : Nat → Nat} {B B' : Nat → Bool} : ∀ n : Nat, (∀ a : Nat, a < n → B a = true → B' a = true) → wsub (wrun X B n) (wrun X B' n) := by
  intro n
  induction n with
  | zero => intro _; exact .rf _
  | succ n ih =>
    intro h
    have h1 := ih (fun a ha => h a (by omega))
    have h2 := h n (by omega)
    unfold wrun
    by_cases c : B n = true
    · rw [if_pos c, if_pos (h2 c)]; exact h1.st _
    · rw [if_neg c]
      by_cases c2 : B' n = true
      · rw [if_pos c2]; exact h1.ad _
      · rw [if_neg c2]; exact h1
theorem wrun_le {X : Nat → Nat} {B : Nat → Bool} {n : Nat} : ∀ k : Nat, wsub (wrun X B n) (wrun X B (n + k)) := by
  intro k
  induction k with
  | zero => exact .rf _
  | succ k ih =>
    show wsub _ (if B (n + k) = true then wst (wrun X B (n + k)) (X (n + k)) else wrun X B (n + k))
    by_cases c : B (n + k) = true
    · rw [if_pos c]; exact ih.ad _
    · rw [if_neg c]; exact ih
theorem wayl_le {st : Nat} {r r' : Option (Nat × Nat)} (h : wsub r r') (hf : wfit r) : wayl st r ≤ wayl st r' := by
  cases r with
  | none => exact Nat.zero_le _
  | some q =>
    obtain ⟨l, g⟩ := q
    obtain ⟨l1, g1, e1, a1, b1⟩ := h l g rfl
    have h1 := hf l g rfl
    subst e1
    show g - l + min (ndist st l) (ndist st g) ≤ g1 - l1 + min (ndist st l1) (ndist st g1)
    unfold ndist
    omega
theorem sumN_sw {f g : Nat → Nat} {a : Nat} : ∀ n : Nat, a < n → (∀ b : Nat, b ≠ a → f b = g b) → sumN f n + g a = sumN g n + f a := by
  intro n
  induction n with
  | zero => intro h; omega
  | succ n ih =>
    intro ha h
    show sumN f n + f n + g a = sumN g n + g n + f a
    by_cases e : a = n
    · subst e
      rw [sumN_c (f := f) (g := g) a (fun b hb => h b (by omega))]
      omega
    · have := ih (by omega) h
      rw [h n (by omega)]
      omega
/-- a plan with one door done otherwise -/
def psw (p : Nat → Nat) (a q : Nat) : Nat → Nat := fun b => if b = a then q else p b
theorem psw_s {p : Nat → Nat} {a q : Nat} : psw p a q a = q := if_pos rfl
theorem psw_n {p : Nat → Nat} {a q b : Nat} (h : b ≠ a) : psw p a q b = p b := if_neg h
section
variable {X : Nat → Nat} {A T : Nat → Nat → Nat} {dc st cl V : Nat} {ch : Nat → Nat}
/-- a door's way put for another that is no shorter -/
theorem psw_feas (hX : ∀ a : Nat, a < dc → X a ≤ 99) (hf : feas X T dc st cl ch) {a q : Nat} (ha : a < dc) (hq : q < 19) (hT : T a q ≤ T a (ch a)) (h0 : 0 < q → 0 < ch a) : feas X T dc st cl (psw ch a q) := by
  refine ⟨fun b hb => ?_, ?_⟩
  · by_cases e : b = a
    · rw [e, psw_s]; exact hq
    · rw [psw_n e]; exact hf.1 b hb
  · have h1 : sumN (fun b => T b (psw ch a q b)) dc + T a (ch a) = sumN (fun b => T b (ch b)) dc + T a (psw ch a q a) := sumN_sw (f := fun b => T b (psw ch a q b)) (g := fun b => T b (ch b)) dc ha (fun b hb => by show T b (psw ch a q b) = T b (ch b); rw [psw_n hb])
    rw [psw_s] at h1
    have h2 : wayC X dc st (psw ch a q) ≤ wayC X dc st ch := wayl_le (wrun_mono dc (fun b hb h => by
      have h := of_decide_eq_true h
      refine decide_eq_true ?_
      by_cases e : b = a
      · rw [e, psw_s] at h; rw [e]; exact h0 h
      · rw [psw_n e] at h; exact h)) (wrun_fit dc hX)
    have h3 := hf.2
    omega
theorem psw_val {a q : Nat} (ha : a < dc) : valC A dc (psw ch a q) + A a (ch a) = valC A dc ch + A a q := by
  have h1 : sumN (fun b => A b (psw ch a q b)) dc + A a (ch a) = sumN (fun b => A b (ch b)) dc + A a (psw ch a q a) := sumN_sw (f := fun b => A b (psw ch a q b)) (g := fun b => A b (ch b)) dc ha (fun b hb => by show A b (psw ch a q b) = A b (ch b); rw [psw_n hb])
  rw [psw_s] at h1
  exact h1
/-- no way ahead of the first best one's brings as much in no more time -/
theorem lexO_k1 (h : lexO X A T dc st cl V ch) (hX : ∀ a : Nat, a < dc → X a ≤ 99) {a q : Nat} (ha : a < dc) (h1 : q < ch a) (h2 : A a (ch a) ≤ A a q) (h3 : T a q ≤ T a (ch a)) : False := by
  have hc := h.2.1.1 a ha
  have hf := psw_feas hX h.2.1 ha (q := q) (by omega) h3 (by omega)
  have hv := psw_val (A := A) (ch := ch) (q := q) ha
  have hle := h.1.2 _ hf
  have hV := h.2.2.1
  have := h.2.2.2 a _ ha hf (by omega) (fun b hb => psw_n (by omega))
  rw [psw_s] at this
  omega
/-- nor one behind it more in as much time -/
theorem lexO_k2 (h : lexO X A T dc st cl V ch) (hX : ∀ a : Nat, a < dc → X a ≤ 99) {a q : Nat} (ha : a < dc) (hq : q < 19) (h0 : 0 < ch a) (h2 : A a (ch a) < A a q) (h3 : T a q = T a (ch a)) : False := by
  have hf := psw_feas hX h.2.1 ha hq (by omega) (fun _ => h0)
  have hv := psw_val (A := A) (ch := ch) (q := q) ha
  have hle := h.1.2 _ hf
  have hV := h.2.2.1
  omega
end
/-- the program's range of doors -/
def wel (r : Option (Nat × Nat)) : Int32 := match r with
  | none => -1
  | some (l, _) => nI l
def weg (r : Option (Nat × Nat)) : Int32 := match r with
  | none => -1
  | some (_, h) => nI h
theorem sstr_e {st : Nat} {r : Option (Nat × Nat)} (hs : st ≤ 99) (hr : wfit r) : sstr (nI st) (wel r) (weg r) = nI (wayl st r) := by
  cases r with
  | none => rfl
  | some q =>
    obtain ⟨l, g⟩ := q
    have h1 := hr l g rfl
    show sstr (nI st) (nI l) (nI g) = nI (g - l + min (ndist st l) (ndist st g))
    unfold sstr
    rw [if_neg (nim1 (by omega)), iap_n (by omega) (by omega), iap_n (by omega) (by omega), nJ_sub (by omega)]
    have hd1 : ndist st l < 2 ^ 20 := by unfold ndist; omega
    have hd2 : ndist st g < 2 ^ 20 := by unfold ndist; omega
    by_cases c : ndist st g ≤ ndist st l
    · rw [if_pos (nI_le c (by omega)), Nat.min_eq_right c, nI_add]
    · rw [if_neg (fun q => c ((nI_leI (by omega) (by omega)).mp q)), Nat.min_eq_left (by omega), nI_add]
theorem blow_e {r : Option (Nat × Nat)} {x : Nat} (hx : x ≤ 99) (hr : wfit r) : blow (nI x) (wel r) = wel (wst r x) := by
  cases r with
  | none => rfl
  | some q =>
    obtain ⟨l, g⟩ := q
    have h1 := hr l g rfl
    show blow (nI x) (nI l) = nI (min l x)
    unfold blow
    rw [if_neg (nim1 (by omega))]
    by_cases c : l ≤ x
    · rw [if_pos (nI_le c (by omega)), Nat.min_eq_left c]
    · rw [if_neg (fun q => c ((nI_leI (by omega) (by omega)).mp q)), Nat.min_eq_right (by omega)]
theorem bhig_e {r : Option (Nat × Nat)} {x : Nat} (hx : x ≤ 99) (hr : wfit r) : bhig (nI x) (weg r) = weg (wst r x) := by
  cases r with
  | none => rfl
  | some q =>
    obtain ⟨l, g⟩ := q
    have h1 := hr l g rfl
    show bhig (nI x) (nI g) = nI (max g x)
    unfold bhig
    rw [if_neg (nim1 (by omega))]
    by_cases c : x ≤ g
    · rw [if_pos (nI_le c (by omega)), Nat.max_eq_left c]
    · rw [if_neg (fun q => c ((nI_leI (by omega) (by omega)).mp q)), Nat.max_eq_right (by omega)]
theorem wst_fit {r : Option (Nat × Nat)} {x : Nat} (hx : x ≤ 99) (hr : wfit r) : wfit (wst r x) := by
  intro l g e
  cases r with
  | none => cases e; exact ⟨Nat.le_refl _, hx⟩
  | some q =>
    obtain ⟨l0, g0⟩ := q
    have h1 := hr l0 g0 rfl
    cases e
    omega
/-- what holds all the way through the ways of a door -/
theorem bdown_inv {F : Nat → bS → bS} {b : Nat} {I : bS → Prop} : ∀ (K : Nat) (s : bS), (∀ k : Nat, k < K → ∀ s : bS, I s → I (F (b + k) s)) → I s → I (bdown F b K s)
  | 0, _, _, h => h
  | K + 1, s, hI, h => bdown_inv K _ (fun k hk => hI k (by omega)) (hI K (by omega) s h)
theorem bdown_hit {F : Nat → bS → bS} {b j : Nat} {I J : bS → Prop} (hJ : ∀ s : bS, I s → J (F (b + j) s)) (hl : ∀ k : Nat, k < j → ∀ s : bS, J s → J (F (b + k) s)) : ∀ (K : Nat) (s : bS), j < K → (∀ k : Nat, j < k → k < K → ∀ s : bS, I s → I (F (b + k) s)) → I s → J (bdown F b K s)
  | 0, _, h, _, _ => absurd h (Nat.not_lt_zero j)
  | K + 1, s, hj, hI, h => by
    by_cases e : j = K
    · subst e
      exact bdown_inv j _ hl (hJ s h)
    · exact bdown_hit hJ hl K _ (by omega) (fun k h1 h2 => hI k h1 (by omega)) (hI K (by omega) (by omega) s h)
def bpr (p : Nat → Nat) (x : Nat) (s : bS) : Prop := ∀ a : Nat, a < x → s.2.2.2 a = bcode (p a)
def fnd (V Len dc : Nat) (ch : Nat → Nat) (s : bS) : Prop := s.1 = Int64.ofNat V ∧ s.2.1 = nI Len ∧ ∀ a : Nat, a < dc → s.2.2.1 a = bcode (ch a)
theorem n_le {a b : Nat} (ha : a < 2 ^ 50) (hb : b < 2 ^ 50) : Int64.ofNat a ≤ Int64.ofNat b ↔ a ≤ b := by
  rw [← Int64.not_lt, ← Nat.not_lt]
  exact ⟨fun h q => h (lt_n2 hb ha q), fun h q => h (lt_n1 hb ha q)⟩
section
variable {X : Nat → Nat} {A T : Nat → Nat → Nat} {dc st cl V : Nat} {ch : Nat → Nat} {VL HO : Nat → Int64} {LN CO XD : Nat → Int32} {sz hn : Nat → Nat} {kq : Nat → Nat → Nat}
theorem bt_main (hdc : dc ≤ 5) (hX : ∀ a : Nat, a < dc → X a ≤ 99) (hst : st ≤ 99) (hcl : cl ≤ 480) (hA : ∀ a q : Nat, a < dc → q < 19 → A a q ≤ 2 ^ 42) (hT : ∀ a q : Nat, a < dc → q < 19 → T a q ≤ 200) (hA0 : ∀ a : Nat, a < dc → A a 0 = 0) (hT0 : ∀ a : Nat, a < dc → T a 0 = 0)
    (hK : ∀ x i : Nat, x < dc → i < sz x → 1 ≤ kq x i ∧ kq x i < 19 ∧ VL (x * 18 + i) = Int64.ofNat (A x (kq x i)) ∧ LN (x * 18 + i) = nI (T x (kq x i)) ∧ CO (x * 18 + i) = bcode (kq x i)) (hKs : ∀ x i j : Nat, x < dc → i < j → j < sz x → kq x i < kq x j)
    (hH : ∀ x : Nat, x ≤ dc → HO x = Int64.ofNat (hn x) ∧ hn x ≤ 2 ^ 46) (hH0 : hn dc = 0) (hH2 : ∀ x : Nat, x < dc → hn (x + 1) + A x (ch x) ≤ hn x) (hch : ∀ x : Nat, x < dc → ch x = 0 ∨ ∃ i : Nat, i < sz x ∧ kq x i = ch x) (hL : lexO X A T dc st cl V ch) (hXD : ∀ a : Nat, a < dc → XD a = nI (X a)) :
    ∀ (f x : Nat), x + f = dc → ∀ (p : Nat → Nat) (s : bS), (∀ a : Nat, a < x → p a < 19) → bpr p x s →
      ((s.1 ≤ Int64.ofNat V → (btry (nI st) (nI cl) XD HO VL LN CO sz f x (Int64.ofNat (sumN (fun a => A a (p a)) x)) (nI (sumN (fun a => T a (p a)) x)) (wel (wrun X (fun a => decide (0 < p a)) x)) (weg (wrun X (fun a => decide (0 < p a)) x)) s).1 ≤ Int64.ofNat V ∧ bpr p x (btry (nI st) (nI cl) XD HO VL LN CO sz f x (Int64.ofNat (sumN (fun a => A a (p a)) x)) (nI (sumN (fun a => T a (p a)) x)) (wel (wrun X (fun a => decide (0 < p a)) x)) (weg (wrun X (fun a => decide (0 < p a)) x)) s)) ∧
      ((∀ a : Nat, a < x → p a = ch a) → s.1 ≤ Int64.ofNat V → fnd V (sumN (fun a => T a (ch a)) dc + wayC X dc st ch) dc ch (btry (nI st) (nI cl) XD HO VL LN CO sz f x (Int64.ofNat (sumN (fun a => A a (p a)) x)) (nI (sumN (fun a => T a (p a)) x)) (wel (wrun X (fun a => decide (0 < p a)) x)) (weg (wrun X (fun a => decide (0 < p a)) x)) s) ∧ bpr p x (btry (nI st) (nI cl) XD HO VL LN CO sz f x (Int64.ofNat (sumN (fun a => A a (p a)) x)) (nI (sumN (fun a => T a (p a)) x)) (wel (wrun X (fun a => decide (0 < p a)) x)) (weg (wrun X (fun a => decide (0 < p a)) x)) s)) ∧
      ((∃ a : Nat, a < x ∧ p a < ch a ∧ ∀ b : Nat, b < a → p b = ch b) → fnd V (sumN (fun a => T a (ch a)) dc + wayC X dc st ch) dc ch s → fnd V (sumN (fun a => T a (ch a)) dc + wayC X dc st ch) dc ch (btry (nI st) (nI cl) XD HO VL LN CO sz f x (Int64.ofNat (sumN (fun a => A a (p a)) x)) (nI (sumN (fun a => T a (p a)) x)) (wel (wrun X (fun a => decide (0 < p a)) x)) (weg (wrun X (fun a => decide (0 < p a)) x)) s) ∧ bpr p x (btry (nI st) (nI cl) XD HO VL LN CO sz f x (Int64.ofNat (sumN (fun a => A a (p a)) x)) (nI (sumN (fun a => T a (p a)) x)) (wel (wrun X (fun a => decide (0 < p a)) x)) (weg (wrun X (fun a => decide (0 < p a)) x)) s))) := by
  have hV := hL.2.2.1
  have hfe := hL.2.1
  have hVb : V ≤ dc * 2 ^ 42 := by
    rw [← hV]
    exact sumN_b dc (fun a ha => hA a _ ha (hfe.1 a ha))
  have hVc : dc * 2 ^ 42 ≤ 5 * 2 ^ 42 := Nat.mul_le_mul_right _ hdc
  have hrest : ∀ m x : Nat, x + m = dc → sumR (fun a => A a (ch a)) x m ≤ hn x := by
    intro m
    induction m with
    | zero => intro x _; exact Nat.zero_le _
    | succ m ih =>
      intro x hx
      have h1 := ih (x + 1) (by omega)
      have h2 := hH2 x (by omega)
      show A x (ch x) + sumR (fun a => A a (ch a)) (x + 1) m ≤ hn x
      omega
  -- what is on the way to the best one is not cut
  have cutB : ∀ (m x : Nat), x + m = dc → ∀ (p : Nat → Nat) (s : bS), (∀ a : Nat, a < x → p a = ch a) → s.1 ≤ Int64.ofNat V → bcut (nI st) (nI cl) HO x (Int64.ofNat (sumN (fun a => A a (p a)) x)) (nI (sumN (fun a => T a (p a)) x)) (wel (wrun X (fun a => decide (0 < p a)) x)) (weg (wrun X (fun a => decide (0 < p a)) x)) s = false := by
    intro m x hx p s hp hs
    have eA := sumN_c (f := fun a => A a (p a)) (g := fun a => A a (ch a)) x (fun a ha => by show A a (p a) = A a (ch a); rw [hp a ha])
    have eT := sumN_c (f := fun a => T a (p a)) (g := fun a => T a (ch a)) x (fun a ha => by show T a (p a) = T a (ch a); rw [hp a ha])
    have eW : wrun X (fun a => decide (0 < p a)) x = wrun X (fun a => decide (0 < ch a)) x := wrun_c x (fun a ha => by show decide (0 < p a) = decide (0 < ch a); rw [hp a ha])
    have hfit : wfit (wrun X (fun a => decide (0 < ch a)) x) := wrun_fit x (fun a ha => hX a (by omega))
    have hw : wayl st (wrun X (fun a => decide (0 < ch a)) x) ≤ wayC X dc st ch := by
      have := wayl_le (st := st) (wrun_le (X := X) (B := fun a => decide (0 < ch a)) (n := x) m) hfit
      rw [hx] at this
      exact this
    have hT1 : sumN (fun a => T a (ch a)) x ≤ sumN (fun a => T a (ch a)) dc := by
      rw [← hx, sumN_R]
      omega
    have hA1 : V = sumN (fun a => A a (ch a)) x + sumR (fun a => A a (ch a)) x m := by
      rw [← hV, ← sumN_R, hx]
      rfl
    have hr := hrest m x hx
    obtain ⟨hH1, hHb⟩ := hH x (by omega)
    have hfe2 := hfe.2
    unfold bcut
    rw [eA, eT, eW, sstr_e hst hfit, nI_add, hH1, ← Int64.ofNat_add, decide_eq_false (fun q => absurd ((nI_ltI (by omega) (by omega)).mp q) (by omega)), decide_eq_false (Int64.not_lt.mpr (Int64.le_trans hs ((n_le (by omega) (by omega)).mpr (by omega))))]
    rfl
  -- what is not cut at the end can be
  have leaf : ∀ (p : Nat → Nat) (s : bS), (∀ a : Nat, a < dc → p a < 19) → ¬ bcut (nI st) (nI cl) HO dc (Int64.ofNat (sumN (fun a => A a (p a)) dc)) (nI (sumN (fun a => T a (p a)) dc)) (wel (wrun X (fun a => decide (0 < p a)) dc)) (weg (wrun X (fun a => decide (0 < p a)) dc)) s = true → feas X T dc st cl p ∧ ¬ Int64.ofNat (valC A dc p) < s.1 := by
    intro p s hp hc
    have hfit : wfit (wrun X (fun a => decide (0 < p a)) dc) := wrun_fit dc hX
    have hTb := sumN_b (f := fun a => T a (p a)) (B := 200) dc (fun a ha => hT a _ ha (hp a ha))
    have hTc : dc * 200 ≤ 5 * 200 := Nat.mul_le_mul_right _ hdc
    have hwb := wayl_b hst hfit
    unfold bcut at hc
    rw [sstr_e hst hfit, nI_add, (hH dc (Nat.le_refl _)).1, hH0, ← Int64.ofNat_add, Nat.add_zero, Bool.or_eq_true, not_or, decide_eq_true_eq, decide_eq_true_eq] at hc
    refine ⟨⟨hp, Nat.not_lt.mp fun q => hc.1 ((nI_ltI (by omega) (by omega)).mpr ?_)⟩, hc.2⟩
    exact q
  intro f
  induction f with
  | zero =>
    intro x hx p s hp hpre
    obtain rfl : dc = x := by omega
    rw [btry]
    have hvb := sumN_b (f := fun a => A a (p a)) (B := 2 ^ 42) dc (fun a ha => hA a _ ha (hp a ha))
    refine ⟨fun hs => ?_, fun hq hs => ?_, fun hq hs => ?_⟩
    · split
      · exact ⟨hs, hpre⟩
      · rename_i hc
        obtain ⟨h1, h2⟩ := leaf p s hp hc
        exact ⟨(n_le (by omega) (by omega)).mpr (hL.1.2 p h1), hpre⟩
    · rw [if_neg (by rw [cutB 0 dc rfl p s hq hs]; exact Bool.false_ne_true)]
      have eA := sumN_c (f := fun a => A a (p a)) (g := fun a => A a (ch a)) dc (fun a ha => by show A a (p a) = A a (ch a); rw [hq a ha])
      have eT := sumN_c (f := fun a => T a (p a)) (g := fun a => T a (ch a)) dc (fun a ha => by show T a (p a) = T a (ch a); rw [hq a ha])
      refine ⟨⟨?_, ?_, fun a ha => ?_⟩, hpre⟩
      · show Int64.ofNat (sumN (fun a => A a (p a)) dc) = _
        rw [eA]
        exact congrArg Int64.ofNat hV
      · show nI (sumN (fun a => T a (p a)) dc) + sstr (nI st) _ _ = _
        rw [sstr_e hst (wrun_fit dc hX), nI_add, eT]
        show nI (sumN (fun a => T a (ch a)) dc + wayC X dc st p) = _
        rw [wayC_c hq]
      · show va_cpy s.2.2.2 s.2.2.1 0 0 5 a = _
        rw [cpy_at (by omega), hpre a ha, hq a ha]
    · split
      · exact ⟨hs, hpre⟩
      · rename_i hc
        exfalso
        obtain ⟨h1, h2⟩ := leaf p s hp hc
        rw [hs.1] at h2
        have h3 := hL.1.2 p h1
        have h4 : ¬ valC A dc p < V := fun q => h2 (lt_n2 (by unfold valC; omega) (by omega) q)
        obtain ⟨a, ha, hlt, hb⟩ := hq
        have := hL.2.2.2 a p ha h1 (by omega) hb
        omega
  | succ f ih =>
    intro x hx p s hp hpre
    have hxl : x < dc := by omega
    -- one way of this door
    have sub : ∀ (q : Nat), q < 19 → ∀ s : bS, bpr p x s →
        (s.1 ≤ Int64.ofNat V → (btry (nI st) (nI cl) XD HO VL LN CO sz f (x + 1) (Int64.ofNat (sumN (fun a => A a (p a)) x + A x q)) (nI (sumN (fun a => T a (p a)) x + T x q)) (wel (if 0 < q then wst (wrun X (fun a => decide (0 < p a)) x) (X x) else wrun X (fun a => decide (0 < p a)) x)) (weg (if 0 < q then wst (wrun X (fun a => decide (0 < p a)) x) (X x) else wrun X (fun a => decide (0 < p a)) x)) (bch s x (bcode q))).1 ≤ Int64.ofNat V ∧ bpr p x (btry (nI st) (nI cl) XD HO VL LN CO sz f (x + 1) (Int64.ofNat (sumN (fun a => A a (p a)) x + A x q)) (nI (sumN (fun a => T a (p a)) x + T x q)) (wel (if 0 < q then wst (wrun X (fun a => decide (0 < p a)) x) (X x) else wrun X (fun a => decide (0 < p a)) x)) (weg (if 0 < q then wst (wrun X (fun a => decide (0 < p a)) x) (X x) else wrun X (fun a => decide (0 < p a)) x)) (bch s x (bcode q)))) ∧
        ((∀ a : Nat, a < x → p a = ch a) → q = ch x → s.1 ≤ Int64.ofNat V → fnd V (sumN (fun a => T a (ch a)) dc + wayC X dc st ch) dc ch (btry (nI st) (nI cl) XD HO VL LN CO sz f (x + 1) (Int64.ofNat (sumN (fun a => A a (p a)) x + A x q)) (nI (sumN (fun a => T a (p a)) x + T x q)) (wel (if 0 < q then wst (wrun X (fun a => decide (0 < p a)) x) (X x) else wrun X (fun a => decide (0 < p a)) x)) (weg (if 0 < q then wst (wrun X (fun a => decide (0 < p a)) x) (X x) else wrun X (fun a => decide (0 < p a)) x)) (bch s x (bcode q))) ∧ bpr p x (btry (nI st) (nI cl) XD HO VL LN CO sz f (x + 1) (Int64.ofNat (sumN (fun a => A a (p a)) x + A x q)) (nI (sumN (fun a => T a (p a)) x + T x q)) (wel (if 0 < q then wst (wrun X (fun a => decide (0 < p a)) x) (X x) else wrun X (fun a => decide (0 < p a)) x)) (weg (if 0 < q then wst (wrun X (fun a => decide (0 < p a)) x) (X x) else wrun X (fun a => decide (0 < p a)) x)) (bch s x (bcode q)))) ∧
        (((∃ a : Nat, a < x ∧ p a < ch a ∧ ∀ b : Nat, b < a → p b = ch b) ∨ ((∀ a : Nat, a < x → p a = ch a) ∧ q < ch x)) → fnd V (sumN (fun a => T a (ch a)) dc + wayC X dc st ch) dc ch s → fnd V (sumN (fun a => T a (ch a)) dc + wayC X dc st ch) dc ch (btry (nI st) (nI cl) XD HO VL LN CO sz f (x + 1) (Int64.ofNat (sumN (fun a => A a (p a)) x + A x q)) (nI (sumN (fun a => T a (p a)) x + T x q)) (wel (if 0 < q then wst (wrun X (fun a => decide (0 < p a)) x) (X x) else wrun X (fun a => decide (0 < p a)) x)) (weg (if 0 < q then wst (wrun X (fun a => decide (0 < p a)) x) (X x) else wrun X (fun a => decide (0 < p a)) x)) (bch s x (bcode q))) ∧ bpr p x (btry (nI st) (nI cl) XD HO VL LN CO sz f (x + 1) (Int64.ofNat (sumN (fun a => A a (p a)) x + A x q)) (nI (sumN (fun a => T a (p a)) x + T x q)) (wel (if 0 < q then wst (wrun X (fun a => decide (0 < p a)) x) (X x) else wrun X (fun a => decide (0 < p a)) x)) (weg (if 0 < q then wst (wrun X (fun a => decide (0 < p a)) x) (X x) else wrun X (fun a => decide (0 < p a)) x)) (bch s x (bcode q)))) := by
      intro q hq s hs
      have eA : sumN (fun a => A a (psw p x q a)) (x + 1) = sumN (fun a => A a (p a)) x + A x q := by
        show sumN (fun a => A a (psw p x q a)) x + A x (psw p x q x) = _
        rw [psw_s, sumN_c (f := fun a => A a (psw p x q a)) (g := fun a => A a (p a)) x (fun a ha => by show A a (psw p x q a) = A a (p a); rw [psw_n (by omega)])]
      have eT : sumN (fun a => T a (psw p x q a)) (x + 1) = sumN (fun a => T a (p a)) x + T x q := by
        show sumN (fun a => T a (psw p x q a)) x + T x (psw p x q x) = _
        rw [psw_s, sumN_c (f := fun a => T a (psw p x q a)) (g := fun a => T a (p a)) x (fun a ha => by show T a (psw p x q a) = T a (p a); rw [psw_n (by omega)])]
      have eW : wrun X (fun a => decide (0 < psw p x q a)) (x + 1) = if 0 < q then wst (wrun X (fun a => decide (0 < p a)) x) (X x) else wrun X (fun a => decide (0 < p a)) x := by
        show (if decide (0 < psw p x q x) = true then wst (wrun X (fun a => decide (0 < psw p x q a)) x) (X x) else wrun X (fun a => decide (0 < psw p x q a)) x) = _
        rw [psw_s, wrun_c (X := X) (B := fun a => decide (0 < psw p x q a)) (B' := fun a => decide (0 < p a)) x (fun a ha => by show decide (0 < psw p x q a) = decide (0 < p a); rw [psw_n (by omega)])]
        simp only [decide_eq_true_eq]
      have hpr : bpr (psw p x q) (x + 1) (bch s x (bcode q)) := by
        intro a ha
        show upd s.2.2.2 x (bcode q) a = _
        by_cases e : a = x
        · rw [e, upd_s, psw_s]
        · rw [upd_n e, psw_n e]; exact hs a (by omega)
      have back : ∀ r : bS, bpr (psw p x q) (x + 1) r → bpr p x r := fun r hr a ha => by
        have := hr a (by omega)
        rw [psw_n (by omega)] at this
        exact this
      have h := ih (x + 1) (by omega) (psw p x q) (bch s x (bcode q)) (fun a ha => by
        by_cases e : a = x
        · rw [e, psw_s]; exact hq
        · rw [psw_n e]; exact hp a (by omega)) hpr
      rw [eA, eT, eW] at h
      obtain ⟨h1, h2, h3⟩ := h
      refine ⟨fun hs1 => ?_, fun hp1 hq1 hs1 => ?_, fun hq1 hs1 => ?_⟩
      · obtain ⟨g1, g2⟩ := h1 hs1
        exact ⟨g1, back _ g2⟩
      · obtain ⟨g1, g2⟩ := h2 (fun a ha => by
          by_cases e : a = x
          · rw [e, psw_s]; exact hq1
          · rw [psw_n e]; exact hp1 a (by omega)) hs1
        exact ⟨g1, back _ g2⟩
      · obtain ⟨g1, g2⟩ := h3 (by
          rcases hq1 with ⟨a, ha, hlt, hb⟩ | ⟨hp1, hlt⟩
          · refine ⟨a, by omega, ?_, fun b hb2 => ?_⟩
            · rw [psw_n (by omega)]; exact hlt
            · rw [psw_n (by omega)]; exact hb b hb2
          · refine ⟨x, by omega, ?_, fun b hb2 => ?_⟩
            · rw [psw_s]; exact hlt
            · rw [psw_n (by omega)]; exact hp1 b hb2) hs1
        exact ⟨g1, back _ g2⟩
    have hfit : wfit (wrun X (fun a => decide (0 < p a)) x) := wrun_fit x (fun a ha => hX a (by omega))
    have hXx := hX x hxl
    -- a kept way
    have kept : ∀ k : Nat, k < sz x → ∀ s : bS, btry (nI st) (nI cl) XD HO VL LN CO sz f (x + 1) (Int64.ofNat (sumN (fun a => A a (p a)) x) + VL (x * 18 + k)) (nI (sumN (fun a => T a (p a)) x) + LN (x * 18 + k)) (blow (XD x) (wel (wrun X (fun a => decide (0 < p a)) x))) (bhig (XD x) (weg (wrun X (fun a => decide (0 < p a)) x))) (bch s x (CO (x * 18 + k))) = btry (nI st) (nI cl) XD HO VL LN CO sz f (x + 1) (Int64.ofNat (sumN (fun a => A a (p a)) x + A x (kq x k))) (nI (sumN (fun a => T a (p a)) x + T x (kq x k))) (wel (if 0 < kq x k then wst (wrun X (fun a => decide (0 < p a)) x) (X x) else wrun X (fun a => decide (0 < p a)) x)) (weg (if 0 < kq x k then wst (wrun X (fun a => decide (0 < p a)) x) (X x) else wrun X (fun a => decide (0 < p a)) x)) (bch s x (bcode (kq x k))) := by
      intro k hk s
      obtain ⟨k1, k2, k3, k4, k5⟩ := hK x k hxl hk
      rw [k3, k4, k5, hXD x hxl, blow_e hXx hfit, bhig_e hXx hfit, ← Int64.ofNat_add, nI_add, if_pos (show 0 < kq x k from k1)]
    have last : ∀ s : bS, btry (nI st) (nI cl) XD HO VL LN CO sz f (x + 1) (Int64.ofNat (sumN (fun a => A a (p a)) x)) (nI (sumN (fun a => T a (p a)) x)) (wel (wrun X (fun a => decide (0 < p a)) x)) (weg (wrun X (fun a => decide (0 < p a)) x)) (bch s x (-1)) = btry (nI st) (nI cl) XD HO VL LN CO sz f (x + 1) (Int64.ofNat (sumN (fun a => A a (p a)) x + A x 0)) (nI (sumN (fun a => T a (p a)) x + T x 0)) (wel (if 0 < 0 then wst (wrun X (fun a => decide (0 < p a)) x) (X x) else wrun X (fun a => decide (0 < p a)) x)) (weg (if 0 < 0 then wst (wrun X (fun a => decide (0 < p a)) x) (X x) else wrun X (fun a => decide (0 < p a)) x)) (bch s x (bcode 0)) := by
      intro s
      rw [hA0 x hxl, hT0 x hxl, if_neg (by omega), Nat.add_zero, Nat.add_zero]
      rfl
    rw [btry]
    refine ⟨fun hs => ?_, fun hq hs => ?_, fun hq hs => ?_⟩
    · split
      · exact ⟨hs, hpre⟩
      · have h1 := bdown_inv (F := fun i s => btry (nI st) (nI cl) XD HO VL LN CO sz f (x + 1) (Int64.ofNat (sumN (fun a => A a (p a)) x) + VL i) (nI (sumN (fun a => T a (p a)) x) + LN i) (blow (XD x) (wel (wrun X (fun a => decide (0 < p a)) x))) (bhig (XD x) (weg (wrun X (fun a => decide (0 < p a)) x))) (bch s x (CO i))) (b := x * 18) (I := fun s => s.1 ≤ Int64.ofNat V ∧ bpr p x s) (sz x) s (fun k hk s h => by
          show (btry _ _ _ _ _ _ _ _ _ _ _ _ _ _ _).1 ≤ _ ∧ bpr p x (btry _ _ _ _ _ _ _ _ _ _ _ _ _ _ _)
          rw [kept k hk]
          exact (sub _ (hK x k hxl hk).2.1 s h.2).1 h.1) ⟨hs, hpre⟩
        rw [last]
        exact (sub 0 (by decide) _ h1.2).1 h1.1
    · rw [if_neg (by rw [cutB (f + 1) x hx p s hq hs]; exact Bool.false_ne_true)]
      rw [last]
      rcases hch x hxl with h0 | ⟨j, hj, ej⟩
      · have h1 := bdown_inv (F := fun i s => btry (nI st) (nI cl) XD HO VL LN CO sz f (x + 1) (Int64.ofNat (sumN (fun a => A a (p a)) x) + VL i) (nI (sumN (fun a => T a (p a)) x) + LN i) (blow (XD x) (wel (wrun X (fun a => decide (0 < p a)) x))) (bhig (XD x) (weg (wrun X (fun a => decide (0 < p a)) x))) (bch s x (CO i))) (b := x * 18) (I := fun s => s.1 ≤ Int64.ofNat V ∧ bpr p x s) (sz x) s (fun k hk s h => by
          show (btry _ _ _ _ _ _ _ _ _ _ _ _ _ _ _).1 ≤ _ ∧ bpr p x (btry _ _ _ _ _ _ _ _ _ _ _ _ _ _ _)
          rw [kept k hk]
          exact (sub _ (hK x k hxl hk).2.1 s h.2).1 h.1) ⟨hs, hpre⟩
        exact (sub 0 (by decide) _ h1.2).2.1 hq h0.symm h1.1
      · have h1 := bdown_hit (F := fun i s => btry (nI st) (nI cl) XD HO VL LN CO sz f (x + 1) (Int64.ofNat (sumN (fun a => A a (p a)) x) + VL i) (nI (sumN (fun a => T a (p a)) x) + LN i) (blow (XD x) (wel (wrun X (fun a => decide (0 < p a)) x))) (bhig (XD x) (weg (wrun X (fun a => decide (0 < p a)) x))) (bch s x (CO i))) (b := x * 18) (j := j) (I := fun s => s.1 ≤ Int64.ofNat V ∧ bpr p x s) (J := fun s => fnd V (sumN (fun a => T a (ch a)) dc + wayC X dc st ch) dc ch s ∧ bpr p x s) (fun s h => by
          show fnd _ _ _ _ (btry _ _ _ _ _ _ _ _ _ _ _ _ _ _ _) ∧ bpr p x (btry _ _ _ _ _ _ _ _ _ _ _ _ _ _ _)
          rw [kept j hj]
          exact (sub _ (hK x j hxl hj).2.1 s h.2).2.1 hq ej h.1) (fun k hk s h => by
          show fnd _ _ _ _ (btry _ _ _ _ _ _ _ _ _ _ _ _ _ _ _) ∧ bpr p x (btry _ _ _ _ _ _ _ _ _ _ _ _ _ _ _)
          have hkk : k < sz x := by omega
          rw [kept k hkk]
          exact (sub _ (hK x k hxl hkk).2.1 s h.2).2.2 (Or.inr ⟨hq, by rw [← ej]; exact hKs x k j hxl hk hj⟩) h.1) (sz x) s hj (fun k _ hk s h => by
          show (btry _ _ _ _ _ _ _ _ _ _ _ _ _ _ _).1 ≤ _ ∧ bpr p x (btry _ _ _ _ _ _ _ _ _ _ _ _ _ _ _)
          rw [kept k hk]
          exact (sub _ (hK x k hxl hk).2.1 s h.2).1 h.1) ⟨hs, hpre⟩
        exact (sub 0 (by decide) _ h1.2).2.2 (Or.inr ⟨hq, by rw [← ej]; exact (hK x j hxl hj).1⟩) h1.1
    · split
      · exact ⟨hs, hpre⟩
      · have h1 := bdown_inv (F := fun i s => btry (nI st) (nI cl) XD HO VL LN CO sz f (x + 1) (Int64.ofNat (sumN (fun a => A a (p a)) x) + VL i) (nI (sumN (fun a => T a (p a)) x) + LN i) (blow (XD x) (wel (wrun X (fun a => decide (0 < p a)) x))) (bhig (XD x) (weg (wrun X (fun a => decide (0 < p a)) x))) (bch s x (CO i))) (b := x * 18) (I := fun s => fnd V (sumN (fun a => T a (ch a)) dc + wayC X dc st ch) dc ch s ∧ bpr p x s) (sz x) s (fun k hk s h => by
          show fnd _ _ _ _ (btry _ _ _ _ _ _ _ _ _ _ _ _ _ _ _) ∧ bpr p x (btry _ _ _ _ _ _ _ _ _ _ _ _ _ _ _)
          rw [kept k hk]
          exact (sub _ (hK x k hxl hk).2.1 s h.2).2.2 (Or.inl hq) h.1) ⟨hs, hpre⟩
        rw [last]
        exact (sub 0 (by decide) _ h1.2).2.2 (Or.inl hq) h1.1
end
end Q14L
