section Q08L
/-- a law's steps: kinds, values, how many -/
abbrev CD : Type := (Nat → Int32) × (Nat → Int32) × Nat
def cadd (k v : Int32) (c : CD) : CD := if c.2.2 < 150 then (upd c.1 c.2.2 k, upd c.2.1 c.2.2 v, c.2.2 + 1) else c
theorem cadd_le {k v : Int32} {c : CD} (h : c.2.2 ≤ 150) : (cadd k v c).2.2 ≤ 150 := by
  unfold cadd
  split
  · show c.2.2 + 1 ≤ 150; omega
  · exact h
abbrev PE : Type := Nat → CD → PS × CD
def ppart (F : Nat → Int32) (n : Nat) (w : Int32) (r : PS × CD) : PS × CD := if pbad r.1 then r else (psign F n w r.1, r.2)
def pkd (w : Int32) : Int32 := if w = 10 then 6 else if w = 11 then 7 else 8
def pparts (w : Int32) : Nat := if w = 10 then 2 else if w = 11 then 2 else 3
def pwloop (F : Nat → Int32) (n : Nat) (E : PE) (k : Nat) : Nat → Nat → PS × CD → PS × CD
  | 0, _, r => r
  | m + 1, i, r => match r.1 with
    | .inl _ => r
    | .inr a => pwloop F n E k m (i + 1) (ppart F n (if i = k then 93 else 44) (E a r.2))
def pwtail (F : Nat → Int32) (n : Nat) (f : Nat → Nat) (len : Nat) (E : Option PE) (a : Nat) (c : CD) : PS × CD := match E with
  | none => (pfail 3 (sk F n a) (pwst F n f len (.inr a)), c)
  | some e => (fun r : PS × CD => (r.1, cadd (pkd (pword F n f len a)) 0 r.2)) (pwloop F n e (pparts (pword F n f len a)) (pparts (pword F n f len a)) 1 (psign F n 91 (pwst F n f len (.inr a)), c))
def pwordR (F : Nat → Int32) (n : Nat) (f : Nat → Nat) (len : Nat) (E : Option PE) (a : Nat) (c : CD) : PS × CD := if pbad (pwst F n f len (.inr a)) then (pwst F n f len (.inr a), c) else if pword F n f len a < 10 then (pwst F n f len (.inr a), cadd 1 (pword F n f len a) c) else pwtail F n f len E a c
def punit (F : Nat → Int32) (n : Nat) (f : Nat → Nat) (len : Nat) (E : Option PE) : PE := fun a c => if isdg (tby F n (sk F n a)) then (pnumS F n 0 999 (.inr (sk F n a)), cadd 0 (pnum F n 0 999 (.inr (sk F n a))).2 c) else if tby F n (sk F n a) = 40 then (match E with
  | none => (.inl (3, sk F n a), c)
  | some e => ppart F n 41 (e (sk F n a + 1) c)) else pwordR F n f len E (sk F n a) c
def pops (F : Nat → Int32) (n : Nat) (U : PE) (c1 c2 k1 k2 : Int32) : Nat → PS × CD → PS × CD
  | 0, r => r
  | m + 1, r => match r.1 with
    | .inl _ => r
    | .inr a => if tby F n (sk F n a) = c1 ∨ tby F n (sk F n a) = c2 then pops F n U c1 c2 k1 k2 m ((fun u : PS × CD => (u.1, cadd (if tby F n (sk F n a) = c1 then k1 else k2) 0 u.2)) (U (sk F n a + 1) r.2)) else (.inr (sk F n a), r.2)
def pprod (F : Nat → Int32) (n : Nat) (f : Nat → Nat) (len : Nat) (E : Option PE) : PE := fun a c => pops F n (punit F n f len E) 42 47 4 5 150 (punit F n f len E a c)
def psum (F : Nat → Int32) (n : Nat) (f : Nat → Nat) (len : Nat) (E : Option PE) : PE := fun a c => pops F n (pprod F n f len E) 43 45 2 3 150 (pprod F n f len E a c)
def pexp (F : Nat → Int32) (n : Nat) (f : Nat → Nat) (len : Nat) : Nat → PE
  | 0 => psum F n f len none
  | l + 1 => psum F n f len (some (pexp F n f len l))
def E43 : qE := .inl (4, [.ref 1, .ref 44])
/-- what a part of a law's reading leaves -/
def cLP (h : qH) (F : Nat → Int32) (n : Nat) (S : Nat → Int32) (r : PS × CD) : Option Value → qH → Prop := fun y h' => y = none ∧ same h h' [1, 44, 45, 46] ∧ (∃ q' : Nat, cT h' F n r.1 q') ∧ isL h' 44 45 46 47 r.2.1 r.2.2.1 S (nI r.2.2.2) ∧ r.2.2.2 ≤ 150
/-- a part of a law's reading, at nesting o -/
def cE (g : qG) (F : Nat → Int32) (n d o : Nat) (q : qMr) (E : PE) : Prop := ∀ (h : qH) (a q0 : Nat) (c : CD) (S : Nat → Int32), cT h F n (.inr a) q0 → h.2 43 = some E43 → isL h 44 45 46 47 c.1 c.2.1 S (nI c.2.2) → c.2.2 ≤ 150 → qSpec g d 0 0 q [.ref 43, .int (nI o)] h (cLP h F n S (E a c))
/-- what is nested: nothing more, or the next sum -/
def cEo (g : qG) (F : Nat → Int32) (n d o : Nat) (E : Option PE) : Prop := match E with
  | none => o = 6
  | some e => o < 6 ∧ cE g F n d (o + 1) mX4_readSum e
theorem L_addA {g : qG} (hg : qOK g) {h : qH} {K V S : Nat → Int32} {x : Nat} (hL : isL h 44 45 46 47 K V S (nI x)) (hx : x ≤ 150) (kd v : Int32) : qSpec g 2 0 0 mX3_add [.ref 44, .int kd, .int v] h (fun r h' => r = none ∧ same h h' [44, 45, 46] ∧ isL h' 44 45 46 47 (cadd kd v (K, V, x)).1 (cadd kd v (K, V, x)).2.1 S (nI (cadd kd v (K, V, x)).2.2)) := by
  refine qSpec_run 3 "add" false hg mX3_add_ok rfl rfl (Nat.le_of_ble_eq_true rfl) (by decide) ?_
  intro run step
  by_cases c : x < 150
  · have e : cadd kd v (K, V, x) = (upd K x kd, upd V x v, x + 1) := if_pos c
    rw [e] at step
    refine step.1 _ _ _ _ _ _ _ sgX3_add_0_ok ?_
    refine ⟨by decide, _, _, hL.1, rfl, ?_⟩
    refine Or.inl ⟨rfl, _, 1, 0, 0, _, Or.inr qi_3_31, ⟨rfl, rfl⟩, rfl, rfl, sp_within hg _ _ _, fun y8 h8 hy8 => ?_⟩
    obtain ⟨rfl, hh⟩ := hy8
    rw [hh]
    clear hh
    refine ⟨fun c11 => absurd ((congrArg qb (within_t (lo := 0) (x := x) (hi := 149) (by omega) (by omega) (by omega))).symm.trans c11) (by decide), fun c11 => ?_⟩
    refine ⟨by decide, _, _, hL.1, rfl, ?_⟩
    refine ⟨by decide, _, _, hL.1, rfl, ?_⟩
    refine ⟨_, _, hL.2.1, vp_in_nI (by omega) (by decide), ?_⟩
    refine ⟨by decide, _, _, hL.1, rfl, ?_⟩
    refine ⟨by decide, _, _, hL.1, rfl, ?_⟩
    refine ⟨_, _, hL.2.2.1, vp_in_nI (by omega) (by decide), ?_⟩
    refine ⟨rfl, ?_⟩
    refine ⟨by decide, _, _, hL.1, rfl, ?_⟩
    refine ⟨_, hL.1, Nat.le_of_ble_eq_true rfl, rfl, ?_⟩
    refine step.1 _ _ _ _ _ _ _ sgX3_add_44_ok ?_
    refine ⟨rfl, Nat.le_refl _, Nat.le_refl _, ?_⟩
    have e2 := h_tn (n := x) (by omega)
    refine ⟨rfl, ⟨rfl, fun j hj => by
      have hj1 : j ≠ 44 := fun q => hj (by rw [q]; simp)
      have hj2 : j ≠ 45 := fun q => hj (by rw [q]; simp)
      have hj3 : j ≠ 46 := fun q => hj (by rw [q]; simp)
      simp only [qup_n hj1, qup_n hj2, qup_n hj3]⟩, ?_, ?_, ?_, hL.2.2.2⟩
    · rw [← nI_1]; rfl
    · exact congrArg (fun z => some (Sum.inr (Sum.inl (FieldType.int, 150, upd K z kd)))) e2
    · exact congrArg (fun z => some (Sum.inr (Sum.inl (FieldType.int, 150, upd V z v)))) e2
  · have e : cadd kd v (K, V, x) = (K, V, x) := if_neg c
    rw [e] at step
    have hw : (decide ((0 : Int32) ≤ nI x) && decide (nI x ≤ 149)) = false := by
      rw [decide_eq_false (p := nI x ≤ 149) (nI_ge (a := 149) (by omega) (by omega)), Bool.and_false]
    refine step.1 _ _ _ _ _ _ _ sgX3_add_0_ok ?_
    refine ⟨by decide, _, _, hL.1, rfl, ?_⟩
    refine Or.inl ⟨rfl, _, 1, 0, 0, _, Or.inr qi_3_31, ⟨rfl, rfl⟩, rfl, rfl, sp_within hg _ _ _, fun y8 h8 hy8 => ?_⟩
    obtain ⟨rfl, hh⟩ := hy8
    rw [hh, hw]
    clear hh
    refine ⟨fun c11 => ?_, fun c11 => absurd (by decide : qb false = 0) c11⟩
    refine step.1 _ _ _ _ _ _ _ sgX3_add_44_ok ?_
    refine ⟨rfl, Nat.le_refl _, Nat.le_refl _, ?_⟩
    exact ⟨rfl, same.rf, hL⟩
theorem RL_part {g : qG} (hg : qOK g) {F : Nat → Int32} {n d op : Nat} {E : PE} (hS : cE g F n (d + 6) op mX4_readSum E) (w : Int32) (hw : ¬ w = -1) {h : qH} {a q0 : Nat} {c : CD} {S : Nat → Int32} (hT : cT h F n (.inr a) q0) (hE : h.2 43 = some E43) (hL : isL h 44 45 46 47 c.1 c.2.1 S (nI c.2.2)) (hc : c.2.2 ≤ 150) : qSpec g (d + 7) 0 0 mX4_readPart [.ref 43, .int (nI op), .int w] h (cLP h F n S (ppart F n w (E a c))) := by
  refine qSpec_run 4 "readPart" false hg mX4_readPart_ok rfl rfl (Nat.le_of_ble_eq_true rfl) (by decide) ?_
  intro run step
  have hs : same h h [1, 44, 45, 46] := same.rf
  refine step.1 _ _ _ _ _ _ _ sgX4_readPart_0_ok ?_
  refine Or.inl ⟨rfl, _, d + 6, 0, 0, _, _, _, qi_4_25, ⟨rfl, rfl⟩, ⟨hE, rfl⟩, (qnum_rec (by omega) (by omega) (by omega) rfl), rfl, hS h a q0 c S hT hE hL hc, fun y2 h2 hy2 => ?_⟩
  obtain ⟨rfl, hsN, ⟨qN, hT⟩, hL, hc⟩ := hy2
  have hs := hs.t2 hsN (by decide)
  have hE := (hsN.2 43 (by simp)).trans hE
  refine ⟨by decide, _, _, hE, rfl, ?_⟩
  refine Or.inl ⟨rfl, _, 1, 0, 0, _, _, _, qi_4_29, ⟨rfl, rfl⟩, ⟨hT.cell.choose_spec, rfl⟩, (qnum_rec (by omega) (by omega) (by omega) rfl), rfl, cT_faulty hg hT, fun y9 h9 hy9 => ?_⟩
  obtain ⟨rfl, hh⟩ := hy9
  rw [hh]
  clear hh
  refine ⟨fun c12 => ?_, fun c12 => ?_⟩
  · have hb : pbad (E a c).1 = true := qb_1.mp c12
    refine step.1 _ _ _ _ _ _ _ sgX4_readPart_23_ok ?_
    refine ⟨rfl, Nat.le_refl _, Nat.le_refl _, ?_⟩
    rw [ppart, if_pos hb]
    exact ⟨rfl, hs, ⟨_, hT⟩, hL, hc⟩
  · have hb : pbad (E a c).1 = false := qb_0.mp c12
    refine ⟨by decide, _, _, hE, rfl, ?_⟩
    refine Or.inl ⟨rfl, _, 3, 0, 0, _, _, _, qi_4_75, ⟨rfl, rfl⟩, ⟨hT.cell.choose_spec, rfl⟩, (qnum_rec (by omega) (by omega) (by omega) rfl), rfl, cT_sign hg hT w hw, fun y20 h20 hy20 => ?_⟩
    obtain ⟨rfl, hsN, hT⟩ := hy20
    have hs := hs.t2 hsN (by decide)
    have hE := (hsN.2 43 (by simp)).trans hE
    have hL := hL.sm hsN (by simp) (by simp) (by simp) (by simp)
    refine step.1 _ _ _ _ _ _ _ sgX4_readPart_23_ok ?_
    refine ⟨rfl, Nat.le_refl _, Nat.le_refl _, ?_⟩
    rw [ppart, if_neg (by rw [hb]; decide)]
    exact ⟨rfl, hs, ⟨_, hT⟩, hL, hc⟩
theorem RL_word {g : qG} (hg : qOK g) {F : Nat → Int32} {n d op : Nat} (hJ : qJDK g) {f : Nat → Nat} {len : Nat} (hS : qSTR g 14 15 len f) (hLD : qLD g 4 78 14) {E : Option PE} (hO : cEo g F n (d + 6) op E) (hop : op ≤ 6) {h : qH} {a q0 : Nat} {c : CD} {S : Nat → Int32} (hT : cT h F n (.inr a) q0) (hE : h.2 43 = some E43) (hL : isL h 44 45 46 47 c.1 c.2.1 S (nI c.2.2)) (hc : c.2.2 ≤ 150) : qSpec g (d + 8) 0 0 mX4_readWord [.ref 43, .int (nI op)] h (cLP h F n S (pwordR F n f len E a c)) := by
  refine qSpec_run 4 "readWord" false hg mX4_readWord_ok rfl rfl (Nat.le_of_ble_eq_true rfl) (by decide) ?_
  intro run step
  have hs : same h h [1, 44, 45, 46] := same.rf
  cases E with
  | none =>
    have c59 : ∀ (hX : qH), ¬ pbad (pwst F n f len (.inr a)) = true → ¬ (pword F n f len a) < 10 → op < 6 → cT hX F n (pwst F n f len (.inr a)) (sk F n a) → same h hX [1, 44, 45, 46] → hX.2 43 = some E43 → isL hX 44 45 46 47 c.1 c.2.1 S (nI c.2.2) → c.2.2 ≤ 150 → run 59 [(2, .int (pword F n f len a)), (0, .ref 43), (1, .int (nI op))] [] hX 0 0 := fun _ _ _ h6 => absurd (show op = 6 from hO) (by omega)
    refine step.1 _ _ _ _ _ _ _ sgX4_readWord_0_ok ?_
    refine ⟨by decide, _, _, hE, rfl, ?_⟩
    refine Or.inl ⟨rfl, 14, hLD.choose, hLD.choose_spec, ?_⟩
    refine Or.inl ⟨rfl, _, 7, 0, 0, _, _, _, qi_4_80, ⟨rfl, rfl⟩, ⟨hT.cell.choose_spec, rfl⟩, (qnum_rec (by omega) (by omega) (by omega) rfl), rfl, cT_word hg hJ hS hT, fun y6 h6 hy6 => ?_⟩
    obtain ⟨⟨w0, rfl, hw0⟩, hsN, qN, hqN, hT⟩ := hy6
    have hw0 := hw0 a rfl
    subst hw0
    have hqN := hqN a rfl
    subst hqN
    have hs := hs.t2 hsN (by decide)
    have hE := (hsN.2 43 (by simp)).trans hE
    have hL := hL.sm hsN (by simp) (by simp) (by simp) (by simp)
    refine ⟨by decide, _, _, hE, rfl, ?_⟩
    refine Or.inl ⟨rfl, _, 1, 0, 0, _, _, _, qi_4_29, ⟨rfl, rfl⟩, ⟨hT.cell.choose_spec, rfl⟩, (qnum_rec (by omega) (by omega) (by omega) rfl), rfl, cT_faulty hg hT, fun y14 h14 hy14 => ?_⟩
    obtain ⟨rfl, hh⟩ := hy14
    rw [hh]
    clear hh
    refine ⟨fun c17 => ?_, fun c17 => ?_⟩
    · have hb : pbad (pwst F n f len (.inr a)) = false := qb_0.mp c17
      have hnb : ¬ pbad (pwst F n f len (.inr a)) = true := by rw [hb]; decide
      refine step.1 _ _ _ _ _ _ _ sgX4_readWord_21_ok ?_
      refine ⟨fun c24 => ?_, fun c24 => ?_⟩
      · have c24 : ¬ (pword F n f len a) < 10 := Int32.not_lt.mpr c24
        refine step.1 _ _ _ _ _ _ _ sgX4_readWord_37_ok ?_
        refine ⟨fun c40 => ?_, fun c40 => ?_⟩
        · have c40 : op < 6 := (nI_ltI (b := 6) (by omega) (by decide)).mp c40
          exact c59 _ hnb c24 c40 hT hs hE hL hc
        · have c40 : ¬ op < 6 := fun z => c40 (nI_lt (b := 6) z (by decide))
          refine ⟨by decide, _, _, hE, rfl, ?_⟩
          refine ⟨by decide, _, _, hE, rfl, ?_⟩
          refine ⟨by decide, _, _, hT.from.choose_spec.1, hT.from.choose_spec.2, ?_⟩
          refine Or.inl ⟨rfl, _, 1, 0, 0, _, _, _, qi_4_42, ⟨rfl, rfl⟩, ⟨hT.cell.choose_spec, rfl⟩, (qnum_rec (by omega) (by omega) (by omega) rfl), rfl, cT_fail hg hT 3 _ (by decide), fun y55 h55 hy55 => ?_⟩
          obtain ⟨rfl, hsN, hT⟩ := hy55
          have hs := hs.t2 hsN (by decide)
          have hE := (hsN.2 43 (by simp)).trans hE
          have hL := hL.sm hsN (by simp) (by simp) (by simp) (by simp)
          refine ⟨rfl, Nat.le_refl _, Nat.le_refl _, ?_⟩
          rw [pwordR, if_neg hnb, if_neg c24]
          exact ⟨rfl, hs, ⟨_, hT⟩, hL, hc⟩
      · have c24 : (pword F n f len a) < 10 := Int32.not_le.mp c24
        refine ⟨by decide, _, _, hE, rfl, ?_⟩
        refine Or.inl ⟨rfl, _, 2, 0, 0, _, _, _, qi_4_56, ⟨rfl, rfl⟩, ⟨hL.1, rfl⟩, (qnum_rec (by omega) (by omega) (by omega) rfl), rfl, L_addA hg hL hc 1 (pword F n f len a), fun y33 h33 hy33 => ?_⟩
        obtain ⟨rfl, hsN, hL⟩ := hy33
        have hs := hs.t2 hsN (by decide)
        have hE := (hsN.2 43 (by simp)).trans hE
        have hT := hT.sm hsN (by simp) (by simp)
        refine ⟨rfl, Nat.le_refl _, Nat.le_refl _, ?_⟩
        rw [pwordR, if_neg hnb, if_pos c24]
        exact ⟨rfl, hs, ⟨_, hT⟩, hL, cadd_le hc⟩
    · have hb : pbad (pwst F n f len (.inr a)) = true := qb_1.mp c17
      refine ⟨rfl, Nat.le_refl _, Nat.le_refl _, ?_⟩
      rw [pwordR, if_pos hb]
      exact ⟨rfl, hs, ⟨_, hT⟩, hL, hc⟩
  | some e =>
    have hp3 : pparts (pword F n f len a) ≤ 3 ∧ 2 ≤ pparts (pword F n f len a) := by
      unfold pparts
      split
      · omega
      · split <;> omega
    have c153 : ∀ (hX : qH) (r : PS × CD) (q1 : Nat) (ii : Int32), r = (pwloop F n e (pparts (pword F n f len a)) (pparts (pword F n f len a)) 1 (psign F n 91 (pwst F n f len (.inr a)), c)) → ¬ pbad (pwst F n f len (.inr a)) = true → ¬ (pword F n f len a) < 10 → cT hX F n r.1 q1 → same h hX [1, 44, 45, 46] → hX.2 43 = some E43 → isL hX 44 45 46 47 r.2.1 r.2.2.1 S (nI r.2.2.2) → r.2.2.2 ≤ 150 → run 153 [(5, .int ii), (4, .int (nI (pparts (pword F n f len a)))), (3, .int (pkd (pword F n f len a))), (2, .int (pword F n f len a)), (0, .ref 43), (1, .int (nI op))] [] hX 0 0 := by
      intro hX r q1 ii hr hnb c24 hT hs hE hL hc
      have hres : (pwordR F n f len (some e) a c) = (r.1, cadd (pkd (pword F n f len a)) 0 r.2) := by rw [pwordR, if_neg hnb, if_neg c24, hr]; rfl
      rw [hres] at step
      refine step.1 _ _ _ _ _ _ _ sgX4_readWord_153_ok ?_
      refine ⟨by decide, _, _, hE, rfl, ?_⟩
      refine Or.inl ⟨rfl, _, 2, 0, 0, _, _, _, qi_4_56, ⟨rfl, rfl⟩, ⟨hL.1, rfl⟩, (qnum_rec (by omega) (by omega) (by omega) rfl), rfl, L_addA hg hL hc (pkd (pword F n f len a)) 0, fun y159 h159 hy159 => ?_⟩
      obtain ⟨rfl, hsN, hL⟩ := hy159
      have hs := hs.t2 hsN (by decide)
      have hE := (hsN.2 43 (by simp)).trans hE
      have hT := hT.sm hsN (by simp) (by simp)
      refine ⟨rfl, Nat.le_refl _, Nat.le_refl _, ?_⟩
      exact ⟨rfl, hs, ⟨_, hT⟩, hL, cadd_le hc⟩
    have c59 : ∀ (hX : qH), ¬ pbad (pwst F n f len (.inr a)) = true → ¬ (pword F n f len a) < 10 → op < 6 → cT hX F n (pwst F n f len (.inr a)) (sk F n a) → same h hX [1, 44, 45, 46] → hX.2 43 = some E43 → isL hX 44 45 46 47 c.1 c.2.1 S (nI c.2.2) → c.2.2 ≤ 150 → run 59 [(2, .int (pword F n f len a)), (0, .ref 43), (1, .int (nI op))] [] hX 0 0 := by
      intro hX hnb c24 c40 hT hs hE hL hc
      have loop : ∀ (m i : Nat) (r : PS × CD) (hX : qH) (q1 : Nat), i + m = pparts (pword F n f len a) + 1 → pwloop F n e (pparts (pword F n f len a)) m i r = (pwloop F n e (pparts (pword F n f len a)) (pparts (pword F n f len a)) 1 (psign F n 91 (pwst F n f len (.inr a)), c)) → cT hX F n r.1 q1 → same h hX [1, 44, 45, 46] → hX.2 43 = some E43 → isL hX 44 45 46 47 r.2.1 r.2.2.1 S (nI r.2.2.2) → r.2.2.2 ≤ 150 → run 109 [(5, .int (nI i)), (4, .int (nI (pparts (pword F n f len a)))), (3, .int (pkd (pword F n f len a))), (2, .int (pword F n f len a)), (0, .ref 43), (1, .int (nI op))] [] hX 0 0 := by
        intro m
        induction m with
        | zero =>
          intro i r hX q1 hi hst hT hs hE hL hc
          have hst : r = (pwloop F n e (pparts (pword F n f len a)) (pparts (pword F n f len a)) 1 (psign F n 91 (pwst F n f len (.inr a)), c)) := hst
          refine step.1 _ _ _ _ _ _ _ sgX4_readWord_109_ok ?_
          refine ⟨fun c113 => ?_, fun c113 => absurd (nI_lt (a := pparts (pword F n f len a)) (b := i) (by omega) (by omega)) c113⟩
          exact c153 _ r q1 _ hst hnb c24 hT hs hE hL hc
        | succ m ih =>
          intro i r hX q1 hi hst hT hs hE hL hc
          refine step.1 _ _ _ _ _ _ _ sgX4_readWord_109_ok ?_
          refine ⟨fun c113 => absurd c113 (nI_nlt (by omega) (by omega)), fun c113 => ?_⟩
          refine ⟨by decide, _, _, hE, rfl, ?_⟩
          refine Or.inl ⟨rfl, _, 1, 0, 0, _, _, _, qi_4_29, ⟨rfl, rfl⟩, ⟨hT.cell.choose_spec, rfl⟩, (qnum_rec (by omega) (by omega) (by omega) rfl), rfl, cT_faulty hg hT, fun y120 h120 hy120 => ?_⟩
          obtain ⟨rfl, hh⟩ := hy120
          rw [hh]
          clear hh
          refine ⟨fun c123 => ?_, fun c123 => ?_⟩
          · have hb : pbad r.1 = true := qb_1.mp c123
            exact c153 _ r q1 _ (by rw [← hst, pwloop]; cases hr : r.1 with
              | inl e2 => rfl
              | inr b => rw [hr] at hb; cases hb) hnb c24 hT hs hE hL hc
          · have hb : pbad r.1 = false := qb_0.mp c123
            obtain ⟨s1, c1⟩ := r
            cases s1 with
            | inl e2 => cases hb
            | inr b =>
            refine ⟨fun c134 => ?_, fun c134 => ?_⟩
            · have c134 : ¬ i = pparts (pword F n f len a) := fun z => c134 (congrArg nI z)
              refine step.1 _ _ _ _ _ _ _ sgX4_readWord_142_ok ?_
              refine step.1 _ _ _ _ _ _ _ sgX4_readWord_144_ok ?_
              refine Or.inl ⟨rfl, _, d + 7, 0, 0, _, _, _, qi_4_69, ⟨rfl, rfl⟩, ⟨hE, rfl⟩, (qnum_rec (by omega) (by omega) (by omega) rfl), rfl, (by rw [nI_1]; exact RL_part hg hO.2 44 (by decide) hT hE hL hc), fun y144 h144 hy144 => ?_⟩
              obtain ⟨rfl, hsN, ⟨qN, hT⟩, hL, hc⟩ := hy144
              have hs := hs.t2 hsN (by decide)
              have hE := (hsN.2 43 (by simp)).trans hE
              have kk2 := ih (i + 1) (ppart F n 44 (e b c1)) _ qN (by omega) (by rw [← hst, pwloop]; simp only [if_neg c134]) hT hs hE hL hc
              rw [← nI_1] at kk2
              exact kk2
            · have c134 : i = pparts (pword F n f len a) := (nI_eq (by omega) (by omega)).mp c134
              refine step.1 _ _ _ _ _ _ _ sgX4_readWord_144_ok ?_
              refine Or.inl ⟨rfl, _, d + 7, 0, 0, _, _, _, qi_4_69, ⟨rfl, rfl⟩, ⟨hE, rfl⟩, (qnum_rec (by omega) (by omega) (by omega) rfl), rfl, (by rw [nI_1]; exact RL_part hg hO.2 93 (by decide) hT hE hL hc), fun y144 h144 hy144 => ?_⟩
              obtain ⟨rfl, hsN, ⟨qN, hT⟩, hL, hc⟩ := hy144
              have hs := hs.t2 hsN (by decide)
              have hE := (hsN.2 43 (by simp)).trans hE
              have kk2 := ih (i + 1) (ppart F n 93 (e b c1)) _ qN (by omega) (by rw [← hst, pwloop]; simp only [if_pos c134]) hT hs hE hL hc
              rw [← nI_1] at kk2
              exact kk2
      refine step.1 _ _ _ _ _ _ _ sgX4_readWord_59_ok ?_
      refine ⟨by decide, _, _, hE, rfl, ?_⟩
      refine Or.inl ⟨rfl, _, 3, 0, 0, _, _, _, qi_4_75, ⟨rfl, rfl⟩, ⟨hT.cell.choose_spec, rfl⟩, (qnum_rec (by omega) (by omega) (by omega) rfl), rfl, cT_sign hg hT 91 (by decide), fun y65 h65 hy65 => ?_⟩
      obtain ⟨rfl, hsN, hT⟩ := hy65
      have hs := hs.t2 hsN (by decide)
      have hE := (hsN.2 43 (by simp)).trans hE
      have hL := hL.sm hsN (by simp) (by simp) (by simp) (by simp)
      refine ⟨fun c71 => ?_, fun c71 => ?_⟩
      · have c71 : ¬ (pword F n f len a) = 10 := c71
        refine step.1 _ _ _ _ _ _ _ sgX4_readWord_79_ok ?_
        refine ⟨fun c82 => ?_, fun c82 => ?_⟩
        · have c82 : ¬ (pword F n f len a) = 11 := c82
          refine step.1 _ _ _ _ _ _ _ sgX4_readWord_90_ok ?_
          refine step.1 _ _ _ _ _ _ _ sgX4_readWord_92_ok ?_
          refine ⟨fun c96 => absurd c96 (by decide), fun _ => ?_⟩
          refine step.1 _ _ _ _ _ _ _ sgX4_readWord_104_ok ?_
          have e1 : pkd (pword F n f len a) = 8 := by unfold pkd; rw [if_neg c71, if_neg c82]
          have e2 : nI (pparts (pword F n f len a)) = 3 := by unfold pparts; rw [if_neg c71, if_neg c82]; rfl
          have kk2 := loop (pparts (pword F n f len a)) 1 (psign F n 91 (pwst F n f len (.inr a)), c) _ (sk F n a) (by omega) rfl hT hs hE hL hc
          rw [e1, e2] at kk2
          exact kk2
        · have c82 : (pword F n f len a) = 11 := c82
          refine step.1 _ _ _ _ _ _ _ sgX4_readWord_92_ok ?_
          refine ⟨fun _ => ?_, fun c96 => absurd c96 (by decide)⟩
          refine step.1 _ _ _ _ _ _ _ sgX4_readWord_103_ok ?_
          refine step.1 _ _ _ _ _ _ _ sgX4_readWord_104_ok ?_
          have e1 : pkd (pword F n f len a) = 7 := by unfold pkd; rw [if_neg c71, if_pos c82]
          have e2 : nI (pparts (pword F n f len a)) = 2 := by unfold pparts; rw [if_neg c71, if_pos c82]; rfl
          have kk2 := loop (pparts (pword F n f len a)) 1 (psign F n 91 (pwst F n f len (.inr a)), c) _ (sk F n a) (by omega) rfl hT hs hE hL hc
          rw [e1, e2] at kk2
          exact kk2
      · have c71 : (pword F n f len a) = 10 := c71
        refine step.1 _ _ _ _ _ _ _ sgX4_readWord_92_ok ?_
        refine ⟨fun _ => ?_, fun c96 => absurd c96 (by decide)⟩
        refine step.1 _ _ _ _ _ _ _ sgX4_readWord_103_ok ?_
        refine step.1 _ _ _ _ _ _ _ sgX4_readWord_104_ok ?_
        have e1 : pkd (pword F n f len a) = 6 := by unfold pkd; rw [if_pos c71]
        have e2 : nI (pparts (pword F n f len a)) = 2 := by unfold pparts; rw [if_pos c71]; rfl
        have kk2 := loop (pparts (pword F n f len a)) 1 (psign F n 91 (pwst F n f len (.inr a)), c) _ (sk F n a) (by omega) rfl hT hs hE hL hc
        rw [e1, e2] at kk2
        exact kk2
    refine step.1 _ _ _ _ _ _ _ sgX4_readWord_0_ok ?_
    refine ⟨by decide, _, _, hE, rfl, ?_⟩
    refine Or.inl ⟨rfl, 14, hLD.choose, hLD.choose_spec, ?_⟩
    refine Or.inl ⟨rfl, _, 7, 0, 0, _, _, _, qi_4_80, ⟨rfl, rfl⟩, ⟨hT.cell.choose_spec, rfl⟩, (qnum_rec (by omega) (by omega) (by omega) rfl), rfl, cT_word hg hJ hS hT, fun y6 h6 hy6 => ?_⟩
    obtain ⟨⟨w0, rfl, hw0⟩, hsN, qN, hqN, hT⟩ := hy6
    have hw0 := hw0 a rfl
    subst hw0
    have hqN := hqN a rfl
    subst hqN
    have hs := hs.t2 hsN (by decide)
    have hE := (hsN.2 43 (by simp)).trans hE
    have hL := hL.sm hsN (by simp) (by simp) (by simp) (by simp)
    refine ⟨by decide, _, _, hE, rfl, ?_⟩
    refine Or.inl ⟨rfl, _, 1, 0, 0, _, _, _, qi_4_29, ⟨rfl, rfl⟩, ⟨hT.cell.choose_spec, rfl⟩, (qnum_rec (by omega) (by omega) (by omega) rfl), rfl, cT_faulty hg hT, fun y14 h14 hy14 => ?_⟩
    obtain ⟨rfl, hh⟩ := hy14
    rw [hh]
    clear hh
    refine ⟨fun c17 => ?_, fun c17 => ?_⟩
    · have hb : pbad (pwst F n f len (.inr a)) = false := qb_0.mp c17
      have hnb : ¬ pbad (pwst F n f len (.inr a)) = true := by rw [hb]; decide
      refine step.1 _ _ _ _ _ _ _ sgX4_readWord_21_ok ?_
      refine ⟨fun c24 => ?_, fun c24 => ?_⟩
      · have c24 : ¬ (pword F n f len a) < 10 := Int32.not_lt.mpr c24
        refine step.1 _ _ _ _ _ _ _ sgX4_readWord_37_ok ?_
        refine ⟨fun c40 => ?_, fun c40 => ?_⟩
        · have c40 : op < 6 := (nI_ltI (b := 6) (by omega) (by decide)).mp c40
          exact c59 _ hnb c24 c40 hT hs hE hL hc
        · have c40 : ¬ op < 6 := fun z => c40 (nI_lt (b := 6) z (by decide))
          refine ⟨by decide, _, _, hE, rfl, ?_⟩
          refine ⟨by decide, _, _, hE, rfl, ?_⟩
          refine ⟨by decide, _, _, hT.from.choose_spec.1, hT.from.choose_spec.2, ?_⟩
          refine Or.inl ⟨rfl, _, 1, 0, 0, _, _, _, qi_4_42, ⟨rfl, rfl⟩, ⟨hT.cell.choose_spec, rfl⟩, (qnum_rec (by omega) (by omega) (by omega) rfl), rfl, cT_fail hg hT 3 _ (by decide), fun y55 h55 hy55 => ?_⟩
          obtain ⟨rfl, hsN, hT⟩ := hy55
          have hs := hs.t2 hsN (by decide)
          have hE := (hsN.2 43 (by simp)).trans hE
          have hL := hL.sm hsN (by simp) (by simp) (by simp) (by simp)
          refine ⟨rfl, Nat.le_refl _, Nat.le_refl _, ?_⟩
          exact absurd hO.1 c40
      · have c24 : (pword F n f len a) < 10 := Int32.not_le.mp c24
        refine ⟨by decide, _, _, hE, rfl, ?_⟩
        refine Or.inl ⟨rfl, _, 2, 0, 0, _, _, _, qi_4_56, ⟨rfl, rfl⟩, ⟨hL.1, rfl⟩, (qnum_rec (by omega) (by omega) (by omega) rfl), rfl, L_addA hg hL hc 1 (pword F n f len a), fun y33 h33 hy33 => ?_⟩
        obtain ⟨rfl, hsN, hL⟩ := hy33
        have hs := hs.t2 hsN (by decide)
        have hE := (hsN.2 43 (by simp)).trans hE
        have hT := hT.sm hsN (by simp) (by simp)
        refine ⟨rfl, Nat.le_refl _, Nat.le_refl _, ?_⟩
        rw [pwordR, if_neg hnb, if_pos c24]
        exact ⟨rfl, hs, ⟨_, hT⟩, hL, cadd_le hc⟩
    · have hb : pbad (pwst F n f len (.inr a)) = true := qb_1.mp c17
      refine ⟨rfl, Nat.le_refl _, Nat.le_refl _, ?_⟩
      rw [pwordR, if_pos hb]
      exact ⟨rfl, hs, ⟨_, hT⟩, hL, hc⟩
theorem RL_unit {g : qG} (hg : qOK g) {F : Nat → Int32} {n d op : Nat} (hJ : qJDK g) {f : Nat → Nat} {len : Nat} (hS : qSTR g 14 15 len f) (hLD : qLD g 4 78 14) {E : Option PE} (hO : cEo g F n (d + 6) op E) (hop : op ≤ 6) {h : qH} {a q0 : Nat} {c : CD} {S : Nat → Int32} (hT : cT h F n (.inr a) q0) (hE : h.2 43 = some E43) (hL : isL h 44 45 46 47 c.1 c.2.1 S (nI c.2.2)) (hc : c.2.2 ≤ 150) : qSpec g (d + 9) 0 0 mX4_readUnit [.ref 43, .int (nI op)] h (cLP h F n S (punit F n f len E a c)) := by
  refine qSpec_run 4 "readUnit" false hg mX4_readUnit_ok rfl rfl (Nat.le_of_ble_eq_true rfl) (by decide) ?_
  intro run step
  have hs : same h h [1, 44, 45, 46] := same.rf
  have han : a ≤ n := by
    obtain ⟨p, ki, pl, -, h1, -, -, h2, -⟩ := hT
    omega
  have hskl : (tby F n (sk F n a)) = 40 → sk F n a < n := fun e => by
    by_cases c9 : sk F n a < n
    · exact c9
    · rw [tby_end (by omega)] at e
      exact absurd e (by decide)
  cases E with
  | none =>
    refine step.1 _ _ _ _ _ _ _ sgX4_readUnit_0_ok ?_
    refine ⟨by decide, _, _, hE, rfl, ?_⟩
    refine Or.inl ⟨rfl, _, 3, 0, 0, _, _, _, qi_4_62, ⟨rfl, rfl⟩, ⟨hT.cell.choose_spec, rfl⟩, (qnum_rec (by omega) (by omega) (by omega) rfl), rfl, cT_digit hg hT, fun y4 h4 hy4 => ?_⟩
    obtain ⟨⟨bo, rfl, hbo⟩, hsN, hT⟩ := hy4
    have hbo := hbo a rfl
    have hs := hs.t2 hsN (by decide)
    have hE := (hsN.2 43 (by simp)).trans hE
    have hL := hL.sm hsN (by simp) (by simp) (by simp) (by simp)
    refine ⟨fun c7 => ?_, fun c7 => ?_⟩
    · have hbf : bo = false := qb_0.mp c7
      rw [hbf] at hbo
      have hnd : ¬ isdg (tby F n (sk F n a)) = true := by rw [← hbo]; decide
      refine step.1 _ _ _ _ _ _ _ sgX4_readUnit_32_ok ?_
      refine ⟨by decide, _, _, hE, rfl, ?_⟩
      refine Or.inl ⟨rfl, _, 2, 0, 0, _, _, _, qi_4_49, ⟨rfl, rfl⟩, ⟨hT.cell.choose_spec, rfl⟩, (qnum_rec (by omega) (by omega) (by omega) rfl), rfl, cT_look hg hT, fun y36 h36 hy36 => ?_⟩
      obtain ⟨⟨co, rfl, hco⟩, hsN, hT⟩ := hy36
      have hs := hs.t2 hsN (by decide)
      have hE := (hsN.2 43 (by simp)).trans hE
      have hL := hL.sm hsN (by simp) (by simp) (by simp) (by simp)
      have hco := hco (sk F n a) rfl
      rw [sk_sk F han] at hco
      have hT : cT h36 F n (.inr (sk F n a)) q0 := by
        have z : pskip F n (pskip F n (.inr a)) = .inr (sk F n a) := by show Sum.inr (sk F n (sk F n a)) = _; rw [sk_sk F han]
        rw [z] at hT; exact hT
      refine ⟨fun c41 => ?_, fun c41 => ?_⟩
      · have c41 : ¬ (tby F n (sk F n a)) = 40 := fun z => c41 (hco.trans z)
        refine step.1 _ _ _ _ _ _ _ sgX4_readUnit_85_ok ?_
        refine Or.inl ⟨rfl, _, d + 8, 0, 0, _, _, _, qi_4_72, ⟨rfl, rfl⟩, ⟨hE, rfl⟩, (qnum_rec (by omega) (by omega) (by omega) rfl), rfl, RL_word hg hJ hS hLD hO hop hT hE hL hc, fun y87 h87 hy87 => ?_⟩
        obtain ⟨rfl, hsN, ⟨qN, hT⟩, hL, hc⟩ := hy87
        have hs := hs.t2 hsN (by decide)
        have hE := (hsN.2 43 (by simp)).trans hE
        refine step.1 _ _ _ _ _ _ _ sgX4_readUnit_90_ok ?_
        refine ⟨rfl, Nat.le_refl _, Nat.le_refl _, ?_⟩
        rw [punit, if_neg hnd, if_neg c41]
        exact ⟨rfl, hs, ⟨_, hT⟩, hL, hc⟩
      · have c41 : (tby F n (sk F n a)) = 40 := hco.symm.trans c41
        refine ⟨fun c47 => absurd c47 (by rw [show op = 6 from hO]; decide), fun c47 => ?_⟩
        
        refine ⟨by decide, _, _, hE, rfl, ?_⟩
        refine ⟨by decide, _, _, hE, rfl, ?_⟩
        obtain ⟨fsA, pA, hA1, hA2, hA3⟩ := hT.at
        have hA3 := hA3 _ rfl
        subst hA3
        refine ⟨by decide, _, _, hA1, hA2, ?_⟩
        refine Or.inl ⟨rfl, _, 1, 0, 0, _, _, _, qi_4_42, ⟨rfl, rfl⟩, ⟨hT.cell.choose_spec, rfl⟩, (qnum_rec (by omega) (by omega) (by omega) rfl), rfl, cT_fail hg hT 3 _ (by decide), fun y62 h62 hy62 => ?_⟩
        obtain ⟨rfl, hsN, hT⟩ := hy62
        have hs := hs.t2 hsN (by decide)
        have hE := (hsN.2 43 (by simp)).trans hE
        have hL := hL.sm hsN (by simp) (by simp) (by simp) (by simp)
        refine ⟨rfl, Nat.le_refl _, Nat.le_refl _, ?_⟩
        rw [punit, if_neg hnd, if_pos c41]
        exact ⟨rfl, hs, ⟨_, hT⟩, hL, hc⟩
    · have hbf : bo = true := qb_1.mp c7
      rw [hbf] at hbo
      refine ⟨by decide, _, _, hE, rfl, ?_⟩
      refine ⟨by decide, _, _, hE, rfl, ?_⟩
      refine Or.inl ⟨rfl, _, 3, 0, 0, _, _, _, qi_4_65, ⟨rfl, rfl⟩, ⟨hT.cell.choose_spec, rfl⟩, (qnum_rec (by omega) (by omega) (by omega) rfl), rfl, cT_number hg hT _ _, fun y23 h23 hy23 => ?_⟩
      obtain ⟨rfl, hsN, qN, hqN, hT⟩ := hy23
      have hs := hs.t2 hsN (by decide)
      have hE := (hsN.2 43 (by simp)).trans hE
      have hL := hL.sm hsN (by simp) (by simp) (by simp) (by simp)
      refine Or.inl ⟨rfl, _, 2, 0, 0, _, _, _, qi_4_56, ⟨rfl, rfl⟩, ⟨hL.1, rfl⟩, (qnum_rec (by omega) (by omega) (by omega) rfl), rfl, L_addA hg hL hc 0 _, fun y26 h26 hy26 => ?_⟩
      obtain ⟨rfl, hsN, hL⟩ := hy26
      have hs := hs.t2 hsN (by decide)
      have hE := (hsN.2 43 (by simp)).trans hE
      have hT := hT.sm hsN (by simp) (by simp)
      refine step.1 _ _ _ _ _ _ _ sgX4_readUnit_90_ok ?_
      refine ⟨rfl, Nat.le_refl _, Nat.le_refl _, ?_⟩
      rw [punit, if_pos hbo.symm]
      exact ⟨rfl, hs, ⟨_, hT⟩, hL, cadd_le hc⟩
  | some e =>
    refine step.1 _ _ _ _ _ _ _ sgX4_readUnit_0_ok ?_
    refine ⟨by decide, _, _, hE, rfl, ?_⟩
    refine Or.inl ⟨rfl, _, 3, 0, 0, _, _, _, qi_4_62, ⟨rfl, rfl⟩, ⟨hT.cell.choose_spec, rfl⟩, (qnum_rec (by omega) (by omega) (by omega) rfl), rfl, cT_digit hg hT, fun y4 h4 hy4 => ?_⟩
    obtain ⟨⟨bo, rfl, hbo⟩, hsN, hT⟩ := hy4
    have hbo := hbo a rfl
    have hs := hs.t2 hsN (by decide)
    have hE := (hsN.2 43 (by simp)).trans hE
    have hL := hL.sm hsN (by simp) (by simp) (by simp) (by simp)
    refine ⟨fun c7 => ?_, fun c7 => ?_⟩
    · have hbf : bo = false := qb_0.mp c7
      rw [hbf] at hbo
      have hnd : ¬ isdg (tby F n (sk F n a)) = true := by rw [← hbo]; decide
      refine step.1 _ _ _ _ _ _ _ sgX4_readUnit_32_ok ?_
      refine ⟨by decide, _, _, hE, rfl, ?_⟩
      refine Or.inl ⟨rfl, _, 2, 0, 0, _, _, _, qi_4_49, ⟨rfl, rfl⟩, ⟨hT.cell.choose_spec, rfl⟩, (qnum_rec (by omega) (by omega) (by omega) rfl), rfl, cT_look hg hT, fun y36 h36 hy36 => ?_⟩
      obtain ⟨⟨co, rfl, hco⟩, hsN, hT⟩ := hy36
      have hs := hs.t2 hsN (by decide)
      have hE := (hsN.2 43 (by simp)).trans hE
      have hL := hL.sm hsN (by simp) (by simp) (by simp) (by simp)
      have hco := hco (sk F n a) rfl
      rw [sk_sk F han] at hco
      have hT : cT h36 F n (.inr (sk F n a)) q0 := by
        have z : pskip F n (pskip F n (.inr a)) = .inr (sk F n a) := by show Sum.inr (sk F n (sk F n a)) = _; rw [sk_sk F han]
        rw [z] at hT; exact hT
      refine ⟨fun c41 => ?_, fun c41 => ?_⟩
      · have c41 : ¬ (tby F n (sk F n a)) = 40 := fun z => c41 (hco.trans z)
        refine step.1 _ _ _ _ _ _ _ sgX4_readUnit_85_ok ?_
        refine Or.inl ⟨rfl, _, d + 8, 0, 0, _, _, _, qi_4_72, ⟨rfl, rfl⟩, ⟨hE, rfl⟩, (qnum_rec (by omega) (by omega) (by omega) rfl), rfl, RL_word hg hJ hS hLD hO hop hT hE hL hc, fun y87 h87 hy87 => ?_⟩
        obtain ⟨rfl, hsN, ⟨qN, hT⟩, hL, hc⟩ := hy87
        have hs := hs.t2 hsN (by decide)
        have hE := (hsN.2 43 (by simp)).trans hE
        refine step.1 _ _ _ _ _ _ _ sgX4_readUnit_90_ok ?_
        refine ⟨rfl, Nat.le_refl _, Nat.le_refl _, ?_⟩
        rw [punit, if_neg hnd, if_neg c41]
        exact ⟨rfl, hs, ⟨_, hT⟩, hL, hc⟩
      · have c41 : (tby F n (sk F n a)) = 40 := hco.symm.trans c41
        refine ⟨fun c47 => ?_, fun c47 => absurd (nI_lt (b := 6) hO.1 (by decide)) c47⟩
        
        refine step.1 _ _ _ _ _ _ _ sgX4_readUnit_66_ok ?_
        refine ⟨by decide, _, _, hE, rfl, ?_⟩
        refine Or.inl ⟨rfl, _, 1, 0, 0, _, _, _, qi_4_53, ⟨rfl, rfl⟩, ⟨hT.cell.choose_spec, rfl⟩, (qnum_rec (by omega) (by omega) (by omega) rfl), rfl, cT_step hg hT (hskl c41), fun y70 h70 hy70 => ?_⟩
        obtain ⟨rfl, hsN, hT⟩ := hy70
        have hs := hs.t2 hsN (by decide)
        have hE := (hsN.2 43 (by simp)).trans hE
        have hL := hL.sm hsN (by simp) (by simp) (by simp) (by simp)
        refine Or.inl ⟨rfl, _, d + 7, 0, 0, _, _, _, qi_4_69, ⟨rfl, rfl⟩, ⟨hE, rfl⟩, (qnum_rec (by omega) (by omega) (by omega) rfl), rfl, (by rw [nI_1]; exact RL_part hg hO.2 41 (by decide) hT hE hL hc), fun y79 h79 hy79 => ?_⟩
        obtain ⟨rfl, hsN, ⟨qN, hT⟩, hL, hc⟩ := hy79
        have hs := hs.t2 hsN (by decide)
        have hE := (hsN.2 43 (by simp)).trans hE
        refine step.1 _ _ _ _ _ _ _ sgX4_readUnit_90_ok ?_
        refine ⟨rfl, Nat.le_refl _, Nat.le_refl _, ?_⟩
        rw [punit, if_neg hnd, if_pos c41]
        exact ⟨rfl, hs, ⟨_, hT⟩, hL, hc⟩
    · have hbf : bo = true := qb_1.mp c7
      rw [hbf] at hbo
      refine ⟨by decide, _, _, hE, rfl, ?_⟩
      refine ⟨by decide, _, _, hE, rfl, ?_⟩
      refine Or.inl ⟨rfl, _, 3, 0, 0, _, _, _, qi_4_65, ⟨rfl, rfl⟩, ⟨hT.cell.choose_spec, rfl⟩, (qnum_rec (by omega) (by omega) (by omega) rfl), rfl, cT_number hg hT _ _, fun y23 h23 hy23 => ?_⟩
      obtain ⟨rfl, hsN, qN, hqN, hT⟩ := hy23
      have hs := hs.t2 hsN (by decide)
      have hE := (hsN.2 43 (by simp)).trans hE
      have hL := hL.sm hsN (by simp) (by simp) (by simp) (by simp)
      refine Or.inl ⟨rfl, _, 2, 0, 0, _, _, _, qi_4_56, ⟨rfl, rfl⟩, ⟨hL.1, rfl⟩, (qnum_rec (by omega) (by omega) (by omega) rfl), rfl, L_addA hg hL hc 0 _, fun y26 h26 hy26 => ?_⟩
      obtain ⟨rfl, hsN, hL⟩ := hy26
      have hs := hs.t2 hsN (by decide)
      have hE := (hsN.2 43 (by simp)).trans hE
      have hT := hT.sm hsN (by simp) (by simp)
      refine step.1 _ _ _ _ _ _ _ sgX4_readUnit_90_ok ?_
      refine ⟨rfl, Nat.le_refl _, Nat.le_refl _, ?_⟩
      rw [punit, if_pos hbo.symm]
      exact ⟨rfl, hs, ⟨_, hT⟩, hL, cadd_le hc⟩
theorem RL_prod {g : qG} (hg : qOK g) {F : Nat → Int32} {n d op : Nat} (hJ : qJDK g) {f : Nat → Nat} {len : Nat} (hS : qSTR g 14 15 len f) (hLD : qLD g 4 78 14) {E : Option PE} (hO : cEo g F n (d + 6) op E) (hop : op ≤ 6) {h : qH} {a q0 : Nat} {c : CD} {S : Nat → Int32} (hT : cT h F n (.inr a) q0) (hE : h.2 43 = some E43) (hL : isL h 44 45 46 47 c.1 c.2.1 S (nI c.2.2)) (hc : c.2.2 ≤ 150) : qSpec g (d + 10) 0 0 mX4_readProduct [.ref 43, .int (nI op)] h (cLP h F n S (pprod F n f len E a c)) := by
  refine qSpec_run 4 "readProduct" false hg mX4_readProduct_ok rfl rfl (Nat.le_of_ble_eq_true rfl) (by decide) ?_
  intro run step
  have hs : same h h [1, 44, 45, 46] := same.rf
  have hlt9 : ∀ b : Nat, (tby F n (sk F n b)) = 42 ∨ (tby F n (sk F n b)) = 47 → sk F n b < n := fun b e => by
    by_cases c9 : sk F n b < n
    · exact c9
    · rw [tby_end (by omega)] at e
      exact e.elim (fun z => absurd z (by decide)) (fun z => absurd z (by decide))
  have loop : ∀ (m i : Nat) (r : PS × CD) (hX : qH) (q1 : Nat), i + m = 150 → pops F n (punit F n f len E) 42 47 4 5 m r = (pprod F n f len E a c) → cT hX F n r.1 q1 → same h hX [1, 44, 45, 46] → hX.2 43 = some E43 → isL hX 44 45 46 47 r.2.1 r.2.2.1 S (nI r.2.2.2) → r.2.2.2 ≤ 150 → run 7 [(2, .int (nI i)), (0, .ref 43), (1, .int (nI op))] [] hX 0 0 := by
    intro m
    induction m with
    | zero =>
      intro i r hX q1 hi hst hT hs hE hL hc
      obtain rfl : i = 150 := by omega
      have hst : r = (pprod F n f len E a c) := hst
      refine step.1 _ _ _ _ _ _ _ sgX4_readProduct_7_ok ?_
      refine ⟨fun c11 => ?_, fun c11 => absurd (by decide : (150 : Int32) ≤ nI 150) c11⟩
      refine step.1 _ _ _ _ _ _ _ sgX4_readProduct_82_ok ?_
      refine ⟨rfl, Nat.le_refl _, Nat.le_refl _, ?_⟩
      rw [← hst]
      exact ⟨rfl, hs, ⟨_, hT⟩, hL, hc⟩
    | succ m ih =>
      intro i r hX q1 hi hst hT hs hE hL hc
      refine step.1 _ _ _ _ _ _ _ sgX4_readProduct_7_ok ?_
      refine ⟨fun c11 => absurd c11 (h_nle (b := 150) (by omega) (by decide)), fun c11 => ?_⟩
      refine ⟨by decide, _, _, hE, rfl, ?_⟩
      refine Or.inl ⟨rfl, _, 1, 0, 0, _, _, _, qi_4_29, ⟨rfl, rfl⟩, ⟨hT.cell.choose_spec, rfl⟩, (qnum_rec (by omega) (by omega) (by omega) rfl), rfl, cT_faulty hg hT, fun y18 h18 hy18 => ?_⟩
      obtain ⟨rfl, hh⟩ := hy18
      rw [hh]
      clear hh
      refine ⟨fun c21 => ?_, fun c21 => ?_⟩
      · have hb : pbad r.1 = true := qb_1.mp c21
        refine step.1 _ _ _ _ _ _ _ sgX4_readProduct_82_ok ?_
        refine ⟨rfl, Nat.le_refl _, Nat.le_refl _, ?_⟩
        rw [show (pprod F n f len E a c) = r from by
          rw [← hst, pops]
          cases hr : r.1 with
          | inl e2 => rfl
          | inr b => rw [hr] at hb; cases hb]
        exact ⟨rfl, hs, ⟨_, hT⟩, hL, hc⟩
      · have hb : pbad r.1 = false := qb_0.mp c21
        obtain ⟨s1, c2⟩ := r
        cases s1 with
        | inl e2 => cases hb
        | inr b =>
        have hbn : b ≤ n := by
          obtain ⟨p, ki, pl, -, h1, -, -, h2, -⟩ := hT
          omega
        refine ⟨by decide, _, _, hE, rfl, ?_⟩
        refine Or.inl ⟨rfl, _, 2, 0, 0, _, _, _, qi_4_49, ⟨rfl, rfl⟩, ⟨hT.cell.choose_spec, rfl⟩, (qnum_rec (by omega) (by omega) (by omega) rfl), rfl, cT_look hg hT, fun y28 h28 hy28 => ?_⟩
        obtain ⟨⟨co, rfl, hco⟩, hsN, hT⟩ := hy28
        have hs := hs.t2 hsN (by decide)
        have hE := (hsN.2 43 (by simp)).trans hE
        have hL := hL.sm hsN (by simp) (by simp) (by simp) (by simp)
        have hco := hco b rfl
        refine ⟨fun c35 => ?_, fun c35 => ?_⟩
        · have c35 : (tby F n (sk F n b)) = 42 := hco.symm.trans c35
          have hor : (tby F n (sk F n b)) = 42 ∨ (tby F n (sk F n b)) = 47 := Or.inl c35
          refine step.1 _ _ _ _ _ _ _ sgX4_readProduct_45_ok ?_
          refine ⟨by decide, _, _, hE, rfl, ?_⟩
          refine Or.inl ⟨rfl, _, 1, 0, 0, _, _, _, qi_4_53, ⟨rfl, rfl⟩, ⟨hT.cell.choose_spec, rfl⟩, (qnum_rec (by omega) (by omega) (by omega) rfl), rfl, cT_step hg hT (hlt9 b hor), fun y49 h49 hy49 => ?_⟩
          obtain ⟨rfl, hsN, hT⟩ := hy49
          have hs := hs.t2 hsN (by decide)
          have hE := (hsN.2 43 (by simp)).trans hE
          have hL := hL.sm hsN (by simp) (by simp) (by simp) (by simp)
          refine Or.inl ⟨rfl, _, d + 9, 0, 0, _, _, _, qi_4_59, ⟨rfl, rfl⟩, ⟨hE, rfl⟩, (qnum_rec (by omega) (by omega) (by omega) rfl), rfl, RL_unit hg hJ hS hLD hO hop hT hE hL hc, fun y54 h54 hy54 => ?_⟩
          obtain ⟨rfl, hsN, ⟨qN, hT⟩, hL, hc⟩ := hy54
          have hs := hs.t2 hsN (by decide)
          have hE := (hsN.2 43 (by simp)).trans hE
          refine ⟨by decide, _, _, hE, rfl, ?_⟩
          refine ⟨fun c64 => ?_, fun c64 => ?_⟩
          · have c64 : ¬ (tby F n (sk F n b)) = 42 := fun z => c64 (hco.trans z)
            refine step.1 _ _ _ _ _ _ _ sgX4_readProduct_71_ok ?_
            refine step.1 _ _ _ _ _ _ _ sgX4_readProduct_72_ok ?_
            refine Or.inl ⟨rfl, _, 2, 0, 0, _, _, _, qi_4_56, ⟨rfl, rfl⟩, ⟨hL.1, rfl⟩, (qnum_rec (by omega) (by omega) (by omega) rfl), rfl, L_addA hg hL hc 5 0, fun y73 h73 hy73 => ?_⟩
            obtain ⟨rfl, hsN, hL⟩ := hy73
            have hs := hs.t2 hsN (by decide)
            have hE := (hsN.2 43 (by simp)).trans hE
            have hT := hT.sm hsN (by simp) (by simp)
            refine step.2 _ _ _ _ _ _ _ (qsub_cons 0 rfl (qsub_cons 2 rfl (qsub_cons 3 rfl qsub_nil))) ?_
            have e9 : (if (tby F n (sk F n b)) = 42 then (4 : Int32) else 5) = 5 := if_neg c64
            have kk2 := ih (i + 1) (((punit F n f len E) (sk F n b + 1) c2).1, cadd 5 0 ((punit F n f len E) (sk F n b + 1) c2).2) _ qN (by omega) (by rw [← hst, pops]; simp only [if_pos hor, e9]) hT hs hE hL (cadd_le hc)
            rw [← nI_1] at kk2
            exact kk2
          · have c64 : (tby F n (sk F n b)) = 42 := hco.symm.trans c64
            refine step.1 _ _ _ _ _ _ _ sgX4_readProduct_72_ok ?_
            refine Or.inl ⟨rfl, _, 2, 0, 0, _, _, _, qi_4_56, ⟨rfl, rfl⟩, ⟨hL.1, rfl⟩, (qnum_rec (by omega) (by omega) (by omega) rfl), rfl, L_addA hg hL hc 4 0, fun y73 h73 hy73 => ?_⟩
            obtain ⟨rfl, hsN, hL⟩ := hy73
            have hs := hs.t2 hsN (by decide)
            have hE := (hsN.2 43 (by simp)).trans hE
            have hT := hT.sm hsN (by simp) (by simp)
            refine step.2 _ _ _ _ _ _ _ (qsub_cons 0 rfl (qsub_cons 2 rfl (qsub_cons 3 rfl qsub_nil))) ?_
            have e9 : (if (tby F n (sk F n b)) = 42 then (4 : Int32) else 5) = 4 := if_pos c64
            have kk2 := ih (i + 1) (((punit F n f len E) (sk F n b + 1) c2).1, cadd 4 0 ((punit F n f len E) (sk F n b + 1) c2).2) _ qN (by omega) (by rw [← hst, pops]; simp only [if_pos hor, e9]) hT hs hE hL (cadd_le hc)
            rw [← nI_1] at kk2
            exact kk2
        · have c35 : ¬ (tby F n (sk F n b)) = 42 := fun z => c35 (hco.trans z)
          refine ⟨fun c41 => ?_, fun c41 => ?_⟩
          · have c41 : (tby F n (sk F n b)) = 47 := hco.symm.trans c41
            have hor : (tby F n (sk F n b)) = 42 ∨ (tby F n (sk F n b)) = 47 := Or.inr c41
            refine step.1 _ _ _ _ _ _ _ sgX4_readProduct_45_ok ?_
            refine ⟨by decide, _, _, hE, rfl, ?_⟩
            refine Or.inl ⟨rfl, _, 1, 0, 0, _, _, _, qi_4_53, ⟨rfl, rfl⟩, ⟨hT.cell.choose_spec, rfl⟩, (qnum_rec (by omega) (by omega) (by omega) rfl), rfl, cT_step hg hT (hlt9 b hor), fun y49 h49 hy49 => ?_⟩
            obtain ⟨rfl, hsN, hT⟩ := hy49
            have hs := hs.t2 hsN (by decide)
            have hE := (hsN.2 43 (by simp)).trans hE
            have hL := hL.sm hsN (by simp) (by simp) (by simp) (by simp)
            refine Or.inl ⟨rfl, _, d + 9, 0, 0, _, _, _, qi_4_59, ⟨rfl, rfl⟩, ⟨hE, rfl⟩, (qnum_rec (by omega) (by omega) (by omega) rfl), rfl, RL_unit hg hJ hS hLD hO hop hT hE hL hc, fun y54 h54 hy54 => ?_⟩
            obtain ⟨rfl, hsN, ⟨qN, hT⟩, hL, hc⟩ := hy54
            have hs := hs.t2 hsN (by decide)
            have hE := (hsN.2 43 (by simp)).trans hE
            refine ⟨by decide, _, _, hE, rfl, ?_⟩
            refine ⟨fun c64 => ?_, fun c64 => ?_⟩
            · have c64 : ¬ (tby F n (sk F n b)) = 42 := fun z => c64 (hco.trans z)
              refine step.1 _ _ _ _ _ _ _ sgX4_readProduct_71_ok ?_
              refine step.1 _ _ _ _ _ _ _ sgX4_readProduct_72_ok ?_
              refine Or.inl ⟨rfl, _, 2, 0, 0, _, _, _, qi_4_56, ⟨rfl, rfl⟩, ⟨hL.1, rfl⟩, (qnum_rec (by omega) (by omega) (by omega) rfl), rfl, L_addA hg hL hc 5 0, fun y73 h73 hy73 => ?_⟩
              obtain ⟨rfl, hsN, hL⟩ := hy73
              have hs := hs.t2 hsN (by decide)
              have hE := (hsN.2 43 (by simp)).trans hE
              have hT := hT.sm hsN (by simp) (by simp)
              refine step.2 _ _ _ _ _ _ _ (qsub_cons 0 rfl (qsub_cons 2 rfl (qsub_cons 3 rfl qsub_nil))) ?_
              have e9 : (if (tby F n (sk F n b)) = 42 then (4 : Int32) else 5) = 5 := if_neg c64
              have kk2 := ih (i + 1) (((punit F n f len E) (sk F n b + 1) c2).1, cadd 5 0 ((punit F n f len E) (sk F n b + 1) c2).2) _ qN (by omega) (by rw [← hst, pops]; simp only [if_pos hor, e9]) hT hs hE hL (cadd_le hc)
              rw [← nI_1] at kk2
              exact kk2
            · have c64 : (tby F n (sk F n b)) = 42 := hco.symm.trans c64
              refine step.1 _ _ _ _ _ _ _ sgX4_readProduct_72_ok ?_
              refine Or.inl ⟨rfl, _, 2, 0, 0, _, _, _, qi_4_56, ⟨rfl, rfl⟩, ⟨hL.1, rfl⟩, (qnum_rec (by omega) (by omega) (by omega) rfl), rfl, L_addA hg hL hc 4 0, fun y73 h73 hy73 => ?_⟩
              obtain ⟨rfl, hsN, hL⟩ := hy73
              have hs := hs.t2 hsN (by decide)
              have hE := (hsN.2 43 (by simp)).trans hE
              have hT := hT.sm hsN (by simp) (by simp)
              refine step.2 _ _ _ _ _ _ _ (qsub_cons 0 rfl (qsub_cons 2 rfl (qsub_cons 3 rfl qsub_nil))) ?_
              have e9 : (if (tby F n (sk F n b)) = 42 then (4 : Int32) else 5) = 4 := if_pos c64
              have kk2 := ih (i + 1) (((punit F n f len E) (sk F n b + 1) c2).1, cadd 4 0 ((punit F n f len E) (sk F n b + 1) c2).2) _ qN (by omega) (by rw [← hst, pops]; simp only [if_pos hor, e9]) hT hs hE hL (cadd_le hc)
              rw [← nI_1] at kk2
              exact kk2
          · have c41 : ¬ (tby F n (sk F n b)) = 47 := fun z => c41 (hco.trans z)
            refine ⟨rfl, Nat.le_refl _, Nat.le_refl _, ?_⟩
            have e9 : (pprod F n f len E a c) = (.inr (sk F n b), c2) := by
              rw [← hst, pops]
              simp only [if_neg (fun z : (tby F n (sk F n b)) = 42 ∨ (tby F n (sk F n b)) = 47 => z.elim c35 c41)]
            rw [e9]
            exact ⟨rfl, hs, ⟨_, hT⟩, hL, hc⟩
  refine step.1 _ _ _ _ _ _ _ sgX4_readProduct_0_ok ?_
  refine Or.inl ⟨rfl, _, d + 9, 0, 0, _, _, _, qi_4_59, ⟨rfl, rfl⟩, ⟨hE, rfl⟩, (qnum_rec (by omega) (by omega) (by omega) rfl), rfl, RL_unit hg hJ hS hLD hO hop hT hE hL hc, fun y2 h2 hy2 => ?_⟩
  obtain ⟨rfl, hsN, ⟨qN, hT⟩, hL, hc⟩ := hy2
  have hs := hs.t2 hsN (by decide)
  have hE := (hsN.2 43 (by simp)).trans hE
  exact loop 150 0 ((punit F n f len E) a c) _ _ rfl rfl hT hs hE hL hc
theorem RL_sum {g : qG} (hg : qOK g) {F : Nat → Int32} {n d op : Nat} (hJ : qJDK g) {f : Nat → Nat} {len : Nat} (hS : qSTR g 14 15 len f) (hLD : qLD g 4 78 14) {E : Option PE} (hO : cEo g F n (d + 6) op E) (hop : op ≤ 6) {h : qH} {a q0 : Nat} {c : CD} {S : Nat → Int32} (hT : cT h F n (.inr a) q0) (hE : h.2 43 = some E43) (hL : isL h 44 45 46 47 c.1 c.2.1 S (nI c.2.2)) (hc : c.2.2 ≤ 150) : qSpec g (d + 11) 0 0 mX4_readSum [.ref 43, .int (nI op)] h (cLP h F n S (psum F n f len E a c)) := by
  refine qSpec_run 4 "readSum" false hg mX4_readSum_ok rfl rfl (Nat.le_of_ble_eq_true rfl) (by decide) ?_
  intro run step
  have hs : same h h [1, 44, 45, 46] := same.rf
  have hlt9 : ∀ b : Nat, (tby F n (sk F n b)) = 43 ∨ (tby F n (sk F n b)) = 45 → sk F n b < n := fun b e => by
    by_cases c9 : sk F n b < n
    · exact c9
    · rw [tby_end (by omega)] at e
      exact e.elim (fun z => absurd z (by decide)) (fun z => absurd z (by decide))
  have loop : ∀ (m i : Nat) (r : PS × CD) (hX : qH) (q1 : Nat), i + m = 150 → pops F n (pprod F n f len E) 43 45 2 3 m r = (psum F n f len E a c) → cT hX F n r.1 q1 → same h hX [1, 44, 45, 46] → hX.2 43 = some E43 → isL hX 44 45 46 47 r.2.1 r.2.2.1 S (nI r.2.2.2) → r.2.2.2 ≤ 150 → run 7 [(2, .int (nI i)), (0, .ref 43), (1, .int (nI op))] [] hX 0 0 := by
    intro m
    induction m with
    | zero =>
      intro i r hX q1 hi hst hT hs hE hL hc
      obtain rfl : i = 150 := by omega
      have hst : r = (psum F n f len E a c) := hst
      refine step.1 _ _ _ _ _ _ _ sgX4_readSum_7_ok ?_
      refine ⟨fun c11 => ?_, fun c11 => absurd (by decide : (150 : Int32) ≤ nI 150) c11⟩
      refine step.1 _ _ _ _ _ _ _ sgX4_readSum_82_ok ?_
      refine ⟨rfl, Nat.le_refl _, Nat.le_refl _, ?_⟩
      rw [← hst]
      exact ⟨rfl, hs, ⟨_, hT⟩, hL, hc⟩
    | succ m ih =>
      intro i r hX q1 hi hst hT hs hE hL hc
      refine step.1 _ _ _ _ _ _ _ sgX4_readSum_7_ok ?_
      refine ⟨fun c11 => absurd c11 (h_nle (b := 150) (by omega) (by decide)), fun c11 => ?_⟩
      refine ⟨by decide, _, _, hE, rfl, ?_⟩
      refine Or.inl ⟨rfl, _, 1, 0, 0, _, _, _, qi_4_29, ⟨rfl, rfl⟩, ⟨hT.cell.choose_spec, rfl⟩, (qnum_rec (by omega) (by omega) (by omega) rfl), rfl, cT_faulty hg hT, fun y18 h18 hy18 => ?_⟩
      obtain ⟨rfl, hh⟩ := hy18
      rw [hh]
      clear hh
      refine ⟨fun c21 => ?_, fun c21 => ?_⟩
      · have hb : pbad r.1 = true := qb_1.mp c21
        refine step.1 _ _ _ _ _ _ _ sgX4_readSum_82_ok ?_
        refine ⟨rfl, Nat.le_refl _, Nat.le_refl _, ?_⟩
        rw [show (psum F n f len E a c) = r from by
          rw [← hst, pops]
          cases hr : r.1 with
          | inl e2 => rfl
          | inr b => rw [hr] at hb; cases hb]
        exact ⟨rfl, hs, ⟨_, hT⟩, hL, hc⟩
      · have hb : pbad r.1 = false := qb_0.mp c21
        obtain ⟨s1, c2⟩ := r
        cases s1 with
        | inl e2 => cases hb
        | inr b =>
        have hbn : b ≤ n := by
          obtain ⟨p, ki, pl, -, h1, -, -, h2, -⟩ := hT
          omega
        refine ⟨by decide, _, _, hE, rfl, ?_⟩
        refine Or.inl ⟨rfl, _, 2, 0, 0, _, _, _, qi_4_49, ⟨rfl, rfl⟩, ⟨hT.cell.choose_spec, rfl⟩, (qnum_rec (by omega) (by omega) (by omega) rfl), rfl, cT_look hg hT, fun y28 h28 hy28 => ?_⟩
        obtain ⟨⟨co, rfl, hco⟩, hsN, hT⟩ := hy28
        have hs := hs.t2 hsN (by decide)
        have hE := (hsN.2 43 (by simp)).trans hE
        have hL := hL.sm hsN (by simp) (by simp) (by simp) (by simp)
        have hco := hco b rfl
        refine ⟨fun c35 => ?_, fun c35 => ?_⟩
        · have c35 : (tby F n (sk F n b)) = 43 := hco.symm.trans c35
          have hor : (tby F n (sk F n b)) = 43 ∨ (tby F n (sk F n b)) = 45 := Or.inl c35
          refine step.1 _ _ _ _ _ _ _ sgX4_readSum_45_ok ?_
          refine ⟨by decide, _, _, hE, rfl, ?_⟩
          refine Or.inl ⟨rfl, _, 1, 0, 0, _, _, _, qi_4_53, ⟨rfl, rfl⟩, ⟨hT.cell.choose_spec, rfl⟩, (qnum_rec (by omega) (by omega) (by omega) rfl), rfl, cT_step hg hT (hlt9 b hor), fun y49 h49 hy49 => ?_⟩
          obtain ⟨rfl, hsN, hT⟩ := hy49
          have hs := hs.t2 hsN (by decide)
          have hE := (hsN.2 43 (by simp)).trans hE
          have hL := hL.sm hsN (by simp) (by simp) (by simp) (by simp)
          refine Or.inl ⟨rfl, _, d + 10, 0, 0, _, _, _, qi_4_46, ⟨rfl, rfl⟩, ⟨hE, rfl⟩, (qnum_rec (by omega) (by omega) (by omega) rfl), rfl, RL_prod hg hJ hS hLD hO hop hT hE hL hc, fun y54 h54 hy54 => ?_⟩
          obtain ⟨rfl, hsN, ⟨qN, hT⟩, hL, hc⟩ := hy54
          have hs := hs.t2 hsN (by decide)
          have hE := (hsN.2 43 (by simp)).trans hE
          refine ⟨by decide, _, _, hE, rfl, ?_⟩
          refine ⟨fun c64 => ?_, fun c64 => ?_⟩
          · have c64 : ¬ (tby F n (sk F n b)) = 43 := fun z => c64 (hco.trans z)
            refine step.1 _ _ _ _ _ _ _ sgX4_readSum_71_ok ?_
            refine step.1 _ _ _ _ _ _ _ sgX4_readSum_72_ok ?_
            refine Or.inl ⟨rfl, _, 2, 0, 0, _, _, _, qi_4_56, ⟨rfl, rfl⟩, ⟨hL.1, rfl⟩, (qnum_rec (by omega) (by omega) (by omega) rfl), rfl, L_addA hg hL hc 3 0, fun y73 h73 hy73 => ?_⟩
            obtain ⟨rfl, hsN, hL⟩ := hy73
            have hs := hs.t2 hsN (by decide)
            have hE := (hsN.2 43 (by simp)).trans hE
            have hT := hT.sm hsN (by simp) (by simp)
            refine step.2 _ _ _ _ _ _ _ (qsub_cons 0 rfl (qsub_cons 2 rfl (qsub_cons 3 rfl qsub_nil))) ?_
            have e9 : (if (tby F n (sk F n b)) = 43 then (2 : Int32) else 3) = 3 := if_neg c64
            have kk2 := ih (i + 1) (((pprod F n f len E) (sk F n b + 1) c2).1, cadd 3 0 ((pprod F n f len E) (sk F n b + 1) c2).2) _ qN (by omega) (by rw [← hst, pops]; simp only [if_pos hor, e9]) hT hs hE hL (cadd_le hc)
            rw [← nI_1] at kk2
            exact kk2
          · have c64 : (tby F n (sk F n b)) = 43 := hco.symm.trans c64
            refine step.1 _ _ _ _ _ _ _ sgX4_readSum_72_ok ?_
            refine Or.inl ⟨rfl, _, 2, 0, 0, _, _, _, qi_4_56, ⟨rfl, rfl⟩, ⟨hL.1, rfl⟩, (qnum_rec (by omega) (by omega) (by omega) rfl), rfl, L_addA hg hL hc 2 0, fun y73 h73 hy73 => ?_⟩
            obtain ⟨rfl, hsN, hL⟩ := hy73
            have hs := hs.t2 hsN (by decide)
            have hE := (hsN.2 43 (by simp)).trans hE
            have hT := hT.sm hsN (by simp) (by simp)
            refine step.2 _ _ _ _ _ _ _ (qsub_cons 0 rfl (qsub_cons 2 rfl (qsub_cons 3 rfl qsub_nil))) ?_
            have e9 : (if (tby F n (sk F n b)) = 43 then (2 : Int32) else 3) = 2 := if_pos c64
            have kk2 := ih (i + 1) (((pprod F n f len E) (sk F n b + 1) c2).1, cadd 2 0 ((pprod F n f len E) (sk F n b + 1) c2).2) _ qN (by omega) (by rw [← hst, pops]; simp only [if_pos hor, e9]) hT hs hE hL (cadd_le hc)
            rw [← nI_1] at kk2
            exact kk2
        · have c35 : ¬ (tby F n (sk F n b)) = 43 := fun z => c35 (hco.trans z)
          refine ⟨fun c41 => ?_, fun c41 => ?_⟩
          · have c41 : (tby F n (sk F n b)) = 45 := hco.symm.trans c41
            have hor : (tby F n (sk F n b)) = 43 ∨ (tby F n (sk F n b)) = 45 := Or.inr c41
            refine step.1 _ _ _ _ _ _ _ sgX4_readSum_45_ok ?_
            refine ⟨by decide, _, _, hE, rfl, ?_⟩
            refine Or.inl ⟨rfl, _, 1, 0, 0, _, _, _, qi_4_53, ⟨rfl, rfl⟩, ⟨hT.cell.choose_spec, rfl⟩, (qnum_rec (by omega) (by omega) (by omega) rfl), rfl, cT_step hg hT (hlt9 b hor), fun y49 h49 hy49 => ?_⟩
            obtain ⟨rfl, hsN, hT⟩ := hy49
            have hs := hs.t2 hsN (by decide)
            have hE := (hsN.2 43 (by simp)).trans hE
            have hL := hL.sm hsN (by simp) (by simp) (by simp) (by simp)
            refine Or.inl ⟨rfl, _, d + 10, 0, 0, _, _, _, qi_4_46, ⟨rfl, rfl⟩, ⟨hE, rfl⟩, (qnum_rec (by omega) (by omega) (by omega) rfl), rfl, RL_prod hg hJ hS hLD hO hop hT hE hL hc, fun y54 h54 hy54 => ?_⟩
            obtain ⟨rfl, hsN, ⟨qN, hT⟩, hL, hc⟩ := hy54
            have hs := hs.t2 hsN (by decide)
            have hE := (hsN.2 43 (by simp)).trans hE
            refine ⟨by decide, _, _, hE, rfl, ?_⟩
            refine ⟨fun c64 => ?_, fun c64 => ?_⟩
            · have c64 : ¬ (tby F n (sk F n b)) = 43 := fun z => c64 (hco.trans z)
              refine step.1 _ _ _ _ _ _ _ sgX4_readSum_71_ok ?_
              refine step.1 _ _ _ _ _ _ _ sgX4_readSum_72_ok ?_
              refine Or.inl ⟨rfl, _, 2, 0, 0, _, _, _, qi_4_56, ⟨rfl, rfl⟩, ⟨hL.1, rfl⟩, (qnum_rec (by omega) (by omega) (by omega) rfl), rfl, L_addA hg hL hc 3 0, fun y73 h73 hy73 => ?_⟩
              obtain ⟨rfl, hsN, hL⟩ := hy73
              have hs := hs.t2 hsN (by decide)
              have hE := (hsN.2 43 (by simp)).trans hE
              have hT := hT.sm hsN (by simp) (by simp)
              refine step.2 _ _ _ _ _ _ _ (qsub_cons 0 rfl (qsub_cons 2 rfl (qsub_cons 3 rfl qsub_nil))) ?_
              have e9 : (if (tby F n (sk F n b)) = 43 then (2 : Int32) else 3) = 3 := if_neg c64
              have kk2 := ih (i + 1) (((pprod F n f len E) (sk F n b + 1) c2).1, cadd 3 0 ((pprod F n f len E) (sk F n b + 1) c2).2) _ qN (by omega) (by rw [← hst, pops]; simp only [if_pos hor, e9]) hT hs hE hL (cadd_le hc)
              rw [← nI_1] at kk2
              exact kk2
            · have c64 : (tby F n (sk F n b)) = 43 := hco.symm.trans c64
              refine step.1 _ _ _ _ _ _ _ sgX4_readSum_72_ok ?_
              refine Or.inl ⟨rfl, _, 2, 0, 0, _, _, _, qi_4_56, ⟨rfl, rfl⟩, ⟨hL.1, rfl⟩, (qnum_rec (by omega) (by omega) (by omega) rfl), rfl, L_addA hg hL hc 2 0, fun y73 h73 hy73 => ?_⟩
              obtain ⟨rfl, hsN, hL⟩ := hy73
              have hs := hs.t2 hsN (by decide)
              have hE := (hsN.2 43 (by simp)).trans hE
              have hT := hT.sm hsN (by simp) (by simp)
              refine step.2 _ _ _ _ _ _ _ (qsub_cons 0 rfl (qsub_cons 2 rfl (qsub_cons 3 rfl qsub_nil))) ?_
              have e9 : (if (tby F n (sk F n b)) = 43 then (2 : Int32) else 3) = 2 := if_pos c64
              have kk2 := ih (i + 1) (((pprod F n f len E) (sk F n b + 1) c2).1, cadd 2 0 ((pprod F n f len E) (sk F n b + 1) c2).2) _ qN (by omega) (by rw [← hst, pops]; simp only [if_pos hor, e9]) hT hs hE hL (cadd_le hc)
              rw [← nI_1] at kk2
              exact kk2
          · have c41 : ¬ (tby F n (sk F n b)) = 45 := fun z => c41 (hco.trans z)
            refine ⟨rfl, Nat.le_refl _, Nat.le_refl _, ?_⟩
            have e9 : (psum F n f len E a c) = (.inr (sk F n b), c2) := by
              rw [← hst, pops]
              simp only [if_neg (fun z : (tby F n (sk F n b)) = 43 ∨ (tby F n (sk F n b)) = 45 => z.elim c35 c41)]
            rw [e9]
            exact ⟨rfl, hs, ⟨_, hT⟩, hL, hc⟩
  refine step.1 _ _ _ _ _ _ _ sgX4_readSum_0_ok ?_
  refine Or.inl ⟨rfl, _, d + 10, 0, 0, _, _, _, qi_4_46, ⟨rfl, rfl⟩, ⟨hE, rfl⟩, (qnum_rec (by omega) (by omega) (by omega) rfl), rfl, RL_prod hg hJ hS hLD hO hop hT hE hL hc, fun y2 h2 hy2 => ?_⟩
  obtain ⟨rfl, hsN, ⟨qN, hT⟩, hL, hc⟩ := hy2
  have hs := hs.t2 hsN (by decide)
  have hE := (hsN.2 43 (by simp)).trans hE
  exact loop 150 0 ((pprod F n f len E) a c) _ _ rfl rfl hT hs hE hL hc
/-- the sum at each nesting -/
theorem RL_exp {g : qG} (hg : qOK g) (hJ : qJDK g) {f : Nat → Nat} {len : Nat} (hS : qSTR g 14 15 len f) (hLD : qLD g 4 78 14) {F : Nat → Int32} {n : Nat} : ∀ l op : Nat, op + l = 6 → cE g F n (5 * l + 11) op mX4_readSum (pexp F n f len l)
  | 0, op, hl => fun h a q0 c S hT hE hL hc => RL_sum hg (d := 0) hJ hS hLD (E := none) (show op = 6 by omega) (by omega) hT hE hL hc
  | l + 1, op, hl => fun h a q0 c S hT hE hL hc => RL_sum hg (d := 5 * (l + 1)) hJ hS hLD (E := some (pexp F n f len l)) ⟨by omega, RL_exp hg hJ hS hLD l (op + 1) (by omega)⟩ (by omega) hT hE hL hc
/-- a law's text, whole -/
def plend (F : Nat → Int32) (n : Nat) (s : PS) : PS := match s with
  | .inl e => .inl e
  | .inr a => if tby F n (sk F n a) = -1 then .inr (sk F n a) else .inl (1, sk F n a)
theorem RL_reads {g : qG} (hg : qOK g) {h : qH} (hJ : qJDK g) {f : Nat → Nat} {len : Nat} (hS : qSTR g 14 15 len f) (hLD : qLD g 4 78 14) {F : Nat → Int32} {n a q0 : Nat} {K V S : Nat → Int32} {z : Int32} (hT : cT h F n (.inr a) q0) (hE : h.2 43 = some E43) (hL : isL h 44 45 46 47 K V S z) : qSpec g 42 0 0 mX4_reads [.ref 43] h (fun r h' => r = some (.int (qb (!pbad (plend F n (pexp F n f len 6 a (K, V, 0)).1)))) ∧ same h h' [1, 44, 45, 46] ∧ (∃ q' : Nat, cT h' F n (plend F n (pexp F n f len 6 a (K, V, 0)).1) q') ∧ isL h' 44 45 46 47 (pexp F n f len 6 a (K, V, 0)).2.1 (pexp F n f len 6 a (K, V, 0)).2.2.1 S (nI (pexp F n f len 6 a (K, V, 0)).2.2.2) ∧ (pexp F n f len 6 a (K, V, 0)).2.2.2 ≤ 150) := by
  refine qSpec_run 4 "reads" false hg mX4_reads_ok rfl rfl (Nat.le_of_ble_eq_true rfl) (by decide) ?_
  intro run step
  have hs : same h h [1, 44, 45, 46] := same.rf
  have c47 : ∀ (hX : qH) (q1 : Nat), cT hX F n (plend F n (pexp F n f len 6 a (K, V, 0)).1) q1 → same h hX [1, 44, 45, 46] → hX.2 43 = some E43 → isL hX 44 45 46 47 (pexp F n f len 6 a (K, V, 0)).2.1 (pexp F n f len 6 a (K, V, 0)).2.2.1 S (nI (pexp F n f len 6 a (K, V, 0)).2.2.2) → (pexp F n f len 6 a (K, V, 0)).2.2.2 ≤ 150 → run 47 [(0, .ref 43)] [] hX 0 0 := by
    intro hX q1 hT hs hE hL hc
    refine step.1 _ _ _ _ _ _ _ sgX4_reads_47_ok ?_
    refine ⟨by decide, _, _, hE, rfl, ?_⟩
    refine Or.inl ⟨rfl, _, 1, 0, 0, _, _, _, qi_4_29, ⟨rfl, rfl⟩, ⟨hT.cell.choose_spec, rfl⟩, (qnum_rec (by omega) (by omega) (by omega) rfl), rfl, cT_faulty hg hT, fun y51 h51 hy51 => ?_⟩
    obtain ⟨rfl, hh⟩ := hy51
    rw [hh]
    clear hh
    refine ⟨fun c54 => ?_, fun c54 => ?_⟩
    · have hb : pbad (plend F n (pexp F n f len 6 a (K, V, 0)).1) = true := qb_1.mp c54
      refine step.1 _ _ _ _ _ _ _ sgX4_reads_61_ok ?_
      refine step.1 _ _ _ _ _ _ _ sgX4_reads_62_ok ?_
      refine ⟨.boolean, rfl, rfl, Nat.le_refl _, Nat.le_refl _, ?_⟩
      refine ⟨?_, hs, ⟨_, hT⟩, hL, hc⟩
      rw [hb]; rfl
    · have hb : pbad (plend F n (pexp F n f len 6 a (K, V, 0)).1) = false := qb_0.mp c54
      refine step.1 _ _ _ _ _ _ _ sgX4_reads_62_ok ?_
      refine ⟨.boolean, rfl, rfl, Nat.le_refl _, Nat.le_refl _, ?_⟩
      refine ⟨?_, hs, ⟨_, hT⟩, hL, hc⟩
      rw [hb]; rfl
  refine step.1 _ _ _ _ _ _ _ sgX4_reads_0_ok ?_
  refine ⟨by decide, _, _, hE, rfl, ?_⟩
  refine Or.inl ⟨rfl, _, 1, 0, 0, _, _, _, qi_4_22, ⟨rfl, rfl⟩, ⟨hL.1, rfl⟩, rfl, rfl, L_clear hg hL, fun y4 h4 hy4 => ?_⟩
  obtain ⟨rfl, hh⟩ := hy4
  subst hh
  have hsN : same h (h.1, qup h.2 44 (.inl (3, [.ref 45, .ref 46, .ref 47, .int 0]))) [44] := same.up (by simp)
  have hs := hs.t2 hsN (by decide)
  have hE := (hsN.2 43 (by simp)).trans hE
  have hT := hT.sm hsN (by simp) (by simp)
  have hL : isL (h.1, qup h.2 44 (.inl (3, [.ref 45, .ref 46, .ref 47, .int 0]))) 44 45 46 47 K V S (nI 0) := ⟨rfl, hL.2.1, hL.2.2.1, hL.2.2.2⟩
  refine Or.inl ⟨rfl, _, 41, 0, 0, _, _, _, qi_4_25, ⟨rfl, rfl⟩, ⟨hE, rfl⟩, rfl, rfl, RL_exp hg hJ hS hLD 6 0 rfl _ _ _ (K, V, 0) S hT hE hL (Nat.zero_le _), fun y9 h9 hy9 => ?_⟩
  obtain ⟨rfl, hsN, ⟨qN, hT⟩, hL, hc⟩ := hy9
  have hs := hs.t2 hsN (by decide)
  have hE := (hsN.2 43 (by simp)).trans hE
  refine ⟨by decide, _, _, hE, rfl, ?_⟩
  refine Or.inl ⟨rfl, _, 1, 0, 0, _, _, _, qi_4_29, ⟨rfl, rfl⟩, ⟨hT.cell.choose_spec, rfl⟩, (qnum_rec (by omega) (by omega) (by omega) rfl), rfl, cT_faulty hg hT, fun y16 h16 hy16 => ?_⟩
  obtain ⟨rfl, hh⟩ := hy16
  rw [hh]
  clear hh
  refine ⟨fun c19 => ?_, fun c19 => ?_⟩
  · have hb : pbad (pexp F n f len 6 a (K, V, 0)).1 = true := qb_1.mp c19
    obtain ⟨e2, he2⟩ := PS_l hb
    refine c47 _ qN ?_ hs hE hL hc
    rw [he2] at hT ⊢
    exact hT
  · have hb : pbad (pexp F n f len 6 a (K, V, 0)).1 = false := qb_0.mp c19
    obtain ⟨b, eb⟩ := PS_r hb
    refine ⟨by decide, _, _, hE, rfl, ?_⟩
    refine Or.inl ⟨rfl, _, 3, 0, 0, _, _, _, qi_4_35, ⟨rfl, rfl⟩, ⟨hT.cell.choose_spec, rfl⟩, rfl, rfl, cT_over hg hT, fun y26 h26 hy26 => ?_⟩
    obtain ⟨⟨bo, rfl, hbo⟩, hsN, hT⟩ := hy26
    have hs := hs.t2 hsN (by decide)
    have hE := (hsN.2 43 (by simp)).trans hE
    have hL := hL.sm hsN (by simp) (by simp) (by simp) (by simp)
    refine ⟨fun c29 => ?_, fun c29 => ?_⟩
    · have hbf : bo = true := qb_1.mp c29
      have hbo := (hbo b eb).symm.trans hbf
      refine c47 _ qN ?_ hs hE hL hc
      rw [eb] at hT ⊢
      rw [show plend F n (.inr b) = .inr (sk F n b) from if_pos (of_decide_eq_true hbo)]
      exact hT
    · have hbf : bo = false := qb_0.mp c29
      refine ⟨by decide, _, _, hE, rfl, ?_⟩
      refine ⟨by decide, _, _, hE, rfl, ?_⟩
      obtain ⟨fsA, pA, hA1, hA2, hA3⟩ := hT.at
      refine ⟨by decide, _, _, hA1, hA2, ?_⟩
      refine Or.inl ⟨rfl, _, 1, 0, 0, _, _, _, qi_4_42, ⟨rfl, rfl⟩, ⟨hT.cell.choose_spec, rfl⟩, rfl, rfl, cT_fail hg hT 1 pA (by decide), fun y44 h44 hy44 => ?_⟩
      obtain ⟨rfl, hsN, hT⟩ := hy44
      have hs := hs.t2 hsN (by decide)
      have hE := (hsN.2 43 (by simp)).trans hE
      have hL := hL.sm hsN (by simp) (by simp) (by simp) (by simp)
      have hbo := (hbo b eb).symm.trans hbf
      refine c47 _ qN ?_ hs hE hL hc
      rw [eb] at hT hA3 ⊢
      have hA3 := hA3 _ rfl
      rw [hA3] at hT
      rw [show plend F n (.inr b) = .inl (1, sk F n b) from if_neg (of_decide_eq_false hbo)]
      exact hT
end Q08L
