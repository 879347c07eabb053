section Q07Q
theorem qnum_rec {d d2 mc mc2 cu ms ms2 su : Nat} {r : List Value} (h1 : d2 + 1 ≤ d) (h2 : cu + mc2 ≤ mc) (h3 : su + ms2 ≤ ms) (h4 : Nat.ble (qcat r) 30 = true) : qnum d d2 mc mc2 cu ms ms2 su r = true := by
  unfold qnum
  rw [Nat.ble_eq_true_of_le h1, Nat.ble_eq_true_of_le h2, Nat.ble_eq_true_of_le h3, h4]
  rfl
/-- found: value, length, plan; and what is chosen -/
abbrev bS : Type := Int64 × Int32 × (Nat → Int32) × (Nat → Int32)
/-- the ways of a door, from the last to the first -/
def bdown (F : Nat → bS → bS) (b : Nat) : Nat → bS → bS
  | 0, s => s
  | k + 1, s => bdown F b k (F (b + k) s)
def bch (s : bS) (x : Nat) (v : Int32) : bS := (s.1, s.2.1, s.2.2.1, upd s.2.2.2 x v)
def blow (x le : Int32) : Int32 := if le = -1 then x else if le ≤ x then le else x
def bhig (x gr : Int32) : Int32 := if gr = -1 then x else if x ≤ gr then gr else x
def bcut (st cl : Int32) (HO : Nat → Int64) (x : Nat) (v : Int64) (mi le gr : Int32) (s : bS) : Bool := decide (cl < mi + sstr st le gr) || decide (v + HO x < s.1)
def btry (st cl : Int32) (X : Nat → Int32) (HO VL : Nat → Int64) (LN CO : Nat → Int32) (sz : Nat → Nat) : Nat → Nat → Int64 → Int32 → Int32 → Int32 → bS → bS
  | 0, x, v, mi, le, gr, s => if bcut st cl HO x v mi le gr s then s else (v, mi + sstr st le gr, va_cpy s.2.2.2 s.2.2.1 0 0 5, s.2.2.2)
  | f + 1, x, v, mi, le, gr, s => if bcut st cl HO x v mi le gr s then s else
    btry st cl X HO VL LN CO sz f (x + 1) v mi le gr (bch (bdown (fun i s => btry st cl X HO VL LN CO sz f (x + 1) (v + VL i) (mi + LN i) (blow (X x) le) (bhig (X x) gr) (bch s x (CO i))) (x * 18) (sz x) s) x (-1))
theorem S_tryDoor {g : qG} (hg : qOK g) {D P U : Nat → Int32} {n k u st ve cl : Int32} {VL HO : Nat → Int64} {LN CO SZ : Nat → Int32} {sz : Nat → Nat} {dc : Nat} (hdc : dc ≤ 5) (hsz : ∀ x, x < dc → SZ x = nI (sz x) ∧ sz x ≤ 18) : ∀ (f x : Nat), x + f = dc → ∀ (v : Int64) (mi le gr : Int32) {h : qH} (hR : isR h 3 4 5 6 D P U n k u st ve cl) (hS : isS h VL LN CO SZ HO) {s : bS} (h54 : h.2 54 = some (E54 (nI dc) s.1 s.2.1)) (h61 : h.2 61 = some (aI 5 s.2.2.1)) (h60 : h.2 60 = some (aI 5 s.2.2.2)), qSpec g (f + 4) 0 0 mX7_tryDoor [.ref 54, .int (nI x), .long v, .int mi, .int le, .int gr] h (fun r h' => r = none ∧ same h h' [54, 60, 61] ∧ h'.2 54 = some (E54 (nI dc) (btry st cl (fun x => D (x * 10 + 0)) HO VL LN CO sz f x v mi le gr s).1 (btry st cl (fun x => D (x * 10 + 0)) HO VL LN CO sz f x v mi le gr s).2.1) ∧ h'.2 61 = some (aI 5 (btry st cl (fun x => D (x * 10 + 0)) HO VL LN CO sz f x v mi le gr s).2.2.1) ∧ h'.2 60 = some (aI 5 (btry st cl (fun x => D (x * 10 + 0)) HO VL LN CO sz f x v mi le gr s).2.2.2)) := by
  intro f
  induction f with
  | zero =>
    intro x hx v mi le gr h hR hS s h54 h61 h60
    obtain rfl : x = dc := by omega
    rw [btry]
    refine qSpec_run 7 "tryDoor" false hg mX7_tryDoor_ok rfl rfl (Nat.le_of_ble_eq_true rfl) (by decide) ?_
    intro run step
    refine step.1 _ _ _ _ _ _ _ sgX7_tryDoor_0_ok ?_
    refine Or.inl ⟨rfl, _, 1, 0, 0, _, Or.inr qi_7_42, ⟨rfl, rfl⟩, (qnum_rec (by omega) (by omega) (by omega) rfl), rfl, sp_within hg _ _ _, fun y3 h3 hy3 => ?_⟩
    obtain ⟨rfl, hh⟩ := hy3
    rw [hh]
    clear hh
    refine ⟨fun c6 => absurd ((congrArg qb (within_t (lo := 0) (x := x) (hi := 5) (by omega) (by omega) (by omega))).symm.trans c6) (by decide), fun c6 => ?_⟩
    refine Or.inl ⟨rfl, _, 2, 0, 0, _, _, _, qi_7_90, ⟨rfl, rfl⟩, ⟨h54, rfl⟩, (qnum_rec (by omega) (by omega) (by omega) rfl), rfl, S_street hg h54 hR _ _, fun y16 h16 hy16 => ?_⟩
    obtain ⟨rfl, hh⟩ := hy16
    rw [hh]
    clear hh
    refine ⟨by decide, _, _, h54, rfl, ?_⟩
    refine ⟨by decide, _, _, hR.1, rfl, ?_⟩
    refine ⟨fun c27 => ?_, fun c27 => ?_⟩
    · have c27 : cl < mi + sstr st le gr := c27
      have hcut : bcut st cl HO x v mi le gr s = true := by rw [bcut, decide_eq_true c27]; rfl
      refine step.1 _ _ _ _ _ _ _ sgX7_tryDoor_46_ok ?_
      refine ⟨rfl, Nat.le_refl _, Nat.le_refl _, ?_⟩
      exact ⟨rfl, same.rf, by rw [if_pos hcut]; exact h54, by rw [if_pos hcut]; exact h61, by rw [if_pos hcut]; exact h60⟩
    · have c27 : ¬ cl < mi + sstr st le gr := c27
      refine ⟨by decide, _, _, h54, rfl, ?_⟩
      refine ⟨_, _, hS.2.2.2.2, vp_in_nI (by omega) (by decide), ?_⟩
      refine ⟨by decide, _, _, h54, rfl, ?_⟩
      refine ⟨fun c43 => ?_, fun c43 => ?_⟩
      · have c43 : ¬ v + HO x < s.1 := by
          have q := (lgc_ge _ _).mp c43
          rw [h_tn (n := x) (by omega)] at q
          exact Int64.not_lt.mpr q
        have hcut : ¬ bcut st cl HO x v mi le gr s = true := by rw [bcut, decide_eq_false c27, decide_eq_false c43]; decide
        refine step.1 _ _ _ _ _ _ _ sgX7_tryDoor_47_ok ?_
        refine ⟨by decide, _, _, h54, rfl, ?_⟩
        refine ⟨fun c52 => ?_, fun c52 => absurd ((nI_leI (a := x) (b := x) (by omega) (by omega)).mpr (by omega)) c52⟩
        refine step.1 _ _ _ _ _ _ _ sgX7_tryDoor_60_ok ?_
        refine ⟨_, h54, Nat.le_of_ble_eq_true rfl, rfl, ?_⟩
        refine Or.inl ⟨rfl, _, 2, 0, 0, _, _, _, qi_7_90, ⟨rfl, rfl⟩, ⟨rfl, rfl⟩, (qnum_rec (by omega) (by omega) (by omega) rfl), rfl, S_street hg (dc := nI x) (fv := v) (fl := s.2.1) (by exact rfl) (hR.up (by decide) (by decide) (by decide) (by decide)) _ _, fun y73 h73 hy73 => ?_⟩
        obtain ⟨rfl, hh⟩ := hy73
        rw [hh]
        clear hh
        refine ⟨_, rfl, Nat.le_of_ble_eq_true rfl, rfl, ?_⟩
        refine ⟨by decide, _, _, rfl, rfl, ?_⟩
        refine ⟨by decide, _, _, rfl, rfl, ?_⟩
        refine Or.inr ⟨by decide, _, _, _, _, h60, h61, ⟨by decide, by decide, by decide, by decide, by decide⟩, ⟨by omega, Nat.le_of_ble_eq_true rfl⟩, ?_⟩
        refine ⟨rfl, Nat.le_refl _, Nat.le_refl _, ?_⟩
        refine ⟨rfl, ⟨rfl, fun j hj => ?_⟩, ?_, ?_, ?_⟩
        · have hj1 : j ≠ 54 := fun q => hj (by rw [q]; simp)
          have hj2 : j ≠ 61 := fun q => hj (by rw [q]; simp)
          simp only [qup_n hj1, qup_n hj2]
        · rw [if_neg hcut]; rfl
        · rw [if_neg hcut]; rfl
        · rw [if_neg hcut]; exact h60
      · have c43 : v + HO x < s.1 := by
          have q := Int64.not_le.mp (fun q => c43 ((lgc_ge _ _).mpr q))
          rw [h_tn (n := x) (by omega)] at q
          exact q
        have hcut : bcut st cl HO x v mi le gr s = true := by rw [bcut, decide_eq_true c43]; exact Bool.or_true _
        refine step.1 _ _ _ _ _ _ _ sgX7_tryDoor_46_ok ?_
        refine ⟨rfl, Nat.le_refl _, Nat.le_refl _, ?_⟩
        exact ⟨rfl, same.rf, by rw [if_pos hcut]; exact h54, by rw [if_pos hcut]; exact h61, by rw [if_pos hcut]; exact h60⟩
  | succ f ih =>
    intro x hx v mi le gr h hR hS s h54 h61 h60
    by_cases hcut : bcut st cl HO x v mi le gr s = true
    · have eR : btry st cl (fun x => D (x * 10 + 0)) HO VL LN CO sz (f + 1) x v mi le gr s = s := by rw [btry, if_pos hcut]
      rw [eR]
      refine qSpec_run 7 "tryDoor" false hg mX7_tryDoor_ok rfl rfl (Nat.le_of_ble_eq_true rfl) (by decide) ?_
      intro run step
      refine step.1 _ _ _ _ _ _ _ sgX7_tryDoor_0_ok ?_
      refine Or.inl ⟨rfl, _, 1, 0, 0, _, Or.inr qi_7_42, ⟨rfl, rfl⟩, (qnum_rec (by omega) (by omega) (by omega) rfl), rfl, sp_within hg _ _ _, fun y3 h3 hy3 => ?_⟩
      obtain ⟨rfl, hh⟩ := hy3
      rw [hh]
      clear hh
      refine ⟨fun c6 => absurd ((congrArg qb (within_t (lo := 0) (x := x) (hi := 5) (by omega) (by omega) (by omega))).symm.trans c6) (by decide), fun c6 => ?_⟩
      refine Or.inl ⟨rfl, _, 2, 0, 0, _, _, _, qi_7_90, ⟨rfl, rfl⟩, ⟨h54, rfl⟩, (qnum_rec (by omega) (by omega) (by omega) rfl), rfl, S_street hg h54 hR _ _, fun y16 h16 hy16 => ?_⟩
      obtain ⟨rfl, hh⟩ := hy16
      rw [hh]
      clear hh
      refine ⟨by decide, _, _, h54, rfl, ?_⟩
      refine ⟨by decide, _, _, hR.1, rfl, ?_⟩
      refine ⟨fun c27 => ?_, fun c27 => ?_⟩
      · have c27 : cl < mi + sstr st le gr := c27
        refine step.1 _ _ _ _ _ _ _ sgX7_tryDoor_46_ok ?_
        refine ⟨rfl, Nat.le_refl _, Nat.le_refl _, ?_⟩
        exact ⟨rfl, same.rf, h54, h61, h60⟩
      · have c27 : ¬ cl < mi + sstr st le gr := c27
        refine ⟨by decide, _, _, h54, rfl, ?_⟩
        refine ⟨_, _, hS.2.2.2.2, vp_in_nI (by omega) (by decide), ?_⟩
        refine ⟨by decide, _, _, h54, rfl, ?_⟩
        refine ⟨fun c43 => absurd hcut (show ¬ bcut st cl HO x v mi le gr s = true from by rw [bcut, decide_eq_false c27, decide_eq_false (show ¬ v + HO x < s.1 from by have q := (lgc_ge _ _).mp c43; rw [h_tn (n := x) (by omega)] at q; exact Int64.not_lt.mpr q)]; decide), fun c43 => ?_⟩
        
        refine step.1 _ _ _ _ _ _ _ sgX7_tryDoor_46_ok ?_
        refine ⟨rfl, Nat.le_refl _, Nat.le_refl _, ?_⟩
        exact ⟨rfl, same.rf, h54, h61, h60⟩
    have eR : btry st cl (fun x => D (x * 10 + 0)) HO VL LN CO sz (f + 1) x v mi le gr s = (btry st cl (fun x => D (x * 10 + 0)) HO VL LN CO sz f (x + 1) v mi le gr (bch (bdown (fun i s => btry st cl (fun x => D (x * 10 + 0)) HO VL LN CO sz f (x + 1) (v + VL i) (mi + LN i) (blow (D (x * 10 + 0)) le) (bhig (D (x * 10 + 0)) gr) (bch s x (CO i))) (x * 18) (sz x) s) x (-1))) := by rw [btry, if_neg hcut]
    rw [eR]
    refine qSpec_run 7 "tryDoor" false hg mX7_tryDoor_ok rfl rfl (Nat.le_of_ble_eq_true rfl) (by decide) ?_
    intro run step
    have loop : ∀ (k : Nat) (s1 : bS) (hX : qH), k ≤ 18 → btry st cl (fun x => D (x * 10 + 0)) HO VL LN CO sz f (x + 1) v mi le gr (bch (bdown (fun i s => btry st cl (fun x => D (x * 10 + 0)) HO VL LN CO sz f (x + 1) (v + VL i) (mi + LN i) (blow (D (x * 10 + 0)) le) (bhig (D (x * 10 + 0)) gr) (bch s x (CO i))) (x * 18) k s1) x (-1)) = (btry st cl (fun x => D (x * 10 + 0)) HO VL LN CO sz f (x + 1) v mi le gr (bch (bdown (fun i s => btry st cl (fun x => D (x * 10 + 0)) HO VL LN CO sz f (x + 1) (v + VL i) (mi + LN i) (blow (D (x * 10 + 0)) le) (bhig (D (x * 10 + 0)) gr) (bch s x (CO i))) (x * 18) (sz x) s) x (-1))) → same h hX [54, 60, 61] → hX.2 54 = some (E54 (nI dc) s1.1 s1.2.1) → hX.2 61 = some (aI 5 s1.2.2.1) → hX.2 60 = some (aI 5 s1.2.2.2) → run 185 [(11, .int (nI (x * 18 + k) - 1)), (10, .int (nI (sz x))), (9, .int (bhig (D (x * 10 + 0)) gr)), (8, .int (blow (D (x * 10 + 0)) le)), (7, .int (D (x * 10 + 0))), (0, .ref 54), (1, .int (nI x)), (2, .long v), (4, .int mi), (5, .int le), (6, .int gr)] [] hX 0 0 := by
      intro k
      induction k with
      | zero =>
        intro s1 hX hk hst hsX h54X h61X h60X
        have hst : btry st cl (fun x => D (x * 10 + 0)) HO VL LN CO sz f (x + 1) v mi le gr (bch s1 x (-1)) = (btry st cl (fun x => D (x * 10 + 0)) HO VL LN CO sz f (x + 1) v mi le gr (bch (bdown (fun i s => btry st cl (fun x => D (x * 10 + 0)) HO VL LN CO sz f (x + 1) (v + VL i) (mi + LN i) (blow (D (x * 10 + 0)) le) (bhig (D (x * 10 + 0)) gr) (bch s x (CO i))) (x * 18) (sz x) s) x (-1))) := hst
        have hRX := hR.sm hsX (by simp) (by simp) (by simp) (by simp)
        have hSX := hS.sm hsX rfl
        have hlt : (nI (x * 18 + 0) - 1 : Int32) < nI x * 18 := by
          rcases (show x = 0 ∨ x = 1 ∨ x = 2 ∨ x = 3 ∨ x = 4 by omega) with rfl | rfl | rfl | rfl | rfl <;> decide
        refine step.1 _ _ _ _ _ _ _ sgX7_tryDoor_185_ok ?_
        refine ⟨fun c191 => ?_, fun c191 => absurd (hlt) c191⟩
        refine step.1 _ _ _ _ _ _ _ sgX7_tryDoor_243_ok ?_
        refine ⟨by decide, _, _, h54X, rfl, ?_⟩
        refine ⟨_, _, h60X, vp_in_nI (by omega) (by decide), ?_⟩
        have hsA : same hX (hX.1, qup hX.2 60 (aI 5 (upd s1.2.2.2 (nI x).toNatClampNeg (-1)))) [60] := same.up (by simp)
        have eX := h_tn (n := x) (by omega)
        have h60A : (qup hX.2 60 (aI 5 (upd s1.2.2.2 (nI x).toNatClampNeg (-1)))) 60 = some (aI 5 (bch s1 x (-1)).2.2.2) := by rw [eX]; rfl
        have hX1 : (nI x + 1 : Int32) = nI (x + 1) := nI_1 x
        refine Or.inl ⟨rfl, _, f + 4, 0, 0, _, _, _, qi_7_66, ⟨rfl, rfl⟩, ⟨h54X, rfl⟩, (qnum_rec (by omega) (by omega) (by omega) rfl), rfl, (by rw [hX1]; exact ih (x + 1) (by omega) v mi le gr (h := (hX.1, qup hX.2 60 (aI 5 (upd s1.2.2.2 (nI x).toNatClampNeg (-1))))) (hRX.sm hsA (by simp) (by simp) (by simp) (by simp)) (hSX.sm hsA rfl) (s := bch s1 x (-1)) h54X h61X h60A), fun y261 h261 hy261 => ?_⟩
        obtain ⟨rfl, hs9, h549, h619, h609⟩ := hy261
        rw [hst] at h549 h619 h609
        refine ⟨rfl, Nat.le_refl _, Nat.le_refl _, ?_⟩
        exact ⟨rfl, (hsX.t2 hsA (by decide)).t2 hs9 (by decide), h549, h619, h609⟩
      | succ k ih2 =>
        intro s1 hX hk hst hsX h54X h61X h60X
        have hRX := hR.sm hsX (by simp) (by simp) (by simp) (by simp)
        have hSX := hS.sm hsX rfl
        have eI : (nI (x * 18 + (k + 1)) - 1 : Int32) = nI (x * 18 + k) := pk_sub (a := x * 18 + (k + 1)) (b := 1) (by omega)
        have hnlt : ¬ (nI (x * 18 + (k + 1)) - 1 : Int32) < nI x * 18 := by
          rw [eI, show (nI x * 18 : Int32) = nI (x * 18) from pk_mul x 18, nI_ltI (by omega) (by omega)]; omega
        refine step.1 _ _ _ _ _ _ _ sgX7_tryDoor_185_ok ?_
        refine ⟨fun c191 => absurd c191 hnlt, fun c191 => ?_⟩
        refine ⟨by decide, _, _, h54X, rfl, ?_⟩
        refine ⟨by decide, _, _, h54X, rfl, ?_⟩
        refine ⟨_, _, hSX.2.2.1, by rw [eI]; exact vp_in_nI (by omega) (by decide), ?_⟩
        refine ⟨_, _, h60X, vp_in_nI (by omega) (by decide), ?_⟩
        have hX1 : (nI x + 1 : Int32) = nI (x + 1) := nI_1 x
        have eX := h_tn (n := x) (by omega)
        have eC : (nI (x * 18 + (k + 1)) - 1 : Int32).toNatClampNeg = x * 18 + k := by rw [eI]; exact h_tn (by omega)
        have hsA : same hX (hX.1, qup hX.2 60 (aI 5 (upd s1.2.2.2 (nI x).toNatClampNeg (CO (nI (x * 18 + (k + 1)) - 1 : Int32).toNatClampNeg)))) [60] := same.up (by simp)
        have h60A : (qup hX.2 60 (aI 5 (upd s1.2.2.2 (nI x).toNatClampNeg (CO (nI (x * 18 + (k + 1)) - 1 : Int32).toNatClampNeg)))) 60 = some (aI 5 (bch s1 x (CO (x * 18 + k))).2.2.2) := by rw [eX, eC]; rfl
        refine ⟨by decide, _, _, h54X, rfl, ?_⟩
        refine ⟨_, _, hSX.1, by rw [eI]; exact vp_in_nI (by omega) (by decide), ?_⟩
        refine ⟨by decide, _, _, h54X, rfl, ?_⟩
        refine ⟨_, _, hSX.2.1, by rw [eI]; exact vp_in_nI (by omega) (by decide), ?_⟩
        refine Or.inl ⟨rfl, _, f + 4, 0, 0, _, _, _, qi_7_66, ⟨rfl, rfl⟩, ⟨h54X, rfl⟩, (qnum_rec (by omega) (by omega) (by omega) rfl), rfl, (by rw [hX1, show LN (nI (x * 18 + (k + 1)) - 1 : Int32).toNatClampNeg = LN (x * 18 + k) from congrArg LN eC, show VL (nI (x * 18 + (k + 1)) - 1 : Int32).toNatClampNeg = VL (x * 18 + k) from congrArg VL eC]; exact ih (x + 1) (by omega) (v + VL (x * 18 + k)) (mi + LN (x * 18 + k)) _ _ (h := (hX.1, qup hX.2 60 (aI 5 (upd s1.2.2.2 (nI x).toNatClampNeg (CO (nI (x * 18 + (k + 1)) - 1 : Int32).toNatClampNeg))))) (hRX.sm hsA (by simp) (by simp) (by simp) (by simp)) (hSX.sm hsA rfl) (s := bch s1 x (CO (x * 18 + k))) h54X h61X h60A), fun y234 h234 hy234 => ?_⟩
        obtain ⟨rfl, hs9, h549, h619, h609⟩ := hy234
        have e2 : (nI (x * 18 + (k + 1)) - 1 + (-1) : Int32) = nI (x * 18 + k) - 1 := by rw [eI]; exact (Int32.sub_eq_add_neg _ _).symm
        have kk2 := ih2 _ h234 (by omega) hst ((hsX.t2 hsA (by decide)).t2 hs9 (by decide)) h549 h619 h609
        rw [← e2] at kk2
        exact kk2
    have c172 : ∀ q : Int32, q = nI (sz x) → run 172 [(9, .int (bhig (D (x * 10 + 0)) gr)), (8, .int (blow (D (x * 10 + 0)) le)), (7, .int (D (x * 10 + 0))), (0, .ref 54), (1, .int (nI x)), (2, .long v), (4, .int mi), (5, .int le), (6, .int gr)] [.int q] h 0 0 := by
      intro q hq
      subst hq
      refine step.1 _ _ _ _ _ _ _ sgX7_tryDoor_172_ok ?_
      have e1 : (nI x * 18 + nI (sz x) - 1 : Int32) = nI (x * 18 + sz x) - 1 := by rw [← h_ix x (sz x) 18]; rfl
      have kk2 := loop (sz x) s h (hsz x (by omega)).2 rfl same.rf h54 h61 h60
      rw [← e1] at kk2
      exact kk2
    have c148 : ∀ q : Int32, q = bhig (D (x * 10 + 0)) gr → run 148 [(8, .int (blow (D (x * 10 + 0)) le)), (7, .int (D (x * 10 + 0))), (0, .ref 54), (1, .int (nI x)), (2, .long v), (4, .int mi), (5, .int le), (6, .int gr)] [.int q] h 0 0 := by
      intro q hq
      subst hq
      refine step.1 _ _ _ _ _ _ _ sgX7_tryDoor_148_ok ?_
      refine ⟨by decide, _, _, h54, rfl, ?_⟩
      refine ⟨_, _, hS.2.2.2.1, vp_in_nI (by omega) (by decide), ?_⟩
      refine ⟨fun c158 => ?_, fun c158 => ?_⟩
      · have c158 : (nI 18 : Int32) ≤ SZ (nI x).toNatClampNeg := c158
        rw [h_tn (n := x) (by omega), (hsz x (by omega)).1] at c158
        have h18 := (hsz x (by omega)).2
        have q18 := (nI_leI (a := 18) (b := sz x) (by decide) (by omega)).mp c158
        refine step.1 _ _ _ _ _ _ _ sgX7_tryDoor_170_ok ?_
        exact c172 _ (by rw [show sz x = 18 by omega]; rfl)
      · have e18 : SZ (nI x).toNatClampNeg = nI (sz x) := by rw [h_tn (n := x) (by omega)]; exact (hsz x (by omega)).1
        refine ⟨by decide, _, _, h54, rfl, ?_⟩
        refine ⟨_, _, hS.2.2.2.1, vp_in_nI (by omega) (by decide), ?_⟩
        exact c172 _ e18
    have c126 : ∀ q : Int32, q = blow (D (x * 10 + 0)) le → run 126 [(7, .int (D (x * 10 + 0))), (0, .ref 54), (1, .int (nI x)), (2, .long v), (4, .int mi), (5, .int le), (6, .int gr)] [.int q] h 0 0 := by
      intro q hq
      subst hq
      refine step.1 _ _ _ _ _ _ _ sgX7_tryDoor_126_ok ?_
      refine ⟨fun c131 => ?_, fun c131 => ?_⟩
      · have c131 : gr = -1 := c131
        have eG : bhig (D (x * 10 + 0)) gr = (D (x * 10 + 0)) := by rw [bhig, if_pos c131]
        refine step.1 _ _ _ _ _ _ _ sgX7_tryDoor_141_ok ?_
        exact c148 _ eG.symm
      · have c131 : ¬ gr = -1 := c131
        refine ⟨fun c138 => ?_, fun c138 => ?_⟩
        · have c138 : (D (x * 10 + 0)) ≤ gr := c138
          have eG : bhig (D (x * 10 + 0)) gr = gr := by rw [bhig, if_neg c131, if_pos c138]
          refine step.1 _ _ _ _ _ _ _ sgX7_tryDoor_146_ok ?_
          exact c148 _ eG.symm
        · have c138 : ¬ (D (x * 10 + 0)) ≤ gr := c138
          have eG : bhig (D (x * 10 + 0)) gr = (D (x * 10 + 0)) := by rw [bhig, if_neg c131, if_neg c138]
          refine step.1 _ _ _ _ _ _ _ sgX7_tryDoor_141_ok ?_
          exact c148 _ eG.symm
    refine step.1 _ _ _ _ _ _ _ sgX7_tryDoor_0_ok ?_
    refine Or.inl ⟨rfl, _, 1, 0, 0, _, Or.inr qi_7_42, ⟨rfl, rfl⟩, (qnum_rec (by omega) (by omega) (by omega) rfl), rfl, sp_within hg _ _ _, fun y3 h3 hy3 => ?_⟩
    obtain ⟨rfl, hh⟩ := hy3
    rw [hh]
    clear hh
    refine ⟨fun c6 => absurd ((congrArg qb (within_t (lo := 0) (x := x) (hi := 5) (by omega) (by omega) (by omega))).symm.trans c6) (by decide), fun c6 => ?_⟩
    refine Or.inl ⟨rfl, _, 2, 0, 0, _, _, _, qi_7_90, ⟨rfl, rfl⟩, ⟨h54, rfl⟩, (qnum_rec (by omega) (by omega) (by omega) rfl), rfl, S_street hg h54 hR _ _, fun y16 h16 hy16 => ?_⟩
    obtain ⟨rfl, hh⟩ := hy16
    rw [hh]
    clear hh
    refine ⟨by decide, _, _, h54, rfl, ?_⟩
    refine ⟨by decide, _, _, hR.1, rfl, ?_⟩
    refine ⟨fun c27 => absurd (show bcut st cl HO x v mi le gr s = true from by rw [bcut, decide_eq_true (show cl < mi + sstr st le gr from c27)]; rfl) hcut, fun c27 => ?_⟩
    have c27 : ¬ cl < mi + sstr st le gr := c27
    refine ⟨by decide, _, _, h54, rfl, ?_⟩
    refine ⟨_, _, hS.2.2.2.2, vp_in_nI (by omega) (by decide), ?_⟩
    refine ⟨by decide, _, _, h54, rfl, ?_⟩
    refine ⟨fun c43 => ?_, fun c43 => absurd (show bcut st cl HO x v mi le gr s = true from by rw [bcut, decide_eq_true (show v + HO x < s.1 from by have q := Int64.not_le.mp (fun q => c43 ((lgc_ge _ _).mpr q)); rw [h_tn (n := x) (by omega)] at q; exact q)]; exact Bool.or_true _) hcut⟩
    
    refine step.1 _ _ _ _ _ _ _ sgX7_tryDoor_47_ok ?_
    refine ⟨by decide, _, _, h54, rfl, ?_⟩
    refine ⟨fun c52 => absurd ((nI_leI (a := dc) (b := x) (by omega) (by omega)).mp c52) (by omega), fun c52 => ?_⟩
    refine ⟨fun c57 => ?_, fun c57 => absurd ((nI_ltI (a := x) (b := 5) (by omega) (by decide)).mpr (by omega)) c57⟩
    have hcut2 := hcut
    refine step.1 _ _ _ _ _ _ _ sgX7_tryDoor_95_ok ?_
    refine ⟨by decide, _, _, h54, rfl, ?_⟩
    refine Or.inl ⟨rfl, _, 1, 0, 0, _, _, _, qi_7_103, ⟨rfl, rfl⟩, ⟨hR.1, rfl⟩, (qnum_rec (by omega) (by omega) (by omega) rfl), rfl, R_of hg hR x 0 (by omega) (by decide), fun y101 h101 hy101 => ?_⟩
    obtain ⟨rfl, hh⟩ := hy101
    rw [hh]
    clear hh
    refine ⟨fun c109 => ?_, fun c109 => ?_⟩
    · have c109 : le = -1 := c109
      have eL : blow (D (x * 10 + 0)) le = (D (x * 10 + 0)) := by rw [blow, if_pos c109]
      refine step.1 _ _ _ _ _ _ _ sgX7_tryDoor_119_ok ?_
      exact c126 _ eL.symm
    · have c109 : ¬ le = -1 := c109
      refine ⟨fun c116 => ?_, fun c116 => ?_⟩
      · have c116 : le ≤ (D (x * 10 + 0)) := c116
        have eL : blow (D (x * 10 + 0)) le = le := by rw [blow, if_neg c109, if_pos c116]
        refine step.1 _ _ _ _ _ _ _ sgX7_tryDoor_124_ok ?_
        exact c126 _ eL.symm
      · have c116 : ¬ le ≤ (D (x * 10 + 0)) := c116
        have eL : blow (D (x * 10 + 0)) le = (D (x * 10 + 0)) := by rw [blow, if_neg c109, if_neg c116]
        refine step.1 _ _ _ _ _ _ _ sgX7_tryDoor_119_ok ?_
        exact c126 _ eL.symm
/-- the lists of all doors, from the last to the first -/
abbrev kS : Type := (Nat → Int64) × (Nat → Int32) × (Nat → Int32) × (Nat → Int32) × (Nat → Int64)
def klw (val : Nat → Nat → Int64) (len : Nat → Nat → Int32) (x : Nat) (s : kS) : lS := lwrun (val x) (len x) x 18 0 (0, 0, s.1, s.2.1, s.2.2.1)
def kput (x : Nat) (W : lS) (s : kS) : kS := (W.2.2.1, W.2.2.2.1, W.2.2.2.2, upd s.2.2.2.1 x (nI W.2.1), vp_updL s.2.2.2.2 x (s.2.2.2.2 (x + 1) + W.1))
def kstep (val : Nat → Nat → Int64) (len : Nat → Nat → Int32) (x : Nat) (s : kS) : kS := kput x (klw val len x s) s
def krun (val : Nat → Nat → Int64) (len : Nat → Nat → Int32) : Nat → kS → kS
  | 0, s => s
  | m + 1, s => krun val len m (kstep val len m s)
theorem lwrun_sz (val : Nat → Int64) (len : Nat → Int32) (x : Nat) : ∀ (m w : Nat) (s : lS), s.2.1 ≤ w → (lwrun val len x m w s).2.1 ≤ w + m
  | 0, w, s, h => h
  | m + 1, w, s, h => by
    have := lwrun_sz val len x m (w + 1) (lwst (val w) (len w) x w s) (by
      unfold lwst
      split
      · omega
      · show lz (len w) x s + 1 ≤ w + 1
        unfold lz
        split
        · split <;> omega
        · omega)
    show (lwrun val len x m (w + 1) _).2.1 ≤ _
    omega
theorem klw_sz (val : Nat → Nat → Int64) (len : Nat → Nat → Int32) (x : Nat) (s : kS) : (klw val len x s).2.1 ≤ 18 := by
  have := lwrun_sz (val x) (len x) x 18 0 (0, 0, s.1, s.2.1, s.2.2.1) (Nat.le_refl _)
  unfold klw
  omega
def kfit (dc m : Nat) (s : kS) : Prop := ∀ y : Nat, m ≤ y → y < dc → ∃ z : Nat, z ≤ 18 ∧ s.2.2.2.1 y = nI z
theorem kfit_step {val : Nat → Nat → Int64} {len : Nat → Nat → Int32} {dc m : Nat} {s : kS} (h : kfit dc (m + 1) s) : kfit dc m (kstep val len m s) := by
  intro y h1 h2
  by_cases e : y = m
  · subst e
    exact ⟨_, klw_sz val len y s, if_pos rfl⟩
  · obtain ⟨z, h3, h4⟩ := h y (by omega) h2
    exact ⟨z, h3, (if_neg e).trans h4⟩
theorem krun_fit {val : Nat → Nat → Int64} {len : Nat → Nat → Int32} {dc : Nat} : ∀ (m : Nat) (s : kS), kfit dc m s → kfit dc 0 (krun val len m s)
  | 0, s, h => h
  | m + 1, s, h => krun_fit m _ (kfit_step h)
theorem kfit_sz {dc : Nat} {s : kS} (h : kfit dc 0 s) : ∀ x : Nat, x < dc → s.2.2.2.1 x = nI ((s.2.2.2.1 x).toNatClampNeg) ∧ (s.2.2.2.1 x).toNatClampNeg ≤ 18 := by
  intro x hx
  obtain ⟨z, h1, h2⟩ := h x (Nat.zero_le _) hx
  rw [h2, h_tn (by omega)]
  exact ⟨rfl, h1⟩
/-- the hopes behind the last door are nothing -/
def hzer (nn : Nat) (HO : Nat → Int64) : Nat → Int64 := fun y => if nn ≤ y ∧ y ≤ 5 then 0 else HO y
theorem hzer_6 (HO : Nat → Int64) : hzer 6 HO = HO := by
  funext y
  exact if_neg (fun q => by omega)
theorem hzer_e {nn : Nat} {HO : Nat → Int64} (h : nn ≤ 5) : hzer nn HO nn = 0 := if_pos ⟨Nat.le_refl _, h⟩
theorem hzer_s {nn : Nat} {HO : Nat → Int64} (h : nn ≤ 5) : vp_updL (hzer (nn + 1) HO) nn 0 = hzer nn HO := by
  funext y
  show (if y = nn then 0 else if nn + 1 ≤ y ∧ y ≤ 5 then 0 else HO y) = if nn ≤ y ∧ y ≤ 5 then 0 else HO y
  by_cases e : y = nn
  · rw [if_pos e, if_pos ⟨by omega, by omega⟩]
  · rw [if_neg e]
    by_cases c : nn + 1 ≤ y ∧ y ≤ 5
    · rw [if_pos c, if_pos ⟨by omega, c.2⟩]
    · rw [if_neg c, if_neg (fun q => c ⟨by omega, q.2⟩)]
def KV (D K V : Nat → Int32) (N : Nat) (m ve w : Int32) : Nat → Nat → Int64 := fun x => sval D K V N m ve w x
def KL (D : Nat → Int32) (ve : Int32) : Nat → Nat → Int32 := fun x => slen D ve x
def kend (D K V : Nat → Int32) (N : Nat) (m ve w : Int32) (nn : Nat) (s : kS) : kS := krun (KV D K V N m ve w) (KL D ve) nn (s.1, s.2.1, s.2.2.1, s.2.2.2.1, hzer nn s.2.2.2.2)
def bend (D : Nat → Int32) (st cl : Int32) (nn : Nat) (s : kS) (FO CH : Nat → Int32) : bS := btry st cl (fun x => D (x * 10 + 0)) s.2.2.2.2 s.1 s.2.1 s.2.2.1 (fun x => (s.2.2.2.1 x).toNatClampNeg) nn 0 0 0 (-1) (-1) (-1, 0, FO, CH)
set_option maxHeartbeats 4000000 in
theorem S_seek {g : qG} (hg : qOK g) {h : qH} {D P U Q K V : Nat → Int32} {u st ve cl m kk : Int32} {N nn : Nat} (hW : isW h D P U Q K V (nI nn) kk u st ve cl m N) (hn : nn ≤ 5) {dc : Int32} {fv : Int64} {fl : Int32} (hE : h.2 54 = some (E54 dc fv fl)) {VL HO : Nat → Int64} {LN CO SZ CH FO : Nat → Int32} (hS : isS h VL LN CO SZ HO) (h60 : h.2 60 = some (aI 5 CH)) (h61 : h.2 61 = some (aI 5 FO)) (w : Int32) : qSpec g 10 0 0 mX7_seek [.ref 54, .int w] h (fun r h' => r = none ∧ same h h' [25, 48, 49, 54, 55, 56, 57, 58, 59, 60, 61] ∧ isW h' D P U Q K V (nI nn) kk u st ve cl m N ∧ h'.2 54 = some (E54 (nI nn) (bend D st cl nn (kend D K V N m ve w nn (VL, LN, CO, SZ, HO)) FO CH).1 (bend D st cl nn (kend D K V N m ve w nn (VL, LN, CO, SZ, HO)) FO CH).2.1) ∧ h'.2 61 = some (aI 5 (bend D st cl nn (kend D K V N m ve w nn (VL, LN, CO, SZ, HO)) FO CH).2.2.1) ∧ h'.2 60 = some (aI 5 (bend D st cl nn (kend D K V N m ve w nn (VL, LN, CO, SZ, HO)) FO CH).2.2.2) ∧ isS h' (kend D K V N m ve w nn (VL, LN, CO, SZ, HO)).1 (kend D K V N m ve w nn (VL, LN, CO, SZ, HO)).2.1 (kend D K V N m ve w nn (VL, LN, CO, SZ, HO)).2.2.1 (kend D K V N m ve w nn (VL, LN, CO, SZ, HO)).2.2.2.1 (kend D K V N m ve w nn (VL, LN, CO, SZ, HO)).2.2.2.2) := by
  refine qSpec_run 7 "seek" false hg mX7_seek_ok rfl rfl (Nat.le_of_ble_eq_true rfl) (by decide) ?_
  intro run step
  have loop : ∀ (mm : Nat) (s : kS) (hX : qH), mm ≤ nn → kfit nn mm s → krun (KV D K V N m ve w) (KL D ve) mm s = (kend D K V N m ve w nn (VL, LN, CO, SZ, HO)) → same h hX [25, 48, 49, 54, 55, 56, 57, 58, 59] → isW hX D P U Q K V (nI nn) kk u st ve cl m N → hX.2 54 = some (E54 (nI nn) fv fl) → isS hX s.1 s.2.1 s.2.2.1 s.2.2.2.1 s.2.2.2.2 → run 31 [(4, .int (nI mm - 1)), (2, .long (s.2.2.2.2 mm)), (0, .ref 54), (1, .int w)] [] hX 0 0 := by
    intro mm
    induction mm with
    | zero =>
      intro s hX hm hfit hst hsX hWX hEX hSX
      have hst : s = (kend D K V N m ve w nn (VL, LN, CO, SZ, HO)) := hst
      refine step.1 _ _ _ _ _ _ _ sgX7_seek_31_ok ?_
      refine ⟨fun c33 => ?_, fun c33 => absurd (by decide : (nI 0 - 1 : Int32) < 0) c33⟩
      refine step.1 _ _ _ _ _ _ _ sgX7_seek_73_ok ?_
      refine ⟨_, hEX, Nat.le_of_ble_eq_true rfl, rfl, ?_⟩
      refine ⟨_, rfl, Nat.le_of_ble_eq_true rfl, rfl, ?_⟩
      have hsB : same hX (hX.1, qup (qup hX.2 54 (E54 (nI nn) (-1) fl)) 54 (E54 (nI nn) (-1) 0)) [54] := ⟨rfl, fun j hj => by
        have hj : j ≠ 54 := fun q => hj (by rw [q]; simp)
        simp only [qup_n hj]⟩
      have hWB := hWX.sm hsB rfl
      have hSB := hSX.sm hsB rfl
      have h60B := (hsB.2 60 (by simp)).trans ((hsX.2 60 (by simp)).trans h60)
      have h61B := (hsB.2 61 (by simp)).trans ((hsX.2 61 (by simp)).trans h61)
      have ht := S_tryDoor hg hn (kfit_sz hfit) nn 0 (Nat.zero_add _) 0 0 (-1) (-1) hWB.1 hSB (s := (-1, 0, FO, CH)) (by exact rfl) h61B h60B
      refine Or.inl ⟨rfl, _, nn + 4, 0, 0, _, _, _, qi_7_66, ⟨rfl, rfl⟩, ⟨rfl, rfl⟩, (qnum_rec (by omega) (by omega) (by omega) rfl), rfl, ht, fun y91 h91 hy91 => ?_⟩
      obtain ⟨rfl, hs9, h549, h619, h609⟩ := hy91
      refine ⟨rfl, Nat.le_refl _, Nat.le_refl _, ?_⟩
      rw [← hst]
      exact ⟨rfl, (hsX.tr (l2 := [25, 48, 49, 54, 55, 56, 57, 58, 59, 60, 61]) (l' := [54]) hsB (by simp) (by simp)).t2 hs9 (by decide), hWB.sm hs9 rfl, h549, h619, h609, hSB.sm hs9 rfl⟩
    | succ mm ih =>
      intro s hX hm hfit hst hsX hWX hEX hSX
      have eI : (nI (mm + 1) - 1 : Int32) = nI mm := pk_sub (a := mm + 1) (b := 1) (by omega)
      refine step.1 _ _ _ _ _ _ _ sgX7_seek_31_ok ?_
      refine ⟨fun c33 => absurd c33 (by rw [eI]; exact h_nn (by omega)), fun c33 => ?_⟩
      refine ⟨by decide, _, _, hEX, rfl, ?_⟩
      refine ⟨fun c43 => absurd ((nI_leI (a := nn) (b := mm) (by omega) (by omega)).mp (by rw [← eI]; exact c43)) (by omega), fun c43 => ?_⟩
      refine Or.inl ⟨rfl, _, 5, 0, 0, _, _, _, qi_7_53, ⟨rfl, rfl⟩, ⟨hEX, rfl⟩, rfl, rfl, (by rw [eI]; exact S_listWays hg hWX hEX hSX mm (by omega) w), fun y50 h50 hy50 => ?_⟩
      rw [show lwrun (sval D K V N m ve w mm) (slen D ve mm) mm 18 0 (0, 0, s.1, s.2.1, s.2.2.1) = klw (KV D K V N m ve w) (KL D ve) mm s from rfl] at hy50
      have hst2 : krun (KV D K V N m ve w) (KL D ve) mm (kput mm (klw (KV D K V N m ve w) (KL D ve) mm s) s) = (kend D K V N m ve w nn (VL, LN, CO, SZ, HO)) := hst
      have hfit2 : kfit nn mm (kput mm (klw (KV D K V N m ve w) (KL D ve) mm s) s) := kfit_step hfit
      generalize klw (KV D K V N m ve w) (KL D ve) mm s = Wv at hy50 hst2 hfit2
      obtain ⟨rfl, hs9, hW9, hE9, hS9⟩ := hy50
      refine step.1 _ _ _ _ _ _ _ sgX7_seek_57_ok ?_
      refine ⟨by decide, _, _, hE9, rfl, ?_⟩
      refine ⟨_, _, hS9.2.2.2.2, by rw [eI]; exact vp_in_nI (by omega) (by decide), ?_⟩
      have e2 : (nI (mm + 1) - 1 + (-1) : Int32) = nI mm - 1 := by rw [eI]; exact (Int32.sub_eq_add_neg _ _).symm
      have e3 : (nI (mm + 1) - 1 : Int32).toNatClampNeg = mm := by rw [eI]; exact h_tn (by omega)
      have hsC : same h50 (h50.1, qup h50.2 59 (aL 6 (vp_updL s.2.2.2.2 mm (s.2.2.2.2 (mm + 1) + Wv.1)))) [59] := same.up (by simp)
      have hS10 : isS (h50.1, qup h50.2 59 (aL 6 (vp_updL s.2.2.2.2 mm (s.2.2.2.2 (mm + 1) + Wv.1)))) Wv.2.2.1 Wv.2.2.2.1 Wv.2.2.2.2 (upd s.2.2.2.1 mm (nI Wv.2.1)) (vp_updL s.2.2.2.2 mm (s.2.2.2.2 (mm + 1) + Wv.1)) := ⟨hS9.1, hS9.2.1, hS9.2.2.1, hS9.2.2.2.1, qup_s (f := h50.2) (k := 59)⟩
      have kk2 := ih (kput mm Wv s) _ (by omega) hfit2 hst2 ((hsX.t2 hs9 (by decide)).t2 hsC (by decide)) (hW9.sm hsC rfl) hE9 hS10
      rw [show (kput mm Wv s).2.2.2.2 mm = s.2.2.2.2 (mm + 1) + Wv.1 from if_pos rfl, ← e2] at kk2
      show run 31 [_, _, _, _] [] (h50.1, qup h50.2 59 (aL 6 (vp_updL s.2.2.2.2 (nI (mm + 1) - 1 : Int32).toNatClampNeg (s.2.2.2.2 (mm + 1) + Wv.1)))) 0 0
      rw [e3]
      exact kk2
  have loopA : ∀ (d : Nat) (hX : qH), nn + d ≤ 6 → same h hX [54, 59] → isW hX D P U Q K V (nI nn) kk u st ve cl m N → hX.2 54 = some (E54 (nI nn) fv fl) → isS hX VL LN CO SZ (hzer (nn + d) HO) → run 31 [(4, .int (nI (nn + d) - 1)), (2, .long 0), (0, .ref 54), (1, .int w)] [] hX 0 0 := by
    intro d
    induction d with
    | zero =>
      intro hX hd hsX hWX hEX hSX
      have kk2 := loop nn (VL, LN, CO, SZ, hzer nn HO) hX (Nat.le_refl _) (fun y h1 h2 => absurd h1 (by omega)) rfl (hsX.sub (by simp)) hWX hEX hSX
      rw [show (VL, LN, CO, SZ, hzer nn HO).2.2.2.2 nn = 0 from hzer_e hn] at kk2
      exact kk2
    | succ d ih =>
      intro hX hd hsX hWX hEX hSX
      have eI : (nI (nn + (d + 1)) - 1 : Int32) = nI (nn + d) := pk_sub (a := nn + (d + 1)) (b := 1) (by omega)
      refine step.1 _ _ _ _ _ _ _ sgX7_seek_31_ok ?_
      refine ⟨fun c33 => absurd c33 (by rw [eI]; exact h_nn (by omega)), fun c33 => ?_⟩
      refine ⟨by decide, _, _, hEX, rfl, ?_⟩
      refine ⟨fun c43 => ?_, fun c43 => absurd (show nI nn ≤ (nI (nn + (d + 1)) - 1 : Int32) from by rw [eI]; exact (nI_leI (a := nn) (b := nn + d) (by omega) (by omega)).mpr (by omega)) c43⟩
      refine step.1 _ _ _ _ _ _ _ sgX7_seek_56_ok ?_
      refine step.1 _ _ _ _ _ _ _ sgX7_seek_57_ok ?_
      refine ⟨by decide, _, _, hEX, rfl, ?_⟩
      refine ⟨_, _, hSX.2.2.2.2, by rw [eI]; exact vp_in_nI (by omega) (by decide), ?_⟩
      have e2 : (nI (nn + (d + 1)) - 1 + (-1) : Int32) = nI (nn + d) - 1 := by rw [eI]; exact (Int32.sub_eq_add_neg _ _).symm
      have e3 : (nI (nn + (d + 1)) - 1 : Int32).toNatClampNeg = nn + d := by rw [eI]; exact h_tn (by omega)
      have e0 : (0 + 0 : Int64) = 0 := by decide
      show run 31 [_, (2, .long (0 + 0)), _, _] [] (hX.1, qup hX.2 59 (aL 6 (vp_updL (hzer (nn + d + 1) HO) (nI (nn + (d + 1)) - 1 : Int32).toNatClampNeg (0 + 0)))) 0 0
      rw [e3, e0, hzer_s (by omega)]
      have hsC : same hX (hX.1, qup hX.2 59 (aL 6 (hzer (nn + d) HO))) [59] := same.up (by simp)
      have kk2 := ih _ (by omega) (hsX.t2 hsC (by decide)) (hWX.sm hsC rfl) hEX ⟨hSX.1, hSX.2.1, hSX.2.2.1, hSX.2.2.2.1, qup_s (f := hX.2) (k := 59)⟩
      rw [← e2] at kk2
      exact kk2
  have c23 : ∀ q : Int32, q = nI nn → run 23 [(0, .ref 54), (1, .int w)] [.int q, .ref 54] h 0 0 := by
    intro q hq
    subst hq
    refine step.1 _ _ _ _ _ _ _ sgX7_seek_23_ok ?_
    refine ⟨_, hE, Nat.le_of_ble_eq_true rfl, rfl, ?_⟩
    have hsA : same h (h.1, qup h.2 54 (E54 (nI nn) fv fl)) [54] := same.up (by simp)
    have e6 : nn + (6 - nn) = 6 := by omega
    have kk2 := loopA (6 - nn) (h.1, qup h.2 54 (E54 (nI nn) fv fl)) (by omega) (hsA.sub (by simp)) (hW.sm hsA rfl) rfl (by rw [e6, hzer_6]; exact hS.sm hsA rfl)
    rw [e6, show (nI 6 - 1 : Int32) = 5 by decide] at kk2
    exact kk2
  refine step.1 _ _ _ _ _ _ _ sgX7_seek_0_ok ?_
  refine ⟨by decide, _, _, hE, rfl, ?_⟩
  refine ⟨by decide, _, _, hW.1.1, rfl, ?_⟩
  refine ⟨fun c9 => ?_, fun c9 => ?_⟩
  · refine step.1 _ _ _ _ _ _ _ sgX7_seek_22_ok ?_
    exact c23 5 (by have q := (nI_leI (a := 5) (b := nn) (by decide) (by omega)).mp c9; rw [show nn = 5 by omega]; rfl)
  · refine ⟨by decide, _, _, hE, rfl, ?_⟩
    refine ⟨by decide, _, _, hW.1.1, rfl, ?_⟩
    exact c23 (nI nn) rfl
end Q07Q
