section Q08H
theorem cT.cell {h : qH} {F : Nat → Int32} {n q : Nat} {s : PS} (hT : cT h F n s q) : ∃ fs : List Value, h.2 1 = some (.inl (8, fs)) := by
  obtain ⟨p, ki, pl, hT, -⟩ := hT
  exact ⟨_, hT.1⟩
theorem cT.from {h : qH} {F : Nat → Int32} {n q : Nat} {s : PS} (hT : cT h F n s q) : ∃ fs : List Value, h.2 1 = some (.inl (8, fs)) ∧ fs[4]? = some (.int (nI q)) := by
  obtain ⟨p, ki, pl, hT, -⟩ := hT
  exact ⟨_, hT.1, rfl⟩
theorem pbad_num {F : Nat → Int32} {n : Nat} {lo hi : Int32} {s : PS} (h : pbad (pnum F n lo hi s).1 = false) : pbad s = false := by
  match s, h with
  | .inr a, _ => rfl
theorem pnum_ok {F : Nat → Int32} {n : Nat} {lo hi : Int32} {s : PS} (h : pbad (pnum F n lo hi s).1 = false) : ¬ (pnum F n lo hi s).2 < lo ∧ ¬ hi < (pnum F n lo hi s).2 := by
  match s, h with
  | .inr a, h =>
    unfold pnum at h ⊢
    by_cases c : (pnr F n a).1 = sk F n a
    · simp only [if_pos c] at h
      cases h
    · simp only [if_neg c] at h ⊢
      by_cases c2 : (pnr F n a).2 < lo ∨ hi < (pnr F n a).2
      · simp only [if_pos c2] at h
        cases h
      · simp only [if_neg c2]
        exact ⟨fun z => c2 (Or.inl z), fun z => c2 (Or.inr z)⟩
theorem pnum_nat {F : Nat → Int32} {n N : Nat} (hN : N ≤ 1000) {s : PS} (h : pbad (pnum F n 0 (nI N - 1) s).1 = false) : ∃ x : Nat, x < N ∧ (pnum F n 0 (nI N - 1) s).2 = nI x := by
  obtain ⟨h1, h2⟩ := pnum_ok h
  generalize (pnum F n 0 (nI N - 1) s).2 = v at h1 h2
  obtain ⟨x, hx, rfl⟩ := nI_of h1
  refine ⟨x, ?_, rfl⟩
  cases N with
  | zero => exact absurd (show (nI 0 - 1 : Int32) < nI x from by
      rw [Int32.lt_iff_toInt_lt, nI_toInt hx]
      have : (nI 0 - 1 : Int32).toInt = -1 := by decide
      omega) h2
  | succ N =>
    rw [nI_pred] at h2
    have := (nI_leI hx (by omega)).mp (Int32.not_lt.mp h2)
    omega
theorem pnum_lo {F : Nat → Int32} {n m : Nat} (hm : m < 2 ^ 31) {s : PS} (h : pbad (pnum F n 0 (nI m) s).1 = false) : ∃ x : Nat, x ≤ m ∧ (pnum F n 0 (nI m) s).2 = nI x := by
  obtain ⟨h1, h2⟩ := pnum_ok h
  generalize (pnum F n 0 (nI m) s).2 = v at h1 h2
  obtain ⟨x, hx, rfl⟩ := nI_of h1
  exact ⟨x, (nI_leI hx hm).mp (Int32.not_lt.mp h2), rfl⟩
theorem sw_eq {w : Int32} {k : Nat} (h1 : ¬ w.toInt < 0) (h2 : (w.toInt - 0).toNat = k) : w = nI k := by
  have hk : w.toInt = (k : Int) := by omega
  have hlt := Int32.toInt_lt w
  rw [← Int32.toInt_inj, nI_toInt (by omega), hk]
def fmost (k : Nat) : Nat := match k with
  | 0 => 99
  | 1 => 240
  | 2 => 99
  | 8 => 20
  | 9 => 30
  | _ => 16
def qFM (g : qG) : Prop := qGS g RX11 414 (.retAddr 1) ∧ qScr g .int 1 10 (fun i => nI (fmost i))
theorem M_mostOf {g : qG} (hg : qOK g) (hM : qFM g) {h : qH} (k : Nat) {v : Int32} (hk : k < 10) (hv : nI (fmost k) = v) : qSpec g 1 0 0 mX11_mostOf [.int (nI k)] h (fun r h' => r = some (.int v) ∧ h' = h) := by
  refine qSpec_run 11 "mostOf" false hg mX11_mostOf_ok rfl rfl (Nat.le_of_ble_eq_true rfl) (by decide) ?_
  intro run step
  refine step.1 _ _ _ _ _ _ _ sgX11_mostOf_0_ok ?_
  refine ⟨fun c => absurd c (h_nn (by omega)), fun c => ⟨_, hM.1, _, _, _, hM.2, fun c2 => absurd c2 (nI_ge (b := 10) (by omega) (by decide)), fun c2 => ⟨_, hM.1, _, _, hM.2, vp_in_nI hk (by decide), ?_⟩⟩⟩
  refine step.1 _ _ _ _ _ _ _ sgX11_mostOf_21_ok ?_
  exact ⟨.int, rfl, rfl, Nat.le_refl _, Nat.le_refl _, by rw [h_tn (n := k) (by omega)]; exact congrArg (fun z => some (Value.int z)) hv, rfl⟩
def E33 : qE := .inl (5, [.ref 1, .ref 34, .ref 38, .ref 40])
/-- a door's clause, behind its word at q -/
def pd0 (N q : Nat) (s : PS) : PS := if 10 ≤ N then pfail 3 q s else s
def pnumS (F : Nat → Int32) (n : Nat) (lo hi : Int32) (s : PS) : PS := (pnum F n lo hi s).1
def pdoorS (F : Nat → Int32) (n N q : Nat) (s : PS) : PS := pnumS F n 0 99 (pnumS F n 0 240 (pnumS F n 0 99 (pd0 N q s)))
def pdoorD (F : Nat → Int32) (n N q : Nat) (s : PS) (D : Nat → Int32) : Nat → Int32 := adoor D N (pnum F n 0 99 (pd0 N q s)).2 (pnum F n 0 240 (pnumS F n 0 99 (pd0 N q s))).2 (pnum F n 0 99 (pnumS F n 0 240 (pnumS F n 0 99 (pd0 N q s)))).2
/-- a fact of a door -/
def pfactS (F : Nat → Int32) (n N : Nat) (m : Int32) (s : PS) : PS := pnumS F n 0 m (pnumS F n 0 (nI N - 1) s)
def pfactD (F : Nat → Int32) (n N : Nat) (m : Int32) (k f : Nat) (s : PS) (D : Nat → Int32) : Nat → Int32 := upd D ((pnum F n 0 (nI N - 1) s).2.toNatClampNeg * k + f) (pnum F n 0 m (pnumS F n 0 (nI N - 1) s)).2
/-- lights -/
def plightS (F : Nat → Int32) (n N : Nat) (s : PS) : PS := pnumS F n 0 16 (pfactS F n N 16 s)
def plightD (F : Nat → Int32) (n N : Nat) (s : PS) (D : Nat → Int32) : Nat → Int32 := upd (pfactD F n N 16 10 6 s D) ((pnum F n 0 (nI N - 1) s).2.toNatClampNeg * 10 + 7) (pnum F n 0 16 (pfactS F n N 16 s)).2
/-- a singer -/
def ps0 (N q : Nat) (s : PS) : PS := if 8 ≤ N then pfail 3 q s else s
def psingS (F : Nat → Int32) (n N q : Nat) (s : PS) : PS := pnumS F n 0 3 (pnumS F n 0 99 (ps0 N q s))
def psingQ (F : Nat → Int32) (n N q : Nat) (s : PS) (Q : Nat → Int32) : Nat → Int32 := asing Q N (pnum F n 0 99 (ps0 N q s)).2 (pnum F n 0 3 (pnumS F n 0 99 (ps0 N q s))).2
theorem pbad_numS {F : Nat → Int32} {n : Nat} {lo hi : Int32} {s : PS} (h : pbad (pnumS F n lo hi s) = false) : pbad s = false := pbad_num h
theorem pbad_fail {k q : Nat} {s : PS} : pbad (pfail k q s) = true := by cases s <;> rfl
theorem RD_door {g : qG} (hg : qOK g) {h : qH} (hM : qFM g) {F : Nat → Int32} {n q : Nat} {s : PS} (hT : cT h F n s q) (hE : h.2 33 = some E33) {D P U Q : Nat → Int32} {N k u M : Nat} {st ve cl : Int32} (hR : isR h 34 35 36 37 D P U (nI N) (nI k) (nI u) st ve cl) (hC : isC h 38 39 Q (nI M)) (hN : N ≤ 10) (hm8 : M ≤ 8) : qSpec g 4 0 0 mX5_readDoor [.ref 33] h (fun r h' => r = none ∧ same h h' [1, 34, 35, 38, 39] ∧ (∃ q' : Nat, cT h' F n (pdoorS F n N q s) q') ∧ isR h' 34 35 36 37 (if pbad (pdoorS F n N q s) then D else pdoorD F n N q s D) P U (nI (if pbad (pdoorS F n N q s) then N else N + 1)) (nI k) (nI u) st ve cl ∧ isC h' 38 39 Q (nI M)) := by
  refine qSpec_run 5 "readDoor" false hg mX5_readDoor_ok rfl rfl (Nat.le_of_ble_eq_true rfl) (by decide) ?_
  intro run step
  have hs : same h h [1, 34, 35, 38, 39] := same.rf
  have c27 : ∀ (hX : qH) (s0 : PS) (q0 : Nat), s0 = pd0 N q s → cT hX F n s0 q0 → same h hX [1, 34, 35, 38, 39] → hX.2 33 = some E33 → isR hX 34 35 36 37 D P U (nI N) (nI k) (nI u) st ve cl → isC hX 38 39 Q (nI M) → run 27 [(0, .ref 33)] [] hX 0 0 := by
    intro hX s0 q0 hs0 hT hs hE hR hC
    subst hs0
    refine step.1 _ _ _ _ _ _ _ sgX5_readDoor_27_ok ?_
    refine ⟨by decide, _, _, hE, rfl, ?_⟩
    refine Or.inl ⟨rfl, _, 1, 0, 0, _, Or.inr qi_5_101, ⟨rfl, rfl⟩, rfl, rfl, M_mostOf hg hM 0 (v := 99) (by omega) rfl, fun y33 h33 hy33 => ?_⟩
    obtain ⟨rfl, hh⟩ := hy33
    rw [hh]
    clear hh
    refine Or.inl ⟨rfl, _, 3, 0, 0, _, _, _, qi_5_82, ⟨rfl, rfl⟩, ⟨hT.cell.choose_spec, rfl⟩, rfl, rfl, cT_number hg hT _ _, fun y36 h36 hy36 => ?_⟩
    obtain ⟨rfl, hsN, qN, hqN, hT⟩ := hy36
    have hs := hs.t2 hsN (by decide)
    have hE := (hsN.2 33 (by simp)).trans hE
    have hR := hR.sm hsN (by simp) (by simp) (by simp) (by simp)
    have hC := hC.sm hsN (by simp) (by simp)
    refine ⟨by decide, _, _, hE, rfl, ?_⟩
    refine Or.inl ⟨rfl, _, 1, 0, 0, _, Or.inr qi_5_101, ⟨rfl, rfl⟩, rfl, rfl, M_mostOf hg hM 1 (v := 240) (by omega) rfl, fun y46 h46 hy46 => ?_⟩
    obtain ⟨rfl, hh⟩ := hy46
    rw [hh]
    clear hh
    refine Or.inl ⟨rfl, _, 3, 0, 0, _, _, _, qi_5_82, ⟨rfl, rfl⟩, ⟨hT.cell.choose_spec, rfl⟩, rfl, rfl, cT_number hg hT _ _, fun y49 h49 hy49 => ?_⟩
    obtain ⟨rfl, hsN, qN, hqN, hT⟩ := hy49
    have hs := hs.t2 hsN (by decide)
    have hE := (hsN.2 33 (by simp)).trans hE
    have hR := hR.sm hsN (by simp) (by simp) (by simp) (by simp)
    have hC := hC.sm hsN (by simp) (by simp)
    refine ⟨by decide, _, _, hE, rfl, ?_⟩
    refine Or.inl ⟨rfl, _, 1, 0, 0, _, Or.inr qi_5_101, ⟨rfl, rfl⟩, rfl, rfl, M_mostOf hg hM 2 (v := 99) (by omega) rfl, fun y59 h59 hy59 => ?_⟩
    obtain ⟨rfl, hh⟩ := hy59
    rw [hh]
    clear hh
    refine Or.inl ⟨rfl, _, 3, 0, 0, _, _, _, qi_5_82, ⟨rfl, rfl⟩, ⟨hT.cell.choose_spec, rfl⟩, rfl, rfl, cT_number hg hT _ _, fun y62 h62 hy62 => ?_⟩
    obtain ⟨rfl, hsN, qN, hqN, hT⟩ := hy62
    have hs := hs.t2 hsN (by decide)
    have hE := (hsN.2 33 (by simp)).trans hE
    have hR := hR.sm hsN (by simp) (by simp) (by simp) (by simp)
    have hC := hC.sm hsN (by simp) (by simp)
    refine ⟨by decide, _, _, hE, rfl, ?_⟩
    refine Or.inl ⟨rfl, _, 1, 0, 0, _, _, _, qi_5_40, ⟨rfl, rfl⟩, ⟨hT.cell.choose_spec, rfl⟩, rfl, rfl, cT_faulty hg hT, fun y70 h70 hy70 => ?_⟩
    obtain ⟨rfl, hh⟩ := hy70
    rw [hh]
    clear hh
    refine ⟨fun c73 => ?_, fun c73 => ?_⟩
    · have hb : pbad (pdoorS F n N q s) = true := qb_1.mp c73
      refine step.1 _ _ _ _ _ _ _ sgX5_readDoor_86_ok ?_
      refine ⟨rfl, Nat.le_refl _, Nat.le_refl _, ?_⟩
      rw [hb]
      exact ⟨rfl, hs, ⟨_, hT⟩, hR, hC⟩
    · have hb : pbad (pdoorS F n N q s) = false := qb_0.mp c73
      have hlt : N < 10 := by
        rcases Nat.lt_or_ge N 10 with z | z
        · exact z
        · have z2 := pbad_numS (pbad_numS (pbad_numS hb))
          rw [pd0, if_pos z, pbad_fail] at z2
          cases z2
      refine ⟨by decide, _, _, hE, rfl, ?_⟩
      refine Or.inl ⟨rfl, _, 2, 0, 0, _, _, _, qi_5_105, ⟨rfl, rfl⟩, ⟨hR.1, rfl⟩, rfl, rfl, R_addDoor hg hR hlt (by decide) (by decide) _ _ _, fun y83 h83 hy83 => ?_⟩
      obtain ⟨rfl, hh⟩ := hy83
      subst hh
      refine step.1 _ _ _ _ _ _ _ sgX5_readDoor_86_ok ?_
      refine ⟨rfl, Nat.le_refl _, Nat.le_refl _, ?_⟩
      rw [hb]
      exact ⟨rfl, hs.t2 (l' := [34, 35]) ⟨rfl, fun j hj => by
        have hj1 : j ≠ 34 := fun q => hj (by rw [q]; simp)
        have hj2 : j ≠ 35 := fun q => hj (by rw [q]; simp)
        simp only [qup_n hj1, qup_n hj2]⟩ (by decide), ⟨_, hT.sm (z := [34, 35]) ⟨rfl, fun j hj => by
        have hj1 : j ≠ 34 := fun q => hj (by rw [q]; simp)
        have hj2 : j ≠ 35 := fun q => hj (by rw [q]; simp)
        simp only [qup_n hj1, qup_n hj2]⟩ (by simp) (by simp)⟩, ⟨rfl, rfl, hR.2.2.1, hR.2.2.2⟩, hC⟩
  refine step.1 _ _ _ _ _ _ _ sgX5_readDoor_0_ok ?_
  refine ⟨by decide, _, _, hE, rfl, ?_⟩
  refine ⟨by decide, _, _, hR.1, rfl, ?_⟩
  refine ⟨fun c9 => ?_, fun c9 => ?_⟩
  · have c9 : N < 10 := (nI_ltI (b := 10) (by omega) (by decide)).mp c9
    exact c27 _ s q (if_neg (by omega)).symm hT hs hE hR hC
  · have c9 : 10 ≤ N := by
      rcases Nat.lt_or_ge N 10 with z | z
      · exact absurd (nI_lt (b := 10) z (by decide)) c9
      · exact z
    refine ⟨by decide, _, _, hE, rfl, ?_⟩
    refine ⟨by decide, _, _, hE, rfl, ?_⟩
    refine ⟨by decide, _, _, hT.from.choose_spec.1, hT.from.choose_spec.2, ?_⟩
    refine Or.inl ⟨rfl, _, 1, 0, 0, _, _, _, qi_5_63, ⟨rfl, rfl⟩, ⟨hT.cell.choose_spec, rfl⟩, rfl, rfl, cT_fail hg hT 3 _ (by decide), fun y24 h24 hy24 => ?_⟩
    obtain ⟨rfl, hsN, hT⟩ := hy24
    have hs := hs.t2 hsN (by decide)
    have hE := (hsN.2 33 (by simp)).trans hE
    have hR := hR.sm hsN (by simp) (by simp) (by simp) (by simp)
    have hC := hC.sm hsN (by simp) (by simp)
    exact c27 _ _ _ (if_pos c9).symm hT hs hE hR hC
theorem RD_fact {g : qG} (hg : qOK g) {h : qH} (hM : qFM g) {F : Nat → Int32} {n q : Nat} {s : PS} (hT : cT h F n s q) (hE : h.2 33 = some E33) {D P U Q : Nat → Int32} {N k u M : Nat} {st ve cl : Int32} (hR : isR h 34 35 36 37 D P U (nI N) (nI k) (nI u) st ve cl) (hC : isC h 38 39 Q (nI M)) (hN : N ≤ 10) (hm8 : M ≤ 8) (f : Nat) (hf : f < 10) : qSpec g 4 0 0 mX5_readFact [.ref 33, .int (nI f)] h (fun r h' => r = none ∧ same h h' [1, 34, 35, 38, 39] ∧ (∃ q' : Nat, cT h' F n (pfactS F n N (nI (fmost f)) s) q') ∧ isR h' 34 35 36 37 (if pbad (pfactS F n N (nI (fmost f)) s) then D else pfactD F n N (nI (fmost f)) 10 f s D) P U (nI N) (nI k) (nI u) st ve cl ∧ isC h' 38 39 Q (nI M)) := by
  refine qSpec_run 5 "readFact" false hg mX5_readFact_ok rfl rfl (Nat.le_of_ble_eq_true rfl) (by decide) ?_
  intro run step
  have hs : same h h [1, 34, 35, 38, 39] := same.rf
  refine step.1 _ _ _ _ _ _ _ sgX5_readFact_0_ok ?_
  refine ⟨by decide, _, _, hE, rfl, ?_⟩
  refine ⟨by decide, _, _, hE, rfl, ?_⟩
  refine ⟨by decide, _, _, hR.1, rfl, ?_⟩
  refine Or.inl ⟨rfl, _, 3, 0, 0, _, _, _, qi_5_82, ⟨rfl, rfl⟩, ⟨hT.cell.choose_spec, rfl⟩, rfl, rfl, cT_number hg hT _ _, fun y14 h14 hy14 => ?_⟩
  obtain ⟨rfl, hsN, qN, hqN, hT⟩ := hy14
  have hs := hs.t2 hsN (by decide)
  have hE := (hsN.2 33 (by simp)).trans hE
  have hR := hR.sm hsN (by simp) (by simp) (by simp) (by simp)
  have hC := hC.sm hsN (by simp) (by simp)
  refine ⟨by decide, _, _, hE, rfl, ?_⟩
  refine Or.inl ⟨rfl, _, 1, 0, 0, _, Or.inr qi_5_101, ⟨rfl, rfl⟩, rfl, rfl, M_mostOf hg hM f (v := nI (fmost f)) (by omega) rfl, fun y24 h24 hy24 => ?_⟩
  obtain ⟨rfl, hh⟩ := hy24
  rw [hh]
  clear hh
  refine Or.inl ⟨rfl, _, 3, 0, 0, _, _, _, qi_5_82, ⟨rfl, rfl⟩, ⟨hT.cell.choose_spec, rfl⟩, rfl, rfl, cT_number hg hT _ _, fun y27 h27 hy27 => ?_⟩
  obtain ⟨rfl, hsN, qN, hqN, hT⟩ := hy27
  have hs := hs.t2 hsN (by decide)
  have hE := (hsN.2 33 (by simp)).trans hE
  have hR := hR.sm hsN (by simp) (by simp) (by simp) (by simp)
  have hC := hC.sm hsN (by simp) (by simp)
  refine ⟨by decide, _, _, hE, rfl, ?_⟩
  refine Or.inl ⟨rfl, _, 1, 0, 0, _, _, _, qi_5_40, ⟨rfl, rfl⟩, ⟨hT.cell.choose_spec, rfl⟩, rfl, rfl, cT_faulty hg hT, fun y35 h35 hy35 => ?_⟩
  obtain ⟨rfl, hh⟩ := hy35
  rw [hh]
  clear hh
  refine ⟨fun c38 => ?_, fun c38 => ?_⟩
  · have hb : pbad (pfactS F n N (nI (fmost f)) s) = true := qb_1.mp c38
    refine step.1 _ _ _ _ _ _ _ sgX5_readFact_51_ok ?_
    refine ⟨rfl, Nat.le_refl _, Nat.le_refl _, ?_⟩
    rw [hb]
    exact ⟨rfl, hs, ⟨_, hT⟩, hR, hC⟩
  · have hb : pbad (pfactS F n N (nI (fmost f)) s) = false := qb_0.mp c38
    obtain ⟨x, hx, ex⟩ := pnum_nat (by omega) (pbad_numS hb)
    refine ⟨by decide, _, _, hE, rfl, ?_⟩
    refine Or.inl ⟨rfl, _, 1, 0, 0, _, _, _, qi_5_109, ⟨rfl, rfl⟩, ⟨hR.1, rfl⟩, rfl, rfl, (by rw [ex]; exact R_setDoor hg hR x f _ (by omega) hf), fun y48 h48 hy48 => ?_⟩
    obtain ⟨rfl, hh⟩ := hy48
    subst hh
    refine step.1 _ _ _ _ _ _ _ sgX5_readFact_51_ok ?_
    refine ⟨rfl, Nat.le_refl _, Nat.le_refl _, ?_⟩
    rw [hb]
    refine ⟨rfl, hs.t2 (l' := [35]) (same.up (by simp)) (by decide), ⟨_, hT.sm (z := [35]) (same.up (by simp)) (by simp) (by simp)⟩, ⟨hR.1, ?_, hR.2.2.1, hR.2.2.2⟩, hC⟩
    rw [if_neg (by decide), pfactD, ex, h_tn (by omega)]
    rfl
theorem RD_light {g : qG} (hg : qOK g) {h : qH} (hM : qFM g) {F : Nat → Int32} {n q : Nat} {s : PS} (hT : cT h F n s q) (hE : h.2 33 = some E33) {D P U Q : Nat → Int32} {N k u M : Nat} {st ve cl : Int32} (hR : isR h 34 35 36 37 D P U (nI N) (nI k) (nI u) st ve cl) (hC : isC h 38 39 Q (nI M)) (hN : N ≤ 10) (hm8 : M ≤ 8) : qSpec g 4 0 0 mX5_readLight [.ref 33] h (fun r h' => r = none ∧ same h h' [1, 34, 35, 38, 39] ∧ (∃ q' : Nat, cT h' F n (plightS F n N s) q') ∧ isR h' 34 35 36 37 (if pbad (plightS F n N s) then D else plightD F n N s D) P U (nI N) (nI k) (nI u) st ve cl ∧ isC h' 38 39 Q (nI M)) := by
  refine qSpec_run 5 "readLight" false hg mX5_readLight_ok rfl rfl (Nat.le_of_ble_eq_true rfl) (by decide) ?_
  intro run step
  have hs : same h h [1, 34, 35, 38, 39] := same.rf
  refine step.1 _ _ _ _ _ _ _ sgX5_readLight_0_ok ?_
  refine ⟨by decide, _, _, hE, rfl, ?_⟩
  refine ⟨by decide, _, _, hE, rfl, ?_⟩
  refine ⟨by decide, _, _, hR.1, rfl, ?_⟩
  refine Or.inl ⟨rfl, _, 3, 0, 0, _, _, _, qi_5_82, ⟨rfl, rfl⟩, ⟨hT.cell.choose_spec, rfl⟩, rfl, rfl, cT_number hg hT _ _, fun y14 h14 hy14 => ?_⟩
  obtain ⟨rfl, hsN, qN, hqN, hT⟩ := hy14
  have hs := hs.t2 hsN (by decide)
  have hE := (hsN.2 33 (by simp)).trans hE
  have hR := hR.sm hsN (by simp) (by simp) (by simp) (by simp)
  have hC := hC.sm hsN (by simp) (by simp)
  refine ⟨by decide, _, _, hE, rfl, ?_⟩
  refine Or.inl ⟨rfl, _, 1, 0, 0, _, Or.inr qi_5_101, ⟨rfl, rfl⟩, rfl, rfl, M_mostOf hg hM 6 (v := 16) (by omega) rfl, fun y25 h25 hy25 => ?_⟩
  obtain ⟨rfl, hh⟩ := hy25
  rw [hh]
  clear hh
  refine Or.inl ⟨rfl, _, 3, 0, 0, _, _, _, qi_5_82, ⟨rfl, rfl⟩, ⟨hT.cell.choose_spec, rfl⟩, rfl, rfl, cT_number hg hT _ _, fun y28 h28 hy28 => ?_⟩
  obtain ⟨rfl, hsN, qN, hqN, hT⟩ := hy28
  have hs := hs.t2 hsN (by decide)
  have hE := (hsN.2 33 (by simp)).trans hE
  have hR := hR.sm hsN (by simp) (by simp) (by simp) (by simp)
  have hC := hC.sm hsN (by simp) (by simp)
  refine ⟨by decide, _, _, hE, rfl, ?_⟩
  refine Or.inl ⟨rfl, _, 1, 0, 0, _, Or.inr qi_5_101, ⟨rfl, rfl⟩, rfl, rfl, M_mostOf hg hM 7 (v := 16) (by omega) rfl, fun y39 h39 hy39 => ?_⟩
  obtain ⟨rfl, hh⟩ := hy39
  rw [hh]
  clear hh
  refine Or.inl ⟨rfl, _, 3, 0, 0, _, _, _, qi_5_82, ⟨rfl, rfl⟩, ⟨hT.cell.choose_spec, rfl⟩, rfl, rfl, cT_number hg hT _ _, fun y42 h42 hy42 => ?_⟩
  obtain ⟨rfl, hsN, qN, hqN, hT⟩ := hy42
  have hs := hs.t2 hsN (by decide)
  have hE := (hsN.2 33 (by simp)).trans hE
  have hR := hR.sm hsN (by simp) (by simp) (by simp) (by simp)
  have hC := hC.sm hsN (by simp) (by simp)
  refine ⟨by decide, _, _, hE, rfl, ?_⟩
  refine Or.inl ⟨rfl, _, 1, 0, 0, _, _, _, qi_5_40, ⟨rfl, rfl⟩, ⟨hT.cell.choose_spec, rfl⟩, rfl, rfl, cT_faulty hg hT, fun y50 h50 hy50 => ?_⟩
  obtain ⟨rfl, hh⟩ := hy50
  rw [hh]
  clear hh
  refine ⟨fun c53 => ?_, fun c53 => ?_⟩
  · have hb : pbad (plightS F n N s) = true := qb_1.mp c53
    refine step.1 _ _ _ _ _ _ _ sgX5_readLight_78_ok ?_
    refine ⟨rfl, Nat.le_refl _, Nat.le_refl _, ?_⟩
    rw [hb]
    exact ⟨rfl, hs, ⟨_, hT⟩, hR, hC⟩
  · have hb : pbad (plightS F n N s) = false := qb_0.mp c53
    obtain ⟨x, hx, ex⟩ := pnum_nat (by omega) (pbad_numS (pbad_numS hb))
    refine ⟨by decide, _, _, hE, rfl, ?_⟩
    refine Or.inl ⟨rfl, _, 1, 0, 0, _, _, _, qi_5_109, ⟨rfl, rfl⟩, ⟨hR.1, rfl⟩, rfl, rfl, (by rw [ex]; exact R_setDoor hg hR x 6 _ (by omega) (by decide)), fun y64 h64 hy64 => ?_⟩
    obtain ⟨rfl, hh⟩ := hy64
    subst hh
    have hR9 := hR.door (D' := upd D (x * 10 + 6) (pnum F n 0 16 (pnumS F n 0 (nI N - 1) s)).2) (by decide) (by decide)
    refine ⟨by decide, _, _, hE, rfl, ?_⟩
    refine Or.inl ⟨rfl, _, 1, 0, 0, _, _, _, qi_5_109, ⟨rfl, rfl⟩, ⟨hR9.1, rfl⟩, rfl, rfl, (by rw [ex]; exact R_setDoor hg hR9 x 7 _ (by omega) (by decide)), fun y75 h75 hy75 => ?_⟩
    obtain ⟨rfl, hh⟩ := hy75
    subst hh
    refine step.1 _ _ _ _ _ _ _ sgX5_readLight_78_ok ?_
    refine ⟨rfl, Nat.le_refl _, Nat.le_refl _, ?_⟩
    rw [hb]
    have hsZ : ∀ e1 e2 : qE, same h42 (h42.1, qup (qup h42.2 35 e1) 35 e2) [35] := fun e1 e2 => ⟨rfl, fun j hj => by
      have hj1 : j ≠ 35 := fun q => hj (by rw [q]; simp)
      simp only [qup_n hj1]⟩
    refine ⟨rfl, hs.t2 (hsZ _ _) (by decide), ⟨_, hT.sm (hsZ _ _) (by simp) (by simp)⟩, ⟨hR.1, ?_, hR.2.2.1, hR.2.2.2⟩, hC⟩
    rw [if_neg (by decide), plightD, pfactD, ex, h_tn (by omega)]
    rfl
theorem RD_singer {g : qG} (hg : qOK g) {h : qH} (hM : qFM g) {F : Nat → Int32} {n q : Nat} {s : PS} (hT : cT h F n s q) (hE : h.2 33 = some E33) {D P U Q : Nat → Int32} {N k u M : Nat} {st ve cl : Int32} (hR : isR h 34 35 36 37 D P U (nI N) (nI k) (nI u) st ve cl) (hC : isC h 38 39 Q (nI M)) (hN : N ≤ 10) (hm8 : M ≤ 8) : qSpec g 4 0 0 mX5_readSinger [.ref 33] h (fun r h' => r = none ∧ same h h' [1, 34, 35, 38, 39] ∧ (∃ q' : Nat, cT h' F n (psingS F n M q s) q') ∧ isR h' 34 35 36 37 D P U (nI N) (nI k) (nI u) st ve cl ∧ isC h' 38 39 (if pbad (psingS F n M q s) then Q else psingQ F n M q s Q) (nI (if pbad (psingS F n M q s) then M else M + 1))) := by
  refine qSpec_run 5 "readSinger" false hg mX5_readSinger_ok rfl rfl (Nat.le_of_ble_eq_true rfl) (by decide) ?_
  intro run step
  have hs : same h h [1, 34, 35, 38, 39] := same.rf
  have c27 : ∀ (hX : qH) (s0 : PS) (q0 : Nat), s0 = ps0 M q s → cT hX F n s0 q0 → same h hX [1, 34, 35, 38, 39] → hX.2 33 = some E33 → isR hX 34 35 36 37 D P U (nI N) (nI k) (nI u) st ve cl → isC hX 38 39 Q (nI M) → run 27 [(0, .ref 33)] [] hX 0 0 := by
    intro hX s0 q0 hs0 hT hs hE hR hC
    subst hs0
    refine step.1 _ _ _ _ _ _ _ sgX5_readSinger_27_ok ?_
    refine ⟨by decide, _, _, hE, rfl, ?_⟩
    refine Or.inl ⟨rfl, _, 3, 0, 0, _, _, _, qi_5_82, ⟨rfl, rfl⟩, ⟨hT.cell.choose_spec, rfl⟩, rfl, rfl, cT_number hg hT _ _, fun y34 h34 hy34 => ?_⟩
    obtain ⟨rfl, hsN, qN, hqN, hT⟩ := hy34
    have hs := hs.t2 hsN (by decide)
    have hE := (hsN.2 33 (by simp)).trans hE
    have hR := hR.sm hsN (by simp) (by simp) (by simp) (by simp)
    have hC := hC.sm hsN (by simp) (by simp)
    refine ⟨by decide, _, _, hE, rfl, ?_⟩
    refine Or.inl ⟨rfl, _, 3, 0, 0, _, _, _, qi_5_82, ⟨rfl, rfl⟩, ⟨hT.cell.choose_spec, rfl⟩, rfl, rfl, cT_number hg hT _ _, fun y44 h44 hy44 => ?_⟩
    obtain ⟨rfl, hsN, qN, hqN, hT⟩ := hy44
    have hs := hs.t2 hsN (by decide)
    have hE := (hsN.2 33 (by simp)).trans hE
    have hR := hR.sm hsN (by simp) (by simp) (by simp) (by simp)
    have hC := hC.sm hsN (by simp) (by simp)
    refine ⟨by decide, _, _, hE, rfl, ?_⟩
    refine Or.inl ⟨rfl, _, 1, 0, 0, _, _, _, qi_5_40, ⟨rfl, rfl⟩, ⟨hT.cell.choose_spec, rfl⟩, rfl, rfl, cT_faulty hg hT, fun y52 h52 hy52 => ?_⟩
    obtain ⟨rfl, hh⟩ := hy52
    rw [hh]
    clear hh
    refine ⟨fun c55 => ?_, fun c55 => ?_⟩
    · have hb : pbad (psingS F n M q s) = true := qb_1.mp c55
      refine step.1 _ _ _ _ _ _ _ sgX5_readSinger_67_ok ?_
      refine ⟨rfl, Nat.le_refl _, Nat.le_refl _, ?_⟩
      rw [hb]
      exact ⟨rfl, hs, ⟨_, hT⟩, hR, hC⟩
    · have hb : pbad (psingS F n M q s) = false := qb_0.mp c55
      have hlt : M < 8 := by
        rcases Nat.lt_or_ge M 8 with z | z
        · exact z
        · have z2 := pbad_numS (pbad_numS hb)
          rw [ps0, if_pos z, pbad_fail] at z2
          cases z2
      refine ⟨by decide, _, _, hE, rfl, ?_⟩
      refine Or.inl ⟨rfl, _, 2, 0, 0, _, _, _, qi_5_115, ⟨rfl, rfl⟩, ⟨hC.1, rfl⟩, rfl, rfl, C_add hg hC hlt _ _, fun y64 h64 hy64 => ?_⟩
      obtain ⟨rfl, hh⟩ := hy64
      subst hh
      refine step.1 _ _ _ _ _ _ _ sgX5_readSinger_67_ok ?_
      refine ⟨rfl, Nat.le_refl _, Nat.le_refl _, ?_⟩
      rw [hb]
      have hsZ : ∀ e1 e2 : qE, same h44 (h44.1, qup (qup h44.2 39 e1) 38 e2) [38, 39] := fun e1 e2 => ⟨rfl, fun j hj => by
        have hj1 : j ≠ 39 := fun q => hj (by rw [q]; simp)
        have hj2 : j ≠ 38 := fun q => hj (by rw [q]; simp)
        simp only [qup_n hj1, qup_n hj2]⟩
      exact ⟨rfl, hs.t2 (hsZ _ _) (by decide), ⟨_, hT.sm (hsZ _ _) (by simp) (by simp)⟩, hR, rfl, rfl⟩
  refine step.1 _ _ _ _ _ _ _ sgX5_readSinger_0_ok ?_
  refine ⟨by decide, _, _, hE, rfl, ?_⟩
  refine ⟨by decide, _, _, hC.1, rfl, ?_⟩
  refine ⟨fun c9 => ?_, fun c9 => ?_⟩
  · have c9 : M < 8 := (nI_ltI (b := 8) (by omega) (by decide)).mp c9
    exact c27 _ s q (if_neg (by omega)).symm hT hs hE hR hC
  · have c9 : 8 ≤ M := by
      rcases Nat.lt_or_ge M 8 with z | z
      · exact absurd (nI_lt (b := 8) z (by decide)) c9
      · exact z
    refine ⟨by decide, _, _, hE, rfl, ?_⟩
    refine ⟨by decide, _, _, hE, rfl, ?_⟩
    refine ⟨by decide, _, _, hT.from.choose_spec.1, hT.from.choose_spec.2, ?_⟩
    refine Or.inl ⟨rfl, _, 1, 0, 0, _, _, _, qi_5_63, ⟨rfl, rfl⟩, ⟨hT.cell.choose_spec, rfl⟩, rfl, rfl, cT_fail hg hT 3 _ (by decide), fun y24 h24 hy24 => ?_⟩
    obtain ⟨rfl, hsN, hT⟩ := hy24
    have hs := hs.t2 hsN (by decide)
    have hE := (hsN.2 33 (by simp)).trans hE
    have hR := hR.sm hsN (by simp) (by simp) (by simp) (by simp)
    have hC := hC.sm hsN (by simp) (by simp)
    exact c27 _ _ _ (if_pos c9).symm hT hs hE hR hC
theorem RD_ofSinger {g : qG} (hg : qOK g) {h : qH} (hM : qFM g) {F : Nat → Int32} {n q : Nat} {s : PS} (hT : cT h F n s q) (hE : h.2 33 = some E33) {D P U Q : Nat → Int32} {N k u M : Nat} {st ve cl : Int32} (hR : isR h 34 35 36 37 D P U (nI N) (nI k) (nI u) st ve cl) (hC : isC h 38 39 Q (nI M)) (hN : N ≤ 10) (hm8 : M ≤ 8) (f mo : Nat) (hf : f < 4) : qSpec g 4 0 0 mX5_readOfSinger [.ref 33, .int (nI f), .int (nI mo)] h (fun r h' => r = none ∧ same h h' [1, 34, 35, 38, 39] ∧ (∃ q' : Nat, cT h' F n (pfactS F n M (nI mo) s) q') ∧ isR h' 34 35 36 37 D P U (nI N) (nI k) (nI u) st ve cl ∧ isC h' 38 39 (if pbad (pfactS F n M (nI mo) s) then Q else pfactD F n M (nI mo) 4 f s Q) (nI M)) := by
  refine qSpec_run 5 "readOfSinger" false hg mX5_readOfSinger_ok rfl rfl (Nat.le_of_ble_eq_true rfl) (by decide) ?_
  intro run step
  have hs : same h h [1, 34, 35, 38, 39] := same.rf
  refine step.1 _ _ _ _ _ _ _ sgX5_readOfSinger_0_ok ?_
  refine ⟨by decide, _, _, hE, rfl, ?_⟩
  refine ⟨by decide, _, _, hE, rfl, ?_⟩
  refine ⟨by decide, _, _, hC.1, rfl, ?_⟩
  refine Or.inl ⟨rfl, _, 3, 0, 0, _, _, _, qi_5_82, ⟨rfl, rfl⟩, ⟨hT.cell.choose_spec, rfl⟩, rfl, rfl, cT_number hg hT _ _, fun y14 h14 hy14 => ?_⟩
  obtain ⟨rfl, hsN, qN, hqN, hT⟩ := hy14
  have hs := hs.t2 hsN (by decide)
  have hE := (hsN.2 33 (by simp)).trans hE
  have hR := hR.sm hsN (by simp) (by simp) (by simp) (by simp)
  have hC := hC.sm hsN (by simp) (by simp)
  refine ⟨by decide, _, _, hE, rfl, ?_⟩
  refine Or.inl ⟨rfl, _, 3, 0, 0, _, _, _, qi_5_82, ⟨rfl, rfl⟩, ⟨hT.cell.choose_spec, rfl⟩, rfl, rfl, cT_number hg hT _ _, fun y24 h24 hy24 => ?_⟩
  obtain ⟨rfl, hsN, qN, hqN, hT⟩ := hy24
  have hs := hs.t2 hsN (by decide)
  have hE := (hsN.2 33 (by simp)).trans hE
  have hR := hR.sm hsN (by simp) (by simp) (by simp) (by simp)
  have hC := hC.sm hsN (by simp) (by simp)
  refine ⟨by decide, _, _, hE, rfl, ?_⟩
  refine Or.inl ⟨rfl, _, 1, 0, 0, _, _, _, qi_5_40, ⟨rfl, rfl⟩, ⟨hT.cell.choose_spec, rfl⟩, rfl, rfl, cT_faulty hg hT, fun y33 h33 hy33 => ?_⟩
  obtain ⟨rfl, hh⟩ := hy33
  rw [hh]
  clear hh
  refine ⟨fun c36 => ?_, fun c36 => ?_⟩
  · have hb : pbad (pfactS F n M (nI mo) s) = true := qb_1.mp c36
    refine step.1 _ _ _ _ _ _ _ sgX5_readOfSinger_50_ok ?_
    refine ⟨rfl, Nat.le_refl _, Nat.le_refl _, ?_⟩
    rw [hb]
    exact ⟨rfl, hs, ⟨_, hT⟩, hR, hC⟩
  · have hb : pbad (pfactS F n M (nI mo) s) = false := qb_0.mp c36
    obtain ⟨x, hx, ex⟩ := pnum_nat (by omega) (pbad_numS hb)
    refine ⟨by decide, _, _, hE, rfl, ?_⟩
    refine Or.inl ⟨rfl, _, 1, 0, 0, _, _, _, qi_5_118, ⟨rfl, rfl⟩, ⟨hC.1, rfl⟩, rfl, rfl, (by rw [ex]; exact C_set hg hC x f _ (by omega) hf), fun y47 h47 hy47 => ?_⟩
    obtain ⟨rfl, hh⟩ := hy47
    subst hh
    refine step.1 _ _ _ _ _ _ _ sgX5_readOfSinger_50_ok ?_
    refine ⟨rfl, Nat.le_refl _, Nat.le_refl _, ?_⟩
    rw [hb]
    refine ⟨rfl, hs.t2 (l' := [39]) (same.up (by simp)) (by decide), ⟨_, hT.sm (z := [39]) (same.up (by simp)) (by simp) (by simp)⟩, hR, hC.1, ?_⟩
    rw [if_neg (by decide), pfactD, ex, h_tn (by omega)]
    rfl
end Q08H
