section Q09E
theorem F_planned {g : qG} (hg : qOK g) (hT : qTHR g) {h : qH} {S : CS} (hC : CH h S) {pf vf rf : Nat → Nat} (hk : S.2.1.2.2.2.2.1 ≤ 10) (hP : isP S.2.1.2.1 S.2.1.2.2.2.2.1 pf vf rf) (hl : lwf S.2.2.2.2.1.1) (wh pt : Int32) : qSpecX g 9 4 24 mX11_planned [.ref 0, .int wh, .int pt] h (fun r h' => (wi 0 3 wh && wi 0 1 pt) = true ∧ ∃ u : Nat, u ≤ 3 ∧ wh = nI u ∧ r = some (.long (lterms (if u = 0 then (tsum S.2.1.1 S.2.2.2.2.1.1.1 S.2.2.2.2.1.1.2.1 S.2.2.2.2.1.1.2.2 (nI S.2.2.2.1.2) S.2.1.2.2.2.2.2.2.1 S.2.1.2.2.2.2.2.2.2.1 pf vf rf 0 (S.2.1.2.2.2.2.1 - 0) (0, 0, 0, 0)).1 else if u = 1 then (tsum S.2.1.1 S.2.2.2.2.1.1.1 S.2.2.2.2.1.1.2.1 S.2.2.2.2.1.1.2.2 (nI S.2.2.2.1.2) S.2.1.2.2.2.2.2.2.1 S.2.1.2.2.2.2.2.2.2.1 pf vf rf 0 (S.2.1.2.2.2.2.1 - 0) (0, 0, 0, 0)).2.1 else if u = 2 then (tsum S.2.1.1 S.2.2.2.2.1.1.1 S.2.2.2.2.1.1.2.1 S.2.2.2.2.1.1.2.2 (nI S.2.2.2.1.2) S.2.1.2.2.2.2.2.2.1 S.2.1.2.2.2.2.2.2.2.1 pf vf rf 0 (S.2.1.2.2.2.2.1 - 0) (0, 0, 0, 0)).2.2.1 else (tsum S.2.1.1 S.2.2.2.2.1.1.1 S.2.2.2.2.1.1.2.1 S.2.2.2.2.1.1.2.2 (nI S.2.2.2.1.2) S.2.1.2.2.2.2.2.2.1 S.2.1.2.2.2.2.2.2.2.1 pf vf rf 0 (S.2.1.2.2.2.2.1 - 0) (0, 0, 0, 0)).2.2.2) 268435456 pt)) ∧ CH h' S ∧ gro h h') (TX h S (fun k => (k = 1 ∧ ¬ (wi 0 3 wh && wi 0 1 pt) = true))) := by
  refine qSpecX_runT "planned" hg hT mX11_planned_ok rfl rfl (Nat.le_of_ble_eq_true rfl) ?_
  intro run step stepT
  obtain ⟨ta, tb, tc, td, te, tf, tg, th, hTo⟩ := hC.tour
  refine step.1 _ _ _ _ _ _ _ sgX11_planned_0_ok ?_
  refine Or.inl ⟨rfl, _, 1, 0, 0, _, Or.inl qi_11_147, ⟨rfl, rfl⟩, rfl, rfl, sp_within hg _ _ _, fun y4 h4 hy4 => ?_⟩
  obtain ⟨rfl, hh⟩ := hy4
  rw [hh]
  clear hh
  refine ⟨fun c7 => ?_, fun c7 => ?_⟩
  · have w7 : wi 0 3 wh = false := qb_0.mp c7
    refine step.1 _ _ _ _ _ _ _ sgX11_planned_23_ok ?_
    refine step.1 _ _ _ _ _ _ _ sgX11_planned_24_ok ?_
    refine Or.inr ⟨rfl, _, 6, 1, 6, _, _, _, _, qi_11_151, ⟨rfl, rfl⟩, ⟨hC.obj, rfl⟩, rfl, rfl, X_need hg hT hC false, fun y24 h24 hy24 => ?_, fun E h9 z => ⟨z.mono (fun k hk => ⟨hk.1, fun z => by rw [w7] at z; cases z⟩), Nat.le_of_ble_eq_true rfl, Nat.le_of_ble_eq_true rfl⟩⟩
    obtain ⟨hbad, rfl, hh⟩ := hy24
    rw [hh]
    clear hh
    cases hbad
    
  · have w7 : wi 0 3 wh = true := qb_1.mp c7
    refine Or.inl ⟨rfl, _, 1, 0, 0, _, Or.inl qi_11_147, ⟨rfl, rfl⟩, rfl, rfl, sp_within hg _ _ _, fun y13 h13 hy13 => ?_⟩
    obtain ⟨rfl, hh⟩ := hy13
    rw [hh]
    clear hh
    refine ⟨fun c16 => ?_, fun c16 => ?_⟩
    · have w16 : wi 0 1 pt = false := qb_0.mp c16
      refine step.1 _ _ _ _ _ _ _ sgX11_planned_23_ok ?_
      refine step.1 _ _ _ _ _ _ _ sgX11_planned_24_ok ?_
      refine Or.inr ⟨rfl, _, 6, 1, 6, _, _, _, _, qi_11_151, ⟨rfl, rfl⟩, ⟨hC.obj, rfl⟩, rfl, rfl, X_need hg hT hC false, fun y24 h24 hy24 => ?_, fun E h9 z => ⟨z.mono (fun k hk => ⟨hk.1, fun z => by rw [w7, w16] at z; cases z⟩), Nat.le_of_ble_eq_true rfl, Nat.le_of_ble_eq_true rfl⟩⟩
      obtain ⟨hbad, rfl, hh⟩ := hy24
      rw [hh]
      clear hh
      cases hbad
      
    · have w16 : wi 0 1 pt = true := qb_1.mp c16
      refine step.1 _ _ _ _ _ _ _ sgX11_planned_24_ok ?_
      refine Or.inr ⟨rfl, _, 6, 1, 6, _, _, _, _, qi_11_151, ⟨rfl, rfl⟩, ⟨hC.obj, rfl⟩, rfl, rfl, X_need hg hT hC true, fun y24 h24 hy24 => ?_, fun E h9 z => ⟨z.mono (fun k hk => ⟨hk.1, absurd rfl hk.2⟩), Nat.le_of_ble_eq_true rfl, Nat.le_of_ble_eq_true rfl⟩⟩
      obtain ⟨hok, rfl, hh⟩ := hy24
      rw [hh]
      clear hh
      have hw : (wi 0 3 wh && wi 0 1 pt) = true := by rw [w7, w16]; rfl
      obtain ⟨u, hu, eu⟩ := wi_nat (m := 3) (by decide) w7
      refine ⟨by decide, _, _, hC.obj, rfl, ?_⟩
      refine Or.inl ⟨rfl, _, 6, 0, 0, _, _, _, qi_11_235, ⟨rfl, rfl⟩, ⟨hTo, rfl⟩, rfl, rfl, T_reckon hg (hC.W hl) hP hk hTo 0 (Nat.zero_le _), fun y32 h32 hy32 => ?_⟩
      obtain ⟨rfl, hs9, hW9, hT9⟩ := hy32
      have hCW := hC.up hs9 (fz_cons (cW hW9).1 (fz_cons (cW hW9).2.1 (fz_cons (cW hW9).2.2 (fz_cons ⟨_, hT9, _, _, _, _, _, _, _, _, rfl⟩ fz_nil))))
      have hGW := gro.of hs9 rfl
      refine ⟨by decide, _, _, hCW.obj, rfl, ?_⟩
      refine Or.inl ⟨rfl, _, 1, 0, 0, _, _, _, qi_11_237, ⟨rfl, rfl⟩, ⟨hT9, rfl⟩, rfl, rfl, (by rw [eu]; exact T_times hg hT9 u hu), fun y40 h40 hy40 => ?_⟩
      obtain ⟨rfl, hh⟩ := hy40
      rw [hh]
      clear hh
      refine Or.inl ⟨rfl, _, 2, 0, 0, _, Or.inl qi_11_231, ⟨rfl, rfl⟩, rfl, rfl, X_terms hg _ _ _, fun y47 h47 hy47 => ?_⟩
      obtain ⟨rfl, hh⟩ := hy47
      rw [hh]
      clear hh
      refine ⟨rfl, Nat.le_of_ble_eq_true rfl, Nat.le_of_ble_eq_true rfl, ?_⟩
      exact ⟨hw, u, hu, eu, rfl, hCW, hGW⟩
theorem F_stop {g : qG} (hg : qOK g) (hT : qTHR g) {h : qH} {S : CS} (hC : CH h S) {pf vf rf : Nat → Nat} (hk : S.2.1.2.2.2.2.1 ≤ 10) (hP : isP S.2.1.2.1 S.2.1.2.2.2.2.1 pf vf rf) (hl : lwf S.2.2.2.2.1.1) (px : Int32) : qSpecX g 9 4 24 mX11_stop [.ref 0, .int px] h (fun r h' => wi 0 99 px = true ∧ r = some (.int (llineF (fun i => decide ((tsum S.2.1.1 S.2.2.2.2.1.1.1 S.2.2.2.2.1.1.2.1 S.2.2.2.2.1.1.2.2 (nI S.2.2.2.1.2) S.2.1.2.2.2.2.2.2.1 S.2.1.2.2.2.2.2.2.2.1 pf vf rf i (S.2.1.2.2.2.2.1 - i) (0, 0, 0, 0)).2.1 < px.toInt64 * (tsum S.2.1.1 S.2.2.2.2.1.1.1 S.2.2.2.2.1.1.2.1 S.2.2.2.2.1.1.2.2 (nI S.2.2.2.1.2) S.2.1.2.2.2.2.2.2.1 S.2.1.2.2.2.2.2.2.2.1 pf vf rf i (S.2.1.2.2.2.2.1 - i) (0, 0, 0, 0)).2.2.2)) S.2.1.2.2.2.2.1 0)) ∧ CH h' S ∧ gro h h') (TX h S (fun k => (k = 1 ∧ ¬ wi 0 99 px = true))) := by
  refine qSpecX_runT "stop" hg hT mX11_stop_ok rfl rfl (Nat.le_of_ble_eq_true rfl) ?_
  intro run step stepT

  have loop : wi 0 99 px = true → ∀ (m i : Nat) (hX : qH), i + m = S.2.1.2.2.2.2.1 → llineF (fun i => decide ((tsum S.2.1.1 S.2.2.2.2.1.1.1 S.2.2.2.2.1.1.2.1 S.2.2.2.2.1.1.2.2 (nI S.2.2.2.1.2) S.2.1.2.2.2.2.2.2.1 S.2.1.2.2.2.2.2.2.2.1 pf vf rf i (S.2.1.2.2.2.2.1 - i) (0, 0, 0, 0)).2.1 < px.toInt64 * (tsum S.2.1.1 S.2.2.2.2.1.1.1 S.2.2.2.2.1.1.2.1 S.2.2.2.2.1.1.2.2 (nI S.2.2.2.1.2) S.2.1.2.2.2.2.2.2.1 S.2.1.2.2.2.2.2.2.2.1 pf vf rf i (S.2.1.2.2.2.2.1 - i) (0, 0, 0, 0)).2.2.2)) m i = llineF (fun i => decide ((tsum S.2.1.1 S.2.2.2.2.1.1.1 S.2.2.2.2.1.1.2.1 S.2.2.2.2.1.1.2.2 (nI S.2.2.2.1.2) S.2.1.2.2.2.2.2.2.1 S.2.1.2.2.2.2.2.2.2.1 pf vf rf i (S.2.1.2.2.2.2.1 - i) (0, 0, 0, 0)).2.1 < px.toInt64 * (tsum S.2.1.1 S.2.2.2.2.1.1.1 S.2.2.2.2.1.1.2.1 S.2.2.2.2.1.1.2.2 (nI S.2.2.2.1.2) S.2.1.2.2.2.2.2.2.1 S.2.1.2.2.2.2.2.2.2.1 pf vf rf i (S.2.1.2.2.2.2.1 - i) (0, 0, 0, 0)).2.2.2)) S.2.1.2.2.2.2.1 0 → CH hX S → gro h hX → run 13 [(2, .int (nI i)), (0, .ref 0), (1, .int px)] [] hX 1 6 := by
    intro hw m
    induction m with
    | zero =>
      intro i hX hi hst hCX hGX
      obtain ⟨ta2, tb2, tc2, td2, te2, tf2, tg2, th2, hTX⟩ := hCX.tour
      refine step.1 _ _ _ _ _ _ _ sgX11_stop_13_ok ?_
      refine ⟨by decide, _, _, hCX.obj, rfl, ?_⟩
      refine ⟨by decide, _, _, hCX.rnd.1, rfl, ?_⟩
      refine ⟨fun c21 => ?_, fun c21 => absurd (nI_le (a := S.2.1.2.2.2.2.1) (b := i) (by omega) (by omega)) c21⟩
      refine step.1 _ _ _ _ _ _ _ sgX11_stop_61_ok ?_
      refine ⟨.int, rfl, rfl, Nat.le_of_ble_eq_true rfl, Nat.le_of_ble_eq_true rfl, ?_⟩
      exact ⟨hw, by rw [← hst]; rfl, hCX, hGX⟩
    | succ m ih =>
      intro i hX hi hst hCX hGX
      obtain ⟨ta2, tb2, tc2, td2, te2, tf2, tg2, th2, hTX⟩ := hCX.tour
      refine step.1 _ _ _ _ _ _ _ sgX11_stop_13_ok ?_
      refine ⟨by decide, _, _, hCX.obj, rfl, ?_⟩
      refine ⟨by decide, _, _, hCX.rnd.1, rfl, ?_⟩
      refine ⟨fun c21 => absurd c21 (nI_ge (by omega) (by omega)), fun c21 => ?_⟩
      refine ⟨by decide, _, _, hCX.obj, rfl, ?_⟩
      refine Or.inl ⟨rfl, _, 6, 0, 0, _, _, _, qi_11_235, ⟨rfl, rfl⟩, ⟨hTX, rfl⟩, rfl, rfl, T_reckon hg (hCX.W hl) hP hk hTX i (by omega), fun y29 h29 hy29 => ?_⟩
      obtain ⟨rfl, hs9, hW9, hT9⟩ := hy29
      have hCW := hCX.up hs9 (fz_cons (cW hW9).1 (fz_cons (cW hW9).2.1 (fz_cons (cW hW9).2.2 (fz_cons ⟨_, hT9, _, _, _, _, _, _, _, _, rfl⟩ fz_nil))))
      have hGW := hGX.tr (gro.of hs9 rfl)
      refine ⟨by decide, _, _, hCW.obj, rfl, ?_⟩
      refine ⟨by decide, _, _, hT9, rfl, ?_⟩
      refine ⟨by decide, _, _, hCW.obj, rfl, ?_⟩
      refine ⟨by decide, _, _, hT9, rfl, ?_⟩
      refine ⟨fun c50 => ?_, fun c50 => ?_⟩
      · have c50 : (fun i => decide ((tsum S.2.1.1 S.2.2.2.2.1.1.1 S.2.2.2.2.1.1.2.1 S.2.2.2.2.1.1.2.2 (nI S.2.2.2.1.2) S.2.1.2.2.2.2.2.2.1 S.2.1.2.2.2.2.2.2.2.1 pf vf rf i (S.2.1.2.2.2.2.1 - i) (0, 0, 0, 0)).2.1 < px.toInt64 * (tsum S.2.1.1 S.2.2.2.2.1.1.1 S.2.2.2.2.1.1.2.1 S.2.2.2.2.1.1.2.2 (nI S.2.2.2.1.2) S.2.1.2.2.2.2.2.2.1 S.2.1.2.2.2.2.2.2.2.1 pf vf rf i (S.2.1.2.2.2.2.1 - i) (0, 0, 0, 0)).2.2.2)) i = false := decide_eq_false (Int64.not_lt.mpr ((lgc_ge _ _).mp c50))
        refine step.1 _ _ _ _ _ _ _ sgX11_stop_55_ok ?_
        have e9 : llineF (fun i => decide ((tsum S.2.1.1 S.2.2.2.2.1.1.1 S.2.2.2.2.1.1.2.1 S.2.2.2.2.1.1.2.2 (nI S.2.2.2.1.2) S.2.1.2.2.2.2.2.2.1 S.2.1.2.2.2.2.2.2.2.1 pf vf rf i (S.2.1.2.2.2.2.1 - i) (0, 0, 0, 0)).2.1 < px.toInt64 * (tsum S.2.1.1 S.2.2.2.2.1.1.1 S.2.2.2.2.1.1.2.1 S.2.2.2.2.1.1.2.2 (nI S.2.2.2.1.2) S.2.1.2.2.2.2.2.2.1 S.2.1.2.2.2.2.2.2.2.1 pf vf rf i (S.2.1.2.2.2.2.1 - i) (0, 0, 0, 0)).2.2.2)) (m + 1) i = llineF (fun i => decide ((tsum S.2.1.1 S.2.2.2.2.1.1.1 S.2.2.2.2.1.1.2.1 S.2.2.2.2.1.1.2.2 (nI S.2.2.2.1.2) S.2.1.2.2.2.2.2.2.1 S.2.1.2.2.2.2.2.2.2.1 pf vf rf i (S.2.1.2.2.2.2.1 - i) (0, 0, 0, 0)).2.1 < px.toInt64 * (tsum S.2.1.1 S.2.2.2.2.1.1.1 S.2.2.2.2.1.1.2.1 S.2.2.2.2.1.1.2.2 (nI S.2.2.2.1.2) S.2.1.2.2.2.2.2.2.1 S.2.1.2.2.2.2.2.2.2.1 pf vf rf i (S.2.1.2.2.2.2.1 - i) (0, 0, 0, 0)).2.2.2)) m (i + 1) := if_neg (fun z => Bool.false_ne_true (c50.symm.trans z))
        have kk2 := ih (i + 1) h29 (by omega) (e9.symm.trans hst) hCW hGW
        rw [← nI_1] at kk2
        exact kk2
      · have c50 : (fun i => decide ((tsum S.2.1.1 S.2.2.2.2.1.1.1 S.2.2.2.2.1.1.2.1 S.2.2.2.2.1.1.2.2 (nI S.2.2.2.1.2) S.2.1.2.2.2.2.2.2.1 S.2.1.2.2.2.2.2.2.2.1 pf vf rf i (S.2.1.2.2.2.2.1 - i) (0, 0, 0, 0)).2.1 < px.toInt64 * (tsum S.2.1.1 S.2.2.2.2.1.1.1 S.2.2.2.2.1.1.2.1 S.2.2.2.2.1.1.2.2 (nI S.2.2.2.1.2) S.2.1.2.2.2.2.2.2.1 S.2.1.2.2.2.2.2.2.2.1 pf vf rf i (S.2.1.2.2.2.2.1 - i) (0, 0, 0, 0)).2.2.2)) i = true := decide_eq_true (Int64.not_le.mp (fun z => c50 ((lgc_ge _ _).mpr z)))
        refine ⟨.int, rfl, rfl, Nat.le_of_ble_eq_true rfl, Nat.le_of_ble_eq_true rfl, ?_⟩
        have e9 : llineF (fun i => decide ((tsum S.2.1.1 S.2.2.2.2.1.1.1 S.2.2.2.2.1.1.2.1 S.2.2.2.2.1.1.2.2 (nI S.2.2.2.1.2) S.2.1.2.2.2.2.2.2.1 S.2.1.2.2.2.2.2.2.2.1 pf vf rf i (S.2.1.2.2.2.2.1 - i) (0, 0, 0, 0)).2.1 < px.toInt64 * (tsum S.2.1.1 S.2.2.2.2.1.1.1 S.2.2.2.2.1.1.2.1 S.2.2.2.2.1.1.2.2 (nI S.2.2.2.1.2) S.2.1.2.2.2.2.2.2.1 S.2.1.2.2.2.2.2.2.2.1 pf vf rf i (S.2.1.2.2.2.2.1 - i) (0, 0, 0, 0)).2.2.2)) (m + 1) i = nI i := if_pos c50
        exact ⟨hw, by rw [← hst]; exact congrArg (fun z => some (Value.int z)) e9.symm, hCW, hGW⟩
  refine step.1 _ _ _ _ _ _ _ sgX11_stop_0_ok ?_
  refine Or.inl ⟨rfl, _, 1, 0, 0, _, Or.inl qi_11_147, ⟨rfl, rfl⟩, rfl, rfl, sp_within hg _ _ _, fun y5 h5 hy5 => ?_⟩
  obtain ⟨rfl, hh⟩ := hy5
  rw [hh]
  clear hh
  refine Or.inr ⟨rfl, _, 6, 1, 6, _, _, _, _, qi_11_151, ⟨rfl, rfl⟩, ⟨hC.obj, rfl⟩, rfl, rfl, X_need hg hT hC _, fun y8 h8 hy8 => ?_, fun E h9 z => ⟨z.mono (fun k hk => ⟨hk.1, hk.2⟩), Nat.le_of_ble_eq_true rfl, Nat.le_of_ble_eq_true rfl⟩⟩
  obtain ⟨hw, rfl, hh⟩ := hy8
  rw [hh]
  clear hh
  exact loop hw S.2.1.2.2.2.2.1 0 h (by omega) rfl hC gro.rf

theorem F_best {g : qG} (hg : qOK g) (hT : qTHR g) {h : qH} {S : CS} (hC : CH h S) (hn : S.2.1.2.2.2.1 ≤ 10) (hl : lwf S.2.2.2.2.1.1) (w pt : Int32) : qSpecX g 12 4 24 mX11_best [.ref 0, .int w, .int pt] h (fun r h' => (wi 0 9 w && wi 0 1 pt) = true ∧ S.2.1.2.2.2.1 ≤ 5 ∧ ∃ (VL HO : Nat → Int64) (LN CO SZ FO CHo : Nat → Int32), r = some (.long (lterms (bend S.2.1.1 S.2.1.2.2.2.2.2.2.1 S.2.1.2.2.2.2.2.2.2.2 S.2.1.2.2.2.1 (kend S.2.1.1 S.2.2.2.2.1.1.1 S.2.2.2.2.1.1.2.1 S.2.2.2.2.1.1.2.2 (nI S.2.2.2.1.2) S.2.1.2.2.2.2.2.2.2.1 w S.2.1.2.2.2.1 (VL, LN, CO, SZ, HO)) FO CHo).1 268435456 pt)) ∧ CH h' S ∧ gro h h') (TX h S (fun k => (k = 1 ∧ ¬ (wi 0 9 w && wi 0 1 pt) = true) ∨ (k = 2 ∧ (wi 0 9 w && wi 0 1 pt) = true ∧ ¬ S.2.1.2.2.2.1 ≤ 5))) := by
  refine qSpecX_runT "best" hg hT mX11_best_ok rfl rfl (Nat.le_of_ble_eq_true rfl) ?_
  intro run step stepT
  obtain ⟨sdc, sfv, sfl, hSe⟩ := hC.search
  obtain ⟨VL, HO, LN, CO, SZ, hSl⟩ := hC.lists
  obtain ⟨CHo, hS60⟩ := hC.chosen
  obtain ⟨FO, hS61⟩ := hC.found
  refine step.1 _ _ _ _ _ _ _ sgX11_best_0_ok ?_
  refine Or.inl ⟨rfl, _, 1, 0, 0, _, Or.inl qi_11_147, ⟨rfl, rfl⟩, rfl, rfl, sp_within hg _ _ _, fun y5 h5 hy5 => ?_⟩
  obtain ⟨rfl, hh⟩ := hy5
  rw [hh]
  clear hh
  refine ⟨fun c8 => ?_, fun c8 => ?_⟩
  · have w8 : wi 0 9 w = false := qb_0.mp c8
    refine step.1 _ _ _ _ _ _ _ sgX11_best_24_ok ?_
    refine step.1 _ _ _ _ _ _ _ sgX11_best_25_ok ?_
    refine Or.inr ⟨rfl, _, 6, 1, 6, _, _, _, _, qi_11_151, ⟨rfl, rfl⟩, ⟨hC.obj, rfl⟩, rfl, rfl, X_need hg hT hC false, fun y25 h25 hy25 => ?_, fun E h9 z => ⟨z.mono (fun k hk => Or.inl (⟨hk.1, fun z => by rw [w8] at z; cases z⟩)), Nat.le_of_ble_eq_true rfl, Nat.le_of_ble_eq_true rfl⟩⟩
    obtain ⟨hbad, rfl, hh⟩ := hy25
    rw [hh]
    clear hh
    cases hbad
    
  · have w8 : wi 0 9 w = true := qb_1.mp c8
    refine Or.inl ⟨rfl, _, 1, 0, 0, _, Or.inl qi_11_147, ⟨rfl, rfl⟩, rfl, rfl, sp_within hg _ _ _, fun y14 h14 hy14 => ?_⟩
    obtain ⟨rfl, hh⟩ := hy14
    rw [hh]
    clear hh
    refine ⟨fun c17 => ?_, fun c17 => ?_⟩
    · have w17 : wi 0 1 pt = false := qb_0.mp c17
      refine step.1 _ _ _ _ _ _ _ sgX11_best_24_ok ?_
      refine step.1 _ _ _ _ _ _ _ sgX11_best_25_ok ?_
      refine Or.inr ⟨rfl, _, 6, 1, 6, _, _, _, _, qi_11_151, ⟨rfl, rfl⟩, ⟨hC.obj, rfl⟩, rfl, rfl, X_need hg hT hC false, fun y25 h25 hy25 => ?_, fun E h9 z => ⟨z.mono (fun k hk => Or.inl (⟨hk.1, fun z => by rw [w8, w17] at z; cases z⟩)), Nat.le_of_ble_eq_true rfl, Nat.le_of_ble_eq_true rfl⟩⟩
      obtain ⟨hbad, rfl, hh⟩ := hy25
      rw [hh]
      clear hh
      cases hbad
      
    · have w17 : wi 0 1 pt = true := qb_1.mp c17
      refine step.1 _ _ _ _ _ _ _ sgX11_best_25_ok ?_
      refine Or.inr ⟨rfl, _, 6, 1, 6, _, _, _, _, qi_11_151, ⟨rfl, rfl⟩, ⟨hC.obj, rfl⟩, rfl, rfl, X_need hg hT hC true, fun y25 h25 hy25 => ?_, fun E h9 z => ⟨z.mono (fun k hk => Or.inl (⟨hk.1, absurd rfl hk.2⟩)), Nat.le_of_ble_eq_true rfl, Nat.le_of_ble_eq_true rfl⟩⟩
      obtain ⟨hok, rfl, hh⟩ := hy25
      rw [hh]
      clear hh
      have hw : (wi 0 9 w && wi 0 1 pt) = true := by rw [w8, w17]; rfl
      refine Or.inr ⟨rfl, _, 6, 1, 6, _, _, _, _, qi_11_245, ⟨rfl, rfl⟩, ⟨hC.obj, rfl⟩, rfl, rfl, X_needFew hg hT hC hn, fun y29 h29 hy29 => ?_, fun E h9 z => ⟨z.mono (fun k hk => Or.inr (⟨hk.1, hw, hk.2⟩)), Nat.le_of_ble_eq_true rfl, Nat.le_of_ble_eq_true rfl⟩⟩
      obtain ⟨h5, rfl, hh⟩ := hy29
      rw [hh]
      clear hh
      refine ⟨by decide, _, _, hC.obj, rfl, ?_⟩
      refine Or.inl ⟨rfl, _, 10, 0, 0, _, _, _, qi_11_248, ⟨rfl, rfl⟩, ⟨hSe, rfl⟩, rfl, rfl, S_seek hg (hC.W hl) h5 hSe hSl hS60 hS61 w, fun y37 h37 hy37 => ?_⟩
      obtain ⟨rfl, hs9, hW9, hE9, h619, h609, hSl9⟩ := hy37
      have hCW := hC.up hs9 (fz_cons (cW hW9).1 (fz_cons (cW hW9).2.1 (fz_cons (cW hW9).2.2 (fz_cons ⟨_, hE9, _, _, _, rfl⟩ (fz_cons ⟨_, hSl9.1, _, rfl⟩ (fz_cons ⟨_, hSl9.2.1, _, rfl⟩ (fz_cons ⟨_, hSl9.2.2.1, _, rfl⟩ (fz_cons ⟨_, hSl9.2.2.2.1, _, rfl⟩ (fz_cons ⟨_, hSl9.2.2.2.2, _, rfl⟩ (fz_cons ⟨_, h609, _, rfl⟩ (fz_cons ⟨_, h619, _, rfl⟩ fz_nil)))))))))))
      have hGW := gro.of hs9 rfl
      refine ⟨by decide, _, _, hCW.obj, rfl, ?_⟩
      refine ⟨by decide, _, _, hE9, rfl, ?_⟩
      refine Or.inl ⟨rfl, _, 2, 0, 0, _, Or.inl qi_11_231, ⟨rfl, rfl⟩, rfl, rfl, X_terms hg _ _ _, fun y51 h51 hy51 => ?_⟩
      obtain ⟨rfl, hh⟩ := hy51
      rw [hh]
      clear hh
      refine ⟨rfl, Nat.le_of_ble_eq_true rfl, Nat.le_of_ble_eq_true rfl, ?_⟩
      exact ⟨hw, h5, VL, HO, LN, CO, SZ, FO, CHo, rfl, hCW, hGW⟩
theorem F_bestLong {g : qG} (hg : qOK g) (hT : qTHR g) {h : qH} {S : CS} (hC : CH h S) (hn : S.2.1.2.2.2.1 ≤ 10) (hl : lwf S.2.2.2.2.1.1) (w : Int32) : qSpecX g 12 4 24 mX11_bestLong [.ref 0, .int w] h (fun r h' => wi 0 9 w = true ∧ S.2.1.2.2.2.1 ≤ 5 ∧ ∃ (VL HO : Nat → Int64) (LN CO SZ FO CHo : Nat → Int32), r = some (.int (bend S.2.1.1 S.2.1.2.2.2.2.2.2.1 S.2.1.2.2.2.2.2.2.2.2 S.2.1.2.2.2.1 (kend S.2.1.1 S.2.2.2.2.1.1.1 S.2.2.2.2.1.1.2.1 S.2.2.2.2.1.1.2.2 (nI S.2.2.2.1.2) S.2.1.2.2.2.2.2.2.2.1 w S.2.1.2.2.2.1 (VL, LN, CO, SZ, HO)) FO CHo).2.1) ∧ CH h' S ∧ gro h h') (TX h S (fun k => (k = 1 ∧ ¬ wi 0 9 w = true) ∨ (k = 2 ∧ wi 0 9 w = true ∧ ¬ S.2.1.2.2.2.1 ≤ 5))) := by
  refine qSpecX_runT "bestLong" hg hT mX11_bestLong_ok rfl rfl (Nat.le_of_ble_eq_true rfl) ?_
  intro run step stepT
  obtain ⟨sdc, sfv, sfl, hSe⟩ := hC.search
  obtain ⟨VL, HO, LN, CO, SZ, hSl⟩ := hC.lists
  obtain ⟨CHo, hS60⟩ := hC.chosen
  obtain ⟨FO, hS61⟩ := hC.found
  refine step.1 _ _ _ _ _ _ _ sgX11_bestLong_0_ok ?_
  refine Or.inl ⟨rfl, _, 1, 0, 0, _, Or.inl qi_11_147, ⟨rfl, rfl⟩, rfl, rfl, sp_within hg _ _ _, fun y5 h5 hy5 => ?_⟩
  obtain ⟨rfl, hh⟩ := hy5
  rw [hh]
  clear hh
  refine Or.inr ⟨rfl, _, 6, 1, 6, _, _, _, _, qi_11_151, ⟨rfl, rfl⟩, ⟨hC.obj, rfl⟩, rfl, rfl, X_need hg hT hC _, fun y8 h8 hy8 => ?_, fun E h9 z => ⟨z.mono (fun k hk => Or.inl (⟨hk.1, hk.2⟩)), Nat.le_of_ble_eq_true rfl, Nat.le_of_ble_eq_true rfl⟩⟩
  obtain ⟨hw, rfl, hh⟩ := hy8
  rw [hh]
  clear hh
  refine Or.inr ⟨rfl, _, 6, 1, 6, _, _, _, _, qi_11_245, ⟨rfl, rfl⟩, ⟨hC.obj, rfl⟩, rfl, rfl, X_needFew hg hT hC hn, fun y12 h12 hy12 => ?_, fun E h9 z => ⟨z.mono (fun k hk => Or.inr (⟨hk.1, hw, hk.2⟩)), Nat.le_of_ble_eq_true rfl, Nat.le_of_ble_eq_true rfl⟩⟩
  obtain ⟨h5, rfl, hh⟩ := hy12
  rw [hh]
  clear hh
  refine ⟨by decide, _, _, hC.obj, rfl, ?_⟩
  refine Or.inl ⟨rfl, _, 10, 0, 0, _, _, _, qi_11_248, ⟨rfl, rfl⟩, ⟨hSe, rfl⟩, rfl, rfl, S_seek hg (hC.W hl) h5 hSe hSl hS60 hS61 w, fun y20 h20 hy20 => ?_⟩
  obtain ⟨rfl, hs9, hW9, hE9, h619, h609, hSl9⟩ := hy20
  have hCW := hC.up hs9 (fz_cons (cW hW9).1 (fz_cons (cW hW9).2.1 (fz_cons (cW hW9).2.2 (fz_cons ⟨_, hE9, _, _, _, rfl⟩ (fz_cons ⟨_, hSl9.1, _, rfl⟩ (fz_cons ⟨_, hSl9.2.1, _, rfl⟩ (fz_cons ⟨_, hSl9.2.2.1, _, rfl⟩ (fz_cons ⟨_, hSl9.2.2.2.1, _, rfl⟩ (fz_cons ⟨_, hSl9.2.2.2.2, _, rfl⟩ (fz_cons ⟨_, h609, _, rfl⟩ (fz_cons ⟨_, h619, _, rfl⟩ fz_nil)))))))))))
  have hGW := gro.of hs9 rfl
  refine ⟨by decide, _, _, hCW.obj, rfl, ?_⟩
  refine ⟨by decide, _, _, hE9, rfl, ?_⟩
  refine ⟨.int, rfl, rfl, Nat.le_of_ble_eq_true rfl, Nat.le_of_ble_eq_true rfl, ?_⟩
  exact ⟨hw, h5, VL, HO, LN, CO, SZ, FO, CHo, rfl, hCW, hGW⟩
theorem F_bestAt {g : qG} (hg : qOK g) (hT : qTHR g) {h : qH} {S : CS} (hC : CH h S) (hn : S.2.1.2.2.2.1 ≤ 10) (hl : lwf S.2.2.2.2.1.1) (w dr : Int32) : qSpecX g 12 4 24 mX11_bestAt [.ref 0, .int w, .int dr] h (fun r h' => wi 0 9 w = true ∧ S.2.1.2.2.2.1 ≤ 5 ∧ ∃ x : Nat, x < S.2.1.2.2.2.1 ∧ dr = nI x ∧ ∃ (VL HO : Nat → Int64) (LN CO SZ FO CHo : Nat → Int32), r = some (.int ((bend S.2.1.1 S.2.1.2.2.2.2.2.2.1 S.2.1.2.2.2.2.2.2.2.2 S.2.1.2.2.2.1 (kend S.2.1.1 S.2.2.2.2.1.1.1 S.2.2.2.2.1.1.2.1 S.2.2.2.2.1.1.2.2 (nI S.2.2.2.1.2) S.2.1.2.2.2.2.2.2.2.1 w S.2.1.2.2.2.1 (VL, LN, CO, SZ, HO)) FO CHo).2.2.1 x)) ∧ CH h' S ∧ gro h h') (TX h S (fun k => (k = 0 ∧ ¬ wi 0 (nI S.2.1.2.2.2.1 - 1) dr = true) ∨ (k = 1 ∧ wi 0 (nI S.2.1.2.2.2.1 - 1) dr = true ∧ ¬ wi 0 9 w = true) ∨ (k = 2 ∧ wi 0 (nI S.2.1.2.2.2.1 - 1) dr = true ∧ wi 0 9 w = true ∧ ¬ S.2.1.2.2.2.1 ≤ 5))) := by
  refine qSpecX_runT "bestAt" hg hT mX11_bestAt_ok rfl rfl (Nat.le_of_ble_eq_true rfl) ?_
  intro run step stepT
  obtain ⟨sdc, sfv, sfl, hSe⟩ := hC.search
  obtain ⟨VL, HO, LN, CO, SZ, hSl⟩ := hC.lists
  obtain ⟨CHo, hS60⟩ := hC.chosen
  obtain ⟨FO, hS61⟩ := hC.found
  refine step.1 _ _ _ _ _ _ _ sgX11_bestAt_0_ok ?_
  refine Or.inr ⟨rfl, _, 7, 1, 6, _, _, _, _, qi_11_196, ⟨rfl, rfl⟩, ⟨hC.obj, rfl⟩, rfl, rfl, X_needDoor hg hT hC _, fun y2 h2 hy2 => ?_, fun E h9 z => ⟨z.mono (fun k hk => Or.inl (⟨hk.1, hk.2⟩)), Nat.le_of_ble_eq_true rfl, Nat.le_of_ble_eq_true rfl⟩⟩
  obtain ⟨hD, rfl, hh⟩ := hy2
  rw [hh]
  clear hh
  refine Or.inl ⟨rfl, _, 1, 0, 0, _, Or.inl qi_11_147, ⟨rfl, rfl⟩, rfl, rfl, sp_within hg _ _ _, fun y10 h10 hy10 => ?_⟩
  obtain ⟨rfl, hh⟩ := hy10
  rw [hh]
  clear hh
  refine Or.inr ⟨rfl, _, 6, 1, 6, _, _, _, _, qi_11_151, ⟨rfl, rfl⟩, ⟨hC.obj, rfl⟩, rfl, rfl, X_need hg hT hC _, fun y13 h13 hy13 => ?_, fun E h9 z => ⟨z.mono (fun k hk => Or.inr (Or.inl (⟨hk.1, hD, hk.2⟩))), Nat.le_of_ble_eq_true rfl, Nat.le_of_ble_eq_true rfl⟩⟩
  obtain ⟨hw, rfl, hh⟩ := hy13
  rw [hh]
  clear hh
  refine Or.inr ⟨rfl, _, 6, 1, 6, _, _, _, _, qi_11_245, ⟨rfl, rfl⟩, ⟨hC.obj, rfl⟩, rfl, rfl, X_needFew hg hT hC hn, fun y17 h17 hy17 => ?_, fun E h9 z => ⟨z.mono (fun k hk => Or.inr (Or.inr (⟨hk.1, hD, hw, hk.2⟩))), Nat.le_of_ble_eq_true rfl, Nat.le_of_ble_eq_true rfl⟩⟩
  obtain ⟨h5, rfl, hh⟩ := hy17
  rw [hh]
  clear hh
  obtain ⟨x, hx, ex⟩ := wi_lt (by omega) hD
  refine ⟨by decide, _, _, hC.obj, rfl, ?_⟩
  refine Or.inl ⟨rfl, _, 10, 0, 0, _, _, _, qi_11_248, ⟨rfl, rfl⟩, ⟨hSe, rfl⟩, rfl, rfl, S_seek hg (hC.W hl) h5 hSe hSl hS60 hS61 w, fun y25 h25 hy25 => ?_⟩
  obtain ⟨rfl, hs9, hW9, hE9, h619, h609, hSl9⟩ := hy25
  have hCW := hC.up hs9 (fz_cons (cW hW9).1 (fz_cons (cW hW9).2.1 (fz_cons (cW hW9).2.2 (fz_cons ⟨_, hE9, _, _, _, rfl⟩ (fz_cons ⟨_, hSl9.1, _, rfl⟩ (fz_cons ⟨_, hSl9.2.1, _, rfl⟩ (fz_cons ⟨_, hSl9.2.2.1, _, rfl⟩ (fz_cons ⟨_, hSl9.2.2.2.1, _, rfl⟩ (fz_cons ⟨_, hSl9.2.2.2.2, _, rfl⟩ (fz_cons ⟨_, h609, _, rfl⟩ (fz_cons ⟨_, h619, _, rfl⟩ fz_nil)))))))))))
  have hGW := gro.of hs9 rfl
  refine ⟨by decide, _, _, hCW.obj, rfl, ?_⟩
  refine Or.inl ⟨rfl, _, 2, 0, 0, _, _, _, qi_11_255, ⟨rfl, rfl⟩, ⟨hE9, rfl⟩, rfl, rfl, (by rw [ex]; exact S_foundAt hg hE9 h619 x (by omega)), fun y33 h33 hy33 => ?_⟩
  obtain ⟨rfl, hh⟩ := hy33
  rw [hh]
  clear hh
  refine ⟨.int, rfl, rfl, Nat.le_of_ble_eq_true rfl, Nat.le_of_ble_eq_true rfl, ?_⟩
  exact ⟨hw, h5, x, hx, ex, VL, HO, LN, CO, SZ, FO, CHo, rfl, hCW, hGW⟩
theorem F_solos {g : qG} (hg : qOK g) {h : qH} {S : CS} (hC : CH h S) {pf vf rf : Nat → Nat} (hk : S.2.1.2.2.2.2.1 ≤ 10) (hP : isP S.2.1.2.1 S.2.1.2.2.2.2.1 pf vf rf) (hl : lwf S.2.2.2.2.1.1) {so : Nat} (hm : S.2.2.2.1.2 ≤ 8) (hso : csol S.2.2.2.1.1 0 S.2.2.2.1.2 0 = nI so) (h72 : so ≤ 72) : qSpec g 7 0 0 mX11_solos [.ref 0] h (fun r h' => ∃ W0 : Nat → Int64, (∀ j : Nat, j < 10 → W0 j = -1) ∧ r = some (.int (stakes (min so S.2.1.2.2.2.2.1) (swl S.2.1.1 S.2.2.2.2.1.1.1 S.2.2.2.2.1.1.2.1 S.2.2.2.2.1.1.2.2 (nI S.2.2.2.1.2) S.2.1.2.2.2.2.2.2.2.1 pf vf rf 0 S.2.1.2.2.2.2.1 W0, 0, 0)).2.1) ∧ CH h' S ∧ gro h h') := by
  refine qSpec_run 11 "solos" false hg mX11_solos_ok rfl rfl (Nat.le_of_ble_eq_true rfl) (by decide) ?_
  intro run step
  obtain ⟨ta, tb, tc, td, te, tf, tg, th, hTo⟩ := hC.tour
  obtain ⟨W, h51⟩ := hC.worths
  refine step.1 _ _ _ _ _ _ _ sgX11_solos_0_ok ?_
  refine ⟨by decide, _, _, hC.obj, rfl, ?_⟩
  refine Or.inl ⟨rfl, _, 6, 0, 0, _, _, _, qi_11_291, ⟨rfl, rfl⟩, ⟨hTo, rfl⟩, rfl, rfl, T_chooseSolos hg (hC.W hl) hP hk hm hso h72 hTo h51, fun y4 h4 hy4 => ?_⟩
  obtain ⟨rfl, W0, hW0, hs9, hW9, hT9, h519⟩ := hy4
  have hCW := hC.up hs9 (fz_cons (cW hW9).1 (fz_cons (cW hW9).2.1 (fz_cons (cW hW9).2.2 (fz_cons ⟨_, hT9, _, _, _, _, _, _, _, _, rfl⟩ (fz_cons ⟨_, h519, _, rfl⟩ fz_nil)))))
  have hGW := gro.of hs9 rfl
  refine ⟨by decide, _, _, hCW.obj, rfl, ?_⟩
  refine ⟨by decide, _, _, hT9, rfl, ?_⟩
  refine ⟨.int, rfl, rfl, Nat.le_refl _, Nat.le_refl _, ?_⟩
  exact ⟨W0, hW0, rfl, hCW, hGW⟩
theorem F_soloJoy {g : qG} (hg : qOK g) (hT : qTHR g) {h : qH} {S : CS} (hC : CH h S) {pf vf rf : Nat → Nat} (hk : S.2.1.2.2.2.2.1 ≤ 10) (hP : isP S.2.1.2.1 S.2.1.2.2.2.2.1 pf vf rf) (hl : lwf S.2.2.2.2.1.1) {so : Nat} (hm : S.2.2.2.1.2 ≤ 8) (hso : csol S.2.2.2.1.1 0 S.2.2.2.1.2 0 = nI so) (h72 : so ≤ 72) (pt : Int32) : qSpecX g 9 4 24 mX11_soloJoy [.ref 0, .int pt] h (fun r h' => wi 0 1 pt = true ∧ ∃ W0 : Nat → Int64, (∀ j : Nat, j < 10 → W0 j = -1) ∧ r = some (.long (lterms (stakes (min so S.2.1.2.2.2.2.1) (swl S.2.1.1 S.2.2.2.2.1.1.1 S.2.2.2.2.1.1.2.1 S.2.2.2.2.1.1.2.2 (nI S.2.2.2.1.2) S.2.1.2.2.2.2.2.2.2.1 pf vf rf 0 S.2.1.2.2.2.2.1 W0, 0, 0)).2.2 268435456 pt)) ∧ CH h' S ∧ gro h h') (TX h S (fun k => (k = 1 ∧ ¬ wi 0 1 pt = true))) := by
  refine qSpecX_runT "soloJoy" hg hT mX11_soloJoy_ok rfl rfl (Nat.le_of_ble_eq_true rfl) ?_
  intro run step stepT
  obtain ⟨ta, tb, tc, td, te, tf, tg, th, hTo⟩ := hC.tour
  obtain ⟨W, h51⟩ := hC.worths
  refine step.1 _ _ _ _ _ _ _ sgX11_soloJoy_0_ok ?_
  refine Or.inl ⟨rfl, _, 1, 0, 0, _, Or.inl qi_11_147, ⟨rfl, rfl⟩, rfl, rfl, sp_within hg _ _ _, fun y4 h4 hy4 => ?_⟩
  obtain ⟨rfl, hh⟩ := hy4
  rw [hh]
  clear hh
  refine Or.inr ⟨rfl, _, 6, 1, 6, _, _, _, _, qi_11_151, ⟨rfl, rfl⟩, ⟨hC.obj, rfl⟩, rfl, rfl, X_need hg hT hC _, fun y7 h7 hy7 => ?_, fun E h9 z => ⟨z.mono (fun k hk => ⟨hk.1, hk.2⟩), Nat.le_of_ble_eq_true rfl, Nat.le_of_ble_eq_true rfl⟩⟩
  obtain ⟨hw, rfl, hh⟩ := hy7
  rw [hh]
  clear hh
  refine ⟨by decide, _, _, hC.obj, rfl, ?_⟩
  refine Or.inl ⟨rfl, _, 6, 0, 0, _, _, _, qi_11_291, ⟨rfl, rfl⟩, ⟨hTo, rfl⟩, rfl, rfl, T_chooseSolos hg (hC.W hl) hP hk hm hso h72 hTo h51, fun y14 h14 hy14 => ?_⟩
  obtain ⟨rfl, W0, hW0, hs9, hW9, hT9, h519⟩ := hy14
  have hCW := hC.up hs9 (fz_cons (cW hW9).1 (fz_cons (cW hW9).2.1 (fz_cons (cW hW9).2.2 (fz_cons ⟨_, hT9, _, _, _, _, _, _, _, _, rfl⟩ (fz_cons ⟨_, h519, _, rfl⟩ fz_nil)))))
  have hGW := gro.of hs9 rfl
  refine ⟨by decide, _, _, hCW.obj, rfl, ?_⟩
  refine ⟨by decide, _, _, hT9, rfl, ?_⟩
  refine Or.inl ⟨rfl, _, 2, 0, 0, _, Or.inl qi_11_231, ⟨rfl, rfl⟩, rfl, rfl, X_terms hg _ _ _, fun y28 h28 hy28 => ?_⟩
  obtain ⟨rfl, hh⟩ := hy28
  rw [hh]
  clear hh
  refine ⟨rfl, Nat.le_of_ble_eq_true rfl, Nat.le_of_ble_eq_true rfl, ?_⟩
  exact ⟨hw, W0, hW0, rfl, hCW, hGW⟩
theorem F_party {g : qG} (hg : qOK g) (hT : qTHR g) {h : qH} {S : CS} (hC : CH h S) (hn : S.2.1.2.2.2.1 ≤ 10) (v : Int32) : qSpecX g 8 4 24 mX11_party [.ref 0, .int v] h (fun r h' => wi 0 1 v = true ∧ ∃ (w : Nat → Nat) (a0 : Nat → Int32), (∀ j, w j < 10) ∧ (∀ j : Nat, j < 11 → a0 j = 0) ∧ r = some (.int (if v = 0 then (pout S.2.1.1 (srow S.2.1.1 S.2.1.2.2.2.1 0 w) S.2.1.2.2.2.1 S.2.1.2.2.2.1 1 (a0, -1)).1 0 else (pout S.2.1.1 (srow S.2.1.1 S.2.1.2.2.2.1 0 w) S.2.1.2.2.2.1 S.2.1.2.2.2.1 1 (a0, -1)).2)) ∧ CH h' S ∧ gro h h') (TX h S (fun k => (k = 1 ∧ ¬ wi 0 1 v = true))) := by
  refine qSpecX_runT "party" hg hT mX11_party_ok rfl rfl (Nat.le_of_ble_eq_true rfl) ?_
  intro run step stepT
  obtain ⟨ta, tb, tc, td, te, tf, tg, th, hTo⟩ := hC.tour
  obtain ⟨w, hw10, h52⟩ := hC.row
  obtain ⟨ah, h53⟩ := hC.ahead
  refine step.1 _ _ _ _ _ _ _ sgX11_party_0_ok ?_
  refine Or.inl ⟨rfl, _, 1, 0, 0, _, Or.inl qi_11_147, ⟨rfl, rfl⟩, rfl, rfl, sp_within hg _ _ _, fun y4 h4 hy4 => ?_⟩
  obtain ⟨rfl, hh⟩ := hy4
  rw [hh]
  clear hh
  refine Or.inr ⟨rfl, _, 6, 1, 6, _, _, _, _, qi_11_151, ⟨rfl, rfl⟩, ⟨hC.obj, rfl⟩, rfl, rfl, X_need hg hT hC _, fun y7 h7 hy7 => ?_, fun E h9 z => ⟨z.mono (fun k hk => ⟨hk.1, hk.2⟩), Nat.le_of_ble_eq_true rfl, Nat.le_of_ble_eq_true rfl⟩⟩
  obtain ⟨hw, rfl, hh⟩ := hy7
  rw [hh]
  clear hh
  refine ⟨by decide, _, _, hC.obj, rfl, ?_⟩
  refine Or.inl ⟨rfl, _, 3, 0, 0, _, _, _, qi_11_300, ⟨rfl, rfl⟩, ⟨hTo, rfl⟩, rfl, rfl, T_playParty hg hC.rnd hn hTo hw10 h52 h53, fun y14 h14 hy14 => ?_⟩
  obtain ⟨rfl, hs9, h529, a0, ha0, hT9, h539⟩ := hy14
  have hCW := hC.up hs9 (fz_cons ⟨_, hT9, _, _, _, _, _, _, _, _, rfl⟩ (fz_cons ⟨_, h529, _, srow_lt _ _ _ _ (by omega) hw10, rfl⟩ (fz_cons ⟨_, h539, _, rfl⟩ fz_nil)))
  have hGW := gro.of hs9 rfl
  refine ⟨fun c18 => ?_, fun c18 => ?_⟩
  · have c18 : ¬ v = 0 := c18
    refine step.1 _ _ _ _ _ _ _ sgX11_party_31_ok ?_
    refine ⟨by decide, _, _, hCW.obj, rfl, ?_⟩
    refine ⟨by decide, _, _, hT9, rfl, ?_⟩
    refine step.1 _ _ _ _ _ _ _ sgX11_party_38_ok ?_
    refine ⟨.int, rfl, rfl, Nat.le_of_ble_eq_true rfl, Nat.le_of_ble_eq_true rfl, ?_⟩
    exact ⟨hw, w, a0, hw10, ha0, by rw [if_neg c18], hCW, hGW⟩
  · have c18 : v = 0 := c18
    refine ⟨by decide, _, _, hCW.obj, rfl, ?_⟩
    refine ⟨by decide, _, _, hT9, rfl, ?_⟩
    refine step.1 _ _ _ _ _ _ _ sgX11_party_38_ok ?_
    refine ⟨.int, rfl, rfl, Nat.le_of_ble_eq_true rfl, Nat.le_of_ble_eq_true rfl, ?_⟩
    exact ⟨hw, w, a0, hw10, ha0, by rw [if_pos c18], hCW, hGW⟩
theorem F_gave {g : qG} (hg : qOK g) (hT : qTHR g) {h : qH} {S : CS} (hC : CH h S) (hn : S.2.1.2.2.2.1 ≤ 10) (hb : S.2.2.2.2.2.1.2.2 ≤ 8) (v : Int32) : qSpecX g 8 4 24 mX11_gave [.ref 0, .int v] h (fun r h' => wi 0 3 v = true ∧ ∃ k : Nat, k ≤ 3 ∧ v = nI k ∧ r = some (.int (if k = 0 then (bsets S.2.1.1 S.2.2.2.2.2.1.1 S.2.2.2.2.2.1.2.1 S.2.2.2.2.2.1.2.2 (2 ^ S.2.1.2.2.2.1) 0 (0, -1, nI (2 ^ S.2.1.2.2.2.1 - 1), 0)).1 else if k = 1 then (bsets S.2.1.1 S.2.2.2.2.2.1.1 S.2.2.2.2.2.1.2.1 S.2.2.2.2.2.1.2.2 (2 ^ S.2.1.2.2.2.1) 0 (0, -1, nI (2 ^ S.2.1.2.2.2.1 - 1), 0)).2.1 else if k = 2 then (if (bsets S.2.1.1 S.2.2.2.2.2.1.1 S.2.2.2.2.2.1.2.1 S.2.2.2.2.2.1.2.2 (2 ^ S.2.1.2.2.2.1) 0 (0, -1, nI (2 ^ S.2.1.2.2.2.1 - 1), 0)).1 = 0 then 0 else (bsets S.2.1.1 S.2.2.2.2.2.1.1 S.2.2.2.2.2.1.2.1 S.2.2.2.2.2.1.2.2 (2 ^ S.2.1.2.2.2.1) 0 (0, -1, nI (2 ^ S.2.1.2.2.2.1 - 1), 0)).2.2.1) else (if (bsets S.2.1.1 S.2.2.2.2.2.1.1 S.2.2.2.2.2.1.2.1 S.2.2.2.2.2.1.2.2 (2 ^ S.2.1.2.2.2.1) 0 (0, -1, nI (2 ^ S.2.1.2.2.2.1 - 1), 0)).1 = 0 then 0 else nI (2 ^ S.2.1.2.2.2.1 - 1) &&& ((bsets S.2.1.1 S.2.2.2.2.2.1.1 S.2.2.2.2.2.1.2.1 S.2.2.2.2.2.1.2.2 (2 ^ S.2.1.2.2.2.1) 0 (0, -1, nI (2 ^ S.2.1.2.2.2.1 - 1), 0)).2.2.2 ^^^ -1)))) ∧ CH h' S ∧ gro h h') (TX h S (fun k => (k = 1 ∧ ¬ wi 0 3 v = true))) := by
  refine qSpecX_runT "gave" hg hT mX11_gave_ok rfl rfl (Nat.le_of_ble_eq_true rfl) ?_
  intro run step stepT
  obtain ⟨se, fi, ia, ino, hB⟩ := hC.book
  refine step.1 _ _ _ _ _ _ _ sgX11_gave_0_ok ?_
  refine Or.inl ⟨rfl, _, 1, 0, 0, _, Or.inl qi_11_147, ⟨rfl, rfl⟩, rfl, rfl, sp_within hg _ _ _, fun y4 h4 hy4 => ?_⟩
  obtain ⟨rfl, hh⟩ := hy4
  rw [hh]
  clear hh
  refine Or.inr ⟨rfl, _, 6, 1, 6, _, _, _, _, qi_11_151, ⟨rfl, rfl⟩, ⟨hC.obj, rfl⟩, rfl, rfl, X_need hg hT hC _, fun y7 h7 hy7 => ?_, fun E h9 z => ⟨z.mono (fun k hk => ⟨hk.1, hk.2⟩), Nat.le_of_ble_eq_true rfl, Nat.le_of_ble_eq_true rfl⟩⟩
  obtain ⟨hw, rfl, hh⟩ := hy7
  rw [hh]
  clear hh
  obtain ⟨k, hk, ek⟩ := wi_nat (m := 3) (by decide) hw
  refine ⟨by decide, _, _, hC.obj, rfl, ?_⟩
  refine ⟨by decide, _, _, hC.obj, rfl, ?_⟩
  refine Or.inl ⟨rfl, _, 4, 0, 0, _, _, _, qi_11_309, ⟨rfl, rfl⟩, ⟨hB.1, rfl⟩, rfl, rfl, B_findSets hg hB hb hC.rnd hn, fun y18 h18 hy18 => ?_⟩
  obtain ⟨rfl, hs9, hB9⟩ := hy18
  have hCW := hC.up hs9 (fz_cons ⟨_, hB9.1, _, _, _, _, rfl⟩ fz_nil)
  have hGW := gro.of hs9 rfl
  refine ⟨fun c22 => ⟨72, by decide, ?_⟩, fun j c22a c22b c22j => ?_⟩
  · have e3 : k = 3 := by
      rw [ek, nI_toInt (by omega)] at c22
      omega
    refine step.1 _ _ _ _ _ _ _ sgX11_gave_72_ok ?_
    refine ⟨by decide, _, _, hCW.obj, rfl, ?_⟩
    refine ⟨by decide, _, _, hB9.1, rfl, ?_⟩
    refine ⟨.int, rfl, rfl, Nat.le_of_ble_eq_true rfl, Nat.le_of_ble_eq_true rfl, ?_⟩
    exact ⟨hw, k, hk, ek, by rw [e3]; rfl, hCW, hGW⟩
  · have ew := sw_eq c22a c22j
    rcases (show j = 0 ∨ j = 1 ∨ j = 2 by omega) with rfl | rfl | rfl
    · have e3 : k = 0 := (nI_eq (by omega) (by decide)).mp (ek.symm.trans ew)
      refine ⟨_, 48, rfl, by decide, ?_⟩
      refine step.1 _ _ _ _ _ _ _ sgX11_gave_48_ok ?_
      refine ⟨by decide, _, _, hCW.obj, rfl, ?_⟩
      refine ⟨by decide, _, _, hB9.1, rfl, ?_⟩
      refine ⟨.int, rfl, rfl, Nat.le_of_ble_eq_true rfl, Nat.le_of_ble_eq_true rfl, ?_⟩
      exact ⟨hw, k, hk, ek, by rw [if_pos e3], hCW, hGW⟩
    · have e3 : k = 1 := (nI_eq (by omega) (by decide)).mp (ek.symm.trans ew)
      refine ⟨_, 56, rfl, by decide, ?_⟩
      refine step.1 _ _ _ _ _ _ _ sgX11_gave_56_ok ?_
      refine ⟨by decide, _, _, hCW.obj, rfl, ?_⟩
      refine ⟨by decide, _, _, hB9.1, rfl, ?_⟩
      refine ⟨.int, rfl, rfl, Nat.le_of_ble_eq_true rfl, Nat.le_of_ble_eq_true rfl, ?_⟩
      exact ⟨hw, k, hk, ek, by rw [e3]; rfl, hCW, hGW⟩
    · have e3 : k = 2 := (nI_eq (by omega) (by decide)).mp (ek.symm.trans ew)
      refine ⟨_, 64, rfl, by decide, ?_⟩
      refine step.1 _ _ _ _ _ _ _ sgX11_gave_64_ok ?_
      refine ⟨by decide, _, _, hCW.obj, rfl, ?_⟩
      refine ⟨by decide, _, _, hB9.1, rfl, ?_⟩
      refine ⟨.int, rfl, rfl, Nat.le_of_ble_eq_true rfl, Nat.le_of_ble_eq_true rfl, ?_⟩
      exact ⟨hw, k, hk, ek, by rw [e3]; rfl, hCW, hGW⟩
def nightS (S : CS) (pf vf rf : Nat → Nat) (e : Nat → Int32) (s : Int32) : Nat → Int32 := erun (fun i z => vgift S.2.1.1 S.2.2.2.2.1.1.1 S.2.2.2.2.1.1.2.1 S.2.2.2.2.1.1.2.2 (nI S.2.2.2.1.2) (pf i) z (nI i)) S.2.1.1 S.2.1.2.2.2.2.2.2.2.1 S.2.1.2.2.2.2.2.2.1 S.2.1.2.2.2.2.2.2.2.2 (fun i z => esing S.2.1.1 S.2.2.2.2.1.2.1 S.2.2.2.2.1.2.2.1 S.2.2.2.2.1.2.2.2 (nI S.2.2.2.1.2) (pf i) (nI i) (nI (vf i)) z) pf rf S.2.1.2.2.2.2.1 0 (ezero e s)
theorem F_evening {g : qG} (hg : qOK g) (hT : qTHR g) {h : qH} {S : CS} (hC : CH h S) {pf vf rf : Nat → Nat} (hk : S.2.1.2.2.2.2.1 ≤ 10) (hP : isP S.2.1.2.1 S.2.1.2.2.2.2.1 pf vf rf) (hl : lwf S.2.2.2.2.1.1) (hl2 : lwf S.2.2.2.2.1.2) (sd v : Int32) : qSpecX g 8 4 24 mX11_evening [.ref 0, .int sd, .int v] h (fun r h' => wi 0 6 v = true ∧ ∃ k : Nat, k ≤ 6 ∧ v = nI k ∧ ∃ e : Nat → Int32, r = some (.int (nightS S pf vf rf e sd (k + 4))) ∧ CH h' S ∧ gro h h') (TX h S (fun k => (k = 1 ∧ ¬ wi 0 6 v = true))) := by
  refine qSpecX_runT "evening" hg hT mX11_evening_ok rfl rfl (Nat.le_of_ble_eq_true rfl) ?_
  intro run step stepT
  obtain ⟨e, hE⟩ := hC.night
  have hk1 := hk
  refine step.1 _ _ _ _ _ _ _ sgX11_evening_0_ok ?_
  refine Or.inl ⟨rfl, _, 1, 0, 0, _, Or.inl qi_11_147, ⟨rfl, rfl⟩, rfl, rfl, sp_within hg _ _ _, fun y5 h5 hy5 => ?_⟩
  obtain ⟨rfl, hh⟩ := hy5
  rw [hh]
  clear hh
  refine Or.inr ⟨rfl, _, 6, 1, 6, _, _, _, _, qi_11_151, ⟨rfl, rfl⟩, ⟨hC.obj, rfl⟩, rfl, rfl, X_need hg hT hC _, fun y8 h8 hy8 => ?_, fun E h9 z => ⟨z.mono (fun k hk => ⟨hk.1, hk.2⟩), Nat.le_of_ble_eq_true rfl, Nat.le_of_ble_eq_true rfl⟩⟩
  obtain ⟨hw, rfl, hh⟩ := hy8
  rw [hh]
  clear hh
  obtain ⟨k, hk, ek⟩ := wi_nat (m := 6) (by decide) hw
  refine ⟨by decide, _, _, hC.obj, rfl, ?_⟩
  refine Or.inl ⟨rfl, _, 5, 0, 0, _, _, _, qi_11_331, ⟨rfl, rfl⟩, ⟨hE, rfl⟩, rfl, rfl, E_pass hg (hC.W hl) (hC.O hl2) hP hk1 hE sd, fun y16 h16 hy16 => ?_⟩
  obtain ⟨rfl, hs9, hW9, hO9, hE9⟩ := hy16
  have hE9 : h16.2 62 = some (E62 (nightS S pf vf rf e sd)) := hE9
  have hCW := hC.up hs9 (fz_cons (cW hW9).1 (fz_cons (cO hO9) (fz_cons (cW hW9).2.2 (fz_cons ⟨_, hE9, _, rfl⟩ fz_nil))))
  have hGW := gro.of hs9 rfl
  refine ⟨fun c20 => ⟨108, by decide, ?_⟩, fun j c20a c20b c20j => ?_⟩
  · have e3 : k = 6 := by
      rw [ek, nI_toInt (by omega)] at c20
      omega
    refine step.1 _ _ _ _ _ _ _ sgX11_evening_108_ok ?_
    refine ⟨by decide, _, _, hCW.obj, rfl, ?_⟩
    refine ⟨by decide, _, _, hE9, rfl, ?_⟩
    refine ⟨.int, rfl, rfl, Nat.le_of_ble_eq_true rfl, Nat.le_of_ble_eq_true rfl, ?_⟩
    exact ⟨hw, k, hk, ek, e, by rw [e3], hCW, hGW⟩
  · have ew := sw_eq c20a c20j
    rcases (show j = 0 ∨ j = 1 ∨ j = 2 ∨ j = 3 ∨ j = 4 ∨ j = 5 by omega) with rfl | rfl | rfl | rfl | rfl | rfl
    · have e3 : k = 0 := (nI_eq (by omega) (by decide)).mp (ek.symm.trans ew)
      refine ⟨_, 60, rfl, by decide, ?_⟩
      refine step.1 _ _ _ _ _ _ _ sgX11_evening_60_ok ?_
      refine ⟨by decide, _, _, hCW.obj, rfl, ?_⟩
      refine ⟨by decide, _, _, hE9, rfl, ?_⟩
      refine ⟨.int, rfl, rfl, Nat.le_of_ble_eq_true rfl, Nat.le_of_ble_eq_true rfl, ?_⟩
      exact ⟨hw, k, hk, ek, e, by rw [e3], hCW, hGW⟩
    · have e3 : k = 1 := (nI_eq (by omega) (by decide)).mp (ek.symm.trans ew)
      refine ⟨_, 68, rfl, by decide, ?_⟩
      refine step.1 _ _ _ _ _ _ _ sgX11_evening_68_ok ?_
      refine ⟨by decide, _, _, hCW.obj, rfl, ?_⟩
      refine ⟨by decide, _, _, hE9, rfl, ?_⟩
      refine ⟨.int, rfl, rfl, Nat.le_of_ble_eq_true rfl, Nat.le_of_ble_eq_true rfl, ?_⟩
      exact ⟨hw, k, hk, ek, e, by rw [e3], hCW, hGW⟩
    · have e3 : k = 2 := (nI_eq (by omega) (by decide)).mp (ek.symm.trans ew)
      refine ⟨_, 76, rfl, by decide, ?_⟩
      refine step.1 _ _ _ _ _ _ _ sgX11_evening_76_ok ?_
      refine ⟨by decide, _, _, hCW.obj, rfl, ?_⟩
      refine ⟨by decide, _, _, hE9, rfl, ?_⟩
      refine ⟨.int, rfl, rfl, Nat.le_of_ble_eq_true rfl, Nat.le_of_ble_eq_true rfl, ?_⟩
      exact ⟨hw, k, hk, ek, e, by rw [e3], hCW, hGW⟩
    · have e3 : k = 3 := (nI_eq (by omega) (by decide)).mp (ek.symm.trans ew)
      refine ⟨_, 84, rfl, by decide, ?_⟩
      refine step.1 _ _ _ _ _ _ _ sgX11_evening_84_ok ?_
      refine ⟨by decide, _, _, hCW.obj, rfl, ?_⟩
      refine ⟨by decide, _, _, hE9, rfl, ?_⟩
      refine ⟨.int, rfl, rfl, Nat.le_of_ble_eq_true rfl, Nat.le_of_ble_eq_true rfl, ?_⟩
      exact ⟨hw, k, hk, ek, e, by rw [e3], hCW, hGW⟩
    · have e3 : k = 4 := (nI_eq (by omega) (by decide)).mp (ek.symm.trans ew)
      refine ⟨_, 92, rfl, by decide, ?_⟩
      refine step.1 _ _ _ _ _ _ _ sgX11_evening_92_ok ?_
      refine ⟨by decide, _, _, hCW.obj, rfl, ?_⟩
      refine ⟨by decide, _, _, hE9, rfl, ?_⟩
      refine ⟨.int, rfl, rfl, Nat.le_of_ble_eq_true rfl, Nat.le_of_ble_eq_true rfl, ?_⟩
      exact ⟨hw, k, hk, ek, e, by rw [e3], hCW, hGW⟩
    · have e3 : k = 5 := (nI_eq (by omega) (by decide)).mp (ek.symm.trans ew)
      refine ⟨_, 100, rfl, by decide, ?_⟩
      refine step.1 _ _ _ _ _ _ _ sgX11_evening_100_ok ?_
      refine ⟨by decide, _, _, hCW.obj, rfl, ?_⟩
      refine ⟨by decide, _, _, hE9, rfl, ?_⟩
      refine ⟨.int, rfl, rfl, Nat.le_of_ble_eq_true rfl, Nat.le_of_ble_eq_true rfl, ?_⟩
      exact ⟨hw, k, hk, ek, e, by rw [e3], hCW, hGW⟩
abbrev spS : Type := (Nat → Int32) × Int32 × Int32 × Int32 × Int32
def spst (N : (Nat → Int32) → Int32 → (Nat → Int32)) (sd : Int32) (x i : Nat) (s : spS) : spS := (N s.1 (sd + nI i), (if i = 0 ∨ N s.1 (sd + nI i) 4 < s.2.1 then N s.1 (sd + nI i) 4 else s.2.1), (if i = 0 ∨ s.2.2.1 < N s.1 (sd + nI i) 4 then N s.1 (sd + nI i) 4 else s.2.2.1), s.2.2.2.1 + N s.1 (sd + nI i) 4, s.2.2.2.2 + (N s.1 (sd + nI i) 7 >>> (nI x &&& 31) &&& 1))
def sprun (N : (Nat → Int32) → Int32 → (Nat → Int32)) (sd : Int32) (x : Nat) : Nat → Nat → spS → spS
  | 0, _, s => s
  | m + 1, i, s => sprun N sd x m (i + 1) (spst N sd x i s)
abbrev fiS : Type := (Nat → Int32) × Int32 × Int32
def fist (N : (Nat → Int32) → Int32 → (Nat → Int32)) (sd : Int32) (i : Nat) (s : fiS) : fiS := (N s.1 (sd + nI i), if s.2.2 < N s.1 (sd + nI i) 5 then (sd + nI i, N s.1 (sd + nI i) 5) else (s.2.1, s.2.2))
def firun (N : (Nat → Int32) → Int32 → (Nat → Int32)) (sd : Int32) : Nat → Nat → fiS → fiS
  | 0, _, s => s
  | m + 1, i, s => firun N sd m (i + 1) (fist N sd i s)
theorem wi1_nat {m : Nat} {v : Int32} (hm : m < 2 ^ 31) (h : wi 1 (nI m) v = true) : ∃ x : Nat, 1 ≤ x ∧ x ≤ m ∧ v = nI x := by
  simp only [Bool.and_eq_true, decide_eq_true_eq] at h
  have h0 : (0 : Int32) ≤ v := Int32.le_trans (by decide) h.1
  obtain ⟨x, hx, rfl⟩ := nI_of (Int32.not_lt.mpr h0)
  exact ⟨x, (nI_leI (a := 1) (by decide) hx).mp h.1, (nI_leI hx hm).mp h.2, rfl⟩
theorem F_finest {g : qG} (hg : qOK g) (hT : qTHR g) {h : qH} {S : CS} (hC : CH h S) {pf vf rf : Nat → Nat} (hk : S.2.1.2.2.2.2.1 ≤ 10) (hP : isP S.2.1.2.1 S.2.1.2.2.2.2.1 pf vf rf) (hl : lwf S.2.2.2.2.1.1) (hl2 : lwf S.2.2.2.2.1.2) (sd mn : Int32) : qSpecX g 8 4 24 mX11_finest [.ref 0, .int sd, .int mn] h (fun r h' => wi 1 40 mn = true ∧ ∃ n : Nat, 1 ≤ n ∧ n ≤ 40 ∧ mn = nI n ∧ ∃ e : Nat → Int32, r = some (.int (firun (nightS S pf vf rf) sd n 0 (e, sd, -1)).2.1) ∧ CH h' S ∧ gro h h') (TX h S (fun k => (k = 1 ∧ ¬ wi 1 40 mn = true))) := by
  refine qSpecX_runT "finest" hg hT mX11_finest_ok rfl rfl (Nat.le_of_ble_eq_true rfl) ?_
  intro run step stepT
  obtain ⟨e, hE⟩ := hC.night

  have loop : wi 1 40 mn = true → ∀ (n : Nat), 1 ≤ n → n ≤ 40 → mn = nI n → ∀ (m i : Nat) (s : fiS) (hX : qH), i + m = n → firun (nightS S pf vf rf) sd m i s = (firun (nightS S pf vf rf) sd n 0 (e, sd, -1)) → CH hX S → gro h hX → hX.2 62 = some (E62 s.1) → run 19 [(5, .int (nI i)), (4, .int s.2.2), (3, .int s.2.1), (0, .ref 0), (1, .int sd), (2, .int mn)] [] hX 1 6 := by
    intro hw n hn1 hn2 en m
    induction m with
    | zero =>
      intro i s hX hi hst hCX hGX hEX
      refine step.1 _ _ _ _ _ _ _ sgX11_finest_19_ok ?_
      refine ⟨fun c22 => ?_, fun c22 => absurd (by rw [en]; exact nI_le (a := n) (b := i) (by omega) (by omega)) c22⟩
      refine step.1 _ _ _ _ _ _ _ sgX11_finest_68_ok ?_
      refine ⟨.int, rfl, rfl, Nat.le_of_ble_eq_true rfl, Nat.le_of_ble_eq_true rfl, ?_⟩
      exact ⟨hw, n, hn1, hn2, en, e, by rw [← hst]; rfl, hCX, hGX⟩
    | succ m ih =>
      intro i s hX hi hst hCX hGX hEX
      refine step.1 _ _ _ _ _ _ _ sgX11_finest_19_ok ?_
      refine ⟨fun c22 => absurd (by rw [← en]; exact c22) (nI_ge (a := i) (b := n) (by omega) (by omega)), fun c22 => ?_⟩
      refine ⟨by decide, _, _, hCX.obj, rfl, ?_⟩
      refine Or.inl ⟨rfl, _, 5, 0, 0, _, _, _, qi_11_331, ⟨rfl, rfl⟩, ⟨hEX, rfl⟩, rfl, rfl, E_pass hg (hCX.W hl) (hCX.O hl2) hP hk hEX (sd + nI i), fun y33 h33 hy33 => ?_⟩
      obtain ⟨rfl, hs9, hW9, hO9, hE9⟩ := hy33
      have hE9 : h33.2 62 = some (E62 (nightS S pf vf rf s.1 (sd + nI i))) := hE9
      have hCW := hCX.up hs9 (fz_cons (cW hW9).1 (fz_cons (cO hO9) (fz_cons (cW hW9).2.2 (fz_cons ⟨_, hE9, _, rfl⟩ fz_nil))))
      have hGW := hGX.tr (gro.of hs9 rfl)
      refine ⟨by decide, _, _, hCW.obj, rfl, ?_⟩
      refine ⟨by decide, _, _, hE9, rfl, ?_⟩
      refine ⟨fun c45 => ?_, fun c45 => ?_⟩
      · have c45 : ¬ s.2.2 < (nightS S pf vf rf s.1 (sd + nI i)) 5 := Int32.not_lt.mpr c45
        refine step.1 _ _ _ _ _ _ _ sgX11_finest_62_ok ?_
        have e9 : fist (nightS S pf vf rf) sd i s = ((nightS S pf vf rf s.1 (sd + nI i)), s.2.1, s.2.2) := congrArg (Prod.mk (nightS S pf vf rf s.1 (sd + nI i))) (if_neg c45)
        have kk2 := ih (i + 1) ((nightS S pf vf rf s.1 (sd + nI i)), s.2.1, s.2.2) h33 (by omega) (by rw [← hst, firun, e9]) hCW hGW hE9
        rw [← nI_1] at kk2
        exact kk2
      · have c45 : s.2.2 < (nightS S pf vf rf s.1 (sd + nI i)) 5 := Int32.not_le.mp c45
        refine ⟨by decide, _, _, hCW.obj, rfl, ?_⟩
        refine ⟨by decide, _, _, hE9, rfl, ?_⟩
        refine step.1 _ _ _ _ _ _ _ sgX11_finest_62_ok ?_
        refine step.2 _ _ _ _ _ _ _ (qsub_cons 0 rfl (qsub_cons 2 rfl (qsub_cons 1 rfl (qsub_cons 3 rfl (qsub_cons 4 rfl (qsub_cons 5 rfl qsub_nil)))))) ?_
        have e9 : fist (nightS S pf vf rf) sd i s = ((nightS S pf vf rf s.1 (sd + nI i)), sd + nI i, (nightS S pf vf rf s.1 (sd + nI i)) 5) := congrArg (Prod.mk (nightS S pf vf rf s.1 (sd + nI i))) (if_pos c45)
        have kk2 := ih (i + 1) ((nightS S pf vf rf s.1 (sd + nI i)), sd + nI i, (nightS S pf vf rf s.1 (sd + nI i)) 5) h33 (by omega) (by rw [← hst, firun, e9]) hCW hGW hE9
        rw [← nI_1] at kk2
        exact kk2
  refine step.1 _ _ _ _ _ _ _ sgX11_finest_0_ok ?_
  refine Or.inl ⟨rfl, _, 1, 0, 0, _, Or.inl qi_11_147, ⟨rfl, rfl⟩, rfl, rfl, sp_within hg _ _ _, fun y5 h5 hy5 => ?_⟩
  obtain ⟨rfl, hh⟩ := hy5
  rw [hh]
  clear hh
  refine Or.inr ⟨rfl, _, 6, 1, 6, _, _, _, _, qi_11_151, ⟨rfl, rfl⟩, ⟨hC.obj, rfl⟩, rfl, rfl, X_need hg hT hC _, fun y8 h8 hy8 => ?_, fun E h9 z => ⟨z.mono (fun k hk => ⟨hk.1, hk.2⟩), Nat.le_of_ble_eq_true rfl, Nat.le_of_ble_eq_true rfl⟩⟩
  obtain ⟨hw, rfl, hh⟩ := hy8
  rw [hh]
  clear hh
  obtain ⟨n, hn1, hn2, en⟩ := wi1_nat (m := 40) (by decide) hw
  exact loop hw n hn1 hn2 en n 0 (e, sd, -1) h (by omega) rfl hC gro.rf hE

set_option maxHeartbeats 4000000 in
theorem F_span {g : qG} (hg : qOK g) (hT : qTHR g) {h : qH} {S : CS} (hC : CH h S) (hn : S.2.1.2.2.2.1 ≤ 10) {pf vf rf : Nat → Nat} (hk : S.2.1.2.2.2.2.1 ≤ 10) (hP : isP S.2.1.2.1 S.2.1.2.2.2.2.1 pf vf rf) (hl : lwf S.2.2.2.2.1.1) (hl2 : lwf S.2.2.2.2.1.2) (sd mn v dr : Int32) : qSpecX g 8 4 24 mX11_span [.ref 0, .int sd, .int mn, .int v, .int dr] h (fun r h' => (wi 1 40 mn && (wi 0 3 v && wi 0 (nI S.2.1.2.2.2.1 - 1) dr)) = true ∧ ∃ n k x : Nat, 1 ≤ n ∧ n ≤ 40 ∧ k ≤ 3 ∧ x < S.2.1.2.2.2.1 ∧ mn = nI n ∧ v = nI k ∧ dr = nI x ∧ ∃ e : Nat → Int32, r = some (.int (if k = 0 then (sprun (nightS S pf vf rf) sd x n 0 (e, 0, 0, 0, 0)).2.1 else if k = 1 then (sprun (nightS S pf vf rf) sd x n 0 (e, 0, 0, 0, 0)).2.2.1 else if k = 2 then (sprun (nightS S pf vf rf) sd x n 0 (e, 0, 0, 0, 0)).2.2.2.1 else (sprun (nightS S pf vf rf) sd x n 0 (e, 0, 0, 0, 0)).2.2.2.2)) ∧ CH h' S ∧ gro h h') (TX h S (fun k => (k = 1 ∧ ¬ (wi 1 40 mn && (wi 0 3 v && wi 0 (nI S.2.1.2.2.2.1 - 1) dr)) = true))) := by
  refine qSpecX_runT "span" hg hT mX11_span_ok rfl rfl (Nat.le_of_ble_eq_true rfl) ?_
  intro run step stepT
  obtain ⟨e, hE⟩ := hC.night

  have loop : ∀ (n k x : Nat), 1 ≤ n → n ≤ 40 → k ≤ 3 → x < S.2.1.2.2.2.1 → mn = nI n → v = nI k → dr = nI x → (wi 1 40 mn && (wi 0 3 v && wi 0 (nI S.2.1.2.2.2.1 - 1) dr)) = true → ∀ (m i : Nat) (s : spS) (hX : qH), i + m = n → sprun (nightS S pf vf rf) sd x m i s = (sprun (nightS S pf vf rf) sd x n 0 (e, 0, 0, 0, 0)) → CH hX S → gro h hX → hX.2 62 = some (E62 s.1) → run 61 [(9, .int (nI i)), (8, .int s.2.2.2.2), (7, .int s.2.2.2.1), (6, .int s.2.2.1), (5, .int s.2.1), (0, .ref 0), (1, .int sd), (2, .int mn), (3, .int v), (4, .int dr)] [] hX 1 6 := by
    intro n k x hn1 hn2 hk3 hx en ek ex hw m
    induction m with
    | zero =>
      intro i s hX hi hst hCX hGX hEX
      have hst : s = (sprun (nightS S pf vf rf) sd x n 0 (e, 0, 0, 0, 0)) := hst
      refine step.1 _ _ _ _ _ _ _ sgX11_span_61_ok ?_
      refine ⟨fun c64 => ?_, fun c64 => absurd (by rw [en]; exact nI_le (a := n) (b := i) (by omega) (by omega)) c64⟩
      refine step.1 _ _ _ _ _ _ _ sgX11_span_175_ok ?_
      refine ⟨fun c176 => ⟨213, by decide, ?_⟩, fun j c176a c176b c176j => ?_⟩
      · have e3 : k = 3 := by
          rw [ek, nI_toInt (by omega)] at c176
          omega
        refine step.1 _ _ _ _ _ _ _ sgX11_span_213_ok ?_
        refine ⟨.int, rfl, rfl, Nat.le_of_ble_eq_true rfl, Nat.le_of_ble_eq_true rfl, ?_⟩
        exact ⟨hw, n, k, x, hn1, hn2, hk3, hx, en, ek, ex, e, by rw [← hst, e3]; rfl, hCX, hGX⟩
      · have ew := sw_eq c176a c176j
        rcases (show j = 0 ∨ j = 1 ∨ j = 2 by omega) with rfl | rfl | rfl
        · have e3 : k = 0 := (nI_eq (by omega) (by decide)).mp (ek.symm.trans ew)
          refine ⟨_, 204, rfl, by decide, ?_⟩
          refine step.1 _ _ _ _ _ _ _ sgX11_span_204_ok ?_
          refine ⟨.int, rfl, rfl, Nat.le_of_ble_eq_true rfl, Nat.le_of_ble_eq_true rfl, ?_⟩
          exact ⟨hw, n, k, x, hn1, hn2, hk3, hx, en, ek, ex, e, by rw [← hst, e3]; rfl, hCX, hGX⟩
        · have e3 : k = 1 := (nI_eq (by omega) (by decide)).mp (ek.symm.trans ew)
          refine ⟨_, 207, rfl, by decide, ?_⟩
          refine step.1 _ _ _ _ _ _ _ sgX11_span_207_ok ?_
          refine ⟨.int, rfl, rfl, Nat.le_of_ble_eq_true rfl, Nat.le_of_ble_eq_true rfl, ?_⟩
          exact ⟨hw, n, k, x, hn1, hn2, hk3, hx, en, ek, ex, e, by rw [← hst, e3]; rfl, hCX, hGX⟩
        · have e3 : k = 2 := (nI_eq (by omega) (by decide)).mp (ek.symm.trans ew)
          refine ⟨_, 210, rfl, by decide, ?_⟩
          refine step.1 _ _ _ _ _ _ _ sgX11_span_210_ok ?_
          refine ⟨.int, rfl, rfl, Nat.le_of_ble_eq_true rfl, Nat.le_of_ble_eq_true rfl, ?_⟩
          exact ⟨hw, n, k, x, hn1, hn2, hk3, hx, en, ek, ex, e, by rw [← hst, e3]; rfl, hCX, hGX⟩
    | succ m ih =>
      intro i s hX hi hst hCX hGX hEX
      refine step.1 _ _ _ _ _ _ _ sgX11_span_61_ok ?_
      refine ⟨fun c64 => absurd (by rw [← en]; exact c64) (nI_ge (a := i) (b := n) (by omega) (by omega)), fun c64 => ?_⟩
      refine ⟨by decide, _, _, hCX.obj, rfl, ?_⟩
      refine Or.inl ⟨rfl, _, 5, 0, 0, _, _, _, qi_11_331, ⟨rfl, rfl⟩, ⟨hEX, rfl⟩, rfl, rfl, E_pass hg (hCX.W hl) (hCX.O hl2) hP hk hEX (sd + nI i), fun y75 h75 hy75 => ?_⟩
      obtain ⟨rfl, hs9, hW9, hO9, hE9⟩ := hy75
      have hE9 : h75.2 62 = some (E62 (nightS S pf vf rf s.1 (sd + nI i))) := hE9
      have hCW := hCX.up hs9 (fz_cons (cW hW9).1 (fz_cons (cO hO9) (fz_cons (cW hW9).2.2 (fz_cons ⟨_, hE9, _, rfl⟩ fz_nil))))
      have hGW := hGX.tr (gro.of hs9 rfl)
      refine ⟨fun c80 => ?_, fun c80 => ?_⟩
      · have c80 : i = 0 := (nI_eq (b := 0) (by omega) (by decide)).mp c80
        have eL : (if i = 0 ∨ (nightS S pf vf rf s.1 (sd + nI i)) 4 < s.2.1 then (nightS S pf vf rf s.1 (sd + nI i)) 4 else s.2.1) = (nightS S pf vf rf s.1 (sd + nI i)) 4 := if_pos (Or.inl c80)
        refine step.1 _ _ _ _ _ _ _ sgX11_span_95_ok ?_
        refine ⟨by decide, _, _, hCW.obj, rfl, ?_⟩
        refine ⟨by decide, _, _, hE9, rfl, ?_⟩
        refine step.1 _ _ _ _ _ _ _ sgX11_span_107_ok ?_
        refine ⟨fun c111 => ?_, fun c111 => ?_⟩
        · have c111 : i = 0 := (nI_eq (b := 0) (by omega) (by decide)).mp c111
          have eM : (if i = 0 ∨ s.2.2.1 < (nightS S pf vf rf s.1 (sd + nI i)) 4 then (nightS S pf vf rf s.1 (sd + nI i)) 4 else s.2.2.1) = (nightS S pf vf rf s.1 (sd + nI i)) 4 := if_pos (Or.inl c111)
          refine step.1 _ _ _ _ _ _ _ sgX11_span_126_ok ?_
          refine ⟨by decide, _, _, hCW.obj, rfl, ?_⟩
          refine ⟨by decide, _, _, hE9, rfl, ?_⟩
          refine step.1 _ _ _ _ _ _ _ sgX11_span_138_ok ?_
          refine ⟨by decide, _, _, hCW.obj, rfl, ?_⟩
          refine ⟨by decide, _, _, hE9, rfl, ?_⟩
          refine ⟨by decide, _, _, hCW.obj, rfl, ?_⟩
          refine ⟨by decide, _, _, hE9, rfl, ?_⟩
          have e9 : spst (nightS S pf vf rf) sd x i s = ((nightS S pf vf rf s.1 (sd + nI i)), (if i = 0 ∨ (nightS S pf vf rf s.1 (sd + nI i)) 4 < s.2.1 then (nightS S pf vf rf s.1 (sd + nI i)) 4 else s.2.1), (if i = 0 ∨ s.2.2.1 < (nightS S pf vf rf s.1 (sd + nI i)) 4 then (nightS S pf vf rf s.1 (sd + nI i)) 4 else s.2.2.1), s.2.2.2.1 + (nightS S pf vf rf s.1 (sd + nI i)) 4, s.2.2.2.2 + ((nightS S pf vf rf s.1 (sd + nI i)) 7 >>> (nI x &&& 31) &&& 1)) := rfl
          have kk2 := ih (i + 1) (spst (nightS S pf vf rf) sd x i s) h75 (by omega) (by rw [← hst]; rfl) hCW hGW hE9
          rw [e9, eL, eM] at kk2
          rw [← nI_1, ← ex] at kk2
          exact kk2
        · have c111 : ¬ i = 0 := fun z => c111 (congrArg nI z)
          refine ⟨by decide, _, _, hCW.obj, rfl, ?_⟩
          refine ⟨by decide, _, _, hE9, rfl, ?_⟩
          refine ⟨fun c123 => ?_, fun c123 => ?_⟩
          · have c123 : ¬ s.2.2.1 < (nightS S pf vf rf s.1 (sd + nI i)) 4 := Int32.not_lt.mpr c123
            have eM : (if i = 0 ∨ s.2.2.1 < (nightS S pf vf rf s.1 (sd + nI i)) 4 then (nightS S pf vf rf s.1 (sd + nI i)) 4 else s.2.2.1) = s.2.2.1 := if_neg (fun z => z.elim c111 c123)
            refine step.1 _ _ _ _ _ _ _ sgX11_span_136_ok ?_
            refine step.1 _ _ _ _ _ _ _ sgX11_span_138_ok ?_
            refine ⟨by decide, _, _, hCW.obj, rfl, ?_⟩
            refine ⟨by decide, _, _, hE9, rfl, ?_⟩
            refine ⟨by decide, _, _, hCW.obj, rfl, ?_⟩
            refine ⟨by decide, _, _, hE9, rfl, ?_⟩
            have e9 : spst (nightS S pf vf rf) sd x i s = ((nightS S pf vf rf s.1 (sd + nI i)), (if i = 0 ∨ (nightS S pf vf rf s.1 (sd + nI i)) 4 < s.2.1 then (nightS S pf vf rf s.1 (sd + nI i)) 4 else s.2.1), (if i = 0 ∨ s.2.2.1 < (nightS S pf vf rf s.1 (sd + nI i)) 4 then (nightS S pf vf rf s.1 (sd + nI i)) 4 else s.2.2.1), s.2.2.2.1 + (nightS S pf vf rf s.1 (sd + nI i)) 4, s.2.2.2.2 + ((nightS S pf vf rf s.1 (sd + nI i)) 7 >>> (nI x &&& 31) &&& 1)) := rfl
            have kk2 := ih (i + 1) (spst (nightS S pf vf rf) sd x i s) h75 (by omega) (by rw [← hst]; rfl) hCW hGW hE9
            rw [e9, eL, eM] at kk2
            rw [← nI_1, ← ex] at kk2
            exact kk2
          · have c123 : s.2.2.1 < (nightS S pf vf rf s.1 (sd + nI i)) 4 := Int32.not_le.mp c123
            have eM : (if i = 0 ∨ s.2.2.1 < (nightS S pf vf rf s.1 (sd + nI i)) 4 then (nightS S pf vf rf s.1 (sd + nI i)) 4 else s.2.2.1) = (nightS S pf vf rf s.1 (sd + nI i)) 4 := if_pos (Or.inr c123)
            refine step.1 _ _ _ _ _ _ _ sgX11_span_126_ok ?_
            refine ⟨by decide, _, _, hCW.obj, rfl, ?_⟩
            refine ⟨by decide, _, _, hE9, rfl, ?_⟩
            refine step.1 _ _ _ _ _ _ _ sgX11_span_138_ok ?_
            refine ⟨by decide, _, _, hCW.obj, rfl, ?_⟩
            refine ⟨by decide, _, _, hE9, rfl, ?_⟩
            refine ⟨by decide, _, _, hCW.obj, rfl, ?_⟩
            refine ⟨by decide, _, _, hE9, rfl, ?_⟩
            have e9 : spst (nightS S pf vf rf) sd x i s = ((nightS S pf vf rf s.1 (sd + nI i)), (if i = 0 ∨ (nightS S pf vf rf s.1 (sd + nI i)) 4 < s.2.1 then (nightS S pf vf rf s.1 (sd + nI i)) 4 else s.2.1), (if i = 0 ∨ s.2.2.1 < (nightS S pf vf rf s.1 (sd + nI i)) 4 then (nightS S pf vf rf s.1 (sd + nI i)) 4 else s.2.2.1), s.2.2.2.1 + (nightS S pf vf rf s.1 (sd + nI i)) 4, s.2.2.2.2 + ((nightS S pf vf rf s.1 (sd + nI i)) 7 >>> (nI x &&& 31) &&& 1)) := rfl
            have kk2 := ih (i + 1) (spst (nightS S pf vf rf) sd x i s) h75 (by omega) (by rw [← hst]; rfl) hCW hGW hE9
            rw [e9, eL, eM] at kk2
            rw [← nI_1, ← ex] at kk2
            exact kk2
      · have c80 : ¬ i = 0 := fun z => c80 (congrArg nI z)
        refine ⟨by decide, _, _, hCW.obj, rfl, ?_⟩
        refine ⟨by decide, _, _, hE9, rfl, ?_⟩
        refine ⟨fun c92 => ?_, fun c92 => ?_⟩
        · have c92 : ¬ (nightS S pf vf rf s.1 (sd + nI i)) 4 < s.2.1 := Int32.not_lt.mpr c92
          have eL : (if i = 0 ∨ (nightS S pf vf rf s.1 (sd + nI i)) 4 < s.2.1 then (nightS S pf vf rf s.1 (sd + nI i)) 4 else s.2.1) = s.2.1 := if_neg (fun z => z.elim c80 c92)
          refine step.1 _ _ _ _ _ _ _ sgX11_span_105_ok ?_
          refine step.1 _ _ _ _ _ _ _ sgX11_span_107_ok ?_
          refine ⟨fun c111 => ?_, fun c111 => ?_⟩
          · have c111 : i = 0 := (nI_eq (b := 0) (by omega) (by decide)).mp c111
            have eM : (if i = 0 ∨ s.2.2.1 < (nightS S pf vf rf s.1 (sd + nI i)) 4 then (nightS S pf vf rf s.1 (sd + nI i)) 4 else s.2.2.1) = (nightS S pf vf rf s.1 (sd + nI i)) 4 := if_pos (Or.inl c111)
            refine step.1 _ _ _ _ _ _ _ sgX11_span_126_ok ?_
            refine ⟨by decide, _, _, hCW.obj, rfl, ?_⟩
            refine ⟨by decide, _, _, hE9, rfl, ?_⟩
            refine step.1 _ _ _ _ _ _ _ sgX11_span_138_ok ?_
            refine ⟨by decide, _, _, hCW.obj, rfl, ?_⟩
            refine ⟨by decide, _, _, hE9, rfl, ?_⟩
            refine ⟨by decide, _, _, hCW.obj, rfl, ?_⟩
            refine ⟨by decide, _, _, hE9, rfl, ?_⟩
            have e9 : spst (nightS S pf vf rf) sd x i s = ((nightS S pf vf rf s.1 (sd + nI i)), (if i = 0 ∨ (nightS S pf vf rf s.1 (sd + nI i)) 4 < s.2.1 then (nightS S pf vf rf s.1 (sd + nI i)) 4 else s.2.1), (if i = 0 ∨ s.2.2.1 < (nightS S pf vf rf s.1 (sd + nI i)) 4 then (nightS S pf vf rf s.1 (sd + nI i)) 4 else s.2.2.1), s.2.2.2.1 + (nightS S pf vf rf s.1 (sd + nI i)) 4, s.2.2.2.2 + ((nightS S pf vf rf s.1 (sd + nI i)) 7 >>> (nI x &&& 31) &&& 1)) := rfl
            have kk2 := ih (i + 1) (spst (nightS S pf vf rf) sd x i s) h75 (by omega) (by rw [← hst]; rfl) hCW hGW hE9
            rw [e9, eL, eM] at kk2
            rw [← nI_1, ← ex] at kk2
            exact kk2
          · have c111 : ¬ i = 0 := fun z => c111 (congrArg nI z)
            refine ⟨by decide, _, _, hCW.obj, rfl, ?_⟩
            refine ⟨by decide, _, _, hE9, rfl, ?_⟩
            refine ⟨fun c123 => ?_, fun c123 => ?_⟩
            · have c123 : ¬ s.2.2.1 < (nightS S pf vf rf s.1 (sd + nI i)) 4 := Int32.not_lt.mpr c123
              have eM : (if i = 0 ∨ s.2.2.1 < (nightS S pf vf rf s.1 (sd + nI i)) 4 then (nightS S pf vf rf s.1 (sd + nI i)) 4 else s.2.2.1) = s.2.2.1 := if_neg (fun z => z.elim c111 c123)
              refine step.1 _ _ _ _ _ _ _ sgX11_span_136_ok ?_
              refine step.1 _ _ _ _ _ _ _ sgX11_span_138_ok ?_
              refine ⟨by decide, _, _, hCW.obj, rfl, ?_⟩
              refine ⟨by decide, _, _, hE9, rfl, ?_⟩
              refine ⟨by decide, _, _, hCW.obj, rfl, ?_⟩
              refine ⟨by decide, _, _, hE9, rfl, ?_⟩
              have e9 : spst (nightS S pf vf rf) sd x i s = ((nightS S pf vf rf s.1 (sd + nI i)), (if i = 0 ∨ (nightS S pf vf rf s.1 (sd + nI i)) 4 < s.2.1 then (nightS S pf vf rf s.1 (sd + nI i)) 4 else s.2.1), (if i = 0 ∨ s.2.2.1 < (nightS S pf vf rf s.1 (sd + nI i)) 4 then (nightS S pf vf rf s.1 (sd + nI i)) 4 else s.2.2.1), s.2.2.2.1 + (nightS S pf vf rf s.1 (sd + nI i)) 4, s.2.2.2.2 + ((nightS S pf vf rf s.1 (sd + nI i)) 7 >>> (nI x &&& 31) &&& 1)) := rfl
              have kk2 := ih (i + 1) (spst (nightS S pf vf rf) sd x i s) h75 (by omega) (by rw [← hst]; rfl) hCW hGW hE9
              rw [e9, eL, eM] at kk2
              rw [← nI_1, ← ex] at kk2
              exact kk2
            · have c123 : s.2.2.1 < (nightS S pf vf rf s.1 (sd + nI i)) 4 := Int32.not_le.mp c123
              have eM : (if i = 0 ∨ s.2.2.1 < (nightS S pf vf rf s.1 (sd + nI i)) 4 then (nightS S pf vf rf s.1 (sd + nI i)) 4 else s.2.2.1) = (nightS S pf vf rf s.1 (sd + nI i)) 4 := if_pos (Or.inr c123)
              refine step.1 _ _ _ _ _ _ _ sgX11_span_126_ok ?_
              refine ⟨by decide, _, _, hCW.obj, rfl, ?_⟩
              refine ⟨by decide, _, _, hE9, rfl, ?_⟩
              refine step.1 _ _ _ _ _ _ _ sgX11_span_138_ok ?_
              refine ⟨by decide, _, _, hCW.obj, rfl, ?_⟩
              refine ⟨by decide, _, _, hE9, rfl, ?_⟩
              refine ⟨by decide, _, _, hCW.obj, rfl, ?_⟩
              refine ⟨by decide, _, _, hE9, rfl, ?_⟩
              have e9 : spst (nightS S pf vf rf) sd x i s = ((nightS S pf vf rf s.1 (sd + nI i)), (if i = 0 ∨ (nightS S pf vf rf s.1 (sd + nI i)) 4 < s.2.1 then (nightS S pf vf rf s.1 (sd + nI i)) 4 else s.2.1), (if i = 0 ∨ s.2.2.1 < (nightS S pf vf rf s.1 (sd + nI i)) 4 then (nightS S pf vf rf s.1 (sd + nI i)) 4 else s.2.2.1), s.2.2.2.1 + (nightS S pf vf rf s.1 (sd + nI i)) 4, s.2.2.2.2 + ((nightS S pf vf rf s.1 (sd + nI i)) 7 >>> (nI x &&& 31) &&& 1)) := rfl
              have kk2 := ih (i + 1) (spst (nightS S pf vf rf) sd x i s) h75 (by omega) (by rw [← hst]; rfl) hCW hGW hE9
              rw [e9, eL, eM] at kk2
              rw [← nI_1, ← ex] at kk2
              exact kk2
        · have c92 : (nightS S pf vf rf s.1 (sd + nI i)) 4 < s.2.1 := Int32.not_le.mp c92
          have eL : (if i = 0 ∨ (nightS S pf vf rf s.1 (sd + nI i)) 4 < s.2.1 then (nightS S pf vf rf s.1 (sd + nI i)) 4 else s.2.1) = (nightS S pf vf rf s.1 (sd + nI i)) 4 := if_pos (Or.inr c92)
          refine step.1 _ _ _ _ _ _ _ sgX11_span_95_ok ?_
          refine ⟨by decide, _, _, hCW.obj, rfl, ?_⟩
          refine ⟨by decide, _, _, hE9, rfl, ?_⟩
          refine step.1 _ _ _ _ _ _ _ sgX11_span_107_ok ?_
          refine ⟨fun c111 => ?_, fun c111 => ?_⟩
          · have c111 : i = 0 := (nI_eq (b := 0) (by omega) (by decide)).mp c111
            have eM : (if i = 0 ∨ s.2.2.1 < (nightS S pf vf rf s.1 (sd + nI i)) 4 then (nightS S pf vf rf s.1 (sd + nI i)) 4 else s.2.2.1) = (nightS S pf vf rf s.1 (sd + nI i)) 4 := if_pos (Or.inl c111)
            refine step.1 _ _ _ _ _ _ _ sgX11_span_126_ok ?_
            refine ⟨by decide, _, _, hCW.obj, rfl, ?_⟩
            refine ⟨by decide, _, _, hE9, rfl, ?_⟩
            refine step.1 _ _ _ _ _ _ _ sgX11_span_138_ok ?_
            refine ⟨by decide, _, _, hCW.obj, rfl, ?_⟩
            refine ⟨by decide, _, _, hE9, rfl, ?_⟩
            refine ⟨by decide, _, _, hCW.obj, rfl, ?_⟩
            refine ⟨by decide, _, _, hE9, rfl, ?_⟩
            have e9 : spst (nightS S pf vf rf) sd x i s = ((nightS S pf vf rf s.1 (sd + nI i)), (if i = 0 ∨ (nightS S pf vf rf s.1 (sd + nI i)) 4 < s.2.1 then (nightS S pf vf rf s.1 (sd + nI i)) 4 else s.2.1), (if i = 0 ∨ s.2.2.1 < (nightS S pf vf rf s.1 (sd + nI i)) 4 then (nightS S pf vf rf s.1 (sd + nI i)) 4 else s.2.2.1), s.2.2.2.1 + (nightS S pf vf rf s.1 (sd + nI i)) 4, s.2.2.2.2 + ((nightS S pf vf rf s.1 (sd + nI i)) 7 >>> (nI x &&& 31) &&& 1)) := rfl
            have kk2 := ih (i + 1) (spst (nightS S pf vf rf) sd x i s) h75 (by omega) (by rw [← hst]; rfl) hCW hGW hE9
            rw [e9, eL, eM] at kk2
            rw [← nI_1, ← ex] at kk2
            exact kk2
          · have c111 : ¬ i = 0 := fun z => c111 (congrArg nI z)
            refine ⟨by decide, _, _, hCW.obj, rfl, ?_⟩
            refine ⟨by decide, _, _, hE9, rfl, ?_⟩
            refine ⟨fun c123 => ?_, fun c123 => ?_⟩
            · have c123 : ¬ s.2.2.1 < (nightS S pf vf rf s.1 (sd + nI i)) 4 := Int32.not_lt.mpr c123
              have eM : (if i = 0 ∨ s.2.2.1 < (nightS S pf vf rf s.1 (sd + nI i)) 4 then (nightS S pf vf rf s.1 (sd + nI i)) 4 else s.2.2.1) = s.2.2.1 := if_neg (fun z => z.elim c111 c123)
              refine step.1 _ _ _ _ _ _ _ sgX11_span_136_ok ?_
              refine step.1 _ _ _ _ _ _ _ sgX11_span_138_ok ?_
              refine ⟨by decide, _, _, hCW.obj, rfl, ?_⟩
              refine ⟨by decide, _, _, hE9, rfl, ?_⟩
              refine ⟨by decide, _, _, hCW.obj, rfl, ?_⟩
              refine ⟨by decide, _, _, hE9, rfl, ?_⟩
              have e9 : spst (nightS S pf vf rf) sd x i s = ((nightS S pf vf rf s.1 (sd + nI i)), (if i = 0 ∨ (nightS S pf vf rf s.1 (sd + nI i)) 4 < s.2.1 then (nightS S pf vf rf s.1 (sd + nI i)) 4 else s.2.1), (if i = 0 ∨ s.2.2.1 < (nightS S pf vf rf s.1 (sd + nI i)) 4 then (nightS S pf vf rf s.1 (sd + nI i)) 4 else s.2.2.1), s.2.2.2.1 + (nightS S pf vf rf s.1 (sd + nI i)) 4, s.2.2.2.2 + ((nightS S pf vf rf s.1 (sd + nI i)) 7 >>> (nI x &&& 31) &&& 1)) := rfl
              have kk2 := ih (i + 1) (spst (nightS S pf vf rf) sd x i s) h75 (by omega) (by rw [← hst]; rfl) hCW hGW hE9
              rw [e9, eL, eM] at kk2
              rw [← nI_1, ← ex] at kk2
              exact kk2
            · have c123 : s.2.2.1 < (nightS S pf vf rf s.1 (sd + nI i)) 4 := Int32.not_le.mp c123
              have eM : (if i = 0 ∨ s.2.2.1 < (nightS S pf vf rf s.1 (sd + nI i)) 4 then (nightS S pf vf rf s.1 (sd + nI i)) 4 else s.2.2.1) = (nightS S pf vf rf s.1 (sd + nI i)) 4 := if_pos (Or.inr c123)
              refine step.1 _ _ _ _ _ _ _ sgX11_span_126_ok ?_
              refine ⟨by decide, _, _, hCW.obj, rfl, ?_⟩
              refine ⟨by decide, _, _, hE9, rfl, ?_⟩
              refine step.1 _ _ _ _ _ _ _ sgX11_span_138_ok ?_
              refine ⟨by decide, _, _, hCW.obj, rfl, ?_⟩
              refine ⟨by decide, _, _, hE9, rfl, ?_⟩
              refine ⟨by decide, _, _, hCW.obj, rfl, ?_⟩
              refine ⟨by decide, _, _, hE9, rfl, ?_⟩
              have e9 : spst (nightS S pf vf rf) sd x i s = ((nightS S pf vf rf s.1 (sd + nI i)), (if i = 0 ∨ (nightS S pf vf rf s.1 (sd + nI i)) 4 < s.2.1 then (nightS S pf vf rf s.1 (sd + nI i)) 4 else s.2.1), (if i = 0 ∨ s.2.2.1 < (nightS S pf vf rf s.1 (sd + nI i)) 4 then (nightS S pf vf rf s.1 (sd + nI i)) 4 else s.2.2.1), s.2.2.2.1 + (nightS S pf vf rf s.1 (sd + nI i)) 4, s.2.2.2.2 + ((nightS S pf vf rf s.1 (sd + nI i)) 7 >>> (nI x &&& 31) &&& 1)) := rfl
              have kk2 := ih (i + 1) (spst (nightS S pf vf rf) sd x i s) h75 (by omega) (by rw [← hst]; rfl) hCW hGW hE9
              rw [e9, eL, eM] at kk2
              rw [← nI_1, ← ex] at kk2
              exact kk2
  refine step.1 _ _ _ _ _ _ _ sgX11_span_0_ok ?_
  refine Or.inl ⟨rfl, _, 1, 0, 0, _, Or.inl qi_11_147, ⟨rfl, rfl⟩, rfl, rfl, sp_within hg _ _ _, fun y5 h5 hy5 => ?_⟩
  obtain ⟨rfl, hh⟩ := hy5
  rw [hh]
  clear hh
  refine ⟨fun c8 => ?_, fun c8 => ?_⟩
  · have w8 : wi 1 40 mn = false := qb_0.mp c8
    refine step.1 _ _ _ _ _ _ _ sgX11_span_42_ok ?_
    refine step.1 _ _ _ _ _ _ _ sgX11_span_43_ok ?_
    refine Or.inr ⟨rfl, _, 6, 1, 6, _, _, _, _, qi_11_151, ⟨rfl, rfl⟩, ⟨hC.obj, rfl⟩, rfl, rfl, X_need hg hT hC false, fun y43 h43 hy43 => ?_, fun E h9 z => ⟨z.mono (fun k hk => ⟨hk.1, fun z => by rw [w8] at z; cases z⟩), Nat.le_of_ble_eq_true rfl, Nat.le_of_ble_eq_true rfl⟩⟩
    obtain ⟨hbad, rfl, hh⟩ := hy43
    rw [hh]
    clear hh
    cases hbad
    
  · have w8 : wi 1 40 mn = true := qb_1.mp c8
    refine Or.inl ⟨rfl, _, 1, 0, 0, _, Or.inl qi_11_147, ⟨rfl, rfl⟩, rfl, rfl, sp_within hg _ _ _, fun y14 h14 hy14 => ?_⟩
    obtain ⟨rfl, hh⟩ := hy14
    rw [hh]
    clear hh
    refine ⟨fun c17 => ?_, fun c17 => ?_⟩
    · have w17 : wi 0 3 v = false := qb_0.mp c17
      refine step.1 _ _ _ _ _ _ _ sgX11_span_42_ok ?_
      refine step.1 _ _ _ _ _ _ _ sgX11_span_43_ok ?_
      refine Or.inr ⟨rfl, _, 6, 1, 6, _, _, _, _, qi_11_151, ⟨rfl, rfl⟩, ⟨hC.obj, rfl⟩, rfl, rfl, X_need hg hT hC false, fun y43 h43 hy43 => ?_, fun E h9 z => ⟨z.mono (fun k hk => ⟨hk.1, fun z => by rw [w8, w17] at z; cases z⟩), Nat.le_of_ble_eq_true rfl, Nat.le_of_ble_eq_true rfl⟩⟩
      obtain ⟨hbad, rfl, hh⟩ := hy43
      rw [hh]
      clear hh
      cases hbad
      
    · have w17 : wi 0 3 v = true := qb_1.mp c17
      refine ⟨by decide, _, _, hC.obj, rfl, ?_⟩
      refine ⟨by decide, _, _, hC.rnd.1, rfl, ?_⟩
      refine Or.inl ⟨rfl, _, 1, 0, 0, _, Or.inl qi_11_147, ⟨rfl, rfl⟩, rfl, rfl, sp_within hg _ _ _, fun y32 h32 hy32 => ?_⟩
      obtain ⟨rfl, hh⟩ := hy32
      rw [hh]
      clear hh
      refine ⟨fun c35 => ?_, fun c35 => ?_⟩
      · have w35 : wi 0 (nI S.2.1.2.2.2.1 - 1) dr = false := qb_0.mp c35
        refine step.1 _ _ _ _ _ _ _ sgX11_span_42_ok ?_
        refine step.1 _ _ _ _ _ _ _ sgX11_span_43_ok ?_
        refine Or.inr ⟨rfl, _, 6, 1, 6, _, _, _, _, qi_11_151, ⟨rfl, rfl⟩, ⟨hC.obj, rfl⟩, rfl, rfl, X_need hg hT hC false, fun y43 h43 hy43 => ?_, fun E h9 z => ⟨z.mono (fun k hk => ⟨hk.1, fun z => by rw [w8, w17, w35] at z; cases z⟩), Nat.le_of_ble_eq_true rfl, Nat.le_of_ble_eq_true rfl⟩⟩
        obtain ⟨hbad, rfl, hh⟩ := hy43
        rw [hh]
        clear hh
        cases hbad
        
      · have w35 : wi 0 (nI S.2.1.2.2.2.1 - 1) dr = true := qb_1.mp c35
        refine step.1 _ _ _ _ _ _ _ sgX11_span_43_ok ?_
        refine Or.inr ⟨rfl, _, 6, 1, 6, _, _, _, _, qi_11_151, ⟨rfl, rfl⟩, ⟨hC.obj, rfl⟩, rfl, rfl, X_need hg hT hC true, fun y43 h43 hy43 => ?_, fun E h9 z => ⟨z.mono (fun k hk => ⟨hk.1, absurd rfl hk.2⟩), Nat.le_of_ble_eq_true rfl, Nat.le_of_ble_eq_true rfl⟩⟩
        obtain ⟨hok, rfl, hh⟩ := hy43
        rw [hh]
        clear hh
        have hw : (wi 1 40 mn && (wi 0 3 v && wi 0 (nI S.2.1.2.2.2.1 - 1) dr)) = true := by rw [w8, w17, w35]; rfl
        obtain ⟨n, hn1, hn2, en⟩ := wi1_nat (m := 40) (by decide) w8
        obtain ⟨k, hk3, ek⟩ := wi_nat (m := 3) (by decide) w17
        obtain ⟨x, hx, ex⟩ := wi_lt (by omega) w35
        exact loop n k x hn1 hn2 hk3 hx en ek ex hw n 0 (e, 0, 0, 0, 0) h (by omega) rfl hC gro.rf hE

end Q09E
