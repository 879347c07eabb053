section Q09C
theorem F_fault {g : qG} (hg : qOK g) {h : qH} {S : CS} (hC : CH h S)  : qSpec g 1 0 0 mX11_fault [.ref 0] h (fun r h' => r = some (.int S.1.2.2) ∧ CH h' S ∧ gro h h') := by
  refine qSpec_run 11 "fault" false hg mX11_fault_ok rfl rfl (Nat.le_of_ble_eq_true rfl) (by decide) ?_
  intro run step
  obtain ⟨en, po, fr, ki, hTp⟩ := hC.tape
  refine step.1 _ _ _ _ _ _ _ sgX11_fault_0_ok ?_
  refine ⟨by decide, _, _, hC.obj, rfl, ?_⟩
  refine ⟨by decide, _, _, hTp.1, rfl, ?_⟩
  refine ⟨.int, rfl, rfl, Nat.le_refl _, Nat.le_refl _, ?_⟩
  exact ⟨rfl, hC, gro.rf⟩
theorem F_told {g : qG} (hg : qOK g) (hT : qTHR g) {h : qH} {S : CS} (hC : CH h S) (v : Int32) : qSpecX g 7 4 24 mX11_told [.ref 0, .int v] h (fun r h' => wi 0 6 v = true ∧ r = some (.int (if v = 0 then nI S.2.1.2.2.2.1 else if v = 1 then nI S.2.2.2.1.2 else if v = 2 then nI S.2.1.2.2.2.2.1 else if v = 3 then nI S.2.2.2.2.2.1.2.2 else if v = 4 then S.2.1.2.2.2.2.2.2.1 else if v = 5 then S.2.1.2.2.2.2.2.2.2.1 else S.2.1.2.2.2.2.2.2.2.2)) ∧ CH h' S ∧ gro h h') (TX h S (fun k => (k = 1 ∧ ¬ wi 0 6 v = true))) := by
  refine qSpecX_runT "told" hg hT mX11_told_ok rfl rfl (Nat.le_of_ble_eq_true rfl) ?_
  intro run step stepT
  obtain ⟨se, fi, ia, ino, hB⟩ := hC.book
  refine step.1 _ _ _ _ _ _ _ sgX11_told_0_ok ?_
  refine ⟨fun c1 => ⟨88, by decide, ?_⟩, fun j c1a c1b c1j => ?_⟩
  · 
    refine step.1 _ _ _ _ _ _ _ sgX11_told_88_ok ?_
    refine ⟨fun c92 => ?_, fun c92 => ?_⟩
    · have c92 : ¬ v = 6 := c92
      have nw : ¬ wi 0 6 v = true := fun z => by
        obtain ⟨x, hx, rfl⟩ := wi_nat (m := 6) (by decide) z
        rw [nI_toInt (by omega)] at c1
        rcases c1 with q | q
        · exact absurd q (by omega)
        · have e : x = 6 := by omega
          subst e
          exact c92 rfl
      refine step.1 _ _ _ _ _ _ _ sgX11_told_99_ok ?_
      refine step.1 _ _ _ _ _ _ _ sgX11_told_100_ok ?_
      refine Or.inr ⟨rfl, _, 6, 1, 6, _, _, _, _, qi_11_151, ⟨rfl, rfl⟩, ⟨hC.obj, rfl⟩, rfl, rfl, X_need hg hT hC false, fun y100 h100 hy100 => ?_, fun E h9 z => ⟨z.mono (fun k hk => ⟨hk.1, nw⟩), Nat.le_of_ble_eq_true rfl, Nat.le_of_ble_eq_true rfl⟩⟩
      obtain ⟨hbad, rfl, hh⟩ := hy100
      rw [hh]
      clear hh
      cases hbad
      
    · have c92 : v = 6 := c92
      refine step.1 _ _ _ _ _ _ _ sgX11_told_100_ok ?_
      refine Or.inr ⟨rfl, _, 6, 1, 6, _, _, _, _, qi_11_151, ⟨rfl, rfl⟩, ⟨hC.obj, rfl⟩, rfl, rfl, X_need hg hT hC true, fun y100 h100 hy100 => ?_, fun E h9 z => ⟨z.mono (fun k hk => absurd rfl hk.2), Nat.le_of_ble_eq_true rfl, Nat.le_of_ble_eq_true rfl⟩⟩
      obtain ⟨hok, rfl, hh⟩ := hy100
      rw [hh]
      clear hh
      refine ⟨by decide, _, _, hC.obj, rfl, ?_⟩
      refine ⟨by decide, _, _, hC.rnd.1, rfl, ?_⟩
      refine ⟨.int, rfl, rfl, Nat.le_of_ble_eq_true rfl, Nat.le_of_ble_eq_true rfl, ?_⟩
      subst c92
      exact ⟨by decide, rfl, hC, gro.rf⟩
  · have ew := sw_eq c1a c1j
    rcases (show j = 0 ∨ j = 1 ∨ j = 2 ∨ j = 3 ∨ j = 4 ∨ j = 5 by omega) with rfl | rfl | rfl | rfl | rfl | rfl
    · refine ⟨_, 40, rfl, by decide, ?_⟩
      refine step.1 _ _ _ _ _ _ _ sgX11_told_40_ok ?_
      refine ⟨by decide, _, _, hC.obj, rfl, ?_⟩
      refine ⟨by decide, _, _, hC.rnd.1, rfl, ?_⟩
      refine ⟨.int, rfl, rfl, Nat.le_of_ble_eq_true rfl, Nat.le_of_ble_eq_true rfl, ?_⟩
      exact ⟨by rw [ew]; decide, by rw [ew]; rfl, hC, gro.rf⟩
    · refine ⟨_, 48, rfl, by decide, ?_⟩
      refine step.1 _ _ _ _ _ _ _ sgX11_told_48_ok ?_
      refine ⟨by decide, _, _, hC.obj, rfl, ?_⟩
      refine ⟨by decide, _, _, hC.choir.1, rfl, ?_⟩
      refine ⟨.int, rfl, rfl, Nat.le_of_ble_eq_true rfl, Nat.le_of_ble_eq_true rfl, ?_⟩
      exact ⟨by rw [ew]; decide, by rw [ew]; rfl, hC, gro.rf⟩
    · refine ⟨_, 56, rfl, by decide, ?_⟩
      refine step.1 _ _ _ _ _ _ _ sgX11_told_56_ok ?_
      refine ⟨by decide, _, _, hC.obj, rfl, ?_⟩
      refine ⟨by decide, _, _, hC.rnd.1, rfl, ?_⟩
      refine ⟨.int, rfl, rfl, Nat.le_of_ble_eq_true rfl, Nat.le_of_ble_eq_true rfl, ?_⟩
      exact ⟨by rw [ew]; decide, by rw [ew]; rfl, hC, gro.rf⟩
    · refine ⟨_, 64, rfl, by decide, ?_⟩
      refine step.1 _ _ _ _ _ _ _ sgX11_told_64_ok ?_
      refine ⟨by decide, _, _, hC.obj, rfl, ?_⟩
      refine ⟨by decide, _, _, hB.1, rfl, ?_⟩
      refine ⟨.int, rfl, rfl, Nat.le_of_ble_eq_true rfl, Nat.le_of_ble_eq_true rfl, ?_⟩
      exact ⟨by rw [ew]; decide, by rw [ew]; rfl, hC, gro.rf⟩
    · refine ⟨_, 72, rfl, by decide, ?_⟩
      refine step.1 _ _ _ _ _ _ _ sgX11_told_72_ok ?_
      refine ⟨by decide, _, _, hC.obj, rfl, ?_⟩
      refine ⟨by decide, _, _, hC.rnd.1, rfl, ?_⟩
      refine ⟨.int, rfl, rfl, Nat.le_of_ble_eq_true rfl, Nat.le_of_ble_eq_true rfl, ?_⟩
      exact ⟨by rw [ew]; decide, by rw [ew]; rfl, hC, gro.rf⟩
    · refine ⟨_, 80, rfl, by decide, ?_⟩
      refine step.1 _ _ _ _ _ _ _ sgX11_told_80_ok ?_
      refine ⟨by decide, _, _, hC.obj, rfl, ?_⟩
      refine ⟨by decide, _, _, hC.rnd.1, rfl, ?_⟩
      refine ⟨.int, rfl, rfl, Nat.le_of_ble_eq_true rfl, Nat.le_of_ble_eq_true rfl, ?_⟩
      exact ⟨by rw [ew]; decide, by rw [ew]; rfl, hC, gro.rf⟩
theorem F_door {g : qG} (hg : qOK g) (hT : qTHR g) {h : qH} {S : CS} (hC : CH h S) (hn : S.2.1.2.2.2.1 ≤ 10) (dr wh : Int32) : qSpecX g 8 4 24 mX11_door [.ref 0, .int dr, .int wh] h (fun r h' => ∃ x y : Nat, x < S.2.1.2.2.2.1 ∧ y ≤ 9 ∧ dr = nI x ∧ wh = nI y ∧ r = some (.int (S.2.1.1 (x * 10 + y))) ∧ CH h' S ∧ gro h h') (TX h S (fun k => (k = 0 ∧ ¬ wi 0 (nI S.2.1.2.2.2.1 - 1) dr = true) ∨ (k = 1 ∧ wi 0 (nI S.2.1.2.2.2.1 - 1) dr = true ∧ ¬ wi 0 9 wh = true))) := by
  refine qSpecX_runT "door" hg hT mX11_door_ok rfl rfl (Nat.le_of_ble_eq_true rfl) ?_
  intro run step stepT
  refine step.1 _ _ _ _ _ _ _ sgX11_door_0_ok ?_
  refine Or.inr ⟨rfl, _, 7, 1, 6, _, _, _, _, qi_11_196, ⟨rfl, rfl⟩, ⟨hC.obj, rfl⟩, rfl, rfl, X_needDoor hg hT hC _, fun y2 h2 hy2 => ?_, fun E h9 z => ⟨z.mono (fun k hk => Or.inl (⟨hk.1, hk.2⟩)), Nat.le_of_ble_eq_true rfl, Nat.le_of_ble_eq_true rfl⟩⟩
  obtain ⟨hD, rfl, hh⟩ := hy2
  rw [hh]
  clear hh
  refine Or.inl ⟨rfl, _, 1, 0, 0, _, Or.inl qi_11_147, ⟨rfl, rfl⟩, rfl, rfl, sp_within hg _ _ _, fun y10 h10 hy10 => ?_⟩
  obtain ⟨rfl, hh⟩ := hy10
  rw [hh]
  clear hh
  refine Or.inr ⟨rfl, _, 6, 1, 6, _, _, _, _, qi_11_151, ⟨rfl, rfl⟩, ⟨hC.obj, rfl⟩, rfl, rfl, X_need hg hT hC _, fun y13 h13 hy13 => ?_, fun E h9 z => ⟨z.mono (fun k hk => Or.inr (⟨hk.1, hD, hk.2⟩)), Nat.le_of_ble_eq_true rfl, Nat.le_of_ble_eq_true rfl⟩⟩
  obtain ⟨hw, rfl, hh⟩ := hy13
  rw [hh]
  clear hh
  obtain ⟨x, hx, ex⟩ := wi_lt (by omega) hD
  obtain ⟨y, hy, ey⟩ := wi_nat (m := 9) (by decide) hw
  refine ⟨by decide, _, _, hC.obj, rfl, ?_⟩
  refine Or.inl ⟨rfl, _, 1, 0, 0, _, _, _, qi_11_199, ⟨rfl, rfl⟩, ⟨hC.rnd.1, rfl⟩, rfl, rfl, (by rw [ex, ey]; exact R_of hg hC.rnd x y (by omega) (by omega)), fun y22 h22 hy22 => ?_⟩
  obtain ⟨rfl, hh⟩ := hy22
  rw [hh]
  clear hh
  refine ⟨.int, rfl, rfl, Nat.le_of_ble_eq_true rfl, Nat.le_of_ble_eq_true rfl, ?_⟩
  exact ⟨x, y, hx, hy, ex, ey, rfl, hC, gro.rf⟩
theorem F_singer {g : qG} (hg : qOK g) (hT : qTHR g) {h : qH} {S : CS} (hC : CH h S) (hm : S.2.2.2.1.2 ≤ 8) (dr wh : Int32) : qSpecX g 8 4 24 mX11_singer [.ref 0, .int dr, .int wh] h (fun r h' => ∃ x y : Nat, x < S.2.2.2.1.2 ∧ y ≤ 3 ∧ dr = nI x ∧ wh = nI y ∧ r = some (.int (S.2.2.2.1.1 (x * 4 + y))) ∧ CH h' S ∧ gro h h') (TX h S (fun k => (k = 0 ∧ ¬ wi 0 (nI S.2.2.2.1.2 - 1) dr = true) ∨ (k = 1 ∧ wi 0 (nI S.2.2.2.1.2 - 1) dr = true ∧ ¬ wi 0 3 wh = true))) := by
  refine qSpecX_runT "singer" hg hT mX11_singer_ok rfl rfl (Nat.le_of_ble_eq_true rfl) ?_
  intro run step stepT
  refine step.1 _ _ _ _ _ _ _ sgX11_singer_0_ok ?_
  refine ⟨by decide, _, _, hC.obj, rfl, ?_⟩
  refine ⟨by decide, _, _, hC.choir.1, rfl, ?_⟩
  refine Or.inl ⟨rfl, _, 1, 0, 0, _, Or.inl qi_11_147, ⟨rfl, rfl⟩, rfl, rfl, sp_within hg _ _ _, fun y12 h12 hy12 => ?_⟩
  obtain ⟨rfl, hh⟩ := hy12
  rw [hh]
  clear hh
  refine Or.inr ⟨rfl, _, 6, 1, 6, _, _, _, _, qi_11_203, ⟨rfl, rfl⟩, ⟨hC.obj, rfl⟩, rfl, rfl, X_needFound hg hT hC _, fun y15 h15 hy15 => ?_, fun E h9 z => ⟨z.mono (fun k hk => Or.inl (⟨hk.1, hk.2⟩)), Nat.le_of_ble_eq_true rfl, Nat.le_of_ble_eq_true rfl⟩⟩
  obtain ⟨hD, rfl, hh⟩ := hy15
  rw [hh]
  clear hh
  refine Or.inl ⟨rfl, _, 1, 0, 0, _, Or.inl qi_11_147, ⟨rfl, rfl⟩, rfl, rfl, sp_within hg _ _ _, fun y22 h22 hy22 => ?_⟩
  obtain ⟨rfl, hh⟩ := hy22
  rw [hh]
  clear hh
  refine Or.inr ⟨rfl, _, 6, 1, 6, _, _, _, _, qi_11_151, ⟨rfl, rfl⟩, ⟨hC.obj, rfl⟩, rfl, rfl, X_need hg hT hC _, fun y25 h25 hy25 => ?_, fun E h9 z => ⟨z.mono (fun k hk => Or.inr (⟨hk.1, hD, hk.2⟩)), Nat.le_of_ble_eq_true rfl, Nat.le_of_ble_eq_true rfl⟩⟩
  obtain ⟨hw, rfl, hh⟩ := hy25
  rw [hh]
  clear hh
  obtain ⟨x, hx, ex⟩ := wi_lt (by omega) hD
  obtain ⟨y, hy, ey⟩ := wi_nat (m := 3) (by decide) hw
  refine ⟨by decide, _, _, hC.obj, rfl, ?_⟩
  refine Or.inl ⟨rfl, _, 1, 0, 0, _, _, _, qi_11_206, ⟨rfl, rfl⟩, ⟨hC.choir.1, rfl⟩, rfl, rfl, (by rw [ex, ey]; exact C_of hg hC.choir x y (by omega) (by omega)), fun y34 h34 hy34 => ?_⟩
  obtain ⟨rfl, hh⟩ := hy34
  rw [hh]
  clear hh
  refine ⟨.int, rfl, rfl, Nat.le_of_ble_eq_true rfl, Nat.le_of_ble_eq_true rfl, ?_⟩
  exact ⟨x, y, hx, hy, ex, ey, rfl, hC, gro.rf⟩
theorem F_line {g : qG} (hg : qOK g) (hT : qTHR g) {h : qH} {S : CS} (hC : CH h S) {pf vf rf : Nat → Nat} (hk : S.2.1.2.2.2.2.1 ≤ 10) (hP : isP S.2.1.2.1 S.2.1.2.2.2.2.1 pf vf rf) (li wh : Int32) : qSpecX g 8 4 24 mX11_line [.ref 0, .int li, .int wh] h (fun r h' => ∃ x y : Nat, x < S.2.1.2.2.2.2.1 ∧ y ≤ 3 ∧ li = nI x ∧ wh = nI y ∧ r = some (.int (if y = 3 then lwayv S.2.1.1 S.2.1.2.2.2.2.2.2.1 pf x else S.2.1.2.1 (x * 3 + y))) ∧ CH h' S ∧ gro h h') (TX h S (fun k => (k = 0 ∧ ¬ wi 0 (nI S.2.1.2.2.2.2.1 - 1) li = true) ∨ (k = 1 ∧ wi 0 (nI S.2.1.2.2.2.2.1 - 1) li = true ∧ ¬ wi 0 3 wh = true))) := by
  refine qSpecX_runT "line" hg hT mX11_line_ok rfl rfl (Nat.le_of_ble_eq_true rfl) ?_
  intro run step stepT
  refine step.1 _ _ _ _ _ _ _ sgX11_line_0_ok ?_
  refine Or.inr ⟨rfl, _, 7, 1, 6, _, _, _, _, qi_11_207, ⟨rfl, rfl⟩, ⟨hC.obj, rfl⟩, rfl, rfl, X_needLine hg hT hC _, fun y2 h2 hy2 => ?_, fun E h9 z => ⟨z.mono (fun k hk => Or.inl (⟨hk.1, hk.2⟩)), Nat.le_of_ble_eq_true rfl, Nat.le_of_ble_eq_true rfl⟩⟩
  obtain ⟨hD, rfl, hh⟩ := hy2
  rw [hh]
  clear hh
  refine Or.inl ⟨rfl, _, 1, 0, 0, _, Or.inl qi_11_147, ⟨rfl, rfl⟩, rfl, rfl, sp_within hg _ _ _, fun y9 h9 hy9 => ?_⟩
  obtain ⟨rfl, hh⟩ := hy9
  rw [hh]
  clear hh
  refine Or.inr ⟨rfl, _, 6, 1, 6, _, _, _, _, qi_11_151, ⟨rfl, rfl⟩, ⟨hC.obj, rfl⟩, rfl, rfl, X_need hg hT hC _, fun y12 h12 hy12 => ?_, fun E h9 z => ⟨z.mono (fun k hk => Or.inr (⟨hk.1, hD, hk.2⟩)), Nat.le_of_ble_eq_true rfl, Nat.le_of_ble_eq_true rfl⟩⟩
  obtain ⟨hw, rfl, hh⟩ := hy12
  rw [hh]
  clear hh
  obtain ⟨x, hx, ex⟩ := wi_lt (by omega) hD
  obtain ⟨y, hy, ey⟩ := wi_nat (m := 3) (by decide) hw
  refine ⟨fun c17 => ?_, fun c17 => ?_⟩
  · have hy3 : y < 3 := by
      rcases Nat.lt_or_ge y 3 with z | z
      · exact z
      · exact absurd (by rw [ey, show y = 3 by omega]; rfl) c17
    refine step.1 _ _ _ _ _ _ _ sgX11_line_31_ok ?_
    refine ⟨by decide, _, _, hC.obj, rfl, ?_⟩
    refine Or.inl ⟨rfl, _, 1, 0, 0, _, _, _, qi_11_214, ⟨rfl, rfl⟩, ⟨hC.rnd.1, rfl⟩, rfl, rfl, (by rw [ex, ey]; exact R_ofLine hg hC.rnd x y (by omega) hy3), fun y37 h37 hy37 => ?_⟩
    obtain ⟨rfl, hh⟩ := hy37
    rw [hh]
    clear hh
    refine step.1 _ _ _ _ _ _ _ sgX11_line_40_ok ?_
    refine ⟨.int, rfl, rfl, Nat.le_of_ble_eq_true rfl, Nat.le_of_ble_eq_true rfl, ?_⟩
    exact ⟨x, y, hx, hy, ex, ey, by rw [if_neg (by omega)], hC, gro.rf⟩
  · have hy3 : y = 3 := by
      rw [ey] at c17
      exact (nI_eq (b := 3) (by omega) (by decide)).mp c17
    refine ⟨by decide, _, _, hC.obj, rfl, ?_⟩
    refine Or.inl ⟨rfl, _, 2, 0, 0, _, _, _, qi_11_210, ⟨rfl, rfl⟩, ⟨hC.rnd.1, rfl⟩, rfl, rfl, (by rw [ex]; exact R_way hg hC.rnd x (pf x) (pf (x - 1)) (by omega) (hP x hx).1.1 (hP x hx).1.2 (fun e => (hP (x - 1) (by omega)).1)), fun y25 h25 hy25 => ?_⟩
    obtain ⟨rfl, hh⟩ := hy25
    rw [hh]
    clear hh
    refine step.1 _ _ _ _ _ _ _ sgX11_line_40_ok ?_
    refine ⟨.int, rfl, rfl, Nat.le_of_ble_eq_true rfl, Nat.le_of_ble_eq_true rfl, ?_⟩
    exact ⟨x, y, hx, hy, ex, ey, by rw [if_pos hy3]; rfl, hC, gro.rf⟩
theorem F_status {g : qG} (hg : qOK g) {h : qH} {S : CS} (hC : CH h S) (v : Int32) : qSpec g 1 0 0 mX11_status [.ref 0, .int v] h (fun r h' => r = some (.int (if v = nI 0 then S.2.2.2.2.2.2.1 else if v = nI 1 then S.2.2.2.2.2.2.2.1 else if v = nI 2 then S.2.2.2.2.2.2.2.2 else -1)) ∧ CH h' S ∧ gro h h') := by
  refine qSpec_run 11 "status" false hg mX11_status_ok rfl rfl (Nat.le_of_ble_eq_true rfl) (by decide) ?_
  intro run step
  refine step.1 _ _ _ _ _ _ _ sgX11_status_0_ok ?_
  refine ⟨fun c1 => ⟨43, by decide, ?_⟩, fun j c1a c1b c1j => ?_⟩
  · have n0 : ∀ k : Nat, k < 3 → ¬ v = nI k := fun k hk e => by
      rw [e, nI_toInt (by omega)] at c1
      omega
    refine step.1 _ _ _ _ _ _ _ sgX11_status_43_ok ?_
    refine ⟨.int, rfl, rfl, Nat.le_refl _, Nat.le_refl _, ?_⟩
    exact ⟨by rw [if_neg (n0 0 (by decide)), if_neg (n0 1 (by decide)), if_neg (n0 2 (by decide))], hC, gro.rf⟩
  · have ew := sw_eq c1a c1j
    rcases (show j = 0 ∨ j = 1 ∨ j = 2 by omega) with rfl | rfl | rfl
    · refine ⟨_, 28, rfl, by decide, ?_⟩
      refine step.1 _ _ _ _ _ _ _ sgX11_status_28_ok ?_
      refine ⟨by decide, _, _, hC.obj, rfl, ?_⟩
      refine ⟨.int, rfl, rfl, Nat.le_refl _, Nat.le_refl _, ?_⟩
      exact ⟨by rw [ew]; rfl, hC, gro.rf⟩
    · refine ⟨_, 33, rfl, by decide, ?_⟩
      refine step.1 _ _ _ _ _ _ _ sgX11_status_33_ok ?_
      refine ⟨by decide, _, _, hC.obj, rfl, ?_⟩
      refine ⟨.int, rfl, rfl, Nat.le_refl _, Nat.le_refl _, ?_⟩
      exact ⟨by rw [ew]; rfl, hC, gro.rf⟩
    · refine ⟨_, 38, rfl, by decide, ?_⟩
      refine step.1 _ _ _ _ _ _ _ sgX11_status_38_ok ?_
      refine ⟨by decide, _, _, hC.obj, rfl, ?_⟩
      refine ⟨.int, rfl, rfl, Nat.le_refl _, Nat.le_refl _, ?_⟩
      exact ⟨by rw [ew]; rfl, hC, gro.rf⟩
theorem F_count {g : qG} (hg : qOK g) {h : qH} {S : CS} (hC : CH h S) (v : Int32) : qSpec g 1 0 0 mX11_count [.ref 0, .int v] h (fun r h' => r = some (.int (if v = nI 0 then nI S.2.2.1.2 else if v = nI 1 then nI S.1.2.1 else if v = nI 2 then nI S.2.1.2.2.2.2.2.1 else -1)) ∧ CH h' S ∧ gro h h') := by
  refine qSpec_run 11 "count" false hg mX11_count_ok rfl rfl (Nat.le_of_ble_eq_true rfl) (by decide) ?_
  intro run step
  obtain ⟨en, po, fr, ki, hTp⟩ := hC.tape
  refine step.1 _ _ _ _ _ _ _ sgX11_count_0_ok ?_
  refine ⟨fun c1 => ⟨49, by decide, ?_⟩, fun j c1a c1b c1j => ?_⟩
  · have n0 : ∀ k : Nat, k < 3 → ¬ v = nI k := fun k hk e => by
      rw [e, nI_toInt (by omega)] at c1
      omega
    refine step.1 _ _ _ _ _ _ _ sgX11_count_49_ok ?_
    refine ⟨.int, rfl, rfl, Nat.le_refl _, Nat.le_refl _, ?_⟩
    exact ⟨by rw [if_neg (n0 0 (by decide)), if_neg (n0 1 (by decide)), if_neg (n0 2 (by decide))], hC, gro.rf⟩
  · have ew := sw_eq c1a c1j
    rcases (show j = 0 ∨ j = 1 ∨ j = 2 by omega) with rfl | rfl | rfl
    · refine ⟨_, 28, rfl, by decide, ?_⟩
      refine step.1 _ _ _ _ _ _ _ sgX11_count_28_ok ?_
      refine ⟨by decide, _, _, hC.obj, rfl, ?_⟩
      refine ⟨.int, rfl, rfl, Nat.le_refl _, Nat.le_refl _, ?_⟩
      exact ⟨by rw [ew]; rfl, hC, gro.rf⟩
    · refine ⟨_, 33, rfl, by decide, ?_⟩
      refine step.1 _ _ _ _ _ _ _ sgX11_count_33_ok ?_
      refine ⟨by decide, _, _, hC.obj, rfl, ?_⟩
      refine ⟨by decide, _, _, hTp.1, rfl, ?_⟩
      refine ⟨.int, rfl, rfl, Nat.le_refl _, Nat.le_refl _, ?_⟩
      exact ⟨by rw [ew]; rfl, hC, gro.rf⟩
    · refine ⟨_, 41, rfl, by decide, ?_⟩
      refine step.1 _ _ _ _ _ _ _ sgX11_count_41_ok ?_
      refine ⟨by decide, _, _, hC.obj, rfl, ?_⟩
      refine ⟨by decide, _, _, hC.rnd.1, rfl, ?_⟩
      refine ⟨.int, rfl, rfl, Nat.le_refl _, Nat.le_refl _, ?_⟩
      exact ⟨by rw [ew]; rfl, hC, gro.rf⟩
theorem F_longest {g : qG} (hg : qOK g) {h : qH} {S : CS} (hC : CH h S) {pf vf rf : Nat → Nat} (hk : S.2.1.2.2.2.2.1 ≤ 10) (hP : isP S.2.1.2.1 S.2.1.2.2.2.2.1 pf vf rf) (hl : lwf S.2.2.2.2.1.1) : qSpec g 5 0 0 mX11_longest [.ref 0] h (fun r h' => r = some (.int (lall S.2.1.1 S.2.1.2.2.2.2.2.2.1 S.2.1.2.2.2.2.2.2.2.1 pf vf rf 0 S.2.1.2.2.2.2.1 0)) ∧ CH h' S ∧ gro h h') := by
  refine qSpec_run 11 "longest" false hg mX11_longest_ok rfl rfl (Nat.le_of_ble_eq_true rfl) (by decide) ?_
  intro run step
  obtain ⟨ta, tb, tc, td, te, tf, tg, th, hTo⟩ := hC.tour
  refine step.1 _ _ _ _ _ _ _ sgX11_longest_0_ok ?_
  refine ⟨by decide, _, _, hC.obj, rfl, ?_⟩
  refine Or.inl ⟨rfl, _, 4, 0, 0, _, _, _, qi_11_238, ⟨rfl, rfl⟩, ⟨hTo, rfl⟩, rfl, rfl, T_allMinutes hg (hC.W hl) hP hk hTo, fun y4 h4 hy4 => ?_⟩
  obtain ⟨rfl, hh⟩ := hy4
  rw [hh]
  clear hh
  refine ⟨.int, rfl, rfl, Nat.le_refl _, Nat.le_refl _, ?_⟩
  exact ⟨rfl, hC, gro.rf⟩
theorem F_sure {g : qG} (hg : qOK g) {h : qH} {S : CS} (hC : CH h S) {pf vf rf : Nat → Nat} (hk : S.2.1.2.2.2.2.1 ≤ 10) (hP : isP S.2.1.2.1 S.2.1.2.2.2.2.1 pf vf rf) (hl : lwf S.2.2.2.2.1.1) : qSpec g 5 0 0 mX11_sure [.ref 0] h (fun r h' => r = some (.int (lsure S.2.1.1 S.2.1.2.2.2.2.2.2.1 S.2.1.2.2.2.2.2.2.2.1 S.2.1.2.2.2.2.2.2.2.2 pf vf rf 0 S.2.1.2.2.2.2.1 0)) ∧ CH h' S ∧ gro h h') := by
  refine qSpec_run 11 "sure" false hg mX11_sure_ok rfl rfl (Nat.le_of_ble_eq_true rfl) (by decide) ?_
  intro run step
  obtain ⟨ta, tb, tc, td, te, tf, tg, th, hTo⟩ := hC.tour
  refine step.1 _ _ _ _ _ _ _ sgX11_sure_0_ok ?_
  refine ⟨by decide, _, _, hC.obj, rfl, ?_⟩
  refine Or.inl ⟨rfl, _, 4, 0, 0, _, _, _, qi_11_242, ⟨rfl, rfl⟩, ⟨hTo, rfl⟩, rfl, rfl, T_linesInTime hg (hC.W hl) hP hk hTo, fun y4 h4 hy4 => ?_⟩
  obtain ⟨rfl, hh⟩ := hy4
  rw [hh]
  clear hh
  refine ⟨.int, rfl, rfl, Nat.le_refl _, Nat.le_refl _, ?_⟩
  exact ⟨rfl, hC, gro.rf⟩
theorem F_flat {g : qG} (hg : qOK g) {h : qH} {S : CS} (hC : CH h S) (hm : S.2.2.2.1.2 ≤ 8) : qSpec g 4 0 0 mX11_flat [.ref 0] h (fun r h' => r = some (.int (cfirst S.2.2.2.1.1 S.2.2.2.1.2 0 4 (-1))) ∧ CH h' S ∧ gro h h') := by
  refine qSpec_run 11 "flat" false hg mX11_flat_ok rfl rfl (Nat.le_of_ble_eq_true rfl) (by decide) ?_
  intro run step
  refine step.1 _ _ _ _ _ _ _ sgX11_flat_0_ok ?_
  refine ⟨by decide, _, _, hC.obj, rfl, ?_⟩
  refine Or.inl ⟨rfl, _, 3, 0, 0, _, _, _, qi_11_288, ⟨rfl, rfl⟩, ⟨hC.choir.1, rfl⟩, rfl, rfl, C_firstMissing hg hC.choir hm, fun y4 h4 hy4 => ?_⟩
  obtain ⟨rfl, hh⟩ := hy4
  rw [hh]
  clear hh
  refine ⟨.int, rfl, rfl, Nat.le_refl _, Nat.le_refl _, ?_⟩
  exact ⟨rfl, hC, gro.rf⟩
theorem F_there {g : qG} (hg : qOK g) (hT : qTHR g) {h : qH} {S : CS} (hC : CH h S) (hm : S.2.2.2.1.2 ≤ 8) (mi : Int32) : qSpecX g 7 4 24 mX11_there [.ref 0, .int mi] h (fun r h' => wi 0 480 mi = true ∧ r = some (.int (cnoth S.2.2.2.1.1 mi 0 S.2.2.2.1.2 0)) ∧ CH h' S ∧ gro h h') (TX h S (fun k => (k = 1 ∧ ¬ wi 0 480 mi = true))) := by
  refine qSpecX_runT "there" hg hT mX11_there_ok rfl rfl (Nat.le_of_ble_eq_true rfl) ?_
  intro run step stepT
  refine step.1 _ _ _ _ _ _ _ sgX11_there_0_ok ?_
  refine Or.inl ⟨rfl, _, 1, 0, 0, _, Or.inl qi_11_147, ⟨rfl, rfl⟩, rfl, rfl, sp_within hg _ _ _, fun y6 h6 hy6 => ?_⟩
  obtain ⟨rfl, hh⟩ := hy6
  rw [hh]
  clear hh
  refine Or.inr ⟨rfl, _, 6, 1, 6, _, _, _, _, qi_11_151, ⟨rfl, rfl⟩, ⟨hC.obj, rfl⟩, rfl, rfl, X_need hg hT hC _, fun y9 h9 hy9 => ?_, fun E h9 z => ⟨z.mono (fun k hk => ⟨hk.1, hk.2⟩), Nat.le_of_ble_eq_true rfl, Nat.le_of_ble_eq_true rfl⟩⟩
  obtain ⟨hw, rfl, hh⟩ := hy9
  rw [hh]
  clear hh
  refine ⟨by decide, _, _, hC.obj, rfl, ?_⟩
  refine Or.inl ⟨rfl, _, 3, 0, 0, _, _, _, qi_11_285, ⟨rfl, rfl⟩, ⟨hC.choir.1, rfl⟩, rfl, rfl, C_notHome hg hC.choir hm _, fun y17 h17 hy17 => ?_⟩
  obtain ⟨rfl, hh⟩ := hy17
  rw [hh]
  clear hh
  refine ⟨.int, rfl, rfl, Nat.le_of_ble_eq_true rfl, Nat.le_of_ble_eq_true rfl, ?_⟩
  exact ⟨hw, rfl, hC, gro.rf⟩
theorem F_lasts {g : qG} (hg : qOK g) (hT : qTHR g) {h : qH} {S : CS} (hC : CH h S) (hm : S.2.2.2.1.2 ≤ 8) (m mi : Int32) : qSpecX g 7 4 24 mX11_lasts [.ref 0, .int m, .int mi] h (fun r h' => (wi 0 8 m && wi 0 480 mi) = true ∧ r = some (.int (cmost S.2.2.2.1.1 S.2.2.2.1.2 m mi (-1) 99)) ∧ CH h' S ∧ gro h h') (TX h S (fun k => (k = 1 ∧ ¬ (wi 0 8 m && wi 0 480 mi) = true))) := by
  refine qSpecX_runT "lasts" hg hT mX11_lasts_ok rfl rfl (Nat.le_of_ble_eq_true rfl) ?_
  intro run step stepT
  refine step.1 _ _ _ _ _ _ _ sgX11_lasts_0_ok ?_
  refine Or.inl ⟨rfl, _, 1, 0, 0, _, Or.inl qi_11_147, ⟨rfl, rfl⟩, rfl, rfl, sp_within hg _ _ _, fun y5 h5 hy5 => ?_⟩
  obtain ⟨rfl, hh⟩ := hy5
  rw [hh]
  clear hh
  refine ⟨fun c8 => ?_, fun c8 => ?_⟩
  · have w8 : wi 0 8 m = false := qb_0.mp c8
    refine step.1 _ _ _ _ _ _ _ sgX11_lasts_26_ok ?_
    refine step.1 _ _ _ _ _ _ _ sgX11_lasts_27_ok ?_
    refine Or.inr ⟨rfl, _, 6, 1, 6, _, _, _, _, qi_11_151, ⟨rfl, rfl⟩, ⟨hC.obj, rfl⟩, rfl, rfl, X_need hg hT hC false, fun y27 h27 hy27 => ?_, fun E h9 z => ⟨z.mono (fun k hk => ⟨hk.1, fun z => by rw [w8] at z; cases z⟩), Nat.le_of_ble_eq_true rfl, Nat.le_of_ble_eq_true rfl⟩⟩
    obtain ⟨hbad, rfl, hh⟩ := hy27
    rw [hh]
    clear hh
    cases hbad
    
  · have w8 : wi 0 8 m = true := qb_1.mp c8
    refine Or.inl ⟨rfl, _, 1, 0, 0, _, Or.inl qi_11_147, ⟨rfl, rfl⟩, rfl, rfl, sp_within hg _ _ _, fun y16 h16 hy16 => ?_⟩
    obtain ⟨rfl, hh⟩ := hy16
    rw [hh]
    clear hh
    refine ⟨fun c19 => ?_, fun c19 => ?_⟩
    · have w19 : wi 0 480 mi = false := qb_0.mp c19
      refine step.1 _ _ _ _ _ _ _ sgX11_lasts_26_ok ?_
      refine step.1 _ _ _ _ _ _ _ sgX11_lasts_27_ok ?_
      refine Or.inr ⟨rfl, _, 6, 1, 6, _, _, _, _, qi_11_151, ⟨rfl, rfl⟩, ⟨hC.obj, rfl⟩, rfl, rfl, X_need hg hT hC false, fun y27 h27 hy27 => ?_, fun E h9 z => ⟨z.mono (fun k hk => ⟨hk.1, fun z => by rw [w8, w19] at z; cases z⟩), Nat.le_of_ble_eq_true rfl, Nat.le_of_ble_eq_true rfl⟩⟩
      obtain ⟨hbad, rfl, hh⟩ := hy27
      rw [hh]
      clear hh
      cases hbad
      
    · have w19 : wi 0 480 mi = true := qb_1.mp c19
      refine step.1 _ _ _ _ _ _ _ sgX11_lasts_27_ok ?_
      refine Or.inr ⟨rfl, _, 6, 1, 6, _, _, _, _, qi_11_151, ⟨rfl, rfl⟩, ⟨hC.obj, rfl⟩, rfl, rfl, X_need hg hT hC true, fun y27 h27 hy27 => ?_, fun E h9 z => ⟨z.mono (fun k hk => ⟨hk.1, absurd rfl hk.2⟩), Nat.le_of_ble_eq_true rfl, Nat.le_of_ble_eq_true rfl⟩⟩
      obtain ⟨hok, rfl, hh⟩ := hy27
      rw [hh]
      clear hh
      have hw : (wi 0 8 m && wi 0 480 mi) = true := by rw [w8, w19]; rfl
      refine ⟨by decide, _, _, hC.obj, rfl, ?_⟩
      refine Or.inl ⟨rfl, _, 5, 0, 0, _, _, _, qi_11_282, ⟨rfl, rfl⟩, ⟨hC.choir.1, rfl⟩, rfl, rfl, C_mostVerses hg hC.choir hm _ _ _, fun y37 h37 hy37 => ?_⟩
      obtain ⟨rfl, hh⟩ := hy37
      rw [hh]
      clear hh
      refine ⟨.int, rfl, rfl, Nat.le_of_ble_eq_true rfl, Nat.le_of_ble_eq_true rfl, ?_⟩
      exact ⟨hw, rfl, hC, gro.rf⟩
theorem F_without {g : qG} (hg : qOK g) (hT : qTHR g) {h : qH} {S : CS} (hC : CH h S) (hm : S.2.2.2.1.2 ≤ 8) (p m mi : Int32) : qSpecX g 7 4 24 mX11_without [.ref 0, .int p, .int m, .int mi] h (fun r h' => wi 0 3 p = true ∧ (wi 0 8 m && wi 0 480 mi) = true ∧ r = some (.int (cmost S.2.2.2.1.1 S.2.2.2.1.2 m mi p 99)) ∧ CH h' S ∧ gro h h') (TX h S (fun k => (k = 1 ∧ ¬ wi 0 3 p = true) ∨ (k = 1 ∧ wi 0 3 p = true ∧ ¬ (wi 0 8 m && wi 0 480 mi) = true))) := by
  refine qSpecX_runT "without" hg hT mX11_without_ok rfl rfl (Nat.le_of_ble_eq_true rfl) ?_
  intro run step stepT
  refine step.1 _ _ _ _ _ _ _ sgX11_without_0_ok ?_
  refine Or.inl ⟨rfl, _, 1, 0, 0, _, Or.inl qi_11_147, ⟨rfl, rfl⟩, rfl, rfl, sp_within hg _ _ _, fun y4 h4 hy4 => ?_⟩
  obtain ⟨rfl, hh⟩ := hy4
  rw [hh]
  clear hh
  refine Or.inr ⟨rfl, _, 6, 1, 6, _, _, _, _, qi_11_151, ⟨rfl, rfl⟩, ⟨hC.obj, rfl⟩, rfl, rfl, X_need hg hT hC _, fun y7 h7 hy7 => ?_, fun E h9 z => ⟨z.mono (fun k hk => Or.inl (⟨hk.1, hk.2⟩)), Nat.le_of_ble_eq_true rfl, Nat.le_of_ble_eq_true rfl⟩⟩
  obtain ⟨hp, rfl, hh⟩ := hy7
  rw [hh]
  clear hh
  refine Or.inl ⟨rfl, _, 1, 0, 0, _, Or.inl qi_11_147, ⟨rfl, rfl⟩, rfl, rfl, sp_within hg _ _ _, fun y15 h15 hy15 => ?_⟩
  obtain ⟨rfl, hh⟩ := hy15
  rw [hh]
  clear hh
  refine ⟨fun c18 => ?_, fun c18 => ?_⟩
  · have w18 : wi 0 8 m = false := qb_0.mp c18
    refine step.1 _ _ _ _ _ _ _ sgX11_without_36_ok ?_
    refine step.1 _ _ _ _ _ _ _ sgX11_without_37_ok ?_
    refine Or.inr ⟨rfl, _, 6, 1, 6, _, _, _, _, qi_11_151, ⟨rfl, rfl⟩, ⟨hC.obj, rfl⟩, rfl, rfl, X_need hg hT hC false, fun y37 h37 hy37 => ?_, fun E h9 z => ⟨z.mono (fun k hk => Or.inr (⟨hk.1, hp, fun z => by rw [w18] at z; cases z⟩)), Nat.le_of_ble_eq_true rfl, Nat.le_of_ble_eq_true rfl⟩⟩
    obtain ⟨hbad, rfl, hh⟩ := hy37
    rw [hh]
    clear hh
    cases hbad
    
  · have w18 : wi 0 8 m = true := qb_1.mp c18
    refine Or.inl ⟨rfl, _, 1, 0, 0, _, Or.inl qi_11_147, ⟨rfl, rfl⟩, rfl, rfl, sp_within hg _ _ _, fun y26 h26 hy26 => ?_⟩
    obtain ⟨rfl, hh⟩ := hy26
    rw [hh]
    clear hh
    refine ⟨fun c29 => ?_, fun c29 => ?_⟩
    · have w29 : wi 0 480 mi = false := qb_0.mp c29
      refine step.1 _ _ _ _ _ _ _ sgX11_without_36_ok ?_
      refine step.1 _ _ _ _ _ _ _ sgX11_without_37_ok ?_
      refine Or.inr ⟨rfl, _, 6, 1, 6, _, _, _, _, qi_11_151, ⟨rfl, rfl⟩, ⟨hC.obj, rfl⟩, rfl, rfl, X_need hg hT hC false, fun y37 h37 hy37 => ?_, fun E h9 z => ⟨z.mono (fun k hk => Or.inr (⟨hk.1, hp, fun z => by rw [w18, w29] at z; cases z⟩)), Nat.le_of_ble_eq_true rfl, Nat.le_of_ble_eq_true rfl⟩⟩
      obtain ⟨hbad, rfl, hh⟩ := hy37
      rw [hh]
      clear hh
      cases hbad
      
    · have w29 : wi 0 480 mi = true := qb_1.mp c29
      refine step.1 _ _ _ _ _ _ _ sgX11_without_37_ok ?_
      refine Or.inr ⟨rfl, _, 6, 1, 6, _, _, _, _, qi_11_151, ⟨rfl, rfl⟩, ⟨hC.obj, rfl⟩, rfl, rfl, X_need hg hT hC true, fun y37 h37 hy37 => ?_, fun E h9 z => ⟨z.mono (fun k hk => Or.inr (⟨hk.1, hp, absurd rfl hk.2⟩)), Nat.le_of_ble_eq_true rfl, Nat.le_of_ble_eq_true rfl⟩⟩
      obtain ⟨hok, rfl, hh⟩ := hy37
      rw [hh]
      clear hh
      have hw : (wi 0 8 m && wi 0 480 mi) = true := by rw [w18, w29]; rfl
      refine ⟨by decide, _, _, hC.obj, rfl, ?_⟩
      refine Or.inl ⟨rfl, _, 5, 0, 0, _, _, _, qi_11_282, ⟨rfl, rfl⟩, ⟨hC.choir.1, rfl⟩, rfl, rfl, C_mostVerses hg hC.choir hm _ _ _, fun y47 h47 hy47 => ?_⟩
      obtain ⟨rfl, hh⟩ := hy47
      rw [hh]
      clear hh
      refine ⟨.int, rfl, rfl, Nat.le_of_ble_eq_true rfl, Nat.le_of_ble_eq_true rfl, ?_⟩
      exact ⟨hp, hw, rfl, hC, gro.rf⟩
theorem F_right {g : qG} (hg : qOK g) (hT : qTHR g) {h : qH} {S : CS} (hC : CH h S) (hn : S.2.1.2.2.2.1 ≤ 10) (hb : S.2.2.2.2.2.1.2.2 ≤ 8) (v : Int32) : qSpecX g 7 4 24 mX11_right [.ref 0, .int v] h (fun r h' => wi 0 (nI (2 ^ S.2.1.2.2.2.1 - 1)) v = true ∧ r = some (.int (nI (brt S.2.1.1 S.2.2.2.2.2.1.1 S.2.2.2.2.2.1.2.1 v S.2.2.2.2.2.1.2.2 0))) ∧ CH h' S ∧ gro h h') (TX h S (fun k => (k = 1 ∧ ¬ wi 0 (nI (2 ^ S.2.1.2.2.2.1 - 1)) v = true))) := by
  refine qSpecX_runT "right" hg hT mX11_right_ok rfl rfl (Nat.le_of_ble_eq_true rfl) ?_
  intro run step stepT
  obtain ⟨se, fi, ia, ino, hB⟩ := hC.book
  refine step.1 _ _ _ _ _ _ _ sgX11_right_0_ok ?_
  refine ⟨by decide, _, _, hC.obj, rfl, ?_⟩
  refine Or.inl ⟨rfl, _, 1, 0, 0, _, _, _, qi_11_324, ⟨rfl, rfl⟩, ⟨hC.rnd.1, rfl⟩, rfl, rfl, R_allDoors hg hC.rnd, fun y7 h7 hy7 => ?_⟩
  obtain ⟨rfl, hh⟩ := hy7
  rw [hh, all_nn _ (by omega)]
  clear hh
  refine Or.inl ⟨rfl, _, 1, 0, 0, _, Or.inl qi_11_147, ⟨rfl, rfl⟩, rfl, rfl, sp_within hg _ _ _, fun y10 h10 hy10 => ?_⟩
  obtain ⟨rfl, hh⟩ := hy10
  rw [hh]
  clear hh
  refine Or.inr ⟨rfl, _, 6, 1, 6, _, _, _, _, qi_11_151, ⟨rfl, rfl⟩, ⟨hC.obj, rfl⟩, rfl, rfl, X_need hg hT hC _, fun y13 h13 hy13 => ?_, fun E h9 z => ⟨z.mono (fun k hk => ⟨hk.1, hk.2⟩), Nat.le_of_ble_eq_true rfl, Nat.le_of_ble_eq_true rfl⟩⟩
  obtain ⟨hw, rfl, hh⟩ := hy13
  rw [hh]
  clear hh
  refine ⟨by decide, _, _, hC.obj, rfl, ?_⟩
  refine ⟨by decide, _, _, hC.obj, rfl, ?_⟩
  refine Or.inl ⟨rfl, _, 3, 0, 0, _, _, _, qi_11_327, ⟨rfl, rfl⟩, ⟨hB.1, rfl⟩, rfl, rfl, B_right hg hB hb hC.rnd _, fun y25 h25 hy25 => ?_⟩
  obtain ⟨rfl, hh⟩ := hy25
  rw [hh]
  clear hh
  refine ⟨.int, rfl, rfl, Nat.le_of_ble_eq_true rfl, Nat.le_of_ble_eq_true rfl, ?_⟩
  exact ⟨hw, rfl, hC, gro.rf⟩
end Q09C
