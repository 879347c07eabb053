section Q09H
theorem same.up2 {h : qH} {k j : Nat} {e e' : qE} {l : List Nat} (hk : k ∈ l) (hj : j ∈ l) : same h (h.1, qup (qup h.2 k e) j e') l := ⟨rfl, fun i hi => (qup_n (f := qup h.2 k e) (k := j) (j := i) (fun q => hi (q ▸ hj))).trans (qup_n (fun q => hi (q ▸ hk)))⟩
/-- the steps of a change, on the round -/
theorem R3_note {g : qG} (hg : qOK g) {h : qH} {D P U : Nat → Int32} {n k st ve cl : Int32} {x : Nat} (hR : isR h 3 4 5 6 D P U n k (nI x) st ve cl) (hx : x < 20) (kd p q r s : Int32) : qSpec g 2 0 0 mX6_note [.ref 3, .int kd, .int p, .int q, .int r, .int s] h (fun y h' => y = none ∧ same h h' [3, 4, 5, 6] ∧ isR h' 3 4 5 6 D P (unote U x kd p q r s) n k (nI (x + 1)) st ve cl) := by
  refine qSpec_mono (R_note hg hR hx kd p q r s) ?_
  intro y h' hy
  obtain ⟨rfl, rfl⟩ := hy
  exact ⟨rfl, same.up2 (by simp) (by simp), rfl, hR.2.1, hR.2.2.1, rfl⟩
theorem R3_setDoor {g : qG} (hg : qOK g) {h : qH} {D P U : Nat → Int32} {n k u st ve cl : Int32} (hR : isR h 3 4 5 6 D P U n k u st ve cl) (x y : Nat) (v : Int32) (hx : x < 10) (hy : y < 10) : qSpec g 1 0 0 mX6_setDoor [.ref 3, .int (nI x), .int (nI y), .int v] h (fun r h' => r = none ∧ same h h' [3, 4, 5, 6] ∧ isR h' 3 4 5 6 (upd D (x * 10 + y) v) P U n k u st ve cl) := by
  refine qSpec_mono (R_setDoor hg hR x y v hx hy) ?_
  intro y2 h' hy2
  obtain ⟨rfl, rfl⟩ := hy2
  exact ⟨rfl, same.up (by simp), hR.1, rfl, hR.2.2.1, hR.2.2.2⟩
theorem R3_setLine {g : qG} (hg : qOK g) {h : qH} {D P U : Nat → Int32} {n k u st ve cl : Int32} (hR : isR h 3 4 5 6 D P U n k u st ve cl) (x : Nat) (p v r : Int32) (hx : x < 10) : qSpec g 2 0 0 mX6_setLine [.ref 3, .int (nI x), .int p, .int v, .int r] h (fun y h' => y = none ∧ same h h' [3, 4, 5, 6] ∧ isR h' 3 4 5 6 D (lput P x p v r) U n k u st ve cl) := by
  refine qSpec_mono (R_setLine hg hR x p v r hx) ?_
  intro y2 h' hy2
  obtain ⟨rfl, rfl⟩ := hy2
  exact ⟨rfl, same.up (by simp), hR.1, hR.2.1, rfl, hR.2.2.2⟩
def lxch (P : Nat → Int32) (x y : Nat) : Nat → Int32 := lput (lput P x (P (y * 3)) (P (y * 3 + 1)) (P (y * 3 + 2))) y (P (x * 3)) (P (x * 3 + 1)) (P (x * 3 + 2))
theorem R3_exchange {g : qG} (hg : qOK g) {h : qH} {D P U : Nat → Int32} {n k u st ve cl : Int32} (hR : isR h 3 4 5 6 D P U n k u st ve cl) (x y : Nat) (hx : x < 10) (hy0 : y < 10) : qSpec g 4 0 0 mX6_exchange [.ref 3, .int (nI x), .int (nI y)] h (fun r h' => r = none ∧ same h h' [3, 4, 5, 6] ∧ isR h' 3 4 5 6 D (lxch P x y) U n k u st ve cl) := by
  refine qSpec_mono (R_exchange hg hR x y hx hy0 (by decide) (by decide)) ?_
  intro y2 h' hy2
  obtain ⟨rfl, rfl⟩ := hy2
  exact ⟨rfl, same.up (by simp), hR.1, hR.2.1, rfl, hR.2.2.2⟩
theorem R3_takeOut {g : qG} (hg : qOK g) {h : qH} {D P U : Nat → Int32} {n u st ve cl : Int32} {K : Nat} (hR : isR h 3 4 5 6 D P U n (nI K) u st ve cl) (x : Nat) (hx : x < K) (hK : K ≤ 10) : qSpec g 4 0 0 mX6_takeOut [.ref 3, .int (nI x)] h (fun r h' => r = none ∧ same h h' [3, 4, 5, 6] ∧ isR h' 3 4 5 6 D (ltake P x (K - 1 - x)) U n (nI (K - 1)) u st ve cl) := by
  refine qSpec_mono (R_takeOut hg hR x hx hK (by decide) (by decide)) ?_
  intro y2 h' hy2
  obtain ⟨rfl, rfl⟩ := hy2
  exact ⟨rfl, same.up2 (by simp) (by simp), rfl, hR.2.1, rfl, hR.2.2.2⟩
theorem isR.cls {h : qH} {D P U : Nat → Int32} {n k u st ve cl : Int32} (hR : isR h 3 4 5 6 D P U n k u st ve cl) (cl' : Int32) : isR (h.1, qup h.2 3 (Ro 4 n k u st ve cl')) 3 4 5 6 D P U n k u st ve cl' := ⟨rfl, hR.2.1, hR.2.2.1, hR.2.2.2⟩
theorem full_t {u : Nat} (hu : u ≤ 20) (c : ¬ qb (decide (20 ≤ nI u)) = 0) : u = 20 := by
  have := (nI_leI (a := 20) (by decide) (by omega)).mp (of_decide_eq_true (qb_1.mp c))
  omega
theorem full_f {u : Nat} (hu : u ≤ 20) (c : qb (decide (20 ≤ nI u)) = 0) : u < 20 := by
  rcases Nat.lt_or_ge u 20 with z | z
  · exact z
  · have := of_decide_eq_false (qb_0.mp c)
    exact absurd (nI_le (a := 20) z (by omega)) this
theorem F_change {g : qG} (hg : qOK g) (hT : qTHR g) {h : qH} {S : CS} (hC : CH h S) (hn : S.2.1.2.2.2.1 ≤ 10) (hu : S.2.1.2.2.2.2.2.1 ≤ 20) (hM : qFM g) (dr wh v : Int32) : qSpecX g 8 4 24 mX11_change [.ref 0, .int dr, .int wh, .int v] h (fun r h' => ∃ x y : Nat, x < S.2.1.2.2.2.1 ∧ 1 ≤ y ∧ y ≤ 9 ∧ dr = nI x ∧ wh = nI y ∧ wi 0 (nI (fmost y)) v = true ∧ (if S.2.1.2.2.2.2.2.1 = 20 then r = some (.int (-1)) ∧ CH h' S else r = some (.int (S.2.1.1 (x * 10 + y))) ∧ CH h' (S.1, (upd S.2.1.1 (x * 10 + y) v, S.2.1.2.1, unote S.2.1.2.2.1 S.2.1.2.2.2.2.2.1 0 (nI x) (nI y) (S.2.1.1 (x * 10 + y)) 0, S.2.1.2.2.2.1, S.2.1.2.2.2.2.1, S.2.1.2.2.2.2.2.1 + 1, S.2.1.2.2.2.2.2.2.1, S.2.1.2.2.2.2.2.2.2.1, S.2.1.2.2.2.2.2.2.2.2), S.2.2)) ∧ gro h h') (TX h S (fun k => (k = 0 ∧ ¬ wi 0 (nI S.2.1.2.2.2.1 - 1) dr = true) ∨ (k = 1 ∧ wi 0 (nI S.2.1.2.2.2.1 - 1) dr = true ∧ ¬ wi 1 9 wh = true) ∨ (k = 1 ∧ wi 0 (nI S.2.1.2.2.2.1 - 1) dr = true ∧ wi 1 9 wh = true ∧ ¬ wi 0 (nI (fmost wh.toNatClampNeg)) v = true))) := by
  refine qSpecX_runT "change" hg hT mX11_change_ok rfl rfl (Nat.le_of_ble_eq_true rfl) ?_
  intro run step stepT
  have hX := hC.obj
  have hR := hC.rnd
  have hs : same h h [3, 4, 5, 6] := same.rf
  refine step.1 _ _ _ _ _ _ _ sgX11_change_0_ok ?_
  refine Or.inr ⟨rfl, _, 7, 1, 6, _, _, _, _, qi_11_196, ⟨rfl, rfl⟩, ⟨hX, rfl⟩, rfl, rfl, X_needDoor hg hT hC _, fun y2 h2 hy2 => ?_, fun E h9 z => ⟨z.mono (fun k hk => Or.inl (⟨hk.1, hk.2⟩)), Nat.le_of_ble_eq_true rfl, Nat.le_of_ble_eq_true rfl⟩⟩
  obtain ⟨hD, rfl, hh⟩ := hy2
  rw [hh]
  clear hh
  obtain ⟨x, hx, ex⟩ := wi_lt (by omega) hD
  refine Or.inl ⟨rfl, _, 1, 0, 0, _, Or.inl qi_11_147, ⟨rfl, rfl⟩, rfl, rfl, sp_within hg _ _ _, fun y10 h10 hy10 => ?_⟩
  obtain ⟨rfl, hh⟩ := hy10
  rw [hh]
  clear hh
  refine Or.inr ⟨rfl, _, 6, 1, 6, _, _, _, _, qi_11_151, ⟨rfl, rfl⟩, ⟨hX, rfl⟩, rfl, rfl, X_need hg hT hC _, fun y13 h13 hy13 => ?_, fun E h9 z => ⟨z.mono (fun k hk => Or.inr (Or.inl (⟨hk.1, hD, hk.2⟩))), Nat.le_of_ble_eq_true rfl, Nat.le_of_ble_eq_true rfl⟩⟩
  obtain ⟨hw, rfl, hh⟩ := hy13
  rw [hh]
  clear hh
  obtain ⟨y, hy1, hy9, ey⟩ := wi1_nat (m := 9) (by decide) hw
  have ey2 : wh.toNatClampNeg = y := by rw [ey, h_tn (by omega)]
  refine Or.inl ⟨rfl, _, 1, 0, 0, _, Or.inl qi_11_355, ⟨rfl, rfl⟩, rfl, rfl, (by rw [ey]; exact M_mostOf hg hM y (by omega) (v := nI (fmost wh.toNatClampNeg)) (by rw [ey2])), fun y20 h20 hy20 => ?_⟩
  obtain ⟨rfl, hh⟩ := hy20
  rw [hh]
  clear hh
  refine Or.inl ⟨rfl, _, 1, 0, 0, _, Or.inl qi_11_147, ⟨rfl, rfl⟩, rfl, rfl, sp_within hg _ _ _, fun y23 h23 hy23 => ?_⟩
  obtain ⟨rfl, hh⟩ := hy23
  rw [hh]
  clear hh
  refine Or.inr ⟨rfl, _, 6, 1, 6, _, _, _, _, qi_11_151, ⟨rfl, rfl⟩, ⟨hX, rfl⟩, rfl, rfl, X_need hg hT hC _, fun y26 h26 hy26 => ?_, fun E h9 z => ⟨z.mono (fun k hk => Or.inr (Or.inr (⟨hk.1, hD, hw, hk.2⟩))), Nat.le_of_ble_eq_true rfl, Nat.le_of_ble_eq_true rfl⟩⟩
  obtain ⟨hv, rfl, hh⟩ := hy26
  rw [hh]
  clear hh
  refine ⟨by decide, _, _, hX, rfl, ?_⟩
  refine Or.inl ⟨rfl, _, 1, 0, 0, _, _, _, qi_11_358, ⟨rfl, rfl⟩, ⟨hR.1, rfl⟩, rfl, rfl, R_isFull hg hC.rnd, fun y33 h33 hy33 => ?_⟩
  obtain ⟨rfl, hh⟩ := hy33
  rw [hh]
  clear hh
  refine ⟨fun c36 => ?_, fun c36 => ?_⟩
  · have hf : S.2.1.2.2.2.2.2.1 < 20 := full_f hu c36
    refine step.1 _ _ _ _ _ _ _ sgX11_change_41_ok ?_
    refine ⟨by decide, _, _, hX, rfl, ?_⟩
    refine Or.inl ⟨rfl, _, 1, 0, 0, _, _, _, qi_11_199, ⟨rfl, rfl⟩, ⟨hR.1, rfl⟩, rfl, rfl, (by rw [ex, ey]; exact R_of hg hR x y (by omega) (by omega)), fun y47 h47 hy47 => ?_⟩
    obtain ⟨rfl, hh⟩ := hy47
    rw [hh]
    clear hh
    refine ⟨by decide, _, _, hX, rfl, ?_⟩
    refine Or.inl ⟨rfl, _, 2, 0, 0, _, _, _, qi_11_361, ⟨rfl, rfl⟩, ⟨hR.1, rfl⟩, rfl, rfl, R3_note hg hR hf _ _ _ _ _, fun y62 h62 hy62 => ?_⟩
    obtain ⟨rfl, hsN, hR⟩ := hy62
    have hs := hs.t2 hsN (by decide)
    have hX := (hsN.2 0 (by decide)).trans hX
    refine ⟨by decide, _, _, hX, rfl, ?_⟩
    refine Or.inl ⟨rfl, _, 1, 0, 0, _, _, _, qi_11_365, ⟨rfl, rfl⟩, ⟨hR.1, rfl⟩, rfl, rfl, (by rw [ex, ey]; exact R3_setDoor hg hR x y v (by omega) (by omega)), fun y72 h72 hy72 => ?_⟩
    obtain ⟨rfl, hsN, hR⟩ := hy72
    have hs := hs.t2 hsN (by decide)
    have hX := (hsN.2 0 (by decide)).trans hX
    refine ⟨.int, rfl, rfl, Nat.le_of_ble_eq_true rfl, Nat.le_of_ble_eq_true rfl, ?_⟩
    rw [ey2] at hv
    rw [ex, ey] at hR
    have hC2 := hC.setR hs (R := (_, _, _, _, _, S.2.1.2.2.2.2.2.1 + 1, _, _, _)) hR
    have hG := gro.of hs rfl
    refine ⟨x, y, hx, hy1, hy9, ex, ey, hv, ?_, hG⟩
    rw [if_neg (by omega)]
    exact ⟨rfl, hC2⟩
  · have hf : S.2.1.2.2.2.2.2.1 = 20 := full_t hu c36
    refine ⟨.int, rfl, rfl, Nat.le_of_ble_eq_true rfl, Nat.le_of_ble_eq_true rfl, ?_⟩
    rw [ey2] at hv
    refine ⟨x, y, hx, hy1, hy9, ex, ey, hv, ?_, gro.rf⟩
    rw [if_pos hf]
    exact ⟨rfl, hC⟩
theorem F_sing {g : qG} (hg : qOK g) (hT : qTHR g) {h : qH} {S : CS} (hC : CH h S) (hk : S.2.1.2.2.2.2.1 ≤ 10) (hu : S.2.1.2.2.2.2.2.1 ≤ 20) (li vn rg : Int32) : qSpecX g 8 4 24 mX11_sing [.ref 0, .int li, .int vn, .int rg] h (fun r h' => (wi 0 5 vn && wi 0 2 rg) = true ∧ ∃ x : Nat, x < S.2.1.2.2.2.2.1 ∧ li = nI x ∧ (if S.2.1.2.2.2.2.2.1 = 20 then r = some (.int (-1)) ∧ CH h' S else r = some (.int 1) ∧ CH h' (S.1, (S.2.1.1, lput S.2.1.2.1 x (S.2.1.2.1 (x * 3)) vn rg, unote S.2.1.2.2.1 S.2.1.2.2.2.2.2.1 1 (nI x) (S.2.1.2.1 (x * 3 + 1)) (S.2.1.2.1 (x * 3 + 2)) 0, S.2.1.2.2.2.1, S.2.1.2.2.2.2.1, S.2.1.2.2.2.2.2.1 + 1, S.2.1.2.2.2.2.2.2.1, S.2.1.2.2.2.2.2.2.2.1, S.2.1.2.2.2.2.2.2.2.2), S.2.2)) ∧ gro h h') (TX h S (fun k => (k = 0 ∧ ¬ wi 0 (nI S.2.1.2.2.2.2.1 - 1) li = true) ∨ (k = 1 ∧ wi 0 (nI S.2.1.2.2.2.2.1 - 1) li = true ∧ ¬ (wi 0 5 vn && wi 0 2 rg) = true))) := by
  refine qSpecX_runT "sing" hg hT mX11_sing_ok rfl rfl (Nat.le_of_ble_eq_true rfl) ?_
  intro run step stepT
  have hX := hC.obj
  have hR := hC.rnd
  have hs : same h h [3, 4, 5, 6] := same.rf
  refine step.1 _ _ _ _ _ _ _ sgX11_sing_0_ok ?_
  refine Or.inr ⟨rfl, _, 7, 1, 6, _, _, _, _, qi_11_207, ⟨rfl, rfl⟩, ⟨hX, rfl⟩, rfl, rfl, X_needLine hg hT hC _, fun y2 h2 hy2 => ?_, fun E h9 z => ⟨z.mono (fun k hk => Or.inl (⟨hk.1, hk.2⟩)), Nat.le_of_ble_eq_true rfl, Nat.le_of_ble_eq_true rfl⟩⟩
  obtain ⟨hD, rfl, hh⟩ := hy2
  rw [hh]
  clear hh
  obtain ⟨x, hx, ex⟩ := wi_lt (by omega) hD
  refine Or.inl ⟨rfl, _, 1, 0, 0, _, Or.inl qi_11_147, ⟨rfl, rfl⟩, rfl, rfl, sp_within hg _ _ _, fun y9 h9 hy9 => ?_⟩
  obtain ⟨rfl, hh⟩ := hy9
  rw [hh]
  clear hh
  refine ⟨fun c12 => ?_, fun c12 => ?_⟩
  · have w12 : wi 0 5 vn = false := qb_0.mp c12
    refine step.1 _ _ _ _ _ _ _ sgX11_sing_28_ok ?_
    refine step.1 _ _ _ _ _ _ _ sgX11_sing_29_ok ?_
    refine Or.inr ⟨rfl, _, 6, 1, 6, _, _, _, _, qi_11_151, ⟨rfl, rfl⟩, ⟨hX, rfl⟩, rfl, rfl, X_need hg hT hC false, fun y29 h29 hy29 => ?_, fun E h9 z => ⟨z.mono (fun k hk => Or.inr (⟨hk.1, hD, fun z => by rw [w12] at z; cases z⟩)), Nat.le_of_ble_eq_true rfl, Nat.le_of_ble_eq_true rfl⟩⟩
    obtain ⟨hbad, rfl, hh⟩ := hy29
    rw [hh]
    clear hh
    cases hbad
    
  · have w12 : wi 0 5 vn = true := qb_1.mp c12
    refine Or.inl ⟨rfl, _, 1, 0, 0, _, Or.inl qi_11_147, ⟨rfl, rfl⟩, rfl, rfl, sp_within hg _ _ _, fun y18 h18 hy18 => ?_⟩
    obtain ⟨rfl, hh⟩ := hy18
    rw [hh]
    clear hh
    refine ⟨fun c21 => ?_, fun c21 => ?_⟩
    · have w21 : wi 0 2 rg = false := qb_0.mp c21
      refine step.1 _ _ _ _ _ _ _ sgX11_sing_28_ok ?_
      refine step.1 _ _ _ _ _ _ _ sgX11_sing_29_ok ?_
      refine Or.inr ⟨rfl, _, 6, 1, 6, _, _, _, _, qi_11_151, ⟨rfl, rfl⟩, ⟨hX, rfl⟩, rfl, rfl, X_need hg hT hC false, fun y29 h29 hy29 => ?_, fun E h9 z => ⟨z.mono (fun k hk => Or.inr (⟨hk.1, hD, fun z => by rw [w12, w21] at z; cases z⟩)), Nat.le_of_ble_eq_true rfl, Nat.le_of_ble_eq_true rfl⟩⟩
      obtain ⟨hbad, rfl, hh⟩ := hy29
      rw [hh]
      clear hh
      cases hbad
      
    · have w21 : wi 0 2 rg = true := qb_1.mp c21
      refine step.1 _ _ _ _ _ _ _ sgX11_sing_29_ok ?_
      refine Or.inr ⟨rfl, _, 6, 1, 6, _, _, _, _, qi_11_151, ⟨rfl, rfl⟩, ⟨hX, rfl⟩, rfl, rfl, X_need hg hT hC true, fun y29 h29 hy29 => ?_, fun E h9 z => ⟨z.mono (fun k hk => Or.inr (⟨hk.1, hD, absurd rfl hk.2⟩)), Nat.le_of_ble_eq_true rfl, Nat.le_of_ble_eq_true rfl⟩⟩
      obtain ⟨hok, rfl, hh⟩ := hy29
      rw [hh]
      clear hh
      have hw : (wi 0 5 vn && wi 0 2 rg) = true := by rw [w12, w21]; rfl
      refine ⟨by decide, _, _, hX, rfl, ?_⟩
      refine Or.inl ⟨rfl, _, 1, 0, 0, _, _, _, qi_11_358, ⟨rfl, rfl⟩, ⟨hR.1, rfl⟩, rfl, rfl, R_isFull hg hC.rnd, fun y36 h36 hy36 => ?_⟩
      obtain ⟨rfl, hh⟩ := hy36
      rw [hh]
      clear hh
      refine ⟨fun c39 => ?_, fun c39 => ?_⟩
      · have hf : S.2.1.2.2.2.2.2.1 < 20 := full_f hu c39
        refine step.1 _ _ _ _ _ _ _ sgX11_sing_44_ok ?_
        refine ⟨by decide, _, _, hX, rfl, ?_⟩
        refine ⟨by decide, _, _, hX, rfl, ?_⟩
        refine Or.inl ⟨rfl, _, 1, 0, 0, _, _, _, qi_11_214, ⟨rfl, rfl⟩, ⟨hR.1, rfl⟩, rfl, rfl, (by rw [ex]; exact R_ofLine hg hR x 1 (by omega) (by decide)), fun y56 h56 hy56 => ?_⟩
        obtain ⟨rfl, hh⟩ := hy56
        rw [hh]
        clear hh
        refine ⟨by decide, _, _, hX, rfl, ?_⟩
        refine Or.inl ⟨rfl, _, 1, 0, 0, _, _, _, qi_11_214, ⟨rfl, rfl⟩, ⟨hR.1, rfl⟩, rfl, rfl, (by rw [ex]; exact R_ofLine hg hR x 2 (by omega) (by decide)), fun y65 h65 hy65 => ?_⟩
        obtain ⟨rfl, hh⟩ := hy65
        rw [hh]
        clear hh
        refine Or.inl ⟨rfl, _, 2, 0, 0, _, _, _, qi_11_361, ⟨rfl, rfl⟩, ⟨hR.1, rfl⟩, rfl, rfl, R3_note hg hR hf _ _ _ _ _, fun y69 h69 hy69 => ?_⟩
        obtain ⟨rfl, hsN, hR⟩ := hy69
        have hs := hs.t2 hsN (by decide)
        have hX := (hsN.2 0 (by decide)).trans hX
        refine ⟨by decide, _, _, hX, rfl, ?_⟩
        refine ⟨by decide, _, _, hX, rfl, ?_⟩
        refine Or.inl ⟨rfl, _, 1, 0, 0, _, _, _, qi_11_214, ⟨rfl, rfl⟩, ⟨hR.1, rfl⟩, rfl, rfl, (by rw [ex]; exact R_ofLine hg hR x 0 (by omega) (by decide)), fun y83 h83 hy83 => ?_⟩
        obtain ⟨rfl, hh⟩ := hy83
        rw [hh]
        clear hh
        refine Or.inl ⟨rfl, _, 2, 0, 0, _, _, _, qi_11_369, ⟨rfl, rfl⟩, ⟨hR.1, rfl⟩, rfl, rfl, (by rw [ex]; exact R3_setLine hg hR x _ vn rg (by omega)), fun y88 h88 hy88 => ?_⟩
        obtain ⟨rfl, hsN, hR⟩ := hy88
        have hs := hs.t2 hsN (by decide)
        have hX := (hsN.2 0 (by decide)).trans hX
        refine ⟨.int, rfl, rfl, Nat.le_of_ble_eq_true rfl, Nat.le_of_ble_eq_true rfl, ?_⟩
        rw [ex] at hR
        have hC2 := hC.setR hs (R := (_, _, _, _, _, S.2.1.2.2.2.2.2.1 + 1, _, _, _)) hR
        have hG := gro.of hs rfl
        refine ⟨hw, x, hx, ex, ?_, hG⟩
        rw [if_neg (by omega)]
        exact ⟨rfl, hC2⟩
      · have hf : S.2.1.2.2.2.2.2.1 = 20 := full_t hu c39
        refine ⟨.int, rfl, rfl, Nat.le_of_ble_eq_true rfl, Nat.le_of_ble_eq_true rfl, ?_⟩
        refine ⟨hw, x, hx, ex, ?_, gro.rf⟩
        rw [if_pos hf]
        exact ⟨rfl, hC⟩
theorem F_swap {g : qG} (hg : qOK g) (hT : qTHR g) {h : qH} {S : CS} (hC : CH h S) (hk : S.2.1.2.2.2.2.1 ≤ 10) (hu : S.2.1.2.2.2.2.2.1 ≤ 20) (li lo : Int32) : qSpecX g 8 4 24 mX11_swap [.ref 0, .int li, .int lo] h (fun r h' => ∃ x y : Nat, x < S.2.1.2.2.2.2.1 ∧ y < S.2.1.2.2.2.2.1 ∧ li = nI x ∧ lo = nI y ∧ (if x = y then r = some (.int 0) ∧ CH h' S else if S.2.1.2.2.2.2.2.1 = 20 then r = some (.int (-1)) ∧ CH h' S else r = some (.int 1) ∧ CH h' (S.1, (S.2.1.1, lxch S.2.1.2.1 x y, unote S.2.1.2.2.1 S.2.1.2.2.2.2.2.1 2 (nI x) (nI y) 0 0, S.2.1.2.2.2.1, S.2.1.2.2.2.2.1, S.2.1.2.2.2.2.2.1 + 1, S.2.1.2.2.2.2.2.2.1, S.2.1.2.2.2.2.2.2.2.1, S.2.1.2.2.2.2.2.2.2.2), S.2.2)) ∧ gro h h') (TX h S (fun k => (k = 0 ∧ ¬ wi 0 (nI S.2.1.2.2.2.2.1 - 1) li = true) ∨ (k = 0 ∧ wi 0 (nI S.2.1.2.2.2.2.1 - 1) li = true ∧ ¬ wi 0 (nI S.2.1.2.2.2.2.1 - 1) lo = true))) := by
  refine qSpecX_runT "swap" hg hT mX11_swap_ok rfl rfl (Nat.le_of_ble_eq_true rfl) ?_
  intro run step stepT
  have hX := hC.obj
  have hR := hC.rnd
  have hs : same h h [3, 4, 5, 6] := same.rf
  refine step.1 _ _ _ _ _ _ _ sgX11_swap_0_ok ?_
  refine Or.inr ⟨rfl, _, 7, 1, 6, _, _, _, _, qi_11_207, ⟨rfl, rfl⟩, ⟨hX, rfl⟩, rfl, rfl, X_needLine hg hT hC _, fun y2 h2 hy2 => ?_, fun E h9 z => ⟨z.mono (fun k hk => Or.inl (⟨hk.1, hk.2⟩)), Nat.le_of_ble_eq_true rfl, Nat.le_of_ble_eq_true rfl⟩⟩
  obtain ⟨hD, rfl, hh⟩ := hy2
  rw [hh]
  clear hh
  obtain ⟨x, hx, ex⟩ := wi_lt (by omega) hD
  refine Or.inr ⟨rfl, _, 7, 1, 6, _, _, _, _, qi_11_207, ⟨rfl, rfl⟩, ⟨hX, rfl⟩, rfl, rfl, X_needLine hg hT hC _, fun y7 h7 hy7 => ?_, fun E h9 z => ⟨z.mono (fun k hk => Or.inr (⟨hk.1, hD, hk.2⟩)), Nat.le_of_ble_eq_true rfl, Nat.le_of_ble_eq_true rfl⟩⟩
  obtain ⟨hD2, rfl, hh⟩ := hy7
  rw [hh]
  clear hh
  obtain ⟨y, hy, ey⟩ := wi_lt (by omega) hD2
  refine ⟨fun c12 => ?_, fun c12 => ?_⟩
  · have c12 : ¬ x = y := fun z => c12 (by rw [ex, ey, z])
    refine step.1 _ _ _ _ _ _ _ sgX11_swap_17_ok ?_
    refine ⟨by decide, _, _, hX, rfl, ?_⟩
    refine Or.inl ⟨rfl, _, 1, 0, 0, _, _, _, qi_11_358, ⟨rfl, rfl⟩, ⟨hR.1, rfl⟩, rfl, rfl, R_isFull hg hC.rnd, fun y21 h21 hy21 => ?_⟩
    obtain ⟨rfl, hh⟩ := hy21
    rw [hh]
    clear hh
    refine ⟨fun c24 => ?_, fun c24 => ?_⟩
    · have hf : S.2.1.2.2.2.2.2.1 < 20 := full_f hu c24
      refine step.1 _ _ _ _ _ _ _ sgX11_swap_29_ok ?_
      refine ⟨by decide, _, _, hX, rfl, ?_⟩
      refine Or.inl ⟨rfl, _, 2, 0, 0, _, _, _, qi_11_361, ⟨rfl, rfl⟩, ⟨hR.1, rfl⟩, rfl, rfl, R3_note hg hR hf _ _ _ _ _, fun y38 h38 hy38 => ?_⟩
      obtain ⟨rfl, hsN, hR⟩ := hy38
      have hs := hs.t2 hsN (by decide)
      have hX := (hsN.2 0 (by decide)).trans hX
      refine ⟨by decide, _, _, hX, rfl, ?_⟩
      refine Or.inl ⟨rfl, _, 4, 0, 0, _, _, _, qi_11_372, ⟨rfl, rfl⟩, ⟨hR.1, rfl⟩, rfl, rfl, (by rw [ex, ey]; exact R3_exchange hg hR x y (by omega) (by omega)), fun y47 h47 hy47 => ?_⟩
      obtain ⟨rfl, hsN, hR⟩ := hy47
      have hs := hs.t2 hsN (by decide)
      have hX := (hsN.2 0 (by decide)).trans hX
      refine ⟨.int, rfl, rfl, Nat.le_of_ble_eq_true rfl, Nat.le_of_ble_eq_true rfl, ?_⟩
      rw [ex, ey] at hR
      have hC2 := hC.setR hs (R := (_, _, _, _, _, S.2.1.2.2.2.2.2.1 + 1, _, _, _)) hR
      have hG := gro.of hs rfl
      refine ⟨x, y, hx, hy, ex, ey, ?_, hG⟩
      rw [if_neg c12, if_neg (by omega)]
      exact ⟨rfl, hC2⟩
    · have hf : S.2.1.2.2.2.2.2.1 = 20 := full_t hu c24
      refine ⟨.int, rfl, rfl, Nat.le_of_ble_eq_true rfl, Nat.le_of_ble_eq_true rfl, ?_⟩
      refine ⟨x, y, hx, hy, ex, ey, ?_, gro.rf⟩
      rw [if_neg c12, if_pos hf]
      exact ⟨rfl, hC⟩
  · have c12 : x = y := by
      have z : li = lo := c12
      rw [ex, ey] at z
      exact (nI_eq (by omega) (by omega)).mp z
    refine ⟨.int, rfl, rfl, Nat.le_of_ble_eq_true rfl, Nat.le_of_ble_eq_true rfl, ?_⟩
    refine ⟨x, y, hx, hy, ex, ey, ?_, gro.rf⟩
    rw [if_pos c12]
    exact ⟨rfl, hC⟩
theorem F_skip {g : qG} (hg : qOK g) (hT : qTHR g) {h : qH} {S : CS} (hC : CH h S) (hk : S.2.1.2.2.2.2.1 ≤ 10) (hu : S.2.1.2.2.2.2.2.1 ≤ 20) (li : Int32) : qSpecX g 8 4 24 mX11_skip [.ref 0, .int li] h (fun r h' => ∃ x : Nat, x < S.2.1.2.2.2.2.1 ∧ li = nI x ∧ (if S.2.1.2.2.2.2.2.1 = 20 then r = some (.int (-1)) ∧ CH h' S else r = some (.int (nI (S.2.1.2.2.2.2.1 - 1))) ∧ CH h' (S.1, (S.2.1.1, ltake S.2.1.2.1 x (S.2.1.2.2.2.2.1 - 1 - x), unote S.2.1.2.2.1 S.2.1.2.2.2.2.2.1 3 (nI x) (S.2.1.2.1 (x * 3)) (S.2.1.2.1 (x * 3 + 1)) (S.2.1.2.1 (x * 3 + 2)), S.2.1.2.2.2.1, S.2.1.2.2.2.2.1 - 1, S.2.1.2.2.2.2.2.1 + 1, S.2.1.2.2.2.2.2.2.1, S.2.1.2.2.2.2.2.2.2.1, S.2.1.2.2.2.2.2.2.2.2), S.2.2)) ∧ gro h h') (TX h S (fun k => (k = 0 ∧ ¬ wi 0 (nI S.2.1.2.2.2.2.1 - 1) li = true))) := by
  refine qSpecX_runT "skip" hg hT mX11_skip_ok rfl rfl (Nat.le_of_ble_eq_true rfl) ?_
  intro run step stepT
  have hX := hC.obj
  have hR := hC.rnd
  have hs : same h h [3, 4, 5, 6] := same.rf
  refine step.1 _ _ _ _ _ _ _ sgX11_skip_0_ok ?_
  refine Or.inr ⟨rfl, _, 7, 1, 6, _, _, _, _, qi_11_207, ⟨rfl, rfl⟩, ⟨hX, rfl⟩, rfl, rfl, X_needLine hg hT hC _, fun y2 h2 hy2 => ?_, fun E h9 z => ⟨z.mono (fun k hk => ⟨hk.1, hk.2⟩), Nat.le_of_ble_eq_true rfl, Nat.le_of_ble_eq_true rfl⟩⟩
  obtain ⟨hD, rfl, hh⟩ := hy2
  rw [hh]
  clear hh
  obtain ⟨x, hx, ex⟩ := wi_lt (by omega) hD
  refine ⟨by decide, _, _, hX, rfl, ?_⟩
  refine Or.inl ⟨rfl, _, 1, 0, 0, _, _, _, qi_11_358, ⟨rfl, rfl⟩, ⟨hR.1, rfl⟩, rfl, rfl, R_isFull hg hC.rnd, fun y9 h9 hy9 => ?_⟩
  obtain ⟨rfl, hh⟩ := hy9
  rw [hh]
  clear hh
  refine ⟨fun c12 => ?_, fun c12 => ?_⟩
  · have hf : S.2.1.2.2.2.2.2.1 < 20 := full_f hu c12
    refine step.1 _ _ _ _ _ _ _ sgX11_skip_17_ok ?_
    refine ⟨by decide, _, _, hX, rfl, ?_⟩
    refine ⟨by decide, _, _, hX, rfl, ?_⟩
    refine Or.inl ⟨rfl, _, 1, 0, 0, _, _, _, qi_11_214, ⟨rfl, rfl⟩, ⟨hR.1, rfl⟩, rfl, rfl, (by rw [ex]; exact R_ofLine hg hR x 0 (by omega) (by decide)), fun y29 h29 hy29 => ?_⟩
    obtain ⟨rfl, hh⟩ := hy29
    rw [hh]
    clear hh
    refine ⟨by decide, _, _, hX, rfl, ?_⟩
    refine Or.inl ⟨rfl, _, 1, 0, 0, _, _, _, qi_11_214, ⟨rfl, rfl⟩, ⟨hR.1, rfl⟩, rfl, rfl, (by rw [ex]; exact R_ofLine hg hR x 1 (by omega) (by decide)), fun y38 h38 hy38 => ?_⟩
    obtain ⟨rfl, hh⟩ := hy38
    rw [hh]
    clear hh
    refine ⟨by decide, _, _, hX, rfl, ?_⟩
    refine Or.inl ⟨rfl, _, 1, 0, 0, _, _, _, qi_11_214, ⟨rfl, rfl⟩, ⟨hR.1, rfl⟩, rfl, rfl, (by rw [ex]; exact R_ofLine hg hR x 2 (by omega) (by decide)), fun y47 h47 hy47 => ?_⟩
    obtain ⟨rfl, hh⟩ := hy47
    rw [hh]
    clear hh
    refine Or.inl ⟨rfl, _, 2, 0, 0, _, _, _, qi_11_361, ⟨rfl, rfl⟩, ⟨hR.1, rfl⟩, rfl, rfl, R3_note hg hR hf _ _ _ _ _, fun y50 h50 hy50 => ?_⟩
    obtain ⟨rfl, hsN, hR⟩ := hy50
    have hs := hs.t2 hsN (by decide)
    have hX := (hsN.2 0 (by decide)).trans hX
    refine ⟨by decide, _, _, hX, rfl, ?_⟩
    refine Or.inl ⟨rfl, _, 4, 0, 0, _, _, _, qi_11_375, ⟨rfl, rfl⟩, ⟨hR.1, rfl⟩, rfl, rfl, (by rw [ex]; exact R3_takeOut hg hR x hx hk), fun y58 h58 hy58 => ?_⟩
    obtain ⟨rfl, hsN, hR⟩ := hy58
    have hs := hs.t2 hsN (by decide)
    have hX := (hsN.2 0 (by decide)).trans hX
    refine ⟨by decide, _, _, hX, rfl, ?_⟩
    refine ⟨by decide, _, _, hR.1, rfl, ?_⟩
    refine ⟨.int, rfl, rfl, Nat.le_of_ble_eq_true rfl, Nat.le_of_ble_eq_true rfl, ?_⟩
    rw [ex] at hR
    have hC2 := hC.setR hs (R := (_, _, _, _, S.2.1.2.2.2.2.1 - 1, S.2.1.2.2.2.2.2.1 + 1, _, _, _)) hR
    have hG := gro.of hs rfl
    refine ⟨x, hx, ex, ?_, hG⟩
    rw [if_neg (by omega)]
    exact ⟨rfl, hC2⟩
  · have hf : S.2.1.2.2.2.2.2.1 = 20 := full_t hu c12
    refine ⟨.int, rfl, rfl, Nat.le_of_ble_eq_true rfl, Nat.le_of_ble_eq_true rfl, ?_⟩
    refine ⟨x, hx, ex, ?_, gro.rf⟩
    rw [if_pos hf]
    exact ⟨rfl, hC⟩
theorem F_until {g : qG} (hg : qOK g) (hT : qTHR g) {h : qH} {S : CS} (hC : CH h S) (hu : S.2.1.2.2.2.2.2.1 ≤ 20) (mi : Int32) : qSpecX g 8 4 24 mX11_until [.ref 0, .int mi] h (fun r h' => wi 0 480 mi = true ∧ (if S.2.1.2.2.2.2.2.1 = 20 then r = some (.int (-1)) ∧ CH h' S else r = some (.int S.2.1.2.2.2.2.2.2.2.2) ∧ CH h' (S.1, (S.2.1.1, S.2.1.2.1, unote S.2.1.2.2.1 S.2.1.2.2.2.2.2.1 4 S.2.1.2.2.2.2.2.2.2.2 0 0 0, S.2.1.2.2.2.1, S.2.1.2.2.2.2.1, S.2.1.2.2.2.2.2.1 + 1, S.2.1.2.2.2.2.2.2.1, S.2.1.2.2.2.2.2.2.2.1, mi), S.2.2)) ∧ gro h h') (TX h S (fun k => (k = 1 ∧ ¬ wi 0 480 mi = true))) := by
  refine qSpecX_runT "until" hg hT mX11_until_ok rfl rfl (Nat.le_of_ble_eq_true rfl) ?_
  intro run step stepT
  have hX := hC.obj
  have hR := hC.rnd
  have hs : same h h [3, 4, 5, 6] := same.rf
  refine step.1 _ _ _ _ _ _ _ sgX11_until_0_ok ?_
  refine Or.inl ⟨rfl, _, 1, 0, 0, _, Or.inl qi_11_147, ⟨rfl, rfl⟩, rfl, rfl, sp_within hg _ _ _, fun y6 h6 hy6 => ?_⟩
  obtain ⟨rfl, hh⟩ := hy6
  rw [hh]
  clear hh
  refine Or.inr ⟨rfl, _, 6, 1, 6, _, _, _, _, qi_11_151, ⟨rfl, rfl⟩, ⟨hX, rfl⟩, rfl, rfl, X_need hg hT hC _, fun y9 h9 hy9 => ?_, fun E h9 z => ⟨z.mono (fun k hk => ⟨hk.1, hk.2⟩), Nat.le_of_ble_eq_true rfl, Nat.le_of_ble_eq_true rfl⟩⟩
  obtain ⟨hw, rfl, hh⟩ := hy9
  rw [hh]
  clear hh
  refine ⟨by decide, _, _, hX, rfl, ?_⟩
  refine Or.inl ⟨rfl, _, 1, 0, 0, _, _, _, qi_11_358, ⟨rfl, rfl⟩, ⟨hR.1, rfl⟩, rfl, rfl, R_isFull hg hC.rnd, fun y16 h16 hy16 => ?_⟩
  obtain ⟨rfl, hh⟩ := hy16
  rw [hh]
  clear hh
  refine ⟨fun c19 => ?_, fun c19 => ?_⟩
  · have hf : S.2.1.2.2.2.2.2.1 < 20 := full_f hu c19
    refine step.1 _ _ _ _ _ _ _ sgX11_until_24_ok ?_
    refine ⟨by decide, _, _, hX, rfl, ?_⟩
    refine ⟨by decide, _, _, hR.1, rfl, ?_⟩
    refine ⟨by decide, _, _, hX, rfl, ?_⟩
    refine Or.inl ⟨rfl, _, 2, 0, 0, _, _, _, qi_11_361, ⟨rfl, rfl⟩, ⟨hR.1, rfl⟩, rfl, rfl, R3_note hg hR hf _ _ _ _ _, fun y41 h41 hy41 => ?_⟩
    obtain ⟨rfl, hsN, hR⟩ := hy41
    have hs := hs.t2 hsN (by decide)
    have hX := (hsN.2 0 (by decide)).trans hX
    refine ⟨by decide, _, _, hX, rfl, ?_⟩
    refine ⟨_, hR.1, Nat.le_of_ble_eq_true rfl, rfl, ?_⟩
    have hs := hs.t2 (same.up (h := h41) (k := 3) (e := Ro 4 (nI S.2.1.2.2.2.1) (nI S.2.1.2.2.2.2.1) (nI (S.2.1.2.2.2.2.2.1 + 1)) S.2.1.2.2.2.2.2.2.1 S.2.1.2.2.2.2.2.2.2.1 mi) (l := [3]) (by simp)) (by decide)
    have hR := isR.cls hR mi
    have hC2 := hC.setR hs (R := (S.2.1.1, S.2.1.2.1, unote S.2.1.2.2.1 S.2.1.2.2.2.2.2.1 4 S.2.1.2.2.2.2.2.2.2.2 0 0 0, S.2.1.2.2.2.1, S.2.1.2.2.2.2.1, S.2.1.2.2.2.2.2.1 + 1, S.2.1.2.2.2.2.2.2.1, S.2.1.2.2.2.2.2.2.2.1, mi)) hR
    have hG := gro.of hs rfl
    refine ⟨.int, rfl, rfl, Nat.le_of_ble_eq_true rfl, Nat.le_of_ble_eq_true rfl, ?_⟩
    refine ⟨hw, ?_, hG⟩
    rw [if_neg (by omega)]
    exact ⟨rfl, hC2⟩
  · have hf : S.2.1.2.2.2.2.2.1 = 20 := full_t hu c19
    refine ⟨.int, rfl, rfl, Nat.le_of_ble_eq_true rfl, Nat.le_of_ble_eq_true rfl, ?_⟩
    refine ⟨hw, ?_, gro.rf⟩
    rw [if_pos hf]
    exact ⟨rfl, hC⟩
end Q09H
