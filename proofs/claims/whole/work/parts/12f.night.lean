section Q12F
set_option maxHeartbeats 2000000 in
theorem M_goesOut {g : qG} (hg : qOK g) {h : qH} {x : Nat → Int32} {y : Nat → Int64} {F : Nat → Nat → Int32} {G : Nat → Nat → Int64} (hM : MX h x y F G) {S : CS} (hR : Rel S x F) {pf vf rf : Nat → Nat} (hP : isP S.2.1.2.1 S.2.1.2.2.2.2.1 pf vf rf) (hI : ROK S.2.1) (hpn : ∀ i : Nat, i < S.2.1.2.2.2.2.1 → pf i < S.2.1.2.2.2.1) (hl : lwf S.2.2.2.2.1.1) (hl2 : lwf S.2.2.2.2.1.2) (e0 : Nat → Int32) (sd : Int32) : qSpec g 5 0 0 mX12_goesOut [.ref 63, .int sd] h (fun r h' => r = none ∧ ∃ (x' : Nat → Int32) (F' : Nat → Nat → Int32), QZ h h' x F G x' y F' ∧ NE (nightS S pf vf rf e0 sd) x' (F' 89)) := by
  refine qSpec_run 12 "goesOut" false hg mX12_goesOut_ok rfl rfl (Nat.le_of_ble_eq_true rfl) (by decide) ?_
  intro run step
  have hk := hI.1.2.1
  have loop : ∀ (m l : Nat) (e : Nat → Int32) (hZ : qH) (xX : Nat → Int32) (FX : Nat → Nat → Int32), l + m = S.2.1.2.2.2.2.1 → QZ h hZ x F G xX y FX → NE e xX (FX 89) → (erun (fun i z => vgift S.2.1.1 S.2.2.2.2.1.1.1 S.2.2.2.2.1.1.2.1 S.2.2.2.2.1.1.2.2 (nI S.2.2.2.1.2) (pf i) z (nI i)) S.2.1.1 S.2.1.2.2.2.2.2.2.2.1 S.2.1.2.2.2.2.2.2.1 S.2.1.2.2.2.2.2.2.2.2 (fun i z => esing S.2.1.1 S.2.2.2.2.1.2.1 S.2.2.2.2.1.2.2.1 S.2.2.2.2.1.2.2.2 (nI S.2.2.2.1.2) (pf i) (nI i) (nI (vf i)) z) pf rf m l e) = (nightS S pf vf rf e0 sd) → run 28 [(2, .int (nI l)), (0, .ref 63), (1, .int sd)] [] hZ 0 0 := by
    intro m
    induction m with
    | zero =>
      intro l e hZ xX FX hlm hX hN hres
      have e36 : xX 36 = nI S.2.1.2.2.2.2.1 := (hX.R hR).1.2.2.2.2.2.2.2.1
      have e23 : xX 23 = S.2.1.2.2.2.2.2.2.2.2 := (hX.R hR).1.2.2.2.2.2.2.1
      refine step.1 _ _ _ _ _ _ _ sgX12_goesOut_28_ok ?_
      refine ⟨by decide, _, _, hX.1.1, rfl, ?_⟩
      refine ⟨fun c33 => ?_, fun c33 => absurd (show xX 36 ≤ nI l from by rw [e36]; exact nI_le (by omega) (by omega)) c33⟩
      
      refine step.1 _ _ _ _ _ _ _ sgX12_goesOut_100_ok ?_
      refine ⟨rfl, Nat.le_refl _, Nat.le_refl _, ?_⟩
      exact ⟨rfl, xX, FX, hX, by rw [show (nightS S pf vf rf e0 sd) = e from hres.symm]; exact hN⟩
    | succ m ih =>
      intro l e hZ xX FX hlm hX hN hres
      have e36 : xX 36 = nI S.2.1.2.2.2.2.1 := (hX.R hR).1.2.2.2.2.2.2.2.1
      have e23 : xX 23 = S.2.1.2.2.2.2.2.2.2.2 := (hX.R hR).1.2.2.2.2.2.2.1
      obtain ⟨n0, n1, n2, n3, n4, n5, n6, n7⟩ := hN
      refine step.1 _ _ _ _ _ _ _ sgX12_goesOut_28_ok ?_
      refine ⟨by decide, _, _, hX.1.1, rfl, ?_⟩
      refine ⟨fun c33 => absurd (show nI S.2.1.2.2.2.2.1 ≤ nI l from by rw [← e36]; exact c33) (h_nle (by omega) (by omega)), fun c33 => ?_⟩
      
      refine ⟨by decide, _, _, hX.1.1, rfl, ?_⟩
      refine ⟨⟨rfl, rfl⟩, ?_⟩
      refine ⟨_, _, hX.1.c89, (vp_in_nI (n := 2) (N := 7) (by decide) (by decide) : vp_in (nI 2) 7), ?_⟩
      refine Or.inl ⟨rfl, _, 2, 0, 0, _, _, _, qi_12_356, ⟨rfl, rfl⟩, ⟨hX.1.1, rfl⟩, rfl, rfl, M_wayS hg hX.1 (hX.R hR) hP hI hpn (l := l) (by omega), fun y45 h45 hy45 => ?_⟩
      obtain ⟨rfl, hh⟩ := hy45
      rw [hh]
      clear hh
      refine ⟨_, _, hX.1.c89, (vp_in_nI (n := 2) (N := 7) (by decide) (by decide) : vp_in (nI 2) 7), ?_⟩
      have hX2 := hX.v89 (n := hZ.1) (f := qup hZ.2 89 (aI' 7 (upd (FX 89) 2 (FX 89 2 + (lwayv S.2.1.1 S.2.1.2.2.2.2.2.2.1 pf l))))) (w := upd (FX 89) 2 (FX 89 2 + (lwayv S.2.1.1 S.2.1.2.2.2.2.2.2.1 pf l))) rfl rfl (fun j hj => by simp only [qup, if_neg hj])
      refine ⟨by decide, _, _, hX.1.1, rfl, ?_⟩
      refine ⟨_, _, rfl, (vp_in_nI (n := 2) (N := 7) (by decide) (by decide) : vp_in (nI 2) 7), ?_⟩
      refine ⟨by decide, _, _, hX.1.1, rfl, ?_⟩
      refine ⟨fun c60 => ?_, fun c60 => ?_⟩
      · have d60 : e 6 + (lwayv S.2.1.1 S.2.1.2.2.2.2.2.2.1 pf l) ≤ S.2.1.2.2.2.2.2.2.2.2 := by rw [← n3, ← e23]; exact c60
        refine step.1 _ _ _ _ _ _ _ sgX12_goesOut_78_ok ?_
        refine ⟨by decide, _, _, hX.1.1, rfl, ?_⟩
        refine ⟨⟨rfl, rfl⟩, ?_⟩
        refine ⟨_, _, rfl, (vp_in_nI (n := 6) (N := 7) (by decide) (by decide) : vp_in (nI 6) 7), ?_⟩
        refine ⟨_, _, rfl, (vp_in_nI (n := 6) (N := 7) (by decide) (by decide) : vp_in (nI 6) 7), ?_⟩
        have hX3 := hX2.v89 (n := hZ.1) (f := qup (qup hZ.2 89 (aI' 7 (upd (FX 89) 2 (FX 89 2 + (lwayv S.2.1.1 S.2.1.2.2.2.2.2.2.1 pf l))))) 89 (aI' 7 (upd (upd (FX 89) 2 (FX 89 2 + (lwayv S.2.1.1 S.2.1.2.2.2.2.2.2.1 pf l))) 6 (FX 89 6 + 1)))) (w := upd (upd (FX 89) 2 (FX 89 2 + (lwayv S.2.1.1 S.2.1.2.2.2.2.2.2.1 pf l))) 6 (FX 89 6 + 1)) rfl rfl (fun j hj => by simp only [qup, if_neg hj])
        refine Or.inl ⟨rfl, _, 4, 0, 0, _, _, _, qi_12_514, ⟨rfl, rfl⟩, ⟨hX.1.1, rfl⟩, rfl, rfl, M_visits hg hX3.1 (hX3.R hR) hP hI hpn hl hl2 (l := l) (by omega) (e := upd (upd e 6 (e 6 + (lwayv S.2.1.1 S.2.1.2.2.2.2.2.2.1 pf l))) 10 (e 10 + 1)) ⟨n0, n1, n2, (show FX 89 2 + (lwayv S.2.1.1 S.2.1.2.2.2.2.2.2.1 pf l) = e 6 + (lwayv S.2.1.1 S.2.1.2.2.2.2.2.2.1 pf l) by rw [n3]), n4, n5, n6, (show FX 89 6 + 1 = e 10 + 1 by rw [n7])⟩, fun y91 h91 hy91 => ?_⟩
        obtain ⟨rfl, x4, F4, hZ4, hN4⟩ := hy91
        have hX4 := hX3.tr hZ4
        have kk := ih (l + 1) _ h91 x4 F4 (by omega) hX4 hN4 (by rw [← hres, erun, if_pos d60])
        rw [← nI_1] at kk
        exact kk
      · have d60 : ¬ e 6 + (lwayv S.2.1.1 S.2.1.2.2.2.2.2.2.1 pf l) ≤ S.2.1.2.2.2.2.2.2.2.2 := fun q => c60 (by rw [e23]; show FX 89 2 + _ ≤ _; rw [n3]; exact q)
        refine ⟨by decide, _, _, hX.1.1, rfl, ?_⟩
        refine ⟨⟨rfl, rfl⟩, ?_⟩
        refine ⟨_, _, rfl, (vp_in_nI (n := 2) (N := 7) (by decide) (by decide) : vp_in (nI 2) 7), ?_⟩
        refine Or.inl ⟨rfl, _, 2, 0, 0, _, _, _, qi_12_356, ⟨rfl, rfl⟩, ⟨hX.1.1, rfl⟩, rfl, rfl, M_wayS hg hX2.1 (hX2.R hR) hP hI hpn (l := l) (by omega), fun y72 h72 hy72 => ?_⟩
        obtain ⟨rfl, hh⟩ := hy72
        rw [hh]
        clear hh
        refine ⟨_, _, rfl, (vp_in_nI (n := 2) (N := 7) (by decide) (by decide) : vp_in (nI 2) 7), ?_⟩
        refine ⟨rfl, Nat.le_refl _, Nat.le_refl _, ?_⟩
        refine ⟨rfl, _, _, hX2.v89 rfl rfl (fun j hj => by simp only [qup, if_neg hj]), ?_⟩
        rw [show (nightS S pf vf rf e0 sd) = e from by rw [← show (erun (fun i z => vgift S.2.1.1 S.2.2.2.2.1.1.1 S.2.2.2.2.1.1.2.1 S.2.2.2.2.1.1.2.2 (nI S.2.2.2.1.2) (pf i) z (nI i)) S.2.1.1 S.2.1.2.2.2.2.2.2.2.1 S.2.1.2.2.2.2.2.2.1 S.2.1.2.2.2.2.2.2.2.2 (fun i z => esing S.2.1.1 S.2.2.2.2.1.2.1 S.2.2.2.2.1.2.2.1 S.2.2.2.2.1.2.2.2 (nI S.2.2.2.1.2) (pf i) (nI i) (nI (vf i)) z) pf rf (m + 1) l e) = (nightS S pf vf rf e0 sd) from hres, erun, if_neg d60]]
        exact ⟨n0, n1, n2, (show FX 89 2 + (lwayv S.2.1.1 S.2.1.2.2.2.2.2.2.1 pf l) - (lwayv S.2.1.1 S.2.1.2.2.2.2.2.2.1 pf l) = e 6 by rw [n3, Int32.add_sub_cancel]), n4, n5, n6, n7⟩
  have loop7 : ∀ (m k : Nat) (hZ : qH) (xX : Nat → Int32) (FX : Nat → Nat → Int32), k + m = 7 → QZ h hZ x F G xX y FX → xX 57 = sd → (∀ j : Nat, j < k → FX 89 j = 0) → run 7 [(2, .int (nI k)), (0, .ref 63), (1, .int sd)] [] hZ 0 0 := by
    intro m
    induction m with
    | zero =>
      intro k hZ xX FX hkm hX h57 hz
      refine step.1 _ _ _ _ _ _ _ sgX12_goesOut_7_ok ?_
      refine ⟨fun c10 => ?_, fun c10 => absurd (show (7 : Int32) ≤ nI k from by rw [show k = 7 by omega]; exact Int32.le_refl _) c10⟩
      
      refine step.1 _ _ _ _ _ _ _ sgX12_goesOut_26_ok ?_
      exact loop S.2.1.2.2.2.2.1 0 (ezero e0 sd) hZ xX FX (by omega) hX ⟨h57, hz 0 (by omega), hz 1 (by omega), hz 2 (by omega), hz 3 (by omega), hz 4 (by omega), hz 5 (by omega), hz 6 (by omega)⟩ rfl
    | succ m ih =>
      intro k hZ xX FX hkm hX h57 hz
      refine step.1 _ _ _ _ _ _ _ sgX12_goesOut_7_ok ?_
      refine ⟨fun c10 => absurd (show nI 7 ≤ nI k from c10) (h_nle (by omega) (by decide)), fun c10 => ?_⟩
      refine ⟨by decide, _, _, hX.1.1, rfl, ?_⟩
      refine ⟨_, _, hX.1.c89, (vp_in_nI (n := k) (N := 7) (by omega) (by decide)), ?_⟩
      have kk := fun hZ => ih (k + 1) hZ xX (fup FX 89 (upd (FX 89) k 0)) (by omega)
      rw [← nI_1] at kk
      rw [h_tn (n := k) (by omega)]
      refine kk _ (hX.v89 rfl rfl (fun j hj => by simp only [qup, if_neg hj])) h57 (fun j hj => ?_)
      show upd (FX 89) k 0 j = 0
      by_cases c : j = k
      · rw [c, upd_s]
      · rw [upd_n c]; exact hz j (by omega)
  refine step.1 _ _ _ _ _ _ _ sgX12_goesOut_0_ok ?_
  refine ⟨_, hM.1, Nat.le_of_ble_eq_true rfl, rfl, ?_⟩
  refine loop7 7 0 _ (upd x 57 sd) F rfl ⟨hM.p63 (sI_57 rfl), mq.rf.ux (by decide), kp.rf.u (by decide) (by decide)⟩ rfl (fun j hj => absurd hj (Nat.not_lt_zero j))
theorem M_evening {g : qG} (hg : qOK g) {h : qH} {x : Nat → Int32} {y : Nat → Int64} {F : Nat → Nat → Int32} {G : Nat → Nat → Int64} (hM : MX h x y F G) {S : CS} (hR : Rel S x F) {pf vf rf : Nat → Nat} (hP : isP S.2.1.2.1 S.2.1.2.2.2.2.1 pf vf rf) (hI : ROK S.2.1) (hpn : ∀ i : Nat, i < S.2.1.2.2.2.2.1 → pf i < S.2.1.2.2.2.1) (hl : lwf S.2.2.2.2.1.1) (hl2 : lwf S.2.2.2.2.1.2) (e0 : Nat → Int32) (sd v : Int32) : qSpec g 6 0 0 mX12_evening [.ref 63, .int sd, .int v] h (fun r h' => ((wi 0 6 v = true) ∧ (∃ k : Nat, k ≤ 6 ∧ v = nI k ∧ r = some (.int (nightS S pf vf rf e0 sd (k + 4)))) ∧ MG h h' S) ∨ ∃ (k : Nat) (c : Int32), ((k = 1 ∧ c = 1 ∧ ¬ (wi 0 6 v = true))) ∧ (∃ z, r = some (.int z)) ∧ mbad h h' S k c) := by
  refine qSpec_run 12 "evening" false hg mX12_evening_ok rfl rfl (Nat.le_of_ble_eq_true rfl) (by decide) ?_
  intro run step
  refine step.1 _ _ _ _ _ _ _ sgX12_evening_0_ok ?_
  refine ⟨_, hM.1, Nat.le_of_ble_eq_true rfl, rfl, ?_⟩
  have hM0 := hM.p63 (sI_0 (v := 0) (rfl : _ = M63l x y))
  have hR0 : Rel S (upd x 0 0) F := hR.t 0
  have hk0 := kp.rf (h := h) |>.u (k := 63) (e := .inl (12, (M63l x y).set 0 (.int 0))) (by decide) (by decide)
  refine Or.inl ⟨rfl, _, 1, 0, 0, _, Or.inl qi_12_324, ⟨rfl, rfl⟩, rfl, rfl, M_within hg _ _ _, fun y10 h10 hy10 => ?_⟩
  obtain ⟨rfl, hh⟩ := hy10
  rw [hh]
  clear hh
  refine Or.inl ⟨rfl, _, 1, 0, 0, _, _, _, qi_12_247, ⟨rfl, rfl⟩, ⟨hM0.1, rfl⟩, rfl, rfl, M_mayU hg hM0 hR0 rfl _ 1 (by decide) 1 (by decide), fun y15 h15 hy15 => ?_⟩
  rcases hy15 with ⟨w15, rfl, hb⟩ | ⟨w15, rfl, hh⟩
  · refine ⟨fun c18 => absurd c18 (by decide), fun _ => ?_⟩
    refine ⟨.int, rfl, rfl, Nat.le_refl _, Nat.le_refl _, ?_⟩
    exact Or.inr ⟨1, 1, ⟨rfl, rfl, (by rw [w15]; decide)⟩, ⟨_, rfl⟩, mbad.l hk0 hb⟩
  · rw [hh]
    clear hh
    obtain ⟨k, hk6, ek⟩ := wi_nat (m := 6) (by decide) w15
    refine ⟨fun _ => ?_, fun c18 => absurd c18 (by decide)⟩
    refine step.1 _ _ _ _ _ _ _ sgX12_evening_23_ok ?_
    refine Or.inl ⟨rfl, _, 5, 0, 0, _, _, _, qi_12_517, ⟨rfl, rfl⟩, ⟨hM0.1, rfl⟩, rfl, rfl, M_goesOut hg hM0 hR0 hP hI hpn hl hl2 e0 sd, fun y25 h25 hy25 => ?_⟩
    obtain ⟨rfl, x1, F1, hX, n0, n1, n2, n3, n4, n5, n6, n7⟩ := hy25
    refine ⟨by decide, _, _, hX.1.1, rfl, ?_⟩
    refine ⟨_, _, hX.1.c89, (by rw [ek]; exact vp_in_nI (n := k) (N := 7) (by omega) (by decide)), ?_⟩
    refine ⟨.int, rfl, rfl, Nat.le_refl _, Nat.le_refl _, ?_⟩
    refine Or.inl ⟨w15, ⟨k, hk6, ek, congrArg (fun z => some (Value.int z)) ?_⟩, hX.mg hk0 hR0 rfl⟩
    rw [ek, h_tn (n := k) (by omega)]
    rcases (show k = 0 ∨ k = 1 ∨ k = 2 ∨ k = 3 ∨ k = 4 ∨ k = 5 ∨ k = 6 by omega) with rfl | rfl | rfl | rfl | rfl | rfl | rfl
    · exact n1
    · exact n2
    · exact n3
    · exact n4
    · exact n5
    · exact n6
    · exact n7
theorem M_isSpan {g : qG} (hg : qOK g) {h : qH} {x : Nat → Int32} {y : Nat → Int64} {F : Nat → Nat → Int32} {G : Nat → Nat → Int64} (hM : MX h x y F G) {S : CS} (hR : Rel S x F) (hx : x 0 = 0) (mn : Int32) (b : Bool) : qSpec g 2 0 0 mX12_isSpan [.ref 63, .int mn, .int (qb b)] h (fun r h' => (¬ (wi 1 40 mn = true ∧ b = true) ∧ r = some (.int 0) ∧ mbad h h' S 1 1) ∨ (wi 1 40 mn = true ∧ b = true ∧ r = some (.int 1) ∧ h' = h)) := by
  refine qSpec_run 12 "isSpan" false hg mX12_isSpan_ok rfl rfl (Nat.le_of_ble_eq_true rfl) (by decide) ?_
  intro run step
  refine step.1 _ _ _ _ _ _ _ sgX12_isSpan_0_ok ?_
  refine Or.inl ⟨rfl, _, 1, 0, 0, _, Or.inl qi_12_324, ⟨rfl, rfl⟩, rfl, rfl, M_within hg _ _ _, fun y5 h5 hy5 => ?_⟩
  obtain ⟨rfl, hh⟩ := hy5
  rw [hh]
  clear hh
  refine ⟨fun c8 => ?_, fun c8 => ?_⟩
  · have w8 : (wi 1 40 mn) = false := qb_0.mp c8
    refine step.1 _ _ _ _ _ _ _ sgX12_isSpan_19_ok ?_
    refine step.1 _ _ _ _ _ _ _ sgX12_isSpan_20_ok ?_
    refine Or.inl ⟨rfl, _, 1, 0, 0, _, _, _, qi_12_247, ⟨rfl, rfl⟩, ⟨hM.1, rfl⟩, rfl, rfl, M_mayB hg hM hR hx 1 (by decide) 1 (by decide), fun y22 h22 hy22 => ?_⟩
    obtain ⟨rfl, hb⟩ := hy22
    refine ⟨.boolean, rfl, rfl, Nat.le_refl _, Nat.le_refl _, ?_⟩
    exact Or.inl ⟨(fun z => absurd z.1 (by rw [w8]; decide)), rfl, hb⟩
  · have w8 : (wi 1 40 mn) = true := qb_1.mp c8
    refine ⟨fun c12 => ?_, fun c12 => ?_⟩
    · have w12 : b = false := qb_0.mp c12
      refine step.1 _ _ _ _ _ _ _ sgX12_isSpan_19_ok ?_
      refine step.1 _ _ _ _ _ _ _ sgX12_isSpan_20_ok ?_
      refine Or.inl ⟨rfl, _, 1, 0, 0, _, _, _, qi_12_247, ⟨rfl, rfl⟩, ⟨hM.1, rfl⟩, rfl, rfl, M_mayB hg hM hR hx 1 (by decide) 1 (by decide), fun y22 h22 hy22 => ?_⟩
      obtain ⟨rfl, hb⟩ := hy22
      refine ⟨.boolean, rfl, rfl, Nat.le_refl _, Nat.le_refl _, ?_⟩
      exact Or.inl ⟨(fun z => absurd z.2 (by rw [w12]; decide)), rfl, hb⟩
    · have w12 : b = true := qb_1.mp c12
      refine step.1 _ _ _ _ _ _ _ sgX12_isSpan_20_ok ?_
      refine Or.inl ⟨rfl, _, 1, 0, 0, _, _, _, qi_12_247, ⟨rfl, rfl⟩, ⟨hM.1, rfl⟩, rfl, rfl, M_may hg hM.1 hx _ _, fun y22 h22 hy22 => ?_⟩
      obtain ⟨rfl, hh⟩ := hy22
      rw [hh]
      clear hh
      refine ⟨.boolean, rfl, rfl, Nat.le_refl _, Nat.le_refl _, ?_⟩
      exact Or.inr ⟨w8, w12, rfl, rfl⟩
end Q12F
