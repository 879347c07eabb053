section Q10H
theorem mT.upk {x : Nat → Int32} {n k : Nat} {s : PS} (hT : mT x n s) (hk : k ∉ [3, 4, 5, 6]) (v : Int32) : mT (upd x k v) n s := by
  simp at hk
  have h3 : upd x k v 3 = x 3 := upd_n (by omega)
  have h4 : upd x k v 4 = x 4 := upd_n (by omega)
  have h5 : upd x k v 5 = x 5 := upd_n (by omega)
  have h6 : upd x k v 6 = x 6 := upd_n (by omega)
  unfold mT at hT ⊢
  rw [h3, h4, h5, h6]
  exact hT
-- 0 door, 1 in, 2 hears, 3 rings, 4 light, 5 drive, 6 pies, 7 singer, 8 home, 9 solo, 10 start, 11 verse, 12 until, 13 verses, 14 pence, 15 joy, 16 place, 17 minute, 18 box, 19 told, 20 least, 21 most, 22 if, 23 first, 24 last
set_option maxHeartbeats 1000000 in
theorem M_clause4 {g : qG} (hg : qOK g) {h : qH} (hJ : qJDK g) (hW : qMW g) {x : Nat → Int32} {y : Nat → Int64} (hM : h.2 63 = some (M63 x y)) {F : Nat → Int32} {n : Nat} {s : PS} (hT : mT x n s) (hB : mB h F) {D : Nat → Int32} {N : Nat} {Q : Nat → Int32} {M : Nat} {st ve cl : Int32} (hV : mV h x (D, N, Q, M, st, ve, cl)) (hN10 : N ≤ 10) (hM8 : M ≤ 8) (q : Nat)  : qSpec g 8 0 0 mX12_readClause [.ref 63, .int (nI (wpk 4))] h (fun r h' => r = none ∧ mCl h h' x y n (pbody F n 4 q s D N Q M st ve cl)) := by
  refine qSpec_run 12 "readClause" false hg mX12_readClause_ok rfl rfl (Nat.le_of_ble_eq_true rfl) (by decide) ?_
  intro run step
  obtain ⟨nd, ns, hN, hQ, h14, h15, h16, h17, h18, hA, hA2⟩ := hV
  have hT := hT
  refine step.1 _ _ _ _ _ _ _ sgX12_readClause_0_ok ?_
  refine Or.inl ⟨rfl, 16, (hW.ld 0 (by decide)).choose, (hW.ld 0 (by decide)).choose_spec, ?_⟩
  refine Or.inl ⟨rfl, _, 5, 0, 0, _, Or.inl qi_12_210, ⟨rfl, rfl⟩, rfl, rfl, M_ofw hg hJ hW 0 (by decide), fun y3 h3 hy3 => ?_⟩
  obtain ⟨rfl, hh⟩ := hy3
  rw [hh]
  clear hh
  refine ⟨fun c6 => ?_, fun c6 => absurd c6 (wpk_inj 4 (by decide) 0 (by decide) (by decide))⟩
  
  refine step.1 _ _ _ _ _ _ _ sgX12_readClause_16_ok ?_
  refine Or.inl ⟨rfl, 18, (hW.ld 1 (by decide)).choose, (hW.ld 1 (by decide)).choose_spec, ?_⟩
  refine Or.inl ⟨rfl, _, 5, 0, 0, _, Or.inl qi_12_210, ⟨rfl, rfl⟩, rfl, rfl, M_ofw hg hJ hW 1 (by decide), fun y19 h19 hy19 => ?_⟩
  obtain ⟨rfl, hh⟩ := hy19
  rw [hh]
  clear hh
  refine ⟨fun c22 => ?_, fun c22 => absurd c22 (wpk_inj 4 (by decide) 1 (by decide) (by decide))⟩
  
  refine step.1 _ _ _ _ _ _ _ sgX12_readClause_35_ok ?_
  refine Or.inl ⟨rfl, 20, (hW.ld 2 (by decide)).choose, (hW.ld 2 (by decide)).choose_spec, ?_⟩
  refine Or.inl ⟨rfl, _, 5, 0, 0, _, Or.inl qi_12_210, ⟨rfl, rfl⟩, rfl, rfl, M_ofw hg hJ hW 2 (by decide), fun y38 h38 hy38 => ?_⟩
  obtain ⟨rfl, hh⟩ := hy38
  rw [hh]
  clear hh
  refine ⟨fun c41 => ?_, fun c41 => absurd c41 (wpk_inj 4 (by decide) 2 (by decide) (by decide))⟩
  
  refine step.1 _ _ _ _ _ _ _ sgX12_readClause_54_ok ?_
  refine Or.inl ⟨rfl, 22, (hW.ld 3 (by decide)).choose, (hW.ld 3 (by decide)).choose_spec, ?_⟩
  refine Or.inl ⟨rfl, _, 5, 0, 0, _, Or.inl qi_12_210, ⟨rfl, rfl⟩, rfl, rfl, M_ofw hg hJ hW 3 (by decide), fun y57 h57 hy57 => ?_⟩
  obtain ⟨rfl, hh⟩ := hy57
  rw [hh]
  clear hh
  refine ⟨fun c60 => ?_, fun c60 => absurd c60 (wpk_inj 4 (by decide) 3 (by decide) (by decide))⟩
  
  refine step.1 _ _ _ _ _ _ _ sgX12_readClause_73_ok ?_
  refine Or.inl ⟨rfl, 26, (hW.ld 5 (by decide)).choose, (hW.ld 5 (by decide)).choose_spec, ?_⟩
  refine Or.inl ⟨rfl, _, 5, 0, 0, _, Or.inl qi_12_210, ⟨rfl, rfl⟩, rfl, rfl, M_ofw hg hJ hW 5 (by decide), fun y76 h76 hy76 => ?_⟩
  obtain ⟨rfl, hh⟩ := hy76
  rw [hh]
  clear hh
  refine ⟨fun c79 => ?_, fun c79 => absurd c79 (wpk_inj 4 (by decide) 5 (by decide) (by decide))⟩
  
  refine step.1 _ _ _ _ _ _ _ sgX12_readClause_93_ok ?_
  refine Or.inl ⟨rfl, 28, (hW.ld 6 (by decide)).choose, (hW.ld 6 (by decide)).choose_spec, ?_⟩
  refine Or.inl ⟨rfl, _, 5, 0, 0, _, Or.inl qi_12_210, ⟨rfl, rfl⟩, rfl, rfl, M_ofw hg hJ hW 6 (by decide), fun y96 h96 hy96 => ?_⟩
  obtain ⟨rfl, hh⟩ := hy96
  rw [hh]
  clear hh
  refine ⟨fun c99 => ?_, fun c99 => absurd c99 (wpk_inj 4 (by decide) 6 (by decide) (by decide))⟩
  
  refine step.1 _ _ _ _ _ _ _ sgX12_readClause_113_ok ?_
  refine Or.inl ⟨rfl, 24, (hW.ld 4 (by decide)).choose, (hW.ld 4 (by decide)).choose_spec, ?_⟩
  refine Or.inl ⟨rfl, _, 5, 0, 0, _, Or.inl qi_12_210, ⟨rfl, rfl⟩, rfl, rfl, M_ofw hg hJ hW 4 (by decide), fun y116 h116 hy116 => ?_⟩
  obtain ⟨rfl, hh⟩ := hy116
  rw [hh]
  clear hh
  refine ⟨fun c119 => absurd rfl c119, fun c119 => ?_⟩
  
  refine Or.inl ⟨rfl, _, 3, 0, 0, _, _, _, qi_12_206, ⟨rfl, rfl⟩, ⟨hM, rfl⟩, rfl, rfl, M_readDoor hg hM hT hB h14 hN10, fun y123 h123 hy123 => ?_⟩
  obtain ⟨rfl, x1, hM1, hs1, hk1, hT1⟩ := hy123
  have hB1 := hB.sm hs1 (by decide)
  refine Or.inl ⟨rfl, _, 2, 0, 0, _, _, _, qi_12_202, ⟨rfl, rfl⟩, ⟨hM1, rfl⟩, rfl, rfl, M_num hg hM1 hT1 hB1 0 (by decide : (16 : Int32) ≤ 9999), fun y131 h131 hy131 => ?_⟩
  obtain ⟨rfl, x2, hM2, hs2, hk2, hT2⟩ := hy131
  have hB2 := hB1.sm hs2 (by decide)
  refine Or.inl ⟨rfl, _, 2, 0, 0, _, _, _, qi_12_202, ⟨rfl, rfl⟩, ⟨hM2, rfl⟩, rfl, rfl, M_num hg hM2 hT2 hB2 0 (by decide : (16 : Int32) ≤ 9999), fun y139 h139 hy139 => ?_⟩
  obtain ⟨rfl, x3, hM3, hs3, hk3, hT3⟩ := hy139
  have hs := (hs1.t2 hs2 (by decide)).t2 hs3 (by decide)
  have hkk := tr3 hk3 (tr3 hk2 hk1)
  have hN3 := (hs.2 66 (by decide)).trans hN
  have hQ3 := (hs.2 68 (by decide)).trans hQ
  refine Or.inl ⟨rfl, _, 1, 0, 0, _, _, _, qi_12_142, ⟨rfl, rfl⟩, ⟨hM3, rfl⟩, rfl, rfl, M_fineS hg hM3 hT3, fun y145 h145 hy145 => ?_⟩
  obtain ⟨rfl, hh⟩ := hy145
  rw [hh]
  clear hh
  refine ⟨fun c148 => ?_, fun c148 => ?_⟩
  · have hb : pbad (plightS F n N s) = false := by
      have z := qb_1.mp c148
      exact (by simpa using z : pbad (pnum F n 0 16 (pnum F n 0 16 (pnumS F n 0 (nI N - 1) s)).1).1 = false)
    obtain ⟨d, hd, ed⟩ := pnum_nat (by omega) (pbad_numS (pbad_numS hb))
    have ei : ∀ k : Nat, k < 10 → (10 * (pnum F n 0 (nI N - 1) s).2 + nI k : Int32) = nI (d * 10 + k) := fun k hk => by rw [ed]; exact ixk (k := 10)
    have et : ∀ k : Nat, k < 10 → (10 * (pnum F n 0 (nI N - 1) s).2 + nI k : Int32).toNatClampNeg = d * 10 + k := fun k hk => by rw [ei k hk, h_tn (n := d * 10 + k) (by omega)]
    refine step.1 _ _ _ _ _ _ _ sgX12_readClause_152_ok ?_
    refine ⟨by decide, _, _, hM3, rfl, ?_⟩
    refine ⟨_, _, hN3, (by have e9 : (10 * (pnum F n 0 (nI N - 1) s).2 + 6 : Int32) = nI (d * 10 + 6) := ei 6 (by decide); rw [e9]; exact vp_in_nI (n := d * 10 + 6) (N := 100) (by omega) (by decide)), ?_⟩
    refine ⟨by decide, _, _, hM3, rfl, ?_⟩
    refine ⟨_, _, rfl, (by have e9 : (10 * (pnum F n 0 (nI N - 1) s).2 + 7 : Int32) = nI (d * 10 + 7) := ei 7 (by decide); rw [e9]; exact vp_in_nI (n := d * 10 + 7) (N := 100) (by omega) (by decide)), ?_⟩
    refine step.1 _ _ _ _ _ _ _ sgX12_readClause_187_ok ?_
    refine ⟨rfl, Nat.le_refl _, Nat.le_refl _, ?_⟩
    have hN9 : some (aI' 100 (upd (upd nd ((10 * (pnum F n 0 (nI N - 1) s).2 + 6 : Int32).toNatClampNeg) (pnum F n 0 16 (pnumS F n 0 (nI N - 1) s)).2) ((10 * (pnum F n 0 (nI N - 1) s).2 + 7 : Int32).toNatClampNeg) (pnum F n 0 16 (pfactS F n N 16 s)).2)) = some (aI' 100 (upd (upd nd (d * 10 + 6) (pnum F n 0 16 (pnumS F n 0 (nI N - 1) s)).2) (d * 10 + 7) (pnum F n 0 16 (pfactS F n N 16 s)).2)) := by
      rw [show (10 * (pnum F n 0 (nI N - 1) s).2 + 6 : Int32).toNatClampNeg = d * 10 + 6 from et 6 (by decide), show (10 * (pnum F n 0 (nI N - 1) s).2 + 7 : Int32).toNatClampNeg = d * 10 + 7 from et 7 (by decide)]
    refine ⟨rfl, x3, hM3, ⟨hs.1, fun j hj => by
      have h63 : ¬ j = 63 := fun e => hj (e ▸ by simp)
      have h66 : ¬ j = 66 := fun e => hj (e ▸ by simp)
      simp only [qup, if_neg h66]
      exact hs.2 j (by simpa using h63)⟩, fun k hk => hkk k (by simp at hk ⊢; omega), hT3, ⟨⟨_, hN9⟩, _, hQ3⟩, fun _ => ?_⟩
    refine ⟨_, ns, hN9, hQ3, (hkk 14 (by decide)).trans h14, (hkk 15 (by decide)).trans h15, (hkk 16 (by decide)).trans h16, (hkk 17 (by decide)).trans h17, (hkk 18 (by decide)).trans h18, ?_, hA2⟩
    show ag (N * 10) _ (if pbad (plightS F n N s) = true then D else plightD F n N s D)
    rw [if_neg (by rw [hb]; decide), plightD, pfactD, ed, h_tn (n := d) (by omega)]
    exact (hA.up _ _).up _ _
  · have hb : pbad (plightS F n N s) = true := by
      have z := qb_0.mp c148
      exact (by simpa using z : pbad (pnum F n 0 16 (pnum F n 0 16 (pnumS F n 0 (nI N - 1) s)).1).1 = true)
    refine ⟨rfl, Nat.le_refl _, Nat.le_refl _, ?_⟩
    refine ⟨rfl, x3, hM3, hs.sub (by simp), fun k hk => hkk k (by simp at hk ⊢; omega), hT3, ⟨⟨_, hN3⟩, _, hQ3⟩, fun hb2 => absurd (hb2.symm.trans hb) (by decide)⟩
set_option maxHeartbeats 1000000 in
theorem M_people10 {g : qG} (hg : qOK g) {h : qH} (hJ : qJDK g) (hW : qMW g) {x : Nat → Int32} {y : Nat → Int64} (hM : h.2 63 = some (M63 x y)) {F : Nat → Int32} {n : Nat} {s : PS} (hT : mT x n s) (hB : mB h F) {D : Nat → Int32} {N : Nat} {Q : Nat → Int32} {M : Nat} {st ve cl : Int32} (hV : mV h x (D, N, Q, M, st, ve, cl)) (hN10 : N ≤ 10) (hM8 : M ≤ 8) (q : Nat)  : qSpec g 7 0 0 mX12_readPeople [.ref 63, .int (nI (wpk 10))] h (fun r h' => r = none ∧ mCl h h' x y n (pbody F n 10 q s D N Q M st ve cl)) := by
  refine qSpec_run 12 "readPeople" false hg mX12_readPeople_ok rfl rfl (Nat.le_of_ble_eq_true rfl) (by decide) ?_
  intro run step
  obtain ⟨nd, ns, hN, hQ, h14, h15, h16, h17, h18, hA, hA2⟩ := hV
  have hT := hT
  refine step.1 _ _ _ _ _ _ _ sgX12_readPeople_0_ok ?_
  refine Or.inl ⟨rfl, 30, (hW.ld 7 (by decide)).choose, (hW.ld 7 (by decide)).choose_spec, ?_⟩
  refine Or.inl ⟨rfl, _, 5, 0, 0, _, Or.inl qi_12_210, ⟨rfl, rfl⟩, rfl, rfl, M_ofw hg hJ hW 7 (by decide), fun y3 h3 hy3 => ?_⟩
  obtain ⟨rfl, hh⟩ := hy3
  rw [hh]
  clear hh
  refine ⟨fun c6 => ?_, fun c6 => absurd c6 (wpk_inj 10 (by decide) 7 (by decide) (by decide))⟩
  
  refine step.1 _ _ _ _ _ _ _ sgX12_readPeople_74_ok ?_
  refine Or.inl ⟨rfl, 32, (hW.ld 8 (by decide)).choose, (hW.ld 8 (by decide)).choose_spec, ?_⟩
  refine Or.inl ⟨rfl, _, 5, 0, 0, _, Or.inl qi_12_210, ⟨rfl, rfl⟩, rfl, rfl, M_ofw hg hJ hW 8 (by decide), fun y77 h77 hy77 => ?_⟩
  obtain ⟨rfl, hh⟩ := hy77
  rw [hh]
  clear hh
  refine ⟨fun c80 => ?_, fun c80 => absurd c80 (wpk_inj 10 (by decide) 8 (by decide) (by decide))⟩
  
  refine step.1 _ _ _ _ _ _ _ sgX12_readPeople_118_ok ?_
  refine Or.inl ⟨rfl, 34, (hW.ld 9 (by decide)).choose, (hW.ld 9 (by decide)).choose_spec, ?_⟩
  refine Or.inl ⟨rfl, _, 5, 0, 0, _, Or.inl qi_12_210, ⟨rfl, rfl⟩, rfl, rfl, M_ofw hg hJ hW 9 (by decide), fun y121 h121 hy121 => ?_⟩
  obtain ⟨rfl, hh⟩ := hy121
  rw [hh]
  clear hh
  refine ⟨fun c124 => ?_, fun c124 => absurd c124 (wpk_inj 10 (by decide) 9 (by decide) (by decide))⟩
  
  refine step.1 _ _ _ _ _ _ _ sgX12_readPeople_161_ok ?_
  refine Or.inl ⟨rfl, 36, (hW.ld 10 (by decide)).choose, (hW.ld 10 (by decide)).choose_spec, ?_⟩
  refine Or.inl ⟨rfl, _, 5, 0, 0, _, Or.inl qi_12_210, ⟨rfl, rfl⟩, rfl, rfl, M_ofw hg hJ hW 10 (by decide), fun y164 h164 hy164 => ?_⟩
  obtain ⟨rfl, hh⟩ := hy164
  rw [hh]
  clear hh
  refine ⟨fun c167 => absurd rfl c167, fun c167 => ?_⟩
  
  refine Or.inl ⟨rfl, _, 2, 0, 0, _, _, _, qi_12_202, ⟨rfl, rfl⟩, ⟨hM, rfl⟩, rfl, rfl, M_num hg hM hT hB 0 (by decide : (99 : Int32) ≤ 9999), fun y175 h175 hy175 => ?_⟩
  obtain ⟨rfl, x1, hM1, hs1, hk1, hT1⟩ := hy175
  have hN1 := (hs1.2 66 (by decide)).trans hN
  have hQ1 := (hs1.2 68 (by decide)).trans hQ
  refine ⟨_, hM1, Nat.le_of_ble_eq_true rfl, rfl, ?_⟩
  refine step.1 _ _ _ _ _ _ _ sgX12_readPeople_219_ok ?_
  refine ⟨rfl, Nat.le_refl _, Nat.le_refl _, ?_⟩
  refine ⟨rfl, upd x1 16 (pnum F n 0 99 s).2, rfl, (hs1.sub (by simp) : same h _ [63, 66, 68]).t2 (same.up (by simp) : same _ _ [63]) (by decide), fun k hk => (upd_n (by simp at hk; omega)).trans (hk1 k (by simp at hk ⊢; omega)), hT1.upk (by decide) _, ⟨⟨_, hN1⟩, _, hQ1⟩, fun hb => ⟨nd, ns, hN1, hQ1, (hk1 14 (by decide)).trans h14, (hk1 15 (by decide)).trans h15, rfl, (hk1 17 (by decide)).trans h17, (hk1 18 (by decide)).trans h18, hA, hA2⟩⟩
set_option maxHeartbeats 1000000 in
theorem M_people11 {g : qG} (hg : qOK g) {h : qH} (hJ : qJDK g) (hW : qMW g) {x : Nat → Int32} {y : Nat → Int64} (hM : h.2 63 = some (M63 x y)) {F : Nat → Int32} {n : Nat} {s : PS} (hT : mT x n s) (hB : mB h F) {D : Nat → Int32} {N : Nat} {Q : Nat → Int32} {M : Nat} {st ve cl : Int32} (hV : mV h x (D, N, Q, M, st, ve, cl)) (hN10 : N ≤ 10) (hM8 : M ≤ 8) (q : Nat)  : qSpec g 7 0 0 mX12_readPeople [.ref 63, .int (nI (wpk 11))] h (fun r h' => r = none ∧ mCl h h' x y n (pbody F n 11 q s D N Q M st ve cl)) := by
  refine qSpec_run 12 "readPeople" false hg mX12_readPeople_ok rfl rfl (Nat.le_of_ble_eq_true rfl) (by decide) ?_
  intro run step
  obtain ⟨nd, ns, hN, hQ, h14, h15, h16, h17, h18, hA, hA2⟩ := hV
  have hT := hT
  refine step.1 _ _ _ _ _ _ _ sgX12_readPeople_0_ok ?_
  refine Or.inl ⟨rfl, 30, (hW.ld 7 (by decide)).choose, (hW.ld 7 (by decide)).choose_spec, ?_⟩
  refine Or.inl ⟨rfl, _, 5, 0, 0, _, Or.inl qi_12_210, ⟨rfl, rfl⟩, rfl, rfl, M_ofw hg hJ hW 7 (by decide), fun y3 h3 hy3 => ?_⟩
  obtain ⟨rfl, hh⟩ := hy3
  rw [hh]
  clear hh
  refine ⟨fun c6 => ?_, fun c6 => absurd c6 (wpk_inj 11 (by decide) 7 (by decide) (by decide))⟩
  
  refine step.1 _ _ _ _ _ _ _ sgX12_readPeople_74_ok ?_
  refine Or.inl ⟨rfl, 32, (hW.ld 8 (by decide)).choose, (hW.ld 8 (by decide)).choose_spec, ?_⟩
  refine Or.inl ⟨rfl, _, 5, 0, 0, _, Or.inl qi_12_210, ⟨rfl, rfl⟩, rfl, rfl, M_ofw hg hJ hW 8 (by decide), fun y77 h77 hy77 => ?_⟩
  obtain ⟨rfl, hh⟩ := hy77
  rw [hh]
  clear hh
  refine ⟨fun c80 => ?_, fun c80 => absurd c80 (wpk_inj 11 (by decide) 8 (by decide) (by decide))⟩
  
  refine step.1 _ _ _ _ _ _ _ sgX12_readPeople_118_ok ?_
  refine Or.inl ⟨rfl, 34, (hW.ld 9 (by decide)).choose, (hW.ld 9 (by decide)).choose_spec, ?_⟩
  refine Or.inl ⟨rfl, _, 5, 0, 0, _, Or.inl qi_12_210, ⟨rfl, rfl⟩, rfl, rfl, M_ofw hg hJ hW 9 (by decide), fun y121 h121 hy121 => ?_⟩
  obtain ⟨rfl, hh⟩ := hy121
  rw [hh]
  clear hh
  refine ⟨fun c124 => ?_, fun c124 => absurd c124 (wpk_inj 11 (by decide) 9 (by decide) (by decide))⟩
  
  refine step.1 _ _ _ _ _ _ _ sgX12_readPeople_161_ok ?_
  refine Or.inl ⟨rfl, 36, (hW.ld 10 (by decide)).choose, (hW.ld 10 (by decide)).choose_spec, ?_⟩
  refine Or.inl ⟨rfl, _, 5, 0, 0, _, Or.inl qi_12_210, ⟨rfl, rfl⟩, rfl, rfl, M_ofw hg hJ hW 10 (by decide), fun y164 h164 hy164 => ?_⟩
  obtain ⟨rfl, hh⟩ := hy164
  rw [hh]
  clear hh
  refine ⟨fun c167 => ?_, fun c167 => absurd c167 (wpk_inj 11 (by decide) 10 (by decide) (by decide))⟩
  
  refine step.1 _ _ _ _ _ _ _ sgX12_readPeople_184_ok ?_
  refine Or.inl ⟨rfl, 38, (hW.ld 11 (by decide)).choose, (hW.ld 11 (by decide)).choose_spec, ?_⟩
  refine Or.inl ⟨rfl, _, 5, 0, 0, _, Or.inl qi_12_210, ⟨rfl, rfl⟩, rfl, rfl, M_ofw hg hJ hW 11 (by decide), fun y187 h187 hy187 => ?_⟩
  obtain ⟨rfl, hh⟩ := hy187
  rw [hh]
  clear hh
  refine ⟨fun c190 => absurd rfl c190, fun c190 => ?_⟩
  
  refine Or.inl ⟨rfl, _, 2, 0, 0, _, _, _, qi_12_202, ⟨rfl, rfl⟩, ⟨hM, rfl⟩, rfl, rfl, M_num hg hM hT hB 1 (by decide : (9 : Int32) ≤ 9999), fun y198 h198 hy198 => ?_⟩
  obtain ⟨rfl, x1, hM1, hs1, hk1, hT1⟩ := hy198
  have hN1 := (hs1.2 66 (by decide)).trans hN
  have hQ1 := (hs1.2 68 (by decide)).trans hQ
  refine ⟨_, hM1, Nat.le_of_ble_eq_true rfl, rfl, ?_⟩
  refine step.1 _ _ _ _ _ _ _ sgX12_readPeople_219_ok ?_
  refine ⟨rfl, Nat.le_refl _, Nat.le_refl _, ?_⟩
  refine ⟨rfl, upd x1 17 (pnum F n 1 9 s).2, rfl, (hs1.sub (by simp) : same h _ [63, 66, 68]).t2 (same.up (by simp) : same _ _ [63]) (by decide), fun k hk => (upd_n (by simp at hk; omega)).trans (hk1 k (by simp at hk ⊢; omega)), hT1.upk (by decide) _, ⟨⟨_, hN1⟩, _, hQ1⟩, fun hb => ⟨nd, ns, hN1, hQ1, (hk1 14 (by decide)).trans h14, (hk1 15 (by decide)).trans h15, (hk1 16 (by decide)).trans h16, rfl, (hk1 18 (by decide)).trans h18, hA, hA2⟩⟩
set_option maxHeartbeats 1000000 in
theorem M_people12 {g : qG} (hg : qOK g) {h : qH} (hJ : qJDK g) (hW : qMW g) {x : Nat → Int32} {y : Nat → Int64} (hM : h.2 63 = some (M63 x y)) {F : Nat → Int32} {n : Nat} {s : PS} (hT : mT x n s) (hB : mB h F) {D : Nat → Int32} {N : Nat} {Q : Nat → Int32} {M : Nat} {st ve cl : Int32} (hV : mV h x (D, N, Q, M, st, ve, cl)) (hN10 : N ≤ 10) (hM8 : M ≤ 8) (q : Nat)  : qSpec g 7 0 0 mX12_readPeople [.ref 63, .int (nI (wpk 12))] h (fun r h' => r = none ∧ mCl h h' x y n (pbody F n 12 q s D N Q M st ve cl)) := by
  refine qSpec_run 12 "readPeople" false hg mX12_readPeople_ok rfl rfl (Nat.le_of_ble_eq_true rfl) (by decide) ?_
  intro run step
  obtain ⟨nd, ns, hN, hQ, h14, h15, h16, h17, h18, hA, hA2⟩ := hV
  have hT := hT
  refine step.1 _ _ _ _ _ _ _ sgX12_readPeople_0_ok ?_
  refine Or.inl ⟨rfl, 30, (hW.ld 7 (by decide)).choose, (hW.ld 7 (by decide)).choose_spec, ?_⟩
  refine Or.inl ⟨rfl, _, 5, 0, 0, _, Or.inl qi_12_210, ⟨rfl, rfl⟩, rfl, rfl, M_ofw hg hJ hW 7 (by decide), fun y3 h3 hy3 => ?_⟩
  obtain ⟨rfl, hh⟩ := hy3
  rw [hh]
  clear hh
  refine ⟨fun c6 => ?_, fun c6 => absurd c6 (wpk_inj 12 (by decide) 7 (by decide) (by decide))⟩
  
  refine step.1 _ _ _ _ _ _ _ sgX12_readPeople_74_ok ?_
  refine Or.inl ⟨rfl, 32, (hW.ld 8 (by decide)).choose, (hW.ld 8 (by decide)).choose_spec, ?_⟩
  refine Or.inl ⟨rfl, _, 5, 0, 0, _, Or.inl qi_12_210, ⟨rfl, rfl⟩, rfl, rfl, M_ofw hg hJ hW 8 (by decide), fun y77 h77 hy77 => ?_⟩
  obtain ⟨rfl, hh⟩ := hy77
  rw [hh]
  clear hh
  refine ⟨fun c80 => ?_, fun c80 => absurd c80 (wpk_inj 12 (by decide) 8 (by decide) (by decide))⟩
  
  refine step.1 _ _ _ _ _ _ _ sgX12_readPeople_118_ok ?_
  refine Or.inl ⟨rfl, 34, (hW.ld 9 (by decide)).choose, (hW.ld 9 (by decide)).choose_spec, ?_⟩
  refine Or.inl ⟨rfl, _, 5, 0, 0, _, Or.inl qi_12_210, ⟨rfl, rfl⟩, rfl, rfl, M_ofw hg hJ hW 9 (by decide), fun y121 h121 hy121 => ?_⟩
  obtain ⟨rfl, hh⟩ := hy121
  rw [hh]
  clear hh
  refine ⟨fun c124 => ?_, fun c124 => absurd c124 (wpk_inj 12 (by decide) 9 (by decide) (by decide))⟩
  
  refine step.1 _ _ _ _ _ _ _ sgX12_readPeople_161_ok ?_
  refine Or.inl ⟨rfl, 36, (hW.ld 10 (by decide)).choose, (hW.ld 10 (by decide)).choose_spec, ?_⟩
  refine Or.inl ⟨rfl, _, 5, 0, 0, _, Or.inl qi_12_210, ⟨rfl, rfl⟩, rfl, rfl, M_ofw hg hJ hW 10 (by decide), fun y164 h164 hy164 => ?_⟩
  obtain ⟨rfl, hh⟩ := hy164
  rw [hh]
  clear hh
  refine ⟨fun c167 => ?_, fun c167 => absurd c167 (wpk_inj 12 (by decide) 10 (by decide) (by decide))⟩
  
  refine step.1 _ _ _ _ _ _ _ sgX12_readPeople_184_ok ?_
  refine Or.inl ⟨rfl, 38, (hW.ld 11 (by decide)).choose, (hW.ld 11 (by decide)).choose_spec, ?_⟩
  refine Or.inl ⟨rfl, _, 5, 0, 0, _, Or.inl qi_12_210, ⟨rfl, rfl⟩, rfl, rfl, M_ofw hg hJ hW 11 (by decide), fun y187 h187 hy187 => ?_⟩
  obtain ⟨rfl, hh⟩ := hy187
  rw [hh]
  clear hh
  refine ⟨fun c190 => ?_, fun c190 => absurd c190 (wpk_inj 12 (by decide) 11 (by decide) (by decide))⟩
  
  refine step.1 _ _ _ _ _ _ _ sgX12_readPeople_207_ok ?_
  refine Or.inl ⟨rfl, _, 2, 0, 0, _, _, _, qi_12_202, ⟨rfl, rfl⟩, ⟨hM, rfl⟩, rfl, rfl, M_num hg hM hT hB 0 (by decide : (480 : Int32) ≤ 9999), fun y213 h213 hy213 => ?_⟩
  obtain ⟨rfl, x1, hM1, hs1, hk1, hT1⟩ := hy213
  have hN1 := (hs1.2 66 (by decide)).trans hN
  have hQ1 := (hs1.2 68 (by decide)).trans hQ
  refine ⟨_, hM1, Nat.le_of_ble_eq_true rfl, rfl, ?_⟩
  refine step.1 _ _ _ _ _ _ _ sgX12_readPeople_219_ok ?_
  refine ⟨rfl, Nat.le_refl _, Nat.le_refl _, ?_⟩
  refine ⟨rfl, upd x1 18 (pnum F n 0 480 s).2, rfl, (hs1.sub (by simp) : same h _ [63, 66, 68]).t2 (same.up (by simp) : same _ _ [63]) (by decide), fun k hk => (upd_n (by simp at hk; omega)).trans (hk1 k (by simp at hk ⊢; omega)), hT1.upk (by decide) _, ⟨⟨_, hN1⟩, _, hQ1⟩, fun hb => ⟨nd, ns, hN1, hQ1, (hk1 14 (by decide)).trans h14, (hk1 15 (by decide)).trans h15, (hk1 16 (by decide)).trans h16, (hk1 17 (by decide)).trans h17, rfl, hA, hA2⟩⟩
set_option maxHeartbeats 1000000 in
theorem M_people8 {g : qG} (hg : qOK g) {h : qH} (hJ : qJDK g) (hW : qMW g) {x : Nat → Int32} {y : Nat → Int64} (hM : h.2 63 = some (M63 x y)) {F : Nat → Int32} {n : Nat} {s : PS} (hT : mT x n s) (hB : mB h F) {D : Nat → Int32} {N : Nat} {Q : Nat → Int32} {M : Nat} {st ve cl : Int32} (hV : mV h x (D, N, Q, M, st, ve, cl)) (hN10 : N ≤ 10) (hM8 : M ≤ 8) (q : Nat)  : qSpec g 7 0 0 mX12_readPeople [.ref 63, .int (nI (wpk 8))] h (fun r h' => r = none ∧ mCl h h' x y n (pbody F n 8 q s D N Q M st ve cl)) := by
  refine qSpec_run 12 "readPeople" false hg mX12_readPeople_ok rfl rfl (Nat.le_of_ble_eq_true rfl) (by decide) ?_
  intro run step
  obtain ⟨nd, ns, hN, hQ, h14, h15, h16, h17, h18, hA, hA2⟩ := hV
  have hT := hT
  refine step.1 _ _ _ _ _ _ _ sgX12_readPeople_0_ok ?_
  refine Or.inl ⟨rfl, 30, (hW.ld 7 (by decide)).choose, (hW.ld 7 (by decide)).choose_spec, ?_⟩
  refine Or.inl ⟨rfl, _, 5, 0, 0, _, Or.inl qi_12_210, ⟨rfl, rfl⟩, rfl, rfl, M_ofw hg hJ hW 7 (by decide), fun y3 h3 hy3 => ?_⟩
  obtain ⟨rfl, hh⟩ := hy3
  rw [hh]
  clear hh
  refine ⟨fun c6 => ?_, fun c6 => absurd c6 (wpk_inj 8 (by decide) 7 (by decide) (by decide))⟩
  
  refine step.1 _ _ _ _ _ _ _ sgX12_readPeople_74_ok ?_
  refine Or.inl ⟨rfl, 32, (hW.ld 8 (by decide)).choose, (hW.ld 8 (by decide)).choose_spec, ?_⟩
  refine Or.inl ⟨rfl, _, 5, 0, 0, _, Or.inl qi_12_210, ⟨rfl, rfl⟩, rfl, rfl, M_ofw hg hJ hW 8 (by decide), fun y77 h77 hy77 => ?_⟩
  obtain ⟨rfl, hh⟩ := hy77
  rw [hh]
  clear hh
  refine ⟨fun c80 => absurd rfl c80, fun c80 => ?_⟩
  
  refine Or.inl ⟨rfl, _, 3, 0, 0, _, _, _, qi_12_216, ⟨rfl, rfl⟩, ⟨hM, rfl⟩, rfl, rfl, M_readSinger hg hM hT hB (N := M) h15 (by omega), fun y84 h84 hy84 => ?_⟩
  obtain ⟨rfl, x1, hM1, hs1, hk1, hT1⟩ := hy84
  have hB1 := hB.sm hs1 (by decide)
  refine Or.inl ⟨rfl, _, 2, 0, 0, _, _, _, qi_12_202, ⟨rfl, rfl⟩, ⟨hM1, rfl⟩, rfl, rfl, M_num hg hM1 hT1 hB1 0 (by decide : (480 : Int32) ≤ 9999), fun y93 h93 hy93 => ?_⟩
  obtain ⟨rfl, x2, hM2, hs2, hk2, hT2⟩ := hy93
  have hs := hs1.t2 hs2 (by decide)
  have hkk := tr3 hk2 hk1
  have hN2 := (hs.2 66 (by decide)).trans hN
  have hQ2 := (hs.2 68 (by decide)).trans hQ
  refine Or.inl ⟨rfl, _, 1, 0, 0, _, _, _, qi_12_142, ⟨rfl, rfl⟩, ⟨hM2, rfl⟩, rfl, rfl, M_fineS hg hM2 hT2, fun y98 h98 hy98 => ?_⟩
  obtain ⟨rfl, hh⟩ := hy98
  rw [hh]
  clear hh
  refine ⟨fun c101 => ?_, fun c101 => ?_⟩
  · have hb : pbad (pfactS F n M 480 s) = true := by
      have z := qb_0.mp c101
      exact (by simpa using z : pbad (pnum F n 0 480 (pnumS F n 0 (nI M - 1) s)).1 = true)
    refine step.1 _ _ _ _ _ _ _ sgX12_readPeople_115_ok ?_
    refine step.1 _ _ _ _ _ _ _ sgX12_readPeople_219_ok ?_
    refine ⟨rfl, Nat.le_refl _, Nat.le_refl _, ?_⟩
    refine ⟨rfl, x2, hM2, hs.sub (by simp), fun k hk => hkk k (by simp at hk ⊢; omega), hT2, ⟨⟨_, hN2⟩, _, hQ2⟩, fun hb2 => absurd (hb2.symm.trans hb) (by decide)⟩
  · have hb : pbad (pfactS F n M 480 s) = false := by
      have z := qb_1.mp c101
      exact (by simpa using z : pbad (pnum F n 0 480 (pnumS F n 0 (nI M - 1) s)).1 = false)
    obtain ⟨d, hd, ed⟩ := pnum_nat (by omega) (pbad_numS hb)
    have ei : (4 * (pnum F n 0 (nI M - 1) s).2 + 2 : Int32) = nI (d * 4 + 2) := by rw [ed]; exact ixk (k := 4) (w := 2)
    refine ⟨by decide, _, _, hM2, rfl, ?_⟩
    refine ⟨_, _, hQ2, (by rw [ei]; exact vp_in_nI (n := d * 4 + 2) (N := 32) (by omega) (by decide)), ?_⟩
    refine step.1 _ _ _ _ _ _ _ sgX12_readPeople_115_ok ?_
    refine step.1 _ _ _ _ _ _ _ sgX12_readPeople_219_ok ?_
    refine ⟨rfl, Nat.le_refl _, Nat.le_refl _, ?_⟩
    have hQ9 : some (aI' 32 (upd ns ((4 * (pnum F n 0 (nI M - 1) s).2 + 2 : Int32).toNatClampNeg) (pnum F n 0 480 (pnumS F n 0 (nI M - 1) s)).2)) = some (aI' 32 (upd ns (d * 4 + 2) (pnum F n 0 480 (pnumS F n 0 (nI M - 1) s)).2)) := by rw [ei, h_tn (n := d * 4 + 2) (by omega)]
    refine ⟨rfl, x2, hM2, (hs.sub (by simp) : same h _ [63, 66, 68]).t2 (same.up (by simp) : same _ _ [68]) (by decide), fun k hk => hkk k (by simp at hk ⊢; omega), hT2, ⟨⟨_, hN2⟩, _, hQ9⟩, fun _ => ?_⟩
    refine ⟨nd, _, hN2, hQ9, (hkk 14 (by decide)).trans h14, (hkk 15 (by decide)).trans h15, (hkk 16 (by decide)).trans h16, (hkk 17 (by decide)).trans h17, (hkk 18 (by decide)).trans h18, hA, ?_⟩
    show ag (M * 4) _ (if pbad (pfactS F n M 480 s) = true then Q else pfactD F n M 480 4 2 s Q)
    rw [if_neg (by rw [hb]; decide), pfactD, ed, h_tn (n := d) (by omega)]
    exact hA2.up _ _
set_option maxHeartbeats 1000000 in
theorem M_people9 {g : qG} (hg : qOK g) {h : qH} (hJ : qJDK g) (hW : qMW g) {x : Nat → Int32} {y : Nat → Int64} (hM : h.2 63 = some (M63 x y)) {F : Nat → Int32} {n : Nat} {s : PS} (hT : mT x n s) (hB : mB h F) {D : Nat → Int32} {N : Nat} {Q : Nat → Int32} {M : Nat} {st ve cl : Int32} (hV : mV h x (D, N, Q, M, st, ve, cl)) (hN10 : N ≤ 10) (hM8 : M ≤ 8) (q : Nat)  : qSpec g 7 0 0 mX12_readPeople [.ref 63, .int (nI (wpk 9))] h (fun r h' => r = none ∧ mCl h h' x y n (pbody F n 9 q s D N Q M st ve cl)) := by
  refine qSpec_run 12 "readPeople" false hg mX12_readPeople_ok rfl rfl (Nat.le_of_ble_eq_true rfl) (by decide) ?_
  intro run step
  obtain ⟨nd, ns, hN, hQ, h14, h15, h16, h17, h18, hA, hA2⟩ := hV
  have hT := hT
  refine step.1 _ _ _ _ _ _ _ sgX12_readPeople_0_ok ?_
  refine Or.inl ⟨rfl, 30, (hW.ld 7 (by decide)).choose, (hW.ld 7 (by decide)).choose_spec, ?_⟩
  refine Or.inl ⟨rfl, _, 5, 0, 0, _, Or.inl qi_12_210, ⟨rfl, rfl⟩, rfl, rfl, M_ofw hg hJ hW 7 (by decide), fun y3 h3 hy3 => ?_⟩
  obtain ⟨rfl, hh⟩ := hy3
  rw [hh]
  clear hh
  refine ⟨fun c6 => ?_, fun c6 => absurd c6 (wpk_inj 9 (by decide) 7 (by decide) (by decide))⟩
  
  refine step.1 _ _ _ _ _ _ _ sgX12_readPeople_74_ok ?_
  refine Or.inl ⟨rfl, 32, (hW.ld 8 (by decide)).choose, (hW.ld 8 (by decide)).choose_spec, ?_⟩
  refine Or.inl ⟨rfl, _, 5, 0, 0, _, Or.inl qi_12_210, ⟨rfl, rfl⟩, rfl, rfl, M_ofw hg hJ hW 8 (by decide), fun y77 h77 hy77 => ?_⟩
  obtain ⟨rfl, hh⟩ := hy77
  rw [hh]
  clear hh
  refine ⟨fun c80 => ?_, fun c80 => absurd c80 (wpk_inj 9 (by decide) 8 (by decide) (by decide))⟩
  
  refine step.1 _ _ _ _ _ _ _ sgX12_readPeople_118_ok ?_
  refine Or.inl ⟨rfl, 34, (hW.ld 9 (by decide)).choose, (hW.ld 9 (by decide)).choose_spec, ?_⟩
  refine Or.inl ⟨rfl, _, 5, 0, 0, _, Or.inl qi_12_210, ⟨rfl, rfl⟩, rfl, rfl, M_ofw hg hJ hW 9 (by decide), fun y121 h121 hy121 => ?_⟩
  obtain ⟨rfl, hh⟩ := hy121
  rw [hh]
  clear hh
  refine ⟨fun c124 => absurd rfl c124, fun c124 => ?_⟩
  
  refine Or.inl ⟨rfl, _, 3, 0, 0, _, _, _, qi_12_216, ⟨rfl, rfl⟩, ⟨hM, rfl⟩, rfl, rfl, M_readSinger hg hM hT hB (N := M) h15 (by omega), fun y128 h128 hy128 => ?_⟩
  obtain ⟨rfl, x1, hM1, hs1, hk1, hT1⟩ := hy128
  have hB1 := hB.sm hs1 (by decide)
  refine Or.inl ⟨rfl, _, 2, 0, 0, _, _, _, qi_12_202, ⟨rfl, rfl⟩, ⟨hM1, rfl⟩, rfl, rfl, M_num hg hM1 hT1 hB1 0 (by decide : (9 : Int32) ≤ 9999), fun y136 h136 hy136 => ?_⟩
  obtain ⟨rfl, x2, hM2, hs2, hk2, hT2⟩ := hy136
  have hs := hs1.t2 hs2 (by decide)
  have hkk := tr3 hk2 hk1
  have hN2 := (hs.2 66 (by decide)).trans hN
  have hQ2 := (hs.2 68 (by decide)).trans hQ
  refine Or.inl ⟨rfl, _, 1, 0, 0, _, _, _, qi_12_142, ⟨rfl, rfl⟩, ⟨hM2, rfl⟩, rfl, rfl, M_fineS hg hM2 hT2, fun y141 h141 hy141 => ?_⟩
  obtain ⟨rfl, hh⟩ := hy141
  rw [hh]
  clear hh
  refine ⟨fun c144 => ?_, fun c144 => ?_⟩
  · have hb : pbad (pfactS F n M 9 s) = true := by
      have z := qb_0.mp c144
      exact (by simpa using z : pbad (pnum F n 0 9 (pnumS F n 0 (nI M - 1) s)).1 = true)
    refine step.1 _ _ _ _ _ _ _ sgX12_readPeople_158_ok ?_
    refine step.1 _ _ _ _ _ _ _ sgX12_readPeople_219_ok ?_
    refine ⟨rfl, Nat.le_refl _, Nat.le_refl _, ?_⟩
    refine ⟨rfl, x2, hM2, hs.sub (by simp), fun k hk => hkk k (by simp at hk ⊢; omega), hT2, ⟨⟨_, hN2⟩, _, hQ2⟩, fun hb2 => absurd (hb2.symm.trans hb) (by decide)⟩
  · have hb : pbad (pfactS F n M 9 s) = false := by
      have z := qb_1.mp c144
      exact (by simpa using z : pbad (pnum F n 0 9 (pnumS F n 0 (nI M - 1) s)).1 = false)
    obtain ⟨d, hd, ed⟩ := pnum_nat (by omega) (pbad_numS hb)
    have ei : (4 * (pnum F n 0 (nI M - 1) s).2 + 3 : Int32) = nI (d * 4 + 3) := by rw [ed]; exact ixk (k := 4) (w := 3)
    refine ⟨by decide, _, _, hM2, rfl, ?_⟩
    refine ⟨_, _, hQ2, (by rw [ei]; exact vp_in_nI (n := d * 4 + 3) (N := 32) (by omega) (by decide)), ?_⟩
    refine step.1 _ _ _ _ _ _ _ sgX12_readPeople_158_ok ?_
    refine step.1 _ _ _ _ _ _ _ sgX12_readPeople_219_ok ?_
    refine ⟨rfl, Nat.le_refl _, Nat.le_refl _, ?_⟩
    have hQ9 : some (aI' 32 (upd ns ((4 * (pnum F n 0 (nI M - 1) s).2 + 3 : Int32).toNatClampNeg) (pnum F n 0 9 (pnumS F n 0 (nI M - 1) s)).2)) = some (aI' 32 (upd ns (d * 4 + 3) (pnum F n 0 9 (pnumS F n 0 (nI M - 1) s)).2)) := by rw [ei, h_tn (n := d * 4 + 3) (by omega)]
    refine ⟨rfl, x2, hM2, (hs.sub (by simp) : same h _ [63, 66, 68]).t2 (same.up (by simp) : same _ _ [68]) (by decide), fun k hk => hkk k (by simp at hk ⊢; omega), hT2, ⟨⟨_, hN2⟩, _, hQ9⟩, fun _ => ?_⟩
    refine ⟨nd, _, hN2, hQ9, (hkk 14 (by decide)).trans h14, (hkk 15 (by decide)).trans h15, (hkk 16 (by decide)).trans h16, (hkk 17 (by decide)).trans h17, (hkk 18 (by decide)).trans h18, hA, ?_⟩
    show ag (M * 4) _ (if pbad (pfactS F n M 9 s) = true then Q else pfactD F n M 9 4 3 s Q)
    rw [if_neg (by rw [hb]; decide), pfactD, ed, h_tn (n := d) (by omega)]
    exact hA2.up _ _
end Q10H
