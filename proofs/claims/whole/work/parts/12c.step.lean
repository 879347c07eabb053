section Q12C
theorem dr_e (z : Int32) : ((z >>> ((16 : Int32) &&& 31)) &&& 32767) - ((z >>> ((16 : Int32) &&& 31)) &&& 32767) / 16 * 16 = (z.toUInt32 >>> (Int32.toUInt32 16 &&& Int32.toUInt32 31)).toInt32 &&& 15 := by
  obtain ⟨q, hq, rfl⟩ := nI_any z
  have e1 : (nI q >>> ((16 : Int32) &&& 31)) &&& 32767 = nI (q / 2 ^ 16 % 2 ^ 15) := by
    rw [← Int32.toBitVec_inj]
    apply BitVec.eq_of_getLsbD_eq
    intro i hi
    show (((nI q >>> ((16 : Int32) &&& 31)).toBitVec &&& (32767 : Int32).toBitVec)).getLsbD i = (BitVec.ofNat 32 (q / 2 ^ 16 % 2 ^ 15)).getLsbD i
    rw [BitVec.getLsbD_and, BitVec.getLsbD_ofNat, Nat.testBit_mod_two_pow, Nat.testBit_div_two_pow, show (32767 : Int32).toBitVec = BitVec.ofNat 32 (2 ^ 15 - 1) from by decide, BitVec.getLsbD_ofNat, Nat.testBit_two_pow_sub_one]
    show (((BitVec.ofNat 32 q).sshiftRight' (((16 : Int32) &&& 31).toBitVec.smod 32)).getLsbD i && _) = _
    rw [show ((16 : Int32) &&& 31).toBitVec.smod 32 = BitVec.ofNat 32 16 from by decide]
    by_cases c : i < 15
    · rw [decide_eq_true hi, decide_eq_true c, Bool.true_and, Bool.and_true, Bool.true_and]
      show ((BitVec.ofNat 32 q).sshiftRight 16).getLsbD i = _
      rw [BitVec.getLsbD_sshiftRight]
      simp only [BitVec.getLsbD_ofNat]
      simp [show ¬ 32 ≤ i by omega, show 16 + i < 32 by omega, show i + 16 < 32 by omega, Nat.add_comm]
    · rw [decide_eq_false c]
      simp
  rw [e1, pk_ushrN hq (16 : Int32) 16 (by decide)]
  generalize hu : q / 2 ^ 16 = u
  have hu2 : u < 2 ^ 16 := by omega
  have hm : u % 2 ^ 15 < 2 ^ 15 := Nat.mod_lt _ (by decide)
  have e15 : nI u &&& 15 = nI (u % 16) := by
    rw [show (15 : Int32) = nI (2 ^ 4 - 1) from rfl, b_and, Nat.and_two_pow_sub_one_eq_mod]
  rw [e15]
  obtain ⟨v, hv⟩ : ∃ v : Nat, v = u % 2 ^ 15 := ⟨_, rfl⟩
  rw [← hv]
  have ediv : (nI v / 16 : Int32) = nI (v / 16) := by
    rw [← Int32.toInt_inj, Int32.toInt_div_of_ne_right _ _ (by decide), nI_toInt (by omega), nI_toInt (by omega)]
    exact (Int.ofNat_tdiv v 16).symm
  rw [ediv, show (nI (v / 16) * 16 : Int32) = nI (v / 16 * 16) from pk_mul (v / 16) 16, pk_sub (by omega)]
  congr 1
  omega
theorem MX.v89 {h : qH} {x : Nat → Int32} {y : Nat → Int64} {F : Nat → Nat → Int32} {G : Nat → Nat → Int64} (hM : MX h x y F G) {n : Nat} {f : Nat → Option qE} {w : Nat → Int32} (h1 : f 89 = some (aI' 7 w)) (h2 : ∀ j : Nat, j ≠ 89 → f j = h.2 j) : MX (n, f) x y (fup F 89 w) G := ⟨(h2 63 (by decide)).trans hM.1, fun j a b => by
  by_cases c : j = 89
  · subst c; exact h1
  · rw [mcell_f c]; exact (h2 j c).trans (hM.2 j a b)⟩
theorem kp.v {h h' : qH} (a : kp h h') {n k : Nat} {f : Nat → Option qE} (h0 : h'.1 = n) (h1 : 63 ≤ k) (h2 : k ≤ 91) (h3 : ∀ j : Nat, j ≠ k → f j = h'.2 j) : kp h (n, f) := ⟨by rw [← h0]; exact a.1, fun j hj => (h3 j (by omega)).trans (a.2 j hj)⟩
/-- the model's evening is the program's -/
def NE (e : Nat → Int32) (x : Nat → Int32) (N : Nat → Int32) : Prop := x 57 = e 3 ∧ N 0 = e 4 ∧ N 1 = e 5 ∧ N 2 = e 6 ∧ N 3 = e 7 ∧ N 4 = e 8 ∧ N 5 = e 9 ∧ N 6 = e 10
theorem M_draws {g : qG} (hg : qOK g) {h : qH} {x : Nat → Int32} {y : Nat → Int64} {F : Nat → Nat → Int32} {G : Nat → Nat → Int64} (hM : MX h x y F G) : qSpec g 1 0 0 mX12_draws [.ref 63] h (fun r h' => r = some (.int (ebits (x 57))) ∧ MX h' (upd x 57 (eseed (x 57))) y F G ∧ kp h h') := by
  refine qSpec_run 12 "draws" false hg mX12_draws_ok rfl rfl (Nat.le_of_ble_eq_true rfl) (by decide) ?_
  intro run step
  refine step.1 _ _ _ _ _ _ _ sgX12_draws_0_ok ?_
  refine ⟨by decide, _, _, hM.1, rfl, ?_⟩
  refine Or.inr ⟨by decide, ?_⟩
  refine ⟨_, hM.1, Nat.le_of_ble_eq_true rfl, rfl, ?_⟩
  refine ⟨by decide, _, _, rfl, rfl, ?_⟩
  refine ⟨by decide, ?_⟩
  refine ⟨.int, rfl, rfl, Nat.le_refl _, Nat.le_refl _, ?_⟩
  refine ⟨congrArg (fun z => some (Value.int z)) ?_, hM.p63 (sI_57 rfl), kp.rf.u (by decide) (by decide)⟩
  exact dr_e (eseed (x 57))
set_option maxHeartbeats 1000000 in
theorem M_stepR {g : qG} (hg : qOK g) {h : qH} {x : Nat → Int32} {y : Nat → Int64} {F : Nat → Nat → Int32} {G : Nat → Nat → Int64} (hM : MX h x y F G) {S : CS} (hR : Rel S x F) {d : Nat} (hd : d < S.2.1.2.2.2.1) (hn : S.2.1.2.2.2.1 ≤ 10) {e : Nat → Int32} (hN : NE e x (F 89)) {i : Bool} (hs : x 60 = qb i) (hc : x 59 = 0) : qSpec g 2 0 0 mX12_stepAt [.ref 63, .int (nI d), .int 1] h (fun r h' => r = none ∧ ∃ (x' : Nat → Int32) (F' : Nat → Nat → Int32), QZ h h' x F G x' y F' ∧ NE (ering S.2.1.1 d i e).2 x' (F' 89) ∧ x' 59 = qb (ering S.2.1.1 d i e).1 ∧ x' 60 = x 60) := by
  refine qSpec_run 12 "stepAt" false hg mX12_stepAt_ok rfl rfl (Nat.le_of_ble_eq_true rfl) (by decide) ?_
  intro run step
  have ix : (10 * nI d + 5 : Int32) = nI (d * 10 + 5) := ixk (k := 10) (w := 5)
  have gx : F 67 (10 * nI d + 5 : Int32).toNatClampNeg = S.2.1.1 (d * 10 + 5) := by rw [ix, h_tn (n := d * 10 + 5) (by omega)]; exact hR.2.2.1.1 _ (by omega)
  have e22 : x 22 = S.2.1.2.2.2.2.2.2.2.1 := hR.1.2.2.2.2.2.1
  obtain ⟨n0, n1, n2, n3, n4, n5, n6, n7⟩ := hN
  refine step.1 _ _ _ _ _ _ _ sgX12_stepAt_0_ok ?_
  refine ⟨by decide, _, _, hM.1, rfl, ?_⟩
  refine ⟨⟨rfl, rfl⟩, ?_⟩
  refine ⟨_, _, hM.c89, (vp_in_nI (n := 2) (N := 7) (by decide) (by decide) : vp_in (nI 2) 7), ?_⟩
  refine ⟨fun c8 => absurd c8 (by decide), fun _ => ?_⟩
  refine step.1 _ _ _ _ _ _ _ sgX12_stepAt_19_ok ?_
  refine ⟨_, _, hM.c89, (vp_in_nI (n := 2) (N := 7) (by decide) (by decide) : vp_in (nI 2) 7), ?_⟩
  refine ⟨by decide, _, _, hM.1, rfl, ?_⟩
  refine ⟨fun c26 => absurd c26 (by decide), fun _ => ?_⟩
  refine step.1 _ _ _ _ _ _ _ sgX12_stepAt_34_ok ?_
  refine ⟨⟨rfl, rfl⟩, ?_⟩
  refine ⟨_, _, rfl, (vp_in_nI (n := 5) (N := 7) (by decide) (by decide) : vp_in (nI 5) 7), ?_⟩
  refine ⟨_, _, rfl, (vp_in_nI (n := 5) (N := 7) (by decide) (by decide) : vp_in (nI 5) 7), ?_⟩
  refine ⟨by decide, _, _, hM.1, rfl, ?_⟩
  refine ⟨fun c43 => ?_, fun c43 => ?_⟩
  · have d43 : i = false := qb_0.mp (by rw [← hs]; exact c43)
    refine step.1 _ _ _ _ _ _ _ sgX12_stepAt_81_ok ?_
    refine ⟨rfl, Nat.le_refl _, Nat.le_refl _, ?_⟩
    subst d43
    refine ⟨rfl, x, _, ⟨hM.v89 rfl (fun j hj => by simp only [qup, if_neg hj]), mq.rf.uF (by decide), kp.rf.v (k := 89) rfl (by decide) (by decide) (fun j hj => by simp only [qup, if_neg hj])⟩, ?_, hc, rfl⟩
    refine ⟨n0, n1, n2, (show F 89 2 + 1 = e 6 + 1 by rw [n3]), n4, n5, (show F 89 5 + 1 = e 9 + 1 by rw [n6]), n7⟩
  · have d43 : i = true := qb_1.mp (by rw [← hs]; exact c43)
    refine Or.inl ⟨rfl, _, 1, 0, 0, _, _, _, qi_12_501, ⟨rfl, rfl⟩, ⟨hM.1, rfl⟩, rfl, rfl, M_draws hg (hM.v89 (w := (upd (upd (F 89) 2 (F 89 2 + 1)) 5 (upd (F 89) 2 (F 89 2 + 1) 5 + 1))) rfl (fun j hj => by simp only [qup, if_neg hj])), fun y48 h48 hy48 => ?_⟩
    obtain ⟨rfl, hM2, hk2⟩ := hy48
    have hk3 : kp h h48 := by
      refine kp.tr ?_ hk2
      exact kp.rf.v (k := 89) rfl (by decide) (by decide) (fun j hj => by simp only [qup, if_neg hj])
    refine ⟨by decide, _, _, hM2.1, rfl, ?_⟩
    refine ⟨fun c60 => absurd c60 (by decide), fun _ => ?_⟩
    refine step.1 _ _ _ _ _ _ _ sgX12_stepAt_68_ok ?_
    refine ⟨_, _, hM2.c67, (by rw [ix]; exact vp_in_nI (n := d * 10 + 5) (N := 100) (by omega) (by decide)), ?_⟩
    refine ⟨fun c70 => ?_, fun c70 => ?_⟩
    · have d70 : decide (ebits (e 3) < S.2.1.1 (d * 10 + 5)) = false := decide_eq_false (Int32.not_lt.mpr (by rw [← n0, ← gx]; exact c70))
      refine step.1 _ _ _ _ _ _ _ sgX12_stepAt_77_ok ?_
      refine step.1 _ _ _ _ _ _ _ sgX12_stepAt_78_ok ?_
      refine ⟨_, hM2.1, Nat.le_of_ble_eq_true rfl, rfl, ?_⟩
      refine step.1 _ _ _ _ _ _ _ sgX12_stepAt_81_ok ?_
      refine ⟨rfl, Nat.le_refl _, Nat.le_refl _, ?_⟩
      subst d43
      refine ⟨rfl, _, _, ⟨hM2.p63 (sI_59 (v := 0) rfl), (mq.rf.ux (by decide)).ux (by decide) |>.uF (by decide), hk3.u (by decide) (by decide)⟩, ?_, ?_, rfl⟩
      · refine ⟨(show eseed (x 57) = eseed (e 3) by rw [n0]), n1, n2, (show F 89 2 + 1 = e 6 + 1 by rw [n3]), n4, n5, (show F 89 5 + 1 = e 9 + 1 by rw [n6]), n7⟩
      · show (0 : Int32) = qb (decide (ebits (e 3) < S.2.1.1 (d * 10 + 5)))
        rw [d70]; rfl
    · have d70 : decide (ebits (e 3) < S.2.1.1 (d * 10 + 5)) = true := decide_eq_true (Int32.not_le.mp (fun q => c70 (by rw [n0]; exact (show F 67 _ ≤ _ from by rw [gx]; exact q))))
      refine step.1 _ _ _ _ _ _ _ sgX12_stepAt_78_ok ?_
      refine ⟨_, hM2.1, Nat.le_of_ble_eq_true rfl, rfl, ?_⟩
      refine step.1 _ _ _ _ _ _ _ sgX12_stepAt_81_ok ?_
      refine ⟨rfl, Nat.le_refl _, Nat.le_refl _, ?_⟩
      subst d43
      refine ⟨rfl, _, _, ⟨hM2.p63 (sI_59 (v := 1) rfl), (mq.rf.ux (by decide)).ux (by decide) |>.uF (by decide), hk3.u (by decide) (by decide)⟩, ?_, ?_, rfl⟩
      · refine ⟨(show eseed (x 57) = eseed (e 3) by rw [n0]), n1, n2, (show F 89 2 + 1 = e 6 + 1 by rw [n3]), n4, n5, (show F 89 5 + 1 = e 9 + 1 by rw [n6]), n7⟩
      · show (1 : Int32) = qb (decide (ebits (e 3) < S.2.1.1 (d * 10 + 5)))
        rw [d70]; rfl
set_option maxHeartbeats 1000000 in
theorem M_stepV {g : qG} (hg : qOK g) {h : qH} {x : Nat → Int32} {y : Nat → Int64} {F : Nat → Nat → Int32} {G : Nat → Nat → Int64} (hM : MX h x y F G) {S : CS} (hR : Rel S x F) {d : Nat} (hd : d < S.2.1.2.2.2.1) (hn : S.2.1.2.2.2.1 ≤ 10) {e : Nat → Int32} (hN : NE e x (F 89)) {i : Bool} (hs : x 60 = qb i) (hc : x 59 = 0) : qSpec g 2 0 0 mX12_stepAt [.ref 63, .int (nI d), .int 0] h (fun r h' => r = none ∧ ∃ (x' : Nat → Int32) (F' : Nat → Nat → Int32), QZ h h' x F G x' y F' ∧ NE (everse S.2.1.1 S.2.1.2.2.2.2.2.2.2.1 d i e).2 x' (F' 89) ∧ x' 59 = qb (everse S.2.1.1 S.2.1.2.2.2.2.2.2.2.1 d i e).1 ∧ x' 60 = x 60) := by
  refine qSpec_run 12 "stepAt" false hg mX12_stepAt_ok rfl rfl (Nat.le_of_ble_eq_true rfl) (by decide) ?_
  intro run step
  have ix : (10 * nI d + 4 : Int32) = nI (d * 10 + 4) := ixk (k := 10) (w := 4)
  have gx : F 67 (10 * nI d + 4 : Int32).toNatClampNeg = S.2.1.1 (d * 10 + 4) := by rw [ix, h_tn (n := d * 10 + 4) (by omega)]; exact hR.2.2.1.1 _ (by omega)
  have e22 : x 22 = S.2.1.2.2.2.2.2.2.2.1 := hR.1.2.2.2.2.2.1
  obtain ⟨n0, n1, n2, n3, n4, n5, n6, n7⟩ := hN
  refine step.1 _ _ _ _ _ _ _ sgX12_stepAt_0_ok ?_
  refine ⟨by decide, _, _, hM.1, rfl, ?_⟩
  refine ⟨⟨rfl, rfl⟩, ?_⟩
  refine ⟨_, _, hM.c89, (vp_in_nI (n := 2) (N := 7) (by decide) (by decide) : vp_in (nI 2) 7), ?_⟩
  refine ⟨fun _ => ?_, fun c8 => absurd c8 (by decide)⟩
  refine step.1 _ _ _ _ _ _ _ sgX12_stepAt_15_ok ?_
  refine ⟨by decide, _, _, hM.1, rfl, ?_⟩
  refine step.1 _ _ _ _ _ _ _ sgX12_stepAt_19_ok ?_
  refine ⟨_, _, hM.c89, (vp_in_nI (n := 2) (N := 7) (by decide) (by decide) : vp_in (nI 2) 7), ?_⟩
  refine ⟨by decide, _, _, hM.1, rfl, ?_⟩
  refine ⟨fun _ => ?_, fun c26 => absurd c26 (by decide)⟩
  refine step.1 _ _ _ _ _ _ _ sgX12_stepAt_33_ok ?_
  refine step.1 _ _ _ _ _ _ _ sgX12_stepAt_34_ok ?_
  refine ⟨⟨rfl, rfl⟩, ?_⟩
  refine ⟨_, _, rfl, (vp_in_nI (n := 4) (N := 7) (by decide) (by decide) : vp_in (nI 4) 7), ?_⟩
  refine ⟨_, _, rfl, (vp_in_nI (n := 4) (N := 7) (by decide) (by decide) : vp_in (nI 4) 7), ?_⟩
  refine ⟨by decide, _, _, hM.1, rfl, ?_⟩
  refine ⟨fun c43 => ?_, fun c43 => ?_⟩
  · have d43 : i = false := qb_0.mp (by rw [← hs]; exact c43)
    refine step.1 _ _ _ _ _ _ _ sgX12_stepAt_81_ok ?_
    refine ⟨rfl, Nat.le_refl _, Nat.le_refl _, ?_⟩
    subst d43
    refine ⟨rfl, x, _, ⟨hM.v89 rfl (fun j hj => by simp only [qup, if_neg hj]), mq.rf.uF (by decide), kp.rf.v (k := 89) rfl (by decide) (by decide) (fun j hj => by simp only [qup, if_neg hj])⟩, ?_, hc, rfl⟩
    refine ⟨n0, n1, n2, (show F 89 2 + x 22 = e 6 + S.2.1.2.2.2.2.2.2.2.1 by rw [n3, e22]), n4, (show F 89 4 + 1 = e 8 + 1 by rw [n5]), n6, n7⟩
  · have d43 : i = true := qb_1.mp (by rw [← hs]; exact c43)
    refine Or.inl ⟨rfl, _, 1, 0, 0, _, _, _, qi_12_501, ⟨rfl, rfl⟩, ⟨hM.1, rfl⟩, rfl, rfl, M_draws hg (hM.v89 (w := (upd (upd (F 89) 2 (F 89 2 + x 22)) 4 (upd (F 89) 2 (F 89 2 + x 22) 4 + 1))) rfl (fun j hj => by simp only [qup, if_neg hj])), fun y48 h48 hy48 => ?_⟩
    obtain ⟨rfl, hM2, hk2⟩ := hy48
    have hk3 : kp h h48 := by
      refine kp.tr ?_ hk2
      exact kp.rf.v (k := 89) rfl (by decide) (by decide) (fun j hj => by simp only [qup, if_neg hj])
    refine ⟨by decide, _, _, hM2.1, rfl, ?_⟩
    refine ⟨fun _ => ?_, fun c60 => absurd c60 (by decide)⟩
    refine step.1 _ _ _ _ _ _ _ sgX12_stepAt_67_ok ?_
    refine step.1 _ _ _ _ _ _ _ sgX12_stepAt_68_ok ?_
    refine ⟨_, _, hM2.c67, (by rw [ix]; exact vp_in_nI (n := d * 10 + 4) (N := 100) (by omega) (by decide)), ?_⟩
    refine ⟨fun c70 => ?_, fun c70 => ?_⟩
    · have d70 : decide (ebits (e 3) < S.2.1.1 (d * 10 + 4)) = false := decide_eq_false (Int32.not_lt.mpr (by rw [← n0, ← gx]; exact c70))
      refine step.1 _ _ _ _ _ _ _ sgX12_stepAt_77_ok ?_
      refine step.1 _ _ _ _ _ _ _ sgX12_stepAt_78_ok ?_
      refine ⟨_, hM2.1, Nat.le_of_ble_eq_true rfl, rfl, ?_⟩
      refine step.1 _ _ _ _ _ _ _ sgX12_stepAt_81_ok ?_
      refine ⟨rfl, Nat.le_refl _, Nat.le_refl _, ?_⟩
      subst d43
      refine ⟨rfl, _, _, ⟨hM2.p63 (sI_59 (v := 0) rfl), (mq.rf.ux (by decide)).ux (by decide) |>.uF (by decide), hk3.u (by decide) (by decide)⟩, ?_, ?_, rfl⟩
      · refine ⟨(show eseed (x 57) = eseed (e 3) by rw [n0]), n1, n2, (show F 89 2 + x 22 = e 6 + S.2.1.2.2.2.2.2.2.2.1 by rw [n3, e22]), n4, (show F 89 4 + 1 = e 8 + 1 by rw [n5]), n6, n7⟩
      · show (0 : Int32) = qb (decide (ebits (e 3) < S.2.1.1 (d * 10 + 4)))
        rw [d70]; rfl
    · have d70 : decide (ebits (e 3) < S.2.1.1 (d * 10 + 4)) = true := decide_eq_true (Int32.not_le.mp (fun q => c70 (by rw [n0]; exact (show F 67 _ ≤ _ from by rw [gx]; exact q))))
      refine step.1 _ _ _ _ _ _ _ sgX12_stepAt_78_ok ?_
      refine ⟨_, hM2.1, Nat.le_of_ble_eq_true rfl, rfl, ?_⟩
      refine step.1 _ _ _ _ _ _ _ sgX12_stepAt_81_ok ?_
      refine ⟨rfl, Nat.le_refl _, Nat.le_refl _, ?_⟩
      subst d43
      refine ⟨rfl, _, _, ⟨hM2.p63 (sI_59 (v := 1) rfl), (mq.rf.ux (by decide)).ux (by decide) |>.uF (by decide), hk3.u (by decide) (by decide)⟩, ?_, ?_, rfl⟩
      · refine ⟨(show eseed (x 57) = eseed (e 3) by rw [n0]), n1, n2, (show F 89 2 + x 22 = e 6 + S.2.1.2.2.2.2.2.2.2.1 by rw [n3, e22]), n4, (show F 89 4 + 1 = e 8 + 1 by rw [n5]), n6, n7⟩
      · show (1 : Int32) = qb (decide (ebits (e 3) < S.2.1.1 (d * 10 + 4)))
        rw [d70]; rfl
end Q12C
