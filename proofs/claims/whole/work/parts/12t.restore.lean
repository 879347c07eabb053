section Q12T
theorem Rel.less {S : CS} {x : Nat → Int32} {F : Nat → Nat → Int32} (hR : Rel S x F) {ic : Nat} (hic : S.2.2.1.2 = ic + 1) {v : Int32} (hv : v = nI ic) : Rel (S.1, S.2.1, (S.2.2.1.1, ic), S.2.2.2) (upd x 64 v) F := by
  obtain ⟨⟨h2, h8, h19, h20, h21, h22, h23', h36', h37, h62', h64'⟩, hbt, h3, hl, hy, hr, hm, hi⟩ := hR
  exact ⟨⟨h2, h8, h19, h20, h21, h22, h23', h36', h37, h62', hv⟩, hbt, h3, hl, hy, hr, hm, fun q hq => hi q (by rw [hic]; exact Nat.lt_succ_of_lt hq)⟩
theorem INV.restore {S : CS} (hI : INV S) {ic : Nat} (hic : S.2.2.1.2 = ic + 1) : INV (S.1, rcpy (S.2.2.1.1 ic) S.2.1, (S.2.2.1.1, ic), S.2.2.2) := by
  obtain ⟨h1, h2, h3, h4, h5, h6, h7⟩ := hI
  obtain ⟨a, b, c, d⟩ := h7 ic (by omega)
  refine ⟨h1, a.cp _, h3, h4, h5, (by show ic ≤ 3; omega), fun q hq => ?_⟩
  obtain ⟨a', b', c', d'⟩ := h7 q (by rw [hic]; exact Nat.lt_succ_of_lt hq)
  exact ⟨a', b'.trans b.symm, c'.trans c.symm, d'.trans d.symm⟩
set_option maxHeartbeats 1000000 in
theorem M_restore {g : qG} (hg : qOK g) {h : qH} {x : Nat → Int32} {y : Nat → Int64} {F : Nat → Nat → Int32} {G : Nat → Nat → Int64} (hM : MX h x y F G) {S : CS} (hR : Rel S x F) (hI : INV S) : qSpec g 3 0 0 mX12_restore [.ref 63] h (fun r h' => (if S.2.2.1.2 = 0 then r = some (.int (-1)) ∧ MG h h' S else r = some (.int (nI (S.2.2.1.2 - 1))) ∧ MG h h' (S.1, rcpy (S.2.2.1.1 (S.2.2.1.2 - 1)) S.2.1, (S.2.2.1.1, S.2.2.1.2 - 1), S.2.2.2))) := by
  refine qSpec_run 12 "restore" false hg mX12_restore_ok rfl rfl (Nat.le_of_ble_eq_true rfl) (by decide) ?_
  intro run step
  have hic3 := hI.2.2.2.2.2.1
  have e64 : x 64 = nI S.2.2.1.2 := (hR.1.2.2.2.2.2.2.2.2.2.2)
  refine step.1 _ _ _ _ _ _ _ sgX12_restore_0_ok ?_
  refine ⟨_, hM.1, Nat.le_of_ble_eq_true rfl, rfl, ?_⟩
  have hM0 := hM.p63 (sI_0 (v := 0) (rfl : _ = M63l x y))
  have hR0 : Rel S (upd x 0 0) F := hR.t 0
  have hk0 := kp.rf (h := h) |>.u (k := 63) (e := .inl (12, (M63l x y).set 0 (.int 0))) (by decide) (by decide)
  refine ⟨by decide, _, _, hM0.1, rfl, ?_⟩
  refine ⟨fun c9 => ?_, fun c9 => ?_⟩
  · have d9 : ¬ S.2.2.1.2 = 0 := fun q => c9 (by show x 64 = 0; rw [e64, q]; rfl)
    refine step.1 _ _ _ _ _ _ _ sgX12_restore_14_ok ?_
    refine ⟨rfl, ?_⟩
    refine ⟨by decide, _, _, hM0.1, rfl, ?_⟩
    refine ⟨_, hM0.1, Nat.le_of_ble_eq_true rfl, rfl, ?_⟩
    obtain ⟨ic, hic⟩ : ∃ ic : Nat, S.2.2.1.2 = ic + 1 := ⟨S.2.2.1.2 - 1, by omega⟩
    have e641 : ((upd (upd x 0 0) 64 ((upd x 0 0) 64 - 1)) 64 : Int32) = nI ic := by
      show (x 64 - 1 : Int32) = nI ic
      rw [e64, nI_pr (by omega), hic, Nat.add_sub_cancel]
    have eq_ : (2773 * (upd (upd x 0 0) 64 ((upd x 0 0) 64 - 1)) 64 : Int32) = nI (2773 * ic) := by
      rw [e641, Int32.mul_comm, Nat.mul_comm 2773]
      exact pk_mul _ 2773
    have eqc : (2773 * (upd (upd x 0 0) 64 ((upd x 0 0) 64 - 1)) 64 + 132 : Int32) = nI (2773 * ic + 132) := by rw [eq_]; exact nI_add _ 132
    have eqi : ∀ i : Nat, (2773 * (upd (upd x 0 0) 64 ((upd x 0 0) 64 - 1)) 64 + 132 + 1 + nI i : Int32) = nI (2773 * ic + 133 + i) := by
      intro i
      rw [eqc, nI_1, nI_add]
    obtain ⟨g1, g2, g3⟩ := hR.2.2.2.2.2.2.2 ic (by omega)
    obtain ⟨k1, k2, k3, k4⟩ := hI.2.2.2.2.2.2 ic (by omega)
    obtain ⟨uu, huu⟩ : ∃ uu : Nat, (S.2.2.1.1 ic).2.2.2.2.2.1 = uu := ⟨_, rfl⟩
    rw [huu] at g2 g3
    have hu20 : uu ≤ 20 := by rw [← huu]; exact k1.1.2.2
    have e62 : F 91 (2773 * (upd (upd x 0 0) 64 ((upd x 0 0) 64 - 1)) 64 + 132 : Int32).toNatClampNeg = nI uu := by rw [eqc, h_tn (by omega)]; exact g2
    have em : (132 * F 91 (2773 * (upd (upd x 0 0) 64 ((upd x 0 0) 64 - 1)) 64 + 132 : Int32).toNatClampNeg : Int32) = nI (132 * uu) := by
      rw [e62, Int32.mul_comm, Nat.mul_comm 132]
      exact pk_mul _ 132
    have hM1 : MX _ (upd (upd x 0 0) 64 ((upd x 0 0) 64 - 1)) y F G := hM0.p63 (sI_64 (v := (upd x 0 0) 64 - 1) (rfl : _ = M63l (upd x 0 0) y))
    have hk1 := hk0.u (k := 63) (e := .inl (12, M63l (upd (upd x 0 0) 64 ((upd x 0 0) 64 - 1)) y)) (by decide) (by decide)
    refine ⟨by decide, _, _, hM1.1, rfl, ?_⟩
    refine ⟨by decide, _, _, hM1.1, rfl, ?_⟩
    refine Or.inl ⟨rfl, _, 1, 0, 0, _, _, _, qi_12_533, ⟨rfl, rfl⟩, ⟨hM1.1, rfl⟩, rfl, rfl, (by rw [eq_]; exact M_takesFrom hg hM1 (a := 91) (sz := 8319) (b := 2773 * ic) hM1.c91 (by decide) (by decide) (by decide) (by omega) (by decide)), fun y39 h39 hy39 => ?_⟩
    obtain ⟨rfl, hM2, hk3⟩ := hy39
    have hk2 := hk1.tr hk3
    refine ⟨by decide, _, _, hM2.1, rfl, ?_⟩
    refine ⟨_, _, hM2.c91, (by rw [eqc]; exact vp_in_nI (n := 2773 * ic + 132) (N := 8319) (by omega) (by decide)), ?_⟩
    refine ⟨_, hM2.1, Nat.le_of_ble_eq_true rfl, rfl, ?_⟩
    have hM3 : MX _ (upd (upd (upd (upd (upd x 0 0) 64 ((upd x 0 0) 64 - 1)) 36 (F 91 (2773 * ic + 130))) 23 (F 91 (2773 * ic + 131))) 62 (F 91 (2773 * (upd (upd x 0 0) 64 ((upd x 0 0) 64 - 1)) 64 + 132 : Int32).toNatClampNeg)) y (fup (fup F 67 (cp (fun j => F 91 (2773 * ic + j)) (F 67) 100)) 78 (cp (fun j => F 91 (2773 * ic + 100 + j)) (F 78) 30)) G := hM2.p63 (sI_62 rfl)
    have loop : ∀ (m i : Nat) (hX : qH), i + m = 132 * uu → MX hX (upd (upd (upd (upd (upd x 0 0) 64 ((upd x 0 0) 64 - 1)) 36 (F 91 (2773 * ic + 130))) 23 (F 91 (2773 * ic + 131))) 62 (F 91 (2773 * (upd (upd x 0 0) 64 ((upd x 0 0) 64 - 1)) 64 + 132 : Int32).toNatClampNeg)) y (fup (fup (fup F 67 (cp (fun j => F 91 (2773 * ic + j)) (F 67) 100)) 78 (cp (fun j => F 91 (2773 * ic + 100 + j)) (F 78) 30)) 90 (cp (fun j => F 91 (2773 * ic + 133 + j)) (F 90) i)) G → kp h hX → run 58 [(2, .int (nI i)), (1, .int (2773 * (upd (upd x 0 0) 64 ((upd x 0 0) 64 - 1)) 64)), (0, .ref 63)] [] hX 0 0 := by
      intro m
      induction m with
      | zero =>
        intro i hX hi hMX hkX
        refine step.1 _ _ _ _ _ _ _ sgX12_restore_58_ok ?_
        refine ⟨by decide, _, _, hMX.1, rfl, ?_⟩
        refine ⟨fun c67 => ?_, fun c67 => absurd (show (132 * F 91 (2773 * (upd (upd x 0 0) 64 ((upd x 0 0) 64 - 1)) 64 + 132 : Int32).toNatClampNeg : Int32) ≤ nI i from by rw [em]; exact nI_le (by omega) (by omega)) c67⟩
        
        refine step.1 _ _ _ _ _ _ _ sgX12_restore_96_ok ?_
        refine ⟨by decide, _, _, hMX.1, rfl, ?_⟩
        refine ⟨.int, rfl, rfl, Nat.le_refl _, Nat.le_refl _, ?_⟩
        show if S.2.2.1.2 = 0 then _ else _
        rw [if_neg d9, hic, Nat.add_sub_cancel]
        have hX3 := hMX
        rw [show i = 132 * uu by omega] at hX3
        refine ⟨congrArg (fun z => some (Value.int z)) e641, _, _, _, _, hX3, hkX, ?_, rfl⟩
        refine (hR0.less hic e641).back (R' := rcpy (S.2.2.1.1 ic) S.2.1) (Z := F 91) (b := 2773 * ic) (fun k hk => ?_) rfl rfl (e62.trans (by rw [← huu]; rfl)) k2 k3 k4 (k1.cp _) (mrow_c g1 k1 (fun j hj => rfl) (RA.cp _ _ (Nat.le_refl 20))) (fun j hj => ?_) rfl rfl ?_
        · simp at hk
          exact (upd_n hk.2.2).trans ((upd_n hk.1).trans (upd_n hk.2.1))
        · simp at hj
          rw [fup_n hj.2.2, fup_n hj.2.1, fup_n hj.1]
        · show mch (cp (fun j => F 91 (2773 * ic + 133 + j)) (F 90) (132 * uu)) 0 (S.2.2.1.1 ic).2.2.2.2.2.1 (rcpy (S.2.2.1.1 ic) S.2.1)
          rw [huu]
          refine mch_c uu (S.2.2.1.1 ic) _ k1 g3 (fun j hj => ?_) (RA.cp _ _ hu20)
          rw [Nat.zero_add]
          exact if_pos hj
      | succ m ih =>
        intro i hX hi hMX hkX
        refine step.1 _ _ _ _ _ _ _ sgX12_restore_58_ok ?_
        refine ⟨by decide, _, _, hMX.1, rfl, ?_⟩
        refine ⟨fun c67 => absurd (show nI (132 * uu) ≤ nI i from by rw [← em]; exact c67) (h_nle (by omega) (by omega)), fun c67 => ?_⟩
        
        refine ⟨by decide, _, _, hMX.1, rfl, ?_⟩
        refine ⟨by decide, _, _, hMX.1, rfl, ?_⟩
        refine ⟨_, _, hMX.c91, (by rw [eqi]; exact vp_in_nI (n := 2773 * ic + 133 + i) (N := 8319) (by omega) (by decide)), ?_⟩
        refine ⟨_, _, hMX.c90, vp_in_nI (n := i) (N := 2640) (by omega) (by decide), ?_⟩
        have kk := fun hZ => ih (i + 1) hZ (by omega)
        rw [← nI_1 i] at kk
        refine kk _ (hMX.vkk (k := 90) (by decide) ?_ (fun j hj => qup_n hj)) (hkX.u (k := 90) (by decide) (by decide))
        show some (aI' 2640 (upd (cp (fun j => F 91 (2773 * ic + 133 + j)) (F 90) i) (nI i).toNatClampNeg (F 91 (2773 * (upd (upd x 0 0) 64 ((upd x 0 0) 64 - 1)) 64 + 132 + 1 + nI i : Int32).toNatClampNeg))) = some (aI' 2640 (cp (fun j => F 91 (2773 * ic + 133 + j)) (F 90) (i + 1)))
        rw [eqi, h_tn (by omega), h_tn (by omega)]
        exact congrArg (fun z => some (aI' 2640 z)) (cp_s (fun j => F 91 (2773 * ic + 133 + j)) (F 90) i)
    exact loop (132 * uu) 0 _ (by omega) (by rw [cp_0, show fup (fup (fup F 67 (cp (fun j => F 91 (2773 * ic + j)) (F 67) 100)) 78 (cp (fun j => F 91 (2773 * ic + 100 + j)) (F 78) 30)) 90 (F 90) = (fup (fup F 67 (cp (fun j => F 91 (2773 * ic + j)) (F 67) 100)) 78 (cp (fun j => F 91 (2773 * ic + 100 + j)) (F 78) 30)) from fup_self (F := (fup (fup F 67 (cp (fun j => F 91 (2773 * ic + j)) (F 67) 100)) 78 (cp (fun j => F 91 (2773 * ic + 100 + j)) (F 78) 30))) (k := 90)]; exact hM3) (hk2.u (k := 63) (by decide) (by decide))
  · have d9 : S.2.2.1.2 = 0 := (nI_eq (b := 0) (by omega) (by decide)).mp (by rw [← e64]; exact c9)
    refine ⟨.int, rfl, rfl, Nat.le_refl _, Nat.le_refl _, ?_⟩
    show if S.2.2.1.2 = 0 then _ else _
    rw [if_pos d9]
    exact ⟨rfl, _, _, _, _, hM0, hk0, hR0, rfl⟩
end Q12T
