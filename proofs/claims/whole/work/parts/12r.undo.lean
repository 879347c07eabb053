section Q12R
/-- a change taken back -/
theorem Rel.back {S : CS} {x x' : Nat → Int32} {F F' : Nat → Nat → Int32} (hR : Rel S x F) {R' : RT} {Z : Nat → Int32} {b : Nat}
    (hx : ∀ k : Nat, k ∉ [23, 36, 62] → x' k = x k) (h36 : x' 36 = Z (b + 130)) (h23 : x' 23 = Z (b + 131)) (h62 : x' 62 = nI R'.2.2.2.2.2.1)
    (hn : R'.2.2.2.1 = S.2.1.2.2.2.1) (hst : R'.2.2.2.2.2.2.1 = S.2.1.2.2.2.2.2.2.1) (hve : R'.2.2.2.2.2.2.2.1 = S.2.1.2.2.2.2.2.2.2.1) (hk : ROK R') (hm : mrow Z b R')
    (hF : ∀ j : Nat, j ∉ [67, 78, 90] → F' j = F j) (h67 : F' 67 = cp (fun j => Z (b + j)) (F 67) 100) (h78 : F' 78 = cp (fun j => Z (b + 100 + j)) (F 78) 30)
    (hc : mch (F' 90) 0 R'.2.2.2.2.2.1 R') : Rel (S.1, R', S.2.2) x' F' := by
  obtain ⟨⟨h2, h8, h19, h20, h21, h22, h23', h36', h37, h62', h64⟩, hbt, ⟨hd, hcs, hp⟩, hl, hy, hr, hmm, hi⟩ := hR
  obtain ⟨m1, m2, m3, m4⟩ := hm
  have e := fun k hk => hx k hk
  have f := fun k hk => hF k hk
  have a1 := hk.1.1
  have a2 := hk.1.2.1
  unfold Rel
  rw [e 2 (by decide), e 8 (by decide), e 19 (by decide), e 20 (by decide), e 21 (by decide), e 22 (by decide), e 37 (by decide), e 64 (by decide), f 64 (by decide), f 65 (by decide), f 69 (by decide), f 72 (by decide), f 73 (by decide), f 74 (by decide), f 80 (by decide), f 91 (by decide), h23, h36, h62]
  rw [show (S.1, R', S.2.2).2.1 = R' from rfl, show (S.1, R', S.2.2).2.2 = S.2.2 from rfl, show (S.1, R', S.2.2).1 = S.1 from rfl, hst, hve, hn]
  refine ⟨⟨h2, h8, h19, h20, h21, h22, m4, m3, h37, rfl, h64⟩, hbt, ⟨fun j hj => ?_, hcs, fun j hj => ?_⟩, hl, hy, hr, hc, hi⟩
  · rw [h67]
    exact (if_pos (by omega)).trans (m1 j (by rw [hn]; exact hj))
  · rw [h78]
    exact (if_pos (by omega)).trans (m2 j hj)
theorem rbk_s {R R1 : RT} {u : Nat} (h : rbk R u R1) : R1.2.2.2.2.2.2.1 = R.2.2.2.2.2.2.1 ∧ R1.2.2.2.2.2.2.2.1 = R.2.2.2.2.2.2.2.1 := by
  rcases h with ⟨h0, x, f, h1, h2, h3, h4, rfl⟩ | ⟨h0, x, h1, h3, rfl⟩ | ⟨h0, x, z, h1, h2, h3, h4, rfl⟩ | ⟨h0, x, h1, h2, h3, rfl⟩ | ⟨h0, rfl⟩ <;> exact ⟨rfl, rfl⟩
theorem M_undo {g : qG} (hg : qOK g) {h : qH} {x : Nat → Int32} {y : Nat → Int64} {F : Nat → Nat → Int32} {G : Nat → Nat → Int64} (hM : MX h x y F G) {S : CS} (hR : Rel S x F) (hI : ROK S.2.1) : qSpec g 3 0 0 mX12_undo [.ref 63] h (fun r h' => (if S.2.1.2.2.2.2.2.1 = 0 then r = some (.int (-1)) ∧ MG h h' S else ∃ R' : RT, rbk S.2.1 (S.2.1.2.2.2.2.2.1 - 1) R' ∧ ROK R' ∧ r = some (.int (nI (S.2.1.2.2.2.2.2.1 - 1))) ∧ MG h h' (S.1, R', S.2.2))) := by
  refine qSpec_run 12 "undo" false hg mX12_undo_ok rfl rfl (Nat.le_of_ble_eq_true rfl) (by decide) ?_
  intro run step
  have hu20 := hI.1.2.2
  refine step.1 _ _ _ _ _ _ _ sgX12_undo_0_ok ?_
  refine ⟨_, hM.1, Nat.le_of_ble_eq_true rfl, rfl, ?_⟩
  have hM0 := hM.p63 (sI_0 (v := 0) (rfl : _ = M63l x y))
  have hR0 : Rel S (upd x 0 0) F := hR.t 0
  have hk0 := kp.rf (h := h) |>.u (k := 63) (e := .inl (12, (M63l x y).set 0 (.int 0))) (by decide) (by decide)
  refine ⟨by decide, _, _, hM0.1, rfl, ?_⟩
  refine ⟨fun c9 => ?_, fun c9 => ?_⟩
  · have d9 : ¬ S.2.1.2.2.2.2.2.1 = 0 := fun q => c9 (by show x 62 = 0; rw [show x 62 = nI S.2.1.2.2.2.2.2.1 from (hR.1.2.2.2.2.2.2.2.2.2.1), q]; rfl)
    refine step.1 _ _ _ _ _ _ _ sgX12_undo_14_ok ?_
    refine ⟨rfl, ?_⟩
    refine ⟨by decide, _, _, hM0.1, rfl, ?_⟩
    refine ⟨_, hM0.1, Nat.le_of_ble_eq_true rfl, rfl, ?_⟩
    have hM1 : MX _ (upd (upd x 0 0) 62 ((upd x 0 0) 62 - 1)) y F G := hM0.p63 (sI_62 (v := (upd x 0 0) 62 - 1) (rfl : _ = M63l (upd x 0 0) y))
    obtain ⟨u, hu⟩ : ∃ u : Nat, S.2.1.2.2.2.2.2.1 = u + 1 := ⟨S.2.1.2.2.2.2.2.1 - 1, by omega⟩
    have hu20 := hI.1.2.2
    have e62 : ((upd (upd x 0 0) 62 ((upd x 0 0) 62 - 1)) 62 : Int32) = nI u := by
      show (x 62 - 1 : Int32) = nI u
      have q : x 62 = nI S.2.1.2.2.2.2.2.1 := (hR.1.2.2.2.2.2.2.2.2.2.1)
      rw [q, nI_pr (by omega), hu, Nat.add_sub_cancel]
    have e132 : (132 * (upd (upd x 0 0) 62 ((upd x 0 0) 62 - 1)) 62 : Int32) = nI (132 * u) := by
      rw [e62, Int32.mul_comm, Nat.mul_comm 132 u]
      exact pk_mul u 132
    have hmc := hR.2.2.2.2.2.2.1
    rw [hu] at hmc
    obtain ⟨R1, hb, hk, hm, hc⟩ := hmc
    rw [Nat.zero_add] at hm
    refine ⟨by decide, _, _, hM1.1, rfl, ?_⟩
    refine ⟨by decide, _, _, hM1.1, rfl, ?_⟩
    refine Or.inl ⟨rfl, _, 1, 0, 0, _, _, _, qi_12_533, ⟨rfl, rfl⟩, ⟨hM1.1, rfl⟩, rfl, rfl, (by rw [e132]; exact M_takesFrom hg hM1 (a := 90) (sz := 2640) (b := 132 * u) hM1.c90 (by decide) (by decide) (by decide) (by omega) (by decide)), fun y37 h37 hy37 => ?_⟩
    obtain ⟨rfl, hM2, hk3⟩ := hy37
    have hk2 := (hk0.u (k := 63) (e := .inl (12, M63l (upd (upd x 0 0) 62 ((upd x 0 0) 62 - 1)) y)) (by decide) (by decide)).tr hk3
    refine ⟨by decide, _, _, hM2.1, rfl, ?_⟩
    refine ⟨.int, rfl, rfl, Nat.le_refl _, Nat.le_refl _, ?_⟩
    show if S.2.1.2.2.2.2.2.1 = 0 then _ else _
    rw [if_neg d9, hu, Nat.add_sub_cancel]
    refine ⟨R1, hb, hk, congrArg (fun z => some (Value.int z)) e62, _, _, _, _, hM2, hk2, ?_, rfl⟩
    exact hR0.back (Z := F 90) (b := 132 * u) (fun k hk => by
      simp at hk
      exact (upd_n hk.1).trans ((upd_n hk.2.1).trans (upd_n hk.2.2))) rfl rfl (e62.trans (by rw [rbk_u hb])) (rbk_k hb).2 (rbk_s hb).1 (rbk_s hb).2 hk hm (fun j hj => by
      simp at hj
      rw [fup_n hj.2.1, fup_n hj.1]) rfl rfl (by rw [rbk_u hb]; exact hc)
  · have d9 : S.2.1.2.2.2.2.2.1 = 0 := (nI_eq (b := 0) (by omega) (by decide)).mp (by rw [← show x 62 = nI S.2.1.2.2.2.2.2.1 from (hR.1.2.2.2.2.2.2.2.2.2.1)]; exact c9)
    refine ⟨.int, rfl, rfl, Nat.le_refl _, Nat.le_refl _, ?_⟩
    show if S.2.1.2.2.2.2.2.1 = 0 then _ else _
    rw [if_pos d9]
    exact ⟨rfl, _, _, _, _, hM0, hk0, hR0, rfl⟩
end Q12R
