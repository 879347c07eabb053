section Q10I
-- 0 door, 1 in, 2 hears, 3 rings, 4 light, 5 drive, 6 pies, 7 singer, 8 home, 9 solo, 10 start, 11 verse, 12 until, 13 verses, 14 pence, 15 joy, 16 place, 17 minute, 18 box, 19 told, 20 least, 21 most, 22 if, 23 first, 24 last
set_option maxHeartbeats 1000000 in
theorem M_people7 {g : qG} (hg : qOK g) {h : qH} (hJ : qJDK g) (hW : qMW g) {x : Nat → Int32} {y : Nat → Int64} (hM : h.2 63 = some (M63 x y)) {F : Nat → Int32} {n : Nat} {s : PS} (hT : mT x n s) (hB : mB h F) {D : Nat → Int32} {N : Nat} {Q : Nat → Int32} {M : Nat} {st ve cl : Int32} (hV : mV h x (D, N, Q, M, st, ve, cl)) (hN10 : N ≤ 10) (hM8 : M ≤ 8) (q : Nat) (hM7 : M < 8) : qSpec g 7 0 0 mX12_readPeople [.ref 63, .int (nI (wpk 7))] h (fun r h' => r = none ∧ mCl h h' x y n (pbody F n 7 q s D N Q M st ve cl)) := by
  refine qSpec_run 12 "readPeople" false hg mX12_readPeople_ok rfl rfl (Nat.le_of_ble_eq_true rfl) (by decide) ?_
  intro run step
  obtain ⟨nd, ns, hN, hQ, h14, h15, h16, h17, h18, hA, hA2⟩ := hV
  have hT := hT
  have h15 : x 15 = nI M := h15
  have e0 : (4 * x 15 : Int32) = nI (M * 4) := by rw [h15, Int32.mul_comm]; exact pk_mul M 4
  have ei : ∀ k : Nat, (4 * x 15 + nI k : Int32) = nI (M * 4 + k) := fun k => by rw [h15]; exact ixk (k := 4)
  have et : ∀ k : Nat, k < 4 → (4 * x 15 + nI k : Int32).toNatClampNeg = M * 4 + k := fun k hk => by rw [ei k, h_tn (n := M * 4 + k) (by omega)]
  refine step.1 _ _ _ _ _ _ _ sgX12_readPeople_0_ok ?_
  refine Or.inl ⟨rfl, 30, (hW.ld 7 (by decide)).choose, (hW.ld 7 (by decide)).choose_spec, ?_⟩
  refine Or.inl ⟨rfl, _, 5, 0, 0, _, Or.inl qi_12_210, ⟨rfl, rfl⟩, rfl, rfl, M_ofw hg hJ hW 7 (by decide), fun y3 h3 hy3 => ?_⟩
  obtain ⟨rfl, hh⟩ := hy3
  rw [hh]
  clear hh
  refine ⟨fun c6 => absurd rfl c6, fun c6 => ?_⟩
  
  refine ⟨by decide, _, _, hM, rfl, ?_⟩
  refine ⟨by decide, _, _, hM, rfl, ?_⟩
  refine Or.inl ⟨rfl, _, 2, 0, 0, _, _, _, qi_12_202, ⟨rfl, rfl⟩, ⟨hM, rfl⟩, rfl, rfl, M_num hg hM hT hB 0 (by decide : (99 : Int32) ≤ 9999), fun y25 h25 hy25 => ?_⟩
  obtain ⟨rfl, x1, hM1, hs1, hk1, hT1⟩ := hy25
  have hB1 := hB.sm hs1 (by decide)
  have hQ1 := (hs1.2 68 (by decide)).trans hQ
  refine ⟨_, _, hQ1, (by rw [e0]; exact vp_in_nI (n := M * 4) (N := 32) (by omega) (by decide)), ?_⟩
  have hM1a : (h25.1, qup h25.2 68 (aI' 32 (upd ns ((4 * x 15 : Int32).toNatClampNeg) (pnum F n 0 99 s).2))).2 63 = some (M63 x1 y) := hM1
  have hsa := (hs1.sub (by simp) : same h h25 [63, 68]).t2 (same.up (by simp) : same _ (h25.1, qup h25.2 68 (aI' 32 (upd ns ((4 * x 15 : Int32).toNatClampNeg) (pnum F n 0 99 s).2))) [68]) (by decide)
  have hB1a : mB (h25.1, qup h25.2 68 (aI' 32 (upd ns ((4 * x 15 : Int32).toNatClampNeg) (pnum F n 0 99 s).2))) F := hB1.sm (same.up (by simp) : same _ _ [68]) (by decide)
  have hQa : (h25.1, qup h25.2 68 (aI' 32 (upd ns ((4 * x 15 : Int32).toNatClampNeg) (pnum F n 0 99 s).2))).2 68 = some (aI' 32 (upd ns ((4 * x 15 : Int32).toNatClampNeg) (pnum F n 0 99 s).2)) := rfl
  refine ⟨by decide, _, _, hM1, rfl, ?_⟩
  refine Or.inl ⟨rfl, _, 2, 0, 0, _, _, _, qi_12_202, ⟨rfl, rfl⟩, ⟨hM1, rfl⟩, rfl, rfl, M_num hg hM1a hT1 hB1a 0 (by decide : (3 : Int32) ≤ 9999), fun y39 h39 hy39 => ?_⟩
  obtain ⟨rfl, x2, hM2, hs2, hk2, hT2⟩ := hy39
  have hQ2 := (hs2.2 68 (by decide)).trans hQa
  refine ⟨_, _, hQ2, (by have e9 : (4 * x 15 + 1 : Int32) = nI (M * 4 + 1) := ei 1; rw [e9]; exact vp_in_nI (n := M * 4 + 1) (N := 32) (by omega) (by decide)), ?_⟩
  refine ⟨by decide, _, _, hM2, rfl, ?_⟩
  refine ⟨_, _, rfl, (by have e9 : (4 * x 15 + 2 : Int32) = nI (M * 4 + 2) := ei 2; rw [e9]; exact vp_in_nI (n := M * 4 + 2) (N := 32) (by omega) (by decide)), ?_⟩
  refine ⟨by decide, _, _, hM2, rfl, ?_⟩
  refine ⟨_, _, rfl, (by have e9 : (4 * x 15 + 3 : Int32) = nI (M * 4 + 3) := ei 3; rw [e9]; exact vp_in_nI (n := M * 4 + 3) (N := 32) (by omega) (by decide)), ?_⟩
  refine ⟨rfl, ?_⟩
  refine ⟨by decide, _, _, hM2, rfl, ?_⟩
  refine ⟨_, hM2, Nat.le_of_ble_eq_true rfl, rfl, ?_⟩
  refine step.1 _ _ _ _ _ _ _ sgX12_readPeople_219_ok ?_
  refine ⟨rfl, Nat.le_refl _, Nat.le_refl _, ?_⟩
  have e15 : x2 15 = x 15 := (hk2 15 (by decide)).trans (hk1 15 (by decide))
  have en : (x2 15 + 1 : Int32) = nI (M + 1) := by rw [e15, h15]; exact nI_1 M
  have hsb := hsa.t2 hs2 (by decide)
  have e0' : ps0 M q s = s := if_neg (by omega)
  have eS : (psingS F n M q s) = pnumS F n 0 3 (pnumS F n 0 99 s) := by rw [psingS, e0']
  have eQ : psingQ F n M q s Q = asing Q M (pnum F n 0 99 s).2 (pnum F n 0 3 (pnumS F n 0 99 s)).2 := by rw [psingQ, e0']
  have hQ9 : some (aI' 32 (upd (upd (upd (upd ns ((4 * x 15 : Int32).toNatClampNeg) (pnum F n 0 99 s).2) ((4 * x 15 + 1 : Int32).toNatClampNeg) (pnum F n 0 3 (pnumS F n 0 99 s)).2) ((4 * x 15 + 2 : Int32).toNatClampNeg) (-1)) ((4 * x 15 + 3 : Int32).toNatClampNeg) 0)) = some (aI' 32 (asing ns M (pnum F n 0 99 s).2 (pnum F n 0 3 (pnumS F n 0 99 s)).2)) := by
    rw [asing, show (4 * x 15 : Int32).toNatClampNeg = M * 4 + 0 from (by rw [e0, h_tn (n := M * 4) (by omega)]; rfl), show (4 * x 15 + 1 : Int32).toNatClampNeg = M * 4 + 1 from et 1 (by decide), show (4 * x 15 + 2 : Int32).toNatClampNeg = M * 4 + 2 from et 2 (by decide), show (4 * x 15 + 3 : Int32).toNatClampNeg = M * 4 + 3 from et 3 (by decide)]
  refine ⟨rfl, upd x2 15 (nI (M + 1)), ?_, ⟨hsb.1, fun j hj => by
    have h63 : ¬ j = 63 := fun e => hj (e ▸ by simp)
    have h68 : ¬ j = 68 := fun e => hj (e ▸ by simp)
    simp only [qup, if_neg h63, if_neg h68]
    exact hsb.2 j (by simp; omega)⟩, fun k hk => (upd_n (by simp at hk; omega)).trans ((hk2 k (by simp at hk ⊢; omega)).trans (hk1 k (by simp at hk ⊢; omega))), ?_, ⟨⟨_, (hsb.2 66 (by decide)).trans hN⟩, _, hQ9⟩, fun hb => ?_⟩
  · exact Eq.trans (b := some (M63 (upd x2 15 (x2 15 + 1)) y)) rfl (congrArg (fun z => some (M63 (upd x2 15 z) y)) en)
  · show mT _ n (psingS F n M q s)
    rw [eS]
    exact hT2.upk (by decide) _
  have hb : pbad (psingS F n M q s) = false := hb
  refine ⟨nd, _, (hsb.2 66 (by decide)).trans hN, hQ9, ?_, ?_, ?_, ?_, ?_, hA, ?_⟩
  · exact ((hk2 14 (by decide)).trans (hk1 14 (by decide))).trans h14
  · show nI (M + 1) = nI (if pbad (psingS F n M q s) = true then M else M + 1)
    rw [if_neg (by rw [hb]; decide)]
  · exact ((hk2 16 (by decide)).trans (hk1 16 (by decide))).trans h16
  · exact ((hk2 17 (by decide)).trans (hk1 17 (by decide))).trans h17
  · exact ((hk2 18 (by decide)).trans (hk1 18 (by decide))).trans h18
  show ag ((if pbad (psingS F n M q s) = true then M else M + 1) * 4) _ (if pbad (psingS F n M q s) = true then Q else psingQ F n M q s Q)
  rw [if_neg (by rw [hb]; decide), if_neg (by rw [hb]; decide), eQ]
  exact asing_ag hA2 _ _
end Q10I
