section Q12D
set_option maxHeartbeats 1000000 in
theorem M_singsOn {g : qG} (hg : qOK g) {h : qH} {x : Nat → Int32} {y : Nat → Int64} {F : Nat → Nat → Int32} {G : Nat → Nat → Int64} (hM : MX h x y F G) {S : CS} (hR : Rel S x F) {pf vf rf : Nat → Nat} (hP : isP S.2.1.2.1 S.2.1.2.2.2.2.1 pf vf rf) (hI : ROK S.2.1) (hpn : ∀ i : Nat, i < S.2.1.2.2.2.2.1 → pf i < S.2.1.2.2.2.1) (hl : lwf S.2.2.2.2.1.1) (hl2 : lwf S.2.2.2.2.1.2) {l v : Nat} (hll : l < S.2.1.2.2.2.2.1) (hv : v ≤ 5) {e : Nat → Int32} (hN : NE e x (F 89)) : qSpec g 3 0 0 mX12_singsOn [.ref 63, .int (nI l), .int (nI v)] h (fun r h' => r = some (.int (qb (if S.2.2.2.2.1.2.2.2 = 0 then decide (nI v < nI (vf l)) else if v = 5 then false else decide (0 < lworth S.2.2.2.2.1.2.1 S.2.2.2.2.1.2.2.1 (vnm S.2.1.1 (nI S.2.2.2.1.2) (pf l) (nI v) (nI l) (e 6) (e 4) (nI (vf l))) 0 S.2.2.2.2.1.2.2.2 0 (fun _ => 0))))) ∧ QF h h' x y F G) := by
  refine qSpec_run 12 "singsOn" false hg mX12_singsOn_ok rfl rfl (Nat.le_of_ble_eq_true rfl) (by decide) ?_
  intro run step
  have hk := hI.1.2.1
  have hn := hI.1.1
  have hpl := hpn l hll
  have j0 : (3 * nI l : Int32) = nI (l * 3 + 0) := by rw [Int32.mul_comm]; exact pk_mul l 3
  have f0 : F 78 (3 * nI l : Int32).toNatClampNeg = nI (pf l) := by rw [j0, h_tn (n := l * 3 + 0) (by omega)]; exact (hR.2.2.1.2.2 (l * 3 + 0) (by omega)).trans (hP l hll).1.1
  have j1 : (3 * nI l + 1 : Int32) = nI (l * 3 + 1) := ixk (k := 3) (w := 1)
  have f1 : F 78 (3 * nI l + 1 : Int32).toNatClampNeg = nI (vf l) := by rw [j1, h_tn (n := l * 3 + 1) (by omega)]; exact (hR.2.2.1.2.2 (l * 3 + 1) (by omega)).trans (hP l hll).2.1.1
  obtain ⟨n0, n1, n2, n3, n4, n5, n6, n7⟩ := hN
  obtain ⟨hN2, hK2, hV2⟩ := hR.2.2.2.1.2
  have hz : F 74 1 = 0 ↔ S.2.2.2.2.1.2.2.2 = 0 := by
    rw [hN2]
    exact nI_eq (b := 0) (by have := hl2.1; omega) (by decide)
  refine step.1 _ _ _ _ _ _ _ sgX12_singsOn_0_ok ?_
  refine ⟨by decide, _, _, hM.1, rfl, ?_⟩
  refine ⟨_, _, hM.c78, (by rw [j1]; exact vp_in_nI (n := l * 3 + 1) (N := 30) (by omega) (by decide)), ?_⟩
  refine ⟨by decide, _, _, hM.1, rfl, ?_⟩
  refine ⟨_, _, hM.c74, (vp_in_nI (n := 1) (N := 2) (by decide) (by decide) : vp_in (nI 1) 2), ?_⟩
  refine ⟨fun c17 => ?_, fun c17 => ?_⟩
  · have c17 : ¬ S.2.2.2.2.1.2.2.2 = 0 := fun q => c17 (hz.mpr q)
    refine step.1 _ _ _ _ _ _ _ sgX12_singsOn_31_ok ?_
    refine ⟨fun c33 => ?_, fun c33 => ?_⟩
    · have d33 : ¬ v = 5 := fun q => c33 (by rw [q]; rfl)
      refine step.1 _ _ _ _ _ _ _ sgX12_singsOn_38_ok ?_
      refine ⟨by decide, _, _, hM.1, rfl, ?_⟩
      refine ⟨_, _, hM.c78, (by rw [j0]; exact vp_in_nI (n := l * 3 + 0) (N := 30) (by omega) (by decide)), ?_⟩
      refine Or.inl ⟨rfl, _, 1, 0, 0, _, _, _, qi_12_332, ⟨rfl, rfl⟩, ⟨hM.1, rfl⟩, rfl, rfl, (by rw [f0]; exact M_findFacts hg hM hR hpl hn (nI v) (nI l)), fun y49 h49 hy49 => ?_⟩
      obtain ⟨rfl, w1, hM2, hk2, hw⟩ := hy49
      refine ⟨by decide, _, _, hM2.1, rfl, ?_⟩
      refine ⟨by decide, _, _, hM2.1, rfl, ?_⟩
      refine ⟨_, _, hM2.c89, (vp_in_nI (n := 2) (N := 7) (by decide) (by decide) : vp_in (nI 2) 7), ?_⟩
      refine ⟨_, _, hM2.c76, (vp_in_nI (n := 7) (N := 10) (by decide) (by decide) : vp_in (nI 7) 10), ?_⟩
      refine ⟨by decide, _, _, hM2.1, rfl, ?_⟩
      refine ⟨by decide, _, _, hM2.1, rfl, ?_⟩
      refine ⟨_, _, hM2.c89, (vp_in_nI (n := 0) (N := 7) (by decide) (by decide) : vp_in (nI 0) 7), ?_⟩
      refine ⟨_, _, rfl, (vp_in_nI (n := 8) (N := 10) (by decide) (by decide) : vp_in (nI 8) 10), ?_⟩
      refine ⟨by decide, _, _, hM2.1, rfl, ?_⟩
      refine ⟨_, _, rfl, (vp_in_nI (n := 9) (N := 10) (by decide) (by decide) : vp_in (nI 9) 10), ?_⟩
      have hM3 : MX _ x y (fup (fup F 76 w1) 76 (upd (upd (upd w1 7 (F 89 2)) 8 (F 89 0)) 9 (F 78 (3 * nI l + 1 : Int32).toNatClampNeg))) G := hM2.v76 (n := h49.1) (f := qup (qup (qup h49.2 76 (aI' 10 (upd w1 7 (F 89 2)))) 76 (aI' 10 (upd (upd w1 7 (F 89 2)) 8 (F 89 0)))) 76 (aI' 10 (upd (upd (upd w1 7 (F 89 2)) 8 (F 89 0)) 9 (F 78 (3 * nI l + 1 : Int32).toNatClampNeg)))) rfl (fun j hj => by simp only [qup, if_neg hj])
      have hw' : ∀ j : Nat, j < 10 → (upd (upd (upd w1 7 (F 89 2)) 8 (F 89 0)) 9 (F 78 (3 * nI l + 1 : Int32).toNatClampNeg)) j = (vnm S.2.1.1 (nI S.2.2.2.1.2) (pf l) (nI v) (nI l) (e 6) (e 4) (nI (vf l))) j := by
        intro j hj
        rcases (show j = 0 ∨ j = 1 ∨ j = 2 ∨ j = 3 ∨ j = 4 ∨ j = 5 ∨ j = 6 ∨ j = 7 ∨ j = 8 ∨ j = 9 by omega) with rfl | rfl | rfl | rfl | rfl | rfl | rfl | rfl | rfl | rfl
        · exact hw 0 (by decide)
        · exact hw 1 (by decide)
        · exact hw 2 (by decide)
        · exact hw 3 (by decide)
        · exact hw 4 (by decide)
        · exact hw 5 (by decide)
        · exact hw 6 (by decide)
        · exact n3
        · exact n1
        · exact f1
      refine Or.inl ⟨rfl, _, 2, 0, 0, _, _, _, qi_12_336, ⟨rfl, rfl⟩, ⟨hM3.1, rfl⟩, rfl, rfl, (by
        have hM3' := hM3
        exact M_valueOf hg hM3 (w := 1) (N := S.2.2.2.2.1.2.2.2) (K := S.2.2.2.2.1.2.1) (V := S.2.2.2.2.1.2.2.1) (nm := (vnm S.2.1.1 (nI S.2.2.2.1.2) (pf l) (nI v) (nI l) (e 6) (e 4) (nI (vf l)))) (by decide) hN2 hl2.1 (fun j hj => by rw [Nat.one_mul]; exact hK2 j hj) (fun j hj => by rw [Nat.one_mul]; exact hV2 j hj) (fun j hj => hw' j hj) (hl2.2 c17)), fun y88 h88 hy88 => ?_⟩
      obtain ⟨rfl, S1, hh⟩ := hy88
      have hQF : QF h h88 x y F G := by
        rw [hh]
        refine ⟨_, hM3.u75 S1, fun j hj => by
          simp at hj
          rw [fup_n hj.1, fup_n hj.2, fup_n hj.2], (hk2.v (k := 76) rfl (by decide) (by decide) (fun j hj => by simp only [qup, if_neg hj])).u (by decide) (by decide)⟩
      clear hh
      obtain ⟨w2, hw1⟩ : ∃ w2 : Int32, lworth S.2.2.2.2.1.2.1 S.2.2.2.2.1.2.2.1 (vnm S.2.1.1 (nI S.2.2.2.1.2) (pf l) (nI v) (nI l) (e 6) (e 4) (nI (vf l))) 0 S.2.2.2.2.1.2.2.2 0 (fun _ => 0) = w2 := ⟨_, rfl⟩
      have hlc : ∀ Z : Nat → Int32, lworth S.2.2.2.2.1.2.1 S.2.2.2.2.1.2.2.1 (vnm S.2.1.1 (nI S.2.2.2.1.2) (pf l) (nI v) (nI l) (e 6) (e 4) (nI (vf l))) 0 S.2.2.2.2.1.2.2.2 0 Z = w2 := fun Z => (lworth_congr (fun _ _ => rfl) S.2.2.2.2.1.2.2.2 0 0 Z (fun _ => 0) (hl2.2 c17) (fun j hj => absurd hj (Nat.not_lt_zero j))).trans hw1
      refine ⟨fun c91 => ?_, fun c91 => ?_⟩
      · have d91 : decide (0 < w2) = false := decide_eq_false (Int32.not_lt.mpr (by have q := c91; rw [hlc] at q; exact q))
        refine step.1 _ _ _ _ _ _ _ sgX12_singsOn_98_ok ?_
        refine step.1 _ _ _ _ _ _ _ sgX12_singsOn_99_ok ?_
        refine ⟨.boolean, rfl, rfl, Nat.le_refl _, Nat.le_refl _, ?_⟩
        exact ⟨congrArg (fun z => some (Value.int z)) (by rw [if_neg c17, if_neg d33, hw1, d91]; rfl), hQF⟩
      · have d91 : decide (0 < w2) = true := decide_eq_true (Int32.not_le.mp (by have q := c91; rw [hlc] at q; exact q))
        refine step.1 _ _ _ _ _ _ _ sgX12_singsOn_99_ok ?_
        refine ⟨.boolean, rfl, rfl, Nat.le_refl _, Nat.le_refl _, ?_⟩
        exact ⟨congrArg (fun z => some (Value.int z)) (by rw [if_neg c17, if_neg d33, hw1, d91]; rfl), hQF⟩
    · have d33 : v = 5 := (nI_eq (b := 5) (by omega) (by decide)).mp c33
      refine ⟨.boolean, rfl, rfl, Nat.le_refl _, Nat.le_refl _, ?_⟩
      exact ⟨congrArg (fun z => some (Value.int z)) (by rw [if_neg c17, if_pos d33]; rfl), QF.rf hM⟩
  · have c17 : S.2.2.2.2.1.2.2.2 = 0 := hz.mp c17
    refine ⟨fun c22 => ?_, fun c22 => ?_⟩
    · have d22 : decide (nI v < nI (vf l)) = false := decide_eq_false (Int32.not_lt.mpr (by rw [← f1]; exact c22))
      refine step.1 _ _ _ _ _ _ _ sgX12_singsOn_29_ok ?_
      refine step.1 _ _ _ _ _ _ _ sgX12_singsOn_30_ok ?_
      refine ⟨.boolean, rfl, rfl, Nat.le_refl _, Nat.le_refl _, ?_⟩
      exact ⟨congrArg (fun z => some (Value.int z)) (by rw [if_pos c17, d22]; rfl), QF.rf hM⟩
    · have d22 : decide (nI v < nI (vf l)) = true := decide_eq_true (Int32.not_le.mp (fun q => c22 (by rw [f1]; exact q)))
      refine step.1 _ _ _ _ _ _ _ sgX12_singsOn_30_ok ?_
      refine ⟨.boolean, rfl, rfl, Nat.le_refl _, Nat.le_refl _, ?_⟩
      exact ⟨congrArg (fun z => some (Value.int z)) (by rw [if_pos c17, d22]; rfl), QF.rf hM⟩
end Q12D
