section Q12N
set_option maxHeartbeats 1000000 in
theorem M_change {g : qG} (hg : qOK g) {h : qH} {x : Nat → Int32} {y : Nat → Int64} {F : Nat → Nat → Int32} {G : Nat → Nat → Int64} (hM : MX h x y F G) {S : CS} (hR : Rel S x F) (hI : ROK S.2.1) (dr wh v : Int32) : qSpec g 3 0 0 mX12_change [.ref 63, .int dr, .int wh, .int v] h (fun r h' => ((wi 0 (nI S.2.1.2.2.2.1 - 1) dr = true) ∧ (wi 1 9 wh = true ∧ wi 0 (nI (fmost wh.toNatClampNeg)) v = true) ∧ (∃ xx yy : Nat, xx < S.2.1.2.2.2.1 ∧ 1 ≤ yy ∧ yy ≤ 9 ∧ dr = nI xx ∧ wh = nI yy ∧ wi 0 (nI (fmost yy)) v = true ∧ (if S.2.1.2.2.2.2.2.1 = 20 then r = some (.int (-1)) ∧ MG h h' S else r = some (.int (S.2.1.1 (xx * 10 + yy))) ∧ MG h h' (S.1, (upd S.2.1.1 (xx * 10 + yy) v, S.2.1.2.1, unote S.2.1.2.2.1 S.2.1.2.2.2.2.2.1 0 (nI xx) (nI yy) (S.2.1.1 (xx * 10 + yy)) 0, S.2.1.2.2.2.1, S.2.1.2.2.2.2.1, S.2.1.2.2.2.2.2.1 + 1, S.2.1.2.2.2.2.2.2.1, S.2.1.2.2.2.2.2.2.2.1, S.2.1.2.2.2.2.2.2.2.2), S.2.2)))) ∨ ∃ (k : Nat) (c : Int32), ((k = 0 ∧ c = 1 ∧ ¬ (wi 0 (nI S.2.1.2.2.2.1 - 1) dr = true)) ∨ (k = 1 ∧ c = 2 ∧ (wi 0 (nI S.2.1.2.2.2.1 - 1) dr = true) ∧ ¬ (wi 1 9 wh = true ∧ wi 0 (nI (fmost wh.toNatClampNeg)) v = true))) ∧ (∃ z, r = some (.int z)) ∧ mbad h h' S k c) := by
  refine qSpec_run 12 "change" false hg mX12_change_ok rfl rfl (Nat.le_of_ble_eq_true rfl) (by decide) ?_
  intro run step
  refine step.1 _ _ _ _ _ _ _ sgX12_change_0_ok ?_
  refine ⟨_, hM.1, Nat.le_of_ble_eq_true rfl, rfl, ?_⟩
  have hM0 := hM.p63 (sI_0 (v := 0) (rfl : _ = M63l x y))
  have hR0 : Rel S (upd x 0 0) F := hR.t 0
  have hk0 := kp.rf (h := h) |>.u (k := 63) (e := .inl (12, (M63l x y).set 0 (.int 0))) (by decide) (by decide)
  refine Or.inl ⟨rfl, _, 2, 0, 0, _, _, _, qi_12_343, ⟨rfl, rfl⟩, ⟨hM0.1, rfl⟩, rfl, rfl, M_isDoorU hg hM0 hR0 rfl _ 1 (by decide), fun y8 h8 hy8 => ?_⟩
  rcases hy8 with ⟨hD0, rfl, hb⟩ | ⟨hD0, rfl, hh⟩
  · refine ⟨fun _ => ?_, fun c11 => absurd c11 (by decide)⟩
    refine step.1 _ _ _ _ _ _ _ sgX12_change_50_ok ?_
    refine ⟨.int, rfl, rfl, Nat.le_refl _, Nat.le_refl _, ?_⟩
    exact Or.inr ⟨0, 1, (Or.inl (⟨rfl, rfl, (by rw [hD0]; decide)⟩)), ⟨_, rfl⟩, mbad.l hk0 hb⟩
  · rw [hh]
    clear hh
    refine ⟨fun c11 => absurd c11 (by decide), fun _ => ?_⟩
    refine Or.inl ⟨rfl, _, 1, 0, 0, _, Or.inl qi_12_324, ⟨rfl, rfl⟩, rfl, rfl, M_within hg _ _ _, fun y19 h19 hy19 => ?_⟩
    obtain ⟨rfl, hh⟩ := hy19
    rw [hh]
    clear hh
    refine ⟨fun c22 => ?_, fun c22 => ?_⟩
    · have w2 : (wi 1 9 wh) = false := qb_0.mp c22
      refine step.1 _ _ _ _ _ _ _ sgX12_change_41_ok ?_
      refine step.1 _ _ _ _ _ _ _ sgX12_change_42_ok ?_
      refine Or.inl ⟨rfl, _, 1, 0, 0, _, _, _, qi_12_247, ⟨rfl, rfl⟩, ⟨hM0.1, rfl⟩, rfl, rfl, M_mayB hg hM0 hR0 rfl 2 (by decide) 1 (by decide), fun y44 h44 hy44 => ?_⟩
      obtain ⟨rfl, hb⟩ := hy44
      refine ⟨fun c47 => absurd c47 (by decide), fun _ => ?_⟩
      refine step.1 _ _ _ _ _ _ _ sgX12_change_50_ok ?_
      refine ⟨.int, rfl, rfl, Nat.le_refl _, Nat.le_refl _, ?_⟩
      exact Or.inr ⟨1, 2, (Or.inr (⟨rfl, rfl, hD0, (fun z => absurd (z.1) (by rw [w2]; decide))⟩)), ⟨_, rfl⟩, mbad.l hk0 hb⟩
    · have w2 : (wi 1 9 wh) = true := qb_1.mp c22
      obtain ⟨yy, hy1, hy9, ewh⟩ := wi1_nat (m := 9) (by decide) w2
      refine ⟨fun c26 => ?_, fun c26 => ?_⟩
      · have w3 : (wi 0 (nI (fmost wh.toNatClampNeg)) v) = false := by rw [wi, decide_eq_false (Int32.not_le.mpr c26)]; rfl
        refine step.1 _ _ _ _ _ _ _ sgX12_change_41_ok ?_
        refine step.1 _ _ _ _ _ _ _ sgX12_change_42_ok ?_
        refine Or.inl ⟨rfl, _, 1, 0, 0, _, _, _, qi_12_247, ⟨rfl, rfl⟩, ⟨hM0.1, rfl⟩, rfl, rfl, M_mayB hg hM0 hR0 rfl 2 (by decide) 1 (by decide), fun y44 h44 hy44 => ?_⟩
        obtain ⟨rfl, hb⟩ := hy44
        refine ⟨fun c47 => absurd c47 (by decide), fun _ => ?_⟩
        refine step.1 _ _ _ _ _ _ _ sgX12_change_50_ok ?_
        refine ⟨.int, rfl, rfl, Nat.le_refl _, Nat.le_refl _, ?_⟩
        exact Or.inr ⟨1, 2, (Or.inr (⟨rfl, rfl, hD0, (fun z => absurd (z.2) (by rw [w3]; decide))⟩)), ⟨_, rfl⟩, mbad.l hk0 hb⟩
      · refine Or.inl ⟨rfl, _, 1, 0, 0, _, Or.inl qi_12_528, ⟨rfl, rfl⟩, rfl, rfl, (by rw [ewh]; exact M_mostIs hg hy1 hy9), fun y31 h31 hy31 => ?_⟩
        obtain ⟨rfl, hh⟩ := hy31
        rw [hh]
        clear hh
        refine ⟨fun c34 => ?_, fun c34 => ?_⟩
        · have w4 : (wi 0 (nI (fmost wh.toNatClampNeg)) v) = false := by rw [ewh, h_tn (by omega), wi, decide_eq_false (Int32.not_le.mpr c34), Bool.and_false]
          refine step.1 _ _ _ _ _ _ _ sgX12_change_41_ok ?_
          refine step.1 _ _ _ _ _ _ _ sgX12_change_42_ok ?_
          refine Or.inl ⟨rfl, _, 1, 0, 0, _, _, _, qi_12_247, ⟨rfl, rfl⟩, ⟨hM0.1, rfl⟩, rfl, rfl, M_mayB hg hM0 hR0 rfl 2 (by decide) 1 (by decide), fun y44 h44 hy44 => ?_⟩
          obtain ⟨rfl, hb⟩ := hy44
          refine ⟨fun c47 => absurd c47 (by decide), fun _ => ?_⟩
          refine step.1 _ _ _ _ _ _ _ sgX12_change_50_ok ?_
          refine ⟨.int, rfl, rfl, Nat.le_refl _, Nat.le_refl _, ?_⟩
          exact Or.inr ⟨1, 2, (Or.inr (⟨rfl, rfl, hD0, (fun z => absurd (z.2) (by rw [w4]; decide))⟩)), ⟨_, rfl⟩, mbad.l hk0 hb⟩
        · have w4 : (wi 0 (nI (fmost wh.toNatClampNeg)) v) = true := by rw [ewh, h_tn (by omega), wi, decide_eq_true (Int32.not_lt.mp c26), decide_eq_true (Int32.not_lt.mp c34)]; rfl
          obtain ⟨xx, hxx, edr⟩ := wi_lt (by have := hI.1.1; omega) hD0
          have w5 : (wi 0 (nI (fmost yy)) v) = true := by rw [ewh, h_tn (by omega)] at w4; exact w4
          have hix : (10 * dr + wh : Int32) = nI (xx * 10 + yy) := by rw [edr, ewh]; exact ixk (k := 10)
          refine step.1 _ _ _ _ _ _ _ sgX12_change_42_ok ?_
          refine Or.inl ⟨rfl, _, 1, 0, 0, _, _, _, qi_12_247, ⟨rfl, rfl⟩, ⟨hM0.1, rfl⟩, rfl, rfl, M_may hg hM0.1 rfl _ _, fun y44 h44 hy44 => ?_⟩
          obtain ⟨rfl, hh⟩ := hy44
          rw [hh]
          clear hh
          refine ⟨fun _ => ?_, fun c47 => absurd c47 (by decide)⟩
          refine step.1 _ _ _ _ _ _ _ sgX12_change_52_ok ?_
          refine Or.inl ⟨rfl, _, 2, 0, 0, _, _, _, qi_12_531, ⟨rfl, rfl⟩, ⟨hM0.1, rfl⟩, rfl, rfl, M_changes hg hM0 hR0 hI.1.2.2, fun y53 h53 hy53 => ?_⟩
          rcases hy53 with ⟨hfull, rfl, hh⟩ | ⟨hlt, rfl, hM2, hk2⟩
          · rw [hh]
            clear hh
            refine ⟨fun c56 => absurd c56 (by decide), fun _ => ?_⟩
            refine ⟨.int, rfl, rfl, Nat.le_refl _, Nat.le_refl _, ?_⟩
            refine Or.inl ⟨hD0, ⟨w2, w4⟩, xx, yy, hxx, hy1, hy9, edr, ewh, w5, ?_⟩
            rw [if_pos hfull]
            exact ⟨rfl, _, _, _, _, hM0, hk0, hR0, rfl⟩
          · refine ⟨fun _ => ?_, fun c56 => absurd c56 (by decide)⟩
            refine step.1 _ _ _ _ _ _ _ sgX12_change_61_ok ?_
            refine ⟨by decide, _, _, hM2.1, rfl, ?_⟩
            refine ⟨_, _, hM2.c67, (by rw [hix]; exact vp_in_nI (n := xx * 10 + yy) (N := 100) (by have := hI.1.1; omega) (by decide)), ?_⟩
            refine ⟨by decide, _, _, hM2.1, rfl, ?_⟩
            refine ⟨_, _, hM2.c67, (by rw [hix]; exact vp_in_nI (n := xx * 10 + yy) (N := 100) (by have := hI.1.1; omega) (by decide)), ?_⟩
            refine ⟨.int, rfl, rfl, Nat.le_refl _, Nat.le_refl _, ?_⟩
            refine Or.inl ⟨hD0, ⟨w2, w4⟩, xx, yy, hxx, hy1, hy9, edr, ewh, w5, ?_⟩
            rw [if_neg (by omega), hix, h_tn (n := xx * 10 + yy) (by have := hI.1.1; omega)]
            have hd := hR.2.2.1.1
            refine ⟨congrArg (fun z => some (Value.int z)) (hd _ (by omega)), (upd (upd x 0 0) 62 (nI (S.2.1.2.2.2.2.2.1 + 1))), y, fup (fup F 90 (krow (F 90) (132 * S.2.1.2.2.2.2.2.1) (F 67) (F 78) ((upd x 0 0) 36) ((upd x 0 0) 23))) 67 (upd (F 67) (xx * 10 + yy) v), G, hM2.u67 _, (hk0.tr hk2).u (by decide) (by decide), hR0.push hI rfl hlt (fun k hk => by
              simp at hk
              exact upd_n hk.2.2) hR.1.2.2.2.2.2.2.2.1 hR.1.2.2.2.2.2.2.1 rfl rfl rfl rfl rfl (fun j hj => by
              simp at hj
              rw [fup_n hj.1, fup_n hj.2.2]) (fun j hj => ?_) (fun j hj => hR.2.2.1.2.2 j hj) rfl (rbk_change hI hxx hy9 v), rfl⟩
            show upd (F 67) (xx * 10 + yy) v j = upd S.2.1.1 (xx * 10 + yy) v j
            unfold upd
            rw [hd j hj]
end Q12N
