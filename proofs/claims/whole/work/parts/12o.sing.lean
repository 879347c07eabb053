section Q12O
set_option maxHeartbeats 1000000 in
theorem M_sing {g : qG} (hg : qOK g) {h : qH} {x : Nat → Int32} {y : Nat → Int64} {F : Nat → Nat → Int32} {G : Nat → Nat → Int64} (hM : MX h x y F G) {S : CS} (hR : Rel S x F) (hI : ROK S.2.1) (li vn rg : Int32) : qSpec g 3 0 0 mX12_sing [.ref 63, .int li, .int vn, .int rg] h (fun r h' => ((wi 0 (nI S.2.1.2.2.2.2.1 - 1) li = true) ∧ (wi 0 5 vn = true ∧ wi 0 2 rg = true) ∧ (∃ xx : Nat, xx < S.2.1.2.2.2.2.1 ∧ li = nI xx ∧ (if S.2.1.2.2.2.2.2.1 = 20 then r = some (.int (-1)) ∧ MG h h' S else r = some (.int 1) ∧ MG h h' (S.1, (S.2.1.1, lput S.2.1.2.1 xx (S.2.1.2.1 (xx * 3)) vn rg, unote S.2.1.2.2.1 S.2.1.2.2.2.2.2.1 1 (nI xx) (S.2.1.2.1 (xx * 3 + 1)) (S.2.1.2.1 (xx * 3 + 2)) 0, S.2.1.2.2.2.1, S.2.1.2.2.2.2.1, S.2.1.2.2.2.2.2.1 + 1, S.2.1.2.2.2.2.2.2.1, S.2.1.2.2.2.2.2.2.2.1, S.2.1.2.2.2.2.2.2.2.2), S.2.2)))) ∨ ∃ (k : Nat) (c : Int32), ((k = 0 ∧ c = 1 ∧ ¬ (wi 0 (nI S.2.1.2.2.2.2.1 - 1) li = true)) ∨ (k = 1 ∧ c = 2 ∧ (wi 0 (nI S.2.1.2.2.2.2.1 - 1) li = true) ∧ ¬ (wi 0 5 vn = true ∧ wi 0 2 rg = true))) ∧ (∃ z, r = some (.int z)) ∧ mbad h h' S k c) := by
  refine qSpec_run 12 "sing" false hg mX12_sing_ok rfl rfl (Nat.le_of_ble_eq_true rfl) (by decide) ?_
  intro run step
  refine step.1 _ _ _ _ _ _ _ sgX12_sing_0_ok ?_
  refine ⟨_, hM.1, Nat.le_of_ble_eq_true rfl, rfl, ?_⟩
  have hM0 := hM.p63 (sI_0 (v := 0) (rfl : _ = M63l x y))
  have hR0 : Rel S (upd x 0 0) F := hR.t 0
  have hk0 := kp.rf (h := h) |>.u (k := 63) (e := .inl (12, (M63l x y).set 0 (.int 0))) (by decide) (by decide)
  refine Or.inl ⟨rfl, _, 2, 0, 0, _, _, _, qi_12_353, ⟨rfl, rfl⟩, ⟨hM0.1, rfl⟩, rfl, rfl, M_isLineU hg hM0 hR0 rfl _ 1 (by decide), fun y8 h8 hy8 => ?_⟩
  rcases hy8 with ⟨hD0, rfl, hb⟩ | ⟨hD0, rfl, hh⟩
  · refine ⟨fun _ => ?_, fun c11 => absurd c11 (by decide)⟩
    refine step.1 _ _ _ _ _ _ _ sgX12_sing_46_ok ?_
    refine ⟨.int, rfl, rfl, Nat.le_refl _, Nat.le_refl _, ?_⟩
    exact Or.inr ⟨0, 1, (Or.inl (⟨rfl, rfl, (by rw [hD0]; decide)⟩)), ⟨_, rfl⟩, mbad.l hk0 hb⟩
  · rw [hh]
    clear hh
    refine ⟨fun c11 => absurd c11 (by decide), fun _ => ?_⟩
    refine Or.inl ⟨rfl, _, 1, 0, 0, _, Or.inl qi_12_324, ⟨rfl, rfl⟩, rfl, rfl, M_within hg _ _ _, fun y18 h18 hy18 => ?_⟩
    obtain ⟨rfl, hh⟩ := hy18
    rw [hh]
    clear hh
    refine ⟨fun c21 => ?_, fun c21 => ?_⟩
    · have w21 : (wi 0 5 vn) = false := qb_0.mp c21
      refine step.1 _ _ _ _ _ _ _ sgX12_sing_37_ok ?_
      refine step.1 _ _ _ _ _ _ _ sgX12_sing_38_ok ?_
      refine Or.inl ⟨rfl, _, 1, 0, 0, _, _, _, qi_12_247, ⟨rfl, rfl⟩, ⟨hM0.1, rfl⟩, rfl, rfl, M_mayB hg hM0 hR0 rfl 2 (by decide) 1 (by decide), fun y40 h40 hy40 => ?_⟩
      obtain ⟨rfl, hb⟩ := hy40
      refine ⟨fun c43 => absurd c43 (by decide), fun _ => ?_⟩
      refine step.1 _ _ _ _ _ _ _ sgX12_sing_46_ok ?_
      refine ⟨.int, rfl, rfl, Nat.le_refl _, Nat.le_refl _, ?_⟩
      exact Or.inr ⟨1, 2, (Or.inr (⟨rfl, rfl, hD0, (fun z => absurd (z.1) (by rw [w21]; decide))⟩)), ⟨_, rfl⟩, mbad.l hk0 hb⟩
    · have w21 : (wi 0 5 vn) = true := qb_1.mp c21
      refine Or.inl ⟨rfl, _, 1, 0, 0, _, Or.inl qi_12_324, ⟨rfl, rfl⟩, rfl, rfl, M_within hg _ _ _, fun y27 h27 hy27 => ?_⟩
      obtain ⟨rfl, hh⟩ := hy27
      rw [hh]
      clear hh
      refine ⟨fun c30 => ?_, fun c30 => ?_⟩
      · have w30 : (wi 0 2 rg) = false := qb_0.mp c30
        refine step.1 _ _ _ _ _ _ _ sgX12_sing_37_ok ?_
        refine step.1 _ _ _ _ _ _ _ sgX12_sing_38_ok ?_
        refine Or.inl ⟨rfl, _, 1, 0, 0, _, _, _, qi_12_247, ⟨rfl, rfl⟩, ⟨hM0.1, rfl⟩, rfl, rfl, M_mayB hg hM0 hR0 rfl 2 (by decide) 1 (by decide), fun y40 h40 hy40 => ?_⟩
        obtain ⟨rfl, hb⟩ := hy40
        refine ⟨fun c43 => absurd c43 (by decide), fun _ => ?_⟩
        refine step.1 _ _ _ _ _ _ _ sgX12_sing_46_ok ?_
        refine ⟨.int, rfl, rfl, Nat.le_refl _, Nat.le_refl _, ?_⟩
        exact Or.inr ⟨1, 2, (Or.inr (⟨rfl, rfl, hD0, (fun z => absurd (z.2) (by rw [w30]; decide))⟩)), ⟨_, rfl⟩, mbad.l hk0 hb⟩
      · have w30 : (wi 0 2 rg) = true := qb_1.mp c30
        refine step.1 _ _ _ _ _ _ _ sgX12_sing_38_ok ?_
        refine Or.inl ⟨rfl, _, 1, 0, 0, _, _, _, qi_12_247, ⟨rfl, rfl⟩, ⟨hM0.1, rfl⟩, rfl, rfl, M_may hg hM0.1 rfl _ _, fun y40 h40 hy40 => ?_⟩
        obtain ⟨rfl, hh⟩ := hy40
        rw [hh]
        clear hh
        refine ⟨fun _ => ?_, fun c43 => absurd c43 (by decide)⟩
        refine step.1 _ _ _ _ _ _ _ sgX12_sing_48_ok ?_
        refine Or.inl ⟨rfl, _, 2, 0, 0, _, _, _, qi_12_531, ⟨rfl, rfl⟩, ⟨hM0.1, rfl⟩, rfl, rfl, M_changes hg hM0 hR0 hI.1.2.2, fun y49 h49 hy49 => ?_⟩
        rcases hy49 with ⟨hfull, rfl, hh⟩ | ⟨hlt, rfl, hM2, hk2⟩
        · rw [hh]
          clear hh
          refine ⟨fun c52 => absurd c52 (by decide), fun _ => ?_⟩
          refine ⟨.int, rfl, rfl, Nat.le_refl _, Nat.le_refl _, ?_⟩
          obtain ⟨xx, hxx, eli⟩ := wi_lt (by have := hI.1.2.1; omega) hD0
          have hx10 := hI.1.2.1
          have hi0 : (3 * li : Int32) = nI (xx * 3) := by rw [eli, Int32.mul_comm]; exact pk_mul xx 3
          have hi1 : (3 * li + 1 : Int32) = nI (xx * 3 + 1) := by rw [hi0]; exact nI_1 _
          have hi2 : (3 * li + 2 : Int32) = nI (xx * 3 + 2) := by rw [hi0]; exact nI_add _ 2
          refine Or.inl ⟨hD0, ⟨w21, w30⟩, xx, hxx, eli, ?_⟩
          rw [if_pos hfull]
          exact ⟨rfl, _, _, _, _, hM0, hk0, hR0, rfl⟩
        · obtain ⟨xx, hxx, eli⟩ := wi_lt (by have := hI.1.2.1; omega) hD0
          have hx10 := hI.1.2.1
          have hi0 : (3 * li : Int32) = nI (xx * 3) := by rw [eli, Int32.mul_comm]; exact pk_mul xx 3
          have hi1 : (3 * li + 1 : Int32) = nI (xx * 3 + 1) := by rw [hi0]; exact nI_1 _
          have hi2 : (3 * li + 2 : Int32) = nI (xx * 3 + 2) := by rw [hi0]; exact nI_add _ 2
          refine ⟨fun _ => ?_, fun c52 => absurd c52 (by decide)⟩
          refine step.1 _ _ _ _ _ _ _ sgX12_sing_57_ok ?_
          refine ⟨by decide, _, _, hM2.1, rfl, ?_⟩
          refine ⟨_, _, hM2.c78, (by rw [hi1]; exact vp_in_nI (n := xx * 3 + 1) (N := 30) (by omega) (by decide)), ?_⟩
          refine ⟨by decide, _, _, hM2.1, rfl, ?_⟩
          refine ⟨_, _, rfl, (by rw [hi2]; exact vp_in_nI (n := xx * 3 + 2) (N := 30) (by omega) (by decide)), ?_⟩
          refine ⟨.int, rfl, rfl, Nat.le_refl _, Nat.le_refl _, ?_⟩
          refine Or.inl ⟨hD0, ⟨w21, w30⟩, xx, hxx, eli, ?_⟩
          rw [if_neg (by omega)]
          refine ⟨rfl, (upd (upd x 0 0) 62 (nI (S.2.1.2.2.2.2.2.1 + 1))), y, fup (fup (fup F 90 (krow (F 90) (132 * S.2.1.2.2.2.2.2.1) (F 67) (F 78) ((upd x 0 0) 36) ((upd x 0 0) 23))) 78 (upd (F 78) (3 * li + 1 : Int32).toNatClampNeg vn)) 78 (upd (upd (F 78) (3 * li + 1 : Int32).toNatClampNeg vn) (3 * li + 2 : Int32).toNatClampNeg rg), G, (hM2.u78 _).u78 _, ((hk0.tr hk2).u (by decide) (by decide)).u (by decide) (by decide), hR0.push hI rfl hlt (fun k hk => by
            simp at hk
            exact upd_n hk.2.2) hR.1.2.2.2.2.2.2.2.1 hR.1.2.2.2.2.2.2.1 rfl rfl rfl rfl rfl (fun j hj => by
            simp at hj
            rw [fup_n hj.2.1, fup_n hj.2.1, fup_n hj.2.2]) (fun j hj => hR.2.2.1.1 j hj) (fun j hj => ?_) rfl (rbk_sing hI hxx vn rg), rfl⟩
          show upd (upd (F 78) (3 * li + 1 : Int32).toNatClampNeg vn) (3 * li + 2 : Int32).toNatClampNeg rg j = lput S.2.1.2.1 xx (S.2.1.2.1 (xx * 3)) vn rg j
          have hp := hR.2.2.1.2.2
          rw [hi1, hi2, h_tn (by omega), h_tn (by omega), lput_e]
          unfold upd
          by_cases c2 : j = xx * 3 + 2
          · rw [if_pos c2, if_pos c2]
          · rw [if_neg c2, if_neg c2]
            by_cases c1 : j = xx * 3 + 1
            · rw [if_pos c1, if_pos c1]
            · rw [if_neg c1, if_neg c1, hp j hj]
              by_cases c0 : j = xx * 3
              · rw [if_pos c0, c0]
              · rw [if_neg c0]
set_option maxHeartbeats 1000000 in
theorem M_until {g : qG} (hg : qOK g) {h : qH} {x : Nat → Int32} {y : Nat → Int64} {F : Nat → Nat → Int32} {G : Nat → Nat → Int64} (hM : MX h x y F G) {S : CS} (hR : Rel S x F) (hI : ROK S.2.1) (mi : Int32) : qSpec g 3 0 0 mX12_until [.ref 63, .int mi] h (fun r h' => ((wi 0 480 mi = true) ∧ (if S.2.1.2.2.2.2.2.1 = 20 then r = some (.int (-1)) ∧ MG h h' S else r = some (.int S.2.1.2.2.2.2.2.2.2.2) ∧ MG h h' (S.1, (S.2.1.1, S.2.1.2.1, unote S.2.1.2.2.1 S.2.1.2.2.2.2.2.1 4 S.2.1.2.2.2.2.2.2.2.2 0 0 0, S.2.1.2.2.2.1, S.2.1.2.2.2.2.1, S.2.1.2.2.2.2.2.1 + 1, S.2.1.2.2.2.2.2.2.1, S.2.1.2.2.2.2.2.2.2.1, mi), S.2.2))) ∨ ∃ (k : Nat) (c : Int32), ((k = 1 ∧ c = 1 ∧ ¬ (wi 0 480 mi = true))) ∧ (∃ z, r = some (.int z)) ∧ mbad h h' S k c) := by
  refine qSpec_run 12 "until" false hg mX12_until_ok rfl rfl (Nat.le_of_ble_eq_true rfl) (by decide) ?_
  intro run step
  refine step.1 _ _ _ _ _ _ _ sgX12_until_0_ok ?_
  refine ⟨_, hM.1, Nat.le_of_ble_eq_true rfl, rfl, ?_⟩
  have hM0 := hM.p63 (sI_0 (v := 0) (rfl : _ = M63l x y))
  have hR0 : Rel S (upd x 0 0) F := hR.t 0
  have hk0 := kp.rf (h := h) |>.u (k := 63) (e := .inl (12, (M63l x y).set 0 (.int 0))) (by decide) (by decide)
  refine Or.inl ⟨rfl, _, 1, 0, 0, _, Or.inl qi_12_463, ⟨rfl, rfl⟩, rfl, rfl, M_isMinute hg _, fun y7 h7 hy7 => ?_⟩
  obtain ⟨rfl, hh⟩ := hy7
  rw [hh]
  clear hh
  refine Or.inl ⟨rfl, _, 1, 0, 0, _, _, _, qi_12_247, ⟨rfl, rfl⟩, ⟨hM0.1, rfl⟩, rfl, rfl, M_mayU hg hM0 hR0 rfl _ 1 (by decide) 1 (by decide), fun y12 h12 hy12 => ?_⟩
  rcases hy12 with ⟨w12, rfl, hb⟩ | ⟨w12, rfl, hh⟩
  · refine ⟨fun c15 => absurd c15 (by decide), fun _ => ?_⟩
    refine ⟨.int, rfl, rfl, Nat.le_refl _, Nat.le_refl _, ?_⟩
    exact Or.inr ⟨1, 1, ⟨rfl, rfl, (by rw [w12]; decide)⟩, ⟨_, rfl⟩, mbad.l hk0 hb⟩
  · rw [hh]
    clear hh
    refine ⟨fun _ => ?_, fun c15 => absurd c15 (by decide)⟩
    refine step.1 _ _ _ _ _ _ _ sgX12_until_20_ok ?_
    refine Or.inl ⟨rfl, _, 2, 0, 0, _, _, _, qi_12_531, ⟨rfl, rfl⟩, ⟨hM0.1, rfl⟩, rfl, rfl, M_changes hg hM0 hR0 hI.1.2.2, fun y21 h21 hy21 => ?_⟩
    rcases hy21 with ⟨hfull, rfl, hh⟩ | ⟨hlt, rfl, hM2, hk2⟩
    · rw [hh]
      clear hh
      refine ⟨fun c24 => absurd c24 (by decide), fun _ => ?_⟩
      refine ⟨.int, rfl, rfl, Nat.le_refl _, Nat.le_refl _, ?_⟩
      refine Or.inl ⟨w12, ?_⟩
      rw [if_pos hfull]
      exact ⟨rfl, _, _, _, _, hM0, hk0, hR0, rfl⟩
    · refine ⟨fun _ => ?_, fun c24 => absurd c24 (by decide)⟩
      refine step.1 _ _ _ _ _ _ _ sgX12_until_29_ok ?_
      refine ⟨by decide, _, _, hM2.1, rfl, ?_⟩
      refine ⟨_, hM2.1, Nat.le_of_ble_eq_true rfl, rfl, ?_⟩
      refine ⟨.int, rfl, rfl, Nat.le_refl _, Nat.le_refl _, ?_⟩
      refine Or.inl ⟨w12, ?_⟩
      rw [if_neg (by omega)]
      refine ⟨congrArg (fun z => some (Value.int z)) hR.1.2.2.2.2.2.2.1, upd (upd (upd x 0 0) 62 (nI (S.2.1.2.2.2.2.2.1 + 1))) 23 mi, y, fup F 90 (krow (F 90) (132 * S.2.1.2.2.2.2.2.1) (F 67) (F 78) ((upd x 0 0) 36) ((upd x 0 0) 23)), G, hM2.p63 (sI_23 rfl), (hk0.tr hk2).u (by decide) (by decide), hR0.push hI rfl hlt (fun k hk => by
        simp at hk
        exact (upd_n hk.1).trans (upd_n hk.2.2)) hR.1.2.2.2.2.2.2.2.1 rfl rfl rfl rfl rfl rfl (fun j hj => by
        simp at hj
        rw [fup_n hj.2.2]) (fun j hj => hR.2.2.1.1 j hj) (fun j hj => hR.2.2.1.2.2 j hj) rfl (rbk_until mi), rfl⟩
end Q12O
