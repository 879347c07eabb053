section Q12Q
theorem nI_pr {n : Nat} (h : 1 ≤ n) : (nI n - 1 : Int32) = nI (n - 1) := by
  obtain ⟨m, rfl⟩ : ∃ m : Nat, n = m + 1 := ⟨n - 1, by omega⟩
  rw [← nI_1 m, show m + 1 - 1 = m from rfl]
  generalize (nI m : Int32) = z
  grind
theorem nI_3 (n : Nat) : (3 * nI n : Int32) = nI (n * 3) := by rw [Int32.mul_comm]; exact pk_mul n 3
set_option maxHeartbeats 1000000 in
theorem M_skip {g : qG} (hg : qOK g) {h : qH} {x : Nat → Int32} {y : Nat → Int64} {F : Nat → Nat → Int32} {G : Nat → Nat → Int64} (hM : MX h x y F G) {S : CS} (hR : Rel S x F) (hI : ROK S.2.1) (li : Int32) : qSpec g 3 0 0 mX12_skip [.ref 63, .int li] h (fun r h' => ((wi 0 (nI S.2.1.2.2.2.2.1 - 1) li = true) ∧ (∃ xx : Nat, xx < S.2.1.2.2.2.2.1 ∧ li = nI xx ∧ (if S.2.1.2.2.2.2.2.1 = 20 then r = some (.int (-1)) ∧ MG h h' S else r = some (.int (nI (S.2.1.2.2.2.2.1 - 1))) ∧ MG h h' (S.1, (S.2.1.1, ltake S.2.1.2.1 xx (S.2.1.2.2.2.2.1 - 1 - xx), unote S.2.1.2.2.1 S.2.1.2.2.2.2.2.1 3 (nI xx) (S.2.1.2.1 (xx * 3)) (S.2.1.2.1 (xx * 3 + 1)) (S.2.1.2.1 (xx * 3 + 2)), S.2.1.2.2.2.1, S.2.1.2.2.2.2.1 - 1, S.2.1.2.2.2.2.2.1 + 1, S.2.1.2.2.2.2.2.2.1, S.2.1.2.2.2.2.2.2.2.1, S.2.1.2.2.2.2.2.2.2.2), S.2.2)))) ∨ ∃ (k : Nat) (c : Int32), ((k = 0 ∧ c = 1 ∧ ¬ (wi 0 (nI S.2.1.2.2.2.2.1 - 1) li = true))) ∧ (∃ z, r = some (.int z)) ∧ mbad h h' S k c) := by
  refine qSpec_run 12 "skip" false hg mX12_skip_ok rfl rfl (Nat.le_of_ble_eq_true rfl) (by decide) ?_
  intro run step
  refine step.1 _ _ _ _ _ _ _ sgX12_skip_0_ok ?_
  refine ⟨_, hM.1, Nat.le_of_ble_eq_true rfl, rfl, ?_⟩
  have hM0 := hM.p63 (sI_0 (v := 0) (rfl : _ = M63l x y))
  have hR0 : Rel S (upd x 0 0) F := hR.t 0
  have hk0 := kp.rf (h := h) |>.u (k := 63) (e := .inl (12, (M63l x y).set 0 (.int 0))) (by decide) (by decide)
  refine Or.inl ⟨rfl, _, 2, 0, 0, _, _, _, qi_12_353, ⟨rfl, rfl⟩, ⟨hM0.1, rfl⟩, rfl, rfl, M_isLineU hg hM0 hR0 rfl _ 1 (by decide), fun y8 h8 hy8 => ?_⟩
  rcases hy8 with ⟨hD0, rfl, hb⟩ | ⟨hD0, rfl, hh⟩
  · refine ⟨fun c11 => absurd c11 (by decide), fun _ => ?_⟩
    refine ⟨.int, rfl, rfl, Nat.le_refl _, Nat.le_refl _, ?_⟩
    exact Or.inr ⟨0, 1, ⟨rfl, rfl, (by rw [hD0]; decide)⟩, ⟨_, rfl⟩, mbad.l hk0 hb⟩
  · rw [hh]
    clear hh
    refine ⟨fun _ => ?_, fun c11 => absurd c11 (by decide)⟩
    refine step.1 _ _ _ _ _ _ _ sgX12_skip_16_ok ?_
    refine Or.inl ⟨rfl, _, 2, 0, 0, _, _, _, qi_12_531, ⟨rfl, rfl⟩, ⟨hM0.1, rfl⟩, rfl, rfl, M_changes hg hM0 hR0 hI.1.2.2, fun y17 h17 hy17 => ?_⟩
    rcases hy17 with ⟨hfull, rfl, hh⟩ | ⟨hlt, rfl, hM2, hk2⟩
    · rw [hh]
      clear hh
      refine ⟨fun c20 => absurd c20 (by decide), fun _ => ?_⟩
      refine ⟨.int, rfl, rfl, Nat.le_refl _, Nat.le_refl _, ?_⟩
      have hx10 := hI.1.2.1
      obtain ⟨xx, hxx, eli⟩ := wi_lt (by omega) hD0
      have e36 : ((upd (upd x 0 0) 62 (nI (S.2.1.2.2.2.2.2.1 + 1))) 36 - 1 : Int32) = nI (S.2.1.2.2.2.2.1 - 1) := by
        have q : (upd (upd x 0 0) 62 (nI (S.2.1.2.2.2.2.2.1 + 1))) 36 = nI S.2.1.2.2.2.2.1 := hR.1.2.2.2.2.2.2.2.1
        rw [q]
        exact nI_pr (by omega)
      have e3 := nI_3 (S.2.1.2.2.2.2.1 - 1)
      refine Or.inl ⟨hD0, xx, hxx, eli, ?_⟩
      rw [if_pos hfull]
      exact ⟨rfl, _, _, _, _, hM0, hk0, hR0, rfl⟩
    · have hx10 := hI.1.2.1
      obtain ⟨xx, hxx, eli⟩ := wi_lt (by omega) hD0
      have e36 : ((upd (upd x 0 0) 62 (nI (S.2.1.2.2.2.2.2.1 + 1))) 36 - 1 : Int32) = nI (S.2.1.2.2.2.2.1 - 1) := by
        have q : (upd (upd x 0 0) 62 (nI (S.2.1.2.2.2.2.2.1 + 1))) 36 = nI S.2.1.2.2.2.2.1 := hR.1.2.2.2.2.2.2.2.1
        rw [q]
        exact nI_pr (by omega)
      have e3 := nI_3 (S.2.1.2.2.2.2.1 - 1)
      have loop : ∀ (m i : Nat) (hX : qH), i + m = (S.2.1.2.2.2.2.1 - 1 - xx) * 3 → MX hX (upd (upd (upd x 0 0) 62 (nI (S.2.1.2.2.2.2.2.1 + 1))) 36 ((upd (upd x 0 0) 62 (nI (S.2.1.2.2.2.2.2.1 + 1))) 36 - 1)) y (fup (fup F 90 (krow (F 90) (132 * S.2.1.2.2.2.2.2.1) (F 67) (F 78) ((upd x 0 0) 36) ((upd x 0 0) 23))) 78 (tke (F 78) xx i)) G → kp h hX → run 39 [(2, .int (nI (xx * 3 + i))), (0, .ref 63), (1, .int li)] [] hX 0 0 := by
        intro m
        induction m with
        | zero =>
          intro i hX hi hMX hkX
          refine step.1 _ _ _ _ _ _ _ sgX12_skip_39_ok ?_
          refine ⟨by decide, _, _, hMX.1, rfl, ?_⟩
          refine ⟨fun c46 => ?_, fun c46 => absurd (show (3 * ((upd (upd x 0 0) 62 (nI (S.2.1.2.2.2.2.2.1 + 1))) 36 - 1) : Int32) ≤ nI (xx * 3 + i) from by rw [e36, e3]; exact nI_le (by omega) (by omega)) c46⟩
          
          refine step.1 _ _ _ _ _ _ _ sgX12_skip_69_ok ?_
          refine ⟨by decide, _, _, hMX.1, rfl, ?_⟩
          refine ⟨.int, rfl, rfl, Nat.le_refl _, Nat.le_refl _, ?_⟩
          refine Or.inl ⟨hD0, xx, hxx, eli, ?_⟩
          rw [if_neg (by omega)]
          have hX3 := hMX
          rw [show i = (S.2.1.2.2.2.2.1 - 1 - xx) * 3 by omega, tke_m] at hX3
          exact ⟨congrArg (fun z => some (Value.int z)) e36, _, _, _, _, hX3, hkX, hR0.push hI rfl hlt (fun k hk => by
            simp at hk
            exact (upd_n hk.2.1).trans (upd_n hk.2.2)) e36 hR.1.2.2.2.2.2.2.1 rfl rfl rfl rfl rfl (fun j hj => by
            simp at hj
            rw [fup_n hj.2.1, fup_n hj.2.2]) (fun j hj => hR.2.2.1.1 j hj) (ltake_c (n := S.2.1.2.2.2.2.1) (by omega) (fun j hj => hR.2.2.1.2.2 j hj)) rfl (rbk_skip hI hxx), rfl⟩
        | succ m ih =>
          intro i hX hi hMX hkX
          refine step.1 _ _ _ _ _ _ _ sgX12_skip_39_ok ?_
          refine ⟨by decide, _, _, hMX.1, rfl, ?_⟩
          refine ⟨fun c46 => absurd (show nI ((S.2.1.2.2.2.2.1 - 1) * 3) ≤ nI (xx * 3 + i) from by rw [← e3, ← e36]; exact c46) (h_nle (by omega) (by omega)), fun c46 => ?_⟩
          have ix3 : (nI (xx * 3 + i) + 3 : Int32) = nI (xx * 3 + i + 3) := nI_add _ 3
          refine ⟨by decide, _, _, hMX.1, rfl, ?_⟩
          refine ⟨by decide, _, _, hMX.1, rfl, ?_⟩
          refine ⟨_, _, hMX.c78, (by rw [ix3]; exact vp_in_nI (n := xx * 3 + i + 3) (N := 30) (by omega) (by decide)), ?_⟩
          refine ⟨_, _, hMX.c78, vp_in_nI (n := xx * 3 + i) (N := 30) (by omega) (by decide), ?_⟩
          have kk := fun hZ => ih (i + 1) hZ (by omega)
          rw [← Nat.add_assoc, ← nI_1 (xx * 3 + i)] at kk
          refine kk _ (hMX.vkk (k := 78) (by decide) ?_ (fun j hj => qup_n hj)) (hkX.u (k := 78) (by decide) (by decide))
          show some (aI' 30 (upd (tke (F 78) xx i) (nI (xx * 3 + i)).toNatClampNeg (tke (F 78) xx i (nI (xx * 3 + i) + 3 : Int32).toNatClampNeg))) = some (aI' 30 (tke (F 78) xx (i + 1)))
          rw [ix3, h_tn (by omega), h_tn (by omega), tke_s]
      refine ⟨fun _ => ?_, fun c20 => absurd c20 (by decide)⟩
      refine step.1 _ _ _ _ _ _ _ sgX12_skip_25_ok ?_
      refine ⟨rfl, ?_⟩
      refine ⟨by decide, _, _, hM2.1, rfl, ?_⟩
      refine ⟨_, hM2.1, Nat.le_of_ble_eq_true rfl, rfl, ?_⟩
      have e0 : (3 * li : Int32) = nI (xx * 3 + 0) := by rw [eli]; exact nI_3 xx
      have kk := fun hZ => loop ((S.2.1.2.2.2.2.1 - 1 - xx) * 3) 0 hZ (by omega)
      rw [← e0] at kk
      exact kk _ (by rw [tke_0, show fup (fup F 90 (krow (F 90) (132 * S.2.1.2.2.2.2.2.1) (F 67) (F 78) ((upd x 0 0) 36) ((upd x 0 0) 23))) 78 (F 78) = (fup F 90 (krow (F 90) (132 * S.2.1.2.2.2.2.2.1) (F 67) (F 78) ((upd x 0 0) 36) ((upd x 0 0) 23))) from fup_self (F := (fup F 90 (krow (F 90) (132 * S.2.1.2.2.2.2.2.1) (F 67) (F 78) ((upd x 0 0) 36) ((upd x 0 0) 23)))) (k := 78)]; exact hM2.p63 (sI_36 rfl)) ((hk0.tr hk2).u (k := 63) (by decide) (by decide))
end Q12Q
