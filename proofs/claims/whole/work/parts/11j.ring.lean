section Q11J
set_option maxHeartbeats 2000000 in
theorem M_ring {g : qG} (hg : qOK g) {h : qH} {x : Nat → Int32} {y : Nat → Int64} {F : Nat → Nat → Int32} {G : Nat → Nat → Int64} (hM : MX h x y F G) {S : CS} (hR : Rel S x F) (hI : ROK S.2.1) (hl : lwf S.2.2.2.2.1.1) (dr nv : Int32) : qSpec g 6 0 0 mX12_ring [.ref 63, .int dr, .int nv] h (fun r h' => ((wi 0 (nI S.2.1.2.2.2.1 - 1) dr = true) ∧ (wi 0 5 nv = true) ∧ (∃ a b : Nat, a < S.2.1.2.2.2.1 ∧ b ≤ 5 ∧ dr = nI a ∧ nv = nI b ∧ r = some (.int (rgst (fun z => (vmean (fun z => vgift S.2.1.1 S.2.2.2.2.1.1.1 S.2.2.2.2.1.1.2.1 S.2.2.2.2.1.1.2.2 (nI S.2.2.2.1.2) a z 0) S.2.1.1 S.2.1.2.2.2.2.2.2.2.1 a z b).2.2.2.1) (fun z => ((vmean (fun z => vgift S.2.1.1 S.2.2.2.2.1.1.1 S.2.2.2.2.1.1.2.1 S.2.2.2.2.1.1.2.2 (nI S.2.2.2.1.2) a z 0) S.2.1.1 S.2.1.2.2.2.2.2.2.2.1 a z b).2.2.2.2 + (vmean (fun z => vgift S.2.1.1 S.2.2.2.2.1.1.1 S.2.2.2.2.1.1.2.1 S.2.2.2.2.1.1.2.2 (nI S.2.2.2.1.2) a z 0) S.2.1.1 S.2.1.2.2.2.2.2.2.2.1 a z b).2.2.1 * (S.2.1.1 (a * 10 + 9)).toInt64)) 2 (rgst (fun z => (vmean (fun z => vgift S.2.1.1 S.2.2.2.2.1.1.1 S.2.2.2.2.1.1.2.1 S.2.2.2.2.1.1.2.2 (nI S.2.2.2.1.2) a z 0) S.2.1.1 S.2.1.2.2.2.2.2.2.2.1 a z b).2.2.2.1) (fun z => ((vmean (fun z => vgift S.2.1.1 S.2.2.2.2.1.1.1 S.2.2.2.2.1.1.2.1 S.2.2.2.2.1.1.2.2 (nI S.2.2.2.1.2) a z 0) S.2.1.1 S.2.1.2.2.2.2.2.2.2.1 a z b).2.2.2.2 + (vmean (fun z => vgift S.2.1.1 S.2.2.2.2.1.1.1 S.2.2.2.2.1.1.2.1 S.2.2.2.2.1.1.2.2 (nI S.2.2.2.1.2) a z 0) S.2.1.1 S.2.1.2.2.2.2.2.2.2.1 a z b).2.2.1 * (S.2.1.1 (a * 10 + 9)).toInt64)) 1 (0, (fun z => (vmean (fun z => vgift S.2.1.1 S.2.2.2.2.1.1.1 S.2.2.2.2.1.1.2.1 S.2.2.2.2.1.1.2.2 (nI S.2.2.2.1.2) a z 0) S.2.1.1 S.2.1.2.2.2.2.2.2.2.1 a z b).2.2.2.1) 0, (fun z => ((vmean (fun z => vgift S.2.1.1 S.2.2.2.2.1.1.1 S.2.2.2.2.1.1.2.1 S.2.2.2.2.1.1.2.2 (nI S.2.2.2.1.2) a z 0) S.2.1.1 S.2.1.2.2.2.2.2.2.2.1 a z b).2.2.2.2 + (vmean (fun z => vgift S.2.1.1 S.2.2.2.2.1.1.1 S.2.2.2.2.1.1.2.1 S.2.2.2.2.1.1.2.2 (nI S.2.2.2.1.2) a z 0) S.2.1.1 S.2.1.2.2.2.2.2.2.2.1 a z b).2.2.1 * (S.2.1.1 (a * 10 + 9)).toInt64)) 0))).1)) ∧ MG h h' S) ∨ ∃ (k : Nat) (c : Int32), ((k = 0 ∧ c = 1 ∧ ¬ (wi 0 (nI S.2.1.2.2.2.1 - 1) dr = true)) ∨ (k = 1 ∧ c = 2 ∧ (wi 0 (nI S.2.1.2.2.2.1 - 1) dr = true) ∧ ¬ (wi 0 5 nv = true))) ∧ (∃ z, r = some (.int z)) ∧ mbad h h' S k c) := by
  refine qSpec_run 12 "ring" false hg mX12_ring_ok rfl rfl (Nat.le_of_ble_eq_true rfl) (by decide) ?_
  intro run step
  refine step.1 _ _ _ _ _ _ _ sgX12_ring_0_ok ?_
  refine ⟨_, hM.1, Nat.le_of_ble_eq_true rfl, rfl, ?_⟩
  have hM0 := hM.p63 (sI_0 (v := 0) (rfl : _ = M63l x y))
  have hR0 : Rel S (upd x 0 0) F := hR.t 0
  have hk0 := kp.rf (h := h) |>.u (k := 63) (e := .inl (12, (M63l x y).set 0 (.int 0))) (by decide) (by decide)
  refine Or.inl ⟨rfl, _, 2, 0, 0, _, _, _, qi_12_343, ⟨rfl, rfl⟩, ⟨hM0.1, rfl⟩, rfl, rfl, M_isDoorU hg hM0 hR0 rfl _ 1 (by decide), fun y8 h8 hy8 => ?_⟩
  rcases hy8 with ⟨hD0, rfl, hb⟩ | ⟨hD0, rfl, hh⟩
  · refine ⟨fun _ => ?_, fun c11 => absurd c11 (by decide)⟩
    refine step.1 _ _ _ _ _ _ _ sgX12_ring_29_ok ?_
    refine ⟨.int, rfl, rfl, Nat.le_refl _, Nat.le_refl _, ?_⟩
    exact Or.inr ⟨0, 1, (Or.inl (⟨rfl, rfl, (by rw [hD0]; decide)⟩)), ⟨_, rfl⟩, mbad.l hk0 hb⟩
  · rw [hh]
    clear hh
    refine ⟨fun c11 => absurd c11 (by decide), fun _ => ?_⟩
    refine Or.inl ⟨rfl, _, 1, 0, 0, _, Or.inl qi_12_324, ⟨rfl, rfl⟩, rfl, rfl, M_within hg _ _ _, fun y18 h18 hy18 => ?_⟩
    obtain ⟨rfl, hh⟩ := hy18
    rw [hh]
    clear hh
    refine Or.inl ⟨rfl, _, 1, 0, 0, _, _, _, qi_12_247, ⟨rfl, rfl⟩, ⟨hM0.1, rfl⟩, rfl, rfl, M_mayU hg hM0 hR0 rfl _ 2 (by decide) 1 (by decide), fun y23 h23 hy23 => ?_⟩
    rcases hy23 with ⟨w23, rfl, hb⟩ | ⟨w23, rfl, hh⟩
    · refine ⟨fun c26 => absurd c26 (by decide), fun _ => ?_⟩
      refine step.1 _ _ _ _ _ _ _ sgX12_ring_29_ok ?_
      refine ⟨.int, rfl, rfl, Nat.le_refl _, Nat.le_refl _, ?_⟩
      exact Or.inr ⟨1, 2, (Or.inr (⟨rfl, rfl, hD0, (by rw [w23]; decide)⟩)), ⟨_, rfl⟩, mbad.l hk0 hb⟩
    · rw [hh]
      clear hh
      obtain ⟨a, ha, ea⟩ := wi_lt (by have := hI.1.1; omega) hD0
      obtain ⟨b, hb, eb⟩ := wi_nat (m := 5) (by decide) w23
      have hX : QN (h.1, qup h.2 63 (.inl (12, (M63l x y).set 0 (.int 0)))) (h.1, qup h.2 63 (.inl (12, (M63l x y).set 0 (.int 0)))) (upd x 0 0) y F G (upd x 0 0) y F := QN.rf hM0
      have at3 : ∀ (s : rgS) (hZ : qH) (xX : Nat → Int32) (yX : Nat → Int64) (FX : Nat → Nat → Int32), s = (rgst (fun z => (vmean (fun z => vgift S.2.1.1 S.2.2.2.2.1.1.1 S.2.2.2.2.1.1.2.1 S.2.2.2.2.1.1.2.2 (nI S.2.2.2.1.2) a z 0) S.2.1.1 S.2.1.2.2.2.2.2.2.2.1 a z b).2.2.2.1) (fun z => ((vmean (fun z => vgift S.2.1.1 S.2.2.2.2.1.1.1 S.2.2.2.2.1.1.2.1 S.2.2.2.2.1.1.2.2 (nI S.2.2.2.1.2) a z 0) S.2.1.1 S.2.1.2.2.2.2.2.2.2.1 a z b).2.2.2.2 + (vmean (fun z => vgift S.2.1.1 S.2.2.2.2.1.1.1 S.2.2.2.2.1.1.2.1 S.2.2.2.2.1.1.2.2 (nI S.2.2.2.1.2) a z 0) S.2.1.1 S.2.1.2.2.2.2.2.2.2.1 a z b).2.2.1 * (S.2.1.1 (a * 10 + 9)).toInt64)) 2 (rgst (fun z => (vmean (fun z => vgift S.2.1.1 S.2.2.2.2.1.1.1 S.2.2.2.2.1.1.2.1 S.2.2.2.2.1.1.2.2 (nI S.2.2.2.1.2) a z 0) S.2.1.1 S.2.1.2.2.2.2.2.2.2.1 a z b).2.2.2.1) (fun z => ((vmean (fun z => vgift S.2.1.1 S.2.2.2.2.1.1.1 S.2.2.2.2.1.1.2.1 S.2.2.2.2.1.1.2.2 (nI S.2.2.2.1.2) a z 0) S.2.1.1 S.2.1.2.2.2.2.2.2.2.1 a z b).2.2.2.2 + (vmean (fun z => vgift S.2.1.1 S.2.2.2.2.1.1.1 S.2.2.2.2.1.1.2.1 S.2.2.2.2.1.1.2.2 (nI S.2.2.2.1.2) a z 0) S.2.1.1 S.2.1.2.2.2.2.2.2.2.1 a z b).2.2.1 * (S.2.1.1 (a * 10 + 9)).toInt64)) 1 (0, (fun z => (vmean (fun z => vgift S.2.1.1 S.2.2.2.2.1.1.1 S.2.2.2.2.1.1.2.1 S.2.2.2.2.1.1.2.2 (nI S.2.2.2.1.2) a z 0) S.2.1.1 S.2.1.2.2.2.2.2.2.2.1 a z b).2.2.2.1) 0, (fun z => ((vmean (fun z => vgift S.2.1.1 S.2.2.2.2.1.1.1 S.2.2.2.2.1.1.2.1 S.2.2.2.2.1.1.2.2 (nI S.2.2.2.1.2) a z 0) S.2.1.1 S.2.1.2.2.2.2.2.2.2.1 a z b).2.2.2.2 + (vmean (fun z => vgift S.2.1.1 S.2.2.2.2.1.1.1 S.2.2.2.2.1.1.2.1 S.2.2.2.2.1.1.2.2 (nI S.2.2.2.1.2) a z 0) S.2.1.1 S.2.1.2.2.2.2.2.2.2.1 a z b).2.2.1 * (S.2.1.1 (a * 10 + 9)).toInt64)) 0))) → QN (h.1, qup h.2 63 (.inl (12, (M63l x y).set 0 (.int 0)))) hZ (upd x 0 0) y F G xX yX FX → run 42 [(8, .int (nI 3)), (6, .long (s.2.2)), (4, .long (s.2.1)), (3, .int (s.1)), (0, .ref 63), (1, .int dr), (2, .int nv)] [] hZ 0 0 := by
          intro s hZ xX yX FX hst hX
          refine step.1 _ _ _ _ _ _ _ sgX12_ring_42_ok ?_
          refine ⟨fun c45 => ?_, fun c45 => absurd (show (3 : Int32) ≤ nI 3 from Int32.le_refl _) c45⟩
          
          refine step.1 _ _ _ _ _ _ _ sgX12_ring_116_ok ?_
          refine ⟨.int, rfl, rfl, Nat.le_refl _, Nat.le_refl _, ?_⟩
          exact Or.inl ⟨hD0, w23, ⟨a, b, ha, hb, ea, eb, by rw [hst]⟩, hX.mg hk0 hR0 rfl⟩
      have stp : ∀ (r : Nat) (s : rgS), r < 3 → ¬ s.1 = -1 → (∀ (hZ : qH) (xX : Nat → Int32) (yX : Nat → Int64) (FX : Nat → Nat → Int32), QN (h.1, qup h.2 63 (.inl (12, (M63l x y).set 0 (.int 0)))) hZ (upd x 0 0) y F G xX yX FX → run 42 [(8, .int (nI (r + 1))), (6, .long ((rgst (fun z => (vmean (fun z => vgift S.2.1.1 S.2.2.2.2.1.1.1 S.2.2.2.2.1.1.2.1 S.2.2.2.2.1.1.2.2 (nI S.2.2.2.1.2) a z 0) S.2.1.1 S.2.1.2.2.2.2.2.2.2.1 a z b).2.2.2.1) (fun z => ((vmean (fun z => vgift S.2.1.1 S.2.2.2.2.1.1.1 S.2.2.2.2.1.1.2.1 S.2.2.2.2.1.1.2.2 (nI S.2.2.2.1.2) a z 0) S.2.1.1 S.2.1.2.2.2.2.2.2.2.1 a z b).2.2.2.2 + (vmean (fun z => vgift S.2.1.1 S.2.2.2.2.1.1.1 S.2.2.2.2.1.1.2.1 S.2.2.2.2.1.1.2.2 (nI S.2.2.2.1.2) a z 0) S.2.1.1 S.2.1.2.2.2.2.2.2.2.1 a z b).2.2.1 * (S.2.1.1 (a * 10 + 9)).toInt64)) r s).2.2)), (4, .long ((rgst (fun z => (vmean (fun z => vgift S.2.1.1 S.2.2.2.2.1.1.1 S.2.2.2.2.1.1.2.1 S.2.2.2.2.1.1.2.2 (nI S.2.2.2.1.2) a z 0) S.2.1.1 S.2.1.2.2.2.2.2.2.2.1 a z b).2.2.2.1) (fun z => ((vmean (fun z => vgift S.2.1.1 S.2.2.2.2.1.1.1 S.2.2.2.2.1.1.2.1 S.2.2.2.2.1.1.2.2 (nI S.2.2.2.1.2) a z 0) S.2.1.1 S.2.1.2.2.2.2.2.2.2.1 a z b).2.2.2.2 + (vmean (fun z => vgift S.2.1.1 S.2.2.2.2.1.1.1 S.2.2.2.2.1.1.2.1 S.2.2.2.2.1.1.2.2 (nI S.2.2.2.1.2) a z 0) S.2.1.1 S.2.1.2.2.2.2.2.2.2.1 a z b).2.2.1 * (S.2.1.1 (a * 10 + 9)).toInt64)) r s).2.1)), (3, .int ((rgst (fun z => (vmean (fun z => vgift S.2.1.1 S.2.2.2.2.1.1.1 S.2.2.2.2.1.1.2.1 S.2.2.2.2.1.1.2.2 (nI S.2.2.2.1.2) a z 0) S.2.1.1 S.2.1.2.2.2.2.2.2.2.1 a z b).2.2.2.1) (fun z => ((vmean (fun z => vgift S.2.1.1 S.2.2.2.2.1.1.1 S.2.2.2.2.1.1.2.1 S.2.2.2.2.1.1.2.2 (nI S.2.2.2.1.2) a z 0) S.2.1.1 S.2.1.2.2.2.2.2.2.2.1 a z b).2.2.2.2 + (vmean (fun z => vgift S.2.1.1 S.2.2.2.2.1.1.1 S.2.2.2.2.1.1.2.1 S.2.2.2.2.1.1.2.2 (nI S.2.2.2.1.2) a z 0) S.2.1.1 S.2.1.2.2.2.2.2.2.2.1 a z b).2.2.1 * (S.2.1.1 (a * 10 + 9)).toInt64)) r s).1)), (0, .ref 63), (1, .int dr), (2, .int nv)] [] hZ 0 0) → ∀ (hZ : qH) (xX : Nat → Int32) (yX : Nat → Int64) (FX : Nat → Nat → Int32), QN (h.1, qup h.2 63 (.inl (12, (M63l x y).set 0 (.int 0)))) hZ (upd x 0 0) y F G xX yX FX → run 42 [(8, .int (nI r)), (6, .long (s.2.2)), (4, .long (s.2.1)), (3, .int (s.1)), (0, .ref 63), (1, .int dr), (2, .int nv)] [] hZ 0 0 := by
          intro r s hr hs1 nx hZ xX yX FX hX
          refine step.1 _ _ _ _ _ _ _ sgX12_ring_42_ok ?_
          refine ⟨fun c45 => absurd (show nI 3 ≤ nI r from c45) (h_nle (by omega) (by decide)), fun c45 => ?_⟩
          
          refine Or.inl ⟨rfl, _, 4, 0, 0, _, _, _, qi_12_385, ⟨rfl, rfl⟩, ⟨hX.1.1, rfl⟩, rfl, rfl, (by rw [ea, eb]; exact M_findMeans hg hX.1 (hX.R hR0) hI ha (r := r) (by omega) hb hI.1.1 hl 0), fun y54 h54 hy54 => ?_⟩
          obtain ⟨rfl, hQ⟩ := hy54
          obtain ⟨x1, y1, F1, hN, m1, m2, m3, m4, m5⟩ := hQ.n
          have hX1 := hX.tr hN
          refine ⟨fun c59 => absurd (show s.1 = -1 from c59) hs1, fun c59 => ?_⟩
          
          refine ⟨by decide, _, _, hX1.1.1, rfl, ?_⟩
          refine ⟨fun c69 => ?_, fun c69 => ?_⟩
          · have c69 : (fun z => (vmean (fun z => vgift S.2.1.1 S.2.2.2.2.1.1.1 S.2.2.2.2.1.1.2.1 S.2.2.2.2.1.1.2.2 (nI S.2.2.2.1.2) a z 0) S.2.1.1 S.2.1.2.2.2.2.2.2.2.1 a z b).2.2.2.1) r < s.2.1 := by have q := (lgc_lt _ _).mp c69; rw [m2] at q; exact q
            refine step.1 _ _ _ _ _ _ _ sgX12_ring_110_ok ?_
            have kk := nx h54 x1 y1 F1 hX1
            rw [show rgst (fun z => (vmean (fun z => vgift S.2.1.1 S.2.2.2.2.1.1.1 S.2.2.2.2.1.1.2.1 S.2.2.2.2.1.1.2.2 (nI S.2.2.2.1.2) a z 0) S.2.1.1 S.2.1.2.2.2.2.2.2.2.1 a z b).2.2.2.1) (fun z => ((vmean (fun z => vgift S.2.1.1 S.2.2.2.2.1.1.1 S.2.2.2.2.1.1.2.1 S.2.2.2.2.1.1.2.2 (nI S.2.2.2.1.2) a z 0) S.2.1.1 S.2.1.2.2.2.2.2.2.2.1 a z b).2.2.2.2 + (vmean (fun z => vgift S.2.1.1 S.2.2.2.2.1.1.1 S.2.2.2.2.1.1.2.1 S.2.2.2.2.1.1.2.2 (nI S.2.2.2.1.2) a z 0) S.2.1.1 S.2.1.2.2.2.2.2.2.2.1 a z b).2.2.1 * (S.2.1.1 (a * 10 + 9)).toInt64)) r s = s from if_neg (fun q => q.elim (fun z => absurd c69 (Int64.not_lt.mpr (Int64.le_of_lt z))) (fun z => absurd c69 (by rw [z.1]; exact Int64.lt_irrefl))), ← nI_1] at kk
            exact kk
          · have c69 : ¬ (fun z => (vmean (fun z => vgift S.2.1.1 S.2.2.2.2.1.1.1 S.2.2.2.2.1.1.2.1 S.2.2.2.2.1.1.2.2 (nI S.2.2.2.1.2) a z 0) S.2.1.1 S.2.1.2.2.2.2.2.2.2.1 a z b).2.2.2.1) r < s.2.1 := fun q => c69 ((lgc_lt _ _).mpr (by rw [m2]; exact q))
            refine ⟨by decide, _, _, hX1.1.1, rfl, ?_⟩
            refine ⟨fun c79 => ?_, fun c79 => ?_⟩
            · have c79 : ¬ (fun z => (vmean (fun z => vgift S.2.1.1 S.2.2.2.2.1.1.1 S.2.2.2.2.1.1.2.1 S.2.2.2.2.1.1.2.2 (nI S.2.2.2.1.2) a z 0) S.2.1.1 S.2.1.2.2.2.2.2.2.2.1 a z b).2.2.2.1) r = s.2.1 := fun q => c79 ((lgc0 _ _).mpr (by rw [m2]; exact q))
              refine step.1 _ _ _ _ _ _ _ sgX12_ring_95_ok ?_
              refine ⟨by decide, _, _, hX1.1.1, rfl, ?_⟩
              refine ⟨by decide, _, _, hX1.1.1, rfl, ?_⟩
              refine step.1 _ _ _ _ _ _ _ sgX12_ring_110_ok ?_
              have kk := nx h54 x1 y1 F1 hX1
              rw [show rgst (fun z => (vmean (fun z => vgift S.2.1.1 S.2.2.2.2.1.1.1 S.2.2.2.2.1.1.2.1 S.2.2.2.2.1.1.2.2 (nI S.2.2.2.1.2) a z 0) S.2.1.1 S.2.1.2.2.2.2.2.2.2.1 a z b).2.2.2.1) (fun z => ((vmean (fun z => vgift S.2.1.1 S.2.2.2.2.1.1.1 S.2.2.2.2.1.1.2.1 S.2.2.2.2.1.1.2.2 (nI S.2.2.2.1.2) a z 0) S.2.1.1 S.2.1.2.2.2.2.2.2.2.1 a z b).2.2.2.2 + (vmean (fun z => vgift S.2.1.1 S.2.2.2.2.1.1.1 S.2.2.2.2.1.1.2.1 S.2.2.2.2.1.1.2.2 (nI S.2.2.2.1.2) a z 0) S.2.1.1 S.2.1.2.2.2.2.2.2.2.1 a z b).2.2.1 * (S.2.1.1 (a * 10 + 9)).toInt64)) r s = (nI r, (fun z => (vmean (fun z => vgift S.2.1.1 S.2.2.2.2.1.1.1 S.2.2.2.2.1.1.2.1 S.2.2.2.2.1.1.2.2 (nI S.2.2.2.1.2) a z 0) S.2.1.1 S.2.1.2.2.2.2.2.2.2.1 a z b).2.2.2.1) r, (fun z => ((vmean (fun z => vgift S.2.1.1 S.2.2.2.2.1.1.1 S.2.2.2.2.1.1.2.1 S.2.2.2.2.1.1.2.2 (nI S.2.2.2.1.2) a z 0) S.2.1.1 S.2.1.2.2.2.2.2.2.2.1 a z b).2.2.2.2 + (vmean (fun z => vgift S.2.1.1 S.2.2.2.2.1.1.1 S.2.2.2.2.1.1.2.1 S.2.2.2.2.1.1.2.2 (nI S.2.2.2.1.2) a z 0) S.2.1.1 S.2.1.2.2.2.2.2.2.2.1 a z b).2.2.1 * (S.2.1.1 (a * 10 + 9)).toInt64)) r) from if_pos (Or.inl (Int64.lt_of_le_of_ne (Int64.not_lt.mp c69) (fun q => c79 q.symm))), ← nI_1] at kk
              rw [m2, m4]
              exact kk
            · have c79 : (fun z => (vmean (fun z => vgift S.2.1.1 S.2.2.2.2.1.1.1 S.2.2.2.2.1.1.2.1 S.2.2.2.2.1.1.2.2 (nI S.2.2.2.1.2) a z 0) S.2.1.1 S.2.1.2.2.2.2.2.2.2.1 a z b).2.2.2.1) r = s.2.1 := m2.symm.trans ((lgc0 _ _).mp c79)
              refine ⟨by decide, _, _, hX1.1.1, rfl, ?_⟩
              refine ⟨fun c89 => ?_, fun c89 => ?_⟩
              · have c89 : (fun z => ((vmean (fun z => vgift S.2.1.1 S.2.2.2.2.1.1.1 S.2.2.2.2.1.1.2.1 S.2.2.2.2.1.1.2.2 (nI S.2.2.2.1.2) a z 0) S.2.1.1 S.2.1.2.2.2.2.2.2.2.1 a z b).2.2.2.2 + (vmean (fun z => vgift S.2.1.1 S.2.2.2.2.1.1.1 S.2.2.2.2.1.1.2.1 S.2.2.2.2.1.1.2.2 (nI S.2.2.2.1.2) a z 0) S.2.1.1 S.2.1.2.2.2.2.2.2.2.1 a z b).2.2.1 * (S.2.1.1 (a * 10 + 9)).toInt64)) r < s.2.2 := by have q := (lgc_lt _ _).mp c89; rw [m4] at q; exact q
                refine step.1 _ _ _ _ _ _ _ sgX12_ring_95_ok ?_
                refine ⟨by decide, _, _, hX1.1.1, rfl, ?_⟩
                refine ⟨by decide, _, _, hX1.1.1, rfl, ?_⟩
                refine step.1 _ _ _ _ _ _ _ sgX12_ring_110_ok ?_
                have kk := nx h54 x1 y1 F1 hX1
                rw [show rgst (fun z => (vmean (fun z => vgift S.2.1.1 S.2.2.2.2.1.1.1 S.2.2.2.2.1.1.2.1 S.2.2.2.2.1.1.2.2 (nI S.2.2.2.1.2) a z 0) S.2.1.1 S.2.1.2.2.2.2.2.2.2.1 a z b).2.2.2.1) (fun z => ((vmean (fun z => vgift S.2.1.1 S.2.2.2.2.1.1.1 S.2.2.2.2.1.1.2.1 S.2.2.2.2.1.1.2.2 (nI S.2.2.2.1.2) a z 0) S.2.1.1 S.2.1.2.2.2.2.2.2.2.1 a z b).2.2.2.2 + (vmean (fun z => vgift S.2.1.1 S.2.2.2.2.1.1.1 S.2.2.2.2.1.1.2.1 S.2.2.2.2.1.1.2.2 (nI S.2.2.2.1.2) a z 0) S.2.1.1 S.2.1.2.2.2.2.2.2.2.1 a z b).2.2.1 * (S.2.1.1 (a * 10 + 9)).toInt64)) r s = (nI r, (fun z => (vmean (fun z => vgift S.2.1.1 S.2.2.2.2.1.1.1 S.2.2.2.2.1.1.2.1 S.2.2.2.2.1.1.2.2 (nI S.2.2.2.1.2) a z 0) S.2.1.1 S.2.1.2.2.2.2.2.2.2.1 a z b).2.2.2.1) r, (fun z => ((vmean (fun z => vgift S.2.1.1 S.2.2.2.2.1.1.1 S.2.2.2.2.1.1.2.1 S.2.2.2.2.1.1.2.2 (nI S.2.2.2.1.2) a z 0) S.2.1.1 S.2.1.2.2.2.2.2.2.2.1 a z b).2.2.2.2 + (vmean (fun z => vgift S.2.1.1 S.2.2.2.2.1.1.1 S.2.2.2.2.1.1.2.1 S.2.2.2.2.1.1.2.2 (nI S.2.2.2.1.2) a z 0) S.2.1.1 S.2.1.2.2.2.2.2.2.2.1 a z b).2.2.1 * (S.2.1.1 (a * 10 + 9)).toInt64)) r) from if_pos (Or.inr ⟨c79, c89⟩), ← nI_1] at kk
                rw [m2, m4]
                exact kk
              · have c89 : ¬ (fun z => ((vmean (fun z => vgift S.2.1.1 S.2.2.2.2.1.1.1 S.2.2.2.2.1.1.2.1 S.2.2.2.2.1.1.2.2 (nI S.2.2.2.1.2) a z 0) S.2.1.1 S.2.1.2.2.2.2.2.2.2.1 a z b).2.2.2.2 + (vmean (fun z => vgift S.2.1.1 S.2.2.2.2.1.1.1 S.2.2.2.2.1.1.2.1 S.2.2.2.2.1.1.2.2 (nI S.2.2.2.1.2) a z 0) S.2.1.1 S.2.1.2.2.2.2.2.2.2.1 a z b).2.2.1 * (S.2.1.1 (a * 10 + 9)).toInt64)) r < s.2.2 := fun q => c89 ((lgc_lt _ _).mpr (by rw [m4]; exact q))
                refine step.1 _ _ _ _ _ _ _ sgX12_ring_110_ok ?_
                have kk := nx h54 x1 y1 F1 hX1
                rw [show rgst (fun z => (vmean (fun z => vgift S.2.1.1 S.2.2.2.2.1.1.1 S.2.2.2.2.1.1.2.1 S.2.2.2.2.1.1.2.2 (nI S.2.2.2.1.2) a z 0) S.2.1.1 S.2.1.2.2.2.2.2.2.2.1 a z b).2.2.2.1) (fun z => ((vmean (fun z => vgift S.2.1.1 S.2.2.2.2.1.1.1 S.2.2.2.2.1.1.2.1 S.2.2.2.2.1.1.2.2 (nI S.2.2.2.1.2) a z 0) S.2.1.1 S.2.1.2.2.2.2.2.2.2.1 a z b).2.2.2.2 + (vmean (fun z => vgift S.2.1.1 S.2.2.2.2.1.1.1 S.2.2.2.2.1.1.2.1 S.2.2.2.2.1.1.2.2 (nI S.2.2.2.1.2) a z 0) S.2.1.1 S.2.1.2.2.2.2.2.2.2.1 a z b).2.2.1 * (S.2.1.1 (a * 10 + 9)).toInt64)) r s = s from if_neg (fun q => q.elim (fun z => absurd z (by rw [c79]; exact Int64.lt_irrefl)) (fun z => c89 z.2)), ← nI_1] at kk
                exact kk
      have at1 := stp 1 (0, (fun z => (vmean (fun z => vgift S.2.1.1 S.2.2.2.2.1.1.1 S.2.2.2.2.1.1.2.1 S.2.2.2.2.1.1.2.2 (nI S.2.2.2.1.2) a z 0) S.2.1.1 S.2.1.2.2.2.2.2.2.2.1 a z b).2.2.2.1) 0, (fun z => ((vmean (fun z => vgift S.2.1.1 S.2.2.2.2.1.1.1 S.2.2.2.2.1.1.2.1 S.2.2.2.2.1.1.2.2 (nI S.2.2.2.1.2) a z 0) S.2.1.1 S.2.1.2.2.2.2.2.2.2.1 a z b).2.2.2.2 + (vmean (fun z => vgift S.2.1.1 S.2.2.2.2.1.1.1 S.2.2.2.2.1.1.2.1 S.2.2.2.2.1.1.2.2 (nI S.2.2.2.1.2) a z 0) S.2.1.1 S.2.1.2.2.2.2.2.2.2.1 a z b).2.2.1 * (S.2.1.1 (a * 10 + 9)).toInt64)) 0) (by decide) (show ¬ (0 : Int32) = -1 by decide) (stp 2 (rgst (fun z => (vmean (fun z => vgift S.2.1.1 S.2.2.2.2.1.1.1 S.2.2.2.2.1.1.2.1 S.2.2.2.2.1.1.2.2 (nI S.2.2.2.1.2) a z 0) S.2.1.1 S.2.1.2.2.2.2.2.2.2.1 a z b).2.2.2.1) (fun z => ((vmean (fun z => vgift S.2.1.1 S.2.2.2.2.1.1.1 S.2.2.2.2.1.1.2.1 S.2.2.2.2.1.1.2.2 (nI S.2.2.2.1.2) a z 0) S.2.1.1 S.2.1.2.2.2.2.2.2.2.1 a z b).2.2.2.2 + (vmean (fun z => vgift S.2.1.1 S.2.2.2.2.1.1.1 S.2.2.2.2.1.1.2.1 S.2.2.2.2.1.1.2.2 (nI S.2.2.2.1.2) a z 0) S.2.1.1 S.2.1.2.2.2.2.2.2.2.1 a z b).2.2.1 * (S.2.1.1 (a * 10 + 9)).toInt64)) 1 (0, (fun z => (vmean (fun z => vgift S.2.1.1 S.2.2.2.2.1.1.1 S.2.2.2.2.1.1.2.1 S.2.2.2.2.1.1.2.2 (nI S.2.2.2.1.2) a z 0) S.2.1.1 S.2.1.2.2.2.2.2.2.2.1 a z b).2.2.2.1) 0, (fun z => ((vmean (fun z => vgift S.2.1.1 S.2.2.2.2.1.1.1 S.2.2.2.2.1.1.2.1 S.2.2.2.2.1.1.2.2 (nI S.2.2.2.1.2) a z 0) S.2.1.1 S.2.1.2.2.2.2.2.2.2.1 a z b).2.2.2.2 + (vmean (fun z => vgift S.2.1.1 S.2.2.2.2.1.1.1 S.2.2.2.2.1.1.2.1 S.2.2.2.2.1.1.2.2 (nI S.2.2.2.1.2) a z 0) S.2.1.1 S.2.1.2.2.2.2.2.2.2.1 a z b).2.2.1 * (S.2.1.1 (a * 10 + 9)).toInt64)) 0)) (by decide) (by
          unfold rgst
          split
          · show ¬ nI 1 = -1; decide
          · show ¬ (0 : Int32) = -1; decide) (fun hZ xX yX FX hX => at3 _ hZ xX yX FX rfl hX))
      refine ⟨fun _ => ?_, fun c26 => absurd c26 (by decide)⟩
      refine step.1 _ _ _ _ _ _ _ sgX12_ring_31_ok ?_
      refine step.1 _ _ _ _ _ _ _ sgX12_ring_42_ok ?_
      refine ⟨fun c45 => absurd c45 (by decide), fun _ => ?_⟩
      refine Or.inl ⟨rfl, _, 4, 0, 0, _, _, _, qi_12_385, ⟨rfl, rfl⟩, ⟨hX.1.1, rfl⟩, rfl, rfl, (by rw [ea, eb]; exact M_findMeans hg hX.1 (hX.R hR0) hI ha (r := 0) (by omega) hb hI.1.1 hl 0), fun y54 h54 hy54 => ?_⟩
      obtain ⟨rfl, hQ⟩ := hy54
      obtain ⟨x1, y1, F1, hN, m1, m2, m3, m4, m5⟩ := hQ.n
      have hX1 := hX.tr hN
      refine ⟨fun _ => ?_, fun c59 => absurd c59 (by decide)⟩
      refine step.1 _ _ _ _ _ _ _ sgX12_ring_95_ok ?_
      refine ⟨by decide, _, _, hX1.1.1, rfl, ?_⟩
      refine ⟨by decide, _, _, hX1.1.1, rfl, ?_⟩
      refine step.1 _ _ _ _ _ _ _ sgX12_ring_110_ok ?_
      rw [m2, m4]
      exact at1 h54 x1 y1 F1 hX1
end Q11J
