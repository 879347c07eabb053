section Q13A
set_option maxHeartbeats 4000000 in
theorem M_plan {g : qG} (hg : qOK g) {h : qH} {x : Nat → Int32} {y : Nat → Int64} {F : Nat → Nat → Int32} {G : Nat → Nat → Int64} (hM : MX h x y F G) {S : CS} (hR : Rel S x F) (hI : INV S) (hJ : qJDK g) (hW : qMW g) {f : Nat → Nat} {len : Nat} (hrb : rbr f len) (P4 : Nat → Int32) (v : Int32) : qSpec g 8 0 0 mX12_plan [.ref 63, .int v] h (fun r h' => ((tOK S.1.2.1 150 v = true) ∧ (∃ n : Nat, n ≤ S.1.2.1 ∧ n ≤ 150 ∧ v = nI n ∧ (if pbad (pprun S.1.1 n f len S.2.1.2.2.2.1 11 0 (Sum.inr 0, va_cpy S.2.1.2.1 P4 0 0 30, 0)).1 = true then r = some (.int (pki (pprun S.1.1 n f len S.2.1.2.2.2.1 11 0 (Sum.inr 0, va_cpy S.2.1.2.1 P4 0 0 30, 0)).1 - 10)) ∧ MG h h' ((S.1.1, 0, ppl (pprun S.1.1 n f len S.2.1.2.2.2.1 11 0 (Sum.inr 0, va_cpy S.2.1.2.1 P4 0 0 30, 0)).1), S.2) else r = some (.int (nI (pprun S.1.1 n f len S.2.1.2.2.2.1 11 0 (Sum.inr 0, va_cpy S.2.1.2.1 P4 0 0 30, 0)).2.2)) ∧ LG (pprun S.1.1 n f len S.2.1.2.2.2.1 11 0 (Sum.inr 0, va_cpy S.2.1.2.1 P4 0 0 30, 0)).2.1 (pprun S.1.1 n f len S.2.1.2.2.2.1 11 0 (Sum.inr 0, va_cpy S.2.1.2.1 P4 0 0 30, 0)).2.2 S.2.1.2.2.2.1 ∧ MG h h' ((S.1.1, 0, ppl (pprun S.1.1 n f len S.2.1.2.2.2.1 11 0 (Sum.inr 0, va_cpy S.2.1.2.1 P4 0 0 30, 0)).1), (S.2.1.1, va_cpy (pprun S.1.1 n f len S.2.1.2.2.2.1 11 0 (Sum.inr 0, va_cpy S.2.1.2.1 P4 0 0 30, 0)).2.1 S.2.1.2.1 0 0 30, S.2.1.2.2.1, S.2.1.2.2.2.1, (pprun S.1.1 n f len S.2.1.2.2.2.1 11 0 (Sum.inr 0, va_cpy S.2.1.2.1 P4 0 0 30, 0)).2.2, 0, S.2.1.2.2.2.2.2.2), S.2.2)))) ∨ ∃ (k : Nat) (c : Int32), ((k = 1 ∧ c = 1 ∧ ¬ (tOK S.1.2.1 150 v = true))) ∧ (∃ z, r = some (.int z)) ∧ mbad h h' S k c) := by
  refine qSpec_run 12 "plan" false hg mX12_plan_ok rfl rfl (Nat.le_of_ble_eq_true rfl) (by decide) ?_
  intro run step
  have hhe := hI.1
  have hn10 := hI.2.1.1.1
  have e2 : (upd x 0 0) 2 = nI S.1.2.1 := hR.1.1
  refine step.1 _ _ _ _ _ _ _ sgX12_plan_0_ok ?_
  refine ⟨_, hM.1, Nat.le_of_ble_eq_true rfl, rfl, ?_⟩
  have hM0 := hM.p63 (sI_0 (v := 0) (rfl : _ = M63l x y))
  have hR0 : Rel S (upd x 0 0) F := hR.t 0
  have hk0 := kp.rf (h := h) |>.u (k := 63) (e := .inl (12, (M63l x y).set 0 (.int 0))) (by decide) (by decide)
  refine ⟨fun c7 => ?_, fun c7 => ?_⟩
  · have w7 : tOK S.1.2.1 150 v = false := tOK_f (Or.inl c7)
    refine step.1 _ _ _ _ _ _ _ sgX12_plan_29_ok ?_
    refine step.1 _ _ _ _ _ _ _ sgX12_plan_30_ok ?_
    refine Or.inl ⟨rfl, _, 1, 0, 0, _, _, _, qi_12_247, ⟨rfl, rfl⟩, ⟨hM0.1, rfl⟩, rfl, rfl, M_mayB hg hM0 hR0 rfl 1 (by decide) 1 (by decide), fun y32 h32 hy32 => ?_⟩
    obtain ⟨rfl, hb⟩ := hy32
    refine ⟨fun c35 => absurd c35 (by decide), fun _ => ?_⟩
    refine ⟨.int, rfl, rfl, Nat.le_refl _, Nat.le_refl _, ?_⟩
    exact Or.inr ⟨1, 1, ⟨rfl, rfl, (by rw [w7]; decide)⟩, ⟨_, rfl⟩, mbad.l hk0 hb⟩
  · refine ⟨by decide, _, _, hM0.1, rfl, ?_⟩
    refine ⟨fun c15 => ?_, fun c15 => ?_⟩
    · have w15 : tOK S.1.2.1 150 v = false := tOK_f (Or.inr (by rw [← e2]; exact c15))
      refine step.1 _ _ _ _ _ _ _ sgX12_plan_29_ok ?_
      refine step.1 _ _ _ _ _ _ _ sgX12_plan_30_ok ?_
      refine Or.inl ⟨rfl, _, 1, 0, 0, _, _, _, qi_12_247, ⟨rfl, rfl⟩, ⟨hM0.1, rfl⟩, rfl, rfl, M_mayB hg hM0 hR0 rfl 1 (by decide) 1 (by decide), fun y32 h32 hy32 => ?_⟩
      obtain ⟨rfl, hb⟩ := hy32
      refine ⟨fun c35 => absurd c35 (by decide), fun _ => ?_⟩
      refine ⟨.int, rfl, rfl, Nat.le_refl _, Nat.le_refl _, ?_⟩
      exact Or.inr ⟨1, 1, ⟨rfl, rfl, (by rw [w15]; decide)⟩, ⟨_, rfl⟩, mbad.l hk0 hb⟩
    · refine ⟨fun c22 => ?_, fun c22 => ?_⟩
      · have w22 : tOK S.1.2.1 150 v = false := tOK_g (m := 150) c22
        refine step.1 _ _ _ _ _ _ _ sgX12_plan_29_ok ?_
        refine step.1 _ _ _ _ _ _ _ sgX12_plan_30_ok ?_
        refine Or.inl ⟨rfl, _, 1, 0, 0, _, _, _, qi_12_247, ⟨rfl, rfl⟩, ⟨hM0.1, rfl⟩, rfl, rfl, M_mayB hg hM0 hR0 rfl 1 (by decide) 1 (by decide), fun y32 h32 hy32 => ?_⟩
        obtain ⟨rfl, hb⟩ := hy32
        refine ⟨fun c35 => absurd c35 (by decide), fun _ => ?_⟩
        refine ⟨.int, rfl, rfl, Nat.le_refl _, Nat.le_refl _, ?_⟩
        exact Or.inr ⟨1, 1, ⟨rfl, rfl, (by rw [w22]; decide)⟩, ⟨_, rfl⟩, mbad.l hk0 hb⟩
      · have hWv : tOK S.1.2.1 150 v = true := tOK_t (m := 150) c7 (by rw [← e2]; exact c15) c22
        obtain ⟨n, hnh, hn6, rfl⟩ : ∃ n : Nat, n ≤ S.1.2.1 ∧ n ≤ 150 ∧ v = nI n := by
          obtain ⟨n, h1, h2, _, h3⟩ := tOK_nat (m := 150) (by decide) hhe hWv
          exact ⟨n, h2, h1, h3⟩
        have hn600 : n ≤ 600 := by omega
        have hB0 : mB (h.1, qup h.2 63 (.inl (12, (M63l x y).set 0 (.int 0)))) S.1.1 := hR0.mB hM0
        refine step.1 _ _ _ _ _ _ _ sgX12_plan_30_ok ?_
        refine Or.inl ⟨rfl, _, 1, 0, 0, _, _, _, qi_12_247, ⟨rfl, rfl⟩, ⟨hM0.1, rfl⟩, rfl, rfl, M_may hg hM0.1 rfl _ _, fun y32 h32 hy32 => ?_⟩
        obtain ⟨rfl, hh⟩ := hy32
        rw [hh]
        clear hh
        have at237 : ∀ (i gm : Nat) (hX : qH) (x1 : Nat → Int32) (s : PS) (V : PD) (nl : Nat → Int32), VT [63, 77] 77 30 nl 77 30 nl (h.1, qup h.2 63 (.inl (12, (M63l x y).set 0 (.int 0)))) hX (upd x 0 0) x1 y n s → (pprun S.1.1 n f len S.2.1.2.2.2.1 11 0 (Sum.inr 0, va_cpy S.2.1.2.1 P4 0 0 30, 0)) = (s, V) → (pbad s = false → V.2 = i ∧ ag (i * 3) nl V.1 ∧ LG V.1 i S.2.1.2.2.2.1) → run 237 [(3, .int (nI gm)), (2, .int (nI i)), (0, .ref 63), (1, .int (nI n))] [] hX 0 0 := by
          intro i gm hX x1 s V nl hV hR1 hgd
          refine step.1 _ _ _ _ _ _ _ sgX12_plan_237_ok ?_
          refine Or.inl ⟨rfl, _, 2, 0, 0, _, _, _, qi_12_272, ⟨rfl, rfl⟩, ⟨hV.1, rfl⟩, rfl, rfl, M_result hg hV.1 hV.2.2.2.2.1 (nI i), fun y239 h239 hy239 => ?_⟩
          obtain ⟨rfl, x3, g1, g2, g4, g5, g6⟩ := hy239
          have hs3 : same (h.1, qup h.2 63 (.inl (12, (M63l x y).set 0 (.int 0)))) h239 [63, 77] := same.tr (l := [63, 77]) hV.2.1 g2 (by simp) (by simp)
          have hn2 := (g2.2 77 (by decide)).trans hV.2.2.2.2.2.1
          obtain ⟨FZ, hFZ⟩ : ∃ FZ : Nat → Nat → Int32, fup F 77 nl = FZ := ⟨_, rfl⟩
          have hMZ : MX h239 x3 y FZ G := by
            rw [← hFZ]
            refine ⟨g1, fun j b1 b2 => ?_⟩
            by_cases c6 : j = 77
            · subst c6; exact hn2
            · rw [mcell_f c6, hs3.2 j (by simp; omega)]
              exact hM0.2 j b1 b2
          have hkZ : kp h h239 := hk0.s hs3 (by simp)
          refine ⟨by decide, _, _, hMZ.1, rfl, ?_⟩
          refine ⟨fun c249 => ?_, fun c249 => ?_⟩
          · have hsb : pbad s = false := by
              cases s with
              | inr a => rfl
              | inl e => exact absurd (g6.2.2.2.1.symm.trans c249) (mne g6.2.2.2.2)
            refine step.1 _ _ _ _ _ _ _ sgX12_plan_255_ok ?_
            refine ⟨_, hMZ.1, Nat.le_of_ble_eq_true rfl, rfl, ?_⟩
            have hM4 : MX _ (upd x3 36 (nI i)) y FZ G := hMZ.p63 (sI_36 rfl)
            refine ⟨by decide, _, _, hM4.1, rfl, ?_⟩
            refine ⟨by decide, _, _, hM4.1, rfl, ?_⟩
            refine Or.inl ⟨rfl, _, 1, 0, 0, _, _, _, qi_12_186, ⟨rfl, rfl⟩, ⟨hM4.1, rfl⟩, rfl, rfl, (by rw [nI_3]; exact M_copies hg (a := 77) (b := 78) (sa := 30) (sb := 30) (n := i * 3) hM4.c77 hM4.c78 (by decide) (by have := (hgd hsb).2.2.le; omega) (by have := (hgd hsb).2.2.le; omega) (by decide) (by decide)), fun y272 h272 hy272 => ?_⟩
            obtain ⟨rfl, k1, k2⟩ := hy272
            have hM5 : MX h272 (upd x3 36 (nI i)) y (fup FZ 78 (cp (FZ 77) (FZ 78) (i * 3))) G := hM4.vk (by decide) k1 (fun j hj => k2.2 j (by simpa using hj))
            have hk5 := (hkZ.u (k := 63) (e := .inl (12, M63l (upd x3 36 (nI i)) y)) (by decide) (by decide)).s k2 (by simp)
            refine ⟨_, hM5.1, Nat.le_of_ble_eq_true rfl, rfl, ?_⟩
            refine ⟨.int, rfl, rfl, Nat.le_refl _, Nat.le_refl _, ?_⟩
            refine Or.inl ⟨hWv, n, hnh, hn6, rfl, ?_⟩
            rw [hR1, if_neg (by rw [hsb]; decide)]
            have hx8 : x3 8 = ppl s := g5
            obtain ⟨eV, hag, hLG⟩ := hgd hsb
            have eV' : (s, V).2.2 = i := eV
            have hi10 : i ≤ 10 := Nat.le_trans hLG.le hn10
            rw [eV']
            refine ⟨congrArg (fun z => some (Value.int z)) (if_neg (by rw [hsb]; decide)), hLG, _, y, _, G, (hM5.p63 (sI_62 rfl)), hk5.u (k := 63) (by decide) (by decide), hR0.plan ((g4 2 (by decide)).trans hV.2.2.2.1) hx8 rfl rfl (fun k hk => ?_) (fun j hj => ?_) (fun j hj => ?_), ?_⟩
            · simp at hk
              rw [upd_n (by omega), upd_n (by omega), g4 k (by simp; omega)]
              exact hV.2.2.1 k (by simp; omega)
            · simp at hj
              rw [fup_n (by omega), ← hFZ, fup_n (by omega)]
            · show cp (FZ 77) (FZ 78) (i * 3) j = va_cpy V.1 S.2.1.2.1 0 0 30 j
              rw [cpy_at (by omega), ← hFZ]
              exact (if_pos hj).trans (hag j hj)
            · show x3 0 = 0
              rw [g4 0 (by decide)]
              exact hV.2.2.1 0 (by decide)
          · have hsb : pbad s = true := by
              cases s with
              | inl e => rfl
              | inr a => exact absurd g6.2.2.1 c249
            refine ⟨.int, rfl, rfl, Nat.le_refl _, Nat.le_refl _, ?_⟩
            refine Or.inl ⟨hWv, n, hnh, hn6, rfl, ?_⟩
            rw [hR1]
            have hx8 : x3 8 = ppl s := g5
            rw [if_pos hsb]
            refine ⟨congrArg (fun z => some (Value.int z)) (if_pos hsb), x3, y, FZ, G, hMZ, hkZ, hR0.told ((g4 2 (by decide)).trans hV.2.2.2.1) hx8 (fun k hk => ?_) (fun j hj => ?_), ?_⟩
            · rw [g4 k (fun q => by simp at q; subst q; simp at hk)]
              exact hV.2.2.1 k (fun q => by simp at q hk; omega)
            · simp at hj
              rw [← hFZ, fup_n (by omega)]
            · rw [g4 0 (by decide)]
              exact hV.2.2.1 0 (by decide)
        have bad49 : ∀ (i gm : Nat) (hX : qH) (x1 : Nat → Int32) (s : PS) (V : PD) (nl : Nat → Int32), pbad s = true → VT [63, 77] 77 30 nl 77 30 nl (h.1, qup h.2 63 (.inl (12, (M63l x y).set 0 (.int 0)))) hX (upd x 0 0) x1 y n s → (pprun S.1.1 n f len S.2.1.2.2.2.1 11 0 (Sum.inr 0, va_cpy S.2.1.2.1 P4 0 0 30, 0)) = (s, V) → run 49 [(3, .int (nI gm)), (2, .int (nI i)), (0, .ref 63), (1, .int (nI n))] [] hX 0 0 := by
          intro i gm hX x1 s V nl hb hV hR1
          refine step.1 _ _ _ _ _ _ _ sgX12_plan_49_ok ?_
          refine Or.inl ⟨rfl, _, 1, 0, 0, _, _, _, qi_12_142, ⟨rfl, rfl⟩, ⟨hV.1, rfl⟩, rfl, rfl, M_fineS hg hV.1 hV.2.2.2.2.1, fun y50 h50 hy50 => ?_⟩
          obtain ⟨rfl, hh⟩ := hy50
          rw [hh]
          clear hh
          refine ⟨fun c53 => ?_, fun c53 => absurd hb (by have q := qb_1.mp c53; simpa using q)⟩
          
          exact at237 i gm hX x1 s V nl hV hR1 (fun q => by rw [hb] at q; cases q)
        have loop : ∀ (m i gm : Nat) (hX : qH) (x1 : Nat → Int32) (s : PS) (V : PD) (nl : Nat → Int32), m + i = 11 → (i = 11 → pbad s = true) → VT [63, 77] 77 30 nl 77 30 nl (h.1, qup h.2 63 (.inl (12, (M63l x y).set 0 (.int 0)))) hX (upd x 0 0) x1 y n s → (pprun S.1.1 n f len S.2.1.2.2.2.1 11 0 (Sum.inr 0, va_cpy S.2.1.2.1 P4 0 0 30, 0)) = pprun S.1.1 n f len S.2.1.2.2.2.1 m i (s, V) → (pbad s = false → V.2 = i ∧ ag (i * 3) nl V.1 ∧ LG V.1 i S.2.1.2.2.2.1 ∧ GB gm V.1 i) → run 49 [(3, .int (nI gm)), (2, .int (nI i)), (0, .ref 63), (1, .int (nI n))] [] hX 0 0 := by
          intro m
          induction m with
          | zero =>
            intro i gm hX x1 s V nl hm h61 hV hR1 hgd
            exact bad49 i gm hX x1 s V nl (h61 (by omega)) hV hR1
          | succ m ih =>
            intro i gm hX x1 s V nl hm h61 hV hR1 hgd
            cases s with
            | inl e => exact bad49 i gm hX x1 (.inl e) V nl rfl hV hR1
            | inr a =>
              refine step.1 _ _ _ _ _ _ _ sgX12_plan_49_ok ?_
              refine Or.inl ⟨rfl, _, 1, 0, 0, _, _, _, qi_12_142, ⟨rfl, rfl⟩, ⟨hV.1, rfl⟩, rfl, rfl, M_fineS hg hV.1 hV.2.2.2.2.1, fun y50 h50 hy50 => ?_⟩
              obtain ⟨rfl, hh⟩ := hy50
              rw [hh]
              clear hh
              refine ⟨fun c53 => absurd (show (1 : Int32) = 0 from c53) (by decide), fun c53 => ?_⟩
              
              refine Or.inl ⟨rfl, _, 2, 0, 0, _, _, _, qi_12_254, ⟨rfl, rfl⟩, ⟨hV.1, rfl⟩, rfl, rfl, M_isMore hg hV.1 hV.2.2.2.2.1 (hB0.sm hV.2.1 (by decide)), fun y57 h57 hy57 => ?_⟩
              obtain ⟨rfl, hP⟩ := hy57
              obtain ⟨x2, hV2, -, -⟩ := hV.st hP (by simp) (by decide) (by decide) (by decide)
              refine ⟨fun c60 => ?_, fun c60 => ?_⟩
              · have hend : n ≤ (sk S.1.1 n a) := Nat.le_of_not_lt (of_decide_eq_false (qb_0.mp c60))
                exact at237 i gm h57 x2 _ V nl hV2 (hR1.trans (if_pos (tby_end hend))) (fun q => ⟨(hgd rfl).1, (hgd rfl).2.1, (hgd rfl).2.2.1⟩)
              · have hlt : (sk S.1.1 n a) < n := of_decide_eq_true (qb_1.mp c60)
                have hR2c : (pprun S.1.1 n f len S.2.1.2.2.2.1 11 0 (Sum.inr 0, va_cpy S.2.1.2.1 P4 0 0 30, 0)) = pprun S.1.1 n f len S.2.1.2.2.2.1 m (i + 1) (pline S.1.1 n f len S.2.1.2.2.2.1 i (sk S.1.1 n a) V) := by
                  rw [hR1]
                  exact if_neg (by rw [tby_lt hlt]; exact b255_ne _)
                have hAn : (sk S.1.1 n a) ≤ n := by omega
                have hsA : sk S.1.1 n (sk S.1.1 n a) = (sk S.1.1 n a) := sk_sk S.1.1 hV.2.2.2.2.1.2.2.2.2
                have e4 : x2 4 = nI (sk S.1.1 n a) := hV2.2.2.2.2.1.2.2.2.1
                have e19 : x2 19 = nI S.2.1.2.2.2.1 := (hV2.2.2.1 19 (by decide)).trans hR.1.2.2.1
                have at174 : ∀ (hZ : qH) (x6 : Nat → Int32) (s4 : PS) (rg : Int32), VT [63, 77] 77 30 nl 77 30 nl (h.1, qup h.2 63 (.inl (12, (M63l x y).set 0 (.int 0)))) hZ (upd x 0 0) x6 y n s4 → psign S.1.1 n 59 s4 = (plineS S.1.1 n f len S.2.1.2.2.2.1 i (sk S.1.1 n a) V.1) → (pbad (plineS S.1.1 n f len S.2.1.2.2.2.1 i (sk S.1.1 n a) V.1) = false → rg = (pring S.1.1 n f len (pnum S.1.1 n 0 5 (pln1 S.1.1 n S.2.1.2.2.2.1 i (sk S.1.1 n (sk S.1.1 n a)) V.1 (Sum.inr (sk S.1.1 n a)))).1).2) → (∀ b' : Nat, (pnum S.1.1 n 0 5 (pln1 S.1.1 n S.2.1.2.2.2.1 i (sk S.1.1 n (sk S.1.1 n a)) V.1 (Sum.inr (sk S.1.1 n a)))).1 = .inr b' → b' ≤ n) → run 174 [(7, .int rg), (6, .int (pnum S.1.1 n 0 5 (pln1 S.1.1 n S.2.1.2.2.2.1 i (sk S.1.1 n (sk S.1.1 n a)) V.1 (Sum.inr (sk S.1.1 n a)))).2), (5, .int (pnum S.1.1 n 0 (nI S.2.1.2.2.2.1 - 1) (Sum.inr (sk S.1.1 n a))).2), (4, .int (x2 4)), (3, .int (nI gm)), (2, .int (nI i)), (0, .ref 63), (1, .int (nI n))] [] hZ 0 0 := by
                  intro hZ x6 s4 rg hV6 hs4 hrg hbn
                  refine step.1 _ _ _ _ _ _ _ sgX12_plan_174_ok ?_
                  refine Or.inl ⟨rfl, _, 2, 0, 0, _, _, _, qi_12_269, ⟨rfl, rfl⟩, ⟨hV6.1, rfl⟩, rfl, rfl, M_sign hg hV6.1 hV6.2.2.2.2.1 (hB0.sm hV6.2.1 (by decide)) 59 (by decide) (by decide), fun y177 h177 hy177 => ?_⟩
                  obtain ⟨rfl, hP7⟩ := hy177
                  rw [hs4] at hP7
                  obtain ⟨x7, hV7, -, -⟩ := hV6.st hP7 (by simp) (by decide) (by decide) (by decide)
                  refine Or.inl ⟨rfl, _, 1, 0, 0, _, _, _, qi_12_142, ⟨rfl, rfl⟩, ⟨hV7.1, rfl⟩, rfl, rfl, M_fineS hg hV7.1 hV7.2.2.2.2.1, fun y181 h181 hy181 => ?_⟩
                  obtain ⟨rfl, hh⟩ := hy181
                  rw [hh]
                  clear hh
                  refine ⟨fun c184 => ?_, fun c184 => ?_⟩
                  · have hpb : pbad (plineS S.1.1 n f len S.2.1.2.2.2.1 i (sk S.1.1 n a) V.1) = false := by have q := qb_1.mp c184; simpa using q
                    have b3 : pbad (pring S.1.1 n f len (pnum S.1.1 n 0 5 (pln1 S.1.1 n S.2.1.2.2.2.1 i (sk S.1.1 n (sk S.1.1 n a)) V.1 (Sum.inr (sk S.1.1 n a)))).1).1 = false := pbad_sign hpb
                    have b2 : pbad (pnum S.1.1 n 0 5 (pln1 S.1.1 n S.2.1.2.2.2.1 i (sk S.1.1 n (sk S.1.1 n a)) V.1 (Sum.inr (sk S.1.1 n a)))).1 = false := pbad_ring b3
                    have b1 : pbad (pln1 S.1.1 n S.2.1.2.2.2.1 i (sk S.1.1 n (sk S.1.1 n a)) V.1 (Sum.inr (sk S.1.1 n a))) = false := pbad_num b2
                    obtain ⟨b0, hnl, hi10⟩ := pln1_f b1
                    obtain ⟨d, hd, ed⟩ := pnum_nat (by omega) b0
                    obtain ⟨v5, hv5, ev0⟩ := pnum_lo (m := 5) (by decide) b2
                    have ev : (pnum S.1.1 n 0 5 (pln1 S.1.1 n S.2.1.2.2.2.1 i (sk S.1.1 n (sk S.1.1 n a)) V.1 (Sum.inr (sk S.1.1 n a)))).2 = nI v5 := ev0
                    obtain ⟨b', eb⟩ : ∃ b' : Nat, (pnum S.1.1 n 0 5 (pln1 S.1.1 n S.2.1.2.2.2.1 i (sk S.1.1 n (sk S.1.1 n a)) V.1 (Sum.inr (sk S.1.1 n a)))).1 = .inr b' := by
                      cases q : (pnum S.1.1 n 0 5 (pln1 S.1.1 n S.2.1.2.2.2.1 i (sk S.1.1 n (sk S.1.1 n a)) V.1 (Sum.inr (sk S.1.1 n a)))).1 with
                      | inl e => rw [q] at b2; cases b2
                      | inr b' => exact ⟨b', rfl⟩
                    have hb'n : b' ≤ n := hbn b' eb
                    obtain ⟨r2, hr2, er⟩ := pring_le hrb hb'n hn600 (by rw [← eb]; exact hpb)
                    have erg : rg = nI r2 := by rw [hrg hpb, eb]; exact er
                    have ei0 : (3 * nI i : Int32) = nI (i * 3) := nI_3 i
                    have ei1 : (3 * nI i + 1 : Int32) = nI (i * 3 + 1) := by rw [ei0]; exact nI_1 _
                    have ei2 : (3 * nI i + 2 : Int32) = nI (i * 3 + 2) := by rw [ei0]; exact nI_add _ 2
                    refine step.1 _ _ _ _ _ _ _ sgX12_plan_190_ok ?_
                    refine ⟨by decide, _, _, hV7.1, rfl, ?_⟩
                    refine ⟨_, _, hV7.2.2.2.2.2.1, (by rw [ei0]; exact vp_in_nI (n := i * 3) (N := 30) (by omega) (by decide)), ?_⟩
                    refine ⟨by decide, _, _, hV7.1, rfl, ?_⟩
                    refine ⟨_, _, rfl, (by rw [ei1]; exact vp_in_nI (n := i * 3 + 1) (N := 30) (by omega) (by decide)), ?_⟩
                    refine ⟨by decide, _, _, hV7.1, rfl, ?_⟩
                    refine ⟨_, _, rfl, (by rw [ei2]; exact vp_in_nI (n := i * 3 + 2) (N := 30) (by omega) (by decide)), ?_⟩
                    refine step.2 _ _ _ _ _ _ _ (qsub_cons 1 rfl (qsub_cons 0 rfl (qsub_cons 6 rfl (qsub_cons 7 rfl qsub_nil)))) ?_
                    obtain ⟨eV, hag, hLG, hGB⟩ := hgd rfl
                    have elh : lhas V.1 (nI d) 0 i = false := by rw [ed] at hnl; simpa using hnl
                    have hLG2 := hLG.add hn10 hd elh hv5 hr2
                    have hGB2 := hGB.add (d := d) (by omega) (nI v5) (nI r2)
                    have e2V : (pline S.1.1 n f len S.2.1.2.2.2.1 i (sk S.1.1 n a) V).2 = (lput V.1 i (nI d) (nI v5) (nI r2), i + 1) := by
                      show (if pbad (plineS S.1.1 n f len S.2.1.2.2.2.1 i (sk S.1.1 n a) V.1) = true then V else (plineP S.1.1 n f len S.2.1.2.2.2.1 i (sk S.1.1 n a) V.1, i + 1)) = _
                      rw [if_neg (by rw [hpb]; decide)]
                      show (lput V.1 i (pnum S.1.1 n 0 (nI S.2.1.2.2.2.1 - 1) (Sum.inr (sk S.1.1 n a))).2 (pnum S.1.1 n 0 5 (pln1 S.1.1 n S.2.1.2.2.2.1 i (sk S.1.1 n (sk S.1.1 n a)) V.1 (Sum.inr (sk S.1.1 n a)))).2 (pring S.1.1 n f len (pnum S.1.1 n 0 5 (pln1 S.1.1 n S.2.1.2.2.2.1 i (sk S.1.1 n (sk S.1.1 n a)) V.1 (Sum.inr (sk S.1.1 n a)))).1).2, i + 1) = _
                      rw [ed, ev, ← hrg hpb, erg]
                    have kk := ih (i + 1) (gm ||| 2 ^ d) (h177.1, qup (qup (qup h177.2 77 (aI' 30 (upd nl (i * 3) (nI d)))) 77 (aI' 30 (upd (upd nl (i * 3) (nI d)) (i * 3 + 1) (nI v5)))) 77 (aI' 30 (upd (upd (upd nl (i * 3) (nI d)) (i * 3 + 1) (nI v5)) (i * 3 + 2) (nI r2)))) x7 (plineS S.1.1 n f len S.2.1.2.2.2.1 i (sk S.1.1 n a) V.1) (lput V.1 i (nI d) (nI v5) (nI r2), i + 1) (upd (upd (upd nl (i * 3) (nI d)) (i * 3 + 1) (nI v5)) (i * 3 + 2) (nI r2)) (by omega) (fun q => by have := hLG2.le; omega) ?_ (by rw [hR2c, ← e2V]; rfl) (fun _ => ⟨rfl, ?_, hLG2, hGB2⟩)
                    · rw [← nI_1 i, ← b_or, ← b_shl (i := d) (by omega)] at kk
                      have ek0 : (3 * nI i : Int32).toNatClampNeg = i * 3 := by rw [ei0, h_tn (by omega)]
                      have ek1 : (3 * nI i + 1 : Int32).toNatClampNeg = i * 3 + 1 := by rw [ei1, h_tn (by omega)]
                      have ek2 : (3 * nI i + 2 : Int32).toNatClampNeg = i * 3 + 2 := by rw [ei2, h_tn (by omega)]
                      rw [← erg, ← ev, ← ed, ← ek2, ← ek1, ← ek0] at kk
                      exact kk
                    · refine ⟨hV7.1, ?_, hV7.2.2.1, hV7.2.2.2.1, hV7.2.2.2.2.1, rfl, rfl⟩
                      refine ⟨hV7.2.1.1, fun j hj => ?_⟩
                      have hj7 : ¬ j = 77 := fun q => hj (by rw [q]; decide)
                      exact (qup_n hj7).trans ((qup_n hj7).trans ((qup_n hj7).trans (hV7.2.1.2 j hj)))
                    · intro j hj
                      show upd (upd (upd nl (i * 3) (nI d)) (i * 3 + 1) (nI v5)) (i * 3 + 2) (nI r2) j = lput V.1 i (nI d) (nI v5) (nI r2) j
                      rw [lput_e]
                      unfold upd
                      by_cases c2 : j = i * 3 + 2
                      · rw [if_pos c2, if_pos c2]
                      · rw [if_neg c2, if_neg c2]
                        by_cases c1 : j = i * 3 + 1
                        · rw [if_pos c1, if_pos c1]
                        · rw [if_neg c1, if_neg c1]
                          by_cases c0 : j = i * 3
                          · rw [if_pos c0, if_pos c0]
                          · rw [if_neg c0, if_neg c0]
                            exact hag j (by omega)
                  · have hpb : pbad (plineS S.1.1 n f len S.2.1.2.2.2.1 i (sk S.1.1 n a) V.1) = true := by have q := qb_0.mp c184; simpa using q
                    refine step.2 _ _ _ _ _ _ _ (qsub_cons 4 rfl (qsub_cons 5 rfl (qsub_cons 6 rfl (qsub_cons 7 rfl qsub_nil)))) ?_
                    exact at237 i gm h177 x7 _ _ nl hV7 (hR2c.trans (pprun_b hpb m (i + 1))) (fun q => by rw [hpb] at q; cases q)
                have at106 : ∀ (hZ : qH) (x4 : Nat → Int32), VT [63, 77] 77 30 nl 77 30 nl (h.1, qup h.2 63 (.inl (12, (M63l x y).set 0 (.int 0)))) hZ (upd x 0 0) x4 y n (pln1 S.1.1 n S.2.1.2.2.2.1 i (sk S.1.1 n (sk S.1.1 n a)) V.1 (Sum.inr (sk S.1.1 n a))) → run 106 [(5, .int (pnum S.1.1 n 0 (nI S.2.1.2.2.2.1 - 1) (Sum.inr (sk S.1.1 n a))).2), (4, .int (x2 4)), (3, .int (nI gm)), (2, .int (nI i)), (0, .ref 63), (1, .int (nI n))] [] hZ 0 0 := by
                  intro hZ x4 hV4
                  refine step.1 _ _ _ _ _ _ _ sgX12_plan_106_ok ?_
                  refine Or.inl ⟨rfl, _, 2, 0, 0, _, _, _, qi_12_202, ⟨rfl, rfl⟩, ⟨hV4.1, rfl⟩, rfl, rfl, M_num hg hV4.1 hV4.2.2.2.2.1 (hB0.sm hV4.2.1 (by decide)) 0 (by decide), fun y109 h109 hy109 => ?_⟩
                  obtain ⟨rfl, hP5⟩ := hy109
                  obtain ⟨x5, hV5, -, -⟩ := hV4.st hP5 (by simp) (by decide) (by decide) (by decide)
                  have hbn : ∀ b' : Nat, (pnum S.1.1 n 0 5 (pln1 S.1.1 n S.2.1.2.2.2.1 i (sk S.1.1 n (sk S.1.1 n a)) V.1 (Sum.inr (sk S.1.1 n a)))).1 = .inr b' → b' ≤ n := fun b' q => by
                    have z := hV5.2.2.2.2.1
                    rw [q] at z
                    exact z.2.2.2.2
                  obtain ⟨s3, es3⟩ : ∃ s3 : PS, (pnum S.1.1 n 0 5 (pln1 S.1.1 n S.2.1.2.2.2.1 i (sk S.1.1 n (sk S.1.1 n a)) V.1 (Sum.inr (sk S.1.1 n a)))).1 = s3 := ⟨_, rfl⟩
                  have hV5' := hV5
                  rw [es3] at hV5'
                  refine Or.inl ⟨rfl, _, 1, 0, 0, _, _, _, qi_12_142, ⟨rfl, rfl⟩, ⟨hV5'.1, rfl⟩, rfl, rfl, M_fineS hg hV5'.1 hV5'.2.2.2.2.1, fun y118 h118 hy118 => ?_⟩
                  obtain ⟨rfl, hh⟩ := hy118
                  rw [hh]
                  clear hh
                  refine ⟨fun c121 => ?_, fun c121 => ?_⟩
                  · have hsb : pbad s3 = true := by have q := qb_0.mp c121; simpa using q
                    have hPRb : (pring S.1.1 n f len (pnum S.1.1 n 0 5 (pln1 S.1.1 n S.2.1.2.2.2.1 i (sk S.1.1 n (sk S.1.1 n a)) V.1 (Sum.inr (sk S.1.1 n a)))).1).1 = s3 := by
                      rw [es3]
                      cases s3 with
                      | inl e => rfl
                      | inr z => cases hsb
                    refine step.1 _ _ _ _ _ _ _ sgX12_plan_147_ok ?_
                    refine Or.inl ⟨rfl, _, 1, 0, 0, _, _, _, qi_12_142, ⟨rfl, rfl⟩, ⟨hV5'.1, rfl⟩, rfl, rfl, M_fineS hg hV5'.1 hV5'.2.2.2.2.1, fun y148 h148 hy148 => ?_⟩
                    obtain ⟨rfl, hh⟩ := hy148
                    rw [hh]
                    clear hh
                    refine ⟨fun c151 => ?_, fun c151 => absurd hsb (by have q := qb_1.mp c151; simpa using q)⟩
                    
                    exact at174 h109 x5 s3 0 hV5' (by rw [show plineS S.1.1 n f len S.2.1.2.2.2.1 i (sk S.1.1 n a) V.1 = psign S.1.1 n 59 (pring S.1.1 n f len (pnum S.1.1 n 0 5 (pln1 S.1.1 n S.2.1.2.2.2.1 i (sk S.1.1 n (sk S.1.1 n a)) V.1 (Sum.inr (sk S.1.1 n a)))).1).1 from rfl, hPRb]) (fun q => by rw [show plineS S.1.1 n f len S.2.1.2.2.2.1 i (sk S.1.1 n a) V.1 = psign S.1.1 n 59 (pring S.1.1 n f len (pnum S.1.1 n 0 5 (pln1 S.1.1 n S.2.1.2.2.2.1 i (sk S.1.1 n (sk S.1.1 n a)) V.1 (Sum.inr (sk S.1.1 n a)))).1).1 from rfl, hPRb] at q; cases s3 with
                      | inl e => cases q
                      | inr z => cases hsb) hbn
                  · have hsb : pbad s3 = false := by have q := qb_1.mp c121; simpa using q
                    obtain ⟨b, eb⟩ : ∃ b : Nat, s3 = .inr b := by
                      cases s3 with
                      | inl e => cases hsb
                      | inr b => exact ⟨b, rfl⟩
                    subst eb
                    have hVb : VT [63, 77] 77 30 nl 77 30 nl (h.1, qup h.2 63 (.inl (12, (M63l x y).set 0 (.int 0)))) h109 (upd x 0 0) x5 y n (Sum.inr b) := hV5'
                    have hb' : b ≤ n := hVb.2.2.2.2.1.2.2.2.2
                    have hss : sk S.1.1 n (sk S.1.1 n b) = (sk S.1.1 n b) := sk_sk S.1.1 hb'
                    have hPL2 : (plineS S.1.1 n f len S.2.1.2.2.2.1 i (sk S.1.1 n a) V.1) = psign S.1.1 n 59 (pring S.1.1 n f len (Sum.inr b)).1 := by
                      show psign S.1.1 n 59 (pring S.1.1 n f len (pnum S.1.1 n 0 5 (pln1 S.1.1 n S.2.1.2.2.2.1 i (sk S.1.1 n (sk S.1.1 n a)) V.1 (Sum.inr (sk S.1.1 n a)))).1).1 = _
                      rw [es3]
                    have hPR2 : (pring S.1.1 n f len (pnum S.1.1 n 0 5 (pln1 S.1.1 n S.2.1.2.2.2.1 i (sk S.1.1 n (sk S.1.1 n a)) V.1 (Sum.inr (sk S.1.1 n a)))).1).2 = (pring S.1.1 n f len (Sum.inr b)).2 := by rw [es3]
                    refine Or.inl ⟨rfl, _, 2, 0, 0, _, _, _, qi_12_257, ⟨rfl, rfl⟩, ⟨hV5'.1, rfl⟩, rfl, rfl, M_word hg hVb.1 hVb.2.2.2.2.1 (hB0.sm hVb.2.1 (by decide)), fun y125 h125 hy125 => ?_⟩
                    obtain ⟨rfl, hP125⟩ := hy125
                    obtain ⟨x6, hV6, -, -⟩ := hVb.st hP125 (by simp) (by decide) (by decide) (by decide)
                    refine Or.inl ⟨rfl, 62, (hW.ld 23 (by decide)).choose, (hW.ld 23 (by decide)).choose_spec, ?_⟩
                    refine Or.inl ⟨rfl, _, 5, 0, 0, _, Or.inl qi_12_210, ⟨rfl, rfl⟩, rfl, rfl, (by exact M_ofw hg hJ hW 23 (by decide)), fun y131 h131 hy131 => ?_⟩
                    obtain ⟨rfl, hh⟩ := hy131
                    rw [hh]
                    clear hh
                    refine ⟨fun c134 => ?_, fun c134 => ?_⟩
                    · have d134 : ¬ mword S.1.1 n (sk S.1.1 n b) = nI (wpk 23) := c134
                      refine step.1 _ _ _ _ _ _ _ sgX12_plan_147_ok ?_
                      refine Or.inl ⟨rfl, _, 1, 0, 0, _, _, _, qi_12_142, ⟨rfl, rfl⟩, ⟨hV6.1, rfl⟩, rfl, rfl, M_fineS hg hV6.1 hV6.2.2.2.2.1, fun y148 h148 hy148 => ?_⟩
                      obtain ⟨rfl, hh⟩ := hy148
                      rw [hh]
                      clear hh
                      refine ⟨fun c151 => absurd (show (1 : Int32) = 0 from c151) (by decide), fun c151 => ?_⟩
                      
                      refine Or.inl ⟨rfl, _, 2, 0, 0, _, _, _, qi_12_257, ⟨rfl, rfl⟩, ⟨hV6.1, rfl⟩, rfl, rfl, M_word hg hV6.1 hV6.2.2.2.2.1 (hB0.sm hV6.2.1 (by decide)), fun y155 h155 hy155 => ?_⟩
                      obtain ⟨rfl, hP155⟩ := hy155
                      obtain ⟨x8, hV8, -, -⟩ := hV6.st hP155 (by simp) (by decide) (by decide) (by decide)
                      rw [hss] at hV8
                      refine Or.inl ⟨rfl, 64, (hW.ld 24 (by decide)).choose, (hW.ld 24 (by decide)).choose_spec, ?_⟩
                      refine Or.inl ⟨rfl, _, 5, 0, 0, _, Or.inl qi_12_210, ⟨rfl, rfl⟩, rfl, rfl, (by exact M_ofw hg hJ hW 24 (by decide)), fun y161 h161 hy161 => ?_⟩
                      obtain ⟨rfl, hh⟩ := hy161
                      rw [hh]
                      clear hh
                      refine ⟨fun c164 => ?_, fun c164 => ?_⟩
                      · have d164 : ¬ mword S.1.1 n (sk S.1.1 n b) = nI (wpk 24) := by rw [hss] at c164; exact c164
                        have q0 := pring_0 hrb hb' hn600 d134 d164
                        exact at174 h155 x8 (.inr (sk S.1.1 n b)) 0 hV8 (by rw [hPL2]; exact q0.1.symm) (fun q => by rw [hPR2]; exact (q0.2 (by rw [hPL2] at q; exact q)).symm) hbn
                      · have d164 : mword S.1.1 n (sk S.1.1 n b) = nI (wpk 24) := by rw [hss] at c164; exact c164
                        refine Or.inl ⟨rfl, _, 2, 0, 0, _, _, _, qi_12_263, ⟨rfl, rfl⟩, ⟨hV8.1, rfl⟩, rfl, rfl, M_pass hg hV8.1 hV8.2.2.2.2.1 (hB0.sm hV8.2.1 (by decide)), fun y171 h171 hy171 => ?_⟩
                        obtain ⟨rfl, hP171⟩ := hy171
                        obtain ⟨x10, hV10, -, -⟩ := hV8.st hP171 (by simp) (by decide) (by decide) (by decide)
                        have q0 := pring_2 hrb hb' hn600 d164
                        exact at174 h171 x10 (.inr (pwend S.1.1 n b)) 2 hV10 (by rw [hPL2, q0]) (fun q => by rw [hPR2, q0]) hbn
                    · have d134 : mword S.1.1 n (sk S.1.1 n b) = nI (wpk 23) := c134
                      refine Or.inl ⟨rfl, _, 2, 0, 0, _, _, _, qi_12_263, ⟨rfl, rfl⟩, ⟨hV6.1, rfl⟩, rfl, rfl, M_pass hg hV6.1 hV6.2.2.2.2.1 (hB0.sm hV6.2.1 (by decide)), fun y141 h141 hy141 => ?_⟩
                      obtain ⟨rfl, hP141⟩ := hy141
                      obtain ⟨x9, hV9, -, -⟩ := hV6.st hP141 (by simp) (by decide) (by decide) (by decide)
                      have q0 := pring_1 hrb hb' hn600 d134
                      exact at174 h141 x9 (.inr (pwend S.1.1 n b)) 1 hV9 (by rw [hPL2, q0]) (fun q => by rw [hPR2, q0]) hbn
                refine ⟨by decide, _, _, hV2.1, rfl, ?_⟩
                refine ⟨by decide, _, _, hV2.1, rfl, ?_⟩
                refine Or.inl ⟨rfl, _, 2, 0, 0, _, _, _, qi_12_202, ⟨rfl, rfl⟩, ⟨hV2.1, rfl⟩, rfl, rfl, (by rw [e19]; exact M_num hg hV2.1 hV2.2.2.2.2.1 (hB0.sm hV2.2.1 (by decide)) 0 (nI_m1 hn10)), fun y77 h77 hy77 => ?_⟩
                obtain ⟨rfl, hP3⟩ := hy77
                obtain ⟨x3, hV3, -, -⟩ := hV2.st hP3 (by simp) (by decide) (by decide) (by decide)
                refine Or.inl ⟨rfl, _, 1, 0, 0, _, _, _, qi_12_142, ⟨rfl, rfl⟩, ⟨hV3.1, rfl⟩, rfl, rfl, M_fineS hg hV3.1 hV3.2.2.2.2.1, fun y83 h83 hy83 => ?_⟩
                obtain ⟨rfl, hh⟩ := hy83
                rw [hh]
                clear hh
                refine ⟨fun c86 => ?_, fun c86 => ?_⟩
                · have hb0 : pbad (pnum S.1.1 n 0 (nI S.2.1.2.2.2.1 - 1) (Sum.inr (sk S.1.1 n a))).1 = true := by have q := qb_0.mp c86; simpa using q
                  exact at106 h77 x3 (by rw [pln1_b hb0]; exact hV3)
                · have hb0 : pbad (pnum S.1.1 n 0 (nI S.2.1.2.2.2.1 - 1) (Sum.inr (sk S.1.1 n a))).1 = false := by have q := qb_1.mp c86; simpa using q
                  obtain ⟨d, hd, ed⟩ := pnum_nat (by omega) hb0
                  refine ⟨fun c96 => ?_, fun c96 => ?_⟩
                  · have hnl : ¬ lhas V.1 (pnum S.1.1 n 0 (nI S.2.1.2.2.2.1 - 1) (Sum.inr (sk S.1.1 n a))).2 0 i = true := fun q => c96 (by rw [ed, (hgd rfl).2.2.2.bit (by omega), ← ed, q]; rfl)
                    have hi10 : i < 10 := (hgd rfl).2.2.1.room hn10 hd (by rw [ed] at hnl; simpa using hnl)
                    exact at106 h77 x3 (by rw [pln1_g hnl hi10]; exact hV3)
                  · have hnl : lhas V.1 (pnum S.1.1 n 0 (nI S.2.1.2.2.2.1 - 1) (Sum.inr (sk S.1.1 n a))).2 0 i = true := by
                      have q := c96
                      rw [ed, (hgd rfl).2.2.2.bit (by omega)] at q
                      rw [ed]
                      cases z : lhas V.1 (nI d) 0 i with
                      | true => rfl
                      | false => rw [z] at q; exact absurd q (by decide)
                    refine Or.inl ⟨rfl, _, 1, 0, 0, _, _, _, qi_12_149, ⟨rfl, rfl⟩, ⟨hV3.1, rfl⟩, rfl, rfl, (by rw [e4]; exact M_wrong hg hV3.1 hV3.2.2.2.2.1 2 (sk S.1.1 n a) (by omega)), fun y103 h103 hy103 => ?_⟩
                    obtain ⟨rfl, hP4⟩ := hy103
                    obtain ⟨x4, hV4, -, -⟩ := hV3.st hP4 (by simp) (by decide) (by decide) (by decide)
                    exact at106 h103 x4 (by rw [pln1_h hnl, hsA]; exact hV4)
        refine ⟨fun _ => ?_, fun c35 => absurd c35 (by decide)⟩
        refine step.1 _ _ _ _ _ _ _ sgX12_plan_40_ok ?_
        refine Or.inl ⟨rfl, _, 1, 0, 0, _, _, _, qi_12_251, ⟨rfl, rfl⟩, ⟨hM0.1, rfl⟩, rfl, rfl, M_begins hg hM0.1 hn600, fun y42 h42 hy42 => ?_⟩
        obtain ⟨rfl, x5, g1, g2, g3, g4, g5, g6, g7⟩ := hy42
        have hV0 : VT [63, 77] 77 30 (F 77) 77 30 (F 77) (h.1, qup h.2 63 (.inl (12, (M63l x y).set 0 (.int 0)))) h42 (upd x 0 0) x5 y n (.inr 0) := by
          refine ⟨g1, g2.sub (by simp), fun k hk => g3 k (fun q => hk (by simp at q ⊢; omega)), g4, g7, (g2.2 77 (by decide)).trans hM0.c77, (g2.2 77 (by decide)).trans hM0.c77⟩
        exact loop 11 0 0 h42 _ (.inr 0) (va_cpy S.2.1.2.1 P4 0 0 30, 0) (F 77) (by omega) (fun q => absurd q (by decide)) hV0 rfl (fun _ => ⟨rfl, fun j hj => absurd hj (by omega), ⟨fun _ => 0, fun _ => 0, fun _ => 0, fun j hj => absurd hj (Nat.not_lt_zero j), fun j hj => absurd hj (Nat.not_lt_zero j), fun j k hj => absurd hj (Nat.not_lt_zero j)⟩, GB.z _⟩)
end Q13A
