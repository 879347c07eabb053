section Q13C
theorem nI_2 (n : Nat) : (2 * nI n : Int32) = nI (n * 2) := by rw [Int32.mul_comm]; exact pk_mul n 2
set_option maxHeartbeats 4000000 in
theorem M_book {g : qG} (hg : qOK g) {h : qH} {x : Nat → Int32} {y : Nat → Int64} {F : Nat → Nat → Int32} {G : Nat → Nat → Int64} (hM : MX h x y F G) {S : CS} (hR : Rel S x F) (hI : INV S) (B41 B42 : Nat → Int32) (v : Int32) : qSpec g 8 0 0 mX12_book [.ref 63, .int v] h (fun r h' => ((tOK S.1.2.1 200 v = true) ∧ (∃ n : Nat, n ≤ S.1.2.1 ∧ n ≤ 200 ∧ v = nI n ∧ (if pbad (pbrun S.1.1 n S.2.1.2.2.2.1 9 0 (Sum.inr 0, B41, B42, 0)).1 = true then r = some (.int (pki (pbrun S.1.1 n S.2.1.2.2.2.1 9 0 (Sum.inr 0, B41, B42, 0)).1 - 10)) ∧ MG h h' ((S.1.1, 0, ppl (pbrun S.1.1 n S.2.1.2.2.2.1 9 0 (Sum.inr 0, B41, B42, 0)).1), S.2) else r = some (.int (nI (pbrun S.1.1 n S.2.1.2.2.2.1 9 0 (Sum.inr 0, B41, B42, 0)).2.2.2)) ∧ (pbrun S.1.1 n S.2.1.2.2.2.1 9 0 (Sum.inr 0, B41, B42, 0)).2.2.2 ≤ 8 ∧ MG h h' ((S.1.1, 0, ppl (pbrun S.1.1 n S.2.1.2.2.2.1 9 0 (Sum.inr 0, B41, B42, 0)).1), S.2.1, S.2.2.1, S.2.2.2.1, S.2.2.2.2.1, (va_cpy (pbrun S.1.1 n S.2.1.2.2.2.1 9 0 (Sum.inr 0, B41, B42, 0)).2.1 S.2.2.2.2.2.1.1 0 0 8, va_cpy (pbrun S.1.1 n S.2.1.2.2.2.1 9 0 (Sum.inr 0, B41, B42, 0)).2.2.1 S.2.2.2.2.2.1.2.1 0 0 8, (pbrun S.1.1 n S.2.1.2.2.2.1 9 0 (Sum.inr 0, B41, B42, 0)).2.2.2), S.2.2.2.2.2.2)))) ∨ ∃ (k : Nat) (c : Int32), ((k = 1 ∧ c = 1 ∧ ¬ (tOK S.1.2.1 200 v = true))) ∧ (∃ z, r = some (.int z)) ∧ mbad h h' S k c) := by
  refine qSpec_run 12 "book" false hg mX12_book_ok rfl rfl (Nat.le_of_ble_eq_true rfl) (by decide) ?_
  intro run step
  have hhe := hI.1
  have hn10 := hI.2.1.1.1
  have e2 : (upd x 0 0) 2 = nI S.1.2.1 := hR.1.1
  refine step.1 _ _ _ _ _ _ _ sgX12_book_0_ok ?_
  refine ⟨_, hM.1, Nat.le_of_ble_eq_true rfl, rfl, ?_⟩
  have hM0 := hM.p63 (sI_0 (v := 0) (rfl : _ = M63l x y))
  have hR0 : Rel S (upd x 0 0) F := hR.t 0
  have hk0 := kp.rf (h := h) |>.u (k := 63) (e := .inl (12, (M63l x y).set 0 (.int 0))) (by decide) (by decide)
  refine ⟨fun c7 => ?_, fun c7 => ?_⟩
  · have w7 : tOK S.1.2.1 200 v = false := tOK_f (Or.inl c7)
    refine step.1 _ _ _ _ _ _ _ sgX12_book_29_ok ?_
    refine step.1 _ _ _ _ _ _ _ sgX12_book_30_ok ?_
    refine Or.inl ⟨rfl, _, 1, 0, 0, _, _, _, qi_12_247, ⟨rfl, rfl⟩, ⟨hM0.1, rfl⟩, rfl, rfl, M_mayB hg hM0 hR0 rfl 1 (by decide) 1 (by decide), fun y32 h32 hy32 => ?_⟩
    obtain ⟨rfl, hb⟩ := hy32
    refine ⟨fun c35 => absurd c35 (by decide), fun _ => ?_⟩
    refine ⟨.int, rfl, rfl, Nat.le_refl _, Nat.le_refl _, ?_⟩
    exact Or.inr ⟨1, 1, ⟨rfl, rfl, (by rw [w7]; decide)⟩, ⟨_, rfl⟩, mbad.l hk0 hb⟩
  · refine ⟨by decide, _, _, hM0.1, rfl, ?_⟩
    refine ⟨fun c15 => ?_, fun c15 => ?_⟩
    · have w15 : tOK S.1.2.1 200 v = false := tOK_f (Or.inr (by rw [← e2]; exact c15))
      refine step.1 _ _ _ _ _ _ _ sgX12_book_29_ok ?_
      refine step.1 _ _ _ _ _ _ _ sgX12_book_30_ok ?_
      refine Or.inl ⟨rfl, _, 1, 0, 0, _, _, _, qi_12_247, ⟨rfl, rfl⟩, ⟨hM0.1, rfl⟩, rfl, rfl, M_mayB hg hM0 hR0 rfl 1 (by decide) 1 (by decide), fun y32 h32 hy32 => ?_⟩
      obtain ⟨rfl, hb⟩ := hy32
      refine ⟨fun c35 => absurd c35 (by decide), fun _ => ?_⟩
      refine ⟨.int, rfl, rfl, Nat.le_refl _, Nat.le_refl _, ?_⟩
      exact Or.inr ⟨1, 1, ⟨rfl, rfl, (by rw [w15]; decide)⟩, ⟨_, rfl⟩, mbad.l hk0 hb⟩
    · refine ⟨fun c22 => ?_, fun c22 => ?_⟩
      · have w22 : tOK S.1.2.1 200 v = false := tOK_g (m := 200) c22
        refine step.1 _ _ _ _ _ _ _ sgX12_book_29_ok ?_
        refine step.1 _ _ _ _ _ _ _ sgX12_book_30_ok ?_
        refine Or.inl ⟨rfl, _, 1, 0, 0, _, _, _, qi_12_247, ⟨rfl, rfl⟩, ⟨hM0.1, rfl⟩, rfl, rfl, M_mayB hg hM0 hR0 rfl 1 (by decide) 1 (by decide), fun y32 h32 hy32 => ?_⟩
        obtain ⟨rfl, hb⟩ := hy32
        refine ⟨fun c35 => absurd c35 (by decide), fun _ => ?_⟩
        refine ⟨.int, rfl, rfl, Nat.le_refl _, Nat.le_refl _, ?_⟩
        exact Or.inr ⟨1, 1, ⟨rfl, rfl, (by rw [w22]; decide)⟩, ⟨_, rfl⟩, mbad.l hk0 hb⟩
      · have hWv : tOK S.1.2.1 200 v = true := tOK_t (m := 200) c7 (by rw [← e2]; exact c15) c22
        obtain ⟨n, hnh, hn6, rfl⟩ : ∃ n : Nat, n ≤ S.1.2.1 ∧ n ≤ 200 ∧ v = nI n := by
          obtain ⟨n, h1, h2, _, h3⟩ := tOK_nat (m := 200) (by decide) hhe hWv
          exact ⟨n, h2, h1, h3⟩
        have hn600 : n ≤ 600 := by omega
        have hB0 : mB (h.1, qup h.2 63 (.inl (12, (M63l x y).set 0 (.int 0)))) S.1.1 := hR0.mB hM0
        refine step.1 _ _ _ _ _ _ _ sgX12_book_30_ok ?_
        refine Or.inl ⟨rfl, _, 1, 0, 0, _, _, _, qi_12_247, ⟨rfl, rfl⟩, ⟨hM0.1, rfl⟩, rfl, rfl, M_may hg hM0.1 rfl _ _, fun y32 h32 hy32 => ?_⟩
        obtain ⟨rfl, hh⟩ := hy32
        rw [hh]
        clear hh
        have at271 : ∀ (i : Nat) (hX : qH) (x1 : Nat → Int32) (s : PS) (V : BD) (nl : Nat → Int32), VT [63, 79] 79 16 nl 79 16 nl (h.1, qup h.2 63 (.inl (12, (M63l x y).set 0 (.int 0)))) hX (upd x 0 0) x1 y n s → (pbrun S.1.1 n S.2.1.2.2.2.1 9 0 (Sum.inr 0, B41, B42, 0)) = (s, V) → (pbad s = false → V.2.2 = i ∧ i ≤ 8 ∧ (∀ j : Nat, j < i → nl (2 * j) = V.1 j ∧ nl (2 * j + 1) = V.2.1 j)) → run 271 [(2, .int (nI i)), (0, .ref 63), (1, .int (nI n))] [] hX 0 0 := by
          intro i hX x1 s V nl hV hR1 hgd
          refine step.1 _ _ _ _ _ _ _ sgX12_book_271_ok ?_
          refine Or.inl ⟨rfl, _, 2, 0, 0, _, _, _, qi_12_272, ⟨rfl, rfl⟩, ⟨hV.1, rfl⟩, rfl, rfl, M_result hg hV.1 hV.2.2.2.2.1 (nI i), fun y273 h273 hy273 => ?_⟩
          obtain ⟨rfl, x3, g1, g2, g4, g5, g6⟩ := hy273
          have hs3 : same (h.1, qup h.2 63 (.inl (12, (M63l x y).set 0 (.int 0)))) h273 [63, 79] := same.tr (l := [63, 79]) hV.2.1 g2 (by simp) (by simp)
          have hn2 := (g2.2 79 (by decide)).trans hV.2.2.2.2.2.1
          obtain ⟨FZ, hFZ⟩ : ∃ FZ : Nat → Nat → Int32, fup F 79 nl = FZ := ⟨_, rfl⟩
          have hMZ : MX h273 x3 y FZ G := by
            rw [← hFZ]
            refine ⟨g1, fun j b1 b2 => ?_⟩
            by_cases c6 : j = 79
            · subst c6; exact hn2
            · rw [mcell_f c6, hs3.2 j (by simp; omega)]
              exact hM0.2 j b1 b2
          have hkZ : kp h h273 := hk0.s hs3 (by simp)
          refine ⟨by decide, _, _, hMZ.1, rfl, ?_⟩
          refine ⟨fun c282 => ?_, fun c282 => ?_⟩
          · have hsb : pbad s = false := by
              cases s with
              | inr a => rfl
              | inl e => exact absurd (g6.2.2.2.1.symm.trans c282) (mne g6.2.2.2.2)
            refine step.1 _ _ _ _ _ _ _ sgX12_book_287_ok ?_
            refine ⟨_, hMZ.1, Nat.le_of_ble_eq_true rfl, rfl, ?_⟩
            have hM4 : MX _ (upd x3 37 (nI i)) y FZ G := hMZ.p63 (sI_37 rfl)
            refine ⟨by decide, _, _, hM4.1, rfl, ?_⟩
            refine ⟨by decide, _, _, hM4.1, rfl, ?_⟩
            refine Or.inl ⟨rfl, _, 1, 0, 0, _, _, _, qi_12_186, ⟨rfl, rfl⟩, ⟨hM4.1, rfl⟩, rfl, rfl, (by rw [nI_2]; exact M_copies hg (a := 79) (b := 80) (sa := 16) (sb := 16) (n := i * 2) hM4.c79 hM4.c80 (by decide) (by have := (hgd hsb).2.1; omega) (by have := (hgd hsb).2.1; omega) (by decide) (by decide)), fun y304 h304 hy304 => ?_⟩
            obtain ⟨rfl, k1, k2⟩ := hy304
            have hM5 : MX h304 (upd x3 37 (nI i)) y (fup FZ 80 (cp (FZ 79) (FZ 80) (i * 2))) G := hM4.vk (by decide) k1 (fun j hj => k2.2 j (by simpa using hj))
            have hk5 := (hkZ.u (k := 63) (e := .inl (12, M63l (upd x3 37 (nI i)) y)) (by decide) (by decide)).s k2 (by simp)
            refine ⟨.int, rfl, rfl, Nat.le_refl _, Nat.le_refl _, ?_⟩
            refine Or.inl ⟨hWv, n, hnh, hn6, rfl, ?_⟩
            rw [hR1, if_neg (by rw [hsb]; decide)]
            have hx8 : x3 8 = ppl s := g5
            obtain ⟨eV, hi8, hag⟩ := hgd hsb
            have eV' : (s, V).2.2.2 = i := eV
            rw [eV']
            refine ⟨congrArg (fun z => some (Value.int z)) (if_neg (by rw [hsb]; decide)), hi8, upd x3 37 (nI i), y, _, G, hM5, hk5, hR0.book ((g4 2 (by decide)).trans hV.2.2.2.1) hx8 rfl (fun k hk => ?_) (fun j hj => ?_) (fun j hj => ?_), ?_⟩
            · simp at hk
              rw [upd_n (by omega), g4 k (by simp; omega)]
              exact hV.2.2.1 k (by simp; omega)
            · simp at hj
              rw [fup_n (by omega), ← hFZ, fup_n (by omega)]
            · have hc : ∀ q : Nat, q < i * 2 → cp (FZ 79) (FZ 80) (i * 2) q = nl q := fun q hq => by
                rw [← hFZ]
                exact if_pos hq
              show cp (FZ 79) (FZ 80) (i * 2) (2 * j) = va_cpy V.1 S.2.2.2.2.2.1.1 0 0 8 j ∧ cp (FZ 79) (FZ 80) (i * 2) (2 * j + 1) = va_cpy V.2.1 S.2.2.2.2.2.1.2.1 0 0 8 j
              rw [cpy_at (by omega), cpy_at (by omega), hc _ (by omega), hc _ (by omega)]
              exact hag j hj
            · show x3 0 = 0
              rw [g4 0 (by decide)]
              exact hV.2.2.1 0 (by decide)
          · have hsb : pbad s = true := by
              cases s with
              | inl e => rfl
              | inr a => exact absurd g6.2.2.1 c282
            refine ⟨.int, rfl, rfl, Nat.le_refl _, Nat.le_refl _, ?_⟩
            refine Or.inl ⟨hWv, n, hnh, hn6, rfl, ?_⟩
            rw [hR1]
            have hx8 : x3 8 = ppl s := g5
            rw [if_pos hsb]
            refine ⟨congrArg (fun z => some (Value.int z)) (if_pos hsb), x3, y, FZ, G, hMZ, hkZ, hR0.told ((g4 2 (by decide)).trans hV.2.2.2.1) hx8 (fun k hk => ?_) (fun j hj => ?_), ?_⟩
            · rw [g4 k (fun q => by simp at q; subst q; simp at hk)]
              exact hV.2.2.1 k (fun q => by simp at q hk; omega)
            · simp at hj
              rw [← hFZ, fup_n (by omega)]
            · rw [g4 0 (by decide)]
              exact hV.2.2.1 0 (by decide)
        have bad47 : ∀ (i : Nat) (hX : qH) (x1 : Nat → Int32) (s : PS) (V : BD) (nl : Nat → Int32), pbad s = true → VT [63, 79] 79 16 nl 79 16 nl (h.1, qup h.2 63 (.inl (12, (M63l x y).set 0 (.int 0)))) hX (upd x 0 0) x1 y n s → (pbrun S.1.1 n S.2.1.2.2.2.1 9 0 (Sum.inr 0, B41, B42, 0)) = (s, V) → run 47 [(2, .int (nI i)), (0, .ref 63), (1, .int (nI n))] [] hX 0 0 := by
          intro i hX x1 s V nl hb hV hR1
          refine step.1 _ _ _ _ _ _ _ sgX12_book_47_ok ?_
          refine Or.inl ⟨rfl, _, 1, 0, 0, _, _, _, qi_12_142, ⟨rfl, rfl⟩, ⟨hV.1, rfl⟩, rfl, rfl, M_fineS hg hV.1 hV.2.2.2.2.1, fun y48 h48 hy48 => ?_⟩
          obtain ⟨rfl, hh⟩ := hy48
          rw [hh]
          clear hh
          refine ⟨fun c51 => ?_, fun c51 => absurd hb (by have q := qb_1.mp c51; simpa using q)⟩
          
          exact at271 i hX x1 s V nl hV hR1 (fun q => by rw [hb] at q; cases q)
        have loop : ∀ (m i : Nat) (hX : qH) (x1 : Nat → Int32) (s : PS) (V : BD) (nl : Nat → Int32), m + i = 9 → (i = 9 → pbad s = true) → VT [63, 79] 79 16 nl 79 16 nl (h.1, qup h.2 63 (.inl (12, (M63l x y).set 0 (.int 0)))) hX (upd x 0 0) x1 y n s → (pbrun S.1.1 n S.2.1.2.2.2.1 9 0 (Sum.inr 0, B41, B42, 0)) = pbrun S.1.1 n S.2.1.2.2.2.1 m i (s, V) → (pbad s = false → V.2.2 = i ∧ i ≤ 8 ∧ (∀ j : Nat, j < i → nl (2 * j) = V.1 j ∧ nl (2 * j + 1) = V.2.1 j)) → run 47 [(2, .int (nI i)), (0, .ref 63), (1, .int (nI n))] [] hX 0 0 := by
          intro m
          induction m with
          | zero =>
            intro i hX x1 s V nl hm h61 hV hR1 hgd
            exact bad47 i hX x1 s V nl (h61 (by omega)) hV hR1
          | succ m ih =>
            intro i hX x1 s V nl hm h61 hV hR1 hgd
            cases s with
            | inl e => exact bad47 i hX x1 (.inl e) V nl rfl hV hR1
            | inr a =>
              refine step.1 _ _ _ _ _ _ _ sgX12_book_47_ok ?_
              refine Or.inl ⟨rfl, _, 1, 0, 0, _, _, _, qi_12_142, ⟨rfl, rfl⟩, ⟨hV.1, rfl⟩, rfl, rfl, M_fineS hg hV.1 hV.2.2.2.2.1, fun y48 h48 hy48 => ?_⟩
              obtain ⟨rfl, hh⟩ := hy48
              rw [hh]
              clear hh
              refine ⟨fun c51 => absurd (show (1 : Int32) = 0 from c51) (by decide), fun c51 => ?_⟩
              
              refine Or.inl ⟨rfl, _, 2, 0, 0, _, _, _, qi_12_254, ⟨rfl, rfl⟩, ⟨hV.1, rfl⟩, rfl, rfl, M_isMore hg hV.1 hV.2.2.2.2.1 (hB0.sm hV.2.1 (by decide)), fun y55 h55 hy55 => ?_⟩
              obtain ⟨rfl, hP⟩ := hy55
              obtain ⟨x2, hV2, -, -⟩ := hV.st hP (by simp) (by decide) (by decide) (by decide)
              refine ⟨fun c58 => ?_, fun c58 => ?_⟩
              · have hend : n ≤ (sk S.1.1 n a) := Nat.le_of_not_lt (of_decide_eq_false (qb_0.mp c58))
                exact at271 i h55 x2 _ V nl hV2 (hR1.trans (if_pos (tby_end hend))) (fun q => hgd rfl)
              · have hlt : (sk S.1.1 n a) < n := of_decide_eq_true (qb_1.mp c58)
                have hR2c : (pbrun S.1.1 n S.2.1.2.2.2.1 9 0 (Sum.inr 0, B41, B42, 0)) = pbrun S.1.1 n S.2.1.2.2.2.1 m (i + 1) (pyear S.1.1 n S.2.1.2.2.2.1 i (sk S.1.1 n a) V) := by
                  rw [hR1]
                  exact if_neg (by rw [tby_lt hlt]; exact b255_ne _)
                have hAn : (sk S.1.1 n a) ≤ n := by omega
                have hsA : sk S.1.1 n (sk S.1.1 n a) = (sk S.1.1 n a) := sk_sk S.1.1 hV.2.2.2.2.1.2.2.2.2
                have e4 : x2 4 = nI (sk S.1.1 n a) := hV2.2.2.2.2.1.2.2.2.1
                have hi8le := (hgd rfl).2.1
                have at211 : ∀ (hZ : qH) (x6 : Nat → Int32) (s6 : PS) (an bits : Int32), VT [63, 79] 79 16 nl 79 16 nl (h.1, qup h.2 63 (.inl (12, (M63l x y).set 0 (.int 0)))) hZ (upd x 0 0) x6 y n s6 → psign S.1.1 n 61 s6 = psign S.1.1 n 61 (pyeq S.1.1 n i (pyd S.1.1 n S.2.1.2.2.2.1 i 11 (Sum.inr (sk S.1.1 n a), 0)).1) → (pbad (pyd S.1.1 n S.2.1.2.2.2.1 i 11 (Sum.inr (sk S.1.1 n a), 0)).1 = false → (pyd S.1.1 n S.2.1.2.2.2.1 i 11 (Sum.inr (sk S.1.1 n a), 0)).2 = bits) → run 211 [(5, .int an), (4, .int bits), (3, .int (x2 4)), (2, .int (nI i)), (0, .ref 63), (1, .int (nI n))] [] hZ 0 0 := by
                  intro hZ x6 s6 an bits hV6 hs6 hbit
                  refine step.1 _ _ _ _ _ _ _ sgX12_book_211_ok ?_
                  refine Or.inl ⟨rfl, _, 2, 0, 0, _, _, _, qi_12_269, ⟨rfl, rfl⟩, ⟨hV6.1, rfl⟩, rfl, rfl, M_sign hg hV6.1 hV6.2.2.2.2.1 (hB0.sm hV6.2.1 (by decide)) 61 (by decide) (by decide), fun y214 h214 hy214 => ?_⟩
                  obtain ⟨rfl, hP7⟩ := hy214
                  rw [hs6] at hP7
                  obtain ⟨x7, hV7, -, -⟩ := hV6.st hP7 (by simp) (by decide) (by decide) (by decide)
                  refine Or.inl ⟨rfl, _, 2, 0, 0, _, _, _, qi_12_202, ⟨rfl, rfl⟩, ⟨hV7.1, rfl⟩, rfl, rfl, M_num hg hV7.1 hV7.2.2.2.2.1 (hB0.sm hV7.2.1 (by decide)) 0 (by decide), fun y222 h222 hy222 => ?_⟩
                  obtain ⟨rfl, hP8⟩ := hy222
                  obtain ⟨x8, hV8, -, -⟩ := hV7.st hP8 (by simp) (by decide) (by decide) (by decide)
                  refine Or.inl ⟨rfl, _, 2, 0, 0, _, _, _, qi_12_269, ⟨rfl, rfl⟩, ⟨hV8.1, rfl⟩, rfl, rfl, M_sign hg hV8.1 hV8.2.2.2.2.1 (hB0.sm hV8.2.1 (by decide)) 59 (by decide) (by decide), fun y230 h230 hy230 => ?_⟩
                  obtain ⟨rfl, hP9⟩ := hy230
                  obtain ⟨x9, hV9q, -, -⟩ := hV8.st hP9 (by simp) (by decide) (by decide) (by decide)
                  have hV9 : VT [63, 79] 79 16 nl 79 16 nl (h.1, qup h.2 63 (.inl (12, (M63l x y).set 0 (.int 0)))) h230 (upd x 0 0) x9 y n (pyS S.1.1 n S.2.1.2.2.2.1 i (sk S.1.1 n a)) := hV9q
                  refine Or.inl ⟨rfl, _, 1, 0, 0, _, _, _, qi_12_142, ⟨rfl, rfl⟩, ⟨hV9.1, rfl⟩, rfl, rfl, M_fineS hg hV9.1 hV9.2.2.2.2.1, fun y234 h234 hy234 => ?_⟩
                  obtain ⟨rfl, hh⟩ := hy234
                  rw [hh]
                  clear hh
                  refine ⟨fun c237 => ?_, fun c237 => ?_⟩
                  · have hpb : pbad (pyS S.1.1 n S.2.1.2.2.2.1 i (sk S.1.1 n a)) = false := by have q := qb_1.mp c237; simpa using q
                    have hi8 : i < 8 := pyS_lt hpb hAn
                    have b3 : pbad (pyeq S.1.1 n i (pyd S.1.1 n S.2.1.2.2.2.1 i 11 (Sum.inr (sk S.1.1 n a), 0)).1) = false := pbad_sign (pbad_num (pbad_sign hpb))
                    have b4 : pbad (pyd S.1.1 n S.2.1.2.2.2.1 i 11 (Sum.inr (sk S.1.1 n a), 0)).1 = false := by
                      have q := b3
                      unfold pyeq at q
                      rw [if_neg (by omega)] at q
                      exact q
                    have ebits := hbit b4
                    have ei0 : (2 * nI i : Int32) = nI (i * 2) := nI_2 i
                    have ei1 : (2 * nI i + 1 : Int32) = nI (i * 2 + 1) := by rw [ei0]; exact nI_1 _
                    refine step.1 _ _ _ _ _ _ _ sgX12_book_243_ok ?_
                    refine ⟨by decide, _, _, hV9.1, rfl, ?_⟩
                    refine ⟨_, _, hV9.2.2.2.2.2.1, (by rw [ei0]; exact vp_in_nI (n := i * 2) (N := 16) (by omega) (by decide)), ?_⟩
                    refine ⟨by decide, _, _, hV9.1, rfl, ?_⟩
                    refine ⟨_, _, rfl, (by rw [ei1]; exact vp_in_nI (n := i * 2 + 1) (N := 16) (by omega) (by decide)), ?_⟩
                    refine step.2 _ _ _ _ _ _ _ (qsub_cons 0 rfl (qsub_cons 5 rfl (qsub_cons 6 rfl qsub_nil))) ?_
                    obtain ⟨eV, hi8', hag⟩ := hgd rfl
                    have e2V : (pyear S.1.1 n S.2.1.2.2.2.1 i (sk S.1.1 n a) V).2 = (upd V.1 i bits, upd V.2.1 i (pnum S.1.1 n 0 9999 (psign S.1.1 n 61 (pyeq S.1.1 n i (pyd S.1.1 n S.2.1.2.2.2.1 i 11 (Sum.inr (sk S.1.1 n a), 0)).1))).2, i + 1) := by
                      show (if pbad (pyS S.1.1 n S.2.1.2.2.2.1 i (sk S.1.1 n a)) = true then V else (upd V.1 i (pyd S.1.1 n S.2.1.2.2.2.1 i 11 (Sum.inr (sk S.1.1 n a), 0)).2, upd V.2.1 i (pnum S.1.1 n 0 9999 (psign S.1.1 n 61 (pyeq S.1.1 n i (pyd S.1.1 n S.2.1.2.2.2.1 i 11 (Sum.inr (sk S.1.1 n a), 0)).1))).2, i + 1)) = _
                      rw [if_neg (by rw [hpb]; decide), ebits]
                    have kk := ih (i + 1) (h230.1, qup (qup h230.2 79 (aI' 16 (upd nl (i * 2) bits))) 79 (aI' 16 (upd (upd nl (i * 2) bits) (i * 2 + 1) (pnum S.1.1 n 0 9999 (psign S.1.1 n 61 (pyeq S.1.1 n i (pyd S.1.1 n S.2.1.2.2.2.1 i 11 (Sum.inr (sk S.1.1 n a), 0)).1))).2))) x9 (pyS S.1.1 n S.2.1.2.2.2.1 i (sk S.1.1 n a)) (upd V.1 i bits, upd V.2.1 i (pnum S.1.1 n 0 9999 (psign S.1.1 n 61 (pyeq S.1.1 n i (pyd S.1.1 n S.2.1.2.2.2.1 i 11 (Sum.inr (sk S.1.1 n a), 0)).1))).2, i + 1) (upd (upd nl (i * 2) bits) (i * 2 + 1) (pnum S.1.1 n 0 9999 (psign S.1.1 n 61 (pyeq S.1.1 n i (pyd S.1.1 n S.2.1.2.2.2.1 i 11 (Sum.inr (sk S.1.1 n a), 0)).1))).2) (by omega) (fun q => by omega) ?_ (by rw [hR2c, ← e2V]; rfl) (fun _ => ⟨rfl, by omega, ?_⟩)
                    · rw [← nI_1 i] at kk
                      have ek0 : (2 * nI i : Int32).toNatClampNeg = i * 2 := by rw [ei0, h_tn (by omega)]
                      have ek1 : (2 * nI i + 1 : Int32).toNatClampNeg = i * 2 + 1 := by rw [ei1, h_tn (by omega)]
                      rw [← ek1, ← ek0] at kk
                      exact kk
                    · refine ⟨hV9.1, ?_, hV9.2.2.1, hV9.2.2.2.1, hV9.2.2.2.2.1, rfl, rfl⟩
                      refine ⟨hV9.2.1.1, fun j hj => ?_⟩
                      have hj7 : ¬ j = 79 := fun q => hj (by rw [q]; decide)
                      exact (qup_n hj7).trans ((qup_n hj7).trans (hV9.2.1.2 j hj))
                    · intro j hj
                      show upd (upd nl (i * 2) bits) (i * 2 + 1) (pnum S.1.1 n 0 9999 (psign S.1.1 n 61 (pyeq S.1.1 n i (pyd S.1.1 n S.2.1.2.2.2.1 i 11 (Sum.inr (sk S.1.1 n a), 0)).1))).2 (2 * j) = upd V.1 i bits j ∧ upd (upd nl (i * 2) bits) (i * 2 + 1) (pnum S.1.1 n 0 9999 (psign S.1.1 n 61 (pyeq S.1.1 n i (pyd S.1.1 n S.2.1.2.2.2.1 i 11 (Sum.inr (sk S.1.1 n a), 0)).1))).2 (2 * j + 1) = upd V.2.1 i (pnum S.1.1 n 0 9999 (psign S.1.1 n 61 (pyeq S.1.1 n i (pyd S.1.1 n S.2.1.2.2.2.1 i 11 (Sum.inr (sk S.1.1 n a), 0)).1))).2 j
                      unfold upd
                      by_cases c : j = i
                      · rw [if_neg (by omega), if_pos (by omega), if_pos c, if_pos (by omega), if_pos c]
                        exact ⟨rfl, rfl⟩
                      · rw [if_neg (by omega), if_neg (by omega), if_neg c, if_neg (by omega), if_neg (by omega), if_neg c]
                        exact hag j (by omega)
                  · have hpb : pbad (pyS S.1.1 n S.2.1.2.2.2.1 i (sk S.1.1 n a)) = true := by have q := qb_0.mp c237; simpa using q
                    refine step.2 _ _ _ _ _ _ _ (qsub_cons 4 rfl (qsub_cons 5 rfl (qsub_cons 6 rfl qsub_nil))) ?_
                    exact at271 i h230 x9 _ _ nl hV9 (hR2c.trans (pbrun_b hpb m (i + 1))) (fun q => by rw [hpb] at q; cases q)
                have at183 : ∀ (hZ : qH) (x4 : Nat → Int32) (s : PS) (an bits : Int32), VT [63, 79] 79 16 nl 79 16 nl (h.1, qup h.2 63 (.inl (12, (M63l x y).set 0 (.int 0)))) hZ (upd x 0 0) x4 y n s → (pyd S.1.1 n S.2.1.2.2.2.1 i 11 (Sum.inr (sk S.1.1 n a), 0)).1 = s → (pbad (pyd S.1.1 n S.2.1.2.2.2.1 i 11 (Sum.inr (sk S.1.1 n a), 0)).1 = false → (pyd S.1.1 n S.2.1.2.2.2.1 i 11 (Sum.inr (sk S.1.1 n a), 0)).2 = bits) → (i = 8 → ∀ b : Nat, s = .inr b → b = (sk S.1.1 n a)) → run 183 [(5, .int an), (4, .int bits), (3, .int (x2 4)), (2, .int (nI i)), (0, .ref 63), (1, .int (nI n))] [] hZ 0 0 := by
                  intro hZ x4 s an bits hV4 hs1 hbit hfirst
                  cases s with
                  | inl e =>
                    refine step.1 _ _ _ _ _ _ _ sgX12_book_183_ok ?_
                    refine Or.inl ⟨rfl, _, 1, 0, 0, _, _, _, qi_12_142, ⟨rfl, rfl⟩, ⟨hV4.1, rfl⟩, rfl, rfl, M_fineS hg hV4.1 hV4.2.2.2.2.1, fun y184 h184 hy184 => ?_⟩
                    obtain ⟨rfl, hh⟩ := hy184
                    rw [hh]
                    clear hh
                    refine ⟨fun c187 => ?_, fun c187 => absurd (show (0 : Int32) = 0 from rfl) c187⟩
                    
                    exact at211 hZ x4 (.inl e) an bits hV4 (by unfold pyeq; rw [hs1]; split <;> rfl) hbit
                  | inr b =>
                    refine step.1 _ _ _ _ _ _ _ sgX12_book_183_ok ?_
                    refine Or.inl ⟨rfl, _, 1, 0, 0, _, _, _, qi_12_142, ⟨rfl, rfl⟩, ⟨hV4.1, rfl⟩, rfl, rfl, M_fineS hg hV4.1 hV4.2.2.2.2.1, fun y184 h184 hy184 => ?_⟩
                    obtain ⟨rfl, hh⟩ := hy184
                    rw [hh]
                    clear hh
                    refine ⟨fun c187 => absurd (show (1 : Int32) = 0 from c187) (by decide), fun c187 => ?_⟩
                    
                    refine Or.inl ⟨rfl, _, 1, 0, 0, _, _, _, qi_12_125, ⟨rfl, rfl⟩, ⟨hV4.1, rfl⟩, rfl, rfl, M_here hg hV4.1 hV4.2.2.2.2.1 (hB0.sm hV4.2.1 (by decide)), fun y191 h191 hy191 => ?_⟩
                    obtain ⟨rfl, hP5⟩ := hy191
                    obtain ⟨x5, hV5, -, -⟩ := hV4.st hP5 (by simp) (by decide) (by decide) (by decide)
                    have hb' : b ≤ n := hV4.2.2.2.2.1.2.2.2.2
                    refine ⟨fun c196 => ?_, fun c196 => ?_⟩
                    · have d61 : ¬ tby S.1.1 n (sk S.1.1 n b) = 61 := fun q => c196 (hch_61.mpr q)
                      refine at211 h191 x5 _ an bits hV5 ?_ hbit
                      rw [psign_k hb']
                      unfold pyeq
                      rw [hs1]
                      split
                      · show psign S.1.1 n 61 (.inr b) = psign S.1.1 n 61 (if tby S.1.1 n (sk S.1.1 n b) = 61 then .inl (3, sk S.1.1 n b) else .inr (sk S.1.1 n b))
                        rw [if_neg d61, psign_k hb']
                      · rfl
                    · have d61 : tby S.1.1 n (sk S.1.1 n b) = 61 := hch_61.mp c196
                      refine ⟨fun c202 => ?_, fun c202 => ?_⟩
                      · have i8 : ¬ 8 ≤ i := fun q => c202 (by rw [show i = 8 by omega]; rfl)
                        refine at211 h191 x5 _ an bits hV5 ?_ hbit
                        rw [psign_k hb']
                        unfold pyeq
                        rw [hs1, if_neg i8]
                      · have i8 : i = 8 := (nI_eq (b := 8) (by omega) (by decide)).mp c202
                        refine Or.inl ⟨rfl, _, 1, 0, 0, _, _, _, qi_12_149, ⟨rfl, rfl⟩, ⟨hV5.1, rfl⟩, rfl, rfl, (by rw [e4]; exact M_wrong hg hV5.1 hV5.2.2.2.2.1 3 (sk S.1.1 n a) (by omega)), fun y208 h208 hy208 => ?_⟩
                        obtain ⟨rfl, hP6⟩ := hy208
                        obtain ⟨x6, hV6, -, -⟩ := hV5.st hP6 (by simp) (by decide) (by decide) (by decide)
                        refine at211 h208 x6 _ an bits hV6 ?_ hbit
                        unfold pyeq
                        rw [hs1, if_pos (by omega)]
                        show psign S.1.1 n 61 (.inl (3, (sk S.1.1 n a))) = psign S.1.1 n 61 (if tby S.1.1 n (sk S.1.1 n b) = 61 then .inl (3, sk S.1.1 n b) else .inr (sk S.1.1 n b))
                        rw [if_pos d61, hfirst i8 b rfl, hsA]
                have bad72 : ∀ (hZ : qH) (x3 : Nat → Int32) (s : PS) (an bits : Int32), pbad s = true → VT [63, 79] 79 16 nl 79 16 nl (h.1, qup h.2 63 (.inl (12, (M63l x y).set 0 (.int 0)))) hZ (upd x 0 0) x3 y n s → (pyd S.1.1 n S.2.1.2.2.2.1 i 11 (Sum.inr (sk S.1.1 n a), 0)) = (s, bits) → run 72 [(5, .int an), (4, .int bits), (3, .int (x2 4)), (2, .int (nI i)), (0, .ref 63), (1, .int (nI n))] [] hZ 0 0 := by
                  intro hZ x3 s an bits hb hV3 hpd
                  refine step.1 _ _ _ _ _ _ _ sgX12_book_72_ok ?_
                  refine Or.inl ⟨rfl, _, 1, 0, 0, _, _, _, qi_12_142, ⟨rfl, rfl⟩, ⟨hV3.1, rfl⟩, rfl, rfl, M_fineS hg hV3.1 hV3.2.2.2.2.1, fun y73 h73 hy73 => ?_⟩
                  obtain ⟨rfl, hh⟩ := hy73
                  rw [hh]
                  clear hh
                  refine ⟨fun c76 => ?_, fun c76 => absurd hb (by have q := qb_1.mp c76; simpa using q)⟩
                  
                  exact at183 hZ x3 s an bits hV3 (by rw [hpd]) (fun _ => by rw [hpd]) (fun _ b q => by rw [q] at hb; cases hb)
                have loop2 : ∀ (m2 c gm : Nat) (hZ : qH) (x3 : Nat → Int32) (s : PS) (bits : Int32) (P2 : Nat → Int32), m2 + c = 11 → VT [63, 79] 79 16 nl 79 16 nl (h.1, qup h.2 63 (.inl (12, (M63l x y).set 0 (.int 0)))) hZ (upd x 0 0) x3 y n s → (pyd S.1.1 n S.2.1.2.2.2.1 i 11 (Sum.inr (sk S.1.1 n a), 0)) = pyd S.1.1 n S.2.1.2.2.2.1 i m2 (s, bits) → (pbad s = false → bits = nI gm ∧ LG P2 c S.2.1.2.2.2.1 ∧ GB gm P2 c ∧ (i = 8 → c = 0 ∧ ∀ b : Nat, s = .inr b → b = (sk S.1.1 n a))) → run 72 [(5, .int (if c = 0 then 0 else 1)), (4, .int bits), (3, .int (x2 4)), (2, .int (nI i)), (0, .ref 63), (1, .int (nI n))] [] hZ 0 0 := by
                  intro m2
                  induction m2 with
                  | zero =>
                    intro c gm hZ x3 s bits P2 hm2 hV3 hpd hgd2
                    cases s with
                    | inl e => exact bad72 hZ x3 (.inl e) _ bits rfl hV3 hpd
                    | inr b => exact absurd (hgd2 rfl).2.1.le (by omega)
                  | succ m2 ih2 =>
                    intro c gm hZ x3 s bits P2 hm2 hV3 hpd hgd2
                    cases s with
                    | inl e => exact bad72 hZ x3 (.inl e) _ bits rfl hV3 hpd
                    | inr b =>
                      obtain ⟨ebt, hLG, hGB, hz8⟩ := hgd2 rfl
                      refine step.1 _ _ _ _ _ _ _ sgX12_book_72_ok ?_
                      refine Or.inl ⟨rfl, _, 1, 0, 0, _, _, _, qi_12_142, ⟨rfl, rfl⟩, ⟨hV3.1, rfl⟩, rfl, rfl, M_fineS hg hV3.1 hV3.2.2.2.2.1, fun y73 h73 hy73 => ?_⟩
                      obtain ⟨rfl, hh⟩ := hy73
                      rw [hh]
                      clear hh
                      refine ⟨fun c76 => absurd (show (1 : Int32) = 0 from c76) (by decide), fun c76 => ?_⟩
                      
                      refine Or.inl ⟨rfl, _, 1, 0, 0, _, _, _, qi_12_125, ⟨rfl, rfl⟩, ⟨hV3.1, rfl⟩, rfl, rfl, M_here hg hV3.1 hV3.2.2.2.2.1 (hB0.sm hV3.2.1 (by decide)), fun y80 h80 hy80 => ?_⟩
                      obtain ⟨rfl, hP4⟩ := hy80
                      obtain ⟨x4, hV4, -, -⟩ := hV3.st hP4 (by simp) (by decide) (by decide) (by decide)
                      have hbn : b ≤ n := hV3.2.2.2.2.1.2.2.2.2
                      have hBn := (sk_le S.1.1 hbn).2
                      have hsB : sk S.1.1 n (sk S.1.1 n b) = (sk S.1.1 n b) := sk_sk S.1.1 hbn
                      have e6 : x4 4 = nI (sk S.1.1 n b) := hV4.2.2.2.2.1.2.2.2.1
                      have e19 : x4 19 = nI S.2.1.2.2.2.1 := (hV4.2.2.1 19 (by decide)).trans hR.1.2.2.1
                      refine Or.inl ⟨rfl, _, 1, 0, 0, _, Or.inl qi_12_146, ⟨rfl, rfl⟩, rfl, rfl, M_isDigit hg _, fun y83 h83 hy83 => ?_⟩
                      obtain ⟨rfl, hh⟩ := hy83
                      rw [hh]
                      clear hh
                      refine ⟨fun c86 => ?_, fun c86 => ?_⟩
                      · have hdg : ¬ isdg (tby S.1.1 n (sk S.1.1 n b)) = true := by rw [← isdg_h, qb_0.mp c86]; decide
                        have hpe : (pyd S.1.1 n S.2.1.2.2.2.1 i 11 (Sum.inr (sk S.1.1 n a), 0)) = (.inr (sk S.1.1 n b), bits) := by
                          rw [hpd]
                          exact if_neg hdg
                        exact at183 h80 x4 _ _ bits hV4 (by rw [hpe]) (fun _ => by rw [hpe]) (fun q b' e => by
                          have := (hz8 q).2 b rfl
                          cases e
                          rw [this]; exact hsA)
                      · have hdg : isdg (tby S.1.1 n (sk S.1.1 n b)) = true := by rw [← isdg_h]; exact qb_1.mp c86
                        have hpe : (pyd S.1.1 n S.2.1.2.2.2.1 i 11 (Sum.inr (sk S.1.1 n a), 0)) = pyd S.1.1 n S.2.1.2.2.2.1 i m2 (pyst S.1.1 n S.2.1.2.2.2.1 i (sk S.1.1 n b) bits) := by
                          rw [hpd]
                          exact if_pos hdg
                        refine ⟨by decide, _, _, hV4.1, rfl, ?_⟩
                        refine ⟨by decide, _, _, hV4.1, rfl, ?_⟩
                        refine Or.inl ⟨rfl, _, 2, 0, 0, _, _, _, qi_12_202, ⟨rfl, rfl⟩, ⟨hV4.1, rfl⟩, rfl, rfl, (by rw [e19]; exact M_num hg hV4.1 hV4.2.2.2.2.1 (hB0.sm hV4.2.1 (by decide)) 0 (nI_m1 hn10)), fun y103 h103 hy103 => ?_⟩
                        obtain ⟨rfl, hP5⟩ := hy103
                        obtain ⟨x5, hV5, -, -⟩ := hV4.st hP5 (by simp) (by decide) (by decide) (by decide)
                        have at158 : ∀ (hZ : qH) (x5 : Nat → Int32) (e : Nat × Nat), VT [63, 79] 79 16 nl 79 16 nl (h.1, qup h.2 63 (.inl (12, (M63l x y).set 0 (.int 0)))) hZ (upd x 0 0) x5 y n (.inl e) → (pyst S.1.1 n S.2.1.2.2.2.1 i (sk S.1.1 n b) bits).1 = .inl e → run 158 [(7, .int (pnum S.1.1 n 0 (nI S.2.1.2.2.2.1 - 1) (Sum.inr (sk S.1.1 n b))).2), (6, .int (x4 4)), (5, .int (if c = 0 then 0 else 1)), (4, .int bits), (3, .int (x2 4)), (2, .int (nI i)), (0, .ref 63), (1, .int (nI n))] [] hZ 0 0 := by
                          intro hZ x5 e hV5 he
                          refine step.1 _ _ _ _ _ _ _ sgX12_book_158_ok ?_
                          refine Or.inl ⟨rfl, _, 1, 0, 0, _, _, _, qi_12_142, ⟨rfl, rfl⟩, ⟨hV5.1, rfl⟩, rfl, rfl, M_fineS hg hV5.1 hV5.2.2.2.2.1, fun y159 h159 hy159 => ?_⟩
                          obtain ⟨rfl, hh⟩ := hy159
                          rw [hh]
                          clear hh
                          refine ⟨fun c162 => absurd rfl c162, fun c162 => ?_⟩
                          
                          refine step.2 _ _ _ _ _ _ _ (qsub_cons 2 rfl (qsub_cons 3 rfl (qsub_cons 4 rfl (qsub_cons 5 rfl (qsub_cons 6 rfl (qsub_cons 7 rfl qsub_nil)))))) ?_
                          exact at183 hZ x5 (.inl e) _ bits hV5 (by rw [hpe, pyd_b (by rw [he]; rfl), he]) (fun q => by rw [hpe, pyd_b (by rw [he]; rfl), he] at q; cases q) (fun _ b q => by cases q)
                        have at133 : ∀ (hZ : qH) (x5 : Nat → Int32) (e : Nat × Nat), VT [63, 79] 79 16 nl 79 16 nl (h.1, qup h.2 63 (.inl (12, (M63l x y).set 0 (.int 0)))) hZ (upd x 0 0) x5 y n (.inl e) → (pyst S.1.1 n S.2.1.2.2.2.1 i (sk S.1.1 n b) bits).1 = .inl e → run 133 [(7, .int (pnum S.1.1 n 0 (nI S.2.1.2.2.2.1 - 1) (Sum.inr (sk S.1.1 n b))).2), (6, .int (x4 4)), (5, .int (if c = 0 then 0 else 1)), (4, .int bits), (3, .int (x2 4)), (2, .int (nI i)), (0, .ref 63), (1, .int (nI n))] [] hZ 0 0 := by
                          intro hZ x5 e hV5 he
                          refine step.1 _ _ _ _ _ _ _ sgX12_book_133_ok ?_
                          refine Or.inl ⟨rfl, _, 1, 0, 0, _, _, _, qi_12_142, ⟨rfl, rfl⟩, ⟨hV5.1, rfl⟩, rfl, rfl, M_fineS hg hV5.1 hV5.2.2.2.2.1, fun y134 h134 hy134 => ?_⟩
                          obtain ⟨rfl, hh⟩ := hy134
                          rw [hh]
                          clear hh
                          refine ⟨fun c137 => ?_, fun c137 => absurd (show (0 : Int32) = 0 from rfl) c137⟩
                          
                          exact at158 hZ x5 e hV5 he
                        refine Or.inl ⟨rfl, _, 1, 0, 0, _, _, _, qi_12_142, ⟨rfl, rfl⟩, ⟨hV5.1, rfl⟩, rfl, rfl, M_fineS hg hV5.1 hV5.2.2.2.2.1, fun y109 h109 hy109 => ?_⟩
                        obtain ⟨rfl, hh⟩ := hy109
                        rw [hh]
                        clear hh
                        refine ⟨fun c112 => ?_, fun c112 => ?_⟩
                        · have hb0 : pbad (pnum S.1.1 n 0 (nI S.2.1.2.2.2.1 - 1) (Sum.inr (sk S.1.1 n b))).1 = true := by have q := qb_0.mp c112; simpa using q
                          obtain ⟨e5, ee5⟩ : ∃ e5 : Nat × Nat, (pnum S.1.1 n 0 (nI S.2.1.2.2.2.1 - 1) (Sum.inr (sk S.1.1 n b))).1 = .inl e5 := by
                            cases q : (pnum S.1.1 n 0 (nI S.2.1.2.2.2.1 - 1) (Sum.inr (sk S.1.1 n b))).1 with
                            | inl e => exact ⟨e, rfl⟩
                            | inr z => rw [q] at hb0; cases hb0
                          have hV5g := hV5
                          rw [ee5] at hV5g
                          exact at133 h103 x5 e5 hV5g (by rw [pyst_b hb0]; exact ee5)
                        · have hb0 : pbad (pnum S.1.1 n 0 (nI S.2.1.2.2.2.1 - 1) (Sum.inr (sk S.1.1 n b))).1 = false := by have q := qb_1.mp c112; simpa using q
                          obtain ⟨d, hd, ed⟩ := pnum_nat (by omega) hb0
                          obtain ⟨b2, eb2⟩ : ∃ b2 : Nat, pnumS S.1.1 n 0 (nI S.2.1.2.2.2.1 - 1) (.inr (sk S.1.1 n b)) = .inr b2 := by
                            cases q : pnumS S.1.1 n 0 (nI S.2.1.2.2.2.1 - 1) (.inr (sk S.1.1 n b)) with
                            | inr z => exact ⟨z, rfl⟩
                            | inl e => rw [show (pnum S.1.1 n 0 (nI S.2.1.2.2.2.1 - 1) (Sum.inr (sk S.1.1 n b))).1 = .inl e from q] at hb0; cases hb0
                          have hV5g : VT [63, 79] 79 16 nl 79 16 nl (h.1, qup h.2 63 (.inl (12, (M63l x y).set 0 (.int 0)))) h103 (upd x 0 0) x5 y n (.inr b2) := by rw [← eb2]; exact hV5
                          refine ⟨fun c123 => ?_, fun c123 => ?_⟩
                          · have hd0 : (bits >>> ((pnum S.1.1 n 0 (nI S.2.1.2.2.2.1 - 1) (Sum.inr (sk S.1.1 n b))).2 &&& 31)) &&& 1 = 0 := by
                              rw [ed, ebt, hGB.bit (by omega)] at c123 ⊢
                              cases z : lhas P2 (nI d) 0 c with
                              | true => rw [z] at c123; exact absurd rfl c123
                              | false => rfl
                            refine step.1 _ _ _ _ _ _ _ sgX12_book_133_ok ?_
                            refine Or.inl ⟨rfl, _, 1, 0, 0, _, _, _, qi_12_142, ⟨rfl, rfl⟩, ⟨hV5g.1, rfl⟩, rfl, rfl, M_fineS hg hV5g.1 hV5g.2.2.2.2.1, fun y134 h134 hy134 => ?_⟩
                            obtain ⟨rfl, hh⟩ := hy134
                            rw [hh]
                            clear hh
                            refine ⟨fun c137 => absurd (show (1 : Int32) = 0 from c137) (by decide), fun c137 => ?_⟩
                            
                            refine ⟨fun c143 => ?_, fun c143 => ?_⟩
                            · have hi8 : i < 8 := by
                                have : i ≠ 8 := fun q => c143 (by rw [q]; rfl)
                                omega
                              refine step.1 _ _ _ _ _ _ _ sgX12_book_158_ok ?_
                              refine Or.inl ⟨rfl, _, 1, 0, 0, _, _, _, qi_12_142, ⟨rfl, rfl⟩, ⟨hV5g.1, rfl⟩, rfl, rfl, M_fineS hg hV5g.1 hV5g.2.2.2.2.1, fun y159 h159 hy159 => ?_⟩
                              obtain ⟨rfl, hh⟩ := hy159
                              rw [hh]
                              clear hh
                              refine ⟨fun c162 => ?_, fun c162 => absurd (show (1 : Int32) = 0 from c162) (by decide)⟩
                              
                              refine step.1 _ _ _ _ _ _ _ sgX12_book_168_ok ?_
                              refine step.2 _ _ _ _ _ _ _ (qsub_cons 0 rfl (qsub_cons 1 rfl (qsub_cons 4 rfl (qsub_cons 5 rfl (qsub_cons 6 rfl (qsub_cons 7 rfl qsub_nil)))))) ?_
                              have elh : lhas P2 (nI d) 0 c = false := by
                                have q := hd0
                                rw [ed, ebt, hGB.bit (by omega)] at q
                                exact qb_0.mp q
                              have hLG2 := hLG.add (v := 0) (r := 0) hn10 hd elh (by decide) (by decide)
                              have hGB2 := hGB.add (d := d) (by omega) (nI 0) (nI 0)
                              have kk := ih2 (c + 1) (gm ||| 2 ^ d) h103 x5 (.inr b2) (bits ||| 1 <<< ((pnum S.1.1 n 0 (nI S.2.1.2.2.2.1 - 1) (Sum.inr (sk S.1.1 n b))).2 &&& 31)) (lput P2 c (nI d) (nI 0) (nI 0)) (by omega) hV5g (by rw [hpe, pyst_g hd0 hi8, eb2]) (fun _ => ⟨?_, hLG2, hGB2, fun q => absurd q (by omega)⟩)
                              · rw [if_neg (Nat.succ_ne_zero c)] at kk
                                exact kk
                              · rw [ed, ebt, b_shl (by omega), b_or]
                            · have hi8 : i = 8 := (nI_eq (b := 8) (by omega) (by decide)).mp c143
                              refine ⟨fun c148 => ?_, fun c148 => ?_⟩
                              · have hc0 : ¬ c = 0 := fun q => c148 (by rw [if_pos q])
                                exact absurd (hz8 ((nI_eq (b := 8) (by omega) (by decide)).mp c143)).1 hc0
                              · refine Or.inl ⟨rfl, _, 1, 0, 0, _, _, _, qi_12_149, ⟨rfl, rfl⟩, ⟨hV5g.1, rfl⟩, rfl, rfl, (by rw [e6]; exact M_wrong hg hV5g.1 hV5g.2.2.2.2.1 3 (sk S.1.1 n b) (by omega)), fun y155 h155 hy155 => ?_⟩
                                obtain ⟨rfl, hP6⟩ := hy155
                                obtain ⟨x6, hV6, -, -⟩ := hV5g.st hP6 (by simp) (by decide) (by decide) (by decide)
                                exact at158 h155 x6 (3, (sk S.1.1 n b)) hV6 (by rw [pyst_8 hd0 (by omega), eb2, hsB]; rfl)
                          · have hd0 : ¬ (bits >>> ((pnum S.1.1 n 0 (nI S.2.1.2.2.2.1 - 1) (Sum.inr (sk S.1.1 n b))).2 &&& 31)) &&& 1 = 0 := by rw [c123]; decide
                            refine Or.inl ⟨rfl, _, 1, 0, 0, _, _, _, qi_12_149, ⟨rfl, rfl⟩, ⟨hV5.1, rfl⟩, rfl, rfl, (by rw [e6]; exact M_wrong hg hV5.1 hV5.2.2.2.2.1 2 (sk S.1.1 n b) (by omega)), fun y130 h130 hy130 => ?_⟩
                            obtain ⟨rfl, hP7⟩ := hy130
                            rw [show (pnum S.1.1 n 0 (nI S.2.1.2.2.2.1 - 1) (Sum.inr (sk S.1.1 n b))).1 = .inr b2 from eb2] at hP7
                            obtain ⟨x7, hV7, -, -⟩ := hV5g.st hP7 (by simp) (by decide) (by decide) (by decide)
                            exact at133 h130 x7 (2, (sk S.1.1 n b)) hV7 (by rw [pyst_d hd0, eb2, hsB]; rfl)
                refine ⟨by decide, _, _, hV2.1, rfl, ?_⟩
                exact loop2 11 0 0 h55 x2 (.inr (sk S.1.1 n a)) 0 (fun _ => 0) (by omega) hV2 rfl (fun _ => ⟨rfl, ⟨fun _ => 0, fun _ => 0, fun _ => 0, fun j hj => absurd hj (Nat.not_lt_zero j), fun j hj => absurd hj (Nat.not_lt_zero j), fun j k hj => absurd hj (Nat.not_lt_zero j)⟩, GB.z _, fun _ => ⟨rfl, fun b q => by cases q; rfl⟩⟩)
        refine ⟨fun _ => ?_, fun c35 => absurd c35 (by decide)⟩
        refine step.1 _ _ _ _ _ _ _ sgX12_book_40_ok ?_
        refine Or.inl ⟨rfl, _, 1, 0, 0, _, _, _, qi_12_251, ⟨rfl, rfl⟩, ⟨hM0.1, rfl⟩, rfl, rfl, M_begins hg hM0.1 hn600, fun y42 h42 hy42 => ?_⟩
        obtain ⟨rfl, x5, g1, g2, g3, g4, g5, g6, g7⟩ := hy42
        have hV0 : VT [63, 79] 79 16 (F 79) 79 16 (F 79) (h.1, qup h.2 63 (.inl (12, (M63l x y).set 0 (.int 0)))) h42 (upd x 0 0) x5 y n (.inr 0) := by
          refine ⟨g1, g2.sub (by simp), fun k hk => g3 k (fun q => hk (by simp at q ⊢; omega)), g4, g7, (g2.2 79 (by decide)).trans hM0.c79, (g2.2 79 (by decide)).trans hM0.c79⟩
        exact loop 9 0 h42 _ (.inr 0) (B41, B42, 0) (F 79) (by omega) (fun q => absurd q (by decide)) hV0 rfl (fun _ => ⟨rfl, by decide, fun j hj => absurd hj (Nat.not_lt_zero j)⟩)
end Q13C
