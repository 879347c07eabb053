section Q12X
theorem Rel.told {S : CS} {x x' : Nat → Int32} {F F' : Nat → Nat → Int32} (hR : Rel S x F) {v : Int32} (h2' : x' 2 = 0) (h8' : x' 8 = v) (hx : ∀ k : Nat, k ∈ [19, 20, 21, 22, 23, 36, 37, 62, 64] → x' k = x k) (hF : ∀ j : Nat, j ∈ [64, 65, 67, 69, 72, 73, 74, 78, 80, 90, 91] → F' j = F j) : Rel ((S.1.1, 0, v), S.2) x' F' := by
  obtain ⟨⟨h2, h8, h19, h20, h21, h22, h23', h36', h37, h62', h64'⟩, hbt, h3, hl, hy, hr, hm, hi⟩ := hR
  have e := fun k hk => hx k hk
  have f := fun k hk => hF k hk
  unfold Rel
  rw [e 19 (by decide), e 20 (by decide), e 21 (by decide), e 22 (by decide), e 23 (by decide), e 36 (by decide), e 37 (by decide), e 62 (by decide), e 64 (by decide), f 64 (by decide), f 65 (by decide), f 67 (by decide), f 69 (by decide), f 72 (by decide), f 73 (by decide), f 74 (by decide), f 78 (by decide), f 80 (by decide), f 90 (by decide), f 91 (by decide), h2', h8']
  exact ⟨⟨rfl, rfl, h19, h20, h21, h22, h23', h36', h37, h62', h64'⟩, hbt, h3, hl, hy, hr, hm, hi⟩
theorem Rel.vil {S : CS} {x x' : Nat → Int32} {F F' : Nat → Nat → Int32} (hR : Rel S x F) {v : Int32} {D' P' U' Q' : Nat → Int32} {N' M' : Nat} {st ve cl : Int32} (h2' : x' 2 = 0) (h8' : x' 8 = v) (h19' : x' 19 = nI N') (h20' : x' 20 = nI M') (h21' : x' 21 = st) (h22' : x' 22 = ve) (h23' : x' 23 = cl) (hx : ∀ k : Nat, k ∈ [36, 37, 62, 64] → x' k = 0) (hF : ∀ j : Nat, j ∈ [64, 65] → F' j = F j) (h67 : ag (N' * 10) (F' 67) D') (h69 : ag (M' * 4) (F' 69) Q') (h74 : ∀ j : Nat, j < 2 → F' 74 j = 0) : Rel (svil S v D' P' U' N' Q' M' st ve cl) x' F' := by
  obtain ⟨h1, hbt, h3, hl, hy, hr, hm, hi⟩ := hR
  refine ⟨⟨h2', h8', h19', h20', h21', h22', h23', hx 36 (by decide), hx 37 (by decide), hx 62 (by decide), hx 64 (by decide)⟩, ?_, ⟨h67, h69, fun j hj => absurd hj (by show ¬ j < 0 * 3; omega)⟩, ⟨⟨h74 0 (by decide), fun j hj => absurd hj (Nat.not_lt_zero j), fun j hj => absurd hj (Nat.not_lt_zero j)⟩, h74 1 (by decide), fun j hj => absurd hj (Nat.not_lt_zero j), fun j hj => absurd hj (Nat.not_lt_zero j)⟩, fun j hj => absurd hj (Nat.not_lt_zero j), ?_, trivial, fun q hq => absurd hq (Nat.not_lt_zero q)⟩
  · rw [hF 65 (by decide)]; exact hbt
  · rw [hF 64 (by decide)]; exact hr
theorem psign_f {F : Nat → Int32} {n : Nat} {w : Int32} {s : PS} (h : pbad (psign F n w s) = false) : pbad s = false := by
  cases s with
  | inl e => exact h
  | inr a => rfl
theorem b255_ne (v : Int32) : ¬ v &&& 255 = -1 := fun h => by
  have q : (v &&& 255) &&& 256 = (-1 : Int32) &&& 256 := by rw [h]
  rw [Int32.and_assoc, show (255 : Int32) &&& 256 = 0 by decide, Int32.and_zero] at q
  exact absurd q (by decide)
theorem tOK_f {he : Nat} {m v : Int32} (h : v < 0 ∨ nI he < v) : tOK he m v = false := by
  unfold tOK
  rcases h with h | h
  · rw [show wi 0 m v = false by rw [wi, decide_eq_false (Int32.not_le.mpr h)]; rfl]; rfl
  · rw [decide_eq_false (Int32.not_le.mpr h), Bool.and_false]
set_option maxHeartbeats 4000000 in
theorem M_village {g : qG} (hg : qOK g) {h : qH} {x : Nat → Int32} {y : Nat → Int64} {F : Nat → Nat → Int32} {G : Nat → Nat → Int64} (hM : MX h x y F G) {S : CS} (hR : Rel S x F) (hI : INV S) (hJ : qJDK g) (hW : qMW g) {f : Nat → Nat} {len : Nat} (hvbr : vbr f len) (D4 P4 U4 Q4 : Nat → Int32) (v : Int32) : qSpec g 9 0 0 mX12_village [.ref 63, .int v] h (fun r h' => ((tOK S.1.2.1 600 v = true) ∧ (∃ n : Nat, n ≤ S.1.2.1 ∧ n ≤ 600 ∧ v = nI n ∧ (if pbad (pvrun S.1.1 n f len 61 0 (Sum.inr 0, D4, 0, Q4, 0, 0, 2, 120)).1 = true then r = some (.int (pki (pvrun S.1.1 n f len 61 0 (Sum.inr 0, D4, 0, Q4, 0, 0, 2, 120)).1 - 10)) ∧ MG h h' ((S.1.1, 0, ppl (pvrun S.1.1 n f len 61 0 (Sum.inr 0, D4, 0, Q4, 0, 0, 2, 120)).1), S.2) else r = some (.int (nI (pvrun S.1.1 n f len 61 0 (Sum.inr 0, D4, 0, Q4, 0, 0, 2, 120)).2.2.1)) ∧ MG h h' (svil S (ppl (pvrun S.1.1 n f len 61 0 (Sum.inr 0, D4, 0, Q4, 0, 0, 2, 120)).1) (va_cpy (pvrun S.1.1 n f len 61 0 (Sum.inr 0, D4, 0, Q4, 0, 0, 2, 120)).2.1 S.2.1.1 0 0 100) (va_cpy P4 S.2.1.2.1 0 0 30) (va_cpy U4 S.2.1.2.2.1 0 0 100) (pvrun S.1.1 n f len 61 0 (Sum.inr 0, D4, 0, Q4, 0, 0, 2, 120)).2.2.1 (va_cpy (pvrun S.1.1 n f len 61 0 (Sum.inr 0, D4, 0, Q4, 0, 0, 2, 120)).2.2.2.1 S.2.2.2.1.1 0 0 32) (pvrun S.1.1 n f len 61 0 (Sum.inr 0, D4, 0, Q4, 0, 0, 2, 120)).2.2.2.2.1 (pvrun S.1.1 n f len 61 0 (Sum.inr 0, D4, 0, Q4, 0, 0, 2, 120)).2.2.2.2.2.1 (pvrun S.1.1 n f len 61 0 (Sum.inr 0, D4, 0, Q4, 0, 0, 2, 120)).2.2.2.2.2.2.1 (pvrun S.1.1 n f len 61 0 (Sum.inr 0, D4, 0, Q4, 0, 0, 2, 120)).2.2.2.2.2.2.2)))) ∨ ∃ (k : Nat) (c : Int32), ((k = 1 ∧ c = 1 ∧ ¬ (tOK S.1.2.1 600 v = true))) ∧ (∃ z, r = some (.int z)) ∧ mbad h h' S k c) := by
  refine qSpec_run 12 "village" false hg mX12_village_ok rfl rfl (Nat.le_of_ble_eq_true rfl) (by decide) ?_
  intro run step
  have hhe := hI.1
  have e2 : (upd x 0 0) 2 = nI S.1.2.1 := hR.1.1
  refine step.1 _ _ _ _ _ _ _ sgX12_village_0_ok ?_
  refine ⟨_, hM.1, Nat.le_of_ble_eq_true rfl, rfl, ?_⟩
  have hM0 := hM.p63 (sI_0 (v := 0) (rfl : _ = M63l x y))
  have hR0 : Rel S (upd x 0 0) F := hR.t 0
  have hk0 := kp.rf (h := h) |>.u (k := 63) (e := .inl (12, (M63l x y).set 0 (.int 0))) (by decide) (by decide)
  refine ⟨fun c7 => ?_, fun c7 => ?_⟩
  · have w7 : tOK S.1.2.1 600 v = false := tOK_f (Or.inl c7)
    refine step.1 _ _ _ _ _ _ _ sgX12_village_22_ok ?_
    refine step.1 _ _ _ _ _ _ _ sgX12_village_23_ok ?_
    refine Or.inl ⟨rfl, _, 1, 0, 0, _, _, _, qi_12_247, ⟨rfl, rfl⟩, ⟨hM0.1, rfl⟩, rfl, rfl, M_mayB hg hM0 hR0 rfl 1 (by decide) 1 (by decide), fun y25 h25 hy25 => ?_⟩
    obtain ⟨rfl, hb⟩ := hy25
    refine ⟨fun c28 => absurd c28 (by decide), fun _ => ?_⟩
    refine ⟨.int, rfl, rfl, Nat.le_refl _, Nat.le_refl _, ?_⟩
    exact Or.inr ⟨1, 1, ⟨rfl, rfl, (by rw [w7]; decide)⟩, ⟨_, rfl⟩, mbad.l hk0 hb⟩
  · refine ⟨by decide, _, _, hM0.1, rfl, ?_⟩
    refine ⟨fun c15 => ?_, fun c15 => ?_⟩
    · have w15 : tOK S.1.2.1 600 v = false := tOK_f (Or.inr (by rw [← e2]; exact c15))
      refine step.1 _ _ _ _ _ _ _ sgX12_village_22_ok ?_
      refine step.1 _ _ _ _ _ _ _ sgX12_village_23_ok ?_
      refine Or.inl ⟨rfl, _, 1, 0, 0, _, _, _, qi_12_247, ⟨rfl, rfl⟩, ⟨hM0.1, rfl⟩, rfl, rfl, M_mayB hg hM0 hR0 rfl 1 (by decide) 1 (by decide), fun y25 h25 hy25 => ?_⟩
      obtain ⟨rfl, hb⟩ := hy25
      refine ⟨fun c28 => absurd c28 (by decide), fun _ => ?_⟩
      refine ⟨.int, rfl, rfl, Nat.le_refl _, Nat.le_refl _, ?_⟩
      exact Or.inr ⟨1, 1, ⟨rfl, rfl, (by rw [w15]; decide)⟩, ⟨_, rfl⟩, mbad.l hk0 hb⟩
    · have hvh : v ≤ nI S.1.2.1 := by rw [← e2]; exact Int32.not_lt.mp c15
      have hv0 : 0 ≤ v := Int32.not_lt.mp c7
      have hv6 : wi 0 600 v = true := by
        show (decide (0 ≤ v) && decide (v ≤ nI 600)) = true
        rw [decide_eq_true hv0, decide_eq_true (Int32.le_trans hvh (nI_le (b := 600) hhe (by decide)))]; rfl
      have hWv : tOK S.1.2.1 600 v = true := by
        unfold tOK
        rw [show wi 0 (600 : Int32) v = true from hv6, decide_eq_true hvh]; rfl
      obtain ⟨n, hnh, rfl⟩ : ∃ n : Nat, n ≤ S.1.2.1 ∧ v = nI n := by
        obtain ⟨n, hn, rfl⟩ := wi_nat (m := 600) (by decide) hv6
        exact ⟨n, (nI_leI (by omega) (by omega)).mp hvh, rfl⟩
      have hn6 : n ≤ 600 := by omega
      have hB0 : mB (h.1, qup h.2 63 (.inl (12, (M63l x y).set 0 (.int 0)))) S.1.1 := hR0.mB hM0
      refine step.1 _ _ _ _ _ _ _ sgX12_village_23_ok ?_
      refine Or.inl ⟨rfl, _, 1, 0, 0, _, _, _, qi_12_247, ⟨rfl, rfl⟩, ⟨hM0.1, rfl⟩, rfl, rfl, M_may hg hM0.1 rfl _ _, fun y25 h25 hy25 => ?_⟩
      obtain ⟨rfl, hh⟩ := hy25
      rw [hh]
      clear hh
      have at164 : ∀ (i : Nat) (hX : qH) (x1 : Nat → Int32) (s : PS) (V : VD), VX (h.1, qup h.2 63 (.inl (12, (M63l x y).set 0 (.int 0)))) hX (upd x 0 0) x1 y n s V → (pvrun S.1.1 n f len 61 0 (Sum.inr 0, D4, 0, Q4, 0, 0, 2, 120)) = (s, V) → (V.2.1 ≤ 10 ∧ V.2.2.2.1 ≤ 8) → run 164 [(2, .int (nI i)), (0, .ref 63), (1, .int (nI n))] [] hX 0 0 := by
        intro i hX x1 s V hV hR1 hVb
        refine step.1 _ _ _ _ _ _ _ sgX12_village_164_ok ?_
        refine ⟨by decide, _, _, hV.1, rfl, ?_⟩
        refine Or.inl ⟨rfl, _, 2, 0, 0, _, _, _, qi_12_272, ⟨rfl, rfl⟩, ⟨hV.1, rfl⟩, rfl, rfl, M_result hg hV.1 hV.2.2.2.2.1 (x1 14), fun y169 h169 hy169 => ?_⟩
        obtain ⟨rfl, x3, g1, g2, g4, g5, g6⟩ := hy169
        obtain ⟨⟨nd, a1⟩, ns, a2⟩ := hV.2.2.2.2.2.1
        have hs3 : same (h.1, qup h.2 63 (.inl (12, (M63l x y).set 0 (.int 0)))) h169 [63, 66, 68] := same.tr (l := [63, 66, 68]) hV.2.1 g2 (by simp) (by simp)
        obtain ⟨FZ, hFZ⟩ : ∃ FZ : Nat → Nat → Int32, fup (fup F 66 nd) 68 ns = FZ := ⟨_, rfl⟩
        have hMZ : MX h169 x3 y FZ G := by
          rw [← hFZ]
          refine ⟨g1, fun j b1 b2 => ?_⟩
          by_cases c6 : j = 66
          · subst c6; exact (g2.2 66 (by decide)).trans a1
          · by_cases c8 : j = 68
            · subst c8; exact (g2.2 68 (by decide)).trans a2
            · rw [mcell_f c8, mcell_f c6, hs3.2 j (by simp; omega)]
              exact hM0.2 j b1 b2
        have hkZ : kp h h169 := hk0.s hs3 (by simp)
        refine ⟨by decide, _, _, hMZ.1, rfl, ?_⟩
        refine ⟨fun c178 => ?_, fun c178 => ?_⟩
        · have hsb : pbad s = true := by
            cases s with
            | inl e => rfl
            | inr a => exact absurd g6.2.2.1 c178
          refine step.1 _ _ _ _ _ _ _ sgX12_village_185_ok ?_
          refine ⟨.int, rfl, rfl, Nat.le_refl _, Nat.le_refl _, ?_⟩
          refine Or.inl ⟨hWv, n, hnh, hn6, rfl, ?_⟩
          rw [hR1]
          have hx8 : x3 8 = ppl s := g5
          rw [if_pos hsb]
          refine ⟨congrArg (fun z => some (Value.int z)) (if_pos hsb), x3, y, FZ, G, hMZ, hkZ, hR0.told ((g4 2 (by decide)).trans hV.2.2.2.1) hx8 (fun k hk => ?_) (fun j hj => ?_), ?_⟩
          · rw [g4 k (fun q => by simp at q; subst q; simp at hk)]
            exact hV.2.2.1 k (fun q => by simp at q hk; omega)
          · simp at hj
            rw [← hFZ, fup_n (by omega), fup_n (by omega)]
          · rw [g4 0 (by decide)]
            exact hV.2.2.1 0 (by decide)
        · have hsb : pbad s = false := by
            cases s with
            | inr a => rfl
            | inl e => exact absurd (g6.2.2.2.1.symm.trans c178) (mne g6.2.2.2.2)
          have hNd : h169.2 66 = some (aI' 100 nd) := (g2.2 66 (by decide)).trans a1
          have hNs : h169.2 68 = some (aI' 32 ns) := (g2.2 68 (by decide)).trans a2
          refine Or.inl ⟨rfl, _, 2, 0, 0, _, _, _, qi_12_107, ⟨rfl, rfl⟩, ⟨hMZ.1, rfl⟩, rfl, rfl, M_sets hg hMZ.1 (by exact hNd) hMZ.c67 (by exact hNs) hMZ.c69 hMZ.c74, fun y182 h182 hy182 => ?_⟩
          obtain ⟨rfl, x4, k1, k2, k3, k4, k5, k6, k7, k8, k9, k10, k12, k13, k14, k15, k11⟩ := hy182
          refine step.1 _ _ _ _ _ _ _ sgX12_village_185_ok ?_
          refine ⟨.int, rfl, rfl, Nat.le_refl _, Nat.le_refl _, ?_⟩
          refine Or.inl ⟨hWv, n, hnh, hn6, rfl, ?_⟩
          rw [hR1, if_neg (by rw [hsb]; decide)]
          have hx8 : x4 8 = ppl s := (k11 8 (by decide)).trans g5
          obtain ⟨nd', ns', b1, b2, b3, b4, b5, b6, b7, b8, b9⟩ := hV.2.2.2.2.2.2 hsb
          have end1 : nd' = nd := by
            have q := b1.symm.trans a1
            simpa [aI'] using q
          have end2 : ns' = ns := by
            have q := b2.symm.trans a2
            simpa [aI'] using q
          subst end1 end2
          refine ⟨congrArg (fun z => some (Value.int z)) ((if_neg (by rw [hsb]; decide)).trans b3), x4, y, fup (fup (fup FZ 67 (cp nd' (FZ 67) 100)) 69 (cp ns' (FZ 69) 32)) 74 (upd (upd (FZ 74) 0 0) 1 0), G, ⟨k1, fun j c1 c2 => ?_⟩, hkZ.s k5 (by simp), hR0.vil ((k11 2 (by decide)).trans ((g4 2 (by decide)).trans hV.2.2.2.1)) hx8 (k6.trans ((g4 14 (by decide)).trans b3)) (k7.trans ((g4 15 (by decide)).trans b4)) (k8.trans ((g4 16 (by decide)).trans b5)) (k9.trans ((g4 17 (by decide)).trans b6)) (k10.trans ((g4 18 (by decide)).trans b7)) (fun k hk => ?_) (fun j hj => ?_) (fun j hj => ?_) (fun j hj => ?_) (fun j hj => ?_), ?_⟩
          · by_cases d1 : j = 74
            · subst d1; exact k4
            · by_cases d2 : j = 69
              · subst d2; exact k3
              · by_cases d3 : j = 67
                · subst d3; exact k2
                · rw [mcell_f d1, mcell_f d2, mcell_f d3, k5.2 j (by simp; omega)]
                  exact hMZ.2 j c1 c2
          · simp at hk
            rcases hk with rfl | rfl | rfl | rfl
            · exact k12
            · exact k13
            · exact k14
            · exact k15
          · simp at hj
            rw [fup_n (by omega), fup_n (by omega), fup_n (by omega), ← hFZ, fup_n (by omega), fup_n (by omega)]
          · have := hVb.1
            replace hj : j < V.2.1 * 10 := hj
            show cp nd' (FZ 67) 100 j = va_cpy V.1 S.2.1.1 0 0 100 j
            rw [cpy_at (by omega)]
            exact (if_pos (by omega)).trans (b8 j hj)
          · have := hVb.2
            replace hj : j < V.2.2.2.1 * 4 := hj
            show cp ns' (FZ 69) 32 j = va_cpy V.2.2.1 S.2.2.2.1.1 0 0 32 j
            rw [cpy_at (by omega)]
            exact (if_pos (by omega)).trans (b9 j hj)
          · rcases (show j = 0 ∨ j = 1 by omega) with rfl | rfl <;> rfl
          · rw [k11 0 (by decide), g4 0 (by decide)]
            exact hV.2.2.1 0 (by decide)
      have bad44 : ∀ (i : Nat) (hX : qH) (x1 : Nat → Int32) (s : PS) (V : VD), pbad s = true → VX (h.1, qup h.2 63 (.inl (12, (M63l x y).set 0 (.int 0)))) hX (upd x 0 0) x1 y n s V → (pvrun S.1.1 n f len 61 0 (Sum.inr 0, D4, 0, Q4, 0, 0, 2, 120)) = (s, V) → (V.2.1 ≤ 10 ∧ V.2.2.2.1 ≤ 8) → run 44 [(2, .int (nI i)), (0, .ref 63), (1, .int (nI n))] [] hX 0 0 := by
        intro i hX x1 s V hb hV hR1 hVb
        refine step.1 _ _ _ _ _ _ _ sgX12_village_44_ok ?_
        refine Or.inl ⟨rfl, _, 1, 0, 0, _, _, _, qi_12_142, ⟨rfl, rfl⟩, ⟨hV.1, rfl⟩, rfl, rfl, M_fineS hg hV.1 hV.2.2.2.2.1, fun y45 h45 hy45 => ?_⟩
        obtain ⟨rfl, hh⟩ := hy45
        rw [hh]
        clear hh
        refine ⟨fun c48 => ?_, fun c48 => absurd hb (by have q := qb_1.mp c48; simpa using q)⟩
        
        exact at164 i hX x1 s V hV hR1 hVb
      have loop : ∀ (m i : Nat) (hX : qH) (x1 : Nat → Int32) (s : PS) (V : VD), m + i = 61 → (i = 61 → pbad s = true) → VX (h.1, qup h.2 63 (.inl (12, (M63l x y).set 0 (.int 0)))) hX (upd x 0 0) x1 y n s V → (pvrun S.1.1 n f len 61 0 (Sum.inr 0, D4, 0, Q4, 0, 0, 2, 120)) = pvrun S.1.1 n f len m i (s, V) → (V.2.1 ≤ 10 ∧ V.2.2.2.1 ≤ 8) → run 44 [(2, .int (nI i)), (0, .ref 63), (1, .int (nI n))] [] hX 0 0 := by
        intro m
        induction m with
        | zero =>
          intro i hX x1 s V hm h61 hV hR1 hVb
          exact bad44 i hX x1 s V (h61 (by omega)) hV hR1 hVb
        | succ m ih =>
          intro i hX x1 s V hm h61 hV hR1 hVb
          cases s with
          | inl e => exact bad44 i hX x1 (.inl e) V rfl hV hR1 hVb
          | inr a =>
            refine step.1 _ _ _ _ _ _ _ sgX12_village_44_ok ?_
            refine Or.inl ⟨rfl, _, 1, 0, 0, _, _, _, qi_12_142, ⟨rfl, rfl⟩, ⟨hV.1, rfl⟩, rfl, rfl, M_fineS hg hV.1 hV.2.2.2.2.1, fun y45 h45 hy45 => ?_⟩
            obtain ⟨rfl, hh⟩ := hy45
            rw [hh]
            clear hh
            refine ⟨fun c48 => absurd (show (1 : Int32) = 0 from c48) (by decide), fun c48 => ?_⟩
            
            refine Or.inl ⟨rfl, _, 2, 0, 0, _, _, _, qi_12_254, ⟨rfl, rfl⟩, ⟨hV.1, rfl⟩, rfl, rfl, M_isMore hg hV.1 hV.2.2.2.2.1 (hV.tape hB0), fun y52 h52 hy52 => ?_⟩
            obtain ⟨rfl, hP⟩ := hy52
            obtain ⟨x2, hV2⟩ := hV.st hP (by simp)
            refine ⟨fun c55 => ?_, fun c55 => ?_⟩
            · have hend : n ≤ (sk S.1.1 n a) := Nat.le_of_not_lt (of_decide_eq_false (qb_0.mp c55))
              exact at164 i h52 x2 _ V hV2 (hR1.trans (if_pos (tby_end hend))) hVb
            · have hlt : (sk S.1.1 n a) < n := of_decide_eq_true (qb_1.mp c55)
              have hR2c : (pvrun S.1.1 n f len 61 0 (Sum.inr 0, D4, 0, Q4, 0, 0, 2, 120)) = pvrun S.1.1 n f len m (i + 1) (pclause S.1.1 n f len i (sk S.1.1 n a) V) := by
                rw [hR1]
                exact if_neg (by rw [tby_lt hlt]; exact b255_ne _)
              refine Or.inl ⟨rfl, _, 2, 0, 0, _, _, _, qi_12_257, ⟨rfl, rfl⟩, ⟨hV2.1, rfl⟩, rfl, rfl, M_word hg hV2.1 hV2.2.2.2.2.1 (hV2.tape hB0), fun y59 h59 hy59 => ?_⟩
              obtain ⟨rfl, hP3⟩ := hy59
              obtain ⟨x3, hV3⟩ := hV2.st hP3 (by simp)
              have e4 : x3 4 = nI (sk S.1.1 n (sk S.1.1 n a)) := hV3.2.2.2.2.1.2.2.2.1
              have hq6 : (sk S.1.1 n (sk S.1.1 n a)) ≤ 600 := Nat.le_trans hV3.2.2.2.2.1.2.2.2.2 hn6
              have hmv := (hV3.2.2.2.2.2.2 rfl).choose_spec.choose_spec.2.2
              have hVc : (pclause S.1.1 n f len i (sk S.1.1 n a) V).2.2.1 ≤ 10 ∧ (pclause S.1.1 n f len i (sk S.1.1 n a) V).2.2.2.2.1 ≤ 8 := pbody_le hVb.1 hVb.2
              have hvw := hvbr S.1.1 n (sk S.1.1 n a) hV2.2.2.2.2.1.2.2.2.2 hn6
              have at133b : ∀ (hZ : qH) (x5 : Nat → Int32) (e : Nat × Nat), VX (h.1, qup h.2 63 (.inl (12, (M63l x y).set 0 (.int 0)))) hZ (upd x 0 0) x5 y n (.inl e) V → (pclause S.1.1 n f len i (sk S.1.1 n a) V).1 = .inl e → run 133 [(3, .int (mword S.1.1 n (sk S.1.1 n (sk S.1.1 n a)))), (2, .int (nI i)), (0, .ref 63), (1, .int (nI n))] [] hZ 0 0 := by
                intro hZ x5 e hV5 he
                have hR2 : (pvrun S.1.1 n f len 61 0 (Sum.inr 0, D4, 0, Q4, 0, 0, 2, 120)) = (.inl e, (pclause S.1.1 n f len i (sk S.1.1 n a) V).2) := by
                  rw [hR2c, pvrun_b (by rw [he]; rfl) m (i + 1), ← he]
                refine step.1 _ _ _ _ _ _ _ sgX12_village_133_ok ?_
                refine Or.inl ⟨rfl, _, 1, 0, 0, _, _, _, qi_12_142, ⟨rfl, rfl⟩, ⟨hV5.1, rfl⟩, rfl, rfl, M_fineS hg hV5.1 hV5.2.2.2.2.1, fun y134 h134 hy134 => ?_⟩
                obtain ⟨rfl, hh⟩ := hy134
                rw [hh]
                clear hh
                refine ⟨fun c137 => absurd rfl c137, fun c137 => ?_⟩
                
                refine step.2 _ _ _ _ _ _ _ (qsub_cons 1 rfl (qsub_cons 2 rfl (qsub_cons 3 rfl qsub_nil))) ?_
                exact at164 i hZ x5 (.inl e) _ (hV5.bad rfl) hR2 hVc
              have at133g : ∀ k : Nat, k < 13 → pword S.1.1 n f len (sk S.1.1 n a) = nI k → mkind (mword S.1.1 n (sk S.1.1 n (sk S.1.1 n a))) = k → i < 60 → (k = 0 → V.2.1 < 10) → (k = 7 → V.2.2.2.1 < 8) → run 133 [(3, .int (mword S.1.1 n (sk S.1.1 n (sk S.1.1 n a)))), (2, .int (nI i)), (0, .ref 63), (1, .int (nI n))] [] h59 0 0 := by
                intro k hk hp hkd hi60 h0 h7
                refine step.1 _ _ _ _ _ _ _ sgX12_village_133_ok ?_
                refine Or.inl ⟨rfl, _, 1, 0, 0, _, _, _, qi_12_142, ⟨rfl, rfl⟩, ⟨hV3.1, rfl⟩, rfl, rfl, M_fineS hg hV3.1 hV3.2.2.2.2.1, fun y134 h134 hy134 => ?_⟩
                obtain ⟨rfl, hh⟩ := hy134
                rw [hh]
                clear hh
                refine ⟨fun c137 => ?_, fun c137 => absurd (show (1 : Int32) = 0 from c137) (by decide)⟩
                
                refine step.1 _ _ _ _ _ _ _ sgX12_village_143_ok ?_
                refine Or.inl ⟨rfl, _, 2, 0, 0, _, _, _, qi_12_263, ⟨rfl, rfl⟩, ⟨hV3.1, rfl⟩, rfl, rfl, M_pass hg hV3.1 hV3.2.2.2.2.1 (hV3.tape hB0), fun y144 h144 hy144 => ?_⟩
                obtain ⟨rfl, hP6⟩ := hy144
                obtain ⟨x6, hV6⟩ := hV3.st hP6 (by simp)
                replace hV6 : VX (h.1, qup h.2 63 (.inl (12, (M63l x y).set 0 (.int 0)))) h144 (upd x 0 0) x6 y n (.inr (pwend S.1.1 n (sk S.1.1 n a))) V := hV6
                refine Or.inl ⟨rfl, _, 8, 0, 0, _, _, _, qi_12_266, ⟨rfl, rfl⟩, ⟨hV6.1, rfl⟩, rfl, rfl, (by rw [mkind_eq hkd hk]; exact M_clause hg hJ hW hV6.1 hV6.2.2.2.2.1 (hV6.tape hB0) (D := V.1) (N := V.2.1) (Q := V.2.2.1) (M := V.2.2.2.1) (st := V.2.2.2.2.1) (ve := V.2.2.2.2.2.1) (cl := V.2.2.2.2.2.2) (hV6.2.2.2.2.2.2 rfl) hVb.1 hVb.2 (sk S.1.1 n (sk S.1.1 n a)) k hk h0 h7), fun y149 h149 hy149 => ?_⟩
                obtain ⟨rfl, hC7⟩ := hy149
                obtain ⟨x7, hV7⟩ := hV6.cl hC7
                refine Or.inl ⟨rfl, _, 2, 0, 0, _, _, _, qi_12_269, ⟨rfl, rfl⟩, ⟨hV7.1, rfl⟩, rfl, rfl, M_sign hg hV7.1 hV7.2.2.2.2.1 (hV7.tape hB0) 59 (by decide) (by decide), fun y155 h155 hy155 => ?_⟩
                obtain ⟨rfl, hP8⟩ := hy155
                obtain ⟨x8, hV8⟩ := hV7.sl hP8 (by simp) psign_f
                refine step.2 _ _ _ _ _ _ _ (qsub_cons 0 rfl (qsub_cons 2 rfl (qsub_cons 3 rfl qsub_nil))) ?_
                have kk := ih (i + 1) h155 x8 _ _ (by omega) (fun q => absurd q (by omega)) hV8 (by rw [hR2c, pclause_g hk hp hi60]) (pbody_le hVb.1 hVb.2)
                rw [← nI_1 i] at kk
                exact kk
              have at124 : (pclause S.1.1 n f len i (sk S.1.1 n a) V).1 = .inl (3, (sk S.1.1 n (sk S.1.1 n a))) → run 124 [(3, .int (mword S.1.1 n (sk S.1.1 n (sk S.1.1 n a)))), (2, .int (nI i)), (0, .ref 63), (1, .int (nI n))] [] h59 0 0 := by
                intro hpc
                refine step.1 _ _ _ _ _ _ _ sgX12_village_124_ok ?_
                refine ⟨by decide, _, _, hV3.1, rfl, ?_⟩
                refine Or.inl ⟨rfl, _, 1, 0, 0, _, _, _, qi_12_149, ⟨rfl, rfl⟩, ⟨hV3.1, rfl⟩, rfl, rfl, (by rw [e4]; exact M_wrong hg hV3.1 hV3.2.2.2.2.1 3 (sk S.1.1 n (sk S.1.1 n a)) hq6), fun y130 h130 hy130 => ?_⟩
                obtain ⟨rfl, hP9⟩ := hy130
                obtain ⟨x9, hV9⟩ := hV3.sl hP9 (by simp) (fun q => rfl)
                exact at133b h130 x9 _ hV9 hpc
              have at106 : ∀ k : Nat, k < 13 → pword S.1.1 n f len (sk S.1.1 n a) = nI k → mkind (mword S.1.1 n (sk S.1.1 n (sk S.1.1 n a))) = k → i < 60 → (k = 0 → V.2.1 < 10) → run 106 [(3, .int (mword S.1.1 n (sk S.1.1 n (sk S.1.1 n a)))), (2, .int (nI i)), (0, .ref 63), (1, .int (nI n))] [] h59 0 0 := by
                intro k hk hp hkd hi60 h0
                refine step.1 _ _ _ _ _ _ _ sgX12_village_106_ok ?_
                refine Or.inl ⟨rfl, 30, (hW.ld 7 (by decide)).choose, (hW.ld 7 (by decide)).choose_spec, ?_⟩
                refine Or.inl ⟨rfl, _, 5, 0, 0, _, Or.inl qi_12_210, ⟨rfl, rfl⟩, rfl, rfl, M_ofw hg hJ hW 7 (by decide), fun y109 h109 hy109 => ?_⟩
                obtain ⟨rfl, hh⟩ := hy109
                rw [hh]
                clear hh
                refine ⟨fun c112 => ?_, fun c112 => ?_⟩
                · have n7 : k ≠ 7 := fun q => c112 (by rw [← q]; exact mkind_eq hkd hk)
                  exact at133g k hk hp hkd hi60 h0 (fun q => absurd q n7)
                · have n7 : k = 7 := by
                    rw [← hkd, c112]; rfl
                  refine ⟨by decide, _, _, hV3.1, rfl, ?_⟩
                  refine ⟨fun c121 => ?_, fun c121 => ?_⟩
                  · have n8 : V.2.2.2.1 < 8 := Nat.lt_of_le_of_ne hVb.2 (fun q => c121 (by rw [hmv.2.1, q]; rfl))
                    exact at133g k hk hp hkd hi60 h0 (fun _ => n8)
                  · have n8 : V.2.2.2.1 = 8 := (nI_eq (b := 8) (by omega) (by decide)).mp (by rw [← hmv.2.1]; exact c121)
                    exact at124 (pclause_s (by rw [hp, n7]) hi60 n8)
              refine Or.inl ⟨rfl, _, 6, 0, 0, _, Or.inl qi_12_260, ⟨rfl, rfl⟩, rfl, rfl, M_isClause hg hJ hW _, fun y64 h64 hy64 => ?_⟩
              obtain ⟨rfl, hh⟩ := hy64
              rw [hh]
              clear hh
              refine ⟨fun c67 => ?_, fun c67 => ?_⟩
              · have hcl : mkind (mword S.1.1 n (sk S.1.1 n (sk S.1.1 n a))) < 13 := of_decide_eq_true (qb_1.mp c67)
                obtain ⟨k, hk, hp, hkd⟩ : ∃ k : Nat, k < 13 ∧ pword S.1.1 n f len (sk S.1.1 n a) = nI k ∧ mkind (mword S.1.1 n (sk S.1.1 n (sk S.1.1 n a))) = k := by
                  rcases hvw with q | q
                  · exact absurd q.2 (by omega)
                  · exact q
                have hpm : ¬ pword S.1.1 n f len (sk S.1.1 n a) = -1 := by rw [hp]; exact nim1 (by omega)
                refine step.1 _ _ _ _ _ _ _ sgX12_village_82_ok ?_
                refine ⟨fun c85 => ?_, fun c85 => ?_⟩
                · have i60 : i = 60 := (nI_eq (b := 60) (by omega) (by decide)).mp c85
                  exact at124 (pclause_60 hpm (by omega))
                · have i60 : i < 60 := by
                    have : i ≠ 60 := fun q => c85 (by rw [q]; rfl)
                    omega
                  refine Or.inl ⟨rfl, 16, (hW.ld 0 (by decide)).choose, (hW.ld 0 (by decide)).choose_spec, ?_⟩
                  refine Or.inl ⟨rfl, _, 5, 0, 0, _, Or.inl qi_12_210, ⟨rfl, rfl⟩, rfl, rfl, M_ofw hg hJ hW 0 (by decide), fun y91 h91 hy91 => ?_⟩
                  obtain ⟨rfl, hh⟩ := hy91
                  rw [hh]
                  clear hh
                  refine ⟨fun c94 => ?_, fun c94 => ?_⟩
                  · have k0 : k ≠ 0 := fun q => c94 (by rw [← q]; exact mkind_eq hkd hk)
                    exact at106 k hk hp hkd i60 (fun q => absurd q k0)
                  · have k0 : k = 0 := by
                      rw [← hkd, c94]; rfl
                    refine ⟨by decide, _, _, hV3.1, rfl, ?_⟩
                    refine ⟨fun c103 => ?_, fun c103 => ?_⟩
                    · have N10 : V.2.1 = 10 := (nI_eq (b := 10) (by omega) (by decide)).mp (by rw [← hmv.1]; exact c103)
                      exact at124 (pclause_d (by rw [hp, k0]) i60 N10)
                    · have N10 : V.2.1 < 10 := Nat.lt_of_le_of_ne hVb.1 (fun q => c103 (by rw [hmv.1, q]; rfl))
                      exact at106 k hk hp hkd i60 (fun _ => N10)
              · have hcl : ¬ mkind (mword S.1.1 n (sk S.1.1 n (sk S.1.1 n a))) < 13 := of_decide_eq_false (qb_0.mp c67)
                have hpm : pword S.1.1 n f len (sk S.1.1 n a) = -1 := by
                  rcases hvw with q | ⟨k, hk, _, q⟩
                  · exact q.1
                  · exact absurd (by rw [q]; exact hk) hcl
                refine ⟨by decide, _, _, hV3.1, rfl, ?_⟩
                refine Or.inl ⟨rfl, _, 1, 0, 0, _, _, _, qi_12_149, ⟨rfl, rfl⟩, ⟨hV3.1, rfl⟩, rfl, rfl, (by rw [e4]; exact M_wrong hg hV3.1 hV3.2.2.2.2.1 1 (sk S.1.1 n (sk S.1.1 n a)) hq6), fun y76 h76 hy76 => ?_⟩
                obtain ⟨rfl, hP9⟩ := hy76
                obtain ⟨x9, hV9⟩ := hV3.sl hP9 (by simp) (fun q => rfl)
                exact at133b h76 x9 _ hV9 (pclause_x hpm)
      refine ⟨fun _ => ?_, fun c28 => absurd c28 (by decide)⟩
      refine step.1 _ _ _ _ _ _ _ sgX12_village_33_ok ?_
      refine Or.inl ⟨rfl, _, 1, 0, 0, _, _, _, qi_12_251, ⟨rfl, rfl⟩, ⟨hM0.1, rfl⟩, rfl, rfl, M_begins hg hM0.1 hn6, fun y35 h35 hy35 => ?_⟩
      obtain ⟨rfl, x5, g1, g2, g3, g4, g5, g6, g7⟩ := hy35
      refine Or.inl ⟨rfl, _, 1, 0, 0, _, _, _, qi_12_104, ⟨rfl, rfl⟩, ⟨g1, rfl⟩, rfl, rfl, M_clears hg g1, fun y39 h39 hy39 => ?_⟩
      obtain ⟨rfl, hh1, g8, g9⟩ := hy39
      have hs39 : same (h.1, qup h.2 63 (.inl (12, (M63l x y).set 0 (.int 0)))) h39 [63, 66, 68] := same.tr (l := [63, 66, 68]) (g2.sub (by simp)) g9 (by simp) (by simp)
      have hs39b : ∀ j : Nat, j ≠ 63 → h39.2 j = (h.1, qup h.2 63 (.inl (12, (M63l x y).set 0 (.int 0)))).2 j := fun j hj => (g9.2 j (by simpa using hj)).trans (g2.2 j (by simpa using hj))
      have hV0 : VX (h.1, qup h.2 63 (.inl (12, (M63l x y).set 0 (.int 0)))) h39 (upd x 0 0) (upd (upd (upd (upd (upd x5 14 0) 15 0) 16 0) 17 2) 18 120) y n (.inr 0) (D4, 0, Q4, 0, 0, 2, 120) := by
        refine ⟨g8, hs39, fun k hk => ?_, ?_, ?_, ⟨⟨F 66, (hs39b 66 (by decide)).trans hM0.c66⟩, F 68, (hs39b 68 (by decide)).trans hM0.c68⟩, fun _ => ⟨F 66, F 68, (hs39b 66 (by decide)).trans hM0.c66, (hs39b 68 (by decide)).trans hM0.c68, rfl, rfl, rfl, rfl, rfl, fun j hj => absurd hj (by show ¬ j < 0 * 10; omega), fun j hj => absurd hj (by show ¬ j < 0 * 4; omega)⟩⟩
        · simp at hk
          rw [upd_n (by omega), upd_n (by omega), upd_n (by omega), upd_n (by omega), upd_n (by omega)]
          exact g3 k (by simp; omega)
        · rw [upd_n (by decide), upd_n (by decide), upd_n (by decide), upd_n (by decide), upd_n (by decide)]
          exact g4
        · exact g7
      exact loop 61 0 h39 _ (.inr 0) (D4, 0, Q4, 0, 0, 2, 120) (by omega) (fun q => absurd q (by decide)) hV0 rfl ⟨Nat.zero_le _, Nat.zero_le _⟩
end Q12X
