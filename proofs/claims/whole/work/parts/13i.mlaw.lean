section Q13I
theorem Rel.lawc {S : CS} {x x' : Nat → Int32} {F F' : Nat → Nat → Int32} (hR : Rel S x F) {v : Int32} {C : CD × CD} (h2' : x' 2 = 0) (h8' : x' 8 = v) (hx : ∀ k : Nat, k ∈ [19, 20, 21, 22, 23, 36, 37, 62, 64] → x' k = x k) (hF : ∀ j : Nat, j ∈ [64, 65, 67, 69, 78, 80, 90, 91] → F' j = F j) (hl' : (F' 74 0 = nI C.1.2.2 ∧ ag C.1.2.2 (F' 72) C.1.1 ∧ ag C.1.2.2 (F' 73) C.1.2.1) ∧ (F' 74 1 = nI C.2.2.2 ∧ ag C.2.2.2 (fun j => F' 72 (150 + j)) C.2.1 ∧ ag C.2.2.2 (fun j => F' 73 (150 + j)) C.2.2.1)) : Rel ((S.1.1, 0, v), S.2.1, S.2.2.1, S.2.2.2.1, C, S.2.2.2.2.2) x' F' := by
  obtain ⟨⟨h2, h8, h19, h20, h21, h22, h23', h36', h37, h62', h64'⟩, hbt, h3, hl, hy, hr, hm, hi⟩ := hR
  have e := fun k hk => hx k hk
  have f := fun k hk => hF k hk
  unfold Rel
  rw [e 19 (by decide), e 20 (by decide), e 21 (by decide), e 22 (by decide), e 23 (by decide), e 36 (by decide), e 37 (by decide), e 62 (by decide), e 64 (by decide), f 64 (by decide), f 65 (by decide), f 67 (by decide), f 69 (by decide), f 78 (by decide), f 80 (by decide), f 90 (by decide), f 91 (by decide), h2', h8']
  exact ⟨⟨rfl, rfl, h19, h20, h21, h22, h23', h36', h37, h62', h64'⟩, hbt, h3, hl', hy, hr, hm, hi⟩
/-- a row written from b on -/
def cpo (f K : Nat → Int32) (b k : Nat) : Nat → Int32 := fun j => if b ≤ j ∧ j < b + k then K (j - b) else f j
theorem cpo_0 (f K : Nat → Int32) (b : Nat) : cpo f K b 0 = f := funext fun j => if_neg (by omega)
theorem cpo_s (f K : Nat → Int32) (b k : Nat) : upd (cpo f K b k) (b + k) (K k) = cpo f K b (k + 1) := by
  funext j
  unfold upd cpo
  by_cases h : j = b + k
  · subst h
    rw [if_pos rfl, if_pos (by omega)]
    congr 1
    omega
  · rw [if_neg h]
    by_cases h2 : b ≤ j ∧ j < b + k
    · rw [if_pos h2, if_pos (by omega)]
    · rw [if_neg h2, if_neg (by omega)]
theorem cpo_i {f K : Nat → Int32} {b k j : Nat} (h : j < k) : cpo f K b k (b + j) = K j := by
  unfold cpo
  rw [if_pos (by omega)]
  congr 1
  omega
theorem cpo_o {f K : Nat → Int32} {b k j : Nat} (h : j < b ∨ b + k ≤ j) : cpo f K b k j = f j := if_neg (by omega)
set_option maxHeartbeats 4000000 in
theorem M_law {g : qG} (hg : qOK g) {h : qH} {x : Nat → Int32} {y : Nat → Int64} {F : Nat → Nat → Int32} {G : Nat → Nat → Int64} (hM : MX h x y F G) {S : CS} (hR : Rel S x F) (hI : INV S) (hJ : qJDK g) (hW : qMW g) (hSG : qSG g) {f : Nat → Nat} {len : Nat} (hbr : lbr f len) (K4 V4 : Nat → Int32) (wh v : Int32) : qSpec g 37 0 0 mX12_law [.ref 63, .int wh, .int v] h (fun r h' => ((wi 0 1 wh = true ∧ tOK S.1.2.1 150 v = true) ∧ (∃ u n : Nat, u ≤ 1 ∧ wh = nI u ∧ n ≤ S.1.2.1 ∧ n ≤ 150 ∧ v = nI n ∧ (if pbad (plend S.1.1 n (pexp S.1.1 n f len 6 0 (K4, V4, 0)).1) = true then r = some (.int (pki (plend S.1.1 n (pexp S.1.1 n f len 6 0 (K4, V4, 0)).1) - 10)) ∧ MG h h' ((S.1.1, 0, ppl (plend S.1.1 n (pexp S.1.1 n f len 6 0 (K4, V4, 0)).1)), S.2) else r = some (.int 1) ∧ (if u = 0 then MG h h' ((S.1.1, 0, ppl (plend S.1.1 n (pexp S.1.1 n f len 6 0 (K4, V4, 0)).1)), S.2.1, S.2.2.1, S.2.2.2.1, ((va_cpy (pexp S.1.1 n f len 6 0 (K4, V4, 0)).2.1 S.2.2.2.2.1.1.1 0 0 150, va_cpy (pexp S.1.1 n f len 6 0 (K4, V4, 0)).2.2.1 S.2.2.2.2.1.1.2.1 0 0 150, (pexp S.1.1 n f len 6 0 (K4, V4, 0)).2.2.2), S.2.2.2.2.1.2), S.2.2.2.2.2) else MG h h' ((S.1.1, 0, ppl (plend S.1.1 n (pexp S.1.1 n f len 6 0 (K4, V4, 0)).1)), S.2.1, S.2.2.1, S.2.2.2.1, (S.2.2.2.2.1.1, (va_cpy (pexp S.1.1 n f len 6 0 (K4, V4, 0)).2.1 S.2.2.2.2.1.2.1 0 0 150, va_cpy (pexp S.1.1 n f len 6 0 (K4, V4, 0)).2.2.1 S.2.2.2.2.1.2.2.1 0 0 150, (pexp S.1.1 n f len 6 0 (K4, V4, 0)).2.2.2)), S.2.2.2.2.2))))) ∨ ∃ (k : Nat) (c : Int32), ((k = 1 ∧ c = 1 ∧ ¬ (wi 0 1 wh = true ∧ tOK S.1.2.1 150 v = true))) ∧ (∃ z, r = some (.int z)) ∧ mbad h h' S k c) := by
  refine qSpec_run 12 "law" false hg mX12_law_ok rfl rfl (Nat.le_of_ble_eq_true rfl) (by decide) ?_
  intro run step
  have hhe := hI.1
  have e2 : (upd x 0 0) 2 = nI S.1.2.1 := hR.1.1
  refine step.1 _ _ _ _ _ _ _ sgX12_law_0_ok ?_
  refine ⟨_, hM.1, Nat.le_of_ble_eq_true rfl, rfl, ?_⟩
  have hM0 := hM.p63 (sI_0 (v := 0) (rfl : _ = M63l x y))
  have hR0 : Rel S (upd x 0 0) F := hR.t 0
  have hk0 := kp.rf (h := h) |>.u (k := 63) (e := .inl (12, (M63l x y).set 0 (.int 0))) (by decide) (by decide)
  refine Or.inl ⟨rfl, _, 1, 0, 0, _, Or.inl qi_12_324, ⟨rfl, rfl⟩, rfl, rfl, M_within hg _ _ _, fun y9 h9 hy9 => ?_⟩
  obtain ⟨rfl, hh⟩ := hy9
  rw [hh]
  clear hh
  refine ⟨fun c12 => ?_, fun c12 => ?_⟩
  · have w12 : (wi 0 1 wh) = false := qb_0.mp c12
    refine step.1 _ _ _ _ _ _ _ sgX12_law_38_ok ?_
    refine step.1 _ _ _ _ _ _ _ sgX12_law_39_ok ?_
    refine Or.inl ⟨rfl, _, 1, 0, 0, _, _, _, qi_12_247, ⟨rfl, rfl⟩, ⟨hM0.1, rfl⟩, rfl, rfl, M_mayB hg hM0 hR0 rfl 1 (by decide) 1 (by decide), fun y41 h41 hy41 => ?_⟩
    obtain ⟨rfl, hb⟩ := hy41
    refine ⟨fun c44 => absurd c44 (by decide), fun _ => ?_⟩
    refine ⟨.int, rfl, rfl, Nat.le_refl _, Nat.le_refl _, ?_⟩
    exact Or.inr ⟨1, 1, ⟨rfl, rfl, (fun z => absurd (z.1) (by rw [w12]; decide))⟩, ⟨_, rfl⟩, mbad.l hk0 hb⟩
  · have w12 : (wi 0 1 wh) = true := qb_1.mp c12
    refine ⟨fun c16 => ?_, fun c16 => ?_⟩
    · have w16 : tOK S.1.2.1 150 v = false := tOK_f (Or.inl c16)
      refine step.1 _ _ _ _ _ _ _ sgX12_law_38_ok ?_
      refine step.1 _ _ _ _ _ _ _ sgX12_law_39_ok ?_
      refine Or.inl ⟨rfl, _, 1, 0, 0, _, _, _, qi_12_247, ⟨rfl, rfl⟩, ⟨hM0.1, rfl⟩, rfl, rfl, M_mayB hg hM0 hR0 rfl 1 (by decide) 1 (by decide), fun y41 h41 hy41 => ?_⟩
      obtain ⟨rfl, hb⟩ := hy41
      refine ⟨fun c44 => absurd c44 (by decide), fun _ => ?_⟩
      refine ⟨.int, rfl, rfl, Nat.le_refl _, Nat.le_refl _, ?_⟩
      exact Or.inr ⟨1, 1, ⟨rfl, rfl, (fun z => absurd (z.2) (by rw [w16]; decide))⟩, ⟨_, rfl⟩, mbad.l hk0 hb⟩
    · refine ⟨by decide, _, _, hM0.1, rfl, ?_⟩
      refine ⟨fun c24 => ?_, fun c24 => ?_⟩
      · have w24 : tOK S.1.2.1 150 v = false := tOK_f (Or.inr (by rw [← e2]; exact c24))
        refine step.1 _ _ _ _ _ _ _ sgX12_law_38_ok ?_
        refine step.1 _ _ _ _ _ _ _ sgX12_law_39_ok ?_
        refine Or.inl ⟨rfl, _, 1, 0, 0, _, _, _, qi_12_247, ⟨rfl, rfl⟩, ⟨hM0.1, rfl⟩, rfl, rfl, M_mayB hg hM0 hR0 rfl 1 (by decide) 1 (by decide), fun y41 h41 hy41 => ?_⟩
        obtain ⟨rfl, hb⟩ := hy41
        refine ⟨fun c44 => absurd c44 (by decide), fun _ => ?_⟩
        refine ⟨.int, rfl, rfl, Nat.le_refl _, Nat.le_refl _, ?_⟩
        exact Or.inr ⟨1, 1, ⟨rfl, rfl, (fun z => absurd (z.2) (by rw [w24]; decide))⟩, ⟨_, rfl⟩, mbad.l hk0 hb⟩
      · refine ⟨fun c31 => ?_, fun c31 => ?_⟩
        · have w31 : tOK S.1.2.1 150 v = false := tOK_g (m := 150) c31
          refine step.1 _ _ _ _ _ _ _ sgX12_law_38_ok ?_
          refine step.1 _ _ _ _ _ _ _ sgX12_law_39_ok ?_
          refine Or.inl ⟨rfl, _, 1, 0, 0, _, _, _, qi_12_247, ⟨rfl, rfl⟩, ⟨hM0.1, rfl⟩, rfl, rfl, M_mayB hg hM0 hR0 rfl 1 (by decide) 1 (by decide), fun y41 h41 hy41 => ?_⟩
          obtain ⟨rfl, hb⟩ := hy41
          refine ⟨fun c44 => absurd c44 (by decide), fun _ => ?_⟩
          refine ⟨.int, rfl, rfl, Nat.le_refl _, Nat.le_refl _, ?_⟩
          exact Or.inr ⟨1, 1, ⟨rfl, rfl, (fun z => absurd (z.2) (by rw [w31]; decide))⟩, ⟨_, rfl⟩, mbad.l hk0 hb⟩
        · have hWv : tOK S.1.2.1 150 v = true := tOK_t (m := 150) c16 (by rw [← e2]; exact c24) c31
          have hWw : wi 0 1 wh = true := w12
          obtain ⟨u, hu, rfl⟩ := wi_nat (m := 1) (by decide) hWw
          obtain ⟨n, hnh, hn6, rfl⟩ : ∃ n : Nat, n ≤ S.1.2.1 ∧ n ≤ 150 ∧ v = nI n := by
            obtain ⟨n, h1, h2, _, h3⟩ := tOK_nat (m := 150) (by decide) hhe hWv
            exact ⟨n, h2, h1, h3⟩
          have hn600 : n ≤ 600 := by omega
          have hB0 : mB (h.1, qup h.2 63 (.inl (12, (M63l x y).set 0 (.int 0)))) S.1.1 := hR0.mB hM0
          refine step.1 _ _ _ _ _ _ _ sgX12_law_39_ok ?_
          refine Or.inl ⟨rfl, _, 1, 0, 0, _, _, _, qi_12_247, ⟨rfl, rfl⟩, ⟨hM0.1, rfl⟩, rfl, rfl, M_may hg hM0.1 rfl _ _, fun y41 h41 hy41 => ?_⟩
          obtain ⟨rfl, hh⟩ := hy41
          rw [hh]
          clear hh
          refine ⟨fun _ => ?_, fun c44 => absurd c44 (by decide)⟩
          refine step.1 _ _ _ _ _ _ _ sgX12_law_49_ok ?_
          refine Or.inl ⟨rfl, _, 1, 0, 0, _, _, _, qi_12_251, ⟨rfl, rfl⟩, ⟨hM0.1, rfl⟩, rfl, rfl, M_begins hg hM0.1 hn600, fun y51 h51 hy51 => ?_⟩
          obtain ⟨rfl, x5, g1, g2, g5', g6', g7, g8, g9⟩ := hy51
          refine ⟨_, g1, Nat.le_of_ble_eq_true rfl, rfl, ?_⟩
          have hEE : LTS (h51.1, qup h51.2 63 (.inl (12, (M63l x5 y).set 30 (.int 0)))) (upd x5 30 0) y n 0 (.inr 0) (K4, V4, 0) := by
            refine ⟨rfl, (upd_n (by decide)).trans g7, g9.upk (by decide) _, F 70, F 71, ?_, ?_, fun a q => ⟨upd_s, fun j hj => absurd hj (Nat.not_lt_zero j), fun j hj => absurd hj (Nat.not_lt_zero j), Nat.zero_le _⟩⟩
            · exact (qup_n (f := h51.2) (k := 63) (e := .inl (12, (M63l x5 y).set 30 (.int 0))) (j := 70) (by decide)).trans ((g2.2 70 (by decide)).trans hM0.c70)
            · exact (qup_n (f := h51.2) (k := 63) (e := .inl (12, (M63l x5 y).set 30 (.int 0))) (j := 71) (by decide)).trans ((g2.2 71 (by decide)).trans hM0.c71)
          have hsE : same (h.1, qup h.2 63 (.inl (12, (M63l x y).set 0 (.int 0)))) (h51.1, qup h51.2 63 (.inl (12, (M63l x5 y).set 30 (.int 0)))) [63, 70, 71] := same.tr (l := [63]) (l' := [63]) g2 (same.up (by simp)) (by simp) (by simp)
          have hB1 : mB (h51.1, qup h51.2 63 (.inl (12, (M63l x5 y).set 30 (.int 0)))) S.1.1 := hB0.sm hsE (by decide)
          have at86 : ∀ (hX : qH) (xX : Nat → Int32) (s : PS), LGX (h51.1, qup h51.2 63 (.inl (12, (M63l x5 y).set 30 (.int 0)))) hX (upd x5 30 0) xX y n 0 s (pexp S.1.1 n f len 6 0 (K4, V4, 0)).2 → (plend S.1.1 n (pexp S.1.1 n f len 6 0 (K4, V4, 0)).1) = s → run 86 [(0, .ref 63), (1, .int (nI u)), (2, .int (nI n))] [] hX 0 0 := by
            intro hX xX s hV hQe
            refine step.1 _ _ _ _ _ _ _ sgX12_law_86_ok ?_
            refine Or.inl ⟨rfl, _, 2, 0, 0, _, _, _, qi_12_272, ⟨rfl, rfl⟩, ⟨hV.m, rfl⟩, rfl, rfl, M_result hg hV.m hV.t 1, fun y88 h88 hy88 => ?_⟩
            obtain ⟨rfl, x3, g1, g2, g4, g5, g6⟩ := hy88
            have hs3 : same (h.1, qup h.2 63 (.inl (12, (M63l x y).set 0 (.int 0)))) h88 [63, 70, 71] := hsE.t2 (hV.2.1.t2 g2 (by decide)) (by decide)
            obtain ⟨K, V, hK0, hV0', hKV⟩ := hV.1.2.2.2
            have hK := (g2.2 70 (by decide)).trans hK0
            have hVV := (g2.2 71 (by decide)).trans hV0'
            obtain ⟨FZ, hFZ⟩ : ∃ FZ : Nat → Nat → Int32, fup (fup F 70 K) 71 V = FZ := ⟨_, rfl⟩
            have hMZ : MX h88 x3 y FZ G := by
              rw [← hFZ]
              refine ⟨g1, fun j b1 b2 => ?_⟩
              by_cases c6 : j = 71
              · subst c6; exact hVV
              · rw [mcell_f c6]
                by_cases c7 : j = 70
                · subst c7; exact hK
                · rw [mcell_f c7, hs3.2 j (by simp; omega)]
                  exact hM0.2 j b1 b2
            have hkZ : kp h h88 := hk0.s hs3 (by simp)
            have hx8 : x3 8 = ppl s := g5
            have hxk : ∀ k : Nat, k ∉ [2, 3, 4, 5, 6, 7, 8, 30] → x3 k = (upd x 0 0) k := fun k hk => by
              rw [g4 k (fun q => by simp at q; subst q; simp at hk), hV.2.2 k (fun q => by simp at q hk; omega), upd_n (by simp at hk; omega)]
              exact g5' k (fun q => by simp at q hk; omega)
            have hx2 : x3 2 = 0 := by rw [g4 2 (by decide), hV.2.2 2 (by decide), upd_n (by decide)]; exact g6'
            have hFo : ∀ j : Nat, j ≠ 70 → j ≠ 71 → FZ j = F j := fun j a b => by rw [← hFZ, fup_n b, fup_n a]
            refine ⟨by decide, _, _, hMZ.1, rfl, ?_⟩
            refine ⟨fun c97 => ?_, fun c97 => ?_⟩
            · obtain ⟨a, rfl⟩ : ∃ a : Nat, s = .inr a := by
                cases s with
                | inr a => exact ⟨a, rfl⟩
                | inl e => exact absurd (g6.2.2.2.1.symm.trans c97) (mne g6.2.2.2.2)
              have hsb : pbad (.inr a) = false := rfl
              obtain ⟨b1, b2, b3, b4⟩ := hKV a rfl
              have ha150 : a ≤ n := hV.t.le'
              have ez : x3 30 = nI (pexp S.1.1 n f len 6 0 (K4, V4, 0)).2.2.2 := (g4 30 (by decide)).trans b1
              have eu := h_tn (n := u) (by omega)
              refine step.1 _ _ _ _ _ _ _ sgX12_law_102_ok ?_
              refine ⟨by decide, _, _, hMZ.1, rfl, ?_⟩
              refine ⟨by decide, _, _, hMZ.1, rfl, ?_⟩
              refine ⟨_, _, hMZ.c74, vp_in_nI (by omega) (by decide), ?_⟩
              have hMc := hMZ.u74 (upd (FZ 74) (nI u).toNatClampNeg (x3 30))
              have loop : ∀ (m k : Nat) (hX : qH) (FL : Nat → Nat → Int32), m + k = (pexp S.1.1 n f len 6 0 (K4, V4, 0)).2.2.2 → FL 72 = cpo (F 72) K (u * 150) k → FL 73 = cpo (F 73) V (u * 150) k → FL 74 = fup FZ 74 (upd (FZ 74) u (nI (pexp S.1.1 n f len 6 0 (K4, V4, 0)).2.2.2)) 74 → (∀ j : Nat, j ≠ 72 → j ≠ 73 → FL j = fup FZ 74 (upd (FZ 74) u (nI (pexp S.1.1 n f len 6 0 (K4, V4, 0)).2.2.2)) j) → MX hX x3 y FL G → kp h hX → run 115 [(4, .int (nI k)), (3, .int 1), (0, .ref 63), (1, .int (nI u)), (2, .int (nI n))] [] hX 0 0 := by
                intro m
                induction m with
                | zero =>
                  intro k hX FL hm hL2 hL3 hL4 hLo hMk hkk
                  refine step.1 _ _ _ _ _ _ _ sgX12_law_115_ok ?_
                  refine ⟨by decide, _, _, hMk.1, rfl, ?_⟩
                  refine ⟨fun c121 => ?_, fun c121 => absurd (show nI k ≥ x3 30 by rw [ez]; exact (nI_leI (by omega) (by omega)).mpr (by omega)) c121⟩
                  
                  refine step.1 _ _ _ _ _ _ _ sgX12_law_170_ok ?_
                  refine ⟨.int, rfl, rfl, Nat.le_refl _, Nat.le_refl _, ?_⟩
                  refine Or.inl ⟨⟨hWw, hWv⟩, u, n, hu, rfl, hnh, hn6, rfl, ?_⟩
                  rw [hQe, if_neg (by rw [hsb]; decide)]
                  have hkz : k = (pexp S.1.1 n f len 6 0 (K4, V4, 0)).2.2.2 := by omega
                  subst hkz
                  have q74 : FL 74 = upd (F 74) u (nI (pexp S.1.1 n f len 6 0 (K4, V4, 0)).2.2.2) := by rw [hL4, fup_s, hFo 74 (by decide) (by decide)]
                  have hxx := fun k (hk : k ∈ [19, 20, 21, 22, 23, 36, 37, 62, 64]) => hxk k (fun q => by simp at q hk; omega)
                  have hff := fun j (hj : j ∈ [64, 65, 67, 69, 78, 80, 90, 91]) => show FL j = F j from by
                    rw [hLo j (fun q => by subst q; simp at hj) (fun q => by subst q; simp at hj), fup_n (fun q => by subst q; simp at hj), hFo j (fun q => by subst q; simp at hj) (fun q => by subst q; simp at hj)]
                  obtain ⟨⟨l0, l1, l2⟩, l3, l4, l5⟩ := hR0.2.2.2.1
                  refine ⟨rfl, ?_⟩
                  by_cases hu0 : u = 0
                  · subst hu0
                    rw [if_pos rfl]
                    refine ⟨x3, y, FL, G, hMk, hkk, hR0.lawc hx2 hx8 hxx hff ⟨⟨?_, fun j hj => ?_, fun j hj => ?_⟩, ?_, fun j hj => ?_, fun j hj => ?_⟩, hxk 0 (by decide)⟩
                    · rw [q74]; exact upd_s
                    · have hj2 : j < (pexp S.1.1 n f len 6 0 (K4, V4, 0)).2.2.2 := hj
                      refine Eq.trans ?_ (cpy_at (A := ((pexp S.1.1 n f len 6 0 (K4, V4, 0)).2).1) (B := S.2.2.2.2.1.1.1) (n := 150) (by omega)).symm
                      rw [hL2, ← Nat.zero_add j, cpo_i (b := 0 * 150) hj2, Nat.zero_add]
                      exact b2 j hj2
                    · have hj2 : j < (pexp S.1.1 n f len 6 0 (K4, V4, 0)).2.2.2 := hj
                      refine Eq.trans ?_ (cpy_at (A := ((pexp S.1.1 n f len 6 0 (K4, V4, 0)).2).2.1) (B := S.2.2.2.2.1.1.2.1) (n := 150) (by omega)).symm
                      rw [hL3, ← Nat.zero_add j, cpo_i (b := 0 * 150) hj2, Nat.zero_add]
                      exact b3 j hj2
                    · rw [q74, upd_n (by decide)]; exact l3
                    · show FL 72 (150 + j) = _
                      rw [hL2, cpo_o (by omega)]
                      exact l4 j hj
                    · show FL 73 (150 + j) = _
                      rw [hL3, cpo_o (by omega)]
                      exact l5 j hj
                  · have hu1 : u = 1 := by omega
                    subst hu1
                    rw [if_neg (by decide)]
                    have hl150 := hI.2.2.2.1.1.1
                    refine ⟨x3, y, FL, G, hMk, hkk, hR0.lawc hx2 hx8 hxx hff ⟨⟨?_, fun j hj => ?_, fun j hj => ?_⟩, ?_, fun j hj => ?_, fun j hj => ?_⟩, hxk 0 (by decide)⟩
                    · rw [q74, upd_n (by decide)]; exact l0
                    · have hj2 : j < S.2.2.2.2.1.1.2.2 := hj
                      rw [hL2, cpo_o (by omega)]
                      exact l1 j hj
                    · have hj2 : j < S.2.2.2.2.1.1.2.2 := hj
                      rw [hL3, cpo_o (by omega)]
                      exact l2 j hj
                    · rw [q74]; exact upd_s
                    · have hj2 : j < (pexp S.1.1 n f len 6 0 (K4, V4, 0)).2.2.2 := hj
                      refine Eq.trans ?_ (cpy_at (A := ((pexp S.1.1 n f len 6 0 (K4, V4, 0)).2).1) (B := S.2.2.2.2.1.2.1) (n := 150) (by omega)).symm
                      show FL 72 (150 + j) = _
                      rw [hL2, cpo_i (b := 1 * 150) hj2]
                      exact b2 j hj2
                    · have hj2 : j < (pexp S.1.1 n f len 6 0 (K4, V4, 0)).2.2.2 := hj
                      refine Eq.trans ?_ (cpy_at (A := ((pexp S.1.1 n f len 6 0 (K4, V4, 0)).2).2.1) (B := S.2.2.2.2.1.2.2.1) (n := 150) (by omega)).symm
                      show FL 73 (150 + j) = _
                      rw [hL3, cpo_i (b := 1 * 150) hj2]
                      exact b3 j hj2
                | succ m ih =>
                  intro k hX FL hm hL2 hL3 hL4 hLo hMk hkk
                  have hL0 : FL 70 = K := by rw [hLo 70 (by decide) (by decide), fup_n (by decide), ← hFZ, fup_n (by decide), fup_s]
                  have hL1 : FL 71 = V := by rw [hLo 71 (by decide) (by decide), fup_n (by decide), ← hFZ, fup_s]
                  refine step.1 _ _ _ _ _ _ _ sgX12_law_115_ok ?_
                  refine ⟨by decide, _, _, hMk.1, rfl, ?_⟩
                  refine ⟨fun c121 => absurd ((nI_leI (a := (pexp S.1.1 n f len 6 0 (K4, V4, 0)).2.2.2) (b := k) (by omega) (by omega)).mp (by rw [ez] at c121; exact c121)) (by omega), fun c121 => ?_⟩
                  have hlt : k < (pexp S.1.1 n f len 6 0 (K4, V4, 0)).2.2.2 := by omega
                  have ei : (150 * nI u + nI k : Int32) = nI (u * 150 + k) := ixk (k := 150)
                  have et := h_tn (n := u * 150 + k) (by omega)
                  have etk := h_tn (n := k) (by omega)
                  refine ⟨by decide, _, _, hMk.1, rfl, ?_⟩
                  refine ⟨by decide, _, _, hMk.1, rfl, ?_⟩
                  refine ⟨_, _, hMk.c70, vp_in_nI (by omega) (by decide), ?_⟩
                  refine ⟨_, _, hMk.c72, (by rw [ei]; exact vp_in_nI (n := u * 150 + k) (N := 300) (by omega) (by decide)), ?_⟩
                  have hMa := hMk.u72 (upd (FL 72) (150 * nI u + nI k : Int32).toNatClampNeg (FL 70 (nI k).toNatClampNeg))
                  refine ⟨by decide, _, _, hMa.1, rfl, ?_⟩
                  refine ⟨by decide, _, _, hMa.1, rfl, ?_⟩
                  refine ⟨_, _, hMa.c71, vp_in_nI (by omega) (by decide), ?_⟩
                  refine ⟨_, _, hMa.c73, (by rw [ei]; exact vp_in_nI (n := u * 150 + k) (N := 300) (by omega) (by decide)), ?_⟩
                  have hMb := hMa.u73 (upd (FL 73) (150 * nI u + nI k : Int32).toNatClampNeg (FL 71 (nI k).toNatClampNeg))
                  have kk := ih (k + 1) _ _ (by omega) ?_ ?_ ?_ ?_ hMb ((hkk.u (k := 72) (by decide) (by decide)).u (k := 73) (by decide) (by decide))
                  · rw [← nI_1] at kk
                    exact kk
                  · rw [fup_n (by decide), fup_s, ei, et, etk, hL2, hL0, cpo_s]
                  · rw [fup_s, ei, et, etk, hL3, hL1, cpo_s]
                  · rw [fup_n (by decide), fup_n (by decide)]; exact hL4
                  · intro j a b
                    rw [fup_n b, fup_n a]
                    exact hLo j a b
              exact loop _ 0 _ _ (Nat.add_zero _) (by rw [fup_n (by decide), hFo 72 (by decide) (by decide), cpo_0]) (by rw [fup_n (by decide), hFo 73 (by decide) (by decide), cpo_0]) (by rw [fup_s, fup_s, eu, ez]) (fun j _ _ => by rw [eu, ez]) hMc (hkZ.u (k := 74) (by decide) (by decide))
            · have hsb : pbad s = true := by
                cases s with
                | inl e => rfl
                | inr a => exact absurd g6.2.2.1 c97
              refine ⟨.int, rfl, rfl, Nat.le_refl _, Nat.le_refl _, ?_⟩
              refine Or.inl ⟨⟨hWw, hWv⟩, u, n, hu, rfl, hnh, hn6, rfl, ?_⟩
              rw [hQe, if_pos hsb]
              exact ⟨congrArg (fun z => some (Value.int z)) (if_pos hsb), x3, y, FZ, G, hMZ, hkZ, hR0.told hx2 hx8 (fun k hk => hxk k (fun q => by simp at q hk; omega)) (fun j hj => hFo j (fun q => by subst q; simp at hj) (fun q => by subst q; simp at hj)), hxk 0 (by decide)⟩
          refine Or.inl ⟨rfl, _, 36, 0, 0, _, _, _, qi_12_291, ⟨rfl, rfl⟩, ⟨hEE.1, rfl⟩, rfl, rfl, M_expA hg hJ hW hSG hbr hn6 6 0 rfl _ _ y 0 _ hEE hB1, fun y60 h60 hy60 => ?_⟩
          obtain ⟨rfl, hp60⟩ := hy60
          obtain ⟨x60, hV60⟩ := (LGX.rf hEE).tr hp60
          obtain ⟨s0, hs0⟩ : ∃ s0 : PS, (pexp S.1.1 n f len 6 0 (K4, V4, 0)).1 = s0 := ⟨_, rfl⟩
          rw [hs0] at hV60
          refine Or.inl ⟨rfl, _, 1, 0, 0, _, _, _, qi_12_142, ⟨rfl, rfl⟩, ⟨hV60.m, rfl⟩, rfl, rfl, M_fineS hg hV60.m hV60.t, fun y64 h64 hy64 => ?_⟩
          obtain ⟨rfl, hh⟩ := hy64
          rw [hh]
          clear hh
          refine ⟨fun c67 => ?_, fun c67 => ?_⟩
          · obtain ⟨e, rfl⟩ : ∃ e : Nat × Nat, s0 = .inl e := by
              cases s0 with
              | inl e => exact ⟨e, rfl⟩
              | inr a => exact absurd (show (1 : Int32) = 0 from c67) (by decide)
            exact at86 h60 x60 (.inl e) hV60 (by rw [hs0]; rfl)
          · obtain ⟨a, rfl⟩ : ∃ a : Nat, s0 = .inr a := by
              cases s0 with
              | inl e => exact absurd rfl c67
              | inr a => exact ⟨a, rfl⟩
            refine Or.inl ⟨rfl, _, 2, 0, 0, _, _, _, qi_12_254, ⟨rfl, rfl⟩, ⟨hV60.m, rfl⟩, rfl, rfl, M_isMore hg hV60.m hV60.t (hV60.B hB1), fun y71 h71 hy71 => ?_⟩
            obtain ⟨rfl, hp71⟩ := hy71
            obtain ⟨x71, hV71⟩ := hV60.sk0 hp71
            refine ⟨fun c74 => ?_, fun c74 => ?_⟩
            · have hge : ¬ sk S.1.1 n a < n := of_decide_eq_false (qb_0.mp c74)
              exact at86 h71 x71 (.inr (sk S.1.1 n a)) hV71 (by rw [hs0]; exact if_pos (tby_end (by omega)))
            · have hlt : sk S.1.1 n a < n := of_decide_eq_true (qb_1.mp c74)
              refine ⟨by decide, _, _, hV71.m, rfl, ?_⟩
              refine Or.inl ⟨rfl, _, 1, 0, 0, _, _, _, qi_12_149, ⟨rfl, rfl⟩, ⟨hV71.m, rfl⟩, rfl, rfl, (by rw [show x71 4 = nI (sk S.1.1 n a) from hV71.t.2.2.2.1]; exact M_wrongQ hg hV71), fun y83 h83 hy83 => ?_⟩
              obtain ⟨rfl, x83, hV83⟩ := hy83
              exact at86 h83 x83 (.inl (1, sk S.1.1 n a)) hV83 (by rw [hs0]; exact if_neg (by rw [tby_lt hlt]; exact b255_ne _))
end Q13I
