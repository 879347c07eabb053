section Q12P
/-- two lines exchanged, so far -/
def xch (P : Nat → Int32) (x y i : Nat) : Nat → Int32 := fun j => if x * 3 ≤ j ∧ j < x * 3 + i then P (y * 3 + (j - x * 3)) else if y * 3 ≤ j ∧ j < y * 3 + i then P (x * 3 + (j - y * 3)) else P j
theorem xch_0 (P : Nat → Int32) (x y : Nat) : xch P x y 0 = P := funext fun j => by
  unfold xch
  rw [if_neg (by omega), if_neg (by omega)]
theorem xch_s (P : Nat → Int32) {x y i : Nat} (hxy : x ≠ y) (hi : i < 3) : upd (upd (xch P x y i) (x * 3 + i) (xch P x y i (y * 3 + i))) (y * 3 + i) (xch P x y i (x * 3 + i)) = xch P x y (i + 1) := by
  funext j
  have e1 : xch P x y i (x * 3 + i) = P (x * 3 + i) := by
    unfold xch
    rw [if_neg (by omega), if_neg (by omega)]
  have e2 : xch P x y i (y * 3 + i) = P (y * 3 + i) := by
    unfold xch
    rw [if_neg (by omega), if_neg (by omega)]
  rw [e1, e2]
  unfold upd xch
  by_cases a : j = y * 3 + i
  · rw [if_pos a, if_neg (by omega), if_pos (by omega), show x * 3 + (j - y * 3) = x * 3 + i by omega]
  · rw [if_neg a]
    by_cases b : j = x * 3 + i
    · rw [if_pos b, if_pos (by omega), show y * 3 + (j - x * 3) = y * 3 + i by omega]
    · rw [if_neg b]
      by_cases c : x * 3 ≤ j ∧ j < x * 3 + i
      · rw [if_pos c, if_pos (by omega)]
      · rw [if_neg c, if_neg (show ¬ (x * 3 ≤ j ∧ j < x * 3 + (i + 1)) by omega)]
        by_cases d : y * 3 ≤ j ∧ j < y * 3 + i
        · rw [if_pos d, if_pos (by omega)]
        · rw [if_neg d, if_neg (by omega)]
theorem xch_3 (P : Nat → Int32) {x y : Nat} (hxy : x ≠ y) : xch P x y 3 = lxch P x y := by
  funext j
  rw [lxch_e _ hxy]
  unfold xch
  by_cases c : x * 3 ≤ j ∧ j < x * 3 + 3
  · rw [if_pos c, if_pos (by omega)]
  · rw [if_neg c, if_neg (show ¬ (j = x * 3 ∨ j = x * 3 + 1 ∨ j = x * 3 + 2) by omega)]
    by_cases d : y * 3 ≤ j ∧ j < y * 3 + 3
    · rw [if_pos d, if_pos (by omega)]
    · rw [if_neg d, if_neg (by omega)]
theorem lxch_c {P P' : Nat → Int32} {n x y : Nat} (hx : x < n) (hy : y < n) (hxy : x ≠ y) (h : ag (n * 3) P' P) : ag (n * 3) (lxch P' x y) (lxch P x y) := by
  intro j hj
  rw [lxch_e _ hxy, lxch_e _ hxy]
  by_cases c : j = x * 3 ∨ j = x * 3 + 1 ∨ j = x * 3 + 2
  · rw [if_pos c, if_pos c]; exact h _ (by omega)
  · rw [if_neg c, if_neg c]
    by_cases d : j = y * 3 ∨ j = y * 3 + 1 ∨ j = y * 3 + 2
    · rw [if_pos d, if_pos d]; exact h _ (by omega)
    · rw [if_neg d, if_neg d]; exact h _ hj
theorem ltake_c {P P' : Nat → Int32} {n x m : Nat} (hm : x + m < n) (h : ag (n * 3) P' P) : ag ((n - 1) * 3) (ltake P' x m) (ltake P x m) := by
  intro j hj
  rw [ltake_e, ltake_e]
  by_cases c : x * 3 ≤ j ∧ j < (x + m) * 3
  · rw [if_pos c, if_pos c]; exact h _ (by omega)
  · rw [if_neg c, if_neg c]; exact h _ (by omega)
/-- lines moved up, so far -/
def tke (P : Nat → Int32) (x i : Nat) : Nat → Int32 := fun j => if x * 3 ≤ j ∧ j < x * 3 + i then P (j + 3) else P j
theorem tke_0 (P : Nat → Int32) (x : Nat) : tke P x 0 = P := funext fun j => if_neg (by omega)
theorem tke_s (P : Nat → Int32) (x i : Nat) : upd (tke P x i) (x * 3 + i) (tke P x i (x * 3 + i + 3)) = tke P x (i + 1) := by
  funext j
  unfold upd tke
  by_cases a : j = x * 3 + i
  · rw [if_pos a, if_neg (show ¬ (x * 3 ≤ x * 3 + i + 3 ∧ x * 3 + i + 3 < x * 3 + i) by omega), if_pos (show x * 3 ≤ j ∧ j < x * 3 + (i + 1) by omega), a]
  · rw [if_neg a]
    by_cases c : x * 3 ≤ j ∧ j < x * 3 + i
    · rw [if_pos c, if_pos (by omega)]
    · rw [if_neg c, if_neg (by omega)]
theorem tke_m (P : Nat → Int32) (x m : Nat) : tke P x (m * 3) = ltake P x m := by
  funext j
  rw [ltake_e]
  unfold tke
  by_cases c : x * 3 ≤ j ∧ j < x * 3 + m * 3
  · rw [if_pos c, if_pos (by omega)]
  · rw [if_neg c, if_neg (by omega)]
set_option maxHeartbeats 1000000 in
theorem M_swap {g : qG} (hg : qOK g) {h : qH} {x : Nat → Int32} {y : Nat → Int64} {F : Nat → Nat → Int32} {G : Nat → Nat → Int64} (hM : MX h x y F G) {S : CS} (hR : Rel S x F) (hI : ROK S.2.1) (li lo : Int32) : qSpec g 3 0 0 mX12_swap [.ref 63, .int li, .int lo] h (fun r h' => ((wi 0 (nI S.2.1.2.2.2.2.1 - 1) li = true) ∧ (wi 0 (nI S.2.1.2.2.2.2.1 - 1) lo = true) ∧ (∃ xx yy : Nat, xx < S.2.1.2.2.2.2.1 ∧ yy < S.2.1.2.2.2.2.1 ∧ li = nI xx ∧ lo = nI yy ∧ (if xx = yy then r = some (.int 0) ∧ MG h h' S else if S.2.1.2.2.2.2.2.1 = 20 then r = some (.int (-1)) ∧ MG h h' S else r = some (.int 1) ∧ MG h h' (S.1, (S.2.1.1, lxch S.2.1.2.1 xx yy, unote S.2.1.2.2.1 S.2.1.2.2.2.2.2.1 2 (nI xx) (nI yy) 0 0, S.2.1.2.2.2.1, S.2.1.2.2.2.2.1, S.2.1.2.2.2.2.2.1 + 1, S.2.1.2.2.2.2.2.2.1, S.2.1.2.2.2.2.2.2.2.1, S.2.1.2.2.2.2.2.2.2.2), S.2.2)))) ∨ ∃ (k : Nat) (c : Int32), ((k = 0 ∧ c = 1 ∧ ¬ (wi 0 (nI S.2.1.2.2.2.2.1 - 1) li = true)) ∨ (k = 0 ∧ c = 1 ∧ (wi 0 (nI S.2.1.2.2.2.2.1 - 1) li = true) ∧ ¬ (wi 0 (nI S.2.1.2.2.2.2.1 - 1) lo = true))) ∧ (∃ z, r = some (.int z)) ∧ mbad h h' S k c) := by
  refine qSpec_run 12 "swap" false hg mX12_swap_ok rfl rfl (Nat.le_of_ble_eq_true rfl) (by decide) ?_
  intro run step
  refine step.1 _ _ _ _ _ _ _ sgX12_swap_0_ok ?_
  refine ⟨_, hM.1, Nat.le_of_ble_eq_true rfl, rfl, ?_⟩
  have hM0 := hM.p63 (sI_0 (v := 0) (rfl : _ = M63l x y))
  have hR0 : Rel S (upd x 0 0) F := hR.t 0
  have hk0 := kp.rf (h := h) |>.u (k := 63) (e := .inl (12, (M63l x y).set 0 (.int 0))) (by decide) (by decide)
  refine Or.inl ⟨rfl, _, 2, 0, 0, _, _, _, qi_12_353, ⟨rfl, rfl⟩, ⟨hM0.1, rfl⟩, rfl, rfl, M_isLineU hg hM0 hR0 rfl _ 1 (by decide), fun y8 h8 hy8 => ?_⟩
  rcases hy8 with ⟨hD0, rfl, hb⟩ | ⟨hD0, rfl, hh⟩
  · refine ⟨fun _ => ?_, fun c11 => absurd c11 (by decide)⟩
    refine step.1 _ _ _ _ _ _ _ sgX12_swap_23_ok ?_
    refine ⟨.int, rfl, rfl, Nat.le_refl _, Nat.le_refl _, ?_⟩
    exact Or.inr ⟨0, 1, (Or.inl (⟨rfl, rfl, (by rw [hD0]; decide)⟩)), ⟨_, rfl⟩, mbad.l hk0 hb⟩
  · rw [hh]
    clear hh
    refine ⟨fun c11 => absurd c11 (by decide), fun _ => ?_⟩
    refine Or.inl ⟨rfl, _, 2, 0, 0, _, _, _, qi_12_353, ⟨rfl, rfl⟩, ⟨hM0.1, rfl⟩, rfl, rfl, M_isLineU hg hM0 hR0 rfl _ 1 (by decide), fun y17 h17 hy17 => ?_⟩
    rcases hy17 with ⟨hD1, rfl, hb⟩ | ⟨hD1, rfl, hh⟩
    · refine ⟨fun c20 => absurd c20 (by decide), fun _ => ?_⟩
      refine step.1 _ _ _ _ _ _ _ sgX12_swap_23_ok ?_
      refine ⟨.int, rfl, rfl, Nat.le_refl _, Nat.le_refl _, ?_⟩
      exact Or.inr ⟨0, 1, (Or.inr (⟨rfl, rfl, hD0, (by rw [hD1]; decide)⟩)), ⟨_, rfl⟩, mbad.l hk0 hb⟩
    · rw [hh]
      clear hh
      have hx10 := hI.1.2.1
      obtain ⟨xx, hxx, eli⟩ := wi_lt (by omega) hD0
      obtain ⟨yy, hyy, elo⟩ := wi_lt (by omega) hD1
      refine ⟨fun _ => ?_, fun c20 => absurd c20 (by decide)⟩
      refine step.1 _ _ _ _ _ _ _ sgX12_swap_25_ok ?_
      refine ⟨fun c27 => ?_, fun c27 => ?_⟩
      · have d27 : ¬ li = lo := c27
        refine step.1 _ _ _ _ _ _ _ sgX12_swap_32_ok ?_
        refine Or.inl ⟨rfl, _, 2, 0, 0, _, _, _, qi_12_531, ⟨rfl, rfl⟩, ⟨hM0.1, rfl⟩, rfl, rfl, M_changes hg hM0 hR0 hI.1.2.2, fun y33 h33 hy33 => ?_⟩
        rcases hy33 with ⟨hfull, rfl, hh⟩ | ⟨hlt, rfl, hM2, hk2⟩
        · rw [hh]
          clear hh
          refine ⟨fun c36 => absurd c36 (by decide), fun _ => ?_⟩
          refine ⟨.int, rfl, rfl, Nat.le_refl _, Nat.le_refl _, ?_⟩
          refine Or.inl ⟨hD0, hD1, xx, yy, hxx, hyy, eli, elo, ?_⟩
          rw [if_neg (fun q => d27 (by rw [eli, elo, q])), if_pos hfull]
          exact ⟨rfl, _, _, _, _, hM0, hk0, hR0, rfl⟩
        · have hne : ¬ xx = yy := fun q => d27 (by rw [eli, elo, q])
          have loop : ∀ (m i : Nat) (hX : qH), i + m = 3 → MX hX (upd (upd x 0 0) 62 (nI (S.2.1.2.2.2.2.2.1 + 1))) y (fup (fup F 90 (krow (F 90) (132 * S.2.1.2.2.2.2.2.1) (F 67) (F 78) ((upd x 0 0) 36) ((upd x 0 0) 23))) 78 (xch (F 78) xx yy i)) G → kp h hX → run 43 [(3, .int (nI i)), (0, .ref 63), (1, .int li), (2, .int lo)] [] hX 0 0 := by
            intro m
            induction m with
            | zero =>
              intro i hX hi hMX hkX
              refine step.1 _ _ _ _ _ _ _ sgX12_swap_43_ok ?_
              refine ⟨fun c45 => ?_, fun c45 => absurd (show (3 : Int32) ≤ nI i from nI_le (a := 3) (by omega) (by omega)) c45⟩
              
              refine step.1 _ _ _ _ _ _ _ sgX12_swap_98_ok ?_
              refine ⟨.int, rfl, rfl, Nat.le_refl _, Nat.le_refl _, ?_⟩
              refine Or.inl ⟨hD0, hD1, xx, yy, hxx, hyy, eli, elo, ?_⟩
              rw [if_neg hne, if_neg (by omega)]
              have hX3 := hMX
              rw [show i = 3 by omega, xch_3 _ hne] at hX3
              exact ⟨rfl, _, _, _, _, hX3, hkX, hR0.push hI rfl hlt (fun k hk => by
                simp at hk
                exact upd_n hk.2.2) hR.1.2.2.2.2.2.2.2.1 hR.1.2.2.2.2.2.2.1 rfl rfl rfl rfl rfl (fun j hj => by
                simp at hj
                rw [fup_n hj.2.1, fup_n hj.2.2]) (fun j hj => hR.2.2.1.1 j hj) (lxch_c hxx hyy hne (fun j hj => hR.2.2.1.2.2 j hj)) rfl (rbk_swap hI hxx hyy hne), rfl⟩
            | succ m ih =>
              intro i hX hi hMX hkX
              refine step.1 _ _ _ _ _ _ _ sgX12_swap_43_ok ?_
              refine ⟨fun c45 => absurd c45 (h_nle (b := 3) (by omega) (by omega)), fun c45 => ?_⟩
              have ix1 : (3 * li + nI i : Int32) = nI (xx * 3 + i) := by rw [eli, Int32.mul_comm, ← nI_add]; exact congrArg (· + nI i) (pk_mul xx 3)
              have ix2 : (3 * lo + nI i : Int32) = nI (yy * 3 + i) := by rw [elo, Int32.mul_comm, ← nI_add]; exact congrArg (· + nI i) (pk_mul yy 3)
              refine ⟨by decide, _, _, hMX.1, rfl, ?_⟩
              refine ⟨_, _, hMX.c78, (by rw [ix1]; exact vp_in_nI (n := xx * 3 + i) (N := 30) (by omega) (by decide)), ?_⟩
              refine ⟨by decide, _, _, hMX.1, rfl, ?_⟩
              refine ⟨by decide, _, _, hMX.1, rfl, ?_⟩
              refine ⟨_, _, hMX.c78, (by rw [ix2]; exact vp_in_nI (n := yy * 3 + i) (N := 30) (by omega) (by decide)), ?_⟩
              refine ⟨_, _, hMX.c78, (by rw [ix1]; exact vp_in_nI (n := xx * 3 + i) (N := 30) (by omega) (by decide)), ?_⟩
              refine ⟨by decide, _, _, hMX.1, rfl, ?_⟩
              refine ⟨_, _, rfl, (by rw [ix2]; exact vp_in_nI (n := yy * 3 + i) (N := 30) (by omega) (by decide)), ?_⟩
              refine step.2 _ _ _ _ _ _ _ (qsub_cons 0 rfl (qsub_cons 2 rfl (qsub_cons 3 rfl (qsub_cons 4 rfl qsub_nil)))) ?_
              have kk := fun hZ => ih (i + 1) hZ (by omega)
              rw [← nI_1 i] at kk
              refine kk _ (hMX.vkk (k := 78) (by decide) ?_ (fun j hj => (qup_n hj).trans (qup_n hj))) ((hkX.u (k := 78) (by decide) (by decide)).u (k := 78) (by decide) (by decide))
              show some (aI' 30 (upd (upd (xch (F 78) xx yy i) (3 * li + nI i : Int32).toNatClampNeg (xch (F 78) xx yy i (3 * lo + nI i : Int32).toNatClampNeg)) (3 * lo + nI i : Int32).toNatClampNeg (xch (F 78) xx yy i (3 * li + nI i : Int32).toNatClampNeg))) = some (aI' 30 (xch (F 78) xx yy (i + 1)))
              rw [ix1, ix2, h_tn (by omega), h_tn (by omega), xch_s _ hne (by omega)]
          refine ⟨fun _ => ?_, fun c36 => absurd c36 (by decide)⟩
          refine step.1 _ _ _ _ _ _ _ sgX12_swap_41_ok ?_
          exact loop 3 0 _ (by omega) (by rw [xch_0, show fup (fup F 90 (krow (F 90) (132 * S.2.1.2.2.2.2.2.1) (F 67) (F 78) ((upd x 0 0) 36) ((upd x 0 0) 23))) 78 (F 78) = (fup F 90 (krow (F 90) (132 * S.2.1.2.2.2.2.2.1) (F 67) (F 78) ((upd x 0 0) 36) ((upd x 0 0) 23))) from by
            exact fup_self (F := (fup F 90 (krow (F 90) (132 * S.2.1.2.2.2.2.2.1) (F 67) (F 78) ((upd x 0 0) 36) ((upd x 0 0) 23)))) (k := 78)]; exact hM2) (hk0.tr hk2)
      · have d27n : xx = yy := (nI_eq (by omega) (by omega)).mp (by rw [← eli, ← elo]; exact c27)
        refine ⟨.int, rfl, rfl, Nat.le_refl _, Nat.le_refl _, ?_⟩
        refine Or.inl ⟨hD0, hD1, xx, yy, hxx, hyy, eli, elo, ?_⟩
        rw [if_pos d27n]
        exact ⟨rfl, _, _, _, _, hM0, hk0, hR0, rfl⟩
end Q12P
