section Q09D
def lgcd : Nat → Int64 → Int64 → Int64
  | 0, a, _ => a
  | m + 1, a, b => if b = 0 then a else lgcd m b (a - a / b * b)
def lterms (a b : Int64) (p : Int32) : Int64 := if a = 0 ∨ b = 0 then p.toInt64 else if lgcd 100 a b = 0 then p.toInt64 else if p = 0 then a / lgcd 100 a b else b / lgcd 100 a b
theorem lgc_eq (x y : Int64) : lg_cmp x y = 0 ↔ x = y := by
  constructor
  · intro h
    have h1 := (lgc_le x y).mp (by rw [h]; decide)
    have h2 := (lgc_ge x y).mp (by rw [h]; decide)
    exact Int64.le_antisymm h1 h2
  · rintro rfl
    have h1 := (lgc_le x x).mpr (Int64.le_refl _)
    have h2 := (lgc_ge x x).mpr (Int64.le_refl _)
    exact Int32.le_antisymm h1 h2
theorem X_gcd {g : qG} (hg : qOK g) {h : qH} (a b : Int64) : qSpec g 1 0 0 mX11_commonDivisor [.long a, .long b] h (fun r h' => r = some (.long (lgcd 100 a b)) ∧ h' = h) := by
  refine qSpec_run 11 "commonDivisor" false hg mX11_commonDivisor_ok rfl rfl (Nat.le_of_ble_eq_true rfl) (by decide) ?_
  intro run step
  have loop : ∀ (m i : Nat) (a1 b1 : Int64), i + m = 100 → lgcd m a1 b1 = lgcd 100 a b → run 3 [(4, .int (nI i)), (0, .long a1), (2, .long b1)] [] h 0 0 := by
    intro m
    induction m with
    | zero =>
      intro i a1 b1 hi hst
      obtain rfl : i = 100 := by omega
      refine step.1 _ _ _ _ _ _ _ sgX11_commonDivisor_3_ok ?_
      refine ⟨fun c7 => ?_, fun c7 => absurd (by decide : (100 : Int32) ≤ nI 100) c7⟩
      refine step.1 _ _ _ _ _ _ _ sgX11_commonDivisor_32_ok ?_
      refine ⟨rfl, Nat.le_refl _, Nat.le_refl _, ?_⟩
      exact ⟨by rw [← hst]; rfl, rfl⟩
    | succ m ih =>
      intro i a1 b1 hi hst
      refine step.1 _ _ _ _ _ _ _ sgX11_commonDivisor_3_ok ?_
      refine ⟨fun c7 => absurd c7 (h_nle (b := 100) (by omega) (by decide)), fun c7 => ?_⟩
      refine ⟨fun c13 => ?_, fun c13 => ?_⟩
      · have c13 : b1 = 0 := (lgc_eq _ _).mp c13
        refine step.1 _ _ _ _ _ _ _ sgX11_commonDivisor_32_ok ?_
        refine ⟨rfl, Nat.le_refl _, Nat.le_refl _, ?_⟩
        exact ⟨by rw [← hst, lgcd, if_pos c13], rfl⟩
      · have c13 : ¬ b1 = 0 := fun z => c13 ((lgc_eq _ _).mpr z)
        refine ⟨c13, ?_⟩
        refine step.2 _ _ _ _ _ _ _ (qsub_cons 0 rfl (qsub_cons 2 rfl (qsub_cons 1 rfl qsub_nil))) ?_
        have kk2 := ih (i + 1) b1 (a1 - a1 / b1 * b1) (by omega) (by rw [← hst, lgcd, if_neg c13])
        rw [← nI_1] at kk2
        exact kk2
  refine step.1 _ _ _ _ _ _ _ sgX11_commonDivisor_0_ok ?_
  exact loop 100 0 a b rfl rfl
theorem X_terms {g : qG} (hg : qOK g) {h : qH} (a b : Int64) (p : Int32) : qSpec g 2 0 0 mX11_leastTerms [.long a, .long b, .int p] h (fun r h' => r = some (.long (lterms a b p)) ∧ h' = h) := by
  refine qSpec_run 11 "leastTerms" false hg mX11_leastTerms_ok rfl rfl (Nat.le_of_ble_eq_true rfl) (by decide) ?_
  intro run step
  refine step.1 _ _ _ _ _ _ _ sgX11_leastTerms_0_ok ?_
  refine ⟨fun c3 => ?_, fun c3 => ?_⟩
  · have c3 : a = 0 := (lgc_eq _ _).mp c3
    refine step.1 _ _ _ _ _ _ _ sgX11_leastTerms_12_ok ?_
    refine ⟨rfl, Nat.le_refl _, Nat.le_refl _, ?_⟩
    exact ⟨by rw [lterms, if_pos (Or.inl c3)], rfl⟩
  · have c3 : ¬ a = 0 := fun z => c3 ((lgc_eq _ _).mpr z)
    refine ⟨fun c9 => ?_, fun c9 => ?_⟩
    · have c9 : ¬ b = 0 := fun z => c9 ((lgc_eq _ _).mpr z)
      refine step.1 _ _ _ _ _ _ _ sgX11_leastTerms_16_ok ?_
      refine Or.inl ⟨rfl, _, 1, 0, 0, _, Or.inl qi_11_418, ⟨rfl, rfl⟩, rfl, rfl, X_gcd hg a b, fun y18 h18 hy18 => ?_⟩
      obtain ⟨rfl, hh⟩ := hy18
      rw [hh]
      clear hh
      refine ⟨fun c27 => ?_, fun c27 => ?_⟩
      · have c27 : ¬ lgcd 100 a b = 0 := fun z => c27 ((lgc_eq _ _).mpr z)
        refine step.1 _ _ _ _ _ _ _ sgX11_leastTerms_34_ok ?_
        refine ⟨fun c36 => ?_, fun c36 => ?_⟩
        · have c36 : ¬ p = 0 := c36
          refine step.1 _ _ _ _ _ _ _ sgX11_leastTerms_46_ok ?_
          refine ⟨c27, ?_⟩
          refine step.1 _ _ _ _ _ _ _ sgX11_leastTerms_50_ok ?_
          refine ⟨rfl, Nat.le_refl _, Nat.le_refl _, ?_⟩
          exact ⟨by rw [lterms, if_neg (fun z => z.elim c3 c9), if_neg c27, if_neg c36], rfl⟩
        · have c36 : p = 0 := c36
          refine ⟨c27, ?_⟩
          refine step.1 _ _ _ _ _ _ _ sgX11_leastTerms_50_ok ?_
          refine ⟨rfl, Nat.le_refl _, Nat.le_refl _, ?_⟩
          exact ⟨by rw [lterms, if_neg (fun z => z.elim c3 c9), if_neg c27, if_pos c36], rfl⟩
      · have c27 : lgcd 100 a b = 0 := (lgc_eq _ _).mp c27
        refine ⟨rfl, Nat.le_refl _, Nat.le_refl _, ?_⟩
        exact ⟨by rw [lterms, if_neg (fun z => z.elim c3 c9), if_pos c27], rfl⟩
    · have c9 : b = 0 := (lgc_eq _ _).mp c9
      refine step.1 _ _ _ _ _ _ _ sgX11_leastTerms_12_ok ?_
      refine ⟨rfl, Nat.le_refl _, Nat.le_refl _, ?_⟩
      exact ⟨by rw [lterms, if_pos (Or.inr c9)], rfl⟩
theorem F_gives {g : qG} (hg : qOK g) (hT : qTHR g) {h : qH} {S : CS} (hC : CH h S) (hn : S.2.1.2.2.2.1 ≤ 10) (hl : lwf S.2.2.2.2.1.1) (dr vs pl : Int32) : qSpecX g 8 4 24 mX11_gives [.ref 0, .int dr, .int vs, .int pl] h (fun r h' => (wi 0 60 vs && wi 0 9 pl) = true ∧ ∃ x : Nat, x < S.2.1.2.2.2.1 ∧ dr = nI x ∧ r = some (.int (vgift S.2.1.1 S.2.2.2.2.1.1.1 S.2.2.2.2.1.1.2.1 S.2.2.2.2.1.1.2.2 (nI S.2.2.2.1.2) x vs pl)) ∧ CH h' S ∧ gro h h') (TX h S (fun k => (k = 0 ∧ ¬ wi 0 (nI S.2.1.2.2.2.1 - 1) dr = true) ∨ (k = 1 ∧ wi 0 (nI S.2.1.2.2.2.1 - 1) dr = true ∧ ¬ (wi 0 60 vs && wi 0 9 pl) = true))) := by
  refine qSpecX_runT "gives" hg hT mX11_gives_ok rfl rfl (Nat.le_of_ble_eq_true rfl) ?_
  intro run step stepT
  obtain ⟨va, vb, vc, vd, hV⟩ := hC.visit
  refine step.1 _ _ _ _ _ _ _ sgX11_gives_0_ok ?_
  refine Or.inr ⟨rfl, _, 7, 1, 6, _, _, _, _, qi_11_196, ⟨rfl, rfl⟩, ⟨hC.obj, rfl⟩, rfl, rfl, X_needDoor hg hT hC _, fun y2 h2 hy2 => ?_, fun E h9 z => ⟨z.mono (fun k hk => Or.inl (⟨hk.1, hk.2⟩)), Nat.le_of_ble_eq_true rfl, Nat.le_of_ble_eq_true rfl⟩⟩
  obtain ⟨hD, rfl, hh⟩ := hy2
  rw [hh]
  clear hh
  refine Or.inl ⟨rfl, _, 1, 0, 0, _, Or.inl qi_11_147, ⟨rfl, rfl⟩, rfl, rfl, sp_within hg _ _ _, fun y10 h10 hy10 => ?_⟩
  obtain ⟨rfl, hh⟩ := hy10
  rw [hh]
  clear hh
  refine ⟨fun c13 => ?_, fun c13 => ?_⟩
  · have w13 : wi 0 60 vs = false := qb_0.mp c13
    refine step.1 _ _ _ _ _ _ _ sgX11_gives_30_ok ?_
    refine step.1 _ _ _ _ _ _ _ sgX11_gives_31_ok ?_
    refine Or.inr ⟨rfl, _, 6, 1, 6, _, _, _, _, qi_11_151, ⟨rfl, rfl⟩, ⟨hC.obj, rfl⟩, rfl, rfl, X_need hg hT hC false, fun y31 h31 hy31 => ?_, fun E h9 z => ⟨z.mono (fun k hk => Or.inr (⟨hk.1, hD, fun z => by rw [w13] at z; cases z⟩)), Nat.le_of_ble_eq_true rfl, Nat.le_of_ble_eq_true rfl⟩⟩
    obtain ⟨hbad, rfl, hh⟩ := hy31
    rw [hh]
    clear hh
    cases hbad
    
  · have w13 : wi 0 60 vs = true := qb_1.mp c13
    refine Or.inl ⟨rfl, _, 1, 0, 0, _, Or.inl qi_11_147, ⟨rfl, rfl⟩, rfl, rfl, sp_within hg _ _ _, fun y20 h20 hy20 => ?_⟩
    obtain ⟨rfl, hh⟩ := hy20
    rw [hh]
    clear hh
    refine ⟨fun c23 => ?_, fun c23 => ?_⟩
    · have w23 : wi 0 9 pl = false := qb_0.mp c23
      refine step.1 _ _ _ _ _ _ _ sgX11_gives_30_ok ?_
      refine step.1 _ _ _ _ _ _ _ sgX11_gives_31_ok ?_
      refine Or.inr ⟨rfl, _, 6, 1, 6, _, _, _, _, qi_11_151, ⟨rfl, rfl⟩, ⟨hC.obj, rfl⟩, rfl, rfl, X_need hg hT hC false, fun y31 h31 hy31 => ?_, fun E h9 z => ⟨z.mono (fun k hk => Or.inr (⟨hk.1, hD, fun z => by rw [w13, w23] at z; cases z⟩)), Nat.le_of_ble_eq_true rfl, Nat.le_of_ble_eq_true rfl⟩⟩
      obtain ⟨hbad, rfl, hh⟩ := hy31
      rw [hh]
      clear hh
      cases hbad
      
    · have w23 : wi 0 9 pl = true := qb_1.mp c23
      refine step.1 _ _ _ _ _ _ _ sgX11_gives_31_ok ?_
      refine Or.inr ⟨rfl, _, 6, 1, 6, _, _, _, _, qi_11_151, ⟨rfl, rfl⟩, ⟨hC.obj, rfl⟩, rfl, rfl, X_need hg hT hC true, fun y31 h31 hy31 => ?_, fun E h9 z => ⟨z.mono (fun k hk => Or.inr (⟨hk.1, hD, absurd rfl hk.2⟩)), Nat.le_of_ble_eq_true rfl, Nat.le_of_ble_eq_true rfl⟩⟩
      obtain ⟨hok, rfl, hh⟩ := hy31
      rw [hh]
      clear hh
      have hw : (wi 0 60 vs && wi 0 9 pl) = true := by rw [w13, w23]; rfl
      obtain ⟨x, hx, ex⟩ := wi_lt (by omega) hD
      refine ⟨by decide, _, _, hC.obj, rfl, ?_⟩
      refine Or.inl ⟨rfl, _, 3, 0, 0, _, _, _, qi_11_217, ⟨rfl, rfl⟩, ⟨hV, rfl⟩, rfl, rfl, (by rw [ex]; exact V_gift hg (hC.W hl) x (by omega) vs pl), fun y41 h41 hy41 => ?_⟩
      obtain ⟨rfl, hs9, hW9⟩ := hy41
      have hCW := hC.up hs9 (fz_cons (cW hW9).1 (fz_cons (cW hW9).2.2 fz_nil))
      have hGW := gro.of hs9 rfl
      refine ⟨.int, rfl, rfl, Nat.le_of_ble_eq_true rfl, Nat.le_of_ble_eq_true rfl, ?_⟩
      exact ⟨hw, x, hx, ex, rfl, hCW, hGW⟩
theorem F_mean {g : qG} (hg : qOK g) (hT : qTHR g) {h : qH} {S : CS} (hC : CH h S) (hn : S.2.1.2.2.2.1 ≤ 10) (hl : lwf S.2.2.2.2.1.1) (dr nv rg wh pt : Int32) : qSpecX g 9 4 24 mX11_mean [.ref 0, .int dr, .int nv, .int rg, .int wh, .int pt] h (fun r h' => (wi 0 5 nv && wi 0 2 rg) = true ∧ (wi 0 3 wh && wi 0 1 pt) = true ∧ ∃ x y z u : Nat, x < S.2.1.2.2.2.1 ∧ y ≤ 5 ∧ z ≤ 2 ∧ u ≤ 3 ∧ dr = nI x ∧ nv = nI y ∧ rg = nI z ∧ wh = nI u ∧ r = some (.long (lterms (if u = 0 then (vmean (fun z => vgift S.2.1.1 S.2.2.2.2.1.1.1 S.2.2.2.2.1.1.2.1 S.2.2.2.2.1.1.2.2 (nI S.2.2.2.1.2) x z 0) S.2.1.1 S.2.1.2.2.2.2.2.2.2.1 x z y).2.2.1 else if u = 1 then (vmean (fun z => vgift S.2.1.1 S.2.2.2.2.1.1.1 S.2.2.2.2.1.1.2.1 S.2.2.2.2.1.1.2.2 (nI S.2.2.2.1.2) x z 0) S.2.1.1 S.2.1.2.2.2.2.2.2.2.1 x z y).2.2.2.1 else if u = 2 then (vmean (fun z => vgift S.2.1.1 S.2.2.2.2.1.1.1 S.2.2.2.2.1.1.2.1 S.2.2.2.2.1.1.2.2 (nI S.2.2.2.1.2) x z 0) S.2.1.1 S.2.1.2.2.2.2.2.2.2.1 x z y).2.2.1 * (S.2.1.1 (x * 10 + 2)).toInt64 else (vmean (fun z => vgift S.2.1.1 S.2.2.2.2.1.1.1 S.2.2.2.2.1.1.2.1 S.2.2.2.2.1.1.2.2 (nI S.2.2.2.1.2) x z 0) S.2.1.1 S.2.1.2.2.2.2.2.2.2.1 x z y).2.2.2.2 + (vmean (fun z => vgift S.2.1.1 S.2.2.2.2.1.1.1 S.2.2.2.2.1.1.2.1 S.2.2.2.2.1.1.2.2 (nI S.2.2.2.1.2) x z 0) S.2.1.1 S.2.1.2.2.2.2.2.2.2.1 x z y).2.2.1 * (S.2.1.1 (x * 10 + 9)).toInt64) 268435456 pt)) ∧ CH h' S ∧ gro h h') (TX h S (fun k => (k = 0 ∧ ¬ wi 0 (nI S.2.1.2.2.2.1 - 1) dr = true) ∨ (k = 1 ∧ wi 0 (nI S.2.1.2.2.2.1 - 1) dr = true ∧ ¬ (wi 0 5 nv && wi 0 2 rg) = true) ∨ (k = 1 ∧ wi 0 (nI S.2.1.2.2.2.1 - 1) dr = true ∧ (wi 0 5 nv && wi 0 2 rg) = true ∧ ¬ (wi 0 3 wh && wi 0 1 pt) = true))) := by
  refine qSpecX_runT "mean" hg hT mX11_mean_ok rfl rfl (Nat.le_of_ble_eq_true rfl) ?_
  intro run step stepT
  obtain ⟨va, vb, vc, vd, hV⟩ := hC.visit
  refine step.1 _ _ _ _ _ _ _ sgX11_mean_0_ok ?_
  refine Or.inr ⟨rfl, _, 7, 1, 6, _, _, _, _, qi_11_196, ⟨rfl, rfl⟩, ⟨hC.obj, rfl⟩, rfl, rfl, X_needDoor hg hT hC _, fun y2 h2 hy2 => ?_, fun E h9 z => ⟨z.mono (fun k hk => Or.inl (⟨hk.1, hk.2⟩)), Nat.le_of_ble_eq_true rfl, Nat.le_of_ble_eq_true rfl⟩⟩
  obtain ⟨hD, rfl, hh⟩ := hy2
  rw [hh]
  clear hh
  refine Or.inl ⟨rfl, _, 1, 0, 0, _, Or.inl qi_11_147, ⟨rfl, rfl⟩, rfl, rfl, sp_within hg _ _ _, fun y9 h9 hy9 => ?_⟩
  obtain ⟨rfl, hh⟩ := hy9
  rw [hh]
  clear hh
  refine ⟨fun c12 => ?_, fun c12 => ?_⟩
  · have w12 : wi 0 5 nv = false := qb_0.mp c12
    refine step.1 _ _ _ _ _ _ _ sgX11_mean_28_ok ?_
    refine step.1 _ _ _ _ _ _ _ sgX11_mean_29_ok ?_
    refine Or.inr ⟨rfl, _, 6, 1, 6, _, _, _, _, qi_11_151, ⟨rfl, rfl⟩, ⟨hC.obj, rfl⟩, rfl, rfl, X_need hg hT hC false, fun y29 h29 hy29 => ?_, fun E h9 z => ⟨z.mono (fun k hk => Or.inr (Or.inl (⟨hk.1, hD, fun z => by rw [w12] at z; cases z⟩))), Nat.le_of_ble_eq_true rfl, Nat.le_of_ble_eq_true rfl⟩⟩
    obtain ⟨hbad, rfl, hh⟩ := hy29
    rw [hh]
    clear hh
    cases hbad
    
  · have w12 : wi 0 5 nv = true := qb_1.mp c12
    refine Or.inl ⟨rfl, _, 1, 0, 0, _, Or.inl qi_11_147, ⟨rfl, rfl⟩, rfl, rfl, sp_within hg _ _ _, fun y18 h18 hy18 => ?_⟩
    obtain ⟨rfl, hh⟩ := hy18
    rw [hh]
    clear hh
    refine ⟨fun c21 => ?_, fun c21 => ?_⟩
    · have w21 : wi 0 2 rg = false := qb_0.mp c21
      refine step.1 _ _ _ _ _ _ _ sgX11_mean_28_ok ?_
      refine step.1 _ _ _ _ _ _ _ sgX11_mean_29_ok ?_
      refine Or.inr ⟨rfl, _, 6, 1, 6, _, _, _, _, qi_11_151, ⟨rfl, rfl⟩, ⟨hC.obj, rfl⟩, rfl, rfl, X_need hg hT hC false, fun y29 h29 hy29 => ?_, fun E h9 z => ⟨z.mono (fun k hk => Or.inr (Or.inl (⟨hk.1, hD, fun z => by rw [w12, w21] at z; cases z⟩))), Nat.le_of_ble_eq_true rfl, Nat.le_of_ble_eq_true rfl⟩⟩
      obtain ⟨hbad, rfl, hh⟩ := hy29
      rw [hh]
      clear hh
      cases hbad
      
    · have w21 : wi 0 2 rg = true := qb_1.mp c21
      refine step.1 _ _ _ _ _ _ _ sgX11_mean_29_ok ?_
      refine Or.inr ⟨rfl, _, 6, 1, 6, _, _, _, _, qi_11_151, ⟨rfl, rfl⟩, ⟨hC.obj, rfl⟩, rfl, rfl, X_need hg hT hC true, fun y29 h29 hy29 => ?_, fun E h9 z => ⟨z.mono (fun k hk => Or.inr (Or.inl (⟨hk.1, hD, absurd rfl hk.2⟩))), Nat.le_of_ble_eq_true rfl, Nat.le_of_ble_eq_true rfl⟩⟩
      obtain ⟨hok, rfl, hh⟩ := hy29
      rw [hh]
      clear hh
      have hw1 : (wi 0 5 nv && wi 0 2 rg) = true := by rw [w12, w21]; rfl
      refine Or.inl ⟨rfl, _, 1, 0, 0, _, Or.inl qi_11_147, ⟨rfl, rfl⟩, rfl, rfl, sp_within hg _ _ _, fun y37 h37 hy37 => ?_⟩
      obtain ⟨rfl, hh⟩ := hy37
      rw [hh]
      clear hh
      refine ⟨fun c40 => ?_, fun c40 => ?_⟩
      · have w40 : wi 0 3 wh = false := qb_0.mp c40
        refine step.1 _ _ _ _ _ _ _ sgX11_mean_57_ok ?_
        refine step.1 _ _ _ _ _ _ _ sgX11_mean_58_ok ?_
        refine Or.inr ⟨rfl, _, 6, 1, 6, _, _, _, _, qi_11_151, ⟨rfl, rfl⟩, ⟨hC.obj, rfl⟩, rfl, rfl, X_need hg hT hC false, fun y58 h58 hy58 => ?_, fun E h9 z => ⟨z.mono (fun k hk => Or.inr (Or.inr (⟨hk.1, hD, hw1, fun z => by rw [w40] at z; cases z⟩))), Nat.le_of_ble_eq_true rfl, Nat.le_of_ble_eq_true rfl⟩⟩
        obtain ⟨hbad, rfl, hh⟩ := hy58
        rw [hh]
        clear hh
        cases hbad
        
      · have w40 : wi 0 3 wh = true := qb_1.mp c40
        refine Or.inl ⟨rfl, _, 1, 0, 0, _, Or.inl qi_11_147, ⟨rfl, rfl⟩, rfl, rfl, sp_within hg _ _ _, fun y47 h47 hy47 => ?_⟩
        obtain ⟨rfl, hh⟩ := hy47
        rw [hh]
        clear hh
        refine ⟨fun c50 => ?_, fun c50 => ?_⟩
        · have w50 : wi 0 1 pt = false := qb_0.mp c50
          refine step.1 _ _ _ _ _ _ _ sgX11_mean_57_ok ?_
          refine step.1 _ _ _ _ _ _ _ sgX11_mean_58_ok ?_
          refine Or.inr ⟨rfl, _, 6, 1, 6, _, _, _, _, qi_11_151, ⟨rfl, rfl⟩, ⟨hC.obj, rfl⟩, rfl, rfl, X_need hg hT hC false, fun y58 h58 hy58 => ?_, fun E h9 z => ⟨z.mono (fun k hk => Or.inr (Or.inr (⟨hk.1, hD, hw1, fun z => by rw [w40, w50] at z; cases z⟩))), Nat.le_of_ble_eq_true rfl, Nat.le_of_ble_eq_true rfl⟩⟩
          obtain ⟨hbad, rfl, hh⟩ := hy58
          rw [hh]
          clear hh
          cases hbad
          
        · have w50 : wi 0 1 pt = true := qb_1.mp c50
          refine step.1 _ _ _ _ _ _ _ sgX11_mean_58_ok ?_
          refine Or.inr ⟨rfl, _, 6, 1, 6, _, _, _, _, qi_11_151, ⟨rfl, rfl⟩, ⟨hC.obj, rfl⟩, rfl, rfl, X_need hg hT hC true, fun y58 h58 hy58 => ?_, fun E h9 z => ⟨z.mono (fun k hk => Or.inr (Or.inr (⟨hk.1, hD, hw1, absurd rfl hk.2⟩))), Nat.le_of_ble_eq_true rfl, Nat.le_of_ble_eq_true rfl⟩⟩
          obtain ⟨hok, rfl, hh⟩ := hy58
          rw [hh]
          clear hh
          have hw2 : (wi 0 3 wh && wi 0 1 pt) = true := by rw [w40, w50]; rfl
          obtain ⟨x, hx, ex⟩ := wi_lt (by omega) hD
          obtain ⟨y, hy, ey⟩ := wi_nat (m := 5) (by decide) w12
          obtain ⟨z, hz, ez⟩ := wi_nat (m := 2) (by decide) w21
          obtain ⟨u, hu, eu⟩ := wi_nat (m := 3) (by decide) w40
          refine ⟨by decide, _, _, hC.obj, rfl, ?_⟩
          refine Or.inl ⟨rfl, _, 4, 0, 0, _, _, _, qi_11_221, ⟨rfl, rfl⟩, ⟨hV, rfl⟩, rfl, rfl, (by rw [ex, ey, ez]; exact V_reckon hg (hC.W hl) x y z (by omega) hy hz 0), fun y69 h69 hy69 => ?_⟩
          obtain ⟨rfl, hs9, hW9, hV9⟩ := hy69
          have hCW := hC.up hs9 (fz_cons (cW hW9).1 (fz_cons (cW hW9).2.1 (fz_cons (cW hW9).2.2 fz_nil)))
          have hGW := gro.of hs9 rfl
          refine ⟨by decide, _, _, hCW.obj, rfl, ?_⟩
          refine Or.inl ⟨rfl, _, 1, 0, 0, _, _, _, qi_11_225, ⟨rfl, rfl⟩, ⟨hV9, rfl⟩, rfl, rfl, (by rw [eu]; exact V_times hg hV9 u hu), fun y78 h78 hy78 => ?_⟩
          obtain ⟨rfl, hh⟩ := hy78
          rw [hh]
          clear hh
          refine Or.inl ⟨rfl, _, 2, 0, 0, _, Or.inl qi_11_231, ⟨rfl, rfl⟩, rfl, rfl, X_terms hg _ _ _, fun y86 h86 hy86 => ?_⟩
          obtain ⟨rfl, hh⟩ := hy86
          rw [hh]
          clear hh
          refine ⟨rfl, Nat.le_of_ble_eq_true rfl, Nat.le_of_ble_eq_true rfl, ?_⟩
          exact ⟨hw1, hw2, x, y, z, u, hx, hy, hz, hu, ex, ey, ez, eu, rfl, hCW, hGW⟩
theorem F_pays {g : qG} (hg : qOK g) (hT : qTHR g) {h : qH} {S : CS} (hC : CH h S) (hn : S.2.1.2.2.2.1 ≤ 10) (hl : lwf S.2.2.2.2.1.1) (dr nv rg px : Int32) : qSpecX g 8 4 24 mX11_pays [.ref 0, .int dr, .int nv, .int rg, .int px] h (fun r h' => (wi 0 5 nv && (wi 0 2 rg && wi 0 99 px)) = true ∧ ∃ x y z : Nat, x < S.2.1.2.2.2.1 ∧ y ≤ 5 ∧ z ≤ 2 ∧ dr = nI x ∧ nv = nI y ∧ rg = nI z ∧ r = some (.int (qb (decide (px.toInt64 * ((vmean (fun z => vgift S.2.1.1 S.2.2.2.2.1.1.1 S.2.2.2.2.1.1.2.1 S.2.2.2.2.1.1.2.2 (nI S.2.2.2.1.2) x z 0) S.2.1.1 S.2.1.2.2.2.2.2.2.2.1 x z y).2.2.2.2 + (vmean (fun z => vgift S.2.1.1 S.2.2.2.2.1.1.1 S.2.2.2.2.1.1.2.1 S.2.2.2.2.1.1.2.2 (nI S.2.2.2.1.2) x z 0) S.2.1.1 S.2.1.2.2.2.2.2.2.2.1 x z y).2.2.1 * (S.2.1.1 (x * 10 + 9)).toInt64) ≤ (vmean (fun z => vgift S.2.1.1 S.2.2.2.2.1.1.1 S.2.2.2.2.1.1.2.1 S.2.2.2.2.1.1.2.2 (nI S.2.2.2.1.2) x z 0) S.2.1.1 S.2.1.2.2.2.2.2.2.2.1 x z y).2.2.2.1)))) ∧ CH h' S ∧ gro h h') (TX h S (fun k => (k = 0 ∧ ¬ wi 0 (nI S.2.1.2.2.2.1 - 1) dr = true) ∨ (k = 1 ∧ wi 0 (nI S.2.1.2.2.2.1 - 1) dr = true ∧ ¬ (wi 0 5 nv && (wi 0 2 rg && wi 0 99 px)) = true))) := by
  refine qSpecX_runT "pays" hg hT mX11_pays_ok rfl rfl (Nat.le_of_ble_eq_true rfl) ?_
  intro run step stepT
  obtain ⟨va, vb, vc, vd, hV⟩ := hC.visit
  refine step.1 _ _ _ _ _ _ _ sgX11_pays_0_ok ?_
  refine Or.inr ⟨rfl, _, 7, 1, 6, _, _, _, _, qi_11_196, ⟨rfl, rfl⟩, ⟨hC.obj, rfl⟩, rfl, rfl, X_needDoor hg hT hC _, fun y2 h2 hy2 => ?_, fun E h9 z => ⟨z.mono (fun k hk => Or.inl (⟨hk.1, hk.2⟩)), Nat.le_of_ble_eq_true rfl, Nat.le_of_ble_eq_true rfl⟩⟩
  obtain ⟨hD, rfl, hh⟩ := hy2
  rw [hh]
  clear hh
  refine Or.inl ⟨rfl, _, 1, 0, 0, _, Or.inl qi_11_147, ⟨rfl, rfl⟩, rfl, rfl, sp_within hg _ _ _, fun y9 h9 hy9 => ?_⟩
  obtain ⟨rfl, hh⟩ := hy9
  rw [hh]
  clear hh
  refine ⟨fun c12 => ?_, fun c12 => ?_⟩
  · have w12 : wi 0 5 nv = false := qb_0.mp c12
    refine step.1 _ _ _ _ _ _ _ sgX11_pays_39_ok ?_
    refine step.1 _ _ _ _ _ _ _ sgX11_pays_40_ok ?_
    refine Or.inr ⟨rfl, _, 6, 1, 6, _, _, _, _, qi_11_151, ⟨rfl, rfl⟩, ⟨hC.obj, rfl⟩, rfl, rfl, X_need hg hT hC false, fun y40 h40 hy40 => ?_, fun E h9 z => ⟨z.mono (fun k hk => Or.inr (⟨hk.1, hD, fun z => by rw [w12] at z; cases z⟩)), Nat.le_of_ble_eq_true rfl, Nat.le_of_ble_eq_true rfl⟩⟩
    obtain ⟨hbad, rfl, hh⟩ := hy40
    rw [hh]
    clear hh
    cases hbad
    
  · have w12 : wi 0 5 nv = true := qb_1.mp c12
    refine Or.inl ⟨rfl, _, 1, 0, 0, _, Or.inl qi_11_147, ⟨rfl, rfl⟩, rfl, rfl, sp_within hg _ _ _, fun y18 h18 hy18 => ?_⟩
    obtain ⟨rfl, hh⟩ := hy18
    rw [hh]
    clear hh
    refine ⟨fun c21 => ?_, fun c21 => ?_⟩
    · have w21 : wi 0 2 rg = false := qb_0.mp c21
      refine step.1 _ _ _ _ _ _ _ sgX11_pays_39_ok ?_
      refine step.1 _ _ _ _ _ _ _ sgX11_pays_40_ok ?_
      refine Or.inr ⟨rfl, _, 6, 1, 6, _, _, _, _, qi_11_151, ⟨rfl, rfl⟩, ⟨hC.obj, rfl⟩, rfl, rfl, X_need hg hT hC false, fun y40 h40 hy40 => ?_, fun E h9 z => ⟨z.mono (fun k hk => Or.inr (⟨hk.1, hD, fun z => by rw [w12, w21] at z; cases z⟩)), Nat.le_of_ble_eq_true rfl, Nat.le_of_ble_eq_true rfl⟩⟩
      obtain ⟨hbad, rfl, hh⟩ := hy40
      rw [hh]
      clear hh
      cases hbad
      
    · have w21 : wi 0 2 rg = true := qb_1.mp c21
      refine Or.inl ⟨rfl, _, 1, 0, 0, _, Or.inl qi_11_147, ⟨rfl, rfl⟩, rfl, rfl, sp_within hg _ _ _, fun y29 h29 hy29 => ?_⟩
      obtain ⟨rfl, hh⟩ := hy29
      rw [hh]
      clear hh
      refine ⟨fun c32 => ?_, fun c32 => ?_⟩
      · have w32 : wi 0 99 px = false := qb_0.mp c32
        refine step.1 _ _ _ _ _ _ _ sgX11_pays_39_ok ?_
        refine step.1 _ _ _ _ _ _ _ sgX11_pays_40_ok ?_
        refine Or.inr ⟨rfl, _, 6, 1, 6, _, _, _, _, qi_11_151, ⟨rfl, rfl⟩, ⟨hC.obj, rfl⟩, rfl, rfl, X_need hg hT hC false, fun y40 h40 hy40 => ?_, fun E h9 z => ⟨z.mono (fun k hk => Or.inr (⟨hk.1, hD, fun z => by rw [w12, w21, w32] at z; cases z⟩)), Nat.le_of_ble_eq_true rfl, Nat.le_of_ble_eq_true rfl⟩⟩
        obtain ⟨hbad, rfl, hh⟩ := hy40
        rw [hh]
        clear hh
        cases hbad
        
      · have w32 : wi 0 99 px = true := qb_1.mp c32
        refine step.1 _ _ _ _ _ _ _ sgX11_pays_40_ok ?_
        refine Or.inr ⟨rfl, _, 6, 1, 6, _, _, _, _, qi_11_151, ⟨rfl, rfl⟩, ⟨hC.obj, rfl⟩, rfl, rfl, X_need hg hT hC true, fun y40 h40 hy40 => ?_, fun E h9 z => ⟨z.mono (fun k hk => Or.inr (⟨hk.1, hD, absurd rfl hk.2⟩)), Nat.le_of_ble_eq_true rfl, Nat.le_of_ble_eq_true rfl⟩⟩
        obtain ⟨hok, rfl, hh⟩ := hy40
        rw [hh]
        clear hh
        have hw : (wi 0 5 nv && (wi 0 2 rg && wi 0 99 px)) = true := by rw [w12, w21, w32]; rfl
        obtain ⟨x, hx, ex⟩ := wi_lt (by omega) hD
        obtain ⟨y, hy, ey⟩ := wi_nat (m := 5) (by decide) w12
        obtain ⟨z, hz, ez⟩ := wi_nat (m := 2) (by decide) w21
        refine ⟨by decide, _, _, hC.obj, rfl, ?_⟩
        refine Or.inl ⟨rfl, _, 4, 0, 0, _, _, _, qi_11_221, ⟨rfl, rfl⟩, ⟨hV, rfl⟩, rfl, rfl, (by rw [ex, ey, ez]; exact V_reckon hg (hC.W hl) x y z (by omega) hy hz 0), fun y51 h51 hy51 => ?_⟩
        obtain ⟨rfl, hs9, hW9, hV9⟩ := hy51
        have hCW := hC.up hs9 (fz_cons (cW hW9).1 (fz_cons (cW hW9).2.1 (fz_cons (cW hW9).2.2 fz_nil)))
        have hGW := gro.of hs9 rfl
        refine ⟨by decide, _, _, hCW.obj, rfl, ?_⟩
        refine ⟨by decide, _, _, hV9, rfl, ?_⟩
        refine ⟨by decide, _, _, hCW.obj, rfl, ?_⟩
        refine ⟨by decide, _, _, hV9, rfl, ?_⟩
        refine ⟨fun c73 => ?_, fun c73 => ?_⟩
        · have c73 : ¬ px.toInt64 * ((vmean (fun z => vgift S.2.1.1 S.2.2.2.2.1.1.1 S.2.2.2.2.1.1.2.1 S.2.2.2.2.1.1.2.2 (nI S.2.2.2.1.2) x z 0) S.2.1.1 S.2.1.2.2.2.2.2.2.2.1 x z y).2.2.2.2 + (vmean (fun z => vgift S.2.1.1 S.2.2.2.2.1.1.1 S.2.2.2.2.1.1.2.1 S.2.2.2.2.1.1.2.2 (nI S.2.2.2.1.2) x z 0) S.2.1.1 S.2.1.2.2.2.2.2.2.2.1 x z y).2.2.1 * (S.2.1.1 (x * 10 + 9)).toInt64) ≤ (vmean (fun z => vgift S.2.1.1 S.2.2.2.2.1.1.1 S.2.2.2.2.1.1.2.1 S.2.2.2.2.1.1.2.2 (nI S.2.2.2.1.2) x z 0) S.2.1.1 S.2.1.2.2.2.2.2.2.2.1 x z y).2.2.2.1 := Int64.not_le.mpr ((lgc_lt _ _).mp c73)
          refine step.1 _ _ _ _ _ _ _ sgX11_pays_80_ok ?_
          refine step.1 _ _ _ _ _ _ _ sgX11_pays_81_ok ?_
          refine ⟨.boolean, rfl, rfl, Nat.le_of_ble_eq_true rfl, Nat.le_of_ble_eq_true rfl, ?_⟩
          exact ⟨hw, x, y, z, hx, hy, hz, ex, ey, ez, by rw [decide_eq_false c73]; rfl, hCW, hGW⟩
        · have c73 : px.toInt64 * ((vmean (fun z => vgift S.2.1.1 S.2.2.2.2.1.1.1 S.2.2.2.2.1.1.2.1 S.2.2.2.2.1.1.2.2 (nI S.2.2.2.1.2) x z 0) S.2.1.1 S.2.1.2.2.2.2.2.2.2.1 x z y).2.2.2.2 + (vmean (fun z => vgift S.2.1.1 S.2.2.2.2.1.1.1 S.2.2.2.2.1.1.2.1 S.2.2.2.2.1.1.2.2 (nI S.2.2.2.1.2) x z 0) S.2.1.1 S.2.1.2.2.2.2.2.2.2.1 x z y).2.2.1 * (S.2.1.1 (x * 10 + 9)).toInt64) ≤ (vmean (fun z => vgift S.2.1.1 S.2.2.2.2.1.1.1 S.2.2.2.2.1.1.2.1 S.2.2.2.2.1.1.2.2 (nI S.2.2.2.1.2) x z 0) S.2.1.1 S.2.1.2.2.2.2.2.2.2.1 x z y).2.2.2.1 := Int64.not_lt.mp (fun q => c73 ((lgc_lt _ _).mpr q))
          refine step.1 _ _ _ _ _ _ _ sgX11_pays_81_ok ?_
          refine ⟨.boolean, rfl, rfl, Nat.le_of_ble_eq_true rfl, Nat.le_of_ble_eq_true rfl, ?_⟩
          exact ⟨hw, x, y, z, hx, hy, hz, ex, ey, ez, by rw [decide_eq_true c73]; rfl, hCW, hGW⟩
theorem F_home {g : qG} (hg : qOK g) (hT : qTHR g) {h : qH} {S : CS} (hC : CH h S) (hn : S.2.1.2.2.2.1 ≤ 10) (hl : lwf S.2.2.2.2.1.1) (dr se vv pt : Int32) : qSpecX g 8 4 24 mX11_home [.ref 0, .int dr, .int se, .int vv, .int pt] h (fun r h' => (wi 0 2 se && (wi 0 10 vv && wi 0 1 pt)) = true ∧ ∃ x y : Nat, x < S.2.1.2.2.2.1 ∧ y ≤ 10 ∧ dr = nI x ∧ vv = nI y ∧ r = some (.long (lterms (vin S.2.1.1 x se y) (vall S.2.1.1 x se y) pt)) ∧ CH h' S ∧ gro h h') (TX h S (fun k => (k = 0 ∧ ¬ wi 0 (nI S.2.1.2.2.2.1 - 1) dr = true) ∨ (k = 1 ∧ wi 0 (nI S.2.1.2.2.2.1 - 1) dr = true ∧ ¬ (wi 0 2 se && (wi 0 10 vv && wi 0 1 pt)) = true))) := by
  refine qSpecX_runT "home" hg hT mX11_home_ok rfl rfl (Nat.le_of_ble_eq_true rfl) ?_
  intro run step stepT
  obtain ⟨va, vb, vc, vd, hV⟩ := hC.visit
  refine step.1 _ _ _ _ _ _ _ sgX11_home_0_ok ?_
  refine Or.inr ⟨rfl, _, 7, 1, 6, _, _, _, _, qi_11_196, ⟨rfl, rfl⟩, ⟨hC.obj, rfl⟩, rfl, rfl, X_needDoor hg hT hC _, fun y2 h2 hy2 => ?_, fun E h9 z => ⟨z.mono (fun k hk => Or.inl (⟨hk.1, hk.2⟩)), Nat.le_of_ble_eq_true rfl, Nat.le_of_ble_eq_true rfl⟩⟩
  obtain ⟨hD, rfl, hh⟩ := hy2
  rw [hh]
  clear hh
  refine Or.inl ⟨rfl, _, 1, 0, 0, _, Or.inl qi_11_147, ⟨rfl, rfl⟩, rfl, rfl, sp_within hg _ _ _, fun y9 h9 hy9 => ?_⟩
  obtain ⟨rfl, hh⟩ := hy9
  rw [hh]
  clear hh
  refine ⟨fun c12 => ?_, fun c12 => ?_⟩
  · have w12 : wi 0 2 se = false := qb_0.mp c12
    refine step.1 _ _ _ _ _ _ _ sgX11_home_39_ok ?_
    refine step.1 _ _ _ _ _ _ _ sgX11_home_40_ok ?_
    refine Or.inr ⟨rfl, _, 6, 1, 6, _, _, _, _, qi_11_151, ⟨rfl, rfl⟩, ⟨hC.obj, rfl⟩, rfl, rfl, X_need hg hT hC false, fun y40 h40 hy40 => ?_, fun E h9 z => ⟨z.mono (fun k hk => Or.inr (⟨hk.1, hD, fun z => by rw [w12] at z; cases z⟩)), Nat.le_of_ble_eq_true rfl, Nat.le_of_ble_eq_true rfl⟩⟩
    obtain ⟨hbad, rfl, hh⟩ := hy40
    rw [hh]
    clear hh
    cases hbad
    
  · have w12 : wi 0 2 se = true := qb_1.mp c12
    refine Or.inl ⟨rfl, _, 1, 0, 0, _, Or.inl qi_11_147, ⟨rfl, rfl⟩, rfl, rfl, sp_within hg _ _ _, fun y19 h19 hy19 => ?_⟩
    obtain ⟨rfl, hh⟩ := hy19
    rw [hh]
    clear hh
    refine ⟨fun c22 => ?_, fun c22 => ?_⟩
    · have w22 : wi 0 10 vv = false := qb_0.mp c22
      refine step.1 _ _ _ _ _ _ _ sgX11_home_39_ok ?_
      refine step.1 _ _ _ _ _ _ _ sgX11_home_40_ok ?_
      refine Or.inr ⟨rfl, _, 6, 1, 6, _, _, _, _, qi_11_151, ⟨rfl, rfl⟩, ⟨hC.obj, rfl⟩, rfl, rfl, X_need hg hT hC false, fun y40 h40 hy40 => ?_, fun E h9 z => ⟨z.mono (fun k hk => Or.inr (⟨hk.1, hD, fun z => by rw [w12, w22] at z; cases z⟩)), Nat.le_of_ble_eq_true rfl, Nat.le_of_ble_eq_true rfl⟩⟩
      obtain ⟨hbad, rfl, hh⟩ := hy40
      rw [hh]
      clear hh
      cases hbad
      
    · have w22 : wi 0 10 vv = true := qb_1.mp c22
      refine Or.inl ⟨rfl, _, 1, 0, 0, _, Or.inl qi_11_147, ⟨rfl, rfl⟩, rfl, rfl, sp_within hg _ _ _, fun y29 h29 hy29 => ?_⟩
      obtain ⟨rfl, hh⟩ := hy29
      rw [hh]
      clear hh
      refine ⟨fun c32 => ?_, fun c32 => ?_⟩
      · have w32 : wi 0 1 pt = false := qb_0.mp c32
        refine step.1 _ _ _ _ _ _ _ sgX11_home_39_ok ?_
        refine step.1 _ _ _ _ _ _ _ sgX11_home_40_ok ?_
        refine Or.inr ⟨rfl, _, 6, 1, 6, _, _, _, _, qi_11_151, ⟨rfl, rfl⟩, ⟨hC.obj, rfl⟩, rfl, rfl, X_need hg hT hC false, fun y40 h40 hy40 => ?_, fun E h9 z => ⟨z.mono (fun k hk => Or.inr (⟨hk.1, hD, fun z => by rw [w12, w22, w32] at z; cases z⟩)), Nat.le_of_ble_eq_true rfl, Nat.le_of_ble_eq_true rfl⟩⟩
        obtain ⟨hbad, rfl, hh⟩ := hy40
        rw [hh]
        clear hh
        cases hbad
        
      · have w32 : wi 0 1 pt = true := qb_1.mp c32
        refine step.1 _ _ _ _ _ _ _ sgX11_home_40_ok ?_
        refine Or.inr ⟨rfl, _, 6, 1, 6, _, _, _, _, qi_11_151, ⟨rfl, rfl⟩, ⟨hC.obj, rfl⟩, rfl, rfl, X_need hg hT hC true, fun y40 h40 hy40 => ?_, fun E h9 z => ⟨z.mono (fun k hk => Or.inr (⟨hk.1, hD, absurd rfl hk.2⟩)), Nat.le_of_ble_eq_true rfl, Nat.le_of_ble_eq_true rfl⟩⟩
        obtain ⟨hok, rfl, hh⟩ := hy40
        rw [hh]
        clear hh
        have hw : (wi 0 2 se && (wi 0 10 vv && wi 0 1 pt)) = true := by rw [w12, w22, w32]; rfl
        obtain ⟨x, hx, ex⟩ := wi_lt (by omega) hD
        obtain ⟨y, hy, ey⟩ := wi_nat (m := 10) (by decide) w22
        refine ⟨by decide, _, _, hC.obj, rfl, ?_⟩
        refine Or.inl ⟨rfl, _, 2, 0, 0, _, _, _, qi_11_261, ⟨rfl, rfl⟩, ⟨hV, rfl⟩, rfl, rfl, (by rw [ex, ey]; exact V_in hg (hC.W hl) x (by omega) se y hy), fun y50 h50 hy50 => ?_⟩
        obtain ⟨rfl, hh⟩ := hy50
        rw [hh]
        clear hh
        refine ⟨by decide, _, _, hC.obj, rfl, ?_⟩
        refine Or.inl ⟨rfl, _, 3, 0, 0, _, _, _, qi_11_265, ⟨rfl, rfl⟩, ⟨hV, rfl⟩, rfl, rfl, (by rw [ex, ey]; exact V_all hg (hC.W hl) x (by omega) se y hy), fun y60 h60 hy60 => ?_⟩
        obtain ⟨rfl, hh⟩ := hy60
        rw [hh]
        clear hh
        refine Or.inl ⟨rfl, _, 2, 0, 0, _, Or.inl qi_11_231, ⟨rfl, rfl⟩, rfl, rfl, X_terms hg _ _ _, fun y65 h65 hy65 => ?_⟩
        obtain ⟨rfl, hh⟩ := hy65
        rw [hh]
        clear hh
        refine ⟨rfl, Nat.le_of_ble_eq_true rfl, Nat.le_of_ble_eq_true rfl, ?_⟩
        exact ⟨hw, x, y, hx, hy, ex, ey, rfl, hC, gro.rf⟩
theorem F_another {g : qG} (hg : qOK g) (hT : qTHR g) {h : qH} {S : CS} (hC : CH h S) (hn : S.2.1.2.2.2.1 ≤ 10) (hl : lwf S.2.2.2.2.1.1) (dr se vv pt : Int32) : qSpecX g 8 4 24 mX11_another [.ref 0, .int dr, .int se, .int vv, .int pt] h (fun r h' => (wi 0 2 se && (wi 0 10 vv && wi 0 1 pt)) = true ∧ ∃ x y : Nat, x < S.2.1.2.2.2.1 ∧ y ≤ 10 ∧ dr = nI x ∧ vv = nI y ∧ r = some (.long (lterms (vin S.2.1.1 x se y * (S.2.1.1 (x * 10 + 4)).toInt64) (vall S.2.1.1 x se y * 16) pt)) ∧ CH h' S ∧ gro h h') (TX h S (fun k => (k = 0 ∧ ¬ wi 0 (nI S.2.1.2.2.2.1 - 1) dr = true) ∨ (k = 1 ∧ wi 0 (nI S.2.1.2.2.2.1 - 1) dr = true ∧ ¬ (wi 0 2 se && (wi 0 10 vv && wi 0 1 pt)) = true))) := by
  refine qSpecX_runT "another" hg hT mX11_another_ok rfl rfl (Nat.le_of_ble_eq_true rfl) ?_
  intro run step stepT
  obtain ⟨va, vb, vc, vd, hV⟩ := hC.visit
  refine step.1 _ _ _ _ _ _ _ sgX11_another_0_ok ?_
  refine Or.inr ⟨rfl, _, 7, 1, 6, _, _, _, _, qi_11_196, ⟨rfl, rfl⟩, ⟨hC.obj, rfl⟩, rfl, rfl, X_needDoor hg hT hC _, fun y2 h2 hy2 => ?_, fun E h9 z => ⟨z.mono (fun k hk => Or.inl (⟨hk.1, hk.2⟩)), Nat.le_of_ble_eq_true rfl, Nat.le_of_ble_eq_true rfl⟩⟩
  obtain ⟨hD, rfl, hh⟩ := hy2
  rw [hh]
  clear hh
  refine Or.inl ⟨rfl, _, 1, 0, 0, _, Or.inl qi_11_147, ⟨rfl, rfl⟩, rfl, rfl, sp_within hg _ _ _, fun y9 h9 hy9 => ?_⟩
  obtain ⟨rfl, hh⟩ := hy9
  rw [hh]
  clear hh
  refine ⟨fun c12 => ?_, fun c12 => ?_⟩
  · have w12 : wi 0 2 se = false := qb_0.mp c12
    refine step.1 _ _ _ _ _ _ _ sgX11_another_39_ok ?_
    refine step.1 _ _ _ _ _ _ _ sgX11_another_40_ok ?_
    refine Or.inr ⟨rfl, _, 6, 1, 6, _, _, _, _, qi_11_151, ⟨rfl, rfl⟩, ⟨hC.obj, rfl⟩, rfl, rfl, X_need hg hT hC false, fun y40 h40 hy40 => ?_, fun E h9 z => ⟨z.mono (fun k hk => Or.inr (⟨hk.1, hD, fun z => by rw [w12] at z; cases z⟩)), Nat.le_of_ble_eq_true rfl, Nat.le_of_ble_eq_true rfl⟩⟩
    obtain ⟨hbad, rfl, hh⟩ := hy40
    rw [hh]
    clear hh
    cases hbad
    
  · have w12 : wi 0 2 se = true := qb_1.mp c12
    refine Or.inl ⟨rfl, _, 1, 0, 0, _, Or.inl qi_11_147, ⟨rfl, rfl⟩, rfl, rfl, sp_within hg _ _ _, fun y19 h19 hy19 => ?_⟩
    obtain ⟨rfl, hh⟩ := hy19
    rw [hh]
    clear hh
    refine ⟨fun c22 => ?_, fun c22 => ?_⟩
    · have w22 : wi 0 10 vv = false := qb_0.mp c22
      refine step.1 _ _ _ _ _ _ _ sgX11_another_39_ok ?_
      refine step.1 _ _ _ _ _ _ _ sgX11_another_40_ok ?_
      refine Or.inr ⟨rfl, _, 6, 1, 6, _, _, _, _, qi_11_151, ⟨rfl, rfl⟩, ⟨hC.obj, rfl⟩, rfl, rfl, X_need hg hT hC false, fun y40 h40 hy40 => ?_, fun E h9 z => ⟨z.mono (fun k hk => Or.inr (⟨hk.1, hD, fun z => by rw [w12, w22] at z; cases z⟩)), Nat.le_of_ble_eq_true rfl, Nat.le_of_ble_eq_true rfl⟩⟩
      obtain ⟨hbad, rfl, hh⟩ := hy40
      rw [hh]
      clear hh
      cases hbad
      
    · have w22 : wi 0 10 vv = true := qb_1.mp c22
      refine Or.inl ⟨rfl, _, 1, 0, 0, _, Or.inl qi_11_147, ⟨rfl, rfl⟩, rfl, rfl, sp_within hg _ _ _, fun y29 h29 hy29 => ?_⟩
      obtain ⟨rfl, hh⟩ := hy29
      rw [hh]
      clear hh
      refine ⟨fun c32 => ?_, fun c32 => ?_⟩
      · have w32 : wi 0 1 pt = false := qb_0.mp c32
        refine step.1 _ _ _ _ _ _ _ sgX11_another_39_ok ?_
        refine step.1 _ _ _ _ _ _ _ sgX11_another_40_ok ?_
        refine Or.inr ⟨rfl, _, 6, 1, 6, _, _, _, _, qi_11_151, ⟨rfl, rfl⟩, ⟨hC.obj, rfl⟩, rfl, rfl, X_need hg hT hC false, fun y40 h40 hy40 => ?_, fun E h9 z => ⟨z.mono (fun k hk => Or.inr (⟨hk.1, hD, fun z => by rw [w12, w22, w32] at z; cases z⟩)), Nat.le_of_ble_eq_true rfl, Nat.le_of_ble_eq_true rfl⟩⟩
        obtain ⟨hbad, rfl, hh⟩ := hy40
        rw [hh]
        clear hh
        cases hbad
        
      · have w32 : wi 0 1 pt = true := qb_1.mp c32
        refine step.1 _ _ _ _ _ _ _ sgX11_another_40_ok ?_
        refine Or.inr ⟨rfl, _, 6, 1, 6, _, _, _, _, qi_11_151, ⟨rfl, rfl⟩, ⟨hC.obj, rfl⟩, rfl, rfl, X_need hg hT hC true, fun y40 h40 hy40 => ?_, fun E h9 z => ⟨z.mono (fun k hk => Or.inr (⟨hk.1, hD, absurd rfl hk.2⟩)), Nat.le_of_ble_eq_true rfl, Nat.le_of_ble_eq_true rfl⟩⟩
        obtain ⟨hok, rfl, hh⟩ := hy40
        rw [hh]
        clear hh
        have hw : (wi 0 2 se && (wi 0 10 vv && wi 0 1 pt)) = true := by rw [w12, w22, w32]; rfl
        obtain ⟨x, hx, ex⟩ := wi_lt (by omega) hD
        obtain ⟨y, hy, ey⟩ := wi_nat (m := 10) (by decide) w22
        refine ⟨by decide, _, _, hC.obj, rfl, ?_⟩
        refine Or.inl ⟨rfl, _, 2, 0, 0, _, _, _, qi_11_261, ⟨rfl, rfl⟩, ⟨hV, rfl⟩, rfl, rfl, (by rw [ex, ey]; exact V_in hg (hC.W hl) x (by omega) se y hy), fun y50 h50 hy50 => ?_⟩
        obtain ⟨rfl, hh⟩ := hy50
        rw [hh]
        clear hh
        refine ⟨by decide, _, _, hC.obj, rfl, ?_⟩
        refine Or.inl ⟨rfl, _, 1, 0, 0, _, _, _, qi_11_199, ⟨rfl, rfl⟩, ⟨hC.rnd.1, rfl⟩, rfl, rfl, (by rw [ex]; exact R_of hg hC.rnd x 4 (by omega) (by decide)), fun y59 h59 hy59 => ?_⟩
        obtain ⟨rfl, hh⟩ := hy59
        rw [hh]
        clear hh
        refine ⟨by decide, _, _, hC.obj, rfl, ?_⟩
        refine Or.inl ⟨rfl, _, 3, 0, 0, _, _, _, qi_11_265, ⟨rfl, rfl⟩, ⟨hV, rfl⟩, rfl, rfl, (by rw [ex, ey]; exact V_all hg (hC.W hl) x (by omega) se y hy), fun y75 h75 hy75 => ?_⟩
        obtain ⟨rfl, hh⟩ := hy75
        rw [hh]
        clear hh
        refine Or.inl ⟨rfl, _, 2, 0, 0, _, Or.inl qi_11_231, ⟨rfl, rfl⟩, rfl, rfl, X_terms hg _ _ _, fun y84 h84 hy84 => ?_⟩
        obtain ⟨rfl, hh⟩ := hy84
        rw [hh]
        clear hh
        refine ⟨rfl, Nat.le_of_ble_eq_true rfl, Nat.le_of_ble_eq_true rfl, ?_⟩
        exact ⟨hw, x, y, hx, hy, ex, ey, rfl, hC, gro.rf⟩
def llineF (p : Nat → Bool) : Nat → Nat → Int32
  | 0, _ => -1
  | m + 1, i => if p i then nI i else llineF p m (i + 1)
theorem F_lineAt {g : qG} (hg : qOK g) (hT : qTHR g) {h : qH} {S : CS} (hC : CH h S) (hn : S.2.1.2.2.2.1 ≤ 10) (hl : lwf S.2.2.2.2.1.1) (dr se px : Int32) : qSpecX g 8 4 24 mX11_lineAt [.ref 0, .int dr, .int se, .int px] h (fun r h' => (wi 0 2 se && wi 0 999 px) = true ∧ ∃ x : Nat, x < S.2.1.2.2.2.1 ∧ dr = nI x ∧ r = some (.int (llineF (fun i => vless (fun z => vgift S.2.1.1 S.2.2.2.2.1.1.1 S.2.2.2.2.1.1.2.1 S.2.2.2.2.1.1.2.2 (nI S.2.2.2.1.2) x z 0) S.2.1.1 x se i px) 11 0)) ∧ CH h' S ∧ gro h h') (TX h S (fun k => (k = 0 ∧ ¬ wi 0 (nI S.2.1.2.2.2.1 - 1) dr = true) ∨ (k = 1 ∧ wi 0 (nI S.2.1.2.2.2.1 - 1) dr = true ∧ ¬ (wi 0 2 se && wi 0 999 px) = true))) := by
  refine qSpecX_runT "lineAt" hg hT mX11_lineAt_ok rfl rfl (Nat.le_of_ble_eq_true rfl) ?_
  intro run step stepT
  obtain ⟨va, vb, vc, vd, hV⟩ := hC.visit

  have loop : ∀ (x : Nat), x < S.2.1.2.2.2.1 → dr = nI x → (wi 0 2 se && wi 0 999 px) = true → ∀ (m i : Nat) (hX : qH), i + m = 11 → llineF (fun i => vless (fun z => vgift S.2.1.1 S.2.2.2.2.1.1.1 S.2.2.2.2.1.1.2.1 S.2.2.2.2.1.1.2.2 (nI S.2.2.2.1.2) x z 0) S.2.1.1 x se i px) m i = llineF (fun i => vless (fun z => vgift S.2.1.1 S.2.2.2.2.1.1.1 S.2.2.2.2.1.1.2.1 S.2.2.2.2.1.1.2.2 (nI S.2.2.2.1.2) x z 0) S.2.1.1 x se i px) 11 0 → CH hX S → gro h hX → run 37 [(4, .int (nI i)), (0, .ref 0), (1, .int dr), (2, .int se), (3, .int px)] [] hX 2 12 := by
    intro x hx ex hw m
    induction m with
    | zero =>
      intro i hX hi hst hCX hGX
      obtain ⟨va2, vb2, vc2, vd2, hVX⟩ := hCX.visit
      obtain rfl : i = 11 := by omega
      refine step.1 _ _ _ _ _ _ _ sgX11_lineAt_37_ok ?_
      refine ⟨fun c41 => ?_, fun c41 => absurd (by decide : (10 : Int32) < nI 11) c41⟩
      refine step.1 _ _ _ _ _ _ _ sgX11_lineAt_68_ok ?_
      refine ⟨.int, rfl, rfl, Nat.le_of_ble_eq_true rfl, Nat.le_of_ble_eq_true rfl, ?_⟩
      exact ⟨hw, x, hx, ex, by rw [← hst]; rfl, hCX, hGX⟩
    | succ m ih =>
      intro i hX hi hst hCX hGX
      obtain ⟨va2, vb2, vc2, vd2, hVX⟩ := hCX.visit
      refine step.1 _ _ _ _ _ _ _ sgX11_lineAt_37_ok ?_
      refine ⟨fun c41 => absurd c41 (nI_nlt (b := i) (a := 10) (by omega) (by decide)), fun c41 => ?_⟩
      refine ⟨by decide, _, _, hCX.obj, rfl, ?_⟩
      refine Or.inl ⟨rfl, _, 4, 0, 0, _, _, _, qi_11_270, ⟨rfl, rfl⟩, ⟨hVX, rfl⟩, rfl, rfl, (by rw [ex]; exact V_less hg (hCX.W hl) x (by omega) se i (by omega) px), fun y53 h53 hy53 => ?_⟩
      obtain ⟨rfl, hs9, hW9⟩ := hy53
      have hCW := hCX.up hs9 (fz_cons (cW hW9).1 (fz_cons (cW hW9).2.2 fz_nil))
      have hGW := hGX.tr (gro.of hs9 rfl)
      refine ⟨fun c56 => ?_, fun c56 => ?_⟩
      · have c56 : (fun i => vless (fun z => vgift S.2.1.1 S.2.2.2.2.1.1.1 S.2.2.2.2.1.1.2.1 S.2.2.2.2.1.1.2.2 (nI S.2.2.2.1.2) x z 0) S.2.1.1 x se i px) i = false := qb_0.mp c56
        refine step.1 _ _ _ _ _ _ _ sgX11_lineAt_62_ok ?_
        have e9 : llineF (fun i => vless (fun z => vgift S.2.1.1 S.2.2.2.2.1.1.1 S.2.2.2.2.1.1.2.1 S.2.2.2.2.1.1.2.2 (nI S.2.2.2.1.2) x z 0) S.2.1.1 x se i px) (m + 1) i = llineF (fun i => vless (fun z => vgift S.2.1.1 S.2.2.2.2.1.1.1 S.2.2.2.2.1.1.2.1 S.2.2.2.2.1.1.2.2 (nI S.2.2.2.1.2) x z 0) S.2.1.1 x se i px) m (i + 1) := if_neg (fun z => Bool.false_ne_true (c56.symm.trans z))
        have kk2 := ih (i + 1) h53 (by omega) (e9.symm.trans hst) hCW hGW
        rw [← nI_1] at kk2
        exact kk2
      · have c56 : (fun i => vless (fun z => vgift S.2.1.1 S.2.2.2.2.1.1.1 S.2.2.2.2.1.1.2.1 S.2.2.2.2.1.1.2.2 (nI S.2.2.2.1.2) x z 0) S.2.1.1 x se i px) i = true := qb_1.mp c56
        refine ⟨.int, rfl, rfl, Nat.le_of_ble_eq_true rfl, Nat.le_of_ble_eq_true rfl, ?_⟩
        have e9 : llineF (fun i => vless (fun z => vgift S.2.1.1 S.2.2.2.2.1.1.1 S.2.2.2.2.1.1.2.1 S.2.2.2.2.1.1.2.2 (nI S.2.2.2.1.2) x z 0) S.2.1.1 x se i px) (m + 1) i = nI i := if_pos c56
        exact ⟨hw, x, hx, ex, by rw [← hst]; exact congrArg (fun z => some (Value.int z)) e9.symm, hCW, hGW⟩
  refine step.1 _ _ _ _ _ _ _ sgX11_lineAt_0_ok ?_
  refine Or.inr ⟨rfl, _, 7, 1, 6, _, _, _, _, qi_11_196, ⟨rfl, rfl⟩, ⟨hC.obj, rfl⟩, rfl, rfl, X_needDoor hg hT hC _, fun y2 h2 hy2 => ?_, fun E h9 z => ⟨z.mono (fun k hk => Or.inl (⟨hk.1, hk.2⟩)), Nat.le_of_ble_eq_true rfl, Nat.le_of_ble_eq_true rfl⟩⟩
  obtain ⟨hD, rfl, hh⟩ := hy2
  rw [hh]
  clear hh
  refine Or.inl ⟨rfl, _, 1, 0, 0, _, Or.inl qi_11_147, ⟨rfl, rfl⟩, rfl, rfl, sp_within hg _ _ _, fun y9 h9 hy9 => ?_⟩
  obtain ⟨rfl, hh⟩ := hy9
  rw [hh]
  clear hh
  refine ⟨fun c12 => ?_, fun c12 => ?_⟩
  · have w12 : wi 0 2 se = false := qb_0.mp c12
    refine step.1 _ _ _ _ _ _ _ sgX11_lineAt_30_ok ?_
    refine step.1 _ _ _ _ _ _ _ sgX11_lineAt_31_ok ?_
    refine Or.inr ⟨rfl, _, 6, 1, 6, _, _, _, _, qi_11_151, ⟨rfl, rfl⟩, ⟨hC.obj, rfl⟩, rfl, rfl, X_need hg hT hC false, fun y31 h31 hy31 => ?_, fun E h9 z => ⟨z.mono (fun k hk => Or.inr (⟨hk.1, hD, fun z => by rw [w12] at z; cases z⟩)), Nat.le_of_ble_eq_true rfl, Nat.le_of_ble_eq_true rfl⟩⟩
    obtain ⟨hbad, rfl, hh⟩ := hy31
    rw [hh]
    clear hh
    cases hbad
    
  · have w12 : wi 0 2 se = true := qb_1.mp c12
    refine Or.inl ⟨rfl, _, 1, 0, 0, _, Or.inl qi_11_147, ⟨rfl, rfl⟩, rfl, rfl, sp_within hg _ _ _, fun y20 h20 hy20 => ?_⟩
    obtain ⟨rfl, hh⟩ := hy20
    rw [hh]
    clear hh
    refine ⟨fun c23 => ?_, fun c23 => ?_⟩
    · have w23 : wi 0 999 px = false := qb_0.mp c23
      refine step.1 _ _ _ _ _ _ _ sgX11_lineAt_30_ok ?_
      refine step.1 _ _ _ _ _ _ _ sgX11_lineAt_31_ok ?_
      refine Or.inr ⟨rfl, _, 6, 1, 6, _, _, _, _, qi_11_151, ⟨rfl, rfl⟩, ⟨hC.obj, rfl⟩, rfl, rfl, X_need hg hT hC false, fun y31 h31 hy31 => ?_, fun E h9 z => ⟨z.mono (fun k hk => Or.inr (⟨hk.1, hD, fun z => by rw [w12, w23] at z; cases z⟩)), Nat.le_of_ble_eq_true rfl, Nat.le_of_ble_eq_true rfl⟩⟩
      obtain ⟨hbad, rfl, hh⟩ := hy31
      rw [hh]
      clear hh
      cases hbad
      
    · have w23 : wi 0 999 px = true := qb_1.mp c23
      refine step.1 _ _ _ _ _ _ _ sgX11_lineAt_31_ok ?_
      refine Or.inr ⟨rfl, _, 6, 1, 6, _, _, _, _, qi_11_151, ⟨rfl, rfl⟩, ⟨hC.obj, rfl⟩, rfl, rfl, X_need hg hT hC true, fun y31 h31 hy31 => ?_, fun E h9 z => ⟨z.mono (fun k hk => Or.inr (⟨hk.1, hD, absurd rfl hk.2⟩)), Nat.le_of_ble_eq_true rfl, Nat.le_of_ble_eq_true rfl⟩⟩
      obtain ⟨hok, rfl, hh⟩ := hy31
      rw [hh]
      clear hh
      have hw : (wi 0 2 se && wi 0 999 px) = true := by rw [w12, w23]; rfl
      obtain ⟨x, hx, ex⟩ := wi_lt (by omega) hD
      exact loop x hx ex hw 11 0 h rfl rfl hC gro.rf

abbrev rgS : Type := Int32 × Int64 × Int64
def rgst (pe mi : Nat → Int64) (z : Nat) (s : rgS) : rgS := if s.2.1 < pe z ∨ (pe z = s.2.1 ∧ mi z < s.2.2) then (nI z, pe z, mi z) else s
theorem F_ring {g : qG} (hg : qOK g) (hT : qTHR g) {h : qH} {S : CS} (hC : CH h S) (hn : S.2.1.2.2.2.1 ≤ 10) (hl : lwf S.2.2.2.2.1.1) (dr nv : Int32) : qSpecX g 8 4 24 mX11_ring [.ref 0, .int dr, .int nv] h (fun r h' => wi 0 5 nv = true ∧ ∃ x y : Nat, x < S.2.1.2.2.2.1 ∧ y ≤ 5 ∧ dr = nI x ∧ nv = nI y ∧ r = some (.int (rgst (fun z => (vmean (fun z => vgift S.2.1.1 S.2.2.2.2.1.1.1 S.2.2.2.2.1.1.2.1 S.2.2.2.2.1.1.2.2 (nI S.2.2.2.1.2) x z 0) S.2.1.1 S.2.1.2.2.2.2.2.2.2.1 x z y).2.2.2.1) (fun z => ((vmean (fun z => vgift S.2.1.1 S.2.2.2.2.1.1.1 S.2.2.2.2.1.1.2.1 S.2.2.2.2.1.1.2.2 (nI S.2.2.2.1.2) x z 0) S.2.1.1 S.2.1.2.2.2.2.2.2.2.1 x z y).2.2.2.2 + (vmean (fun z => vgift S.2.1.1 S.2.2.2.2.1.1.1 S.2.2.2.2.1.1.2.1 S.2.2.2.2.1.1.2.2 (nI S.2.2.2.1.2) x z 0) S.2.1.1 S.2.1.2.2.2.2.2.2.2.1 x z y).2.2.1 * (S.2.1.1 (x * 10 + 9)).toInt64)) 2 (rgst (fun z => (vmean (fun z => vgift S.2.1.1 S.2.2.2.2.1.1.1 S.2.2.2.2.1.1.2.1 S.2.2.2.2.1.1.2.2 (nI S.2.2.2.1.2) x z 0) S.2.1.1 S.2.1.2.2.2.2.2.2.2.1 x z y).2.2.2.1) (fun z => ((vmean (fun z => vgift S.2.1.1 S.2.2.2.2.1.1.1 S.2.2.2.2.1.1.2.1 S.2.2.2.2.1.1.2.2 (nI S.2.2.2.1.2) x z 0) S.2.1.1 S.2.1.2.2.2.2.2.2.2.1 x z y).2.2.2.2 + (vmean (fun z => vgift S.2.1.1 S.2.2.2.2.1.1.1 S.2.2.2.2.1.1.2.1 S.2.2.2.2.1.1.2.2 (nI S.2.2.2.1.2) x z 0) S.2.1.1 S.2.1.2.2.2.2.2.2.2.1 x z y).2.2.1 * (S.2.1.1 (x * 10 + 9)).toInt64)) 1 (0, (fun z => (vmean (fun z => vgift S.2.1.1 S.2.2.2.2.1.1.1 S.2.2.2.2.1.1.2.1 S.2.2.2.2.1.1.2.2 (nI S.2.2.2.1.2) x z 0) S.2.1.1 S.2.1.2.2.2.2.2.2.2.1 x z y).2.2.2.1) 0, (fun z => ((vmean (fun z => vgift S.2.1.1 S.2.2.2.2.1.1.1 S.2.2.2.2.1.1.2.1 S.2.2.2.2.1.1.2.2 (nI S.2.2.2.1.2) x z 0) S.2.1.1 S.2.1.2.2.2.2.2.2.2.1 x z y).2.2.2.2 + (vmean (fun z => vgift S.2.1.1 S.2.2.2.2.1.1.1 S.2.2.2.2.1.1.2.1 S.2.2.2.2.1.1.2.2 (nI S.2.2.2.1.2) x z 0) S.2.1.1 S.2.1.2.2.2.2.2.2.2.1 x z y).2.2.1 * (S.2.1.1 (x * 10 + 9)).toInt64)) 0))).1) ∧ CH h' S ∧ gro h h') (TX h S (fun k => (k = 0 ∧ ¬ wi 0 (nI S.2.1.2.2.2.1 - 1) dr = true) ∨ (k = 1 ∧ wi 0 (nI S.2.1.2.2.2.1 - 1) dr = true ∧ ¬ wi 0 5 nv = true))) := by
  refine qSpecX_runT "ring" hg hT mX11_ring_ok rfl rfl (Nat.le_of_ble_eq_true rfl) ?_
  intro run step stepT
  obtain ⟨va, vb, vc, vd, hV⟩ := hC.visit

  have main : ∀ (x y : Nat), x < S.2.1.2.2.2.1 → y ≤ 5 → dr = nI x → nv = nI y → wi 0 5 nv = true → ∀ hX : qH, CH hX S → gro h hX → run 49 [(8, .int 1), (6, .long ((fun z => ((vmean (fun z => vgift S.2.1.1 S.2.2.2.2.1.1.1 S.2.2.2.2.1.1.2.1 S.2.2.2.2.1.1.2.2 (nI S.2.2.2.1.2) x z 0) S.2.1.1 S.2.1.2.2.2.2.2.2.2.1 x z y).2.2.2.2 + (vmean (fun z => vgift S.2.1.1 S.2.2.2.2.1.1.1 S.2.2.2.2.1.1.2.1 S.2.2.2.2.1.1.2.2 (nI S.2.2.2.1.2) x z 0) S.2.1.1 S.2.1.2.2.2.2.2.2.2.1 x z y).2.2.1 * (S.2.1.1 (x * 10 + 9)).toInt64)) 0)), (4, .long ((fun z => (vmean (fun z => vgift S.2.1.1 S.2.2.2.2.1.1.1 S.2.2.2.2.1.1.2.1 S.2.2.2.2.1.1.2.2 (nI S.2.2.2.1.2) x z 0) S.2.1.1 S.2.1.2.2.2.2.2.2.2.1 x z y).2.2.2.1) 0)), (3, .int 0), (0, .ref 0), (1, .int dr), (2, .int nv)] [] hX 2 12 := by
    intro x y hx hy ex ey hw hX hCX hGX
    have l3 : ∀ (s : rgS) (hX : qH), s = (rgst (fun z => (vmean (fun z => vgift S.2.1.1 S.2.2.2.2.1.1.1 S.2.2.2.2.1.1.2.1 S.2.2.2.2.1.1.2.2 (nI S.2.2.2.1.2) x z 0) S.2.1.1 S.2.1.2.2.2.2.2.2.2.1 x z y).2.2.2.1) (fun z => ((vmean (fun z => vgift S.2.1.1 S.2.2.2.2.1.1.1 S.2.2.2.2.1.1.2.1 S.2.2.2.2.1.1.2.2 (nI S.2.2.2.1.2) x z 0) S.2.1.1 S.2.1.2.2.2.2.2.2.2.1 x z y).2.2.2.2 + (vmean (fun z => vgift S.2.1.1 S.2.2.2.2.1.1.1 S.2.2.2.2.1.1.2.1 S.2.2.2.2.1.1.2.2 (nI S.2.2.2.1.2) x z 0) S.2.1.1 S.2.1.2.2.2.2.2.2.2.1 x z y).2.2.1 * (S.2.1.1 (x * 10 + 9)).toInt64)) 2 (rgst (fun z => (vmean (fun z => vgift S.2.1.1 S.2.2.2.2.1.1.1 S.2.2.2.2.1.1.2.1 S.2.2.2.2.1.1.2.2 (nI S.2.2.2.1.2) x z 0) S.2.1.1 S.2.1.2.2.2.2.2.2.2.1 x z y).2.2.2.1) (fun z => ((vmean (fun z => vgift S.2.1.1 S.2.2.2.2.1.1.1 S.2.2.2.2.1.1.2.1 S.2.2.2.2.1.1.2.2 (nI S.2.2.2.1.2) x z 0) S.2.1.1 S.2.1.2.2.2.2.2.2.2.1 x z y).2.2.2.2 + (vmean (fun z => vgift S.2.1.1 S.2.2.2.2.1.1.1 S.2.2.2.2.1.1.2.1 S.2.2.2.2.1.1.2.2 (nI S.2.2.2.1.2) x z 0) S.2.1.1 S.2.1.2.2.2.2.2.2.2.1 x z y).2.2.1 * (S.2.1.1 (x * 10 + 9)).toInt64)) 1 (0, (fun z => (vmean (fun z => vgift S.2.1.1 S.2.2.2.2.1.1.1 S.2.2.2.2.1.1.2.1 S.2.2.2.2.1.1.2.2 (nI S.2.2.2.1.2) x z 0) S.2.1.1 S.2.1.2.2.2.2.2.2.2.1 x z y).2.2.2.1) 0, (fun z => ((vmean (fun z => vgift S.2.1.1 S.2.2.2.2.1.1.1 S.2.2.2.2.1.1.2.1 S.2.2.2.2.1.1.2.2 (nI S.2.2.2.1.2) x z 0) S.2.1.1 S.2.1.2.2.2.2.2.2.2.1 x z y).2.2.2.2 + (vmean (fun z => vgift S.2.1.1 S.2.2.2.2.1.1.1 S.2.2.2.2.1.1.2.1 S.2.2.2.2.1.1.2.2 (nI S.2.2.2.1.2) x z 0) S.2.1.1 S.2.1.2.2.2.2.2.2.2.1 x z y).2.2.1 * (S.2.1.1 (x * 10 + 9)).toInt64)) 0))) → CH hX S → gro h hX → run 49 [(8, .int 3), (6, .long s.2.2), (4, .long s.2.1), (3, .int s.1), (0, .ref 0), (1, .int dr), (2, .int nv)] [] hX 2 12 := by
      intro s hX hst hCX hGX
      refine step.1 _ _ _ _ _ _ _ sgX11_ring_49_ok ?_
      refine ⟨fun c52 => ?_, fun c52 => absurd (by decide : (2 : Int32) < 3) c52⟩
      refine step.1 _ _ _ _ _ _ _ sgX11_ring_133_ok ?_
      refine ⟨.int, rfl, rfl, Nat.le_of_ble_eq_true rfl, Nat.le_of_ble_eq_true rfl, ?_⟩
      exact ⟨hw, x, y, hx, hy, ex, ey, by rw [← hst], hCX, hGX⟩
    have l2 : ∀ (s : rgS) (hX : qH), rgst (fun z => (vmean (fun z => vgift S.2.1.1 S.2.2.2.2.1.1.1 S.2.2.2.2.1.1.2.1 S.2.2.2.2.1.1.2.2 (nI S.2.2.2.1.2) x z 0) S.2.1.1 S.2.1.2.2.2.2.2.2.2.1 x z y).2.2.2.1) (fun z => ((vmean (fun z => vgift S.2.1.1 S.2.2.2.2.1.1.1 S.2.2.2.2.1.1.2.1 S.2.2.2.2.1.1.2.2 (nI S.2.2.2.1.2) x z 0) S.2.1.1 S.2.1.2.2.2.2.2.2.2.1 x z y).2.2.2.2 + (vmean (fun z => vgift S.2.1.1 S.2.2.2.2.1.1.1 S.2.2.2.2.1.1.2.1 S.2.2.2.2.1.1.2.2 (nI S.2.2.2.1.2) x z 0) S.2.1.1 S.2.1.2.2.2.2.2.2.2.1 x z y).2.2.1 * (S.2.1.1 (x * 10 + 9)).toInt64)) 2 s = (rgst (fun z => (vmean (fun z => vgift S.2.1.1 S.2.2.2.2.1.1.1 S.2.2.2.2.1.1.2.1 S.2.2.2.2.1.1.2.2 (nI S.2.2.2.1.2) x z 0) S.2.1.1 S.2.1.2.2.2.2.2.2.2.1 x z y).2.2.2.1) (fun z => ((vmean (fun z => vgift S.2.1.1 S.2.2.2.2.1.1.1 S.2.2.2.2.1.1.2.1 S.2.2.2.2.1.1.2.2 (nI S.2.2.2.1.2) x z 0) S.2.1.1 S.2.1.2.2.2.2.2.2.2.1 x z y).2.2.2.2 + (vmean (fun z => vgift S.2.1.1 S.2.2.2.2.1.1.1 S.2.2.2.2.1.1.2.1 S.2.2.2.2.1.1.2.2 (nI S.2.2.2.1.2) x z 0) S.2.1.1 S.2.1.2.2.2.2.2.2.2.1 x z y).2.2.1 * (S.2.1.1 (x * 10 + 9)).toInt64)) 2 (rgst (fun z => (vmean (fun z => vgift S.2.1.1 S.2.2.2.2.1.1.1 S.2.2.2.2.1.1.2.1 S.2.2.2.2.1.1.2.2 (nI S.2.2.2.1.2) x z 0) S.2.1.1 S.2.1.2.2.2.2.2.2.2.1 x z y).2.2.2.1) (fun z => ((vmean (fun z => vgift S.2.1.1 S.2.2.2.2.1.1.1 S.2.2.2.2.1.1.2.1 S.2.2.2.2.1.1.2.2 (nI S.2.2.2.1.2) x z 0) S.2.1.1 S.2.1.2.2.2.2.2.2.2.1 x z y).2.2.2.2 + (vmean (fun z => vgift S.2.1.1 S.2.2.2.2.1.1.1 S.2.2.2.2.1.1.2.1 S.2.2.2.2.1.1.2.2 (nI S.2.2.2.1.2) x z 0) S.2.1.1 S.2.1.2.2.2.2.2.2.2.1 x z y).2.2.1 * (S.2.1.1 (x * 10 + 9)).toInt64)) 1 (0, (fun z => (vmean (fun z => vgift S.2.1.1 S.2.2.2.2.1.1.1 S.2.2.2.2.1.1.2.1 S.2.2.2.2.1.1.2.2 (nI S.2.2.2.1.2) x z 0) S.2.1.1 S.2.1.2.2.2.2.2.2.2.1 x z y).2.2.2.1) 0, (fun z => ((vmean (fun z => vgift S.2.1.1 S.2.2.2.2.1.1.1 S.2.2.2.2.1.1.2.1 S.2.2.2.2.1.1.2.2 (nI S.2.2.2.1.2) x z 0) S.2.1.1 S.2.1.2.2.2.2.2.2.2.1 x z y).2.2.2.2 + (vmean (fun z => vgift S.2.1.1 S.2.2.2.2.1.1.1 S.2.2.2.2.1.1.2.1 S.2.2.2.2.1.1.2.2 (nI S.2.2.2.1.2) x z 0) S.2.1.1 S.2.1.2.2.2.2.2.2.2.1 x z y).2.2.1 * (S.2.1.1 (x * 10 + 9)).toInt64)) 0))) → CH hX S → gro h hX → run 49 [(8, .int 2), (6, .long s.2.2), (4, .long s.2.1), (3, .int s.1), (0, .ref 0), (1, .int dr), (2, .int nv)] [] hX 2 12 := by
      intro s hX hst hCX hGX
      obtain ⟨va2, vb2, vc2, vd2, hVX⟩ := hCX.visit
      refine step.1 _ _ _ _ _ _ _ sgX11_ring_49_ok ?_
      refine ⟨fun c52 => absurd c52 (by decide), fun c52 => ?_⟩
      refine ⟨by decide, _, _, hCX.obj, rfl, ?_⟩
      refine Or.inl ⟨rfl, _, 4, 0, 0, _, _, _, qi_11_221, ⟨rfl, rfl⟩, ⟨hVX, rfl⟩, rfl, rfl, (by rw [ex, ey]; exact V_reckon hg (hCX.W hl) x y 2 (by omega) hy (by omega) 0), fun y64 h64 hy64 => ?_⟩
      obtain ⟨rfl, hs9, hW9, hV9⟩ := hy64
      have hCW := hCX.up hs9 (fz_cons (cW hW9).1 (fz_cons (cW hW9).2.1 (fz_cons (cW hW9).2.2 fz_nil)))
      have hGW := hGX.tr (gro.of hs9 rfl)
      refine ⟨by decide, _, _, hCW.obj, rfl, ?_⟩
      refine ⟨by decide, _, _, hV9, rfl, ?_⟩
      refine ⟨fun c77 => ?_, fun c77 => ?_⟩
      · have c77 : s.2.1 < ((fun z => (vmean (fun z => vgift S.2.1.1 S.2.2.2.2.1.1.1 S.2.2.2.2.1.1.2.1 S.2.2.2.2.1.1.2.2 (nI S.2.2.2.1.2) x z 0) S.2.1.1 S.2.1.2.2.2.2.2.2.2.1 x z y).2.2.2.1) 2) := (lgc_gt _ _).mp c77
        have hpos : s.2.1 < ((fun z => (vmean (fun z => vgift S.2.1.1 S.2.2.2.2.1.1.1 S.2.2.2.2.1.1.2.1 S.2.2.2.2.1.1.2.2 (nI S.2.2.2.1.2) x z 0) S.2.1.1 S.2.1.2.2.2.2.2.2.2.1 x z y).2.2.2.1) 2) ∨ (((fun z => (vmean (fun z => vgift S.2.1.1 S.2.2.2.2.1.1.1 S.2.2.2.2.1.1.2.1 S.2.2.2.2.1.1.2.2 (nI S.2.2.2.1.2) x z 0) S.2.1.1 S.2.1.2.2.2.2.2.2.2.1 x z y).2.2.2.1) 2) = s.2.1 ∧ ((fun z => ((vmean (fun z => vgift S.2.1.1 S.2.2.2.2.1.1.1 S.2.2.2.2.1.1.2.1 S.2.2.2.2.1.1.2.2 (nI S.2.2.2.1.2) x z 0) S.2.1.1 S.2.1.2.2.2.2.2.2.2.1 x z y).2.2.2.2 + (vmean (fun z => vgift S.2.1.1 S.2.2.2.2.1.1.1 S.2.2.2.2.1.1.2.1 S.2.2.2.2.1.1.2.2 (nI S.2.2.2.1.2) x z 0) S.2.1.1 S.2.1.2.2.2.2.2.2.2.1 x z y).2.2.1 * (S.2.1.1 (x * 10 + 9)).toInt64)) 2) < s.2.2) := Or.inl c77
        refine step.1 _ _ _ _ _ _ _ sgX11_ring_106_ok ?_
        refine ⟨by decide, _, _, hCW.obj, rfl, ?_⟩
        refine ⟨by decide, _, _, hV9, rfl, ?_⟩
        refine ⟨by decide, _, _, hCW.obj, rfl, ?_⟩
        refine ⟨by decide, _, _, hV9, rfl, ?_⟩
        refine step.1 _ _ _ _ _ _ _ sgX11_ring_127_ok ?_
        have e9 : rgst (fun z => (vmean (fun z => vgift S.2.1.1 S.2.2.2.2.1.1.1 S.2.2.2.2.1.1.2.1 S.2.2.2.2.1.1.2.2 (nI S.2.2.2.1.2) x z 0) S.2.1.1 S.2.1.2.2.2.2.2.2.2.1 x z y).2.2.2.1) (fun z => ((vmean (fun z => vgift S.2.1.1 S.2.2.2.2.1.1.1 S.2.2.2.2.1.1.2.1 S.2.2.2.2.1.1.2.2 (nI S.2.2.2.1.2) x z 0) S.2.1.1 S.2.1.2.2.2.2.2.2.2.1 x z y).2.2.2.2 + (vmean (fun z => vgift S.2.1.1 S.2.2.2.2.1.1.1 S.2.2.2.2.1.1.2.1 S.2.2.2.2.1.1.2.2 (nI S.2.2.2.1.2) x z 0) S.2.1.1 S.2.1.2.2.2.2.2.2.2.1 x z y).2.2.1 * (S.2.1.1 (x * 10 + 9)).toInt64)) 2 s = (nI 2, ((fun z => (vmean (fun z => vgift S.2.1.1 S.2.2.2.2.1.1.1 S.2.2.2.2.1.1.2.1 S.2.2.2.2.1.1.2.2 (nI S.2.2.2.1.2) x z 0) S.2.1.1 S.2.1.2.2.2.2.2.2.2.1 x z y).2.2.2.1) 2), ((fun z => ((vmean (fun z => vgift S.2.1.1 S.2.2.2.2.1.1.1 S.2.2.2.2.1.1.2.1 S.2.2.2.2.1.1.2.2 (nI S.2.2.2.1.2) x z 0) S.2.1.1 S.2.1.2.2.2.2.2.2.2.1 x z y).2.2.2.2 + (vmean (fun z => vgift S.2.1.1 S.2.2.2.2.1.1.1 S.2.2.2.2.1.1.2.1 S.2.2.2.2.1.1.2.2 (nI S.2.2.2.1.2) x z 0) S.2.1.1 S.2.1.2.2.2.2.2.2.2.1 x z y).2.2.1 * (S.2.1.1 (x * 10 + 9)).toInt64)) 2)) := if_pos hpos
        exact l3 (nI 2, ((fun z => (vmean (fun z => vgift S.2.1.1 S.2.2.2.2.1.1.1 S.2.2.2.2.1.1.2.1 S.2.2.2.2.1.1.2.2 (nI S.2.2.2.1.2) x z 0) S.2.1.1 S.2.1.2.2.2.2.2.2.2.1 x z y).2.2.2.1) 2), ((fun z => ((vmean (fun z => vgift S.2.1.1 S.2.2.2.2.1.1.1 S.2.2.2.2.1.1.2.1 S.2.2.2.2.1.1.2.2 (nI S.2.2.2.1.2) x z 0) S.2.1.1 S.2.1.2.2.2.2.2.2.2.1 x z y).2.2.2.2 + (vmean (fun z => vgift S.2.1.1 S.2.2.2.2.1.1.1 S.2.2.2.2.1.1.2.1 S.2.2.2.2.1.1.2.2 (nI S.2.2.2.1.2) x z 0) S.2.1.1 S.2.1.2.2.2.2.2.2.2.1 x z y).2.2.1 * (S.2.1.1 (x * 10 + 9)).toInt64)) 2)) h64 (by rw [← hst, e9]) hCW hGW
      · have c77 : ¬ s.2.1 < ((fun z => (vmean (fun z => vgift S.2.1.1 S.2.2.2.2.1.1.1 S.2.2.2.2.1.1.2.1 S.2.2.2.2.1.1.2.2 (nI S.2.2.2.1.2) x z 0) S.2.1.1 S.2.1.2.2.2.2.2.2.2.1 x z y).2.2.2.1) 2) := fun z => c77 ((lgc_gt _ _).mpr z)
        refine ⟨by decide, _, _, hCW.obj, rfl, ?_⟩
        refine ⟨by decide, _, _, hV9, rfl, ?_⟩
        refine ⟨fun c90 => ?_, fun c90 => ?_⟩
        · have c90 : ¬ ((fun z => (vmean (fun z => vgift S.2.1.1 S.2.2.2.2.1.1.1 S.2.2.2.2.1.1.2.1 S.2.2.2.2.1.1.2.2 (nI S.2.2.2.1.2) x z 0) S.2.1.1 S.2.1.2.2.2.2.2.2.2.1 x z y).2.2.2.1) 2) = s.2.1 := fun z => c90 ((lgc_eq _ _).mpr z)
          have hneg : ¬ (s.2.1 < ((fun z => (vmean (fun z => vgift S.2.1.1 S.2.2.2.2.1.1.1 S.2.2.2.2.1.1.2.1 S.2.2.2.2.1.1.2.2 (nI S.2.2.2.1.2) x z 0) S.2.1.1 S.2.1.2.2.2.2.2.2.2.1 x z y).2.2.2.1) 2) ∨ (((fun z => (vmean (fun z => vgift S.2.1.1 S.2.2.2.2.1.1.1 S.2.2.2.2.1.1.2.1 S.2.2.2.2.1.1.2.2 (nI S.2.2.2.1.2) x z 0) S.2.1.1 S.2.1.2.2.2.2.2.2.2.1 x z y).2.2.2.1) 2) = s.2.1 ∧ ((fun z => ((vmean (fun z => vgift S.2.1.1 S.2.2.2.2.1.1.1 S.2.2.2.2.1.1.2.1 S.2.2.2.2.1.1.2.2 (nI S.2.2.2.1.2) x z 0) S.2.1.1 S.2.1.2.2.2.2.2.2.2.1 x z y).2.2.2.2 + (vmean (fun z => vgift S.2.1.1 S.2.2.2.2.1.1.1 S.2.2.2.2.1.1.2.1 S.2.2.2.2.1.1.2.2 (nI S.2.2.2.1.2) x z 0) S.2.1.1 S.2.1.2.2.2.2.2.2.2.1 x z y).2.2.1 * (S.2.1.1 (x * 10 + 9)).toInt64)) 2) < s.2.2)) := fun z => z.elim c77 (fun z => c90 z.1)
          refine step.1 _ _ _ _ _ _ _ sgX11_ring_127_ok ?_
          have e9 : rgst (fun z => (vmean (fun z => vgift S.2.1.1 S.2.2.2.2.1.1.1 S.2.2.2.2.1.1.2.1 S.2.2.2.2.1.1.2.2 (nI S.2.2.2.1.2) x z 0) S.2.1.1 S.2.1.2.2.2.2.2.2.2.1 x z y).2.2.2.1) (fun z => ((vmean (fun z => vgift S.2.1.1 S.2.2.2.2.1.1.1 S.2.2.2.2.1.1.2.1 S.2.2.2.2.1.1.2.2 (nI S.2.2.2.1.2) x z 0) S.2.1.1 S.2.1.2.2.2.2.2.2.2.1 x z y).2.2.2.2 + (vmean (fun z => vgift S.2.1.1 S.2.2.2.2.1.1.1 S.2.2.2.2.1.1.2.1 S.2.2.2.2.1.1.2.2 (nI S.2.2.2.1.2) x z 0) S.2.1.1 S.2.1.2.2.2.2.2.2.2.1 x z y).2.2.1 * (S.2.1.1 (x * 10 + 9)).toInt64)) 2 s = s := if_neg hneg
          exact l3 s h64 (by rw [← hst, e9]) hCW hGW
        · have c90 : ((fun z => (vmean (fun z => vgift S.2.1.1 S.2.2.2.2.1.1.1 S.2.2.2.2.1.1.2.1 S.2.2.2.2.1.1.2.2 (nI S.2.2.2.1.2) x z 0) S.2.1.1 S.2.1.2.2.2.2.2.2.2.1 x z y).2.2.2.1) 2) = s.2.1 := (lgc_eq _ _).mp c90
          refine ⟨by decide, _, _, hCW.obj, rfl, ?_⟩
          refine ⟨by decide, _, _, hV9, rfl, ?_⟩
          refine ⟨fun c103 => ?_, fun c103 => ?_⟩
          · have c103 : ¬ ((fun z => ((vmean (fun z => vgift S.2.1.1 S.2.2.2.2.1.1.1 S.2.2.2.2.1.1.2.1 S.2.2.2.2.1.1.2.2 (nI S.2.2.2.1.2) x z 0) S.2.1.1 S.2.1.2.2.2.2.2.2.2.1 x z y).2.2.2.2 + (vmean (fun z => vgift S.2.1.1 S.2.2.2.2.1.1.1 S.2.2.2.2.1.1.2.1 S.2.2.2.2.1.1.2.2 (nI S.2.2.2.1.2) x z 0) S.2.1.1 S.2.1.2.2.2.2.2.2.2.1 x z y).2.2.1 * (S.2.1.1 (x * 10 + 9)).toInt64)) 2) < s.2.2 := Int64.not_lt.mpr ((lgc_ge _ _).mp c103)
            have hneg : ¬ (s.2.1 < ((fun z => (vmean (fun z => vgift S.2.1.1 S.2.2.2.2.1.1.1 S.2.2.2.2.1.1.2.1 S.2.2.2.2.1.1.2.2 (nI S.2.2.2.1.2) x z 0) S.2.1.1 S.2.1.2.2.2.2.2.2.2.1 x z y).2.2.2.1) 2) ∨ (((fun z => (vmean (fun z => vgift S.2.1.1 S.2.2.2.2.1.1.1 S.2.2.2.2.1.1.2.1 S.2.2.2.2.1.1.2.2 (nI S.2.2.2.1.2) x z 0) S.2.1.1 S.2.1.2.2.2.2.2.2.2.1 x z y).2.2.2.1) 2) = s.2.1 ∧ ((fun z => ((vmean (fun z => vgift S.2.1.1 S.2.2.2.2.1.1.1 S.2.2.2.2.1.1.2.1 S.2.2.2.2.1.1.2.2 (nI S.2.2.2.1.2) x z 0) S.2.1.1 S.2.1.2.2.2.2.2.2.2.1 x z y).2.2.2.2 + (vmean (fun z => vgift S.2.1.1 S.2.2.2.2.1.1.1 S.2.2.2.2.1.1.2.1 S.2.2.2.2.1.1.2.2 (nI S.2.2.2.1.2) x z 0) S.2.1.1 S.2.1.2.2.2.2.2.2.2.1 x z y).2.2.1 * (S.2.1.1 (x * 10 + 9)).toInt64)) 2) < s.2.2)) := fun z => z.elim c77 (fun z => c103 z.2)
            refine step.1 _ _ _ _ _ _ _ sgX11_ring_127_ok ?_
            have e9 : rgst (fun z => (vmean (fun z => vgift S.2.1.1 S.2.2.2.2.1.1.1 S.2.2.2.2.1.1.2.1 S.2.2.2.2.1.1.2.2 (nI S.2.2.2.1.2) x z 0) S.2.1.1 S.2.1.2.2.2.2.2.2.2.1 x z y).2.2.2.1) (fun z => ((vmean (fun z => vgift S.2.1.1 S.2.2.2.2.1.1.1 S.2.2.2.2.1.1.2.1 S.2.2.2.2.1.1.2.2 (nI S.2.2.2.1.2) x z 0) S.2.1.1 S.2.1.2.2.2.2.2.2.2.1 x z y).2.2.2.2 + (vmean (fun z => vgift S.2.1.1 S.2.2.2.2.1.1.1 S.2.2.2.2.1.1.2.1 S.2.2.2.2.1.1.2.2 (nI S.2.2.2.1.2) x z 0) S.2.1.1 S.2.1.2.2.2.2.2.2.2.1 x z y).2.2.1 * (S.2.1.1 (x * 10 + 9)).toInt64)) 2 s = s := if_neg hneg
            exact l3 s h64 (by rw [← hst, e9]) hCW hGW
          · have c103 : ((fun z => ((vmean (fun z => vgift S.2.1.1 S.2.2.2.2.1.1.1 S.2.2.2.2.1.1.2.1 S.2.2.2.2.1.1.2.2 (nI S.2.2.2.1.2) x z 0) S.2.1.1 S.2.1.2.2.2.2.2.2.2.1 x z y).2.2.2.2 + (vmean (fun z => vgift S.2.1.1 S.2.2.2.2.1.1.1 S.2.2.2.2.1.1.2.1 S.2.2.2.2.1.1.2.2 (nI S.2.2.2.1.2) x z 0) S.2.1.1 S.2.1.2.2.2.2.2.2.2.1 x z y).2.2.1 * (S.2.1.1 (x * 10 + 9)).toInt64)) 2) < s.2.2 := Int64.not_le.mp (fun z => c103 ((lgc_ge _ _).mpr z))
            have hpos : s.2.1 < ((fun z => (vmean (fun z => vgift S.2.1.1 S.2.2.2.2.1.1.1 S.2.2.2.2.1.1.2.1 S.2.2.2.2.1.1.2.2 (nI S.2.2.2.1.2) x z 0) S.2.1.1 S.2.1.2.2.2.2.2.2.2.1 x z y).2.2.2.1) 2) ∨ (((fun z => (vmean (fun z => vgift S.2.1.1 S.2.2.2.2.1.1.1 S.2.2.2.2.1.1.2.1 S.2.2.2.2.1.1.2.2 (nI S.2.2.2.1.2) x z 0) S.2.1.1 S.2.1.2.2.2.2.2.2.2.1 x z y).2.2.2.1) 2) = s.2.1 ∧ ((fun z => ((vmean (fun z => vgift S.2.1.1 S.2.2.2.2.1.1.1 S.2.2.2.2.1.1.2.1 S.2.2.2.2.1.1.2.2 (nI S.2.2.2.1.2) x z 0) S.2.1.1 S.2.1.2.2.2.2.2.2.2.1 x z y).2.2.2.2 + (vmean (fun z => vgift S.2.1.1 S.2.2.2.2.1.1.1 S.2.2.2.2.1.1.2.1 S.2.2.2.2.1.1.2.2 (nI S.2.2.2.1.2) x z 0) S.2.1.1 S.2.1.2.2.2.2.2.2.2.1 x z y).2.2.1 * (S.2.1.1 (x * 10 + 9)).toInt64)) 2) < s.2.2) := Or.inr ⟨c90, c103⟩
            refine step.1 _ _ _ _ _ _ _ sgX11_ring_106_ok ?_
            refine ⟨by decide, _, _, hCW.obj, rfl, ?_⟩
            refine ⟨by decide, _, _, hV9, rfl, ?_⟩
            refine ⟨by decide, _, _, hCW.obj, rfl, ?_⟩
            refine ⟨by decide, _, _, hV9, rfl, ?_⟩
            refine step.1 _ _ _ _ _ _ _ sgX11_ring_127_ok ?_
            have e9 : rgst (fun z => (vmean (fun z => vgift S.2.1.1 S.2.2.2.2.1.1.1 S.2.2.2.2.1.1.2.1 S.2.2.2.2.1.1.2.2 (nI S.2.2.2.1.2) x z 0) S.2.1.1 S.2.1.2.2.2.2.2.2.2.1 x z y).2.2.2.1) (fun z => ((vmean (fun z => vgift S.2.1.1 S.2.2.2.2.1.1.1 S.2.2.2.2.1.1.2.1 S.2.2.2.2.1.1.2.2 (nI S.2.2.2.1.2) x z 0) S.2.1.1 S.2.1.2.2.2.2.2.2.2.1 x z y).2.2.2.2 + (vmean (fun z => vgift S.2.1.1 S.2.2.2.2.1.1.1 S.2.2.2.2.1.1.2.1 S.2.2.2.2.1.1.2.2 (nI S.2.2.2.1.2) x z 0) S.2.1.1 S.2.1.2.2.2.2.2.2.2.1 x z y).2.2.1 * (S.2.1.1 (x * 10 + 9)).toInt64)) 2 s = (nI 2, ((fun z => (vmean (fun z => vgift S.2.1.1 S.2.2.2.2.1.1.1 S.2.2.2.2.1.1.2.1 S.2.2.2.2.1.1.2.2 (nI S.2.2.2.1.2) x z 0) S.2.1.1 S.2.1.2.2.2.2.2.2.2.1 x z y).2.2.2.1) 2), ((fun z => ((vmean (fun z => vgift S.2.1.1 S.2.2.2.2.1.1.1 S.2.2.2.2.1.1.2.1 S.2.2.2.2.1.1.2.2 (nI S.2.2.2.1.2) x z 0) S.2.1.1 S.2.1.2.2.2.2.2.2.2.1 x z y).2.2.2.2 + (vmean (fun z => vgift S.2.1.1 S.2.2.2.2.1.1.1 S.2.2.2.2.1.1.2.1 S.2.2.2.2.1.1.2.2 (nI S.2.2.2.1.2) x z 0) S.2.1.1 S.2.1.2.2.2.2.2.2.2.1 x z y).2.2.1 * (S.2.1.1 (x * 10 + 9)).toInt64)) 2)) := if_pos hpos
            exact l3 (nI 2, ((fun z => (vmean (fun z => vgift S.2.1.1 S.2.2.2.2.1.1.1 S.2.2.2.2.1.1.2.1 S.2.2.2.2.1.1.2.2 (nI S.2.2.2.1.2) x z 0) S.2.1.1 S.2.1.2.2.2.2.2.2.2.1 x z y).2.2.2.1) 2), ((fun z => ((vmean (fun z => vgift S.2.1.1 S.2.2.2.2.1.1.1 S.2.2.2.2.1.1.2.1 S.2.2.2.2.1.1.2.2 (nI S.2.2.2.1.2) x z 0) S.2.1.1 S.2.1.2.2.2.2.2.2.2.1 x z y).2.2.2.2 + (vmean (fun z => vgift S.2.1.1 S.2.2.2.2.1.1.1 S.2.2.2.2.1.1.2.1 S.2.2.2.2.1.1.2.2 (nI S.2.2.2.1.2) x z 0) S.2.1.1 S.2.1.2.2.2.2.2.2.2.1 x z y).2.2.1 * (S.2.1.1 (x * 10 + 9)).toInt64)) 2)) h64 (by rw [← hst, e9]) hCW hGW
    have l1 : ∀ (s : rgS) (hX : qH), rgst (fun z => (vmean (fun z => vgift S.2.1.1 S.2.2.2.2.1.1.1 S.2.2.2.2.1.1.2.1 S.2.2.2.2.1.1.2.2 (nI S.2.2.2.1.2) x z 0) S.2.1.1 S.2.1.2.2.2.2.2.2.2.1 x z y).2.2.2.1) (fun z => ((vmean (fun z => vgift S.2.1.1 S.2.2.2.2.1.1.1 S.2.2.2.2.1.1.2.1 S.2.2.2.2.1.1.2.2 (nI S.2.2.2.1.2) x z 0) S.2.1.1 S.2.1.2.2.2.2.2.2.2.1 x z y).2.2.2.2 + (vmean (fun z => vgift S.2.1.1 S.2.2.2.2.1.1.1 S.2.2.2.2.1.1.2.1 S.2.2.2.2.1.1.2.2 (nI S.2.2.2.1.2) x z 0) S.2.1.1 S.2.1.2.2.2.2.2.2.2.1 x z y).2.2.1 * (S.2.1.1 (x * 10 + 9)).toInt64)) 2 (rgst (fun z => (vmean (fun z => vgift S.2.1.1 S.2.2.2.2.1.1.1 S.2.2.2.2.1.1.2.1 S.2.2.2.2.1.1.2.2 (nI S.2.2.2.1.2) x z 0) S.2.1.1 S.2.1.2.2.2.2.2.2.2.1 x z y).2.2.2.1) (fun z => ((vmean (fun z => vgift S.2.1.1 S.2.2.2.2.1.1.1 S.2.2.2.2.1.1.2.1 S.2.2.2.2.1.1.2.2 (nI S.2.2.2.1.2) x z 0) S.2.1.1 S.2.1.2.2.2.2.2.2.2.1 x z y).2.2.2.2 + (vmean (fun z => vgift S.2.1.1 S.2.2.2.2.1.1.1 S.2.2.2.2.1.1.2.1 S.2.2.2.2.1.1.2.2 (nI S.2.2.2.1.2) x z 0) S.2.1.1 S.2.1.2.2.2.2.2.2.2.1 x z y).2.2.1 * (S.2.1.1 (x * 10 + 9)).toInt64)) 1 s) = (rgst (fun z => (vmean (fun z => vgift S.2.1.1 S.2.2.2.2.1.1.1 S.2.2.2.2.1.1.2.1 S.2.2.2.2.1.1.2.2 (nI S.2.2.2.1.2) x z 0) S.2.1.1 S.2.1.2.2.2.2.2.2.2.1 x z y).2.2.2.1) (fun z => ((vmean (fun z => vgift S.2.1.1 S.2.2.2.2.1.1.1 S.2.2.2.2.1.1.2.1 S.2.2.2.2.1.1.2.2 (nI S.2.2.2.1.2) x z 0) S.2.1.1 S.2.1.2.2.2.2.2.2.2.1 x z y).2.2.2.2 + (vmean (fun z => vgift S.2.1.1 S.2.2.2.2.1.1.1 S.2.2.2.2.1.1.2.1 S.2.2.2.2.1.1.2.2 (nI S.2.2.2.1.2) x z 0) S.2.1.1 S.2.1.2.2.2.2.2.2.2.1 x z y).2.2.1 * (S.2.1.1 (x * 10 + 9)).toInt64)) 2 (rgst (fun z => (vmean (fun z => vgift S.2.1.1 S.2.2.2.2.1.1.1 S.2.2.2.2.1.1.2.1 S.2.2.2.2.1.1.2.2 (nI S.2.2.2.1.2) x z 0) S.2.1.1 S.2.1.2.2.2.2.2.2.2.1 x z y).2.2.2.1) (fun z => ((vmean (fun z => vgift S.2.1.1 S.2.2.2.2.1.1.1 S.2.2.2.2.1.1.2.1 S.2.2.2.2.1.1.2.2 (nI S.2.2.2.1.2) x z 0) S.2.1.1 S.2.1.2.2.2.2.2.2.2.1 x z y).2.2.2.2 + (vmean (fun z => vgift S.2.1.1 S.2.2.2.2.1.1.1 S.2.2.2.2.1.1.2.1 S.2.2.2.2.1.1.2.2 (nI S.2.2.2.1.2) x z 0) S.2.1.1 S.2.1.2.2.2.2.2.2.2.1 x z y).2.2.1 * (S.2.1.1 (x * 10 + 9)).toInt64)) 1 (0, (fun z => (vmean (fun z => vgift S.2.1.1 S.2.2.2.2.1.1.1 S.2.2.2.2.1.1.2.1 S.2.2.2.2.1.1.2.2 (nI S.2.2.2.1.2) x z 0) S.2.1.1 S.2.1.2.2.2.2.2.2.2.1 x z y).2.2.2.1) 0, (fun z => ((vmean (fun z => vgift S.2.1.1 S.2.2.2.2.1.1.1 S.2.2.2.2.1.1.2.1 S.2.2.2.2.1.1.2.2 (nI S.2.2.2.1.2) x z 0) S.2.1.1 S.2.1.2.2.2.2.2.2.2.1 x z y).2.2.2.2 + (vmean (fun z => vgift S.2.1.1 S.2.2.2.2.1.1.1 S.2.2.2.2.1.1.2.1 S.2.2.2.2.1.1.2.2 (nI S.2.2.2.1.2) x z 0) S.2.1.1 S.2.1.2.2.2.2.2.2.2.1 x z y).2.2.1 * (S.2.1.1 (x * 10 + 9)).toInt64)) 0))) → CH hX S → gro h hX → run 49 [(8, .int 1), (6, .long s.2.2), (4, .long s.2.1), (3, .int s.1), (0, .ref 0), (1, .int dr), (2, .int nv)] [] hX 2 12 := by
      intro s hX hst hCX hGX
      obtain ⟨va2, vb2, vc2, vd2, hVX⟩ := hCX.visit
      refine step.1 _ _ _ _ _ _ _ sgX11_ring_49_ok ?_
      refine ⟨fun c52 => absurd c52 (by decide), fun c52 => ?_⟩
      refine ⟨by decide, _, _, hCX.obj, rfl, ?_⟩
      refine Or.inl ⟨rfl, _, 4, 0, 0, _, _, _, qi_11_221, ⟨rfl, rfl⟩, ⟨hVX, rfl⟩, rfl, rfl, (by rw [ex, ey]; exact V_reckon hg (hCX.W hl) x y 1 (by omega) hy (by omega) 0), fun y64 h64 hy64 => ?_⟩
      obtain ⟨rfl, hs9, hW9, hV9⟩ := hy64
      have hCW := hCX.up hs9 (fz_cons (cW hW9).1 (fz_cons (cW hW9).2.1 (fz_cons (cW hW9).2.2 fz_nil)))
      have hGW := hGX.tr (gro.of hs9 rfl)
      refine ⟨by decide, _, _, hCW.obj, rfl, ?_⟩
      refine ⟨by decide, _, _, hV9, rfl, ?_⟩
      refine ⟨fun c77 => ?_, fun c77 => ?_⟩
      · have c77 : s.2.1 < ((fun z => (vmean (fun z => vgift S.2.1.1 S.2.2.2.2.1.1.1 S.2.2.2.2.1.1.2.1 S.2.2.2.2.1.1.2.2 (nI S.2.2.2.1.2) x z 0) S.2.1.1 S.2.1.2.2.2.2.2.2.2.1 x z y).2.2.2.1) 1) := (lgc_gt _ _).mp c77
        have hpos : s.2.1 < ((fun z => (vmean (fun z => vgift S.2.1.1 S.2.2.2.2.1.1.1 S.2.2.2.2.1.1.2.1 S.2.2.2.2.1.1.2.2 (nI S.2.2.2.1.2) x z 0) S.2.1.1 S.2.1.2.2.2.2.2.2.2.1 x z y).2.2.2.1) 1) ∨ (((fun z => (vmean (fun z => vgift S.2.1.1 S.2.2.2.2.1.1.1 S.2.2.2.2.1.1.2.1 S.2.2.2.2.1.1.2.2 (nI S.2.2.2.1.2) x z 0) S.2.1.1 S.2.1.2.2.2.2.2.2.2.1 x z y).2.2.2.1) 1) = s.2.1 ∧ ((fun z => ((vmean (fun z => vgift S.2.1.1 S.2.2.2.2.1.1.1 S.2.2.2.2.1.1.2.1 S.2.2.2.2.1.1.2.2 (nI S.2.2.2.1.2) x z 0) S.2.1.1 S.2.1.2.2.2.2.2.2.2.1 x z y).2.2.2.2 + (vmean (fun z => vgift S.2.1.1 S.2.2.2.2.1.1.1 S.2.2.2.2.1.1.2.1 S.2.2.2.2.1.1.2.2 (nI S.2.2.2.1.2) x z 0) S.2.1.1 S.2.1.2.2.2.2.2.2.2.1 x z y).2.2.1 * (S.2.1.1 (x * 10 + 9)).toInt64)) 1) < s.2.2) := Or.inl c77
        refine step.1 _ _ _ _ _ _ _ sgX11_ring_106_ok ?_
        refine ⟨by decide, _, _, hCW.obj, rfl, ?_⟩
        refine ⟨by decide, _, _, hV9, rfl, ?_⟩
        refine ⟨by decide, _, _, hCW.obj, rfl, ?_⟩
        refine ⟨by decide, _, _, hV9, rfl, ?_⟩
        refine step.1 _ _ _ _ _ _ _ sgX11_ring_127_ok ?_
        have e9 : rgst (fun z => (vmean (fun z => vgift S.2.1.1 S.2.2.2.2.1.1.1 S.2.2.2.2.1.1.2.1 S.2.2.2.2.1.1.2.2 (nI S.2.2.2.1.2) x z 0) S.2.1.1 S.2.1.2.2.2.2.2.2.2.1 x z y).2.2.2.1) (fun z => ((vmean (fun z => vgift S.2.1.1 S.2.2.2.2.1.1.1 S.2.2.2.2.1.1.2.1 S.2.2.2.2.1.1.2.2 (nI S.2.2.2.1.2) x z 0) S.2.1.1 S.2.1.2.2.2.2.2.2.2.1 x z y).2.2.2.2 + (vmean (fun z => vgift S.2.1.1 S.2.2.2.2.1.1.1 S.2.2.2.2.1.1.2.1 S.2.2.2.2.1.1.2.2 (nI S.2.2.2.1.2) x z 0) S.2.1.1 S.2.1.2.2.2.2.2.2.2.1 x z y).2.2.1 * (S.2.1.1 (x * 10 + 9)).toInt64)) 1 s = (nI 1, ((fun z => (vmean (fun z => vgift S.2.1.1 S.2.2.2.2.1.1.1 S.2.2.2.2.1.1.2.1 S.2.2.2.2.1.1.2.2 (nI S.2.2.2.1.2) x z 0) S.2.1.1 S.2.1.2.2.2.2.2.2.2.1 x z y).2.2.2.1) 1), ((fun z => ((vmean (fun z => vgift S.2.1.1 S.2.2.2.2.1.1.1 S.2.2.2.2.1.1.2.1 S.2.2.2.2.1.1.2.2 (nI S.2.2.2.1.2) x z 0) S.2.1.1 S.2.1.2.2.2.2.2.2.2.1 x z y).2.2.2.2 + (vmean (fun z => vgift S.2.1.1 S.2.2.2.2.1.1.1 S.2.2.2.2.1.1.2.1 S.2.2.2.2.1.1.2.2 (nI S.2.2.2.1.2) x z 0) S.2.1.1 S.2.1.2.2.2.2.2.2.2.1 x z y).2.2.1 * (S.2.1.1 (x * 10 + 9)).toInt64)) 1)) := if_pos hpos
        exact l2 (nI 1, ((fun z => (vmean (fun z => vgift S.2.1.1 S.2.2.2.2.1.1.1 S.2.2.2.2.1.1.2.1 S.2.2.2.2.1.1.2.2 (nI S.2.2.2.1.2) x z 0) S.2.1.1 S.2.1.2.2.2.2.2.2.2.1 x z y).2.2.2.1) 1), ((fun z => ((vmean (fun z => vgift S.2.1.1 S.2.2.2.2.1.1.1 S.2.2.2.2.1.1.2.1 S.2.2.2.2.1.1.2.2 (nI S.2.2.2.1.2) x z 0) S.2.1.1 S.2.1.2.2.2.2.2.2.2.1 x z y).2.2.2.2 + (vmean (fun z => vgift S.2.1.1 S.2.2.2.2.1.1.1 S.2.2.2.2.1.1.2.1 S.2.2.2.2.1.1.2.2 (nI S.2.2.2.1.2) x z 0) S.2.1.1 S.2.1.2.2.2.2.2.2.2.1 x z y).2.2.1 * (S.2.1.1 (x * 10 + 9)).toInt64)) 1)) h64 (by rw [← hst, e9]) hCW hGW
      · have c77 : ¬ s.2.1 < ((fun z => (vmean (fun z => vgift S.2.1.1 S.2.2.2.2.1.1.1 S.2.2.2.2.1.1.2.1 S.2.2.2.2.1.1.2.2 (nI S.2.2.2.1.2) x z 0) S.2.1.1 S.2.1.2.2.2.2.2.2.2.1 x z y).2.2.2.1) 1) := fun z => c77 ((lgc_gt _ _).mpr z)
        refine ⟨by decide, _, _, hCW.obj, rfl, ?_⟩
        refine ⟨by decide, _, _, hV9, rfl, ?_⟩
        refine ⟨fun c90 => ?_, fun c90 => ?_⟩
        · have c90 : ¬ ((fun z => (vmean (fun z => vgift S.2.1.1 S.2.2.2.2.1.1.1 S.2.2.2.2.1.1.2.1 S.2.2.2.2.1.1.2.2 (nI S.2.2.2.1.2) x z 0) S.2.1.1 S.2.1.2.2.2.2.2.2.2.1 x z y).2.2.2.1) 1) = s.2.1 := fun z => c90 ((lgc_eq _ _).mpr z)
          have hneg : ¬ (s.2.1 < ((fun z => (vmean (fun z => vgift S.2.1.1 S.2.2.2.2.1.1.1 S.2.2.2.2.1.1.2.1 S.2.2.2.2.1.1.2.2 (nI S.2.2.2.1.2) x z 0) S.2.1.1 S.2.1.2.2.2.2.2.2.2.1 x z y).2.2.2.1) 1) ∨ (((fun z => (vmean (fun z => vgift S.2.1.1 S.2.2.2.2.1.1.1 S.2.2.2.2.1.1.2.1 S.2.2.2.2.1.1.2.2 (nI S.2.2.2.1.2) x z 0) S.2.1.1 S.2.1.2.2.2.2.2.2.2.1 x z y).2.2.2.1) 1) = s.2.1 ∧ ((fun z => ((vmean (fun z => vgift S.2.1.1 S.2.2.2.2.1.1.1 S.2.2.2.2.1.1.2.1 S.2.2.2.2.1.1.2.2 (nI S.2.2.2.1.2) x z 0) S.2.1.1 S.2.1.2.2.2.2.2.2.2.1 x z y).2.2.2.2 + (vmean (fun z => vgift S.2.1.1 S.2.2.2.2.1.1.1 S.2.2.2.2.1.1.2.1 S.2.2.2.2.1.1.2.2 (nI S.2.2.2.1.2) x z 0) S.2.1.1 S.2.1.2.2.2.2.2.2.2.1 x z y).2.2.1 * (S.2.1.1 (x * 10 + 9)).toInt64)) 1) < s.2.2)) := fun z => z.elim c77 (fun z => c90 z.1)
          refine step.1 _ _ _ _ _ _ _ sgX11_ring_127_ok ?_
          have e9 : rgst (fun z => (vmean (fun z => vgift S.2.1.1 S.2.2.2.2.1.1.1 S.2.2.2.2.1.1.2.1 S.2.2.2.2.1.1.2.2 (nI S.2.2.2.1.2) x z 0) S.2.1.1 S.2.1.2.2.2.2.2.2.2.1 x z y).2.2.2.1) (fun z => ((vmean (fun z => vgift S.2.1.1 S.2.2.2.2.1.1.1 S.2.2.2.2.1.1.2.1 S.2.2.2.2.1.1.2.2 (nI S.2.2.2.1.2) x z 0) S.2.1.1 S.2.1.2.2.2.2.2.2.2.1 x z y).2.2.2.2 + (vmean (fun z => vgift S.2.1.1 S.2.2.2.2.1.1.1 S.2.2.2.2.1.1.2.1 S.2.2.2.2.1.1.2.2 (nI S.2.2.2.1.2) x z 0) S.2.1.1 S.2.1.2.2.2.2.2.2.2.1 x z y).2.2.1 * (S.2.1.1 (x * 10 + 9)).toInt64)) 1 s = s := if_neg hneg
          exact l2 s h64 (by rw [← hst, e9]) hCW hGW
        · have c90 : ((fun z => (vmean (fun z => vgift S.2.1.1 S.2.2.2.2.1.1.1 S.2.2.2.2.1.1.2.1 S.2.2.2.2.1.1.2.2 (nI S.2.2.2.1.2) x z 0) S.2.1.1 S.2.1.2.2.2.2.2.2.2.1 x z y).2.2.2.1) 1) = s.2.1 := (lgc_eq _ _).mp c90
          refine ⟨by decide, _, _, hCW.obj, rfl, ?_⟩
          refine ⟨by decide, _, _, hV9, rfl, ?_⟩
          refine ⟨fun c103 => ?_, fun c103 => ?_⟩
          · have c103 : ¬ ((fun z => ((vmean (fun z => vgift S.2.1.1 S.2.2.2.2.1.1.1 S.2.2.2.2.1.1.2.1 S.2.2.2.2.1.1.2.2 (nI S.2.2.2.1.2) x z 0) S.2.1.1 S.2.1.2.2.2.2.2.2.2.1 x z y).2.2.2.2 + (vmean (fun z => vgift S.2.1.1 S.2.2.2.2.1.1.1 S.2.2.2.2.1.1.2.1 S.2.2.2.2.1.1.2.2 (nI S.2.2.2.1.2) x z 0) S.2.1.1 S.2.1.2.2.2.2.2.2.2.1 x z y).2.2.1 * (S.2.1.1 (x * 10 + 9)).toInt64)) 1) < s.2.2 := Int64.not_lt.mpr ((lgc_ge _ _).mp c103)
            have hneg : ¬ (s.2.1 < ((fun z => (vmean (fun z => vgift S.2.1.1 S.2.2.2.2.1.1.1 S.2.2.2.2.1.1.2.1 S.2.2.2.2.1.1.2.2 (nI S.2.2.2.1.2) x z 0) S.2.1.1 S.2.1.2.2.2.2.2.2.2.1 x z y).2.2.2.1) 1) ∨ (((fun z => (vmean (fun z => vgift S.2.1.1 S.2.2.2.2.1.1.1 S.2.2.2.2.1.1.2.1 S.2.2.2.2.1.1.2.2 (nI S.2.2.2.1.2) x z 0) S.2.1.1 S.2.1.2.2.2.2.2.2.2.1 x z y).2.2.2.1) 1) = s.2.1 ∧ ((fun z => ((vmean (fun z => vgift S.2.1.1 S.2.2.2.2.1.1.1 S.2.2.2.2.1.1.2.1 S.2.2.2.2.1.1.2.2 (nI S.2.2.2.1.2) x z 0) S.2.1.1 S.2.1.2.2.2.2.2.2.2.1 x z y).2.2.2.2 + (vmean (fun z => vgift S.2.1.1 S.2.2.2.2.1.1.1 S.2.2.2.2.1.1.2.1 S.2.2.2.2.1.1.2.2 (nI S.2.2.2.1.2) x z 0) S.2.1.1 S.2.1.2.2.2.2.2.2.2.1 x z y).2.2.1 * (S.2.1.1 (x * 10 + 9)).toInt64)) 1) < s.2.2)) := fun z => z.elim c77 (fun z => c103 z.2)
            refine step.1 _ _ _ _ _ _ _ sgX11_ring_127_ok ?_
            have e9 : rgst (fun z => (vmean (fun z => vgift S.2.1.1 S.2.2.2.2.1.1.1 S.2.2.2.2.1.1.2.1 S.2.2.2.2.1.1.2.2 (nI S.2.2.2.1.2) x z 0) S.2.1.1 S.2.1.2.2.2.2.2.2.2.1 x z y).2.2.2.1) (fun z => ((vmean (fun z => vgift S.2.1.1 S.2.2.2.2.1.1.1 S.2.2.2.2.1.1.2.1 S.2.2.2.2.1.1.2.2 (nI S.2.2.2.1.2) x z 0) S.2.1.1 S.2.1.2.2.2.2.2.2.2.1 x z y).2.2.2.2 + (vmean (fun z => vgift S.2.1.1 S.2.2.2.2.1.1.1 S.2.2.2.2.1.1.2.1 S.2.2.2.2.1.1.2.2 (nI S.2.2.2.1.2) x z 0) S.2.1.1 S.2.1.2.2.2.2.2.2.2.1 x z y).2.2.1 * (S.2.1.1 (x * 10 + 9)).toInt64)) 1 s = s := if_neg hneg
            exact l2 s h64 (by rw [← hst, e9]) hCW hGW
          · have c103 : ((fun z => ((vmean (fun z => vgift S.2.1.1 S.2.2.2.2.1.1.1 S.2.2.2.2.1.1.2.1 S.2.2.2.2.1.1.2.2 (nI S.2.2.2.1.2) x z 0) S.2.1.1 S.2.1.2.2.2.2.2.2.2.1 x z y).2.2.2.2 + (vmean (fun z => vgift S.2.1.1 S.2.2.2.2.1.1.1 S.2.2.2.2.1.1.2.1 S.2.2.2.2.1.1.2.2 (nI S.2.2.2.1.2) x z 0) S.2.1.1 S.2.1.2.2.2.2.2.2.2.1 x z y).2.2.1 * (S.2.1.1 (x * 10 + 9)).toInt64)) 1) < s.2.2 := Int64.not_le.mp (fun z => c103 ((lgc_ge _ _).mpr z))
            have hpos : s.2.1 < ((fun z => (vmean (fun z => vgift S.2.1.1 S.2.2.2.2.1.1.1 S.2.2.2.2.1.1.2.1 S.2.2.2.2.1.1.2.2 (nI S.2.2.2.1.2) x z 0) S.2.1.1 S.2.1.2.2.2.2.2.2.2.1 x z y).2.2.2.1) 1) ∨ (((fun z => (vmean (fun z => vgift S.2.1.1 S.2.2.2.2.1.1.1 S.2.2.2.2.1.1.2.1 S.2.2.2.2.1.1.2.2 (nI S.2.2.2.1.2) x z 0) S.2.1.1 S.2.1.2.2.2.2.2.2.2.1 x z y).2.2.2.1) 1) = s.2.1 ∧ ((fun z => ((vmean (fun z => vgift S.2.1.1 S.2.2.2.2.1.1.1 S.2.2.2.2.1.1.2.1 S.2.2.2.2.1.1.2.2 (nI S.2.2.2.1.2) x z 0) S.2.1.1 S.2.1.2.2.2.2.2.2.2.1 x z y).2.2.2.2 + (vmean (fun z => vgift S.2.1.1 S.2.2.2.2.1.1.1 S.2.2.2.2.1.1.2.1 S.2.2.2.2.1.1.2.2 (nI S.2.2.2.1.2) x z 0) S.2.1.1 S.2.1.2.2.2.2.2.2.2.1 x z y).2.2.1 * (S.2.1.1 (x * 10 + 9)).toInt64)) 1) < s.2.2) := Or.inr ⟨c90, c103⟩
            refine step.1 _ _ _ _ _ _ _ sgX11_ring_106_ok ?_
            refine ⟨by decide, _, _, hCW.obj, rfl, ?_⟩
            refine ⟨by decide, _, _, hV9, rfl, ?_⟩
            refine ⟨by decide, _, _, hCW.obj, rfl, ?_⟩
            refine ⟨by decide, _, _, hV9, rfl, ?_⟩
            refine step.1 _ _ _ _ _ _ _ sgX11_ring_127_ok ?_
            have e9 : rgst (fun z => (vmean (fun z => vgift S.2.1.1 S.2.2.2.2.1.1.1 S.2.2.2.2.1.1.2.1 S.2.2.2.2.1.1.2.2 (nI S.2.2.2.1.2) x z 0) S.2.1.1 S.2.1.2.2.2.2.2.2.2.1 x z y).2.2.2.1) (fun z => ((vmean (fun z => vgift S.2.1.1 S.2.2.2.2.1.1.1 S.2.2.2.2.1.1.2.1 S.2.2.2.2.1.1.2.2 (nI S.2.2.2.1.2) x z 0) S.2.1.1 S.2.1.2.2.2.2.2.2.2.1 x z y).2.2.2.2 + (vmean (fun z => vgift S.2.1.1 S.2.2.2.2.1.1.1 S.2.2.2.2.1.1.2.1 S.2.2.2.2.1.1.2.2 (nI S.2.2.2.1.2) x z 0) S.2.1.1 S.2.1.2.2.2.2.2.2.2.1 x z y).2.2.1 * (S.2.1.1 (x * 10 + 9)).toInt64)) 1 s = (nI 1, ((fun z => (vmean (fun z => vgift S.2.1.1 S.2.2.2.2.1.1.1 S.2.2.2.2.1.1.2.1 S.2.2.2.2.1.1.2.2 (nI S.2.2.2.1.2) x z 0) S.2.1.1 S.2.1.2.2.2.2.2.2.2.1 x z y).2.2.2.1) 1), ((fun z => ((vmean (fun z => vgift S.2.1.1 S.2.2.2.2.1.1.1 S.2.2.2.2.1.1.2.1 S.2.2.2.2.1.1.2.2 (nI S.2.2.2.1.2) x z 0) S.2.1.1 S.2.1.2.2.2.2.2.2.2.1 x z y).2.2.2.2 + (vmean (fun z => vgift S.2.1.1 S.2.2.2.2.1.1.1 S.2.2.2.2.1.1.2.1 S.2.2.2.2.1.1.2.2 (nI S.2.2.2.1.2) x z 0) S.2.1.1 S.2.1.2.2.2.2.2.2.2.1 x z y).2.2.1 * (S.2.1.1 (x * 10 + 9)).toInt64)) 1)) := if_pos hpos
            exact l2 (nI 1, ((fun z => (vmean (fun z => vgift S.2.1.1 S.2.2.2.2.1.1.1 S.2.2.2.2.1.1.2.1 S.2.2.2.2.1.1.2.2 (nI S.2.2.2.1.2) x z 0) S.2.1.1 S.2.1.2.2.2.2.2.2.2.1 x z y).2.2.2.1) 1), ((fun z => ((vmean (fun z => vgift S.2.1.1 S.2.2.2.2.1.1.1 S.2.2.2.2.1.1.2.1 S.2.2.2.2.1.1.2.2 (nI S.2.2.2.1.2) x z 0) S.2.1.1 S.2.1.2.2.2.2.2.2.2.1 x z y).2.2.2.2 + (vmean (fun z => vgift S.2.1.1 S.2.2.2.2.1.1.1 S.2.2.2.2.1.1.2.1 S.2.2.2.2.1.1.2.2 (nI S.2.2.2.1.2) x z 0) S.2.1.1 S.2.1.2.2.2.2.2.2.2.1 x z y).2.2.1 * (S.2.1.1 (x * 10 + 9)).toInt64)) 1)) h64 (by rw [← hst, e9]) hCW hGW
    exact l1 (0, (fun z => (vmean (fun z => vgift S.2.1.1 S.2.2.2.2.1.1.1 S.2.2.2.2.1.1.2.1 S.2.2.2.2.1.1.2.2 (nI S.2.2.2.1.2) x z 0) S.2.1.1 S.2.1.2.2.2.2.2.2.2.1 x z y).2.2.2.1) 0, (fun z => ((vmean (fun z => vgift S.2.1.1 S.2.2.2.2.1.1.1 S.2.2.2.2.1.1.2.1 S.2.2.2.2.1.1.2.2 (nI S.2.2.2.1.2) x z 0) S.2.1.1 S.2.1.2.2.2.2.2.2.2.1 x z y).2.2.2.2 + (vmean (fun z => vgift S.2.1.1 S.2.2.2.2.1.1.1 S.2.2.2.2.1.1.2.1 S.2.2.2.2.1.1.2.2 (nI S.2.2.2.1.2) x z 0) S.2.1.1 S.2.1.2.2.2.2.2.2.2.1 x z y).2.2.1 * (S.2.1.1 (x * 10 + 9)).toInt64)) 0) hX rfl hCX hGX
  refine step.1 _ _ _ _ _ _ _ sgX11_ring_0_ok ?_
  refine Or.inr ⟨rfl, _, 7, 1, 6, _, _, _, _, qi_11_196, ⟨rfl, rfl⟩, ⟨hC.obj, rfl⟩, rfl, rfl, X_needDoor hg hT hC _, fun y2 h2 hy2 => ?_, fun E h9 z => ⟨z.mono (fun k hk => Or.inl (⟨hk.1, hk.2⟩)), Nat.le_of_ble_eq_true rfl, Nat.le_of_ble_eq_true rfl⟩⟩
  obtain ⟨hD, rfl, hh⟩ := hy2
  rw [hh]
  clear hh
  refine Or.inl ⟨rfl, _, 1, 0, 0, _, Or.inl qi_11_147, ⟨rfl, rfl⟩, rfl, rfl, sp_within hg _ _ _, fun y9 h9 hy9 => ?_⟩
  obtain ⟨rfl, hh⟩ := hy9
  rw [hh]
  clear hh
  refine Or.inr ⟨rfl, _, 6, 1, 6, _, _, _, _, qi_11_151, ⟨rfl, rfl⟩, ⟨hC.obj, rfl⟩, rfl, rfl, X_need hg hT hC _, fun y12 h12 hy12 => ?_, fun E h9 z => ⟨z.mono (fun k hk => Or.inr (⟨hk.1, hD, hk.2⟩)), Nat.le_of_ble_eq_true rfl, Nat.le_of_ble_eq_true rfl⟩⟩
  obtain ⟨hw, rfl, hh⟩ := hy12
  rw [hh]
  clear hh
  obtain ⟨x, hx, ex⟩ := wi_lt (by omega) hD
  obtain ⟨y, hy, ey⟩ := wi_nat (m := 5) (by decide) hw
  refine ⟨by decide, _, _, hC.obj, rfl, ?_⟩
  refine Or.inl ⟨rfl, _, 4, 0, 0, _, _, _, qi_11_221, ⟨rfl, rfl⟩, ⟨hV, rfl⟩, rfl, rfl, (by rw [ex, ey]; exact V_reckon hg (hC.W hl) x y 0 (by omega) hy (by omega) 0), fun y25 h25 hy25 => ?_⟩
  obtain ⟨rfl, hs9, hW9, hV9⟩ := hy25
  have hCW := hC.up hs9 (fz_cons (cW hW9).1 (fz_cons (cW hW9).2.1 (fz_cons (cW hW9).2.2 fz_nil)))
  have hGW := gro.of hs9 rfl
  refine ⟨by decide, _, _, hCW.obj, rfl, ?_⟩
  refine ⟨by decide, _, _, hV9, rfl, ?_⟩
  refine ⟨by decide, _, _, hCW.obj, rfl, ?_⟩
  refine ⟨by decide, _, _, hV9, rfl, ?_⟩
  exact main x y hx hy ex ey hw h25 hCW hGW
end Q09D
