section Q11L
theorem M_isVain {g : qG} (hg : qOK g) {h : qH} {x : Nat → Int32} {y : Nat → Int64} {F : Nat → Nat → Int32} {G : Nat → Nat → Int64} (hM : MX h x y F G) {S : CS} (hR : Rel S x F) (hx : x 0 = 0) (dr se vv : Int32) (b : Bool) : qSpec g 3 0 0 mX12_isVain [.ref 63, .int dr, .int se, .int vv, .int (qb b)] h (fun r h' => (∃ (k : Nat) (c : Int32), ((k = 0 ∧ c = 1 ∧ ¬ (wi 0 (nI S.2.1.2.2.2.1 - 1) dr = true)) ∨ (k = 1 ∧ c = 2 ∧ (wi 0 (nI S.2.1.2.2.2.1 - 1) dr = true) ∧ ¬ (wi 0 2 se = true ∧ wi 0 10 vv = true ∧ b = true))) ∧ r = some (.int 0) ∧ mbad h h' S k c) ∨ ((wi 0 (nI S.2.1.2.2.2.1 - 1) dr = true) ∧ wi 0 2 se = true ∧ wi 0 10 vv = true ∧ b = true ∧ r = some (.int 1) ∧ h' = h)) := by
  refine qSpec_run 12 "isVain" false hg mX12_isVain_ok rfl rfl (Nat.le_of_ble_eq_true rfl) (by decide) ?_
  intro run step
  refine step.1 _ _ _ _ _ _ _ sgX12_isVain_0_ok ?_
  refine Or.inl ⟨rfl, _, 2, 0, 0, _, _, _, qi_12_343, ⟨rfl, rfl⟩, ⟨hM.1, rfl⟩, rfl, rfl, M_isDoorU hg hM hR hx _ 1 (by decide), fun y3 h3 hy3 => ?_⟩
  rcases hy3 with ⟨hD, rfl, hb⟩ | ⟨hD, rfl, hh⟩
  · refine ⟨fun _ => ?_, fun c6 => absurd c6 (by decide)⟩
    refine step.1 _ _ _ _ _ _ _ sgX12_isVain_51_ok ?_
    refine step.1 _ _ _ _ _ _ _ sgX12_isVain_52_ok ?_
    refine ⟨.boolean, rfl, rfl, Nat.le_refl _, Nat.le_refl _, ?_⟩
    exact Or.inl ⟨0, 1, Or.inl ⟨rfl, rfl, (by rw [hD]; decide)⟩, rfl, hb⟩
  · rw [hh]
    clear hh
    refine ⟨fun c6 => absurd c6 (by decide), fun _ => ?_⟩
    refine Or.inl ⟨rfl, _, 1, 0, 0, _, Or.inl qi_12_324, ⟨rfl, rfl⟩, rfl, rfl, M_within hg _ _ _, fun y13 h13 hy13 => ?_⟩
    obtain ⟨rfl, hh⟩ := hy13
    rw [hh]
    clear hh
    refine ⟨fun c16 => ?_, fun c16 => ?_⟩
    · have w16 : (wi 0 2 se) = false := qb_0.mp c16
      refine step.1 _ _ _ _ _ _ _ sgX12_isVain_38_ok ?_
      refine step.1 _ _ _ _ _ _ _ sgX12_isVain_39_ok ?_
      refine Or.inl ⟨rfl, _, 1, 0, 0, _, _, _, qi_12_247, ⟨rfl, rfl⟩, ⟨hM.1, rfl⟩, rfl, rfl, M_mayB hg hM hR hx 2 (by decide) 1 (by decide), fun y41 h41 hy41 => ?_⟩
      obtain ⟨rfl, hb⟩ := hy41
      refine ⟨fun _ => ?_, fun c44 => absurd c44 (by decide)⟩
      refine step.1 _ _ _ _ _ _ _ sgX12_isVain_51_ok ?_
      refine step.1 _ _ _ _ _ _ _ sgX12_isVain_52_ok ?_
      refine ⟨.boolean, rfl, rfl, Nat.le_refl _, Nat.le_refl _, ?_⟩
      exact Or.inl ⟨1, 2, Or.inr ⟨rfl, rfl, hD, (fun z => absurd z.1 (by rw [w16]; decide))⟩, rfl, hb⟩
    · have w16 : (wi 0 2 se) = true := qb_1.mp c16
      refine Or.inl ⟨rfl, _, 1, 0, 0, _, Or.inl qi_12_324, ⟨rfl, rfl⟩, rfl, rfl, M_within hg _ _ _, fun y23 h23 hy23 => ?_⟩
      obtain ⟨rfl, hh⟩ := hy23
      rw [hh]
      clear hh
      refine ⟨fun c26 => ?_, fun c26 => ?_⟩
      · have w26 : (wi 0 10 vv) = false := qb_0.mp c26
        refine step.1 _ _ _ _ _ _ _ sgX12_isVain_38_ok ?_
        refine step.1 _ _ _ _ _ _ _ sgX12_isVain_39_ok ?_
        refine Or.inl ⟨rfl, _, 1, 0, 0, _, _, _, qi_12_247, ⟨rfl, rfl⟩, ⟨hM.1, rfl⟩, rfl, rfl, M_mayB hg hM hR hx 2 (by decide) 1 (by decide), fun y41 h41 hy41 => ?_⟩
        obtain ⟨rfl, hb⟩ := hy41
        refine ⟨fun _ => ?_, fun c44 => absurd c44 (by decide)⟩
        refine step.1 _ _ _ _ _ _ _ sgX12_isVain_51_ok ?_
        refine step.1 _ _ _ _ _ _ _ sgX12_isVain_52_ok ?_
        refine ⟨.boolean, rfl, rfl, Nat.le_refl _, Nat.le_refl _, ?_⟩
        exact Or.inl ⟨1, 2, Or.inr ⟨rfl, rfl, hD, (fun z => absurd z.2.1 (by rw [w26]; decide))⟩, rfl, hb⟩
      · have w26 : (wi 0 10 vv) = true := qb_1.mp c26
        refine ⟨fun c31 => ?_, fun c31 => ?_⟩
        · have w31 : b = false := qb_0.mp c31
          refine step.1 _ _ _ _ _ _ _ sgX12_isVain_38_ok ?_
          refine step.1 _ _ _ _ _ _ _ sgX12_isVain_39_ok ?_
          refine Or.inl ⟨rfl, _, 1, 0, 0, _, _, _, qi_12_247, ⟨rfl, rfl⟩, ⟨hM.1, rfl⟩, rfl, rfl, M_mayB hg hM hR hx 2 (by decide) 1 (by decide), fun y41 h41 hy41 => ?_⟩
          obtain ⟨rfl, hb⟩ := hy41
          refine ⟨fun _ => ?_, fun c44 => absurd c44 (by decide)⟩
          refine step.1 _ _ _ _ _ _ _ sgX12_isVain_51_ok ?_
          refine step.1 _ _ _ _ _ _ _ sgX12_isVain_52_ok ?_
          refine ⟨.boolean, rfl, rfl, Nat.le_refl _, Nat.le_refl _, ?_⟩
          exact Or.inl ⟨1, 2, Or.inr ⟨rfl, rfl, hD, (fun z => absurd z.2.2 (by rw [w31]; decide))⟩, rfl, hb⟩
        · have w31 : b = true := qb_1.mp c31
          refine step.1 _ _ _ _ _ _ _ sgX12_isVain_39_ok ?_
          refine Or.inl ⟨rfl, _, 1, 0, 0, _, _, _, qi_12_247, ⟨rfl, rfl⟩, ⟨hM.1, rfl⟩, rfl, rfl, M_may hg hM.1 hx _ _, fun y41 h41 hy41 => ?_⟩
          obtain ⟨rfl, hh⟩ := hy41
          rw [hh]
          clear hh
          refine ⟨fun c44 => absurd c44 (by decide), fun _ => ?_⟩
          refine step.1 _ _ _ _ _ _ _ sgX12_isVain_52_ok ?_
          refine ⟨.boolean, rfl, rfl, Nat.le_refl _, Nat.le_refl _, ?_⟩
          exact Or.inr ⟨hD, w16, w26, w31, rfl, rfl⟩
theorem M_homeBy {g : qG} (hg : qOK g) {h : qH} {x : Nat → Int32} {y : Nat → Int64} {F : Nat → Nat → Int32} {G : Nat → Nat → Int64} (hM : MX h x y F G) {u t i1 i2 : Nat} (e1 : y 51 = Int64.ofNat i1) (e2 : y 52 = Int64.ofNat i2) (h1 : i1 ≤ 2 ^ 48) (h2 : i2 ≤ 2 ^ 48) (hu : u < 2 ^ 63) (ht : 0 < t) (hti : t * (i1 + i2) < 2 ^ 63) {p : Int32} (hp : p = 0 ∨ p = 1) : qSpec g 2 0 0 mX12_homeBy [.ref 63, .long (Int64.ofNat u), .long (Int64.ofNat t), .int p] h (fun r h' => r = some (.long (lterms (Int64.ofNat u) (Int64.ofNat (t * (i1 + i2))) p)) ∧ h' = h) := by
  refine qSpec_run 12 "homeBy" false hg mX12_homeBy_ok rfl rfl (Nat.le_of_ble_eq_true rfl) (by decide) ?_
  intro run step
  refine step.1 _ _ _ _ _ _ _ sgX12_homeBy_0_ok ?_
  refine ⟨by decide, _, _, hM.1, rfl, ?_⟩
  refine ⟨by decide, _, _, hM.1, rfl, ?_⟩
  refine ⟨fun c11 => ?_, fun c11 => ?_⟩
  · have d11 : ¬ i1 + i2 = 0 := fun q => c11 ((lgc0 _ _).mpr (by rw [e1, e2, (show Int64.ofNat i1 + Int64.ofNat i2 = Int64.ofNat (i1 + i2) from (Int64.ofNat_add i1 i2).symm)]; exact (l_0 (by omega)).mpr q))
    refine step.1 _ _ _ _ _ _ _ sgX12_homeBy_20_ok ?_
    refine ⟨by decide, _, _, hM.1, rfl, ?_⟩
    refine ⟨by decide, _, _, hM.1, rfl, ?_⟩
    refine Or.inl ⟨rfl, _, 1, 0, 0, _, Or.inl qi_12_393, ⟨rfl, rfl⟩, rfl, rfl, (by rw [e1, e2, (show Int64.ofNat i1 + Int64.ofNat i2 = Int64.ofNat (i1 + i2) from (Int64.ofNat_add i1 i2).symm), ← Int64.ofNat_mul]; exact M_least hg u (t * (i1 + i2)) p hu (Nat.mul_pos ht (by omega)) hti hp), fun y34 h34 hy34 => ?_⟩
    obtain ⟨rfl, hh⟩ := hy34
    rw [hh]
    clear hh
    refine step.1 _ _ _ _ _ _ _ sgX12_homeBy_37_ok ?_
    refine ⟨rfl, Nat.le_refl _, Nat.le_refl _, ?_⟩
    exact ⟨rfl, rfl⟩
  · have d11 : i1 + i2 = 0 := (l_0 (by omega)).mp (by rw [← (show Int64.ofNat i1 + Int64.ofNat i2 = Int64.ofNat (i1 + i2) from (Int64.ofNat_add i1 i2).symm), ← e1, ← e2]; exact (lgc0 _ _).mp c11)
    refine step.1 _ _ _ _ _ _ _ sgX12_homeBy_37_ok ?_
    refine ⟨rfl, Nat.le_refl _, Nat.le_refl _, ?_⟩
    exact ⟨congrArg (fun z => some (Value.long z)) (by rw [lterms, if_pos (Or.inr ((l_0 hti).mpr (by rw [d11, Nat.mul_zero])))]), rfl⟩
theorem M_home {g : qG} (hg : qOK g) {h : qH} {x : Nat → Int32} {y : Nat → Int64} {F : Nat → Nat → Int32} {G : Nat → Nat → Int64} (hM : MX h x y F G) {S : CS} (hR : Rel S x F) (hI : ROK S.2.1) (hl : lwf S.2.2.2.2.1.1) (dr se vv pt : Int32) : qSpec g 5 0 0 mX12_home [.ref 63, .int dr, .int se, .int vv, .int pt] h (fun r h' => ((wi 0 (nI S.2.1.2.2.2.1 - 1) dr = true) ∧ (wi 0 2 se = true ∧ wi 0 10 vv = true ∧ wi 0 1 pt = true) ∧ (∃ a b : Nat, a < S.2.1.2.2.2.1 ∧ b ≤ 10 ∧ dr = nI a ∧ vv = nI b ∧ r = some (.long (lterms (vin S.2.1.1 a se b) (vall S.2.1.1 a se b) pt))) ∧ MG h h' S) ∨ ∃ (k : Nat) (c : Int32), ((k = 0 ∧ c = 1 ∧ ¬ (wi 0 (nI S.2.1.2.2.2.1 - 1) dr = true)) ∨ (k = 1 ∧ c = 2 ∧ (wi 0 (nI S.2.1.2.2.2.1 - 1) dr = true) ∧ ¬ (wi 0 2 se = true ∧ wi 0 10 vv = true ∧ wi 0 1 pt = true))) ∧ (∃ z, r = some (.long z)) ∧ mbad h h' S k c) := by
  refine qSpec_run 12 "home" false hg mX12_home_ok rfl rfl (Nat.le_of_ble_eq_true rfl) (by decide) ?_
  intro run step
  refine step.1 _ _ _ _ _ _ _ sgX12_home_0_ok ?_
  refine ⟨_, hM.1, Nat.le_of_ble_eq_true rfl, rfl, ?_⟩
  have hM0 := hM.p63 (sI_0 (v := 0) (rfl : _ = M63l x y))
  have hR0 : Rel S (upd x 0 0) F := hR.t 0
  have hk0 := kp.rf (h := h) |>.u (k := 63) (e := .inl (12, (M63l x y).set 0 (.int 0))) (by decide) (by decide)
  refine Or.inl ⟨rfl, _, 1, 0, 0, _, Or.inl qi_12_324, ⟨rfl, rfl⟩, rfl, rfl, M_within hg _ _ _, fun y13 h13 hy13 => ?_⟩
  obtain ⟨rfl, hh⟩ := hy13
  rw [hh]
  clear hh
  refine Or.inl ⟨rfl, _, 3, 0, 0, _, _, _, qi_12_446, ⟨rfl, rfl⟩, ⟨hM0.1, rfl⟩, rfl, rfl, M_isVain hg hM0 hR0 rfl _ _ _ _, fun y16 h16 hy16 => ?_⟩
  rcases hy16 with ⟨k, c, hkc, rfl, hb⟩ | ⟨hD0, w1, w2, w3, rfl, hh⟩
  · refine ⟨fun c19 => absurd c19 (by decide), fun _ => ?_⟩
    refine ⟨rfl, Nat.le_refl _, Nat.le_refl _, ?_⟩
    exact Or.inr ⟨k, c, hkc, ⟨_, rfl⟩, mbad.l hk0 hb⟩
  · rw [hh]
    clear hh
    obtain ⟨a, ha, ea⟩ := wi_lt (by have := hI.1.1; omega) hD0
    obtain ⟨s, hs, es⟩ := wi_nat (m := 2) (by decide) w1
    obtain ⟨b, hb, eb⟩ := wi_nat (m := 10) (by decide) w2
    obtain ⟨i1, i2, n1, n2, f1, f2⟩ := vin_n hI (s := s) ha hs hb
    refine ⟨fun _ => ?_, fun c19 => absurd c19 (by decide)⟩
    refine step.1 _ _ _ _ _ _ _ sgX12_home_24_ok ?_
    refine Or.inl ⟨rfl, _, 1, 0, 0, _, _, _, qi_12_450, ⟨rfl, rfl⟩, ⟨hM0.1, rfl⟩, rfl, rfl, (by rw [ea, eb]; exact M_weigh hg hM0 hR0 ha hI.1.1 (v := b) (by omega) se), fun y28 h28 hy28 => ?_⟩
    obtain ⟨rfl, y1, hM1, g1, g2, g3, hk1⟩ := hy28
    rw [es] at g1 g2
    rw [f1] at g1
    rw [f2] at g2
    refine ⟨by decide, _, _, hM1.1, rfl, ?_⟩
    refine Or.inl ⟨rfl, _, 2, 0, 0, _, _, _, qi_12_453, ⟨rfl, rfl⟩, ⟨hM1.1, rfl⟩, rfl, rfl, (by rw [g1]; exact M_homeBy hg hM1 (u := i1) (t := 1) g1 g2 n1 n2 (by omega) (by decide) (by omega) (p01 w3)), fun y39 h39 hy39 => ?_⟩
    obtain ⟨rfl, hh⟩ := hy39
    rw [hh]
    clear hh
    refine ⟨rfl, Nat.le_refl _, Nat.le_refl _, ?_⟩
    exact Or.inl ⟨hD0, ⟨w1, w2, w3⟩, ⟨a, b, ha, hb, ea, eb, by rw [vall_o, es, f1, f2, ← Int64.ofNat_add]; rw [Nat.one_mul]⟩, MG.of hM1 (hk0.tr hk1) hR0 rfl⟩
theorem M_another {g : qG} (hg : qOK g) {h : qH} {x : Nat → Int32} {y : Nat → Int64} {F : Nat → Nat → Int32} {G : Nat → Nat → Int64} (hM : MX h x y F G) {S : CS} (hR : Rel S x F) (hI : ROK S.2.1) (hl : lwf S.2.2.2.2.1.1) (dr se vv pt : Int32) : qSpec g 5 0 0 mX12_another [.ref 63, .int dr, .int se, .int vv, .int pt] h (fun r h' => ((wi 0 (nI S.2.1.2.2.2.1 - 1) dr = true) ∧ (wi 0 2 se = true ∧ wi 0 10 vv = true ∧ wi 0 1 pt = true) ∧ (∃ a b : Nat, a < S.2.1.2.2.2.1 ∧ b ≤ 10 ∧ dr = nI a ∧ vv = nI b ∧ r = some (.long (lterms (vin S.2.1.1 a se b * (S.2.1.1 (a * 10 + 4)).toInt64) (vall S.2.1.1 a se b * 16) pt))) ∧ MG h h' S) ∨ ∃ (k : Nat) (c : Int32), ((k = 0 ∧ c = 1 ∧ ¬ (wi 0 (nI S.2.1.2.2.2.1 - 1) dr = true)) ∨ (k = 1 ∧ c = 2 ∧ (wi 0 (nI S.2.1.2.2.2.1 - 1) dr = true) ∧ ¬ (wi 0 2 se = true ∧ wi 0 10 vv = true ∧ wi 0 1 pt = true))) ∧ (∃ z, r = some (.long z)) ∧ mbad h h' S k c) := by
  refine qSpec_run 12 "another" false hg mX12_another_ok rfl rfl (Nat.le_of_ble_eq_true rfl) (by decide) ?_
  intro run step
  refine step.1 _ _ _ _ _ _ _ sgX12_another_0_ok ?_
  refine ⟨_, hM.1, Nat.le_of_ble_eq_true rfl, rfl, ?_⟩
  have hM0 := hM.p63 (sI_0 (v := 0) (rfl : _ = M63l x y))
  have hR0 : Rel S (upd x 0 0) F := hR.t 0
  have hk0 := kp.rf (h := h) |>.u (k := 63) (e := .inl (12, (M63l x y).set 0 (.int 0))) (by decide) (by decide)
  refine Or.inl ⟨rfl, _, 1, 0, 0, _, Or.inl qi_12_324, ⟨rfl, rfl⟩, rfl, rfl, M_within hg _ _ _, fun y13 h13 hy13 => ?_⟩
  obtain ⟨rfl, hh⟩ := hy13
  rw [hh]
  clear hh
  refine Or.inl ⟨rfl, _, 3, 0, 0, _, _, _, qi_12_446, ⟨rfl, rfl⟩, ⟨hM0.1, rfl⟩, rfl, rfl, M_isVain hg hM0 hR0 rfl _ _ _ _, fun y16 h16 hy16 => ?_⟩
  rcases hy16 with ⟨k, c, hkc, rfl, hb⟩ | ⟨hD0, w1, w2, w3, rfl, hh⟩
  · refine ⟨fun c19 => absurd c19 (by decide), fun _ => ?_⟩
    refine ⟨rfl, Nat.le_refl _, Nat.le_refl _, ?_⟩
    exact Or.inr ⟨k, c, hkc, ⟨_, rfl⟩, mbad.l hk0 hb⟩
  · rw [hh]
    clear hh
    obtain ⟨a, ha, ea⟩ := wi_lt (by have := hI.1.1; omega) hD0
    obtain ⟨s, hs, es⟩ := wi_nat (m := 2) (by decide) w1
    obtain ⟨b, hb, eb⟩ := wi_nat (m := 10) (by decide) w2
    obtain ⟨i1, i2, n1, n2, f1, f2⟩ := vin_n hI (s := s) ha hs hb
    obtain ⟨v4, h4, e4⟩ := hI.d ha (f := 4) (by decide)
    have h4 : v4 ≤ 16 := h4
    have hm4 : i1 * v4 ≤ 2 ^ 48 * 16 := Nat.mul_le_mul n1 h4
    have i4 : vp_in (10 * dr + 4 : Int32) 100 := by rw [ea, show (10 * nI a + 4 : Int32) = nI (a * 10 + 4) from ixk (k := 10) (w := 4)]; exact vp_in_nI (by have := hI.1.1; omega) (by decide)
    have g4 : F 67 (10 * dr + 4 : Int32).toNatClampNeg = nI v4 := by rw [ea, show (10 * nI a + 4 : Int32) = nI (a * 10 + 4) from ixk (k := 10) (w := 4), h_tn (n := a * 10 + 4) (by have := hI.1.1; omega), ← e4]; exact hR.2.2.1.1 _ (by omega)
    refine ⟨fun _ => ?_, fun c19 => absurd c19 (by decide)⟩
    refine step.1 _ _ _ _ _ _ _ sgX12_another_24_ok ?_
    refine Or.inl ⟨rfl, _, 1, 0, 0, _, _, _, qi_12_450, ⟨rfl, rfl⟩, ⟨hM0.1, rfl⟩, rfl, rfl, (by rw [ea, eb]; exact M_weigh hg hM0 hR0 ha hI.1.1 (v := b) (by omega) se), fun y28 h28 hy28 => ?_⟩
    obtain ⟨rfl, y1, hM1, g1, g2, g3, hk1⟩ := hy28
    rw [es] at g1 g2
    rw [f1] at g1
    rw [f2] at g2
    refine ⟨by decide, _, _, hM1.1, rfl, ?_⟩
    refine ⟨by decide, _, _, hM1.1, rfl, ?_⟩
    refine ⟨_, _, hM1.c67, i4, ?_⟩
    refine Or.inl ⟨rfl, _, 2, 0, 0, _, _, _, qi_12_453, ⟨rfl, rfl⟩, ⟨hM1.1, rfl⟩, rfl, rfl, (by rw [g1, g4, l_n (by omega), ← Int64.ofNat_mul]; exact M_homeBy hg hM1 (u := i1 * v4) (t := 16) g1 g2 n1 n2 (by omega) (by decide) (by omega) (p01 w3)), fun y54 h54 hy54 => ?_⟩
    obtain ⟨rfl, hh⟩ := hy54
    rw [hh]
    clear hh
    refine ⟨rfl, Nat.le_refl _, Nat.le_refl _, ?_⟩
    exact Or.inl ⟨hD0, ⟨w1, w2, w3⟩, ⟨a, b, ha, hb, ea, eb, by rw [vall_o, es, f1, f2, ← Int64.ofNat_add, e4, l_n (by omega), ← Int64.ofNat_mul, show (16 : Int64) = Int64.ofNat 16 from rfl, ← Int64.ofNat_mul, Nat.mul_comm (i1 + i2) 16]⟩, MG.of hM1 (hk0.tr hk1) hR0 rfl⟩
theorem rg3 (p v : Int64) : p * (16 * v) = p * (v * 16) := by grind
set_option maxHeartbeats 2000000 in
theorem M_lineAt {g : qG} (hg : qOK g) {h : qH} {x : Nat → Int32} {y : Nat → Int64} {F : Nat → Nat → Int32} {G : Nat → Nat → Int64} (hM : MX h x y F G) {S : CS} (hR : Rel S x F) (hI : ROK S.2.1) (hl : lwf S.2.2.2.2.1.1) (dr se px : Int32) : qSpec g 5 0 0 mX12_lineAt [.ref 63, .int dr, .int se, .int px] h (fun r h' => ((wi 0 (nI S.2.1.2.2.2.1 - 1) dr = true) ∧ (wi 0 2 se = true ∧ wi 0 999 px = true) ∧ (∃ a : Nat, a < S.2.1.2.2.2.1 ∧ dr = nI a ∧ r = some (.int (llineF (fun i => vless (fun z => vgift S.2.1.1 S.2.2.2.2.1.1.1 S.2.2.2.2.1.1.2.1 S.2.2.2.2.1.1.2.2 (nI S.2.2.2.1.2) a z 0) S.2.1.1 a se i px) 11 0))) ∧ MG h h' S) ∨ ∃ (k : Nat) (c : Int32), ((k = 0 ∧ c = 1 ∧ ¬ (wi 0 (nI S.2.1.2.2.2.1 - 1) dr = true)) ∨ (k = 1 ∧ c = 2 ∧ (wi 0 (nI S.2.1.2.2.2.1 - 1) dr = true) ∧ ¬ (wi 0 2 se = true ∧ wi 0 999 px = true))) ∧ (∃ z, r = some (.int z)) ∧ mbad h h' S k c) := by
  refine qSpec_run 12 "lineAt" false hg mX12_lineAt_ok rfl rfl (Nat.le_of_ble_eq_true rfl) (by decide) ?_
  intro run step
  refine step.1 _ _ _ _ _ _ _ sgX12_lineAt_0_ok ?_
  refine ⟨_, hM.1, Nat.le_of_ble_eq_true rfl, rfl, ?_⟩
  have hM0 := hM.p63 (sI_0 (v := 0) (rfl : _ = M63l x y))
  have hR0 : Rel S (upd x 0 0) F := hR.t 0
  have hk0 := kp.rf (h := h) |>.u (k := 63) (e := .inl (12, (M63l x y).set 0 (.int 0))) (by decide) (by decide)
  refine Or.inl ⟨rfl, _, 1, 0, 0, _, Or.inl qi_12_324, ⟨rfl, rfl⟩, rfl, rfl, M_within hg _ _ _, fun y14 h14 hy14 => ?_⟩
  obtain ⟨rfl, hh⟩ := hy14
  rw [hh]
  clear hh
  refine Or.inl ⟨rfl, _, 3, 0, 0, _, _, _, qi_12_446, ⟨rfl, rfl⟩, ⟨hM0.1, rfl⟩, rfl, rfl, M_isVain hg hM0 hR0 rfl _ _ _ _, fun y17 h17 hy17 => ?_⟩
  rcases hy17 with ⟨k, c, hkc, rfl, hb⟩ | ⟨hD0, w1, w2, w3, rfl, hh⟩
  · refine ⟨fun c20 => absurd c20 (by decide), fun _ => ?_⟩
    refine ⟨.int, rfl, rfl, Nat.le_refl _, Nat.le_refl _, ?_⟩
    exact Or.inr ⟨k, c, hkc.elim Or.inl (fun q => Or.inr ⟨q.1, q.2.1, q.2.2.1, fun z => q.2.2.2 ⟨z.1, by decide, z.2⟩⟩), ⟨_, rfl⟩, mbad.l hk0 hb⟩
  · rw [hh]
    clear hh
    obtain ⟨a, ha, ea⟩ := wi_lt (by have := hI.1.1; omega) hD0
    obtain ⟨s, hs, es⟩ := wi_nat (m := 2) (by decide) w1
    have hn := hI.1.1
    have i4 : vp_in (10 * dr + 4 : Int32) 100 := by rw [ea, show (10 * nI a + 4 : Int32) = nI (a * 10 + 4) from ixk (k := 10) (w := 4)]; exact vp_in_nI (by omega) (by decide)
    have g4 : F 67 (10 * dr + 4 : Int32).toNatClampNeg = S.2.1.1 (a * 10 + 4) := by rw [ea, show (10 * nI a + 4 : Int32) = nI (a * 10 + 4) from ixk (k := 10) (w := 4), h_tn (n := a * 10 + 4) (by omega)]; exact hR.2.2.1.1 _ (by omega)
    have loop : ∀ (m i : Nat) (hX : qH) (yX : Nat → Int64) (FX : Nat → Nat → Int32), i + m = 11 → MX hX (upd x 0 0) yX FX G → (∀ j : Nat, j ∉ [75, 76] → FX j = F j) → kp h hX → llineF (fun i => vless (fun z => vgift S.2.1.1 S.2.2.2.2.1.1.1 S.2.2.2.2.1.1.2.1 S.2.2.2.2.1.1.2.2 (nI S.2.2.2.1.2) a z 0) S.2.1.1 a se i px) m i = llineF (fun i => vless (fun z => vgift S.2.1.1 S.2.2.2.2.1.1.1 S.2.2.2.2.1.1.2.1 S.2.2.2.2.1.1.2.2 (nI S.2.2.2.1.2) a z 0) S.2.1.1 a se i px) 11 0 → run 28 [(4, .int (nI i)), (0, .ref 63), (1, .int dr), (2, .int se), (3, .int px)] [] hX 0 0 := by
        intro m
        induction m with
        | zero =>
          intro i hX yX FX hi hMX hFX hkX hres
          refine step.1 _ _ _ _ _ _ _ sgX12_lineAt_28_ok ?_
          refine ⟨fun c32 => ?_, fun c32 => absurd (show (10 : Int32) < nI i from (nI_ltI (a := 10) (by decide) (by omega)).mpr (by omega)) c32⟩
          
          refine step.1 _ _ _ _ _ _ _ sgX12_lineAt_122_ok ?_
          refine ⟨.int, rfl, rfl, Nat.le_refl _, Nat.le_refl _, ?_⟩
          exact Or.inl ⟨hD0, ⟨w1, w3⟩, ⟨a, ha, ea, by rw [← hres]; rfl⟩, MG.of hMX hkX (hR0.qf hFX) rfl⟩
        | succ m ih =>
          intro i hX yX FX hi hMX hFX hkX hres
          refine step.1 _ _ _ _ _ _ _ sgX12_lineAt_28_ok ?_
          refine ⟨fun c32 => absurd (show (10 : Int32) < nI i from c32) (fun q => absurd ((nI_ltI (a := 10) (by decide) (by omega)).mp q) (by omega)), fun c32 => ?_⟩
          
          refine Or.inl ⟨rfl, _, 1, 0, 0, _, _, _, qi_12_450, ⟨rfl, rfl⟩, ⟨hMX.1, rfl⟩, rfl, rfl, (by rw [ea]; exact M_weigh hg hMX (hR0.qf hFX) ha hI.1.1 (v := i) (by omega) se), fun y40 h40 hy40 => ?_⟩
          obtain ⟨rfl, y1, hM1, g1, g2, g3, hk1⟩ := hy40
          obtain ⟨i1, i2, n1, n2, f1, f2⟩ := vin_n hI (s := s) (E := i) ha hs (by omega)
          rw [← es] at f1 f2
          have hz : vall S.2.1.1 a se i * 16 = 0 ↔ i1 + i2 = 0 := by
            rw [vall_o, f1, f2, ← Int64.ofNat_add, show (16 : Int64) = Int64.ofNat 16 from rfl, ← Int64.ofNat_mul, l_0 (by omega)]
            omega
          have hz2 : y1 51 + y1 52 = 0 ↔ i1 + i2 = 0 := by
            rw [g1, g2, f1, f2, ← Int64.ofNat_add, l_0 (by omega)]
          have q67 := hFX 67 (by decide)
          have d67 : h40.2 67 = some (aI' 100 (F 67)) := by rw [← q67]; exact hM1.c67
          refine ⟨by decide, _, _, hM1.1, rfl, ?_⟩
          refine ⟨by decide, _, _, hM1.1, rfl, ?_⟩
          refine ⟨fun c54 => ?_, fun c54 => ?_⟩
          · have c54 : ¬ i1 + i2 = 0 := fun q => c54 ((lgc0 _ _).mpr (hz2.mpr q))
            refine step.1 _ _ _ _ _ _ _ sgX12_lineAt_64_ok ?_
            refine ⟨by decide, _, _, hM1.1, rfl, ?_⟩
            refine ⟨by decide, _, _, hM1.1, rfl, ?_⟩
            refine ⟨_, _, d67, i4, ?_⟩
            refine Or.inl ⟨rfl, _, 3, 0, 0, _, _, _, qi_12_359, ⟨rfl, rfl⟩, ⟨hM1.1, rfl⟩, rfl, rfl, (by rw [ea]; exact M_giveOf hg hM1 (hR0.qf hFX) ha hI.1.1 hl _ _), fun y88 h88 hy88 => ?_⟩
            obtain ⟨rfl, hQ⟩ := hy88
            obtain ⟨F2, hM2, hF2, hk2⟩ := QF.tr' hFX (hkX.tr hk1) hQ
            refine ⟨by decide, _, _, hM2.1, rfl, ?_⟩
            refine ⟨by decide, _, _, hM2.1, rfl, ?_⟩
            refine ⟨fun c110 => ?_, fun c110 => ?_⟩
            · have c110 : ¬ (vin S.2.1.1 a se i * (S.2.1.1 (a * 10 + 4)).toInt64 * (vgift S.2.1.1 S.2.2.2.2.1.1.1 S.2.2.2.2.1.1.2.1 S.2.2.2.2.1.1.2.2 (nI S.2.2.2.1.2) a (nI i + 1) 0).toInt64 < px.toInt64 * (vall S.2.1.1 a se i * 16)) := fun q => absurd ((lgc_ge _ _).mp c110) (Int64.not_le.mpr (by rw [g1, g2, g4, Int64.mul_assoc px.toInt64, rg3]; exact q))
              refine step.1 _ _ _ _ _ _ _ sgX12_lineAt_116_ok ?_
              have kk := ih (i + 1) h88 y1 F2 (by omega) hM2 hF2 hk2 (by rw [← hres, llineF, if_neg (show ¬ vless _ _ _ _ _ _ = true from by unfold vless; rw [if_neg (fun z => c54 (hz.mp z))]; exact fun z => c110 (of_decide_eq_true z))])
              rw [← nI_1] at kk
              exact kk
            · have c110 : vin S.2.1.1 a se i * (S.2.1.1 (a * 10 + 4)).toInt64 * (vgift S.2.1.1 S.2.2.2.2.1.1.1 S.2.2.2.2.1.1.2.1 S.2.2.2.2.1.1.2.2 (nI S.2.2.2.1.2) a (nI i + 1) 0).toInt64 < px.toInt64 * (vall S.2.1.1 a se i * 16) := by
                have q := Int64.not_le.mp (fun q => c110 ((lgc_ge _ _).mpr q))
                rw [g1, g2, g4, Int64.mul_assoc px.toInt64, rg3] at q
                exact q
              refine step.1 _ _ _ _ _ _ _ sgX12_lineAt_113_ok ?_
              refine ⟨.int, rfl, rfl, Nat.le_refl _, Nat.le_refl _, ?_⟩
              exact Or.inl ⟨hD0, ⟨w1, w3⟩, ⟨a, ha, ea, by rw [← hres, llineF, if_pos (show vless _ _ _ _ _ _ = true from by unfold vless; rw [if_neg (fun z => c54 (hz.mp z))]; exact decide_eq_true c110)]⟩, MG.of hM2 hk2 (hR0.qf hF2) rfl⟩
          · have c54 : i1 + i2 = 0 := hz2.mp ((lgc0 _ _).mp c54)
            refine ⟨fun c58 => ?_, fun c58 => ?_⟩
            · have c58 : px ≤ 0 := c58
              refine step.1 _ _ _ _ _ _ _ sgX12_lineAt_116_ok ?_
              have kk := ih (i + 1) h40 y1 FX (by omega) hM1 hFX (hkX.tr hk1) (by rw [← hres, llineF, if_neg (show ¬ vless _ _ _ _ _ _ = true from by unfold vless; rw [if_pos (hz.mpr c54)]; exact fun z => absurd (of_decide_eq_true z) (Int32.not_lt.mpr c58))])
              rw [← nI_1] at kk
              exact kk
            · have c58 : ¬ px ≤ 0 := c58
              refine step.1 _ _ _ _ _ _ _ sgX12_lineAt_113_ok ?_
              refine ⟨.int, rfl, rfl, Nat.le_refl _, Nat.le_refl _, ?_⟩
              exact Or.inl ⟨hD0, ⟨w1, w3⟩, ⟨a, ha, ea, by rw [← hres, llineF, if_pos (show vless _ _ _ _ _ _ = true from by unfold vless; rw [if_pos (hz.mpr c54)]; exact decide_eq_true (Int32.not_le.mp c58))]⟩, MG.of hM1 (hkX.tr hk1) (hR0.qf hFX) rfl⟩
    refine ⟨fun _ => ?_, fun c20 => absurd c20 (by decide)⟩
    refine step.1 _ _ _ _ _ _ _ sgX12_lineAt_25_ok ?_
    exact loop 11 0 _ y F rfl hM0 (fun _ _ => rfl) hk0 rfl
end Q11L
