section Q11Q
theorem M_lastsBy {g : qG} (hg : qOK g) {h : qH} {x : Nat → Int32} {y : Nat → Int64} {F : Nat → Nat → Int32} {G : Nat → Nat → Int64} (hM : MX h x y F G) {S : CS} (hR : Rel S x F) (hQ : QOK S.2.2.2.1.1 S.2.2.2.1.2) (h93 : 93 ≤ h.1) (mm mi sp : Int32) {nd : Nat} (hnb : nd < 16) (hnd : ∀ p : Nat, p < 4 → nd.testBit p = (!decide (nI p = sp) && cneed S.2.2.2.1.1 (nI p) 0 S.2.2.2.1.2)) : qSpec g 2 100 400 mX12_lastsBy [.ref 63, .int mm, .int (nI nd), .int mi] h (fun r h' => r = some (.int (cmost S.2.2.2.1.1 S.2.2.2.1.2 mm mi sp 99)) ∧ h'.1 ≤ h.1 + 100 ∧ MX h' x y F G ∧ kp h h') := by
  refine qSpec_run 12 "lastsBy" false hg mX12_lastsBy_ok rfl rfl (Nat.le_of_ble_eq_true rfl) (by decide) ?_
  intro run step
  have hM8 : S.2.2.2.1.2 ≤ 8 := hQ.1
  have loop : ∀ (v k : Nat) (hX : qH), v + k = 99 → MX hX x y F G → kp h hX → 93 ≤ hX.1 → hX.1 = h.1 + k → (cmost S.2.2.2.1.1 S.2.2.2.1.2 mm mi sp v) = (cmost S.2.2.2.1.1 S.2.2.2.1.2 mm mi sp 99) → run 11 [(5, .int (nI v)), (4, .int (nI (msk (fun j => cthere S.2.2.2.1.1 j mi) S.2.2.2.1.2))), (0, .ref 63), (1, .int mm), (2, .int (nI nd)), (3, .int mi)] [] hX k (4 * k) := by
    intro v
    induction v with
    | zero =>
      intro k hX hv hMX hkX h3 hX0 hres
      refine step.1 _ _ _ _ _ _ _ sgX12_lastsBy_11_ok ?_
      refine Or.inl ⟨rfl, _, 1, 1, 4, _, _, _, qi_12_459, ⟨rfl, rfl⟩, ⟨hMX.1, rfl⟩, (qnum_i (by decide) (by omega) (by omega) (by decide)), rfl, M_canSing hg hMX hR hQ h3 (nI 0) mm mi sp hnb (Nat.lt_of_lt_of_le (msk_lt _ _) (Nat.pow_le_pow_right (n := 2) (by decide) hM8)) hnd (fun i hi => by rw [msk_bit, decide_eq_true hi]; rfl), fun y18 h18 hy18 => ?_⟩
      obtain ⟨rfl, hX1, hM1, hk1⟩ := hy18
      refine ⟨fun c21 => ?_, fun c21 => absurd (show qb (ccan S.2.2.2.1.1 S.2.2.2.1.2 (nI 0) mm mi sp 0 4 0) = 0 from c21) (by rw [show ccan S.2.2.2.1.1 S.2.2.2.1.2 (nI 0) mm mi sp 0 4 0 = true from ccan_0 hQ mm mi sp]; decide)⟩
      
      refine step.1 _ _ _ _ _ _ _ sgX12_lastsBy_30_ok ?_
      refine ⟨.int, rfl, rfl, (by omega), (by omega), ?_⟩
      exact ⟨by rw [← hres]; rfl, by omega, hM1, hkX.tr hk1⟩
    | succ v ih =>
      intro k hX hv hMX hkX h3 hX0 hres
      refine step.1 _ _ _ _ _ _ _ sgX12_lastsBy_11_ok ?_
      refine Or.inl ⟨rfl, _, 1, 1, 4, _, _, _, qi_12_459, ⟨rfl, rfl⟩, ⟨hMX.1, rfl⟩, (qnum_i (by decide) (by omega) (by omega) (by decide)), rfl, M_canSing hg hMX hR hQ h3 (nI (v + 1)) mm mi sp hnb (Nat.lt_of_lt_of_le (msk_lt _ _) (Nat.pow_le_pow_right (n := 2) (by decide) hM8)) hnd (fun i hi => by rw [msk_bit, decide_eq_true hi]; rfl), fun y18 h18 hy18 => ?_⟩
      obtain ⟨rfl, hX1, hM1, hk1⟩ := hy18
      refine ⟨fun c21 => ?_, fun c21 => ?_⟩
      · have d21 : ccan S.2.2.2.1.1 S.2.2.2.1.2 (nI (v + 1)) mm mi sp 0 4 0 = true := qb_1.mp c21
        refine step.1 _ _ _ _ _ _ _ sgX12_lastsBy_30_ok ?_
        refine ⟨.int, rfl, rfl, (by omega), (by omega), ?_⟩
        exact ⟨by rw [← hres, cmost, if_pos d21], by omega, hM1, hkX.tr hk1⟩
      · have d21 : ccan S.2.2.2.1.1 S.2.2.2.1.2 (nI (v + 1)) mm mi sp 0 4 0 = false := qb_0.mp c21
        have kk := ih (k + 1) h18 (by omega) hM1 (hkX.tr hk1) (by omega) (by omega) (by rw [← hres, cmost, if_neg (by rw [d21]; decide)])
        rw [show nI v = (nI (v + 1) + (-1) : Int32) from by rw [← nI_1]; generalize nI v = z; grind] at kk
        exact kk
  refine step.1 _ _ _ _ _ _ _ sgX12_lastsBy_0_ok ?_
  refine Or.inl ⟨rfl, _, 1, 0, 0, _, _, _, qi_12_456, ⟨rfl, rfl⟩, ⟨hM.1, rfl⟩, rfl, rfl, M_thereIn hg hM hR hQ mi, fun y2 h2 hy2 => ?_⟩
  obtain ⟨rfl, hh⟩ := hy2
  rw [hh]
  clear hh
  exact loop 99 0 _ rfl hM kp.rf h93 rfl rfl
theorem M_lasts {g : qG} (hg : qOK g) {h : qH} {x : Nat → Int32} {y : Nat → Int64} {F : Nat → Nat → Int32} {G : Nat → Nat → Int64} (hM : MX h x y F G) {S : CS} (hR : Rel S x F) (hQ : QOK S.2.2.2.1.1 S.2.2.2.1.2) (h93 : 93 ≤ h.1) (m mi : Int32) : qSpec g 3 100 400 mX12_lasts [.ref 63, .int m, .int mi] h (fun r h' => ((wi 0 8 m = true ∧ wi 0 480 mi = true) ∧ (r = some (.int (cmost S.2.2.2.1.1 S.2.2.2.1.2 m mi (-1) 99))) ∧ MG h h' S) ∨ ∃ (k : Nat) (c : Int32), ((k = 1 ∧ c = 1 ∧ ¬ (wi 0 8 m = true ∧ wi 0 480 mi = true))) ∧ (∃ z, r = some (.int z)) ∧ mbad h h' S k c) := by
  refine qSpec_run 12 "lasts" false hg mX12_lasts_ok rfl rfl (Nat.le_of_ble_eq_true rfl) (by decide) ?_
  intro run step
  have e20 : (upd x 0 0) 20 = nI S.2.2.2.1.2 := hR.1.2.2.2.1
  have hM8 : S.2.2.2.1.2 ≤ 8 := hQ.1
  have eall : ((1 : Int32) <<< ((upd x 0 0) 20 &&& 31)) - 1 = nI (2 ^ S.2.2.2.1.2 - 1) := by rw [e20]; exact all_nn _ (by omega)
  have hall : 2 ^ S.2.2.2.1.2 - 1 < 2 ^ 31 := by
    have : 2 ^ S.2.2.2.1.2 ≤ 2 ^ 8 := Nat.pow_le_pow_right (by decide) hM8
    omega
  refine step.1 _ _ _ _ _ _ _ sgX12_lasts_0_ok ?_
  refine ⟨_, hM.1, Nat.le_of_ble_eq_true rfl, rfl, ?_⟩
  have hM0 := hM.p63 (sI_0 (v := 0) (rfl : _ = M63l x y))
  have hR0 : Rel S (upd x 0 0) F := hR.t 0
  have hk0 := kp.rf (h := h) |>.u (k := 63) (e := .inl (12, (M63l x y).set 0 (.int 0))) (by decide) (by decide)
  refine Or.inl ⟨rfl, _, 1, 0, 0, _, Or.inl qi_12_324, ⟨rfl, rfl⟩, rfl, rfl, M_within hg _ _ _, fun y10 h10 hy10 => ?_⟩
  obtain ⟨rfl, hh⟩ := hy10
  rw [hh]
  clear hh
  refine ⟨fun c13 => ?_, fun c13 => ?_⟩
  · have w13 : (wi 0 8 m) = false := qb_0.mp c13
    refine step.1 _ _ _ _ _ _ _ sgX12_lasts_27_ok ?_
    refine step.1 _ _ _ _ _ _ _ sgX12_lasts_28_ok ?_
    refine Or.inl ⟨rfl, _, 1, 0, 0, _, _, _, qi_12_247, ⟨rfl, rfl⟩, ⟨hM0.1, rfl⟩, rfl, rfl, M_mayB hg hM0 hR0 rfl 1 (by decide) 1 (by decide), fun y30 h30 hy30 => ?_⟩
    obtain ⟨rfl, hb⟩ := hy30
    refine ⟨fun c33 => absurd c33 (by decide), fun _ => ?_⟩
    refine ⟨.int, rfl, rfl, (by decide), (by decide), ?_⟩
    exact Or.inr ⟨1, 1, ⟨rfl, rfl, (fun z => absurd (z.1) (by rw [w13]; decide))⟩, ⟨_, rfl⟩, mbad.l hk0 hb⟩
  · have w13 : (wi 0 8 m) = true := qb_1.mp c13
    refine Or.inl ⟨rfl, _, 1, 0, 0, _, Or.inl qi_12_463, ⟨rfl, rfl⟩, rfl, rfl, M_isMinute hg _, fun y17 h17 hy17 => ?_⟩
    obtain ⟨rfl, hh⟩ := hy17
    rw [hh]
    clear hh
    refine ⟨fun c20 => ?_, fun c20 => ?_⟩
    · have w20 : (wi 0 480 mi) = false := qb_0.mp c20
      refine step.1 _ _ _ _ _ _ _ sgX12_lasts_27_ok ?_
      refine step.1 _ _ _ _ _ _ _ sgX12_lasts_28_ok ?_
      refine Or.inl ⟨rfl, _, 1, 0, 0, _, _, _, qi_12_247, ⟨rfl, rfl⟩, ⟨hM0.1, rfl⟩, rfl, rfl, M_mayB hg hM0 hR0 rfl 1 (by decide) 1 (by decide), fun y30 h30 hy30 => ?_⟩
      obtain ⟨rfl, hb⟩ := hy30
      refine ⟨fun c33 => absurd c33 (by decide), fun _ => ?_⟩
      refine ⟨.int, rfl, rfl, (by decide), (by decide), ?_⟩
      exact Or.inr ⟨1, 1, ⟨rfl, rfl, (fun z => absurd (z.2) (by rw [w20]; decide))⟩, ⟨_, rfl⟩, mbad.l hk0 hb⟩
    · have w20 : (wi 0 480 mi) = true := qb_1.mp c20
      refine step.1 _ _ _ _ _ _ _ sgX12_lasts_28_ok ?_
      refine Or.inl ⟨rfl, _, 1, 0, 0, _, _, _, qi_12_247, ⟨rfl, rfl⟩, ⟨hM0.1, rfl⟩, rfl, rfl, M_may hg hM0.1 rfl _ _, fun y30 h30 hy30 => ?_⟩
      obtain ⟨rfl, hh⟩ := hy30
      rw [hh]
      clear hh
      refine ⟨fun _ => ?_, fun c33 => absurd c33 (by decide)⟩
      refine step.1 _ _ _ _ _ _ _ sgX12_lasts_38_ok ?_
      refine ⟨by decide, _, _, hM0.1, rfl, ?_⟩
      refine Or.inl ⟨rfl, _, 1, 0, 0, _, _, _, qi_12_466, ⟨rfl, rfl⟩, ⟨hM0.1, rfl⟩, rfl, rfl, (by rw [eall]; exact M_partsOf hg hM0 hR0 hQ _ hall), fun y49 h49 hy49 => ?_⟩
      obtain ⟨rfl, hh⟩ := hy49
      rw [hh, pmk_all]
      clear hh
      refine Or.inl ⟨rfl, _, 2, 100, 400, _, _, _, qi_12_469, ⟨rfl, rfl⟩, ⟨hM0.1, rfl⟩, rfl, rfl, M_lastsBy hg hM0 hR0 hQ h93 m mi (-1) (nd_lt hQ _) (fun p hp => by rw [need_bit hQ hp, decide_eq_false (nim1 (by omega))]; rfl), fun y53 h53 hy53 => ?_⟩
      obtain ⟨rfl, hX1, hM1, hk1⟩ := hy53
      refine ⟨.int, rfl, rfl, (by decide), (by decide), ?_⟩
      exact Or.inl ⟨⟨w13, w20⟩, rfl, MG.of hM1 (hk0.tr hk1) hR0 rfl⟩
theorem M_without {g : qG} (hg : qOK g) {h : qH} {x : Nat → Int32} {y : Nat → Int64} {F : Nat → Nat → Int32} {G : Nat → Nat → Int64} (hM : MX h x y F G) {S : CS} (hR : Rel S x F) (hQ : QOK S.2.2.2.1.1 S.2.2.2.1.2) (h93 : 93 ≤ h.1) (p m mi : Int32) : qSpec g 3 100 400 mX12_without [.ref 63, .int p, .int m, .int mi] h (fun r h' => ((wi 0 3 p = true ∧ wi 0 8 m = true ∧ wi 0 480 mi = true) ∧ (r = some (.int (cmost S.2.2.2.1.1 S.2.2.2.1.2 m mi p 99))) ∧ MG h h' S) ∨ ∃ (k : Nat) (c : Int32), ((k = 1 ∧ c = 1 ∧ ¬ (wi 0 3 p = true ∧ wi 0 8 m = true ∧ wi 0 480 mi = true))) ∧ (∃ z, r = some (.int z)) ∧ mbad h h' S k c) := by
  refine qSpec_run 12 "without" false hg mX12_without_ok rfl rfl (Nat.le_of_ble_eq_true rfl) (by decide) ?_
  intro run step
  have e20 : (upd x 0 0) 20 = nI S.2.2.2.1.2 := hR.1.2.2.2.1
  have hM8 : S.2.2.2.1.2 ≤ 8 := hQ.1
  have eall : ((1 : Int32) <<< ((upd x 0 0) 20 &&& 31)) - 1 = nI (2 ^ S.2.2.2.1.2 - 1) := by rw [e20]; exact all_nn _ (by omega)
  have hall : 2 ^ S.2.2.2.1.2 - 1 < 2 ^ 31 := by
    have : 2 ^ S.2.2.2.1.2 ≤ 2 ^ 8 := Nat.pow_le_pow_right (by decide) hM8
    omega
  refine step.1 _ _ _ _ _ _ _ sgX12_without_0_ok ?_
  refine ⟨_, hM.1, Nat.le_of_ble_eq_true rfl, rfl, ?_⟩
  have hM0 := hM.p63 (sI_0 (v := 0) (rfl : _ = M63l x y))
  have hR0 : Rel S (upd x 0 0) F := hR.t 0
  have hk0 := kp.rf (h := h) |>.u (k := 63) (e := .inl (12, (M63l x y).set 0 (.int 0))) (by decide) (by decide)
  refine Or.inl ⟨rfl, _, 1, 0, 0, _, Or.inl qi_12_324, ⟨rfl, rfl⟩, rfl, rfl, M_within hg _ _ _, fun y9 h9 hy9 => ?_⟩
  obtain ⟨rfl, hh⟩ := hy9
  rw [hh]
  clear hh
  refine ⟨fun c12 => ?_, fun c12 => ?_⟩
  · have w12 : (wi 0 3 p) = false := qb_0.mp c12
    refine step.1 _ _ _ _ _ _ _ sgX12_without_36_ok ?_
    refine step.1 _ _ _ _ _ _ _ sgX12_without_37_ok ?_
    refine Or.inl ⟨rfl, _, 1, 0, 0, _, _, _, qi_12_247, ⟨rfl, rfl⟩, ⟨hM0.1, rfl⟩, rfl, rfl, M_mayB hg hM0 hR0 rfl 1 (by decide) 1 (by decide), fun y39 h39 hy39 => ?_⟩
    obtain ⟨rfl, hb⟩ := hy39
    refine ⟨fun c42 => absurd c42 (by decide), fun _ => ?_⟩
    refine ⟨.int, rfl, rfl, (by decide), (by decide), ?_⟩
    exact Or.inr ⟨1, 1, ⟨rfl, rfl, (fun z => absurd (z.1) (by rw [w12]; decide))⟩, ⟨_, rfl⟩, mbad.l hk0 hb⟩
  · have w12 : (wi 0 3 p) = true := qb_1.mp c12
    refine Or.inl ⟨rfl, _, 1, 0, 0, _, Or.inl qi_12_324, ⟨rfl, rfl⟩, rfl, rfl, M_within hg _ _ _, fun y19 h19 hy19 => ?_⟩
    obtain ⟨rfl, hh⟩ := hy19
    rw [hh]
    clear hh
    refine ⟨fun c22 => ?_, fun c22 => ?_⟩
    · have w22 : (wi 0 8 m) = false := qb_0.mp c22
      refine step.1 _ _ _ _ _ _ _ sgX12_without_36_ok ?_
      refine step.1 _ _ _ _ _ _ _ sgX12_without_37_ok ?_
      refine Or.inl ⟨rfl, _, 1, 0, 0, _, _, _, qi_12_247, ⟨rfl, rfl⟩, ⟨hM0.1, rfl⟩, rfl, rfl, M_mayB hg hM0 hR0 rfl 1 (by decide) 1 (by decide), fun y39 h39 hy39 => ?_⟩
      obtain ⟨rfl, hb⟩ := hy39
      refine ⟨fun c42 => absurd c42 (by decide), fun _ => ?_⟩
      refine ⟨.int, rfl, rfl, (by decide), (by decide), ?_⟩
      exact Or.inr ⟨1, 1, ⟨rfl, rfl, (fun z => absurd (z.2.1) (by rw [w22]; decide))⟩, ⟨_, rfl⟩, mbad.l hk0 hb⟩
    · have w22 : (wi 0 8 m) = true := qb_1.mp c22
      refine Or.inl ⟨rfl, _, 1, 0, 0, _, Or.inl qi_12_463, ⟨rfl, rfl⟩, rfl, rfl, M_isMinute hg _, fun y26 h26 hy26 => ?_⟩
      obtain ⟨rfl, hh⟩ := hy26
      rw [hh]
      clear hh
      refine ⟨fun c29 => ?_, fun c29 => ?_⟩
      · have w29 : (wi 0 480 mi) = false := qb_0.mp c29
        refine step.1 _ _ _ _ _ _ _ sgX12_without_36_ok ?_
        refine step.1 _ _ _ _ _ _ _ sgX12_without_37_ok ?_
        refine Or.inl ⟨rfl, _, 1, 0, 0, _, _, _, qi_12_247, ⟨rfl, rfl⟩, ⟨hM0.1, rfl⟩, rfl, rfl, M_mayB hg hM0 hR0 rfl 1 (by decide) 1 (by decide), fun y39 h39 hy39 => ?_⟩
        obtain ⟨rfl, hb⟩ := hy39
        refine ⟨fun c42 => absurd c42 (by decide), fun _ => ?_⟩
        refine ⟨.int, rfl, rfl, (by decide), (by decide), ?_⟩
        exact Or.inr ⟨1, 1, ⟨rfl, rfl, (fun z => absurd (z.2.2) (by rw [w29]; decide))⟩, ⟨_, rfl⟩, mbad.l hk0 hb⟩
      · have w29 : (wi 0 480 mi) = true := qb_1.mp c29
        refine step.1 _ _ _ _ _ _ _ sgX12_without_37_ok ?_
        refine Or.inl ⟨rfl, _, 1, 0, 0, _, _, _, qi_12_247, ⟨rfl, rfl⟩, ⟨hM0.1, rfl⟩, rfl, rfl, M_may hg hM0.1 rfl _ _, fun y39 h39 hy39 => ?_⟩
        obtain ⟨rfl, hh⟩ := hy39
        rw [hh]
        clear hh
        obtain ⟨q, hq, eq⟩ := wi_nat (m := 3) (by decide) w12
        obtain ⟨o1, o2, o3⟩ := wo_b (pmk (fun _ => true) (qpt S.2.2.2.1.1) S.2.2.2.1.2) (nd_lt hQ _) q (by omega)
        refine ⟨fun _ => ?_, fun c42 => absurd c42 (by decide)⟩
        refine step.1 _ _ _ _ _ _ _ sgX12_without_47_ok ?_
        refine ⟨by decide, _, _, hM0.1, rfl, ?_⟩
        refine Or.inl ⟨rfl, _, 1, 0, 0, _, _, _, qi_12_466, ⟨rfl, rfl⟩, ⟨hM0.1, rfl⟩, rfl, rfl, (by rw [eall]; exact M_partsOf hg hM0 hR0 hQ _ hall), fun y58 h58 hy58 => ?_⟩
        obtain ⟨rfl, hh⟩ := hy58
        rw [hh, pmk_all]
        clear hh
        refine Or.inl ⟨rfl, _, 2, 100, 400, _, _, _, qi_12_469, ⟨rfl, rfl⟩, ⟨hM0.1, rfl⟩, rfl, rfl, (by rw [eq, o1]; exact M_lastsBy hg hM0 hR0 hQ h93 m mi (nI q) o2 (fun p hp => by rw [o3 p hp, need_bit hQ hp]; congr 2; rw [decide_eq_decide]; exact (nI_eq (by omega) (by omega)).symm)), fun y68 h68 hy68 => ?_⟩
        obtain ⟨rfl, hX1, hM1, hk1⟩ := hy68
        refine ⟨.int, rfl, rfl, (by decide), (by decide), ?_⟩
        exact Or.inl ⟨⟨w12, w22, w29⟩, (by rw [eq]), MG.of hM1 (hk0.tr hk1) hR0 rfl⟩
theorem M_there {g : qG} (hg : qOK g) {h : qH} {x : Nat → Int32} {y : Nat → Int64} {F : Nat → Nat → Int32} {G : Nat → Nat → Int64} (hM : MX h x y F G) {S : CS} (hR : Rel S x F) (hQ : QOK S.2.2.2.1.1 S.2.2.2.1.2) (mi : Int32) : qSpec g 2 0 0 mX12_there [.ref 63, .int mi] h (fun r h' => ((wi 0 480 mi = true) ∧ (r = some (.int (cnoth S.2.2.2.1.1 mi 0 S.2.2.2.1.2 0))) ∧ MG h h' S) ∨ ∃ (k : Nat) (c : Int32), ((k = 1 ∧ c = 1 ∧ ¬ (wi 0 480 mi = true))) ∧ (∃ z, r = some (.int z)) ∧ mbad h h' S k c) := by
  refine qSpec_run 12 "there" false hg mX12_there_ok rfl rfl (Nat.le_of_ble_eq_true rfl) (by decide) ?_
  intro run step
  refine step.1 _ _ _ _ _ _ _ sgX12_there_0_ok ?_
  refine ⟨_, hM.1, Nat.le_of_ble_eq_true rfl, rfl, ?_⟩
  have hM0 := hM.p63 (sI_0 (v := 0) (rfl : _ = M63l x y))
  have hR0 : Rel S (upd x 0 0) F := hR.t 0
  have hk0 := kp.rf (h := h) |>.u (k := 63) (e := .inl (12, (M63l x y).set 0 (.int 0))) (by decide) (by decide)
  refine Or.inl ⟨rfl, _, 1, 0, 0, _, Or.inl qi_12_463, ⟨rfl, rfl⟩, rfl, rfl, M_isMinute hg _, fun y7 h7 hy7 => ?_⟩
  obtain ⟨rfl, hh⟩ := hy7
  rw [hh]
  clear hh
  refine Or.inl ⟨rfl, _, 1, 0, 0, _, _, _, qi_12_247, ⟨rfl, rfl⟩, ⟨hM0.1, rfl⟩, rfl, rfl, M_mayU hg hM0 hR0 rfl _ 1 (by decide) 1 (by decide), fun y12 h12 hy12 => ?_⟩
  rcases hy12 with ⟨w12, rfl, hb⟩ | ⟨w12, rfl, hh⟩
  · refine ⟨fun c15 => absurd c15 (by decide), fun _ => ?_⟩
    refine ⟨.int, rfl, rfl, Nat.le_refl _, Nat.le_refl _, ?_⟩
    exact Or.inr ⟨1, 1, ⟨rfl, rfl, (by rw [w12]; decide)⟩, ⟨_, rfl⟩, mbad.l hk0 hb⟩
  · rw [hh]
    clear hh
    refine ⟨fun _ => ?_, fun c15 => absurd c15 (by decide)⟩
    refine step.1 _ _ _ _ _ _ _ sgX12_there_20_ok ?_
    refine Or.inl ⟨rfl, _, 1, 0, 0, _, _, _, qi_12_456, ⟨rfl, rfl⟩, ⟨hM0.1, rfl⟩, rfl, rfl, M_thereIn0 hg hM0 hR0 hQ mi, fun y22 h22 hy22 => ?_⟩
    obtain ⟨rfl, hh⟩ := hy22
    rw [hh]
    clear hh
    refine ⟨.int, rfl, rfl, Nat.le_refl _, Nat.le_refl _, ?_⟩
    exact Or.inl ⟨w12, rfl, MG.of hM0 hk0 hR0 rfl⟩
theorem M_flat {g : qG} (hg : qOK g) {h : qH} {x : Nat → Int32} {y : Nat → Int64} {F : Nat → Nat → Int32} {G : Nat → Nat → Int64} (hM : MX h x y F G) {S : CS} (hR : Rel S x F) (hQ : QOK S.2.2.2.1.1 S.2.2.2.1.2) : qSpec g 2 0 0 mX12_flat [.ref 63] h (fun r h' => (r = some (.int (cfirst S.2.2.2.1.1 S.2.2.2.1.2 0 4 (-1)))) ∧ MG h h' S) := by
  refine qSpec_run 12 "flat" false hg mX12_flat_ok rfl rfl (Nat.le_of_ble_eq_true rfl) (by decide) ?_
  intro run step
  have e20 : (upd x 0 0) 20 = nI S.2.2.2.1.2 := hR.1.2.2.2.1
  have hM8 : S.2.2.2.1.2 ≤ 8 := hQ.1
  have eall : ((1 : Int32) <<< ((upd x 0 0) 20 &&& 31)) - 1 = nI (2 ^ S.2.2.2.1.2 - 1) := by rw [e20]; exact all_nn _ (by omega)
  have hall : 2 ^ S.2.2.2.1.2 - 1 < 2 ^ 31 := by
    have : 2 ^ S.2.2.2.1.2 ≤ 2 ^ 8 := Nat.pow_le_pow_right (by decide) hM8
    omega
  have hM0 := hM.p63 (sI_0 (v := 0) (rfl : _ = M63l x y))
  have hR0 : Rel S (upd x 0 0) F := hR.t 0
  have hk0 := kp.rf (h := h) |>.u (k := 63) (e := .inl (12, (M63l x y).set 0 (.int 0))) (by decide) (by decide)
  have loop : ∀ (m i : Nat), i + m = 481 → (∀ u : Nat, u < i → ¬ (∃ p : Nat, p < 4 ∧ ¬ cgo S.2.2.2.1.1 S.2.2.2.1.2 (nI p) = -1 ∧ cgo S.2.2.2.1.1 S.2.2.2.1.2 (nI p) ≤ nI u)) → run 20 [(2, .int (nI i)), (1, .int (nI (pmk (fun _ => true) (qpt S.2.2.2.1.1) S.2.2.2.1.2))), (0, .ref 63)] [] (h.1, qup h.2 63 (.inl (12, (M63l x y).set 0 (.int 0)))) 0 0 := by
      intro m
      induction m with
      | zero =>
        intro i hi hno
        refine step.1 _ _ _ _ _ _ _ sgX12_flat_20_ok ?_
        refine ⟨fun c24 => ?_, fun c24 => absurd (show (480 : Int32) < nI i from (nI_ltI (a := 480) (by decide) (by omega)).mpr (by omega)) c24⟩
        
        refine step.1 _ _ _ _ _ _ _ sgX12_flat_48_ok ?_
        refine ⟨.int, rfl, rfl, Nat.le_refl _, Nat.le_refl _, ?_⟩
        exact ⟨congrArg (fun z => some (Value.int z)) (flat_none hQ (fun u hu => hno u (by omega))), MG.of hM0 hk0 hR0 rfl⟩
      | succ m ih =>
        intro i hi hno
        refine step.1 _ _ _ _ _ _ _ sgX12_flat_20_ok ?_
        refine ⟨fun c24 => absurd (show (480 : Int32) < nI i from c24) (fun q => absurd ((nI_ltI (a := 480) (by decide) (by omega)).mp q) (by omega)), fun c24 => ?_⟩
        
        refine Or.inl ⟨rfl, _, 1, 0, 0, _, _, _, qi_12_456, ⟨rfl, rfl⟩, ⟨hM0.1, rfl⟩, rfl, rfl, M_thereIn hg hM0 hR0 hQ (nI i), fun y30 h30 hy30 => ?_⟩
        obtain ⟨rfl, hh⟩ := hy30
        rw [hh]
        clear hh
        refine Or.inl ⟨rfl, _, 1, 0, 0, _, _, _, qi_12_466, ⟨rfl, rfl⟩, ⟨hM0.1, rfl⟩, rfl, rfl, M_partsOf hg hM0 hR0 hQ _ (Nat.lt_of_lt_of_le (msk_lt _ _) (Nat.le_trans (Nat.pow_le_pow_right (n := 2) (by decide) hM8) (by decide))), fun y33 h33 hy33 => ?_⟩
        obtain ⟨rfl, hh⟩ := hy33
        rw [hh]
        clear hh
        refine ⟨fun c37 => ?_, fun c37 => ?_⟩
        · have d37 : pmk (fun j => (msk (fun j => cthere S.2.2.2.1.1 j (nI i)) S.2.2.2.1.2).testBit j) (qpt S.2.2.2.1.1) S.2.2.2.1.2 = (pmk (fun _ => true) (qpt S.2.2.2.1.1) S.2.2.2.1.2) := (nI_eq (Nat.lt_of_lt_of_le (nd_lt hQ _) (by decide)) (Nat.lt_of_lt_of_le (nd_lt hQ _) (by decide))).mp c37
          refine step.1 _ _ _ _ _ _ _ sgX12_flat_42_ok ?_
          have kk := ih (i + 1) (by omega) (fun u hu => by
            by_cases e : u = i
            · subst e
              exact fun q => absurd d37 ((miss_e hQ u (by omega)).mpr q)
            · exact hno u (by omega))
          rw [← nI_1] at kk
          exact kk
        · have d37 : ¬ pmk (fun j => (msk (fun j => cthere S.2.2.2.1.1 j (nI i)) S.2.2.2.1.2).testBit j) (qpt S.2.2.2.1.1) S.2.2.2.1.2 = (pmk (fun _ => true) (qpt S.2.2.2.1.1) S.2.2.2.1.2) := fun q => c37 (congrArg nI q)
          refine ⟨.int, rfl, rfl, Nat.le_refl _, Nat.le_refl _, ?_⟩
          exact ⟨congrArg (fun z => some (Value.int z)) (flat_hit hQ (by omega) ((miss_e hQ i (by omega)).mp d37) hno), MG.of hM0 hk0 hR0 rfl⟩
  refine step.1 _ _ _ _ _ _ _ sgX12_flat_0_ok ?_
  refine ⟨_, hM.1, Nat.le_of_ble_eq_true rfl, rfl, ?_⟩
  have hM0 := hM.p63 (sI_0 (v := 0) (rfl : _ = M63l x y))
  have hR0 : Rel S (upd x 0 0) F := hR.t 0
  have hk0 := kp.rf (h := h) |>.u (k := 63) (e := .inl (12, (M63l x y).set 0 (.int 0))) (by decide) (by decide)
  refine ⟨by decide, _, _, hM0.1, rfl, ?_⟩
  refine Or.inl ⟨rfl, _, 1, 0, 0, _, _, _, qi_12_466, ⟨rfl, rfl⟩, ⟨hM0.1, rfl⟩, rfl, rfl, (by rw [eall]; exact M_partsOf hg hM0 hR0 hQ _ hall), fun y14 h14 hy14 => ?_⟩
  obtain ⟨rfl, hh⟩ := hy14
  rw [hh, pmk_all]
  clear hh
  exact loop 481 0 (by omega) (fun u hu => absurd hu (Nat.not_lt_zero u))
end Q11Q
