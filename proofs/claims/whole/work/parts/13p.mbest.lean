section Q13P
theorem M_isBestU {g : qG} (hg : qOK g) {h : qH} {x : Nat → Int32} {y : Nat → Int64} {F : Nat → Nat → Int32} {G : Nat → Nat → Int64} (hM : MX h x y F G) {S : CS} (hR : Rel S x F) (hn : S.2.1.2.2.2.1 ≤ 10) (hx : x 0 = 0) (w : Int32) (b : Bool) (c : Int32) (hc : ¬ c = 0) (hc2 : ¬ c + 1 = 0) : qSpec g 2 0 0 mX12_isBest [.ref 63, .int w, .int (qb b), .int c] h (fun r h' => (¬ (wi 0 9 w = true ∧ b = true) ∧ r = some (.int 0) ∧ mbad h h' S 1 c) ∨ ((wi 0 9 w = true ∧ b = true) ∧ ¬ S.2.1.2.2.2.1 ≤ 5 ∧ r = some (.int 0) ∧ mbad h h' S 2 (c + 1)) ∨ ((wi 0 9 w = true ∧ b = true) ∧ S.2.1.2.2.2.1 ≤ 5 ∧ r = some (.int 1) ∧ h' = h)) := by
  refine qSpec_run 12 "isBest" false hg mX12_isBest_ok rfl rfl (Nat.le_of_ble_eq_true rfl) (by decide) ?_
  intro run step
  have e19 : x 19 = nI S.2.1.2.2.2.1 := hR.1.2.2.1
  refine step.1 _ _ _ _ _ _ _ sgX12_isBest_0_ok ?_
  refine Or.inl ⟨rfl, _, 1, 0, 0, _, Or.inl qi_12_324, ⟨rfl, rfl⟩, rfl, rfl, M_within hg _ _ _, fun y5 h5 hy5 => ?_⟩
  obtain ⟨rfl, hh⟩ := hy5
  rw [hh]
  clear hh
  refine ⟨fun c8 => ?_, fun c8 => ?_⟩
  · have w8 : (wi 0 9 w) = false := qb_0.mp c8
    refine step.1 _ _ _ _ _ _ _ sgX12_isBest_19_ok ?_
    refine step.1 _ _ _ _ _ _ _ sgX12_isBest_20_ok ?_
    refine Or.inl ⟨rfl, _, 1, 0, 0, _, _, _, qi_12_247, ⟨rfl, rfl⟩, ⟨hM.1, rfl⟩, rfl, rfl, M_mayB hg hM hR hx c hc 1 (by decide), fun y22 h22 hy22 => ?_⟩
    obtain ⟨rfl, hb⟩ := hy22
    refine ⟨fun _ => ?_, fun c25 => absurd c25 (by decide)⟩
    refine step.1 _ _ _ _ _ _ _ sgX12_isBest_56_ok ?_
    refine step.1 _ _ _ _ _ _ _ sgX12_isBest_57_ok ?_
    refine ⟨.boolean, rfl, rfl, Nat.le_refl _, Nat.le_refl _, ?_⟩
    exact Or.inl ⟨fun z => absurd z.1 (by rw [w8]; decide), rfl, hb⟩
  · have w8 : (wi 0 9 w) = true := qb_1.mp c8
    refine ⟨fun c12 => ?_, fun c12 => ?_⟩
    · have w12 : b = false := qb_0.mp c12
      refine step.1 _ _ _ _ _ _ _ sgX12_isBest_19_ok ?_
      refine step.1 _ _ _ _ _ _ _ sgX12_isBest_20_ok ?_
      refine Or.inl ⟨rfl, _, 1, 0, 0, _, _, _, qi_12_247, ⟨rfl, rfl⟩, ⟨hM.1, rfl⟩, rfl, rfl, M_mayB hg hM hR hx c hc 1 (by decide), fun y22 h22 hy22 => ?_⟩
      obtain ⟨rfl, hb⟩ := hy22
      refine ⟨fun _ => ?_, fun c25 => absurd c25 (by decide)⟩
      refine step.1 _ _ _ _ _ _ _ sgX12_isBest_56_ok ?_
      refine step.1 _ _ _ _ _ _ _ sgX12_isBest_57_ok ?_
      refine ⟨.boolean, rfl, rfl, Nat.le_refl _, Nat.le_refl _, ?_⟩
      exact Or.inl ⟨fun z => absurd z.2 (by rw [w12]; decide), rfl, hb⟩
    · have w12 : b = true := qb_1.mp c12
      refine step.1 _ _ _ _ _ _ _ sgX12_isBest_20_ok ?_
      refine Or.inl ⟨rfl, _, 1, 0, 0, _, _, _, qi_12_247, ⟨rfl, rfl⟩, ⟨hM.1, rfl⟩, rfl, rfl, M_may hg hM.1 hx _ _, fun y22 h22 hy22 => ?_⟩
      obtain ⟨rfl, hh⟩ := hy22
      rw [hh]
      clear hh
      refine ⟨fun c25 => absurd c25 (by decide), fun _ => ?_⟩
      refine ⟨by decide, _, _, hM.1, rfl, ?_⟩
      refine ⟨fun c34 => ?_, fun c34 => ?_⟩
      · have hd5 : ¬ S.2.1.2.2.2.1 ≤ 5 := fun q => absurd (show nI 5 < nI S.2.1.2.2.2.1 from by rw [← e19]; exact c34) (nI_nlt q (by omega))
        refine step.1 _ _ _ _ _ _ _ sgX12_isBest_41_ok ?_
        refine step.1 _ _ _ _ _ _ _ sgX12_isBest_42_ok ?_
        refine Or.inl ⟨rfl, _, 1, 0, 0, _, _, _, qi_12_247, ⟨rfl, rfl⟩, ⟨hM.1, rfl⟩, rfl, rfl, M_mayB hg hM hR hx (c + 1) hc2 2 (by decide), fun y46 h46 hy46 => ?_⟩
        obtain ⟨rfl, hb⟩ := hy46
        refine ⟨fun _ => ?_, fun c49 => absurd c49 (by decide)⟩
        refine step.1 _ _ _ _ _ _ _ sgX12_isBest_56_ok ?_
        refine step.1 _ _ _ _ _ _ _ sgX12_isBest_57_ok ?_
        refine ⟨.boolean, rfl, rfl, Nat.le_refl _, Nat.le_refl _, ?_⟩
        exact Or.inr (Or.inl ⟨⟨w8, w12⟩, hd5, rfl, hb⟩)
      · have hd5 : S.2.1.2.2.2.1 ≤ 5 := Nat.le_of_not_lt fun q => c34 (by rw [e19]; exact nI_lt q (by omega))
        refine step.1 _ _ _ _ _ _ _ sgX12_isBest_42_ok ?_
        refine Or.inl ⟨rfl, _, 1, 0, 0, _, _, _, qi_12_247, ⟨rfl, rfl⟩, ⟨hM.1, rfl⟩, rfl, rfl, M_may hg hM.1 hx _ _, fun y46 h46 hy46 => ?_⟩
        obtain ⟨rfl, hh⟩ := hy46
        rw [hh]
        clear hh
        refine ⟨fun c49 => absurd c49 (by decide), fun _ => ?_⟩
        refine step.1 _ _ _ _ _ _ _ sgX12_isBest_57_ok ?_
        refine ⟨.boolean, rfl, rfl, Nat.le_refl _, Nat.le_refl _, ?_⟩
        exact Or.inr (Or.inr ⟨⟨w8, w12⟩, hd5, rfl, rfl⟩)
/-- what a plan does at a door, told -/
def bcode (q : Nat) : Int32 := if q = 0 then -1 else 10 * nI ((q - 1) / 3) + nI ((q - 1) % 3)
theorem lexO_b {R : RT} (hR : ROK R) (K V : Nat → Int32) (N : Nat) (m : Int32) {w0 : Nat} (hw : w0 ≤ 9) (hd5 : R.2.2.2.1 ≤ 5) {X : Nat → Nat} {T : Nat → Nat → Nat} {st cl V0 : Nat} {ch : Nat → Nat} (h : lexO X (nA (sval R.1 K V N m R.2.2.2.2.2.2.2.1 (nI w0))) T R.2.2.2.1 st cl V0 ch) : V0 ≤ 2 ^ 48 := by
  have h1 := sumN_b (f := fun a => nA (sval R.1 K V N m R.2.2.2.2.2.2.2.1 (nI w0)) a (ch a)) (B := 2 ^ 42) R.2.2.2.1 (fun a ha => (oval_n hR K V N m hw ha (h.2.1.1 a ha)).2)
  have h2 : R.2.2.2.1 * 2 ^ 42 ≤ 5 * 2 ^ 42 := Nat.mul_le_mul_right _ hd5
  have h3 : sumN (fun a => nA (sval R.1 K V N m R.2.2.2.2.2.2.2.1 (nI w0)) a (ch a)) R.2.2.2.1 = V0 := h.2.2.1
  omega
theorem M_best {g : qG} (hg : qOK g) {h : qH} {x : Nat → Int32} {y : Nat → Int64} {F : Nat → Nat → Int32} {G : Nat → Nat → Int64} (hM : MX h x y F G) {S : CS} (hR : Rel S x F) (hI : ROK S.2.1) (hl : lwf S.2.2.2.2.1.1) (w pt : Int32) : qSpec g 8 0 0 mX12_best [.ref 63, .int w, .int pt] h (fun r h' => ((wi 0 9 w = true ∧ wi 0 1 pt = true) ∧ S.2.1.2.2.2.1 ≤ 5 ∧ (∃ (V0 : Nat) (ch : Nat → Nat), lexO (nX S.2.1.1) (nA (sval S.2.1.1 S.2.2.2.2.1.1.1 S.2.2.2.2.1.1.2.1 S.2.2.2.2.1.1.2.2 (nI S.2.2.2.1.2) S.2.1.2.2.2.2.2.2.2.1 w)) (nT (slen S.2.1.1 S.2.1.2.2.2.2.2.2.2.1)) S.2.1.2.2.2.1 (S.2.1.2.2.2.2.2.2.1).toNatClampNeg (S.2.1.2.2.2.2.2.2.2.2).toNatClampNeg V0 ch ∧ r = some (.long (lterms (Int64.ofNat V0) 268435456 pt))) ∧ MG h h' S) ∨ ∃ (k : Nat) (c : Int32), ((k = 1 ∧ c = 1 ∧ ¬ (wi 0 9 w = true ∧ wi 0 1 pt = true)) ∨ (k = 2 ∧ c = 2 ∧ (wi 0 9 w = true ∧ wi 0 1 pt = true) ∧ ¬ S.2.1.2.2.2.1 ≤ 5)) ∧ (∃ z, r = some (.long z)) ∧ mbad h h' S k c) := by
  refine qSpec_run 12 "best" false hg mX12_best_ok rfl rfl (Nat.le_of_ble_eq_true rfl) (by decide) ?_
  intro run step
  refine step.1 _ _ _ _ _ _ _ sgX12_best_0_ok ?_
  refine ⟨_, hM.1, Nat.le_of_ble_eq_true rfl, rfl, ?_⟩
  have hM0 := hM.p63 (sI_0 (v := 0) (rfl : _ = M63l x y))
  have hR0 : Rel S (upd x 0 0) F := hR.t 0
  have hk0 := kp.rf (h := h) |>.u (k := 63) (e := .inl (12, (M63l x y).set 0 (.int 0))) (by decide) (by decide)
  refine Or.inl ⟨rfl, _, 1, 0, 0, _, Or.inl qi_12_324, ⟨rfl, rfl⟩, rfl, rfl, M_within hg _ _ _, fun y10 h10 hy10 => ?_⟩
  obtain ⟨rfl, hh⟩ := hy10
  rw [hh]
  clear hh
  refine Or.inl ⟨rfl, _, 2, 0, 0, _, _, _, qi_12_433, ⟨rfl, rfl⟩, ⟨hM0.1, rfl⟩, rfl, rfl, M_isBestU hg hM0 hR0 hI.1.1 rfl w (wi 0 1 pt) 1 (by decide) (by decide), fun y14 h14 hy14 => ?_⟩
  rcases hy14 with ⟨hnb, rfl, hb⟩ | ⟨hgb, hnd, rfl, hb⟩ | ⟨hgb, hd5, rfl, hh⟩
  · refine ⟨fun c17 => absurd c17 (by decide), fun _ => ?_⟩
    refine ⟨rfl, Nat.le_refl _, Nat.le_refl _, ?_⟩
    exact Or.inr ⟨1, 1, Or.inl ⟨rfl, rfl, hnb⟩, ⟨_, rfl⟩, mbad.l hk0 hb⟩
  · refine ⟨fun c17 => absurd c17 (by decide), fun _ => ?_⟩
    refine ⟨rfl, Nat.le_refl _, Nat.le_refl _, ?_⟩
    exact Or.inr ⟨2, 2, Or.inr ⟨rfl, rfl, hgb, hnd⟩, ⟨_, rfl⟩, mbad.l hk0 hb⟩
  · rw [hh]
    clear hh
    obtain ⟨w0, hw9, rfl⟩ := wi_nat (m := 9) (by decide) hgb.1
    refine ⟨fun _ => ?_, fun c17 => absurd c17 (by decide)⟩
    refine step.1 _ _ _ _ _ _ _ sgX12_best_22_ok ?_
    refine Or.inl ⟨rfl, _, 6, 0, 0, _, _, _, qi_12_437, ⟨rfl, rfl⟩, ⟨hM0.1, rfl⟩, rfl, rfl, M_findBest hg hM0 hR0 hI hl hd5 hw9, fun y24 h24 hy24 => ?_⟩
    obtain ⟨rfl, x2, y2, F2, G2, hQ2, V0, ch, hL, h49, h50, h84⟩ := hy24
    refine ⟨by decide, _, _, hQ2.1.1, rfl, ?_⟩
    refine Or.inl ⟨rfl, _, 1, 0, 0, _, Or.inl qi_12_393, ⟨rfl, rfl⟩, rfl, rfl, (by rw [h49]; exact M_least hg V0 268435456 pt (by have := lexO_b hI _ _ _ _ hw9 hd5 hL; omega) (by decide) (by decide) (p01 hgb.2)), fun y35 h35 hy35 => ?_⟩
    obtain ⟨rfl, hh⟩ := hy35
    rw [hh]
    clear hh
    refine ⟨rfl, Nat.le_refl _, Nat.le_refl _, ?_⟩
    exact Or.inl ⟨hgb, hd5, ⟨V0, ch, hL, rfl⟩, hQ2.mg hk0 hR0 rfl⟩
theorem M_bestLong {g : qG} (hg : qOK g) {h : qH} {x : Nat → Int32} {y : Nat → Int64} {F : Nat → Nat → Int32} {G : Nat → Nat → Int64} (hM : MX h x y F G) {S : CS} (hR : Rel S x F) (hI : ROK S.2.1) (hl : lwf S.2.2.2.2.1.1) (w : Int32) : qSpec g 8 0 0 mX12_bestLong [.ref 63, .int w] h (fun r h' => (wi 0 9 w = true ∧ S.2.1.2.2.2.1 ≤ 5 ∧ (∃ (V0 : Nat) (ch : Nat → Nat), lexO (nX S.2.1.1) (nA (sval S.2.1.1 S.2.2.2.2.1.1.1 S.2.2.2.2.1.1.2.1 S.2.2.2.2.1.1.2.2 (nI S.2.2.2.1.2) S.2.1.2.2.2.2.2.2.2.1 w)) (nT (slen S.2.1.1 S.2.1.2.2.2.2.2.2.2.1)) S.2.1.2.2.2.1 (S.2.1.2.2.2.2.2.2.1).toNatClampNeg (S.2.1.2.2.2.2.2.2.2.2).toNatClampNeg V0 ch ∧ r = some (.int (nI (sumN (fun a => (nT (slen S.2.1.1 S.2.1.2.2.2.2.2.2.2.1)) a (ch a)) S.2.1.2.2.2.1 + wayC (nX S.2.1.1) S.2.1.2.2.2.1 (S.2.1.2.2.2.2.2.2.1).toNatClampNeg ch)))) ∧ MG h h' S) ∨ ∃ (k : Nat) (c : Int32), ((k = 1 ∧ c = 1 ∧ ¬ wi 0 9 w = true) ∨ (k = 2 ∧ c = 2 ∧ wi 0 9 w = true ∧ ¬ S.2.1.2.2.2.1 ≤ 5)) ∧ (∃ z, r = some (.int z)) ∧ mbad h h' S k c) := by
  refine qSpec_run 12 "bestLong" false hg mX12_bestLong_ok rfl rfl (Nat.le_of_ble_eq_true rfl) (by decide) ?_
  intro run step
  refine step.1 _ _ _ _ _ _ _ sgX12_bestLong_0_ok ?_
  refine ⟨_, hM.1, Nat.le_of_ble_eq_true rfl, rfl, ?_⟩
  have hM0 := hM.p63 (sI_0 (v := 0) (rfl : _ = M63l x y))
  have hR0 : Rel S (upd x 0 0) F := hR.t 0
  have hk0 := kp.rf (h := h) |>.u (k := 63) (e := .inl (12, (M63l x y).set 0 (.int 0))) (by decide) (by decide)
  refine Or.inl ⟨rfl, _, 2, 0, 0, _, _, _, qi_12_433, ⟨rfl, rfl⟩, ⟨hM0.1, rfl⟩, rfl, rfl, M_isBestU hg hM0 hR0 hI.1.1 rfl w true 1 (by decide) (by decide), fun y9 h9 hy9 => ?_⟩
  rcases hy9 with ⟨hnb, rfl, hb⟩ | ⟨hgb, hnd, rfl, hb⟩ | ⟨hgb, hd5, rfl, hh⟩
  · refine ⟨fun c12 => absurd c12 (by decide), fun _ => ?_⟩
    refine ⟨.int, rfl, rfl, Nat.le_refl _, Nat.le_refl _, ?_⟩
    exact Or.inr ⟨1, 1, Or.inl ⟨rfl, rfl, fun z => hnb ⟨z, rfl⟩⟩, ⟨_, rfl⟩, mbad.l hk0 hb⟩
  · refine ⟨fun c12 => absurd c12 (by decide), fun _ => ?_⟩
    refine ⟨.int, rfl, rfl, Nat.le_refl _, Nat.le_refl _, ?_⟩
    exact Or.inr ⟨2, 2, Or.inr ⟨rfl, rfl, hgb.1, hnd⟩, ⟨_, rfl⟩, mbad.l hk0 hb⟩
  · rw [hh]
    clear hh
    obtain ⟨w0, hw9, rfl⟩ := wi_nat (m := 9) (by decide) hgb.1
    refine ⟨fun _ => ?_, fun c12 => absurd c12 (by decide)⟩
    refine step.1 _ _ _ _ _ _ _ sgX12_bestLong_17_ok ?_
    refine Or.inl ⟨rfl, _, 6, 0, 0, _, _, _, qi_12_437, ⟨rfl, rfl⟩, ⟨hM0.1, rfl⟩, rfl, rfl, M_findBest hg hM0 hR0 hI hl hd5 hw9, fun y19 h19 hy19 => ?_⟩
    obtain ⟨rfl, x2, y2, F2, G2, hQ2, V0, ch, hL, h49, h50, h84⟩ := hy19
    refine ⟨by decide, _, _, hQ2.1.1, rfl, ?_⟩
    refine ⟨.int, rfl, rfl, Nat.le_refl _, Nat.le_refl _, ?_⟩
    exact Or.inl ⟨hgb.1, hd5, ⟨V0, ch, hL, congrArg (fun z => some (Value.int z)) h50⟩, hQ2.mg hk0 hR0 rfl⟩
theorem M_bestAt {g : qG} (hg : qOK g) {h : qH} {x : Nat → Int32} {y : Nat → Int64} {F : Nat → Nat → Int32} {G : Nat → Nat → Int64} (hM : MX h x y F G) {S : CS} (hR : Rel S x F) (hI : ROK S.2.1) (hl : lwf S.2.2.2.2.1.1) (w dr : Int32) : qSpec g 8 0 0 mX12_bestAt [.ref 63, .int w, .int dr] h (fun r h' => ((wi 0 (nI S.2.1.2.2.2.1 - 1) dr = true) ∧ wi 0 9 w = true ∧ S.2.1.2.2.2.1 ≤ 5 ∧ (∃ a : Nat, a < S.2.1.2.2.2.1 ∧ dr = nI a ∧ ∃ (V0 : Nat) (ch : Nat → Nat), lexO (nX S.2.1.1) (nA (sval S.2.1.1 S.2.2.2.2.1.1.1 S.2.2.2.2.1.1.2.1 S.2.2.2.2.1.1.2.2 (nI S.2.2.2.1.2) S.2.1.2.2.2.2.2.2.2.1 w)) (nT (slen S.2.1.1 S.2.1.2.2.2.2.2.2.2.1)) S.2.1.2.2.2.1 (S.2.1.2.2.2.2.2.2.1).toNatClampNeg (S.2.1.2.2.2.2.2.2.2.2).toNatClampNeg V0 ch ∧ r = some (.int (bcode (ch a)))) ∧ MG h h' S) ∨ ∃ (k : Nat) (c : Int32), ((k = 0 ∧ c = 1 ∧ ¬ (wi 0 (nI S.2.1.2.2.2.1 - 1) dr = true)) ∨ (k = 1 ∧ c = 2 ∧ (wi 0 (nI S.2.1.2.2.2.1 - 1) dr = true) ∧ ¬ wi 0 9 w = true) ∨ (k = 2 ∧ c = 3 ∧ (wi 0 (nI S.2.1.2.2.2.1 - 1) dr = true) ∧ wi 0 9 w = true ∧ ¬ S.2.1.2.2.2.1 ≤ 5)) ∧ (∃ z, r = some (.int z)) ∧ mbad h h' S k c) := by
  refine qSpec_run 12 "bestAt" false hg mX12_bestAt_ok rfl rfl (Nat.le_of_ble_eq_true rfl) (by decide) ?_
  intro run step
  refine step.1 _ _ _ _ _ _ _ sgX12_bestAt_0_ok ?_
  refine ⟨_, hM.1, Nat.le_of_ble_eq_true rfl, rfl, ?_⟩
  have hM0 := hM.p63 (sI_0 (v := 0) (rfl : _ = M63l x y))
  have hR0 : Rel S (upd x 0 0) F := hR.t 0
  have hk0 := kp.rf (h := h) |>.u (k := 63) (e := .inl (12, (M63l x y).set 0 (.int 0))) (by decide) (by decide)
  refine Or.inl ⟨rfl, _, 2, 0, 0, _, _, _, qi_12_343, ⟨rfl, rfl⟩, ⟨hM0.1, rfl⟩, rfl, rfl, M_isDoorU hg hM0 hR0 rfl _ 1 (by decide), fun y8 h8 hy8 => ?_⟩
  rcases hy8 with ⟨hD0, rfl, hb⟩ | ⟨hD0, rfl, hh⟩
  · refine ⟨fun _ => ?_, fun c11 => absurd c11 (by decide)⟩
    refine step.1 _ _ _ _ _ _ _ sgX12_bestAt_24_ok ?_
    refine ⟨.int, rfl, rfl, Nat.le_refl _, Nat.le_refl _, ?_⟩
    exact Or.inr ⟨0, 1, Or.inl ⟨rfl, rfl, by rw [hD0]; decide⟩, ⟨_, rfl⟩, mbad.l hk0 hb⟩
  · rw [hh]
    clear hh
    refine ⟨fun c11 => absurd c11 (by decide), fun _ => ?_⟩
    refine Or.inl ⟨rfl, _, 2, 0, 0, _, _, _, qi_12_433, ⟨rfl, rfl⟩, ⟨hM0.1, rfl⟩, rfl, rfl, M_isBestU hg hM0 hR0 hI.1.1 rfl w true 2 (by decide) (by decide), fun y18 h18 hy18 => ?_⟩
    rcases hy18 with ⟨hnb, rfl, hb⟩ | ⟨hgb, hnd, rfl, hb⟩ | ⟨hgb, hd5, rfl, hh⟩
    · refine ⟨fun c21 => absurd c21 (by decide), fun _ => ?_⟩
      refine step.1 _ _ _ _ _ _ _ sgX12_bestAt_24_ok ?_
      refine ⟨.int, rfl, rfl, Nat.le_refl _, Nat.le_refl _, ?_⟩
      exact Or.inr ⟨1, 2, Or.inr (Or.inl ⟨rfl, rfl, hD0, fun z => hnb ⟨z, rfl⟩⟩), ⟨_, rfl⟩, mbad.l hk0 hb⟩
    · refine ⟨fun c21 => absurd c21 (by decide), fun _ => ?_⟩
      refine step.1 _ _ _ _ _ _ _ sgX12_bestAt_24_ok ?_
      refine ⟨.int, rfl, rfl, Nat.le_refl _, Nat.le_refl _, ?_⟩
      exact Or.inr ⟨2, 3, Or.inr (Or.inr ⟨rfl, rfl, hD0, hgb.1, hnd⟩), ⟨_, rfl⟩, mbad.l hk0 hb⟩
    · rw [hh]
      clear hh
      obtain ⟨w0, hw9, rfl⟩ := wi_nat (m := 9) (by decide) hgb.1
      refine ⟨fun _ => ?_, fun c21 => absurd c21 (by decide)⟩
      refine step.1 _ _ _ _ _ _ _ sgX12_bestAt_26_ok ?_
      refine Or.inl ⟨rfl, _, 6, 0, 0, _, _, _, qi_12_437, ⟨rfl, rfl⟩, ⟨hM0.1, rfl⟩, rfl, rfl, M_findBest hg hM0 hR0 hI hl hd5 hw9, fun y28 h28 hy28 => ?_⟩
      obtain ⟨rfl, x2, y2, F2, G2, hQ2, V0, ch, hL, h49, h50, h84⟩ := hy28
      obtain ⟨a, ha, ea⟩ := wi_lt (by have := hI.1.1; omega) hD0
      have e36 : F2 84 dr.toNatClampNeg = nI (ch a) := by rw [ea, h_tn (by omega)]; exact h84 a ha
      refine ⟨by decide, _, _, hQ2.1.1, rfl, ?_⟩
      refine ⟨_, _, hQ2.1.c84, (by rw [ea]; exact vp_in_nI (by omega) (by decide)), ?_⟩
      refine ⟨fun c39 => ?_, fun c39 => ?_⟩
      · refine step.1 _ _ _ _ _ _ _ sgX12_bestAt_46_ok ?_
        refine ⟨by decide, ?_⟩
        refine ⟨by decide, ?_⟩
        refine step.1 _ _ _ _ _ _ _ sgX12_bestAt_60_ok ?_
        refine ⟨.int, rfl, rfl, Nat.le_refl _, Nat.le_refl _, ?_⟩
        refine Or.inl ⟨hD0, hgb.1, hd5, ⟨a, ha, ea, V0, ch, hL, congrArg (fun z => some (Value.int z)) ?_⟩, hQ2.mg hk0 hR0 rfl⟩
        obtain ⟨u, hu⟩ : ∃ u : Nat, ch a = u + 1 := ⟨ch a - 1, by have : ch a ≠ 0 := fun q => c39 (by rw [e36, q]; rfl); omega⟩
        have hdm := way_dm u (by have := hL.2.1.1 a ha; omega)
        show 10 * ((F2 84 dr.toNatClampNeg - 1) / 3) + ((F2 84 dr.toNatClampNeg - 1) - (F2 84 dr.toNatClampNeg - 1) / 3 * 3) = bcode (ch a)
        unfold bcode
        rw [e36, hu, nI_pred, hdm.1, hdm.2, if_neg (by omega), Nat.add_sub_cancel]
      · refine step.1 _ _ _ _ _ _ _ sgX12_bestAt_60_ok ?_
        refine ⟨.int, rfl, rfl, Nat.le_refl _, Nat.le_refl _, ?_⟩
        refine Or.inl ⟨hD0, hgb.1, hd5, ⟨a, ha, ea, V0, ch, hL, congrArg (fun z => some (Value.int z)) ?_⟩, hQ2.mg hk0 hR0 rfl⟩
        have h0 : ch a = 0 := (nI_eq (by have := hL.2.1.1 a ha; omega) (by decide)).mp (by rw [← e36]; exact c39)
        unfold bcode
        rw [if_pos h0]
end Q13P
