section Q11E
/-- refused: which counter, which code -/
def mbad (h h' : qH) (S : CS) (k : Nat) (c : Int32) : Prop := ∃ (x' : Nat → Int32) (y' : Nat → Int64) (F' : Nat → Nat → Int32) (G' : Nat → Nat → Int64), MX h' x' y' F' G' ∧ kp h h' ∧ Rel (bump S k) x' F' ∧ x' 0 = c
/-- answered, and told is what was told -/
def MG (h h' : qH) (S : CS) : Prop := ∃ (x' : Nat → Int32) (y' : Nat → Int64) (F' : Nat → Nat → Int32) (G' : Nat → Nat → Int64), MX h' x' y' F' G' ∧ kp h h' ∧ Rel S x' F' ∧ x' 0 = 0
theorem mbad.l {h h0 h' : qH} {S : CS} {k : Nat} {c : Int32} (a : kp h h0) (b : mbad h0 h' S k c) : mbad h h' S k c := by
  obtain ⟨x', y', F', G', h1, h2, h3, h4⟩ := b
  exact ⟨x', y', F', G', h1, a.tr h2, h3, h4⟩
theorem MG.of {h h' : qH} {S : CS} {x' : Nat → Int32} {y' : Nat → Int64} {F' : Nat → Nat → Int32} {G' : Nat → Nat → Int64} (h1 : MX h' x' y' F' G') (h2 : kp h h') (h3 : Rel S x' F') (h4 : x' 0 = 0) : MG h h' S := ⟨x', y', F', G', h1, h2, h3, h4⟩
theorem Rel.bump {S : CS} {x : Nat → Int32} {F : Nat → Nat → Int32} (hR : Rel S x F) (k : Nat) (hk : k < 3) (c : Int32) : Rel (bump S k) (upd x 0 c) (fup F 64 (upd (F 64) k (F 64 k + 1))) := by
  obtain ⟨hx, hb, hd, hl, hy, ⟨r0, r1, r2⟩, hc, hi⟩ := hR
  refine ⟨hx, hb, hd, hl, hy, ?_, hc, hi⟩
  rcases (show k = 0 ∨ k = 1 ∨ k = 2 by omega) with rfl | rfl | rfl
  · exact ⟨congrArg (· + 1) r0, r1, r2⟩
  · exact ⟨r0, congrArg (· + 1) r1, r2⟩
  · exact ⟨r0, r1, congrArg (· + 1) r2⟩
theorem M_mayB {g : qG} (hg : qOK g) {h : qH} {x : Nat → Int32} {y : Nat → Int64} {F : Nat → Nat → Int32} {G : Nat → Nat → Int64} (hM : MX h x y F G) {S : CS} (hR : Rel S x F) (hx : x 0 = 0) (c : Int32) (hc : ¬ c = 0) (k : Nat) (hk : k < 3) : qSpec g 1 0 0 mX12_may [.ref 63, .int 0, .int c, .int (nI k)] h (fun r h' => r = some (.int 0) ∧ mbad h h' S k c) := by
  refine qSpec_mono (M_may0 hg hM.1 hx hM.c64 c hc k hk) (fun r h' hy => ⟨hy.1, ?_⟩)
  rw [hy.2]
  exact ⟨_, _, _, _, (hM.u63 (upd x 0 c) y).u64 _, (kp.rf.u (by decide) (by decide)).u (by decide) (by decide), hR.bump k hk c, rfl⟩
theorem M_mayU {g : qG} (hg : qOK g) {h : qH} {x : Nat → Int32} {y : Nat → Int64} {F : Nat → Nat → Int32} {G : Nat → Nat → Int64} (hM : MX h x y F G) {S : CS} (hR : Rel S x F) (hx : x 0 = 0) (b : Bool) (c : Int32) (hc : ¬ c = 0) (k : Nat) (hk : k < 3) : qSpec g 1 0 0 mX12_may [.ref 63, .int (qb b), .int c, .int (nI k)] h (fun r h' => (b = false ∧ r = some (.int 0) ∧ mbad h h' S k c) ∨ (b = true ∧ r = some (.int 1) ∧ h' = h)) := by
  cases b with
  | false => exact qSpec_mono (M_mayB hg hM hR hx c hc k hk) (fun r h' hy => Or.inl ⟨rfl, hy⟩)
  | true => exact qSpec_mono (M_may hg hM.1 hx c (nI k)) (fun r h' hy => Or.inr ⟨rfl, hy⟩)
theorem M_isDoorU {g : qG} (hg : qOK g) {h : qH} {x : Nat → Int32} {y : Nat → Int64} {F : Nat → Nat → Int32} {G : Nat → Nat → Int64} (hM : MX h x y F G) {S : CS} (hR : Rel S x F) (hx : x 0 = 0) (d c : Int32) (hc : ¬ c = 0) : qSpec g 2 0 0 mX12_isDoor [.ref 63, .int d, .int c] h (fun r h' => (wi 0 (nI S.2.1.2.2.2.1 - 1) d = false ∧ r = some (.int 0) ∧ mbad h h' S 0 c) ∨ (wi 0 (nI S.2.1.2.2.2.1 - 1) d = true ∧ r = some (.int 1) ∧ h' = h)) := by
  have e : x 19 = nI S.2.1.2.2.2.1 := hR.1.2.2.1
  cases hw : wi 0 (nI S.2.1.2.2.2.1 - 1) d with
  | false =>
    refine qSpec_mono (M_isDoor0 hg hM.1 hx hM.c64 d c hc (by rw [e]; exact hw)) (fun r h' hy => Or.inl ⟨rfl, hy.1, ?_⟩)
    rw [hy.2]
    exact ⟨_, _, _, _, (hM.u63 (upd x 0 c) y).u64 _, (kp.rf.u (by decide) (by decide)).u (by decide) (by decide), hR.bump 0 (by decide) c, rfl⟩
  | true => exact qSpec_mono (M_isDoor hg hM.1 hx d c (by rw [e]; exact hw)) (fun r h' hy => Or.inr ⟨rfl, hy.1, hy.2⟩)
theorem M_isLineU {g : qG} (hg : qOK g) {h : qH} {x : Nat → Int32} {y : Nat → Int64} {F : Nat → Nat → Int32} {G : Nat → Nat → Int64} (hM : MX h x y F G) {S : CS} (hR : Rel S x F) (hx : x 0 = 0) (d c : Int32) (hc : ¬ c = 0) : qSpec g 2 0 0 mX12_isLine [.ref 63, .int d, .int c] h (fun r h' => (wi 0 (nI S.2.1.2.2.2.2.1 - 1) d = false ∧ r = some (.int 0) ∧ mbad h h' S 0 c) ∨ (wi 0 (nI S.2.1.2.2.2.2.1 - 1) d = true ∧ r = some (.int 1) ∧ h' = h)) := by
  have e : x 36 = nI S.2.1.2.2.2.2.1 := hR.1.2.2.2.2.2.2.2.1
  cases hw : wi 0 (nI S.2.1.2.2.2.2.1 - 1) d with
  | false =>
    refine qSpec_mono (M_isLine0 hg hM.1 hx hM.c64 d c hc (by rw [e]; exact hw)) (fun r h' hy => Or.inl ⟨rfl, hy.1, ?_⟩)
    rw [hy.2]
    exact ⟨_, _, _, _, (hM.u63 (upd x 0 c) y).u64 _, (kp.rf.u (by decide) (by decide)).u (by decide) (by decide), hR.bump 0 (by decide) c, rfl⟩
  | true => exact qSpec_mono (M_isLine hg hM.1 hx d c (by rw [e]; exact hw)) (fun r h' hy => Or.inr ⟨rfl, hy.1, hy.2⟩)
theorem M_told {g : qG} (hg : qOK g) {h : qH} {x : Nat → Int32} {y : Nat → Int64} {F : Nat → Nat → Int32} {G : Nat → Nat → Int64} (hM : MX h x y F G) {S : CS} (hR : Rel S x F) (v : Int32) : qSpec g 2 0 0 mX12_told [.ref 63, .int v] h (fun r h' => ((wi 0 6 v = true) ∧ (r = some (.int (if v = 0 then nI S.2.1.2.2.2.1 else if v = 1 then nI S.2.2.2.1.2 else if v = 2 then nI S.2.1.2.2.2.2.1 else if v = 3 then nI S.2.2.2.2.2.1.2.2 else if v = 4 then S.2.1.2.2.2.2.2.2.1 else if v = 5 then S.2.1.2.2.2.2.2.2.2.1 else S.2.1.2.2.2.2.2.2.2.2))) ∧ MG h h' S) ∨ ∃ (k : Nat) (c : Int32), ((k = 1 ∧ c = 1 ∧ ¬ (wi 0 6 v = true))) ∧ (∃ z, r = some (.int z)) ∧ mbad h h' S k c) := by
  refine qSpec_run 12 "told" false hg mX12_told_ok rfl rfl (Nat.le_of_ble_eq_true rfl) (by decide) ?_
  intro run step
  refine step.1 _ _ _ _ _ _ _ sgX12_told_0_ok ?_
  refine ⟨_, hM.1, Nat.le_of_ble_eq_true rfl, rfl, ?_⟩
  have hM0 := hM.p63 (sI_0 (v := 0) (rfl : _ = M63l x y))
  have hR0 : Rel S (upd x 0 0) F := hR.t 0
  have hk0 := kp.rf (h := h) |>.u (k := 63) (e := .inl (12, (M63l x y).set 0 (.int 0))) (by decide) (by decide)
  refine Or.inl ⟨rfl, _, 1, 0, 0, _, Or.inl qi_12_324, ⟨rfl, rfl⟩, rfl, rfl, M_within hg _ _ _, fun y10 h10 hy10 => ?_⟩
  obtain ⟨rfl, hh⟩ := hy10
  rw [hh]
  clear hh
  refine Or.inl ⟨rfl, _, 1, 0, 0, _, _, _, qi_12_247, ⟨rfl, rfl⟩, ⟨hM0.1, rfl⟩, rfl, rfl, M_mayU hg hM0 hR0 rfl _ 1 (by decide) 1 (by decide), fun y15 h15 hy15 => ?_⟩
  rcases hy15 with ⟨w15, rfl, hb⟩ | ⟨w15, rfl, hh⟩
  · refine ⟨fun c18 => absurd c18 (by decide), fun _ => ?_⟩
    refine ⟨.int, rfl, rfl, Nat.le_refl _, Nat.le_refl _, ?_⟩
    exact Or.inr ⟨1, 1, ⟨rfl, rfl, (by rw [w15]; decide)⟩, ⟨_, rfl⟩, mbad.l hk0 hb⟩
  · rw [hh]
    clear hh
    have hcs : v = 0 ∨ v = 1 ∨ v = 2 ∨ v = 3 ∨ v = 4 ∨ v = 5 ∨ v = 6 := by
      obtain ⟨q, hq, rfl⟩ := wi_nat (m := 6) (by decide) w15
      rcases (show q = 0 ∨ q = 1 ∨ q = 2 ∨ q = 3 ∨ q = 4 ∨ q = 5 ∨ q = 6 by omega) with rfl | rfl | rfl | rfl | rfl | rfl | rfl <;> decide
    obtain ⟨q2, q8, q19, q20, q21, q22, q23, q36, q37, q62, q64⟩ := hR.1
    refine ⟨fun _ => ?_, fun c18 => absurd c18 (by decide)⟩
    refine step.1 _ _ _ _ _ _ _ sgX12_told_23_ok ?_
    refine ⟨fun c25 => ?_, fun c25 => ?_⟩
    · refine step.1 _ _ _ _ _ _ _ sgX12_told_68_ok ?_
      refine ⟨fun c70 => ?_, fun c70 => ?_⟩
      · have d70 : ¬ v = 4 := c70
        refine step.1 _ _ _ _ _ _ _ sgX12_told_80_ok ?_
        refine ⟨fun c82 => ?_, fun c82 => ?_⟩
        · have d82 : ¬ v = 5 := c82
          refine step.1 _ _ _ _ _ _ _ sgX12_told_92_ok ?_
          refine ⟨by decide, _, _, hM0.1, rfl, ?_⟩
          refine step.1 _ _ _ _ _ _ _ sgX12_told_96_ok ?_
          refine ⟨.int, rfl, rfl, Nat.le_refl _, Nat.le_refl _, ?_⟩
          exact Or.inl ⟨w15, congrArg (fun z => some (Value.int z)) (by
            rcases hcs with rfl | rfl | rfl | rfl | rfl | rfl | rfl <;> first | exact q23 | (exfalso; revert c25 d70 d82; decide)), MG.of hM0 hk0 hR0 rfl⟩
        · have d82 : v = 5 := c82
          refine ⟨by decide, _, _, hM0.1, rfl, ?_⟩
          refine step.1 _ _ _ _ _ _ _ sgX12_told_96_ok ?_
          refine ⟨.int, rfl, rfl, Nat.le_refl _, Nat.le_refl _, ?_⟩
          exact Or.inl ⟨w15, congrArg (fun z => some (Value.int z)) (by
            rcases hcs with rfl | rfl | rfl | rfl | rfl | rfl | rfl <;> first | exact q22 | (exfalso; revert c25 d70 d82; decide)), MG.of hM0 hk0 hR0 rfl⟩
      · have d70 : v = 4 := c70
        refine ⟨by decide, _, _, hM0.1, rfl, ?_⟩
        refine step.1 _ _ _ _ _ _ _ sgX12_told_96_ok ?_
        refine ⟨.int, rfl, rfl, Nat.le_refl _, Nat.le_refl _, ?_⟩
        exact Or.inl ⟨w15, congrArg (fun z => some (Value.int z)) (by
          rcases hcs with rfl | rfl | rfl | rfl | rfl | rfl | rfl <;> first | exact q21 | (exfalso; revert c25 d70; decide)), MG.of hM0 hk0 hR0 rfl⟩
    · refine ⟨fun c29 => ?_, fun c29 => ?_⟩
      · have d29 : ¬ v = 0 := c29
        refine step.1 _ _ _ _ _ _ _ sgX12_told_39_ok ?_
        refine ⟨fun c41 => ?_, fun c41 => ?_⟩
        · have d41 : ¬ v = 1 := c41
          refine step.1 _ _ _ _ _ _ _ sgX12_told_51_ok ?_
          refine ⟨fun c53 => ?_, fun c53 => ?_⟩
          · have d53 : ¬ v = 2 := c53
            refine step.1 _ _ _ _ _ _ _ sgX12_told_63_ok ?_
            refine ⟨by decide, _, _, hM0.1, rfl, ?_⟩
            refine step.1 _ _ _ _ _ _ _ sgX12_told_67_ok ?_
            refine ⟨.int, rfl, rfl, Nat.le_refl _, Nat.le_refl _, ?_⟩
            exact Or.inl ⟨w15, congrArg (fun z => some (Value.int z)) (by
              rcases hcs with rfl | rfl | rfl | rfl | rfl | rfl | rfl <;> first | exact q37 | (exfalso; revert c25 d29 d41 d53; decide)), MG.of hM0 hk0 hR0 rfl⟩
          · have d53 : v = 2 := c53
            refine ⟨by decide, _, _, hM0.1, rfl, ?_⟩
            refine step.1 _ _ _ _ _ _ _ sgX12_told_67_ok ?_
            refine ⟨.int, rfl, rfl, Nat.le_refl _, Nat.le_refl _, ?_⟩
            exact Or.inl ⟨w15, congrArg (fun z => some (Value.int z)) (by
              rcases hcs with rfl | rfl | rfl | rfl | rfl | rfl | rfl <;> first | exact q36 | (exfalso; revert c25 d29 d41 d53; decide)), MG.of hM0 hk0 hR0 rfl⟩
        · have d41 : v = 1 := c41
          refine ⟨by decide, _, _, hM0.1, rfl, ?_⟩
          refine step.1 _ _ _ _ _ _ _ sgX12_told_67_ok ?_
          refine ⟨.int, rfl, rfl, Nat.le_refl _, Nat.le_refl _, ?_⟩
          exact Or.inl ⟨w15, congrArg (fun z => some (Value.int z)) (by
            rcases hcs with rfl | rfl | rfl | rfl | rfl | rfl | rfl <;> first | exact q20 | (exfalso; revert c25 d29 d41; decide)), MG.of hM0 hk0 hR0 rfl⟩
      · have d29 : v = 0 := c29
        refine ⟨by decide, _, _, hM0.1, rfl, ?_⟩
        refine step.1 _ _ _ _ _ _ _ sgX12_told_67_ok ?_
        refine ⟨.int, rfl, rfl, Nat.le_refl _, Nat.le_refl _, ?_⟩
        exact Or.inl ⟨w15, congrArg (fun z => some (Value.int z)) (by
          rcases hcs with rfl | rfl | rfl | rfl | rfl | rfl | rfl <;> first | exact q19 | (exfalso; revert c25 d29; decide)), MG.of hM0 hk0 hR0 rfl⟩
theorem M_door {g : qG} (hg : qOK g) {h : qH} {x : Nat → Int32} {y : Nat → Int64} {F : Nat → Nat → Int32} {G : Nat → Nat → Int64} (hM : MX h x y F G) {S : CS} (hR : Rel S x F) (hI : ROK S.2.1) (dr wh : Int32) : qSpec g 3 0 0 mX12_door [.ref 63, .int dr, .int wh] h (fun r h' => ((wi 0 (nI S.2.1.2.2.2.1 - 1) dr = true) ∧ (wi 0 9 wh = true) ∧ (∃ a b : Nat, a < S.2.1.2.2.2.1 ∧ b ≤ 9 ∧ dr = nI a ∧ wh = nI b ∧ r = some (.int (S.2.1.1 (a * 10 + b)))) ∧ MG h h' S) ∨ ∃ (k : Nat) (c : Int32), ((k = 0 ∧ c = 1 ∧ ¬ (wi 0 (nI S.2.1.2.2.2.1 - 1) dr = true)) ∨ (k = 1 ∧ c = 2 ∧ (wi 0 (nI S.2.1.2.2.2.1 - 1) dr = true) ∧ ¬ (wi 0 9 wh = true))) ∧ (∃ z, r = some (.int z)) ∧ mbad h h' S k c) := by
  refine qSpec_run 12 "door" false hg mX12_door_ok rfl rfl (Nat.le_of_ble_eq_true rfl) (by decide) ?_
  intro run step
  refine step.1 _ _ _ _ _ _ _ sgX12_door_0_ok ?_
  refine ⟨_, hM.1, Nat.le_of_ble_eq_true rfl, rfl, ?_⟩
  have hM0 := hM.p63 (sI_0 (v := 0) (rfl : _ = M63l x y))
  have hR0 : Rel S (upd x 0 0) F := hR.t 0
  have hk0 := kp.rf (h := h) |>.u (k := 63) (e := .inl (12, (M63l x y).set 0 (.int 0))) (by decide) (by decide)
  refine Or.inl ⟨rfl, _, 2, 0, 0, _, _, _, qi_12_343, ⟨rfl, rfl⟩, ⟨hM0.1, rfl⟩, rfl, rfl, M_isDoorU hg hM0 hR0 rfl _ 1 (by decide), fun y8 h8 hy8 => ?_⟩
  rcases hy8 with ⟨hD0, rfl, hb⟩ | ⟨hD0, rfl, hh⟩
  · refine ⟨fun _ => ?_, fun c11 => absurd c11 (by decide)⟩
    refine step.1 _ _ _ _ _ _ _ sgX12_door_30_ok ?_
    refine ⟨.int, rfl, rfl, Nat.le_refl _, Nat.le_refl _, ?_⟩
    exact Or.inr ⟨0, 1, (Or.inl (⟨rfl, rfl, (by rw [hD0]; decide)⟩)), ⟨_, rfl⟩, mbad.l hk0 hb⟩
  · rw [hh]
    clear hh
    refine ⟨fun c11 => absurd c11 (by decide), fun _ => ?_⟩
    refine Or.inl ⟨rfl, _, 1, 0, 0, _, Or.inl qi_12_324, ⟨rfl, rfl⟩, rfl, rfl, M_within hg _ _ _, fun y19 h19 hy19 => ?_⟩
    obtain ⟨rfl, hh⟩ := hy19
    rw [hh]
    clear hh
    refine Or.inl ⟨rfl, _, 1, 0, 0, _, _, _, qi_12_247, ⟨rfl, rfl⟩, ⟨hM0.1, rfl⟩, rfl, rfl, M_mayU hg hM0 hR0 rfl _ 2 (by decide) 1 (by decide), fun y24 h24 hy24 => ?_⟩
    rcases hy24 with ⟨w24, rfl, hb⟩ | ⟨w24, rfl, hh⟩
    · refine ⟨fun c27 => absurd c27 (by decide), fun _ => ?_⟩
      refine step.1 _ _ _ _ _ _ _ sgX12_door_30_ok ?_
      refine ⟨.int, rfl, rfl, Nat.le_refl _, Nat.le_refl _, ?_⟩
      exact Or.inr ⟨1, 2, (Or.inr (⟨rfl, rfl, hD0, (by rw [w24]; decide)⟩)), ⟨_, rfl⟩, mbad.l hk0 hb⟩
    · rw [hh]
      clear hh
      obtain ⟨a, ha, ea⟩ := wi_lt (by have := hI.1.1; omega) hD0
      obtain ⟨b, hb9, eb⟩ := wi_nat (m := 9) (by decide) w24
      have hn := hI.1.1
      have e9 : (10 * dr + wh : Int32) = nI (a * 10 + b) := by rw [ea, eb]; exact ixk (k := 10)
      refine ⟨fun _ => ?_, fun c27 => absurd c27 (by decide)⟩
      refine step.1 _ _ _ _ _ _ _ sgX12_door_32_ok ?_
      refine ⟨by decide, _, _, hM0.1, rfl, ?_⟩
      refine ⟨_, _, hM0.c67, (by rw [e9]; exact vp_in_nI (by omega) (by decide)), ?_⟩
      refine ⟨.int, rfl, rfl, Nat.le_refl _, Nat.le_refl _, ?_⟩
      exact Or.inl ⟨hD0, w24, ⟨a, b, ha, hb9, ea, eb, congrArg (fun z => some (Value.int z)) (by rw [e9, h_tn (n := a * 10 + b) (by omega)]; exact hR.2.2.1.1 _ (by omega))⟩, MG.of hM0 hk0 hR0 rfl⟩
theorem M_singer {g : qG} (hg : qOK g) {h : qH} {x : Nat → Int32} {y : Nat → Int64} {F : Nat → Nat → Int32} {G : Nat → Nat → Int64} (hM : MX h x y F G) {S : CS} (hR : Rel S x F) (hm : S.2.2.2.1.2 ≤ 8) (dr wh : Int32) : qSpec g 3 0 0 mX12_singer [.ref 63, .int dr, .int wh] h (fun r h' => ((wi 0 (nI S.2.2.2.1.2 - 1) dr = true) ∧ (wi 0 3 wh = true) ∧ (∃ a b : Nat, a < S.2.2.2.1.2 ∧ b ≤ 3 ∧ dr = nI a ∧ wh = nI b ∧ r = some (.int (S.2.2.2.1.1 (a * 4 + b)))) ∧ MG h h' S) ∨ ∃ (k : Nat) (c : Int32), ((k = 0 ∧ c = 1 ∧ ¬ (wi 0 (nI S.2.2.2.1.2 - 1) dr = true)) ∨ (k = 1 ∧ c = 2 ∧ (wi 0 (nI S.2.2.2.1.2 - 1) dr = true) ∧ ¬ (wi 0 3 wh = true))) ∧ (∃ z, r = some (.int z)) ∧ mbad h h' S k c) := by
  refine qSpec_run 12 "singer" false hg mX12_singer_ok rfl rfl (Nat.le_of_ble_eq_true rfl) (by decide) ?_
  intro run step
  have e20 : (upd x 0 0) 20 = nI S.2.2.2.1.2 := hR.1.2.2.2.1
  refine step.1 _ _ _ _ _ _ _ sgX12_singer_0_ok ?_
  refine ⟨_, hM.1, Nat.le_of_ble_eq_true rfl, rfl, ?_⟩
  have hM0 := hM.p63 (sI_0 (v := 0) (rfl : _ = M63l x y))
  have hR0 : Rel S (upd x 0 0) F := hR.t 0
  have hk0 := kp.rf (h := h) |>.u (k := 63) (e := .inl (12, (M63l x y).set 0 (.int 0))) (by decide) (by decide)
  refine ⟨by decide, _, _, hM0.1, rfl, ?_⟩
  refine Or.inl ⟨rfl, _, 1, 0, 0, _, Or.inl qi_12_324, ⟨rfl, rfl⟩, rfl, rfl, (by rw [e20]; exact M_within hg _ _ _), fun y14 h14 hy14 => ?_⟩
  obtain ⟨rfl, hh⟩ := hy14
  rw [hh]
  clear hh
  refine Or.inl ⟨rfl, _, 1, 0, 0, _, _, _, qi_12_247, ⟨rfl, rfl⟩, ⟨hM0.1, rfl⟩, rfl, rfl, M_mayU hg hM0 hR0 rfl _ 1 (by decide) 0 (by decide), fun y19 h19 hy19 => ?_⟩
  rcases hy19 with ⟨w19, rfl, hb⟩ | ⟨w19, rfl, hh⟩
  · refine ⟨fun _ => ?_, fun c22 => absurd c22 (by decide)⟩
    refine step.1 _ _ _ _ _ _ _ sgX12_singer_40_ok ?_
    refine ⟨.int, rfl, rfl, Nat.le_refl _, Nat.le_refl _, ?_⟩
    exact Or.inr ⟨0, 1, (Or.inl (⟨rfl, rfl, (by rw [w19]; decide)⟩)), ⟨_, rfl⟩, mbad.l hk0 hb⟩
  · rw [hh]
    clear hh
    refine ⟨fun c22 => absurd c22 (by decide), fun _ => ?_⟩
    refine Or.inl ⟨rfl, _, 1, 0, 0, _, Or.inl qi_12_324, ⟨rfl, rfl⟩, rfl, rfl, M_within hg _ _ _, fun y29 h29 hy29 => ?_⟩
    obtain ⟨rfl, hh⟩ := hy29
    rw [hh]
    clear hh
    refine Or.inl ⟨rfl, _, 1, 0, 0, _, _, _, qi_12_247, ⟨rfl, rfl⟩, ⟨hM0.1, rfl⟩, rfl, rfl, M_mayU hg hM0 hR0 rfl _ 2 (by decide) 1 (by decide), fun y34 h34 hy34 => ?_⟩
    rcases hy34 with ⟨w34, rfl, hb⟩ | ⟨w34, rfl, hh⟩
    · refine ⟨fun c37 => absurd c37 (by decide), fun _ => ?_⟩
      refine step.1 _ _ _ _ _ _ _ sgX12_singer_40_ok ?_
      refine ⟨.int, rfl, rfl, Nat.le_refl _, Nat.le_refl _, ?_⟩
      exact Or.inr ⟨1, 2, (Or.inr (⟨rfl, rfl, w19, (by rw [w34]; decide)⟩)), ⟨_, rfl⟩, mbad.l hk0 hb⟩
    · rw [hh]
      clear hh
      obtain ⟨a, ha, ea⟩ := wi_lt (by omega) w19
      obtain ⟨b, hb9, eb⟩ := wi_nat (m := 3) (by decide) w34
      have e9 : (4 * dr + wh : Int32) = nI (a * 4 + b) := by rw [ea, eb]; exact ixk (k := 4)
      refine ⟨fun _ => ?_, fun c37 => absurd c37 (by decide)⟩
      refine step.1 _ _ _ _ _ _ _ sgX12_singer_42_ok ?_
      refine ⟨by decide, _, _, hM0.1, rfl, ?_⟩
      refine ⟨_, _, hM0.c69, (by rw [e9]; exact vp_in_nI (n := a * 4 + b) (N := 32) (by omega) (by decide)), ?_⟩
      refine ⟨.int, rfl, rfl, Nat.le_refl _, Nat.le_refl _, ?_⟩
      exact Or.inl ⟨w19, w34, ⟨a, b, ha, hb9, ea, eb, congrArg (fun z => some (Value.int z)) (by rw [e9, h_tn (n := a * 4 + b) (by omega)]; exact hR.2.2.1.2.1 _ (by omega))⟩, MG.of hM0 hk0 hR0 rfl⟩
theorem M_gives {g : qG} (hg : qOK g) {h : qH} {x : Nat → Int32} {y : Nat → Int64} {F : Nat → Nat → Int32} {G : Nat → Nat → Int64} (hM : MX h x y F G) {S : CS} (hR : Rel S x F) (hI : ROK S.2.1) (hl : lwf S.2.2.2.2.1.1) (dr vs pl : Int32) : qSpec g 4 0 0 mX12_gives [.ref 63, .int dr, .int vs, .int pl] h (fun r h' => ((wi 0 (nI S.2.1.2.2.2.1 - 1) dr = true) ∧ (wi 0 60 vs = true ∧ wi 0 9 pl = true) ∧ (∃ a : Nat, a < S.2.1.2.2.2.1 ∧ dr = nI a ∧ r = some (.int (vgift S.2.1.1 S.2.2.2.2.1.1.1 S.2.2.2.2.1.1.2.1 S.2.2.2.2.1.1.2.2 (nI S.2.2.2.1.2) a vs pl))) ∧ MG h h' S) ∨ ∃ (k : Nat) (c : Int32), ((k = 0 ∧ c = 1 ∧ ¬ (wi 0 (nI S.2.1.2.2.2.1 - 1) dr = true)) ∨ (k = 1 ∧ c = 2 ∧ (wi 0 (nI S.2.1.2.2.2.1 - 1) dr = true) ∧ ¬ (wi 0 60 vs = true ∧ wi 0 9 pl = true))) ∧ (∃ z, r = some (.int z)) ∧ mbad h h' S k c) := by
  refine qSpec_run 12 "gives" false hg mX12_gives_ok rfl rfl (Nat.le_of_ble_eq_true rfl) (by decide) ?_
  intro run step
  refine step.1 _ _ _ _ _ _ _ sgX12_gives_0_ok ?_
  refine ⟨_, hM.1, Nat.le_of_ble_eq_true rfl, rfl, ?_⟩
  have hM0 := hM.p63 (sI_0 (v := 0) (rfl : _ = M63l x y))
  have hR0 : Rel S (upd x 0 0) F := hR.t 0
  have hk0 := kp.rf (h := h) |>.u (k := 63) (e := .inl (12, (M63l x y).set 0 (.int 0))) (by decide) (by decide)
  refine Or.inl ⟨rfl, _, 2, 0, 0, _, _, _, qi_12_343, ⟨rfl, rfl⟩, ⟨hM0.1, rfl⟩, rfl, rfl, M_isDoorU hg hM0 hR0 rfl _ 1 (by decide), fun y8 h8 hy8 => ?_⟩
  rcases hy8 with ⟨hD0, rfl, hb⟩ | ⟨hD0, rfl, hh⟩
  · refine ⟨fun _ => ?_, fun c11 => absurd c11 (by decide)⟩
    refine step.1 _ _ _ _ _ _ _ sgX12_gives_48_ok ?_
    refine ⟨.int, rfl, rfl, Nat.le_refl _, Nat.le_refl _, ?_⟩
    exact Or.inr ⟨0, 1, (Or.inl (⟨rfl, rfl, (by rw [hD0]; decide)⟩)), ⟨_, rfl⟩, mbad.l hk0 hb⟩
  · rw [hh]
    clear hh
    refine ⟨fun c11 => absurd c11 (by decide), fun _ => ?_⟩
    refine Or.inl ⟨rfl, _, 1, 0, 0, _, Or.inl qi_12_324, ⟨rfl, rfl⟩, rfl, rfl, M_within hg _ _ _, fun y19 h19 hy19 => ?_⟩
    obtain ⟨rfl, hh⟩ := hy19
    rw [hh]
    clear hh
    refine ⟨fun c22 => ?_, fun c22 => ?_⟩
    · have w22 : (wi 0 60 vs) = false := qb_0.mp c22
      refine step.1 _ _ _ _ _ _ _ sgX12_gives_39_ok ?_
      refine step.1 _ _ _ _ _ _ _ sgX12_gives_40_ok ?_
      refine Or.inl ⟨rfl, _, 1, 0, 0, _, _, _, qi_12_247, ⟨rfl, rfl⟩, ⟨hM0.1, rfl⟩, rfl, rfl, M_mayB hg hM0 hR0 rfl 2 (by decide) 1 (by decide), fun y42 h42 hy42 => ?_⟩
      obtain ⟨rfl, hb⟩ := hy42
      refine ⟨fun c45 => absurd c45 (by decide), fun _ => ?_⟩
      refine step.1 _ _ _ _ _ _ _ sgX12_gives_48_ok ?_
      refine ⟨.int, rfl, rfl, Nat.le_refl _, Nat.le_refl _, ?_⟩
      exact Or.inr ⟨1, 2, (Or.inr (⟨rfl, rfl, hD0, (fun z => absurd (z.1) (by rw [w22]; decide))⟩)), ⟨_, rfl⟩, mbad.l hk0 hb⟩
    · have w22 : (wi 0 60 vs) = true := qb_1.mp c22
      refine Or.inl ⟨rfl, _, 1, 0, 0, _, Or.inl qi_12_324, ⟨rfl, rfl⟩, rfl, rfl, M_within hg _ _ _, fun y29 h29 hy29 => ?_⟩
      obtain ⟨rfl, hh⟩ := hy29
      rw [hh]
      clear hh
      refine ⟨fun c32 => ?_, fun c32 => ?_⟩
      · have w32 : (wi 0 9 pl) = false := qb_0.mp c32
        refine step.1 _ _ _ _ _ _ _ sgX12_gives_39_ok ?_
        refine step.1 _ _ _ _ _ _ _ sgX12_gives_40_ok ?_
        refine Or.inl ⟨rfl, _, 1, 0, 0, _, _, _, qi_12_247, ⟨rfl, rfl⟩, ⟨hM0.1, rfl⟩, rfl, rfl, M_mayB hg hM0 hR0 rfl 2 (by decide) 1 (by decide), fun y42 h42 hy42 => ?_⟩
        obtain ⟨rfl, hb⟩ := hy42
        refine ⟨fun c45 => absurd c45 (by decide), fun _ => ?_⟩
        refine step.1 _ _ _ _ _ _ _ sgX12_gives_48_ok ?_
        refine ⟨.int, rfl, rfl, Nat.le_refl _, Nat.le_refl _, ?_⟩
        exact Or.inr ⟨1, 2, (Or.inr (⟨rfl, rfl, hD0, (fun z => absurd (z.2) (by rw [w32]; decide))⟩)), ⟨_, rfl⟩, mbad.l hk0 hb⟩
      · have w32 : (wi 0 9 pl) = true := qb_1.mp c32
        refine step.1 _ _ _ _ _ _ _ sgX12_gives_40_ok ?_
        refine Or.inl ⟨rfl, _, 1, 0, 0, _, _, _, qi_12_247, ⟨rfl, rfl⟩, ⟨hM0.1, rfl⟩, rfl, rfl, M_may hg hM0.1 rfl _ _, fun y42 h42 hy42 => ?_⟩
        obtain ⟨rfl, hh⟩ := hy42
        rw [hh]
        clear hh
        obtain ⟨a, ha, ea⟩ := wi_lt (by have := hI.1.1; omega) hD0
        refine ⟨fun _ => ?_, fun c45 => absurd c45 (by decide)⟩
        refine step.1 _ _ _ _ _ _ _ sgX12_gives_50_ok ?_
        refine Or.inl ⟨rfl, _, 3, 0, 0, _, _, _, qi_12_359, ⟨rfl, rfl⟩, ⟨hM0.1, rfl⟩, rfl, rfl, (by rw [ea]; exact M_giveOf hg hM0 hR0 ha hI.1.1 hl _ _), fun y54 h54 hy54 => ?_⟩
        obtain ⟨rfl, F2, hM2, hF2, hk2⟩ := hy54
        refine ⟨.int, rfl, rfl, Nat.le_refl _, Nat.le_refl _, ?_⟩
        exact Or.inl ⟨hD0, ⟨w22, w32⟩, ⟨a, ha, ea, rfl⟩, MG.of hM2 (hk0.tr hk2) (hR0.qf hF2) rfl⟩
end Q11E
