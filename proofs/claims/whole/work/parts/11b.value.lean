section Q11B
section
variable {h : qH} {x : Nat → Int32} {y : Nat → Int64} {F : Nat → Nat → Int32} {G : Nat → Nat → Int64}
theorem MX.v76 (hM : MX h x y F G) {n : Nat} {f : Nat → Option qE} {w : Nat → Int32} (h1 : f 76 = some (aI' 10 w)) (h2 : ∀ j : Nat, j ≠ 76 → f j = h.2 j) : MX (n, f) x y (fup F 76 w) G := ⟨(h2 63 (by decide)).trans hM.1, fun j a b => by
  by_cases c : j = 76
  · subst c; exact h1
  · rw [mcell_f c]; exact (h2 j c).trans (hM.2 j a b)⟩
/-- only the stack and the facts are other ones -/
def QF (h h' : qH) (x : Nat → Int32) (y : Nat → Int64) (F : Nat → Nat → Int32) (G : Nat → Nat → Int64) : Prop := ∃ F' : Nat → Nat → Int32, MX h' x y F' G ∧ (∀ j : Nat, j ∉ [75, 76] → F' j = F j) ∧ kp h h'
theorem QF.rf (hM : MX h x y F G) : QF h h x y F G := ⟨F, hM, fun _ _ => rfl, kp.rf⟩
theorem QF.mq {F' : Nat → Nat → Int32} (a : ∀ j : Nat, j ∉ [75, 76] → F' j = F j) : mq x x F F' := ⟨fun _ _ => rfl, fun j hj => a j (fun q => hj (by simp at q ⊢; omega))⟩
end
theorem M_both2 {g : qG} (hg : qOK g) {h : qH} (a b : Int32) : qSpec g 1 0 0 mX12_both [.int 2, .int a, .int b] h (fun r h' => r = some (.int (ljoin 2 a b)) ∧ h' = h) := by
  refine qSpec_run 12 "both" false hg mX12_both_ok rfl rfl (Nat.le_of_ble_eq_true rfl) (by decide) ?_
  intro run step
  refine step.1 _ _ _ _ _ _ _ sgX12_both_0_ok ?_
  refine ⟨fun c2 => absurd c2 (by decide), fun _ => ?_⟩
  refine ⟨.int, rfl, rfl, Nat.le_refl _, Nat.le_refl _, ?_⟩
  exact ⟨rfl, rfl⟩
theorem M_both3 {g : qG} (hg : qOK g) {h : qH} (a b : Int32) : qSpec g 1 0 0 mX12_both [.int 3, .int a, .int b] h (fun r h' => r = some (.int (ljoin 3 a b)) ∧ h' = h) := by
  refine qSpec_run 12 "both" false hg mX12_both_ok rfl rfl (Nat.le_of_ble_eq_true rfl) (by decide) ?_
  intro run step
  refine step.1 _ _ _ _ _ _ _ sgX12_both_0_ok ?_
  refine ⟨fun _ => ?_, fun c2 => absurd c2 (by decide)⟩
  refine step.1 _ _ _ _ _ _ _ sgX12_both_9_ok ?_
  refine ⟨fun c11 => absurd c11 (by decide), fun _ => ?_⟩
  refine ⟨.int, rfl, rfl, Nat.le_refl _, Nat.le_refl _, ?_⟩
  exact ⟨rfl, rfl⟩
theorem M_both4 {g : qG} (hg : qOK g) {h : qH} (a b : Int32) : qSpec g 1 0 0 mX12_both [.int 4, .int a, .int b] h (fun r h' => r = some (.int (ljoin 4 a b)) ∧ h' = h) := by
  refine qSpec_run 12 "both" false hg mX12_both_ok rfl rfl (Nat.le_of_ble_eq_true rfl) (by decide) ?_
  intro run step
  refine step.1 _ _ _ _ _ _ _ sgX12_both_0_ok ?_
  refine ⟨fun _ => ?_, fun c2 => absurd c2 (by decide)⟩
  refine step.1 _ _ _ _ _ _ _ sgX12_both_9_ok ?_
  refine ⟨fun _ => ?_, fun c11 => absurd c11 (by decide)⟩
  refine step.1 _ _ _ _ _ _ _ sgX12_both_18_ok ?_
  refine ⟨fun c20 => absurd c20 (by decide), fun _ => ?_⟩
  refine ⟨.int, rfl, rfl, Nat.le_refl _, Nat.le_refl _, ?_⟩
  exact ⟨rfl, rfl⟩
theorem M_both5 {g : qG} (hg : qOK g) {h : qH} (a b : Int32) : qSpec g 1 0 0 mX12_both [.int 5, .int a, .int b] h (fun r h' => r = some (.int (ljoin 5 a b)) ∧ h' = h) := by
  refine qSpec_run 12 "both" false hg mX12_both_ok rfl rfl (Nat.le_of_ble_eq_true rfl) (by decide) ?_
  intro run step
  refine step.1 _ _ _ _ _ _ _ sgX12_both_0_ok ?_
  refine ⟨fun _ => ?_, fun c2 => absurd c2 (by decide)⟩
  refine step.1 _ _ _ _ _ _ _ sgX12_both_9_ok ?_
  refine ⟨fun _ => ?_, fun c11 => absurd c11 (by decide)⟩
  refine step.1 _ _ _ _ _ _ _ sgX12_both_18_ok ?_
  refine ⟨fun _ => ?_, fun c20 => absurd c20 (by decide)⟩
  refine step.1 _ _ _ _ _ _ _ sgX12_both_27_ok ?_
  refine ⟨fun c29 => absurd c29 (by decide), fun _ => ?_⟩
  refine ⟨fun c33 => ?_, fun c33 => ?_⟩
  · have c33 : ¬ b = 0 := c33
    refine step.1 _ _ _ _ _ _ _ sgX12_both_40_ok ?_
    refine ⟨c33, ?_⟩
    refine step.1 _ _ _ _ _ _ _ sgX12_both_43_ok ?_
    refine ⟨.int, rfl, rfl, Nat.le_refl _, Nat.le_refl _, ?_⟩
    exact ⟨congrArg (fun z => some (Value.int z)) (show a / b = ljoin 5 a b from (if_neg c33 : (if b = 0 then 0 else a / b) = a / b).symm), rfl⟩
  · have c33 : b = 0 := c33
    refine step.1 _ _ _ _ _ _ _ sgX12_both_43_ok ?_
    refine ⟨.int, rfl, rfl, Nat.le_refl _, Nat.le_refl _, ?_⟩
    exact ⟨congrArg (fun z => some (Value.int z)) (show (0 : Int32) = ljoin 5 a b from (if_pos c33 : (if b = 0 then 0 else a / b) = 0).symm), rfl⟩
theorem M_both6 {g : qG} (hg : qOK g) {h : qH} (a b : Int32) : qSpec g 1 0 0 mX12_both [.int 6, .int a, .int b] h (fun r h' => r = some (.int (ljoin 6 a b)) ∧ h' = h) := by
  refine qSpec_run 12 "both" false hg mX12_both_ok rfl rfl (Nat.le_of_ble_eq_true rfl) (by decide) ?_
  intro run step
  refine step.1 _ _ _ _ _ _ _ sgX12_both_0_ok ?_
  refine ⟨fun _ => ?_, fun c2 => absurd c2 (by decide)⟩
  refine step.1 _ _ _ _ _ _ _ sgX12_both_9_ok ?_
  refine ⟨fun _ => ?_, fun c11 => absurd c11 (by decide)⟩
  refine step.1 _ _ _ _ _ _ _ sgX12_both_18_ok ?_
  refine ⟨fun _ => ?_, fun c20 => absurd c20 (by decide)⟩
  refine step.1 _ _ _ _ _ _ _ sgX12_both_27_ok ?_
  refine ⟨fun _ => ?_, fun c29 => absurd c29 (by decide)⟩
  refine step.1 _ _ _ _ _ _ _ sgX12_both_44_ok ?_
  refine ⟨fun c46 => ?_, fun c46 => ?_⟩
  · have c46 : b ≤ a := c46
    refine step.1 _ _ _ _ _ _ _ sgX12_both_53_ok ?_
    refine step.1 _ _ _ _ _ _ _ sgX12_both_54_ok ?_
    refine ⟨fun c57 => absurd c57 (by decide), fun _ => ?_⟩
    refine step.1 _ _ _ _ _ _ _ sgX12_both_65_ok ?_
    refine ⟨fun _ => ?_, fun c65 => absurd c65 (by decide)⟩
    refine step.1 _ _ _ _ _ _ _ sgX12_both_72_ok ?_
    refine step.1 _ _ _ _ _ _ _ sgX12_both_73_ok ?_
    refine ⟨.int, rfl, rfl, Nat.le_refl _, Nat.le_refl _, ?_⟩
    exact ⟨congrArg (fun z => some (Value.int z)) (show b = ljoin 6 a b from (if_pos c46 : (if b ≤ a then b else a) = b).symm), rfl⟩
  · have c46 : ¬ b ≤ a := c46
    refine step.1 _ _ _ _ _ _ _ sgX12_both_54_ok ?_
    refine ⟨fun c57 => absurd c57 (by decide), fun _ => ?_⟩
    refine step.1 _ _ _ _ _ _ _ sgX12_both_65_ok ?_
    refine ⟨fun c65 => absurd c65 (by decide), fun _ => ?_⟩
    refine step.1 _ _ _ _ _ _ _ sgX12_both_73_ok ?_
    refine ⟨.int, rfl, rfl, Nat.le_refl _, Nat.le_refl _, ?_⟩
    exact ⟨congrArg (fun z => some (Value.int z)) (show a = ljoin 6 a b from (if_neg c46 : (if b ≤ a then b else a) = a).symm), rfl⟩
theorem M_both7 {g : qG} (hg : qOK g) {h : qH} (a b : Int32) : qSpec g 1 0 0 mX12_both [.int 7, .int a, .int b] h (fun r h' => r = some (.int (ljoin 7 a b)) ∧ h' = h) := by
  refine qSpec_run 12 "both" false hg mX12_both_ok rfl rfl (Nat.le_of_ble_eq_true rfl) (by decide) ?_
  intro run step
  refine step.1 _ _ _ _ _ _ _ sgX12_both_0_ok ?_
  refine ⟨fun _ => ?_, fun c2 => absurd c2 (by decide)⟩
  refine step.1 _ _ _ _ _ _ _ sgX12_both_9_ok ?_
  refine ⟨fun _ => ?_, fun c11 => absurd c11 (by decide)⟩
  refine step.1 _ _ _ _ _ _ _ sgX12_both_18_ok ?_
  refine ⟨fun _ => ?_, fun c20 => absurd c20 (by decide)⟩
  refine step.1 _ _ _ _ _ _ _ sgX12_both_27_ok ?_
  refine ⟨fun _ => ?_, fun c29 => absurd c29 (by decide)⟩
  refine step.1 _ _ _ _ _ _ _ sgX12_both_44_ok ?_
  refine ⟨fun c46 => ?_, fun c46 => ?_⟩
  · have c46 : b ≤ a := c46
    refine step.1 _ _ _ _ _ _ _ sgX12_both_53_ok ?_
    refine step.1 _ _ _ _ _ _ _ sgX12_both_54_ok ?_
    refine ⟨fun _ => ?_, fun c57 => absurd c57 (by decide)⟩
    refine step.1 _ _ _ _ _ _ _ sgX12_both_64_ok ?_
    refine step.1 _ _ _ _ _ _ _ sgX12_both_65_ok ?_
    refine ⟨fun c65 => absurd c65 (by decide), fun _ => ?_⟩
    refine step.1 _ _ _ _ _ _ _ sgX12_both_73_ok ?_
    refine ⟨.int, rfl, rfl, Nat.le_refl _, Nat.le_refl _, ?_⟩
    exact ⟨congrArg (fun z => some (Value.int z)) (show a = (if a ≤ b then b else a) from by
        by_cases c : a ≤ b
        · rw [if_pos c, Int32.le_antisymm c c46]
        · rw [if_neg c]), rfl⟩
  · have c46 : ¬ b ≤ a := c46
    refine step.1 _ _ _ _ _ _ _ sgX12_both_54_ok ?_
    refine ⟨fun _ => ?_, fun c57 => absurd c57 (by decide)⟩
    refine step.1 _ _ _ _ _ _ _ sgX12_both_64_ok ?_
    refine step.1 _ _ _ _ _ _ _ sgX12_both_65_ok ?_
    refine ⟨fun _ => ?_, fun c65 => absurd c65 (by decide)⟩
    refine step.1 _ _ _ _ _ _ _ sgX12_both_72_ok ?_
    refine step.1 _ _ _ _ _ _ _ sgX12_both_73_ok ?_
    refine ⟨.int, rfl, rfl, Nat.le_refl _, Nat.le_refl _, ?_⟩
    exact ⟨congrArg (fun z => some (Value.int z)) (show b = ljoin 7 a b from (if_pos (Int32.le_of_lt (Int32.not_le.mp c46)) : (if a ≤ b then b else a) = b).symm), rfl⟩
theorem M_both {g : qG} (hg : qOK g) {h : qH} (k : Nat) (h2 : 2 ≤ k) (h7 : k ≤ 7) (a b : Int32) : qSpec g 1 0 0 mX12_both [.int (nI k), .int a, .int b] h (fun r h' => r = some (.int (ljoin (nI k) a b)) ∧ h' = h) := by
  rcases (show k = 2 ∨ k = 3 ∨ k = 4 ∨ k = 5 ∨ k = 6 ∨ k = 7 by omega) with rfl | rfl | rfl | rfl | rfl | rfl
  · exact M_both2 hg a b
  · exact M_both3 hg a b
  · exact M_both4 hg a b
  · exact M_both5 hg a b
  · exact M_both6 hg a b
  · exact M_both7 hg a b
theorem M_findFacts {g : qG} (hg : qOK g) {h : qH} {x : Nat → Int32} {y : Nat → Int64} {F : Nat → Nat → Int32} {G : Nat → Nat → Int64} (hM : MX h x y F G) {S : CS} (hR : Rel S x F) {d : Nat} (hd : d < S.2.1.2.2.2.1) (hn : S.2.1.2.2.2.1 ≤ 10) (v p : Int32) : qSpec g 1 0 0 mX12_findFacts [.ref 63, .int (nI d), .int v, .int p] h (fun r h' => r = none ∧ ∃ w : Nat → Int32, MX h' x y (fup F 76 w) G ∧ kp h h' ∧ ∀ j : Nat, j < 10 → w j = vnm S.2.1.1 (nI S.2.2.2.1.2) d v p 0 0 0 j) := by
  refine qSpec_run 12 "findFacts" false hg mX12_findFacts_ok rfl rfl (Nat.le_of_ble_eq_true rfl) (by decide) ?_
  intro run step
  have i1 : vp_in (10 * nI d + 1 : Int32) 100 := by rw [show (10 * nI d + 1 : Int32) = nI (d * 10 + 1) from ixk (k := 10) (w := 1)]; exact vp_in_nI (by omega) (by decide)
  have e1 : F 67 (10 * nI d + 1 : Int32).toNatClampNeg = S.2.1.1 (d * 10 + 1) := by rw [show (10 * nI d + 1 : Int32) = nI (d * 10 + 1) from ixk (k := 10) (w := 1), h_tn (n := d * 10 + 1) (by omega)]; exact hR.2.2.1.1 _ (by omega)
  have i2 : vp_in (10 * nI d + 2 : Int32) 100 := by rw [show (10 * nI d + 2 : Int32) = nI (d * 10 + 2) from ixk (k := 10) (w := 2)]; exact vp_in_nI (by omega) (by decide)
  have e2 : F 67 (10 * nI d + 2 : Int32).toNatClampNeg = S.2.1.1 (d * 10 + 2) := by rw [show (10 * nI d + 2 : Int32) = nI (d * 10 + 2) from ixk (k := 10) (w := 2), h_tn (n := d * 10 + 2) (by omega)]; exact hR.2.2.1.1 _ (by omega)
  have i8 : vp_in (10 * nI d + 8 : Int32) 100 := by rw [show (10 * nI d + 8 : Int32) = nI (d * 10 + 8) from ixk (k := 10) (w := 8)]; exact vp_in_nI (by omega) (by decide)
  have e8 : F 67 (10 * nI d + 8 : Int32).toNatClampNeg = S.2.1.1 (d * 10 + 8) := by rw [show (10 * nI d + 8 : Int32) = nI (d * 10 + 8) from ixk (k := 10) (w := 8), h_tn (n := d * 10 + 8) (by omega)]; exact hR.2.2.1.1 _ (by omega)
  have i9 : vp_in (10 * nI d + 9 : Int32) 100 := by rw [show (10 * nI d + 9 : Int32) = nI (d * 10 + 9) from ixk (k := 10) (w := 9)]; exact vp_in_nI (by omega) (by decide)
  have e9 : F 67 (10 * nI d + 9 : Int32).toNatClampNeg = S.2.1.1 (d * 10 + 9) := by rw [show (10 * nI d + 9 : Int32) = nI (d * 10 + 9) from ixk (k := 10) (w := 9), h_tn (n := d * 10 + 9) (by omega)]; exact hR.2.2.1.1 _ (by omega)
  have e20 : x 20 = nI S.2.2.2.1.2 := hR.1.2.2.2.1
  refine step.1 _ _ _ _ _ _ _ sgX12_findFacts_0_ok ?_
  refine ⟨by decide, _, _, hM.1, rfl, ?_⟩
  refine ⟨_, _, hM.c76, (vp_in_nI (n := 0) (N := 10) (by decide) (by decide) : vp_in (nI 0) 10), ?_⟩
  refine ⟨by decide, _, _, hM.1, rfl, ?_⟩
  refine ⟨by decide, _, _, hM.1, rfl, ?_⟩
  refine ⟨_, _, hM.c67, i1, ?_⟩
  refine ⟨_, _, rfl, (vp_in_nI (n := 1) (N := 10) (by decide) (by decide) : vp_in (nI 1) 10), ?_⟩
  refine ⟨by decide, _, _, hM.1, rfl, ?_⟩
  refine ⟨by decide, _, _, hM.1, rfl, ?_⟩
  refine ⟨_, _, hM.c67, i2, ?_⟩
  refine ⟨_, _, rfl, (vp_in_nI (n := 2) (N := 10) (by decide) (by decide) : vp_in (nI 2) 10), ?_⟩
  refine ⟨by decide, _, _, hM.1, rfl, ?_⟩
  refine ⟨_, _, rfl, (vp_in_nI (n := 3) (N := 10) (by decide) (by decide) : vp_in (nI 3) 10), ?_⟩
  refine ⟨by decide, _, _, hM.1, rfl, ?_⟩
  refine ⟨by decide, _, _, hM.1, rfl, ?_⟩
  refine ⟨_, _, rfl, (vp_in_nI (n := 4) (N := 10) (by decide) (by decide) : vp_in (nI 4) 10), ?_⟩
  refine ⟨by decide, _, _, hM.1, rfl, ?_⟩
  refine ⟨by decide, _, _, hM.1, rfl, ?_⟩
  refine ⟨_, _, hM.c67, i8, ?_⟩
  refine ⟨_, _, rfl, (vp_in_nI (n := 5) (N := 10) (by decide) (by decide) : vp_in (nI 5) 10), ?_⟩
  refine ⟨by decide, _, _, hM.1, rfl, ?_⟩
  refine ⟨by decide, _, _, hM.1, rfl, ?_⟩
  refine ⟨_, _, hM.c67, i9, ?_⟩
  refine ⟨_, _, rfl, (vp_in_nI (n := 6) (N := 10) (by decide) (by decide) : vp_in (nI 6) 10), ?_⟩
  refine ⟨by decide, _, _, hM.1, rfl, ?_⟩
  refine ⟨_, _, rfl, (vp_in_nI (n := 7) (N := 10) (by decide) (by decide) : vp_in (nI 7) 10), ?_⟩
  refine ⟨by decide, _, _, hM.1, rfl, ?_⟩
  refine ⟨_, _, rfl, (vp_in_nI (n := 8) (N := 10) (by decide) (by decide) : vp_in (nI 8) 10), ?_⟩
  refine ⟨by decide, _, _, hM.1, rfl, ?_⟩
  refine ⟨_, _, rfl, (vp_in_nI (n := 9) (N := 10) (by decide) (by decide) : vp_in (nI 9) 10), ?_⟩
  refine ⟨rfl, Nat.le_refl _, Nat.le_refl _, ?_⟩
  refine ⟨rfl, _, hM.v76 rfl (fun j hj => by simp only [qup, if_neg hj]), ⟨Nat.le_refl _, fun j hj => ?_⟩, fun j hj => ?_⟩
  · have hj : ¬ j = 76 := by omega
    simp only [qup, if_neg hj]
  · rcases (show j = 0 ∨ j = 1 ∨ j = 2 ∨ j = 3 ∨ j = 4 ∨ j = 5 ∨ j = 6 ∨ j = 7 ∨ j = 8 ∨ j = 9 by omega) with rfl | rfl | rfl | rfl | rfl | rfl | rfl | rfl | rfl | rfl
    · rfl
    · exact e1
    · exact e2
    · rfl
    · exact e20
    · exact e8
    · exact e9
    · rfl
    · rfl
    · rfl
set_option maxHeartbeats 1000000 in
theorem M_valueOf {g : qG} (hg : qOK g) {h : qH} {x : Nat → Int32} {y : Nat → Int64} {F : Nat → Nat → Int32} {G : Nat → Nat → Int64} (hM : MX h x y F G) {w N : Nat} (hw : w < 2) {K V nm : Nat → Int32} (hN : F 74 w = nI N) (hN150 : N ≤ 150) (hK : ∀ j : Nat, j < N → F 72 (w * 150 + j) = K j) (hV : ∀ j : Nat, j < N → F 73 (w * 150 + j) = V j) (hnm : ∀ j : Nat, j < 10 → F 76 j = nm j) (hok : lok K V 0 N 0) : qSpec g 2 0 0 mX12_valueOf [.ref 63, .int (nI w)] h (fun r h' => r = some (.int (lworth K V nm 0 N 0 (F 75))) ∧ ∃ S1 : Nat → Int32, h' = (h.1, qup h.2 75 (aI' 150 S1))) := by
  refine qSpec_run 12 "valueOf" false hg mX12_valueOf_ok rfl rfl (Nat.le_of_ble_eq_true rfl) (by decide) ?_
  intro run step
  have hb := w * 150
  have eb : (150 * nI w + F 74 (nI w).toNatClampNeg : Int32) = nI (w * 150 + N) := by
    rw [h_tn (n := w) (by omega), hN, show (150 * nI w : Int32) = nI (w * 150) from by rw [Int32.mul_comm]; exact pk_mul w 150, nI_add]
  have loop : ∀ (m i top : Nat) (S1 : Nat → Int32), i + m = N → top ≤ i → lok K V i m top → lworth K V nm i m top S1 = lworth K V nm 0 N 0 (F 75) → run 8 [(3, .int (nI (w * 150 + i))), (2, .int (nI top)), (0, .ref 63), (1, .int (nI w))] [] (h.1, qup h.2 75 (aI' 150 S1)) 0 0 := by
    intro m
    induction m with
    | zero =>
      intro i top S1 hi ht hk hs
      refine step.1 _ _ _ _ _ _ _ sgX12_valueOf_8_ok ?_
      refine ⟨by decide, _, _, hM.1, rfl, ?_⟩
      refine ⟨_, _, hM.c74, (vp_in_nI (n := w) (N := 2) hw (by decide)), ?_⟩
      refine ⟨fun c21 => ?_, fun c21 => absurd (show 150 * nI w + F 74 (nI w).toNatClampNeg ≤ nI (w * 150 + i) from by rw [eb]; exact nI_le (by omega) (by omega)) c21⟩
      
      refine step.1 _ _ _ _ _ _ _ sgX12_valueOf_160_ok ?_
      refine ⟨by decide, _, _, hM.1, rfl, ?_⟩
      refine ⟨_, _, rfl, (vp_in_nI (n := 0) (N := 150) (by decide) (by decide) : vp_in (nI 0) 150), ?_⟩
      refine ⟨.int, rfl, rfl, Nat.le_refl _, Nat.le_refl _, ?_⟩
      exact ⟨by rw [← hs]; rfl, S1, rfl⟩
    | succ m ih =>
      intro i top S1 hi ht hk hs
      have fin : ∀ (t2 : Nat) (S2 : Nat → Int32) (hX : qH), hX = (h.1, qup h.2 75 (aI' 150 S2)) → t2 ≤ i + 1 → lok K V (i + 1) m t2 → lworth K V nm (i + 1) m t2 S2 = lworth K V nm 0 N 0 (F 75) → run 154 [(2, .int (nI t2)), (4, .int (K i)), (3, .int (nI (w * 150 + i))), (0, .ref 63), (1, .int (nI w))] [] hX 0 0 := by
        intro t2 S2 hX hX2 ht2 hk2 hs2
        rw [hX2]
        refine step.1 _ _ _ _ _ _ _ sgX12_valueOf_154_ok ?_
        refine step.2 _ _ _ _ _ _ _ (qsub_cons 0 rfl (qsub_cons 1 rfl (qsub_cons 3 rfl (qsub_cons 4 rfl qsub_nil)))) ?_
        have kk := ih (i + 1) t2 S2 (by omega) ht2 hk2 hs2
        rw [← Nat.add_assoc, ← nI_1] at kk
        exact kk
      have at68 : ∀ z : Int32, lok K V (i + 1) m (top + 1) → lworth K V nm (i + 1) m (top + 1) (upd S1 top z) = lworth K V nm 0 N 0 (F 75) → run 68 [(4, .int (K i)), (3, .int (nI (w * 150 + i))), (2, .int (nI top)), (0, .ref 63), (1, .int (nI w))] [.int z, .int (nI top), .ref 75] (h.1, qup h.2 75 (aI' 150 S1)) 0 0 := by
        intro z hk2 hs2
        refine step.1 _ _ _ _ _ _ _ sgX12_valueOf_68_ok ?_
        refine ⟨_, _, rfl, (vp_in_nI (n := top) (N := 150) (by omega) (by decide)), ?_⟩
        rw [h_tn (n := top) (by omega)]
        have kk := fun hX hZ => fin (top + 1) (upd S1 top z) hX hZ (by omega) hk2 hs2
        rw [← nI_1] at kk
        exact kk _ (by rw [qup_qup]; rfl)
      refine step.1 _ _ _ _ _ _ _ sgX12_valueOf_8_ok ?_
      refine ⟨by decide, _, _, hM.1, rfl, ?_⟩
      refine ⟨_, _, hM.c74, (vp_in_nI (n := w) (N := 2) hw (by decide)), ?_⟩
      refine ⟨fun c21 => absurd (show nI (w * 150 + N) ≤ nI (w * 150 + i) from by rw [← eb]; exact c21) (h_nle (by omega) (by omega)), fun c21 => ?_⟩
      refine ⟨by decide, _, _, hM.1, rfl, ?_⟩
      refine ⟨_, _, hM.c72, (vp_in_nI (n := w * 150 + i) (N := 300) (by omega) (by decide)), ?_⟩
      rw [h_tn (n := w * 150 + i) (by omega), hK i (by omega)]
      rcases hk with ⟨k0, hk⟩ | ⟨k0, ⟨j, hj, hv⟩, hk⟩ | ⟨k0, h3, hk⟩ | ⟨⟨k, hk2, hk7, k0⟩, h3, hk⟩
      · refine ⟨fun c35 => absurd (show (1 : Int32) < K i from c35) (by rw [k0]; decide), fun c35 => ?_⟩
        
        refine ⟨by decide, _, _, hM.1, rfl, ?_⟩
        refine ⟨fun c45 => absurd k0 c45, fun c45 => ?_⟩
        
        refine ⟨by decide, _, _, hM.1, rfl, ?_⟩
        refine ⟨_, _, hM.c73, (vp_in_nI (n := w * 150 + i) (N := 300) (by omega) (by decide)), ?_⟩
        rw [h_tn (n := w * 150 + i) (by omega), hV i (by omega)]
        exact at68 _ hk (by rw [← hs, lworth, if_pos k0])
      · refine ⟨fun c35 => absurd (show (1 : Int32) < K i from c35) (by rw [k0]; decide), fun c35 => ?_⟩
        
        refine ⟨by decide, _, _, hM.1, rfl, ?_⟩
        refine ⟨fun c45 => ?_, fun c45 => absurd (show K i = 0 from c45) (by rw [k0]; decide)⟩
        
        refine step.1 _ _ _ _ _ _ _ sgX12_valueOf_57_ok ?_
        refine ⟨by decide, _, _, hM.1, rfl, ?_⟩
        refine ⟨by decide, _, _, hM.1, rfl, ?_⟩
        refine ⟨_, _, hM.c73, (vp_in_nI (n := w * 150 + i) (N := 300) (by omega) (by decide)), ?_⟩
        refine ⟨_, _, hM.c76, (by rw [h_tn (n := w * 150 + i) (by omega), hV i (by omega), hv]; exact vp_in_nI (n := j) (N := 10) hj (by decide)), ?_⟩
        rw [h_tn (n := w * 150 + i) (by omega), hV i (by omega)]
        exact at68 _ hk (by rw [← hs, lworth, if_neg (by rw [k0]; decide), if_pos k0, hv, h_tn (n := j) (by omega), hnm j hj])
      · have e1 : (nI top + (-2) : Int32) = nI (top - 2) := by rw [show (nI top + (-2) : Int32) = nI top - nI 2 from (Int32.sub_eq_add_neg (nI top) 2).symm, pk_sub (by omega)]
        have e2 : (nI (top - 2) - 1 : Int32) = nI (top - 3) := by rw [show (nI (top - 2) - 1 : Int32) = nI (top - 2) - nI 1 from rfl, pk_sub (by omega)]; rfl
        have e3 : (nI top + (-2) - 1 : Int32) = nI (top - 3) := by rw [e1, e2]
        have e4 : (nI top + (-2) + 1 : Int32) = nI (top - 1) := by rw [e1, nI_1]; congr 1; omega
        have e3t : (nI top + (-2) - 1 : Int32).toNatClampNeg = top - 3 := by rw [e3, h_tn (by omega)]
        have e4t : (nI top + (-2) + 1 : Int32).toNatClampNeg = top - 1 := by rw [e4, h_tn (by omega)]
        have e1t : (nI top + (-2) : Int32).toNatClampNeg = top - 2 := by rw [e1, h_tn (by omega)]
        have at120 : ∀ z : Int32, z = (if S1 (top - 3) ≤ 0 then S1 (top - 1) else S1 (top - 2)) → run 120 [(2, .int (nI top + (-2))), (4, .int (K i)), (3, .int (nI (w * 150 + i))), (0, .ref 63), (1, .int (nI w))] [.int z, .int (nI top + (-2) - 1), .ref 75] (h.1, qup h.2 75 (aI' 150 S1)) 0 0 := by
          intro z hz
          refine step.1 _ _ _ _ _ _ _ sgX12_valueOf_120_ok ?_
          refine ⟨_, _, rfl, (by rw [e3]; exact vp_in_nI (n := top - 3) (N := 150) (by omega) (by decide)), ?_⟩
          rw [e3t]
          have kk := fun hX hZ => fin (top - 2) (upd S1 (top - 3) z) hX hZ (by omega) hk (by rw [← hs, lworth, if_neg (by rw [k0]; decide), if_neg (by rw [k0]; decide), if_pos k0, hz])
          rw [← e1] at kk
          exact kk _ (by rw [qup_qup]; rfl)
        refine ⟨fun c35 => ?_, fun c35 => absurd (show (1 : Int32) < K i from by rw [k0]; decide) c35⟩
        
        refine step.1 _ _ _ _ _ _ _ sgX12_valueOf_75_ok ?_
        refine ⟨fun c79 => absurd k0 c79, fun c79 => ?_⟩
        
        refine ⟨by decide, _, _, hM.1, rfl, ?_⟩
        refine ⟨by decide, _, _, hM.1, rfl, ?_⟩
        refine ⟨_, _, rfl, (by rw [e3]; exact vp_in_nI (n := top - 3) (N := 150) (by omega) (by decide)), ?_⟩
        refine ⟨fun c100 => ?_, fun c100 => ?_⟩
        · have c100 : S1 (top - 3) ≤ 0 := by rw [← e3t]; exact c100
          refine step.1 _ _ _ _ _ _ _ sgX12_valueOf_112_ok ?_
          refine ⟨by decide, _, _, hM.1, rfl, ?_⟩
          refine ⟨_, _, rfl, (by rw [e4]; exact vp_in_nI (n := top - 1) (N := 150) (by omega) (by decide)), ?_⟩
          rw [e4t]
          exact at120 _ (by rw [if_pos c100])
        · have c100 : ¬ S1 (top - 3) ≤ 0 := by rw [← e3t]; exact c100
          refine ⟨by decide, _, _, hM.1, rfl, ?_⟩
          refine ⟨_, _, rfl, (by rw [e1]; exact vp_in_nI (n := top - 2) (N := 150) (by omega) (by decide)), ?_⟩
          rw [e1t]
          exact at120 _ (by rw [if_neg c100])
      · have k1 : (1 : Int32) < K i := by rw [k0]; exact (nI_ltI (a := 1) (by decide) (by omega)).mpr (by omega)
        have kn0 : ¬ K i = 0 := fun e => by rw [k0] at e; exact absurd ((nI_eq (b := 0) (by omega) (by decide)).mp e) (by omega)
        have kn1 : ¬ K i = 1 := fun e => by rw [k0] at e; exact absurd ((nI_eq (b := 1) (by omega) (by decide)).mp e) (by omega)
        have kn8 : ¬ K i = 8 := fun e => by rw [k0] at e; exact absurd ((nI_eq (b := 8) (by omega) (by decide)).mp e) (by omega)
        have e1 : (nI top + (-1) : Int32) = nI (top - 1) := by rw [show (nI top + (-1) : Int32) = nI top - nI 1 from (Int32.sub_eq_add_neg (nI top) 1).symm, pk_sub (by omega)]
        have e3 : (nI top + (-1) - 1 : Int32) = nI (top - 2) := by rw [e1, show (nI (top - 1) - 1 : Int32) = nI (top - 1) - nI 1 from rfl, pk_sub (by omega)]; rfl
        have e3t : (nI top + (-1) - 1 : Int32).toNatClampNeg = top - 2 := by rw [e3, h_tn (by omega)]
        have e1t : (nI top + (-1) : Int32).toNatClampNeg = top - 1 := by rw [e1, h_tn (by omega)]
        refine ⟨fun c35 => ?_, fun c35 => absurd k1 c35⟩
        
        refine step.1 _ _ _ _ _ _ _ sgX12_valueOf_75_ok ?_
        refine ⟨fun c79 => ?_, fun c79 => absurd (show K i = 8 from c79) kn8⟩
        
        refine step.1 _ _ _ _ _ _ _ sgX12_valueOf_124_ok ?_
        refine ⟨by decide, _, _, hM.1, rfl, ?_⟩
        refine ⟨by decide, _, _, hM.1, rfl, ?_⟩
        refine ⟨_, _, rfl, (by rw [e3]; exact vp_in_nI (n := top - 2) (N := 150) (by omega) (by decide)), ?_⟩
        refine ⟨by decide, _, _, hM.1, rfl, ?_⟩
        refine ⟨_, _, rfl, (by rw [e1]; exact vp_in_nI (n := top - 1) (N := 150) (by omega) (by decide)), ?_⟩
        refine Or.inl ⟨rfl, _, 1, 0, 0, _, Or.inl qi_12_328, ⟨rfl, rfl⟩, rfl, rfl, (by rw [k0]; exact M_both hg k hk2 hk7 _ _), fun y150 h150 hy150 => ?_⟩
        obtain ⟨rfl, hh⟩ := hy150
        rw [hh]
        clear hh
        refine ⟨_, _, rfl, (by rw [e3]; exact vp_in_nI (n := top - 2) (N := 150) (by omega) (by decide)), ?_⟩
        rw [e3t, e1t]
        have kk := fun hX hZ => fin (top - 1) (upd S1 (top - 2) (ljoin (nI k) (S1 (top - 2)) (S1 (top - 1)))) hX hZ (by omega) hk (by rw [← hs, lworth, if_neg kn0, if_neg kn1, if_neg kn8, k0])
        rw [← e1] at kk
        exact kk _ (by rw [qup_qup]; rfl)

  have e0 : (h.1, qup h.2 75 (aI' 150 (F 75))) = h := by rw [qup_self hM.c75]
  refine step.1 _ _ _ _ _ _ _ sgX12_valueOf_0_ok ?_
  have kk := loop N 0 0 (F 75) (by omega) (Nat.le_refl _) hok rfl
  rw [e0] at kk
  rw [show nI (w * 150 + 0) = (150 * nI w : Int32) from by rw [Int32.mul_comm]; exact (pk_mul w 150).symm] at kk
  exact kk
set_option maxHeartbeats 1000000 in
theorem M_giveOf {g : qG} (hg : qOK g) {h : qH} {x : Nat → Int32} {y : Nat → Int64} {F : Nat → Nat → Int32} {G : Nat → Nat → Int64} (hM : MX h x y F G) {S : CS} (hR : Rel S x F) {d : Nat} (hd : d < S.2.1.2.2.2.1) (hn : S.2.1.2.2.2.1 ≤ 10) (hl : lwf S.2.2.2.2.1.1) (v p : Int32) : qSpec g 3 0 0 mX12_giveOf [.ref 63, .int (nI d), .int v, .int p] h (fun r h' => r = some (.int (vgift S.2.1.1 S.2.2.2.2.1.1.1 S.2.2.2.2.1.1.2.1 S.2.2.2.2.1.1.2.2 (nI S.2.2.2.1.2) d v p)) ∧ QF h h' x y F G) := by
  refine qSpec_run 12 "giveOf" false hg mX12_giveOf_ok rfl rfl (Nat.le_of_ble_eq_true rfl) (by decide) ?_
  intro run step
  have i1 : vp_in (10 * nI d + 1 : Int32) 100 := by rw [show (10 * nI d + 1 : Int32) = nI (d * 10 + 1) from ixk (k := 10) (w := 1)]; exact vp_in_nI (by omega) (by decide)
  have e1 : F 67 (10 * nI d + 1 : Int32).toNatClampNeg = S.2.1.1 (d * 10 + 1) := by rw [show (10 * nI d + 1 : Int32) = nI (d * 10 + 1) from ixk (k := 10) (w := 1), h_tn (n := d * 10 + 1) (by omega)]; exact hR.2.2.1.1 _ (by omega)
  obtain ⟨hN, hK, hV⟩ := hR.2.2.2.1.1
  have h0 : F 74 0 = 0 ↔ S.2.2.2.2.1.1.2.2 = 0 := by
    rw [hN]
    exact nI_eq (b := 0) (by have := hl.1; omega) (by decide)
  refine step.1 _ _ _ _ _ _ _ sgX12_giveOf_0_ok ?_
  refine ⟨by decide, _, _, hM.1, rfl, ?_⟩
  refine ⟨_, _, hM.c74, (vp_in_nI (n := 0) (N := 2) (by decide) (by decide) : vp_in (nI 0) 2), ?_⟩
  refine ⟨fun c6 => ?_, fun c6 => ?_⟩
  · have c6 : ¬ S.2.2.2.2.1.1.2.2 = 0 := fun e => c6 (h0.mpr e)
    refine step.1 _ _ _ _ _ _ _ sgX12_giveOf_21_ok ?_
    refine Or.inl ⟨rfl, _, 1, 0, 0, _, _, _, qi_12_332, ⟨rfl, rfl⟩, ⟨hM.1, rfl⟩, rfl, rfl, M_findFacts hg hM hR hd hn v p, fun y25 h25 hy25 => ?_⟩
    obtain ⟨rfl, w25, hM2, hk2, hw2⟩ := hy25
    refine Or.inl ⟨rfl, _, 2, 0, 0, _, _, _, qi_12_336, ⟨rfl, rfl⟩, ⟨hM2.1, rfl⟩, rfl, rfl, M_valueOf hg hM2 (w := 0) (N := S.2.2.2.2.1.1.2.2) (by decide) hN hl.1 (fun j hj => by rw [Nat.zero_mul, Nat.zero_add]; exact hK j hj) (fun j hj => by rw [Nat.zero_mul, Nat.zero_add]; exact hV j hj) (fun j hj => hw2 j hj) (hl.2 c6), fun y30 h30 hy30 => ?_⟩
    obtain ⟨rfl, S1, hh⟩ := hy30
    have hQ : QF h h30 x y F G := by
      rw [hh]
      exact ⟨_, hM2.u75 S1, fun j hj => by
        simp at hj
        rw [fup_n hj.1, fup_n hj.2], hk2.u (by decide) (by decide)⟩
    have hgv : vgift S.2.1.1 S.2.2.2.2.1.1.1 S.2.2.2.2.1.1.2.1 S.2.2.2.2.1.1.2.2 (nI S.2.2.2.1.2) d v p = vclamp (lworth S.2.2.2.2.1.1.1 S.2.2.2.2.1.1.2.1 (vnm S.2.1.1 (nI S.2.2.2.1.2) d v p 0 0 0) 0 S.2.2.2.2.1.1.2.2 0 (fun _ => 0)) := if_neg c6
    rw [lworth_congr (K := S.2.2.2.2.1.1.1) (V := S.2.2.2.2.1.1.2.1) (fun _ _ => rfl) S.2.2.2.2.1.1.2.2 0 0 _ (fun _ => 0) (hl.2 c6) (fun j hj => absurd hj (Nat.not_lt_zero j))]
    generalize lworth S.2.2.2.2.1.1.1 S.2.2.2.2.1.1.2.1 (vnm S.2.1.1 (nI S.2.2.2.1.2) d v p 0 0 0) 0 S.2.2.2.2.1.1.2.2 0 (fun _ => 0) = w1 at hgv
    refine ⟨fun c37 => ?_, fun c37 => ?_⟩
    · have c37 : 0 ≤ w1 := c37
      refine step.1 _ _ _ _ _ _ _ sgX12_giveOf_44_ok ?_
      refine ⟨fun c49 => ?_, fun c49 => ?_⟩
      · have c49 : w1 ≤ 999 := c49
        refine step.1 _ _ _ _ _ _ _ sgX12_giveOf_58_ok ?_
        refine step.1 _ _ _ _ _ _ _ sgX12_giveOf_60_ok ?_
        refine ⟨.int, rfl, rfl, Nat.le_refl _, Nat.le_refl _, ?_⟩
        exact ⟨congrArg (fun z => some (Value.int z)) (by rw [hgv, vclamp, if_pos c37, if_pos c49]), hQ⟩
      · have c49 : ¬ w1 ≤ 999 := c49
        refine step.1 _ _ _ _ _ _ _ sgX12_giveOf_60_ok ?_
        refine ⟨.int, rfl, rfl, Nat.le_refl _, Nat.le_refl _, ?_⟩
        exact ⟨congrArg (fun z => some (Value.int z)) (by rw [hgv, vclamp, if_pos c37, if_neg c49]), hQ⟩
    · have c37 : ¬ 0 ≤ w1 := c37
      refine step.1 _ _ _ _ _ _ _ sgX12_giveOf_60_ok ?_
      refine ⟨.int, rfl, rfl, Nat.le_refl _, Nat.le_refl _, ?_⟩
      exact ⟨congrArg (fun z => some (Value.int z)) (by rw [hgv, vclamp, if_neg c37]), hQ⟩
  · have c6 : S.2.2.2.2.1.1.2.2 = 0 := h0.mp c6
    refine ⟨by decide, _, _, hM.1, rfl, ?_⟩
    refine ⟨_, _, hM.c67, i1, ?_⟩
    refine ⟨.int, rfl, rfl, Nat.le_refl _, Nat.le_refl _, ?_⟩
    exact ⟨congrArg (fun z => some (Value.int z)) (by rw [vgift, if_pos c6]; exact e1), QF.rf hM⟩
end Q11B
