section Q11N
section
variable {h h' : qH} {x : Nat → Int32} {y : Nat → Int64} {F : Nat → Nat → Int32} {G : Nat → Nat → Int64}
theorem MX.hi (hM : MX h x y F G) {n k : Nat} {e : qE} (hk : 92 ≤ k) : MX (n, qup h.2 k e) x y F G := ⟨(qup_n (by omega)).trans hM.1, fun j a b => (qup_n (by omega)).trans (hM.2 j a b)⟩
theorem kp.hi (a : kp h h') {n k : Nat} {e : qE} (hn : h.1 ≤ n) (hk : 93 ≤ k) : kp h (n, qup h'.2 k e) := ⟨hn, fun j hj => (qup_n (by omega)).trans (a.2 j hj)⟩
theorem Rel.q {S : CS} (hR : Rel S x F) {a f : Nat} (ha : a < S.2.2.2.1.2) (hf : f < 4) : F 69 (a * 4 + f) = S.2.2.2.1.1 (a * 4 + f) := hR.2.2.1.2.1 _ (by omega)
theorem qnum_i {d d2 mc mc2 cu ms ms2 su : Nat} {r : List Value} (h1 : d2 + 1 ≤ d) (h2 : cu + mc2 ≤ mc) (h3 : su + ms2 ≤ ms) (h4 : qcat r ≤ 30) : qnum d d2 mc mc2 cu ms ms2 su r = true := by
  unfold qnum
  rw [Nat.ble_eq_true_of_le h1, Nat.ble_eq_true_of_le h2, Nat.ble_eq_true_of_le h3, Nat.ble_eq_true_of_le h4]; rfl
end
theorem M_thereIn0 {g : qG} (hg : qOK g) {h : qH} {x : Nat → Int32} {y : Nat → Int64} {F : Nat → Nat → Int32} {G : Nat → Nat → Int64} (hM : MX h x y F G) {S : CS} (hR : Rel S x F) (hQ : QOK S.2.2.2.1.1 S.2.2.2.1.2) (mi : Int32) : qSpec g 1 0 0 mX12_thereIn [.ref 63, .int mi] h (fun r h' => r = some (.int (cnoth S.2.2.2.1.1 mi 0 S.2.2.2.1.2 0)) ∧ h' = h) := by
  refine qSpec_run 12 "thereIn" false hg mX12_thereIn_ok rfl rfl (Nat.le_of_ble_eq_true rfl) (by decide) ?_
  intro run step
  have e20 : x 20 = nI S.2.2.2.1.2 := hR.1.2.2.2.1
  have hM8 : S.2.2.2.1.2 ≤ 8 := hQ.1
  have loop : ∀ (m i : Nat) (b : Int32), i + m = S.2.2.2.1.2 → (cnoth S.2.2.2.1.1 mi i m b) = (cnoth S.2.2.2.1.1 mi 0 S.2.2.2.1.2 0) → run 4 [(3, .int (nI i)), (2, .int b), (0, .ref 63), (1, .int mi)] [] h 0 0 := by
    intro m
    induction m with
    | zero =>
      intro i b hi hres
      refine step.1 _ _ _ _ _ _ _ sgX12_thereIn_4_ok ?_
      refine ⟨by decide, _, _, hM.1, rfl, ?_⟩
      refine ⟨fun c9 => ?_, fun c9 => absurd (show x 20 ≤ nI i from by rw [e20]; exact nI_le (by omega) (by omega)) c9⟩
      
      refine step.1 _ _ _ _ _ _ _ sgX12_thereIn_56_ok ?_
      refine ⟨.int, rfl, rfl, Nat.le_refl _, Nat.le_refl _, ?_⟩
      exact ⟨by rw [← hres]; rfl, rfl⟩
    | succ m ih =>
      intro i b hi hres
      have at48 : ∀ z : Int32, z = (if cthere S.2.2.2.1.1 i mi = true then 1 <<< (nI i &&& 31) else 0) → run 48 [(3, .int (nI i)), (2, .int b), (0, .ref 63), (1, .int mi)] [.int z, .int b] h 0 0 := by
        intro z hz
        refine step.1 _ _ _ _ _ _ _ sgX12_thereIn_48_ok ?_
        have kk := ih (i + 1) (b ||| z) (by omega) (by rw [← hres, hz]; rfl)
        rw [← nI_1] at kk
        exact kk
      have j2 : (4 * nI i + 2 : Int32) = nI (i * 4 + 2) := ixk (k := 4) (w := 2)
      have g2 : F 69 (4 * nI i + 2 : Int32).toNatClampNeg = S.2.2.2.1.1 (i * 4 + 2) := by rw [j2, h_tn (n := i * 4 + 2) (by omega)]; exact hR.q (by omega) (by decide)
      refine step.1 _ _ _ _ _ _ _ sgX12_thereIn_4_ok ?_
      refine ⟨by decide, _, _, hM.1, rfl, ?_⟩
      refine ⟨fun c9 => absurd (show nI S.2.2.2.1.2 ≤ nI i from by rw [← e20]; exact c9) (h_nle (by omega) (by omega)), fun c9 => ?_⟩
      
      refine ⟨by decide, _, _, hM.1, rfl, ?_⟩
      refine ⟨_, _, hM.c69, (by rw [j2]; exact vp_in_nI (n := i * 4 + 2) (N := 32) (by omega) (by decide)), ?_⟩
      refine ⟨fun c24 => ?_, fun c24 => ?_⟩
      · have c24 : S.2.2.2.1.1 (i * 4 + 2) = -1 := g2.symm.trans c24
        refine step.1 _ _ _ _ _ _ _ sgX12_thereIn_41_ok ?_
        exact at48 _ (by rw [if_pos (show cthere S.2.2.2.1.1 i mi = true from by unfold cthere; rw [decide_eq_true c24]; rfl)])
      · have c24 : ¬ S.2.2.2.1.1 (i * 4 + 2) = -1 := fun q => c24 (g2.trans q)
        refine ⟨by decide, _, _, hM.1, rfl, ?_⟩
        refine ⟨_, _, hM.c69, (by rw [j2]; exact vp_in_nI (n := i * 4 + 2) (N := 32) (by omega) (by decide)), ?_⟩
        refine ⟨fun c38 => ?_, fun c38 => ?_⟩
        · have c38 : ¬ mi < S.2.2.2.1.1 (i * 4 + 2) := Int32.not_lt.mpr (by rw [← g2]; exact c38)
          refine step.1 _ _ _ _ _ _ _ sgX12_thereIn_47_ok ?_
          exact at48 _ (by rw [if_neg (show ¬ cthere S.2.2.2.1.1 i mi = true from by unfold cthere; rw [decide_eq_false c24, decide_eq_false c38]; decide)])
        · have c38 : mi < S.2.2.2.1.1 (i * 4 + 2) := Int32.not_le.mp (fun q => c38 (by rw [g2]; exact q))
          refine step.1 _ _ _ _ _ _ _ sgX12_thereIn_41_ok ?_
          exact at48 _ (by rw [if_pos (show cthere S.2.2.2.1.1 i mi = true from by unfold cthere; rw [decide_eq_true c38, Bool.or_true])])
  refine step.1 _ _ _ _ _ _ _ sgX12_thereIn_0_ok ?_
  exact loop S.2.2.2.1.2 0 0 (by omega) rfl
theorem M_thereIn {g : qG} (hg : qOK g) {h : qH} {x : Nat → Int32} {y : Nat → Int64} {F : Nat → Nat → Int32} {G : Nat → Nat → Int64} (hM : MX h x y F G) {S : CS} (hR : Rel S x F) (hQ : QOK S.2.2.2.1.1 S.2.2.2.1.2) (mi : Int32) : qSpec g 1 0 0 mX12_thereIn [.ref 63, .int mi] h (fun r h' => r = some (.int (nI (msk (fun j => cthere S.2.2.2.1.1 j mi) S.2.2.2.1.2))) ∧ h' = h) := by
  refine qSpec_mono (M_thereIn0 hg hM hR hQ mi) (fun r h' hy => ⟨hy.1.trans ?_, hy.2⟩)
  refine congrArg (fun z => some (Value.int z)) ?_
  have := cnoth_m S.2.2.2.1.1 mi S.2.2.2.1.2 0 (by have := hQ.1; omega)
  rw [Nat.zero_add] at this
  exact this
theorem M_partsOf {g : qG} (hg : qOK g) {h : qH} {x : Nat → Int32} {y : Nat → Int64} {F : Nat → Nat → Int32} {G : Nat → Nat → Int64} (hM : MX h x y F G) {S : CS} (hR : Rel S x F) (hQ : QOK S.2.2.2.1.1 S.2.2.2.1.2) (b : Nat) (hb : b < 2 ^ 31) : qSpec g 1 0 0 mX12_partsOf [.ref 63, .int (nI b)] h (fun r h' => r = some (.int (nI (pmk (fun j => b.testBit j) (qpt S.2.2.2.1.1) S.2.2.2.1.2))) ∧ h' = h) := by
  refine qSpec_run 12 "partsOf" false hg mX12_partsOf_ok rfl rfl (Nat.le_of_ble_eq_true rfl) (by decide) ?_
  intro run step
  have e20 : x 20 = nI S.2.2.2.1.2 := hR.1.2.2.2.1
  have hM8 : S.2.2.2.1.2 ≤ 8 := hQ.1
  have loop : ∀ (m i : Nat), i + m = S.2.2.2.1.2 → run 4 [(3, .int (nI i)), (2, .int (nI (pmk (fun j => b.testBit j) (qpt S.2.2.2.1.1) i))), (0, .ref 63), (1, .int (nI b))] [] h 0 0 := by
    intro m
    induction m with
    | zero =>
      intro i hi
      refine step.1 _ _ _ _ _ _ _ sgX12_partsOf_4_ok ?_
      refine ⟨by decide, _, _, hM.1, rfl, ?_⟩
      refine ⟨fun c9 => ?_, fun c9 => absurd (show x 20 ≤ nI i from by rw [e20]; exact nI_le (by omega) (by omega)) c9⟩
      
      refine step.1 _ _ _ _ _ _ _ sgX12_partsOf_46_ok ?_
      refine ⟨.int, rfl, rfl, Nat.le_refl _, Nat.le_refl _, ?_⟩
      exact ⟨by rw [show i = S.2.2.2.1.2 by omega], rfl⟩
    | succ m ih =>
      intro i hi
      have at38 : ∀ z : Int32, z = nI (if b.testBit i = true then 2 ^ qpt S.2.2.2.1.1 i else 0) → run 38 [(3, .int (nI i)), (2, .int (nI (pmk (fun j => b.testBit j) (qpt S.2.2.2.1.1) i))), (0, .ref 63), (1, .int (nI b))] [.int z, .int (nI (pmk (fun j => b.testBit j) (qpt S.2.2.2.1.1) i))] h 0 0 := by
        intro z hz
        refine step.1 _ _ _ _ _ _ _ sgX12_partsOf_38_ok ?_
        have kk := ih (i + 1) (by omega)
        rw [← nI_1, show (pmk (fun j => b.testBit j) (qpt S.2.2.2.1.1) (i + 1)) = (pmk (fun j => b.testBit j) (qpt S.2.2.2.1.1) i) ||| (if b.testBit i = true then 2 ^ qpt S.2.2.2.1.1 i else 0) from rfl, ← b_or, ← hz] at kk
        exact kk
      have j1 : (4 * nI i + 1 : Int32) = nI (i * 4 + 1) := ixk (k := 4) (w := 1)
      have g1 : F 69 (4 * nI i + 1 : Int32).toNatClampNeg = S.2.2.2.1.1 (i * 4 + 1) := by rw [j1, h_tn (n := i * 4 + 1) (by omega)]; exact hR.q (by omega) (by decide)
      have hpt := hQ.pt (a := i) (by omega)
      have hbit := b_bit (b := b) (i := i) (by omega) (by omega)
      refine step.1 _ _ _ _ _ _ _ sgX12_partsOf_4_ok ?_
      refine ⟨by decide, _, _, hM.1, rfl, ?_⟩
      refine ⟨fun c9 => absurd (show nI S.2.2.2.1.2 ≤ nI i from by rw [← e20]; exact c9) (h_nle (by omega) (by omega)), fun c9 => ?_⟩
      
      refine ⟨fun c19 => ?_, fun c19 => ?_⟩
      · have c19 : ¬ b.testBit i = true := fun q => c19 (by rw [hbit, if_pos q]; rfl)
        refine step.1 _ _ _ _ _ _ _ sgX12_partsOf_37_ok ?_
        exact at38 _ (by rw [if_neg c19]; rfl)
      · have c19 : b.testBit i = true := by
          by_cases q : b.testBit i = true
          · exact q
          · rw [hbit, if_neg q] at c19
            exact absurd c19 (by decide)
        refine ⟨by decide, _, _, hM.1, rfl, ?_⟩
        refine ⟨_, _, hM.c69, (by rw [j1]; exact vp_in_nI (n := i * 4 + 1) (N := 32) (by omega) (by decide)), ?_⟩
        exact at38 _ (by rw [if_pos c19, g1, hpt.1, b_shl (by omega)])
  refine step.1 _ _ _ _ _ _ _ sgX12_partsOf_0_ok ?_
  exact loop S.2.2.2.1.2 0 (by omega)
end Q11N
