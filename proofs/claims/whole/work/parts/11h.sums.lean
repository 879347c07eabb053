section Q11H
/-- findMeans' scratch alone is other -/
def QN (h h' : qH) (x : Nat → Int32) (y : Nat → Int64) (F : Nat → Nat → Int32) (G : Nat → Nat → Int64) (x' : Nat → Int32) (y' : Nat → Int64) (F' : Nat → Nat → Int32) : Prop := MX h' x' y' F' G ∧ (∀ j : Nat, j ∉ [75, 76] → F' j = F j) ∧ (∀ k : Nat, k ≠ 42 → x' k = x k) ∧ (∀ k : Nat, k ∉ [38, 39, 40, 41] → y' k = y k) ∧ kp h h'
section
variable {h h1 h2 : qH} {x x1 x2 : Nat → Int32} {y y1 y2 : Nat → Int64} {F F1 F2 : Nat → Nat → Int32} {G : Nat → Nat → Int64} {S : CS}
theorem QN.rf (hM : MX h x y F G) : QN h h x y F G x y F := ⟨hM, fun _ _ => rfl, fun _ _ => rfl, fun _ _ => rfl, kp.rf⟩
theorem QN.tr (a : QN h h1 x y F G x1 y1 F1) (b : QN h1 h2 x1 y1 F1 G x2 y2 F2) : QN h h2 x y F G x2 y2 F2 := ⟨b.1, fun j hj => (b.2.1 j hj).trans (a.2.1 j hj), fun j hj => (b.2.2.1 j hj).trans (a.2.2.1 j hj), fun j hj => (b.2.2.2.1 j hj).trans (a.2.2.2.1 j hj), a.2.2.2.2.tr b.2.2.2.2⟩
theorem QN.R (a : QN h h1 x y F G x1 y1 F1) (hR : Rel S x F) : Rel S x1 F1 := hR.mq ⟨fun k hk => a.2.2.1 k (fun e => hk (by rw [e]; simp)), fun j hj => a.2.1 j (fun q => hj (by simp at q ⊢; omega))⟩
theorem QM.n {E : Int64 → Int64 → Int64 → Int64 → Int32 → Prop} (a : QM h h1 x y F G E) : ∃ (x' : Nat → Int32) (y' : Nat → Int64) (F' : Nat → Nat → Int32), QN h h1 x y F G x' y' F' ∧ E (y' 38) (y' 39) (y' 40) (y' 41) (x' 42) := by
  obtain ⟨x', y', F', b1, b2, b3, b4, b5, b6⟩ := a
  exact ⟨x', y', F', ⟨b1, b2, b3, b4, b5⟩, b6⟩
theorem QN.mg (a : QN h h1 x y F G x1 y1 F1) (hk : kp h2 h) (hR : Rel S x F) (h0 : x 0 = 0) : MG h2 h1 S := ⟨x1, y1, F1, G, a.1, hk.tr a.2.2.2.2, a.R hR, (a.2.2.1 0 (by decide)).trans h0⟩
end
theorem M_wayS {g : qG} (hg : qOK g) {h : qH} {x : Nat → Int32} {y : Nat → Int64} {F : Nat → Nat → Int32} {G : Nat → Nat → Int64} (hM : MX h x y F G) {S : CS} (hR : Rel S x F) {pf vf rf : Nat → Nat} (hP : isP S.2.1.2.1 S.2.1.2.2.2.2.1 pf vf rf) (hI : ROK S.2.1) (hpn : ∀ i : Nat, i < S.2.1.2.2.2.2.1 → pf i < S.2.1.2.2.2.1) {l : Nat} (hl : l < S.2.1.2.2.2.2.1) : qSpec g 2 0 0 mX12_wayTo [.ref 63, .int (nI l)] h (fun r h' => r = some (.int (lwayv S.2.1.1 S.2.1.2.2.2.2.2.2.1 pf l)) ∧ h' = h) := by
  have hk := hI.1.2.1
  have hn := hI.1.1
  have ep : ∀ i : Nat, i < S.2.1.2.2.2.2.1 → F 78 (i * 3) = nI (pf i) := fun i hi => (hR.2.2.1.2.2 (i * 3) (by omega)).trans (hP i hi).1.1
  refine qSpec_mono (M_wayTo hg hM.1 hM.c67 hM.c78 l (pf l) (by omega) (ep l hl) (by have := hpn l hl; omega) (fun c => ⟨pf (l - 1), by rw [show l * 3 - 3 = (l - 1) * 3 by omega]; exact ep (l - 1) (by omega), by have := hpn (l - 1) (by omega); omega⟩)) (fun r h' hy => ⟨hy.1.trans ?_, hy.2⟩)
  refine congrArg (fun z => some (Value.int z)) ?_
  rw [iapart_comm]
  unfold lwayv
  have e1 : F 67 (pf l * 10 + 0) = S.2.1.1 (pf l * 10 + 0) := hR.2.2.1.1 _ (by have := hpn l hl; omega)
  rw [e1]
  by_cases c : l = 0
  · rw [if_pos c, if_pos c, hR.1.2.2.2.2.1]
  · rw [if_neg c, if_neg c, show l * 3 - 3 = (l - 1) * 3 by omega, ep (l - 1) (by omega), h_tn (by have := hpn (l - 1) (by omega); omega)]
    rw [show F 67 (pf (l - 1) * 10 + 0) = S.2.1.1 (pf (l - 1) * 10 + 0) from hR.2.2.1.1 _ (by have := hpn (l - 1) (by omega); omega)]
theorem M_findLine {g : qG} (hg : qOK g) {h : qH} {x : Nat → Int32} {y : Nat → Int64} {F : Nat → Nat → Int32} {G : Nat → Nat → Int64} (hM : MX h x y F G) {S : CS} (hR : Rel S x F) {pf vf rf : Nat → Nat} (hP : isP S.2.1.2.1 S.2.1.2.2.2.2.1 pf vf rf) (hI : ROK S.2.1) (hpn : ∀ i : Nat, i < S.2.1.2.2.2.2.1 → pf i < S.2.1.2.2.2.1) (hl : lwf S.2.2.2.2.1.1) {l : Nat} (hll : l < S.2.1.2.2.2.2.1) : qSpec g 5 0 0 mX12_findLine [.ref 63, .int (nI l)] h (fun v h' => v = none ∧ QM h h' x y F G (fun a b c e f => a = (lmean S.2.1.1 S.2.2.2.2.1.1.1 S.2.2.2.2.1.1.2.1 S.2.2.2.2.1.1.2.2 (nI S.2.2.2.1.2) S.2.1.2.2.2.2.2.2.2.1 pf vf rf l).2.2.1 ∧ b = (lmean S.2.1.1 S.2.2.2.2.1.1.1 S.2.2.2.2.1.1.2.1 S.2.2.2.2.1.1.2.2 (nI S.2.2.2.1.2) S.2.1.2.2.2.2.2.2.2.1 pf vf rf l).2.2.2.1 ∧ c = (lmean S.2.1.1 S.2.2.2.2.1.1.1 S.2.2.2.2.1.1.2.1 S.2.2.2.2.1.1.2.2 (nI S.2.2.2.1.2) S.2.1.2.2.2.2.2.2.2.1 pf vf rf l).2.2.1 * (S.2.1.1 (pf l * 10 + 2)).toInt64 ∧ e = (lmean S.2.1.1 S.2.2.2.2.1.1.1 S.2.2.2.2.1.1.2.1 S.2.2.2.2.1.1.2.2 (nI S.2.2.2.1.2) S.2.1.2.2.2.2.2.2.2.1 pf vf rf l).2.2.2.2 + (lmean S.2.1.1 S.2.2.2.2.1.1.1 S.2.2.2.2.1.1.2.1 S.2.2.2.2.1.1.2.2 (nI S.2.2.2.1.2) S.2.1.2.2.2.2.2.2.2.1 pf vf rf l).2.2.1 * (S.2.1.1 (pf l * 10 + 9)).toInt64 ∧ f = 2 * S.2.1.1 (pf l * 10 + 8) + (nI (vf l) * S.2.1.2.2.2.2.2.2.2.1 + (if nI (rf l) = 0 then 0 else 1)) + S.2.1.1 (pf l * 10 + 9))) := by
  refine qSpec_run 12 "findLine" false hg mX12_findLine_ok rfl rfl (Nat.le_of_ble_eq_true rfl) (by decide) ?_
  intro run step
  have hk := hI.1.2.1
  have e3 : (3 * nI l : Int32) = nI (l * 3) := by rw [Int32.mul_comm]; exact pk_mul l 3
  have i0 : (3 * nI l : Int32) = nI (l * 3 + 0) := e3
  have f0 : F 78 (3 * nI l : Int32).toNatClampNeg = nI (pf l) := by rw [i0, h_tn (n := l * 3 + 0) (by omega)]; exact (hR.2.2.1.2.2 (l * 3 + 0) (by omega)).trans (hP l hll).1.1
  have i1 : (3 * nI l + 1 : Int32) = nI (l * 3 + 1) := ixk (k := 3) (w := 1)
  have f1 : F 78 (3 * nI l + 1 : Int32).toNatClampNeg = nI (vf l) := by rw [i1, h_tn (n := l * 3 + 1) (by omega)]; exact (hR.2.2.1.2.2 (l * 3 + 1) (by omega)).trans (hP l hll).2.1.1
  have i2 : (3 * nI l + 2 : Int32) = nI (l * 3 + 2) := ixk (k := 3) (w := 2)
  have f2 : F 78 (3 * nI l + 2 : Int32).toNatClampNeg = nI (rf l) := by rw [i2, h_tn (n := l * 3 + 2) (by omega)]; exact (hR.2.2.1.2.2 (l * 3 + 2) (by omega)).trans (hP l hll).2.2.1
  refine step.1 _ _ _ _ _ _ _ sgX12_findLine_0_ok ?_
  refine ⟨by decide, _, _, hM.1, rfl, ?_⟩
  refine ⟨_, _, hM.c78, (by rw [i0]; exact vp_in_nI (n := l * 3 + 0) (N := 30) (by omega) (by decide)), ?_⟩
  refine ⟨by decide, _, _, hM.1, rfl, ?_⟩
  refine ⟨_, _, hM.c78, (by rw [i1]; exact vp_in_nI (n := l * 3 + 1) (N := 30) (by omega) (by decide)), ?_⟩
  refine ⟨by decide, _, _, hM.1, rfl, ?_⟩
  refine ⟨_, _, hM.c78, (by rw [i2]; exact vp_in_nI (n := l * 3 + 2) (N := 30) (by omega) (by decide)), ?_⟩
  refine Or.inl ⟨rfl, _, 4, 0, 0, _, _, _, qi_12_385, ⟨rfl, rfl⟩, ⟨hM.1, rfl⟩, rfl, rfl, (by rw [f0, f1, f2]; exact M_findMeans hg hM hR hI (hpn l hll) (hP l hll).2.2.2 (hP l hll).2.1.2 hI.1.1 hl (nI l)), fun y30 h30 hy30 => ?_⟩
  obtain ⟨rfl, hQ⟩ := hy30
  refine ⟨rfl, Nat.le_refl _, Nat.le_refl _, ?_⟩
  exact ⟨rfl, hQ⟩
/-- one of the four sums -/
def tcm (u : Nat) (t : tS) : Int64 := if u = 0 then t.1 else if u = 1 then t.2.1 else if u = 2 then t.2.2.1 else t.2.2.2
set_option maxHeartbeats 1000000 in
theorem M_sumFrom {g : qG} (hg : qOK g) {h : qH} {x : Nat → Int32} {y : Nat → Int64} {F : Nat → Nat → Int32} {G : Nat → Nat → Int64} (hM : MX h x y F G) {S : CS} (hR : Rel S x F) {pf vf rf : Nat → Nat} (hP : isP S.2.1.2.1 S.2.1.2.2.2.2.1 pf vf rf) (hI : ROK S.2.1) (hpn : ∀ i : Nat, i < S.2.1.2.2.2.2.1 → pf i < S.2.1.2.2.2.1) (hl : lwf S.2.2.2.2.1.1) {i0 u : Nat} (hi0 : i0 ≤ S.2.1.2.2.2.2.1) (hu : u ≤ 3) : qSpec g 6 0 0 mX12_sumFrom [.ref 63, .int (nI i0), .int (nI u)] h (fun r h' => r = some (.long (tcm u (tsum S.2.1.1 S.2.2.2.2.1.1.1 S.2.2.2.2.1.1.2.1 S.2.2.2.2.1.1.2.2 (nI S.2.2.2.1.2) S.2.1.2.2.2.2.2.2.1 S.2.1.2.2.2.2.2.2.2.1 pf vf rf i0 (S.2.1.2.2.2.2.1 - i0) (0, 0, 0, 0)))) ∧ ∃ (x' : Nat → Int32) (y' : Nat → Int64) (F' : Nat → Nat → Int32), QN h h' x y F G x' y' F') := by
  refine qSpec_run 12 "sumFrom" false hg mX12_sumFrom_ok rfl rfl (Nat.le_of_ble_eq_true rfl) (by decide) ?_
  intro run step
  have hk := hI.1.2.1
  have loop : ∀ (m i : Nat) (t : tS) (s : Int64) (hZ : qH) (xX : Nat → Int32) (yX : Nat → Int64) (FX : Nat → Nat → Int32), i + m = S.2.1.2.2.2.2.1 → QN h hZ x y F G xX yX FX → tcm u t = s → tcm u (tsum S.2.1.1 S.2.2.2.2.1.1.1 S.2.2.2.2.1.1.2.1 S.2.2.2.2.1.1.2.2 (nI S.2.2.2.1.2) S.2.1.2.2.2.2.2.2.1 S.2.1.2.2.2.2.2.2.2.1 pf vf rf i m t) = tcm u (tsum S.2.1.1 S.2.2.2.2.1.1.1 S.2.2.2.2.1.1.2.1 S.2.2.2.2.1.1.2.2 (nI S.2.2.2.1.2) S.2.1.2.2.2.2.2.2.1 S.2.1.2.2.2.2.2.2.2.1 pf vf rf i0 (S.2.1.2.2.2.2.1 - i0) (0, 0, 0, 0)) → run 5 [(5, .int (nI i)), (3, .long s), (0, .ref 63), (1, .int (nI i0)), (2, .int (nI u))] [] hZ 0 0 := by
    intro m
    induction m with
    | zero =>
      intro i t s hZ xX yX FX hi hX hs hres
      have e36 : xX 36 = nI S.2.1.2.2.2.2.1 := (hX.R hR).1.2.2.2.2.2.2.2.1
      refine step.1 _ _ _ _ _ _ _ sgX12_sumFrom_5_ok ?_
      refine ⟨by decide, _, _, hX.1.1, rfl, ?_⟩
      refine ⟨fun c11 => ?_, fun c11 => absurd (show xX 36 ≤ nI i from by rw [e36]; exact nI_le (by omega) (by omega)) c11⟩
      
      refine step.1 _ _ _ _ _ _ _ sgX12_sumFrom_55_ok ?_
      refine ⟨rfl, Nat.le_refl _, Nat.le_refl _, ?_⟩
      exact ⟨by rw [← hres, ← hs]; rfl, xX, yX, FX, hX⟩
    | succ m ih =>
      intro i t s hZ xX yX FX hi hX hs hres
      have e36 : xX 36 = nI S.2.1.2.2.2.2.1 := (hX.R hR).1.2.2.2.2.2.2.2.1
      refine step.1 _ _ _ _ _ _ _ sgX12_sumFrom_5_ok ?_
      refine ⟨by decide, _, _, hX.1.1, rfl, ?_⟩
      refine ⟨fun c11 => absurd (show nI S.2.1.2.2.2.2.1 ≤ nI i from by rw [← e36]; exact c11) (h_nle (by omega) (by omega)), fun c11 => ?_⟩
      
      refine Or.inl ⟨rfl, _, 5, 0, 0, _, _, _, qi_12_396, ⟨rfl, rfl⟩, ⟨hX.1.1, rfl⟩, rfl, rfl, M_findLine hg hX.1 (hX.R hR) hP hI hpn hl (l := i) (by omega), fun y17 h17 hy17 => ?_⟩
      obtain ⟨rfl, hQ⟩ := hy17
      obtain ⟨x1, y1, F1, hN1, m1, m2, m3, m4, m5⟩ := hQ.n
      have hX1 := hX.tr hN1
      have at46 : ∀ (sv mv wv : Int64), sv = s → tcm u t + (mv + wv) = tcm u (tadd S.2.1.1 S.2.2.2.2.1.1.1 S.2.2.2.2.1.1.2.1 S.2.2.2.2.1.1.2.2 (nI S.2.2.2.1.2) S.2.1.2.2.2.2.2.2.1 S.2.1.2.2.2.2.2.2.2.1 pf vf rf i t) → run 46 [(5, .int (nI i)), (3, .long s), (0, .ref 63), (1, .int (nI i0)), (2, .int (nI u))] [.long wv, .long mv, .long sv] h17 0 0 := by
        intro sv mv wv hz hv
        refine step.1 _ _ _ _ _ _ _ sgX12_sumFrom_46_ok ?_
        have kk := ih (i + 1) (tadd S.2.1.1 S.2.2.2.2.1.1.1 S.2.2.2.2.1.1.2.1 S.2.2.2.2.1.1.2.2 (nI S.2.2.2.1.2) S.2.1.2.2.2.2.2.2.1 S.2.1.2.2.2.2.2.2.2.1 pf vf rf i t) (sv + (mv + wv)) h17 x1 y1 F1 (by omega) hX1 (by rw [hz, ← hv, hs]) hres
        rw [← nI_1] at kk
        exact kk
      have e0 : nI u = 0 ↔ u = 0 := nI_eq (b := 0) (by omega) (by decide)
      have e1 : nI u = 1 ↔ u = 1 := nI_eq (b := 1) (by omega) (by decide)
      have e2 : nI u = 2 ↔ u = 2 := nI_eq (b := 2) (by omega) (by decide)
      refine Or.inl ⟨rfl, _, 1, 0, 0, _, _, _, qi_12_389, ⟨rfl, rfl⟩, ⟨hX1.1.1, rfl⟩, rfl, rfl, M_meanOf hg hX1.1.1 (nI u), fun y23 h23 hy23 => ?_⟩
      obtain ⟨rfl, hh⟩ := hy23
      rw [hh]
      clear hh
      refine ⟨fun c28 => ?_, fun c28 => ?_⟩
      · have c28 : ¬ u = 3 := fun e => c28 (by rw [e]; rfl)
        refine step.1 _ _ _ _ _ _ _ sgX12_sumFrom_45_ok ?_
        refine at46 _ _ _ rfl ?_
        rcases (show u = 0 ∨ u = 1 ∨ u = 2 by omega) with rfl | rfl | rfl
        · rw [if_pos (e0.mpr rfl), m1]; show t.1 + (_ + 0) = t.1 + _; rw [Int64.add_zero]
        · rw [if_neg (fun z => absurd (e0.mp z) (by decide)), if_pos (e1.mpr rfl), m2]; show t.2.1 + (_ + 0) = t.2.1 + _; rw [Int64.add_zero]
        · rw [if_neg (fun z => absurd (e0.mp z) (by decide)), if_neg (fun z => absurd (e1.mp z) (by decide)), if_pos (e2.mpr rfl), m3]; show t.2.2.1 + (_ + 0) = t.2.2.1 + _; rw [Int64.add_zero]
      · have c28 : u = 3 := (nI_eq (b := 3) (by omega) (by decide)).mp c28
        refine Or.inl ⟨rfl, _, 2, 0, 0, _, _, _, qi_12_356, ⟨rfl, rfl⟩, ⟨hX1.1.1, rfl⟩, rfl, rfl, M_wayS hg hX1.1 (hX1.R hR) hP hI hpn (l := i) (by omega), fun y37 h37 hy37 => ?_⟩
        obtain ⟨rfl, hh⟩ := hy37
        rw [hh]
        clear hh
        refine at46 _ _ _ rfl ?_
        subst c28
        rw [if_neg (fun z => absurd (e0.mp z) (by decide)), if_neg (fun z => absurd (e1.mp z) (by decide)), if_neg (fun z => absurd (e2.mp z) (by decide)), m4]
        rfl
  refine step.1 _ _ _ _ _ _ _ sgX12_sumFrom_0_ok ?_
  exact loop (S.2.1.2.2.2.2.1 - i0) i0 (0, 0, 0, 0) 0 h x y F (by omega) (QN.rf hM) (by unfold tcm; simp) rfl
end Q11H
