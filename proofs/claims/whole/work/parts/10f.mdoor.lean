section Q10F
theorem ixk {x w k : Nat} : nI k * nI x + nI w = nI (x * k + w) := by rw [pk_mul, nI_add, Nat.mul_comm]
/-- a step of the reading that writes into an array, too -/
def mP2 (h h' : qH) (x : Nat → Int32) (y : Nat → Int64) (Z : List Nat) (n : Nat) (s : PS) (c sz : Nat) (A : Nat → Int32) : Prop := ∃ x' : Nat → Int32, h'.2 63 = some (M63 x' y) ∧ h'.2 c = some (aI' sz A) ∧ same h h' [63, c] ∧ (∀ k : Nat, k ∉ Z → x' k = x k) ∧ mT x' n s
theorem mB.p {h h' : qH} {F : Nat → Int32} {x : Nat → Int32} (hB : mB h F) (hs : same h h' [63]) : mB h' F := hB.sm hs (by decide)
theorem tr3 {x x1 x2 : Nat → Int32} {Z : List Nat} (h2 : ∀ k : Nat, k ∉ Z → x2 k = x1 k) (h1 : ∀ k : Nat, k ∉ Z → x1 k = x k) : ∀ k : Nat, k ∉ Z → x2 k = x k := fun k hk => (h2 k hk).trans (h1 k hk)
theorem M_readOf {g : qG} (hg : qOK g) {h : qH} {x : Nat → Int32} {y : Nat → Int64} (hM : h.2 63 = some (M63 x y)) {F : Nat → Int32} {n : Nat} {s : PS} (hT : mT x n s) (hB : mB h F) {N : Nat} (hx : x 14 = nI N) (hN10 : N ≤ 10) {nd : Nat → Int32} (hN : h.2 66 = some (aI' 100 nd)) (k : Nat) (hk : k < 10) {m : Int32} (hm : m ≤ 9999) : qSpec g 4 0 0 mX12_readOf [.ref 63, .int (nI k), .int m] h (fun r h' => r = none ∧ mP2 h h' x y [4, 5, 6] n (pfactS F n N m s) 66 100 (if pbad (pfactS F n N m s) = true then nd else pfactD F n N m 10 k s nd)) := by
  refine qSpec_run 12 "readOf" false hg mX12_readOf_ok rfl rfl (Nat.le_of_ble_eq_true rfl) (by decide) ?_
  intro run step
  refine step.1 _ _ _ _ _ _ _ sgX12_readOf_0_ok ?_
  refine Or.inl ⟨rfl, _, 3, 0, 0, _, _, _, qi_12_206, ⟨rfl, rfl⟩, ⟨hM, rfl⟩, rfl, rfl, M_readDoor hg hM hT hB hx hN10, fun y1 h1 hy1 => ?_⟩
  obtain ⟨rfl, x1, hM1, hs1, hk1, hT1⟩ := hy1
  have hB1 := hB.sm hs1 (by decide)
  have hN1 := (hs1.2 66 (by decide)).trans hN
  refine Or.inl ⟨rfl, _, 2, 0, 0, _, _, _, qi_12_202, ⟨rfl, rfl⟩, ⟨hM1, rfl⟩, rfl, rfl, M_num hg hM1 hT1 hB1 0 hm, fun y8 h8 hy8 => ?_⟩
  obtain ⟨rfl, x2, hM2, hs2, hk2, hT2⟩ := hy8
  have hs := hs1.t2 hs2 (by decide)
  have hkk := tr3 hk2 hk1
  have hN2 := (hs2.2 66 (by decide)).trans hN1
  refine Or.inl ⟨rfl, _, 1, 0, 0, _, _, _, qi_12_142, ⟨rfl, rfl⟩, ⟨hM2, rfl⟩, rfl, rfl, M_fineS hg hM2 hT2, fun y14 h14 hy14 => ?_⟩
  obtain ⟨rfl, hh⟩ := hy14
  rw [hh]
  clear hh
  refine ⟨fun c17 => ?_, fun c17 => ?_⟩
  · have hb : pbad (pfactS F n N m s) = true := by
      have z := qb_0.mp c17
      exact (by simpa using z : pbad (pnum F n 0 m (pnumS F n 0 (nI N - 1) s)).1 = true)
    refine step.1 _ _ _ _ _ _ _ sgX12_readOf_33_ok ?_
    refine ⟨rfl, Nat.le_refl _, Nat.le_refl _, ?_⟩
    refine ⟨rfl, x2, hM2, ?_, hs.sub (by simp), hkk, hT2⟩
    rw [if_pos hb]
    exact hN2
  · have hb : pbad (pfactS F n N m s) = false := by
      have z := qb_1.mp c17
      exact (by simpa using z : pbad (pnum F n 0 m (pnumS F n 0 (nI N - 1) s)).1 = false)
    obtain ⟨d, hd, ed⟩ := pnum_nat (by omega) (pbad_numS hb)
    have ei : (10 * (pnum F n 0 (nI N - 1) s).2 + nI k : Int32) = nI (d * 10 + k) := by rw [ed]; exact ixk (k := 10)
    refine ⟨by decide, _, _, hM2, rfl, ?_⟩
    refine ⟨_, _, hN2, (by rw [ei]; exact vp_in_nI (n := d * 10 + k) (N := 100) (by omega) (by decide)), ?_⟩
    refine step.1 _ _ _ _ _ _ _ sgX12_readOf_33_ok ?_
    refine ⟨rfl, Nat.le_refl _, Nat.le_refl _, ?_⟩
    refine ⟨rfl, x2, hM2, ?_, (hs.sub (by simp) : same h _ [63, 66]).t2 (same.up (by simp) : same _ _ [66]) (by decide), hkk, hT2⟩
    rw [if_neg (by rw [hb]; decide), pfactD, ed, h_tn (n := d) (by omega)]
    have e2 : (10 * (pnum F n 0 (nI N - 1) s).2 + nI k).toNatClampNeg = d * 10 + k := by rw [ei, h_tn (n := d * 10 + k) (by omega)]
    rw [ed] at e2
    exact congrArg (fun z => some (aI' 100 (upd nd z (pnum F n 0 m (pnumS F n 0 (nI N - 1) s)).2))) e2
theorem mT.up14 {x : Nat → Int32} {n : Nat} {s : PS} (hT : mT x n s) (v : Int32) : mT (upd x 14 v) n s := by
  match s, hT with
  | .inl e, hT => exact hT
  | .inr a, hT => exact hT
set_option maxHeartbeats 2000000 in
theorem M_readNewDoor {g : qG} (hg : qOK g) {h : qH} {x : Nat → Int32} {y : Nat → Int64} (hM : h.2 63 = some (M63 x y)) {F : Nat → Int32} {n : Nat} {s : PS} (hT : mT x n s) (hB : mB h F) {N : Nat} (hx : x 14 = nI N) (hN10 : N < 10) {nd : Nat → Int32} (hN : h.2 66 = some (aI' 100 nd)) : qSpec g 4 0 0 mX12_readNewDoor [.ref 63] h (fun r h' => r = none ∧ ∃ x' : Nat → Int32, h'.2 63 = some (M63 x' y) ∧ (h'.2 66 = some (aI' 100 (adoor nd N (pnum F n 0 99 s).2 (pnum F n 0 240 (pnumS F n 0 99 s)).2 (pnum F n 0 99 (pnumS F n 0 240 (pnumS F n 0 99 s))).2)) ∧ x' 14 = nI (N + 1)) ∧ same h h' [63, 66] ∧ (∀ k : Nat, k ∉ [4, 5, 6, 14] → x' k = x k) ∧ mT x' n (pnumS F n 0 99 (pnumS F n 0 240 (pnumS F n 0 99 s)))) := by
  refine qSpec_run 12 "readNewDoor" false hg mX12_readNewDoor_ok rfl rfl (Nat.le_of_ble_eq_true rfl) (by decide) ?_
  intro run step
  have ei : ∀ k : Nat, k < 10 → (10 * x 14 + nI k : Int32) = nI (N * 10 + k) := fun k hk => by rw [hx]; exact ixk (k := 10)
  have et : ∀ k : Nat, k < 10 → (10 * x 14 + nI k : Int32).toNatClampNeg = N * 10 + k := fun k hk => by rw [ei k hk, h_tn (n := N * 10 + k) (by omega)]
  refine step.1 _ _ _ _ _ _ _ sgX12_readNewDoor_0_ok ?_
  refine ⟨by decide, _, _, hM, rfl, ?_⟩
  refine ⟨by decide, _, _, hM, rfl, ?_⟩
  refine Or.inl ⟨rfl, _, 2, 0, 0, _, _, _, qi_12_202, ⟨rfl, rfl⟩, ⟨hM, rfl⟩, rfl, rfl, M_num hg hM hT hB 0 (by decide : (99 : Int32) ≤ 9999), fun y19 h19 hy19 => ?_⟩
  obtain ⟨rfl, x1, hM1, hs1, hk1, hT1⟩ := hy19
  have hB1 := hB.sm hs1 (by decide)
  have hN1 := (hs1.2 66 (by decide)).trans hN
  refine ⟨_, _, hN1, (by have e9 : (10 * x 14 + 0 : Int32) = nI (N * 10 + 0) := ei 0 (by decide); rw [e9]; exact vp_in_nI (n := N * 10 + 0) (N := 100) (by omega) (by decide)), ?_⟩
  have hM1a : (h19.1, qup h19.2 66 (aI' 100 (upd nd ((10 * x 14 + 0 : Int32).toNatClampNeg) (pnum F n 0 99 s).2))).2 63 = some (M63 x1 y) := hM1
  have hsa := (hs1.sub (by simp) : same h h19 [63, 66]).t2 (same.up (by simp) : same _ (h19.1, qup h19.2 66 (aI' 100 (upd nd ((10 * x 14 + 0 : Int32).toNatClampNeg) (pnum F n 0 99 s).2))) [66]) (by decide)
  have hB1a : mB (h19.1, qup h19.2 66 (aI' 100 (upd nd ((10 * x 14 + 0 : Int32).toNatClampNeg) (pnum F n 0 99 s).2))) F := hB1.sm (same.up (by simp) : same _ _ [66]) (by decide)
  have hNa : (h19.1, qup h19.2 66 (aI' 100 (upd nd ((10 * x 14 + 0 : Int32).toNatClampNeg) (pnum F n 0 99 s).2))).2 66 = some (aI' 100 (upd nd ((10 * x 14 + 0 : Int32).toNatClampNeg) (pnum F n 0 99 s).2)) := rfl
  refine ⟨by decide, _, _, hM1, rfl, ?_⟩
  refine Or.inl ⟨rfl, _, 2, 0, 0, _, _, _, qi_12_202, ⟨rfl, rfl⟩, ⟨hM1, rfl⟩, rfl, rfl, M_num hg hM1a hT1 hB1a 0 (by decide : (240 : Int32) ≤ 9999), fun y35 h35 hy35 => ?_⟩
  obtain ⟨rfl, x2, hM2, hs2, hk2, hT2⟩ := hy35
  have hB2 := hB1a.sm hs2 (by decide)
  have hN2 := (hs2.2 66 (by decide)).trans hNa
  refine ⟨_, _, hN2, (by have e9 : (10 * x 14 + 1 : Int32) = nI (N * 10 + 1) := ei 1 (by decide); rw [e9]; exact vp_in_nI (n := N * 10 + 1) (N := 100) (by omega) (by decide)), ?_⟩
  have hM2a : (h35.1, qup h35.2 66 (aI' 100 (upd (upd nd ((10 * x 14 + 0 : Int32).toNatClampNeg) (pnum F n 0 99 s).2) ((10 * x 14 + 1 : Int32).toNatClampNeg) (pnum F n 0 240 (pnumS F n 0 99 s)).2))).2 63 = some (M63 x2 y) := hM2
  have hsb := (hsa.t2 hs2 (by decide)).t2 (same.up (by simp) : same _ (h35.1, qup h35.2 66 (aI' 100 (upd (upd nd ((10 * x 14 + 0 : Int32).toNatClampNeg) (pnum F n 0 99 s).2) ((10 * x 14 + 1 : Int32).toNatClampNeg) (pnum F n 0 240 (pnumS F n 0 99 s)).2))) [66]) (by decide)
  have hB2a : mB (h35.1, qup h35.2 66 (aI' 100 (upd (upd nd ((10 * x 14 + 0 : Int32).toNatClampNeg) (pnum F n 0 99 s).2) ((10 * x 14 + 1 : Int32).toNatClampNeg) (pnum F n 0 240 (pnumS F n 0 99 s)).2))) F := hB2.sm (same.up (by simp) : same _ _ [66]) (by decide)
  have hNb : (h35.1, qup h35.2 66 (aI' 100 (upd (upd nd ((10 * x 14 + 0 : Int32).toNatClampNeg) (pnum F n 0 99 s).2) ((10 * x 14 + 1 : Int32).toNatClampNeg) (pnum F n 0 240 (pnumS F n 0 99 s)).2))).2 66 = some (aI' 100 (upd (upd nd ((10 * x 14 + 0 : Int32).toNatClampNeg) (pnum F n 0 99 s).2) ((10 * x 14 + 1 : Int32).toNatClampNeg) (pnum F n 0 240 (pnumS F n 0 99 s)).2)) := rfl
  refine ⟨by decide, _, _, hM2, rfl, ?_⟩
  refine Or.inl ⟨rfl, _, 2, 0, 0, _, _, _, qi_12_202, ⟨rfl, rfl⟩, ⟨hM2, rfl⟩, rfl, rfl, M_num hg hM2a hT2 hB2a 0 (by decide : (99 : Int32) ≤ 9999), fun y50 h50 hy50 => ?_⟩
  obtain ⟨rfl, x3, hM3, hs3, hk3, hT3⟩ := hy50
  have hB3 := hB2a.sm hs3 (by decide)
  have hN3 := (hs3.2 66 (by decide)).trans hNb
  refine ⟨_, _, hN3, (by have e9 : (10 * x 14 + 2 : Int32) = nI (N * 10 + 2) := ei 2 (by decide); rw [e9]; exact vp_in_nI (n := N * 10 + 2) (N := 100) (by omega) (by decide)), ?_⟩
  refine ⟨by decide, _, _, hM3, rfl, ?_⟩
  refine ⟨_, _, rfl, (by have e9 : (10 * x 14 + 3 : Int32) = nI (N * 10 + 3) := ei 3 (by decide); rw [e9]; exact vp_in_nI (n := N * 10 + 3) (N := 100) (by omega) (by decide)), ?_⟩
  refine ⟨by decide, _, _, hM3, rfl, ?_⟩
  refine ⟨_, _, rfl, (by have e9 : (10 * x 14 + 4 : Int32) = nI (N * 10 + 4) := ei 4 (by decide); rw [e9]; exact vp_in_nI (n := N * 10 + 4) (N := 100) (by omega) (by decide)), ?_⟩
  refine ⟨by decide, _, _, hM3, rfl, ?_⟩
  refine ⟨_, _, rfl, (by have e9 : (10 * x 14 + 5 : Int32) = nI (N * 10 + 5) := ei 5 (by decide); rw [e9]; exact vp_in_nI (n := N * 10 + 5) (N := 100) (by omega) (by decide)), ?_⟩
  refine ⟨by decide, _, _, hM3, rfl, ?_⟩
  refine ⟨_, _, rfl, (by have e9 : (10 * x 14 + 6 : Int32) = nI (N * 10 + 6) := ei 6 (by decide); rw [e9]; exact vp_in_nI (n := N * 10 + 6) (N := 100) (by omega) (by decide)), ?_⟩
  refine ⟨by decide, _, _, hM3, rfl, ?_⟩
  refine ⟨_, _, rfl, (by have e9 : (10 * x 14 + 7 : Int32) = nI (N * 10 + 7) := ei 7 (by decide); rw [e9]; exact vp_in_nI (n := N * 10 + 7) (N := 100) (by omega) (by decide)), ?_⟩
  refine ⟨by decide, _, _, hM3, rfl, ?_⟩
  refine ⟨_, _, rfl, (by have e9 : (10 * x 14 + 8 : Int32) = nI (N * 10 + 8) := ei 8 (by decide); rw [e9]; exact vp_in_nI (n := N * 10 + 8) (N := 100) (by omega) (by decide)), ?_⟩
  refine ⟨by decide, _, _, hM3, rfl, ?_⟩
  refine ⟨_, _, rfl, (by have e9 : (10 * x 14 + 9 : Int32) = nI (N * 10 + 9) := ei 9 (by decide); rw [e9]; exact vp_in_nI (n := N * 10 + 9) (N := 100) (by omega) (by decide)), ?_⟩
  refine ⟨rfl, ?_⟩
  refine ⟨by decide, _, _, hM3, rfl, ?_⟩
  refine ⟨_, hM3, Nat.le_of_ble_eq_true rfl, rfl, ?_⟩
  have e14 : x3 14 = x 14 := ((hk3 14 (by decide)).trans (hk2 14 (by decide))).trans (hk1 14 (by decide))
  refine ⟨rfl, Nat.le_refl _, Nat.le_refl _, ?_⟩
  have en : (x3 14 + 1 : Int32) = nI (N + 1) := by rw [e14, hx]; exact nI_1 N
  refine ⟨rfl, upd x3 14 (nI (N + 1)), ?_, ⟨?_, rfl⟩, ?_, ?_, ?_⟩
  · exact Eq.trans (b := some (M63 (upd x3 14 (x3 14 + 1)) y)) rfl (congrArg (fun z => some (M63 (upd x3 14 z) y)) en)
  · rw [adoor, ← et 0 (by decide), ← et 1 (by decide), ← et 2 (by decide), ← et 3 (by decide), ← et 4 (by decide), ← et 5 (by decide), ← et 6 (by decide), ← et 7 (by decide), ← et 8 (by decide), ← et 9 (by decide)]
    rfl
  · have hsc := hsb.t2 hs3 (by decide)
    exact ⟨hsc.1, fun j hj => by
      have h63 : ¬ j = 63 := fun e => hj (e ▸ by simp)
      have h66 : ¬ j = 66 := fun e => hj (e ▸ by simp)
      simp only [qup, if_neg h63, if_neg h66]
      exact hsc.2 j hj⟩
  · intro k hk
    simp at hk
    rw [upd_n (by omega)]
    exact ((hk3 k (by simp; omega)).trans (hk2 k (by simp; omega))).trans (hk1 k (by simp; omega))
  · exact hT3.up14 _
end Q10F
