section Q10M
theorem M_emit_l {g : qG} (hg : qOK g) {h : qH} {x : Nat → Int32} {y : Nat → Int64} (hM : h.2 63 = some (M63 x y)) {n : Nat} {s : PS} (hT : mT x n s) (hb : pbad s = true) (k v : Int32) : qSpec g 2 0 0 mX12_emit [.ref 63, .int k, .int v] h (fun r h' => r = none ∧ h' = h) := by
  refine qSpec_run 12 "emit" false hg mX12_emit_ok rfl rfl (Nat.le_of_ble_eq_true rfl) (by decide) ?_
  intro run step
  refine step.1 _ _ _ _ _ _ _ sgX12_emit_0_ok ?_
  refine Or.inl ⟨rfl, _, 1, 0, 0, _, _, _, qi_12_142, ⟨rfl, rfl⟩, ⟨hM, rfl⟩, rfl, rfl, M_fineS hg hM hT, fun y1 h1 hy1 => ?_⟩
  obtain ⟨rfl, hh⟩ := hy1
  rw [hh]
  clear hh
  refine ⟨fun c4 => absurd (show qb (!pbad s) = 0 from by rw [hb]; rfl) c4, fun c4 => ?_⟩
  
  refine ⟨rfl, Nat.le_refl _, Nat.le_refl _, ?_⟩
  exact ⟨rfl, rfl⟩
theorem M_emit_r {g : qG} (hg : qOK g) {h : qH} {x : Nat → Int32} {y : Nat → Int64} (hM : h.2 63 = some (M63 x y)) {n : Nat} {s : PS} (hT : mT x n s) (hb : pbad s = false) {K V : Nat → Int32} (hK : h.2 70 = some (aI' 150 K)) (hV : h.2 71 = some (aI' 150 V)) {z : Nat} (hz : x 30 = nI z) (hz2 : z < 150) (k v : Int32) : qSpec g 2 0 0 mX12_emit [.ref 63, .int k, .int v] h (fun r h' => r = none ∧ h'.2 63 = some (M63 (upd x 30 (nI (z + 1))) y) ∧ h'.2 70 = some (aI' 150 (upd K z k)) ∧ h'.2 71 = some (aI' 150 (upd V z v)) ∧ same h h' [63, 70, 71]) := by
  refine qSpec_run 12 "emit" false hg mX12_emit_ok rfl rfl (Nat.le_of_ble_eq_true rfl) (by decide) ?_
  intro run step
  refine step.1 _ _ _ _ _ _ _ sgX12_emit_0_ok ?_
  refine Or.inl ⟨rfl, _, 1, 0, 0, _, _, _, qi_12_142, ⟨rfl, rfl⟩, ⟨hM, rfl⟩, rfl, rfl, M_fineS hg hM hT, fun y1 h1 hy1 => ?_⟩
  obtain ⟨rfl, hh⟩ := hy1
  rw [hh]
  clear hh
  refine ⟨fun c4 => ?_, fun c4 => absurd (show qb (!pbad s) = 0 from c4) (by rw [hb]; decide)⟩
  
  refine step.1 _ _ _ _ _ _ _ sgX12_emit_8_ok ?_
  refine ⟨by decide, _, _, hM, rfl, ?_⟩
  refine ⟨by decide, _, _, hM, rfl, ?_⟩
  refine ⟨_, _, hK, (by rw [hz]; exact vp_in_nI (n := z) (N := 150) (by omega) (by decide)), ?_⟩
  refine ⟨by decide, _, _, hM, rfl, ?_⟩
  refine ⟨by decide, _, _, hM, rfl, ?_⟩
  refine ⟨_, _, hV, (by rw [hz]; exact vp_in_nI (n := z) (N := 150) (by omega) (by decide)), ?_⟩
  refine ⟨rfl, ?_⟩
  refine ⟨by decide, _, _, hM, rfl, ?_⟩
  refine ⟨_, hM, Nat.le_of_ble_eq_true rfl, rfl, ?_⟩
  refine ⟨rfl, Nat.le_refl _, Nat.le_refl _, ?_⟩
  have en : (x 30 + 1 : Int32) = nI (z + 1) := by rw [hz]; exact nI_1 z
  have et : (x 30).toNatClampNeg = z := by rw [hz, h_tn (n := z) (by omega)]
  refine ⟨rfl, ?_, ?_, ?_, ⟨rfl, fun j hj => ?_⟩⟩
  · exact Eq.trans (b := some (M63 (upd x 30 (x 30 + 1)) y)) rfl (congrArg (fun q => some (M63 (upd x 30 q) y)) en)
  · exact Eq.trans (b := some (aI' 150 (upd K (x 30).toNatClampNeg k))) rfl (congrArg (fun q => some (aI' 150 (upd K q k))) et)
  · exact Eq.trans (b := some (aI' 150 (upd V (x 30).toNatClampNeg v))) rfl (congrArg (fun q => some (aI' 150 (upd V q v))) et)
  · simp at hj
    simp only [qup, if_neg hj.1, if_neg hj.2.1, if_neg hj.2.2]
theorem M_fault {g : qG} (hg : qOK g) {h : qH} {x : Nat → Int32} {y : Nat → Int64} (hM : h.2 63 = some (M63 x y)) : qSpec g 1 0 0 mX12_fault [.ref 63] h (fun r h' => r = some (.int (x 8)) ∧ h' = (h.1, qup h.2 63 (M63 (upd x 0 0) y))) := by
  refine qSpec_run 12 "fault" false hg mX12_fault_ok rfl rfl (Nat.le_of_ble_eq_true rfl) (by decide) ?_
  intro run step
  refine step.1 _ _ _ _ _ _ _ sgX12_fault_0_ok ?_
  refine ⟨_, hM, Nat.le_of_ble_eq_true rfl, rfl, ?_⟩
  refine ⟨by decide, _, _, rfl, rfl, ?_⟩
  refine ⟨.int, rfl, rfl, Nat.le_refl _, Nat.le_refl _, ?_⟩
  exact ⟨rfl, rfl⟩
theorem M_count {g : qG} (hg : qOK g) {h : qH} {x : Nat → Int32} {y : Nat → Int64} (hM : h.2 63 = some (M63 x y)) (v : Int32) : qSpec g 1 0 0 mX12_count [.ref 63, .int v] h (fun r h' => r = some (.int (if v = 0 then x 64 else if v = 1 then x 2 else if v = 2 then x 62 else -1)) ∧ h' = (h.1, qup h.2 63 (M63 (upd x 0 0) y))) := by
  refine qSpec_run 12 "count" false hg mX12_count_ok rfl rfl (Nat.le_of_ble_eq_true rfl) (by decide) ?_
  intro run step
  refine step.1 _ _ _ _ _ _ _ sgX12_count_0_ok ?_
  refine ⟨_, hM, Nat.le_of_ble_eq_true rfl, rfl, ?_⟩
  refine ⟨fun c6 => ?_, fun c6 => ?_⟩
  · have c6 : ¬ v = 0 := c6
    refine step.1 _ _ _ _ _ _ _ sgX12_count_16_ok ?_
    refine ⟨fun c18 => ?_, fun c18 => ?_⟩
    · have c18 : ¬ v = 1 := c18
      refine step.1 _ _ _ _ _ _ _ sgX12_count_28_ok ?_
      refine ⟨fun c30 => ?_, fun c30 => ?_⟩
      · have c30 : ¬ v = 2 := c30
        refine step.1 _ _ _ _ _ _ _ sgX12_count_40_ok ?_
        refine step.1 _ _ _ _ _ _ _ sgX12_count_41_ok ?_
        refine ⟨.int, rfl, rfl, Nat.le_refl _, Nat.le_refl _, ?_⟩
        refine ⟨?_, rfl⟩
        rw [if_neg c6, if_neg c18, if_neg c30]
      · have c30 : v = 2 := c30
        refine ⟨by decide, _, _, rfl, rfl, ?_⟩
        refine step.1 _ _ _ _ _ _ _ sgX12_count_41_ok ?_
        refine ⟨.int, rfl, rfl, Nat.le_refl _, Nat.le_refl _, ?_⟩
        refine ⟨?_, rfl⟩
        rw [if_neg c6, if_neg c18, if_pos c30]
    · have c18 : v = 1 := c18
      refine ⟨by decide, _, _, rfl, rfl, ?_⟩
      refine step.1 _ _ _ _ _ _ _ sgX12_count_41_ok ?_
      refine ⟨.int, rfl, rfl, Nat.le_refl _, Nat.le_refl _, ?_⟩
      refine ⟨?_, rfl⟩
      rw [if_neg c6, if_pos c18]
  · have c6 : v = 0 := c6
    refine ⟨by decide, _, _, rfl, rfl, ?_⟩
    refine step.1 _ _ _ _ _ _ _ sgX12_count_41_ok ?_
    refine ⟨.int, rfl, rfl, Nat.le_refl _, Nat.le_refl _, ?_⟩
    refine ⟨?_, rfl⟩
    rw [if_pos c6]
end Q10M
