section Q10N
theorem M_open_l {g : qG} (hg : qOK g) {h : qH} {x : Nat → Int32} {y : Nat → Int64} (hM : h.2 63 = some (M63 x y)) {n : Nat} {e : Nat × Nat} (hT : mT x n (.inl e)) {o : Nat} (ho : x 7 = nI o) (b : Int32) : qSpec g 2 0 0 mX12_opensOne [.ref 63, .int b] h (fun r h' => r = none ∧ ∃ x' : Nat → Int32, h'.2 63 = some (M63 x' y) ∧ same h h' [63] ∧ (∀ k : Nat, k ∉ [4, 5, 6, 7] → x' k = x k) ∧ x' 7 = nI (o + 1) ∧ mT x' n (.inl e)) := by
  refine qSpec_run 12 "opensOne" false hg mX12_opensOne_ok rfl rfl (Nat.le_of_ble_eq_true rfl) (by decide) ?_
  intro run step
  refine step.1 _ _ _ _ _ _ _ sgX12_opensOne_0_ok ?_
  refine Or.inl ⟨rfl, _, 1, 0, 0, _, _, _, qi_12_142, ⟨rfl, rfl⟩, ⟨hM, rfl⟩, rfl, rfl, M_fineS hg hM hT, fun y1 h1 hy1 => ?_⟩
  obtain ⟨rfl, hh⟩ := hy1
  rw [hh]
  clear hh
  refine ⟨fun c4 => ?_, fun c4 => absurd rfl c4⟩
  
  refine step.1 _ _ _ _ _ _ _ sgX12_opensOne_25_ok ?_
  refine Or.inl ⟨rfl, _, 1, 0, 0, _, _, _, qi_12_142, ⟨rfl, rfl⟩, ⟨hM, rfl⟩, rfl, rfl, M_fineS hg hM hT, fun y26 h26 hy26 => ?_⟩
  obtain ⟨rfl, hh⟩ := hy26
  rw [hh]
  clear hh
  refine ⟨fun c29 => ?_, fun c29 => absurd rfl c29⟩
  
  refine step.1 _ _ _ _ _ _ _ sgX12_opensOne_42_ok ?_
  refine ⟨rfl, ?_⟩
  refine ⟨by decide, _, _, hM, rfl, ?_⟩
  refine ⟨_, hM, Nat.le_of_ble_eq_true rfl, rfl, ?_⟩
  refine ⟨rfl, Nat.le_refl _, Nat.le_refl _, ?_⟩
  have en : (x 7 + 1 : Int32) = nI (o + 1) := by rw [ho]; exact nI_1 o
  refine ⟨rfl, upd x 7 (nI (o + 1)), ?_, same.up (by simp), fun k hk => upd_n (by simp at hk; omega), upd_s, hT.upk (by decide) _⟩
  exact Eq.trans (b := some (M63 (upd x 7 (x 7 + 1)) y)) rfl (congrArg (fun z => some (M63 (upd x 7 z) y)) en)
theorem M_open_6 {g : qG} (hg : qOK g) {h : qH} {x : Nat → Int32} {y : Nat → Int64} (hM : h.2 63 = some (M63 x y)) {n : Nat} {a : Nat} (hT : mT x n (.inr a)) (ho : x 7 = 6) (b : Int32) : qSpec g 2 0 0 mX12_opensOne [.ref 63, .int b] h (fun r h' => r = none ∧ ∃ x' : Nat → Int32, h'.2 63 = some (M63 x' y) ∧ same h h' [63] ∧ (∀ k : Nat, k ∉ [4, 5, 6, 7] → x' k = x k) ∧ x' 7 = nI 7 ∧ mT x' n (.inl (3, a))) := by
  refine qSpec_run 12 "opensOne" false hg mX12_opensOne_ok rfl rfl (Nat.le_of_ble_eq_true rfl) (by decide) ?_
  intro run step
  have h4 : x 4 = nI a := hT.2.2.2.1
  have hn := hT.2.1
  have han : a ≤ n := hT.2.2.2.2
  refine step.1 _ _ _ _ _ _ _ sgX12_opensOne_0_ok ?_
  refine Or.inl ⟨rfl, _, 1, 0, 0, _, _, _, qi_12_142, ⟨rfl, rfl⟩, ⟨hM, rfl⟩, rfl, rfl, M_fineS hg hM hT, fun y1 h1 hy1 => ?_⟩
  obtain ⟨rfl, hh⟩ := hy1
  rw [hh]
  clear hh
  refine ⟨fun c4 => absurd (show (1 : Int32) = 0 from c4) (by decide), fun c4 => ?_⟩
  refine ⟨by decide, _, _, hM, rfl, ?_⟩
  refine ⟨fun c13 => absurd ho c13, fun c13 => ?_⟩
  
  refine ⟨by decide, _, _, hM, rfl, ?_⟩
  refine Or.inl ⟨rfl, _, 1, 0, 0, _, _, _, qi_12_149, ⟨rfl, rfl⟩, ⟨hM, rfl⟩, rfl, rfl, (by rw [h4]; exact M_wrong_r hg hM hT 3 a (by omega)), fun y22 h22 hy22 => ?_⟩
  obtain ⟨rfl, x2, hM2, hs2, hk2, hT2⟩ := hy22
  refine step.1 _ _ _ _ _ _ _ sgX12_opensOne_25_ok ?_
  refine Or.inl ⟨rfl, _, 1, 0, 0, _, _, _, qi_12_142, ⟨rfl, rfl⟩, ⟨hM2, rfl⟩, rfl, rfl, M_fineS hg hM2 hT2, fun y26 h26 hy26 => ?_⟩
  obtain ⟨rfl, hh⟩ := hy26
  rw [hh]
  clear hh
  refine ⟨fun c29 => ?_, fun c29 => absurd rfl c29⟩
  
  refine step.1 _ _ _ _ _ _ _ sgX12_opensOne_42_ok ?_
  refine ⟨rfl, ?_⟩
  refine ⟨by decide, _, _, hM2, rfl, ?_⟩
  refine ⟨_, hM2, Nat.le_of_ble_eq_true rfl, rfl, ?_⟩
  refine ⟨rfl, Nat.le_refl _, Nat.le_refl _, ?_⟩
  have en : (x2 7 + 1 : Int32) = nI 7 := by rw [hk2 7 (by decide), ho]; rfl
  refine ⟨rfl, upd x2 7 (nI 7), ?_, hs2.t2 (same.up (by simp) : same _ _ [63]) (by decide), fun k hk => (upd_n (by simp at hk; omega)).trans (hk2 k (by simp at hk ⊢; omega)), upd_s, hT2.upk (by decide) _⟩
  exact Eq.trans (b := some (M63 (upd x2 7 (x2 7 + 1)) y)) rfl (congrArg (fun z => some (M63 (upd x2 7 z) y)) en)
theorem M_open_ok {g : qG} (hg : qOK g) {h : qH} {x : Nat → Int32} {y : Nat → Int64} (hM : h.2 63 = some (M63 x y)) {n : Nat} {a : Nat} (hT : mT x n (.inr a)) {o : Nat} (ho : x 7 = nI o) (ho6 : o < 6) (b : Nat) (hb : a + b ≤ n) : qSpec g 2 0 0 mX12_opensOne [.ref 63, .int (nI b)] h (fun r h' => r = none ∧ ∃ x' : Nat → Int32, h'.2 63 = some (M63 x' y) ∧ same h h' [63] ∧ (∀ k : Nat, k ∉ [4, 5, 6, 7] → x' k = x k) ∧ x' 7 = nI (o + 1) ∧ mT x' n (.inr (a + b))) := by
  refine qSpec_run 12 "opensOne" false hg mX12_opensOne_ok rfl rfl (Nat.le_of_ble_eq_true rfl) (by decide) ?_
  intro run step
  have h4 : x 4 = nI a := hT.2.2.2.1
  refine step.1 _ _ _ _ _ _ _ sgX12_opensOne_0_ok ?_
  refine Or.inl ⟨rfl, _, 1, 0, 0, _, _, _, qi_12_142, ⟨rfl, rfl⟩, ⟨hM, rfl⟩, rfl, rfl, M_fineS hg hM hT, fun y1 h1 hy1 => ?_⟩
  obtain ⟨rfl, hh⟩ := hy1
  rw [hh]
  clear hh
  refine ⟨fun c4 => absurd (show (1 : Int32) = 0 from c4) (by decide), fun c4 => ?_⟩
  refine ⟨by decide, _, _, hM, rfl, ?_⟩
  refine ⟨fun c13 => ?_, fun c13 => absurd (show x 7 = 6 from c13) (by rw [ho]; exact fun z => absurd ((nI_eq (b := 6) (by omega) (by decide)).mp z) (by omega))⟩
  
  refine step.1 _ _ _ _ _ _ _ sgX12_opensOne_25_ok ?_
  refine Or.inl ⟨rfl, _, 1, 0, 0, _, _, _, qi_12_142, ⟨rfl, rfl⟩, ⟨hM, rfl⟩, rfl, rfl, M_fineS hg hM hT, fun y26 h26 hy26 => ?_⟩
  obtain ⟨rfl, hh⟩ := hy26
  rw [hh]
  clear hh
  refine ⟨fun c29 => absurd (show (1 : Int32) = 0 from c29) (by decide), fun c29 => ?_⟩
  refine ⟨rfl, ?_⟩
  refine ⟨by decide, _, _, hM, rfl, ?_⟩
  refine ⟨_, hM, Nat.le_of_ble_eq_true rfl, rfl, ?_⟩
  refine step.1 _ _ _ _ _ _ _ sgX12_opensOne_42_ok ?_
  refine ⟨rfl, ?_⟩
  refine ⟨by decide, _, _, rfl, rfl, ?_⟩
  refine ⟨_, rfl, Nat.le_of_ble_eq_true rfl, rfl, ?_⟩
  refine ⟨rfl, Nat.le_refl _, Nat.le_refl _, ?_⟩
  have en : (x 7 + 1 : Int32) = nI (o + 1) := by rw [ho]; exact nI_1 o
  have ea : (x 4 + nI b : Int32) = nI (a + b) := by rw [h4]; exact nI_add a b
  refine ⟨rfl, upd (upd x 4 (nI (a + b))) 7 (nI (o + 1)), ?_, same.up2 (by simp) (by simp), fun k hk => (upd_n (by simp at hk; omega)).trans (upd_n (by simp at hk; omega)), upd_s, hT.1, hT.2.1, hT.2.2.1, rfl, hb⟩
  refine Eq.trans (b := some (M63 (upd (upd x 4 (x 4 + nI b)) 7 (x 7 + 1)) y)) rfl ?_
  rw [en, ea]
end Q10N
