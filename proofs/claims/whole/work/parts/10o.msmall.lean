section Q10O
theorem M_xOf {g : qG} (hg : qOK g) {h : qH} {x : Nat → Int32} {y : Nat → Int64} (hM : h.2 63 = some (M63 x y)) {dr : Nat → Int32} (hD : h.2 67 = some (aI' 100 dr)) (d : Nat) (hd : d < 10) : qSpec g 1 0 0 mX12_xOf [.ref 63, .int (nI d)] h (fun r h' => r = some (.int (dr (d * 10 + 0))) ∧ h' = h) := by
  refine qSpec_run 12 "xOf" false hg mX12_xOf_ok rfl rfl (Nat.le_of_ble_eq_true rfl) (by decide) ?_
  intro run step
  refine step.1 _ _ _ _ _ _ _ sgX12_xOf_0_ok ?_
  refine ⟨by decide, _, _, hM, rfl, ?_⟩
  refine ⟨_, _, hD, (by rw [show (10 * nI d + 0 : Int32) = nI (d * 10 + 0) from ixk (k := 10) (w := 0)]; exact vp_in_nI (n := d * 10 + 0) (N := 100) (by omega) (by decide)), ?_⟩
  refine ⟨.int, rfl, rfl, Nat.le_refl _, Nat.le_refl _, ?_⟩
  exact ⟨congrArg (fun z => some (Value.int (dr z))) (by rw [show (10 * nI d + 0 : Int32) = nI (d * 10 + 0) from ixk (k := 10) (w := 0), h_tn (n := d * 10 + 0) (by omega)]), rfl⟩
theorem M_isDoor {g : qG} (hg : qOK g) {h : qH} {x : Nat → Int32} {y : Nat → Int64} (hM : h.2 63 = some (M63 x y)) (hx : x 0 = 0) (d c : Int32) (hw : wi 0 (x 19 - 1) d = true) : qSpec g 2 0 0 mX12_isDoor [.ref 63, .int d, .int c] h (fun r h' => r = some (.int 1) ∧ h' = h) := by
  refine qSpec_run 12 "isDoor" false hg mX12_isDoor_ok rfl rfl (Nat.le_of_ble_eq_true rfl) (by decide) ?_
  intro run step
  refine step.1 _ _ _ _ _ _ _ sgX12_isDoor_0_ok ?_
  refine ⟨by decide, _, _, hM, rfl, ?_⟩
  refine Or.inl ⟨rfl, _, 1, 0, 0, _, Or.inl qi_12_324, ⟨rfl, rfl⟩, rfl, rfl, M_within hg _ _ _, fun y9 h9 hy9 => ?_⟩
  obtain ⟨rfl, hh⟩ := hy9
  rw [hh, hw]
  clear hh
  refine Or.inl ⟨rfl, _, 1, 0, 0, _, _, _, qi_12_247, ⟨rfl, rfl⟩, ⟨hM, rfl⟩, rfl, rfl, M_may hg hM hx _ _, fun y14 h14 hy14 => ?_⟩
  obtain ⟨rfl, hh⟩ := hy14
  rw [hh]
  clear hh
  refine ⟨.boolean, rfl, rfl, Nat.le_refl _, Nat.le_refl _, ?_⟩
  exact ⟨rfl, rfl⟩
theorem M_isDoor0 {g : qG} (hg : qOK g) {h : qH} {x : Nat → Int32} {y : Nat → Int64} (hM : h.2 63 = some (M63 x y)) (hx : x 0 = 0) {rf : Nat → Int32} (hF : h.2 64 = some (aI' 3 rf)) (d c : Int32) (hc : ¬ c = 0) (hw : wi 0 (x 19 - 1) d = false) : qSpec g 2 0 0 mX12_isDoor [.ref 63, .int d, .int c] h (fun r h' => r = some (.int 0) ∧ h' = (h.1, qup (qup h.2 63 (M63 (upd x 0 c) y)) 64 (aI' 3 (upd rf 0 (rf 0 + 1))))) := by
  refine qSpec_run 12 "isDoor" false hg mX12_isDoor_ok rfl rfl (Nat.le_of_ble_eq_true rfl) (by decide) ?_
  intro run step
  refine step.1 _ _ _ _ _ _ _ sgX12_isDoor_0_ok ?_
  refine ⟨by decide, _, _, hM, rfl, ?_⟩
  refine Or.inl ⟨rfl, _, 1, 0, 0, _, Or.inl qi_12_324, ⟨rfl, rfl⟩, rfl, rfl, M_within hg _ _ _, fun y9 h9 hy9 => ?_⟩
  obtain ⟨rfl, hh⟩ := hy9
  rw [hh, hw]
  clear hh
  refine Or.inl ⟨rfl, _, 1, 0, 0, _, _, _, qi_12_247, ⟨rfl, rfl⟩, ⟨hM, rfl⟩, rfl, rfl, M_may0 hg hM hx hF _ hc 0 (by decide), fun y14 h14 hy14 => ?_⟩
  obtain ⟨rfl, hh⟩ := hy14
  rw [hh]
  clear hh
  refine ⟨.boolean, rfl, rfl, Nat.le_refl _, Nat.le_refl _, ?_⟩
  exact ⟨rfl, rfl⟩
theorem M_isLine {g : qG} (hg : qOK g) {h : qH} {x : Nat → Int32} {y : Nat → Int64} (hM : h.2 63 = some (M63 x y)) (hx : x 0 = 0) (d c : Int32) (hw : wi 0 (x 36 - 1) d = true) : qSpec g 2 0 0 mX12_isLine [.ref 63, .int d, .int c] h (fun r h' => r = some (.int 1) ∧ h' = h) := by
  refine qSpec_run 12 "isLine" false hg mX12_isLine_ok rfl rfl (Nat.le_of_ble_eq_true rfl) (by decide) ?_
  intro run step
  refine step.1 _ _ _ _ _ _ _ sgX12_isLine_0_ok ?_
  refine ⟨by decide, _, _, hM, rfl, ?_⟩
  refine Or.inl ⟨rfl, _, 1, 0, 0, _, Or.inl qi_12_324, ⟨rfl, rfl⟩, rfl, rfl, M_within hg _ _ _, fun y9 h9 hy9 => ?_⟩
  obtain ⟨rfl, hh⟩ := hy9
  rw [hh, hw]
  clear hh
  refine Or.inl ⟨rfl, _, 1, 0, 0, _, _, _, qi_12_247, ⟨rfl, rfl⟩, ⟨hM, rfl⟩, rfl, rfl, M_may hg hM hx _ _, fun y14 h14 hy14 => ?_⟩
  obtain ⟨rfl, hh⟩ := hy14
  rw [hh]
  clear hh
  refine ⟨.boolean, rfl, rfl, Nat.le_refl _, Nat.le_refl _, ?_⟩
  exact ⟨rfl, rfl⟩
theorem M_isLine0 {g : qG} (hg : qOK g) {h : qH} {x : Nat → Int32} {y : Nat → Int64} (hM : h.2 63 = some (M63 x y)) (hx : x 0 = 0) {rf : Nat → Int32} (hF : h.2 64 = some (aI' 3 rf)) (d c : Int32) (hc : ¬ c = 0) (hw : wi 0 (x 36 - 1) d = false) : qSpec g 2 0 0 mX12_isLine [.ref 63, .int d, .int c] h (fun r h' => r = some (.int 0) ∧ h' = (h.1, qup (qup h.2 63 (M63 (upd x 0 c) y)) 64 (aI' 3 (upd rf 0 (rf 0 + 1))))) := by
  refine qSpec_run 12 "isLine" false hg mX12_isLine_ok rfl rfl (Nat.le_of_ble_eq_true rfl) (by decide) ?_
  intro run step
  refine step.1 _ _ _ _ _ _ _ sgX12_isLine_0_ok ?_
  refine ⟨by decide, _, _, hM, rfl, ?_⟩
  refine Or.inl ⟨rfl, _, 1, 0, 0, _, Or.inl qi_12_324, ⟨rfl, rfl⟩, rfl, rfl, M_within hg _ _ _, fun y9 h9 hy9 => ?_⟩
  obtain ⟨rfl, hh⟩ := hy9
  rw [hh, hw]
  clear hh
  refine Or.inl ⟨rfl, _, 1, 0, 0, _, _, _, qi_12_247, ⟨rfl, rfl⟩, ⟨hM, rfl⟩, rfl, rfl, M_may0 hg hM hx hF _ hc 0 (by decide), fun y14 h14 hy14 => ?_⟩
  obtain ⟨rfl, hh⟩ := hy14
  rw [hh]
  clear hh
  refine ⟨.boolean, rfl, rfl, Nat.le_refl _, Nat.le_refl _, ?_⟩
  exact ⟨rfl, rfl⟩
end Q10O
