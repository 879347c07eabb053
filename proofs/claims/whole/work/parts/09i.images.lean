section Q09I
/-- what the change before is, and the round behind it -/
def rbk (R : RT) (x : Nat) (R' : RT) : Prop :=
  (R.2.2.1 (x * 5) = 0 ∧ ∃ a b : Nat, a < 10 ∧ b < 10 ∧ R.2.2.1 (x * 5 + 1) = nI a ∧ R.2.2.1 (x * 5 + 2) = nI b ∧ R' = (upd R.1 (a * 10 + b) (R.2.2.1 (x * 5 + 3)), R.2.1, R.2.2.1, R.2.2.2.1, R.2.2.2.2.1, x, R.2.2.2.2.2.2)) ∨
  (R.2.2.1 (x * 5) = 1 ∧ ∃ a : Nat, a < 10 ∧ R.2.2.1 (x * 5 + 1) = nI a ∧ R' = (R.1, lput R.2.1 a (R.2.1 (a * 3)) (R.2.2.1 (x * 5 + 2)) (R.2.2.1 (x * 5 + 3)), R.2.2.1, R.2.2.2.1, R.2.2.2.2.1, x, R.2.2.2.2.2.2)) ∨
  (R.2.2.1 (x * 5) = 2 ∧ ∃ a b : Nat, a < 10 ∧ b < 10 ∧ R.2.2.1 (x * 5 + 1) = nI a ∧ R.2.2.1 (x * 5 + 2) = nI b ∧ R' = (R.1, lput (lput R.2.1 a (R.2.1 (b * 3)) (R.2.1 (b * 3 + 1)) (R.2.1 (b * 3 + 2))) b (R.2.1 (a * 3)) (R.2.1 (a * 3 + 1)) (R.2.1 (a * 3 + 2)), R.2.2.1, R.2.2.2.1, R.2.2.2.2.1, x, R.2.2.2.2.2.2)) ∨
  (R.2.2.1 (x * 5) = 3 ∧ ∃ a : Nat, a ≤ R.2.2.2.2.1 ∧ R.2.2.2.2.1 ≤ 9 ∧ R.2.2.1 (x * 5 + 1) = nI a ∧ R' = (R.1, lput (lins R.2.1 (R.2.2.2.2.1 - a) R.2.2.2.2.1) a (R.2.2.1 (x * 5 + 2)) (R.2.2.1 (x * 5 + 3)) (R.2.2.1 (x * 5 + 4)), R.2.2.1, R.2.2.2.1, R.2.2.2.2.1 + 1, x, R.2.2.2.2.2.2)) ∨
  (R.2.2.1 (x * 5) = 4 ∧ R' = (R.1, R.2.1, R.2.2.1, R.2.2.2.1, R.2.2.2.2.1, x, R.2.2.2.2.2.2.1, R.2.2.2.2.2.2.2.1, R.2.2.1 (x * 5 + 1)))
theorem R_back {g : qG} (hg : qOK g) {h : qH} {R R' : RT} {x : Nat} (hR : isR h 3 4 5 6 R.1 R.2.1 R.2.2.1 (nI R.2.2.2.1) (nI R.2.2.2.2.1) (nI R.2.2.2.2.2.1) R.2.2.2.2.2.2.1 R.2.2.2.2.2.2.2.1 R.2.2.2.2.2.2.2.2) (hu : R.2.2.2.2.2.1 = x + 1) (hx : x < 20) (hb : rbk R x R') : qSpec g 5 0 0 mX6_takeBack [.ref 3] h (fun r h' => r = none ∧ same h h' [3, 4, 5, 6] ∧ isR h' 3 4 5 6 R'.1 R'.2.1 R'.2.2.1 (nI R'.2.2.2.1) (nI R'.2.2.2.2.1) (nI R'.2.2.2.2.2.1) R'.2.2.2.2.2.2.1 R'.2.2.2.2.2.2.2.1 R'.2.2.2.2.2.2.2.2) := by
  rw [hu] at hR
  rcases hb with ⟨h0, a, b, h1, h2, h3, h4, rfl⟩ | ⟨h0, a, h1, h3, rfl⟩ | ⟨h0, a, b, h1, h2, h3, h4, rfl⟩ | ⟨h0, a, h1, h2, h3, rfl⟩ | ⟨h0, rfl⟩
  · exact qSpec_mono (R_back0 hg hR hx h0 h3 h1 h4 h2) (fun r h' hy => ⟨hy.1, hy.2.1.sub (by simp), hy.2.2⟩)
  · exact qSpec_mono (R_back1 hg hR hx h0 h3 h1) (fun r h' hy => ⟨hy.1, hy.2.1.sub (by simp), hy.2.2⟩)
  · exact qSpec_mono (R_back2 hg hR hx h0 h3 h1 h4 h2) (fun r h' hy => ⟨hy.1, hy.2.1.sub (by simp), hy.2.2⟩)
  · exact qSpec_mono (R_back3 hg hR hx h0 h3 h1 h2) (fun r h' hy => ⟨hy.1, hy.2.1.sub (by simp), hy.2.2⟩)
  · exact qSpec_mono (R_back4 hg hR hx h0) (fun r h' hy => ⟨hy.1, hy.2.1.sub (by simp), hy.2.2⟩)
theorem rbk_u {R R' : RT} {x : Nat} (hb : rbk R x R') : R'.2.2.2.2.2.1 = x := by
  rcases hb with ⟨h0, a, b, h1, h2, h3, h4, rfl⟩ | ⟨h0, a, h1, h3, rfl⟩ | ⟨h0, a, b, h1, h2, h3, h4, rfl⟩ | ⟨h0, a, h1, h2, h3, rfl⟩ | ⟨h0, rfl⟩ <;> rfl
theorem F_undo0 {g : qG} (hg : qOK g) {h : qH} {S : CS} (hC : CH h S) (hu : S.2.1.2.2.2.2.2.1 = 0) : qSpec g 6 0 0 mX11_undo [.ref 0] h (fun r h' => r = some (.int (-1)) ∧ CH h' S ∧ gro h h') := by
  refine qSpec_run 11 "undo" false hg mX11_undo_ok rfl rfl (Nat.le_of_ble_eq_true rfl) (by decide) ?_
  intro run step
  refine step.1 _ _ _ _ _ _ _ sgX11_undo_0_ok ?_
  refine ⟨by decide, _, _, hC.obj, rfl, ?_⟩
  refine ⟨by decide, _, _, hC.rnd.1, rfl, ?_⟩
  refine ⟨fun c8 => absurd c8 (by rw [hu]; decide), fun c8 => ?_⟩
  
  refine ⟨.int, rfl, rfl, Nat.le_refl _, Nat.le_refl _, ?_⟩
  exact ⟨rfl, hC, gro.rf⟩
theorem F_undo1 {g : qG} (hg : qOK g) {h : qH} {S : CS} (hC : CH h S) {R' : RT} {x : Nat} (hu : S.2.1.2.2.2.2.2.1 = x + 1) (hx : x < 20) (hb : rbk S.2.1 x R') : qSpec g 6 0 0 mX11_undo [.ref 0] h (fun r h' => r = some (.int (nI x)) ∧ CH h' (S.1, R', S.2.2) ∧ gro h h') := by
  refine qSpec_run 11 "undo" false hg mX11_undo_ok rfl rfl (Nat.le_of_ble_eq_true rfl) (by decide) ?_
  intro run step
  refine step.1 _ _ _ _ _ _ _ sgX11_undo_0_ok ?_
  refine ⟨by decide, _, _, hC.obj, rfl, ?_⟩
  refine ⟨by decide, _, _, hC.rnd.1, rfl, ?_⟩
  refine ⟨fun c8 => ?_, fun c8 => absurd (by rw [hu]; exact (nI_le (a := 1) (by omega) (by omega))) c8⟩
  
  refine step.1 _ _ _ _ _ _ _ sgX11_undo_13_ok ?_
  refine ⟨by decide, _, _, hC.obj, rfl, ?_⟩
  refine Or.inl ⟨rfl, _, 5, 0, 0, _, _, _, qi_11_381, ⟨rfl, rfl⟩, ⟨hC.rnd.1, rfl⟩, rfl, rfl, R_back hg hC.rnd hu hx hb, fun y17 h17 hy17 => ?_⟩
  obtain ⟨rfl, hsN, hR⟩ := hy17
  have hC2 := hC.setR hsN hR
  have hX := hC2.obj
  refine ⟨by decide, _, _, hX, rfl, ?_⟩
  refine ⟨by decide, _, _, hR.1, rfl, ?_⟩
  refine ⟨.int, rfl, rfl, Nat.le_refl _, Nat.le_refl _, ?_⟩
  exact ⟨by rw [rbk_u hb], hC2, gro.of hsN rfl⟩
def rcpy (A B : RT) : RT := (va_cpy A.1 B.1 0 0 100, va_cpy A.2.1 B.2.1 0 0 30, va_cpy A.2.2.1 B.2.2.1 0 0 100, A.2.2.2)
abbrev eqO (S : CS) (ic : Nat) : qE := E0 (nI ic) S.2.2.2.2.2.2.1 S.2.2.2.2.2.2.2.1 S.2.2.2.2.2.2.2.2
theorem X_img0 {g : qG} (hg : qOK g) {h : qH} {S : CS} (hC : CH h S)  : qSpec g 1 0 0 mX11_imageAt [.ref 0, .int (nI 0)] h (fun r h' => r = some (.ref 8) ∧ h' = h) := by
  refine qSpec_run 11 "imageAt" false hg mX11_imageAt_ok rfl rfl (Nat.le_of_ble_eq_true rfl) (by decide) ?_
  intro run step
  refine step.1 _ _ _ _ _ _ _ sgX11_imageAt_0_ok ?_
  refine ⟨fun c1 => absurd c1 (by decide), fun c1 => ?_⟩
  refine ⟨by decide, _, _, hC.obj, rfl, ?_⟩
  refine ⟨_, _, hC.ima, rfl, ?_⟩
  refine ⟨fun c10 => absurd c10 (by decide), fun c10 => ?_⟩
  refine ⟨by decide, _, _, hC.obj, rfl, ?_⟩
  refine ⟨_, _, _, _, hC.ima, (vp_in_nI (by decide) (by decide) : vp_in (nI 0) 3), rfl, ?_⟩
  refine step.1 _ _ _ _ _ _ _ sgX11_imageAt_23_ok ?_
  refine ⟨_, rfl, Or.inl ⟨_, rfl⟩, Nat.le_refl _, Nat.le_refl _, ?_⟩
  exact ⟨rfl, rfl⟩
theorem X_img1 {g : qG} (hg : qOK g) {h : qH} {S : CS} (hC : CH h S)  : qSpec g 1 0 0 mX11_imageAt [.ref 0, .int (nI 1)] h (fun r h' => r = some (.ref 12) ∧ h' = h) := by
  refine qSpec_run 11 "imageAt" false hg mX11_imageAt_ok rfl rfl (Nat.le_of_ble_eq_true rfl) (by decide) ?_
  intro run step
  refine step.1 _ _ _ _ _ _ _ sgX11_imageAt_0_ok ?_
  refine ⟨fun c1 => absurd c1 (by decide), fun c1 => ?_⟩
  refine ⟨by decide, _, _, hC.obj, rfl, ?_⟩
  refine ⟨_, _, hC.ima, rfl, ?_⟩
  refine ⟨fun c10 => absurd c10 (by decide), fun c10 => ?_⟩
  refine ⟨by decide, _, _, hC.obj, rfl, ?_⟩
  refine ⟨_, _, _, _, hC.ima, (vp_in_nI (by decide) (by decide) : vp_in (nI 1) 3), rfl, ?_⟩
  refine step.1 _ _ _ _ _ _ _ sgX11_imageAt_23_ok ?_
  refine ⟨_, rfl, Or.inl ⟨_, rfl⟩, Nat.le_refl _, Nat.le_refl _, ?_⟩
  exact ⟨rfl, rfl⟩
theorem X_img2 {g : qG} (hg : qOK g) {h : qH} {S : CS} (hC : CH h S)  : qSpec g 1 0 0 mX11_imageAt [.ref 0, .int (nI 2)] h (fun r h' => r = some (.ref 16) ∧ h' = h) := by
  refine qSpec_run 11 "imageAt" false hg mX11_imageAt_ok rfl rfl (Nat.le_of_ble_eq_true rfl) (by decide) ?_
  intro run step
  refine step.1 _ _ _ _ _ _ _ sgX11_imageAt_0_ok ?_
  refine ⟨fun c1 => absurd c1 (by decide), fun c1 => ?_⟩
  refine ⟨by decide, _, _, hC.obj, rfl, ?_⟩
  refine ⟨_, _, hC.ima, rfl, ?_⟩
  refine ⟨fun c10 => absurd c10 (by decide), fun c10 => ?_⟩
  refine ⟨by decide, _, _, hC.obj, rfl, ?_⟩
  refine ⟨_, _, _, _, hC.ima, (vp_in_nI (by decide) (by decide) : vp_in (nI 2) 3), rfl, ?_⟩
  refine step.1 _ _ _ _ _ _ _ sgX11_imageAt_23_ok ?_
  refine ⟨_, rfl, Or.inl ⟨_, rfl⟩, Nat.le_refl _, Nat.le_refl _, ?_⟩
  exact ⟨rfl, rfl⟩
theorem X_imgN {g : qG} (hg : qOK g) {h : qH} {S : CS} (hC : CH h S) {x : Int32} (hx : x < 0 ∨ Int32.ofNat 3 ≤ x) : qSpec g 1 0 0 mX11_imageAt [.ref 0, .int x] h (fun r h' => r = some .null ∧ h' = h) := by
  refine qSpec_run 11 "imageAt" false hg mX11_imageAt_ok rfl rfl (Nat.le_of_ble_eq_true rfl) (by decide) ?_
  intro run step
  refine step.1 _ _ _ _ _ _ _ sgX11_imageAt_0_ok ?_
  refine ⟨fun c1 => ?_, fun c1 => ?_⟩
  · refine step.1 _ _ _ _ _ _ _ sgX11_imageAt_22_ok ?_
    refine step.1 _ _ _ _ _ _ _ sgX11_imageAt_23_ok ?_
    refine ⟨_, rfl, Or.inl ⟨_, rfl⟩, Nat.le_refl _, Nat.le_refl _, ?_⟩
    exact ⟨rfl, rfl⟩
  · refine ⟨by decide, _, _, hC.obj, rfl, ?_⟩
    refine ⟨_, _, hC.ima, rfl, ?_⟩
    refine ⟨fun c10 => ?_, fun c10 => absurd (hx.resolve_left c1) c10⟩
    
    refine step.1 _ _ _ _ _ _ _ sgX11_imageAt_22_ok ?_
    refine step.1 _ _ _ _ _ _ _ sgX11_imageAt_23_ok ?_
    refine ⟨_, rfl, Or.inl ⟨_, rfl⟩, Nat.le_refl _, Nat.le_refl _, ?_⟩
    exact ⟨rfl, rfl⟩
theorem F_image {g : qG} (hg : qOK g) {h : qH} {S : CS} (hC : CH h S) {ic : Nat} (hi : S.2.2.1.2 = ic) (h3 : ic ≤ 3) : qSpec g 3 0 0 mX11_image [.ref 0] h (fun r h' => (ic = 3 → r = some (.int (-1)) ∧ CH h' S) ∧ (ic < 3 → r = some (.int (nI (ic + 1))) ∧ CH h' (S.1, S.2.1, (fun i => if i = ic then rcpy S.2.1 (S.2.2.1.1 ic) else S.2.2.1.1 i, ic + 1), S.2.2.2)) ∧ gro h h') := by
  refine qSpec_run 11 "image" false hg mX11_image_ok rfl rfl (Nat.le_of_ble_eq_true rfl) (by decide) ?_
  intro run step
  have hX := hC.obj
  rw [hi] at hX
  rcases (show ic = 0 ∨ ic = 1 ∨ ic = 2 ∨ ic = 3 by omega) with rfl | rfl | rfl | rfl
  · refine step.1 _ _ _ _ _ _ _ sgX11_image_0_ok ?_
    refine ⟨by decide, _, _, hX, rfl, ?_⟩
    refine Or.inl ⟨rfl, _, 1, 0, 0, _, _, _, qi_11_384, ⟨rfl, rfl⟩, ⟨hX, rfl⟩, rfl, rfl, X_img0 hg hC, fun y5 h5 hy5 => ?_⟩
    obtain ⟨rfl, hh⟩ := hy5
    rw [hh]
    clear hh
    refine step.1 _ _ _ _ _ _ _ sgX11_image_15_ok ?_
    refine ⟨by decide, _, _, hX, rfl, ?_⟩
    refine Or.inl ⟨rfl, _, 2, 0, 0, _, _, _, qi_11_129, ⟨rfl, rfl⟩, ⟨hC.im0.1, rfl⟩, rfl, rfl, R_copy_8_3 hg hC.im0 hC.rnd, fun y20 h20 hy20 => ?_⟩
    obtain ⟨rfl, hsN, hR9⟩ := hy20
    have hC2 := hC.setI0 hsN (R := rcpy S.2.1 (S.2.2.1.1 0)) hR9
    have hX := (hsN.2 0 (by decide)).trans hX
    refine ⟨rfl, ?_⟩
    refine ⟨by decide, _, _, hX, rfl, ?_⟩
    refine ⟨_, hX, Nat.le_of_ble_eq_true rfl, rfl, ?_⟩
    have hs0 := same.up (h := h20) (k := 0) (e := eqO S 1) (l := [0]) (by simp)
    have hC3 := hC2.setO hs0 (ic := 1) rfl
    have hG := (gro.of hsN rfl).tr (gro.of hs0 rfl)
    refine ⟨by decide, _, _, rfl, rfl, ?_⟩
    refine ⟨.int, rfl, rfl, Nat.le_refl _, Nat.le_refl _, ?_⟩
    exact ⟨fun z => absurd z (by decide), fun _ => ⟨rfl, hC3⟩, hG⟩
  · refine step.1 _ _ _ _ _ _ _ sgX11_image_0_ok ?_
    refine ⟨by decide, _, _, hX, rfl, ?_⟩
    refine Or.inl ⟨rfl, _, 1, 0, 0, _, _, _, qi_11_384, ⟨rfl, rfl⟩, ⟨hX, rfl⟩, rfl, rfl, X_img1 hg hC, fun y5 h5 hy5 => ?_⟩
    obtain ⟨rfl, hh⟩ := hy5
    rw [hh]
    clear hh
    refine step.1 _ _ _ _ _ _ _ sgX11_image_15_ok ?_
    refine ⟨by decide, _, _, hX, rfl, ?_⟩
    refine Or.inl ⟨rfl, _, 2, 0, 0, _, _, _, qi_11_129, ⟨rfl, rfl⟩, ⟨hC.im1.1, rfl⟩, rfl, rfl, R_copy_12_3 hg hC.im1 hC.rnd, fun y20 h20 hy20 => ?_⟩
    obtain ⟨rfl, hsN, hR9⟩ := hy20
    have hC2 := hC.setI1 hsN (R := rcpy S.2.1 (S.2.2.1.1 1)) hR9
    have hX := (hsN.2 0 (by decide)).trans hX
    refine ⟨rfl, ?_⟩
    refine ⟨by decide, _, _, hX, rfl, ?_⟩
    refine ⟨_, hX, Nat.le_of_ble_eq_true rfl, rfl, ?_⟩
    have hs0 := same.up (h := h20) (k := 0) (e := eqO S 2) (l := [0]) (by simp)
    have hC3 := hC2.setO hs0 (ic := 2) rfl
    have hG := (gro.of hsN rfl).tr (gro.of hs0 rfl)
    refine ⟨by decide, _, _, rfl, rfl, ?_⟩
    refine ⟨.int, rfl, rfl, Nat.le_refl _, Nat.le_refl _, ?_⟩
    exact ⟨fun z => absurd z (by decide), fun _ => ⟨rfl, hC3⟩, hG⟩
  · refine step.1 _ _ _ _ _ _ _ sgX11_image_0_ok ?_
    refine ⟨by decide, _, _, hX, rfl, ?_⟩
    refine Or.inl ⟨rfl, _, 1, 0, 0, _, _, _, qi_11_384, ⟨rfl, rfl⟩, ⟨hX, rfl⟩, rfl, rfl, X_img2 hg hC, fun y5 h5 hy5 => ?_⟩
    obtain ⟨rfl, hh⟩ := hy5
    rw [hh]
    clear hh
    refine step.1 _ _ _ _ _ _ _ sgX11_image_15_ok ?_
    refine ⟨by decide, _, _, hX, rfl, ?_⟩
    refine Or.inl ⟨rfl, _, 2, 0, 0, _, _, _, qi_11_129, ⟨rfl, rfl⟩, ⟨hC.im2.1, rfl⟩, rfl, rfl, R_copy_16_3 hg hC.im2 hC.rnd, fun y20 h20 hy20 => ?_⟩
    obtain ⟨rfl, hsN, hR9⟩ := hy20
    have hC2 := hC.setI2 hsN (R := rcpy S.2.1 (S.2.2.1.1 2)) hR9
    have hX := (hsN.2 0 (by decide)).trans hX
    refine ⟨rfl, ?_⟩
    refine ⟨by decide, _, _, hX, rfl, ?_⟩
    refine ⟨_, hX, Nat.le_of_ble_eq_true rfl, rfl, ?_⟩
    have hs0 := same.up (h := h20) (k := 0) (e := eqO S 3) (l := [0]) (by simp)
    have hC3 := hC2.setO hs0 (ic := 3) rfl
    have hG := (gro.of hsN rfl).tr (gro.of hs0 rfl)
    refine ⟨by decide, _, _, rfl, rfl, ?_⟩
    refine ⟨.int, rfl, rfl, Nat.le_refl _, Nat.le_refl _, ?_⟩
    exact ⟨fun z => absurd z (by decide), fun _ => ⟨rfl, hC3⟩, hG⟩
  · refine step.1 _ _ _ _ _ _ _ sgX11_image_0_ok ?_
    refine ⟨by decide, _, _, hX, rfl, ?_⟩
    refine Or.inl ⟨rfl, _, 1, 0, 0, _, _, _, qi_11_384, ⟨rfl, rfl⟩, ⟨hX, rfl⟩, rfl, rfl, X_imgN hg hC (x := nI 3) (Or.inr (by decide)), fun y5 h5 hy5 => ?_⟩
    obtain ⟨rfl, hh⟩ := hy5
    rw [hh]
    clear hh
    refine ⟨.int, rfl, rfl, Nat.le_refl _, Nat.le_refl _, ?_⟩
    exact ⟨fun _ => ⟨rfl, hC⟩, fun z => absurd z (by decide), gro.rf⟩
theorem F_restore {g : qG} (hg : qOK g) {h : qH} {S : CS} (hC : CH h S) {ic : Nat} (hi : S.2.2.1.2 = ic + 1) (h3 : ic < 3) : qSpec g 3 0 0 mX11_restore [.ref 0] h (fun r h' => r = some (.int (nI ic)) ∧ CH h' (S.1, rcpy (S.2.2.1.1 ic) S.2.1, (S.2.2.1.1, ic), S.2.2.2) ∧ gro h h') := by
  refine qSpec_run 11 "restore" false hg mX11_restore_ok rfl rfl (Nat.le_of_ble_eq_true rfl) (by decide) ?_
  intro run step
  have hX := hC.obj
  rw [hi] at hX
  rcases (show ic = 0 ∨ ic = 1 ∨ ic = 2 by omega) with rfl | rfl | rfl
  · refine step.1 _ _ _ _ _ _ _ sgX11_restore_0_ok ?_
    refine ⟨by decide, _, _, hX, rfl, ?_⟩
    refine Or.inl ⟨rfl, _, 1, 0, 0, _, _, _, qi_11_384, ⟨rfl, rfl⟩, ⟨hX, rfl⟩, rfl, rfl, X_img0 hg hC, fun y7 h7 hy7 => ?_⟩
    obtain ⟨rfl, hh⟩ := hy7
    rw [hh]
    clear hh
    refine step.1 _ _ _ _ _ _ _ sgX11_restore_17_ok ?_
    refine ⟨rfl, ?_⟩
    refine ⟨by decide, _, _, hX, rfl, ?_⟩
    refine ⟨_, hX, Nat.le_of_ble_eq_true rfl, rfl, ?_⟩
    have hs0 := same.up (h := h) (k := 0) (e := eqO S 0) (l := [0]) (by simp)
    have hC1 := hC.setO hs0 (ic := 0) rfl
    have hG := gro.of hs0 rfl
    refine ⟨by decide, _, _, rfl, rfl, ?_⟩
    refine Or.inl ⟨rfl, _, 2, 0, 0, _, _, _, qi_11_129, ⟨rfl, rfl⟩, ⟨hC1.rnd.1, rfl⟩, rfl, rfl, R_copy_3_8 hg hC1.rnd hC1.im0, fun y32 h32 hy32 => ?_⟩
    obtain ⟨rfl, hsN, hR9⟩ := hy32
    have hC2 := hC1.setR hsN (R := rcpy (S.2.2.1.1 0) S.2.1) hR9
    have hG := hG.tr (gro.of hsN rfl)
    have hX := hC2.obj
    refine ⟨by decide, _, _, hX, rfl, ?_⟩
    refine ⟨.int, rfl, rfl, Nat.le_refl _, Nat.le_refl _, ?_⟩
    exact ⟨rfl, hC2, hG⟩
  · refine step.1 _ _ _ _ _ _ _ sgX11_restore_0_ok ?_
    refine ⟨by decide, _, _, hX, rfl, ?_⟩
    refine Or.inl ⟨rfl, _, 1, 0, 0, _, _, _, qi_11_384, ⟨rfl, rfl⟩, ⟨hX, rfl⟩, rfl, rfl, X_img1 hg hC, fun y7 h7 hy7 => ?_⟩
    obtain ⟨rfl, hh⟩ := hy7
    rw [hh]
    clear hh
    refine step.1 _ _ _ _ _ _ _ sgX11_restore_17_ok ?_
    refine ⟨rfl, ?_⟩
    refine ⟨by decide, _, _, hX, rfl, ?_⟩
    refine ⟨_, hX, Nat.le_of_ble_eq_true rfl, rfl, ?_⟩
    have hs0 := same.up (h := h) (k := 0) (e := eqO S 1) (l := [0]) (by simp)
    have hC1 := hC.setO hs0 (ic := 1) rfl
    have hG := gro.of hs0 rfl
    refine ⟨by decide, _, _, rfl, rfl, ?_⟩
    refine Or.inl ⟨rfl, _, 2, 0, 0, _, _, _, qi_11_129, ⟨rfl, rfl⟩, ⟨hC1.rnd.1, rfl⟩, rfl, rfl, R_copy_3_12 hg hC1.rnd hC1.im1, fun y32 h32 hy32 => ?_⟩
    obtain ⟨rfl, hsN, hR9⟩ := hy32
    have hC2 := hC1.setR hsN (R := rcpy (S.2.2.1.1 1) S.2.1) hR9
    have hG := hG.tr (gro.of hsN rfl)
    have hX := hC2.obj
    refine ⟨by decide, _, _, hX, rfl, ?_⟩
    refine ⟨.int, rfl, rfl, Nat.le_refl _, Nat.le_refl _, ?_⟩
    exact ⟨rfl, hC2, hG⟩
  · refine step.1 _ _ _ _ _ _ _ sgX11_restore_0_ok ?_
    refine ⟨by decide, _, _, hX, rfl, ?_⟩
    refine Or.inl ⟨rfl, _, 1, 0, 0, _, _, _, qi_11_384, ⟨rfl, rfl⟩, ⟨hX, rfl⟩, rfl, rfl, X_img2 hg hC, fun y7 h7 hy7 => ?_⟩
    obtain ⟨rfl, hh⟩ := hy7
    rw [hh]
    clear hh
    refine step.1 _ _ _ _ _ _ _ sgX11_restore_17_ok ?_
    refine ⟨rfl, ?_⟩
    refine ⟨by decide, _, _, hX, rfl, ?_⟩
    refine ⟨_, hX, Nat.le_of_ble_eq_true rfl, rfl, ?_⟩
    have hs0 := same.up (h := h) (k := 0) (e := eqO S 2) (l := [0]) (by simp)
    have hC1 := hC.setO hs0 (ic := 2) rfl
    have hG := gro.of hs0 rfl
    refine ⟨by decide, _, _, rfl, rfl, ?_⟩
    refine Or.inl ⟨rfl, _, 2, 0, 0, _, _, _, qi_11_129, ⟨rfl, rfl⟩, ⟨hC1.rnd.1, rfl⟩, rfl, rfl, R_copy_3_16 hg hC1.rnd hC1.im2, fun y32 h32 hy32 => ?_⟩
    obtain ⟨rfl, hsN, hR9⟩ := hy32
    have hC2 := hC1.setR hsN (R := rcpy (S.2.2.1.1 2) S.2.1) hR9
    have hG := hG.tr (gro.of hsN rfl)
    have hX := hC2.obj
    refine ⟨by decide, _, _, hX, rfl, ?_⟩
    refine ⟨.int, rfl, rfl, Nat.le_refl _, Nat.le_refl _, ?_⟩
    exact ⟨rfl, hC2, hG⟩
theorem F_restore0 {g : qG} (hg : qOK g) {h : qH} {S : CS} (hC : CH h S) (hi : S.2.2.1.2 = 0) : qSpec g 3 0 0 mX11_restore [.ref 0] h (fun r h' => r = some (.int (-1)) ∧ CH h' S ∧ gro h h') := by
  refine qSpec_run 11 "restore" false hg mX11_restore_ok rfl rfl (Nat.le_of_ble_eq_true rfl) (by decide) ?_
  intro run step
  have hX := hC.obj
  rw [hi] at hX
  refine step.1 _ _ _ _ _ _ _ sgX11_restore_0_ok ?_
  refine ⟨by decide, _, _, hX, rfl, ?_⟩
  refine Or.inl ⟨rfl, _, 1, 0, 0, _, _, _, qi_11_384, ⟨rfl, rfl⟩, ⟨hX, rfl⟩, rfl, rfl, X_imgN hg hC (x := nI 0 - 1) (Or.inl (by decide)), fun y7 h7 hy7 => ?_⟩
  obtain ⟨rfl, hh⟩ := hy7
  rw [hh]
  clear hh
  refine ⟨.int, rfl, rfl, Nat.le_refl _, Nat.le_refl _, ?_⟩
  exact ⟨rfl, hC, gro.rf⟩
end Q09I
