section Q07J
theorem lgc0 (x y : Int64) : lg_cmp x y = 0 ↔ x = y := by
  unfold lg_cmp
  constructor
  · intro q
    split at q
    · exact absurd q (by decide)
    · split at q
      · assumption
      · exact absurd q (by decide)
  · intro q
    subst q
    rw [if_neg (by simp [Int64.lt_irrefl]), if_pos rfl]
def V48 (c p j m : Int64) : qE := .inl (10, [.ref 3, .ref 20, .ref 22, .ref 49, .long c, .long p, .long j, .long m])
theorem isW.v {h : qH} {D P U Q K V : Nat → Int32} {n k u st ve cl m : Int32} {N : Nat} (hW : isW h D P U Q K V n k u st ve cl m N) (c p j mm : Int64) : isW (h.1, qup h.2 48 (V48 c p j mm)) D P U Q K V n k u st ve cl m N := by
  obtain ⟨h1, h2, ⟨S, h3⟩, h4, ⟨nm, h5⟩, h6⟩ := hW
  exact ⟨h1.up (by decide) (by decide) (by decide) (by decide), h2.up (by decide) (by decide), ⟨S, h3.up (by decide) (by decide) (by decide) (by decide)⟩, h4, ⟨nm, h5⟩, c, p, j, mm, rfl⟩
/-- is the step i a ring -/
def vrg (r n i : Nat) : Bool := (r == 1 && i == 0) || (r == 2 && i == n)
abbrev vS : Type := Int64 × Int32 × Int64 × Int64 × Int64
/-- one step: a ring or a verse; waiting, verses, come, pence, minutes -/
def vst (G : Int32 → Int32) (D : Nat → Int32) (ve : Int32) (x : Nat) (b : Bool) (s : vS) : vS :=
  match b with
  | true => (s.1 / 16 * (16 - (D (x * 10 + 5)).toInt64), s.2.1 + 0, s.2.2.1 + s.1 / 16 * (D (x * 10 + 5)).toInt64, s.2.2.2.1 + (if s.1 / 16 * (D (x * 10 + 5)).toInt64 = 0 then 0 else s.1 / 16 * (D (x * 10 + 5)).toInt64 * (G (s.2.1 + 0)).toInt64), s.2.2.2.2 + (268435456 - s.2.2.1) * ((1 : Int32)).toInt64)
  | false => (s.1 / 16 * (16 - (D (x * 10 + 4)).toInt64), s.2.1 + 1, s.2.2.1 + s.1 / 16 * (D (x * 10 + 4)).toInt64, s.2.2.2.1 + (if s.1 / 16 * (D (x * 10 + 4)).toInt64 = 0 then 0 else s.1 / 16 * (D (x * 10 + 4)).toInt64 * (G (s.2.1 + 1)).toInt64), s.2.2.2.2 + (268435456 - s.2.2.1) * (ve).toInt64)
def vrun (G : Int32 → Int32) (D : Nat → Int32) (ve : Int32) (x r n i : Nat) : Nat → vS → vS
  | 0, s => s
  | m + 1, s => vrun G D ve x r n (i + 1) m (vst G D ve x (vrg r n i) s)
theorem vst_n {G : Int32 → Int32} {D : Nat → Int32} {ve : Int32} {x : Nat} {w : Int64} {vs : Int32} {c p mi : Int64} (b : Bool) (hn : ¬ (w / 16 * (D (x * 10 + (bif b then 5 else 4))).toInt64) = 0) : vst G D ve x b (w, vs, c, p, mi) = (w / 16 * (16 - (D (x * 10 + (bif b then 5 else 4))).toInt64), vs + (bif b then 0 else 1), c + w / 16 * (D (x * 10 + (bif b then 5 else 4))).toInt64, p + w / 16 * (D (x * 10 + (bif b then 5 else 4))).toInt64 * (G (vs + (bif b then 0 else 1))).toInt64, mi + (268435456 - c) * (bif b then (1 : Int32) else ve).toInt64) := by
  cases b <;> (simp only [cond_true, cond_false] at hn ⊢; simp only [vst, if_neg hn])
theorem vst_z {G : Int32 → Int32} {D : Nat → Int32} {ve : Int32} {x : Nat} {w : Int64} {vs : Int32} {c p mi : Int64} (b : Bool) (hn : (w / 16 * (D (x * 10 + (bif b then 5 else 4))).toInt64) = 0) : vst G D ve x b (w, vs, c, p, mi) = (w / 16 * (16 - (D (x * 10 + (bif b then 5 else 4))).toInt64), vs + (bif b then 0 else 1), c + w / 16 * (D (x * 10 + (bif b then 5 else 4))).toInt64, p + 0, mi + (268435456 - c) * (bif b then (1 : Int32) else ve).toInt64) := by
  cases b <;> (simp only [cond_true, cond_false] at hn ⊢; simp only [vst, if_pos hn])
/-- what a visit comes to -/
def vmean (G : Int32 → Int32) (D : Nat → Int32) (ve : Int32) (x r n : Nat) : vS := vrun G D ve x r n 0 (if r = 0 then n else n + 1) (16777216 * (D (x * 10 + 3)).toInt64, 0, 0, 0, 536870912 * (D (x * 10 + 8)).toInt64)
set_option maxHeartbeats 2000000 in
theorem V_reckon {g : qG} (hg : qOK g) {h : qH} {D P U Q K V : Nat → Int32} {n k u st ve cl m : Int32} {N : Nat} (hW : isW h D P U Q K V n k u st ve cl m N) (x nn r : Nat) (hx : x < 10) (hn5 : nn ≤ 5) (hr : r ≤ 2) (pl : Int32) : qSpec g 4 0 0 mX10_reckon [.ref 48, .int (nI x), .int (nI nn), .int (nI r), .int pl] h (fun y h' => y = none ∧ same h h' [25, 48, 49] ∧ isW h' D P U Q K V n k u st ve cl m N ∧ isV h' (vmean (fun z => vgift D K V N m x z pl) D ve x r nn).2.2.1 (vmean (fun z => vgift D K V N m x z pl) D ve x r nn).2.2.2.1 ((vmean (fun z => vgift D K V N m x z pl) D ve x r nn).2.2.1 * (D (x * 10 + 2)).toInt64) ((vmean (fun z => vgift D K V N m x z pl) D ve x r nn).2.2.2.2 + (vmean (fun z => vgift D K V N m x z pl) D ve x r nn).2.2.1 * (D (x * 10 + 9)).toInt64)) := by
  refine qSpec_run 10 "reckon" false hg mX10_reckon_ok rfl rfl (Nat.le_of_ble_eq_true rfl) (by decide) ?_
  intro run step
  obtain ⟨steps, hst⟩ : ∃ s : Nat, s = (if r = 0 then nn else nn + 1) := ⟨_, rfl⟩
  have loop : ∀ (mm i : Nat) (w : Int64) (vs : Int32) (c p j mi : Int64) (hX : qH), i + mm = steps → same h hX [25, 48, 49] → isW hX D P U Q K V n k u st ve cl m N → isV hX c p j mi → vrun (fun z => vgift D K V N m x z pl) D ve x r nn i mm (w, vs, c, p, mi) = vmean (fun z => vgift D K V N m x z pl) D ve x r nn → run 64 [(9, .int (nI i)), (8, .int vs), (7, .int (nI steps)), (5, .long w), (0, .ref 48), (1, .int (nI x)), (2, .int (nI nn)), (3, .int (nI r)), (4, .int pl)] [] hX 0 0 := by
    intro mm
    induction mm with
    | zero =>
      intro i w vs c p j mi hX hi hsX hWX hV hres
      refine step.1 _ _ _ _ _ _ _ sgX10_reckon_64_ok ?_
      refine ⟨fun c1 => ?_, fun c1 => absurd ((nI_leI (a := steps) (b := i) (by split at hst <;> omega) (by split at hst <;> omega)).mpr (by omega)) c1⟩
      refine step.1 _ _ _ _ _ _ _ sgX10_reckon_246_ok ?_
      refine ⟨by decide, _, _, hV, rfl, by decide, _, _, hV, rfl, ?_⟩
      refine Or.inl ⟨rfl, _, 1, 0, 0, _, _, _, qi_10_35, ⟨rfl, rfl⟩, ⟨hWX.1.1, rfl⟩, rfl, rfl, R_of hg hWX.1 x 2 hx (by decide), fun y1 h9 hy => ?_⟩
      obtain ⟨rfl, hh⟩ := hy
      rw [hh]
      clear hh
      refine ⟨_, hV, Nat.le_of_ble_eq_true rfl, rfl, ?_⟩
      have hWA := hWX.v c p (c * (D (x * 10 + 2)).toInt64) mi
      refine ⟨rfl, by decide, _, _, rfl, rfl, by decide, _, _, rfl, rfl, by decide, _, _, rfl, rfl, ?_⟩
      refine Or.inl ⟨rfl, _, 1, 0, 0, _, _, _, qi_10_35, ⟨rfl, rfl⟩, ⟨hWA.1.1, rfl⟩, rfl, rfl, R_of hg hWA.1 x 9 hx (by decide), fun y1 h9 hy => ?_⟩
      obtain ⟨rfl, hh⟩ := hy
      rw [hh]
      clear hh
      refine ⟨_, rfl, Nat.le_of_ble_eq_true rfl, rfl, rfl, Nat.le_refl _, Nat.le_refl _, rfl, (hsX.tr (l' := [48]) (l2 := [25, 48, 49]) (same.up (by simp)) (by simp) (by simp)).tr (l' := [48]) (l2 := [25, 48, 49]) (same.up (by simp)) (by simp) (by simp), hWA.v _ _ _ _, ?_⟩
      rw [← hres]
      rfl
    | succ mm ih =>
      intro i w vs c p j mi hX hi hsX hWX hV hres
      have hi5 : i ≤ 6 := by split at hst <;> omega
      have st97 : ∀ b : Bool, vrg r nn i = b → run 97 [(9, .int (nI i)), (8, .int vs), (7, .int (nI steps)), (5, .long w), (0, .ref 48), (1, .int (nI x)), (2, .int (nI nn)), (3, .int (nI r)), (4, .int pl)] [.int (qb b)] hX 0 0 := by
        intro b hb
        cases b with
        | true =>
          refine step.1 _ _ _ _ _ _ _ sgX10_reckon_97_ok ?_
          refine ⟨fun c1 => absurd c1 (by decide), fun c1 => ?_⟩
          refine step.1 _ _ _ _ _ _ _ sgX10_reckon_111_ok ?_
          refine ⟨rfl, by decide, _, _, hV, rfl, by decide, _, _, hV, rfl, fun c2 => absurd c2 (by decide), fun c2 => ?_⟩
          refine step.1 _ _ _ _ _ _ _ sgX10_reckon_143_ok ?_
          refine ⟨_, hV, Nat.le_of_ble_eq_true rfl, rfl, ?_⟩
          have hWA := hWX.v c p j (mi + (268435456 - c) * ((1 : Int32)).toInt64)
          refine ⟨by decide, _, _, rfl, rfl, fun c3 => absurd c3 (by decide), fun c3 => ?_⟩
          skip
          refine step.1 _ _ _ _ _ _ _ sgX10_reckon_164_ok ?_
          refine Or.inl ⟨rfl, _, 1, 0, 0, _, _, _, qi_10_35, ⟨rfl, rfl⟩, ⟨hWA.1.1, rfl⟩, rfl, rfl, R_of hg hWA.1 x 5 hx (by decide), fun y1 h9 hy => ?_⟩
          obtain ⟨rfl, hh⟩ := hy
          rw [hh]
          clear hh
          refine ⟨by decide, by decide, ?_⟩
          refine ⟨rfl, by decide, _, _, rfl, rfl, _, rfl, Nat.le_of_ble_eq_true rfl, rfl, ?_⟩
          have hWB := hWA.v (c + (w / 16 * (D (x * 10 + 5)).toInt64)) p j (mi + (268435456 - c) * ((1 : Int32)).toInt64)
          refine ⟨rfl, by decide, _, _, rfl, rfl, fun c4 => ?_, fun c4 => ?_⟩
          · have c4 : ¬ (w / 16 * (D (x * 10 + 5)).toInt64) = 0 := fun q => c4 ((lgc0 _ _).mpr q)
            refine step.1 _ _ _ _ _ _ _ sgX10_reckon_223_ok ?_
            refine Or.inl ⟨rfl, _, 3, 0, 0, _, _, _, qi_10_76, ⟨rfl, rfl⟩, ⟨rfl, rfl⟩, rfl, rfl, V_gift hg hWB x hx (vs + 0) pl, fun y1 h9 hy => ?_⟩
            obtain ⟨rfl, hs9, hW9⟩ := hy
            have hV9 : isV h9 (c + (w / 16 * (D (x * 10 + 5)).toInt64)) p j (mi + (268435456 - c) * ((1 : Int32)).toInt64) := hs9.2 48 (by simp)
            refine step.1 _ _ _ _ _ _ _ sgX10_reckon_236_ok ?_
            refine ⟨_, hV9, Nat.le_of_ble_eq_true rfl, rfl, ?_⟩
            refine step.2 _ [(9, .int (nI i + 1)), (5, .long (w / 16 * (16 - (D (x * 10 + 5)).toInt64))), (13, .long (w / 16 * (D (x * 10 + 5)).toInt64)), (11, .long (D (x * 10 + 5)).toInt64), (8, .int (vs + 0)), (10, .int 1), (7, .int (nI steps)), (0, .ref 48), (1, .int (nI x)), (2, .int (nI nn)), (3, .int (nI r)), (4, .int pl)] [(9, .int (nI i + 1)), (8, .int (vs + 0)), (7, .int (nI steps)), (5, .long (w / 16 * (16 - (D (x * 10 + 5)).toInt64))), (0, .ref 48), (1, .int (nI x)), (2, .int (nI nn)), (3, .int (nI r)), (4, .int pl)] _ _ _ _ (by intro x hx; simp only [List.mem_cons, List.not_mem_nil, or_false] at hx ⊢; rcases hx with e | e | e | e | e | e | e | e | e <;> simp only [e, true_or, or_true]) ?_
            have kk := ih (i + 1) (w / 16 * (16 - (D (x * 10 + 5)).toInt64)) (vs + 0) (c + (w / 16 * (D (x * 10 + 5)).toInt64)) (p + (w / 16 * (D (x * 10 + 5)).toInt64) * (vgift D K V N m x (vs + 0) pl).toInt64) j (mi + (268435456 - c) * ((1 : Int32)).toInt64) _ (by omega) ((hsX.tr (l' := [48]) (l2 := [25, 48, 49]) (same.up (by simp)) (by simp) (by simp)).tr (l' := [48]) (l2 := [25, 48, 49]) (same.up (by simp)) (by simp) (by simp) |>.tr (l' := [25, 49]) (l2 := [25, 48, 49]) hs9 (by simp) (by simp) |>.tr (l' := [48]) (l2 := [25, 48, 49]) (same.up (by simp)) (by simp) (by simp)) (hW9.v _ _ _ _) rfl (by rw [← hres]; show _ = vrun _ _ _ _ _ _ (i + 1) mm (vst _ _ _ _ (vrg r nn i) _); rw [hb, vst_n true c4]; rfl)
            rw [← nI_1] at kk
            exact kk
          · have c4 : (w / 16 * (D (x * 10 + 5)).toInt64) = 0 := (lgc0 _ _).mp c4
            refine step.1 _ _ _ _ _ _ _ sgX10_reckon_236_ok ?_
            refine ⟨_, rfl, Nat.le_of_ble_eq_true rfl, rfl, ?_⟩
            refine step.2 _ [(9, .int (nI i + 1)), (5, .long (w / 16 * (16 - (D (x * 10 + 5)).toInt64))), (13, .long (w / 16 * (D (x * 10 + 5)).toInt64)), (11, .long (D (x * 10 + 5)).toInt64), (8, .int (vs + 0)), (10, .int 1), (7, .int (nI steps)), (0, .ref 48), (1, .int (nI x)), (2, .int (nI nn)), (3, .int (nI r)), (4, .int pl)] [(9, .int (nI i + 1)), (8, .int (vs + 0)), (7, .int (nI steps)), (5, .long (w / 16 * (16 - (D (x * 10 + 5)).toInt64))), (0, .ref 48), (1, .int (nI x)), (2, .int (nI nn)), (3, .int (nI r)), (4, .int pl)] _ _ _ _ (by intro x hx; simp only [List.mem_cons, List.not_mem_nil, or_false] at hx ⊢; rcases hx with e | e | e | e | e | e | e | e | e <;> simp only [e, true_or, or_true]) ?_
            have kk := ih (i + 1) (w / 16 * (16 - (D (x * 10 + 5)).toInt64)) (vs + 0) (c + (w / 16 * (D (x * 10 + 5)).toInt64)) (p + 0) j (mi + (268435456 - c) * ((1 : Int32)).toInt64) _ (by omega) ((hsX.tr (l' := [48]) (l2 := [25, 48, 49]) (same.up (by simp)) (by simp) (by simp)).tr (l' := [48]) (l2 := [25, 48, 49]) (same.up (by simp)) (by simp) (by simp) |>.tr (l' := [48]) (l2 := [25, 48, 49]) (same.up (by simp)) (by simp) (by simp)) (hWB.v _ _ _ _) rfl (by rw [← hres]; show _ = vrun _ _ _ _ _ _ (i + 1) mm (vst _ _ _ _ (vrg r nn i) _); rw [hb, vst_z true c4]; rfl)
            rw [← nI_1] at kk
            exact kk
        | false =>
          refine step.1 _ _ _ _ _ _ _ sgX10_reckon_97_ok ?_
          refine ⟨fun c1 => ?_, fun c1 => absurd c1 (by decide)⟩
          refine step.1 _ _ _ _ _ _ _ sgX10_reckon_110_ok ?_
          refine step.1 _ _ _ _ _ _ _ sgX10_reckon_111_ok ?_
          refine ⟨rfl, by decide, _, _, hV, rfl, by decide, _, _, hV, rfl, fun c2 => ?_, fun c2 => absurd c2 (by decide)⟩
          refine step.1 _ _ _ _ _ _ _ sgX10_reckon_136_ok ?_
          refine ⟨by decide, _, _, hV, rfl, by decide, _, _, hWX.1.1, rfl, ?_⟩
          refine step.1 _ _ _ _ _ _ _ sgX10_reckon_143_ok ?_
          refine ⟨_, hV, Nat.le_of_ble_eq_true rfl, rfl, ?_⟩
          have hWA := hWX.v c p j (mi + (268435456 - c) * (ve).toInt64)
          refine ⟨by decide, _, _, rfl, rfl, fun c3 => ?_, fun c3 => absurd c3 (by decide)⟩
          refine step.1 _ _ _ _ _ _ _ sgX10_reckon_163_ok ?_
          refine step.1 _ _ _ _ _ _ _ sgX10_reckon_164_ok ?_
          refine Or.inl ⟨rfl, _, 1, 0, 0, _, _, _, qi_10_35, ⟨rfl, rfl⟩, ⟨hWA.1.1, rfl⟩, rfl, rfl, R_of hg hWA.1 x 4 hx (by decide), fun y1 h9 hy => ?_⟩
          obtain ⟨rfl, hh⟩ := hy
          rw [hh]
          clear hh
          refine ⟨by decide, by decide, ?_⟩
          refine ⟨rfl, by decide, _, _, rfl, rfl, _, rfl, Nat.le_of_ble_eq_true rfl, rfl, ?_⟩
          have hWB := hWA.v (c + (w / 16 * (D (x * 10 + 4)).toInt64)) p j (mi + (268435456 - c) * (ve).toInt64)
          refine ⟨rfl, by decide, _, _, rfl, rfl, fun c4 => ?_, fun c4 => ?_⟩
          · have c4 : ¬ (w / 16 * (D (x * 10 + 4)).toInt64) = 0 := fun q => c4 ((lgc0 _ _).mpr q)
            refine step.1 _ _ _ _ _ _ _ sgX10_reckon_223_ok ?_
            refine Or.inl ⟨rfl, _, 3, 0, 0, _, _, _, qi_10_76, ⟨rfl, rfl⟩, ⟨rfl, rfl⟩, rfl, rfl, V_gift hg hWB x hx (vs + 1) pl, fun y1 h9 hy => ?_⟩
            obtain ⟨rfl, hs9, hW9⟩ := hy
            have hV9 : isV h9 (c + (w / 16 * (D (x * 10 + 4)).toInt64)) p j (mi + (268435456 - c) * (ve).toInt64) := hs9.2 48 (by simp)
            refine step.1 _ _ _ _ _ _ _ sgX10_reckon_236_ok ?_
            refine ⟨_, hV9, Nat.le_of_ble_eq_true rfl, rfl, ?_⟩
            refine step.2 _ [(9, .int (nI i + 1)), (5, .long (w / 16 * (16 - (D (x * 10 + 4)).toInt64))), (13, .long (w / 16 * (D (x * 10 + 4)).toInt64)), (11, .long (D (x * 10 + 4)).toInt64), (8, .int (vs + 1)), (10, .int 0), (7, .int (nI steps)), (0, .ref 48), (1, .int (nI x)), (2, .int (nI nn)), (3, .int (nI r)), (4, .int pl)] [(9, .int (nI i + 1)), (8, .int (vs + 1)), (7, .int (nI steps)), (5, .long (w / 16 * (16 - (D (x * 10 + 4)).toInt64))), (0, .ref 48), (1, .int (nI x)), (2, .int (nI nn)), (3, .int (nI r)), (4, .int pl)] _ _ _ _ (by intro x hx; simp only [List.mem_cons, List.not_mem_nil, or_false] at hx ⊢; rcases hx with e | e | e | e | e | e | e | e | e <;> simp only [e, true_or, or_true]) ?_
            have kk := ih (i + 1) (w / 16 * (16 - (D (x * 10 + 4)).toInt64)) (vs + 1) (c + (w / 16 * (D (x * 10 + 4)).toInt64)) (p + (w / 16 * (D (x * 10 + 4)).toInt64) * (vgift D K V N m x (vs + 1) pl).toInt64) j (mi + (268435456 - c) * (ve).toInt64) _ (by omega) ((hsX.tr (l' := [48]) (l2 := [25, 48, 49]) (same.up (by simp)) (by simp) (by simp)).tr (l' := [48]) (l2 := [25, 48, 49]) (same.up (by simp)) (by simp) (by simp) |>.tr (l' := [25, 49]) (l2 := [25, 48, 49]) hs9 (by simp) (by simp) |>.tr (l' := [48]) (l2 := [25, 48, 49]) (same.up (by simp)) (by simp) (by simp)) (hW9.v _ _ _ _) rfl (by rw [← hres]; show _ = vrun _ _ _ _ _ _ (i + 1) mm (vst _ _ _ _ (vrg r nn i) _); rw [hb, vst_n false c4]; rfl)
            rw [← nI_1] at kk
            exact kk
          · have c4 : (w / 16 * (D (x * 10 + 4)).toInt64) = 0 := (lgc0 _ _).mp c4
            refine step.1 _ _ _ _ _ _ _ sgX10_reckon_236_ok ?_
            refine ⟨_, rfl, Nat.le_of_ble_eq_true rfl, rfl, ?_⟩
            refine step.2 _ [(9, .int (nI i + 1)), (5, .long (w / 16 * (16 - (D (x * 10 + 4)).toInt64))), (13, .long (w / 16 * (D (x * 10 + 4)).toInt64)), (11, .long (D (x * 10 + 4)).toInt64), (8, .int (vs + 1)), (10, .int 0), (7, .int (nI steps)), (0, .ref 48), (1, .int (nI x)), (2, .int (nI nn)), (3, .int (nI r)), (4, .int pl)] [(9, .int (nI i + 1)), (8, .int (vs + 1)), (7, .int (nI steps)), (5, .long (w / 16 * (16 - (D (x * 10 + 4)).toInt64))), (0, .ref 48), (1, .int (nI x)), (2, .int (nI nn)), (3, .int (nI r)), (4, .int pl)] _ _ _ _ (by intro x hx; simp only [List.mem_cons, List.not_mem_nil, or_false] at hx ⊢; rcases hx with e | e | e | e | e | e | e | e | e <;> simp only [e, true_or, or_true]) ?_
            have kk := ih (i + 1) (w / 16 * (16 - (D (x * 10 + 4)).toInt64)) (vs + 1) (c + (w / 16 * (D (x * 10 + 4)).toInt64)) (p + 0) j (mi + (268435456 - c) * (ve).toInt64) _ (by omega) ((hsX.tr (l' := [48]) (l2 := [25, 48, 49]) (same.up (by simp)) (by simp) (by simp)).tr (l' := [48]) (l2 := [25, 48, 49]) (same.up (by simp)) (by simp) (by simp) |>.tr (l' := [48]) (l2 := [25, 48, 49]) (same.up (by simp)) (by simp) (by simp)) (hWB.v _ _ _ _) rfl (by rw [← hres]; show _ = vrun _ _ _ _ _ _ (i + 1) mm (vst _ _ _ _ (vrg r nn i) _); rw [hb, vst_z false c4]; rfl)
            rw [← nI_1] at kk
            exact kk
      have yes : vrg r nn i = true → run 92 [(9, .int (nI i)), (8, .int vs), (7, .int (nI steps)), (5, .long w), (0, .ref 48), (1, .int (nI x)), (2, .int (nI nn)), (3, .int (nI r)), (4, .int pl)] [] hX 0 0 := by
        intro hb
        refine step.1 _ _ _ _ _ _ _ sgX10_reckon_92_ok ?_
        exact st97 true hb
      have no : vrg r nn i = false → run 96 [(9, .int (nI i)), (8, .int vs), (7, .int (nI steps)), (5, .long w), (0, .ref 48), (1, .int (nI x)), (2, .int (nI nn)), (3, .int (nI r)), (4, .int pl)] [] hX 0 0 := by
        intro hb
        refine step.1 _ _ _ _ _ _ _ sgX10_reckon_96_ok ?_
        exact st97 false hb
      have two : ¬ (r = 1 ∧ i = 0) → run 81 [(9, .int (nI i)), (8, .int vs), (7, .int (nI steps)), (5, .long w), (0, .ref 48), (1, .int (nI x)), (2, .int (nI nn)), (3, .int (nI r)), (4, .int pl)] [] hX 0 0 := by
        intro hn1
        refine step.1 _ _ _ _ _ _ _ sgX10_reckon_81_ok ?_
        refine ⟨fun c1 => no ?_, fun c1 => ?_⟩
        · have c1 : r ≠ 2 := fun e => c1 (by rw [e]; rfl)
          unfold vrg
          have e1 : (r == 1 && i == 0) = false := by
            rcases Nat.decEq r 1 with q | q
            · rw [show (r == 1) = false from beq_false_of_ne q]; rfl
            · rw [show (i == 0) = false from beq_false_of_ne (fun e => hn1 ⟨q, e⟩), Bool.and_false]
          rw [e1, show (r == 2) = false from beq_false_of_ne c1]; rfl
        · have c1 : r = 2 := (nI_eq (b := 2) (by omega) (by decide)).mp c1
          refine ⟨fun c2 => no ?_, fun c2 => yes ?_⟩
          · have c2 : i ≠ nn := fun e => c2 (by rw [e])
            unfold vrg
            rw [c1, show (i == nn) = false from beq_false_of_ne c2]; rfl
          · have c2 : i = nn := (nI_eq (by omega) (by omega)).mp c2
            unfold vrg
            rw [c1, c2, show (nn == nn) = true from beq_self_eq_true nn]; rfl
      refine step.1 _ _ _ _ _ _ _ sgX10_reckon_64_ok ?_
      refine ⟨fun c1 => absurd c1 (h_nle (by omega) (by split at hst <;> omega)), fun c1 => ?_⟩
      refine ⟨fun c2 => two ?_, fun c2 => ?_⟩
      · rintro ⟨e, -⟩
        exact c2 (by rw [e]; rfl)
      · have c2 : r = 1 := (nI_eq (b := 1) (by omega) (by decide)).mp c2
        refine ⟨fun c3 => yes ?_, fun c3 => two ?_⟩
        · have c3 : i = 0 := (nI_eq (b := 0) (by omega) (by decide)).mp c3
          unfold vrg
          rw [c2, c3]; rfl
        · rintro ⟨-, e⟩
          exact c3 (by rw [e]; rfl)
  have hW0 := hW
  obtain ⟨hR, hC, hL, hN, h49, c0, p0, j0, m0, hV⟩ := hW
  have at27 : ∀ (Lx : List (Nat × Value)), Lx = [(5, .long (16777216 * (D (x * 10 + 3)).toInt64)), (0, .ref 48), (1, .int (nI x)), (2, .int (nI nn)), (3, .int (nI r)), (4, .int pl)] → run 27 Lx [.int (nI steps)] h 0 0 := by
    intro Lx hLx
    rw [hLx]
    refine step.1 _ _ _ _ _ _ _ sgX10_reckon_27_ok ?_
    refine ⟨_, hV, Nat.le_of_ble_eq_true rfl, rfl, _, rfl, Nat.le_of_ble_eq_true rfl, rfl, ?_⟩
    have hW2 := (hW0.v 0 p0 j0 m0).v 0 0 j0 m0
    refine ⟨by decide, _, _, rfl, rfl, ?_⟩
    refine Or.inl ⟨rfl, _, 1, 0, 0, _, _, _, qi_10_35, ⟨rfl, rfl⟩, ⟨hW2.1.1, rfl⟩, rfl, rfl, R_of hg hW2.1 x 8 hx (by decide), fun y1 h9 hy => ?_⟩
    obtain ⟨rfl, hh⟩ := hy
    rw [hh]
    clear hh
    refine ⟨_, rfl, Nat.le_of_ble_eq_true rfl, rfl, ?_⟩
    exact loop steps 0 (16777216 * (D (x * 10 + 3)).toInt64) 0 0 0 j0 (536870912 * (D (x * 10 + 8)).toInt64) _ (by omega) ((same.up (l := [25, 48, 49]) (by simp)).tr (l' := [48]) (l2 := [25, 48, 49]) (same.up (by simp)) (by simp) (by simp) |>.tr (l' := [48]) (l2 := [25, 48, 49]) (same.up (by simp)) (by simp) (by simp)) (hW2.v _ _ _ _) rfl (by rw [hst]; rfl)
  refine step.1 _ _ _ _ _ _ _ sgX10_reckon_0_ok ?_
  refine ⟨by decide, _, _, hV, rfl, ?_⟩
  refine Or.inl ⟨rfl, _, 1, 0, 0, _, _, _, qi_10_35, ⟨rfl, rfl⟩, ⟨hR.1, rfl⟩, rfl, rfl, R_of hg hR x 3 hx (by decide), fun y1 h9 hy => ?_⟩
  obtain ⟨rfl, hh⟩ := hy
  rw [hh]
  clear hh
  refine ⟨fun c1 => ?_, fun c1 => ?_⟩
  · have c1 : r ≠ 0 := fun e => c1 (by rw [e]; rfl)
    refine step.1 _ _ _ _ _ _ _ sgX10_reckon_24_ok ?_
    have kk := at27 _ rfl
    rw [hst, if_neg c1, ← nI_1] at kk
    exact kk
  · have c1 : r = 0 := (nI_eq (b := 0) (by omega) (by decide)).mp c1
    have kk := at27 _ rfl
    rw [hst, if_pos c1] at kk
    exact kk
end Q07J
