section Q07P
/-- the Search: its object, and what its arrays hold -/
def E54 (dc : Int32) (fv : Int64) (fl : Int32) : qE := .inl (7, [.ref 3, .ref 48, .ref 55, .ref 56, .ref 57, .ref 58, .ref 59, .ref 60, .ref 61, .int dc, .long fv, .int fl])
abbrev aI (n : Nat) (f : Nat → Int32) : qE := .inr (.inl (.int, n, f))
abbrev aL (n : Nat) (f : Nat → Int64) : qE := .inr (.inr (.inl (n, f)))
/-- the lists of ways, and the hopes -/
def isS (h : qH) (VL : Nat → Int64) (LN CO SZ : Nat → Int32) (HO : Nat → Int64) : Prop := h.2 55 = some (aL 90 VL) ∧ h.2 56 = some (aI 90 LN) ∧ h.2 57 = some (aI 90 CO) ∧ h.2 58 = some (aI 5 SZ) ∧ h.2 59 = some (aL 6 HO)
theorem isS.sm {h h' : qH} {VL : Nat → Int64} {LN CO SZ : Nat → Int32} {HO : Nat → Int64} {z : List Nat} (hS : isS h VL LN CO SZ HO) (hs : same h h' z) (hz : [55, 56, 57, 58, 59].all (fun j => decide (j ∉ z)) = true) : isS h' VL LN CO SZ HO := by
  obtain ⟨h1, h2, h3, h4, h5⟩ := hS
  have hz := fun j hj => of_decide_eq_true (List.all_eq_true.mp hz j hj)
  exact ⟨(hs.2 _ (hz 55 (by simp))).trans h1, (hs.2 _ (hz 56 (by simp))).trans h2, (hs.2 _ (hz 57 (by simp))).trans h3, (hs.2 _ (hz 58 (by simp))).trans h4, (hs.2 _ (hz 59 (by simp))).trans h5⟩
def sstr (st a b : Int32) : Int32 := if a = -1 then 0 else b - a + (if iapart st b ≤ iapart st a then iapart st b else iapart st a)
theorem way_dm : ∀ w : Nat, w < 18 → (nI w / 3 : Int32) = nI (w / 3) ∧ (nI w - nI (w / 3) * 3 : Int32) = nI (w % 3) := by decide +kernel
abbrev lS : Type := Int64 × Nat × (Nat → Int64) × (Nat → Int32) × (Nat → Int32)
/-- where the way goes: over the last one, if that is as long -/
def lz (len : Int32) (x : Nat) (s : lS) : Nat := if 0 < s.2.1 then (if s.2.2.2.1 (x * 18 + s.2.1 - 1) = len then s.2.1 - 1 else s.2.1) else s.2.1
def lput2 (v : Int64) (len : Int32) (x w z : Nat) (s : lS) : lS := (v, z + 1, vp_updL s.2.2.1 (x * 18 + z) v, upd s.2.2.2.1 (x * 18 + z) len, upd s.2.2.2.2 (x * 18 + z) (nI (w / 3) * 10 + nI (w % 3)))
def lwst (v : Int64) (len : Int32) (x w : Nat) (s : lS) : lS := if v ≤ s.1 then s else lput2 v len x w (lz len x s) s
def lwrun (val : Nat → Int64) (len : Nat → Int32) (x : Nat) : Nat → Nat → lS → lS
  | 0, _, s => s
  | m + 1, w, s => lwrun val len x m (w + 1) (lwst (val w) (len w) x w s)
def sval (D K V : Nat → Int32) (N : Nat) (m ve w : Int32) (x y : Nat) : Int64 := (vmean (fun z => vgift D K V N m x z 0) D ve x (y % 3) (y / 3)).2.2.2.1 + w.toInt64 * ((vmean (fun z => vgift D K V N m x z 0) D ve x (y % 3) (y / 3)).2.2.1 * (D (x * 10 + 2)).toInt64)
def slen (D : Nat → Int32) (ve : Int32) (x y : Nat) : Int32 := 2 * D (x * 10 + 8) + nI (y / 3) * ve + (if nI (y % 3) = 0 then 0 else 1) + D (x * 10 + 9)
theorem S_street {g : qG} (hg : qOK g) {h : qH} {dc : Int32} {fv : Int64} {fl : Int32} (hE : h.2 54 = some (E54 dc fv fl)) {D P U : Nat → Int32} {n k u st ve cl : Int32} (hR : isR h 3 4 5 6 D P U n k u st ve cl) (a b : Int32) : qSpec g 2 0 0 mX7_street [.ref 54, .int a, .int b] h (fun r h' => r = some (.int (sstr st a b)) ∧ h' = h) := by
  refine qSpec_run 7 "street" false hg mX7_street_ok rfl rfl (Nat.le_of_ble_eq_true rfl) (by decide) ?_
  intro run step
  refine step.1 _ _ _ _ _ _ _ sgX7_street_0_ok ?_
  refine ⟨fun c2 => ?_, fun c2 => ?_⟩
  · have c2 : ¬ a = -1 := c2
    refine step.1 _ _ _ _ _ _ _ sgX7_street_7_ok ?_
    refine ⟨by decide, _, _, hE, rfl, ?_⟩
    refine ⟨by decide, _, _, hR.1, rfl, ?_⟩
    refine Or.inl ⟨rfl, _, 1, 0, 0, _, Or.inr qi_7_109, ⟨rfl, rfl⟩, rfl, rfl, sp_apart hg _ _, fun y15 h15 hy15 => ?_⟩
    obtain ⟨rfl, hh⟩ := hy15
    rw [hh]
    clear hh
    refine ⟨by decide, _, _, hE, rfl, ?_⟩
    refine ⟨by decide, _, _, hR.1, rfl, ?_⟩
    refine Or.inl ⟨rfl, _, 1, 0, 0, _, Or.inr qi_7_109, ⟨rfl, rfl⟩, rfl, rfl, sp_apart hg _ _, fun y27 h27 hy27 => ?_⟩
    obtain ⟨rfl, hh⟩ := hy27
    rw [hh]
    clear hh
    refine ⟨fun c38 => ?_, fun c38 => ?_⟩
    · refine step.1 _ _ _ _ _ _ _ sgX7_street_45_ok ?_
      refine step.1 _ _ _ _ _ _ _ sgX7_street_47_ok ?_
      refine ⟨.int, rfl, rfl, Nat.le_refl _, Nat.le_refl _, ?_⟩
      exact ⟨by rw [sstr, if_neg c2, if_pos (show iapart st b ≤ iapart st a from c38)], rfl⟩
    · refine step.1 _ _ _ _ _ _ _ sgX7_street_47_ok ?_
      refine ⟨.int, rfl, rfl, Nat.le_refl _, Nat.le_refl _, ?_⟩
      exact ⟨by rw [sstr, if_neg c2, if_neg (show ¬ iapart st b ≤ iapart st a from c38)], rfl⟩
  · have c2 : a = -1 := c2
    refine ⟨.int, rfl, rfl, Nat.le_refl _, Nat.le_refl _, ?_⟩
    exact ⟨by rw [sstr, if_pos c2], rfl⟩
theorem S_foundAt {g : qG} (hg : qOK g) {h : qH} {dc : Int32} {fv : Int64} {fl : Int32} (hE : h.2 54 = some (E54 dc fv fl)) {FO : Nat → Int32} (h61 : h.2 61 = some (aI 5 FO)) (x : Nat) (hx : x < 5) : qSpec g 2 0 0 mX7_foundAt [.ref 54, .int (nI x)] h (fun r h' => r = some (.int (FO x)) ∧ h' = h) := by
  refine qSpec_run 7 "foundAt" false hg mX7_foundAt_ok rfl rfl (Nat.le_of_ble_eq_true rfl) (by decide) ?_
  intro run step
  have c0 := within_t (lo := 0) (x := x) (hi := 4) (by omega) (by omega) (by omega)
  refine step.1 _ _ _ _ _ _ _ sgX7_foundAt_0_ok ?_
  refine Or.inl ⟨rfl, _, 1, 0, 0, _, Or.inr qi_7_42, ⟨rfl, rfl⟩, rfl, rfl, sp_within hg _ _ _, fun y3 h3 hy3 => ?_⟩
  obtain ⟨rfl, hh⟩ := hy3
  rw [hh]
  clear hh
  refine ⟨fun c6 => absurd ((congrArg qb c0).symm.trans c6) (by decide), fun c6 => ?_⟩
  refine ⟨by decide, _, _, hE, rfl, ?_⟩
  refine ⟨_, _, h61, vp_in_nI (by omega) (by decide), ?_⟩
  refine step.1 _ _ _ _ _ _ _ sgX7_foundAt_19_ok ?_
  refine ⟨.int, rfl, rfl, Nat.le_refl _, Nat.le_refl _, ?_⟩
  exact ⟨by rw [h_tn (n := x) (by omega)], rfl⟩
theorem upd_upd {f : Nat → Int32} {k : Nat} {a b : Int32} : upd (upd f k a) k b = upd f k b := by
  funext j
  by_cases e : j = k
  · rw [e, upd_s, upd_s]
  · rw [upd_n e, upd_n e, upd_n e]
theorem lz_le (len : Int32) (x : Nat) (s : lS) : lz len x s ≤ s.2.1 := by
  unfold lz
  split
  · split <;> omega
  · omega
set_option maxHeartbeats 4000000 in
theorem S_addWay {g : qG} (hg : qOK g) {h : qH} {D P U : Nat → Int32} {n kk u st ve cl : Int32} (hR : isR h 3 4 5 6 D P U n kk u st ve cl) {dc : Int32} {fv : Int64} {fl : Int32} (hE : h.2 54 = some (E54 dc fv fl)) {x : Nat} {HO : Nat → Int64} {SZ : Nat → Int32} {s : lS} (hS : isS h s.2.2.1 s.2.2.2.1 s.2.2.2.2 (upd SZ x (nI s.2.1)) HO) (hx : x < 5) (way : Nat) (hw : way < 18) (hs : s.2.1 < 18) (v : Int64) : qSpec g 3 0 0 mX7_addWay [.ref 54, .int (nI x), .int (nI way), .long v] h (fun r h' => r = none ∧ same h h' [55, 56, 57, 58] ∧ isS h' (lput2 v ((slen D ve x) way) x way (lz ((slen D ve x) way) x s) s).2.2.1 (lput2 v ((slen D ve x) way) x way (lz ((slen D ve x) way) x s) s).2.2.2.1 (lput2 v ((slen D ve x) way) x way (lz ((slen D ve x) way) x s) s).2.2.2.2 (upd SZ x (nI (lput2 v ((slen D ve x) way) x way (lz ((slen D ve x) way) x s) s).2.1)) HO) := by
  refine qSpec_run 7 "addWay" false hg mX7_addWay_ok rfl rfl (Nat.le_of_ble_eq_true rfl) (by decide) ?_
  intro run step
  have c0 := within_t (lo := 0) (x := s.2.1) (hi := 17) (by omega) (by omega) (by omega)
  have eS : upd SZ x (nI s.2.1) (nI x).toNatClampNeg = nI s.2.1 := by rw [h_tn (n := x) (by omega)]; exact upd_s
  refine step.1 _ _ _ _ _ _ _ sgX7_addWay_0_ok ?_
  refine ⟨fun c1 => absurd c1 (h_nn (by omega)), fun c1 => ?_⟩
  refine ⟨by decide, _, _, hE, rfl, ?_⟩
  refine ⟨_, _, hS.2.2.2.1, rfl, ?_⟩
  refine ⟨fun c10 => absurd (show (nI 5 : Int32) ≤ nI x from c10) (h_nle (b := 5) (by omega) (by decide)), fun c10 => ?_⟩
  refine ⟨by decide, _, _, hE, rfl, ?_⟩
  refine ⟨_, _, hS.2.2.2.1, vp_in_nI (by omega) (by decide), ?_⟩
  show run 24 [(0, .ref 54), (1, .int (nI x)), (2, .int (nI way)), (3, .long v)] [.int (upd SZ x (nI s.2.1) (nI x).toNatClampNeg)] h 0 0
  rw [eS]
  refine step.1 _ _ _ _ _ _ _ sgX7_addWay_24_ok ?_
  refine Or.inl ⟨rfl, _, 1, 0, 0, _, Or.inr qi_7_42, ⟨rfl, rfl⟩, rfl, rfl, sp_within hg _ _ _, fun y31 h31 hy31 => ?_⟩
  obtain ⟨rfl, hh⟩ := hy31
  rw [hh]
  clear hh
  refine ⟨fun c34 => ?_, fun c34 => absurd ((congrArg qb c0).symm.trans c34) (by decide)⟩
  refine step.1 _ _ _ _ _ _ _ sgX7_addWay_38_ok ?_
  refine ⟨by decide, _, _, hE, rfl, ?_⟩
  refine ⟨by decide, ?_⟩
  refine ⟨by decide, ?_⟩
  rw [(way_dm way (by omega)).1, (way_dm way (by omega)).2]
  refine Or.inl ⟨rfl, _, 2, 0, 0, _, _, _, qi_7_86, ⟨rfl, rfl⟩, ⟨hR.1, rfl⟩, rfl, rfl, R_longestAt hg hR x _ _ (by omega), fun y49 h49 hy49 => ?_⟩
  obtain ⟨rfl, hh⟩ := hy49
  rw [hh]
  clear hh
  refine ⟨fun c65 => ?_, fun c65 => ?_⟩
  · have hz : lz ((slen D ve x) way) x s = s.2.1 := if_neg (fun q => absurd ((nI_leI (a := s.2.1) (b := 0) (by omega) (by decide)).mp c65) (by omega))
    have eA : (nI x * 18 + nI s.2.1 : Int32) = nI (x * 18 + s.2.1) := h_ix x s.2.1 18
    show run 88 [(7, .int (nI x * 18 + nI s.2.1)), _, _, _, _, _, _] [] _ 0 0
    rw [eA]
    refine step.1 _ _ _ _ _ _ _ sgX7_addWay_88_ok ?_
    refine ⟨by decide, _, _, hE, rfl, ?_⟩
    refine ⟨_, _, hS.1, vp_in_nI (by omega) (by decide), ?_⟩
    refine ⟨by decide, _, _, hE, rfl, ?_⟩
    refine ⟨_, _, hS.2.1, vp_in_nI (by omega) (by decide), ?_⟩
    refine ⟨by decide, _, _, hE, rfl, ?_⟩
    refine ⟨by decide, ?_⟩
    refine ⟨by decide, ?_⟩
    rw [(way_dm way (by omega)).1, (way_dm way (by omega)).2]
    refine ⟨_, _, hS.2.2.1, vp_in_nI (by omega) (by decide), ?_⟩
    refine ⟨by decide, _, _, hE, rfl, ?_⟩
    refine ⟨_, _, hS.2.2.2.1, vp_in_nI (by omega) (by decide), ?_⟩
    refine ⟨rfl, Nat.le_refl _, Nat.le_refl _, ?_⟩
    have hj : s.2.1 + 1 < 2 ^ 31 := by omega
    rw [hz, h_tn (n := x * 18 + s.2.1) (by omega), h_tn (n := x) (by omega)]
    refine ⟨rfl, ⟨rfl, fun j hj => ?_⟩, rfl, rfl, rfl, ?_, hS.2.2.2.2⟩
    · have hj1 : j ≠ 55 := fun q => hj (by rw [q]; simp)
      have hj2 : j ≠ 56 := fun q => hj (by rw [q]; simp)
      have hj3 : j ≠ 57 := fun q => hj (by rw [q]; simp)
      have hj4 : j ≠ 58 := fun q => hj (by rw [q]; simp)
      simp only [qup_n hj1, qup_n hj2, qup_n hj3, qup_n hj4]
    · show some (aI 5 (upd (upd SZ x (nI s.2.1)) x (nI (s.2.1) + 1))) = some (aI 5 (upd SZ x (nI (s.2.1 + 1))))
      rw [upd_upd, nI_1]
  · have hp : 0 < s.2.1 := by
      by_cases q : s.2.1 = 0
      · rw [q] at c65
        exact absurd (by decide : nI 0 ≤ (0 : Int32)) c65
      · omega
    have eA : (nI x * 18 + nI s.2.1 : Int32) = nI (x * 18 + s.2.1) := h_ix x s.2.1 18
    have eB : (nI x * 18 + nI s.2.1 - 1 : Int32) = nI (x * 18 + s.2.1 - 1) := by rw [eA]; exact pk_sub (a := x * 18 + s.2.1) (b := 1) (by omega)
    have eC : (nI x * 18 + nI s.2.1 + (-1) : Int32) = nI (x * 18 + (s.2.1 - 1)) := by
      rw [← Int32.sub_eq_add_neg, eB]
      congr 1
      omega
    have eD : (nI s.2.1 + (-1) : Int32) = nI (s.2.1 - 1) := by rw [← Int32.sub_eq_add_neg]; exact pk_sub (a := s.2.1) (b := 1) (by omega)
    refine ⟨by decide, _, _, hE, rfl, ?_⟩
    refine ⟨_, _, hS.2.1, by rw [eB]; exact vp_in_nI (by omega) (by decide), ?_⟩
    refine ⟨fun c79 => ?_, fun c79 => ?_⟩
    · have c79 : ¬ s.2.2.2.1 (x * 18 + s.2.1 - 1) = (slen D ve x) way := by
        rw [eB, h_tn (n := x * 18 + s.2.1 - 1) (by omega)] at c79
        exact c79
      have hz : lz ((slen D ve x) way) x s = s.2.1 := by rw [lz, if_pos hp, if_neg c79]
      show run 88 [(7, .int (nI x * 18 + nI s.2.1)), _, _, _, _, _, _] [] _ 0 0
      rw [eA]
      refine step.1 _ _ _ _ _ _ _ sgX7_addWay_88_ok ?_
      refine ⟨by decide, _, _, hE, rfl, ?_⟩
      refine ⟨_, _, hS.1, vp_in_nI (by omega) (by decide), ?_⟩
      refine ⟨by decide, _, _, hE, rfl, ?_⟩
      refine ⟨_, _, hS.2.1, vp_in_nI (by omega) (by decide), ?_⟩
      refine ⟨by decide, _, _, hE, rfl, ?_⟩
      refine ⟨by decide, ?_⟩
      refine ⟨by decide, ?_⟩
      rw [(way_dm way (by omega)).1, (way_dm way (by omega)).2]
      refine ⟨_, _, hS.2.2.1, vp_in_nI (by omega) (by decide), ?_⟩
      refine ⟨by decide, _, _, hE, rfl, ?_⟩
      refine ⟨_, _, hS.2.2.2.1, vp_in_nI (by omega) (by decide), ?_⟩
      refine ⟨rfl, Nat.le_refl _, Nat.le_refl _, ?_⟩
      have hj : s.2.1 + 1 < 2 ^ 31 := by omega
      rw [hz, h_tn (n := x * 18 + s.2.1) (by omega), h_tn (n := x) (by omega)]
      refine ⟨rfl, ⟨rfl, fun j hj => ?_⟩, rfl, rfl, rfl, ?_, hS.2.2.2.2⟩
      · have hj1 : j ≠ 55 := fun q => hj (by rw [q]; simp)
        have hj2 : j ≠ 56 := fun q => hj (by rw [q]; simp)
        have hj3 : j ≠ 57 := fun q => hj (by rw [q]; simp)
        have hj4 : j ≠ 58 := fun q => hj (by rw [q]; simp)
        simp only [qup_n hj1, qup_n hj2, qup_n hj3, qup_n hj4]
      · show some (aI 5 (upd (upd SZ x (nI s.2.1)) x (nI (s.2.1) + 1))) = some (aI 5 (upd SZ x (nI (s.2.1 + 1))))
        rw [upd_upd, nI_1]
    · have c79 : s.2.2.2.1 (x * 18 + s.2.1 - 1) = (slen D ve x) way := by
        rw [eB, h_tn (n := x * 18 + s.2.1 - 1) (by omega)] at c79
        exact c79
      have hz : lz ((slen D ve x) way) x s = s.2.1 - 1 := by rw [lz, if_pos hp, if_pos c79]
      show run 88 [(5, .int (nI s.2.1 + (-1))), (7, .int (nI x * 18 + nI s.2.1 + (-1))), _, _, _, _, _] [] _ 0 0
      rw [eC, eD]
      refine step.1 _ _ _ _ _ _ _ sgX7_addWay_88_ok ?_
      refine ⟨by decide, _, _, hE, rfl, ?_⟩
      refine ⟨_, _, hS.1, vp_in_nI (by omega) (by decide), ?_⟩
      refine ⟨by decide, _, _, hE, rfl, ?_⟩
      refine ⟨_, _, hS.2.1, vp_in_nI (by omega) (by decide), ?_⟩
      refine ⟨by decide, _, _, hE, rfl, ?_⟩
      refine ⟨by decide, ?_⟩
      refine ⟨by decide, ?_⟩
      rw [(way_dm way (by omega)).1, (way_dm way (by omega)).2]
      refine ⟨_, _, hS.2.2.1, vp_in_nI (by omega) (by decide), ?_⟩
      refine ⟨by decide, _, _, hE, rfl, ?_⟩
      refine ⟨_, _, hS.2.2.2.1, vp_in_nI (by omega) (by decide), ?_⟩
      refine ⟨rfl, Nat.le_refl _, Nat.le_refl _, ?_⟩
      have hj : (s.2.1 - 1) + 1 < 2 ^ 31 := by omega
      rw [hz, h_tn (n := x * 18 + (s.2.1 - 1)) (by omega), h_tn (n := x) (by omega)]
      refine ⟨rfl, ⟨rfl, fun j hj => ?_⟩, rfl, rfl, rfl, ?_, hS.2.2.2.2⟩
      · have hj1 : j ≠ 55 := fun q => hj (by rw [q]; simp)
        have hj2 : j ≠ 56 := fun q => hj (by rw [q]; simp)
        have hj3 : j ≠ 57 := fun q => hj (by rw [q]; simp)
        have hj4 : j ≠ 58 := fun q => hj (by rw [q]; simp)
        simp only [qup_n hj1, qup_n hj2, qup_n hj3, qup_n hj4]
      · show some (aI 5 (upd (upd SZ x (nI s.2.1)) x (nI ((s.2.1 - 1)) + 1))) = some (aI 5 (upd SZ x (nI ((s.2.1 - 1) + 1))))
        rw [upd_upd, nI_1]
set_option maxHeartbeats 4000000 in
theorem S_listWays {g : qG} (hg : qOK g) {h : qH} {D P U Q K V : Nat → Int32} {n u st ve cl m kk : Int32} {N : Nat} (hW : isW h D P U Q K V n kk u st ve cl m N) {dc : Int32} {fv : Int64} {fl : Int32} (hE : h.2 54 = some (E54 dc fv fl)) {VL HO : Nat → Int64} {LN CO SZ : Nat → Int32} (hS : isS h VL LN CO SZ HO) (x : Nat) (hx : x < 5) (w : Int32) : qSpec g 5 0 0 mX7_listWays [.ref 54, .int (nI x), .int w] h (fun r h' => r = some (.long (lwrun (sval D K V N m ve w x) (slen D ve x) x 18 0 (0, 0, VL, LN, CO)).1) ∧ same h h' [25, 48, 49, 55, 56, 57, 58] ∧ isW h' D P U Q K V n kk u st ve cl m N ∧ h'.2 54 = some (E54 dc fv fl) ∧ isS h' (lwrun (sval D K V N m ve w x) (slen D ve x) x 18 0 (0, 0, VL, LN, CO)).2.2.1 (lwrun (sval D K V N m ve w x) (slen D ve x) x 18 0 (0, 0, VL, LN, CO)).2.2.2.1 (lwrun (sval D K V N m ve w x) (slen D ve x) x 18 0 (0, 0, VL, LN, CO)).2.2.2.2 (upd SZ x (nI (lwrun (sval D K V N m ve w x) (slen D ve x) x 18 0 (0, 0, VL, LN, CO)).2.1)) HO) := by
  refine qSpec_run 7 "listWays" false hg mX7_listWays_ok rfl rfl (Nat.le_of_ble_eq_true rfl) (by decide) ?_
  intro run step
  have c0 := within_t (lo := 0) (x := x) (hi := 4) (by omega) (by omega) (by omega)
  have loop : ∀ (mm way : Nat) (s : lS) (hX : qH), way + mm = 18 → s.2.1 ≤ way → lwrun (sval D K V N m ve w x) (slen D ve x) x mm way s = (lwrun (sval D K V N m ve w x) (slen D ve x) x 18 0 (0, 0, VL, LN, CO)) → same h hX [25, 48, 49, 55, 56, 57, 58] → isW hX D P U Q K V n kk u st ve cl m N → hX.2 54 = some (E54 dc fv fl) → isS hX s.2.2.1 s.2.2.2.1 s.2.2.2.2 (upd SZ x (nI s.2.1)) HO → run 23 [(5, .int (nI way)), (3, .long s.1), (0, .ref 54), (1, .int (nI x)), (2, .int w)] [] hX 0 0 := by
    intro mm
    induction mm with
    | zero =>
      intro way s hX hi hsz hst hsX hWX hEX hSX
      obtain rfl : way = 18 := by omega
      refine step.1 _ _ _ _ _ _ _ sgX7_listWays_23_ok ?_
      refine ⟨fun c27 => ?_, fun c27 => absurd (by decide : (18 : Int32) ≤ nI 18) c27⟩
      refine step.1 _ _ _ _ _ _ _ sgX7_listWays_92_ok ?_
      refine ⟨rfl, Nat.le_refl _, Nat.le_refl _, ?_⟩
      have hst : s = (lwrun (sval D K V N m ve w x) (slen D ve x) x 18 0 (0, 0, VL, LN, CO)) := hst
      rw [← hst]
      exact ⟨rfl, hsX, hWX, hEX, hSX⟩
    | succ mm ih =>
      intro way s hX hi hsz hst hsX hWX hEX hSX
      refine step.1 _ _ _ _ _ _ _ sgX7_listWays_23_ok ?_
      refine ⟨fun c27 => absurd c27 (h_nle (b := 18) (by omega) (by decide)), fun c27 => ?_⟩
      refine ⟨by decide, _, _, hEX, rfl, ?_⟩
      refine ⟨by decide, ?_⟩
      refine ⟨by decide, ?_⟩
      rw [(way_dm way (by omega)).1, (way_dm way (by omega)).2]
      refine Or.inl ⟨rfl, _, 4, 0, 0, _, _, _, qi_7_70, ⟨rfl, rfl⟩, ⟨hWX.2.2.2.2.2.choose_spec.choose_spec.choose_spec.choose_spec, rfl⟩, rfl, rfl, V_reckon hg hWX x (way / 3) (way % 3) (by omega) (by omega) (by omega) 0, fun y44 h44 hy44 => ?_⟩
      obtain ⟨rfl, hs9, hW9, hV9⟩ := hy44
      have hE9 := (hs9.2 54 (by simp)).trans hEX
      have hS9 := hSX.sm hs9 rfl
      refine ⟨by decide, _, _, hE9, rfl, ?_⟩
      refine ⟨by decide, _, _, hV9, rfl, ?_⟩
      refine ⟨by decide, _, _, hE9, rfl, ?_⟩
      refine ⟨by decide, _, _, hV9, rfl, ?_⟩
      refine ⟨fun c71 => ?_, fun c71 => ?_⟩
      · have c71 : (sval D K V N m ve w x) way ≤ s.1 := (lgc_le _ _).mp c71
        refine step.1 _ _ _ _ _ _ _ sgX7_listWays_86_ok ?_
        refine step.2 _ _ _ _ _ _ _ (qsub_cons 0 rfl (qsub_cons 2 rfl (qsub_cons 3 rfl (qsub_cons 4 rfl (qsub_cons 5 rfl qsub_nil))))) ?_
        have kk2 := ih (way + 1) s h44 (by omega) (by omega) (by rw [← hst]; show _ = lwrun _ _ _ _ _ (lwst _ _ _ _ _); rw [lwst, if_pos c71]) (hsX.t2 hs9 (by decide)) hW9 hE9 hS9
        rw [← nI_1] at kk2
        exact kk2
      · have c71 : ¬ (sval D K V N m ve w x) way ≤ s.1 := fun q => c71 ((lgc_le _ _).mpr q)
        refine Or.inl ⟨rfl, _, 3, 0, 0, _, _, _, qi_7_82, ⟨rfl, rfl⟩, ⟨hE9, rfl⟩, rfl, rfl, S_addWay hg hW9.1 hE9 hS9 hx way (by omega) (by omega) ((sval D K V N m ve w x) way), fun y83 h83 hy83 => ?_⟩
        obtain ⟨rfl, hs8, hS8⟩ := hy83
        refine step.1 _ _ _ _ _ _ _ sgX7_listWays_86_ok ?_
        refine step.2 _ _ _ _ _ _ _ (qsub_cons 0 rfl (qsub_cons 1 rfl (qsub_cons 3 rfl (qsub_cons 4 rfl (qsub_cons 5 rfl qsub_nil))))) ?_
        have kk2 := ih (way + 1) (lput2 ((sval D K V N m ve w x) way) ((slen D ve x) way) x way (lz ((slen D ve x) way) x s) s) h83 (by omega) (by show lz ((slen D ve x) way) x s + 1 ≤ way + 1; have := lz_le ((slen D ve x) way) x s; omega) (by rw [← hst]; show _ = lwrun _ _ _ _ _ (lwst _ _ _ _ _); rw [lwst, if_neg c71]) ((hsX.t2 hs9 (by decide)).t2 hs8 (by decide)) (hW9.sm hs8 rfl) ((hs8.2 54 (by simp)).trans hE9) hS8
        rw [← nI_1] at kk2
        exact kk2
  refine step.1 _ _ _ _ _ _ _ sgX7_listWays_0_ok ?_
  refine Or.inl ⟨rfl, _, 1, 0, 0, _, Or.inr qi_7_42, ⟨rfl, rfl⟩, rfl, rfl, sp_within hg _ _ _, fun y5 h5 hy5 => ?_⟩
  obtain ⟨rfl, hh⟩ := hy5
  rw [hh]
  clear hh
  refine ⟨fun c8 => ?_, fun c8 => absurd ((congrArg qb c0).symm.trans c8) (by decide)⟩
  refine step.1 _ _ _ _ _ _ _ sgX7_listWays_13_ok ?_
  refine ⟨by decide, _, _, hE, rfl, ?_⟩
  refine ⟨_, _, hS.2.2.2.1, vp_in_nI (by omega) (by decide), ?_⟩
  have eX := h_tn (n := x) (by omega)
  have hsA : same h (h.1, qup h.2 58 (aI 5 (upd SZ (nI x).toNatClampNeg 0))) [58] := same.up (by simp)
  exact loop 18 0 (0, 0, VL, LN, CO) _ rfl (Nat.le_refl _) rfl (hsA.sub (by simp)) (hW.sm hsA rfl) hE ⟨hS.1, hS.2.1, hS.2.2.1, congrArg (fun q => some (aI 5 (upd SZ q 0))) eX, hS.2.2.2.2⟩
end Q07P
