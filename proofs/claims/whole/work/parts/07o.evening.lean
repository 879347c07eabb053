section Q07O
/-- the Evening -/
def E62 (e : Nat → Int32) : qE := .inl (2, [.ref 3, .ref 48, .ref 26, .int (e 3), .int (e 4), .int (e 5), .int (e 6), .int (e 7), .int (e 8), .int (e 9), .int (e 10), .int (e 11)])
def eseed (s : Int32) : Int32 := s * 1103515245 + 12345
def ebits (s : Int32) : Int32 := ((eseed s).toUInt32 >>> (Int32.toUInt32 16 &&& Int32.toUInt32 31)).toInt32 &&& 15
def edrawn (e : Nat → Int32) : Nat → Int32 := upd e 3 (eseed (e 3))
abbrev eS : Type := Bool × (Nat → Int32)
/-- somebody is in and hears it: a draw; f the number of those in 16 -/
def eopen (i : Bool) (f : Int32) (e : Nat → Int32) : eS := match i with
  | true => (decide (ebits (e 3) < f), edrawn e)
  | false => (false, e)
def ering (D : Nat → Int32) (x : Nat) (i : Bool) (e : Nat → Int32) : eS := eopen i (D (x * 10 + 5)) (upd (upd e 9 (e 9 + 1)) 6 (e 6 + 1))
def everse (D : Nat → Int32) (ve : Int32) (x : Nat) (i : Bool) (e : Nat → Int32) : eS := eopen i (D (x * 10 + 4)) (upd (upd (upd e 8 (e 8 + 1)) 11 (e 11 + 1)) 6 (e 6 + ve))
/-- does one sing another verse -/
def esing (D K2 V2 : Nat → Int32) (N2 : Nat) (m : Int32) (x : Nat) (li told : Int32) (e : Nat → Int32) : Bool := if N2 = 0 then decide (e 11 < told) else decide (0 < lworth K2 V2 (vnm D m x (e 11) li (e 6) (e 4) told) 0 N2 0 (fun _ => 0))
theorem vnm_congr {D : Nat → Int32} {m : Int32} {x : Nat} {a b c d e f : Int32} : ∀ j : Nat, j < 10 → vnm D m x a b c d e j = vnm D m x a b c d e j := fun _ _ => rfl
/-- what an evening stands on -/
def isO (h : qH) (K2 V2 : Nat → Int32) (N2 : Nat) : Prop := (∃ S, isL h 26 27 28 29 K2 V2 S (nI N2)) ∧ (N2 ≤ 150 ∧ (N2 ≠ 0 → lok K2 V2 0 N2 0))
theorem isO.sm {h h' : qH} {K2 V2 : Nat → Int32} {N2 : Nat} {z : List Nat} (hO : isO h K2 V2 N2) (hs : same h h' z) (hz : [26, 27, 28, 29].all (fun j => decide (j ∉ z)) = true) : isO h' K2 V2 N2 := by
  obtain ⟨⟨S, h1⟩, h2⟩ := hO
  have hz := fun j hj => of_decide_eq_true (List.all_eq_true.mp hz j hj)
  exact ⟨⟨S, h1.sm hs (hz 26 (by simp)) (hz 27 (by simp)) (hz 28 (by simp)) (hz 29 (by simp))⟩, h2⟩
theorem E_draw {g : qG} (hg : qOK g) {h : qH} {e : Nat → Int32} (hE : h.2 62 = some (E62 e)) : qSpec g 1 0 0 mX2_draw [.ref 62] h (fun r h' => r = some (.int (ebits (e 3))) ∧ h' = (h.1, qup h.2 62 (E62 (edrawn e)))) := by
  refine qSpec_run 2 "draw" false hg mX2_draw_ok rfl rfl (Nat.le_of_ble_eq_true rfl) (by decide) ?_
  intro run step
  refine step.1 _ _ _ _ _ _ _ sgX2_draw_0_ok ?_
  refine ⟨by decide, _, _, hE, rfl, ?_⟩
  refine Or.inr ⟨by decide, ?_⟩
  refine ⟨_, hE, Nat.le_of_ble_eq_true rfl, rfl, ?_⟩
  refine ⟨by decide, _, _, rfl, rfl, ?_⟩
  refine ⟨.int, rfl, rfl, Nat.le_refl _, Nat.le_refl _, ?_⟩
  exact ⟨rfl, rfl⟩
theorem E_ring {g : qG} (hg : qOK g) {h : qH} {D P U : Nat → Int32} {n k u st ve cl : Int32} (hR : isR h 3 4 5 6 D P U n k u st ve cl) (x : Nat) (hx : x < 10) (i : Bool) {e : Nat → Int32} (hE : h.2 62 = some (E62 e)) : qSpec g 2 0 0 mX2_ringOpens [.ref 62, .int (nI x), .int (qb i)] h (fun r h' => r = some (.int (qb (ering D x i e).1)) ∧ same h h' [62] ∧ h'.2 62 = some (E62 (ering D x i e).2)) := by
  refine qSpec_run 2 "ringOpens" false hg mX2_ringOpens_ok rfl rfl (Nat.le_of_ble_eq_true rfl) (by decide) ?_
  intro run step
  cases i with
  | true =>
    refine step.1 _ _ _ _ _ _ _ sgX2_ringOpens_0_ok ?_
    refine ⟨rfl, ?_⟩
    refine ⟨by decide, _, _, hE, rfl, ?_⟩
    refine ⟨_, hE, Nat.le_of_ble_eq_true rfl, rfl, ?_⟩
    refine ⟨rfl, ?_⟩
    refine ⟨by decide, _, _, rfl, rfl, ?_⟩
    refine ⟨_, rfl, Nat.le_of_ble_eq_true rfl, rfl, ?_⟩
    refine ⟨fun c21 => absurd c21 (by decide), fun c21 => ?_⟩
    refine Or.inl ⟨rfl, _, 1, 0, 0, _, _, _, qi_2_72, ⟨rfl, rfl⟩, ⟨rfl, rfl⟩, rfl, rfl, E_draw hg (e := (upd (upd e 9 (e 9 + 1)) 6 (e 6 + 1))) (by exact rfl), fun y25 h25 hy25 => ?_⟩
    obtain ⟨rfl, hh⟩ := hy25
    rw [hh]
    clear hh
    refine ⟨by decide, _, _, rfl, rfl, ?_⟩
    refine Or.inl ⟨rfl, _, 1, 0, 0, _, _, _, qi_2_69, ⟨rfl, rfl⟩, ⟨hR.1, rfl⟩, rfl, rfl, R_of hg (by exact hR) x 5 hx (by decide), fun y34 h34 hy34 => ?_⟩
    obtain ⟨rfl, hh⟩ := hy34
    rw [hh]
    clear hh
    refine ⟨fun c37 => ?_, fun c37 => ?_⟩
    · refine step.1 _ _ _ _ _ _ _ sgX2_ringOpens_44_ok ?_
      refine step.1 _ _ _ _ _ _ _ sgX2_ringOpens_45_ok ?_
      refine ⟨.boolean, rfl, rfl, Nat.le_refl _, Nat.le_refl _, ?_⟩
      refine ⟨?_, ⟨rfl, fun j hj => by
          have hj : j ≠ 62 := fun q => hj (by rw [q]; simp)
          simp only [qup_n hj]⟩, ?_⟩
      · exact congrArg (fun b => some (Value.int (qb b))) (show _ = (decide (ebits (e 3) < D (x * 10 + 5))) from (decide_eq_false (Int32.not_lt.mpr c37)).symm)
      · rfl
    · refine step.1 _ _ _ _ _ _ _ sgX2_ringOpens_45_ok ?_
      refine ⟨.boolean, rfl, rfl, Nat.le_refl _, Nat.le_refl _, ?_⟩
      refine ⟨?_, ⟨rfl, fun j hj => by
          have hj : j ≠ 62 := fun q => hj (by rw [q]; simp)
          simp only [qup_n hj]⟩, ?_⟩
      · exact congrArg (fun b => some (Value.int (qb b))) (show _ = (decide (ebits (e 3) < D (x * 10 + 5))) from (decide_eq_true (Int32.not_le.mp c37)).symm)
      · rfl
  | false =>
    refine step.1 _ _ _ _ _ _ _ sgX2_ringOpens_0_ok ?_
    refine ⟨rfl, ?_⟩
    refine ⟨by decide, _, _, hE, rfl, ?_⟩
    refine ⟨_, hE, Nat.le_of_ble_eq_true rfl, rfl, ?_⟩
    refine ⟨rfl, ?_⟩
    refine ⟨by decide, _, _, rfl, rfl, ?_⟩
    refine ⟨_, rfl, Nat.le_of_ble_eq_true rfl, rfl, ?_⟩
    refine ⟨fun c21 => ?_, fun c21 => absurd rfl c21⟩
    refine step.1 _ _ _ _ _ _ _ sgX2_ringOpens_44_ok ?_
    refine step.1 _ _ _ _ _ _ _ sgX2_ringOpens_45_ok ?_
    refine ⟨.boolean, rfl, rfl, Nat.le_refl _, Nat.le_refl _, ?_⟩
    exact ⟨rfl, ⟨rfl, fun j hj => by
      have hj : j ≠ 62 := fun q => hj (by rw [q]; simp)
      simp only [qup_n hj]⟩, rfl⟩
theorem E_verse {g : qG} (hg : qOK g) {h : qH} {D P U : Nat → Int32} {n k u st ve cl : Int32} (hR : isR h 3 4 5 6 D P U n k u st ve cl) (x : Nat) (hx : x < 10) (i : Bool) {e : Nat → Int32} (hE : h.2 62 = some (E62 e)) : qSpec g 2 0 0 mX2_verseOpens [.ref 62, .int (nI x), .int (qb i)] h (fun r h' => r = some (.int (qb (everse D ve x i e).1)) ∧ same h h' [62] ∧ h'.2 62 = some (E62 (everse D ve x i e).2)) := by
  refine qSpec_run 2 "verseOpens" false hg mX2_verseOpens_ok rfl rfl (Nat.le_of_ble_eq_true rfl) (by decide) ?_
  intro run step
  cases i with
  | true =>
    refine step.1 _ _ _ _ _ _ _ sgX2_verseOpens_0_ok ?_
    refine ⟨rfl, ?_⟩
    refine ⟨by decide, _, _, hE, rfl, ?_⟩
    refine ⟨_, hE, Nat.le_of_ble_eq_true rfl, rfl, ?_⟩
    refine ⟨rfl, ?_⟩
    refine ⟨by decide, _, _, rfl, rfl, ?_⟩
    refine ⟨_, rfl, Nat.le_of_ble_eq_true rfl, rfl, ?_⟩
    refine ⟨rfl, ?_⟩
    refine ⟨by decide, _, _, rfl, rfl, ?_⟩
    refine ⟨by decide, _, _, rfl, rfl, ?_⟩
    refine ⟨by decide, _, _, hR.1, rfl, ?_⟩
    refine ⟨_, rfl, Nat.le_of_ble_eq_true rfl, rfl, ?_⟩
    refine ⟨fun c37 => absurd c37 (by decide), fun c37 => ?_⟩
    refine Or.inl ⟨rfl, _, 1, 0, 0, _, _, _, qi_2_72, ⟨rfl, rfl⟩, ⟨rfl, rfl⟩, rfl, rfl, E_draw hg (e := (upd (upd (upd e 8 (e 8 + 1)) 11 (e 11 + 1)) 6 (e 6 + ve))) (by exact rfl), fun y41 h41 hy41 => ?_⟩
    obtain ⟨rfl, hh⟩ := hy41
    rw [hh]
    clear hh
    refine ⟨by decide, _, _, rfl, rfl, ?_⟩
    refine Or.inl ⟨rfl, _, 1, 0, 0, _, _, _, qi_2_69, ⟨rfl, rfl⟩, ⟨hR.1, rfl⟩, rfl, rfl, R_of hg (by exact hR) x 4 hx (by decide), fun y50 h50 hy50 => ?_⟩
    obtain ⟨rfl, hh⟩ := hy50
    rw [hh]
    clear hh
    refine ⟨fun c53 => ?_, fun c53 => ?_⟩
    · refine step.1 _ _ _ _ _ _ _ sgX2_verseOpens_60_ok ?_
      refine step.1 _ _ _ _ _ _ _ sgX2_verseOpens_61_ok ?_
      refine ⟨.boolean, rfl, rfl, Nat.le_refl _, Nat.le_refl _, ?_⟩
      refine ⟨?_, ⟨rfl, fun j hj => by
          have hj : j ≠ 62 := fun q => hj (by rw [q]; simp)
          simp only [qup_n hj]⟩, ?_⟩
      · exact congrArg (fun b => some (Value.int (qb b))) (show _ = (decide (ebits (e 3) < D (x * 10 + 4))) from (decide_eq_false (Int32.not_lt.mpr c53)).symm)
      · rfl
    · refine step.1 _ _ _ _ _ _ _ sgX2_verseOpens_61_ok ?_
      refine ⟨.boolean, rfl, rfl, Nat.le_refl _, Nat.le_refl _, ?_⟩
      refine ⟨?_, ⟨rfl, fun j hj => by
          have hj : j ≠ 62 := fun q => hj (by rw [q]; simp)
          simp only [qup_n hj]⟩, ?_⟩
      · exact congrArg (fun b => some (Value.int (qb b))) (show _ = (decide (ebits (e 3) < D (x * 10 + 4))) from (decide_eq_true (Int32.not_le.mp c53)).symm)
      · rfl
  | false =>
    refine step.1 _ _ _ _ _ _ _ sgX2_verseOpens_0_ok ?_
    refine ⟨rfl, ?_⟩
    refine ⟨by decide, _, _, hE, rfl, ?_⟩
    refine ⟨_, hE, Nat.le_of_ble_eq_true rfl, rfl, ?_⟩
    refine ⟨rfl, ?_⟩
    refine ⟨by decide, _, _, rfl, rfl, ?_⟩
    refine ⟨_, rfl, Nat.le_of_ble_eq_true rfl, rfl, ?_⟩
    refine ⟨rfl, ?_⟩
    refine ⟨by decide, _, _, rfl, rfl, ?_⟩
    refine ⟨by decide, _, _, rfl, rfl, ?_⟩
    refine ⟨by decide, _, _, hR.1, rfl, ?_⟩
    refine ⟨_, rfl, Nat.le_of_ble_eq_true rfl, rfl, ?_⟩
    refine ⟨fun c37 => ?_, fun c37 => absurd rfl c37⟩
    refine step.1 _ _ _ _ _ _ _ sgX2_verseOpens_60_ok ?_
    refine step.1 _ _ _ _ _ _ _ sgX2_verseOpens_61_ok ?_
    refine ⟨.boolean, rfl, rfl, Nat.le_refl _, Nat.le_refl _, ?_⟩
    exact ⟨rfl, ⟨rfl, fun j hj => by
      have hj : j ≠ 62 := fun q => hj (by rw [q]; simp)
      simp only [qup_n hj]⟩, rfl⟩
theorem isW.nm {h h' : qH} {D P U Q K V nm : Nat → Int32} {n k u st ve cl m : Int32} {N : Nat} (hW : isW h D P U Q K V n k u st ve cl m N) (hs : same h h' [29, 49]) (hn : h'.2 49 = some (.inr (.inl (.int, 10, nm)))) : isW h' D P U Q K V n k u st ve cl m N := by
  obtain ⟨h1, h2, ⟨S, h3⟩, h4, -, c, p, j, mm, h6⟩ := hW
  exact ⟨h1.sm hs (by simp) (by simp) (by simp) (by simp), h2.sm hs (by simp) (by simp), ⟨S, h3.sm hs (by simp) (by simp) (by simp) (by simp)⟩, h4, ⟨nm, hn⟩, c, p, j, mm, (hs.2 _ (by simp)).trans h6⟩
theorem same.sub {h h' : qH} {l l' : List Nat} (a : same h h' l) (b : ∀ j ∈ l, j ∈ l') : same h h' l' := ⟨a.1, fun j hj => a.2 j (fun q => hj (b j q))⟩
theorem same.t2 {h h' h'' : qH} {l : List Nat} {l' : List Nat} (a : same h h' l) (b : same h' h'' l') (c : l'.all (fun j => decide (j ∈ l)) = true) : same h h'' l := a.tr b (fun _ q => q) (fun j q => of_decide_eq_true (List.all_eq_true.mp c j q))
theorem E_sings {g : qG} (hg : qOK g) {h : qH} {D P U Q K V K2 V2 : Nat → Int32} {n u st ve cl m : Int32} {N N2 kk : Nat} {pf vf rf : Nat → Nat} (hW : isW h D P U Q K V n (nI kk) u st ve cl m N) (hO : isO h K2 V2 N2) (hP : isP P kk pf vf rf) (hk : kk ≤ 10) (i : Nat) (hi : i < kk) {e : Nat → Int32} (hE : h.2 62 = some (E62 e)) : qSpec g 3 0 0 mX2_singsOn [.ref 62, .int (nI i), .int (nI (pf i))] h (fun r h' => r = some (.int (qb (esing D K2 V2 N2 m (pf i) (nI i) (nI (vf i)) e))) ∧ same h h' [29, 49] ∧ isW h' D P U Q K V n (nI kk) u st ve cl m N ∧ isO h' K2 V2 N2) := by
  refine qSpec_run 2 "singsOn" false hg mX2_singsOn_ok rfl rfl (Nat.le_of_ble_eq_true rfl) (by decide) ?_
  intro run step
  have hW0 := hW
  have hO0 := hO
  obtain ⟨⟨S, hL⟩, hO2⟩ := hO
  have hO := hO0
  obtain ⟨-, -, -, -, -, c0, p0, j0, m0, hV⟩ := hW0
  refine step.1 _ _ _ _ _ _ _ sgX2_singsOn_0_ok ?_
  refine ⟨by decide, _, _, hE, rfl, ?_⟩
  refine Or.inl ⟨rfl, _, 1, 0, 0, _, _, _, qi_2_65, ⟨rfl, rfl⟩, ⟨hW.1.1, rfl⟩, rfl, rfl, R_ofLine hg hW.1 i 1 (by omega) (by decide), fun y6 h6 hy6 => ?_⟩
  obtain ⟨rfl, hh⟩ := hy6
  rw [hh, (hP i hi).2.1.1]
  clear hh
  refine ⟨by decide, _, _, hE, rfl, ?_⟩
  refine Or.inl ⟨rfl, _, 1, 0, 0, _, _, _, qi_2_99, ⟨rfl, rfl⟩, ⟨hL.1, rfl⟩, rfl, rfl, L_stands hg hL, fun y14 h14 hy14 => ?_⟩
  obtain ⟨rfl, hh⟩ := hy14
  rw [hh]
  clear hh
  refine ⟨fun c17 => ?_, fun c17 => ?_⟩
  · have hN0 : N2 ≠ 0 := by
      intro q
      rw [q] at c17
      exact c17 (by decide)
    refine step.1 _ _ _ _ _ _ _ sgX2_singsOn_34_ok ?_
    refine ⟨by decide, _, _, hE, rfl, ?_⟩
    refine ⟨by decide, _, _, hE, rfl, ?_⟩
    refine ⟨by decide, _, _, hE, rfl, ?_⟩
    refine ⟨by decide, _, _, hE, rfl, ?_⟩
    refine ⟨by decide, _, _, hE, rfl, ?_⟩
    refine Or.inl ⟨rfl, _, 2, 0, 0, _, _, _, qi_2_105, ⟨rfl, rfl⟩, ⟨hV, rfl⟩, rfl, rfl, V_names hg hW (pf i) (hP i hi).1.2 _ _ _ _ _, fun y57 h57 hy57 => ?_⟩
    obtain ⟨rfl, hs, nm, hn1, hn2⟩ := hy57
    have hL1 := hL.sm hs (by simp) (by simp) (by simp) (by simp)
    refine Or.inl ⟨rfl, _, 2, 0, 0, _, _, _, qi_2_109, ⟨rfl, rfl⟩, ⟨hL1.1, rfl⟩, rfl, rfl, L_worth hg hL1 hO2.1 hn1 (by decide) (by decide) (by decide) (hO2.2 hN0), fun y60 h60 hy60 => ?_⟩
    obtain ⟨rfl, S2, hh⟩ := hy60
    have hs2 : same h h60 [29, 49] := hs.tr (l' := [29]) (by rw [hh]; exact same.up (by simp)) (by simp) (by simp)
    have hW1 : isW h60 D P U Q K V n (nI kk) u st ve cl m N := hW.nm hs2 (by rw [hh]; exact hn1)
    have hO1 : isO h60 K2 V2 N2 := ⟨⟨S2, by rw [hh]; exact hL1.stk (by decide) (by decide)⟩, hO2⟩
    rw [lworth_congr hn2 N2 0 0 S (fun _ => 0) (hO2.2 hN0) (fun j hj => absurd hj (Nat.not_lt_zero j))]
    have e1 : (esing D K2 V2 N2 m (pf i) (nI i) (nI (vf i)) e) = decide (0 < lworth K2 V2 (vnm D m (pf i) (e 11) (nI i) (e 6) (e 4) (nI (vf i))) 0 N2 0 (fun _ => 0)) := if_neg hN0
    refine ⟨fun c63 => ?_, fun c63 => ?_⟩
    · refine step.1 _ _ _ _ _ _ _ sgX2_singsOn_70_ok ?_
      refine step.1 _ _ _ _ _ _ _ sgX2_singsOn_71_ok ?_
      refine ⟨.boolean, rfl, rfl, Nat.le_refl _, Nat.le_refl _, ?_⟩
      exact ⟨by rw [e1, decide_eq_false (Int32.not_lt.mpr c63)]; rfl, hs2, hW1, hO1⟩
    · refine step.1 _ _ _ _ _ _ _ sgX2_singsOn_71_ok ?_
      refine ⟨.boolean, rfl, rfl, Nat.le_refl _, Nat.le_refl _, ?_⟩
      exact ⟨by rw [e1, decide_eq_true (Int32.not_le.mp c63)]; rfl, hs2, hW1, hO1⟩
  · have hN0 : N2 = 0 := by
      by_cases q : N2 = 0
      · exact q
      · have q2 : decide ((0 : Int32) < nI N2) = true := decide_eq_true ((nI_ltI (a := 0) (b := N2) (by decide) (by omega)).mpr (by omega))
        rw [q2] at c17
        exact absurd c17 (by decide)
    have e1 : (esing D K2 V2 N2 m (pf i) (nI i) (nI (vf i)) e) = decide (e 11 < nI (vf i)) := if_pos hN0
    refine ⟨by decide, _, _, hE, rfl, ?_⟩
    refine ⟨fun c25 => ?_, fun c25 => ?_⟩
    · refine step.1 _ _ _ _ _ _ _ sgX2_singsOn_32_ok ?_
      refine step.1 _ _ _ _ _ _ _ sgX2_singsOn_33_ok ?_
      refine ⟨.boolean, rfl, rfl, Nat.le_refl _, Nat.le_refl _, ?_⟩
      exact ⟨by rw [e1, decide_eq_false (Int32.not_lt.mpr c25)]; rfl, same.rf, hW, hO⟩
    · refine step.1 _ _ _ _ _ _ _ sgX2_singsOn_33_ok ?_
      refine ⟨.boolean, rfl, rfl, Nat.le_refl _, Nat.le_refl _, ?_⟩
      exact ⟨by rw [e1, decide_eq_true (Int32.not_le.mp c25)]; rfl, same.rf, hW, hO⟩
/-- verse upon verse, until the door opens -/
def evs (verse : (Nat → Int32) → eS) (sing : (Nat → Int32) → Bool) : Nat → eS → eS
  | 0, s => s
  | f + 1, s => if s.1 then s else if sing s.2 then evs verse sing f (verse s.2) else s
def egot (G : Int32 → Int32) (D : Nat → Int32) (x : Nat) (e : Nat → Int32) : Nat → Int32 := upd (upd (upd (upd e 4 (e 4 + G (e 11))) 5 (e 5 + D (x * 10 + 2))) 7 (e 7 ||| 1 <<< (nI x &&& 31))) 6 (e 6 + D (x * 10 + 9))
/-- reached, and the first draw -/
def ecame (D : Nat → Int32) (x : Nat) (e : Nat → Int32) : Nat → Int32 := upd (edrawn (upd e 6 (e 6 + D (x * 10 + 8)))) 11 0
def estay (G : Int32 → Int32) (D : Nat → Int32) (ve : Int32) (sing : (Nat → Int32) → Bool) (x r : Nat) (e : Nat → Int32) : Nat → Int32 :=
  (fun e4 : Nat → Int32 => upd e4 6 (e4 6 + D (x * 10 + 8))) ((fun o2 : eS => if o2.1 then egot G D x o2.2 else o2.2) ((fun o1 : eS => if o1.1 = false ∧ r = 2 then ering D x (decide (ebits (e 3) < D (x * 10 + 3))) o1.2 else o1) (evs (everse D ve x (decide (ebits (e 3) < D (x * 10 + 3)))) sing 5 (if r = 1 then ering D x (decide (ebits (e 3) < D (x * 10 + 3))) (ecame D x e) else (false, ecame D x e)))))
set_option maxHeartbeats 4000000 in
theorem E_stay {g : qG} (hg : qOK g) {h : qH} {D P U Q K V K2 V2 : Nat → Int32} {n u st ve cl m : Int32} {N N2 kk : Nat} {pf vf rf : Nat → Nat} (hW : isW h D P U Q K V n (nI kk) u st ve cl m N) (hO : isO h K2 V2 N2) (hP : isP P kk pf vf rf) (hk : kk ≤ 10) (i : Nat) (hi : i < kk) {e : Nat → Int32} (hE : h.2 62 = some (E62 e)) : qSpec g 4 0 0 mX2_stay [.ref 62, .int (nI i)] h (fun r h' => r = none ∧ same h h' [25, 29, 49, 62] ∧ isW h' D P U Q K V n (nI kk) u st ve cl m N ∧ isO h' K2 V2 N2 ∧ h'.2 62 = some (E62 (estay (fun z => vgift D K V N m (pf i) z (nI i)) D ve (fun z => esing D K2 V2 N2 m (pf i) (nI i) (nI (vf i)) z) (pf i) (rf i) e))) := by
  refine qSpec_run 2 "stay" false hg mX2_stay_ok rfl rfl (Nat.le_of_ble_eq_true rfl) (by decide) ?_
  intro run step
  have c222 : ∀ (hX : qH) (e4 : Nat → Int32) (k : Int32) (o : Bool), upd e4 6 (e4 6 + D (pf i * 10 + 8)) = (estay (fun z => vgift D K V N m (pf i) z (nI i)) D ve (fun z => esing D K2 V2 N2 m (pf i) (nI i) (nI (vf i)) z) (pf i) (rf i) e) → same h hX [25, 29, 49, 62] → isW hX D P U Q K V n (nI kk) u st ve cl m N → isO hX K2 V2 N2 → hX.2 62 = some (E62 e4) → run 222 [(6, .int k), (5, .int (qb o)), (4, .int (qb (decide (ebits (e 3) < D (pf i * 10 + 3))))), (3, .int (nI (rf i))), (2, .int (nI (pf i))), (0, .ref 62), (1, .int (nI i))] [] hX 0 0 := by
    intro hX e4 k o hr hsX hWX hOX hEX
    refine step.1 _ _ _ _ _ _ _ sgX2_stay_222_ok ?_
    refine ⟨rfl, ?_⟩
    refine ⟨by decide, _, _, hEX, rfl, ?_⟩
    refine ⟨by decide, _, _, hEX, rfl, ?_⟩
    refine Or.inl ⟨rfl, _, 1, 0, 0, _, _, _, qi_2_69, ⟨rfl, rfl⟩, ⟨hWX.1.1, rfl⟩, rfl, rfl, R_of hg (by exact hWX.1) (pf i) 8 (hP i hi).1.2 (by decide), fun y234 h234 hy234 => ?_⟩
    obtain ⟨rfl, hh⟩ := hy234
    rw [hh]
    clear hh
    refine ⟨_, hEX, Nat.le_of_ble_eq_true rfl, rfl, ?_⟩
    refine ⟨rfl, Nat.le_refl _, Nat.le_refl _, ?_⟩
    have hsE := hsX.t2 (same.up (h := hX) (k := 62) (e := E62 (upd e4 6 (e4 6 + D (pf i * 10 + 8)))) (l := [62]) (by simp)) (by decide)
    refine ⟨rfl, hsE, hWX.sm (same.up (h := hX) (k := 62) (e := E62 (upd e4 6 (e4 6 + D (pf i * 10 + 8)))) (l := [62]) (by simp)) rfl, hOX.sm (same.up (h := hX) (k := 62) (e := E62 (upd e4 6 (e4 6 + D (pf i * 10 + 8)))) (l := [62]) (by simp)) rfl, ?_⟩
    exact congrArg (fun q => some (E62 q)) hr
  have c146 : ∀ (hX : qH) (o2 : eS) (k : Int32), o2 = (if (evs (everse D ve (pf i) (decide (ebits (e 3) < D (pf i * 10 + 3)))) (fun z => esing D K2 V2 N2 m (pf i) (nI i) (nI (vf i)) z) 5 (if rf i = 1 then ering D (pf i) (decide (ebits (e 3) < D (pf i * 10 + 3))) (ecame D (pf i) e) else (false, (ecame D (pf i) e)))).1 = false ∧ rf i = 2 then ering D (pf i) (decide (ebits (e 3) < D (pf i * 10 + 3))) (evs (everse D ve (pf i) (decide (ebits (e 3) < D (pf i * 10 + 3)))) (fun z => esing D K2 V2 N2 m (pf i) (nI i) (nI (vf i)) z) 5 (if rf i = 1 then ering D (pf i) (decide (ebits (e 3) < D (pf i * 10 + 3))) (ecame D (pf i) e) else (false, (ecame D (pf i) e)))).2 else (evs (everse D ve (pf i) (decide (ebits (e 3) < D (pf i * 10 + 3)))) (fun z => esing D K2 V2 N2 m (pf i) (nI i) (nI (vf i)) z) 5 (if rf i = 1 then ering D (pf i) (decide (ebits (e 3) < D (pf i * 10 + 3))) (ecame D (pf i) e) else (false, (ecame D (pf i) e))))) → same h hX [25, 29, 49, 62] → isW hX D P U Q K V n (nI kk) u st ve cl m N → isO hX K2 V2 N2 → hX.2 62 = some (E62 o2.2) → run 146 [(6, .int k), (5, .int (qb o2.1)), (4, .int (qb (decide (ebits (e 3) < D (pf i * 10 + 3))))), (3, .int (nI (rf i))), (2, .int (nI (pf i))), (0, .ref 62), (1, .int (nI i))] [] hX 0 0 := by
    intro hX o2 k ho2 hsX hWX hOX hEX
    have hr : (fun e4 : Nat → Int32 => upd e4 6 (e4 6 + D (pf i * 10 + 8))) (if o2.1 = true then (egot (fun z => vgift D K V N m (pf i) z (nI i)) D (pf i) o2.2) else o2.2) = (estay (fun z => vgift D K V N m (pf i) z (nI i)) D ve (fun z => esing D K2 V2 N2 m (pf i) (nI i) (nI (vf i)) z) (pf i) (rf i) e) := by rw [ho2]; rfl
    refine step.1 _ _ _ _ _ _ _ sgX2_stay_146_ok ?_
    refine ⟨fun c148 => ?_, fun c148 => ?_⟩
    · have q : o2.1 = false := qb_0.mp c148
      rw [q] at hr
      exact c222 hX o2.2 _ _ hr hsX hWX hOX hEX
    · have q : o2.1 = true := qb_1.mp c148
      rw [q] at hr
      refine ⟨rfl, ?_⟩
      refine ⟨by decide, _, _, hEX, rfl, ?_⟩
      refine ⟨by decide, _, _, hEX, rfl, ?_⟩
      refine ⟨by decide, _, _, hEX, rfl, ?_⟩
      refine Or.inl ⟨rfl, _, 3, 0, 0, _, _, _, qi_2_90, ⟨rfl, rfl⟩, ⟨hWX.2.2.2.2.2.choose_spec.choose_spec.choose_spec.choose_spec, rfl⟩, rfl, rfl, V_gift hg hWX (pf i) (hP i hi).1.2 _ _, fun y166 h166 hy166 => ?_⟩
      obtain ⟨rfl, hs9, hW9⟩ := hy166
      have hO9 := hOX.sm hs9 rfl
      have hE9 := (hs9.2 62 (by simp)).trans hEX
      refine ⟨_, hE9, Nat.le_of_ble_eq_true rfl, rfl, ?_⟩
      refine ⟨rfl, ?_⟩
      refine ⟨by decide, _, _, rfl, rfl, ?_⟩
      refine ⟨by decide, _, _, rfl, rfl, ?_⟩
      refine Or.inl ⟨rfl, _, 1, 0, 0, _, _, _, qi_2_69, ⟨rfl, rfl⟩, ⟨hW9.1.1, rfl⟩, rfl, rfl, R_of hg (by exact hW9.1) (pf i) 2 (hP i hi).1.2 (by decide), fun y184 h184 hy184 => ?_⟩
      obtain ⟨rfl, hh⟩ := hy184
      rw [hh]
      clear hh
      refine ⟨_, rfl, Nat.le_of_ble_eq_true rfl, rfl, ?_⟩
      refine ⟨rfl, ?_⟩
      refine ⟨by decide, _, _, rfl, rfl, ?_⟩
      refine ⟨_, rfl, Nat.le_of_ble_eq_true rfl, rfl, ?_⟩
      refine ⟨rfl, ?_⟩
      refine ⟨by decide, _, _, rfl, rfl, ?_⟩
      refine ⟨by decide, _, _, rfl, rfl, ?_⟩
      refine Or.inl ⟨rfl, _, 1, 0, 0, _, _, _, qi_2_69, ⟨rfl, rfl⟩, ⟨hW9.1.1, rfl⟩, rfl, rfl, R_of hg (by exact hW9.1) (pf i) 9 (hP i hi).1.2 (by decide), fun y215 h215 hy215 => ?_⟩
      obtain ⟨rfl, hh⟩ := hy215
      rw [hh]
      clear hh
      refine ⟨_, rfl, Nat.le_of_ble_eq_true rfl, rfl, ?_⟩
      have hsG : same h166 (h166.1, qup (qup (qup (qup h166.2 62 (E62 (upd o2.2 4 (o2.2 4 + (fun z => vgift D K V N m (pf i) z (nI i)) (o2.2 11))))) 62 (E62 (upd (upd o2.2 4 (o2.2 4 + (fun z => vgift D K V N m (pf i) z (nI i)) (o2.2 11))) 5 (o2.2 5 + D (pf i * 10 + 2))))) 62 (E62 (upd (upd (upd o2.2 4 (o2.2 4 + (fun z => vgift D K V N m (pf i) z (nI i)) (o2.2 11))) 5 (o2.2 5 + D (pf i * 10 + 2))) 7 (o2.2 7 ||| 1 <<< (nI (pf i) &&& 31))))) 62 (E62 (egot (fun z => vgift D K V N m (pf i) z (nI i)) D (pf i) o2.2))) [62] := ⟨rfl, fun j hj => by
        have hj : j ≠ 62 := fun q => hj (by rw [q]; simp)
        simp only [qup_n hj]⟩
      exact c222 _ (egot (fun z => vgift D K V N m (pf i) z (nI i)) D (pf i) o2.2) _ _ hr ((hsX.t2 hs9 (by decide)).t2 hsG (by decide)) (hW9.sm hsG rfl) (hO9.sm hsG rfl) rfl
  have c127 : ∀ (hX : qH) (o1 : eS) (k : Int32), o1 = (evs (everse D ve (pf i) (decide (ebits (e 3) < D (pf i * 10 + 3)))) (fun z => esing D K2 V2 N2 m (pf i) (nI i) (nI (vf i)) z) 5 (if rf i = 1 then ering D (pf i) (decide (ebits (e 3) < D (pf i * 10 + 3))) (ecame D (pf i) e) else (false, (ecame D (pf i) e)))) → same h hX [25, 29, 49, 62] → isW hX D P U Q K V n (nI kk) u st ve cl m N → isO hX K2 V2 N2 → hX.2 62 = some (E62 o1.2) → run 127 [(6, .int k), (5, .int (qb o1.1)), (4, .int (qb (decide (ebits (e 3) < D (pf i * 10 + 3))))), (3, .int (nI (rf i))), (2, .int (nI (pf i))), (0, .ref 62), (1, .int (nI i))] [] hX 0 0 := by
    intro hX o1 k ho1 hsX hWX hOX hEX
    refine step.1 _ _ _ _ _ _ _ sgX2_stay_127_ok ?_
    refine ⟨fun c129 => ?_, fun c129 => ?_⟩
    · have q : o1.1 = true := qb_1.mp c129
      have q2 : (if o1.1 = false ∧ rf i = 2 then ering D (pf i) (decide (ebits (e 3) < D (pf i * 10 + 3))) o1.2 else o1) = o1 := if_neg (by rw [q]; exact fun h => absurd h.1 (by decide))
      exact c146 hX o1 _ (by rw [← ho1]; exact q2.symm) hsX hWX hOX hEX
    · have q : o1.1 = false := qb_0.mp c129
      refine ⟨fun c134 => ?_, fun c134 => ?_⟩
      · have q2 : (if o1.1 = false ∧ rf i = 2 then ering D (pf i) (decide (ebits (e 3) < D (pf i * 10 + 3))) o1.2 else o1) = o1 := if_neg (fun h => c134 (by rw [h.2]; rfl))
        exact c146 hX o1 _ (by rw [← ho1]; exact q2.symm) hsX hWX hOX hEX
      · have q3 : rf i = 2 := (nI_eq (by have := (hP i hi).2.2.2; omega) (by decide)).mp c134
        have q2 : (if o1.1 = false ∧ rf i = 2 then ering D (pf i) (decide (ebits (e 3) < D (pf i * 10 + 3))) o1.2 else o1) = ering D (pf i) (decide (ebits (e 3) < D (pf i * 10 + 3))) o1.2 := if_pos ⟨q, q3⟩
        refine Or.inl ⟨rfl, _, 2, 0, 0, _, _, _, qi_2_79, ⟨rfl, rfl⟩, ⟨hEX, rfl⟩, rfl, rfl, E_ring hg hWX.1 (pf i) (hP i hi).1.2 (decide (ebits (e 3) < D (pf i * 10 + 3))) hEX, fun y141 h141 hy141 => ?_⟩
        obtain ⟨rfl, hs9, hE9⟩ := hy141
        refine step.2 _ _ _ _ _ _ _ (qsub_cons 1 rfl (qsub_cons 0 rfl (qsub_cons 2 rfl (qsub_cons 3 rfl (qsub_cons 4 rfl (qsub_cons 5 rfl (qsub_cons 6 rfl qsub_nil))))))) ?_
        exact c146 h141 (ering D (pf i) (decide (ebits (e 3) < D (pf i * 10 + 3))) o1.2) _ (by rw [← ho1]; exact q2.symm) (hsX.t2 hs9 (by decide)) (hWX.sm hs9 rfl) (hOX.sm hs9 rfl) hE9
  have loop : ∀ (f k : Nat) (s : eS) (hX : qH), k + f = 5 → evs (everse D ve (pf i) (decide (ebits (e 3) < D (pf i * 10 + 3)))) (fun z => esing D K2 V2 N2 m (pf i) (nI i) (nI (vf i)) z) f s = (evs (everse D ve (pf i) (decide (ebits (e 3) < D (pf i * 10 + 3)))) (fun z => esing D K2 V2 N2 m (pf i) (nI i) (nI (vf i)) z) 5 (if rf i = 1 then ering D (pf i) (decide (ebits (e 3) < D (pf i * 10 + 3))) (ecame D (pf i) e) else (false, (ecame D (pf i) e)))) → same h hX [25, 29, 49, 62] → isW hX D P U Q K V n (nI kk) u st ve cl m N → isO hX K2 V2 N2 → hX.2 62 = some (E62 s.2) → run 92 [(6, .int (nI k)), (5, .int (qb s.1)), (4, .int (qb (decide (ebits (e 3) < D (pf i * 10 + 3))))), (3, .int (nI (rf i))), (2, .int (nI (pf i))), (0, .ref 62), (1, .int (nI i))] [] hX 0 0 := by
    intro f
    induction f with
    | zero =>
      intro k s hX hf hst hsX hWX hOX hEX
      obtain rfl : k = 5 := by omega
      refine step.1 _ _ _ _ _ _ _ sgX2_stay_92_ok ?_
      refine ⟨fun c95 => ?_, fun c95 => absurd (by decide : (5 : Int32) ≤ nI 5) c95⟩
      exact c127 hX s _ hst hsX hWX hOX hEX
    | succ f ih =>
      intro k s hX hf hst hsX hWX hOX hEX
      refine step.1 _ _ _ _ _ _ _ sgX2_stay_92_ok ?_
      refine ⟨fun c95 => absurd c95 (h_nle (b := 5) (by omega) (by decide)), fun c95 => ?_⟩
      refine ⟨fun c100 => ?_, fun c100 => ?_⟩
      · have q : s.1 = true := qb_1.mp c100
        rw [evs, if_pos q] at hst
        exact c127 hX s _ hst hsX hWX hOX hEX
      · have q : s.1 = false := qb_0.mp c100
        refine Or.inl ⟨rfl, _, 3, 0, 0, _, _, _, qi_2_83, ⟨rfl, rfl⟩, ⟨hEX, rfl⟩, rfl, rfl, E_sings hg hWX hOX hP hk i hi hEX, fun y106 h106 hy106 => ?_⟩
        obtain ⟨rfl, hs8, hW8, hO8⟩ := hy106
        have hE8 := (hs8.2 62 (by simp)).trans hEX
        refine ⟨fun c109 => ?_, fun c109 => ?_⟩
        · have q3 : (esing D K2 V2 N2 m (pf i) (nI i) (nI (vf i)) s.2) = false := qb_0.mp c109
          rw [evs, q, if_neg (by decide), q3, if_neg (by decide)] at hst
          exact c127 h106 s _ hst (hsX.t2 hs8 (by decide)) hW8 hO8 hE8
        · have q3 : (esing D K2 V2 N2 m (pf i) (nI i) (nI (vf i)) s.2) = true := qb_1.mp c109
          rw [evs, q, if_neg (by decide), q3, if_pos rfl] at hst
          refine Or.inl ⟨rfl, _, 2, 0, 0, _, _, _, qi_2_87, ⟨rfl, rfl⟩, ⟨hE8, rfl⟩, rfl, rfl, E_verse hg hW8.1 (pf i) (hP i hi).1.2 (decide (ebits (e 3) < D (pf i * 10 + 3))) hE8, fun y116 h116 hy116 => ?_⟩
          obtain ⟨rfl, hs9, hE9⟩ := hy116
          have kk2 := ih (k + 1) ((everse D ve (pf i) (decide (ebits (e 3) < D (pf i * 10 + 3)))) s.2) h116 (by omega) hst ((hsX.t2 hs8 (by decide)).t2 hs9 (by decide)) (hW8.sm hs9 rfl) (hO8.sm hs9 rfl) hE9
          rw [← nI_1] at kk2
          exact kk2
  have c87 : ∀ (s : eS) (hX : qH), s = (if rf i = 1 then ering D (pf i) (decide (ebits (e 3) < D (pf i * 10 + 3))) (ecame D (pf i) e) else (false, (ecame D (pf i) e))) → same h hX [25, 29, 49, 62] → isW hX D P U Q K V n (nI kk) u st ve cl m N → isO hX K2 V2 N2 → hX.2 62 = some (E62 s.2) → run 87 [(4, .int (qb (decide (ebits (e 3) < D (pf i * 10 + 3))))), (3, .int (nI (rf i))), (2, .int (nI (pf i))), (0, .ref 62), (1, .int (nI i))] [.int (qb s.1)] hX 0 0 := by
    intro s hX hs0 hsX hWX hOX hEX
    refine step.1 _ _ _ _ _ _ _ sgX2_stay_87_ok ?_
    exact loop 5 0 s hX rfl (by rw [hs0]) hsX hWX hOX hEX
  have c60 : ∀ (hX : qH) (b : Int32) (e1 : Nat → Int32), e1 = (edrawn (upd e 6 (e 6 + D (pf i * 10 + 8)))) → b = qb (decide (ebits (e 3) < D (pf i * 10 + 3))) → same h hX [25, 29, 49, 62] → isW hX D P U Q K V n (nI kk) u st ve cl m N → isO hX K2 V2 N2 → hX.2 62 = some (E62 e1) → run 60 [(3, .int (nI (rf i))), (2, .int (nI (pf i))), (0, .ref 62), (1, .int (nI i))] [.int b] hX 0 0 := by
    intro hX b e1 he1 hb hsX hWX hOX hEX
    have hC : ecame D (pf i) e = upd e1 11 0 := by rw [he1]; rfl
    subst hb
    refine step.1 _ _ _ _ _ _ _ sgX2_stay_60_ok ?_
    refine ⟨_, hEX, Nat.le_of_ble_eq_true rfl, rfl, ?_⟩
    have hsC : same hX (hX.1, qup hX.2 62 (E62 (upd e1 11 0))) [62] := same.up (by simp)
    have hWC := hWX.sm hsC rfl
    have hOC := hOX.sm hsC rfl
    refine ⟨fun c69 => ?_, fun c69 => ?_⟩
    · have q1 : rf i ≠ 1 := fun q => c69 (by rw [q]; rfl)
      refine step.1 _ _ _ _ _ _ _ sgX2_stay_86_ok ?_
      exact c87 (false, (upd e1 11 0)) _ (by rw [if_neg q1, hC]) (hsX.t2 hsC (by decide)) hWC hOC rfl
    · have q1 : rf i = 1 := (nI_eq (by have := (hP i hi).2.2.2; omega) (by decide)).mp c69
      refine Or.inl ⟨rfl, _, 2, 0, 0, _, _, _, qi_2_79, ⟨rfl, rfl⟩, ⟨rfl, rfl⟩, rfl, rfl, E_ring hg hWC.1 (pf i) (hP i hi).1.2 (decide (ebits (e 3) < D (pf i * 10 + 3))) (e := (upd e1 11 0)) (by exact rfl), fun y76 h76 hy76 => ?_⟩
      obtain ⟨rfl, hs9, hE9⟩ := hy76
      refine ⟨fun c79 => ?_, fun c79 => ?_⟩
      · have q2 : (ering D (pf i) (decide (ebits (e 3) < D (pf i * 10 + 3))) (upd e1 11 0)).1 = false := qb_0.mp c79
        refine step.1 _ _ _ _ _ _ _ sgX2_stay_86_ok ?_
        have e9 : ering D (pf i) (decide (ebits (e 3) < D (pf i * 10 + 3))) (upd e1 11 0) = (false, (ering D (pf i) (decide (ebits (e 3) < D (pf i * 10 + 3))) (upd e1 11 0)).2) := Prod.ext q2 rfl
        exact c87 (false, (ering D (pf i) (decide (ebits (e 3) < D (pf i * 10 + 3))) (upd e1 11 0)).2) h76 (by rw [if_pos q1, hC]; exact e9.symm) ((hsX.t2 hsC (by decide)).t2 hs9 (by decide)) (hWC.sm hs9 rfl) (hOC.sm hs9 rfl) hE9
      · have q2 : (ering D (pf i) (decide (ebits (e 3) < D (pf i * 10 + 3))) (upd e1 11 0)).1 = true := qb_1.mp c79
        have e9 : ering D (pf i) (decide (ebits (e 3) < D (pf i * 10 + 3))) (upd e1 11 0) = (true, (ering D (pf i) (decide (ebits (e 3) < D (pf i * 10 + 3))) (upd e1 11 0)).2) := Prod.ext q2 rfl
        exact c87 (true, (ering D (pf i) (decide (ebits (e 3) < D (pf i * 10 + 3))) (upd e1 11 0)).2) h76 (by rw [if_pos q1, hC]; exact e9.symm) ((hsX.t2 hsC (by decide)).t2 hs9 (by decide)) (hWC.sm hs9 rfl) (hOC.sm hs9 rfl) hE9
  refine step.1 _ _ _ _ _ _ _ sgX2_stay_0_ok ?_
  refine ⟨by decide, _, _, hE, rfl, ?_⟩
  refine Or.inl ⟨rfl, _, 1, 0, 0, _, _, _, qi_2_65, ⟨rfl, rfl⟩, ⟨hW.1.1, rfl⟩, rfl, rfl, R_ofLine hg hW.1 i 0 (by omega) (by decide), fun y6 h6 hy6 => ?_⟩
  obtain ⟨rfl, hh⟩ := hy6
  rw [hh, (hP i hi).1.1]
  clear hh
  refine ⟨by decide, _, _, hE, rfl, ?_⟩
  refine Or.inl ⟨rfl, _, 1, 0, 0, _, _, _, qi_2_65, ⟨rfl, rfl⟩, ⟨hW.1.1, rfl⟩, rfl, rfl, R_ofLine hg hW.1 i 2 (by omega) (by decide), fun y16 h16 hy16 => ?_⟩
  obtain ⟨rfl, hh⟩ := hy16
  rw [hh, (hP i hi).2.2.1]
  clear hh
  refine ⟨rfl, ?_⟩
  refine ⟨by decide, _, _, hE, rfl, ?_⟩
  refine ⟨by decide, _, _, hE, rfl, ?_⟩
  refine Or.inl ⟨rfl, _, 1, 0, 0, _, _, _, qi_2_69, ⟨rfl, rfl⟩, ⟨hW.1.1, rfl⟩, rfl, rfl, R_of hg (by exact hW.1) (pf i) 8 (hP i hi).1.2 (by decide), fun y32 h32 hy32 => ?_⟩
  obtain ⟨rfl, hh⟩ := hy32
  rw [hh]
  clear hh
  refine ⟨_, hE, Nat.le_of_ble_eq_true rfl, rfl, ?_⟩
  refine Or.inl ⟨rfl, _, 1, 0, 0, _, _, _, qi_2_72, ⟨rfl, rfl⟩, ⟨rfl, rfl⟩, rfl, rfl, E_draw hg (e := upd e 6 (e 6 + D (pf i * 10 + 8))) (by exact rfl), fun y40 h40 hy40 => ?_⟩
  obtain ⟨rfl, hh⟩ := hy40
  rw [hh]
  clear hh
  refine ⟨by decide, _, _, rfl, rfl, ?_⟩
  refine Or.inl ⟨rfl, _, 1, 0, 0, _, _, _, qi_2_69, ⟨rfl, rfl⟩, ⟨hW.1.1, rfl⟩, rfl, rfl, R_of hg (by exact hW.1) (pf i) 3 (hP i hi).1.2 (by decide), fun y49 h49 hy49 => ?_⟩
  obtain ⟨rfl, hh⟩ := hy49
  rw [hh]
  clear hh
  have hsA : same h (h.1, qup (qup h.2 62 (E62 (upd e 6 (e 6 + D (pf i * 10 + 8))))) 62 (E62 (edrawn (upd e 6 (e 6 + D (pf i * 10 + 8)))))) [62] := ⟨rfl, fun j hj => by
    have hj : j ≠ 62 := fun q => hj (by rw [q]; simp)
    simp only [qup_n hj]⟩
  refine ⟨fun c52 => ?_, fun c52 => ?_⟩
  · refine step.1 _ _ _ _ _ _ _ sgX2_stay_59_ok ?_
    exact c60 _ _ _ rfl (by rw [decide_eq_false (p := ebits (e 3) < D (pf i * 10 + 3)) (Int32.not_lt.mpr c52)]; rfl) (same.rf.t2 hsA (by decide)) (hW.sm hsA rfl) (hO.sm hsA rfl) rfl
  · exact c60 _ _ _ rfl (by rw [decide_eq_true (p := ebits (e 3) < D (pf i * 10 + 3)) (Int32.not_le.mp c52)]; rfl) (same.rf.t2 hsA (by decide)) (hW.sm hsA rfl) (hO.sm hsA rfl) rfl
/-- the evening's way along the lines i .. -/
def erun (G : Nat → Int32 → Int32) (D : Nat → Int32) (ve st cl : Int32) (sing : Nat → (Nat → Int32) → Bool) (pf rf : Nat → Nat) : Nat → Nat → (Nat → Int32) → (Nat → Int32)
  | 0, _, e => e
  | q + 1, i, e => if e 6 + lwayv D st pf i ≤ cl then erun G D ve st cl sing pf rf q (i + 1) (estay (G i) D ve (sing i) (pf i) (rf i) (upd (upd e 6 (e 6 + lwayv D st pf i)) 10 (e 10 + 1))) else e
def ezero (e : Nat → Int32) (s : Int32) : Nat → Int32 := upd (upd (upd (upd (upd (upd (upd (upd e 3 s) 4 0) 5 0) 6 0) 7 0) 8 0) 9 0) 10 0
set_option maxHeartbeats 4000000 in
theorem E_pass {g : qG} (hg : qOK g) {h : qH} {D P U Q K V K2 V2 : Nat → Int32} {n u st ve cl m : Int32} {N N2 kk : Nat} {pf vf rf : Nat → Nat} (hW : isW h D P U Q K V n (nI kk) u st ve cl m N) (hO : isO h K2 V2 N2) (hP : isP P kk pf vf rf) (hk : kk ≤ 10) {e : Nat → Int32} (hE : h.2 62 = some (E62 e)) (s : Int32) : qSpec g 5 0 0 mX2_pass [.ref 62, .int s] h (fun r h' => r = none ∧ same h h' [25, 29, 49, 62] ∧ isW h' D P U Q K V n (nI kk) u st ve cl m N ∧ isO h' K2 V2 N2 ∧ h'.2 62 = some (E62 (erun (fun i z => vgift D K V N m (pf i) z (nI i)) D ve st cl (fun i z => esing D K2 V2 N2 m (pf i) (nI i) (nI (vf i)) z) pf rf kk 0 (ezero e s)))) := by
  refine qSpec_run 2 "pass" false hg mX2_pass_ok rfl rfl (Nat.le_of_ble_eq_true rfl) (by decide) ?_
  intro run step
  have loop : ∀ (mm i : Nat) (e1 : Nat → Int32) (hX : qH), i + mm = kk → erun (fun i z => vgift D K V N m (pf i) z (nI i)) D ve st cl (fun i z => esing D K2 V2 N2 m (pf i) (nI i) (nI (vf i)) z) pf rf mm i e1 = erun (fun i z => vgift D K V N m (pf i) z (nI i)) D ve st cl (fun i z => esing D K2 V2 N2 m (pf i) (nI i) (nI (vf i)) z) pf rf kk 0 (ezero e s) → same h hX [25, 29, 49, 62] → isW hX D P U Q K V n (nI kk) u st ve cl m N → isO hX K2 V2 N2 → hX.2 62 = some (E62 e1) → run 42 [(2, .int (nI i)), (0, .ref 62), (1, .int s)] [] hX 0 0 := by
    intro mm
    induction mm with
    | zero =>
      intro i e1 hX hi hst hsX hWX hOX hEX
      refine step.1 _ _ _ _ _ _ _ sgX2_pass_42_ok ?_
      refine ⟨by decide, _, _, hEX, rfl, ?_⟩
      refine ⟨by decide, _, _, hWX.1.1, rfl, ?_⟩
      refine ⟨fun c50 => ?_, fun c50 => absurd ((nI_leI (a := kk) (b := i) (by omega) (by omega)).mpr (by omega)) c50⟩
      refine step.1 _ _ _ _ _ _ _ sgX2_pass_105_ok ?_
      refine ⟨rfl, Nat.le_refl _, Nat.le_refl _, ?_⟩
      exact ⟨rfl, hsX, hWX, hOX, by rw [← hst]; exact hEX⟩
    | succ mm ih =>
      intro i e1 hX hi hst hsX hWX hOX hEX
      refine step.1 _ _ _ _ _ _ _ sgX2_pass_42_ok ?_
      refine ⟨by decide, _, _, hEX, rfl, ?_⟩
      refine ⟨by decide, _, _, hWX.1.1, rfl, ?_⟩
      refine ⟨fun c50 => absurd ((nI_leI (a := kk) (b := i) (by omega) (by omega)).mp c50) (by omega), fun c50 => ?_⟩
      refine ⟨by decide, _, _, hEX, rfl, ?_⟩
      refine ⟨by decide, _, _, hEX, rfl, ?_⟩
      refine Or.inl ⟨rfl, _, 2, 0, 0, _, _, _, qi_2_53, ⟨rfl, rfl⟩, ⟨hWX.1.1, rfl⟩, rfl, rfl, R_way hg hWX.1 i (pf i) (pf (i - 1)) (by omega) (hP i (by omega)).1.1 (hP i (by omega)).1.2 (fun e => (hP (i - 1) (by omega)).1), fun y62 h62 hy62 => ?_⟩
      obtain ⟨rfl, hh⟩ := hy62
      rw [hh]
      clear hh
      refine ⟨by decide, _, _, hEX, rfl, ?_⟩
      refine ⟨by decide, _, _, hWX.1.1, rfl, ?_⟩
      refine ⟨fun c75 => ?_, fun c75 => ?_⟩
      · have c75 : e1 6 + lwayv D st pf i ≤ cl := c75
        refine step.1 _ _ _ _ _ _ _ sgX2_pass_79_ok ?_
        refine ⟨_, hEX, Nat.le_of_ble_eq_true rfl, rfl, ?_⟩
        refine ⟨rfl, ?_⟩
        refine ⟨by decide, _, _, rfl, rfl, ?_⟩
        refine ⟨_, rfl, Nat.le_of_ble_eq_true rfl, rfl, ?_⟩
        have hsS : same hX (hX.1, qup (qup hX.2 62 (E62 (upd e1 6 (e1 6 + lwayv D st pf i)))) 62 (E62 (upd (upd e1 6 (e1 6 + lwayv D st pf i)) 10 (e1 10 + 1)))) [62] := ⟨rfl, fun j hj => by
          have hj : j ≠ 62 := fun q => hj (by rw [q]; simp)
          simp only [qup_n hj]⟩
        refine Or.inl ⟨rfl, _, 4, 0, 0, _, _, _, qi_2_60, ⟨rfl, rfl⟩, ⟨rfl, rfl⟩, rfl, rfl, E_stay hg (hWX.sm hsS rfl) (hOX.sm hsS rfl) hP hk i (by omega) (e := upd (upd e1 6 (e1 6 + lwayv D st pf i)) 10 (e1 10 + 1)) (by exact rfl), fun y96 h96 hy96 => ?_⟩
        obtain ⟨rfl, hs9, hW9, hO9, hE9⟩ := hy96
        refine step.2 _ _ _ _ _ _ _ (qsub_cons 0 rfl (qsub_cons 2 rfl (qsub_cons 3 rfl qsub_nil))) ?_
        have kk2 := ih (i + 1) _ h96 (by omega) (by rw [← hst, erun, if_pos c75]) ((hsX.t2 hsS (by decide)).t2 hs9 (by decide)) hW9 hO9 hE9
        rw [← nI_1] at kk2
        exact kk2
      · have c75 : ¬ e1 6 + lwayv D st pf i ≤ cl := c75
        refine ⟨rfl, Nat.le_refl _, Nat.le_refl _, ?_⟩
        exact ⟨rfl, hsX, hWX, hOX, by rw [← hst, erun, if_neg c75]; exact hEX⟩
  refine step.1 _ _ _ _ _ _ _ sgX2_pass_0_ok ?_
  refine ⟨_, hE, Nat.le_of_ble_eq_true rfl, rfl, ?_⟩
  refine ⟨_, rfl, Nat.le_of_ble_eq_true rfl, rfl, ?_⟩
  refine ⟨_, rfl, Nat.le_of_ble_eq_true rfl, rfl, ?_⟩
  refine ⟨_, rfl, Nat.le_of_ble_eq_true rfl, rfl, ?_⟩
  refine ⟨_, rfl, Nat.le_of_ble_eq_true rfl, rfl, ?_⟩
  refine ⟨_, rfl, Nat.le_of_ble_eq_true rfl, rfl, ?_⟩
  refine ⟨_, rfl, Nat.le_of_ble_eq_true rfl, rfl, ?_⟩
  refine ⟨_, rfl, Nat.le_of_ble_eq_true rfl, rfl, ?_⟩
  have hsZ : same h (h.1, qup (qup (qup (qup (qup (qup (qup (qup h.2 62 (E62 (upd e 3 s))) 62 (E62 (upd (upd e 3 s) 4 0))) 62 (E62 (upd (upd (upd e 3 s) 4 0) 5 0))) 62 (E62 (upd (upd (upd (upd e 3 s) 4 0) 5 0) 6 0))) 62 (E62 (upd (upd (upd (upd (upd e 3 s) 4 0) 5 0) 6 0) 7 0))) 62 (E62 (upd (upd (upd (upd (upd (upd e 3 s) 4 0) 5 0) 6 0) 7 0) 8 0))) 62 (E62 (upd (upd (upd (upd (upd (upd (upd e 3 s) 4 0) 5 0) 6 0) 7 0) 8 0) 9 0))) 62 (E62 (ezero e s))) [62] := ⟨rfl, fun j hj => by
    have hj : j ≠ 62 := fun q => hj (by rw [q]; simp)
    simp only [qup_n hj]⟩
  exact loop kk 0 (ezero e s) _ (by omega) rfl (same.rf.t2 hsZ (by decide)) (hW.sm hsZ rfl) (hO.sm hsZ rfl) rfl
end Q07O
