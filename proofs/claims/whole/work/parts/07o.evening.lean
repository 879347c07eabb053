section Q07O
/-- the Evening -/
def E62 (e : Nat → Int32) : qE := .inl (2, [.ref 3, .ref 48, .ref 26, .int (e 3), .int (e 4), .int (e 5), .int (e 6), .int (e 7), .int (e 8), .int (e 9), .int (e 10), .int (e 11)])
def eseed (s : Int32) : Int32 := s * 1103515245 + 12345
def ebits (s : Int32) : Int32 := ((eseed s).toUInt32 >>> (Int32.toUInt32 16 &&& Int32.toUInt32 31)).toInt32 &&& 15
def edrawn (e : Nat → Int32) : Nat → Int32 := upd e 3 (eseed (e 3))
abbrev eS : Type := Bool × (Nat → Int32)
/-- somebody is in and hears it: a draw; f the number of those in 16 -/
def eopen (i : Bool) (f : Int32) (e : Nat → Int32) : eS := match i with
  | true => (decide (ebits (e 3) < f), edrawn e)
  | false => (false, e)
def ering (D : Nat → Int32) (x : Nat) (i : Bool) (e : Nat → Int32) : eS := eopen i (D (x * 10 + 5)) (upd (upd e 9 (e 9 + 1)) 6 (e 6 + 1))
def everse (D : Nat → Int32) (ve : Int32) (x : Nat) (i : Bool) (e : Nat → Int32) : eS := eopen i (D (x * 10 + 4)) (upd (upd (upd e 8 (e 8 + 1)) 11 (e 11 + 1)) 6 (e 6 + ve))
/-- does one sing another verse -/
def esing (D K2 V2 : Nat → Int32) (N2 : Nat) (m : Int32) (x : Nat) (li told : Int32) (e : Nat → Int32) : Bool := if N2 = 0 then decide (e 11 < told) else decide (0 < lworth K2 V2 (vnm D m x (e 11) li (e 6) (e 4) told) 0 N2 0 (fun _ => 0))
theorem vnm_congr {D : Nat → Int32} {m : Int32} {x : Nat} {a b c d e f : Int32} : ∀ j : Nat, j < 10 → vnm D m x a b c d e j = vnm D m x a b c d e j := fun _ _ => rfl
/-- what an evening stands on -/
def isO (h : qH) (K2 V2 : Nat → Int32) (N2 : Nat) : Prop := (∃ S, isL h 26 27 28 29 K2 V2 S (nI N2)) ∧ (N2 ≤ 150 ∧ (N2 ≠ 0 → lok K2 V2 0 N2 0))
theorem isO.sm {h h' : qH} {K2 V2 : Nat → Int32} {N2 : Nat} {z : List Nat} (hO : isO h K2 V2 N2) (hs : same h h' z) (hz : [26, 27, 28, 29].all (fun j => decide (j ∉ z)) = true) : isO h' K2 V2 N2 := by
  obtain ⟨⟨S, h1⟩, h2⟩ := hO
  have hz := fun j hj => of_decide_eq_true (List.all_eq_true.mp hz j hj)
  exact ⟨⟨S, h1.sm hs (hz 26 (by simp)) (hz 27 (by simp)) (hz 28 (by simp)) (hz 29 (by simp))⟩, h2⟩
theorem E_draw {g : qG} (hg : qOK g) {h : qH} {e : Nat → Int32} (hE : h.2 62 = some (E62 e)) : qSpec g 1 0 0 mX2_draw [.ref 62] h (fun r h' => r = some (.int (ebits (e 3))) ∧ h' = (h.1, qup h.2 62 (E62 (edrawn e)))) := by
  refine qSpec_run 2 "draw" false hg mX2_draw_ok rfl rfl (Nat.le_of_ble_eq_true rfl) (by decide) ?_
  intro run step
  refine step.1 _ _ _ _ _ _ _ sgX2_draw_0_ok ?_
  refine ⟨by decide, _, _, hE, rfl, ?_⟩
  refine Or.inr ⟨by decide, ?_⟩
  refine ⟨_, hE, Nat.le_of_ble_eq_true rfl, rfl, ?_⟩
  refine ⟨by decide, _, _, rfl, rfl, ?_⟩
  refine ⟨.int, rfl, rfl, Nat.le_refl _, Nat.le_refl _, ?_⟩
  exact ⟨rfl, rfl⟩
theorem E_ring {g : qG} (hg : qOK g) {h : qH} {D P U : Nat → Int32} {n k u st ve cl : Int32} (hR : isR h 3 4 5 6 D P U n k u st ve cl) (x : Nat) (hx : x < 10) (i : Bool) {e : Nat → Int32} (hE : h.2 62 = some (E62 e)) : qSpec g 2 0 0 mX2_ringOpens [.ref 62, .int (nI x), .int (qb i)] h (fun r h' => r = some (.int (qb (ering D x i e).1)) ∧ same h h' [62] ∧ h'.2 62 = some (E62 (ering D x i e).2)) := by
  refine qSpec_run 2 "ringOpens" false hg mX2_ringOpens_ok rfl rfl (Nat.le_of_ble_eq_true rfl) (by decide) ?_
  intro run step
  cases i with
  | true =>
    refine step.1 _ _ _ _ _ _ _ sgX2_ringOpens_0_ok ?_
    refine ⟨rfl, ?_⟩
    refine ⟨by decide, _, _, hE, rfl, ?_⟩
    refine ⟨_, hE, Nat.le_of_ble_eq_true rfl, rfl, ?_⟩
    refine ⟨rfl, ?_⟩
    refine ⟨by decide, _, _, rfl, rfl, ?_⟩
    refine ⟨_, rfl, Nat.le_of_ble_eq_true rfl, rfl, ?_⟩
    refine ⟨fun c21 => absurd c21 (by decide), fun c21 => ?_⟩
    refine Or.inl ⟨rfl, _, 1, 0, 0, _, _, _, qi_2_72, ⟨rfl, rfl⟩, ⟨rfl, rfl⟩, rfl, rfl, E_draw hg (e := (upd (upd e 9 (e 9 + 1)) 6 (e 6 + 1))) (by exact rfl), fun y25 h25 hy25 => ?_⟩
    obtain ⟨rfl, hh⟩ := hy25
    rw [hh]
    clear hh
    refine ⟨by decide, _, _, rfl, rfl, ?_⟩
    refine Or.inl ⟨rfl, _, 1, 0, 0, _, _, _, qi_2_69, ⟨rfl, rfl⟩, ⟨hR.1, rfl⟩, rfl, rfl, R_of hg (by exact hR) x 5 hx (by decide), fun y34 h34 hy34 => ?_⟩
    obtain ⟨rfl, hh⟩ := hy34
    rw [hh]
    clear hh
    refine ⟨fun c37 => ?_, fun c37 => ?_⟩
    · refine step.1 _ _ _ _ _ _ _ sgX2_ringOpens_44_ok ?_
      refine step.1 _ _ _ _ _ _ _ sgX2_ringOpens_45_ok ?_
      refine ⟨.boolean, rfl, rfl, Nat.le_refl _, Nat.le_refl _, ?_⟩
      refine ⟨?_, ⟨rfl, fun j hj => by
          have hj : j ≠ 62 := fun q => hj (by rw [q]; simp)
          simp only [qup_n hj]⟩, ?_⟩
      · exact congrArg (fun b => some (Value.int (qb b))) (show _ = (decide (ebits (e 3) < D (x * 10 + 5))) from (decide_eq_false (Int32.not_lt.mpr c37)).symm)
      · rfl
    · refine step.1 _ _ _ _ _ _ _ sgX2_ringOpens_45_ok ?_
      refine ⟨.boolean, rfl, rfl, Nat.le_refl _, Nat.le_refl _, ?_⟩
      refine ⟨?_, ⟨rfl, fun j hj => by
          have hj : j ≠ 62 := fun q => hj (by rw [q]; simp)
          simp only [qup_n hj]⟩, ?_⟩
      · exact congrArg (fun b => some (Value.int (qb b))) (show _ = (decide (ebits (e 3) < D (x * 10 + 5))) from (decide_eq_true (Int32.not_le.mp c37)).symm)
      · rfl
  | false =>
    refine step.1 _ _ _ _ _ _ _ sgX2_ringOpens_0_ok ?_
    refine ⟨rfl, ?_⟩
    refine ⟨by decide, _, _, hE, rfl, ?_⟩
    refine ⟨_, hE, Nat.le_of_ble_eq_true rfl, rfl, ?_⟩
    refine ⟨rfl, ?_⟩
    refine ⟨by decide, _, _, rfl, rfl, ?_⟩
    refine ⟨_, rfl, Nat.le_of_ble_eq_true rfl, rfl, ?_⟩
    refine ⟨fun c21 => ?_, fun c21 => absurd rfl c21⟩
    refine step.1 _ _ _ _ _ _ _ sgX2_ringOpens_44_ok ?_
    refine step.1 _ _ _ _ _ _ _ sgX2_ringOpens_45_ok ?_
    refine ⟨.boolean, rfl, rfl, Nat.le_refl _, Nat.le_refl _, ?_⟩
    exact ⟨rfl, ⟨rfl, fun j hj => by
      have hj : j ≠ 62 := fun q => hj (by rw [q]; simp)
      simp only [qup_n hj]⟩, rfl⟩
theorem E_verse {g : qG} (hg : qOK g) {h : qH} {D P U : Nat → Int32} {n k u st ve cl : Int32} (hR : isR h 3 4 5 6 D P U n k u st ve cl) (x : Nat) (hx : x < 10) (i : Bool) {e : Nat → Int32} (hE : h.2 62 = some (E62 e)) : qSpec g 2 0 0 mX2_verseOpens [.ref 62, .int (nI x), .int (qb i)] h (fun r h' => r = some (.int (qb (everse D ve x i e).1)) ∧ same h h' [62] ∧ h'.2 62 = some (E62 (everse D ve x i e).2)) := by
  refine qSpec_run 2 "verseOpens" false hg mX2_verseOpens_ok rfl rfl (Nat.le_of_ble_eq_true rfl) (by decide) ?_
  intro run step
  cases i with
  | true =>
    refine step.1 _ _ _ _ _ _ _ sgX2_verseOpens_0_ok ?_
    refine ⟨rfl, ?_⟩
    refine ⟨by decide, _, _, hE, rfl, ?_⟩
    refine ⟨_, hE, Nat.le_of_ble_eq_true rfl, rfl, ?_⟩
    refine ⟨rfl, ?_⟩
    refine ⟨by decide, _, _, rfl, rfl, ?_⟩
    refine ⟨_, rfl, Nat.le_of_ble_eq_true rfl, rfl, ?_⟩
    refine ⟨rfl, ?_⟩
    refine ⟨by decide, _, _, rfl, rfl, ?_⟩
    refine ⟨by decide, _, _, rfl, rfl, ?_⟩
    refine ⟨by decide, _, _, hR.1, rfl, ?_⟩
    refine ⟨_, rfl, Nat.le_of_ble_eq_true rfl, rfl, ?_⟩
    refine ⟨fun c37 => absurd c37 (by decide), fun c37 => ?_⟩
    refine Or.inl ⟨rfl, _, 1, 0, 0, _, _, _, qi_2_72, ⟨rfl, rfl⟩, ⟨rfl, rfl⟩, rfl, rfl, E_draw hg (e := (upd (upd (upd e 8 (e 8 + 1)) 11 (e 11 + 1)) 6 (e 6 + ve))) (by exact rfl), fun y41 h41 hy41 => ?_⟩
    obtain ⟨rfl, hh⟩ := hy41
    rw [hh]
    clear hh
    refine ⟨by decide, _, _, rfl, rfl, ?_⟩
    refine Or.inl ⟨rfl, _, 1, 0, 0, _, _, _, qi_2_69, ⟨rfl, rfl⟩, ⟨hR.1, rfl⟩, rfl, rfl, R_of hg (by exact hR) x 4 hx (by decide), fun y50 h50 hy50 => ?_⟩
    obtain ⟨rfl, hh⟩ := hy50
    rw [hh]
    clear hh
    refine ⟨fun c53 => ?_, fun c53 => ?_⟩
    · refine step.1 _ _ _ _ _ _ _ sgX2_verseOpens_60_ok ?_
      refine step.1 _ _ _ _ _ _ _ sgX2_verseOpens_61_ok ?_
      refine ⟨.boolean, rfl, rfl, Nat.le_refl _, Nat.le_refl _, ?_⟩
      refine ⟨?_, ⟨rfl, fun j hj => by
          have hj : j ≠ 62 := fun q => hj (by rw [q]; simp)
          simp only [qup_n hj]⟩, ?_⟩
      · exact congrArg (fun b => some (Value.int (qb b))) (show _ = (decide (ebits (e 3) < D (x * 10 + 4))) from (decide_eq_false (Int32.not_lt.mpr c53)).symm)
      · rfl
    · refine step.1 _ _ _ _ _ _ _ sgX2_verseOpens_61_ok ?_
      refine ⟨.boolean, rfl, rfl, Nat.le_refl _, Nat.le_refl _, ?_⟩
      refine ⟨?_, ⟨rfl, fun j hj => by
          have hj : j ≠ 62 := fun q => hj (by rw [q]; simp)
          simp only [qup_n hj]⟩, ?_⟩
      · exact congrArg (fun b => some (Value.int (qb b))) (show _ = (decide (ebits (e 3) < D (x * 10 + 4))) from (decide_eq_true (Int32.not_le.mp c53)).symm)
      · rfl
  | false =>
    refine step.1 _ _ _ _ _ _ _ sgX2_verseOpens_0_ok ?_
    refine ⟨rfl, ?_⟩
    refine ⟨by decide, _, _, hE, rfl, ?_⟩
    refine ⟨_, hE, Nat.le_of_ble_eq_true rfl, rfl, ?_⟩
    refine ⟨rfl, ?_⟩
    refine ⟨by decide, _, _, rfl, rfl, ?_⟩
    refine ⟨_, rfl, Nat.le_of_ble_eq_true rfl, rfl, ?_⟩
    refine ⟨rfl, ?_⟩
    refine ⟨by decide, _, _, rfl, rfl, ?_⟩
    refine ⟨by decide, _, _, rfl, rfl, ?_⟩
    refine ⟨by decide, _, _, hR.1, rfl, ?_⟩
    refine ⟨_, rfl, Nat.le_of_ble_eq_true rfl, rfl, ?_⟩
    refine ⟨fun c37 => ?_, fun c37 => absurd rfl c37⟩
    refine step.1 _ _ _ _ _ _ _ sgX2_verseOpens_60_ok ?_
    refine step.1 _ _ _ _ _ _ _ sgX2_verseOpens_61_ok ?_
    refine ⟨.boolean, rfl, rfl, Nat.le_refl _, Nat.le_refl _, ?_⟩
    exact ⟨rfl, ⟨rfl, fun j hj => by
      have hj : j ≠ 62 := fun q => hj (by rw [q]; simp)
      simp only [qup_n hj]⟩, rfl⟩
end Q07O
