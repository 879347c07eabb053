section Q07L
/-- the lines of a plan: door, verses, ring -/
def isP (P : Nat → Int32) (kk : Nat) (pf vf rf : Nat → Nat) : Prop := ∀ i : Nat, i < kk → (P (i * 3 + 0) = nI (pf i) ∧ pf i < 10) ∧ (P (i * 3 + 1) = nI (vf i) ∧ vf i ≤ 5) ∧ (P (i * 3 + 2) = nI (rf i) ∧ rf i ≤ 2)
def T50 (c p j m : Int64) (sd : Int32) (sw : Int64) (pa pd : Int32) : qE := .inl (9, [.ref 3, .ref 20, .ref 48, .ref 51, .ref 52, .ref 53, .long c, .long p, .long j, .long m, .int sd, .long sw, .int pa, .int pd])
/-- the mean of line i -/
def lmean (D K V : Nat → Int32) (N : Nat) (m ve : Int32) (pf vf rf : Nat → Nat) (i : Nat) : vS := vmean (fun z => vgift D K V N m (pf i) z (nI i)) D ve (pf i) (rf i) (vf i)
def lwayv (D : Nat → Int32) (st : Int32) (pf : Nat → Nat) (i : Nat) : Int32 := iapart (D (pf i * 10 + 0)) (if i = 0 then st else D (pf (i - 1) * 10 + 0))
def lmins (D : Nat → Int32) (st ve : Int32) (pf vf rf : Nat → Nat) (i : Nat) : Int32 := lwayv D st pf i + (2 * D (pf i * 10 + 8) + nI (vf i) * ve + (if nI (rf i) = 0 then 0 else 1) + D (pf i * 10 + 9))
theorem T_visitBy {g : qG} (hg : qOK g) {h : qH} {D P U Q K V : Nat → Int32} {n u st ve cl m : Int32} {N kk : Nat} {pf vf rf : Nat → Nat} (hW : isW h D P U Q K V n (nI kk) u st ve cl m N) (hP : isP P kk pf vf rf) (hk : kk ≤ 10) {tc tp tj tm : Int64} {sd : Int32} {sw : Int64} {pa pd : Int32} (hT : h.2 50 = some (T50 tc tp tj tm sd sw pa pd)) (i : Nat) (hi : i < kk) : qSpec g 5 0 0 mX9_visitBy [.ref 50, .int (nI i)] h (fun r h' => r = none ∧ same h h' [25, 48, 49] ∧ isW h' D P U Q K V n (nI kk) u st ve cl m N ∧ isV h' (lmean D K V N m ve pf vf rf i).2.2.1 (lmean D K V N m ve pf vf rf i).2.2.2.1 ((lmean D K V N m ve pf vf rf i).2.2.1 * (D (pf i * 10 + 2)).toInt64) ((lmean D K V N m ve pf vf rf i).2.2.2.2 + (lmean D K V N m ve pf vf rf i).2.2.1 * (D (pf i * 10 + 9)).toInt64)) := by
  refine qSpec_run 9 "visitBy" false hg mX9_visitBy_ok rfl rfl (Nat.le_of_ble_eq_true rfl) (by decide) ?_
  intro run step
  have hW0 := hW
  obtain ⟨hR, hC, hL, hN, h49, c0, p0, j0, m0, hV⟩ := hW
  refine step.1 _ _ _ _ _ _ _ sgX9_visitBy_0_ok ?_
  refine ⟨by decide, _, _, hT, rfl, by decide, _, _, hT, rfl, ?_⟩
  refine Or.inl ⟨rfl, _, 1, 0, 0, _, _, _, qi_9_69, ⟨rfl, rfl⟩, ⟨hR.1, rfl⟩, rfl, rfl, R_ofLine hg hR i 0 (by omega) (by decide), fun y1 h9 hy => ?_⟩
  obtain ⟨rfl, hh⟩ := hy
  rw [hh, (hP i (by omega)).1.1]
  clear hh
  refine ⟨by decide, _, _, hT, rfl, ?_⟩
  refine Or.inl ⟨rfl, _, 1, 0, 0, _, _, _, qi_9_69, ⟨rfl, rfl⟩, ⟨hR.1, rfl⟩, rfl, rfl, R_ofLine hg hR i 1 (by omega) (by decide), fun y1 h9 hy => ?_⟩
  obtain ⟨rfl, hh⟩ := hy
  rw [hh, (hP i (by omega)).2.1.1]
  clear hh
  refine ⟨by decide, _, _, hT, rfl, ?_⟩
  refine Or.inl ⟨rfl, _, 1, 0, 0, _, _, _, qi_9_69, ⟨rfl, rfl⟩, ⟨hR.1, rfl⟩, rfl, rfl, R_ofLine hg hR i 2 (by omega) (by decide), fun y1 h9 hy => ?_⟩
  obtain ⟨rfl, hh⟩ := hy
  rw [hh, (hP i (by omega)).2.2.1]
  clear hh
  refine Or.inl ⟨rfl, _, 4, 0, 0, _, _, _, qi_9_73, ⟨rfl, rfl⟩, ⟨hV, rfl⟩, rfl, rfl, V_reckon hg hW0 (pf i) (vf i) (rf i) (hP i hi).1.2 (hP i hi).2.1.2 (hP i hi).2.2.2 (nI i), fun y1 h9 hy => ?_⟩
  obtain ⟨rfl, hs9, hW9, hV9⟩ := hy
  exact ⟨rfl, Nat.le_refl _, Nat.le_refl _, rfl, hs9, hW9, hV9⟩
theorem T_times0 {g : qG} (hg : qOK g) {h : qH}  {tc tp tj tm : Int64} {sd : Int32} {sw : Int64} {pa pd : Int32} (hT : h.2 50 = some (T50 tc tp tj tm sd sw pa pd)) : qSpec g 1 0 0 mX9_timesWhole [.ref 50, .int 0] h (fun r h' => r = some (.long tc) ∧ h' = h) := by
  refine qSpec_run 9 "timesWhole" false hg mX9_timesWhole_ok rfl rfl (Nat.le_of_ble_eq_true rfl) (by decide) ?_
  intro run step
  refine step.1 _ _ _ _ _ _ _ sgX9_timesWhole_0_ok ?_
  refine ⟨fun c => absurd c (by decide), fun j c1 c2 cj => ?_⟩
  have cj : 0 = j := cj
  subst cj
  refine ⟨_, 28, rfl, by decide, ?_⟩
  refine step.1 _ _ _ _ _ _ _ sgX9_timesWhole_28_ok ?_
  exact ⟨by decide, _, _, hT, rfl, rfl, Nat.le_refl _, Nat.le_refl _, rfl, rfl⟩
theorem T_times1 {g : qG} (hg : qOK g) {h : qH}  {tc tp tj tm : Int64} {sd : Int32} {sw : Int64} {pa pd : Int32} (hT : h.2 50 = some (T50 tc tp tj tm sd sw pa pd)) : qSpec g 1 0 0 mX9_timesWhole [.ref 50, .int 1] h (fun r h' => r = some (.long tp) ∧ h' = h) := by
  refine qSpec_run 9 "timesWhole" false hg mX9_timesWhole_ok rfl rfl (Nat.le_of_ble_eq_true rfl) (by decide) ?_
  intro run step
  refine step.1 _ _ _ _ _ _ _ sgX9_timesWhole_0_ok ?_
  refine ⟨fun c => absurd c (by decide), fun j c1 c2 cj => ?_⟩
  have cj : 1 = j := cj
  subst cj
  refine ⟨_, 33, rfl, by decide, ?_⟩
  refine step.1 _ _ _ _ _ _ _ sgX9_timesWhole_33_ok ?_
  exact ⟨by decide, _, _, hT, rfl, rfl, Nat.le_refl _, Nat.le_refl _, rfl, rfl⟩
theorem T_times2 {g : qG} (hg : qOK g) {h : qH}  {tc tp tj tm : Int64} {sd : Int32} {sw : Int64} {pa pd : Int32} (hT : h.2 50 = some (T50 tc tp tj tm sd sw pa pd)) : qSpec g 1 0 0 mX9_timesWhole [.ref 50, .int 2] h (fun r h' => r = some (.long tj) ∧ h' = h) := by
  refine qSpec_run 9 "timesWhole" false hg mX9_timesWhole_ok rfl rfl (Nat.le_of_ble_eq_true rfl) (by decide) ?_
  intro run step
  refine step.1 _ _ _ _ _ _ _ sgX9_timesWhole_0_ok ?_
  refine ⟨fun c => absurd c (by decide), fun j c1 c2 cj => ?_⟩
  have cj : 2 = j := cj
  subst cj
  refine ⟨_, 38, rfl, by decide, ?_⟩
  refine step.1 _ _ _ _ _ _ _ sgX9_timesWhole_38_ok ?_
  exact ⟨by decide, _, _, hT, rfl, rfl, Nat.le_refl _, Nat.le_refl _, rfl, rfl⟩
theorem T_times3 {g : qG} (hg : qOK g) {h : qH}  {tc tp tj tm : Int64} {sd : Int32} {sw : Int64} {pa pd : Int32} (hT : h.2 50 = some (T50 tc tp tj tm sd sw pa pd)) : qSpec g 1 0 0 mX9_timesWhole [.ref 50, .int 3] h (fun r h' => r = some (.long tm) ∧ h' = h) := by
  refine qSpec_run 9 "timesWhole" false hg mX9_timesWhole_ok rfl rfl (Nat.le_of_ble_eq_true rfl) (by decide) ?_
  intro run step
  refine step.1 _ _ _ _ _ _ _ sgX9_timesWhole_0_ok ?_
  refine ⟨fun c => ⟨43, by decide, ?_⟩, fun j c1 c2 cj => absurd (show ((2 : Int) < (3 : Int32).toInt) by decide) c2⟩
  refine step.1 _ _ _ _ _ _ _ sgX9_timesWhole_43_ok ?_
  exact ⟨by decide, _, _, hT, rfl, rfl, Nat.le_refl _, Nat.le_refl _, rfl, rfl⟩
theorem T_times {g : qG} (hg : qOK g) {h : qH} {tc tp tj tm : Int64} {sd : Int32} {sw : Int64} {pa pd : Int32} (hT : h.2 50 = some (T50 tc tp tj tm sd sw pa pd)) (w : Nat) (hw : w ≤ 3) : qSpec g 1 0 0 mX9_timesWhole [.ref 50, .int (nI w)] h (fun r h' => r = some (.long (if w = 0 then tc else if w = 1 then tp else if w = 2 then tj else tm)) ∧ h' = h) := by
  rcases (show w = 0 ∨ w = 1 ∨ w = 2 ∨ w = 3 by omega) with rfl | rfl | rfl | rfl
  · exact T_times0 hg hT
  · exact T_times1 hg hT
  · exact T_times2 hg hT
  · exact T_times3 hg hT
theorem T_minutesAt {g : qG} (hg : qOK g) {h : qH} {D P U Q K V : Nat → Int32} {n u st ve cl m : Int32} {N kk : Nat} {pf vf rf : Nat → Nat} (hW : isW h D P U Q K V n (nI kk) u st ve cl m N) (hP : isP P kk pf vf rf) (hk : kk ≤ 10) {tc tp tj tm : Int64} {sd : Int32} {sw : Int64} {pa pd : Int32} (hT : h.2 50 = some (T50 tc tp tj tm sd sw pa pd)) (i : Nat) (hi : i < kk) : qSpec g 3 0 0 mX9_minutesAt [.ref 50, .int (nI i)] h (fun r h' => r = some (.int (lmins D st ve pf vf rf i)) ∧ h' = h) := by
  refine qSpec_run 9 "minutesAt" false hg mX9_minutesAt_ok rfl rfl (Nat.le_of_ble_eq_true rfl) (by decide) ?_
  intro run step
  have hR := hW.1
  refine step.1 _ _ _ _ _ _ _ sgX9_minutesAt_0_ok ?_
  refine ⟨by decide, _, _, hT, rfl, ?_⟩
  refine Or.inl ⟨rfl, _, 2, 0, 0, _, _, _, qi_9_65, ⟨rfl, rfl⟩, ⟨hR.1, rfl⟩, rfl, rfl, R_way hg hR i (pf i) (pf (i - 1)) (by omega) (hP i (by omega)).1.1 (hP i (by omega)).1.2 (fun e => (hP (i - 1) (by omega)).1), fun y1 h9 hy => ?_⟩
  obtain ⟨rfl, hh⟩ := hy
  rw [hh]
  clear hh
  refine ⟨by decide, _, _, hT, rfl, by decide, _, _, hT, rfl, ?_⟩
  refine Or.inl ⟨rfl, _, 1, 0, 0, _, _, _, qi_9_69, ⟨rfl, rfl⟩, ⟨hR.1, rfl⟩, rfl, rfl, R_ofLine hg hR i 0 (by omega) (by decide), fun y1 h9 hy => ?_⟩
  obtain ⟨rfl, hh⟩ := hy
  rw [hh, (hP i (by omega)).1.1]
  clear hh
  refine ⟨by decide, _, _, hT, rfl, ?_⟩
  refine Or.inl ⟨rfl, _, 1, 0, 0, _, _, _, qi_9_69, ⟨rfl, rfl⟩, ⟨hR.1, rfl⟩, rfl, rfl, R_ofLine hg hR i 1 (by omega) (by decide), fun y1 h9 hy => ?_⟩
  obtain ⟨rfl, hh⟩ := hy
  rw [hh, (hP i (by omega)).2.1.1]
  clear hh
  refine ⟨by decide, _, _, hT, rfl, ?_⟩
  refine Or.inl ⟨rfl, _, 1, 0, 0, _, _, _, qi_9_69, ⟨rfl, rfl⟩, ⟨hR.1, rfl⟩, rfl, rfl, R_ofLine hg hR i 2 (by omega) (by decide), fun y1 h9 hy => ?_⟩
  obtain ⟨rfl, hh⟩ := hy
  rw [hh, (hP i (by omega)).2.2.1]
  clear hh
  refine Or.inl ⟨rfl, _, 2, 0, 0, _, _, _, qi_9_77, ⟨rfl, rfl⟩, ⟨hR.1, rfl⟩, rfl, rfl, R_longestAt hg hR (pf i) (nI (vf i)) (nI (rf i)) (hP i hi).1.2, fun y1 h9 hy => ?_⟩
  obtain ⟨rfl, hh⟩ := hy
  rw [hh]
  clear hh
  exact ⟨.int, rfl, rfl, Nat.le_refl _, Nat.le_refl _, rfl, rfl⟩
/-- the longest minutes of the lines i .. -/
def lall (D : Nat → Int32) (st ve : Int32) (pf vf rf : Nat → Nat) (i : Nat) : Nat → Int32 → Int32
  | 0, s => s
  | m + 1, s => lall D st ve pf vf rf (i + 1) m (s + lmins D st ve pf vf rf i)
/-- how many lines are in time -/
def lsure (D : Nat → Int32) (st ve cl : Int32) (pf vf rf : Nat → Nat) (i : Nat) : Nat → Int32 → Int32
  | 0, _ => nI i
  | m + 1, s => if s + lmins D st ve pf vf rf i ≤ cl then lsure D st ve cl pf vf rf (i + 1) m (s + lmins D st ve pf vf rf i) else nI i
theorem T_allMinutes {g : qG} (hg : qOK g) {h : qH} {D P U Q K V : Nat → Int32} {n u st ve cl m : Int32} {N kk : Nat} {pf vf rf : Nat → Nat} (hW : isW h D P U Q K V n (nI kk) u st ve cl m N) (hP : isP P kk pf vf rf) (hk : kk ≤ 10) {tc tp tj tm : Int64} {sd : Int32} {sw : Int64} {pa pd : Int32} (hT : h.2 50 = some (T50 tc tp tj tm sd sw pa pd)) : qSpec g 4 0 0 mX9_allMinutes [.ref 50] h (fun r h' => r = some (.int (lall D st ve pf vf rf 0 kk 0)) ∧ h' = h) := by
  refine qSpec_run 9 "allMinutes" false hg mX9_allMinutes_ok rfl rfl (Nat.le_of_ble_eq_true rfl) (by decide) ?_
  intro run step
  have hR := hW.1
  have loop : ∀ (mm i : Nat) (s : Int32), i + mm = kk → lall D st ve pf vf rf i mm s = lall D st ve pf vf rf 0 kk 0 → run 4 [(2, .int (nI i)), (1, .int s), (0, .ref 50)] [] h 0 0 := by
    intro mm
    induction mm with
    | zero =>
      intro i s hi hs
      refine step.1 _ _ _ _ _ _ _ sgX9_allMinutes_4_ok ?_
      refine ⟨by decide, _, _, hT, rfl, by decide, _, _, hR.1, rfl, fun c1 => ?_, fun c1 => absurd ((nI_leI (a := kk) (b := i) (by omega) (by omega)).mpr (by omega)) c1⟩
      refine step.1 _ _ _ _ _ _ _ sgX9_allMinutes_29_ok ?_
      exact ⟨.int, rfl, rfl, Nat.le_refl _, Nat.le_refl _, by rw [← hs]; rfl, rfl⟩
    | succ mm ih =>
      intro i s hi hs
      refine step.1 _ _ _ _ _ _ _ sgX9_allMinutes_4_ok ?_
      refine ⟨by decide, _, _, hT, rfl, by decide, _, _, hR.1, rfl, fun c1 => absurd c1 (h_nle (by omega) (by omega)), fun c1 => ?_⟩
      refine Or.inl ⟨rfl, _, 3, 0, 0, _, _, _, qi_9_81, ⟨rfl, rfl⟩, ⟨hT, rfl⟩, rfl, rfl, T_minutesAt hg hW hP hk hT i (by omega), fun y1 h9 hy => ?_⟩
      obtain ⟨rfl, hh⟩ := hy
      rw [hh]
      clear hh
      have kk2 := ih (i + 1) (s + lmins D st ve pf vf rf i) (by omega) hs
      rw [← nI_1] at kk2
      exact kk2
  refine step.1 _ _ _ _ _ _ _ sgX9_allMinutes_0_ok ?_
  exact loop kk 0 0 (by omega) rfl
theorem T_linesInTime {g : qG} (hg : qOK g) {h : qH} {D P U Q K V : Nat → Int32} {n u st ve cl m : Int32} {N kk : Nat} {pf vf rf : Nat → Nat} (hW : isW h D P U Q K V n (nI kk) u st ve cl m N) (hP : isP P kk pf vf rf) (hk : kk ≤ 10) {tc tp tj tm : Int64} {sd : Int32} {sw : Int64} {pa pd : Int32} (hT : h.2 50 = some (T50 tc tp tj tm sd sw pa pd)) : qSpec g 4 0 0 mX9_linesInTime [.ref 50] h (fun r h' => r = some (.int (lsure D st ve cl pf vf rf 0 kk 0)) ∧ h' = h) := by
  refine qSpec_run 9 "linesInTime" false hg mX9_linesInTime_ok rfl rfl (Nat.le_of_ble_eq_true rfl) (by decide) ?_
  intro run step
  have hR := hW.1
  have loop : ∀ (mm i : Nat) (s : Int32), i + mm = kk → lsure D st ve cl pf vf rf i mm s = lsure D st ve cl pf vf rf 0 kk 0 → run 4 [(2, .int (nI i)), (1, .int s), (0, .ref 50)] [] h 0 0 := by
    intro mm
    induction mm with
    | zero =>
      intro i s hi hs
      refine step.1 _ _ _ _ _ _ _ sgX9_linesInTime_4_ok ?_
      refine ⟨by decide, _, _, hT, rfl, by decide, _, _, hR.1, rfl, fun c1 => ?_, fun c1 => absurd ((nI_leI (a := kk) (b := i) (by omega) (by omega)).mpr (by omega)) c1⟩
      refine step.1 _ _ _ _ _ _ _ sgX9_linesInTime_42_ok ?_
      have e : i = kk := by omega
      exact ⟨by decide, _, _, hT, rfl, by decide, _, _, hR.1, rfl, .int, rfl, rfl, Nat.le_refl _, Nat.le_refl _, by rw [← hs, lsure, e], rfl⟩
    | succ mm ih =>
      intro i s hi hs
      refine step.1 _ _ _ _ _ _ _ sgX9_linesInTime_4_ok ?_
      refine ⟨by decide, _, _, hT, rfl, by decide, _, _, hR.1, rfl, fun c1 => absurd c1 (h_nle (by omega) (by omega)), fun c1 => ?_⟩
      refine Or.inl ⟨rfl, _, 3, 0, 0, _, _, _, qi_9_81, ⟨rfl, rfl⟩, ⟨hT, rfl⟩, rfl, rfl, T_minutesAt hg hW hP hk hT i (by omega), fun y1 h9 hy => ?_⟩
      obtain ⟨rfl, hh⟩ := hy
      rw [hh]
      clear hh
      refine ⟨by decide, _, _, hT, rfl, by decide, _, _, hR.1, rfl, fun c2 => ?_, fun c2 => ?_⟩
      · have c2 : s + lmins D st ve pf vf rf i ≤ cl := c2
        refine step.1 _ _ _ _ _ _ _ sgX9_linesInTime_36_ok ?_
        have kk2 := ih (i + 1) (s + lmins D st ve pf vf rf i) (by omega) (by rw [← hs, lsure, if_pos c2])
        rw [← nI_1] at kk2
        refine step.2 _ [(2, .int (nI i + 1)), (1, .int (s + lmins D st ve pf vf rf i)), (0, .ref 50)] _ _ _ _ _ (fun x hx => hx) kk2
      · have c2 : ¬ s + lmins D st ve pf vf rf i ≤ cl := c2
        exact ⟨.int, rfl, rfl, Nat.le_refl _, Nat.le_refl _, by rw [← hs, lsure, if_neg c2], rfl⟩
  refine step.1 _ _ _ _ _ _ _ sgX9_linesInTime_0_ok ?_
  exact loop kk 0 0 (by omega) rfl
abbrev tS : Type := Int64 × Int64 × Int64 × Int64
/-- the plan's sums over the lines i .. -/
def tadd (D K V : Nat → Int32) (N : Nat) (m st ve : Int32) (pf vf rf : Nat → Nat) (i : Nat) (s : tS) : tS := (s.1 + (lmean D K V N m ve pf vf rf i).2.2.1, s.2.1 + (lmean D K V N m ve pf vf rf i).2.2.2.1, s.2.2.1 + (lmean D K V N m ve pf vf rf i).2.2.1 * (D (pf i * 10 + 2)).toInt64, s.2.2.2 + ((lmean D K V N m ve pf vf rf i).2.2.2.2 + (lmean D K V N m ve pf vf rf i).2.2.1 * (D (pf i * 10 + 9)).toInt64 + 268435456 * (lwayv D st pf i).toInt64))
def tsum (D K V : Nat → Int32) (N : Nat) (m st ve : Int32) (pf vf rf : Nat → Nat) (i : Nat) : Nat → tS → tS
  | 0, s => s
  | q + 1, s => tsum D K V N m st ve pf vf rf (i + 1) q (tadd D K V N m st ve pf vf rf i s)
set_option maxHeartbeats 2000000 in
theorem T_reckon {g : qG} (hg : qOK g) {h : qH} {D P U Q K V : Nat → Int32} {n u st ve cl m : Int32} {N kk : Nat} {pf vf rf : Nat → Nat} (hW : isW h D P U Q K V n (nI kk) u st ve cl m N) (hP : isP P kk pf vf rf) (hk : kk ≤ 10) {tc tp tj tm : Int64} {sd : Int32} {sw : Int64} {pa pd : Int32} (hT : h.2 50 = some (T50 tc tp tj tm sd sw pa pd)) (f : Nat) (hf : f ≤ kk) : qSpec g 6 0 0 mX9_reckon [.ref 50, .int (nI f)] h (fun r h' => r = none ∧ same h h' [25, 48, 49, 50] ∧ isW h' D P U Q K V n (nI kk) u st ve cl m N ∧ h'.2 50 = some (T50 (tsum D K V N m st ve pf vf rf f (kk - f) (0, 0, 0, 0)).1 (tsum D K V N m st ve pf vf rf f (kk - f) (0, 0, 0, 0)).2.1 (tsum D K V N m st ve pf vf rf f (kk - f) (0, 0, 0, 0)).2.2.1 (tsum D K V N m st ve pf vf rf f (kk - f) (0, 0, 0, 0)).2.2.2 sd sw pa pd)) := by
  refine qSpec_run 9 "reckon" false hg mX9_reckon_ok rfl rfl (Nat.le_of_ble_eq_true rfl) (by decide) ?_
  intro run step
  have loop : ∀ (mm i : Nat) (s : tS) (hX : qH), i + mm = kk → tsum D K V N m st ve pf vf rf i mm s = tsum D K V N m st ve pf vf rf f (kk - f) (0, 0, 0, 0) → same h hX [25, 48, 49, 50] → isW hX D P U Q K V n (nI kk) u st ve cl m N → hX.2 50 = some (T50 s.1 s.2.1 s.2.2.1 s.2.2.2 sd sw pa pd) → run 22 [(2, .int (nI i)), (0, .ref 50), (1, .int (nI f))] [] hX 0 0 := by
    intro mm
    induction mm with
    | zero =>
      intro i s hX hi hs hsX hWX hTX
      refine step.1 _ _ _ _ _ _ _ sgX9_reckon_22_ok ?_
      refine ⟨by decide, _, _, hTX, rfl, by decide, _, _, hWX.1.1, rfl, fun c1 => ?_, fun c1 => absurd ((nI_leI (a := kk) (b := i) (by omega) (by omega)).mpr (by omega)) c1⟩
      refine step.1 _ _ _ _ _ _ _ sgX9_reckon_122_ok ?_
      exact ⟨rfl, Nat.le_refl _, Nat.le_refl _, rfl, hsX, hWX, by rw [← hs]; exact hTX⟩
    | succ mm ih =>
      intro i s hX hi hs hsX hWX hTX
      refine step.1 _ _ _ _ _ _ _ sgX9_reckon_22_ok ?_
      refine ⟨by decide, _, _, hTX, rfl, by decide, _, _, hWX.1.1, rfl, fun c1 => absurd c1 (h_nle (by omega) (by omega)), fun c1 => ?_⟩
      refine Or.inl ⟨rfl, _, 5, 0, 0, _, _, _, qi_9_53, ⟨rfl, rfl⟩, ⟨hTX, rfl⟩, rfl, rfl, T_visitBy hg hWX hP hk hTX i (by omega), fun y1 h9 hy => ?_⟩
      obtain ⟨rfl, hs9, hW9, hV9⟩ := hy
      have hT9 := (hs9.2 50 (by simp)).trans hTX
      have hR9 := hW9.1
      have hs10 := hsX.tr (l' := [25, 48, 49]) (l2 := [25, 48, 49, 50]) hs9 (by simp) (by simp)
      refine ⟨rfl, by decide, _, _, hT9, rfl, by decide, _, _, hT9, rfl, by decide, _, _, hV9, rfl, _, hT9, Nat.le_of_ble_eq_true rfl, rfl, ?_⟩
      refine ⟨rfl, by decide, _, _, rfl, rfl, by decide, _, _, rfl, rfl, by decide, _, _, hV9, rfl, _, rfl, Nat.le_of_ble_eq_true rfl, rfl, ?_⟩
      refine ⟨rfl, by decide, _, _, rfl, rfl, by decide, _, _, rfl, rfl, by decide, _, _, hV9, rfl, _, rfl, Nat.le_of_ble_eq_true rfl, rfl, ?_⟩
      refine ⟨rfl, by decide, _, _, rfl, rfl, by decide, _, _, rfl, rfl, by decide, _, _, hV9, rfl, by decide, _, _, rfl, rfl, ?_⟩
      have hRu := ((hR9.up (q := 50) (e := T50 (s.1 + (lmean D K V N m ve pf vf rf i).2.2.1) s.2.1 s.2.2.1 s.2.2.2 sd sw pa pd) (by decide) (by decide) (by decide) (by decide)).up (q := 50) (e := T50 (s.1 + (lmean D K V N m ve pf vf rf i).2.2.1) (s.2.1 + (lmean D K V N m ve pf vf rf i).2.2.2.1) s.2.2.1 s.2.2.2 sd sw pa pd) (by decide) (by decide) (by decide) (by decide)).up (q := 50) (e := T50 (s.1 + (lmean D K V N m ve pf vf rf i).2.2.1) (s.2.1 + (lmean D K V N m ve pf vf rf i).2.2.2.1) (s.2.2.1 + (lmean D K V N m ve pf vf rf i).2.2.1 * (D (pf i * 10 + 2)).toInt64) s.2.2.2 sd sw pa pd) (by decide) (by decide) (by decide) (by decide)
      refine Or.inl ⟨rfl, _, 2, 0, 0, _, _, _, qi_9_65, ⟨rfl, rfl⟩, ⟨hRu.1, rfl⟩, rfl, rfl, R_way hg hRu i (pf i) (pf (i - 1)) (by omega) (hP i (by omega)).1.1 (hP i (by omega)).1.2 (fun e => (hP (i - 1) (by omega)).1), fun y2 h8 hy => ?_⟩
      obtain ⟨rfl, hh⟩ := hy
      rw [hh]
      clear hh
      refine ⟨_, rfl, Nat.le_of_ble_eq_true rfl, rfl, ?_⟩
      have hfin : ∀ e1 e2 e3 e4 : qE, same h9 (h9.1, qup (qup (qup (qup h9.2 50 e1) 50 e2) 50 e3) 50 e4) [50] := fun e1 e2 e3 e4 => ⟨rfl, fun j hj => by
        have hj : j ≠ 50 := fun q => hj (by rw [q]; simp)
        simp only [qup_n hj]⟩
      have kk2 := ih (i + 1) (tadd D K V N m st ve pf vf rf i s) (h9.1, qup (qup (qup (qup h9.2 50 (T50 (s.1 + (lmean D K V N m ve pf vf rf i).2.2.1) s.2.1 s.2.2.1 s.2.2.2 sd sw pa pd)) 50 (T50 (s.1 + (lmean D K V N m ve pf vf rf i).2.2.1) (s.2.1 + (lmean D K V N m ve pf vf rf i).2.2.2.1) s.2.2.1 s.2.2.2 sd sw pa pd)) 50 (T50 (s.1 + (lmean D K V N m ve pf vf rf i).2.2.1) (s.2.1 + (lmean D K V N m ve pf vf rf i).2.2.2.1) (s.2.2.1 + (lmean D K V N m ve pf vf rf i).2.2.1 * (D (pf i * 10 + 2)).toInt64) s.2.2.2 sd sw pa pd)) 50 (T50 (tadd D K V N m st ve pf vf rf i s).1 (tadd D K V N m st ve pf vf rf i s).2.1 (tadd D K V N m st ve pf vf rf i s).2.2.1 (tadd D K V N m st ve pf vf rf i s).2.2.2 sd sw pa pd)) (by omega) hs (hs10.tr (l' := [50]) (l2 := [25, 48, 49, 50]) (hfin _ _ _ _) (by simp) (by simp)) (hW9.sm (hfin _ _ _ _) rfl) rfl
      rw [← nI_1] at kk2
      exact kk2
  refine step.1 _ _ _ _ _ _ _ sgX9_reckon_0_ok ?_
  refine ⟨_, hT, Nat.le_of_ble_eq_true rfl, rfl, _, rfl, Nat.le_of_ble_eq_true rfl, rfl, _, rfl, Nat.le_of_ble_eq_true rfl, rfl, _, rfl, Nat.le_of_ble_eq_true rfl, rfl, ?_⟩
  have hfin : ∀ e1 e2 e3 e4 : qE, same h (h.1, qup (qup (qup (qup h.2 50 e1) 50 e2) 50 e3) 50 e4) [50] := fun e1 e2 e3 e4 => ⟨rfl, fun j hj => by
    have hj : j ≠ 50 := fun q => hj (by rw [q]; simp)
    simp only [qup_n hj]⟩
  exact loop (kk - f) f (0, 0, 0, 0) (h.1, qup (qup (qup (qup h.2 50 (T50 0 tp tj tm sd sw pa pd)) 50 (T50 0 0 tj tm sd sw pa pd)) 50 (T50 0 0 0 tm sd sw pa pd)) 50 (T50 0 0 0 0 sd sw pa pd)) (by omega) rfl ((same.rf (l := [50])).tr (l' := [50]) (l2 := [25, 48, 49, 50]) (hfin _ _ _ _) (by simp) (by simp)) (hW.sm (hfin _ _ _ _) rfl) rfl
end Q07L
