section Q07K
def vseen (a s : Int32) : Int64 := if s = 0 then (16 - a).toInt64 else if s = 1 then a.toInt64 else 16
/-- in and in vain; all in vain -/
def vin (D : Nat → Int32) (x : Nat) (s : Int32) (E : Nat) : Int64 := (D (x * 10 + 3)).toInt64 * vseen (D (x * 10 + 6)) s * vpow (16 - D (x * 10 + 4)).toInt64 E 1
def vall (D : Nat → Int32) (x : Nat) (s : Int32) (E : Nat) : Int64 := vin D x s E + (16 - D (x * 10 + 3)).toInt64 * vseen (D (x * 10 + 7)) s * vpow 16 E 1
def vless (G : Int32 → Int32) (D : Nat → Int32) (x : Nat) (s : Int32) (E : Nat) (xx : Int32) : Bool := if vall D x s E * 16 = 0 then decide (0 < xx) else decide (vin D x s E * (D (x * 10 + 4)).toInt64 * (G (nI E + 1)).toInt64 < xx.toInt64 * (vall D x s E * 16))
theorem V_times0 {g : qG} (hg : qOK g) {h : qH} {c p j mm : Int64} (hV : isV h c p j mm) : qSpec g 1 0 0 mX10_timesWhole [.ref 48, .int 0] h (fun r h' => r = some (.long c) ∧ h' = h) := by
  refine qSpec_run 10 "timesWhole" false hg mX10_timesWhole_ok rfl rfl (Nat.le_of_ble_eq_true rfl) (by decide) ?_
  intro run step
  refine step.1 _ _ _ _ _ _ _ sgX10_timesWhole_0_ok ?_
  refine ⟨fun c => absurd c (by decide), fun j c1 c2 cj => ?_⟩
  have cj : 0 = j := cj
  subst cj
  refine ⟨_, 28, rfl, by decide, ?_⟩
  refine step.1 _ _ _ _ _ _ _ sgX10_timesWhole_28_ok ?_
  exact ⟨by decide, _, _, hV, rfl, rfl, Nat.le_refl _, Nat.le_refl _, rfl, rfl⟩
theorem V_times1 {g : qG} (hg : qOK g) {h : qH} {c p j mm : Int64} (hV : isV h c p j mm) : qSpec g 1 0 0 mX10_timesWhole [.ref 48, .int 1] h (fun r h' => r = some (.long p) ∧ h' = h) := by
  refine qSpec_run 10 "timesWhole" false hg mX10_timesWhole_ok rfl rfl (Nat.le_of_ble_eq_true rfl) (by decide) ?_
  intro run step
  refine step.1 _ _ _ _ _ _ _ sgX10_timesWhole_0_ok ?_
  refine ⟨fun c => absurd c (by decide), fun j c1 c2 cj => ?_⟩
  have cj : 1 = j := cj
  subst cj
  refine ⟨_, 33, rfl, by decide, ?_⟩
  refine step.1 _ _ _ _ _ _ _ sgX10_timesWhole_33_ok ?_
  exact ⟨by decide, _, _, hV, rfl, rfl, Nat.le_refl _, Nat.le_refl _, rfl, rfl⟩
theorem V_times2 {g : qG} (hg : qOK g) {h : qH} {c p j mm : Int64} (hV : isV h c p j mm) : qSpec g 1 0 0 mX10_timesWhole [.ref 48, .int 2] h (fun r h' => r = some (.long j) ∧ h' = h) := by
  refine qSpec_run 10 "timesWhole" false hg mX10_timesWhole_ok rfl rfl (Nat.le_of_ble_eq_true rfl) (by decide) ?_
  intro run step
  refine step.1 _ _ _ _ _ _ _ sgX10_timesWhole_0_ok ?_
  refine ⟨fun c => absurd c (by decide), fun j c1 c2 cj => ?_⟩
  have cj : 2 = j := cj
  subst cj
  refine ⟨_, 38, rfl, by decide, ?_⟩
  refine step.1 _ _ _ _ _ _ _ sgX10_timesWhole_38_ok ?_
  exact ⟨by decide, _, _, hV, rfl, rfl, Nat.le_refl _, Nat.le_refl _, rfl, rfl⟩
theorem V_times3 {g : qG} (hg : qOK g) {h : qH} {c p j mm : Int64} (hV : isV h c p j mm) : qSpec g 1 0 0 mX10_timesWhole [.ref 48, .int 3] h (fun r h' => r = some (.long mm) ∧ h' = h) := by
  refine qSpec_run 10 "timesWhole" false hg mX10_timesWhole_ok rfl rfl (Nat.le_of_ble_eq_true rfl) (by decide) ?_
  intro run step
  refine step.1 _ _ _ _ _ _ _ sgX10_timesWhole_0_ok ?_
  refine ⟨fun c => ⟨43, by decide, ?_⟩, fun j c1 c2 cj => absurd (show ((2 : Int) < (3 : Int32).toInt) by decide) c2⟩
  refine step.1 _ _ _ _ _ _ _ sgX10_timesWhole_43_ok ?_
  exact ⟨by decide, _, _, hV, rfl, rfl, Nat.le_refl _, Nat.le_refl _, rfl, rfl⟩
theorem V_times {g : qG} (hg : qOK g) {h : qH} {c p j mm : Int64} (hV : isV h c p j mm) (w : Nat) (hw : w ≤ 3) : qSpec g 1 0 0 mX10_timesWhole [.ref 48, .int (nI w)] h (fun r h' => r = some (.long (if w = 0 then c else if w = 1 then p else if w = 2 then j else mm)) ∧ h' = h) := by
  rcases (show w = 0 ∨ w = 1 ∨ w = 2 ∨ w = 3 by omega) with rfl | rfl | rfl | rfl
  · exact V_times0 hg hV
  · exact V_times1 hg hV
  · exact V_times2 hg hV
  · exact V_times3 hg hV
theorem V_in {g : qG} (hg : qOK g) {h : qH} {D P U Q K V : Nat → Int32} {n k u st ve cl m : Int32} {N : Nat} (hW : isW h D P U Q K V n k u st ve cl m N) (x : Nat) (hx : x < 10) (s : Int32) (E : Nat) (hE : E ≤ 10) : qSpec g 2 0 0 mX10_inAndVain [.ref 48, .int (nI x), .int s, .int (nI E)] h (fun r h' => r = some (.long (vin D x s E)) ∧ h' = h) := by
  refine qSpec_run 10 "inAndVain" false hg mX10_inAndVain_ok rfl rfl (Nat.le_of_ble_eq_true rfl) (by decide) ?_
  intro run step
  obtain ⟨hR, hC, hL, hN, h49, c0, p0, j0, m0, hV⟩ := hW
  refine step.1 _ _ _ _ _ _ _ sgX10_inAndVain_0_ok ?_
  refine ⟨by decide, _, _, hV, rfl, ?_⟩
  refine Or.inl ⟨rfl, _, 1, 0, 0, _, _, _, qi_10_35, ⟨rfl, rfl⟩, ⟨hR.1, rfl⟩, rfl, rfl, R_of hg hR x 3 hx (by decide), fun y1 h9 hy => ?_⟩
  obtain ⟨rfl, hh⟩ := hy
  rw [hh]
  clear hh
  refine ⟨by decide, _, _, hV, rfl, ?_⟩
  refine Or.inl ⟨rfl, _, 1, 0, 0, _, _, _, qi_10_35, ⟨rfl, rfl⟩, ⟨hR.1, rfl⟩, rfl, rfl, R_of hg hR x 6 hx (by decide), fun y1 h9 hy => ?_⟩
  obtain ⟨rfl, hh⟩ := hy
  rw [hh]
  clear hh
  refine Or.inl ⟨rfl, _, 1, 0, 0, _, Or.inl qi_10_83, ⟨rfl, rfl⟩, rfl, rfl, V_asSeen hg (D (x * 10 + 6)) s, fun y1 h9 hy => ?_⟩
  obtain ⟨rfl, hh⟩ := hy
  rw [hh]
  clear hh
  refine ⟨by decide, _, _, hV, rfl, ?_⟩
  refine Or.inl ⟨rfl, _, 1, 0, 0, _, _, _, qi_10_35, ⟨rfl, rfl⟩, ⟨hR.1, rfl⟩, rfl, rfl, R_of hg hR x 4 hx (by decide), fun y1 h9 hy => ?_⟩
  obtain ⟨rfl, hh⟩ := hy
  rw [hh]
  clear hh
  refine Or.inl ⟨rfl, _, 1, 0, 0, _, Or.inl qi_10_87, ⟨rfl, rfl⟩, rfl, rfl, V_power hg (16 - D (x * 10 + 4)).toInt64 E (by omega), fun y1 h9 hy => ?_⟩
  obtain ⟨rfl, hh⟩ := hy
  rw [hh]
  clear hh
  exact ⟨rfl, Nat.le_refl _, Nat.le_refl _, rfl, rfl⟩
theorem V_all {g : qG} (hg : qOK g) {h : qH} {D P U Q K V : Nat → Int32} {n k u st ve cl m : Int32} {N : Nat} (hW : isW h D P U Q K V n k u st ve cl m N) (x : Nat) (hx : x < 10) (s : Int32) (E : Nat) (hE : E ≤ 10) : qSpec g 3 0 0 mX10_allVain [.ref 48, .int (nI x), .int s, .int (nI E)] h (fun r h' => r = some (.long (vall D x s E)) ∧ h' = h) := by
  refine qSpec_run 10 "allVain" false hg mX10_allVain_ok rfl rfl (Nat.le_of_ble_eq_true rfl) (by decide) ?_
  intro run step
  have hW0 := hW
  obtain ⟨hR, hC, hL, hN, h49, c0, p0, j0, m0, hV⟩ := hW
  refine step.1 _ _ _ _ _ _ _ sgX10_allVain_0_ok ?_
  refine ⟨by decide, _, _, hV, rfl, ?_⟩
  refine Or.inl ⟨rfl, _, 1, 0, 0, _, _, _, qi_10_35, ⟨rfl, rfl⟩, ⟨hR.1, rfl⟩, rfl, rfl, R_of hg hR x 3 hx (by decide), fun y1 h9 hy => ?_⟩
  obtain ⟨rfl, hh⟩ := hy
  rw [hh]
  clear hh
  refine ⟨by decide, _, _, hV, rfl, ?_⟩
  refine Or.inl ⟨rfl, _, 1, 0, 0, _, _, _, qi_10_35, ⟨rfl, rfl⟩, ⟨hR.1, rfl⟩, rfl, rfl, R_of hg hR x 7 hx (by decide), fun y1 h9 hy => ?_⟩
  obtain ⟨rfl, hh⟩ := hy
  rw [hh]
  clear hh
  refine Or.inl ⟨rfl, _, 1, 0, 0, _, Or.inl qi_10_83, ⟨rfl, rfl⟩, rfl, rfl, V_asSeen hg (D (x * 10 + 7)) s, fun y1 h9 hy => ?_⟩
  obtain ⟨rfl, hh⟩ := hy
  rw [hh]
  clear hh
  refine Or.inl ⟨rfl, _, 1, 0, 0, _, Or.inl qi_10_87, ⟨rfl, rfl⟩, rfl, rfl, V_power hg 16 E (by omega), fun y1 h9 hy => ?_⟩
  obtain ⟨rfl, hh⟩ := hy
  rw [hh]
  clear hh
  refine Or.inl ⟨rfl, _, 2, 0, 0, _, _, _, qi_10_91, ⟨rfl, rfl⟩, ⟨hV, rfl⟩, rfl, rfl, V_in hg hW0 x hx s E hE, fun y1 h9 hy => ?_⟩
  obtain ⟨rfl, hh⟩ := hy
  rw [hh]
  clear hh
  exact ⟨rfl, Nat.le_refl _, Nat.le_refl _, rfl, rfl⟩
theorem V_less {g : qG} (hg : qOK g) {h : qH} {D P U Q K V : Nat → Int32} {n k u st ve cl m : Int32} {N : Nat} (hW : isW h D P U Q K V n k u st ve cl m N) (x : Nat) (hx : x < 10) (s : Int32) (E : Nat) (hE : E ≤ 10) (xx : Int32) : qSpec g 4 0 0 mX10_bringsLess [.ref 48, .int (nI x), .int s, .int (nI E), .int xx] h (fun r h' => r = some (.int (qb (vless (fun z => vgift D K V N m x z 0) D x s E xx))) ∧ same h h' [25, 49] ∧ isW h' D P U Q K V n k u st ve cl m N) := by
  refine qSpec_run 10 "bringsLess" false hg mX10_bringsLess_ok rfl rfl (Nat.le_of_ble_eq_true rfl) (by decide) ?_
  intro run step
  have hW0 := hW
  obtain ⟨hR, hC, hL, hN, h49, c0, p0, j0, m0, hV⟩ := hW
  refine step.1 _ _ _ _ _ _ _ sgX10_bringsLess_0_ok ?_
  refine Or.inl ⟨rfl, _, 3, 0, 0, _, _, _, qi_10_95, ⟨rfl, rfl⟩, ⟨hV, rfl⟩, rfl, rfl, V_all hg hW0 x hx s E hE, fun y1 h9 hy => ?_⟩
  obtain ⟨rfl, hh⟩ := hy
  rw [hh]
  clear hh
  refine ⟨fun c1 => ?_, fun c1 => ?_⟩
  · have c1 : ¬ vall D x s E * 16 = 0 := fun q => c1 ((lgc0 _ _).mpr q)
    refine step.1 _ _ _ _ _ _ _ sgX10_bringsLess_31_ok ?_
    refine Or.inl ⟨rfl, _, 2, 0, 0, _, _, _, qi_10_91, ⟨rfl, rfl⟩, ⟨hV, rfl⟩, rfl, rfl, V_in hg hW0 x hx s E hE, fun y1 h9 hy => ?_⟩
    obtain ⟨rfl, hh⟩ := hy
    rw [hh]
    clear hh
    refine ⟨by decide, _, _, hV, rfl, ?_⟩
    refine Or.inl ⟨rfl, _, 1, 0, 0, _, _, _, qi_10_35, ⟨rfl, rfl⟩, ⟨hR.1, rfl⟩, rfl, rfl, R_of hg hR x 4 hx (by decide), fun y1 h9 hy => ?_⟩
    obtain ⟨rfl, hh⟩ := hy
    rw [hh]
    clear hh
    refine Or.inl ⟨rfl, _, 3, 0, 0, _, _, _, qi_10_76, ⟨rfl, rfl⟩, ⟨hV, rfl⟩, rfl, rfl, V_gift hg hW0 x hx (nI E + 1) 0, fun y1 h9 hy => ?_⟩
    obtain ⟨rfl, hs9, hW9⟩ := hy
    refine ⟨fun c2 => ?_, fun c2 => ?_⟩
    · have c2 := (lg_cmp_ge _ _).mp c2
      refine step.1 _ _ _ _ _ _ _ sgX10_bringsLess_78_ok ?_
      refine step.1 _ _ _ _ _ _ _ sgX10_bringsLess_79_ok ?_
      refine ⟨.boolean, rfl, rfl, Nat.le_refl _, Nat.le_refl _, ?_, hs9, hW9⟩
      rw [vless, if_neg c1, decide_eq_false (Int64.not_lt.mpr c2)]
      rfl
    · have c2 := Int64.not_le.mp (fun q => c2 ((lg_cmp_ge _ _).mpr q))
      refine step.1 _ _ _ _ _ _ _ sgX10_bringsLess_79_ok ?_
      refine ⟨.boolean, rfl, rfl, Nat.le_refl _, Nat.le_refl _, ?_, hs9, hW9⟩
      rw [vless, if_neg c1, decide_eq_true c2]
      rfl
  · have c1 : vall D x s E * 16 = 0 := (lgc0 _ _).mp c1
    refine ⟨fun c2 => ?_, fun c2 => ?_⟩
    · have c2 : xx ≤ 0 := c2
      refine step.1 _ _ _ _ _ _ _ sgX10_bringsLess_29_ok ?_
      refine step.1 _ _ _ _ _ _ _ sgX10_bringsLess_30_ok ?_
      exact ⟨.boolean, rfl, rfl, Nat.le_refl _, Nat.le_refl _, by rw [vless, if_pos c1, decide_eq_false (Int32.not_lt.mpr c2)]; rfl, same.rf, hW0⟩
    · have c2 : ¬ xx ≤ 0 := c2
      refine step.1 _ _ _ _ _ _ _ sgX10_bringsLess_30_ok ?_
      exact ⟨.boolean, rfl, rfl, Nat.le_refl _, Nat.le_refl _, by rw [vless, if_pos c1, decide_eq_true (Int32.not_le.mp c2)]; rfl, same.rf, hW0⟩
/-- the minute at which a part is gone, -1: never, or it isn't needed -/
def cgo (Q : Nat → Int32) (M : Nat) (p : Int32) : Int32 := if cneed Q p 0 M = true then cgone Q p 0 M (-1) else -1
def cfirst (Q : Nat → Int32) (M p : Nat) : Nat → Int32 → Int32
  | 0, fm => fm
  | j + 1, fm => cfirst Q M (p + 1) j (if cgo Q M (nI p) = -1 then fm else if fm = -1 then cgo Q M (nI p) else if fm ≤ cgo Q M (nI p) then fm else cgo Q M (nI p))
theorem C_firstMissing {g : qG} (hg : qOK g) {h : qH} {a f M : Nat} {Q : Nat → Int32} (hC : isC h a f Q (nI M)) (hM : M ≤ 8) : qSpec g 3 0 0 mX1_firstMissing [.ref a] h (fun r h' => r = some (.int (cfirst Q M 0 4 (-1))) ∧ h' = h) := by
  refine qSpec_run 1 "firstMissing" false hg mX1_firstMissing_ok rfl rfl (Nat.le_of_ble_eq_true rfl) (by decide) ?_
  intro run step
  have loop : ∀ (j p : Nat) (fm : Int32), p + j = 4 → cfirst Q M p j fm = cfirst Q M 0 4 (-1) → run 4 [(2, .int (nI p)), (1, .int fm), (0, .ref a)] [] h 0 0 := by
    intro j
    induction j with
    | zero =>
      intro p fm hi hs
      have hp : p = 4 := by omega
      refine step.1 _ _ _ _ _ _ _ sgX1_firstMissing_4_ok ?_
      refine ⟨fun c1 => ?_, fun c1 => absurd (show (4 : Int32) ≤ nI p by rw [hp]; decide) c1⟩
      refine step.1 _ _ _ _ _ _ _ sgX1_firstMissing_50_ok ?_
      exact ⟨.int, rfl, rfl, Nat.le_refl _, Nat.le_refl _, by rw [← hs]; rfl, rfl⟩
    | succ j ih =>
      intro p fm hi hs
      have nxt : ∀ (Lx : List (Nat × Value)) (z w : Int32), Lx = [(2, .int (nI p)), (3, .int z), (1, .int w), (0, .ref a)] ∨ Lx = [(1, .int w), (3, .int z), (2, .int (nI p)), (0, .ref a)] ∨ Lx = [(3, .int z), (2, .int (nI p)), (1, .int w), (0, .ref a)] → w = (if cgo Q M (nI p) = -1 then fm else if fm = -1 then cgo Q M (nI p) else if fm ≤ cgo Q M (nI p) then fm else cgo Q M (nI p)) → run 44 Lx [] h 0 0 := by
        intro Lx z w hL hw
        refine step.2 _ _ [(2, .int (nI p)), (1, .int w), (0, .ref a)] _ _ _ _ (by intro x hx; simp only [List.mem_cons, List.not_mem_nil, or_false] at hx; rcases hL with rfl | rfl | rfl <;> rcases hx with e | e | e <;> simp only [e, List.mem_cons, true_or, or_true]) ?_
        refine step.1 _ _ _ _ _ _ _ sgX1_firstMissing_44_ok ?_
        have kk := ih (p + 1) w (by omega) (by rw [← hs, cfirst, hw])
        rw [← nI_1] at kk
        exact kk
      have at26 : ∀ z : Int32, z = cgo Q M (nI p) → run 26 [(2, .int (nI p)), (1, .int fm), (0, .ref a)] [.int z] h 0 0 := by
        intro z hz
        refine step.1 _ _ _ _ _ _ _ sgX1_firstMissing_26_ok ?_
        refine ⟨fun c2 => ?_, fun c2 => ?_⟩
        · have c2 : z = -1 := c2
          exact nxt _ z fm (Or.inr (Or.inr rfl)) (by rw [← hz, if_pos c2])
        have c2 : ¬ z = -1 := c2
        refine ⟨fun c3 => ?_, fun c3 => ?_⟩
        · have c3 : fm = -1 := c3
          refine step.1 _ _ _ _ _ _ _ sgX1_firstMissing_42_ok ?_
          exact nxt _ z z (Or.inr (Or.inl rfl)) (by rw [← hz, if_neg c2, if_pos c3])
        have c3 : ¬ fm = -1 := c3
        refine ⟨fun c4 => ?_, fun c4 => ?_⟩
        · have c4 : fm ≤ z := c4
          exact nxt _ z fm (Or.inr (Or.inr rfl)) (by rw [← hz, if_neg c2, if_neg c3, if_pos c4])
        · have c4 : ¬ fm ≤ z := c4
          refine step.1 _ _ _ _ _ _ _ sgX1_firstMissing_42_ok ?_
          exact nxt _ z z (Or.inr (Or.inl rfl)) (by rw [← hz, if_neg c2, if_neg c3, if_neg c4])
      refine step.1 _ _ _ _ _ _ _ sgX1_firstMissing_4_ok ?_
      refine ⟨fun c1 => absurd c1 (h_nle (b := 4) (by omega) (by decide)), fun c1 => ?_⟩
      refine Or.inl ⟨rfl, _, 2, 0, 0, _, _, _, qi_1_37, ⟨rfl, rfl⟩, ⟨hC.1, rfl⟩, rfl, rfl, C_isNeeded hg hC hM (nI p), fun y1 h9 hy => ?_⟩
      obtain ⟨rfl, hh⟩ := hy
      rw [hh]
      clear hh
      refine ⟨fun c2 => ?_, fun c2 => ?_⟩
      · have c2 := qb_0.mp c2
        refine step.1 _ _ _ _ _ _ _ sgX1_firstMissing_25_ok ?_
        exact at26 _ (by rw [cgo, c2]; rfl)
      · have c2 := qb_1.mp c2
        refine Or.inl ⟨rfl, _, 2, 0, 0, _, _, _, qi_1_41, ⟨rfl, rfl⟩, ⟨hC.1, rfl⟩, rfl, rfl, C_goneFrom hg hC hM (nI p), fun y1 h9 hy => ?_⟩
        obtain ⟨rfl, hh⟩ := hy
        rw [hh]
        clear hh
        exact at26 _ (by rw [cgo, if_pos c2])
  refine step.1 _ _ _ _ _ _ _ sgX1_firstMissing_0_ok ?_
  exact loop 4 0 (-1) rfl rfl
/-- can so many verses be sung: part by part -/
def ccan (Q : Nat → Int32) (M : Nat) (v mm mi sp : Int32) (p : Nat) : Nat → Int32 → Bool
  | 0, all => decide (mm * v ≤ all)
  | j + 1, all => if csung Q (nI p) v mi 0 M 0 < v ∧ ¬ nI p = sp ∧ cneed Q (nI p) 0 M = true then false else ccan Q M v mm mi sp (p + 1) j (all + csung Q (nI p) v mi 0 M 0)
def cmost (Q : Nat → Int32) (M : Nat) (mm mi sp : Int32) : Nat → Int32
  | 0 => 0
  | v + 1 => if ccan Q M (nI (v + 1)) mm mi sp 0 4 0 = true then nI (v + 1) else cmost Q M mm mi sp v
theorem C_canSing {g : qG} (hg : qOK g) {h : qH} {a f M : Nat} {Q : Nat → Int32} (hC : isC h a f Q (nI M)) (hM : M ≤ 8) (v mm mi sp : Int32) : qSpec g 4 0 0 mX1_canSing [.ref a, .int v, .int mm, .int mi, .int sp] h (fun r h' => r = some (.int (qb (ccan Q M v mm mi sp 0 4 0))) ∧ h' = h) := by
  refine qSpec_run 1 "canSing" false hg mX1_canSing_ok rfl rfl (Nat.le_of_ble_eq_true rfl) (by decide) ?_
  intro run step
  have loop : ∀ (j p : Nat) (all : Int32), p + j = 4 → ccan Q M v mm mi sp p j all = ccan Q M v mm mi sp 0 4 0 → run 6 [(6, .int (nI p)), (5, .int all), (0, .ref a), (1, .int v), (2, .int mm), (3, .int mi), (4, .int sp)] [] h 0 0 := by
    intro j
    induction j with
    | zero =>
      intro p all hi hs
      have hp : p = 4 := by omega
      refine step.1 _ _ _ _ _ _ _ sgX1_canSing_6_ok ?_
      refine ⟨fun c1 => ?_, fun c1 => absurd (show (4 : Int32) ≤ nI p by rw [hp]; decide) c1⟩
      refine step.1 _ _ _ _ _ _ _ sgX1_canSing_59_ok ?_
      refine ⟨fun c2 => ?_, fun c2 => ?_⟩
      · have c2 : all < mm * v := c2
        refine step.1 _ _ _ _ _ _ _ sgX1_canSing_71_ok ?_
        refine step.1 _ _ _ _ _ _ _ sgX1_canSing_72_ok ?_
        exact ⟨.boolean, rfl, rfl, Nat.le_refl _, Nat.le_refl _, by rw [← hs, ccan, decide_eq_false (Int32.not_le.mpr c2)]; rfl, rfl⟩
      · have c2 : ¬ all < mm * v := c2
        refine step.1 _ _ _ _ _ _ _ sgX1_canSing_72_ok ?_
        exact ⟨.boolean, rfl, rfl, Nat.le_refl _, Nat.le_refl _, by rw [← hs, ccan, decide_eq_true (Int32.not_lt.mp c2)]; rfl, rfl⟩
    | succ j ih =>
      intro p all hi hs
      have nxt : ¬ (csung Q (nI p) v mi 0 M 0 < v ∧ ¬ nI p = sp ∧ cneed Q (nI p) 0 M = true) → run 46 [(7, .int (csung Q (nI p) v mi 0 M 0)), (6, .int (nI p)), (5, .int all), (0, .ref a), (1, .int v), (2, .int mm), (3, .int mi), (4, .int sp)] [] h 0 0 := by
        intro hn
        refine step.1 _ _ _ _ _ _ _ sgX1_canSing_46_ok ?_
        refine step.2 _ [(6, .int (nI p + 1)), (5, .int (all + csung Q (nI p) v mi 0 M 0)), (7, .int (csung Q (nI p) v mi 0 M 0)), (0, .ref a), (1, .int v), (2, .int mm), (3, .int mi), (4, .int sp)] [(6, .int (nI p + 1)), (5, .int (all + csung Q (nI p) v mi 0 M 0)), (0, .ref a), (1, .int v), (2, .int mm), (3, .int mi), (4, .int sp)] _ _ _ _ (by intro x hx; simp only [List.mem_cons, List.not_mem_nil, or_false] at hx ⊢; rcases hx with e | e | e | e | e | e | e <;> simp only [e, true_or, or_true]) ?_
        have kk := ih (p + 1) (all + csung Q (nI p) v mi 0 M 0) (by omega) (by rw [← hs, ccan, if_neg hn])
        rw [← nI_1] at kk
        exact kk
      refine step.1 _ _ _ _ _ _ _ sgX1_canSing_6_ok ?_
      refine ⟨fun c1 => absurd c1 (h_nle (b := 4) (by omega) (by decide)), fun c1 => ?_⟩
      refine Or.inl ⟨rfl, _, 3, 0, 0, _, _, _, qi_1_49, ⟨rfl, rfl⟩, ⟨hC.1, rfl⟩, rfl, rfl, C_sungIn hg hC hM (nI p) v mi, fun y1 h9 hy => ?_⟩
      obtain ⟨rfl, hh⟩ := hy
      rw [hh]
      clear hh
      refine ⟨fun c2 => nxt ?_, fun c2 => ?_⟩
      · have c2 : v ≤ csung Q (nI p) v mi 0 M 0 := c2
        exact fun q => absurd q.1 (Int32.not_lt.mpr c2)
      have c2 : ¬ v ≤ csung Q (nI p) v mi 0 M 0 := c2
      refine ⟨fun c3 => nxt (fun q => q.2.1 c3), fun c3 => ?_⟩
      refine Or.inl ⟨rfl, _, 2, 0, 0, _, _, _, qi_1_37, ⟨rfl, rfl⟩, ⟨hC.1, rfl⟩, rfl, rfl, C_isNeeded hg hC hM (nI p), fun y1 h9 hy => ?_⟩
      obtain ⟨rfl, hh⟩ := hy
      rw [hh]
      clear hh
      refine ⟨fun c4 => nxt (fun q => absurd (qb_0.mp c4) (by rw [q.2.2]; decide)), fun c4 => ?_⟩
      have c4 := qb_1.mp c4
      exact ⟨.boolean, rfl, rfl, Nat.le_refl _, Nat.le_refl _, by rw [← hs, ccan, if_pos ⟨Int32.not_le.mp c2, c3, c4⟩]; rfl, rfl⟩
  refine step.1 _ _ _ _ _ _ _ sgX1_canSing_0_ok ?_
  exact loop 4 0 0 rfl rfl
theorem C_mostVerses {g : qG} (hg : qOK g) {h : qH} {a f M : Nat} {Q : Nat → Int32} (hC : isC h a f Q (nI M)) (hM : M ≤ 8) (mm mi sp : Int32) : qSpec g 5 0 0 mX1_mostVerses [.ref a, .int mm, .int mi, .int sp] h (fun r h' => r = some (.int (cmost Q M mm mi sp 99)) ∧ h' = h) := by
  refine qSpec_run 1 "mostVerses" false hg mX1_mostVerses_ok rfl rfl (Nat.le_of_ble_eq_true rfl) (by decide) ?_
  intro run step
  have loop : ∀ (v : Nat), v ≤ 99 → cmost Q M mm mi sp v = cmost Q M mm mi sp 99 → run 4 [(4, .int (nI v)), (0, .ref a), (1, .int mm), (2, .int mi), (3, .int sp)] [] h 0 0 := by
    intro v
    induction v with
    | zero =>
      intro hv hs
      refine step.1 _ _ _ _ _ _ _ sgX1_mostVerses_4_ok ?_
      refine ⟨fun c1 => ?_, fun c1 => absurd (show nI 0 ≤ 0 by decide) c1⟩
      refine step.1 _ _ _ _ _ _ _ sgX1_mostVerses_30_ok ?_
      exact ⟨.int, rfl, rfl, Nat.le_refl _, Nat.le_refl _, by rw [← hs]; rfl, rfl⟩
    | succ v ih =>
      intro hv hs
      refine step.1 _ _ _ _ _ _ _ sgX1_mostVerses_4_ok ?_
      refine ⟨fun c1 => absurd c1 (h_nle (a := 0) (b := v + 1) (by omega) (by omega)), fun c1 => ?_⟩
      refine Or.inl ⟨rfl, _, 4, 0, 0, _, _, _, qi_1_45, ⟨rfl, rfl⟩, ⟨hC.1, rfl⟩, rfl, rfl, C_canSing hg hC hM (nI (v + 1)) mm mi sp, fun y1 h9 hy => ?_⟩
      obtain ⟨rfl, hh⟩ := hy
      rw [hh]
      clear hh
      refine ⟨fun c2 => ?_, fun c2 => ?_⟩
      · have c2 := qb_0.mp c2
        refine step.1 _ _ _ _ _ _ _ sgX1_mostVerses_24_ok ?_
        have kk := ih (by omega) (by rw [← hs, cmost, c2]; rfl)
        rw [← pk_m1] at kk
        exact kk
      · have c2 := qb_1.mp c2
        exact ⟨.int, rfl, rfl, Nat.le_refl _, Nat.le_refl _, by rw [← hs, cmost, if_pos c2], rfl⟩
  refine step.1 _ _ _ _ _ _ _ sgX1_mostVerses_0_ok ?_
  exact loop 99 (Nat.le_refl _) rfl
end Q07K
