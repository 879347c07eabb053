section Q07E
theorem isR.door {h : qH} {a d l c : Nat} {D P U D' : Nat → Int32} {n k u st ve cl : Int32} (hR : isR h a d l c D P U n k u st ve cl) (hdl : d ≠ l) (hdc : d ≠ c) : isR (h.1, qup h.2 d (.inr (.inl (.int, 100, D')))) a d l c D' P U n k u st ve cl := by
  obtain ⟨h1, h2, h3, h4⟩ := hR
  exact ⟨(qup_n (q_ne h1 h2)).trans h1, qup_s, (qup_n (Ne.symm hdl)).trans h3, (qup_n (Ne.symm hdc)).trans h4⟩
theorem isR.chg {h : qH} {a d l c : Nat} {D P U U' : Nat → Int32} {n k u st ve cl : Int32} (hR : isR h a d l c D P U n k u st ve cl) (hlc : l ≠ c) (hdc : d ≠ c) : isR (h.1, qup h.2 c (.inr (.inl (.int, 100, U')))) a d l c D P U' n k u st ve cl := by
  obtain ⟨h1, h2, h3, h4⟩ := hR
  exact ⟨(qup_n (q_ne h1 h4)).trans h1, (qup_n hdc).trans h2, (qup_n hlc).trans h3, qup_s⟩
/-- a new door's ten facts -/
def adoor (D : Nat → Int32) (N : Nat) (s p j : Int32) : Nat → Int32 := upd (upd (upd (upd (upd (upd (upd (upd (upd (upd D (N * 10 + 0) s) (N * 10 + 1) p) (N * 10 + 2) j) (N * 10 + 3) 12) (N * 10 + 4) 6) (N * 10 + 5) 10) (N * 10 + 6) 12) (N * 10 + 7) 4) (N * 10 + 8) 0) (N * 10 + 9) 0
theorem R_addDoor {g : qG} (hg : qOK g) {h : qH} {a d l c : Nat} {D P U : Nat → Int32} {k u st ve cl : Int32} {N : Nat} (hR : isR h a d l c D P U (nI N) k u st ve cl) (hN : N < 10) (hdl : d ≠ l) (hdc : d ≠ c) (s p j : Int32) : qSpec g 2 0 0 mX6_addDoor [.ref a, .int s, .int p, .int j] h (fun r h' => r = none ∧ h' = (h.1, qup (qup h.2 d (.inr (.inl (.int, 100, adoor D N s p j)))) a (.inl (6, [.ref d, .ref l, .ref c, .int (nI (N + 1)), .int k, .int u, .int st, .int ve, .int cl])))) := by
  refine qSpec_run 6 "addDoor" false hg mX6_addDoor_ok rfl rfl (Nat.le_of_ble_eq_true rfl) (by decide) ?_
  intro run step
  refine step.1 _ _ _ _ _ _ _ sgX6_addDoor_0_ok ?_
  refine ⟨by decide, _, _, hR.1, rfl, ?_⟩
  refine Or.inl ⟨rfl, _, 1, 0, 0, _, _, _, qi_6_46, ⟨rfl, rfl⟩, ⟨hR.1, rfl⟩, rfl, rfl, R_setDoor hg hR N 0 _ hN (by decide), fun y1 h9 hy => ?_⟩
  obtain ⟨rfl, hh⟩ := hy
  rw [hh]
  clear hh
  have hR1 := hR.door (D' := upd D (N * 10 + 0) s) hdl hdc
  refine Or.inl ⟨rfl, _, 1, 0, 0, _, _, _, qi_6_46, ⟨rfl, rfl⟩, ⟨hR1.1, rfl⟩, rfl, rfl, R_setDoor hg hR1 N 1 _ hN (by decide), fun y1 h9 hy => ?_⟩
  obtain ⟨rfl, hh⟩ := hy
  rw [hh]
  clear hh
  have hR2 := hR1.door (D' := upd (upd D (N * 10 + 0) s) (N * 10 + 1) p) hdl hdc
  refine Or.inl ⟨rfl, _, 1, 0, 0, _, _, _, qi_6_46, ⟨rfl, rfl⟩, ⟨hR2.1, rfl⟩, rfl, rfl, R_setDoor hg hR2 N 2 _ hN (by decide), fun y1 h9 hy => ?_⟩
  obtain ⟨rfl, hh⟩ := hy
  rw [hh]
  clear hh
  have hR3 := hR2.door (D' := upd (upd (upd D (N * 10 + 0) s) (N * 10 + 1) p) (N * 10 + 2) j) hdl hdc
  refine Or.inl ⟨rfl, _, 1, 0, 0, _, _, _, qi_6_46, ⟨rfl, rfl⟩, ⟨hR3.1, rfl⟩, rfl, rfl, R_setDoor hg hR3 N 3 _ hN (by decide), fun y1 h9 hy => ?_⟩
  obtain ⟨rfl, hh⟩ := hy
  rw [hh]
  clear hh
  have hR4 := hR3.door (D' := upd (upd (upd (upd D (N * 10 + 0) s) (N * 10 + 1) p) (N * 10 + 2) j) (N * 10 + 3) 12) hdl hdc
  refine Or.inl ⟨rfl, _, 1, 0, 0, _, _, _, qi_6_46, ⟨rfl, rfl⟩, ⟨hR4.1, rfl⟩, rfl, rfl, R_setDoor hg hR4 N 4 _ hN (by decide), fun y1 h9 hy => ?_⟩
  obtain ⟨rfl, hh⟩ := hy
  rw [hh]
  clear hh
  have hR5 := hR4.door (D' := upd (upd (upd (upd (upd D (N * 10 + 0) s) (N * 10 + 1) p) (N * 10 + 2) j) (N * 10 + 3) 12) (N * 10 + 4) 6) hdl hdc
  refine Or.inl ⟨rfl, _, 1, 0, 0, _, _, _, qi_6_46, ⟨rfl, rfl⟩, ⟨hR5.1, rfl⟩, rfl, rfl, R_setDoor hg hR5 N 5 _ hN (by decide), fun y1 h9 hy => ?_⟩
  obtain ⟨rfl, hh⟩ := hy
  rw [hh]
  clear hh
  have hR6 := hR5.door (D' := upd (upd (upd (upd (upd (upd D (N * 10 + 0) s) (N * 10 + 1) p) (N * 10 + 2) j) (N * 10 + 3) 12) (N * 10 + 4) 6) (N * 10 + 5) 10) hdl hdc
  refine Or.inl ⟨rfl, _, 1, 0, 0, _, _, _, qi_6_46, ⟨rfl, rfl⟩, ⟨hR6.1, rfl⟩, rfl, rfl, R_setDoor hg hR6 N 6 _ hN (by decide), fun y1 h9 hy => ?_⟩
  obtain ⟨rfl, hh⟩ := hy
  rw [hh]
  clear hh
  have hR7 := hR6.door (D' := upd (upd (upd (upd (upd (upd (upd D (N * 10 + 0) s) (N * 10 + 1) p) (N * 10 + 2) j) (N * 10 + 3) 12) (N * 10 + 4) 6) (N * 10 + 5) 10) (N * 10 + 6) 12) hdl hdc
  refine Or.inl ⟨rfl, _, 1, 0, 0, _, _, _, qi_6_46, ⟨rfl, rfl⟩, ⟨hR7.1, rfl⟩, rfl, rfl, R_setDoor hg hR7 N 7 _ hN (by decide), fun y1 h9 hy => ?_⟩
  obtain ⟨rfl, hh⟩ := hy
  rw [hh]
  clear hh
  have hR8 := hR7.door (D' := upd (upd (upd (upd (upd (upd (upd (upd D (N * 10 + 0) s) (N * 10 + 1) p) (N * 10 + 2) j) (N * 10 + 3) 12) (N * 10 + 4) 6) (N * 10 + 5) 10) (N * 10 + 6) 12) (N * 10 + 7) 4) hdl hdc
  refine Or.inl ⟨rfl, _, 1, 0, 0, _, _, _, qi_6_46, ⟨rfl, rfl⟩, ⟨hR8.1, rfl⟩, rfl, rfl, R_setDoor hg hR8 N 8 _ hN (by decide), fun y1 h9 hy => ?_⟩
  obtain ⟨rfl, hh⟩ := hy
  rw [hh]
  clear hh
  have hR9 := hR8.door (D' := upd (upd (upd (upd (upd (upd (upd (upd (upd D (N * 10 + 0) s) (N * 10 + 1) p) (N * 10 + 2) j) (N * 10 + 3) 12) (N * 10 + 4) 6) (N * 10 + 5) 10) (N * 10 + 6) 12) (N * 10 + 7) 4) (N * 10 + 8) 0) hdl hdc
  refine Or.inl ⟨rfl, _, 1, 0, 0, _, _, _, qi_6_46, ⟨rfl, rfl⟩, ⟨hR9.1, rfl⟩, rfl, rfl, R_setDoor hg hR9 N 9 _ hN (by decide), fun y1 h9 hy => ?_⟩
  obtain ⟨rfl, hh⟩ := hy
  rw [hh]
  clear hh
  have hR10 := hR9.door (D' := upd (upd (upd (upd (upd (upd (upd (upd (upd (upd D (N * 10 + 0) s) (N * 10 + 1) p) (N * 10 + 2) j) (N * 10 + 3) 12) (N * 10 + 4) 6) (N * 10 + 5) 10) (N * 10 + 6) 12) (N * 10 + 7) 4) (N * 10 + 8) 0) (N * 10 + 9) 0) hdl hdc
  refine ⟨rfl, by decide, _, _, hR10.1, rfl, _, hR10.1, Nat.le_of_ble_eq_true rfl, rfl, rfl, Nat.le_refl _, Nat.le_refl _, rfl, ?_⟩
  rw [← nI_1]
  simp only [qup_qup]
  rfl
theorem R_way {g : qG} (hg : qOK g) {h : qH} {a d l c : Nat} {D P U : Nat → Int32} {n k u st ve cl : Int32} (hR : isR h a d l c D P U n k u st ve cl) (x p q : Nat) (hx : x < 10) (hp : P (x * 3 + 0) = nI p) (hp1 : p < 10) (hq : x ≠ 0 → P ((x - 1) * 3 + 0) = nI q ∧ q < 10) : qSpec g 2 0 0 mX6_way [.ref a, .int (nI x)] h (fun r h' => r = some (.int (iapart (D (p * 10 + 0)) (if x = 0 then st else D (q * 10 + 0)))) ∧ h' = h) := by
  refine qSpec_run 6 "way" false hg mX6_way_ok rfl rfl (Nat.le_of_ble_eq_true rfl) (by decide) ?_
  intro run step
  have fin : ∀ (L : List (Nat × Value)) (v : Int32), v = (if x = 0 then st else D (q * 10 + 0)) → L = [(0, .ref a), (1, .int (nI x))] → run 24 L [.int v] h 0 0 := by
    intro L v hv hL
    rw [hL]
    refine step.1 _ _ _ _ _ _ _ sgX6_way_24_ok ?_
    refine Or.inl ⟨rfl, _, 1, 0, 0, _, _, _, qi_6_54, ⟨rfl, rfl⟩, ⟨hR.1, rfl⟩, rfl, rfl, R_ofLine hg hR x 0 hx (by decide), fun y1 h9 hy => ?_⟩
    obtain ⟨rfl, hh⟩ := hy
    rw [hh, hp]
    clear hh
    refine Or.inl ⟨rfl, _, 1, 0, 0, _, _, _, qi_6_58, ⟨rfl, rfl⟩, ⟨hR.1, rfl⟩, rfl, rfl, R_of hg hR p 0 hp1 (by decide), fun y1 h9 hy => ?_⟩
    obtain ⟨rfl, hh⟩ := hy
    rw [hh]
    clear hh
    refine Or.inl ⟨rfl, _, 1, 0, 0, _, Or.inr qi_6_61, ⟨rfl, rfl⟩, rfl, rfl, sp_apart hg _ _, fun y1 h9 hy => ?_⟩
    obtain ⟨rfl, hh⟩ := hy
    rw [hh]
    clear hh
    exact ⟨.int, rfl, rfl, Nat.le_refl _, Nat.le_refl _, by rw [hv], rfl⟩
  refine step.1 _ _ _ _ _ _ _ sgX6_way_0_ok ?_
  refine ⟨fun c1 => ?_, fun c1 => ?_⟩
  · have hx0 : x ≠ 0 := fun e => c1 (by rw [e]; rfl)
    refine step.1 _ _ _ _ _ _ _ sgX6_way_11_ok ?_
    refine Or.inl ⟨rfl, _, 1, 0, 0, _, _, _, qi_6_54, ⟨rfl, rfl⟩, ⟨hR.1, rfl⟩, rfl, rfl, (show qSpec g 1 0 0 mX6_ofLine [.ref a, .int (nI x - 1), .int 0] h _ from (pk_sub (a := x) (b := 1) (by omega)).symm ▸ R_ofLine hg hR (x - 1) 0 (by omega) (by decide)), fun y1 h9 hy => ?_⟩
    obtain ⟨rfl, hh⟩ := hy
    rw [hh, (hq hx0).1]
    clear hh
    refine Or.inl ⟨rfl, _, 1, 0, 0, _, _, _, qi_6_58, ⟨rfl, rfl⟩, ⟨hR.1, rfl⟩, rfl, rfl, R_of hg hR q 0 (hq hx0).2 (by decide), fun y1 h9 hy => ?_⟩
    obtain ⟨rfl, hh⟩ := hy
    rw [hh]
    clear hh
    exact fin _ _ (by rw [if_neg hx0]) rfl
  · have hx0 : x = 0 := (nI_eq (b := 0) (by omega) (by decide)).mp c1
    refine ⟨by decide, _, _, hR.1, rfl, ?_⟩
    exact fin _ _ (by rw [if_pos hx0]) rfl
theorem R_longestAt {g : qG} (hg : qOK g) {h : qH} {a d l c : Nat} {D P U : Nat → Int32} {n k u st ve cl : Int32} (hR : isR h a d l c D P U n k u st ve cl) (x : Nat) (v r : Int32) (hx : x < 10) : qSpec g 2 0 0 mX6_longestAt [.ref a, .int (nI x), .int v, .int r] h (fun y h' => y = some (.int (2 * D (x * 10 + 8) + v * ve + (if r = 0 then 0 else 1) + D (x * 10 + 9))) ∧ h' = h) := by
  refine qSpec_run 6 "longestAt" false hg mX6_longestAt_ok rfl rfl (Nat.le_of_ble_eq_true rfl) (by decide) ?_
  intro run step
  have fin : ∀ (L : List (Nat × Value)) (w z : Int32), z = (if r = 0 then 0 else 1) → L = [(0, .ref a), (1, .int (nI x)), (2, .int v), (3, .int r)] → w = 2 * D (x * 10 + 8) + v * ve → run 25 L [.int z, .int w] h 0 0 := by
    intro L w z hz hL hw
    rw [hL]
    refine step.1 _ _ _ _ _ _ _ sgX6_longestAt_25_ok ?_
    refine Or.inl ⟨rfl, _, 1, 0, 0, _, _, _, qi_6_58, ⟨rfl, rfl⟩, ⟨hR.1, rfl⟩, rfl, rfl, R_of hg hR x 9 hx (by decide), fun y1 h9 hy => ?_⟩
    obtain ⟨rfl, hh⟩ := hy
    rw [hh]
    clear hh
    exact ⟨.int, rfl, rfl, Nat.le_refl _, Nat.le_refl _, by rw [hz, hw], rfl⟩
  refine step.1 _ _ _ _ _ _ _ sgX6_longestAt_0_ok ?_
  refine Or.inl ⟨rfl, _, 1, 0, 0, _, _, _, qi_6_58, ⟨rfl, rfl⟩, ⟨hR.1, rfl⟩, rfl, rfl, R_of hg hR x 8 hx (by decide), fun y1 h9 hy => ?_⟩
  obtain ⟨rfl, hh⟩ := hy
  rw [hh]
  clear hh
  refine ⟨by decide, _, _, hR.1, rfl, fun c1 => ?_, fun c1 => ?_⟩
  · have c1 : ¬ r = 0 := c1
    refine step.1 _ _ _ _ _ _ _ sgX6_longestAt_24_ok ?_
    exact fin _ _ _ (by rw [if_neg c1]) rfl rfl
  · have c1 : r = 0 := c1
    exact fin _ _ _ (by rw [if_pos c1]) rfl rfl
/-- is there a line of this door among the lines i .. i+m-1 -/
def lhas (P : Nat → Int32) (v : Int32) (i : Nat) : Nat → Bool
  | 0 => false
  | m + 1 => if P (i * 3 + 0) = v then true else lhas P v (i + 1) m
theorem R_hasLineAt {g : qG} (hg : qOK g) {h : qH} {a d l c : Nat} {D P U : Nat → Int32} {n u st ve cl : Int32} {K : Nat} (hR : isR h a d l c D P U n (nI K) u st ve cl) (hK : K ≤ 10) (v : Int32) : qSpec g 2 0 0 mX6_hasLineAt [.ref a, .int v] h (fun r h' => r = some (.int (qb (lhas P v 0 K))) ∧ h' = h) := by
  refine qSpec_run 6 "hasLineAt" false hg mX6_hasLineAt_ok rfl rfl (Nat.le_of_ble_eq_true rfl) (by decide) ?_
  intro run step
  have loop : ∀ (m i : Nat), i + m = K → lhas P v i m = lhas P v 0 K → run 2 [(2, .int (nI i)), (0, .ref a), (1, .int v)] [] h 0 0 := by
    intro m
    induction m with
    | zero =>
      intro i hi hs
      refine step.1 _ _ _ _ _ _ _ sgX6_hasLineAt_2_ok ?_
      refine ⟨by decide, _, _, hR.1, rfl, fun c1 => ?_, fun c1 => absurd ((nI_leI (a := K) (b := i) (by omega) (by omega)).mpr (by omega)) c1⟩
      refine step.1 _ _ _ _ _ _ _ sgX6_hasLineAt_28_ok ?_
      exact ⟨.boolean, rfl, rfl, Nat.le_refl _, Nat.le_refl _, by rw [← hs]; rfl, rfl⟩
    | succ m ih =>
      intro i hi hs
      refine step.1 _ _ _ _ _ _ _ sgX6_hasLineAt_2_ok ?_
      refine ⟨by decide, _, _, hR.1, rfl, fun c1 => absurd c1 (h_nle (by omega) (by omega)), fun c1 => ?_⟩
      refine Or.inl ⟨rfl, _, 1, 0, 0, _, _, _, qi_6_54, ⟨rfl, rfl⟩, ⟨hR.1, rfl⟩, rfl, rfl, R_ofLine hg hR i 0 (by omega) (by decide), fun y1 h9 hy => ?_⟩
      obtain ⟨rfl, hh⟩ := hy
      rw [hh]
      clear hh
      refine ⟨fun c2 => ?_, fun c2 => ?_⟩
      · have c2 : ¬ P (i * 3 + 0) = v := c2
        refine step.1 _ _ _ _ _ _ _ sgX6_hasLineAt_22_ok ?_
        have kk := ih (i + 1) (by omega) (by rw [← hs, lhas, if_neg c2])
        rw [← nI_1] at kk
        exact kk
      · have c2 : P (i * 3 + 0) = v := c2
        exact ⟨.boolean, rfl, rfl, Nat.le_refl _, Nat.le_refl _, by rw [← hs, lhas, if_pos c2]; rfl, rfl⟩
  refine step.1 _ _ _ _ _ _ _ sgX6_hasLineAt_0_ok ?_
  exact loop K 0 (by omega) rfl
/-- what a change notes -/
def unote (U : Nat → Int32) (x : Nat) (kd p q r s : Int32) : Nat → Int32 := upd (upd (upd (upd (upd U (x * 5) kd) (x * 5 + 1) p) (x * 5 + 2) q) (x * 5 + 3) r) (x * 5 + 4) s
theorem R_note {g : qG} (hg : qOK g) {h : qH} {a d l c : Nat} {D P U : Nat → Int32} {n k st ve cl : Int32} {x : Nat} (hR : isR h a d l c D P U n k (nI x) st ve cl) (hx : x < 20) (kd p q r s : Int32) : qSpec g 2 0 0 mX6_note [.ref a, .int kd, .int p, .int q, .int r, .int s] h (fun y h' => y = none ∧ h' = (h.1, qup (qup h.2 c (.inr (.inl (.int, 100, unote U x kd p q r s)))) a (.inl (6, [.ref d, .ref l, .ref c, .int n, .int k, .int (nI (x + 1)), .int st, .int ve, .int cl])))) := by
  refine qSpec_run 6 "note" false hg mX6_note_ok rfl rfl (Nat.le_of_ble_eq_true rfl) (by decide) ?_
  intro run step
  obtain ⟨h1, h2, h3, h4⟩ := hR
  have n1 := q_ne h1 h4
  have hm : (nI x * 5 : Int32) = nI (x * 5) := pk_mul x 5
  have hi : ∀ j : Nat, (nI (x * 5) + nI j : Int32) = nI (x * 5 + j) := fun j => nI_add _ _
  refine step.1 _ _ _ _ _ _ _ sgX6_note_0_ok ?_
  refine ⟨by decide, _, _, h1, rfl, ?_⟩
  refine Or.inl ⟨rfl, _, 1, 0, 0, _, Or.inr qi_6_50, ⟨rfl, rfl⟩, rfl, rfl, sp_within hg (nI x) 0 19, fun y1 h9 hy => ?_⟩
  obtain ⟨rfl, hh⟩ := hy
  rw [hh]
  clear hh
  have hw : (decide ((0 : Int32) ≤ nI x) && decide (nI x ≤ 19)) = true := by
    rw [decide_eq_true (Int32.not_lt.mp (h_nn (j := x) (by omega))), decide_eq_true (p := nI x ≤ 19) ((nI_leI (b := 19) (by omega) (by decide)).mpr (by omega))]; rfl
  rw [hw]
  refine ⟨fun c1 => absurd c1 (by decide), fun c1 => ?_⟩
  refine ⟨by decide, _, _, h1, rfl, ?_⟩
  refine ⟨by decide, _, _, h1, rfl, _, _, h4, ?_, ?_⟩
  · exact hm ▸ vp_in_nI (by omega) (by decide)
  refine ⟨by decide, _, _, (qup_n n1).trans h1, rfl, _, _, qup_s, ?_, ?_⟩
  · rw [hm]; exact (hi 1) ▸ vp_in_nI (by omega) (by decide)
  refine ⟨by decide, _, _, (qup_n n1).trans ((qup_n n1).trans h1), rfl, _, _, qup_s, ?_, ?_⟩
  · rw [hm]; exact (hi 2) ▸ vp_in_nI (by omega) (by decide)
  refine ⟨by decide, _, _, (qup_n n1).trans ((qup_n n1).trans ((qup_n n1).trans h1)), rfl, _, _, qup_s, ?_, ?_⟩
  · rw [hm]; exact (hi 3) ▸ vp_in_nI (by omega) (by decide)
  refine ⟨by decide, _, _, (qup_n n1).trans ((qup_n n1).trans ((qup_n n1).trans ((qup_n n1).trans h1))), rfl, _, _, qup_s, ?_, ?_⟩
  · rw [hm]; exact (hi 4) ▸ vp_in_nI (by omega) (by decide)
  refine ⟨rfl, by decide, _, _, (qup_n n1).trans ((qup_n n1).trans ((qup_n n1).trans ((qup_n n1).trans ((qup_n n1).trans h1)))), rfl, _, (qup_n n1).trans ((qup_n n1).trans ((qup_n n1).trans ((qup_n n1).trans ((qup_n n1).trans h1)))), Nat.le_of_ble_eq_true rfl, rfl, ?_⟩
  refine step.1 _ _ _ _ _ _ _ sgX6_note_81_ok ?_
  refine ⟨rfl, Nat.le_refl _, Nat.le_refl _, rfl, ?_⟩
  rw [hm, show (nI (x * 5) + 1 : Int32) = nI (x * 5 + 1) from hi 1, show (nI (x * 5) + 2 : Int32) = nI (x * 5 + 2) from hi 2, show (nI (x * 5) + 3 : Int32) = nI (x * 5 + 3) from hi 3, show (nI (x * 5) + 4 : Int32) = nI (x * 5 + 4) from hi 4, h_tn (by omega), h_tn (by omega), h_tn (by omega), h_tn (by omega), h_tn (by omega), ← nI_1]
  simp only [qup_qup]
  rfl
end Q07E
