section Q07N
def wup (w : Nat → Nat) (k v : Nat) : Nat → Nat := fun j => if j = k then v else w j
theorem upd_wup {w : Nat → Nat} {k v : Nat} : upd (fun j => nI (w j)) k (nI v) = fun j => nI (wup w k v j) := by
  funext j
  unfold upd wup
  split <;> rfl
theorem wup_lt {w : Nat → Nat} {k v : Nat} (h : ∀ j, w j < 10) (hv : v < 10) : ∀ j, wup w k v j < 10 := by
  intro j
  unfold wup
  split
  · exact hv
  · exact h j
/-- door d goes ahead of those that stand at a greater street -/
def sins (D : Nat → Int32) (d : Nat) : Nat → (Nat → Nat) → Nat × (Nat → Nat)
  | 0, w => (0, w)
  | i + 1, w => if D (w i * 10 + 0) ≤ D (d * 10 + 0) then (i + 1, w) else sins D d i (wup w (i + 1) (w i))
def srow (D : Nat → Int32) : Nat → Nat → (Nat → Nat) → (Nat → Nat)
  | 0, _, w => w
  | m + 1, d, w => srow D m (d + 1) (wup (sins D d d w).2 (sins D d d w).1 d)
theorem sins_le (D : Nat → Int32) (d : Nat) : ∀ (i : Nat) (w : Nat → Nat), (sins D d i w).1 ≤ i
  | 0, _ => Nat.le_refl _
  | i + 1, w => by
    rw [sins]
    split
    · exact Nat.le_refl _
    · exact Nat.le_succ_of_le (sins_le D d i _)
theorem sins_lt (D : Nat → Int32) (d : Nat) : ∀ (i : Nat) (w : Nat → Nat), (∀ j, w j < 10) → ∀ j, (sins D d i w).2 j < 10
  | 0, _, h => h
  | i + 1, w, h => by
    rw [sins]
    split
    · exact h
    · exact sins_lt D d i _ (wup_lt h (h i))
theorem srow_lt (D : Nat → Int32) : ∀ (m d : Nat) (w : Nat → Nat), d + m ≤ 10 → (∀ j, w j < 10) → ∀ j, srow D m d w j < 10
  | 0, _, _, _, h => h
  | m + 1, d, w, hd, h => srow_lt D m (d + 1) _ (by omega) (wup_lt (sins_lt D d d w h) (by omega))
abbrev pS : Type := (Nat → Int32) × Int32
/-- the stretch of so many from the i-th on -/
def pst (D : Nat → Int32) (w : Nat → Nat) (len i : Nat) (s : pS) : pS := if D (w i * 10 + 1) - s.1 (i + 1) < D (w (i + len - 1) * 10 + 1) - s.1 i then (upd s.1 i (D (w (i + len - 1) * 10 + 1) - s.1 i), nI (w (i + len - 1))) else (upd s.1 i (D (w i * 10 + 1) - s.1 (i + 1)), nI (w i))
def pin (D : Nat → Int32) (w : Nat → Nat) (len : Nat) : Nat → Nat → pS → pS
  | 0, _, s => s
  | m + 1, i, s => pin D w len m (i + 1) (pst D w len i s)
def pout (D : Nat → Int32) (w : Nat → Nat) (n : Nat) : Nat → Nat → pS → pS
  | 0, _, s => s
  | m + 1, len, s => pout D w n m (len + 1) (pin D w len (n + 1 - len) 0 s)
set_option maxHeartbeats 2000000 in
theorem T_standInRow {g : qG} (hg : qOK g) {h : qH} {D P U : Nat → Int32} {k u st ve cl : Int32} {nn : Nat} (hR : isR h 3 4 5 6 D P U (nI nn) k u st ve cl) (hn : nn ≤ 10) {tc tp tj tm : Int64} {sd : Int32} {sw : Int64} {pa pd : Int32} (hT : h.2 50 = some (T50 tc tp tj tm sd sw pa pd)) {w : Nat → Nat} (hw : ∀ j, w j < 10) (hr : h.2 52 = some (.inr (.inl (.int, 10, fun j => nI (w j))))) : qSpec g 2 0 0 mX9_standInRow [.ref 50] h (fun r h' => r = none ∧ same h h' [52] ∧ h'.2 52 = some (.inr (.inl (.int, 10, fun j => nI ((srow D nn 0 w) j))))) := by
  refine qSpec_run 9 "standInRow" false hg mX9_standInRow_ok rfl rfl (Nat.le_of_ble_eq_true rfl) (by decide) ?_
  intro run step
  have loop : ∀ (mm d : Nat) (w1 : Nat → Nat) (hX : qH), d + mm = nn → (∀ j, w1 j < 10) → srow D mm d w1 = srow D nn 0 w → same h hX [52] → hX.2 52 = some (.inr (.inl (.int, 10, fun j => nI (w1 j)))) → run 2 [(1, .int (nI d)), (0, .ref 50)] [] hX 0 0 := by
    intro mm
    induction mm with
    | zero =>
      intro d w1 hX hd hw1 hst hsX hrX
      have hTX := (hsX.2 50 (by simp)).trans hT
      have hRX := hR.sm hsX (by simp) (by simp) (by simp) (by simp)
      refine step.1 _ _ _ _ _ _ _ sgX9_standInRow_2_ok ?_
      refine ⟨by decide, _, _, hTX, rfl, ?_⟩
      refine ⟨by decide, _, _, hRX.1, rfl, ?_⟩
      refine ⟨fun c10 => ?_, fun c10 => absurd ((nI_leI (a := nn) (b := d) (by omega) (by omega)).mpr (by omega)) c10⟩
      refine step.1 _ _ _ _ _ _ _ sgX9_standInRow_97_ok ?_
      refine ⟨rfl, Nat.le_refl _, Nat.le_refl _, ?_⟩
      exact ⟨rfl, hsX, by rw [← hst]; exact hrX⟩
    | succ mm ih =>
      intro d w1 hX hd hw1 hst hsX hrX
      have cont : ∀ (hX : qH) (w2 : Nat → Nat) (p : Nat), p ≤ d → (∀ j, w2 j < 10) → (p, w2) = sins D d d w1 → same h hX [52] → hX.2 52 = some (.inr (.inl (.int, 10, fun j => nI (w2 j)))) → ∀ y : Int32, run 84 [(3, .int y), (2, .int (nI p)), (1, .int (nI d)), (0, .ref 50)] [] hX 0 0 := by
        intro hX w2 p hp hw2 hp2 hsX hrX y
        have hTX := (hsX.2 50 (by simp)).trans hT
        have hRX := hR.sm hsX (by simp) (by simp) (by simp) (by simp)
        have hp2 : sins D d d w1 = (p, w2) := hp2.symm
        refine step.1 _ _ _ _ _ _ _ sgX9_standInRow_84_ok ?_
        refine ⟨by decide, _, _, hTX, rfl, ?_⟩
        refine ⟨_, _, hrX, vp_in_nI (by omega) (by decide), ?_⟩
        rw [h_tn (n := p) (by omega)]
        refine step.2 _ _ _ _ _ _ _ (qsub_cons 0 rfl (qsub_cons 3 rfl qsub_nil)) ?_
        have kk2 := ih (d + 1) (wup w2 p d) (hX.1, qup hX.2 52 (.inr (.inl (.int, 10, fun j => nI (wup w2 p d j))))) (by omega) (wup_lt hw2 (by omega)) (by rw [← hst, srow, hp2]) (hsX.tr (l' := [52]) (l2 := [52]) (same.up (by simp)) (by simp) (by simp)) rfl
        rw [← upd_wup, ← nI_1] at kk2
        exact kk2
      have exit : ∀ (i p : Nat) (hX : qH) (w2 : Nat → Nat), i < p → p ≤ d → (∀ j, w2 j < 10) → (p, w2) = sins D d d w1 → same h hX [52] → hX.2 52 = some (.inr (.inl (.int, 10, fun j => nI (w2 j)))) → run 23 [(3, .int (nI i)), (2, .int (nI p)), (1, .int (nI d)), (0, .ref 50)] [] hX 0 0 := by
        intro i p hX w2 hip hpd hw2 hp2 hsX hrX
        have hTX := (hsX.2 50 (by simp)).trans hT
        have hRX := hR.sm hsX (by simp) (by simp) (by simp) (by simp)
        refine step.1 _ _ _ _ _ _ _ sgX9_standInRow_23_ok ?_
        refine ⟨fun c24 => ?_, fun c24 => ?_⟩
        · exact cont hX w2 p (by omega) hw2 hp2 hsX hrX (nI i)
        · refine ⟨fun c29 => ?_, fun c29 => absurd ((nI_eq (by omega) (by omega)).mp c29) (by omega)⟩
          exact cont hX w2 p (by omega) hw2 hp2 hsX hrX (nI i)
      have inner : ∀ (i : Nat) (hX : qH) (w2 : Nat → Nat), i ≤ d → (∀ j, w2 j < 10) → sins D d i w2 = sins D d d w1 → same h hX [52] → hX.2 52 = some (.inr (.inl (.int, 10, fun j => nI (w2 j)))) → run 23 [(3, .int (nI i)), (2, .int (nI i)), (1, .int (nI d)), (0, .ref 50)] [] hX 0 0 := by
        intro i
        induction i with
        | zero =>
          intro hX w2 hid hw2 hst2 hsX hrX
          have hTX := (hsX.2 50 (by simp)).trans hT
          have hRX := hR.sm hsX (by simp) (by simp) (by simp) (by simp)
          refine step.1 _ _ _ _ _ _ _ sgX9_standInRow_23_ok ?_
          refine ⟨fun c24 => ?_, fun c24 => absurd (by decide : nI 0 ≤ (0 : Int32)) c24⟩
          exact cont hX w2 0 (by omega) hw2 hst2 hsX hrX (nI 0)
        | succ i ihi =>
          intro hX w2 hid hw2 hst2 hsX hrX
          have hTX := (hsX.2 50 (by simp)).trans hT
          have hRX := hR.sm hsX (by simp) (by simp) (by simp) (by simp)
          have e1 : (nI (i + 1) - 1 : Int32) = nI i := pk_sub (a := i + 1) (b := 1) (by omega)
          have e2 : (nI (i + 1) + (-1) : Int32) = nI i := by rw [← e1]; exact (Int32.sub_eq_add_neg _ _).symm
          refine step.1 _ _ _ _ _ _ _ sgX9_standInRow_23_ok ?_
          refine ⟨fun c24 => absurd c24 (h_nle (a := 0) (by omega) (by omega)), fun c24 => ?_⟩
          refine ⟨fun c29 => absurd rfl c29, fun c29 => ?_⟩
          refine ⟨by decide, _, _, hTX, rfl, ?_⟩
          refine ⟨by decide, _, _, hTX, rfl, ?_⟩
          refine ⟨_, _, hrX, by rw [e1]; exact vp_in_nI (by omega) (by decide), ?_⟩
          rw [e1, h_tn (n := i) (by omega)]
          refine Or.inl ⟨rfl, _, 1, 0, 0, _, _, _, qi_9_111, ⟨rfl, rfl⟩, ⟨hRX.1, rfl⟩, rfl, rfl, R_of hg hRX (w2 i) 0 (hw2 i) (by decide), fun y45 h45 hy45 => ?_⟩
          obtain ⟨rfl, hh⟩ := hy45
          rw [hh]
          clear hh
          refine ⟨by decide, _, _, hTX, rfl, ?_⟩
          refine Or.inl ⟨rfl, _, 1, 0, 0, _, _, _, qi_9_111, ⟨rfl, rfl⟩, ⟨hRX.1, rfl⟩, rfl, rfl, R_of hg hRX d 0 (by omega) (by decide), fun y54 h54 hy54 => ?_⟩
          obtain ⟨rfl, hh⟩ := hy54
          rw [hh]
          clear hh
          refine ⟨fun c57 => ?_, fun c57 => ?_⟩
          · refine step.1 _ _ _ _ _ _ _ sgX9_standInRow_78_ok ?_
            show run 23 [(3, .int (nI (i + 1) + (-1))), (2, .int (nI (i + 1))), (1, .int (nI d)), (0, .ref 50)] [] _ 0 0
            rw [e2]
            exact exit i (i + 1) hX w2 (by omega) (by omega) hw2 (by rw [← hst2, sins, if_pos c57]) hsX hrX
          · refine ⟨by decide, _, _, hTX, rfl, ?_⟩
            refine ⟨by decide, _, _, hTX, rfl, ?_⟩
            refine ⟨_, _, hrX, by rw [e1]; exact vp_in_nI (by omega) (by decide), ?_⟩
            rw [e1, h_tn (n := i) (by omega)]
            refine ⟨_, _, hrX, vp_in_nI (by omega) (by decide), ?_⟩
            rw [h_tn (n := i + 1) (by omega)]
            refine step.1 _ _ _ _ _ _ _ sgX9_standInRow_78_ok ?_
            show run 23 [(3, .int (nI (i + 1) + (-1))), (2, .int (nI (i + 1) - 1)), (1, .int (nI d)), (0, .ref 50)] [] _ 0 0
            rw [e1, e2]
            have kk2 := ihi (hX.1, qup hX.2 52 (.inr (.inl (.int, 10, fun j => nI (wup w2 (i + 1) (w2 i) j))))) (wup w2 (i + 1) (w2 i)) (by omega) (wup_lt hw2 (hw2 i)) (by rw [← hst2, sins, if_neg c57]) (hsX.tr (l' := [52]) (l2 := [52]) (same.up (by simp)) (by simp) (by simp)) rfl
            rw [← upd_wup] at kk2
            exact kk2
      have hTX := (hsX.2 50 (by simp)).trans hT
      have hRX := hR.sm hsX (by simp) (by simp) (by simp) (by simp)
      refine step.1 _ _ _ _ _ _ _ sgX9_standInRow_2_ok ?_
      refine ⟨by decide, _, _, hTX, rfl, ?_⟩
      refine ⟨by decide, _, _, hRX.1, rfl, ?_⟩
      refine ⟨fun c10 => absurd ((nI_leI (a := nn) (b := d) (by omega) (by omega)).mp c10) (by omega), fun c10 => ?_⟩
      refine ⟨fun c16 => absurd c16 (h_nle (b := 10) (by omega) (by decide)), fun c16 => ?_⟩
      exact inner d hX w1 (Nat.le_refl _) hw1 rfl hsX hrX
  refine step.1 _ _ _ _ _ _ _ sgX9_standInRow_0_ok ?_
  exact loop nn 0 w h (by omega) hw rfl same.rf hr
set_option maxHeartbeats 2000000 in
theorem T_playParty {g : qG} (hg : qOK g) {h : qH} {D P U : Nat → Int32} {k u st ve cl : Int32} {nn : Nat} (hR : isR h 3 4 5 6 D P U (nI nn) k u st ve cl) (hn : nn ≤ 10) {tc tp tj tm : Int64} {sd : Int32} {sw : Int64} {pa pd : Int32} (hT : h.2 50 = some (T50 tc tp tj tm sd sw pa pd)) {w : Nat → Nat} (hw : ∀ j, w j < 10) (hr : h.2 52 = some (.inr (.inl (.int, 10, fun j => nI (w j))))) {ah : Nat → Int32} (h3 : h.2 53 = some (.inr (.inl (.int, 11, ah)))) : qSpec g 3 0 0 mX9_playParty [.ref 50] h (fun r h' => r = none ∧ same h h' [50, 52, 53] ∧ h'.2 52 = some (.inr (.inl (.int, 10, fun j => nI ((srow D nn 0 w) j)))) ∧ ∃ a0 : Nat → Int32, (∀ j : Nat, j < 11 → a0 j = 0) ∧ h'.2 50 = some (T50 tc tp tj tm sd sw ((pout D (srow D nn 0 w) nn nn 1 (a0, -1)).1 0) (pout D (srow D nn 0 w) nn nn 1 (a0, -1)).2) ∧ h'.2 53 = some (.inr (.inl (.int, 11, (pout D (srow D nn 0 w) nn nn 1 (a0, -1)).1)))) := by
  refine qSpec_run 9 "playParty" false hg mX9_playParty_ok rfl rfl (Nat.le_of_ble_eq_true rfl) (by decide) ?_
  intro run step
  have hwl := srow_lt D nn 0 w (by omega) hw
  have outer : ∀ (a0 : Nat → Int32), (∀ j : Nat, j < 11 → a0 j = 0) → ∀ (mm len : Nat) (s : pS) (hX : qH), len + mm = nn + 1 → pout D (srow D nn 0 w) nn mm len s = pout D (srow D nn 0 w) nn nn 1 (a0, -1) → same h hX [50, 52, 53] → hX.2 52 = some (.inr (.inl (.int, 10, fun j => nI ((srow D nn 0 w) j)))) → hX.2 50 = some (T50 tc tp tj tm sd sw 0 s.2) → hX.2 53 = some (.inr (.inl (.int, 11, s.1))) → 1 ≤ len → run 37 [(1, .int (nI len)), (0, .ref 50)] [] hX 0 0 := by
    intro a0 hz mm
    induction mm with
    | zero =>
      intro len s hX hd hst hsX hrX hTX h3X hl1
      have hRX := hR.sm hsX (by simp) (by simp) (by simp) (by simp)
      refine step.1 _ _ _ _ _ _ _ sgX9_playParty_37_ok ?_
      refine ⟨by decide, _, _, hTX, rfl, ?_⟩
      refine ⟨by decide, _, _, hRX.1, rfl, ?_⟩
      refine ⟨fun c45 => ?_, fun c45 => absurd ((nI_ltI (a := nn) (b := len) (by omega) (by omega)).mpr (by omega)) c45⟩
      refine step.1 _ _ _ _ _ _ _ sgX9_playParty_178_ok ?_
      refine ⟨by decide, _, _, hTX, rfl, ?_⟩
      refine ⟨_, _, h3X, vp_in_nI (n := 0) (by decide) (by decide), ?_⟩
      refine ⟨_, hTX, Nat.le_of_ble_eq_true rfl, rfl, ?_⟩
      refine ⟨rfl, Nat.le_refl _, Nat.le_refl _, ?_⟩
      refine ⟨rfl, hsX.tr (l' := [50]) (l2 := [50, 52, 53]) (same.up (by simp)) (by simp) (by simp), hrX, a0, hz, ?_, by rw [← hst]; exact h3X⟩
      rw [← hst]; rfl
    | succ mm ih =>
      intro len s hX hd hst hsX hrX hTX h3X hl1
      have inner : ∀ (hX : qH) (mi i : Nat) (s2 : pS), i + mi = nn + 1 - len → pin D (srow D nn 0 w) len mi i s2 = pin D (srow D nn 0 w) len (nn + 1 - len) 0 s → same h hX [50, 52, 53] → hX.2 52 = some (.inr (.inl (.int, 10, fun j => nI ((srow D nn 0 w) j)))) → hX.2 50 = some (T50 tc tp tj tm sd sw 0 s2.2) → hX.2 53 = some (.inr (.inl (.int, 11, s2.1))) → run 50 [(2, .int (nI i)), (1, .int (nI len)), (0, .ref 50)] [] hX 0 0 := by
        intro hX mi
        induction mi generalizing hX with
        | zero =>
            intro i s2 hi hst2 hsX hrX hTX h3X
            have hRX := hR.sm hsX (by simp) (by simp) (by simp) (by simp)
            refine step.1 _ _ _ _ _ _ _ sgX9_playParty_50_ok ?_
            refine ⟨by decide, _, _, hTX, rfl, ?_⟩
            refine ⟨by decide, _, _, hRX.1, rfl, ?_⟩
            refine ⟨fun c60 => ?_, fun c60 => absurd ((nI_ltI (a := nn) (b := i + len) (by omega) (by omega)).mpr (by omega)) (by rw [← nI_add]; exact c60)⟩
            
            refine step.1 _ _ _ _ _ _ _ sgX9_playParty_172_ok ?_
            refine step.2 _ _ _ _ _ _ _ (qsub_cons 0 rfl (qsub_cons 2 rfl qsub_nil)) ?_
            have kk2 := ih (len + 1) s2 hX (by omega) (by rw [← hst, pout, ← hst2]; rfl) hsX hrX hTX h3X (by omega)
            rw [← nI_1] at kk2
            exact kk2
        | succ mi ihi =>
            intro i s2 hi hst2 hsX hrX hTX h3X
            have hRX := hR.sm hsX (by simp) (by simp) (by simp) (by simp)
            have eL : (nI i + nI len - 1 : Int32) = nI (i + len - 1) := by rw [nI_add]; exact pk_sub (a := i + len) (b := 1) (by omega)
            refine step.1 _ _ _ _ _ _ _ sgX9_playParty_50_ok ?_
            refine ⟨by decide, _, _, hTX, rfl, ?_⟩
            refine ⟨by decide, _, _, hRX.1, rfl, ?_⟩
            refine ⟨fun c60 => absurd ((nI_ltI (a := nn) (b := i + len) (by omega) (by omega)).mp (by rw [← nI_add]; exact c60)) (by omega), fun c60 => ?_⟩
            refine ⟨fun c68 => absurd ((nI_ltI (a := 10) (b := i + len) (by omega) (by omega)).mp (by rw [← nI_add]; exact c68)) (by omega), fun c68 => ?_⟩
            refine ⟨by decide, _, _, hTX, rfl, ?_⟩
            refine ⟨_, _, hrX, vp_in_nI (by omega) (by decide), ?_⟩
            rw [h_tn (n := i) (by omega)]
            refine ⟨by decide, _, _, hTX, rfl, ?_⟩
            refine ⟨_, _, hrX, by rw [eL]; exact vp_in_nI (by omega) (by decide), ?_⟩
            rw [eL, h_tn (n := i + len - 1) (by omega)]
            refine ⟨by decide, _, _, hTX, rfl, ?_⟩
            refine Or.inl ⟨rfl, _, 1, 0, 0, _, _, _, qi_9_111, ⟨rfl, rfl⟩, ⟨hRX.1, rfl⟩, rfl, rfl, R_of hg hRX ((srow D nn 0 w) i) 1 (hwl i) (by decide), fun y96 h96 hy96 => ?_⟩
            obtain ⟨rfl, hh⟩ := hy96
            rw [hh]
            clear hh
            refine ⟨by decide, _, _, hTX, rfl, ?_⟩
            refine ⟨_, _, h3X, by rw [nI_1]; exact vp_in_nI (by omega) (by decide), ?_⟩
            rw [nI_1, h_tn (n := i + 1) (by omega)]
            refine ⟨by decide, _, _, hTX, rfl, ?_⟩
            refine Or.inl ⟨rfl, _, 1, 0, 0, _, _, _, qi_9_111, ⟨rfl, rfl⟩, ⟨hRX.1, rfl⟩, rfl, rfl, R_of hg hRX ((srow D nn 0 w) (i + len - 1)) 1 (hwl _) (by decide), fun y117 h117 hy117 => ?_⟩
            obtain ⟨rfl, hh⟩ := hy117
            rw [hh]
            clear hh
            refine ⟨by decide, _, _, hTX, rfl, ?_⟩
            refine ⟨_, _, h3X, vp_in_nI (by omega) (by decide), ?_⟩
            rw [h_tn (n := i) (by omega)]
            refine ⟨by decide, _, _, hTX, rfl, ?_⟩
            refine ⟨fun c138 => ?_, fun c138 => ?_⟩
            · refine step.1 _ _ _ _ _ _ _ sgX9_playParty_146_ok ?_
              refine step.1 _ _ _ _ _ _ _ sgX9_playParty_148_ok ?_
              refine ⟨_, _, h3X, vp_in_nI (by omega) (by decide), ?_⟩
              rw [h_tn (n := i) (by omega)]
              refine ⟨fun c154 => ?_, fun c154 => ?_⟩
              · refine step.1 _ _ _ _ _ _ _ sgX9_playParty_161_ok ?_
                refine step.1 _ _ _ _ _ _ _ sgX9_playParty_163_ok ?_
                refine ⟨_, hTX, Nat.le_of_ble_eq_true rfl, rfl, ?_⟩
                refine step.2 _ _ _ _ _ _ _ (qsub_cons 0 rfl (qsub_cons 5 rfl (qsub_cons 6 rfl qsub_nil))) ?_
                have e3 : pst D (srow D nn 0 w) len i s2 = (upd s2.1 i (D ((srow D nn 0 w) (i + len - 1) * 10 + 1) - s2.1 i), nI ((srow D nn 0 w) (i + len - 1))) := if_pos c138
                have hfin : ∀ e1 e2 : qE, same hX (hX.1, qup (qup hX.2 53 e1) 50 e2) [50, 53] := fun e1 e2 => ⟨rfl, fun j hj => by
                  have hj1 : j ≠ 50 := fun q => hj (by rw [q]; simp)
                  have hj2 : j ≠ 53 := fun q => hj (by rw [q]; simp)
                  simp only [qup_n hj1, qup_n hj2]⟩
                have kk2 := ihi _ (i + 1) (pst D (srow D nn 0 w) len i s2) (by omega) hst2 (hsX.tr (l' := [50, 53]) (l2 := [50, 52, 53]) (hfin (.inr (.inl (.int, 11, (pst D (srow D nn 0 w) len i s2).1))) (T50 tc tp tj tm sd sw 0 (pst D (srow D nn 0 w) len i s2).2)) (by simp) (by simp)) hrX rfl rfl
                rw [← nI_1] at kk2
                rw [e3] at kk2
                exact kk2
              · refine step.1 _ _ _ _ _ _ _ sgX9_playParty_163_ok ?_
                refine ⟨_, hTX, Nat.le_of_ble_eq_true rfl, rfl, ?_⟩
                refine step.2 _ _ _ _ _ _ _ (qsub_cons 0 rfl (qsub_cons 5 rfl (qsub_cons 6 rfl qsub_nil))) ?_
                exact absurd c138 c154
            · refine step.1 _ _ _ _ _ _ _ sgX9_playParty_148_ok ?_
              refine ⟨_, _, h3X, vp_in_nI (by omega) (by decide), ?_⟩
              rw [h_tn (n := i) (by omega)]
              refine ⟨fun c154 => ?_, fun c154 => ?_⟩
              · refine step.1 _ _ _ _ _ _ _ sgX9_playParty_161_ok ?_
                refine step.1 _ _ _ _ _ _ _ sgX9_playParty_163_ok ?_
                refine ⟨_, hTX, Nat.le_of_ble_eq_true rfl, rfl, ?_⟩
                refine step.2 _ _ _ _ _ _ _ (qsub_cons 0 rfl (qsub_cons 5 rfl (qsub_cons 6 rfl qsub_nil))) ?_
                exact absurd c154 c138
              · refine step.1 _ _ _ _ _ _ _ sgX9_playParty_163_ok ?_
                refine ⟨_, hTX, Nat.le_of_ble_eq_true rfl, rfl, ?_⟩
                refine step.2 _ _ _ _ _ _ _ (qsub_cons 0 rfl (qsub_cons 5 rfl (qsub_cons 6 rfl qsub_nil))) ?_
                have e3 : pst D (srow D nn 0 w) len i s2 = (upd s2.1 i (D ((srow D nn 0 w) i * 10 + 1) - s2.1 (i + 1)), nI ((srow D nn 0 w) i)) := if_neg c138
                have hfin : ∀ e1 e2 : qE, same hX (hX.1, qup (qup hX.2 53 e1) 50 e2) [50, 53] := fun e1 e2 => ⟨rfl, fun j hj => by
                  have hj1 : j ≠ 50 := fun q => hj (by rw [q]; simp)
                  have hj2 : j ≠ 53 := fun q => hj (by rw [q]; simp)
                  simp only [qup_n hj1, qup_n hj2]⟩
                have kk2 := ihi _ (i + 1) (pst D (srow D nn 0 w) len i s2) (by omega) hst2 (hsX.tr (l' := [50, 53]) (l2 := [50, 52, 53]) (hfin (.inr (.inl (.int, 11, (pst D (srow D nn 0 w) len i s2).1))) (T50 tc tp tj tm sd sw 0 (pst D (srow D nn 0 w) len i s2).2)) (by simp) (by simp)) hrX rfl rfl
                rw [← nI_1] at kk2
                rw [e3] at kk2
                exact kk2
      have hRX := hR.sm hsX (by simp) (by simp) (by simp) (by simp)
      refine step.1 _ _ _ _ _ _ _ sgX9_playParty_37_ok ?_
      refine ⟨by decide, _, _, hTX, rfl, ?_⟩
      refine ⟨by decide, _, _, hRX.1, rfl, ?_⟩
      refine ⟨fun c45 => absurd ((nI_ltI (a := nn) (b := len) (by omega) (by omega)).mp c45) (by omega), fun c45 => ?_⟩
      exact inner hX (nn + 1 - len) 0 s (by omega) rfl hsX hrX hTX h3X
  have init : ∀ (mm d : Nat) (a : Nat → Int32) (hX : qH), d + mm = 11 → (∀ j : Nat, j < d → a j = 0) → same h hX [50, 52, 53] → hX.2 52 = some (.inr (.inl (.int, 10, fun j => nI ((srow D nn 0 w) j)))) → hX.2 50 = some (T50 tc tp tj tm sd sw 0 (-1)) → hX.2 53 = some (.inr (.inl (.int, 11, a))) → run 16 [(1, .int (nI d)), (0, .ref 50)] [] hX 0 0 := by
    intro mm
    induction mm with
    | zero =>
        intro d a hX hd hz hsX hrX hTX h3X
        obtain rfl : d = 11 := by omega
        have hRX := hR.sm hsX (by simp) (by simp) (by simp) (by simp)
        refine step.1 _ _ _ _ _ _ _ sgX9_playParty_16_ok ?_
        refine ⟨fun c19 => ?_, fun c19 => absurd (by decide : (10 : Int32) < nI 11) c19⟩
        refine step.1 _ _ _ _ _ _ _ sgX9_playParty_35_ok ?_
        exact outer a hz nn 1 (a, -1) hX (by omega) rfl hsX hrX hTX h3X (by decide)
    | succ mm ih =>
        intro d a hX hd hz hsX hrX hTX h3X
        have hRX := hR.sm hsX (by simp) (by simp) (by simp) (by simp)
        refine step.1 _ _ _ _ _ _ _ sgX9_playParty_16_ok ?_
        refine ⟨fun c19 => absurd ((nI_ltI (a := 10) (b := d) (by decide) (by omega)).mp c19) (by omega), fun c19 => ?_⟩
        refine ⟨by decide, _, _, hTX, rfl, ?_⟩
        refine ⟨_, _, h3X, vp_in_nI (by omega) (by decide), ?_⟩
        have kk2 := ih (d + 1) (upd a (nI d).toNatClampNeg 0) (hX.1, qup hX.2 53 (.inr (.inl (.int, 11, upd a (nI d).toNatClampNeg 0)))) (by omega) (fun j hj => by
          rw [h_tn (n := d) (by omega)]
          by_cases e : j = d
          · subst e; exact if_pos rfl
          · exact (if_neg e).trans (hz j (by omega))) (hsX.tr (l' := [53]) (l2 := [50, 52, 53]) (same.up (by simp)) (by simp) (by simp)) hrX hTX rfl
        rw [← nI_1] at kk2
        exact kk2
  refine step.1 _ _ _ _ _ _ _ sgX9_playParty_0_ok ?_
  refine Or.inl ⟨rfl, _, 2, 0, 0, _, _, _, qi_9_114, ⟨rfl, rfl⟩, ⟨hT, rfl⟩, rfl, rfl, T_standInRow hg hR hn hT hw hr, fun y1 h1 hy1 => ?_⟩
  obtain ⟨rfl, hs1, hr1⟩ := hy1
  have hT1 := (hs1.2 50 (by simp)).trans hT
  refine ⟨_, hT1, Nat.le_of_ble_eq_true rfl, rfl, ?_⟩
  refine ⟨_, rfl, Nat.le_of_ble_eq_true rfl, rfl, ?_⟩
  have hfin : ∀ e1 e2 : qE, same h1 (h1.1, qup (qup h1.2 50 e1) 50 e2) [50] := fun e1 e2 => ⟨rfl, fun j hj => by
    have hj1 : j ≠ 50 := fun q => hj (by rw [q]; simp)
    simp only [qup_n hj1]⟩
  exact init 11 0 ah _ rfl (fun j hj => absurd hj (Nat.not_lt_zero j)) ((hs1.tr (l' := [50]) (l2 := [50, 52, 53]) (hfin (T50 tc tp tj tm sd sw 0 pd) (T50 tc tp tj tm sd sw 0 (-1))) (by simp) (by simp))) hr1 rfl ((hs1.2 53 (by simp)).trans h3)
end Q07N
