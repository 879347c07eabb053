section Q08K
theorem cT.at {h : qH} {F : Nat → Int32} {n q : Nat} {s : PS} (hT : cT h F n s q) : ∃ (fs : List Value) (p : Nat), h.2 1 = some (.inl (8, fs)) ∧ fs[3]? = some (.int (nI p)) ∧ ∀ a, s = .inr a → p = a := by
  obtain ⟨p, ki, pl, hT, -, -, -, hs⟩ := hT
  refine ⟨_, p, hT.1, rfl, fun a e => ?_⟩
  match s, hs, e with
  | .inr a, ⟨h1, _⟩, rfl => exact h1.symm
/-- a door of a year -/
def pyst (F : Nat → Int32) (n N i b : Nat) (d : Int32) : PS × Int32 := (if 8 ≤ i then pfail 3 (sk F n b) (if (d >>> ((pnum F n 0 (nI N - 1) (.inr b)).2 &&& 31)) &&& 1 = 0 then pnumS F n 0 (nI N - 1) (.inr b) else pfail 2 (sk F n b) (pnumS F n 0 (nI N - 1) (.inr b))) else (if (d >>> ((pnum F n 0 (nI N - 1) (.inr b)).2 &&& 31)) &&& 1 = 0 then pnumS F n 0 (nI N - 1) (.inr b) else pfail 2 (sk F n b) (pnumS F n 0 (nI N - 1) (.inr b))), d ||| 1 <<< ((pnum F n 0 (nI N - 1) (.inr b)).2 &&& 31))
def pyd (F : Nat → Int32) (n N i : Nat) : Nat → PS × Int32 → PS × Int32
  | 0, r => r
  | m + 1, r => match r.1 with
    | .inl _ => r
    | .inr a => if isdg (tby F n (sk F n a)) then pyd F n N i m (pyst F n N i (sk F n a) r.2) else (.inr (sk F n a), r.2)
def pyq2 (F : Nat → Int32) (n : Nat) (s : PS) : PS := match s with
  | .inl e => .inl e
  | .inr a => if tby F n (sk F n a) = 61 then .inl (3, sk F n a) else .inr (sk F n a)
def pyeq (F : Nat → Int32) (n i : Nat) (s : PS) : PS := if 8 ≤ i then pyq2 F n s else s
def pyS (F : Nat → Int32) (n N i a : Nat) : PS := psign F n 59 (pnumS F n 0 9999 (psign F n 61 (pyeq F n i (pyd F n N i 11 (.inr a, 0)).1)))
def pyP (F : Nat → Int32) (n N i a : Nat) : Int32 := (pnum F n 0 9999 (psign F n 61 (pyeq F n i (pyd F n N i 11 (.inr a, 0)).1))).2
abbrev BD : Type := (Nat → Int32) × (Nat → Int32) × Nat
def pyear (F : Nat → Int32) (n N i a : Nat) (V : BD) : PS × BD := (pyS F n N i a, if pbad (pyS F n N i a) then V else (upd V.1 i (pyd F n N i 11 (.inr a, 0)).2, upd V.2.1 i (pyP F n N i a), i + 1))
def pbrun (F : Nat → Int32) (n N : Nat) : Nat → Nat → PS × BD → PS × BD
  | 0, _, r => r
  | m + 1, i, r => match r.1 with
    | .inl _ => r
    | .inr a => if tby F n (sk F n a) = -1 then (.inr (sk F n a), r.2) else pbrun F n N m (i + 1) (pyear F n N i (sk F n a) r.2)
/-- with eight years told, nothing more is right -/
theorem pyd_bad (F : Nat → Int32) {n N i : Nat} (hi : 8 ≤ i) : ∀ (m : Nat) (r : PS × Int32), pbad r.1 = true → pbad (pyd F n N i m r).1 = true
  | 0, r, h => h
  | m + 1, r, h => by
    obtain ⟨e, he⟩ := PS_l h
    rw [pyd]
    simp only [he]
    rfl
theorem pyS_lt {F : Nat → Int32} {n N i a : Nat} (h : pbad (pyS F n N i a) = false) (ha : a ≤ n) : i < 8 := by
  rcases Nat.lt_or_ge i 8 with z | z
  · exact z
  exfalso
  have h1 := pbad_sign (pbad_numS (pbad_sign h))
  have h2 := pbad_sign (s := pyeq F n i (pyd F n N i 11 (.inr a, 0)).1) (w := 61) (F := F) (n := n) (by
    have := pbad_numS (pbad_sign h)
    exact this)
  have hsg : pbad (psign F n 61 (pyeq F n i (pyd F n N i 11 (.inr a, 0)).1)) = false := pbad_numS (pbad_sign h)
  rw [pyeq, if_pos z] at h2 hsg
  by_cases c : isdg (tby F n (sk F n a)) = true
  · have hb : pbad (pyd F n N i 11 (.inr a, 0)).1 = true := by
      rw [pyd]
      simp only [if_pos c]
      refine pyd_bad F z _ _ ?_
      rw [pyst]
      simp only [if_pos z]
      exact pbad_fail
    obtain ⟨e, he⟩ := PS_l hb
    rw [he] at h2
    cases h2
  · have he : (pyd F n N i 11 (.inr a, 0)).1 = .inr (sk F n a) := by
      rw [pyd]
      simp only [if_neg c]
    rw [he] at hsg
    by_cases c2 : tby F n (sk F n (sk F n a)) = 61
    · rw [show pyq2 F n (.inr (sk F n a)) = .inl (3, sk F n (sk F n a)) from if_pos c2] at hsg
      cases hsg
    · rw [show pyq2 F n (.inr (sk F n a)) = .inr (sk F n (sk F n a)) from if_neg c2] at hsg
      unfold psign at hsg
      rw [sk_sk F ha] at c2 hsg
      simp only [sk_sk F ha, if_neg c2] at hsg
      cases hsg
set_option maxHeartbeats 4000000 in
theorem RD_year {g : qG} (hg : qOK g) {h : qH} {F : Nat → Int32} {n q a : Nat} (hT : cT h F n (.inr a) q) (hE : h.2 33 = some E33) {B1 B2 : Nat → Int32} {i N : Nat} {se fi ia ino : Int32} (hB : isB h 40 41 42 B1 B2 (nI i) se fi ia ino) (hN : N ≤ 10) (hi : i ≤ 8) : qSpec g 4 0 0 mX5_readYear [.ref 33, .int (nI i), .int (nI N)] h (fun r h' => r = none ∧ same h h' [1, 40, 41, 42] ∧ (∃ q' : Nat, cT h' F n (pyear F n N i a (B1, B2, i)).1 q') ∧ isB h' 40 41 42 (pyear F n N i a (B1, B2, i)).2.1 (pyear F n N i a (B1, B2, i)).2.2.1 (nI (pyear F n N i a (B1, B2, i)).2.2.2) se fi ia ino) := by
  refine qSpec_run 5 "readYear" false hg mX5_readYear_ok rfl rfl (Nat.le_of_ble_eq_true rfl) (by decide) ?_
  intro run step
  have hs : same h h [1, 40, 41, 42] := same.rf
  have han : a ≤ n := by
    obtain ⟨p, ki, pl, -, h1, -, -, h2, -⟩ := hT
    omega
  have c136 : ∀ (hX : qH) (q0 : Nat), cT hX F n (pyeq F n i (pyd F n N i 11 (.inr a, 0)).1) q0 → same h hX [1, 40, 41, 42] → hX.2 33 = some E33 → isB hX 40 41 42 B1 B2 (nI i) se fi ia ino → run 136 [(3, .int (pyd F n N i 11 (.inr a, 0)).2), (0, .ref 33), (1, .int (nI i)), (2, .int (nI N))] [] hX 0 0 := by
    intro hX q0 hT hs hE hB
    refine step.1 _ _ _ _ _ _ _ sgX5_readYear_136_ok ?_
    refine ⟨by decide, _, _, hE, rfl, ?_⟩
    refine Or.inl ⟨rfl, _, 3, 0, 0, _, _, _, qi_5_95, ⟨rfl, rfl⟩, ⟨hT.cell.choose_spec, rfl⟩, rfl, rfl, cT_sign hg hT 61 (by decide), fun y142 h142 hy142 => ?_⟩
    obtain ⟨rfl, hsN, hT⟩ := hy142
    have hs := hs.t2 hsN (by decide)
    have hE := (hsN.2 33 (by simp)).trans hE
    have hB := hB.sm hsN (by simp) (by simp) (by simp)
    refine ⟨by decide, _, _, hE, rfl, ?_⟩
    refine Or.inl ⟨rfl, _, 3, 0, 0, _, _, _, qi_5_82, ⟨rfl, rfl⟩, ⟨hT.cell.choose_spec, rfl⟩, rfl, rfl, cT_number hg hT _ _, fun y153 h153 hy153 => ?_⟩
    obtain ⟨rfl, hsN, qN, hqN, hT⟩ := hy153
    have hs := hs.t2 hsN (by decide)
    have hE := (hsN.2 33 (by simp)).trans hE
    have hB := hB.sm hsN (by simp) (by simp) (by simp)
    refine ⟨by decide, _, _, hE, rfl, ?_⟩
    refine Or.inl ⟨rfl, _, 3, 0, 0, _, _, _, qi_5_95, ⟨rfl, rfl⟩, ⟨hT.cell.choose_spec, rfl⟩, rfl, rfl, cT_sign hg hT 59 (by decide), fun y164 h164 hy164 => ?_⟩
    obtain ⟨rfl, hsN, hT⟩ := hy164
    have hs := hs.t2 hsN (by decide)
    have hE := (hsN.2 33 (by simp)).trans hE
    have hB := hB.sm hsN (by simp) (by simp) (by simp)
    refine ⟨by decide, _, _, hE, rfl, ?_⟩
    refine Or.inl ⟨rfl, _, 1, 0, 0, _, _, _, qi_5_40, ⟨rfl, rfl⟩, ⟨hT.cell.choose_spec, rfl⟩, rfl, rfl, cT_faulty hg hT, fun y171 h171 hy171 => ?_⟩
    obtain ⟨rfl, hh⟩ := hy171
    rw [hh]
    clear hh
    refine ⟨fun c174 => ?_, fun c174 => ?_⟩
    · have hb : pbad (pyS F n N i a) = true := qb_1.mp c174
      refine step.1 _ _ _ _ _ _ _ sgX5_readYear_187_ok ?_
      refine ⟨rfl, Nat.le_refl _, Nat.le_refl _, ?_⟩
      have e : (pyear F n N i a (B1, B2, i)) = (pyS F n N i a, (B1, B2, i)) := by
        show (pyS F n N i a, if pbad (pyS F n N i a) = true then (B1, B2, i) else _) = _
        rw [hb]; rfl
      rw [e]
      exact ⟨rfl, hs, ⟨_, hT⟩, hB⟩
    · have hb : pbad (pyS F n N i a) = false := qb_0.mp c174
      have hlt : i < 8 := pyS_lt hb han
      refine ⟨by decide, _, _, hE, rfl, ?_⟩
      refine Or.inl ⟨rfl, _, 2, 0, 0, _, _, _, qi_5_157, ⟨rfl, rfl⟩, ⟨hB.1, rfl⟩, rfl, rfl, B_add hg hB hlt _ _, fun y184 h184 hy184 => ?_⟩
      obtain ⟨rfl, hsN, hB⟩ := hy184
      have hs := hs.t2 hsN (by decide)
      have hT := hT.sm hsN (by simp) (by simp)
      refine step.1 _ _ _ _ _ _ _ sgX5_readYear_187_ok ?_
      refine ⟨rfl, Nat.le_refl _, Nat.le_refl _, ?_⟩
      have e : (pyear F n N i a (B1, B2, i)) = (pyS F n N i a, (upd B1 i (pyd F n N i 11 (.inr a, 0)).2, upd B2 i (pyP F n N i a), i + 1)) := by
        show (pyS F n N i a, if pbad (pyS F n N i a) = true then (B1, B2, i) else _) = _
        rw [hb]; rfl
      rw [e]
      exact ⟨rfl, hs, ⟨_, hT⟩, hB⟩
  have c103 : ∀ (hX : qH) (q0 : Nat) (d1 jj : Int32), d1 = (pyd F n N i 11 (.inr a, 0)).2 → cT hX F n (pyd F n N i 11 (.inr a, 0)).1 q0 → same h hX [1, 40, 41, 42] → hX.2 33 = some E33 → isB hX 40 41 42 B1 B2 (nI i) se fi ia ino → run 103 [(4, .int jj), (3, .int d1), (0, .ref 33), (1, .int (nI i)), (2, .int (nI N))] [] hX 0 0 := by
    intro hX q0 d1 jj hd hT hs hE hB
    subst hd
    refine step.1 _ _ _ _ _ _ _ sgX5_readYear_103_ok ?_
    refine ⟨fun c106 => ?_, fun c106 => ?_⟩
    · have c106 : i < 8 := (nI_ltI (b := 8) (by omega) (by decide)).mp c106
      refine step.2 _ _ _ _ _ _ _ (qsub_cons 1 rfl (qsub_cons 2 rfl (qsub_cons 3 rfl (qsub_cons 4 rfl qsub_nil)))) ?_
      exact c136 _ q0 (by rw [pyeq, if_neg (by omega)]; exact hT) hs hE hB
    · have c106 : 8 ≤ i := by
        rcases Nat.lt_or_ge i 8 with z | z
        · exact absurd (nI_lt (b := 8) z (by decide)) c106
        · exact z
      refine ⟨by decide, _, _, hE, rfl, ?_⟩
      refine Or.inl ⟨rfl, _, 2, 0, 0, _, _, _, qi_5_150, ⟨rfl, rfl⟩, ⟨hT.cell.choose_spec, rfl⟩, rfl, rfl, cT_look hg hT, fun y113 h113 hy113 => ?_⟩
      obtain ⟨⟨co, rfl, hco⟩, hsN, hT⟩ := hy113
      have hs := hs.t2 hsN (by decide)
      have hE := (hsN.2 33 (by simp)).trans hE
      have hB := hB.sm hsN (by simp) (by simp) (by simp)
      refine ⟨fun c118 => ?_, fun c118 => ?_⟩
      · refine step.2 _ _ _ _ _ _ _ (qsub_cons 1 rfl (qsub_cons 2 rfl (qsub_cons 3 rfl (qsub_cons 4 rfl qsub_nil)))) ?_
        refine c136 _ q0 ?_ hs hE hB
        rw [pyeq, if_pos c106]
        cases e : (pyd F n N i 11 (.inr a, 0)).1 with
        | inl e2 => rw [e] at hT; exact hT
        | inr b =>
          rw [e] at hT
          have hco := hco b e
          have c118 : ¬ tby F n (sk F n b) = 61 := fun z => c118 (hco.trans z)
          rw [show pyq2 F n (.inr b) = .inr (sk F n b) from if_neg c118]
          exact hT
      · refine ⟨by decide, _, _, hE, rfl, ?_⟩
        refine ⟨by decide, _, _, hE, rfl, ?_⟩
        obtain ⟨fsA, pA, hA1, hA2, hA3⟩ := hT.at
        refine ⟨by decide, _, _, hA1, hA2, ?_⟩
        refine Or.inl ⟨rfl, _, 1, 0, 0, _, _, _, qi_5_63, ⟨rfl, rfl⟩, ⟨hT.cell.choose_spec, rfl⟩, rfl, rfl, cT_fail hg hT 3 pA (by decide), fun y133 h133 hy133 => ?_⟩
        obtain ⟨rfl, hsN, hT⟩ := hy133
        have hs := hs.t2 hsN (by decide)
        have hE := (hsN.2 33 (by simp)).trans hE
        have hB := hB.sm hsN (by simp) (by simp) (by simp)
        refine step.2 _ _ _ _ _ _ _ (qsub_cons 1 rfl (qsub_cons 2 rfl (qsub_cons 3 rfl (qsub_cons 4 rfl qsub_nil)))) ?_
        refine c136 _ q0 ?_ hs hE hB
        rw [pyeq, if_pos c106]
        cases e : (pyd F n N i 11 (.inr a, 0)).1 with
        | inl e2 => rw [e] at hT; exact hT
        | inr b =>
          rw [e] at hT hA3
          have hco := hco b e
          have hA3 := hA3 (sk F n b) rfl
          have c118 : tby F n (sk F n b) = 61 := hco.symm.trans c118
          rw [show pyq2 F n (.inr b) = .inl (3, sk F n b) from if_pos c118]
          rw [hA3] at hT
          exact hT
  have loop : ∀ (m j : Nat) (r : PS × Int32) (hX : qH) (q0 : Nat), j + m = 11 → pyd F n N i m r = (pyd F n N i 11 (.inr a, 0)) → cT hX F n r.1 q0 → same h hX [1, 40, 41, 42] → hX.2 33 = some E33 → isB hX 40 41 42 B1 B2 (nI i) se fi ia ino → run 5 [(4, .int (nI j)), (3, .int r.2), (0, .ref 33), (1, .int (nI i)), (2, .int (nI N))] [] hX 0 0 := by
    intro m
    induction m with
    | zero =>
      intro j r hX q0 hj hst hT hs hE hB
      obtain rfl : j = 11 := by omega
      have hst : r = (pyd F n N i 11 (.inr a, 0)) := hst
      refine step.1 _ _ _ _ _ _ _ sgX5_readYear_5_ok ?_
      refine ⟨fun c9 => ?_, fun c9 => absurd (by decide : (10 : Int32) < nI 11) c9⟩
      refine c103 _ q0 _ _ (by rw [← hst]) ?_ hs hE hB
      rw [← hst]; exact hT
    | succ m ih =>
      intro j r hX q0 hj hst hT hs hE hB
      refine step.1 _ _ _ _ _ _ _ sgX5_readYear_5_ok ?_
      refine ⟨fun c9 => absurd c9 (nI_nlt (b := j) (a := 10) (by omega) (by decide)), fun c9 => ?_⟩
      refine ⟨by decide, _, _, hE, rfl, ?_⟩
      refine Or.inl ⟨rfl, _, 3, 0, 0, _, _, _, qi_5_147, ⟨rfl, rfl⟩, ⟨hT.cell.choose_spec, rfl⟩, rfl, rfl, cT_digit hg hT, fun y16 h16 hy16 => ?_⟩
      obtain ⟨⟨bo, rfl, hbo⟩, hsN, hT⟩ := hy16
      have hs := hs.t2 hsN (by decide)
      have hE := (hsN.2 33 (by simp)).trans hE
      have hB := hB.sm hsN (by simp) (by simp) (by simp)
      refine ⟨fun c19 => ?_, fun c19 => ?_⟩
      · have hb2 : bo = false := qb_0.mp c19
        refine c103 _ q0 _ _ ?_ ?_ hs hE hB
        · cases e : r.1 with
          | inl e2 => rw [← hst, show pyd F n N i (m + 1) r = r from by rw [pyd]; simp only [e]]
          | inr b =>
            have hbo := hbo b e
            rw [hb2] at hbo
            rw [← hst, pyd]
            simp only [e, ← hbo]
            rfl
        · cases e : r.1 with
          | inl e2 => rw [← hst, show pyd F n N i (m + 1) r = r from by rw [pyd]; simp only [e], e]; rw [e] at hT; exact hT
          | inr b =>
            have hbo := hbo b e
            rw [hb2] at hbo
            rw [← hst, pyd]
            simp only [e, ← hbo]
            rw [e] at hT
            exact hT
      · have hb2 : bo = true := qb_1.mp c19
        refine ⟨by decide, _, _, hE, rfl, ?_⟩
        refine Or.inl ⟨rfl, _, 1, 0, 0, _, _, _, qi_5_40, ⟨rfl, rfl⟩, ⟨hT.cell.choose_spec, rfl⟩, rfl, rfl, cT_faulty hg hT, fun y26 h26 hy26 => ?_⟩
        obtain ⟨rfl, hh⟩ := hy26
        rw [hh]
        clear hh
        refine ⟨fun c29 => ?_, fun c29 => ?_⟩
        · have hb : pbad (pskip F n r.1) = true := qb_1.mp c29
          refine c103 _ q0 _ _ ?_ ?_ hs hE hB
          · cases e : r.1 with
            | inl e2 => rw [← hst, show pyd F n N i (m + 1) r = r from by rw [pyd]; simp only [e]]
            | inr b => rw [e] at hb; cases hb
          · cases e : r.1 with
            | inl e2 => rw [← hst, show pyd F n N i (m + 1) r = r from by rw [pyd]; simp only [e], e]; rw [e] at hT; exact hT
            | inr b => rw [e] at hb; cases hb
        · have hb : pbad (pskip F n r.1) = false := qb_0.mp c29
          obtain ⟨s1, d1⟩ := r
          cases s1 with
          | inl e => cases hb
          | inr b =>
          have hbo := hbo b rfl
          rw [hb2] at hbo
          have hst : pyd F n N i m (pyst F n N i (sk F n b) d1) = (pyd F n N i 11 (.inr a, 0)) := by rw [← hst, pyd]; simp only [if_pos hbo.symm]
          refine ⟨by decide, _, _, hE, rfl, ?_⟩
          refine Or.inl ⟨rfl, _, 3, 0, 0, _, _, _, qi_5_82, ⟨rfl, rfl⟩, ⟨hT.cell.choose_spec, rfl⟩, rfl, rfl, cT_number hg hT _ _, fun y40 h40 hy40 => ?_⟩
          obtain ⟨rfl, hsN, qN, hqN, hT⟩ := hy40
          have hs := hs.t2 hsN (by decide)
          have hE := (hsN.2 33 (by simp)).trans hE
          have hB := hB.sm hsN (by simp) (by simp) (by simp)
          have hqN := hqN (sk F n b) rfl
          subst hqN
          refine ⟨fun c51 => ?_, fun c51 => ?_⟩
          · have c51 : (d1 >>> ((pnum F n 0 (nI N - 1) (.inr (sk F n b))).2 &&& 31)) &&& 1 = 0 := c51
            refine step.1 _ _ _ _ _ _ _ sgX5_readYear_69_ok ?_
            refine ⟨fun c72 => ?_, fun c72 => ?_⟩
            · have c72 : i < 8 := (nI_ltI (b := 8) (by omega) (by decide)).mp c72
              refine step.1 _ _ _ _ _ _ _ sgX5_readYear_90_ok ?_
              refine step.2 _ _ _ _ _ _ _ (qsub_cons 0 rfl (qsub_cons 1 rfl (qsub_cons 3 rfl (qsub_cons 4 rfl (qsub_cons 5 rfl qsub_nil))))) ?_
              have e3 : pyst F n N i (sk F n b) d1 = (pnumS F n 0 (nI N - 1) (.inr (sk F n b)), d1 ||| 1 <<< ((pnum F n 0 (nI N - 1) (.inr (sk F n b))).2 &&& 31)) := by rw [pyst, if_neg (by omega), if_pos c51]
              have kk2 := fun hX => ih (j + 1) (pnumS F n 0 (nI N - 1) (.inr (sk F n b)), d1 ||| 1 <<< ((pnum F n 0 (nI N - 1) (.inr (sk F n b))).2 &&& 31)) hX (sk F n (sk F n b)) (by omega) (by rw [← hst, e3])
              rw [← nI_1] at kk2
              exact kk2 _ hT hs hE hB
            · have c72 : 8 ≤ i := by
                rcases Nat.lt_or_ge i 8 with z | z
                · exact absurd (nI_lt (b := 8) z (by decide)) c72
                · exact z
              refine ⟨by decide, _, _, hE, rfl, ?_⟩
              refine ⟨by decide, _, _, hE, rfl, ?_⟩
              refine ⟨by decide, _, _, hT.from.choose_spec.1, hT.from.choose_spec.2, ?_⟩
              refine Or.inl ⟨rfl, _, 1, 0, 0, _, _, _, qi_5_63, ⟨rfl, rfl⟩, ⟨hT.cell.choose_spec, rfl⟩, rfl, rfl, cT_fail hg hT 3 _ (by decide), fun y87 h87 hy87 => ?_⟩
              obtain ⟨rfl, hsN, hT⟩ := hy87
              have hs := hs.t2 hsN (by decide)
              have hE := (hsN.2 33 (by simp)).trans hE
              have hB := hB.sm hsN (by simp) (by simp) (by simp)
              refine step.1 _ _ _ _ _ _ _ sgX5_readYear_90_ok ?_
              refine step.2 _ _ _ _ _ _ _ (qsub_cons 0 rfl (qsub_cons 1 rfl (qsub_cons 3 rfl (qsub_cons 4 rfl (qsub_cons 5 rfl qsub_nil))))) ?_
              have e3 : pyst F n N i (sk F n b) d1 = (pfail 3 (sk F n (sk F n b)) (pnumS F n 0 (nI N - 1) (.inr (sk F n b))), d1 ||| 1 <<< ((pnum F n 0 (nI N - 1) (.inr (sk F n b))).2 &&& 31)) := by rw [pyst, if_pos c72, if_pos c51]
              have kk2 := fun hX => ih (j + 1) (pfail 3 (sk F n (sk F n b)) (pnumS F n 0 (nI N - 1) (.inr (sk F n b))), d1 ||| 1 <<< ((pnum F n 0 (nI N - 1) (.inr (sk F n b))).2 &&& 31)) hX (sk F n (sk F n b)) (by omega) (by rw [← hst, e3])
              rw [← nI_1] at kk2
              exact kk2 _ hT hs hE hB
          · have c51 : ¬ (d1 >>> ((pnum F n 0 (nI N - 1) (.inr (sk F n b))).2 &&& 31)) &&& 1 = 0 := c51
            refine ⟨by decide, _, _, hE, rfl, ?_⟩
            refine ⟨by decide, _, _, hE, rfl, ?_⟩
            refine ⟨by decide, _, _, hT.from.choose_spec.1, hT.from.choose_spec.2, ?_⟩
            refine Or.inl ⟨rfl, _, 1, 0, 0, _, _, _, qi_5_63, ⟨rfl, rfl⟩, ⟨hT.cell.choose_spec, rfl⟩, rfl, rfl, cT_fail hg hT 2 _ (by decide), fun y66 h66 hy66 => ?_⟩
            obtain ⟨rfl, hsN, hT⟩ := hy66
            have hs := hs.t2 hsN (by decide)
            have hE := (hsN.2 33 (by simp)).trans hE
            have hB := hB.sm hsN (by simp) (by simp) (by simp)
            refine step.1 _ _ _ _ _ _ _ sgX5_readYear_69_ok ?_
            refine ⟨fun c72 => ?_, fun c72 => ?_⟩
            · have c72 : i < 8 := (nI_ltI (b := 8) (by omega) (by decide)).mp c72
              refine step.1 _ _ _ _ _ _ _ sgX5_readYear_90_ok ?_
              refine step.2 _ _ _ _ _ _ _ (qsub_cons 0 rfl (qsub_cons 1 rfl (qsub_cons 3 rfl (qsub_cons 4 rfl (qsub_cons 5 rfl qsub_nil))))) ?_
              have e3 : pyst F n N i (sk F n b) d1 = (pfail 2 (sk F n (sk F n b)) (pnumS F n 0 (nI N - 1) (.inr (sk F n b))), d1 ||| 1 <<< ((pnum F n 0 (nI N - 1) (.inr (sk F n b))).2 &&& 31)) := by rw [pyst, if_neg (by omega), if_neg c51]
              have kk2 := fun hX => ih (j + 1) (pfail 2 (sk F n (sk F n b)) (pnumS F n 0 (nI N - 1) (.inr (sk F n b))), d1 ||| 1 <<< ((pnum F n 0 (nI N - 1) (.inr (sk F n b))).2 &&& 31)) hX (sk F n (sk F n b)) (by omega) (by rw [← hst, e3])
              rw [← nI_1] at kk2
              exact kk2 _ hT hs hE hB
            · have c72 : 8 ≤ i := by
                rcases Nat.lt_or_ge i 8 with z | z
                · exact absurd (nI_lt (b := 8) z (by decide)) c72
                · exact z
              refine ⟨by decide, _, _, hE, rfl, ?_⟩
              refine ⟨by decide, _, _, hE, rfl, ?_⟩
              refine ⟨by decide, _, _, hT.from.choose_spec.1, hT.from.choose_spec.2, ?_⟩
              refine Or.inl ⟨rfl, _, 1, 0, 0, _, _, _, qi_5_63, ⟨rfl, rfl⟩, ⟨hT.cell.choose_spec, rfl⟩, rfl, rfl, cT_fail hg hT 3 _ (by decide), fun y87 h87 hy87 => ?_⟩
              obtain ⟨rfl, hsN, hT⟩ := hy87
              have hs := hs.t2 hsN (by decide)
              have hE := (hsN.2 33 (by simp)).trans hE
              have hB := hB.sm hsN (by simp) (by simp) (by simp)
              refine step.1 _ _ _ _ _ _ _ sgX5_readYear_90_ok ?_
              refine step.2 _ _ _ _ _ _ _ (qsub_cons 0 rfl (qsub_cons 1 rfl (qsub_cons 3 rfl (qsub_cons 4 rfl (qsub_cons 5 rfl qsub_nil))))) ?_
              have e3 : pyst F n N i (sk F n b) d1 = (pfail 3 (sk F n (sk F n b)) (pfail 2 (sk F n (sk F n b)) (pnumS F n 0 (nI N - 1) (.inr (sk F n b)))), d1 ||| 1 <<< ((pnum F n 0 (nI N - 1) (.inr (sk F n b))).2 &&& 31)) := by rw [pyst, if_pos c72, if_neg c51]
              have kk2 := fun hX => ih (j + 1) (pfail 3 (sk F n (sk F n b)) (pfail 2 (sk F n (sk F n b)) (pnumS F n 0 (nI N - 1) (.inr (sk F n b)))), d1 ||| 1 <<< ((pnum F n 0 (nI N - 1) (.inr (sk F n b))).2 &&& 31)) hX (sk F n (sk F n b)) (by omega) (by rw [← hst, e3])
              rw [← nI_1] at kk2
              exact kk2 _ hT hs hE hB
  refine step.1 _ _ _ _ _ _ _ sgX5_readYear_0_ok ?_
  exact loop 11 0 (.inr a, 0) _ _ rfl rfl hT hs hE hB
set_option maxHeartbeats 4000000 in
theorem RD_book {g : qG} (hg : qOK g) {h : qH} {F : Nat → Int32} {n q a : Nat} (hT : cT h F n (.inr a) q) (hE : h.2 33 = some E33) {B1 B2 : Nat → Int32} {N : Nat} {c0 se fi ia ino : Int32} (hB : isB h 40 41 42 B1 B2 c0 se fi ia ino) (hN : N ≤ 10) : qSpec g 5 0 0 mX5_readsBook [.ref 33, .int (nI N)] h (fun r h' => r = some (.int (qb (!pbad (pbrun F n N 9 0 (Sum.inr a, B1, B2, 0)).1))) ∧ same h h' [1, 40, 41, 42] ∧ (∃ q' : Nat, cT h' F n (pbrun F n N 9 0 (Sum.inr a, B1, B2, 0)).1 q') ∧ isB h' 40 41 42 (pbrun F n N 9 0 (Sum.inr a, B1, B2, 0)).2.1 (pbrun F n N 9 0 (Sum.inr a, B1, B2, 0)).2.2.1 (nI (pbrun F n N 9 0 (Sum.inr a, B1, B2, 0)).2.2.2) se fi ia ino) := by
  refine qSpec_run 5 "readsBook" false hg mX5_readsBook_ok rfl rfl (Nat.le_of_ble_eq_true rfl) (by decide) ?_
  intro run step
  have hs : same h h [1, 40, 41, 42] := same.rf
  have c53 : ∀ (hX : qH) (r : PS × BD) (q0 : Nat) (ii : Int32), r = (pbrun F n N 9 0 (Sum.inr a, B1, B2, 0)) → cT hX F n r.1 q0 → same h hX [1, 40, 41, 42] → hX.2 33 = some E33 → isB hX 40 41 42 r.2.1 r.2.2.1 (nI r.2.2.2) se fi ia ino → run 47 [(2, .int ii), (0, .ref 33), (1, .int (nI N))] [] hX 0 0 := by
    intro hX r q0 ii hr hT hs hE hB
    rw [← hr] at step
    refine step.1 _ _ _ _ _ _ _ sgX5_readsBook_47_ok ?_
    refine ⟨by decide, _, _, hE, rfl, ?_⟩
    refine Or.inl ⟨rfl, _, 1, 0, 0, _, _, _, qi_5_40, ⟨rfl, rfl⟩, ⟨hT.cell.choose_spec, rfl⟩, rfl, rfl, cT_faulty hg hT, fun y51 h51 hy51 => ?_⟩
    obtain ⟨rfl, hh⟩ := hy51
    rw [hh]
    clear hh
    refine ⟨fun c54 => ?_, fun c54 => ?_⟩
    · have hb : pbad r.1 = true := qb_1.mp c54
      refine step.1 _ _ _ _ _ _ _ sgX5_readsBook_61_ok ?_
      refine step.1 _ _ _ _ _ _ _ sgX5_readsBook_62_ok ?_
      refine ⟨.boolean, rfl, rfl, Nat.le_refl _, Nat.le_refl _, ?_⟩
      refine ⟨?_, hs, ⟨_, hT⟩, hB⟩
      rw [hb]; rfl
    · have hb : pbad r.1 = false := qb_0.mp c54
      refine step.1 _ _ _ _ _ _ _ sgX5_readsBook_62_ok ?_
      refine ⟨.boolean, rfl, rfl, Nat.le_refl _, Nat.le_refl _, ?_⟩
      refine ⟨?_, hs, ⟨_, hT⟩, hB⟩
      rw [hb]; rfl
  have loop : ∀ (m i : Nat) (r : PS × BD) (hX : qH) (q0 : Nat), i + m = 9 → pbrun F n N m i r = (pbrun F n N 9 0 (Sum.inr a, B1, B2, 0)) → (∀ b, r.1 = .inr b → r.2.2.2 = i) → cT hX F n r.1 q0 → same h hX [1, 40, 41, 42] → hX.2 33 = some E33 → isB hX 40 41 42 r.2.1 r.2.2.1 (nI r.2.2.2) se fi ia ino → run 9 [(2, .int (nI i)), (0, .ref 33), (1, .int (nI N))] [] hX 0 0 := by
    intro m
    induction m with
    | zero =>
      intro i r hX q0 hi hst hri hT hs hE hB
      obtain rfl : i = 9 := by omega
      refine step.1 _ _ _ _ _ _ _ sgX5_readsBook_9_ok ?_
      refine ⟨fun c12 => ?_, fun c12 => absurd (by decide : (8 : Int32) < nI 9) c12⟩
      exact c53 hX r q0 _ hst hT hs hE hB
    | succ m ih =>
      intro i r hX q0 hi hst hri hT hs hE hB
      refine step.1 _ _ _ _ _ _ _ sgX5_readsBook_9_ok ?_
      refine ⟨fun c12 => absurd c12 (nI_nlt (b := i) (a := 8) (by omega) (by decide)), fun c12 => ?_⟩
      refine ⟨by decide, _, _, hE, rfl, ?_⟩
      refine Or.inl ⟨rfl, _, 1, 0, 0, _, _, _, qi_5_40, ⟨rfl, rfl⟩, ⟨hT.cell.choose_spec, rfl⟩, rfl, rfl, cT_faulty hg hT, fun y19 h19 hy19 => ?_⟩
      obtain ⟨rfl, hh⟩ := hy19
      rw [hh]
      clear hh
      refine ⟨fun c22 => ?_, fun c22 => ?_⟩
      · have hb : pbad r.1 = true := qb_1.mp c22
        exact c53 hX r q0 _ (by rw [← hst, pbrun]; cases hr : r.1 with
          | inl e => rfl
          | inr b => rw [hr] at hb; cases hb) hT hs hE hB
      · have hb : pbad r.1 = false := qb_0.mp c22
        obtain ⟨s1, P1, P2, K1⟩ := r
        cases s1 with
        | inl e => cases hb
        | inr b =>
        obtain rfl : K1 = i := hri b rfl
        refine ⟨by decide, _, _, hE, rfl, ?_⟩
        refine Or.inl ⟨rfl, _, 3, 0, 0, _, _, _, qi_5_46, ⟨rfl, rfl⟩, ⟨hT.cell.choose_spec, rfl⟩, rfl, rfl, cT_over hg hT, fun y29 h29 hy29 => ?_⟩
        obtain ⟨⟨bo, rfl, hbo⟩, hsN, hT⟩ := hy29
        have hs := hs.t2 hsN (by decide)
        have hE := (hsN.2 33 (by simp)).trans hE
        have hB := hB.sm hsN (by simp) (by simp) (by simp)
        refine ⟨fun c32 => ?_, fun c32 => ?_⟩
        · have hb2 : tby F n (sk F n b) = -1 := of_decide_eq_true ((hbo b rfl).symm.trans (qb_1.mp c32))
          exact c53 _ (.inr (sk F n b), P1, P2, K1) q0 _ (by rw [← hst, pbrun]; simp only [if_pos hb2]) hT hs hE hB
        · have hb2 : ¬ tby F n (sk F n b) = -1 := of_decide_eq_false ((hbo b rfl).symm.trans (qb_0.mp c32))
          refine Or.inl ⟨rfl, _, 4, 0, 0, _, _, _, qi_5_144, ⟨rfl, rfl⟩, ⟨hE, rfl⟩, rfl, rfl, RD_year hg hT hE hB hN (by omega), fun y38 h38 hy38 => ?_⟩
          obtain ⟨rfl, hsN, ⟨qN, hT⟩, hB⟩ := hy38
          have hs := hs.t2 hsN (by decide)
          have hE := (hsN.2 33 (by simp)).trans hE
          have kk2 := ih (K1 + 1) (pyear F n N K1 (sk F n b) (P1, P2, K1)) h38 qN (by omega) (by rw [← hst, pbrun]; simp only [if_neg hb2]) (fun b2 hb2 => by
            show (if pbad (pyS F n N K1 (sk F n b)) = true then (P1, P2, K1) else _).2.2 = K1 + 1
            rw [show pyS F n N K1 (sk F n b) = .inr b2 from hb2]
            rfl) hT hs hE hB
          rw [← nI_1] at kk2
          exact kk2
  refine step.1 _ _ _ _ _ _ _ sgX5_readsBook_0_ok ?_
  refine ⟨by decide, _, _, hE, rfl, ?_⟩
  refine Or.inl ⟨rfl, _, 1, 0, 0, _, _, _, qi_5_143, ⟨rfl, rfl⟩, ⟨hB.1, rfl⟩, rfl, rfl, B_clear_40 hg hB, fun y4 h4 hy4 => ?_⟩
  obtain ⟨rfl, hsN, hB⟩ := hy4
  have hs := hs.t2 hsN (by decide)
  have hE := (hsN.2 33 (by simp)).trans hE
  have hT := hT.sm hsN (by simp) (by simp)
  exact loop 9 0 (Sum.inr a, B1, B2, 0) _ _ rfl rfl (fun _ _ => rfl) hT hs hE hB
end Q08K
