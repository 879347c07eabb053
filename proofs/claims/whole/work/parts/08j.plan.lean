section Q08J
/-- a ring's word -/
def pring (F : Nat → Int32) (n : Nat) (f : Nat → Nat) (len : Nat) (s : PS) : PS × Int32 := match s with
  | .inl e => (.inl e, 0)
  | .inr a => if islt (tby F n (sk F n a)) then (pwst F n f len (.inr (sk F n a)), pword F n f len (sk F n a) + 1) else (.inr (sk F n a), 0)
def pln1 (F : Nat → Int32) (n N i q : Nat) (P : Nat → Int32) (s : PS) : PS := if 10 ≤ i then pfail 3 q (if lhas P (pnum F n 0 (nI N - 1) s).2 0 i = true then pfail 2 q (pnumS F n 0 (nI N - 1) s) else pnumS F n 0 (nI N - 1) s) else (if lhas P (pnum F n 0 (nI N - 1) s).2 0 i = true then pfail 2 q (pnumS F n 0 (nI N - 1) s) else pnumS F n 0 (nI N - 1) s)
/-- a plan's line -/
def plineS (F : Nat → Int32) (n : Nat) (f : Nat → Nat) (len N i a : Nat) (P : Nat → Int32) : PS := psign F n 59 (pring F n f len (pnumS F n 0 5 (pln1 F n N i (sk F n a) P (.inr a)))).1
def plineP (F : Nat → Int32) (n : Nat) (f : Nat → Nat) (len N i a : Nat) (P : Nat → Int32) : Nat → Int32 := lput P i (pnum F n 0 (nI N - 1) (.inr a)).2 (pnum F n 0 5 (pln1 F n N i (sk F n a) P (.inr a))).2 (pring F n f len (pnumS F n 0 5 (pln1 F n N i (sk F n a) P (.inr a)))).2
abbrev PD : Type := (Nat → Int32) × Nat
def pline (F : Nat → Int32) (n : Nat) (f : Nat → Nat) (len N i a : Nat) (V : PD) : PS × PD := (plineS F n f len N i a V.1, if pbad (plineS F n f len N i a V.1) then V else (plineP F n f len N i a V.1, i + 1))
def pprun (F : Nat → Int32) (n : Nat) (f : Nat → Nat) (len N : Nat) : Nat → Nat → PS × PD → PS × PD
  | 0, _, r => r
  | m + 1, i, r => match r.1 with
    | .inl _ => r
    | .inr a => if tby F n (sk F n a) = -1 then (.inr (sk F n a), r.2) else pprun F n f len N m (i + 1) (pline F n f len N i (sk F n a) r.2)
theorem pbad_sign {F : Nat → Int32} {n : Nat} {w : Int32} {s : PS} (h : pbad (psign F n w s) = false) : pbad s = false := by
  match s, h with
  | .inr a, _ => rfl
theorem pbad_ring {F : Nat → Int32} {n : Nat} {f : Nat → Nat} {len : Nat} {s : PS} (h : pbad (pring F n f len s).1 = false) : pbad s = false := by
  match s, h with
  | .inr a, _ => rfl
theorem pln1_ok {F : Nat → Int32} {n N i q : Nat} {P : Nat → Int32} {s : PS} (h : pbad (pln1 F n N i q P s) = false) : i < 10 ∧ lhas P (pnum F n 0 (nI N - 1) s).2 0 i = false ∧ pbad (pnumS F n 0 (nI N - 1) s) = false := by
  unfold pln1 at h
  by_cases c : 10 ≤ i
  · rw [if_pos c, pbad_fail] at h; cases h
  · rw [if_neg c] at h
    by_cases c2 : lhas P (pnum F n 0 (nI N - 1) s).2 0 i = true
    · rw [if_pos c2, pbad_fail] at h; cases h
    · rw [if_neg c2] at h
      exact ⟨by omega, by simpa using c2, h⟩
theorem pskip_pb {F : Nat → Int32} {n : Nat} {s : PS} : pbad (pskip F n s) = pbad s := by cases s <;> rfl
theorem PS_r {s : PS} (h : pbad s = false) : ∃ a, s = .inr a := by
  match s, h with
  | .inr a, _ => exact ⟨a, rfl⟩
theorem PS_l {s : PS} (h : pbad s = true) : ∃ e, s = .inl e := by
  match s, h with
  | .inl e, _ => exact ⟨e, rfl⟩
set_option maxHeartbeats 4000000 in
theorem RD_line {g : qG} (hg : qOK g) {h : qH} (hJ : qJDK g) {f : Nat → Nat} {len : Nat} (hS : qSTR g 12 13 len f) (hL : qLD g 5 137 12) {F : Nat → Int32} {n q a : Nat} (hT : cT h F n (.inr a) q) (hE : h.2 33 = some E33) {D P U : Nat → Int32} {N i : Nat} {u st ve cl : Int32} (hR : isR h 34 35 36 37 D P U (nI N) (nI i) u st ve cl) (hN : N ≤ 10) (hi : i ≤ 10) : qSpec g 8 0 0 mX5_readLine [.ref 33, .int (nI i)] h (fun r h' => r = none ∧ same h h' [1, 34, 36] ∧ (∃ q' : Nat, cT h' F n (pline F n f len N i a (P, i)).1 q') ∧ isR h' 34 35 36 37 D (pline F n f len N i a (P, i)).2.1 U (nI N) (nI (pline F n f len N i a (P, i)).2.2) u st ve cl) := by
  refine qSpec_run 5 "readLine" false hg mX5_readLine_ok rfl rfl (Nat.le_of_ble_eq_true rfl) (by decide) ?_
  intro run step
  have hs : same h h [1, 34, 36] := same.rf
  have c100 : ∀ (hX : qH) (s0 : PS) (q0 : Nat) (v rg : Int32), (pnum F n 0 5 (pln1 F n N i (sk F n a) P (.inr a))).2 = v → (pring F n f len (pnumS F n 0 5 (pln1 F n N i (sk F n a) P (.inr a)))).1 = s0 → (pbad s0 = false → rg = (pring F n f len (pnumS F n 0 5 (pln1 F n N i (sk F n a) P (.inr a)))).2) → (pbad s0 = false → i < 10) → cT hX F n s0 q0 → same h hX [1, 34, 36] → hX.2 33 = some E33 → isR hX 34 35 36 37 D P U (nI N) (nI i) u st ve cl → run 100 [(3, .int v), (2, .int (pnum F n 0 (nI N - 1) (.inr a)).2), (0, .ref 33), (1, .int (nI i))] [.int rg] hX 0 0 := by
    intro hX s0 q0 v rg hv hS1 hrg hok hT hs hE hR
    have hS0 : psign F n 59 s0 = plineS F n f len N i a P := by rw [← hS1]; rfl
    have hrg : pbad s0 = false → (pring F n f len (pnumS F n 0 5 (pln1 F n N i (sk F n a) P (.inr a)))).2 = rg := fun hb => (hrg hb).symm
    refine step.1 _ _ _ _ _ _ _ sgX5_readLine_100_ok ?_
    refine ⟨by decide, _, _, hE, rfl, ?_⟩
    refine Or.inl ⟨rfl, _, 3, 0, 0, _, _, _, qi_5_95, ⟨rfl, rfl⟩, ⟨hT.cell.choose_spec, rfl⟩, rfl, rfl, cT_sign hg hT 59 (by decide), fun y108 h108 hy108 => ?_⟩
    obtain ⟨rfl, hsN, hT⟩ := hy108
    have hs := hs.t2 hsN (by decide)
    have hE := (hsN.2 33 (by simp)).trans hE
    have hR := hR.sm hsN (by simp) (by simp) (by simp) (by simp)
    refine ⟨by decide, _, _, hE, rfl, ?_⟩
    refine Or.inl ⟨rfl, _, 1, 0, 0, _, _, _, qi_5_40, ⟨rfl, rfl⟩, ⟨hT.cell.choose_spec, rfl⟩, rfl, rfl, cT_faulty hg hT, fun y115 h115 hy115 => ?_⟩
    obtain ⟨rfl, hh⟩ := hy115
    rw [hh]
    clear hh
    refine ⟨fun c118 => ?_, fun c118 => ?_⟩
    · have hb : pbad (psign F n 59 s0) = true := qb_1.mp c118
      refine step.1 _ _ _ _ _ _ _ sgX5_readLine_152_ok ?_
      refine ⟨rfl, Nat.le_refl _, Nat.le_refl _, ?_⟩
      have e : (pline F n f len N i a (P, i)) = (psign F n 59 s0, (P, i)) := by show (plineS F n f len N i a P, if pbad (plineS F n f len N i a P) = true then (P, i) else (plineP F n f len N i a P, i + 1)) = _; rw [← hS0, hb, if_pos rfl]
      rw [e]
      exact ⟨rfl, hs, ⟨_, hT⟩, hR⟩
    · have hb : pbad (psign F n 59 s0) = false := qb_0.mp c118
      have hlt : i < 10 := hok (pbad_sign hb)
      refine ⟨by decide, _, _, hE, rfl, ?_⟩
      refine ⟨by decide, _, _, hE, rfl, ?_⟩
      refine ⟨by decide, _, _, hR.1, rfl, ?_⟩
      refine Or.inl ⟨rfl, _, 2, 0, 0, _, _, _, qi_5_139, ⟨rfl, rfl⟩, ⟨hR.1, rfl⟩, rfl, rfl, R_setLine hg hR i _ _ _ hlt, fun y136 h136 hy136 => ?_⟩
      obtain ⟨rfl, hh⟩ := hy136
      subst hh
      have hsN : ∀ e : qE, same h108 (h108.1, qup h108.2 36 e) [34, 36] := fun e => same.up (by simp)
      have hR : isR (h108.1, qup h108.2 36 (.inr (.inl (.int, 30, lput P i (pnum F n 0 (nI N - 1) (.inr a)).2 v rg)))) 34 35 36 37 D (lput P i (pnum F n 0 (nI N - 1) (.inr a)).2 v rg) U (nI N) (nI i) u st ve cl := ⟨hR.1, hR.2.1, rfl, hR.2.2.2⟩
      refine ⟨by decide, _, _, hE, rfl, ?_⟩
      refine ⟨rfl, ?_⟩
      refine ⟨by decide, _, _, hR.1, rfl, ?_⟩
      refine ⟨_, hR.1, Nat.le_of_ble_eq_true rfl, rfl, ?_⟩
      refine step.1 _ _ _ _ _ _ _ sgX5_readLine_152_ok ?_
      refine ⟨rfl, Nat.le_refl _, Nat.le_refl _, ?_⟩
      have e : (pline F n f len N i a (P, i)) = (psign F n 59 s0, (lput P i (pnum F n 0 (nI N - 1) (.inr a)).2 v rg, i + 1)) := by show (plineS F n f len N i a P, if pbad (plineS F n f len N i a P) = true then (P, i) else (plineP F n f len N i a P, i + 1)) = _; rw [← hS0, hb, if_neg (by decide), plineP, hv, hrg (pbad_sign hb)]
      rw [e]
      have hsM : ∀ e1 e2 : qE, same h108 (h108.1, qup (qup h108.2 36 e1) 34 e2) [34, 36] := fun e1 e2 => ⟨rfl, fun j hj => by
        have hj1 : j ≠ 36 := fun q => hj (by rw [q]; simp)
        have hj2 : j ≠ 34 := fun q => hj (by rw [q]; simp)
        simp only [qup_n hj1, qup_n hj2]⟩
      refine ⟨rfl, hs.t2 (hsM _ _) (by decide), ⟨_, hT.sm (hsM _ _) (by simp) (by simp)⟩, ?_, hR.2.1, hR.2.2.1, hR.2.2.2⟩
      rw [← nI_1]
      rfl
  have c65 : ∀ (hX : qH) (s0 : PS) (q0 : Nat), s0 = (pln1 F n N i (sk F n a) P (.inr a)) → cT hX F n s0 q0 → same h hX [1, 34, 36] → hX.2 33 = some E33 → isR hX 34 35 36 37 D P U (nI N) (nI i) u st ve cl → run 65 [(2, .int (pnum F n 0 (nI N - 1) (.inr a)).2), (0, .ref 33), (1, .int (nI i))] [] hX 0 0 := by
    intro hX s0 q0 hs0 hT hs hE hR
    subst hs0
    refine step.1 _ _ _ _ _ _ _ sgX5_readLine_65_ok ?_
    refine ⟨by decide, _, _, hE, rfl, ?_⟩
    refine Or.inl ⟨rfl, _, 3, 0, 0, _, _, _, qi_5_82, ⟨rfl, rfl⟩, ⟨hT.cell.choose_spec, rfl⟩, rfl, rfl, cT_number hg hT _ _, fun y71 h71 hy71 => ?_⟩
    obtain ⟨rfl, hsN, qN, hqN, hT⟩ := hy71
    have hs := hs.t2 hsN (by decide)
    have hE := (hsN.2 33 (by simp)).trans hE
    have hR := hR.sm hsN (by simp) (by simp) (by simp) (by simp)
    refine ⟨by decide, _, _, hE, rfl, ?_⟩
    refine Or.inl ⟨rfl, _, 3, 0, 0, _, _, _, qi_5_134, ⟨rfl, rfl⟩, ⟨hT.cell.choose_spec, rfl⟩, rfl, rfl, cT_letter hg hT, fun y79 h79 hy79 => ?_⟩
    obtain ⟨⟨bo, rfl, hbo⟩, hsN, hT⟩ := hy79
    have hs := hs.t2 hsN (by decide)
    have hE := (hsN.2 33 (by simp)).trans hE
    have hR := hR.sm hsN (by simp) (by simp) (by simp) (by simp)
    refine ⟨fun c82 => ?_, fun c82 => ?_⟩
    · have hbo2 : bo = false := qb_0.mp c82
      refine step.1 _ _ _ _ _ _ _ sgX5_readLine_99_ok ?_
      refine c100 _ (pring F n f len (pnum F n 0 5 (pln1 F n N i (sk F n a) P (.inr a))).1).1 qN _ _ ?_ rfl (fun hb => ?_) (fun hb => (pln1_ok (pbad_numS (pbad_ring hb))).1) ?_ hs hE hR
      · rfl
      · obtain ⟨b, eb⟩ := PS_r (pbad_ring hb)
        have hbo := hbo b eb
        rw [hbo2] at hbo
        show _ = (pring F n f len (pnum F n 0 5 (pln1 F n N i (sk F n a) P (.inr a))).1).2
        rw [show (pnum F n 0 5 (pln1 F n N i (sk F n a) P (.inr a))).1 = .inr b from eb]
        unfold pring
        simp only [← hbo]
        rfl
      · show cT _ F n (pring F n f len (pnum F n 0 5 (pln1 F n N i (sk F n a) P (.inr a))).1).1 _
        cases e4 : (pnum F n 0 5 (pln1 F n N i (sk F n a) P (.inr a))).1 with
        | inl e => rw [e4] at hT; exact hT
        | inr b =>
          have hbo := hbo b e4
          rw [hbo2] at hbo
          rw [e4] at hT
          unfold pring
          simp only [← hbo]
          exact hT
    · have hbo2 : bo = true := qb_1.mp c82
      refine ⟨by decide, _, _, hE, rfl, ?_⟩
      refine Or.inl ⟨rfl, 12, hL.choose, hL.choose_spec, ?_⟩
      refine Or.inl ⟨rfl, _, 7, 0, 0, _, _, _, qi_5_55, ⟨rfl, rfl⟩, ⟨hT.cell.choose_spec, rfl⟩, rfl, rfl, cT_word hg hJ hS hT, fun y91 h91 hy91 => ?_⟩
      obtain ⟨⟨w0, rfl, hw0⟩, hsN, qN2, hqN2, hT⟩ := hy91
      have hs := hs.t2 hsN (by decide)
      have hE := (hsN.2 33 (by simp)).trans hE
      have hR := hR.sm hsN (by simp) (by simp) (by simp) (by simp)
      refine c100 _ (pring F n f len (pnum F n 0 5 (pln1 F n N i (sk F n a) P (.inr a))).1).1 qN2 _ _ ?_ rfl (fun hb => ?_) (fun hb => (pln1_ok (pbad_numS (pbad_ring hb))).1) ?_ hs hE hR
      · rfl
      · obtain ⟨b, eb⟩ := PS_r (pbad_ring hb)
        have hbo := hbo b eb
        rw [hbo2] at hbo
        have hw0 := hw0 (sk F n b) (by rw [show (pnum F n 0 5 (pln1 F n N i (sk F n a) P (.inr a))).1 = .inr b from eb]; rfl)
        show _ = (pring F n f len (pnum F n 0 5 (pln1 F n N i (sk F n a) P (.inr a))).1).2
        rw [show (pnum F n 0 5 (pln1 F n N i (sk F n a) P (.inr a))).1 = .inr b from eb, hw0]
        unfold pring
        simp only [← hbo]
        rfl
      · show cT _ F n (pring F n f len (pnum F n 0 5 (pln1 F n N i (sk F n a) P (.inr a))).1).1 _
        cases e4 : (pnum F n 0 5 (pln1 F n N i (sk F n a) P (.inr a))).1 with
        | inl e => rw [e4] at hT; exact hT
        | inr b =>
          have hbo := hbo b e4
          rw [hbo2] at hbo
          rw [e4] at hT
          unfold pring
          simp only [← hbo]
          exact hT
  have c44 : ∀ (hX : qH) (s0 : PS), s0 = (if lhas P (pnum F n 0 (nI N - 1) (.inr a)).2 0 i = true then pfail 2 (sk F n a) (pnumS F n 0 (nI N - 1) (.inr a)) else (pnumS F n 0 (nI N - 1) (.inr a))) → cT hX F n s0 (sk F n a) → same h hX [1, 34, 36] → hX.2 33 = some E33 → isR hX 34 35 36 37 D P U (nI N) (nI i) u st ve cl → run 44 [(2, .int (pnum F n 0 (nI N - 1) (.inr a)).2), (0, .ref 33), (1, .int (nI i))] [] hX 0 0 := by
    intro hX s0 hs0 hT hs hE hR
    refine step.1 _ _ _ _ _ _ _ sgX5_readLine_44_ok ?_
    refine ⟨fun c47 => ?_, fun c47 => ?_⟩
    · have c47 : i < 10 := (nI_ltI (b := 10) (by omega) (by decide)).mp c47
      exact c65 _ _ _ (by rw [pln1, if_neg (by omega)]; exact hs0) hT hs hE hR
    · have c47 : 10 ≤ i := by
        rcases Nat.lt_or_ge i 10 with z | z
        · exact absurd (nI_lt (b := 10) z (by decide)) c47
        · exact z
      refine ⟨by decide, _, _, hE, rfl, ?_⟩
      refine ⟨by decide, _, _, hE, rfl, ?_⟩
      refine ⟨by decide, _, _, hT.from.choose_spec.1, hT.from.choose_spec.2, ?_⟩
      refine Or.inl ⟨rfl, _, 1, 0, 0, _, _, _, qi_5_63, ⟨rfl, rfl⟩, ⟨hT.cell.choose_spec, rfl⟩, rfl, rfl, cT_fail hg hT 3 _ (by decide), fun y62 h62 hy62 => ?_⟩
      obtain ⟨rfl, hsN, hT⟩ := hy62
      have hs := hs.t2 hsN (by decide)
      have hE := (hsN.2 33 (by simp)).trans hE
      have hR := hR.sm hsN (by simp) (by simp) (by simp) (by simp)
      exact c65 _ _ _ (by rw [pln1, if_pos c47, ← hs0]) hT hs hE hR
  refine step.1 _ _ _ _ _ _ _ sgX5_readLine_0_ok ?_
  refine ⟨by decide, _, _, hE, rfl, ?_⟩
  refine ⟨by decide, _, _, hE, rfl, ?_⟩
  refine ⟨by decide, _, _, hR.1, rfl, ?_⟩
  refine Or.inl ⟨rfl, _, 3, 0, 0, _, _, _, qi_5_82, ⟨rfl, rfl⟩, ⟨hT.cell.choose_spec, rfl⟩, rfl, rfl, cT_number hg hT _ _, fun y14 h14 hy14 => ?_⟩
  obtain ⟨rfl, hsN, qN, hqN, hT⟩ := hy14
  have hs := hs.t2 hsN (by decide)
  have hE := (hsN.2 33 (by simp)).trans hE
  have hR := hR.sm hsN (by simp) (by simp) (by simp) (by simp)
  have hqN := hqN a rfl
  subst hqN
  refine ⟨by decide, _, _, hE, rfl, ?_⟩
  refine Or.inl ⟨rfl, _, 2, 0, 0, _, _, _, qi_5_130, ⟨rfl, rfl⟩, ⟨hR.1, rfl⟩, rfl, rfl, R_hasLineAt hg hR (by omega) _, fun y23 h23 hy23 => ?_⟩
  obtain ⟨rfl, hh⟩ := hy23
  rw [hh]
  clear hh
  refine ⟨fun c26 => ?_, fun c26 => ?_⟩
  · have hh : lhas P (pnum F n 0 (nI N - 1) (.inr a)).2 0 i = false := qb_0.mp c26
    exact c44 _ _ (by rw [hh]; exact (if_neg (by decide)).symm) hT hs hE hR
  · have hh : lhas P (pnum F n 0 (nI N - 1) (.inr a)).2 0 i = true := qb_1.mp c26
    refine ⟨by decide, _, _, hE, rfl, ?_⟩
    refine ⟨by decide, _, _, hE, rfl, ?_⟩
    refine ⟨by decide, _, _, hT.from.choose_spec.1, hT.from.choose_spec.2, ?_⟩
    refine Or.inl ⟨rfl, _, 1, 0, 0, _, _, _, qi_5_63, ⟨rfl, rfl⟩, ⟨hT.cell.choose_spec, rfl⟩, rfl, rfl, cT_fail hg hT 2 _ (by decide), fun y41 h41 hy41 => ?_⟩
    obtain ⟨rfl, hsN, hT⟩ := hy41
    have hs := hs.t2 hsN (by decide)
    have hE := (hsN.2 33 (by simp)).trans hE
    have hR := hR.sm hsN (by simp) (by simp) (by simp) (by simp)
    exact c44 _ _ (by rw [hh]; exact (if_pos rfl).symm) hT hs hE hR
set_option maxHeartbeats 4000000 in
theorem RD_plan {g : qG} (hg : qOK g) {h : qH} (hJ : qJDK g) {f : Nat → Nat} {len : Nat} (hS : qSTR g 12 13 len f) (hL : qLD g 5 137 12) {F : Nat → Int32} {n q a : Nat} (hT : cT h F n (.inr a) q) (hE : h.2 33 = some E33) {D P U : Nat → Int32} {N : Nat} {u st ve cl : Int32} {k0 : Int32} (hR : isR h 34 35 36 37 D P U (nI N) k0 u st ve cl) (hN : N ≤ 10) : qSpec g 9 0 0 mX5_readsPlan [.ref 33] h (fun r h' => r = some (.int (qb (!pbad (pprun F n f len N 11 0 (Sum.inr a, P, 0)).1))) ∧ same h h' [1, 34, 36] ∧ (∃ q' : Nat, cT h' F n (pprun F n f len N 11 0 (Sum.inr a, P, 0)).1 q') ∧ isR h' 34 35 36 37 D (pprun F n f len N 11 0 (Sum.inr a, P, 0)).2.1 U (nI N) (nI (pprun F n f len N 11 0 (Sum.inr a, P, 0)).2.2) 0 st ve cl) := by
  refine qSpec_run 5 "readsPlan" false hg mX5_readsPlan_ok rfl rfl (Nat.le_of_ble_eq_true rfl) (by decide) ?_
  intro run step
  have hs : same h h [1, 34, 36] := same.rf
  have c53 : ∀ (hX : qH) (r : PS × PD) (q0 : Nat) (ii : Int32), r = (pprun F n f len N 11 0 (Sum.inr a, P, 0)) → cT hX F n r.1 q0 → same h hX [1, 34, 36] → hX.2 33 = some E33 → isR hX 34 35 36 37 D r.2.1 U (nI N) (nI r.2.2) 0 st ve cl → run 55 [(1, .int ii), (0, .ref 33)] [] hX 0 0 := by
    intro hX r q0 ii hr hT hs hE hR
    rw [← hr] at step
    refine step.1 _ _ _ _ _ _ _ sgX5_readsPlan_55_ok ?_
    refine ⟨by decide, _, _, hE, rfl, ?_⟩
    refine Or.inl ⟨rfl, _, 1, 0, 0, _, _, _, qi_5_40, ⟨rfl, rfl⟩, ⟨hT.cell.choose_spec, rfl⟩, rfl, rfl, cT_faulty hg hT, fun y59 h59 hy59 => ?_⟩
    obtain ⟨rfl, hh⟩ := hy59
    rw [hh]
    clear hh
    refine ⟨fun c62 => ?_, fun c62 => ?_⟩
    · have hb : pbad r.1 = true := qb_1.mp c62
      refine step.1 _ _ _ _ _ _ _ sgX5_readsPlan_69_ok ?_
      refine step.1 _ _ _ _ _ _ _ sgX5_readsPlan_70_ok ?_
      refine ⟨.boolean, rfl, rfl, Nat.le_refl _, Nat.le_refl _, ?_⟩
      refine ⟨?_, hs, ⟨_, hT⟩, hR⟩
      rw [hb]; rfl
    · have hb : pbad r.1 = false := qb_0.mp c62
      refine step.1 _ _ _ _ _ _ _ sgX5_readsPlan_70_ok ?_
      refine ⟨.boolean, rfl, rfl, Nat.le_refl _, Nat.le_refl _, ?_⟩
      refine ⟨?_, hs, ⟨_, hT⟩, hR⟩
      rw [hb]; rfl
  have loop : ∀ (m i : Nat) (r : PS × PD) (hX : qH) (q0 : Nat), i + m = 11 → pprun F n f len N m i r = (pprun F n f len N 11 0 (Sum.inr a, P, 0)) → (∀ b, r.1 = .inr b → r.2.2 = i) → cT hX F n r.1 q0 → same h hX [1, 34, 36] → hX.2 33 = some E33 → isR hX 34 35 36 37 D r.2.1 U (nI N) (nI r.2.2) 0 st ve cl → run 18 [(1, .int (nI i)), (0, .ref 33)] [] hX 0 0 := by
    intro m
    induction m with
    | zero =>
      intro i r hX q0 hi hst hri hT hs hE hR
      obtain rfl : i = 11 := by omega
      refine step.1 _ _ _ _ _ _ _ sgX5_readsPlan_18_ok ?_
      refine ⟨fun c21 => ?_, fun c21 => absurd (by decide : (10 : Int32) < nI 11) c21⟩
      exact c53 hX r q0 _ hst hT hs hE hR
    | succ m ih =>
      intro i r hX q0 hi hst hri hT hs hE hR
      refine step.1 _ _ _ _ _ _ _ sgX5_readsPlan_18_ok ?_
      refine ⟨fun c21 => absurd c21 (nI_nlt (b := i) (a := 10) (by omega) (by decide)), fun c21 => ?_⟩
      refine ⟨by decide, _, _, hE, rfl, ?_⟩
      refine Or.inl ⟨rfl, _, 1, 0, 0, _, _, _, qi_5_40, ⟨rfl, rfl⟩, ⟨hT.cell.choose_spec, rfl⟩, rfl, rfl, cT_faulty hg hT, fun y28 h28 hy28 => ?_⟩
      obtain ⟨rfl, hh⟩ := hy28
      rw [hh]
      clear hh
      refine ⟨fun c31 => ?_, fun c31 => ?_⟩
      · have hb : pbad r.1 = true := qb_1.mp c31
        exact c53 hX r q0 _ (by rw [← hst, pprun]; cases hr : r.1 with
          | inl e => rfl
          | inr b => rw [hr] at hb; cases hb) hT hs hE hR
      · have hb : pbad r.1 = false := qb_0.mp c31
        obtain ⟨s1, P1, K1⟩ := r
        cases s1 with
        | inl e => cases hb
        | inr b =>
        obtain rfl : K1 = i := hri b rfl
        refine ⟨by decide, _, _, hE, rfl, ?_⟩
        refine Or.inl ⟨rfl, _, 3, 0, 0, _, _, _, qi_5_46, ⟨rfl, rfl⟩, ⟨hT.cell.choose_spec, rfl⟩, rfl, rfl, cT_over hg hT, fun y38 h38 hy38 => ?_⟩
        obtain ⟨⟨bo, rfl, hbo⟩, hsN, hT⟩ := hy38
        have hs := hs.t2 hsN (by decide)
        have hE := (hsN.2 33 (by simp)).trans hE
        have hR := hR.sm hsN (by simp) (by simp) (by simp) (by simp)
        refine ⟨fun c41 => ?_, fun c41 => ?_⟩
        · have hb2 : tby F n (sk F n b) = -1 := of_decide_eq_true ((hbo b rfl).symm.trans (qb_1.mp c41))
          exact c53 _ (.inr (sk F n b), P1, K1) q0 _ (by rw [← hst, pprun]; simp only [if_pos hb2]) hT hs hE hR
        · have hb2 : ¬ tby F n (sk F n b) = -1 := of_decide_eq_false ((hbo b rfl).symm.trans (qb_0.mp c41))
          refine Or.inl ⟨rfl, _, 8, 0, 0, _, _, _, qi_5_127, ⟨rfl, rfl⟩, ⟨hE, rfl⟩, rfl, rfl, RD_line hg hJ hS hL hT hE hR hN (by omega), fun y46 h46 hy46 => ?_⟩
          obtain ⟨rfl, hsN, ⟨qN, hT⟩, hR⟩ := hy46
          have hs := hs.t2 hsN (by decide)
          have hE := (hsN.2 33 (by simp)).trans hE
          have kk2 := ih (K1 + 1) (pline F n f len N K1 (sk F n b) (P1, K1)) h46 qN (by omega) (by rw [← hst, pprun]; simp only [if_neg hb2]) (fun b2 hb2 => by
            show (if pbad (plineS F n f len N K1 (sk F n b) P1) = true then (P1, K1) else (plineP F n f len N K1 (sk F n b) P1, K1 + 1)).2 = K1 + 1
            rw [show plineS F n f len N K1 (sk F n b) P1 = .inr b2 from hb2]
            rfl) hT hs hE hR
          rw [← nI_1] at kk2
          exact kk2
  refine step.1 _ _ _ _ _ _ _ sgX5_readsPlan_0_ok ?_
  refine ⟨by decide, _, _, hE, rfl, ?_⟩
  refine ⟨_, hR.1, Nat.le_of_ble_eq_true rfl, rfl, ?_⟩
  refine ⟨by decide, _, _, hE, rfl, ?_⟩
  refine ⟨_, rfl, Nat.le_of_ble_eq_true rfl, rfl, ?_⟩
  have hsN : ∀ e1 e2 : qE, same h (h.1, qup (qup h.2 34 e1) 34 e2) [34] := fun e1 e2 => ⟨rfl, fun j hj => by
    have hj1 : j ≠ 34 := fun q => hj (by rw [q]; simp)
    simp only [qup_n hj1]⟩
  have hs := hs.t2 (hsN (.inl (6, [.ref 35, .ref 36, .ref 37, .int (nI N), .int 0, .int u, .int st, .int ve, .int cl])) (.inl (6, [.ref 35, .ref 36, .ref 37, .int (nI N), .int 0, .int 0, .int st, .int ve, .int cl]))) (by decide)
  have hT := hT.sm (hsN (.inl (6, [.ref 35, .ref 36, .ref 37, .int (nI N), .int 0, .int u, .int st, .int ve, .int cl])) (.inl (6, [.ref 35, .ref 36, .ref 37, .int (nI N), .int 0, .int 0, .int st, .int ve, .int cl]))) (by simp) (by simp)
  exact loop 11 0 (Sum.inr a, P, 0) _ _ rfl rfl (fun _ _ => rfl) hT hs hE ⟨rfl, hR.2.1, hR.2.2.1, hR.2.2.2⟩
end Q08J
