section Q08I
/-- what a village's text has told by now -/
abbrev VD : Type := (Nat → Int32) × Nat × (Nat → Int32) × Nat × Int32 × Int32 × Int32
def pkind (w : Int32) : Nat := if w < 0 ∨ 12 < w then 13 else w.toNatClampNeg
def pbody (F : Nat → Int32) (n k q : Nat) (s : PS) (D : Nat → Int32) (N : Nat) (Q : Nat → Int32) (M : Nat) (st ve cl : Int32) : PS × VD := match k with
  | 0 => (pdoorS F n N q s, if pbad (pdoorS F n N q s) then D else pdoorD F n N q s D, if pbad (pdoorS F n N q s) then N else N + 1, Q, M, st, ve, cl)
  | 1 => (pfactS F n N 16 s, if pbad (pfactS F n N 16 s) then D else pfactD F n N 16 10 3 s D, N, Q, M, st, ve, cl)
  | 2 => (pfactS F n N 16 s, if pbad (pfactS F n N 16 s) then D else pfactD F n N 16 10 4 s D, N, Q, M, st, ve, cl)
  | 3 => (pfactS F n N 16 s, if pbad (pfactS F n N 16 s) then D else pfactD F n N 16 10 5 s D, N, Q, M, st, ve, cl)
  | 4 => (plightS F n N s, if pbad (plightS F n N s) then D else plightD F n N s D, N, Q, M, st, ve, cl)
  | 5 => (pfactS F n N 20 s, if pbad (pfactS F n N 20 s) then D else pfactD F n N 20 10 8 s D, N, Q, M, st, ve, cl)
  | 6 => (pfactS F n N 30 s, if pbad (pfactS F n N 30 s) then D else pfactD F n N 30 10 9 s D, N, Q, M, st, ve, cl)
  | 7 => (psingS F n M q s, D, N, if pbad (psingS F n M q s) then Q else psingQ F n M q s Q, if pbad (psingS F n M q s) then M else M + 1, st, ve, cl)
  | 8 => (pfactS F n M 480 s, D, N, if pbad (pfactS F n M 480 s) then Q else pfactD F n M 480 4 2 s Q, M, st, ve, cl)
  | 9 => (pfactS F n M 9 s, D, N, if pbad (pfactS F n M 9 s) then Q else pfactD F n M 9 4 3 s Q, M, st, ve, cl)
  | 10 => (pnumS F n 0 99 s, D, N, Q, M, (pnum F n 0 99 s).2, ve, cl)
  | 11 => (pnumS F n 1 9 s, D, N, Q, M, st, (pnum F n 1 9 s).2, cl)
  | 12 => (pnumS F n 0 480 s, D, N, Q, M, st, ve, (pnum F n 0 480 s).2)
  | _ => (s, D, N, Q, M, st, ve, cl)
def pcl0 (i q : Nat) (s : PS) : PS := if 60 ≤ i then pfail 3 q s else s
def pclause (F : Nat → Int32) (n : Nat) (f : Nat → Nat) (len i a : Nat) (V : VD) : PS × VD := (fun r : PS × VD => (psign F n 59 r.1, r.2)) (pbody F n (pkind (pword F n f len a)) (sk F n a) (pcl0 i (sk F n a) (pwst F n f len (.inr a))) V.1 V.2.1 V.2.2.1 V.2.2.2.1 V.2.2.2.2.1 V.2.2.2.2.2.1 V.2.2.2.2.2.2)
def pvrun (F : Nat → Int32) (n : Nat) (f : Nat → Nat) (len : Nat) : Nat → Nat → PS × VD → PS × VD
  | 0, _, r => r
  | m + 1, i, r => match r.1 with
    | .inl _ => r
    | .inr a => if tby F n (sk F n a) = -1 then (.inr (sk F n a), r.2) else pvrun F n f len m (i + 1) (pclause F n f len i (sk F n a) r.2)
theorem pbody_le {F : Nat → Int32} {n k q : Nat} {s : PS} {D : Nat → Int32} {N : Nat} {Q : Nat → Int32} {M : Nat} {st ve cl : Int32} (hN : N ≤ 10) (hM : M ≤ 8) : (pbody F n k q s D N Q M st ve cl).2.2.1 ≤ 10 ∧ (pbody F n k q s D N Q M st ve cl).2.2.2.2.1 ≤ 8 := by
  unfold pbody
  split
  · refine ⟨?_, hM⟩
    show (if pbad (pdoorS F n N q s) = true then N else N + 1) ≤ 10
    split
    · exact hN
    · rename_i hb
      have hb : pbad (pdoorS F n N q s) = false := by simpa using hb
      rcases Nat.lt_or_ge N 10 with z | z
      · omega
      · have z2 := pbad_numS (pbad_numS (pbad_numS hb))
        rw [pd0, if_pos z, pbad_fail] at z2
        cases z2
  · exact ⟨hN, hM⟩
  · exact ⟨hN, hM⟩
  · exact ⟨hN, hM⟩
  · exact ⟨hN, hM⟩
  · exact ⟨hN, hM⟩
  · exact ⟨hN, hM⟩
  · refine ⟨hN, ?_⟩
    show (if pbad (psingS F n M q s) = true then M else M + 1) ≤ 8
    split
    · exact hM
    · rename_i hb
      have hb : pbad (psingS F n M q s) = false := by simpa using hb
      rcases Nat.lt_or_ge M 8 with z | z
      · omega
      · have z2 := pbad_numS (pbad_numS hb)
        rw [ps0, if_pos z, pbad_fail] at z2
        cases z2
  · exact ⟨hN, hM⟩
  · exact ⟨hN, hM⟩
  · exact ⟨hN, hM⟩
  · exact ⟨hN, hM⟩
  · exact ⟨hN, hM⟩
  · exact ⟨hN, hM⟩
theorem sk_sk (F : Nat → Int32) {n a : Nat} (h : a ≤ n) : sk F n (sk F n a) = sk F n a := by
  have key : ∀ (m i : Nat), i + m = n → skp F n (n - skp F n m i) (skp F n m i) = skp F n m i := by
    intro m
    induction m with
    | zero =>
      intro i hi
      have e : i = n := by omega
      subst e
      show skp F i (i - i) i = i
      rw [Nat.sub_self]; rfl
    | succ m ih =>
      intro i hi
      by_cases c : tby F n i = 32
      · rw [show skp F n (m + 1) i = skp F n m (i + 1) from if_pos c]
        exact ih (i + 1) (by omega)
      · rw [show skp F n (m + 1) i = i from if_neg c, show n - i = m + 1 by omega]
        exact if_neg c
  exact key (n - a) a (by omega)
/-- a constant of a class, known -/
def qLD (g : qG) (ow idx j : Nat) : Prop := ∃ tx : String, vk_R (qown ow) idx tx (g.2.2.2 j) g.2.1
set_option maxHeartbeats 4000000 in
theorem RD_clause {g : qG} (hg : qOK g) {h : qH} (hM : qFM g) (hJ : qJDK g) {f : Nat → Nat} {len : Nat} (hS : qSTR g 10 11 len f) (hL : qLD g 5 53 10) {F : Nat → Int32} {n q a : Nat} (hT : cT h F n (.inr a) q) (hE : h.2 33 = some E33) {D P U Q : Nat → Int32} {N k u M : Nat} {st ve cl : Int32} (hR : isR h 34 35 36 37 D P U (nI N) (nI k) (nI u) st ve cl) (hC : isC h 38 39 Q (nI M)) (hN : N ≤ 10) (hm8 : M ≤ 8) (i : Nat) (hi : i ≤ 60) : qSpec g 8 0 0 mX5_readClause [.ref 33, .int (nI i)] h (fun r h' => r = none ∧ same h h' [1, 34, 35, 38, 39] ∧ (∃ q' : Nat, cT h' F n (pclause F n f len i a (D, N, Q, M, st, ve, cl)).1 q') ∧ isR h' 34 35 36 37 (pclause F n f len i a (D, N, Q, M, st, ve, cl)).2.1 P U (nI (pclause F n f len i a (D, N, Q, M, st, ve, cl)).2.2.1) (nI k) (nI u) (pclause F n f len i a (D, N, Q, M, st, ve, cl)).2.2.2.2.2.1 (pclause F n f len i a (D, N, Q, M, st, ve, cl)).2.2.2.2.2.2.1 (pclause F n f len i a (D, N, Q, M, st, ve, cl)).2.2.2.2.2.2.2 ∧ isC h' 38 39 (pclause F n f len i a (D, N, Q, M, st, ve, cl)).2.2.2.1 (nI (pclause F n f len i a (D, N, Q, M, st, ve, cl)).2.2.2.2.1)) := by
  refine qSpec_run 5 "readClause" false hg mX5_readClause_ok rfl rfl (Nat.le_of_ble_eq_true rfl) (by decide) ?_
  intro run step
  have hs : same h h [1, 34, 35, 38, 39] := same.rf
  have c31 : ∀ (hX : qH) (s0 : PS) (q0 : Nat) (w0 : Int32), w0 = pword F n f len a → s0 = pcl0 i (sk F n a) (pwst F n f len (.inr a)) → cT hX F n s0 (sk F n a) → same h hX [1, 34, 35, 38, 39] → hX.2 33 = some E33 → isR hX 34 35 36 37 D P U (nI N) (nI k) (nI u) st ve cl → isC hX 38 39 Q (nI M) → run 31 [(2, .int w0), (0, .ref 33), (1, .int (nI i))] [] hX 0 0 := by
    intro hX s0 q0 w0 hw0 hs0 hT hs hE hR hC
    have hP : (pclause F n f len i a (D, N, Q, M, st, ve, cl)) = (fun r : PS × VD => (psign F n 59 r.1, r.2)) (pbody F n (pkind w0) (sk F n a) s0 D N Q M st ve cl) := by rw [hw0, hs0]; rfl
    rw [hP] at step
    refine step.1 _ _ _ _ _ _ _ sgX5_readClause_31_ok ?_
    refine ⟨fun c32 => ⟨245, by decide, ?_⟩, fun j c32a c32b c32j => ?_⟩
    · have hk : pkind w0 = 13 := by
        rw [pkind, if_pos]
        rcases c32 with z | z
        · exact Or.inl (Int32.lt_iff_toInt_lt.mpr z)
        · exact Or.inr (Int32.lt_iff_toInt_lt.mpr z)
      refine step.1 _ _ _ _ _ _ _ sgX5_readClause_245_ok ?_
      refine ⟨by decide, _, _, hE, rfl, ?_⟩
      refine Or.inl ⟨rfl, _, 3, 0, 0, _, _, _, qi_5_95, ⟨rfl, rfl⟩, ⟨hT.cell.choose_spec, rfl⟩, rfl, rfl, cT_sign hg hT 59 (by decide), fun y251 h251 hy251 => ?_⟩
      obtain ⟨rfl, hsN, hT⟩ := hy251
      have hs := hs.t2 hsN (by decide)
      have hE := (hsN.2 33 (by simp)).trans hE
      have hR := hR.sm hsN (by simp) (by simp) (by simp) (by simp)
      have hC := hC.sm hsN (by simp) (by simp)
      refine ⟨rfl, Nat.le_refl _, Nat.le_refl _, ?_⟩
      rw [hk]
      exact ⟨rfl, hs, ⟨_, hT⟩, hR, hC⟩
    · have ew := sw_eq c32a c32j
      rcases (show j = 0 ∨ j = 1 ∨ j = 2 ∨ j = 3 ∨ j = 4 ∨ j = 5 ∨ j = 6 ∨ j = 7 ∨ j = 8 ∨ j = 9 ∨ j = 10 ∨ j = 11 ∨ j = 12 by omega) with rfl | rfl | rfl | rfl | rfl | rfl | rfl | rfl | rfl | rfl | rfl | rfl | rfl
      · have hk : pkind w0 = 0 := by rw [ew]; decide
        refine ⟨_, 100, rfl, by decide, ?_⟩
        refine step.1 _ _ _ _ _ _ _ sgX5_readClause_100_ok ?_
        refine Or.inl ⟨rfl, _, 4, 0, 0, _, _, _, qi_5_67, ⟨rfl, rfl⟩, ⟨hE, rfl⟩, rfl, rfl, RD_door hg hM hT hE hR hC hN hm8, fun y101 h101 hy101 => ?_⟩
        obtain ⟨rfl, hsN, ⟨qN, hT⟩, hR, hC⟩ := hy101
        have hs := hs.t2 hsN (by decide)
        have hE := (hsN.2 33 (by simp)).trans hE
        refine step.1 _ _ _ _ _ _ _ sgX5_readClause_245_ok ?_
        refine ⟨by decide, _, _, hE, rfl, ?_⟩
        refine Or.inl ⟨rfl, _, 3, 0, 0, _, _, _, qi_5_95, ⟨rfl, rfl⟩, ⟨hT.cell.choose_spec, rfl⟩, rfl, rfl, cT_sign hg hT 59 (by decide), fun y251 h251 hy251 => ?_⟩
        obtain ⟨rfl, hsN, hT⟩ := hy251
        have hs := hs.t2 hsN (by decide)
        have hE := (hsN.2 33 (by simp)).trans hE
        have hR := hR.sm hsN (by simp) (by simp) (by simp) (by simp)
        have hC := hC.sm hsN (by simp) (by simp)
        refine ⟨rfl, Nat.le_refl _, Nat.le_refl _, ?_⟩
        rw [hk]
        exact ⟨rfl, hs, ⟨_, hT⟩, hR, hC⟩
      · have hk : pkind w0 = 1 := by rw [ew]; decide
        refine ⟨_, 107, rfl, by decide, ?_⟩
        refine step.1 _ _ _ _ _ _ _ sgX5_readClause_107_ok ?_
        refine Or.inl ⟨rfl, _, 4, 0, 0, _, _, _, qi_5_70, ⟨rfl, rfl⟩, ⟨hE, rfl⟩, rfl, rfl, RD_fact hg hM hT hE hR hC hN hm8 3 (by decide), fun y109 h109 hy109 => ?_⟩
        obtain ⟨rfl, hsN, ⟨qN, hT⟩, hR, hC⟩ := hy109
        have hs := hs.t2 hsN (by decide)
        have hE := (hsN.2 33 (by simp)).trans hE
        refine step.1 _ _ _ _ _ _ _ sgX5_readClause_245_ok ?_
        refine ⟨by decide, _, _, hE, rfl, ?_⟩
        refine Or.inl ⟨rfl, _, 3, 0, 0, _, _, _, qi_5_95, ⟨rfl, rfl⟩, ⟨hT.cell.choose_spec, rfl⟩, rfl, rfl, cT_sign hg hT 59 (by decide), fun y251 h251 hy251 => ?_⟩
        obtain ⟨rfl, hsN, hT⟩ := hy251
        have hs := hs.t2 hsN (by decide)
        have hE := (hsN.2 33 (by simp)).trans hE
        have hR := hR.sm hsN (by simp) (by simp) (by simp) (by simp)
        have hC := hC.sm hsN (by simp) (by simp)
        refine ⟨rfl, Nat.le_refl _, Nat.le_refl _, ?_⟩
        rw [hk]
        exact ⟨rfl, hs, ⟨_, hT⟩, hR, hC⟩
      · have hk : pkind w0 = 2 := by rw [ew]; decide
        refine ⟨_, 115, rfl, by decide, ?_⟩
        refine step.1 _ _ _ _ _ _ _ sgX5_readClause_115_ok ?_
        refine Or.inl ⟨rfl, _, 4, 0, 0, _, _, _, qi_5_70, ⟨rfl, rfl⟩, ⟨hE, rfl⟩, rfl, rfl, RD_fact hg hM hT hE hR hC hN hm8 4 (by decide), fun y117 h117 hy117 => ?_⟩
        obtain ⟨rfl, hsN, ⟨qN, hT⟩, hR, hC⟩ := hy117
        have hs := hs.t2 hsN (by decide)
        have hE := (hsN.2 33 (by simp)).trans hE
        refine step.1 _ _ _ _ _ _ _ sgX5_readClause_245_ok ?_
        refine ⟨by decide, _, _, hE, rfl, ?_⟩
        refine Or.inl ⟨rfl, _, 3, 0, 0, _, _, _, qi_5_95, ⟨rfl, rfl⟩, ⟨hT.cell.choose_spec, rfl⟩, rfl, rfl, cT_sign hg hT 59 (by decide), fun y251 h251 hy251 => ?_⟩
        obtain ⟨rfl, hsN, hT⟩ := hy251
        have hs := hs.t2 hsN (by decide)
        have hE := (hsN.2 33 (by simp)).trans hE
        have hR := hR.sm hsN (by simp) (by simp) (by simp) (by simp)
        have hC := hC.sm hsN (by simp) (by simp)
        refine ⟨rfl, Nat.le_refl _, Nat.le_refl _, ?_⟩
        rw [hk]
        exact ⟨rfl, hs, ⟨_, hT⟩, hR, hC⟩
      · have hk : pkind w0 = 3 := by rw [ew]; decide
        refine ⟨_, 123, rfl, by decide, ?_⟩
        refine step.1 _ _ _ _ _ _ _ sgX5_readClause_123_ok ?_
        refine Or.inl ⟨rfl, _, 4, 0, 0, _, _, _, qi_5_70, ⟨rfl, rfl⟩, ⟨hE, rfl⟩, rfl, rfl, RD_fact hg hM hT hE hR hC hN hm8 5 (by decide), fun y125 h125 hy125 => ?_⟩
        obtain ⟨rfl, hsN, ⟨qN, hT⟩, hR, hC⟩ := hy125
        have hs := hs.t2 hsN (by decide)
        have hE := (hsN.2 33 (by simp)).trans hE
        refine step.1 _ _ _ _ _ _ _ sgX5_readClause_245_ok ?_
        refine ⟨by decide, _, _, hE, rfl, ?_⟩
        refine Or.inl ⟨rfl, _, 3, 0, 0, _, _, _, qi_5_95, ⟨rfl, rfl⟩, ⟨hT.cell.choose_spec, rfl⟩, rfl, rfl, cT_sign hg hT 59 (by decide), fun y251 h251 hy251 => ?_⟩
        obtain ⟨rfl, hsN, hT⟩ := hy251
        have hs := hs.t2 hsN (by decide)
        have hE := (hsN.2 33 (by simp)).trans hE
        have hR := hR.sm hsN (by simp) (by simp) (by simp) (by simp)
        have hC := hC.sm hsN (by simp) (by simp)
        refine ⟨rfl, Nat.le_refl _, Nat.le_refl _, ?_⟩
        rw [hk]
        exact ⟨rfl, hs, ⟨_, hT⟩, hR, hC⟩
      · have hk : pkind w0 = 4 := by rw [ew]; decide
        refine ⟨_, 131, rfl, by decide, ?_⟩
        refine step.1 _ _ _ _ _ _ _ sgX5_readClause_131_ok ?_
        refine Or.inl ⟨rfl, _, 4, 0, 0, _, _, _, qi_5_73, ⟨rfl, rfl⟩, ⟨hE, rfl⟩, rfl, rfl, RD_light hg hM hT hE hR hC hN hm8, fun y132 h132 hy132 => ?_⟩
        obtain ⟨rfl, hsN, ⟨qN, hT⟩, hR, hC⟩ := hy132
        have hs := hs.t2 hsN (by decide)
        have hE := (hsN.2 33 (by simp)).trans hE
        refine step.1 _ _ _ _ _ _ _ sgX5_readClause_245_ok ?_
        refine ⟨by decide, _, _, hE, rfl, ?_⟩
        refine Or.inl ⟨rfl, _, 3, 0, 0, _, _, _, qi_5_95, ⟨rfl, rfl⟩, ⟨hT.cell.choose_spec, rfl⟩, rfl, rfl, cT_sign hg hT 59 (by decide), fun y251 h251 hy251 => ?_⟩
        obtain ⟨rfl, hsN, hT⟩ := hy251
        have hs := hs.t2 hsN (by decide)
        have hE := (hsN.2 33 (by simp)).trans hE
        have hR := hR.sm hsN (by simp) (by simp) (by simp) (by simp)
        have hC := hC.sm hsN (by simp) (by simp)
        refine ⟨rfl, Nat.le_refl _, Nat.le_refl _, ?_⟩
        rw [hk]
        exact ⟨rfl, hs, ⟨_, hT⟩, hR, hC⟩
      · have hk : pkind w0 = 5 := by rw [ew]; decide
        refine ⟨_, 138, rfl, by decide, ?_⟩
        refine step.1 _ _ _ _ _ _ _ sgX5_readClause_138_ok ?_
        refine Or.inl ⟨rfl, _, 4, 0, 0, _, _, _, qi_5_70, ⟨rfl, rfl⟩, ⟨hE, rfl⟩, rfl, rfl, RD_fact hg hM hT hE hR hC hN hm8 8 (by decide), fun y141 h141 hy141 => ?_⟩
        obtain ⟨rfl, hsN, ⟨qN, hT⟩, hR, hC⟩ := hy141
        have hs := hs.t2 hsN (by decide)
        have hE := (hsN.2 33 (by simp)).trans hE
        refine step.1 _ _ _ _ _ _ _ sgX5_readClause_245_ok ?_
        refine ⟨by decide, _, _, hE, rfl, ?_⟩
        refine Or.inl ⟨rfl, _, 3, 0, 0, _, _, _, qi_5_95, ⟨rfl, rfl⟩, ⟨hT.cell.choose_spec, rfl⟩, rfl, rfl, cT_sign hg hT 59 (by decide), fun y251 h251 hy251 => ?_⟩
        obtain ⟨rfl, hsN, hT⟩ := hy251
        have hs := hs.t2 hsN (by decide)
        have hE := (hsN.2 33 (by simp)).trans hE
        have hR := hR.sm hsN (by simp) (by simp) (by simp) (by simp)
        have hC := hC.sm hsN (by simp) (by simp)
        refine ⟨rfl, Nat.le_refl _, Nat.le_refl _, ?_⟩
        rw [hk]
        exact ⟨rfl, hs, ⟨_, hT⟩, hR, hC⟩
      · have hk : pkind w0 = 6 := by rw [ew]; decide
        refine ⟨_, 147, rfl, by decide, ?_⟩
        refine step.1 _ _ _ _ _ _ _ sgX5_readClause_147_ok ?_
        refine Or.inl ⟨rfl, _, 4, 0, 0, _, _, _, qi_5_70, ⟨rfl, rfl⟩, ⟨hE, rfl⟩, rfl, rfl, RD_fact hg hM hT hE hR hC hN hm8 9 (by decide), fun y150 h150 hy150 => ?_⟩
        obtain ⟨rfl, hsN, ⟨qN, hT⟩, hR, hC⟩ := hy150
        have hs := hs.t2 hsN (by decide)
        have hE := (hsN.2 33 (by simp)).trans hE
        refine step.1 _ _ _ _ _ _ _ sgX5_readClause_245_ok ?_
        refine ⟨by decide, _, _, hE, rfl, ?_⟩
        refine Or.inl ⟨rfl, _, 3, 0, 0, _, _, _, qi_5_95, ⟨rfl, rfl⟩, ⟨hT.cell.choose_spec, rfl⟩, rfl, rfl, cT_sign hg hT 59 (by decide), fun y251 h251 hy251 => ?_⟩
        obtain ⟨rfl, hsN, hT⟩ := hy251
        have hs := hs.t2 hsN (by decide)
        have hE := (hsN.2 33 (by simp)).trans hE
        have hR := hR.sm hsN (by simp) (by simp) (by simp) (by simp)
        have hC := hC.sm hsN (by simp) (by simp)
        refine ⟨rfl, Nat.le_refl _, Nat.le_refl _, ?_⟩
        rw [hk]
        exact ⟨rfl, hs, ⟨_, hT⟩, hR, hC⟩
      · have hk : pkind w0 = 7 := by rw [ew]; decide
        refine ⟨_, 156, rfl, by decide, ?_⟩
        refine step.1 _ _ _ _ _ _ _ sgX5_readClause_156_ok ?_
        refine Or.inl ⟨rfl, _, 4, 0, 0, _, _, _, qi_5_76, ⟨rfl, rfl⟩, ⟨hE, rfl⟩, rfl, rfl, RD_singer hg hM hT hE hR hC hN hm8, fun y157 h157 hy157 => ?_⟩
        obtain ⟨rfl, hsN, ⟨qN, hT⟩, hR, hC⟩ := hy157
        have hs := hs.t2 hsN (by decide)
        have hE := (hsN.2 33 (by simp)).trans hE
        refine step.1 _ _ _ _ _ _ _ sgX5_readClause_245_ok ?_
        refine ⟨by decide, _, _, hE, rfl, ?_⟩
        refine Or.inl ⟨rfl, _, 3, 0, 0, _, _, _, qi_5_95, ⟨rfl, rfl⟩, ⟨hT.cell.choose_spec, rfl⟩, rfl, rfl, cT_sign hg hT 59 (by decide), fun y251 h251 hy251 => ?_⟩
        obtain ⟨rfl, hsN, hT⟩ := hy251
        have hs := hs.t2 hsN (by decide)
        have hE := (hsN.2 33 (by simp)).trans hE
        have hR := hR.sm hsN (by simp) (by simp) (by simp) (by simp)
        have hC := hC.sm hsN (by simp) (by simp)
        refine ⟨rfl, Nat.le_refl _, Nat.le_refl _, ?_⟩
        rw [hk]
        exact ⟨rfl, hs, ⟨_, hT⟩, hR, hC⟩
      · have hk : pkind w0 = 8 := by rw [ew]; decide
        refine ⟨_, 163, rfl, by decide, ?_⟩
        refine step.1 _ _ _ _ _ _ _ sgX5_readClause_163_ok ?_
        refine Or.inl ⟨rfl, _, 4, 0, 0, _, _, _, qi_5_79, ⟨rfl, rfl⟩, ⟨hE, rfl⟩, rfl, rfl, RD_ofSinger hg hM hT hE hR hC hN hm8 2 480 (by decide), fun y168 h168 hy168 => ?_⟩
        obtain ⟨rfl, hsN, ⟨qN, hT⟩, hR, hC⟩ := hy168
        have hs := hs.t2 hsN (by decide)
        have hE := (hsN.2 33 (by simp)).trans hE
        refine step.1 _ _ _ _ _ _ _ sgX5_readClause_245_ok ?_
        refine ⟨by decide, _, _, hE, rfl, ?_⟩
        refine Or.inl ⟨rfl, _, 3, 0, 0, _, _, _, qi_5_95, ⟨rfl, rfl⟩, ⟨hT.cell.choose_spec, rfl⟩, rfl, rfl, cT_sign hg hT 59 (by decide), fun y251 h251 hy251 => ?_⟩
        obtain ⟨rfl, hsN, hT⟩ := hy251
        have hs := hs.t2 hsN (by decide)
        have hE := (hsN.2 33 (by simp)).trans hE
        have hR := hR.sm hsN (by simp) (by simp) (by simp) (by simp)
        have hC := hC.sm hsN (by simp) (by simp)
        refine ⟨rfl, Nat.le_refl _, Nat.le_refl _, ?_⟩
        rw [hk]
        exact ⟨rfl, hs, ⟨_, hT⟩, hR, hC⟩
      · have hk : pkind w0 = 9 := by rw [ew]; decide
        refine ⟨_, 174, rfl, by decide, ?_⟩
        refine step.1 _ _ _ _ _ _ _ sgX5_readClause_174_ok ?_
        refine Or.inl ⟨rfl, _, 4, 0, 0, _, _, _, qi_5_79, ⟨rfl, rfl⟩, ⟨hE, rfl⟩, rfl, rfl, RD_ofSinger hg hM hT hE hR hC hN hm8 3 9 (by decide), fun y178 h178 hy178 => ?_⟩
        obtain ⟨rfl, hsN, ⟨qN, hT⟩, hR, hC⟩ := hy178
        have hs := hs.t2 hsN (by decide)
        have hE := (hsN.2 33 (by simp)).trans hE
        refine step.1 _ _ _ _ _ _ _ sgX5_readClause_245_ok ?_
        refine ⟨by decide, _, _, hE, rfl, ?_⟩
        refine Or.inl ⟨rfl, _, 3, 0, 0, _, _, _, qi_5_95, ⟨rfl, rfl⟩, ⟨hT.cell.choose_spec, rfl⟩, rfl, rfl, cT_sign hg hT 59 (by decide), fun y251 h251 hy251 => ?_⟩
        obtain ⟨rfl, hsN, hT⟩ := hy251
        have hs := hs.t2 hsN (by decide)
        have hE := (hsN.2 33 (by simp)).trans hE
        have hR := hR.sm hsN (by simp) (by simp) (by simp) (by simp)
        have hC := hC.sm hsN (by simp) (by simp)
        refine ⟨rfl, Nat.le_refl _, Nat.le_refl _, ?_⟩
        rw [hk]
        exact ⟨rfl, hs, ⟨_, hT⟩, hR, hC⟩
      · have hk : pkind w0 = 10 := by rw [ew]; decide
        refine ⟨_, 184, rfl, by decide, ?_⟩
        refine step.1 _ _ _ _ _ _ _ sgX5_readClause_184_ok ?_
        refine ⟨by decide, _, _, hE, rfl, ?_⟩
        refine ⟨by decide, _, _, hE, rfl, ?_⟩
        refine Or.inl ⟨rfl, _, 3, 0, 0, _, _, _, qi_5_82, ⟨rfl, rfl⟩, ⟨hT.cell.choose_spec, rfl⟩, rfl, rfl, cT_number hg hT _ _, fun y195 h195 hy195 => ?_⟩
        obtain ⟨rfl, hsN, qN, hqN, hT⟩ := hy195
        have hs := hs.t2 hsN (by decide)
        have hE := (hsN.2 33 (by simp)).trans hE
        have hR := hR.sm hsN (by simp) (by simp) (by simp) (by simp)
        have hC := hC.sm hsN (by simp) (by simp)
        refine ⟨_, hR.1, Nat.le_of_ble_eq_true rfl, rfl, ?_⟩
        have hsP : ∀ e : qE, same h195 (h195.1, qup h195.2 34 e) [34] := fun e => same.up (by simp)
        have hT := hT.sm (hsP (.inl (6, [.ref 35, .ref 36, .ref 37, .int (nI N), .int (nI k), .int (nI u), .int (pnum F n 0 99 s0).2, .int ve, .int cl]))) (by simp) (by simp)
        have hs := hs.t2 (hsP (.inl (6, [.ref 35, .ref 36, .ref 37, .int (nI N), .int (nI k), .int (nI u), .int (pnum F n 0 99 s0).2, .int ve, .int cl]))) (by decide)
        have hR : isR (h195.1, qup h195.2 34 (.inl (6, [.ref 35, .ref 36, .ref 37, .int (nI N), .int (nI k), .int (nI u), .int (pnum F n 0 99 s0).2, .int ve, .int cl]))) 34 35 36 37 D P U (nI N) (nI k) (nI u) (pnum F n 0 99 s0).2 ve cl := ⟨rfl, hR.2.1, hR.2.2.1, hR.2.2.2⟩
        have hC : isC (h195.1, qup h195.2 34 (.inl (6, [.ref 35, .ref 36, .ref 37, .int (nI N), .int (nI k), .int (nI u), .int (pnum F n 0 99 s0).2, .int ve, .int cl]))) 38 39 Q (nI M) := hC
        refine step.1 _ _ _ _ _ _ _ sgX5_readClause_245_ok ?_
        refine ⟨by decide, _, _, hE, rfl, ?_⟩
        refine Or.inl ⟨rfl, _, 3, 0, 0, _, _, _, qi_5_95, ⟨rfl, rfl⟩, ⟨hT.cell.choose_spec, rfl⟩, rfl, rfl, cT_sign hg hT 59 (by decide), fun y251 h251 hy251 => ?_⟩
        obtain ⟨rfl, hsN, hT⟩ := hy251
        have hs := hs.t2 hsN (by decide)
        have hE := (hsN.2 33 (by simp)).trans hE
        have hR := hR.sm hsN (by simp) (by simp) (by simp) (by simp)
        have hC := hC.sm hsN (by simp) (by simp)
        refine ⟨rfl, Nat.le_refl _, Nat.le_refl _, ?_⟩
        rw [hk]
        exact ⟨rfl, hs, ⟨_, hT⟩, hR, hC⟩
      · have hk : pkind w0 = 11 := by rw [ew]; decide
        refine ⟨_, 204, rfl, by decide, ?_⟩
        refine step.1 _ _ _ _ _ _ _ sgX5_readClause_204_ok ?_
        refine ⟨by decide, _, _, hE, rfl, ?_⟩
        refine ⟨by decide, _, _, hE, rfl, ?_⟩
        refine Or.inl ⟨rfl, _, 3, 0, 0, _, _, _, qi_5_82, ⟨rfl, rfl⟩, ⟨hT.cell.choose_spec, rfl⟩, rfl, rfl, cT_number hg hT _ _, fun y215 h215 hy215 => ?_⟩
        obtain ⟨rfl, hsN, qN, hqN, hT⟩ := hy215
        have hs := hs.t2 hsN (by decide)
        have hE := (hsN.2 33 (by simp)).trans hE
        have hR := hR.sm hsN (by simp) (by simp) (by simp) (by simp)
        have hC := hC.sm hsN (by simp) (by simp)
        refine ⟨_, hR.1, Nat.le_of_ble_eq_true rfl, rfl, ?_⟩
        have hsP : ∀ e : qE, same h215 (h215.1, qup h215.2 34 e) [34] := fun e => same.up (by simp)
        have hT := hT.sm (hsP (.inl (6, [.ref 35, .ref 36, .ref 37, .int (nI N), .int (nI k), .int (nI u), .int st, .int (pnum F n 1 9 s0).2, .int cl]))) (by simp) (by simp)
        have hs := hs.t2 (hsP (.inl (6, [.ref 35, .ref 36, .ref 37, .int (nI N), .int (nI k), .int (nI u), .int st, .int (pnum F n 1 9 s0).2, .int cl]))) (by decide)
        have hR : isR (h215.1, qup h215.2 34 (.inl (6, [.ref 35, .ref 36, .ref 37, .int (nI N), .int (nI k), .int (nI u), .int st, .int (pnum F n 1 9 s0).2, .int cl]))) 34 35 36 37 D P U (nI N) (nI k) (nI u) st (pnum F n 1 9 s0).2 cl := ⟨rfl, hR.2.1, hR.2.2.1, hR.2.2.2⟩
        have hC : isC (h215.1, qup h215.2 34 (.inl (6, [.ref 35, .ref 36, .ref 37, .int (nI N), .int (nI k), .int (nI u), .int st, .int (pnum F n 1 9 s0).2, .int cl]))) 38 39 Q (nI M) := hC
        refine step.1 _ _ _ _ _ _ _ sgX5_readClause_245_ok ?_
        refine ⟨by decide, _, _, hE, rfl, ?_⟩
        refine Or.inl ⟨rfl, _, 3, 0, 0, _, _, _, qi_5_95, ⟨rfl, rfl⟩, ⟨hT.cell.choose_spec, rfl⟩, rfl, rfl, cT_sign hg hT 59 (by decide), fun y251 h251 hy251 => ?_⟩
        obtain ⟨rfl, hsN, hT⟩ := hy251
        have hs := hs.t2 hsN (by decide)
        have hE := (hsN.2 33 (by simp)).trans hE
        have hR := hR.sm hsN (by simp) (by simp) (by simp) (by simp)
        have hC := hC.sm hsN (by simp) (by simp)
        refine ⟨rfl, Nat.le_refl _, Nat.le_refl _, ?_⟩
        rw [hk]
        exact ⟨rfl, hs, ⟨_, hT⟩, hR, hC⟩
      · have hk : pkind w0 = 12 := by rw [ew]; decide
        refine ⟨_, 224, rfl, by decide, ?_⟩
        refine step.1 _ _ _ _ _ _ _ sgX5_readClause_224_ok ?_
        refine ⟨by decide, _, _, hE, rfl, ?_⟩
        refine ⟨by decide, _, _, hE, rfl, ?_⟩
        refine Or.inl ⟨rfl, _, 3, 0, 0, _, _, _, qi_5_82, ⟨rfl, rfl⟩, ⟨hT.cell.choose_spec, rfl⟩, rfl, rfl, cT_number hg hT _ _, fun y236 h236 hy236 => ?_⟩
        obtain ⟨rfl, hsN, qN, hqN, hT⟩ := hy236
        have hs := hs.t2 hsN (by decide)
        have hE := (hsN.2 33 (by simp)).trans hE
        have hR := hR.sm hsN (by simp) (by simp) (by simp) (by simp)
        have hC := hC.sm hsN (by simp) (by simp)
        refine ⟨_, hR.1, Nat.le_of_ble_eq_true rfl, rfl, ?_⟩
        have hsP : ∀ e : qE, same h236 (h236.1, qup h236.2 34 e) [34] := fun e => same.up (by simp)
        have hT := hT.sm (hsP (.inl (6, [.ref 35, .ref 36, .ref 37, .int (nI N), .int (nI k), .int (nI u), .int st, .int ve, .int (pnum F n 0 480 s0).2]))) (by simp) (by simp)
        have hs := hs.t2 (hsP (.inl (6, [.ref 35, .ref 36, .ref 37, .int (nI N), .int (nI k), .int (nI u), .int st, .int ve, .int (pnum F n 0 480 s0).2]))) (by decide)
        have hR : isR (h236.1, qup h236.2 34 (.inl (6, [.ref 35, .ref 36, .ref 37, .int (nI N), .int (nI k), .int (nI u), .int st, .int ve, .int (pnum F n 0 480 s0).2]))) 34 35 36 37 D P U (nI N) (nI k) (nI u) st ve (pnum F n 0 480 s0).2 := ⟨rfl, hR.2.1, hR.2.2.1, hR.2.2.2⟩
        have hC : isC (h236.1, qup h236.2 34 (.inl (6, [.ref 35, .ref 36, .ref 37, .int (nI N), .int (nI k), .int (nI u), .int st, .int ve, .int (pnum F n 0 480 s0).2]))) 38 39 Q (nI M) := hC
        refine step.1 _ _ _ _ _ _ _ sgX5_readClause_245_ok ?_
        refine ⟨by decide, _, _, hE, rfl, ?_⟩
        refine Or.inl ⟨rfl, _, 3, 0, 0, _, _, _, qi_5_95, ⟨rfl, rfl⟩, ⟨hT.cell.choose_spec, rfl⟩, rfl, rfl, cT_sign hg hT 59 (by decide), fun y251 h251 hy251 => ?_⟩
        obtain ⟨rfl, hsN, hT⟩ := hy251
        have hs := hs.t2 hsN (by decide)
        have hE := (hsN.2 33 (by simp)).trans hE
        have hR := hR.sm hsN (by simp) (by simp) (by simp) (by simp)
        have hC := hC.sm hsN (by simp) (by simp)
        refine ⟨rfl, Nat.le_refl _, Nat.le_refl _, ?_⟩
        rw [hk]
        exact ⟨rfl, hs, ⟨_, hT⟩, hR, hC⟩
  refine step.1 _ _ _ _ _ _ _ sgX5_readClause_0_ok ?_
  refine ⟨by decide, _, _, hE, rfl, ?_⟩
  refine Or.inl ⟨rfl, 10, hL.choose, hL.choose_spec, ?_⟩
  refine Or.inl ⟨rfl, _, 7, 0, 0, _, _, _, qi_5_55, ⟨rfl, rfl⟩, ⟨hT.cell.choose_spec, rfl⟩, rfl, rfl, cT_word hg hJ hS hT, fun y6 h6 hy6 => ?_⟩
  obtain ⟨⟨w0, rfl, hw0⟩, hsN, qN, hqN, hT⟩ := hy6
  have hw0 := hw0 a rfl
  have hqN := hqN a rfl
  subst hqN
  have hs := hs.t2 hsN (by decide)
  have hE := (hsN.2 33 (by simp)).trans hE
  have hR := hR.sm hsN (by simp) (by simp) (by simp) (by simp)
  have hC := hC.sm hsN (by simp) (by simp)
  refine ⟨fun c13 => ?_, fun c13 => ?_⟩
  · have c13 : ¬ 60 ≤ i := fun z => by
      have := (nI_ltI (b := 60) (by omega) (by decide)).mp c13
      omega
    exact c31 _ _ 0 w0 hw0 (if_neg c13).symm hT hs hE hR hC
  · have c13 : 60 ≤ i := by
      rcases Nat.lt_or_ge i 60 with z | z
      · exact absurd (nI_lt (b := 60) z (by decide)) c13
      · exact z
    refine ⟨by decide, _, _, hE, rfl, ?_⟩
    refine ⟨by decide, _, _, hE, rfl, ?_⟩
    refine ⟨by decide, _, _, hT.from.choose_spec.1, hT.from.choose_spec.2, ?_⟩
    refine Or.inl ⟨rfl, _, 1, 0, 0, _, _, _, qi_5_63, ⟨rfl, rfl⟩, ⟨hT.cell.choose_spec, rfl⟩, rfl, rfl, cT_fail hg hT 3 _ (by decide), fun y28 h28 hy28 => ?_⟩
    obtain ⟨rfl, hsN, hT⟩ := hy28
    have hs := hs.t2 hsN (by decide)
    have hE := (hsN.2 33 (by simp)).trans hE
    have hR := hR.sm hsN (by simp) (by simp) (by simp) (by simp)
    have hC := hC.sm hsN (by simp) (by simp)
    exact c31 _ _ 0 w0 hw0 (if_pos c13).symm hT hs hE hR hC
set_option maxHeartbeats 4000000 in
theorem RD_village {g : qG} (hg : qOK g) {h : qH} (hM : qFM g) (hJ : qJDK g) {f : Nat → Nat} {len : Nat} (hS : qSTR g 10 11 len f) (hL : qLD g 5 53 10) {F : Nat → Int32} {n q a : Nat} (hT : cT h F n (.inr a) q) (hE : h.2 33 = some E33) {D P U Q : Nat → Int32} {n0 k0 u0 st0 ve0 cl0 m0 : Int32} (hR : isR h 34 35 36 37 D P U n0 k0 u0 st0 ve0 cl0) (hC : isC h 38 39 Q m0) : qSpec g 9 0 0 mX5_readsVillage [.ref 33] h (fun r h' => r = some (.int (qb (!pbad (pvrun F n f len 61 0 (Sum.inr a, D, 0, Q, 0, 0, 2, 120)).1))) ∧ same h h' [1, 34, 35, 38, 39] ∧ (∃ q' : Nat, cT h' F n (pvrun F n f len 61 0 (Sum.inr a, D, 0, Q, 0, 0, 2, 120)).1 q') ∧ isR h' 34 35 36 37 (pvrun F n f len 61 0 (Sum.inr a, D, 0, Q, 0, 0, 2, 120)).2.1 P U (nI (pvrun F n f len 61 0 (Sum.inr a, D, 0, Q, 0, 0, 2, 120)).2.2.1) 0 0 (pvrun F n f len 61 0 (Sum.inr a, D, 0, Q, 0, 0, 2, 120)).2.2.2.2.2.1 (pvrun F n f len 61 0 (Sum.inr a, D, 0, Q, 0, 0, 2, 120)).2.2.2.2.2.2.1 (pvrun F n f len 61 0 (Sum.inr a, D, 0, Q, 0, 0, 2, 120)).2.2.2.2.2.2.2 ∧ isC h' 38 39 (pvrun F n f len 61 0 (Sum.inr a, D, 0, Q, 0, 0, 2, 120)).2.2.2.1 (nI (pvrun F n f len 61 0 (Sum.inr a, D, 0, Q, 0, 0, 2, 120)).2.2.2.2.1) ∧ (pvrun F n f len 61 0 (Sum.inr a, D, 0, Q, 0, 0, 2, 120)).2.2.1 ≤ 10 ∧ (pvrun F n f len 61 0 (Sum.inr a, D, 0, Q, 0, 0, 2, 120)).2.2.2.2.1 ≤ 8) := by
  refine qSpec_run 5 "readsVillage" false hg mX5_readsVillage_ok rfl rfl (Nat.le_of_ble_eq_true rfl) (by decide) ?_
  intro run step
  have hs : same h h [1, 34, 35, 38, 39] := same.rf
  have c53 : ∀ (hX : qH) (r : PS × VD) (q0 : Nat) (ii : Int32), r = (pvrun F n f len 61 0 (Sum.inr a, D, 0, Q, 0, 0, 2, 120)) → cT hX F n r.1 q0 → same h hX [1, 34, 35, 38, 39] → hX.2 33 = some E33 → isR hX 34 35 36 37 r.2.1 P U (nI r.2.2.1) 0 0 r.2.2.2.2.2.1 r.2.2.2.2.2.2.1 r.2.2.2.2.2.2.2 → isC hX 38 39 r.2.2.2.1 (nI r.2.2.2.2.1) → r.2.2.1 ≤ 10 → r.2.2.2.2.1 ≤ 8 → run 53 [(1, .int ii), (0, .ref 33)] [] hX 0 0 := by
    intro hX r q0 ii hr hT hs hE hR hC hN hm8
    rw [← hr] at step
    refine step.1 _ _ _ _ _ _ _ sgX5_readsVillage_53_ok ?_
    refine ⟨by decide, _, _, hE, rfl, ?_⟩
    refine Or.inl ⟨rfl, _, 1, 0, 0, _, _, _, qi_5_40, ⟨rfl, rfl⟩, ⟨hT.cell.choose_spec, rfl⟩, rfl, rfl, cT_faulty hg hT, fun y57 h57 hy57 => ?_⟩
    obtain ⟨rfl, hh⟩ := hy57
    rw [hh]
    clear hh
    refine ⟨fun c60 => ?_, fun c60 => ?_⟩
    · have hb : pbad r.1 = true := qb_1.mp c60
      refine step.1 _ _ _ _ _ _ _ sgX5_readsVillage_67_ok ?_
      refine step.1 _ _ _ _ _ _ _ sgX5_readsVillage_68_ok ?_
      refine ⟨.boolean, rfl, rfl, Nat.le_refl _, Nat.le_refl _, ?_⟩
      refine ⟨?_, hs, ⟨_, hT⟩, hR, hC, hN, hm8⟩
      rw [hb]; rfl
    · have hb : pbad r.1 = false := qb_0.mp c60
      refine step.1 _ _ _ _ _ _ _ sgX5_readsVillage_68_ok ?_
      refine ⟨.boolean, rfl, rfl, Nat.le_refl _, Nat.le_refl _, ?_⟩
      refine ⟨?_, hs, ⟨_, hT⟩, hR, hC, hN, hm8⟩
      rw [hb]; rfl
  have loop : ∀ (m i : Nat) (r : PS × VD) (hX : qH) (q0 : Nat), i + m = 61 → pvrun F n f len m i r = (pvrun F n f len 61 0 (Sum.inr a, D, 0, Q, 0, 0, 2, 120)) → cT hX F n r.1 q0 → same h hX [1, 34, 35, 38, 39] → hX.2 33 = some E33 → isR hX 34 35 36 37 r.2.1 P U (nI r.2.2.1) 0 0 r.2.2.2.2.2.1 r.2.2.2.2.2.2.1 r.2.2.2.2.2.2.2 → isC hX 38 39 r.2.2.2.1 (nI r.2.2.2.2.1) → r.2.2.1 ≤ 10 → r.2.2.2.2.1 ≤ 8 → run 16 [(1, .int (nI i)), (0, .ref 33)] [] hX 0 0 := by
    intro m
    induction m with
    | zero =>
      intro i r hX q0 hi hst hT hs hE hR hC hN hm8
      obtain rfl : i = 61 := by omega
      refine step.1 _ _ _ _ _ _ _ sgX5_readsVillage_16_ok ?_
      refine ⟨fun c19 => ?_, fun c19 => absurd (by decide : (60 : Int32) < nI 61) c19⟩
      exact c53 hX r q0 _ hst hT hs hE hR hC hN hm8
    | succ m ih =>
      intro i r hX q0 hi hst hT hs hE hR hC hN hm8
      refine step.1 _ _ _ _ _ _ _ sgX5_readsVillage_16_ok ?_
      refine ⟨fun c19 => absurd c19 (nI_nlt (b := i) (a := 60) (by omega) (by decide)), fun c19 => ?_⟩
      refine ⟨by decide, _, _, hE, rfl, ?_⟩
      refine Or.inl ⟨rfl, _, 1, 0, 0, _, _, _, qi_5_40, ⟨rfl, rfl⟩, ⟨hT.cell.choose_spec, rfl⟩, rfl, rfl, cT_faulty hg hT, fun y26 h26 hy26 => ?_⟩
      obtain ⟨rfl, hh⟩ := hy26
      rw [hh]
      clear hh
      refine ⟨fun c29 => ?_, fun c29 => ?_⟩
      · have hb : pbad r.1 = true := qb_1.mp c29
        exact c53 hX r q0 _ (by rw [← hst, pvrun]; cases hr : r.1 with
          | inl e => rfl
          | inr b => rw [hr] at hb; cases hb) hT hs hE hR hC hN hm8
      · have hb : pbad r.1 = false := qb_0.mp c29
        obtain ⟨s1, V1⟩ := r
        cases s1 with
        | inl e => cases hb
        | inr b =>
        refine ⟨by decide, _, _, hE, rfl, ?_⟩
        refine Or.inl ⟨rfl, _, 3, 0, 0, _, _, _, qi_5_46, ⟨rfl, rfl⟩, ⟨hT.cell.choose_spec, rfl⟩, rfl, rfl, cT_over hg hT, fun y36 h36 hy36 => ?_⟩
        obtain ⟨⟨bo, rfl, hbo⟩, hsN, hT⟩ := hy36
        have hs := hs.t2 hsN (by decide)
        have hE := (hsN.2 33 (by simp)).trans hE
        have hR := hR.sm hsN (by simp) (by simp) (by simp) (by simp)
        have hC := hC.sm hsN (by simp) (by simp)
        refine ⟨fun c39 => ?_, fun c39 => ?_⟩
        · have hb2 : tby F n (sk F n b) = -1 := of_decide_eq_true ((hbo b rfl).symm.trans (qb_1.mp c39))
          exact c53 _ (.inr (sk F n b), V1) q0 _ (by rw [← hst, pvrun]; simp only [if_pos hb2]) hT hs hE hR hC hN hm8
        · have hb2 : ¬ tby F n (sk F n b) = -1 := of_decide_eq_false ((hbo b rfl).symm.trans (qb_0.mp c39))
          refine Or.inl ⟨rfl, _, 8, 0, 0, _, _, _, qi_5_49, ⟨rfl, rfl⟩, ⟨hE, rfl⟩, rfl, rfl, RD_clause hg hM hJ hS hL hT hE (k := 0) (u := 0) hR hC hN hm8 i (by omega), fun y44 h44 hy44 => ?_⟩
          obtain ⟨rfl, hsN, ⟨qN, hT⟩, hR, hC⟩ := hy44
          have hs := hs.t2 hsN (by decide)
          have hE := (hsN.2 33 (by simp)).trans hE
          have hle := pbody_le (F := F) (n := n) (k := pkind (pword F n f len (sk F n b))) (q := sk F n (sk F n b)) (s := pcl0 i (sk F n (sk F n b)) (pwst F n f len (.inr (sk F n b)))) (D := V1.1) (Q := V1.2.2.1) (st := V1.2.2.2.2.1) (ve := V1.2.2.2.2.2.1) (cl := V1.2.2.2.2.2.2) hN hm8
          have kk2 := ih (i + 1) (pclause F n f len i (sk F n b) V1) h44 qN (by omega) (by rw [← hst, pvrun]; simp only [if_neg hb2]) hT hs hE hR hC hle.1 hle.2
          rw [← nI_1] at kk2
          exact kk2
  refine step.1 _ _ _ _ _ _ _ sgX5_readsVillage_0_ok ?_
  refine ⟨by decide, _, _, hE, rfl, ?_⟩
  refine Or.inl ⟨rfl, _, 1, 0, 0, _, _, _, qi_5_36, ⟨rfl, rfl⟩, ⟨hR.1, rfl⟩, rfl, rfl, R_clear hg hR, fun y4 h4 hy4 => ?_⟩
  obtain ⟨rfl, hsN, hR⟩ := hy4
  have hs := hs.t2 hsN (by decide)
  have hE := (hsN.2 33 (by simp)).trans hE
  have hT := hT.sm hsN (by simp) (by simp)
  have hC := hC.sm hsN (by simp) (by simp)
  refine ⟨by decide, _, _, hE, rfl, ?_⟩
  refine Or.inl ⟨rfl, _, 1, 0, 0, _, _, _, qi_5_39, ⟨rfl, rfl⟩, ⟨hC.1, rfl⟩, rfl, rfl, C_clear hg hC, fun y11 h11 hy11 => ?_⟩
  obtain ⟨rfl, hh⟩ := hy11
  subst hh
  have hsN : same h4 (h4.1, qup h4.2 38 (.inl (1, [.ref 39, .int 0]))) [38] := same.up (by simp)
  have hs := hs.t2 hsN (by decide)
  have hE := (hsN.2 33 (by simp)).trans hE
  have hT := hT.sm hsN (by simp) (by simp)
  have hR := hR.sm hsN (by simp) (by simp) (by simp) (by simp)
  have hC : isC (h4.1, qup h4.2 38 (.inl (1, [.ref 39, .int 0]))) 38 39 Q (nI 0) := ⟨rfl, hC.2⟩
  exact loop 61 0 (Sum.inr a, D, 0, Q, 0, 0, 2, 120) _ _ rfl rfl hT hs hE hR hC (Nat.zero_le _) (Nat.zero_le _)
end Q08I
