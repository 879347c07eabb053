section Q10G
-- 0 door, 1 in, 2 hears, 3 rings, 4 light, 5 drive, 6 pies, 7 singer, 8 home, 9 solo, 10 start, 11 verse, 12 until, 13 verses, 14 pence, 15 joy, 16 place, 17 minute, 18 box, 19 told, 20 least, 21 most, 22 if, 23 first, 24 last
def ag (k : Nat) (f g : Nat → Int32) : Prop := ∀ j : Nat, j < k → f j = g j
theorem ag.up {k : Nat} {f g : Nat → Int32} (h : ag k f g) (i : Nat) (v : Int32) : ag k (upd f i v) (upd g i v) := fun j hj => by
  unfold upd
  split
  · rfl
  · exact h j hj
/-- what the model has read of a village -/
def mV (h : qH) (x : Nat → Int32) (V : VD) : Prop := ∃ nd ns : Nat → Int32, h.2 66 = some (aI' 100 nd) ∧ h.2 68 = some (aI' 32 ns) ∧ x 14 = nI V.2.1 ∧ x 15 = nI V.2.2.2.1 ∧ x 16 = V.2.2.2.2.1 ∧ x 17 = V.2.2.2.2.2.1 ∧ x 18 = V.2.2.2.2.2.2 ∧ ag (V.2.1 * 10) nd V.1 ∧ ag (V.2.2.2.1 * 4) ns V.2.2.1
def mVS (h : qH) (x : Nat → Int32) (s : PS) (V : VD) : Prop := ((∃ nd : Nat → Int32, h.2 66 = some (aI' 100 nd)) ∧ ∃ ns : Nat → Int32, h.2 68 = some (aI' 32 ns)) ∧ (pbad s = false → mV h x V)
/-- behind a clause -/
def mCl (h h' : qH) (x : Nat → Int32) (y : Nat → Int64) (n : Nat) (r : PS × VD) : Prop := ∃ x' : Nat → Int32, h'.2 63 = some (M63 x' y) ∧ same h h' [63, 66, 68] ∧ (∀ k : Nat, k ∉ [4, 5, 6, 14, 15, 16, 17, 18] → x' k = x k) ∧ mT x' n r.1 ∧ mVS h' x' r.1 r.2
theorem adoor_ag {N : Nat} {f g : Nat → Int32} (h : ag (N * 10) f g) (a b c : Int32) : ag ((N + 1) * 10) (adoor f N a b c) (adoor g N a b c) := fun j hj => by
  unfold adoor upd
  split
  · rfl
  split
  · rfl
  split
  · rfl
  split
  · rfl
  split
  · rfl
  split
  · rfl
  split
  · rfl
  split
  · rfl
  split
  · rfl
  split
  · rfl
  exact h j (by omega)
theorem asing_ag {N : Nat} {f g : Nat → Int32} (h : ag (N * 4) f g) (a b : Int32) : ag ((N + 1) * 4) (asing f N a b) (asing g N a b) := fun j hj => by
  unfold asing upd
  split
  · rfl
  split
  · rfl
  split
  · rfl
  split
  · rfl
  exact h j (by omega)
set_option maxHeartbeats 1000000 in
theorem M_clause1 {g : qG} (hg : qOK g) {h : qH} (hJ : qJDK g) (hW : qMW g) {x : Nat → Int32} {y : Nat → Int64} (hM : h.2 63 = some (M63 x y)) {F : Nat → Int32} {n : Nat} {s : PS} (hT : mT x n s) (hB : mB h F) {D : Nat → Int32} {N : Nat} {Q : Nat → Int32} {M : Nat} {st ve cl : Int32} (hV : mV h x (D, N, Q, M, st, ve, cl)) (hN10 : N ≤ 10) (hM8 : M ≤ 8) (q : Nat)  : qSpec g 8 0 0 mX12_readClause [.ref 63, .int (nI (wpk 1))] h (fun r h' => r = none ∧ mCl h h' x y n (pbody F n 1 q s D N Q M st ve cl)) := by
  refine qSpec_run 12 "readClause" false hg mX12_readClause_ok rfl rfl (Nat.le_of_ble_eq_true rfl) (by decide) ?_
  intro run step
  obtain ⟨nd, ns, hN, hQ, h14, h15, h16, h17, h18, hA, hA2⟩ := hV
  have hT := hT
  refine step.1 _ _ _ _ _ _ _ sgX12_readClause_0_ok ?_
  refine Or.inl ⟨rfl, 16, (hW.ld 0 (by decide)).choose, (hW.ld 0 (by decide)).choose_spec, ?_⟩
  refine Or.inl ⟨rfl, _, 5, 0, 0, _, Or.inl qi_12_210, ⟨rfl, rfl⟩, rfl, rfl, M_ofw hg hJ hW 0 (by decide), fun y3 h3 hy3 => ?_⟩
  obtain ⟨rfl, hh⟩ := hy3
  rw [hh]
  clear hh
  refine ⟨fun c6 => ?_, fun c6 => absurd c6 (wpk_inj 1 (by decide) 0 (by decide) (by decide))⟩
  
  refine step.1 _ _ _ _ _ _ _ sgX12_readClause_16_ok ?_
  refine Or.inl ⟨rfl, 18, (hW.ld 1 (by decide)).choose, (hW.ld 1 (by decide)).choose_spec, ?_⟩
  refine Or.inl ⟨rfl, _, 5, 0, 0, _, Or.inl qi_12_210, ⟨rfl, rfl⟩, rfl, rfl, M_ofw hg hJ hW 1 (by decide), fun y19 h19 hy19 => ?_⟩
  obtain ⟨rfl, hh⟩ := hy19
  rw [hh]
  clear hh
  refine ⟨fun c22 => absurd rfl c22, fun c22 => ?_⟩
  
  refine Or.inl ⟨rfl, _, 4, 0, 0, _, _, _, qi_12_229, ⟨rfl, rfl⟩, ⟨hM, rfl⟩, rfl, rfl, M_readOf hg hM hT hB h14 hN10 hN 3 (by decide) (by decide : (16 : Int32) ≤ 9999), fun y29 h29 hy29 => ?_⟩
  obtain ⟨rfl, x1, hM1, hN1, hs1, hk1, hT1⟩ := hy29
  have hQ1 := (hs1.2 68 (by decide)).trans hQ
  refine step.1 _ _ _ _ _ _ _ sgX12_readClause_187_ok ?_
  refine ⟨rfl, Nat.le_refl _, Nat.le_refl _, ?_⟩
  refine ⟨rfl, x1, hM1, hs1.sub (by simp), fun k hk => hk1 k (by simp at hk ⊢; omega), hT1, ⟨⟨_, hN1⟩, _, hQ1⟩, fun hb => ?_⟩
  have hb : pbad (pfactS F n N 16 s) = false := hb
  rw [if_neg (by rw [hb]; decide)] at hN1
  refine ⟨_, ns, hN1, hQ1, (hk1 14 (by decide)).trans h14, (hk1 15 (by decide)).trans h15, (hk1 16 (by decide)).trans h16, (hk1 17 (by decide)).trans h17, (hk1 18 (by decide)).trans h18, ?_, hA2⟩
  show ag (N * 10) _ (if pbad (pfactS F n N 16 s) = true then D else pfactD F n N 16 10 3 s D)
  rw [if_neg (by rw [hb]; decide)]
  exact hA.up _ _
set_option maxHeartbeats 1000000 in
theorem M_clause2 {g : qG} (hg : qOK g) {h : qH} (hJ : qJDK g) (hW : qMW g) {x : Nat → Int32} {y : Nat → Int64} (hM : h.2 63 = some (M63 x y)) {F : Nat → Int32} {n : Nat} {s : PS} (hT : mT x n s) (hB : mB h F) {D : Nat → Int32} {N : Nat} {Q : Nat → Int32} {M : Nat} {st ve cl : Int32} (hV : mV h x (D, N, Q, M, st, ve, cl)) (hN10 : N ≤ 10) (hM8 : M ≤ 8) (q : Nat)  : qSpec g 8 0 0 mX12_readClause [.ref 63, .int (nI (wpk 2))] h (fun r h' => r = none ∧ mCl h h' x y n (pbody F n 2 q s D N Q M st ve cl)) := by
  refine qSpec_run 12 "readClause" false hg mX12_readClause_ok rfl rfl (Nat.le_of_ble_eq_true rfl) (by decide) ?_
  intro run step
  obtain ⟨nd, ns, hN, hQ, h14, h15, h16, h17, h18, hA, hA2⟩ := hV
  have hT := hT
  refine step.1 _ _ _ _ _ _ _ sgX12_readClause_0_ok ?_
  refine Or.inl ⟨rfl, 16, (hW.ld 0 (by decide)).choose, (hW.ld 0 (by decide)).choose_spec, ?_⟩
  refine Or.inl ⟨rfl, _, 5, 0, 0, _, Or.inl qi_12_210, ⟨rfl, rfl⟩, rfl, rfl, M_ofw hg hJ hW 0 (by decide), fun y3 h3 hy3 => ?_⟩
  obtain ⟨rfl, hh⟩ := hy3
  rw [hh]
  clear hh
  refine ⟨fun c6 => ?_, fun c6 => absurd c6 (wpk_inj 2 (by decide) 0 (by decide) (by decide))⟩
  
  refine step.1 _ _ _ _ _ _ _ sgX12_readClause_16_ok ?_
  refine Or.inl ⟨rfl, 18, (hW.ld 1 (by decide)).choose, (hW.ld 1 (by decide)).choose_spec, ?_⟩
  refine Or.inl ⟨rfl, _, 5, 0, 0, _, Or.inl qi_12_210, ⟨rfl, rfl⟩, rfl, rfl, M_ofw hg hJ hW 1 (by decide), fun y19 h19 hy19 => ?_⟩
  obtain ⟨rfl, hh⟩ := hy19
  rw [hh]
  clear hh
  refine ⟨fun c22 => ?_, fun c22 => absurd c22 (wpk_inj 2 (by decide) 1 (by decide) (by decide))⟩
  
  refine step.1 _ _ _ _ _ _ _ sgX12_readClause_35_ok ?_
  refine Or.inl ⟨rfl, 20, (hW.ld 2 (by decide)).choose, (hW.ld 2 (by decide)).choose_spec, ?_⟩
  refine Or.inl ⟨rfl, _, 5, 0, 0, _, Or.inl qi_12_210, ⟨rfl, rfl⟩, rfl, rfl, M_ofw hg hJ hW 2 (by decide), fun y38 h38 hy38 => ?_⟩
  obtain ⟨rfl, hh⟩ := hy38
  rw [hh]
  clear hh
  refine ⟨fun c41 => absurd rfl c41, fun c41 => ?_⟩
  
  refine Or.inl ⟨rfl, _, 4, 0, 0, _, _, _, qi_12_229, ⟨rfl, rfl⟩, ⟨hM, rfl⟩, rfl, rfl, M_readOf hg hM hT hB h14 hN10 hN 4 (by decide) (by decide : (16 : Int32) ≤ 9999), fun y48 h48 hy48 => ?_⟩
  obtain ⟨rfl, x1, hM1, hN1, hs1, hk1, hT1⟩ := hy48
  have hQ1 := (hs1.2 68 (by decide)).trans hQ
  refine step.1 _ _ _ _ _ _ _ sgX12_readClause_187_ok ?_
  refine ⟨rfl, Nat.le_refl _, Nat.le_refl _, ?_⟩
  refine ⟨rfl, x1, hM1, hs1.sub (by simp), fun k hk => hk1 k (by simp at hk ⊢; omega), hT1, ⟨⟨_, hN1⟩, _, hQ1⟩, fun hb => ?_⟩
  have hb : pbad (pfactS F n N 16 s) = false := hb
  rw [if_neg (by rw [hb]; decide)] at hN1
  refine ⟨_, ns, hN1, hQ1, (hk1 14 (by decide)).trans h14, (hk1 15 (by decide)).trans h15, (hk1 16 (by decide)).trans h16, (hk1 17 (by decide)).trans h17, (hk1 18 (by decide)).trans h18, ?_, hA2⟩
  show ag (N * 10) _ (if pbad (pfactS F n N 16 s) = true then D else pfactD F n N 16 10 4 s D)
  rw [if_neg (by rw [hb]; decide)]
  exact hA.up _ _
set_option maxHeartbeats 1000000 in
theorem M_clause3 {g : qG} (hg : qOK g) {h : qH} (hJ : qJDK g) (hW : qMW g) {x : Nat → Int32} {y : Nat → Int64} (hM : h.2 63 = some (M63 x y)) {F : Nat → Int32} {n : Nat} {s : PS} (hT : mT x n s) (hB : mB h F) {D : Nat → Int32} {N : Nat} {Q : Nat → Int32} {M : Nat} {st ve cl : Int32} (hV : mV h x (D, N, Q, M, st, ve, cl)) (hN10 : N ≤ 10) (hM8 : M ≤ 8) (q : Nat)  : qSpec g 8 0 0 mX12_readClause [.ref 63, .int (nI (wpk 3))] h (fun r h' => r = none ∧ mCl h h' x y n (pbody F n 3 q s D N Q M st ve cl)) := by
  refine qSpec_run 12 "readClause" false hg mX12_readClause_ok rfl rfl (Nat.le_of_ble_eq_true rfl) (by decide) ?_
  intro run step
  obtain ⟨nd, ns, hN, hQ, h14, h15, h16, h17, h18, hA, hA2⟩ := hV
  have hT := hT
  refine step.1 _ _ _ _ _ _ _ sgX12_readClause_0_ok ?_
  refine Or.inl ⟨rfl, 16, (hW.ld 0 (by decide)).choose, (hW.ld 0 (by decide)).choose_spec, ?_⟩
  refine Or.inl ⟨rfl, _, 5, 0, 0, _, Or.inl qi_12_210, ⟨rfl, rfl⟩, rfl, rfl, M_ofw hg hJ hW 0 (by decide), fun y3 h3 hy3 => ?_⟩
  obtain ⟨rfl, hh⟩ := hy3
  rw [hh]
  clear hh
  refine ⟨fun c6 => ?_, fun c6 => absurd c6 (wpk_inj 3 (by decide) 0 (by decide) (by decide))⟩
  
  refine step.1 _ _ _ _ _ _ _ sgX12_readClause_16_ok ?_
  refine Or.inl ⟨rfl, 18, (hW.ld 1 (by decide)).choose, (hW.ld 1 (by decide)).choose_spec, ?_⟩
  refine Or.inl ⟨rfl, _, 5, 0, 0, _, Or.inl qi_12_210, ⟨rfl, rfl⟩, rfl, rfl, M_ofw hg hJ hW 1 (by decide), fun y19 h19 hy19 => ?_⟩
  obtain ⟨rfl, hh⟩ := hy19
  rw [hh]
  clear hh
  refine ⟨fun c22 => ?_, fun c22 => absurd c22 (wpk_inj 3 (by decide) 1 (by decide) (by decide))⟩
  
  refine step.1 _ _ _ _ _ _ _ sgX12_readClause_35_ok ?_
  refine Or.inl ⟨rfl, 20, (hW.ld 2 (by decide)).choose, (hW.ld 2 (by decide)).choose_spec, ?_⟩
  refine Or.inl ⟨rfl, _, 5, 0, 0, _, Or.inl qi_12_210, ⟨rfl, rfl⟩, rfl, rfl, M_ofw hg hJ hW 2 (by decide), fun y38 h38 hy38 => ?_⟩
  obtain ⟨rfl, hh⟩ := hy38
  rw [hh]
  clear hh
  refine ⟨fun c41 => ?_, fun c41 => absurd c41 (wpk_inj 3 (by decide) 2 (by decide) (by decide))⟩
  
  refine step.1 _ _ _ _ _ _ _ sgX12_readClause_54_ok ?_
  refine Or.inl ⟨rfl, 22, (hW.ld 3 (by decide)).choose, (hW.ld 3 (by decide)).choose_spec, ?_⟩
  refine Or.inl ⟨rfl, _, 5, 0, 0, _, Or.inl qi_12_210, ⟨rfl, rfl⟩, rfl, rfl, M_ofw hg hJ hW 3 (by decide), fun y57 h57 hy57 => ?_⟩
  obtain ⟨rfl, hh⟩ := hy57
  rw [hh]
  clear hh
  refine ⟨fun c60 => absurd rfl c60, fun c60 => ?_⟩
  
  refine Or.inl ⟨rfl, _, 4, 0, 0, _, _, _, qi_12_229, ⟨rfl, rfl⟩, ⟨hM, rfl⟩, rfl, rfl, M_readOf hg hM hT hB h14 hN10 hN 5 (by decide) (by decide : (16 : Int32) ≤ 9999), fun y67 h67 hy67 => ?_⟩
  obtain ⟨rfl, x1, hM1, hN1, hs1, hk1, hT1⟩ := hy67
  have hQ1 := (hs1.2 68 (by decide)).trans hQ
  refine step.1 _ _ _ _ _ _ _ sgX12_readClause_187_ok ?_
  refine ⟨rfl, Nat.le_refl _, Nat.le_refl _, ?_⟩
  refine ⟨rfl, x1, hM1, hs1.sub (by simp), fun k hk => hk1 k (by simp at hk ⊢; omega), hT1, ⟨⟨_, hN1⟩, _, hQ1⟩, fun hb => ?_⟩
  have hb : pbad (pfactS F n N 16 s) = false := hb
  rw [if_neg (by rw [hb]; decide)] at hN1
  refine ⟨_, ns, hN1, hQ1, (hk1 14 (by decide)).trans h14, (hk1 15 (by decide)).trans h15, (hk1 16 (by decide)).trans h16, (hk1 17 (by decide)).trans h17, (hk1 18 (by decide)).trans h18, ?_, hA2⟩
  show ag (N * 10) _ (if pbad (pfactS F n N 16 s) = true then D else pfactD F n N 16 10 5 s D)
  rw [if_neg (by rw [hb]; decide)]
  exact hA.up _ _
set_option maxHeartbeats 1000000 in
theorem M_clause5 {g : qG} (hg : qOK g) {h : qH} (hJ : qJDK g) (hW : qMW g) {x : Nat → Int32} {y : Nat → Int64} (hM : h.2 63 = some (M63 x y)) {F : Nat → Int32} {n : Nat} {s : PS} (hT : mT x n s) (hB : mB h F) {D : Nat → Int32} {N : Nat} {Q : Nat → Int32} {M : Nat} {st ve cl : Int32} (hV : mV h x (D, N, Q, M, st, ve, cl)) (hN10 : N ≤ 10) (hM8 : M ≤ 8) (q : Nat)  : qSpec g 8 0 0 mX12_readClause [.ref 63, .int (nI (wpk 5))] h (fun r h' => r = none ∧ mCl h h' x y n (pbody F n 5 q s D N Q M st ve cl)) := by
  refine qSpec_run 12 "readClause" false hg mX12_readClause_ok rfl rfl (Nat.le_of_ble_eq_true rfl) (by decide) ?_
  intro run step
  obtain ⟨nd, ns, hN, hQ, h14, h15, h16, h17, h18, hA, hA2⟩ := hV
  have hT := hT
  refine step.1 _ _ _ _ _ _ _ sgX12_readClause_0_ok ?_
  refine Or.inl ⟨rfl, 16, (hW.ld 0 (by decide)).choose, (hW.ld 0 (by decide)).choose_spec, ?_⟩
  refine Or.inl ⟨rfl, _, 5, 0, 0, _, Or.inl qi_12_210, ⟨rfl, rfl⟩, rfl, rfl, M_ofw hg hJ hW 0 (by decide), fun y3 h3 hy3 => ?_⟩
  obtain ⟨rfl, hh⟩ := hy3
  rw [hh]
  clear hh
  refine ⟨fun c6 => ?_, fun c6 => absurd c6 (wpk_inj 5 (by decide) 0 (by decide) (by decide))⟩
  
  refine step.1 _ _ _ _ _ _ _ sgX12_readClause_16_ok ?_
  refine Or.inl ⟨rfl, 18, (hW.ld 1 (by decide)).choose, (hW.ld 1 (by decide)).choose_spec, ?_⟩
  refine Or.inl ⟨rfl, _, 5, 0, 0, _, Or.inl qi_12_210, ⟨rfl, rfl⟩, rfl, rfl, M_ofw hg hJ hW 1 (by decide), fun y19 h19 hy19 => ?_⟩
  obtain ⟨rfl, hh⟩ := hy19
  rw [hh]
  clear hh
  refine ⟨fun c22 => ?_, fun c22 => absurd c22 (wpk_inj 5 (by decide) 1 (by decide) (by decide))⟩
  
  refine step.1 _ _ _ _ _ _ _ sgX12_readClause_35_ok ?_
  refine Or.inl ⟨rfl, 20, (hW.ld 2 (by decide)).choose, (hW.ld 2 (by decide)).choose_spec, ?_⟩
  refine Or.inl ⟨rfl, _, 5, 0, 0, _, Or.inl qi_12_210, ⟨rfl, rfl⟩, rfl, rfl, M_ofw hg hJ hW 2 (by decide), fun y38 h38 hy38 => ?_⟩
  obtain ⟨rfl, hh⟩ := hy38
  rw [hh]
  clear hh
  refine ⟨fun c41 => ?_, fun c41 => absurd c41 (wpk_inj 5 (by decide) 2 (by decide) (by decide))⟩
  
  refine step.1 _ _ _ _ _ _ _ sgX12_readClause_54_ok ?_
  refine Or.inl ⟨rfl, 22, (hW.ld 3 (by decide)).choose, (hW.ld 3 (by decide)).choose_spec, ?_⟩
  refine Or.inl ⟨rfl, _, 5, 0, 0, _, Or.inl qi_12_210, ⟨rfl, rfl⟩, rfl, rfl, M_ofw hg hJ hW 3 (by decide), fun y57 h57 hy57 => ?_⟩
  obtain ⟨rfl, hh⟩ := hy57
  rw [hh]
  clear hh
  refine ⟨fun c60 => ?_, fun c60 => absurd c60 (wpk_inj 5 (by decide) 3 (by decide) (by decide))⟩
  
  refine step.1 _ _ _ _ _ _ _ sgX12_readClause_73_ok ?_
  refine Or.inl ⟨rfl, 26, (hW.ld 5 (by decide)).choose, (hW.ld 5 (by decide)).choose_spec, ?_⟩
  refine Or.inl ⟨rfl, _, 5, 0, 0, _, Or.inl qi_12_210, ⟨rfl, rfl⟩, rfl, rfl, M_ofw hg hJ hW 5 (by decide), fun y76 h76 hy76 => ?_⟩
  obtain ⟨rfl, hh⟩ := hy76
  rw [hh]
  clear hh
  refine ⟨fun c79 => absurd rfl c79, fun c79 => ?_⟩
  
  refine Or.inl ⟨rfl, _, 4, 0, 0, _, _, _, qi_12_229, ⟨rfl, rfl⟩, ⟨hM, rfl⟩, rfl, rfl, M_readOf hg hM hT hB h14 hN10 hN 8 (by decide) (by decide : (20 : Int32) ≤ 9999), fun y87 h87 hy87 => ?_⟩
  obtain ⟨rfl, x1, hM1, hN1, hs1, hk1, hT1⟩ := hy87
  have hQ1 := (hs1.2 68 (by decide)).trans hQ
  refine step.1 _ _ _ _ _ _ _ sgX12_readClause_187_ok ?_
  refine ⟨rfl, Nat.le_refl _, Nat.le_refl _, ?_⟩
  refine ⟨rfl, x1, hM1, hs1.sub (by simp), fun k hk => hk1 k (by simp at hk ⊢; omega), hT1, ⟨⟨_, hN1⟩, _, hQ1⟩, fun hb => ?_⟩
  have hb : pbad (pfactS F n N 20 s) = false := hb
  rw [if_neg (by rw [hb]; decide)] at hN1
  refine ⟨_, ns, hN1, hQ1, (hk1 14 (by decide)).trans h14, (hk1 15 (by decide)).trans h15, (hk1 16 (by decide)).trans h16, (hk1 17 (by decide)).trans h17, (hk1 18 (by decide)).trans h18, ?_, hA2⟩
  show ag (N * 10) _ (if pbad (pfactS F n N 20 s) = true then D else pfactD F n N 20 10 8 s D)
  rw [if_neg (by rw [hb]; decide)]
  exact hA.up _ _
set_option maxHeartbeats 1000000 in
theorem M_clause6 {g : qG} (hg : qOK g) {h : qH} (hJ : qJDK g) (hW : qMW g) {x : Nat → Int32} {y : Nat → Int64} (hM : h.2 63 = some (M63 x y)) {F : Nat → Int32} {n : Nat} {s : PS} (hT : mT x n s) (hB : mB h F) {D : Nat → Int32} {N : Nat} {Q : Nat → Int32} {M : Nat} {st ve cl : Int32} (hV : mV h x (D, N, Q, M, st, ve, cl)) (hN10 : N ≤ 10) (hM8 : M ≤ 8) (q : Nat)  : qSpec g 8 0 0 mX12_readClause [.ref 63, .int (nI (wpk 6))] h (fun r h' => r = none ∧ mCl h h' x y n (pbody F n 6 q s D N Q M st ve cl)) := by
  refine qSpec_run 12 "readClause" false hg mX12_readClause_ok rfl rfl (Nat.le_of_ble_eq_true rfl) (by decide) ?_
  intro run step
  obtain ⟨nd, ns, hN, hQ, h14, h15, h16, h17, h18, hA, hA2⟩ := hV
  have hT := hT
  refine step.1 _ _ _ _ _ _ _ sgX12_readClause_0_ok ?_
  refine Or.inl ⟨rfl, 16, (hW.ld 0 (by decide)).choose, (hW.ld 0 (by decide)).choose_spec, ?_⟩
  refine Or.inl ⟨rfl, _, 5, 0, 0, _, Or.inl qi_12_210, ⟨rfl, rfl⟩, rfl, rfl, M_ofw hg hJ hW 0 (by decide), fun y3 h3 hy3 => ?_⟩
  obtain ⟨rfl, hh⟩ := hy3
  rw [hh]
  clear hh
  refine ⟨fun c6 => ?_, fun c6 => absurd c6 (wpk_inj 6 (by decide) 0 (by decide) (by decide))⟩
  
  refine step.1 _ _ _ _ _ _ _ sgX12_readClause_16_ok ?_
  refine Or.inl ⟨rfl, 18, (hW.ld 1 (by decide)).choose, (hW.ld 1 (by decide)).choose_spec, ?_⟩
  refine Or.inl ⟨rfl, _, 5, 0, 0, _, Or.inl qi_12_210, ⟨rfl, rfl⟩, rfl, rfl, M_ofw hg hJ hW 1 (by decide), fun y19 h19 hy19 => ?_⟩
  obtain ⟨rfl, hh⟩ := hy19
  rw [hh]
  clear hh
  refine ⟨fun c22 => ?_, fun c22 => absurd c22 (wpk_inj 6 (by decide) 1 (by decide) (by decide))⟩
  
  refine step.1 _ _ _ _ _ _ _ sgX12_readClause_35_ok ?_
  refine Or.inl ⟨rfl, 20, (hW.ld 2 (by decide)).choose, (hW.ld 2 (by decide)).choose_spec, ?_⟩
  refine Or.inl ⟨rfl, _, 5, 0, 0, _, Or.inl qi_12_210, ⟨rfl, rfl⟩, rfl, rfl, M_ofw hg hJ hW 2 (by decide), fun y38 h38 hy38 => ?_⟩
  obtain ⟨rfl, hh⟩ := hy38
  rw [hh]
  clear hh
  refine ⟨fun c41 => ?_, fun c41 => absurd c41 (wpk_inj 6 (by decide) 2 (by decide) (by decide))⟩
  
  refine step.1 _ _ _ _ _ _ _ sgX12_readClause_54_ok ?_
  refine Or.inl ⟨rfl, 22, (hW.ld 3 (by decide)).choose, (hW.ld 3 (by decide)).choose_spec, ?_⟩
  refine Or.inl ⟨rfl, _, 5, 0, 0, _, Or.inl qi_12_210, ⟨rfl, rfl⟩, rfl, rfl, M_ofw hg hJ hW 3 (by decide), fun y57 h57 hy57 => ?_⟩
  obtain ⟨rfl, hh⟩ := hy57
  rw [hh]
  clear hh
  refine ⟨fun c60 => ?_, fun c60 => absurd c60 (wpk_inj 6 (by decide) 3 (by decide) (by decide))⟩
  
  refine step.1 _ _ _ _ _ _ _ sgX12_readClause_73_ok ?_
  refine Or.inl ⟨rfl, 26, (hW.ld 5 (by decide)).choose, (hW.ld 5 (by decide)).choose_spec, ?_⟩
  refine Or.inl ⟨rfl, _, 5, 0, 0, _, Or.inl qi_12_210, ⟨rfl, rfl⟩, rfl, rfl, M_ofw hg hJ hW 5 (by decide), fun y76 h76 hy76 => ?_⟩
  obtain ⟨rfl, hh⟩ := hy76
  rw [hh]
  clear hh
  refine ⟨fun c79 => ?_, fun c79 => absurd c79 (wpk_inj 6 (by decide) 5 (by decide) (by decide))⟩
  
  refine step.1 _ _ _ _ _ _ _ sgX12_readClause_93_ok ?_
  refine Or.inl ⟨rfl, 28, (hW.ld 6 (by decide)).choose, (hW.ld 6 (by decide)).choose_spec, ?_⟩
  refine Or.inl ⟨rfl, _, 5, 0, 0, _, Or.inl qi_12_210, ⟨rfl, rfl⟩, rfl, rfl, M_ofw hg hJ hW 6 (by decide), fun y96 h96 hy96 => ?_⟩
  obtain ⟨rfl, hh⟩ := hy96
  rw [hh]
  clear hh
  refine ⟨fun c99 => absurd rfl c99, fun c99 => ?_⟩
  
  refine Or.inl ⟨rfl, _, 4, 0, 0, _, _, _, qi_12_229, ⟨rfl, rfl⟩, ⟨hM, rfl⟩, rfl, rfl, M_readOf hg hM hT hB h14 hN10 hN 9 (by decide) (by decide : (30 : Int32) ≤ 9999), fun y107 h107 hy107 => ?_⟩
  obtain ⟨rfl, x1, hM1, hN1, hs1, hk1, hT1⟩ := hy107
  have hQ1 := (hs1.2 68 (by decide)).trans hQ
  refine step.1 _ _ _ _ _ _ _ sgX12_readClause_187_ok ?_
  refine ⟨rfl, Nat.le_refl _, Nat.le_refl _, ?_⟩
  refine ⟨rfl, x1, hM1, hs1.sub (by simp), fun k hk => hk1 k (by simp at hk ⊢; omega), hT1, ⟨⟨_, hN1⟩, _, hQ1⟩, fun hb => ?_⟩
  have hb : pbad (pfactS F n N 30 s) = false := hb
  rw [if_neg (by rw [hb]; decide)] at hN1
  refine ⟨_, ns, hN1, hQ1, (hk1 14 (by decide)).trans h14, (hk1 15 (by decide)).trans h15, (hk1 16 (by decide)).trans h16, (hk1 17 (by decide)).trans h17, (hk1 18 (by decide)).trans h18, ?_, hA2⟩
  show ag (N * 10) _ (if pbad (pfactS F n N 30 s) = true then D else pfactD F n N 30 10 9 s D)
  rw [if_neg (by rw [hb]; decide)]
  exact hA.up _ _
set_option maxHeartbeats 1000000 in
theorem M_clause0 {g : qG} (hg : qOK g) {h : qH} (hJ : qJDK g) (hW : qMW g) {x : Nat → Int32} {y : Nat → Int64} (hM : h.2 63 = some (M63 x y)) {F : Nat → Int32} {n : Nat} {s : PS} (hT : mT x n s) (hB : mB h F) {D : Nat → Int32} {N : Nat} {Q : Nat → Int32} {M : Nat} {st ve cl : Int32} (hV : mV h x (D, N, Q, M, st, ve, cl)) (hN10 : N ≤ 10) (hM8 : M ≤ 8) (q : Nat) (hN9 : N < 10) : qSpec g 8 0 0 mX12_readClause [.ref 63, .int (nI (wpk 0))] h (fun r h' => r = none ∧ mCl h h' x y n (pbody F n 0 q s D N Q M st ve cl)) := by
  refine qSpec_run 12 "readClause" false hg mX12_readClause_ok rfl rfl (Nat.le_of_ble_eq_true rfl) (by decide) ?_
  intro run step
  obtain ⟨nd, ns, hN, hQ, h14, h15, h16, h17, h18, hA, hA2⟩ := hV
  have hT := hT
  refine step.1 _ _ _ _ _ _ _ sgX12_readClause_0_ok ?_
  refine Or.inl ⟨rfl, 16, (hW.ld 0 (by decide)).choose, (hW.ld 0 (by decide)).choose_spec, ?_⟩
  refine Or.inl ⟨rfl, _, 5, 0, 0, _, Or.inl qi_12_210, ⟨rfl, rfl⟩, rfl, rfl, M_ofw hg hJ hW 0 (by decide), fun y3 h3 hy3 => ?_⟩
  obtain ⟨rfl, hh⟩ := hy3
  rw [hh]
  clear hh
  refine ⟨fun c6 => absurd rfl c6, fun c6 => ?_⟩
  
  refine Or.inl ⟨rfl, _, 4, 0, 0, _, _, _, qi_12_224, ⟨rfl, rfl⟩, ⟨hM, rfl⟩, rfl, rfl, M_readNewDoor hg hM hT hB h14 hN9 hN, fun y10 h10 hy10 => ?_⟩
  obtain ⟨rfl, x1, hM1, hN1, hs1, hk1, hT1⟩ := hy10
  have hQ1 := (hs1.2 68 (by decide)).trans hQ
  refine step.1 _ _ _ _ _ _ _ sgX12_readClause_187_ok ?_
  refine ⟨rfl, Nat.le_refl _, Nat.le_refl _, ?_⟩
  have e0 : pd0 N q s = s := if_neg (by omega)
  have eS : (pdoorS F n N q s) = pnumS F n 0 99 (pnumS F n 0 240 (pnumS F n 0 99 s)) := by rw [pdoorS, e0]
  have eD : pdoorD F n N q s D = adoor D N (pnum F n 0 99 s).2 (pnum F n 0 240 (pnumS F n 0 99 s)).2 (pnum F n 0 99 (pnumS F n 0 240 (pnumS F n 0 99 s))).2 := by rw [pdoorD, e0]
  refine ⟨rfl, x1, hM1, hs1.sub (by simp), fun k hk => hk1 k (by simp at hk ⊢; omega), ?_, ⟨⟨_, hN1.1⟩, _, hQ1⟩, fun hb => ?_⟩
  · show mT x1 n (pdoorS F n N q s)
    rw [eS]
    exact hT1
  have hb : pbad (pdoorS F n N q s) = false := hb
  refine ⟨_, ns, hN1.1, hQ1, ?_, (hk1 15 (by decide)).trans h15, (hk1 16 (by decide)).trans h16, (hk1 17 (by decide)).trans h17, (hk1 18 (by decide)).trans h18, ?_, hA2⟩
  · show x1 14 = nI (if pbad (pdoorS F n N q s) = true then N else N + 1)
    rw [if_neg (by rw [hb]; decide)]
    exact hN1.2
  show ag ((if pbad (pdoorS F n N q s) = true then N else N + 1) * 10) _ (if pbad (pdoorS F n N q s) = true then D else pdoorD F n N q s D)
  rw [if_neg (by rw [hb]; decide), if_neg (by rw [hb]; decide), eD]
  exact adoor_ag hA _ _ _
end Q10G
