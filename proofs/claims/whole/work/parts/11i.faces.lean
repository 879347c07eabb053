section Q11I
theorem lall_s (D : Nat → Int32) (st ve : Int32) (pf vf rf : Nat → Nat) : ∀ (m i : Nat) (s : Int32), lall D st ve pf vf rf i (m + 1) s = lall D st ve pf vf rf i m s + lmins D st ve pf vf rf (i + m) := by
  intro m
  induction m with
  | zero => intro i s; rfl
  | succ m ih =>
    intro i s
    show lall D st ve pf vf rf (i + 1) (m + 1) (s + lmins D st ve pf vf rf i) = lall D st ve pf vf rf (i + 1) m (s + lmins D st ve pf vf rf i) + lmins D st ve pf vf rf (i + (m + 1))
    rw [ih (i + 1), show i + 1 + m = i + (m + 1) by omega]
theorem u_ite {α : Type} {u : Nat} (hu : u ≤ 3) (a b c d : α) : (if nI u = 0 then a else if nI u = 1 then b else if nI u = 2 then c else d) = (if u = 0 then a else if u = 1 then b else if u = 2 then c else d) := by
  rcases (show u = 0 ∨ u = 1 ∨ u = 2 ∨ u = 3 by omega) with rfl | rfl | rfl | rfl <;> rfl
theorem mval_n {G : Int32 → Int32} {R : RT} (hR : ROK R) {a r n u : Nat} (ha : a < R.2.2.2.1) (hn : n ≤ 5) (hG : ∀ z : Int32, ∃ q : Nat, q ≤ 999 ∧ G z = nI q) : ∃ A : Nat, A < 2 ^ 63 ∧ (if u = 0 then (vmean G R.1 R.2.2.2.2.2.2.2.1 a r n).2.2.1 else if u = 1 then (vmean G R.1 R.2.2.2.2.2.2.2.1 a r n).2.2.2.1 else if u = 2 then (vmean G R.1 R.2.2.2.2.2.2.2.1 a r n).2.2.1 * (R.1 (a * 10 + 2)).toInt64 else (vmean G R.1 R.2.2.2.2.2.2.2.1 a r n).2.2.2.2 + (vmean G R.1 R.2.2.2.2.2.2.2.1 a r n).2.2.1 * (R.1 (a * 10 + 9)).toInt64) = Int64.ofNat A := by
  obtain ⟨C, P, T, h1, h2, h3, e1, e2, e3⟩ := vm_nat (r := r) hR ha hn hG
  obtain ⟨j, hj, ej⟩ := hR.d ha (f := 2) (by decide)
  have hj : j ≤ 99 := hj
  have hcj : C * j ≤ 2 ^ 28 * 99 := Nat.mul_le_mul h1 hj
  rw [e3, e2, e1, ej, l_n (by omega), ← Int64.ofNat_mul]
  by_cases c0 : u = 0
  · rw [if_pos c0]; exact ⟨C, by omega, rfl⟩
  · rw [if_neg c0]
    by_cases c1 : u = 1
    · rw [if_pos c1]; exact ⟨P, by omega, rfl⟩
    · rw [if_neg c1]
      by_cases c2 : u = 2
      · rw [if_pos c2]; exact ⟨C * j, by omega, rfl⟩
      · rw [if_neg c2]; exact ⟨T, by omega, rfl⟩
theorem p01 {p : Int32} (h : wi 0 1 p = true) : p = 0 ∨ p = 1 := by
  obtain ⟨q, hq, rfl⟩ := wi_nat (m := 1) (by decide) h
  rcases (show q = 0 ∨ q = 1 by omega) with rfl | rfl
  · left; rfl
  · right; rfl
theorem M_longOf {g : qG} (hg : qOK g) {h : qH} {x : Nat → Int32} {y : Nat → Int64} {F : Nat → Nat → Int32} {G : Nat → Nat → Int64} (hM : MX h x y F G) {S : CS} (hR : Rel S x F) {pf vf rf : Nat → Nat} (hP : isP S.2.1.2.1 S.2.1.2.2.2.2.1 pf vf rf) (hI : ROK S.2.1) (hpn : ∀ i : Nat, i < S.2.1.2.2.2.2.1 → pf i < S.2.1.2.2.2.1) (hl : lwf S.2.2.2.2.1.1) {z : Nat} (hz : z ≤ S.2.1.2.2.2.2.1) : qSpec g 6 0 0 mX12_longOf [.ref 63, .int (nI z)] h (fun r h' => r = some (.int (lall S.2.1.1 S.2.1.2.2.2.2.2.2.1 S.2.1.2.2.2.2.2.2.2.1 pf vf rf 0 z 0)) ∧ ∃ (x' : Nat → Int32) (y' : Nat → Int64) (F' : Nat → Nat → Int32), QN h h' x y F G x' y' F') := by
  refine qSpec_run 12 "longOf" false hg mX12_longOf_ok rfl rfl (Nat.le_of_ble_eq_true rfl) (by decide) ?_
  intro run step
  have hk := hI.1.2.1
  have loop : ∀ (m i : Nat) (hZ : qH) (xX : Nat → Int32) (yX : Nat → Int64) (FX : Nat → Nat → Int32), i + m = z → QN h hZ x y F G xX yX FX → run 4 [(3, .int (nI i)), (2, .int (lall S.2.1.1 S.2.1.2.2.2.2.2.2.1 S.2.1.2.2.2.2.2.2.2.1 pf vf rf 0 i 0)), (0, .ref 63), (1, .int (nI z))] [] hZ 0 0 := by
    intro m
    induction m with
    | zero =>
      intro i hZ xX yX FX hi hX
      refine step.1 _ _ _ _ _ _ _ sgX12_longOf_4_ok ?_
      refine ⟨fun c6 => ?_, fun c6 => absurd (show nI z ≤ nI i from nI_le (by omega) (by omega)) c6⟩
      
      refine step.1 _ _ _ _ _ _ _ sgX12_longOf_33_ok ?_
      refine ⟨.int, rfl, rfl, Nat.le_refl _, Nat.le_refl _, ?_⟩
      exact ⟨by rw [show i = z by omega], xX, yX, FX, hX⟩
    | succ m ih =>
      intro i hZ xX yX FX hi hX
      refine step.1 _ _ _ _ _ _ _ sgX12_longOf_4_ok ?_
      refine ⟨fun c6 => absurd c6 (h_nle (by omega) (by omega)), fun c6 => ?_⟩
      
      refine Or.inl ⟨rfl, _, 5, 0, 0, _, _, _, qi_12_396, ⟨rfl, rfl⟩, ⟨hX.1.1, rfl⟩, rfl, rfl, M_findLine hg hX.1 (hX.R hR) hP hI hpn hl (l := i) (by omega), fun y11 h11 hy11 => ?_⟩
      obtain ⟨rfl, hQ⟩ := hy11
      obtain ⟨x1, y1, F1, hN1, m1, m2, m3, m4, m5⟩ := hQ.n
      have hX1 := hX.tr hN1
      refine Or.inl ⟨rfl, _, 2, 0, 0, _, _, _, qi_12_356, ⟨rfl, rfl⟩, ⟨hX1.1.1, rfl⟩, rfl, rfl, M_wayS hg hX1.1 (hX1.R hR) hP hI hpn (l := i) (by omega), fun y17 h17 hy17 => ?_⟩
      obtain ⟨rfl, hh⟩ := hy17
      rw [hh]
      clear hh
      refine ⟨by decide, _, _, hX1.1.1, rfl, ?_⟩
      have ev : lall S.2.1.1 S.2.1.2.2.2.2.2.2.1 S.2.1.2.2.2.2.2.2.2.1 pf vf rf 0 (i + 1) 0 = lall S.2.1.1 S.2.1.2.2.2.2.2.2.1 S.2.1.2.2.2.2.2.2.2.1 pf vf rf 0 i 0 + (lwayv S.2.1.1 S.2.1.2.2.2.2.2.2.1 pf i + x1 42) := by
        rw [lall_s, m5, Nat.zero_add, lmins, ← Int32.add_assoc (2 * S.2.1.1 (pf i * 10 + 8))]
      have kk := ih (i + 1) h11 x1 y1 F1 (by omega) hX1
      rw [ev, ← nI_1] at kk
      exact kk
  refine step.1 _ _ _ _ _ _ _ sgX12_longOf_0_ok ?_
  exact loop z 0 h x y F (by omega) (QN.rf hM)
theorem M_longest {g : qG} (hg : qOK g) {h : qH} {x : Nat → Int32} {y : Nat → Int64} {F : Nat → Nat → Int32} {G : Nat → Nat → Int64} (hM : MX h x y F G) {S : CS} (hR : Rel S x F) {pf vf rf : Nat → Nat} (hP : isP S.2.1.2.1 S.2.1.2.2.2.2.1 pf vf rf) (hI : ROK S.2.1) (hpn : ∀ i : Nat, i < S.2.1.2.2.2.2.1 → pf i < S.2.1.2.2.2.1) (hl : lwf S.2.2.2.2.1.1) : qSpec g 7 0 0 mX12_longest [.ref 63] h (fun r h' => (r = some (.int (lall S.2.1.1 S.2.1.2.2.2.2.2.2.1 S.2.1.2.2.2.2.2.2.2.1 pf vf rf 0 S.2.1.2.2.2.2.1 0))) ∧ MG h h' S) := by
  refine qSpec_run 12 "longest" false hg mX12_longest_ok rfl rfl (Nat.le_of_ble_eq_true rfl) (by decide) ?_
  intro run step
  have e36 : (upd x 0 0) 36 = nI S.2.1.2.2.2.2.1 := hR.1.2.2.2.2.2.2.2.1
  refine step.1 _ _ _ _ _ _ _ sgX12_longest_0_ok ?_
  refine ⟨_, hM.1, Nat.le_of_ble_eq_true rfl, rfl, ?_⟩
  have hM0 := hM.p63 (sI_0 (v := 0) (rfl : _ = M63l x y))
  have hR0 : Rel S (upd x 0 0) F := hR.t 0
  have hk0 := kp.rf (h := h) |>.u (k := 63) (e := .inl (12, (M63l x y).set 0 (.int 0))) (by decide) (by decide)
  refine ⟨by decide, _, _, hM0.1, rfl, ?_⟩
  refine Or.inl ⟨rfl, _, 6, 0, 0, _, _, _, qi_12_403, ⟨rfl, rfl⟩, ⟨hM0.1, rfl⟩, rfl, rfl, (by rw [e36]; exact M_longOf hg hM0 hR0 hP hI hpn hl (z := S.2.1.2.2.2.2.1) (Nat.le_refl _)), fun y10 h10 hy10 => ?_⟩
  obtain ⟨rfl, x1, y1, F1, hN⟩ := hy10
  refine ⟨.int, rfl, rfl, Nat.le_refl _, Nat.le_refl _, ?_⟩
  exact ⟨rfl, hN.mg hk0 hR0 rfl⟩
theorem M_sure {g : qG} (hg : qOK g) {h : qH} {x : Nat → Int32} {y : Nat → Int64} {F : Nat → Nat → Int32} {G : Nat → Nat → Int64} (hM : MX h x y F G) {S : CS} (hR : Rel S x F) {pf vf rf : Nat → Nat} (hP : isP S.2.1.2.1 S.2.1.2.2.2.2.1 pf vf rf) (hI : ROK S.2.1) (hpn : ∀ i : Nat, i < S.2.1.2.2.2.2.1 → pf i < S.2.1.2.2.2.1) (hl : lwf S.2.2.2.2.1.1) : qSpec g 7 0 0 mX12_sure [.ref 63] h (fun r h' => (r = some (.int (lsure S.2.1.1 S.2.1.2.2.2.2.2.2.1 S.2.1.2.2.2.2.2.2.2.1 S.2.1.2.2.2.2.2.2.2.2 pf vf rf 0 S.2.1.2.2.2.2.1 0))) ∧ MG h h' S) := by
  refine qSpec_run 12 "sure" false hg mX12_sure_ok rfl rfl (Nat.le_of_ble_eq_true rfl) (by decide) ?_
  intro run step
  have hM0 := hM.p63 (sI_0 (v := 0) (rfl : _ = M63l x y))
  have hR0 : Rel S (upd x 0 0) F := hR.t 0
  have hk0 := kp.rf (h := h) |>.u (k := 63) (e := .inl (12, (M63l x y).set 0 (.int 0))) (by decide) (by decide)
  have hk := hI.1.2.1
  have loop : ∀ (m i : Nat) (hZ : qH) (xX : Nat → Int32) (yX : Nat → Int64) (FX : Nat → Nat → Int32), i + m = S.2.1.2.2.2.2.1 → QN (h.1, qup h.2 63 (.inl (12, (M63l x y).set 0 (.int 0)))) hZ (upd x 0 0) y F G xX yX FX → (lsure S.2.1.1 S.2.1.2.2.2.2.2.2.1 S.2.1.2.2.2.2.2.2.2.1 S.2.1.2.2.2.2.2.2.2.2 pf vf rf i m (lall S.2.1.1 S.2.1.2.2.2.2.2.2.1 S.2.1.2.2.2.2.2.2.2.1 pf vf rf 0 i 0)) = (lsure S.2.1.1 S.2.1.2.2.2.2.2.2.1 S.2.1.2.2.2.2.2.2.2.1 S.2.1.2.2.2.2.2.2.2.2 pf vf rf 0 S.2.1.2.2.2.2.1 0) → run 7 [(1, .int (nI i)), (0, .ref 63)] [] hZ 0 0 := by
      intro m
      induction m with
      | zero =>
        intro i hZ xX yX FX hi hX hres
        have e36 : xX 36 = nI S.2.1.2.2.2.2.1 := (hX.R hR0).1.2.2.2.2.2.2.2.1
        refine step.1 _ _ _ _ _ _ _ sgX12_sure_7_ok ?_
        refine ⟨by decide, _, _, hX.1.1, rfl, ?_⟩
        refine ⟨fun c12 => ?_, fun c12 => absurd (show xX 36 ≤ nI i from by rw [e36]; exact nI_le (by omega) (by omega)) c12⟩
        
        refine step.1 _ _ _ _ _ _ _ sgX12_sure_35_ok ?_
        refine ⟨.int, rfl, rfl, Nat.le_refl _, Nat.le_refl _, ?_⟩
        exact ⟨by rw [← hres]; rfl, hX.mg hk0 hR0 rfl⟩
      | succ m ih =>
        intro i hZ xX yX FX hi hX hres
        have e36 : xX 36 = nI S.2.1.2.2.2.2.1 := (hX.R hR0).1.2.2.2.2.2.2.2.1
        have ei : (nI i + 1 : Int32) = nI (i + 1) := nI_1 i
        refine step.1 _ _ _ _ _ _ _ sgX12_sure_7_ok ?_
        refine ⟨by decide, _, _, hX.1.1, rfl, ?_⟩
        refine ⟨fun c12 => absurd (show nI S.2.1.2.2.2.2.1 ≤ nI i from by rw [← e36]; exact c12) (h_nle (by omega) (by omega)), fun c12 => ?_⟩
        
        refine Or.inl ⟨rfl, _, 6, 0, 0, _, _, _, qi_12_403, ⟨rfl, rfl⟩, ⟨hX.1.1, rfl⟩, rfl, rfl, (by rw [ei]; exact M_longOf hg hX.1 (hX.R hR0) hP hI hpn hl (z := i + 1) (by omega)), fun y19 h19 hy19 => ?_⟩
        obtain ⟨rfl, x1, y1, F1, hN1⟩ := hy19
        have hX1 := hX.tr hN1
        have e23 : x1 23 = S.2.1.2.2.2.2.2.2.2.2 := (hX1.R hR0).1.2.2.2.2.2.2.1
        have ev : lall S.2.1.1 S.2.1.2.2.2.2.2.2.1 S.2.1.2.2.2.2.2.2.2.1 pf vf rf 0 (i + 1) 0 = lall S.2.1.1 S.2.1.2.2.2.2.2.2.1 S.2.1.2.2.2.2.2.2.2.1 pf vf rf 0 i 0 + lmins S.2.1.1 S.2.1.2.2.2.2.2.2.1 S.2.1.2.2.2.2.2.2.2.1 pf vf rf i := by rw [lall_s, Nat.zero_add]
        refine ⟨by decide, _, _, hX1.1.1, rfl, ?_⟩
        refine ⟨fun c26 => ?_, fun c26 => ?_⟩
        · have c26 : ¬ (lall S.2.1.1 S.2.1.2.2.2.2.2.2.1 S.2.1.2.2.2.2.2.2.2.1 pf vf rf 0 i 0 + lmins S.2.1.1 S.2.1.2.2.2.2.2.2.1 S.2.1.2.2.2.2.2.2.2.1 pf vf rf i ≤ S.2.1.2.2.2.2.2.2.2.2) := fun q => absurd (show S.2.1.2.2.2.2.2.2.2.2 < lall S.2.1.1 S.2.1.2.2.2.2.2.2.1 S.2.1.2.2.2.2.2.2.2.1 pf vf rf 0 i 0 + lmins S.2.1.1 S.2.1.2.2.2.2.2.2.1 S.2.1.2.2.2.2.2.2.2.1 pf vf rf i from by rw [← e23, ← ev]; exact c26) (Int32.not_lt.mpr q)
          refine step.1 _ _ _ _ _ _ _ sgX12_sure_35_ok ?_
          refine ⟨.int, rfl, rfl, Nat.le_refl _, Nat.le_refl _, ?_⟩
          exact ⟨by rw [← hres, lsure, if_neg c26], hX1.mg hk0 hR0 rfl⟩
        · have c26 : lall S.2.1.1 S.2.1.2.2.2.2.2.2.1 S.2.1.2.2.2.2.2.2.2.1 pf vf rf 0 i 0 + lmins S.2.1.1 S.2.1.2.2.2.2.2.2.1 S.2.1.2.2.2.2.2.2.2.1 pf vf rf i ≤ S.2.1.2.2.2.2.2.2.2.2 := Int32.not_lt.mp (by rw [← e23, ← ev]; exact c26)
          have kk := ih (i + 1) h19 x1 y1 F1 (by omega) hX1 (by rw [← hres, ev, lsure, if_pos c26])
          rw [← nI_1] at kk
          exact kk
  refine step.1 _ _ _ _ _ _ _ sgX12_sure_0_ok ?_
  refine ⟨_, hM.1, Nat.le_of_ble_eq_true rfl, rfl, ?_⟩
  have hM0 := hM.p63 (sI_0 (v := 0) (rfl : _ = M63l x y))
  have hR0 : Rel S (upd x 0 0) F := hR.t 0
  have hk0 := kp.rf (h := h) |>.u (k := 63) (e := .inl (12, (M63l x y).set 0 (.int 0))) (by decide) (by decide)
  exact loop S.2.1.2.2.2.2.1 0 _ (upd x 0 0) y F (by omega) (QN.rf hM0) rfl
theorem M_stop {g : qG} (hg : qOK g) {h : qH} {x : Nat → Int32} {y : Nat → Int64} {F : Nat → Nat → Int32} {G : Nat → Nat → Int64} (hM : MX h x y F G) {S : CS} (hR : Rel S x F) {pf vf rf : Nat → Nat} (hP : isP S.2.1.2.1 S.2.1.2.2.2.2.1 pf vf rf) (hI : ROK S.2.1) (hpn : ∀ i : Nat, i < S.2.1.2.2.2.2.1 → pf i < S.2.1.2.2.2.1) (hl : lwf S.2.2.2.2.1.1) (px : Int32) : qSpec g 7 0 0 mX12_stop [.ref 63, .int px] h (fun r h' => ((wi 0 99 px = true) ∧ (r = some (.int (llineF (fun i => decide ((tsum S.2.1.1 S.2.2.2.2.1.1.1 S.2.2.2.2.1.1.2.1 S.2.2.2.2.1.1.2.2 (nI S.2.2.2.1.2) S.2.1.2.2.2.2.2.2.1 S.2.1.2.2.2.2.2.2.2.1 pf vf rf i (S.2.1.2.2.2.2.1 - i) (0, 0, 0, 0)).2.1 < px.toInt64 * (tsum S.2.1.1 S.2.2.2.2.1.1.1 S.2.2.2.2.1.1.2.1 S.2.2.2.2.1.1.2.2 (nI S.2.2.2.1.2) S.2.1.2.2.2.2.2.2.1 S.2.1.2.2.2.2.2.2.2.1 pf vf rf i (S.2.1.2.2.2.2.1 - i) (0, 0, 0, 0)).2.2.2)) S.2.1.2.2.2.2.1 0))) ∧ MG h h' S) ∨ ∃ (k : Nat) (c : Int32), ((k = 1 ∧ c = 1 ∧ ¬ (wi 0 99 px = true))) ∧ (∃ z, r = some (.int z)) ∧ mbad h h' S k c) := by
  refine qSpec_run 12 "stop" false hg mX12_stop_ok rfl rfl (Nat.le_of_ble_eq_true rfl) (by decide) ?_
  intro run step
  have hM0 := hM.p63 (sI_0 (v := 0) (rfl : _ = M63l x y))
  have hR0 : Rel S (upd x 0 0) F := hR.t 0
  have hk0 := kp.rf (h := h) |>.u (k := 63) (e := .inl (12, (M63l x y).set 0 (.int 0))) (by decide) (by decide)
  have hk := hI.1.2.1
  have loop : wi 0 99 px = true → ∀ (m i : Nat) (hZ : qH) (xX : Nat → Int32) (yX : Nat → Int64) (FX : Nat → Nat → Int32), i + m = S.2.1.2.2.2.2.1 → QN (h.1, qup h.2 63 (.inl (12, (M63l x y).set 0 (.int 0)))) hZ (upd x 0 0) y F G xX yX FX → llineF (fun i => decide ((tsum S.2.1.1 S.2.2.2.2.1.1.1 S.2.2.2.2.1.1.2.1 S.2.2.2.2.1.1.2.2 (nI S.2.2.2.1.2) S.2.1.2.2.2.2.2.2.1 S.2.1.2.2.2.2.2.2.2.1 pf vf rf i (S.2.1.2.2.2.2.1 - i) (0, 0, 0, 0)).2.1 < px.toInt64 * (tsum S.2.1.1 S.2.2.2.2.1.1.1 S.2.2.2.2.1.1.2.1 S.2.2.2.2.1.1.2.2 (nI S.2.2.2.1.2) S.2.1.2.2.2.2.2.2.1 S.2.1.2.2.2.2.2.2.2.1 pf vf rf i (S.2.1.2.2.2.2.1 - i) (0, 0, 0, 0)).2.2.2)) m i = llineF (fun i => decide ((tsum S.2.1.1 S.2.2.2.2.1.1.1 S.2.2.2.2.1.1.2.1 S.2.2.2.2.1.1.2.2 (nI S.2.2.2.1.2) S.2.1.2.2.2.2.2.2.1 S.2.1.2.2.2.2.2.2.2.1 pf vf rf i (S.2.1.2.2.2.2.1 - i) (0, 0, 0, 0)).2.1 < px.toInt64 * (tsum S.2.1.1 S.2.2.2.2.1.1.1 S.2.2.2.2.1.1.2.1 S.2.2.2.2.1.1.2.2 (nI S.2.2.2.1.2) S.2.1.2.2.2.2.2.2.1 S.2.1.2.2.2.2.2.2.2.1 pf vf rf i (S.2.1.2.2.2.2.1 - i) (0, 0, 0, 0)).2.2.2)) S.2.1.2.2.2.2.1 0 → run 25 [(2, .int (nI i)), (0, .ref 63), (1, .int px)] [] hZ 0 0 := by
      intro hW m
      induction m with
      | zero =>
        intro i hZ xX yX FX hi hX hres
        have e36 : xX 36 = nI S.2.1.2.2.2.2.1 := (hX.R hR0).1.2.2.2.2.2.2.2.1
        refine step.1 _ _ _ _ _ _ _ sgX12_stop_25_ok ?_
        refine ⟨by decide, _, _, hX.1.1, rfl, ?_⟩
        refine ⟨fun c30 => ?_, fun c30 => absurd (show xX 36 ≤ nI i from by rw [e36]; exact nI_le (by omega) (by omega)) c30⟩
        
        refine step.1 _ _ _ _ _ _ _ sgX12_stop_60_ok ?_
        refine ⟨.int, rfl, rfl, Nat.le_refl _, Nat.le_refl _, ?_⟩
        exact Or.inl ⟨hW, by rw [← hres]; rfl, hX.mg hk0 hR0 rfl⟩
      | succ m ih =>
        intro i hZ xX yX FX hi hX hres
        have e36 : xX 36 = nI S.2.1.2.2.2.2.1 := (hX.R hR0).1.2.2.2.2.2.2.2.1
        refine step.1 _ _ _ _ _ _ _ sgX12_stop_25_ok ?_
        refine ⟨by decide, _, _, hX.1.1, rfl, ?_⟩
        refine ⟨fun c30 => absurd (show nI S.2.1.2.2.2.2.1 ≤ nI i from by rw [← e36]; exact c30) (h_nle (by omega) (by omega)), fun c30 => ?_⟩
        
        refine Or.inl ⟨rfl, _, 6, 0, 0, _, _, _, qi_12_399, ⟨rfl, rfl⟩, ⟨hX.1.1, rfl⟩, rfl, rfl, M_sumFrom hg hX.1 (hX.R hR0) hP hI hpn hl (i0 := i) (u := 1) (by omega) (by decide), fun y36 h36 hy36 => ?_⟩
        obtain ⟨rfl, x1, y1, F1, hN1⟩ := hy36
        have hX1 := hX.tr hN1
        refine Or.inl ⟨rfl, _, 6, 0, 0, _, _, _, qi_12_399, ⟨rfl, rfl⟩, ⟨hX1.1.1, rfl⟩, rfl, rfl, M_sumFrom hg hX1.1 (hX1.R hR0) hP hI hpn hl (i0 := i) (u := 3) (by omega) (by decide), fun y44 h44 hy44 => ?_⟩
        obtain ⟨rfl, x2, y2, F2, hN2⟩ := hy44
        have hX2 := hX1.tr hN2
        refine ⟨fun c49 => ?_, fun c49 => ?_⟩
        · have c49 : ¬ (fun i => decide ((tsum S.2.1.1 S.2.2.2.2.1.1.1 S.2.2.2.2.1.1.2.1 S.2.2.2.2.1.1.2.2 (nI S.2.2.2.1.2) S.2.1.2.2.2.2.2.2.1 S.2.1.2.2.2.2.2.2.2.1 pf vf rf i (S.2.1.2.2.2.2.1 - i) (0, 0, 0, 0)).2.1 < px.toInt64 * (tsum S.2.1.1 S.2.2.2.2.1.1.1 S.2.2.2.2.1.1.2.1 S.2.2.2.2.1.1.2.2 (nI S.2.2.2.1.2) S.2.1.2.2.2.2.2.2.1 S.2.1.2.2.2.2.2.2.2.1 pf vf rf i (S.2.1.2.2.2.2.1 - i) (0, 0, 0, 0)).2.2.2)) i = true := fun q => absurd (of_decide_eq_true q) (Int64.not_lt.mpr ((lgc_ge _ _).mp c49))
          refine step.1 _ _ _ _ _ _ _ sgX12_stop_54_ok ?_
          have kk := ih (i + 1) h44 x2 y2 F2 (by omega) hX2 (by rw [← hres, llineF, if_neg c49])
          rw [← nI_1] at kk
          exact kk
        · have c49 : (fun i => decide ((tsum S.2.1.1 S.2.2.2.2.1.1.1 S.2.2.2.2.1.1.2.1 S.2.2.2.2.1.1.2.2 (nI S.2.2.2.1.2) S.2.1.2.2.2.2.2.2.1 S.2.1.2.2.2.2.2.2.2.1 pf vf rf i (S.2.1.2.2.2.2.1 - i) (0, 0, 0, 0)).2.1 < px.toInt64 * (tsum S.2.1.1 S.2.2.2.2.1.1.1 S.2.2.2.2.1.1.2.1 S.2.2.2.2.1.1.2.2 (nI S.2.2.2.1.2) S.2.1.2.2.2.2.2.2.1 S.2.1.2.2.2.2.2.2.2.1 pf vf rf i (S.2.1.2.2.2.2.1 - i) (0, 0, 0, 0)).2.2.2)) i = true := decide_eq_true (Int64.not_le.mp (fun q => c49 ((lgc_ge _ _).mpr q)))
          refine ⟨.int, rfl, rfl, Nat.le_refl _, Nat.le_refl _, ?_⟩
          exact Or.inl ⟨hW, by rw [← hres, llineF, if_pos c49], hX2.mg hk0 hR0 rfl⟩
  refine step.1 _ _ _ _ _ _ _ sgX12_stop_0_ok ?_
  refine ⟨_, hM.1, Nat.le_of_ble_eq_true rfl, rfl, ?_⟩
  have hM0 := hM.p63 (sI_0 (v := 0) (rfl : _ = M63l x y))
  have hR0 : Rel S (upd x 0 0) F := hR.t 0
  have hk0 := kp.rf (h := h) |>.u (k := 63) (e := .inl (12, (M63l x y).set 0 (.int 0))) (by decide) (by decide)
  refine Or.inl ⟨rfl, _, 1, 0, 0, _, Or.inl qi_12_324, ⟨rfl, rfl⟩, rfl, rfl, M_within hg _ _ _, fun y10 h10 hy10 => ?_⟩
  obtain ⟨rfl, hh⟩ := hy10
  rw [hh]
  clear hh
  refine Or.inl ⟨rfl, _, 1, 0, 0, _, _, _, qi_12_247, ⟨rfl, rfl⟩, ⟨hM0.1, rfl⟩, rfl, rfl, M_mayU hg hM0 hR0 rfl _ 1 (by decide) 1 (by decide), fun y15 h15 hy15 => ?_⟩
  rcases hy15 with ⟨w15, rfl, hb⟩ | ⟨w15, rfl, hh⟩
  · refine ⟨fun c18 => absurd c18 (by decide), fun _ => ?_⟩
    refine ⟨.int, rfl, rfl, Nat.le_refl _, Nat.le_refl _, ?_⟩
    exact Or.inr ⟨1, 1, ⟨rfl, rfl, (by rw [w15]; decide)⟩, ⟨_, rfl⟩, mbad.l hk0 hb⟩
  · rw [hh]
    clear hh
    refine ⟨fun _ => ?_, fun c18 => absurd c18 (by decide)⟩
    refine step.1 _ _ _ _ _ _ _ sgX12_stop_23_ok ?_
    exact loop w15 S.2.1.2.2.2.2.1 0 _ (upd x 0 0) y F (by omega) (QN.rf hM0) rfl
theorem M_line {g : qG} (hg : qOK g) {h : qH} {x : Nat → Int32} {y : Nat → Int64} {F : Nat → Nat → Int32} {G : Nat → Nat → Int64} (hM : MX h x y F G) {S : CS} (hR : Rel S x F) {pf vf rf : Nat → Nat} (hP : isP S.2.1.2.1 S.2.1.2.2.2.2.1 pf vf rf) (hI : ROK S.2.1) (hpn : ∀ i : Nat, i < S.2.1.2.2.2.2.1 → pf i < S.2.1.2.2.2.1) (li wh : Int32) : qSpec g 3 0 0 mX12_line [.ref 63, .int li, .int wh] h (fun r h' => ((wi 0 (nI S.2.1.2.2.2.2.1 - 1) li = true) ∧ (wi 0 3 wh = true) ∧ (∃ a b : Nat, a < S.2.1.2.2.2.2.1 ∧ b ≤ 3 ∧ li = nI a ∧ wh = nI b ∧ r = some (.int (if b = 3 then lwayv S.2.1.1 S.2.1.2.2.2.2.2.2.1 pf a else S.2.1.2.1 (a * 3 + b)))) ∧ MG h h' S) ∨ ∃ (k : Nat) (c : Int32), ((k = 0 ∧ c = 1 ∧ ¬ (wi 0 (nI S.2.1.2.2.2.2.1 - 1) li = true)) ∨ (k = 1 ∧ c = 2 ∧ (wi 0 (nI S.2.1.2.2.2.2.1 - 1) li = true) ∧ ¬ (wi 0 3 wh = true))) ∧ (∃ z, r = some (.int z)) ∧ mbad h h' S k c) := by
  refine qSpec_run 12 "line" false hg mX12_line_ok rfl rfl (Nat.le_of_ble_eq_true rfl) (by decide) ?_
  intro run step
  refine step.1 _ _ _ _ _ _ _ sgX12_line_0_ok ?_
  refine ⟨_, hM.1, Nat.le_of_ble_eq_true rfl, rfl, ?_⟩
  have hM0 := hM.p63 (sI_0 (v := 0) (rfl : _ = M63l x y))
  have hR0 : Rel S (upd x 0 0) F := hR.t 0
  have hk0 := kp.rf (h := h) |>.u (k := 63) (e := .inl (12, (M63l x y).set 0 (.int 0))) (by decide) (by decide)
  refine Or.inl ⟨rfl, _, 2, 0, 0, _, _, _, qi_12_353, ⟨rfl, rfl⟩, ⟨hM0.1, rfl⟩, rfl, rfl, M_isLineU hg hM0 hR0 rfl _ 1 (by decide), fun y8 h8 hy8 => ?_⟩
  rcases hy8 with ⟨hD0, rfl, hb⟩ | ⟨hD0, rfl, hh⟩
  · refine ⟨fun _ => ?_, fun c11 => absurd c11 (by decide)⟩
    refine step.1 _ _ _ _ _ _ _ sgX12_line_29_ok ?_
    refine ⟨.int, rfl, rfl, Nat.le_refl _, Nat.le_refl _, ?_⟩
    exact Or.inr ⟨0, 1, (Or.inl (⟨rfl, rfl, (by rw [hD0]; decide)⟩)), ⟨_, rfl⟩, mbad.l hk0 hb⟩
  · rw [hh]
    clear hh
    refine ⟨fun c11 => absurd c11 (by decide), fun _ => ?_⟩
    refine Or.inl ⟨rfl, _, 1, 0, 0, _, Or.inl qi_12_324, ⟨rfl, rfl⟩, rfl, rfl, M_within hg _ _ _, fun y18 h18 hy18 => ?_⟩
    obtain ⟨rfl, hh⟩ := hy18
    rw [hh]
    clear hh
    refine Or.inl ⟨rfl, _, 1, 0, 0, _, _, _, qi_12_247, ⟨rfl, rfl⟩, ⟨hM0.1, rfl⟩, rfl, rfl, M_mayU hg hM0 hR0 rfl _ 2 (by decide) 1 (by decide), fun y23 h23 hy23 => ?_⟩
    rcases hy23 with ⟨w23, rfl, hb⟩ | ⟨w23, rfl, hh⟩
    · refine ⟨fun c26 => absurd c26 (by decide), fun _ => ?_⟩
      refine step.1 _ _ _ _ _ _ _ sgX12_line_29_ok ?_
      refine ⟨.int, rfl, rfl, Nat.le_refl _, Nat.le_refl _, ?_⟩
      exact Or.inr ⟨1, 2, (Or.inr (⟨rfl, rfl, hD0, (by rw [w23]; decide)⟩)), ⟨_, rfl⟩, mbad.l hk0 hb⟩
    · rw [hh]
      clear hh
      obtain ⟨a, ha, ea⟩ := wi_lt (by have := hI.1.2.1; omega) hD0
      obtain ⟨b, hb9, eb⟩ := wi_nat (m := 3) (by decide) w23
      have hk := hI.1.2.1
      have e9 : (3 * li + wh : Int32) = nI (a * 3 + b) := by rw [ea, eb]; exact ixk (k := 3)
      refine ⟨fun _ => ?_, fun c26 => absurd c26 (by decide)⟩
      refine step.1 _ _ _ _ _ _ _ sgX12_line_31_ok ?_
      refine ⟨fun c33 => ?_, fun c33 => ?_⟩
      · have c33 : b ≠ 3 := fun e => c33 (by rw [eb, e]; rfl)
        refine step.1 _ _ _ _ _ _ _ sgX12_line_44_ok ?_
        refine ⟨by decide, _, _, hM0.1, rfl, ?_⟩
        refine ⟨_, _, hM0.c78, (by rw [e9]; exact vp_in_nI (n := a * 3 + b) (N := 30) (by omega) (by decide)), ?_⟩
        refine step.1 _ _ _ _ _ _ _ sgX12_line_54_ok ?_
        refine ⟨.int, rfl, rfl, Nat.le_refl _, Nat.le_refl _, ?_⟩
        exact Or.inl ⟨hD0, w23, ⟨a, b, ha, hb9, ea, eb, congrArg (fun z => some (Value.int z)) (by rw [if_neg c33, e9, h_tn (n := a * 3 + b) (by omega)]; exact hR.2.2.1.2.2 _ (by omega))⟩, MG.of hM0 hk0 hR0 rfl⟩
      · have c33 : b = 3 := (nI_eq (b := 3) (by omega) (by decide)).mp (by rw [← eb]; exact c33)
        refine Or.inl ⟨rfl, _, 2, 0, 0, _, _, _, qi_12_356, ⟨rfl, rfl⟩, ⟨hM0.1, rfl⟩, rfl, rfl, (by rw [ea]; exact M_wayS hg hM0 hR0 hP hI hpn ha), fun y38 h38 hy38 => ?_⟩
        obtain ⟨rfl, hh⟩ := hy38
        rw [hh]
        clear hh
        refine step.1 _ _ _ _ _ _ _ sgX12_line_54_ok ?_
        refine ⟨.int, rfl, rfl, Nat.le_refl _, Nat.le_refl _, ?_⟩
        exact Or.inl ⟨hD0, w23, ⟨a, b, ha, hb9, ea, eb, congrArg (fun z => some (Value.int z)) (by rw [if_pos c33])⟩, MG.of hM0 hk0 hR0 rfl⟩
theorem M_planned {g : qG} (hg : qOK g) {h : qH} {x : Nat → Int32} {y : Nat → Int64} {F : Nat → Nat → Int32} {G : Nat → Nat → Int64} (hM : MX h x y F G) {S : CS} (hR : Rel S x F) {pf vf rf : Nat → Nat} (hP : isP S.2.1.2.1 S.2.1.2.2.2.2.1 pf vf rf) (hI : ROK S.2.1) (hpn : ∀ i : Nat, i < S.2.1.2.2.2.2.1 → pf i < S.2.1.2.2.2.1) (hl : lwf S.2.2.2.2.1.1) (wh pt : Int32) : qSpec g 7 0 0 mX12_planned [.ref 63, .int wh, .int pt] h (fun r h' => ((wi 0 3 wh = true ∧ wi 0 1 pt = true) ∧ (∃ u : Nat, u ≤ 3 ∧ wh = nI u ∧ r = some (.long (lterms (if u = 0 then (tsum S.2.1.1 S.2.2.2.2.1.1.1 S.2.2.2.2.1.1.2.1 S.2.2.2.2.1.1.2.2 (nI S.2.2.2.1.2) S.2.1.2.2.2.2.2.2.1 S.2.1.2.2.2.2.2.2.2.1 pf vf rf 0 (S.2.1.2.2.2.2.1 - 0) (0, 0, 0, 0)).1 else if u = 1 then (tsum S.2.1.1 S.2.2.2.2.1.1.1 S.2.2.2.2.1.1.2.1 S.2.2.2.2.1.1.2.2 (nI S.2.2.2.1.2) S.2.1.2.2.2.2.2.2.1 S.2.1.2.2.2.2.2.2.2.1 pf vf rf 0 (S.2.1.2.2.2.2.1 - 0) (0, 0, 0, 0)).2.1 else if u = 2 then (tsum S.2.1.1 S.2.2.2.2.1.1.1 S.2.2.2.2.1.1.2.1 S.2.2.2.2.1.1.2.2 (nI S.2.2.2.1.2) S.2.1.2.2.2.2.2.2.1 S.2.1.2.2.2.2.2.2.2.1 pf vf rf 0 (S.2.1.2.2.2.2.1 - 0) (0, 0, 0, 0)).2.2.1 else (tsum S.2.1.1 S.2.2.2.2.1.1.1 S.2.2.2.2.1.1.2.1 S.2.2.2.2.1.1.2.2 (nI S.2.2.2.1.2) S.2.1.2.2.2.2.2.2.1 S.2.1.2.2.2.2.2.2.2.1 pf vf rf 0 (S.2.1.2.2.2.2.1 - 0) (0, 0, 0, 0)).2.2.2) 268435456 pt))) ∧ MG h h' S) ∨ ∃ (k : Nat) (c : Int32), ((k = 1 ∧ c = 1 ∧ ¬ (wi 0 3 wh = true ∧ wi 0 1 pt = true))) ∧ (∃ z, r = some (.long z)) ∧ mbad h h' S k c) := by
  refine qSpec_run 12 "planned" false hg mX12_planned_ok rfl rfl (Nat.le_of_ble_eq_true rfl) (by decide) ?_
  intro run step
  refine step.1 _ _ _ _ _ _ _ sgX12_planned_0_ok ?_
  refine ⟨_, hM.1, Nat.le_of_ble_eq_true rfl, rfl, ?_⟩
  have hM0 := hM.p63 (sI_0 (v := 0) (rfl : _ = M63l x y))
  have hR0 : Rel S (upd x 0 0) F := hR.t 0
  have hk0 := kp.rf (h := h) |>.u (k := 63) (e := .inl (12, (M63l x y).set 0 (.int 0))) (by decide) (by decide)
  refine Or.inl ⟨rfl, _, 1, 0, 0, _, Or.inl qi_12_324, ⟨rfl, rfl⟩, rfl, rfl, M_within hg _ _ _, fun y9 h9 hy9 => ?_⟩
  obtain ⟨rfl, hh⟩ := hy9
  rw [hh]
  clear hh
  refine ⟨fun c12 => ?_, fun c12 => ?_⟩
  · have w12 : (wi 0 3 wh) = false := qb_0.mp c12
    refine step.1 _ _ _ _ _ _ _ sgX12_planned_28_ok ?_
    refine step.1 _ _ _ _ _ _ _ sgX12_planned_29_ok ?_
    refine Or.inl ⟨rfl, _, 1, 0, 0, _, _, _, qi_12_247, ⟨rfl, rfl⟩, ⟨hM0.1, rfl⟩, rfl, rfl, M_mayB hg hM0 hR0 rfl 1 (by decide) 1 (by decide), fun y31 h31 hy31 => ?_⟩
    obtain ⟨rfl, hb⟩ := hy31
    refine ⟨fun c34 => absurd c34 (by decide), fun _ => ?_⟩
    refine ⟨rfl, Nat.le_refl _, Nat.le_refl _, ?_⟩
    exact Or.inr ⟨1, 1, ⟨rfl, rfl, (fun z => absurd (z.1) (by rw [w12]; decide))⟩, ⟨_, rfl⟩, mbad.l hk0 hb⟩
  · have w12 : (wi 0 3 wh) = true := qb_1.mp c12
    refine Or.inl ⟨rfl, _, 1, 0, 0, _, Or.inl qi_12_324, ⟨rfl, rfl⟩, rfl, rfl, M_within hg _ _ _, fun y18 h18 hy18 => ?_⟩
    obtain ⟨rfl, hh⟩ := hy18
    rw [hh]
    clear hh
    refine ⟨fun c21 => ?_, fun c21 => ?_⟩
    · have w21 : (wi 0 1 pt) = false := qb_0.mp c21
      refine step.1 _ _ _ _ _ _ _ sgX12_planned_28_ok ?_
      refine step.1 _ _ _ _ _ _ _ sgX12_planned_29_ok ?_
      refine Or.inl ⟨rfl, _, 1, 0, 0, _, _, _, qi_12_247, ⟨rfl, rfl⟩, ⟨hM0.1, rfl⟩, rfl, rfl, M_mayB hg hM0 hR0 rfl 1 (by decide) 1 (by decide), fun y31 h31 hy31 => ?_⟩
      obtain ⟨rfl, hb⟩ := hy31
      refine ⟨fun c34 => absurd c34 (by decide), fun _ => ?_⟩
      refine ⟨rfl, Nat.le_refl _, Nat.le_refl _, ?_⟩
      exact Or.inr ⟨1, 1, ⟨rfl, rfl, (fun z => absurd (z.2) (by rw [w21]; decide))⟩, ⟨_, rfl⟩, mbad.l hk0 hb⟩
    · have w21 : (wi 0 1 pt) = true := qb_1.mp c21
      refine step.1 _ _ _ _ _ _ _ sgX12_planned_29_ok ?_
      refine Or.inl ⟨rfl, _, 1, 0, 0, _, _, _, qi_12_247, ⟨rfl, rfl⟩, ⟨hM0.1, rfl⟩, rfl, rfl, M_may hg hM0.1 rfl _ _, fun y31 h31 hy31 => ?_⟩
      obtain ⟨rfl, hh⟩ := hy31
      rw [hh]
      clear hh
      obtain ⟨u, hu, eu⟩ := wi_nat (m := 3) (by decide) w12
      obtain ⟨A', B', C', T', hb, et⟩ := tsum_n hI hP hpn S.2.2.2.2.1.1.1 S.2.2.2.2.1.1.2.1 S.2.2.2.2.1.1.2.2 (nI S.2.2.2.1.2) (S.2.1.2.2.2.2.1 - 0) 0 0 0 0 0 (by omega) (by omega)
      have hk := hI.1.2.1
      have hb2 : (0 + (S.2.1.2.2.2.2.1 - 0)) * 2000 * 2 ^ 28 ≤ 10 * 2000 * 2 ^ 28 := Nat.mul_le_mul_right _ (Nat.mul_le_mul_right _ (by omega))
      obtain ⟨A, hA, eA⟩ : ∃ A : Nat, A < 2 ^ 63 ∧ tcm u (tsum S.2.1.1 S.2.2.2.2.1.1.1 S.2.2.2.2.1.1.2.1 S.2.2.2.2.1.1.2.2 (nI S.2.2.2.1.2) S.2.1.2.2.2.2.2.2.1 S.2.1.2.2.2.2.2.2.2.1 pf vf rf 0 (S.2.1.2.2.2.2.1 - 0) (0, 0, 0, 0)) = Int64.ofNat A := by
        rw [show (tsum S.2.1.1 S.2.2.2.2.1.1.1 S.2.2.2.2.1.1.2.1 S.2.2.2.2.1.1.2.2 (nI S.2.2.2.1.2) S.2.1.2.2.2.2.2.2.1 S.2.1.2.2.2.2.2.2.2.1 pf vf rf 0 (S.2.1.2.2.2.2.1 - 0) (0, 0, 0, 0)) = (Int64.ofNat A', Int64.ofNat B', Int64.ofNat C', Int64.ofNat T') from et]
        rcases (show u = 0 ∨ u = 1 ∨ u = 2 ∨ u = 3 by omega) with rfl | rfl | rfl | rfl
        · exact ⟨A', by omega, rfl⟩
        · exact ⟨B', by omega, rfl⟩
        · exact ⟨C', by omega, rfl⟩
        · exact ⟨T', by omega, rfl⟩
      refine ⟨fun _ => ?_, fun c34 => absurd c34 (by decide)⟩
      refine step.1 _ _ _ _ _ _ _ sgX12_planned_39_ok ?_
      refine Or.inl ⟨rfl, _, 6, 0, 0, _, _, _, qi_12_399, ⟨rfl, rfl⟩, ⟨hM0.1, rfl⟩, rfl, rfl, (by rw [eu]; exact M_sumFrom hg hM0 hR0 hP hI hpn hl (i0 := 0) (by omega) hu), fun y42 h42 hy42 => ?_⟩
      obtain ⟨rfl, x1, y1, F1, hN⟩ := hy42
      refine Or.inl ⟨rfl, _, 1, 0, 0, _, Or.inl qi_12_393, ⟨rfl, rfl⟩, rfl, rfl, (by rw [eA]; exact M_least hg A 268435456 pt hA (by decide) (by decide) (p01 w21)), fun y49 h49 hy49 => ?_⟩
      obtain ⟨rfl, hh⟩ := hy49
      rw [hh]
      clear hh
      refine ⟨rfl, Nat.le_refl _, Nat.le_refl _, ?_⟩
      exact Or.inl ⟨⟨w12, w21⟩, ⟨u, hu, eu, by rw [← eA]; rfl⟩, hN.mg hk0 hR0 rfl⟩
theorem M_mean {g : qG} (hg : qOK g) {h : qH} {x : Nat → Int32} {y : Nat → Int64} {F : Nat → Nat → Int32} {G : Nat → Nat → Int64} (hM : MX h x y F G) {S : CS} (hR : Rel S x F) (hI : ROK S.2.1) (hl : lwf S.2.2.2.2.1.1) (dr nv rg wh pt : Int32) : qSpec g 6 0 0 mX12_mean [.ref 63, .int dr, .int nv, .int rg, .int wh, .int pt] h (fun r h' => ((wi 0 (nI S.2.1.2.2.2.1 - 1) dr = true) ∧ (wi 0 5 nv = true ∧ wi 0 2 rg = true ∧ wi 0 3 wh = true ∧ wi 0 1 pt = true) ∧ (∃ a b z u : Nat, a < S.2.1.2.2.2.1 ∧ b ≤ 5 ∧ z ≤ 2 ∧ u ≤ 3 ∧ dr = nI a ∧ nv = nI b ∧ rg = nI z ∧ wh = nI u ∧ r = some (.long (lterms (if u = 0 then (vmean (fun z => vgift S.2.1.1 S.2.2.2.2.1.1.1 S.2.2.2.2.1.1.2.1 S.2.2.2.2.1.1.2.2 (nI S.2.2.2.1.2) a z 0) S.2.1.1 S.2.1.2.2.2.2.2.2.2.1 a z b).2.2.1 else if u = 1 then (vmean (fun z => vgift S.2.1.1 S.2.2.2.2.1.1.1 S.2.2.2.2.1.1.2.1 S.2.2.2.2.1.1.2.2 (nI S.2.2.2.1.2) a z 0) S.2.1.1 S.2.1.2.2.2.2.2.2.2.1 a z b).2.2.2.1 else if u = 2 then (vmean (fun z => vgift S.2.1.1 S.2.2.2.2.1.1.1 S.2.2.2.2.1.1.2.1 S.2.2.2.2.1.1.2.2 (nI S.2.2.2.1.2) a z 0) S.2.1.1 S.2.1.2.2.2.2.2.2.2.1 a z b).2.2.1 * (S.2.1.1 (a * 10 + 2)).toInt64 else (vmean (fun z => vgift S.2.1.1 S.2.2.2.2.1.1.1 S.2.2.2.2.1.1.2.1 S.2.2.2.2.1.1.2.2 (nI S.2.2.2.1.2) a z 0) S.2.1.1 S.2.1.2.2.2.2.2.2.2.1 a z b).2.2.2.2 + (vmean (fun z => vgift S.2.1.1 S.2.2.2.2.1.1.1 S.2.2.2.2.1.1.2.1 S.2.2.2.2.1.1.2.2 (nI S.2.2.2.1.2) a z 0) S.2.1.1 S.2.1.2.2.2.2.2.2.2.1 a z b).2.2.1 * (S.2.1.1 (a * 10 + 9)).toInt64) 268435456 pt))) ∧ MG h h' S) ∨ ∃ (k : Nat) (c : Int32), ((k = 0 ∧ c = 1 ∧ ¬ (wi 0 (nI S.2.1.2.2.2.1 - 1) dr = true)) ∨ (k = 1 ∧ c = 2 ∧ (wi 0 (nI S.2.1.2.2.2.1 - 1) dr = true) ∧ ¬ (wi 0 5 nv = true ∧ wi 0 2 rg = true ∧ wi 0 3 wh = true ∧ wi 0 1 pt = true))) ∧ (∃ z, r = some (.long z)) ∧ mbad h h' S k c) := by
  refine qSpec_run 12 "mean" false hg mX12_mean_ok rfl rfl (Nat.le_of_ble_eq_true rfl) (by decide) ?_
  intro run step
  refine step.1 _ _ _ _ _ _ _ sgX12_mean_0_ok ?_
  refine ⟨_, hM.1, Nat.le_of_ble_eq_true rfl, rfl, ?_⟩
  have hM0 := hM.p63 (sI_0 (v := 0) (rfl : _ = M63l x y))
  have hR0 : Rel S (upd x 0 0) F := hR.t 0
  have hk0 := kp.rf (h := h) |>.u (k := 63) (e := .inl (12, (M63l x y).set 0 (.int 0))) (by decide) (by decide)
  refine Or.inl ⟨rfl, _, 2, 0, 0, _, _, _, qi_12_343, ⟨rfl, rfl⟩, ⟨hM0.1, rfl⟩, rfl, rfl, M_isDoorU hg hM0 hR0 rfl _ 1 (by decide), fun y8 h8 hy8 => ?_⟩
  rcases hy8 with ⟨hD0, rfl, hb⟩ | ⟨hD0, rfl, hh⟩
  · refine ⟨fun _ => ?_, fun c11 => absurd c11 (by decide)⟩
    refine step.1 _ _ _ _ _ _ _ sgX12_mean_66_ok ?_
    refine ⟨rfl, Nat.le_refl _, Nat.le_refl _, ?_⟩
    exact Or.inr ⟨0, 1, (Or.inl (⟨rfl, rfl, (by rw [hD0]; decide)⟩)), ⟨_, rfl⟩, mbad.l hk0 hb⟩
  · rw [hh]
    clear hh
    refine ⟨fun c11 => absurd c11 (by decide), fun _ => ?_⟩
    refine Or.inl ⟨rfl, _, 1, 0, 0, _, Or.inl qi_12_324, ⟨rfl, rfl⟩, rfl, rfl, M_within hg _ _ _, fun y18 h18 hy18 => ?_⟩
    obtain ⟨rfl, hh⟩ := hy18
    rw [hh]
    clear hh
    refine ⟨fun c21 => ?_, fun c21 => ?_⟩
    · have w21 : (wi 0 5 nv) = false := qb_0.mp c21
      refine step.1 _ _ _ _ _ _ _ sgX12_mean_57_ok ?_
      refine step.1 _ _ _ _ _ _ _ sgX12_mean_58_ok ?_
      refine Or.inl ⟨rfl, _, 1, 0, 0, _, _, _, qi_12_247, ⟨rfl, rfl⟩, ⟨hM0.1, rfl⟩, rfl, rfl, M_mayB hg hM0 hR0 rfl 2 (by decide) 1 (by decide), fun y60 h60 hy60 => ?_⟩
      obtain ⟨rfl, hb⟩ := hy60
      refine ⟨fun c63 => absurd c63 (by decide), fun _ => ?_⟩
      refine step.1 _ _ _ _ _ _ _ sgX12_mean_66_ok ?_
      refine ⟨rfl, Nat.le_refl _, Nat.le_refl _, ?_⟩
      exact Or.inr ⟨1, 2, (Or.inr (⟨rfl, rfl, hD0, (fun z => absurd (z.1) (by rw [w21]; decide))⟩)), ⟨_, rfl⟩, mbad.l hk0 hb⟩
    · have w21 : (wi 0 5 nv) = true := qb_1.mp c21
      refine Or.inl ⟨rfl, _, 1, 0, 0, _, Or.inl qi_12_324, ⟨rfl, rfl⟩, rfl, rfl, M_within hg _ _ _, fun y27 h27 hy27 => ?_⟩
      obtain ⟨rfl, hh⟩ := hy27
      rw [hh]
      clear hh
      refine ⟨fun c30 => ?_, fun c30 => ?_⟩
      · have w30 : (wi 0 2 rg) = false := qb_0.mp c30
        refine step.1 _ _ _ _ _ _ _ sgX12_mean_57_ok ?_
        refine step.1 _ _ _ _ _ _ _ sgX12_mean_58_ok ?_
        refine Or.inl ⟨rfl, _, 1, 0, 0, _, _, _, qi_12_247, ⟨rfl, rfl⟩, ⟨hM0.1, rfl⟩, rfl, rfl, M_mayB hg hM0 hR0 rfl 2 (by decide) 1 (by decide), fun y60 h60 hy60 => ?_⟩
        obtain ⟨rfl, hb⟩ := hy60
        refine ⟨fun c63 => absurd c63 (by decide), fun _ => ?_⟩
        refine step.1 _ _ _ _ _ _ _ sgX12_mean_66_ok ?_
        refine ⟨rfl, Nat.le_refl _, Nat.le_refl _, ?_⟩
        exact Or.inr ⟨1, 2, (Or.inr (⟨rfl, rfl, hD0, (fun z => absurd (z.2.1) (by rw [w30]; decide))⟩)), ⟨_, rfl⟩, mbad.l hk0 hb⟩
      · have w30 : (wi 0 2 rg) = true := qb_1.mp c30
        refine Or.inl ⟨rfl, _, 1, 0, 0, _, Or.inl qi_12_324, ⟨rfl, rfl⟩, rfl, rfl, M_within hg _ _ _, fun y37 h37 hy37 => ?_⟩
        obtain ⟨rfl, hh⟩ := hy37
        rw [hh]
        clear hh
        refine ⟨fun c40 => ?_, fun c40 => ?_⟩
        · have w40 : (wi 0 3 wh) = false := qb_0.mp c40
          refine step.1 _ _ _ _ _ _ _ sgX12_mean_57_ok ?_
          refine step.1 _ _ _ _ _ _ _ sgX12_mean_58_ok ?_
          refine Or.inl ⟨rfl, _, 1, 0, 0, _, _, _, qi_12_247, ⟨rfl, rfl⟩, ⟨hM0.1, rfl⟩, rfl, rfl, M_mayB hg hM0 hR0 rfl 2 (by decide) 1 (by decide), fun y60 h60 hy60 => ?_⟩
          obtain ⟨rfl, hb⟩ := hy60
          refine ⟨fun c63 => absurd c63 (by decide), fun _ => ?_⟩
          refine step.1 _ _ _ _ _ _ _ sgX12_mean_66_ok ?_
          refine ⟨rfl, Nat.le_refl _, Nat.le_refl _, ?_⟩
          exact Or.inr ⟨1, 2, (Or.inr (⟨rfl, rfl, hD0, (fun z => absurd (z.2.2.1) (by rw [w40]; decide))⟩)), ⟨_, rfl⟩, mbad.l hk0 hb⟩
        · have w40 : (wi 0 3 wh) = true := qb_1.mp c40
          refine Or.inl ⟨rfl, _, 1, 0, 0, _, Or.inl qi_12_324, ⟨rfl, rfl⟩, rfl, rfl, M_within hg _ _ _, fun y47 h47 hy47 => ?_⟩
          obtain ⟨rfl, hh⟩ := hy47
          rw [hh]
          clear hh
          refine ⟨fun c50 => ?_, fun c50 => ?_⟩
          · have w50 : (wi 0 1 pt) = false := qb_0.mp c50
            refine step.1 _ _ _ _ _ _ _ sgX12_mean_57_ok ?_
            refine step.1 _ _ _ _ _ _ _ sgX12_mean_58_ok ?_
            refine Or.inl ⟨rfl, _, 1, 0, 0, _, _, _, qi_12_247, ⟨rfl, rfl⟩, ⟨hM0.1, rfl⟩, rfl, rfl, M_mayB hg hM0 hR0 rfl 2 (by decide) 1 (by decide), fun y60 h60 hy60 => ?_⟩
            obtain ⟨rfl, hb⟩ := hy60
            refine ⟨fun c63 => absurd c63 (by decide), fun _ => ?_⟩
            refine step.1 _ _ _ _ _ _ _ sgX12_mean_66_ok ?_
            refine ⟨rfl, Nat.le_refl _, Nat.le_refl _, ?_⟩
            exact Or.inr ⟨1, 2, (Or.inr (⟨rfl, rfl, hD0, (fun z => absurd (z.2.2.2) (by rw [w50]; decide))⟩)), ⟨_, rfl⟩, mbad.l hk0 hb⟩
          · have w50 : (wi 0 1 pt) = true := qb_1.mp c50
            refine step.1 _ _ _ _ _ _ _ sgX12_mean_58_ok ?_
            refine Or.inl ⟨rfl, _, 1, 0, 0, _, _, _, qi_12_247, ⟨rfl, rfl⟩, ⟨hM0.1, rfl⟩, rfl, rfl, M_may hg hM0.1 rfl _ _, fun y60 h60 hy60 => ?_⟩
            obtain ⟨rfl, hh⟩ := hy60
            rw [hh]
            clear hh
            obtain ⟨a, ha, ea⟩ := wi_lt (by have := hI.1.1; omega) hD0
            obtain ⟨b, hb, eb⟩ := wi_nat (m := 5) (by decide) w21
            obtain ⟨z, hz, ez⟩ := wi_nat (m := 2) (by decide) w30
            obtain ⟨u, hu, eu⟩ := wi_nat (m := 3) (by decide) w40
            obtain ⟨A, hA, eA⟩ := mval_n (G := (fun z => vgift S.2.1.1 S.2.2.2.2.1.1.1 S.2.2.2.2.1.1.2.1 S.2.2.2.2.1.1.2.2 (nI S.2.2.2.1.2) a z 0)) (r := z) (n := b) (u := u) hI ha hb (fun q => vgift_b hI ha _ _ _ _ q 0)
            refine ⟨fun _ => ?_, fun c63 => absurd c63 (by decide)⟩
            refine step.1 _ _ _ _ _ _ _ sgX12_mean_68_ok ?_
            refine Or.inl ⟨rfl, _, 4, 0, 0, _, _, _, qi_12_385, ⟨rfl, rfl⟩, ⟨hM0.1, rfl⟩, rfl, rfl, (by rw [ea, eb, ez]; exact M_findMeans hg hM0 hR0 hI ha hz hb hI.1.1 hl 0), fun y73 h73 hy73 => ?_⟩
            obtain ⟨rfl, hQ⟩ := hy73
            obtain ⟨x1, y1, F1, hN, m1, m2, m3, m4, m5⟩ := hQ.n
            refine Or.inl ⟨rfl, _, 1, 0, 0, _, _, _, qi_12_389, ⟨rfl, rfl⟩, ⟨hN.1.1, rfl⟩, rfl, rfl, M_meanOf hg hN.1.1 wh, fun y79 h79 hy79 => ?_⟩
            obtain ⟨rfl, hh⟩ := hy79
            rw [hh]
            clear hh
            refine Or.inl ⟨rfl, _, 1, 0, 0, _, Or.inl qi_12_393, ⟨rfl, rfl⟩, rfl, rfl, (by rw [eu, u_ite hu, m1, m2, m3, m4, eA]; exact M_least hg A 268435456 pt hA (by decide) (by decide) (p01 w50)), fun y87 h87 hy87 => ?_⟩
            obtain ⟨rfl, hh⟩ := hy87
            rw [hh]
            clear hh
            refine ⟨rfl, Nat.le_refl _, Nat.le_refl _, ?_⟩
            exact Or.inl ⟨hD0, ⟨w21, w30, w40, w50⟩, ⟨a, b, z, u, ha, hb, hz, hu, ea, eb, ez, eu, by rw [eA]; rfl⟩, hN.mg hk0 hR0 rfl⟩
theorem M_pays {g : qG} (hg : qOK g) {h : qH} {x : Nat → Int32} {y : Nat → Int64} {F : Nat → Nat → Int32} {G : Nat → Nat → Int64} (hM : MX h x y F G) {S : CS} (hR : Rel S x F) (hI : ROK S.2.1) (hl : lwf S.2.2.2.2.1.1) (dr nv rg px : Int32) : qSpec g 6 0 0 mX12_pays [.ref 63, .int dr, .int nv, .int rg, .int px] h (fun r h' => ((wi 0 (nI S.2.1.2.2.2.1 - 1) dr = true) ∧ (wi 0 5 nv = true ∧ wi 0 2 rg = true ∧ wi 0 99 px = true) ∧ (∃ a b z : Nat, a < S.2.1.2.2.2.1 ∧ b ≤ 5 ∧ z ≤ 2 ∧ dr = nI a ∧ nv = nI b ∧ rg = nI z ∧ r = some (.int (qb (decide (px.toInt64 * ((vmean (fun z => vgift S.2.1.1 S.2.2.2.2.1.1.1 S.2.2.2.2.1.1.2.1 S.2.2.2.2.1.1.2.2 (nI S.2.2.2.1.2) a z 0) S.2.1.1 S.2.1.2.2.2.2.2.2.2.1 a z b).2.2.2.2 + (vmean (fun z => vgift S.2.1.1 S.2.2.2.2.1.1.1 S.2.2.2.2.1.1.2.1 S.2.2.2.2.1.1.2.2 (nI S.2.2.2.1.2) a z 0) S.2.1.1 S.2.1.2.2.2.2.2.2.2.1 a z b).2.2.1 * (S.2.1.1 (a * 10 + 9)).toInt64) ≤ (vmean (fun z => vgift S.2.1.1 S.2.2.2.2.1.1.1 S.2.2.2.2.1.1.2.1 S.2.2.2.2.1.1.2.2 (nI S.2.2.2.1.2) a z 0) S.2.1.1 S.2.1.2.2.2.2.2.2.2.1 a z b).2.2.2.1))))) ∧ MG h h' S) ∨ ∃ (k : Nat) (c : Int32), ((k = 0 ∧ c = 1 ∧ ¬ (wi 0 (nI S.2.1.2.2.2.1 - 1) dr = true)) ∨ (k = 1 ∧ c = 2 ∧ (wi 0 (nI S.2.1.2.2.2.1 - 1) dr = true) ∧ ¬ (wi 0 5 nv = true ∧ wi 0 2 rg = true ∧ wi 0 99 px = true))) ∧ (∃ z, r = some (.int z)) ∧ mbad h h' S k c) := by
  refine qSpec_run 12 "pays" false hg mX12_pays_ok rfl rfl (Nat.le_of_ble_eq_true rfl) (by decide) ?_
  intro run step
  refine step.1 _ _ _ _ _ _ _ sgX12_pays_0_ok ?_
  refine ⟨_, hM.1, Nat.le_of_ble_eq_true rfl, rfl, ?_⟩
  have hM0 := hM.p63 (sI_0 (v := 0) (rfl : _ = M63l x y))
  have hR0 : Rel S (upd x 0 0) F := hR.t 0
  have hk0 := kp.rf (h := h) |>.u (k := 63) (e := .inl (12, (M63l x y).set 0 (.int 0))) (by decide) (by decide)
  refine Or.inl ⟨rfl, _, 2, 0, 0, _, _, _, qi_12_343, ⟨rfl, rfl⟩, ⟨hM0.1, rfl⟩, rfl, rfl, M_isDoorU hg hM0 hR0 rfl _ 1 (by decide), fun y8 h8 hy8 => ?_⟩
  rcases hy8 with ⟨hD0, rfl, hb⟩ | ⟨hD0, rfl, hh⟩
  · refine ⟨fun _ => ?_, fun c11 => absurd c11 (by decide)⟩
    refine step.1 _ _ _ _ _ _ _ sgX12_pays_57_ok ?_
    refine ⟨.boolean, rfl, rfl, Nat.le_refl _, Nat.le_refl _, ?_⟩
    exact Or.inr ⟨0, 1, (Or.inl (⟨rfl, rfl, (by rw [hD0]; decide)⟩)), ⟨_, rfl⟩, mbad.l hk0 hb⟩
  · rw [hh]
    clear hh
    refine ⟨fun c11 => absurd c11 (by decide), fun _ => ?_⟩
    refine Or.inl ⟨rfl, _, 1, 0, 0, _, Or.inl qi_12_324, ⟨rfl, rfl⟩, rfl, rfl, M_within hg _ _ _, fun y18 h18 hy18 => ?_⟩
    obtain ⟨rfl, hh⟩ := hy18
    rw [hh]
    clear hh
    refine ⟨fun c21 => ?_, fun c21 => ?_⟩
    · have w21 : (wi 0 5 nv) = false := qb_0.mp c21
      refine step.1 _ _ _ _ _ _ _ sgX12_pays_48_ok ?_
      refine step.1 _ _ _ _ _ _ _ sgX12_pays_49_ok ?_
      refine Or.inl ⟨rfl, _, 1, 0, 0, _, _, _, qi_12_247, ⟨rfl, rfl⟩, ⟨hM0.1, rfl⟩, rfl, rfl, M_mayB hg hM0 hR0 rfl 2 (by decide) 1 (by decide), fun y51 h51 hy51 => ?_⟩
      obtain ⟨rfl, hb⟩ := hy51
      refine ⟨fun c54 => absurd c54 (by decide), fun _ => ?_⟩
      refine step.1 _ _ _ _ _ _ _ sgX12_pays_57_ok ?_
      refine ⟨.boolean, rfl, rfl, Nat.le_refl _, Nat.le_refl _, ?_⟩
      exact Or.inr ⟨1, 2, (Or.inr (⟨rfl, rfl, hD0, (fun z => absurd (z.1) (by rw [w21]; decide))⟩)), ⟨_, rfl⟩, mbad.l hk0 hb⟩
    · have w21 : (wi 0 5 nv) = true := qb_1.mp c21
      refine Or.inl ⟨rfl, _, 1, 0, 0, _, Or.inl qi_12_324, ⟨rfl, rfl⟩, rfl, rfl, M_within hg _ _ _, fun y27 h27 hy27 => ?_⟩
      obtain ⟨rfl, hh⟩ := hy27
      rw [hh]
      clear hh
      refine ⟨fun c30 => ?_, fun c30 => ?_⟩
      · have w30 : (wi 0 2 rg) = false := qb_0.mp c30
        refine step.1 _ _ _ _ _ _ _ sgX12_pays_48_ok ?_
        refine step.1 _ _ _ _ _ _ _ sgX12_pays_49_ok ?_
        refine Or.inl ⟨rfl, _, 1, 0, 0, _, _, _, qi_12_247, ⟨rfl, rfl⟩, ⟨hM0.1, rfl⟩, rfl, rfl, M_mayB hg hM0 hR0 rfl 2 (by decide) 1 (by decide), fun y51 h51 hy51 => ?_⟩
        obtain ⟨rfl, hb⟩ := hy51
        refine ⟨fun c54 => absurd c54 (by decide), fun _ => ?_⟩
        refine step.1 _ _ _ _ _ _ _ sgX12_pays_57_ok ?_
        refine ⟨.boolean, rfl, rfl, Nat.le_refl _, Nat.le_refl _, ?_⟩
        exact Or.inr ⟨1, 2, (Or.inr (⟨rfl, rfl, hD0, (fun z => absurd (z.2.1) (by rw [w30]; decide))⟩)), ⟨_, rfl⟩, mbad.l hk0 hb⟩
      · have w30 : (wi 0 2 rg) = true := qb_1.mp c30
        refine Or.inl ⟨rfl, _, 1, 0, 0, _, Or.inl qi_12_324, ⟨rfl, rfl⟩, rfl, rfl, M_within hg _ _ _, fun y38 h38 hy38 => ?_⟩
        obtain ⟨rfl, hh⟩ := hy38
        rw [hh]
        clear hh
        refine ⟨fun c41 => ?_, fun c41 => ?_⟩
        · have w41 : (wi 0 99 px) = false := qb_0.mp c41
          refine step.1 _ _ _ _ _ _ _ sgX12_pays_48_ok ?_
          refine step.1 _ _ _ _ _ _ _ sgX12_pays_49_ok ?_
          refine Or.inl ⟨rfl, _, 1, 0, 0, _, _, _, qi_12_247, ⟨rfl, rfl⟩, ⟨hM0.1, rfl⟩, rfl, rfl, M_mayB hg hM0 hR0 rfl 2 (by decide) 1 (by decide), fun y51 h51 hy51 => ?_⟩
          obtain ⟨rfl, hb⟩ := hy51
          refine ⟨fun c54 => absurd c54 (by decide), fun _ => ?_⟩
          refine step.1 _ _ _ _ _ _ _ sgX12_pays_57_ok ?_
          refine ⟨.boolean, rfl, rfl, Nat.le_refl _, Nat.le_refl _, ?_⟩
          exact Or.inr ⟨1, 2, (Or.inr (⟨rfl, rfl, hD0, (fun z => absurd (z.2.2) (by rw [w41]; decide))⟩)), ⟨_, rfl⟩, mbad.l hk0 hb⟩
        · have w41 : (wi 0 99 px) = true := qb_1.mp c41
          refine step.1 _ _ _ _ _ _ _ sgX12_pays_49_ok ?_
          refine Or.inl ⟨rfl, _, 1, 0, 0, _, _, _, qi_12_247, ⟨rfl, rfl⟩, ⟨hM0.1, rfl⟩, rfl, rfl, M_may hg hM0.1 rfl _ _, fun y51 h51 hy51 => ?_⟩
          obtain ⟨rfl, hh⟩ := hy51
          rw [hh]
          clear hh
          obtain ⟨a, ha, ea⟩ := wi_lt (by have := hI.1.1; omega) hD0
          obtain ⟨b, hb, eb⟩ := wi_nat (m := 5) (by decide) w21
          obtain ⟨z, hz, ez⟩ := wi_nat (m := 2) (by decide) w30
          refine ⟨fun _ => ?_, fun c54 => absurd c54 (by decide)⟩
          refine step.1 _ _ _ _ _ _ _ sgX12_pays_59_ok ?_
          refine Or.inl ⟨rfl, _, 4, 0, 0, _, _, _, qi_12_385, ⟨rfl, rfl⟩, ⟨hM0.1, rfl⟩, rfl, rfl, (by rw [ea, eb, ez]; exact M_findMeans hg hM0 hR0 hI ha hz hb hI.1.1 hl 0), fun y64 h64 hy64 => ?_⟩
          obtain ⟨rfl, hQ⟩ := hy64
          obtain ⟨x1, y1, F1, hN, m1, m2, m3, m4, m5⟩ := hQ.n
          refine ⟨by decide, _, _, hN.1.1, rfl, ?_⟩
          refine ⟨by decide, _, _, hN.1.1, rfl, ?_⟩
          refine ⟨fun c80 => ?_, fun c80 => ?_⟩
          · have c80 : ¬ (px.toInt64 * ((vmean (fun z => vgift S.2.1.1 S.2.2.2.2.1.1.1 S.2.2.2.2.1.1.2.1 S.2.2.2.2.1.1.2.2 (nI S.2.2.2.1.2) a z 0) S.2.1.1 S.2.1.2.2.2.2.2.2.2.1 a z b).2.2.2.2 + (vmean (fun z => vgift S.2.1.1 S.2.2.2.2.1.1.1 S.2.2.2.2.1.1.2.1 S.2.2.2.2.1.1.2.2 (nI S.2.2.2.1.2) a z 0) S.2.1.1 S.2.1.2.2.2.2.2.2.2.1 a z b).2.2.1 * (S.2.1.1 (a * 10 + 9)).toInt64) ≤ (vmean (fun z => vgift S.2.1.1 S.2.2.2.2.1.1.1 S.2.2.2.2.1.1.2.1 S.2.2.2.2.1.1.2.2 (nI S.2.2.2.1.2) a z 0) S.2.1.1 S.2.1.2.2.2.2.2.2.2.1 a z b).2.2.2.1) := fun q => absurd ((lgc_lt _ _).mp c80) (Int64.not_lt.mpr (by rw [m2, m4]; exact q))
            refine step.1 _ _ _ _ _ _ _ sgX12_pays_87_ok ?_
            refine step.1 _ _ _ _ _ _ _ sgX12_pays_88_ok ?_
            refine ⟨.boolean, rfl, rfl, Nat.le_refl _, Nat.le_refl _, ?_⟩
            exact Or.inl ⟨hD0, ⟨w21, w30, w41⟩, ⟨a, b, z, ha, hb, hz, ea, eb, ez, by rw [decide_eq_false c80]; rfl⟩, hN.mg hk0 hR0 rfl⟩
          · have c80 : (px.toInt64 * ((vmean (fun z => vgift S.2.1.1 S.2.2.2.2.1.1.1 S.2.2.2.2.1.1.2.1 S.2.2.2.2.1.1.2.2 (nI S.2.2.2.1.2) a z 0) S.2.1.1 S.2.1.2.2.2.2.2.2.2.1 a z b).2.2.2.2 + (vmean (fun z => vgift S.2.1.1 S.2.2.2.2.1.1.1 S.2.2.2.2.1.1.2.1 S.2.2.2.2.1.1.2.2 (nI S.2.2.2.1.2) a z 0) S.2.1.1 S.2.1.2.2.2.2.2.2.2.1 a z b).2.2.1 * (S.2.1.1 (a * 10 + 9)).toInt64) ≤ (vmean (fun z => vgift S.2.1.1 S.2.2.2.2.1.1.1 S.2.2.2.2.1.1.2.1 S.2.2.2.2.1.1.2.2 (nI S.2.2.2.1.2) a z 0) S.2.1.1 S.2.1.2.2.2.2.2.2.2.1 a z b).2.2.2.1) := Int64.not_lt.mp (fun q => c80 ((lgc_lt _ _).mpr (by rw [m2, m4]; exact q)))
            refine step.1 _ _ _ _ _ _ _ sgX12_pays_88_ok ?_
            refine ⟨.boolean, rfl, rfl, Nat.le_refl _, Nat.le_refl _, ?_⟩
            exact Or.inl ⟨hD0, ⟨w21, w30, w41⟩, ⟨a, b, z, ha, hb, hz, ea, eb, ez, by rw [decide_eq_true c80]; rfl⟩, hN.mg hk0 hR0 rfl⟩
end Q11I
