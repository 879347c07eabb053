section Q08A
def isdg (c : Int32) : Bool := decide (48 ≤ c) && decide (c ≤ 57)
def islt (c : Int32) : Bool := decide (97 ≤ c) && decide (c ≤ 122)
def vcap (v c : Int32) : Int32 := if v * 10 + c - 48 ≤ 100000 then v * 10 + c - 48 else 100000
/-- digits on end: where they stop, and what they come to -/
def nrun (F : Nat → Int32) (n : Nat) : Nat → Nat → Int32 → Nat × Int32
  | 0, q, v => (q, v)
  | m + 1, q, v => if isdg (tby F n q) then nrun F n m (q + 1) (vcap v (tby F n q)) else (q, v)
/-- fault and answer of number() -/
def tnk (lo hi ki : Int32) (q : Nat) (r : Nat × Int32) : Int32 := if r.2 < lo ∨ hi < r.2 then (if (if r.1 = q then (if ki = 0 then 1 else ki) else ki) = 0 then 2 else (if r.1 = q then (if ki = 0 then 1 else ki) else ki)) else (if r.1 = q then (if ki = 0 then 1 else ki) else ki)
def tnp (lo hi ki pl : Int32) (q : Nat) (r : Nat × Int32) : Int32 := if r.2 < lo ∨ hi < r.2 then (if (if r.1 = q then (if ki = 0 then 1 else ki) else ki) = 0 then nI q else (if r.1 = q then (if ki = 0 then nI q else pl) else pl)) else (if r.1 = q then (if ki = 0 then nI q else pl) else pl)
theorem nrun_le (F : Nat → Int32) (n : Nat) : ∀ (m q : Nat) (v : Int32), q ≤ (nrun F n m q v).1 ∧ (nrun F n m q v).1 ≤ q + m
  | 0, q, v => ⟨Nat.le_refl _, Nat.le_refl _⟩
  | m + 1, q, v => by
    unfold nrun
    split
    · have := nrun_le F n m (q + 1) (vcap v (tby F n q)); omega
    · exact ⟨Nat.le_refl _, Nat.le_add_right _ _⟩
theorem tby_end {F : Nat → Int32} {n i : Nat} (h : n ≤ i) : tby F n i = -1 := if_neg (by omega)
theorem nrun_end {F : Nat → Int32} {n q : Nat} (h : n ≤ q) (m : Nat) (v : Int32) : nrun F n m q v = (q, v) := by
  cases m with
  | zero => rfl
  | succ m => rw [nrun, tby_end h]; rfl
theorem T_number {g : qG} (hg : qOK g) {h : qH} {t b n p : Nat} {F : Nat → Int32} {he fr ki pl : Int32} (hT : isT h t b F he (nI n) (nI p) fr ki pl) (hn : n ≤ 600) (hp : p ≤ n) (lo hi : Int32) : qSpec g 3 0 0 mX8_number [.ref t, .int lo, .int hi] h (fun r h' => r = some (.int (if tnk lo hi ki (skp F n (n - p) p) (nrun F n (n - (skp F n (n - p) p)) (skp F n (n - p) p) 0) = 0 then (nrun F n (n - (skp F n (n - p) p)) (skp F n (n - p) p) 0).2 else 0)) ∧ h' = sT h t b he (nI n) (nI (nrun F n (n - (skp F n (n - p) p)) (skp F n (n - p) p) 0).1) (nI (skp F n (n - p) p)) (tnk lo hi ki (skp F n (n - p) p) (nrun F n (n - (skp F n (n - p) p)) (skp F n (n - p) p) 0)) (tnp lo hi ki pl (skp F n (n - p) p) (nrun F n (n - (skp F n (n - p) p)) (skp F n (n - p) p) 0))) := by
  refine qSpec_run 8 "number" false hg mX8_number_ok rfl rfl (Nat.le_of_ble_eq_true rfl) (by decide) ?_
  intro run step
  have hb := skp_le F n (n - p) p
  have c133 : ∀ (k2 p2 : Int32) (hX : qH) (v ii cc : Int32) (q : Nat), isT hX t b F he (nI n) (nI q) (nI (skp F n (n - p) p)) k2 p2 → hX = sT h t b he (nI n) (nI q) (nI (skp F n (n - p) p)) k2 p2 → (q, v) = (nrun F n (n - (skp F n (n - p) p)) (skp F n (n - p) p) 0) → k2 = (tnk lo hi ki (skp F n (n - p) p) (nrun F n (n - (skp F n (n - p) p)) (skp F n (n - p) p) 0)) → p2 = (tnp lo hi ki pl (skp F n (n - p) p) (nrun F n (n - (skp F n (n - p) p)) (skp F n (n - p) p) 0)) → run 133 [(5, .int ii), (4, .int v), (3, .int cc), (0, .ref t), (1, .int lo), (2, .int hi)] [] hX 0 0 := by
    intro k2 p2 hX v ii cc q hTX hhX hre hk hp2
    have hq : q = (nrun F n (n - (skp F n (n - p) p)) (skp F n (n - p) p) 0).1 := congrArg Prod.fst hre
    have hv : v = (nrun F n (n - (skp F n (n - p) p)) (skp F n (n - p) p) 0).2 := congrArg Prod.snd hre
    rw [← hq, ← hv, ← hk, ← hp2] at step
    refine step.1 _ _ _ _ _ _ _ sgX8_number_133_ok ?_
    refine ⟨by decide, _, _, hTX.1, rfl, ?_⟩
    refine ⟨fun c137 => ?_, fun c137 => ?_⟩
    · have c137 : ¬ k2 = 0 := c137
      refine step.1 _ _ _ _ _ _ _ sgX8_number_145_ok ?_
      refine step.1 _ _ _ _ _ _ _ sgX8_number_146_ok ?_
      refine ⟨.int, rfl, rfl, Nat.le_refl _, Nat.le_refl _, ?_⟩
      exact ⟨by rw [if_neg c137], hhX⟩
    · have c137 : k2 = 0 := c137
      refine step.1 _ _ _ _ _ _ _ sgX8_number_146_ok ?_
      refine ⟨.int, rfl, rfl, Nat.le_refl _, Nat.le_refl _, ?_⟩
      exact ⟨by rw [if_pos c137], hhX⟩
  have c112 : ∀ (k1 p1 : Int32) (hX : qH) (v ii cc : Int32) (q : Nat), q ≤ n → (q, v) = (nrun F n (n - (skp F n (n - p) p)) (skp F n (n - p) p) 0) → isT hX t b F he (nI n) (nI q) (nI (skp F n (n - p) p)) k1 p1 → hX = sT h t b he (nI n) (nI q) (nI (skp F n (n - p) p)) k1 p1 → k1 = (if q = (skp F n (n - p) p) then (if ki = 0 then 1 else ki) else ki) → p1 = (if q = (skp F n (n - p) p) then (if ki = 0 then nI (skp F n (n - p) p) else pl) else pl) → run 112 [(5, .int ii), (4, .int v), (3, .int cc), (0, .ref t), (1, .int lo), (2, .int hi)] [] hX 0 0 := by
    intro k1 p1 hX v ii cc q hqn hre hTX hhX hk1 hp1
    have hk : (if v < lo ∨ hi < v then (if k1 = 0 then 2 else k1) else k1) = (tnk lo hi ki (skp F n (n - p) p) (nrun F n (n - (skp F n (n - p) p)) (skp F n (n - p) p) 0)) := by rw [← hre, hk1]; rfl
    have hp2 : (if v < lo ∨ hi < v then (if k1 = 0 then nI (skp F n (n - p) p) else p1) else p1) = (tnp lo hi ki pl (skp F n (n - p) p) (nrun F n (n - (skp F n (n - p) p)) (skp F n (n - p) p) 0)) := by rw [← hre, hp1, hk1]; rfl
    refine step.1 _ _ _ _ _ _ _ sgX8_number_112_ok ?_
    refine ⟨fun c115 => ?_, fun c115 => ?_⟩
    · have c115 : v < lo := c115
      refine step.1 _ _ _ _ _ _ _ sgX8_number_124_ok ?_
      refine ⟨by decide, _, _, hTX.1, rfl, ?_⟩
      refine Or.inl ⟨rfl, _, 1, 0, 0, _, _, _, qi_8_39, ⟨rfl, rfl⟩, ⟨hTX.1, rfl⟩, rfl, rfl, T_fail hg hTX 2 _, fun y130 h130 hy130 => ?_⟩
      obtain ⟨rfl, hh⟩ := hy130
      subst hh
      have hT9 := hTX.set he (nI n) (nI q) (nI (skp F n (n - p) p)) (if k1 = 0 then 2 else k1) (if k1 = 0 then nI (skp F n (n - p) p) else p1)
      exact c133 _ _ _ v ii cc q hT9 (by rw [hhX, sT_sT]) hre (by rw [← hk, if_pos (Or.inl c115)]) (by rw [← hp2, if_pos (Or.inl c115)])
    · have c115 : ¬ v < lo := c115
      refine ⟨fun c121 => ?_, fun c121 => ?_⟩
      · have c121 : v ≤ hi := c121
        exact c133 _ _ _ v ii cc q hTX hhX hre (by rw [← hk, if_neg (fun z => z.elim c115 (fun z => Int32.not_lt.mpr c121 z))]) (by rw [← hp2, if_neg (fun z => z.elim c115 (fun z => Int32.not_lt.mpr c121 z))])
      · have c121 : ¬ v ≤ hi := c121
        refine step.1 _ _ _ _ _ _ _ sgX8_number_124_ok ?_
        refine ⟨by decide, _, _, hTX.1, rfl, ?_⟩
        refine Or.inl ⟨rfl, _, 1, 0, 0, _, _, _, qi_8_39, ⟨rfl, rfl⟩, ⟨hTX.1, rfl⟩, rfl, rfl, T_fail hg hTX 2 _, fun y130 h130 hy130 => ?_⟩
        obtain ⟨rfl, hh⟩ := hy130
        subst hh
        have hT9 := hTX.set he (nI n) (nI q) (nI (skp F n (n - p) p)) (if k1 = 0 then 2 else k1) (if k1 = 0 then nI (skp F n (n - p) p) else p1)
        exact c133 _ _ _ v ii cc q hT9 (by rw [hhX, sT_sT]) hre (by rw [← hk, if_pos (Or.inr (Int32.not_le.mp c121))]) (by rw [← hp2, if_pos (Or.inr (Int32.not_le.mp c121))])
  have c92 : ∀ (q : Nat) (v : Int32) (hX : qH) (ii cc : Int32), (q, v) = (nrun F n (n - (skp F n (n - p) p)) (skp F n (n - p) p) 0) → q ≤ n → isT hX t b F he (nI n) (nI q) (nI (skp F n (n - p) p)) ki pl → hX = sT h t b he (nI n) (nI q) (nI (skp F n (n - p) p)) ki pl → run 92 [(5, .int ii), (4, .int v), (3, .int cc), (0, .ref t), (1, .int lo), (2, .int hi)] [] hX 0 0 := by
    intro q v hX ii cc hre hqn hTX hhX
    refine step.1 _ _ _ _ _ _ _ sgX8_number_92_ok ?_
    refine ⟨by decide, _, _, hTX.1, rfl, ?_⟩
    refine ⟨by decide, _, _, hTX.1, rfl, ?_⟩
    refine ⟨fun c100 => ?_, fun c100 => ?_⟩
    · have c100 : ¬ q = (skp F n (n - p) p) := fun z => c100 (congrArg nI z)
      exact c112 _ _ _ v ii cc q hqn hre hTX hhX (by rw [if_neg c100]) (by rw [if_neg c100])
    · have c100 : q = (skp F n (n - p) p) := (nI_eq (by omega) (by omega)).mp c100
      refine ⟨by decide, _, _, hTX.1, rfl, ?_⟩
      refine Or.inl ⟨rfl, _, 1, 0, 0, _, _, _, qi_8_39, ⟨rfl, rfl⟩, ⟨hTX.1, rfl⟩, rfl, rfl, T_fail hg hTX 1 _, fun y109 h109 hy109 => ?_⟩
      obtain ⟨rfl, hh⟩ := hy109
      subst hh
      have hT9 := hTX.set he (nI n) (nI q) (nI (skp F n (n - p) p)) (if ki = 0 then 1 else ki) (if ki = 0 then nI (skp F n (n - p) p) else pl)
      exact c112 _ _ _ v ii cc q hqn hre hT9 (by rw [hhX, sT_sT]) (by rw [if_pos c100]) (by rw [if_pos c100])
  have loop : ∀ (m i q : Nat) (v : Int32) (hX : qH), n - q = m → i ≤ q → q ≤ n → nrun F n m q v = (nrun F n (n - (skp F n (n - p) p)) (skp F n (n - p) p) 0) → isT hX t b F he (nI n) (nI q) (nI (skp F n (n - p) p)) ki pl → hX = sT h t b he (nI n) (nI q) (nI (skp F n (n - p) p)) ki pl → run 19 [(5, .int (nI i)), (4, .int v), (3, .int (tby F n q)), (0, .ref t), (1, .int lo), (2, .int hi)] [] hX 0 0 := by
    intro m
    induction m with
    | zero =>
      intro i q v hX hm hii hqn hst hTX hhX
      refine step.1 _ _ _ _ _ _ _ sgX8_number_19_ok ?_
      refine ⟨fun c24 => ?_, fun c24 => ?_⟩
      · exact c92 q v hX (nI i) (tby F n q) (by rw [← hst]; rfl) hqn hTX hhX
      · refine ⟨fun c30 => ?_, fun c30 => ?_⟩
        · exact c92 q v hX (nI i) (tby F n q) (by rw [← hst]; rfl) hqn hTX hhX
        · have c30 : ¬ tby F n q < 48 := c30
          rw [tby_end (by omega)] at c30
          exact absurd (by decide : (-1 : Int32) < 48) c30
    | succ m ih =>
      intro i q v hX hm hii hqn hst hTX hhX
      refine step.1 _ _ _ _ _ _ _ sgX8_number_19_ok ?_
      refine ⟨fun c24 => absurd c24 (h_nle (b := 600) (by omega) (by decide)), fun c24 => ?_⟩
      refine ⟨fun c30 => ?_, fun c30 => ?_⟩
      · have c30 : tby F n q < 48 := c30
        exact c92 q v hX (nI i) (tby F n q) (by rw [← hst, nrun, show isdg (tby F n q) = false from by unfold isdg; rw [decide_eq_false (p := (48 : Int32) ≤ tby F n q) (Int32.not_le.mpr c30)]; rfl]; rfl) hqn hTX hhX
      · have c30 : ¬ tby F n q < 48 := c30
        refine ⟨fun c36 => ?_, fun c36 => ?_⟩
        · have c36 : 57 < tby F n q := c36
          exact c92 q v hX (nI i) (tby F n q) (by rw [← hst, nrun, show isdg (tby F n q) = false from by unfold isdg; rw [decide_eq_false (p := tby F n q ≤ 57) (Int32.not_le.mpr c36), Bool.and_false]]; rfl) hqn hTX hhX
        · have c36 : ¬ 57 < tby F n q := c36
          have hdg : isdg (tby F n q) = true := by unfold isdg; rw [decide_eq_true (Int32.not_lt.mp c30), decide_eq_true (Int32.not_lt.mp c36)]; rfl
          have hst : nrun F n m (q + 1) (vcap v (tby F n q)) = (nrun F n (n - (skp F n (n - p) p)) (skp F n (n - p) p) 0) := by rw [← hst, nrun, if_pos hdg]
          refine Or.inr ⟨by decide, ?_⟩
          refine ⟨fun c55 => ?_, fun c55 => ?_⟩
          · have c55 : v * 10 + tby F n q - 48 ≤ 100000 := c55
            have eV : vcap v (tby F n q) = v * 10 + tby F n q - 48 := if_pos c55
            refine step.1 _ _ _ _ _ _ _ sgX8_number_63_ok ?_
            refine step.1 _ _ _ _ _ _ _ sgX8_number_65_ok ?_
            refine ⟨rfl, ?_⟩
            refine ⟨by decide, _, _, hTX.1, rfl, ?_⟩
            refine ⟨_, hTX.1, Nat.le_of_ble_eq_true rfl, rfl, ?_⟩
            have hT9 := hTX.set he (nI n) (nI q + 1) (nI (skp F n (n - p) p)) ki pl
            refine ⟨by decide, _, _, hT9.1, rfl, ?_⟩
            refine Or.inl ⟨rfl, _, 1, 0, 0, _, _, _, qi_8_31, ⟨rfl, rfl⟩, ⟨hT9.1, rfl⟩, rfl, rfl, (by have z := T_byteAt hg hT9 hn (q + 1) (by omega); rw [← nI_1] at z; exact z), fun y82 h82 hy82 => ?_⟩
            obtain ⟨rfl, hh⟩ := hy82
            refine step.2 _ _ _ _ _ _ _ (qsub_cons 0 rfl (qsub_cons 2 rfl (qsub_cons 1 rfl (qsub_cons 3 rfl (qsub_cons 4 rfl (qsub_cons 5 rfl qsub_nil)))))) ?_
            subst hh
            have kk2 := ih (i + 1) (q + 1) (vcap v (tby F n q)) (sT hX t b he (nI n) (nI (q + 1)) (nI (skp F n (n - p) p)) ki pl) (by omega) (by omega) (by omega) hst (hTX.set _ _ _ _ _ _) (by rw [hhX, sT_sT])
            rw [eV, ← nI_1, ← nI_1] at kk2
            exact kk2
          · have c55 : ¬ v * 10 + tby F n q - 48 ≤ 100000 := c55
            have eV : vcap v (tby F n q) = 100000 := if_neg c55
            refine Or.inr ⟨by decide, ?_⟩
            refine step.1 _ _ _ _ _ _ _ sgX8_number_65_ok ?_
            refine ⟨rfl, ?_⟩
            refine ⟨by decide, _, _, hTX.1, rfl, ?_⟩
            refine ⟨_, hTX.1, Nat.le_of_ble_eq_true rfl, rfl, ?_⟩
            have hT9 := hTX.set he (nI n) (nI q + 1) (nI (skp F n (n - p) p)) ki pl
            refine ⟨by decide, _, _, hT9.1, rfl, ?_⟩
            refine Or.inl ⟨rfl, _, 1, 0, 0, _, _, _, qi_8_31, ⟨rfl, rfl⟩, ⟨hT9.1, rfl⟩, rfl, rfl, (by have z := T_byteAt hg hT9 hn (q + 1) (by omega); rw [← nI_1] at z; exact z), fun y82 h82 hy82 => ?_⟩
            obtain ⟨rfl, hh⟩ := hy82
            refine step.2 _ _ _ _ _ _ _ (qsub_cons 0 rfl (qsub_cons 2 rfl (qsub_cons 1 rfl (qsub_cons 3 rfl (qsub_cons 4 rfl (qsub_cons 5 rfl qsub_nil)))))) ?_
            subst hh
            have kk2 := ih (i + 1) (q + 1) (vcap v (tby F n q)) (sT hX t b he (nI n) (nI (q + 1)) (nI (skp F n (n - p) p)) ki pl) (by omega) (by omega) (by omega) hst (hTX.set _ _ _ _ _ _) (by rw [hhX, sT_sT])
            rw [eV, ← nI_1, ← nI_1] at kk2
            exact kk2
  refine step.1 _ _ _ _ _ _ _ sgX8_number_0_ok ?_
  refine Or.inl ⟨rfl, _, 2, 0, 0, _, _, _, qi_8_35, ⟨rfl, rfl⟩, ⟨hT.1, rfl⟩, rfl, rfl, T_look hg hT hn (by omega), fun y1 h1 hy1 => ?_⟩
  obtain ⟨rfl, rfl⟩ := hy1
  have hb := skp_le F n (n - p) p
  have hT1 := hT.set he (nI n) (nI (skp F n (n - p) p)) fr ki pl
  refine ⟨by decide, _, _, hT1.1, rfl, ?_⟩
  refine ⟨_, hT1.1, Nat.le_of_ble_eq_true rfl, rfl, ?_⟩
  have hfin : sT (sT h t b he (nI n) (nI (skp F n (n - p) p)) fr ki pl) t b he (nI n) (nI (skp F n (n - p) p)) (nI (skp F n (n - p) p)) ki pl = sT h t b he (nI n) (nI (skp F n (n - p) p)) (nI (skp F n (n - p) p)) ki pl := sT_sT
  have kk2 := loop (n - (skp F n (n - p) p)) 0 (skp F n (n - p) p) 0 (sT h t b he (nI n) (nI (skp F n (n - p) p)) (nI (skp F n (n - p) p)) ki pl) rfl (by omega) (by omega) rfl (hT.set _ _ _ _ _ _) rfl
  rw [← hfin] at kk2
  exact kk2
end Q08A
