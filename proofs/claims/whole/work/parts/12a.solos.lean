section Q12A
/-- what a line's joy is, as a number -/
def lJ (D K V : Nat → Int32) (N : Nat) (m ve : Int32) (pf vf rf : Nat → Nat) (l : Nat) : Nat := ((lmean D K V N m ve pf vf rf l).2.2.1 * (D (pf l * 10 + 2)).toInt64).toNatClampNeg
theorem lJ_e {R : RT} (hR : ROK R) {pf vf rf : Nat → Nat} (hP : isP R.2.1 R.2.2.2.2.1 pf vf rf) (hpn : ∀ i : Nat, i < R.2.2.2.2.1 → pf i < R.2.2.2.1) (K V : Nat → Int32) (N : Nat) (m : Int32) {l : Nat} (hl : l < R.2.2.2.2.1) : (lmean R.1 K V N m R.2.2.2.2.2.2.2.1 pf vf rf l).2.2.1 * (R.1 (pf l * 10 + 2)).toInt64 = Int64.ofNat (lJ R.1 K V N m R.2.2.2.2.2.2.2.1 pf vf rf l) ∧ lJ R.1 K V N m R.2.2.2.2.2.2.2.1 pf vf rf l < 2 ^ 40 := by
  obtain ⟨C, Pn, T, h1, h2, h3, e1, e2, e3⟩ := vm_nat (G := fun z => vgift R.1 K V N m (pf l) z (nI l)) (r := rf l) hR (hpn l hl) (hP l hl).2.1.2 (fun z => vgift_b hR (hpn l hl) K V N m z (nI l))
  obtain ⟨j, hj, ej⟩ := hR.d (hpn l hl) (f := 2) (by decide)
  have hj : j ≤ 99 := hj
  have hcj : C * j ≤ 2 ^ 28 * 99 := Nat.mul_le_mul h1 hj
  have e : (lmean R.1 K V N m R.2.2.2.2.2.2.2.1 pf vf rf l).2.2.1 * (R.1 (pf l * 10 + 2)).toInt64 = Int64.ofNat (C * j) := by
    rw [show (lmean R.1 K V N m R.2.2.2.2.2.2.2.1 pf vf rf l).2.2.1 = Int64.ofNat C from e1, ej, l_n (by omega), ← Int64.ofNat_mul]
  have e2 : (Int64.ofNat (C * j)).toNatClampNeg = C * j := by
    show (Int64.ofNat (C * j)).toInt.toNat = _
    rw [Int64.toInt_ofNat_of_lt (by omega)]; rfl
  unfold lJ
  rw [e, e2]
  exact ⟨rfl, by omega⟩
theorem sstep_0 {p V : Nat → Nat} {k many S : Nat} (h : sones k S = many) : sstep p V k many S none = some (msk (tl2 p S k) 10, sm V (tl2 p S k) 10) := by
  unfold sstep
  rw [if_pos h]; rfl
theorem sstep_k {p V : Nat → Nat} {k many S : Nat} {c : Nat × Nat} (h : sones k S = many) (hc : sm V (tl2 p S k) 10 < c.2 ∨ (sm V (tl2 p S k) 10 = c.2 ∧ c.1 < msk (tl2 p S k) 10)) : sstep p V k many S (some c) = some c := by
  unfold sstep
  rw [if_pos h]
  exact if_pos hc
theorem sstep_n {p V : Nat → Nat} {k many S : Nat} {c : Nat × Nat} (h : sones k S = many) (hc : ¬ (sm V (tl2 p S k) 10 < c.2 ∨ (sm V (tl2 p S k) 10 = c.2 ∧ c.1 < msk (tl2 p S k) 10))) : sstep p V k many S (some c) = some (msk (tl2 p S k) 10, sm V (tl2 p S k) 10) := by
  unfold sstep
  rw [if_pos h]
  exact if_neg hc
theorem tl2_0 (p : Nat → Nat) (S : Nat) (V : Nat → Nat) : sm V (tl2 p S 0) 10 = 0 := by
  have h : ∀ n : Nat, sm V (tl2 p S 0) n = 0 := by
    intro n
    induction n with
    | zero => rfl
    | succ n ih => show sm V (tl2 p S 0) n + 0 = 0; rw [ih]
  exact h 10
theorem tl2_0m (p : Nat → Nat) (S : Nat) : msk (tl2 p S 0) 10 = 0 := by rw [msk_sm, tl2_0]
theorem lt_n1 {a b : Nat} (ha : a < 2 ^ 50) (hb : b < 2 ^ 50) (h : Int64.ofNat a < Int64.ofNat b) : a < b := (Int64.ofNat_lt_iff_lt (by omega) (by omega)).mp h
theorem lt_n2 {a b : Nat} (ha : a < 2 ^ 50) (hb : b < 2 ^ 50) (h : a < b) : Int64.ofNat a < Int64.ofNat b := (Int64.ofNat_lt_iff_lt (by omega) (by omega)).mpr h
theorem eq_n1 {a b : Nat} (ha : a < 2 ^ 50) (hb : b < 2 ^ 50) (h : Int64.ofNat a = Int64.ofNat b) : a = b := by
  have h2 := congrArg Int64.toInt h
  rw [Int64.toInt_ofNat_of_lt (by omega), Int64.toInt_ofNat_of_lt (by omega)] at h2
  omega
theorem so_b (b : Nat) : sones 10 b ≤ 10 := by
  have h : ∀ n : Nat, sm (fun _ => 1) (fun l => b.testBit l) n ≤ n := by
    intro n
    induction n with
    | zero => exact Nat.le_refl _
    | succ n ih =>
      show sm (fun _ => 1) (fun l => b.testBit l) n + (if b.testBit n = true then 1 else 0) ≤ n + 1
      split <;> omega
  exact h 10
theorem sm_50 {V : Nat → Nat} {T : Nat → Bool} (hV : ∀ d : Nat, V d < 2 ^ 40) : sm V T 10 < 2 ^ 50 := by
  have hs : ∀ n : Nat, sm V T n ≤ n * 2 ^ 40 := by
    intro n
    induction n with
    | zero => exact Nat.zero_le _
    | succ n ih =>
      have h2 := hV n
      show sm V T n + (if T n = true then V n else 0) ≤ (n + 1) * 2 ^ 40
      have h3 : (if T n = true then V n else 0) ≤ 2 ^ 40 := by
        by_cases c : T n = true
        · rw [if_pos c]; exact Nat.le_of_lt h2
        · rw [if_neg c]; exact Nat.zero_le _
      rw [Nat.succ_mul]
      exact Nat.add_le_add ih h3
  have := hs 10
  omega
set_option maxHeartbeats 4000000 in
theorem M_findSolos {g : qG} (hg : qOK g) {h : qH} {x : Nat → Int32} {y : Nat → Int64} {F : Nat → Nat → Int32} {G : Nat → Nat → Int64} (hM : MX h x y F G) {S : CS} (hR : Rel S x F) {pf vf rf : Nat → Nat} (hP : isP S.2.1.2.1 S.2.1.2.2.2.2.1 pf vf rf) (hI : ROK S.2.1) (hpn : ∀ i : Nat, i < S.2.1.2.2.2.2.1 → pf i < S.2.1.2.2.2.1) (hinj : ∀ i j : Nat, i < S.2.1.2.2.2.2.1 → j < S.2.1.2.2.2.2.1 → pf i = pf j → i = j) (hl : lwf S.2.2.2.2.1.1) (hQ : QOK S.2.2.2.1.1 S.2.2.2.1.2) {so : Nat} (hso : csol S.2.2.2.1.1 0 S.2.2.2.1.2 0 = nI so) (h72 : so ≤ 72) : qSpec g 6 0 0 mX12_findSolos [.ref 63] h (fun r h' => r = none ∧ ∃ (x' : Nat → Int32) (y' : Nat → Int64) (F' : Nat → Nat → Int32), QZ h h' x F G x' y' F' ∧ stv (sfold pf (vl pf (lJ S.2.1.1 S.2.2.2.2.1.1.1 S.2.2.2.2.1.1.2.1 S.2.2.2.2.1.1.2.2 (nI S.2.2.2.1.2) S.2.1.2.2.2.2.2.2.2.1 pf vf rf) S.2.1.2.2.2.2.1) S.2.1.2.2.2.2.1 (min so S.2.1.2.2.2.2.1) (2 ^ S.2.1.2.2.2.2.1) 0 none) (x' 53) (y' 54)) := by
  refine qSpec_run 12 "findSolos" false hg mX12_findSolos_ok rfl rfl (Nat.le_of_ble_eq_true rfl) (by decide) ?_
  intro run step
  have hk := hI.1.2.1
  have hM8 := hQ.1
  have hn10 := hI.1.1
  have hp10 : (2 : Nat) ^ S.2.1.2.2.2.2.1 ≤ 2 ^ 10 := Nat.pow_le_pow_right (by decide) hk
  have loop : ∀ (mn : Nat), mn = min so S.2.1.2.2.2.2.1 → ∀ (m i : Nat) (st : Option (Nat × Nat)) (hZ : qH) (xX : Nat → Int32) (yX : Nat → Int64) (FX : Nat → Nat → Int32), i + m = 2 ^ S.2.1.2.2.2.2.1 → QZ h hZ x F G xX yX FX → stv st (xX 53) (yX 54) → sfold pf (vl pf (lJ S.2.1.1 S.2.2.2.2.1.1.1 S.2.2.2.2.1.1.2.1 S.2.2.2.2.1.1.2.2 (nI S.2.2.2.1.2) S.2.1.2.2.2.2.2.2.2.1 pf vf rf) S.2.1.2.2.2.2.1) S.2.1.2.2.2.2.1 mn m i st = sfold pf (vl pf (lJ S.2.1.1 S.2.2.2.2.1.1.1 S.2.2.2.2.1.1.2.1 S.2.2.2.2.1.1.2.2 (nI S.2.2.2.1.2) S.2.1.2.2.2.2.2.2.2.1 pf vf rf) S.2.1.2.2.2.2.1) S.2.1.2.2.2.2.1 mn (2 ^ S.2.1.2.2.2.2.1) 0 none → run 60 [(2, .int (nI i)), (1, .int (nI mn)), (0, .ref 63)] [] hZ 0 0 := by
    intro mn hmE m
    have hmn : mn ≤ S.2.1.2.2.2.2.1 := by omega
    induction m with
    | zero =>
      intro i st hZ xX yX FX hi hX hst hres
      have e36 : xX 36 = nI S.2.1.2.2.2.2.1 := (hX.R hR).1.2.2.2.2.2.2.2.1
      have epow : (1 : Int32) <<< (xX 36 &&& 31) = nI (2 ^ S.2.1.2.2.2.2.1) := by rw [e36]; exact b_shl (by omega)
      refine step.1 _ _ _ _ _ _ _ sgX12_findSolos_60_ok ?_
      refine ⟨by decide, _, _, hX.1.1, rfl, ?_⟩
      refine ⟨fun c67 => ?_, fun c67 => absurd (show (1 : Int32) <<< (xX 36 &&& 31) ≤ nI i from by rw [epow]; exact nI_le (by omega) (by omega)) c67⟩
      
      refine step.1 _ _ _ _ _ _ _ sgX12_findSolos_202_ok ?_
      refine ⟨rfl, Nat.le_refl _, Nat.le_refl _, ?_⟩
      exact ⟨rfl, xX, yX, FX, hX, by rw [← hmE, ← hres]; exact hst⟩
    | succ m ih =>
      intro i st hZ xX yX FX hi hX hst hres
      have inner : sones S.2.1.2.2.2.2.1 i = mn → ∀ (q l : Nat) (hZ : qH) (xX : Nat → Int32) (yX : Nat → Int64) (FX : Nat → Nat → Int32), l + q = S.2.1.2.2.2.2.1 → QZ h hZ x F G xX yX FX → stv st (xX 53) (yX 54) → run 90 [(6, .int (nI l)), (4, .long (Int64.ofNat (sm (vl pf (lJ S.2.1.1 S.2.2.2.2.1.1.1 S.2.2.2.2.1.1.2.1 S.2.2.2.2.1.1.2.2 (nI S.2.2.2.1.2) S.2.1.2.2.2.2.2.2.2.1 pf vf rf) S.2.1.2.2.2.2.1) (tl2 pf i l) 10))), (3, .int (nI (msk (tl2 pf i l) 10))), (2, .int (nI i)), (1, .int (nI mn)), (0, .ref 63)] [] hZ 0 0 := by
        intro hone q
        have hcb : (msk (tl2 pf i S.2.1.2.2.2.2.1) 10) < 2 ^ 10 := msk_lt _ 10
        have hcs : (sm (vl pf (lJ S.2.1.1 S.2.2.2.2.1.1.1 S.2.2.2.2.1.1.2.1 S.2.2.2.2.1.1.2.2 (nI S.2.2.2.1.2) S.2.1.2.2.2.2.2.2.2.1 pf vf rf) S.2.1.2.2.2.2.1) (tl2 pf i S.2.1.2.2.2.2.1) 10) < 2 ^ 50 := sm_50 (vl_b (by decide) S.2.1.2.2.2.2.1 (fun q hq => (lJ_e hI hP hpn S.2.2.2.2.1.1.1 S.2.2.2.2.1.1.2.1 S.2.2.2.2.1.1.2.2 (nI S.2.2.2.1.2) (l := q) hq).2))
        have at146 : ∀ (hZ : qH) (xX : Nat → Int32) (yX : Nat → Int64) (FX : Nat → Nat → Int32), QZ h hZ x F G xX yX FX → stv st (xX 53) (yX 54) → run 146 [(6, .int (nI S.2.1.2.2.2.2.1)), (4, .long (Int64.ofNat (sm (vl pf (lJ S.2.1.1 S.2.2.2.2.1.1.1 S.2.2.2.2.1.1.2.1 S.2.2.2.2.1.1.2.2 (nI S.2.2.2.1.2) S.2.1.2.2.2.2.2.2.2.1 pf vf rf) S.2.1.2.2.2.2.1) (tl2 pf i S.2.1.2.2.2.2.1) 10))), (3, .int (nI (msk (tl2 pf i S.2.1.2.2.2.2.1) 10))), (2, .int (nI i)), (1, .int (nI mn)), (0, .ref 63)] [] hZ 0 0 := by
          intro hZ xX yX FX hX hst
          cases hst0 : st with
          | none =>
            have hstn := hst0
            rw [hstn] at hst
            refine step.1 _ _ _ _ _ _ _ sgX12_findSolos_146_ok ?_
            refine ⟨by decide, _, _, hX.1.1, rfl, ?_⟩
            refine ⟨fun c151 => ?_, fun c151 => absurd hst.1 c151⟩
          
            refine step.1 _ _ _ _ _ _ _ sgX12_findSolos_185_ok ?_
            refine ⟨_, hX.1.1, Nat.le_of_ble_eq_true rfl, rfl, ?_⟩
            refine ⟨_, rfl, Nat.le_of_ble_eq_true rfl, rfl, ?_⟩
            refine step.1 _ _ _ _ _ _ _ sgX12_findSolos_196_ok ?_
            refine step.2 _ _ _ _ _ _ _ (qsub_cons 0 rfl (qsub_cons 4 rfl (qsub_cons 5 rfl qsub_nil))) ?_
            have kk := fun hZ => ih (i + 1) (sstep pf (vl pf (lJ S.2.1.1 S.2.2.2.2.1.1.1 S.2.2.2.2.1.1.2.1 S.2.2.2.2.1.1.2.2 (nI S.2.2.2.1.2) S.2.1.2.2.2.2.2.2.2.1 pf vf rf) S.2.1.2.2.2.2.1) S.2.1.2.2.2.2.1 mn i st) hZ (upd xX 53 (nI (msk (tl2 pf i S.2.1.2.2.2.2.1) 10))) (updL yX 54 (Int64.ofNat (sm (vl pf (lJ S.2.1.1 S.2.2.2.2.1.1.1 S.2.2.2.2.1.1.2.1 S.2.2.2.2.1.1.2.2 (nI S.2.2.2.1.2) S.2.1.2.2.2.2.2.2.2.1 pf vf rf) S.2.1.2.2.2.2.1) (tl2 pf i S.2.1.2.2.2.2.1) 10))) FX (by omega)
            rw [← nI_1] at kk
            refine kk _ ⟨hX.1.e63 rfl (fun j hj => by simp only [qup, if_neg hj]) (sL_54 (sI_53 rfl)), hX.2.1.ux (by decide), (hX.2.2.u (by decide) (by decide)).u (by decide) (by decide)⟩ (by rw [hstn, sstep_0 hone]; exact ⟨rfl, rfl, hcb, hcs⟩) (by rw [← hres]; rfl)
          | some c =>
            have hsts := hst0
            have hstv := hst
            rw [hsts] at hstv
            obtain ⟨f53, f54, hc1, hc2⟩ := hstv
            have hstv : stv (some c) (xX 53) (yX 54) := ⟨f53, f54, hc1, hc2⟩
            refine step.1 _ _ _ _ _ _ _ sgX12_findSolos_146_ok ?_
            refine ⟨by decide, _, _, hX.1.1, rfl, ?_⟩
            refine ⟨fun c151 => absurd (show xX 53 = -1 from c151) (by rw [f53]; exact nim1 (by omega)), fun c151 => ?_⟩
          
            refine ⟨by decide, _, _, hX.1.1, rfl, ?_⟩
            refine ⟨fun c161 => ?_, fun c161 => ?_⟩
            · have d161 : (sm (vl pf (lJ S.2.1.1 S.2.2.2.2.1.1.1 S.2.2.2.2.1.1.2.1 S.2.2.2.2.1.1.2.2 (nI S.2.2.2.1.2) S.2.1.2.2.2.2.2.2.2.1 pf vf rf) S.2.1.2.2.2.2.1) (tl2 pf i S.2.1.2.2.2.2.1) 10) < c.2 := lt_n1 hcs hc2 (by rw [← f54]; exact (lgc_lt _ _).mp c161)
              refine step.1 _ _ _ _ _ _ _ sgX12_findSolos_196_ok ?_
              refine step.2 _ _ _ _ _ _ _ (qsub_cons 0 rfl (qsub_cons 4 rfl (qsub_cons 5 rfl qsub_nil))) ?_
              have kk := ih (i + 1) (sstep pf (vl pf (lJ S.2.1.1 S.2.2.2.2.1.1.1 S.2.2.2.2.1.1.2.1 S.2.2.2.2.1.1.2.2 (nI S.2.2.2.1.2) S.2.1.2.2.2.2.2.2.2.1 pf vf rf) S.2.1.2.2.2.2.1) S.2.1.2.2.2.2.1 mn i st) hZ xX yX FX (by omega) hX (by rw [hsts, sstep_k hone (Or.inl d161)]; exact hstv) (by rw [← hres]; rfl)
              rw [← nI_1] at kk
              exact kk
            · have d161 : ¬ (sm (vl pf (lJ S.2.1.1 S.2.2.2.2.1.1.1 S.2.2.2.2.1.1.2.1 S.2.2.2.2.1.1.2.2 (nI S.2.2.2.1.2) S.2.1.2.2.2.2.2.2.2.1 pf vf rf) S.2.1.2.2.2.2.1) (tl2 pf i S.2.1.2.2.2.2.1) 10) < c.2 := fun q => c161 ((lgc_lt _ _).mpr (by rw [f54]; exact lt_n2 hcs hc2 q))
              refine ⟨by decide, _, _, hX.1.1, rfl, ?_⟩
              refine ⟨fun c171 => ?_, fun c171 => ?_⟩
              · have d171 : ¬ (sm (vl pf (lJ S.2.1.1 S.2.2.2.2.1.1.1 S.2.2.2.2.1.1.2.1 S.2.2.2.2.1.1.2.2 (nI S.2.2.2.1.2) S.2.1.2.2.2.2.2.2.2.1 pf vf rf) S.2.1.2.2.2.2.1) (tl2 pf i S.2.1.2.2.2.2.1) 10) = c.2 := fun q => c171 ((lgc0 _ _).mpr (by rw [f54, q]))
                refine step.1 _ _ _ _ _ _ _ sgX12_findSolos_185_ok ?_
                refine ⟨_, hX.1.1, Nat.le_of_ble_eq_true rfl, rfl, ?_⟩
                refine ⟨_, rfl, Nat.le_of_ble_eq_true rfl, rfl, ?_⟩
                refine step.1 _ _ _ _ _ _ _ sgX12_findSolos_196_ok ?_
                refine step.2 _ _ _ _ _ _ _ (qsub_cons 0 rfl (qsub_cons 4 rfl (qsub_cons 5 rfl qsub_nil))) ?_
                have kk := fun hZ => ih (i + 1) (sstep pf (vl pf (lJ S.2.1.1 S.2.2.2.2.1.1.1 S.2.2.2.2.1.1.2.1 S.2.2.2.2.1.1.2.2 (nI S.2.2.2.1.2) S.2.1.2.2.2.2.2.2.2.1 pf vf rf) S.2.1.2.2.2.2.1) S.2.1.2.2.2.2.1 mn i st) hZ (upd xX 53 (nI (msk (tl2 pf i S.2.1.2.2.2.2.1) 10))) (updL yX 54 (Int64.ofNat (sm (vl pf (lJ S.2.1.1 S.2.2.2.2.1.1.1 S.2.2.2.2.1.1.2.1 S.2.2.2.2.1.1.2.2 (nI S.2.2.2.1.2) S.2.1.2.2.2.2.2.2.2.1 pf vf rf) S.2.1.2.2.2.2.1) (tl2 pf i S.2.1.2.2.2.2.1) 10))) FX (by omega)
                rw [← nI_1] at kk
                refine kk _ ⟨hX.1.e63 rfl (fun j hj => by simp only [qup, if_neg hj]) (sL_54 (sI_53 rfl)), hX.2.1.ux (by decide), (hX.2.2.u (by decide) (by decide)).u (by decide) (by decide)⟩ (by rw [hsts, sstep_n hone (fun z => z.elim (fun q => d161 q) (fun q => absurd q.1 d171))]; exact ⟨rfl, rfl, hcb, hcs⟩) (by rw [← hres]; rfl)
              · have d171 : (sm (vl pf (lJ S.2.1.1 S.2.2.2.2.1.1.1 S.2.2.2.2.1.1.2.1 S.2.2.2.2.1.1.2.2 (nI S.2.2.2.1.2) S.2.1.2.2.2.2.2.2.2.1 pf vf rf) S.2.1.2.2.2.2.1) (tl2 pf i S.2.1.2.2.2.2.1) 10) = c.2 := eq_n1 hcs hc2 (by rw [← f54]; exact (lgc0 _ _).mp c171)
                refine ⟨by decide, _, _, hX.1.1, rfl, ?_⟩
                refine ⟨fun c179 => ?_, fun c179 => ?_⟩
                · have d179 : (msk (tl2 pf i S.2.1.2.2.2.2.1) 10) ≤ c.1 := (nI_leI (by omega) (by omega)).mp (by rw [← f53]; exact c179)
                  refine step.1 _ _ _ _ _ _ _ sgX12_findSolos_185_ok ?_
                  refine ⟨_, hX.1.1, Nat.le_of_ble_eq_true rfl, rfl, ?_⟩
                  refine ⟨_, rfl, Nat.le_of_ble_eq_true rfl, rfl, ?_⟩
                  refine step.1 _ _ _ _ _ _ _ sgX12_findSolos_196_ok ?_
                  refine step.2 _ _ _ _ _ _ _ (qsub_cons 0 rfl (qsub_cons 4 rfl (qsub_cons 5 rfl qsub_nil))) ?_
                  have kk := fun hZ => ih (i + 1) (sstep pf (vl pf (lJ S.2.1.1 S.2.2.2.2.1.1.1 S.2.2.2.2.1.1.2.1 S.2.2.2.2.1.1.2.2 (nI S.2.2.2.1.2) S.2.1.2.2.2.2.2.2.2.1 pf vf rf) S.2.1.2.2.2.2.1) S.2.1.2.2.2.2.1 mn i st) hZ (upd xX 53 (nI (msk (tl2 pf i S.2.1.2.2.2.2.1) 10))) (updL yX 54 (Int64.ofNat (sm (vl pf (lJ S.2.1.1 S.2.2.2.2.1.1.1 S.2.2.2.2.1.1.2.1 S.2.2.2.2.1.1.2.2 (nI S.2.2.2.1.2) S.2.1.2.2.2.2.2.2.2.1 pf vf rf) S.2.1.2.2.2.2.1) (tl2 pf i S.2.1.2.2.2.2.1) 10))) FX (by omega)
                  rw [← nI_1] at kk
                  refine kk _ ⟨hX.1.e63 rfl (fun j hj => by simp only [qup, if_neg hj]) (sL_54 (sI_53 rfl)), hX.2.1.ux (by decide), (hX.2.2.u (by decide) (by decide)).u (by decide) (by decide)⟩ (by rw [hsts, sstep_n hone (fun z => z.elim (fun q => d161 q) (fun q => absurd q.2 (by omega)))]; exact ⟨rfl, rfl, hcb, hcs⟩) (by rw [← hres]; rfl)
                · have d179 : ¬ (msk (tl2 pf i S.2.1.2.2.2.2.1) 10) ≤ c.1 := fun q => c179 (by rw [f53]; exact nI_le q (by omega))
                  refine step.1 _ _ _ _ _ _ _ sgX12_findSolos_196_ok ?_
                  refine step.2 _ _ _ _ _ _ _ (qsub_cons 0 rfl (qsub_cons 4 rfl (qsub_cons 5 rfl qsub_nil))) ?_
                  have kk := ih (i + 1) (sstep pf (vl pf (lJ S.2.1.1 S.2.2.2.2.1.1.1 S.2.2.2.2.1.1.2.1 S.2.2.2.2.1.1.2.2 (nI S.2.2.2.1.2) S.2.1.2.2.2.2.2.2.2.1 pf vf rf) S.2.1.2.2.2.2.1) S.2.1.2.2.2.2.1 mn i st) hZ xX yX FX (by omega) hX (by rw [hsts, sstep_k hone (Or.inr ⟨d171, by omega⟩)]; exact hstv) (by rw [← hres]; rfl)
                  rw [← nI_1] at kk
                  exact kk
        induction q with
        | zero =>
          intro l hZ xX yX FX hl2 hX hst
          have e36 : xX 36 = nI S.2.1.2.2.2.2.1 := (hX.R hR).1.2.2.2.2.2.2.2.1
          refine step.1 _ _ _ _ _ _ _ sgX12_findSolos_90_ok ?_
          refine ⟨by decide, _, _, hX.1.1, rfl, ?_⟩
          refine ⟨fun c96 => ?_, fun c96 => absurd (show xX 36 ≤ nI l from by rw [e36]; exact nI_le (by omega) (by omega)) c96⟩
          
          obtain rfl : l = S.2.1.2.2.2.2.1 := by omega
          exact at146 hZ xX yX FX hX hst
        | succ q ihl =>
          intro l hZ xX yX FX hl2 hX hst
          have e36 : xX 36 = nI S.2.1.2.2.2.2.1 := (hX.R hR).1.2.2.2.2.2.2.2.1
          have st1 := tl2_s (p := pf) (S := i) (i := l) (vl pf (lJ S.2.1.1 S.2.2.2.2.1.1.1 S.2.2.2.2.1.1.2.1 S.2.2.2.2.1.1.2.2 (nI S.2.2.2.1.2) S.2.1.2.2.2.2.2.2.2.1 pf vf rf) S.2.1.2.2.2.2.1) (by have := hpn l (by omega); omega) (fun q hq e => absurd (hinj q l (by omega) (by omega) e) (by omega))
          have hvl : (vl pf (lJ S.2.1.1 S.2.2.2.2.1.1.1 S.2.2.2.2.1.1.2.1 S.2.2.2.2.1.1.2.2 (nI S.2.2.2.1.2) S.2.1.2.2.2.2.2.2.2.1 pf vf rf) S.2.1.2.2.2.2.1) (pf l) = (lJ S.2.1.1 S.2.2.2.2.1.1.1 S.2.2.2.2.1.1.2.1 S.2.2.2.2.1.1.2.2 (nI S.2.2.2.1.2) S.2.1.2.2.2.2.2.2.2.1 pf vf rf) l := vl_e S.2.1.2.2.2.2.1 hinj l (by omega)
          have hbit := b_bit (b := i) (i := l) (by omega) (by omega)
          have e3 : (3 * nI l : Int32) = nI (l * 3) := by rw [Int32.mul_comm]; exact pk_mul l 3
          refine step.1 _ _ _ _ _ _ _ sgX12_findSolos_90_ok ?_
          refine ⟨by decide, _, _, hX.1.1, rfl, ?_⟩
          refine ⟨fun c96 => absurd (show nI S.2.1.2.2.2.2.1 ≤ nI l from by rw [← e36]; exact c96) (h_nle (by omega) (by omega)), fun c96 => ?_⟩
          
          refine ⟨fun c105 => ?_, fun c105 => ?_⟩
          · have d105 : i.testBit l = true := by
              by_cases q : i.testBit l = true
              · exact q
              · rw [hbit, if_neg q] at c105
                exact absurd rfl c105
            refine step.1 _ _ _ _ _ _ _ sgX12_findSolos_111_ok ?_
            refine Or.inl ⟨rfl, _, 5, 0, 0, _, _, _, qi_12_396, ⟨rfl, rfl⟩, ⟨hX.1.1, rfl⟩, rfl, rfl, M_findLine hg hX.1 (hX.R hR) hP hI hpn hl (l := l) (by omega), fun y114 h114 hy114 => ?_⟩
            obtain ⟨rfl, hQ2⟩ := hy114
            obtain ⟨x1, y1, F1, hN, m1, m2, m3, m4, m5⟩ := hQ2.n
            have hX1 := hX.tr hN.z
            have g78 : F1 78 (3 * nI l : Int32).toNatClampNeg = nI (pf l) := by rw [e3, h_tn (by omega)]; exact ((hX1.R hR).2.2.1.2.2 (l * 3) (by omega)).trans (hP l (by omega)).1.1
            have hj := (lJ_e hI hP hpn S.2.2.2.2.1.1.1 S.2.2.2.2.1.1.2.1 S.2.2.2.2.1.1.2.2 (nI S.2.2.2.1.2) (l := l) (by omega)).1
            refine ⟨by decide, _, _, hX1.1.1, rfl, ?_⟩
            refine ⟨_, _, hX1.1.c78, (by rw [e3]; exact vp_in_nI (n := l * 3) (N := 30) (by omega) (by decide)), ?_⟩
            refine ⟨by decide, _, _, hX1.1.1, rfl, ?_⟩
            refine step.1 _ _ _ _ _ _ _ sgX12_findSolos_140_ok ?_
            have kk := ihl (l + 1) h114 x1 y1 F1 (by omega) hX1 (by rw [hN.2.2.1 53 (by decide), hN.2.2.2.1 54 (by decide)]; exact hst)
            rw [← nI_1, st1.1, st1.2, if_pos d105, if_pos d105, hvl, Int64.ofNat_add, ← hj, ← m3, ← b_or, ← b_shl (i := pf l) (by have := hpn l (by omega); omega), ← g78] at kk
            exact kk
          · have d105 : ¬ i.testBit l = true := fun q => by
              rw [hbit, if_pos q] at c105
              exact absurd c105 (by decide)
            refine step.1 _ _ _ _ _ _ _ sgX12_findSolos_140_ok ?_
            have kk := ihl (l + 1) hZ xX yX FX (by omega) hX hst
            rw [← nI_1, st1.1, st1.2, if_neg d105, if_neg d105, Nat.add_zero, Nat.or_zero] at kk
            exact kk
      have e36 : xX 36 = nI S.2.1.2.2.2.2.1 := (hX.R hR).1.2.2.2.2.2.2.2.1
      have epow : (1 : Int32) <<< (xX 36 &&& 31) = nI (2 ^ S.2.1.2.2.2.2.1) := by rw [e36]; exact b_shl (by omega)
      refine step.1 _ _ _ _ _ _ _ sgX12_findSolos_60_ok ?_
      refine ⟨by decide, _, _, hX.1.1, rfl, ?_⟩
      refine ⟨fun c67 => absurd (show nI (2 ^ S.2.1.2.2.2.2.1) ≤ nI i from by rw [← epow]; exact c67) (h_nle (by omega) (by omega)), fun c67 => ?_⟩
      
      refine Or.inl ⟨rfl, _, 1, 0, 0, _, _, _, qi_12_478, ⟨rfl, rfl⟩, ⟨hX.1.1, rfl⟩, rfl, rfl, M_ones hg i (by omega), fun y72 h72 hy72 => ?_⟩
      obtain ⟨rfl, hh⟩ := hy72
      rw [hh]
      clear hh
      refine ⟨fun c76 => ?_, fun c76 => ?_⟩
      · have hone : sones S.2.1.2.2.2.2.1 i = mn := by
          rw [sones_k hk (by omega)]
          exact (nI_eq (by have := so_b i; omega) (by omega)).mp c76
        refine step.1 _ _ _ _ _ _ _ sgX12_findSolos_82_ok ?_
        have kk := inner hone S.2.1.2.2.2.2.1 0 hZ xX yX FX (by omega) hX hst
        rw [tl2_0 pf i (vl pf (lJ S.2.1.1 S.2.2.2.2.1.1.1 S.2.2.2.2.1.1.2.1 S.2.2.2.2.1.1.2.2 (nI S.2.2.2.1.2) S.2.1.2.2.2.2.2.2.2.1 pf vf rf) S.2.1.2.2.2.2.1), tl2_0m pf i] at kk
        exact kk
      · have hone : ¬ sones S.2.1.2.2.2.2.1 i = mn := fun q => c76 (by rw [← q, sones_k hk (by omega)])
        refine step.1 _ _ _ _ _ _ _ sgX12_findSolos_196_ok ?_
        have kk := ih (i + 1) (sstep pf (vl pf (lJ S.2.1.1 S.2.2.2.2.1.1.1 S.2.2.2.2.1.1.2.1 S.2.2.2.2.1.1.2.2 (nI S.2.2.2.1.2) S.2.1.2.2.2.2.2.2.2.1 pf vf rf) S.2.1.2.2.2.2.1) S.2.1.2.2.2.2.1 mn i st) hZ xX yX FX (by omega) hX (by unfold sstep; rw [if_neg hone]; exact hst) (by rw [← hres]; rfl)
        rw [← nI_1] at kk
        exact kk

  have at47 : ∀ (i : Nat) (z : Int32), z = nI (min so S.2.1.2.2.2.2.1) → run 47 [(2, .int (nI i)), (0, .ref 63)] [.int z] h 0 0 := by
    intro i z hz
    refine step.1 _ _ _ _ _ _ _ sgX12_findSolos_47_ok ?_
    refine ⟨_, hM.1, Nat.le_of_ble_eq_true rfl, rfl, ?_⟩
    refine ⟨_, rfl, Nat.le_of_ble_eq_true rfl, rfl, ?_⟩
    rw [hz]
    exact loop (min so S.2.1.2.2.2.2.1) rfl (2 ^ S.2.1.2.2.2.2.1) 0 none _ (upd x 53 (-1)) (updL y 54 0) F (by omega) ⟨hM.e63 rfl (fun j hj => by simp only [qup, if_neg hj]) (sL_54 (sI_53 rfl)), mq.rf.ux (by decide), (kp.rf.u (by decide) (by decide)).u (by decide) (by decide)⟩ ⟨rfl, rfl⟩ rfl
  have at31 : ∀ i : Nat, run 31 [(2, .int (nI i)), (1, .int (csol S.2.2.2.1.1 0 S.2.2.2.1.2 0)), (0, .ref 63)] [] h 0 0 := by
    intro i
    have e36 : x 36 = nI S.2.1.2.2.2.2.1 := hR.1.2.2.2.2.2.2.2.1
    rw [hso]
    refine step.1 _ _ _ _ _ _ _ sgX12_findSolos_31_ok ?_
    refine ⟨by decide, _, _, hM.1, rfl, ?_⟩
    refine ⟨fun c36 => ?_, fun c36 => ?_⟩
    · have d36 : S.2.1.2.2.2.2.1 ≤ so := (nI_leI (by omega) (by omega)).mp (by rw [← e36]; exact c36)
      refine step.1 _ _ _ _ _ _ _ sgX12_findSolos_43_ok ?_
      refine ⟨by decide, _, _, hM.1, rfl, ?_⟩
      refine step.2 _ _ _ _ _ _ _ (qsub_cons 0 rfl (qsub_cons 2 rfl qsub_nil)) ?_
      exact at47 _ (x 36) (by rw [e36, Nat.min_eq_right d36])
    · have d36 : so < S.2.1.2.2.2.2.1 := Nat.lt_of_not_le (fun q => c36 (by rw [e36]; exact nI_le q (by omega)))
      refine step.2 _ _ _ _ _ _ _ (qsub_cons 0 rfl (qsub_cons 2 rfl qsub_nil)) ?_
      exact at47 _ (nI so) (by rw [Nat.min_eq_left (Nat.le_of_lt d36)])
  have loop4 : ∀ (m i : Nat) (s : Int32), i + m = S.2.2.2.1.2 → csol S.2.2.2.1.1 i m s = csol S.2.2.2.1.1 0 S.2.2.2.1.2 0 → run 4 [(2, .int (nI i)), (1, .int s), (0, .ref 63)] [] h 0 0 := by
    intro m
    induction m with
    | zero =>
      intro i s hi hcs
      have e20 : x 20 = nI S.2.2.2.1.2 := hR.1.2.2.2.1
      refine step.1 _ _ _ _ _ _ _ sgX12_findSolos_4_ok ?_
      refine ⟨by decide, _, _, hM.1, rfl, ?_⟩
      refine ⟨fun c9 => ?_, fun c9 => absurd (show x 20 ≤ nI i from by rw [e20]; exact nI_le (by omega) (by omega)) c9⟩
      
      have hs : s = csol S.2.2.2.1.1 0 S.2.2.2.1.2 0 := by rw [← hcs]; rfl
      rw [hs]
      exact at31 i
    | succ m ih =>
      intro i s hi hcs
      have e20 : x 20 = nI S.2.2.2.1.2 := hR.1.2.2.2.1
      have j3 : (4 * nI i + 3 : Int32) = nI (i * 4 + 3) := ixk (k := 4) (w := 3)
      have g3 : F 69 (4 * nI i + 3 : Int32).toNatClampNeg = S.2.2.2.1.1 (i * 4 + 3) := by rw [j3, h_tn (n := i * 4 + 3) (by omega)]; exact hR.q (by omega) (by decide)
      refine step.1 _ _ _ _ _ _ _ sgX12_findSolos_4_ok ?_
      refine ⟨by decide, _, _, hM.1, rfl, ?_⟩
      refine ⟨fun c9 => absurd (show nI S.2.2.2.1.2 ≤ nI i from by rw [← e20]; exact c9) (h_nle (by omega) (by omega)), fun c9 => ?_⟩
      
      refine ⟨by decide, _, _, hM.1, rfl, ?_⟩
      refine ⟨_, _, hM.c69, (by rw [j3]; exact vp_in_nI (n := i * 4 + 3) (N := 32) (by omega) (by decide)), ?_⟩
      rw [g3]
      have kk := ih (i + 1) (s + S.2.2.2.1.1 (i * 4 + 3)) (by omega) (by rw [← hcs]; rfl)
      rw [← nI_1] at kk
      exact kk
  refine step.1 _ _ _ _ _ _ _ sgX12_findSolos_0_ok ?_
  exact loop4 S.2.2.2.1.2 0 0 (by omega) rfl
end Q12A
