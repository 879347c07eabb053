section Q08D
/-- letter by letter: the list's from i on, the text's from k on -/
def wal (F : Nat → Int32) (n : Nat) (f : Nat → Nat) : Nat → Nat → Nat → Bool
  | 0, _, _ => true
  | m + 1, i, k => decide (nI (f i) = tby F n k) && wal F n f m (i + 1) (k + 1)
/-- is the list's word from a to b the text's from fr to at -/
def wis (F : Nat → Int32) (n : Nat) (f : Nat → Nat) (fr at' a b : Nat) : Bool := decide (b - a = at' - fr) && wal F n f (b - a) a fr
def wix (W : Nat → Nat → Bool) (f : Nat → Nat) (len : Nat) : Nat → Nat → Nat → Nat → Int32
  | 0, _, _, _ => -1
  | m + 1, i, ix, a => if i = len ∨ f i = 32 then (if W a i then nI ix else wix W f len m (i + 1) (ix + 1) (i + 1)) else wix W f len m (i + 1) ix a
/-- the list's words by where they begin and end -/
def wsp (f : Nat → Nat) (len : Nat) : Nat → Nat → Nat → List (Nat × Nat)
  | 0, _, _ => []
  | m + 1, i, a => if i = len ∨ f i = 32 then (a, i) :: wsp f len m (i + 1) (i + 1) else wsp f len m (i + 1) a
def wpick (W : Nat → Nat → Bool) : List (Nat × Nat) → Nat → Int32
  | [], _ => -1
  | q :: t, ix => if W q.1 q.2 then nI ix else wpick W t (ix + 1)
theorem wix_pick (W : Nat → Nat → Bool) (f : Nat → Nat) (len : Nat) : ∀ m i ix a : Nat, wix W f len m i ix a = wpick W (wsp f len m i a) ix
  | 0, _, _, _ => rfl
  | m + 1, i, ix, a => by
    unfold wix wsp
    split
    · rw [wpick, wix_pick W f len m]
    · exact wix_pick W f len m _ _ _
theorem T_isWord {g : qG} (hg : qOK g) {h : qH} (hJ : qJDK g) {j jv len : Nat} {f : Nat → Nat} (hS : qSTR g j jv len f) {t b n p fr : Nat} {F : Nat → Int32} {he ki pl : Int32} (hT : isT h t b F he (nI n) (nI p) (nI fr) ki pl) (hn : n ≤ 600) (hp : p ≤ n) (hfr : fr ≤ p) (a d : Nat) (had : a ≤ d) (hd : d ≤ len) : qSpec g 5 0 0 mX8_isWord [.ref t, .retAddr j, .int (nI a), .int (nI d)] h (fun r h' => r = some (.int (qb (wis F n f fr p a d))) ∧ h' = h) := by
  refine qSpec_runR 8 "isWord" false hg mX8_isWord_ok rfl rfl (Nat.le_of_ble_eq_true rfl) (by decide) ?_
  intro run step stepR
  have hl := hS.2.2.2.2.1
  have loop : ∀ (m i : Nat), i + m = d → a ≤ i → wis F n f fr p a d = wal F n f m i (fr + (i - a)) → run 20 [(4, .int (nI i)), (0, .ref t), (1, .retAddr j), (2, .int (nI a)), (3, .int (nI d))] [] h 0 0 := by
    intro m
    induction m with
    | zero =>
      intro i hi hai hst
      refine step.1 _ _ _ _ _ _ _ srX8_isWord_20_ok ?_
      refine ⟨fun c23 => ?_, fun c23 => absurd (nI_le (a := d) (b := i) (by omega) (by omega)) c23⟩
      refine step.1 _ _ _ _ _ _ _ srX8_isWord_65_ok ?_
      refine ⟨.boolean, rfl, rfl, Nat.le_refl _, Nat.le_refl _, ?_⟩
      exact ⟨by rw [hst]; rfl, rfl⟩
    | succ m ih =>
      intro i hi hai hst
      refine step.1 _ _ _ _ _ _ _ srX8_isWord_20_ok ?_
      refine ⟨fun c23 => absurd c23 (nI_ge (by omega) (by omega)), fun c23 => ?_⟩
      refine stepR 51 29 2 0 0 j _ [] _ _ _ _ _ _ qi_8_51 ⟨rfl, rfl⟩ hS.1 rfl (by decide +kernel) (J_length hg hJ hS) (fun y29 h29 hy29 => ?_)
      obtain ⟨rfl, hh⟩ := hy29
      rw [hh]
      clear hh
      refine step.1 _ _ _ _ _ _ _ srX8_isWord_32_ok ?_
      refine ⟨fun c32 => absurd c32 (nI_ge (by omega) (by omega)), fun c32 => ?_⟩
      refine stepR 56 38 4 0 0 j _ [.int (nI i)] _ _ _ _ _ _ qi_8_56 ⟨rfl, rfl⟩ hS.1 rfl (by decide +kernel) (J_charAt hg hJ hS (i := i) (by omega)) (fun y38 h38 hy38 => ?_)
      obtain ⟨rfl, hh⟩ := hy38
      rw [hh]
      clear hh
      refine step.1 _ _ _ _ _ _ _ srX8_isWord_41_ok ?_
      refine ⟨by decide, _, _, hT.1, rfl, ?_⟩
      refine Or.inl ⟨rfl, _, 1, 0, 0, _, _, _, qi_8_31, ⟨rfl, rfl⟩, ⟨hT.1, rfl⟩, rfl, rfl, (by rw [show (nI fr + nI i - nI a : Int32) = nI (fr + (i - a)) from by rw [nI_add, pk_sub (by omega)]; congr 1; omega]; exact T_byteAt hg hT hn (fr + (i - a)) (by omega)), fun y51 h51 hy51 => ?_⟩
      obtain ⟨rfl, hh⟩ := hy51
      rw [hh]
      clear hh
      refine ⟨fun c54 => ?_, fun c54 => ?_⟩
      · have c54 : nI (f i) = tby F n (fr + (i - a)) := c54
        refine step.1 _ _ _ _ _ _ _ srX8_isWord_59_ok ?_
        have kk2 := ih (i + 1) (by omega) (by omega) (by rw [hst, wal, decide_eq_true c54, Bool.true_and, show fr + (i - a) + 1 = fr + (i + 1 - a) by omega])
        rw [← nI_1] at kk2
        exact kk2
      · have c54 : ¬ nI (f i) = tby F n (fr + (i - a)) := c54
        refine ⟨.boolean, rfl, rfl, Nat.le_refl _, Nat.le_refl _, ?_⟩
        exact ⟨by rw [hst, wal, decide_eq_false c54]; rfl, rfl⟩
  refine step.1 _ _ _ _ _ _ _ srX8_isWord_0_ok ?_
  refine ⟨by decide, _, _, hT.1, rfl, ?_⟩
  refine ⟨by decide, _, _, hT.1, rfl, ?_⟩
  refine ⟨fun c12 => ?_, fun c12 => ?_⟩
  · have c12 : d - a = p - fr := (nI_eq (by omega) (by omega)).mp ((pk_sub had).symm.trans (Eq.trans c12 (pk_sub hfr)))
    refine step.1 _ _ _ _ _ _ _ srX8_isWord_17_ok ?_
    exact loop (d - a) a (by omega) (Nat.le_refl _) (by rw [wis, decide_eq_true c12, Nat.sub_self]; rfl)
  · have c12 : ¬ d - a = p - fr := fun z => c12 ((pk_sub had).trans ((congrArg nI z).trans (pk_sub hfr).symm))
    refine ⟨.boolean, rfl, rfl, Nat.le_refl _, Nat.le_refl _, ?_⟩
    exact ⟨by rw [wis, decide_eq_false c12]; rfl, rfl⟩
theorem T_indexIn {g : qG} (hg : qOK g) {h : qH} (hJ : qJDK g) {j jv len : Nat} {f : Nat → Nat} (hS : qSTR g j jv len f) {t b n p fr : Nat} {F : Nat → Int32} {he ki pl : Int32} (hT : isT h t b F he (nI n) (nI p) (nI fr) ki pl) (hn : n ≤ 600) (hp : p ≤ n) (hfr : fr ≤ p) : qSpec g 6 0 0 mX8_indexIn [.ref t, .retAddr j] h (fun r h' => r = some (.int (wix (wis F n f fr p) f len (len + 1) 0 0 0)) ∧ h' = h) := by
  refine qSpec_runR 8 "indexIn" false hg mX8_indexIn_ok rfl rfl (Nat.le_of_ble_eq_true rfl) (by decide) ?_
  intro run step stepR
  have hl := hS.2.2.2.2.1
  have loop : ∀ (m i ix a : Nat), i + m = len + 1 → a ≤ i → wix (wis F n f fr p) f len m i ix a = wix (wis F n f fr p) f len (len + 1) 0 0 0 → run 13 [(5, .int (nI i)), (4, .int (nI len)), (3, .int (nI a)), (2, .int (nI ix)), (0, .ref t), (1, .retAddr j)] [] h 0 0 := by
    intro m
    induction m with
    | zero =>
      intro i ix a hi hai hst
      refine step.1 _ _ _ _ _ _ _ srX8_indexIn_13_ok ?_
      refine ⟨fun c17 => ?_, fun c17 => absurd (nI_lt (a := len) (b := i) (by omega) (by omega)) c17⟩
      refine step.1 _ _ _ _ _ _ _ srX8_indexIn_65_ok ?_
      refine ⟨.int, rfl, rfl, Nat.le_refl _, Nat.le_refl _, ?_⟩
      exact ⟨by rw [← hst]; rfl, rfl⟩
    | succ m ih =>
      intro i ix a hi hai hst
      refine step.1 _ _ _ _ _ _ _ srX8_indexIn_13_ok ?_
      refine ⟨fun c17 => absurd c17 (nI_nlt (by omega) (by omega)), fun c17 => ?_⟩
      refine ⟨fun c24 => ?_, fun c24 => ?_⟩
      · have hsep : i = len ∨ f i = 32 := Or.inl ((nI_eq (by omega) (by omega)).mp c24)
        refine step.1 _ _ _ _ _ _ _ srX8_indexIn_38_ok ?_
        refine Or.inl ⟨rfl, _, 5, 0, 0, _, _, _, qi_8_60, ⟨rfl, rfl⟩, ⟨hT.1, rfl⟩, rfl, rfl, T_isWord hg hJ hS hT hn hp hfr a i (by omega) (by omega), fun y43 h43 hy43 => ?_⟩
        obtain ⟨rfl, hh⟩ := hy43
        rw [hh]
        clear hh
        refine ⟨fun c46 => ?_, fun c46 => ?_⟩
        · have c46 : wis F n f fr p a i = false := qb_0.mp c46
          refine step.1 _ _ _ _ _ _ _ srX8_indexIn_51_ok ?_
          refine step.1 _ _ _ _ _ _ _ srX8_indexIn_59_ok ?_
          refine step.2 _ _ _ _ _ _ _ (qsub_cons 0 rfl (qsub_cons 3 rfl (qsub_cons 1 rfl (qsub_cons 2 rfl (qsub_cons 4 rfl (qsub_cons 5 rfl qsub_nil)))))) ?_
          have kk2 := ih (i + 1) (ix + 1) (i + 1) (by omega) (by omega) (by rw [← hst, wix, if_pos hsep, if_neg (by rw [c46]; decide)])
          rw [← nI_1, ← nI_1] at kk2
          exact kk2
        · have c46 : wis F n f fr p a i = true := qb_1.mp c46
          refine ⟨.int, rfl, rfl, Nat.le_refl _, Nat.le_refl _, ?_⟩
          exact ⟨by rw [← hst, wix, if_pos hsep, if_pos c46], rfl⟩
      · have hil : ¬ i = len := fun z => c24 (congrArg nI z)
        refine stepR 56 30 4 0 0 j _ [.int (nI i)] _ _ _ _ _ _ qi_8_56 ⟨rfl, rfl⟩ hS.1 rfl (by decide +kernel) (J_charAt hg hJ hS (i := i) (by omega)) (fun y30 h30 hy30 => ?_)
        obtain ⟨rfl, hh⟩ := hy30
        rw [hh]
        clear hh
        refine step.1 _ _ _ _ _ _ _ srX8_indexIn_33_ok ?_
        refine ⟨fun c35 => ?_, fun c35 => ?_⟩
        · have hns : ¬ (i = len ∨ f i = 32) := fun z => z.elim hil (fun z => c35 (congrArg nI z))
          refine step.1 _ _ _ _ _ _ _ srX8_indexIn_59_ok ?_
          have kk2 := ih (i + 1) ix a (by omega) (by omega) (by rw [← hst, wix, if_neg hns])
          rw [← nI_1] at kk2
          exact kk2
        · have hsep : i = len ∨ f i = 32 := Or.inr ((nI_eq (b := 32) (by have := hS.2.2.2.2.2 i (by omega); omega) (by decide)).mp c35)
          refine step.1 _ _ _ _ _ _ _ srX8_indexIn_38_ok ?_
          refine Or.inl ⟨rfl, _, 5, 0, 0, _, _, _, qi_8_60, ⟨rfl, rfl⟩, ⟨hT.1, rfl⟩, rfl, rfl, T_isWord hg hJ hS hT hn hp hfr a i (by omega) (by omega), fun y43 h43 hy43 => ?_⟩
          obtain ⟨rfl, hh⟩ := hy43
          rw [hh]
          clear hh
          refine ⟨fun c46 => ?_, fun c46 => ?_⟩
          · have c46 : wis F n f fr p a i = false := qb_0.mp c46
            refine step.1 _ _ _ _ _ _ _ srX8_indexIn_51_ok ?_
            refine step.1 _ _ _ _ _ _ _ srX8_indexIn_59_ok ?_
            refine step.2 _ _ _ _ _ _ _ (qsub_cons 0 rfl (qsub_cons 3 rfl (qsub_cons 1 rfl (qsub_cons 2 rfl (qsub_cons 4 rfl (qsub_cons 5 rfl qsub_nil)))))) ?_
            have kk2 := ih (i + 1) (ix + 1) (i + 1) (by omega) (by omega) (by rw [← hst, wix, if_pos hsep, if_neg (by rw [c46]; decide)])
            rw [← nI_1, ← nI_1] at kk2
            exact kk2
          · have c46 : wis F n f fr p a i = true := qb_1.mp c46
            refine ⟨.int, rfl, rfl, Nat.le_refl _, Nat.le_refl _, ?_⟩
            exact ⟨by rw [← hst, wix, if_pos hsep, if_pos c46], rfl⟩
  refine step.1 _ _ _ _ _ _ _ srX8_indexIn_0_ok ?_
  refine stepR 51 5 2 0 0 j _ [] _ _ _ _ _ _ qi_8_51 ⟨rfl, rfl⟩ hS.1 rfl (by decide +kernel) (J_length hg hJ hS) (fun y5 h5 hy5 => ?_)
  obtain ⟨rfl, hh⟩ := hy5
  rw [hh]
  clear hh
  refine step.1 _ _ _ _ _ _ _ srX8_indexIn_8_ok ?_
  exact loop (len + 1) 0 0 0 (by omega) (Nat.le_refl _) rfl
/-- letters on end -/
def lrun (F : Nat → Int32) (n : Nat) : Nat → Nat → Nat
  | 0, q => q
  | m + 1, q => if islt (tby F n q) then lrun F n m (q + 1) else q
theorem lrun_le (F : Nat → Int32) (n : Nat) : ∀ (m q : Nat), q ≤ lrun F n m q ∧ lrun F n m q ≤ q + m
  | 0, q => ⟨Nat.le_refl _, Nat.le_refl _⟩
  | m + 1, q => by
    unfold lrun
    split
    · have := lrun_le F n m (q + 1); omega
    · exact ⟨Nat.le_refl _, Nat.le_add_right _ _⟩
/-- which of the words -/
def twd (F : Nat → Int32) (n : Nat) (f : Nat → Nat) (len q e : Nat) : Int32 := if e = q then -1 else wix (wis F n f q e) f len (len + 1) 0 0 0
theorem T_word {g : qG} (hg : qOK g) {h : qH} (hJ : qJDK g) {j jv len : Nat} {f : Nat → Nat} (hS : qSTR g j jv len f) {t b n p : Nat} {F : Nat → Int32} {he fr ki pl : Int32} (hT : isT h t b F he (nI n) (nI p) fr ki pl) (hn : n ≤ 600) (hp : p ≤ n) : qSpec g 7 0 0 mX8_word [.ref t, .retAddr j] h (fun r h' => r = some (.int (twd F n f len (skp F n (n - p) p) (lrun F n (n - (skp F n (n - p) p)) (skp F n (n - p) p)))) ∧ h' = sT h t b he (nI n) (nI (lrun F n (n - (skp F n (n - p) p)) (skp F n (n - p) p))) (nI (skp F n (n - p) p)) (if (twd F n f len (skp F n (n - p) p) (lrun F n (n - (skp F n (n - p) p)) (skp F n (n - p) p))) = -1 ∧ ki = 0 then 1 else ki) (if (twd F n f len (skp F n (n - p) p) (lrun F n (n - (skp F n (n - p) p)) (skp F n (n - p) p))) = -1 ∧ ki = 0 then nI (skp F n (n - p) p) else pl)) := by
  refine qSpec_run 8 "word" false hg mX8_word_ok rfl rfl (Nat.le_of_ble_eq_true rfl) (by decide) ?_
  intro run step
  have hb := skp_le F n (n - p) p
  have c79 : ∀ (x : Int32) (hX : qH) (ii cc : Int32), x = (twd F n f len (skp F n (n - p) p) (lrun F n (n - (skp F n (n - p) p)) (skp F n (n - p) p))) → isT hX t b F he (nI n) (nI (lrun F n (n - (skp F n (n - p) p)) (skp F n (n - p) p))) (nI (skp F n (n - p) p)) ki pl → hX = sT h t b he (nI n) (nI (lrun F n (n - (skp F n (n - p) p)) (skp F n (n - p) p))) (nI (skp F n (n - p) p)) ki pl → run 79 [(3, .int ii), (2, .int cc), (0, .ref t), (1, .retAddr j)] [.int x] hX 0 0 := by
    intro x hX ii cc hx hTX hhX
    subst hx
    refine step.1 _ _ _ _ _ _ _ sgX8_word_79_ok ?_
    refine ⟨fun c82 => ?_, fun c82 => ?_⟩
    · have c82 : ¬ (twd F n f len (skp F n (n - p) p) (lrun F n (n - (skp F n (n - p) p)) (skp F n (n - p) p))) = -1 := c82
      refine step.1 _ _ _ _ _ _ _ sgX8_word_94_ok ?_
      refine ⟨.int, rfl, rfl, Nat.le_refl _, Nat.le_refl _, ?_⟩
      exact ⟨rfl, by rw [if_neg (fun z => c82 z.1), if_neg (fun z => c82 z.1)]; exact hhX⟩
    · have c82 : (twd F n f len (skp F n (n - p) p) (lrun F n (n - (skp F n (n - p) p)) (skp F n (n - p) p))) = -1 := c82
      refine ⟨by decide, _, _, hTX.1, rfl, ?_⟩
      refine Or.inl ⟨rfl, _, 1, 0, 0, _, _, _, qi_8_39, ⟨rfl, rfl⟩, ⟨hTX.1, rfl⟩, rfl, rfl, T_fail hg hTX 1 _, fun y91 h91 hy91 => ?_⟩
      obtain ⟨rfl, hh⟩ := hy91
      subst hh
      refine step.1 _ _ _ _ _ _ _ sgX8_word_94_ok ?_
      refine ⟨.int, rfl, rfl, Nat.le_refl _, Nat.le_refl _, ?_⟩
      refine ⟨rfl, ?_⟩
      rw [hhX, sT_sT]
      by_cases hk : ki = 0
      · rw [if_pos hk, if_pos hk, if_pos ⟨c82, hk⟩, if_pos ⟨c82, hk⟩]
      · rw [if_neg hk, if_neg hk, if_neg (fun z => hk z.2), if_neg (fun z => hk z.2)]
  have c59 : ∀ (q : Nat) (hX : qH) (ii cc : Int32), q = (lrun F n (n - (skp F n (n - p) p)) (skp F n (n - p) p)) → q ≤ n → isT hX t b F he (nI n) (nI q) (nI (skp F n (n - p) p)) ki pl → hX = sT h t b he (nI n) (nI q) (nI (skp F n (n - p) p)) ki pl → run 59 [(3, .int ii), (2, .int cc), (0, .ref t), (1, .retAddr j)] [] hX 0 0 := by
    intro q hX ii cc hq hqn hTX hhX
    refine step.1 _ _ _ _ _ _ _ sgX8_word_59_ok ?_
    refine ⟨by decide, _, _, hTX.1, rfl, ?_⟩
    refine ⟨by decide, _, _, hTX.1, rfl, ?_⟩
    refine ⟨fun c67 => ?_, fun c67 => ?_⟩
    · have c67 : ¬ q = (skp F n (n - p) p) := fun z => c67 (congrArg nI z)
      refine step.1 _ _ _ _ _ _ _ sgX8_word_74_ok ?_
      refine Or.inl ⟨rfl, _, 6, 0, 0, _, _, _, qi_8_47, ⟨rfl, rfl⟩, ⟨hTX.1, rfl⟩, rfl, rfl, T_indexIn hg hJ hS hTX hn hqn (by have := (lrun_le F n (n - (skp F n (n - p) p)) (skp F n (n - p) p)).1; omega), fun y76 h76 hy76 => ?_⟩
      obtain ⟨rfl, hh⟩ := hy76
      rw [hh]
      clear hh
      exact c79 _ hX _ _ (by rw [twd, ← hq, if_neg c67]) (by rw [← hq]; exact hTX) (by rw [← hq]; exact hhX)
    · have c67 : q = (skp F n (n - p) p) := (nI_eq (by omega) (by omega)).mp c67
      exact c79 _ hX _ _ (by rw [twd, ← hq, if_pos c67]) (by rw [← hq]; exact hTX) (by rw [← hq]; exact hhX)
  have loop : ∀ (m i q : Nat) (hX : qH), n - q = m → i ≤ q → q ≤ n → lrun F n m q = (lrun F n (n - (skp F n (n - p) p)) (skp F n (n - p) p)) → isT hX t b F he (nI n) (nI q) (nI (skp F n (n - p) p)) ki pl → hX = sT h t b he (nI n) (nI q) (nI (skp F n (n - p) p)) ki pl → run 15 [(3, .int (nI i)), (2, .int (tby F n q)), (0, .ref t), (1, .retAddr j)] [] hX 0 0 := by
    intro m
    induction m with
    | zero =>
      intro i q hX hm hii hqn hst hTX hhX
      refine step.1 _ _ _ _ _ _ _ sgX8_word_15_ok ?_
      refine ⟨fun c19 => ?_, fun c19 => ?_⟩
      · exact c59 q hX (nI i) (tby F n q) (by rw [← hst]; rfl) hqn hTX hhX
      · refine ⟨fun c25 => ?_, fun c25 => ?_⟩
        · exact c59 q hX (nI i) (tby F n q) (by rw [← hst]; rfl) hqn hTX hhX
        · have c25 : ¬ tby F n q < 97 := c25
          rw [tby_end (by omega)] at c25
          exact absurd (by decide : (-1 : Int32) < 97) c25
    | succ m ih =>
      intro i q hX hm hii hqn hst hTX hhX
      refine step.1 _ _ _ _ _ _ _ sgX8_word_15_ok ?_
      refine ⟨fun c19 => absurd c19 (h_nle (b := 600) (by omega) (by decide)), fun c19 => ?_⟩
      refine ⟨fun c25 => ?_, fun c25 => ?_⟩
      · have c25 : tby F n q < 97 := c25
        exact c59 q hX (nI i) (tby F n q) (by rw [← hst, lrun, show islt (tby F n q) = false from by unfold islt; rw [decide_eq_false (p := (97 : Int32) ≤ tby F n q) (Int32.not_le.mpr c25)]; rfl]; rfl) hqn hTX hhX
      · have c25 : ¬ tby F n q < 97 := c25
        refine ⟨fun c31 => ?_, fun c31 => ?_⟩
        · have c31 : 122 < tby F n q := c31
          exact c59 q hX (nI i) (tby F n q) (by rw [← hst, lrun, show islt (tby F n q) = false from by unfold islt; rw [decide_eq_false (p := tby F n q ≤ 122) (Int32.not_le.mpr c31), Bool.and_false]]; rfl) hqn hTX hhX
        · have c31 : ¬ 122 < tby F n q := c31
          have hdg : islt (tby F n q) = true := by unfold islt; rw [decide_eq_true (Int32.not_lt.mp c25), decide_eq_true (Int32.not_lt.mp c31)]; rfl
          have hst : lrun F n m (q + 1) = (lrun F n (n - (skp F n (n - p) p)) (skp F n (n - p) p)) := by rw [← hst, lrun, if_pos hdg]
          refine ⟨rfl, ?_⟩
          refine ⟨by decide, _, _, hTX.1, rfl, ?_⟩
          refine ⟨_, hTX.1, Nat.le_of_ble_eq_true rfl, rfl, ?_⟩
          have hT9 := hTX.set he (nI n) (nI q + 1) (nI (skp F n (n - p) p)) ki pl
          refine ⟨by decide, _, _, hT9.1, rfl, ?_⟩
          refine Or.inl ⟨rfl, _, 1, 0, 0, _, _, _, qi_8_31, ⟨rfl, rfl⟩, ⟨hT9.1, rfl⟩, rfl, rfl, (by have z := T_byteAt hg hT9 hn (q + 1) (by omega); rw [← nI_1] at z; exact z), fun y49 h49 hy49 => ?_⟩
          obtain ⟨rfl, hh⟩ := hy49
          subst hh
          have kk2 := ih (i + 1) (q + 1) (sT hX t b he (nI n) (nI (q + 1)) (nI (skp F n (n - p) p)) ki pl) (by omega) (by omega) (by omega) hst (hTX.set _ _ _ _ _ _) (by rw [hhX, sT_sT])
          rw [← nI_1, ← nI_1] at kk2
          exact kk2
  refine step.1 _ _ _ _ _ _ _ sgX8_word_0_ok ?_
  refine Or.inl ⟨rfl, _, 2, 0, 0, _, _, _, qi_8_35, ⟨rfl, rfl⟩, ⟨hT.1, rfl⟩, rfl, rfl, T_look hg hT hn (by omega), fun y1 h1 hy1 => ?_⟩
  obtain ⟨rfl, rfl⟩ := hy1
  have hb := skp_le F n (n - p) p
  have hT1 := hT.set he (nI n) (nI (skp F n (n - p) p)) fr ki pl
  refine ⟨by decide, _, _, hT1.1, rfl, ?_⟩
  refine ⟨_, hT1.1, Nat.le_of_ble_eq_true rfl, rfl, ?_⟩
  have hfin : sT (sT h t b he (nI n) (nI (skp F n (n - p) p)) fr ki pl) t b he (nI n) (nI (skp F n (n - p) p)) (nI (skp F n (n - p) p)) ki pl = sT h t b he (nI n) (nI (skp F n (n - p) p)) (nI (skp F n (n - p) p)) ki pl := sT_sT
  have kk2 := loop (n - (skp F n (n - p) p)) 0 (skp F n (n - p) p) (sT h t b he (nI n) (nI (skp F n (n - p) p)) (nI (skp F n (n - p) p)) ki pl) rfl (by omega) (by omega) rfl (hT.set _ _ _ _ _ _) rfl
  rw [← hfin] at kk2
  exact kk2
end Q08D
