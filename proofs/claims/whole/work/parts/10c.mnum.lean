section Q10C
theorem M_pass {g : qG} (hg : qOK g) {h : qH} {x : Nat → Int32} {y : Nat → Int64} (hM : h.2 63 = some (M63 x y)) {F : Nat → Int32} {n a : Nat} (hT : mT x n (.inr a)) (hB : mB h F) : qSpec g 2 0 0 mX12_pass [.ref 63] h (fun r h' => r = none ∧ mP h h' x y [4] n (.inr (lrun F n (n - a) a))) := by
  refine qSpec_run 12 "pass" false hg mX12_pass_ok rfl rfl (Nat.le_of_ble_eq_true rfl) (by decide) ?_
  intro run step
  obtain ⟨h3, hn, h5, h4, ha⟩ := hT
  obtain ⟨tp, hTp, hby⟩ := hB

  have c39 : ∀ (a1 : Nat) (hX : qH), hX.2 63 = some (M63 (upd x 4 (nI a1)) y) → hX.2 65 = some (aI' 600 tp) → same h hX [63] → a1 = lrun F n (n - a) a → a1 ≤ n → run 39 [(0, .ref 63)] [] hX 0 0 := by
    intro a1 hX hMX hTX hs hst hle
    refine step.1 _ _ _ _ _ _ _ sgX12_pass_39_ok ?_
    refine ⟨rfl, Nat.le_refl _, Nat.le_refl _, ?_⟩
    exact ⟨rfl, upd x 4 (nI a1), hMX, hs, fun k hk => upd_n (fun e => hk (e ▸ List.mem_singleton.mpr rfl)), h3, hn, h5, congrArg nI hst, by omega⟩
  have loop : ∀ (m a1 : Nat) (hX : qH), a1 + m = n → hX.2 63 = some (M63 (upd x 4 (nI a1)) y) → hX.2 65 = some (aI' 600 tp) → same h hX [63] → lrun F n m a1 = lrun F n (n - a) a → run 0 [(0, .ref 63)] [] hX 0 0 := by
    intro m
    induction m with
    | zero =>
      intro a1 hX hm hMX hTX hs hst
      refine step.1 _ _ _ _ _ _ _ sgX12_pass_0_ok ?_
      refine ⟨by decide, _, _, hMX, rfl, ?_⟩
      refine ⟨by decide, _, _, hMX, rfl, ?_⟩
      refine ⟨fun c8 => ?_, fun c8 => absurd (show x 3 ≤ nI a1 from by rw [h3, show a1 = n by omega]; exact Int32.le_refl _) c8⟩
      
      exact c39 a1 hX hMX hTX hs hst (by omega)
    | succ m ih =>
      intro a1 hX hm hMX hTX hs hst
      refine step.1 _ _ _ _ _ _ _ sgX12_pass_0_ok ?_
      refine ⟨by decide, _, _, hMX, rfl, ?_⟩
      refine ⟨by decide, _, _, hMX, rfl, ?_⟩
      refine ⟨fun c8 => absurd (show x 3 ≤ nI a1 from c8) (by rw [h3]; exact h_nle (by omega) (by omega)), fun c8 => ?_⟩
      refine ⟨by decide, _, _, hMX, rfl, ?_⟩
      refine ⟨by decide, _, _, hMX, rfl, ?_⟩
      refine ⟨_, _, hTX, vp_in_nI (n := a1) (N := 600) (by omega) (by decide), ?_⟩
      refine Or.inl ⟨rfl, _, 1, 0, 0, _, Or.inl qi_12_129, ⟨rfl, rfl⟩, rfl, rfl, M_isSmall hg _, fun y20 h20 hy20 => ?_⟩
      obtain ⟨rfl, hh⟩ := hy20
      rw [hh]
      clear hh
      refine ⟨fun c23 => ?_, fun c23 => ?_⟩
      · have c23 : islt (tp (nI a1).toNatClampNeg) = false := qb_0.mp c23
        rw [h_tn (n := a1) (by omega), hby a1 (by omega), ← tby_lt (show a1 < n by omega)] at c23
        exact c39 a1 hX hMX hTX hs (by rw [← hst, lrun, if_neg (by rw [c23]; decide)]) (by omega)
      · have c23 : islt (tp (nI a1).toNatClampNeg) = true := qb_1.mp c23
        rw [h_tn (n := a1) (by omega), hby a1 (by omega), ← tby_lt (show a1 < n by omega)] at c23
        refine ⟨rfl, ?_⟩
        refine ⟨by decide, _, _, hMX, rfl, ?_⟩
        refine ⟨_, hMX, Nat.le_of_ble_eq_true rfl, rfl, ?_⟩
        have kk2 := fun hZ => ih (a1 + 1) hZ (by omega)
        refine kk2 _ ?_ ?_ ?_ ?_
        · exact Eq.trans (b := some (M63 (upd x 4 (nI a1 + 1)) y)) rfl (congrArg (fun z => some (M63 (upd x 4 z) y)) (nI_1 a1))
        · exact hTX
        · exact hs.t2 (same.up (by simp) : same hX _ [63]) (by decide)
        · rw [← hst, lrun, if_pos c23]
  exact loop (n - a) a h (by omega) (by rw [upd_self h4]; exact hM) hTp same.rf rfl
def mcap (v c : Int32) : Int32 := if 9999 < v then 10000 else 10 * v + c - 48
def mrun (F : Nat → Int32) (n : Nat) : Nat → Nat → Int32 → Nat × Int32
  | 0, q, v => (q, v)
  | m + 1, q, v => if isdg (tby F n q) then mrun F n m (q + 1) (mcap v (tby F n q)) else (q, v)
theorem mrun_le (F : Nat → Int32) (n : Nat) : ∀ (m q : Nat) (v : Int32), q ≤ (mrun F n m q v).1 ∧ (mrun F n m q v).1 ≤ q + m
  | 0, q, v => ⟨Nat.le_refl _, Nat.le_refl _⟩
  | m + 1, q, v => by
    unfold mrun
    split
    · have := mrun_le F n m (q + 1) (mcap v (tby F n q)); omega
    · exact ⟨Nat.le_refl _, by omega⟩
theorem dg_nat {c : Int32} (h : isdg c = true) : ∃ d : Nat, d ≤ 9 ∧ c = nI (d + 48) := by
  simp only [isdg, Bool.and_eq_true, decide_eq_true_eq] at h
  obtain ⟨e, he, rfl⟩ := nI_of (Int32.not_lt.mpr (Int32.le_trans (by decide : (0 : Int32) ≤ 48) h.1))
  have h1 := (nI_leI (a := 48) (by decide) he).mp h.1
  have h2 := (nI_leI (b := 57) he (by decide)).mp h.2
  exact ⟨e - 48, by omega, by rw [show e - 48 + 48 = e by omega]⟩
theorem i48 (x d : Nat) : nI x + nI (d + 48) - 48 = nI (x + d) := by
  rw [nI_add, show x + (d + 48) = (x + d) + 48 by omega, ← nI_add (x + d) 48]
  exact Int32.add_sub_cancel _ _
theorem i48' (x d : Nat) : nI (d + 48) + nI x - 48 = nI (x + d) := by rw [Int32.add_comm]; exact i48 x d
/-- two counts that agree up to 9999 -/
def cap2 (p q : Nat) : Prop := (p = q ∧ p ≤ 9999) ∨ (9999 < p ∧ p ≤ 100000 ∧ 9999 < q ∧ q ≤ 100000)
theorem mrun_nrun (F : Nat → Int32) (n : Nat) : ∀ (m q p r : Nat), cap2 p r → ∃ (k p' r' : Nat), mrun F n m q (nI p) = (k, nI p') ∧ nrun F n m q (nI r) = (k, nI r') ∧ cap2 p' r'
  | 0, q, p, r, h => ⟨q, p, r, rfl, rfl, h⟩
  | m + 1, q, p, r, h => by
    by_cases c : isdg (tby F n q) = true
    · obtain ⟨d, hd, ed⟩ := dg_nat c
      have e1 : mcap (nI p) (tby F n q) = nI (if 9999 < p then 10000 else p * 10 + d) := by
        rw [ed, mcap]
        by_cases c1 : 9999 < p
        · rw [if_pos (show (9999 : Int32) < nI p from nI_lt (a := 9999) c1 (by unfold cap2 at h; omega)), if_pos c1]
          rfl
        · rw [if_neg (show ¬ (9999 : Int32) < nI p from fun z => c1 ((nI_ltI (a := 9999) (b := p) (by decide) (by unfold cap2 at h; omega)).mp z)), if_neg c1, show (10 : Int32) * nI p = nI (p * 10) from by rw [Int32.mul_comm]; exact pk_mul p 10]
          exact i48 _ _
      have hv : nI r * 10 + nI (d + 48) - 48 = nI (r * 10 + d) := by
        rw [show nI r * 10 = nI (r * 10) from pk_mul r 10]
        exact i48 _ _
      have e2 : vcap (nI r) (tby F n q) = nI (if r * 10 + d ≤ 100000 then r * 10 + d else 100000) := by
        rw [ed, vcap, hv]
        by_cases c1 : r * 10 + d ≤ 100000
        · rw [if_pos (show nI (r * 10 + d) ≤ (100000 : Int32) from nI_le (b := 100000) c1 (by decide)), if_pos c1]
        · rw [if_neg (show ¬ nI (r * 10 + d) ≤ (100000 : Int32) from fun z => c1 ((nI_leI (a := r * 10 + d) (b := 100000) (by unfold cap2 at h; omega) (by decide)).mp z)), if_neg c1]
          rfl
      obtain ⟨k, p', r', h1, h2, h3⟩ := mrun_nrun F n m (q + 1) (if 9999 < p then 10000 else p * 10 + d) (if r * 10 + d ≤ 100000 then r * 10 + d else 100000) (by
        unfold cap2 at h ⊢
        split <;> split <;> omega)
      exact ⟨k, p', r', by rw [mrun, if_pos c, e1, h1], by rw [nrun, if_pos c, e2, h2], h3⟩
    · exact ⟨q, p, r, by rw [mrun, if_neg c], by rw [nrun, if_neg c], h⟩
def mnr (F : Nat → Int32) (n a : Nat) : Nat × Int32 := mrun F n (n - sk F n a) (sk F n a) 0
theorem pnum_m (F : Nat → Int32) (n a : Nat) {lo hi : Int32} (hh : hi ≤ 9999) : pnum F n lo hi (.inr a) = if (mnr F n a).1 = sk F n a then (.inl (1, sk F n a), 0) else if (mnr F n a).2 < lo ∨ hi < (mnr F n a).2 then (.inl (2, sk F n a), 0) else (.inr (mnr F n a).1, (mnr F n a).2) := by
  obtain ⟨k, p, r, h1, h2, h3⟩ := mrun_nrun F n (n - sk F n a) (sk F n a) 0 0 (Or.inl ⟨rfl, by decide⟩)
  have e1 : mnr F n a = (k, nI p) := h1
  have e2 : pnr F n a = (k, nI r) := h2
  rw [pnum, e1, e2]
  by_cases c : k = sk F n a
  · simp only [if_pos c]
  · simp only [if_neg c]
    rcases h3 with ⟨e, _⟩ | ⟨h4, h5, h6, h7⟩
    · rw [e]
    · have b1 : hi < nI p := Int32.lt_of_le_of_lt hh (nI_lt (a := 9999) h4 (by omega))
      have b2 : hi < nI r := Int32.lt_of_le_of_lt hh (nI_lt (a := 9999) h6 (by omega))
      rw [if_pos (Or.inr b2), if_pos (Or.inr b1)]
theorem hch_dg {F : Nat → Int32} {n q : Nat} : isdg (hch F n q) = true ↔ q < n ∧ isdg (tby F n q) = true := by
  unfold hch
  constructor
  · intro h
    split at h
    · exact ⟨by assumption, h⟩
    · exact absurd h (by decide)
  · intro h
    rw [if_pos h.1]
    exact h.2
theorem M_num_l {g : qG} (hg : qOK g) {h : qH} {x : Nat → Int32} {y : Nat → Int64} (hM : h.2 63 = some (M63 x y)) {n : Nat} {e : Nat × Nat} (hT : mT x n (.inl e)) (lo hi : Int32) : qSpec g 2 0 0 mX12_readNumber [.ref 63, .int lo, .int hi] h (fun r h' => r = some (.int 0) ∧ h' = h) := by
  refine qSpec_run 12 "readNumber" false hg mX12_readNumber_ok rfl rfl (Nat.le_of_ble_eq_true rfl) (by decide) ?_
  intro run step
  refine step.1 _ _ _ _ _ _ _ sgX12_readNumber_0_ok ?_
  refine Or.inl ⟨rfl, _, 1, 0, 0, _, _, _, qi_12_142, ⟨rfl, rfl⟩, ⟨hM, rfl⟩, rfl, rfl, M_fineS hg hM hT, fun y1 h1 hy1 => ?_⟩
  obtain ⟨rfl, hh⟩ := hy1
  rw [hh]
  clear hh
  refine ⟨fun c4 => absurd rfl c4, fun c4 => ?_⟩
  
  refine ⟨.int, rfl, rfl, Nat.le_refl _, Nat.le_refl _, ?_⟩
  exact ⟨rfl, rfl⟩
theorem mnr_q {F : Nat → Int32} {n a : Nat} (hq : sk F n a ≤ n) (h : ¬ isdg (hch F n (sk F n a)) = true) : (mnr F n a).1 = sk F n a := by
  unfold mnr
  rcases Nat.lt_or_ge (sk F n a) n with z | z
  · obtain ⟨m, hm⟩ : ∃ m, n - sk F n a = m + 1 := ⟨n - sk F n a - 1, by omega⟩
    rw [hm, mrun, if_neg (fun c => h (hch_dg.mpr ⟨z, c⟩))]
  · rw [show n - sk F n a = 0 by omega, mrun]
theorem mnr_n {F : Nat → Int32} {n a : Nat} (z : sk F n a < n) (h : isdg (tby F n (sk F n a)) = true) : ¬ (mnr F n a).1 = sk F n a := by
  unfold mnr
  obtain ⟨m, hm⟩ : ∃ m, n - sk F n a = m + 1 := ⟨n - sk F n a - 1, by omega⟩
  rw [hm, mrun, if_pos h]
  have := (mrun_le F n m (sk F n a + 1) (mcap 0 (tby F n (sk F n a)))).1
  omega
theorem M_num_r {g : qG} (hg : qOK g) {h : qH} {x : Nat → Int32} {y : Nat → Int64} (hM : h.2 63 = some (M63 x y)) {F : Nat → Int32} {n a : Nat} (hT : mT x n (.inr a)) (hB : mB h F) {lo hi : Int32} (hh : hi ≤ 9999) : qSpec g 2 0 0 mX12_readNumber [.ref 63, .int lo, .int hi] h (fun r h' => r = some (.int (pnum F n lo hi (.inr a)).2) ∧ mP h h' x y [4, 5, 6] n (pnum F n lo hi (.inr a)).1) := by
  refine qSpec_run 12 "readNumber" false hg mX12_readNumber_ok rfl rfl (Nat.le_of_ble_eq_true rfl) (by decide) ?_
  intro run step
  obtain ⟨tp, hTp, hby⟩ := hB
  have hB : mB h F := ⟨tp, hTp, hby⟩
  have hsk := sk_le F hT.2.2.2.2
  have hn := hT.2.1
  have tail : ∀ (x1 : Nat → Int32) (h1 : qH), h1.2 63 = some (M63 x1 y) → h1.2 65 = some (aI' 600 tp) → same h h1 [63] → (∀ k : Nat, k ∉ [4] → x1 k = x k) → mT x1 n (.inr (sk F n a)) → ¬ (mnr F n a).1 = sk F n a → ∀ (m a1 : Nat) (v cc : Int32) (hX : qH), a1 + m = n → mrun F n m a1 v = (mnr F n a) → hX.2 63 = some (M63 (upd x1 4 (nI a1)) y) → hX.2 65 = some (aI' 600 tp) → same h hX [63] → run 41 [(5, .int v), (4, .int (nI (sk F n a))), (3, .int cc), (0, .ref 63), (1, .int lo), (2, .int hi)] [] hX 0 0 := by
    intro x1 h1 hM1 hTp1 hs1 hk1 hT1 hne
    have c114 : ∀ (a1 : Nat) (v cc : Int32) (hX : qH), (a1, v) = (mnr F n a) → a1 ≤ n → hX.2 63 = some (M63 (upd x1 4 (nI a1)) y) → hX.2 65 = some (aI' 600 tp) → same h hX [63] → run 114 [(5, .int v), (4, .int (nI (sk F n a))), (3, .int cc), (0, .ref 63), (1, .int lo), (2, .int hi)] [] hX 0 0 := by
      intro a1 v cc hX hst hle hMX hTX hs
      have hTa : mT (upd x1 4 (nI a1)) n (.inr a1) := ⟨hT1.1, hn, hT1.2.2.1, rfl, hle⟩
      refine step.1 _ _ _ _ _ _ _ sgX12_readNumber_114_ok ?_
      refine ⟨fun c117 => ?_, fun c117 => ?_⟩
      · have c117 : v < lo := c117
        refine step.1 _ _ _ _ _ _ _ sgX12_readNumber_126_ok ?_
        refine Or.inl ⟨rfl, _, 1, 0, 0, _, _, _, qi_12_149, ⟨rfl, rfl⟩, ⟨hMX, rfl⟩, rfl, rfl, M_wrong_r hg hMX hTa 2 (sk F n a) (by omega), fun y130 h130 hy130 => ?_⟩
        obtain ⟨rfl, x2, hM2, hs2, hk2, hT2⟩ := hy130
        refine ⟨.int, rfl, rfl, Nat.le_refl _, Nat.le_refl _, ?_⟩
        rw [pnum_m F n a hh, if_neg hne, if_pos (by rw [← hst]; exact Or.inl c117)]
        exact ⟨rfl, x2, hM2, hs.t2 hs2 (by decide), fun k hk => (hk2 k (by simp at hk ⊢; omega)).trans ((upd_n (by simp at hk; omega)).trans (hk1 k (by simp at hk ⊢; omega))), hT2⟩
      · have c117 : ¬ v < lo := Int32.not_lt.mpr (by exact Int32.not_lt.mp c117)
        refine ⟨fun c123 => ?_, fun c123 => ?_⟩
        · have c123 : ¬ hi < v := Int32.not_lt.mpr c123
          refine step.1 _ _ _ _ _ _ _ sgX12_readNumber_135_ok ?_
          refine ⟨.int, rfl, rfl, Nat.le_refl _, Nat.le_refl _, ?_⟩
          rw [pnum_m F n a hh, if_neg hne, if_neg (by rw [← hst]; exact fun z => z.elim c117 c123), ← hst]
          exact ⟨rfl, upd x1 4 (nI a1), hMX, hs, fun k hk => (upd_n (by simp at hk; omega)).trans (hk1 k (by simp at hk ⊢; omega)), hTa⟩
        · have c123 : hi < v := Int32.not_le.mp c123
          refine step.1 _ _ _ _ _ _ _ sgX12_readNumber_126_ok ?_
          refine Or.inl ⟨rfl, _, 1, 0, 0, _, _, _, qi_12_149, ⟨rfl, rfl⟩, ⟨hMX, rfl⟩, rfl, rfl, M_wrong_r hg hMX hTa 2 (sk F n a) (by omega), fun y130 h130 hy130 => ?_⟩
          obtain ⟨rfl, x2, hM2, hs2, hk2, hT2⟩ := hy130
          refine ⟨.int, rfl, rfl, Nat.le_refl _, Nat.le_refl _, ?_⟩
          rw [pnum_m F n a hh, if_neg hne, if_pos (by rw [← hst]; exact Or.inr c123)]
          exact ⟨rfl, x2, hM2, hs.t2 hs2 (by decide), fun k hk => (hk2 k (by simp at hk ⊢; omega)).trans ((upd_n (by simp at hk; omega)).trans (hk1 k (by simp at hk ⊢; omega))), hT2⟩
    intro m
    induction m with
    | zero =>
      intro a1 v cc hX hm hst hMX hTX hs
      refine step.1 _ _ _ _ _ _ _ sgX12_readNumber_41_ok ?_
      refine ⟨by decide, _, _, hMX, rfl, ?_⟩
      refine ⟨by decide, _, _, hMX, rfl, ?_⟩
      refine ⟨fun c49 => ?_, fun c49 => absurd (show x1 3 ≤ nI a1 from by rw [hT1.1, show a1 = n by omega]; exact Int32.le_refl _) c49⟩
      
      exact c114 a1 v cc hX hst (by omega) hMX hTX hs
    | succ m ih =>
      intro a1 v cc hX hm hst hMX hTX hs
      refine step.1 _ _ _ _ _ _ _ sgX12_readNumber_41_ok ?_
      refine ⟨by decide, _, _, hMX, rfl, ?_⟩
      refine ⟨by decide, _, _, hMX, rfl, ?_⟩
      refine ⟨fun c49 => absurd (show x1 3 ≤ nI a1 from c49) (by rw [hT1.1]; exact h_nle (by omega) (by omega)), fun c49 => ?_⟩
      refine ⟨by decide, _, _, hMX, rfl, ?_⟩
      refine ⟨by decide, _, _, hMX, rfl, ?_⟩
      refine ⟨_, _, hTX, vp_in_nI (n := a1) (N := 600) (by omega) (by decide), ?_⟩
      refine Or.inl ⟨rfl, _, 1, 0, 0, _, Or.inl qi_12_146, ⟨rfl, rfl⟩, rfl, rfl, M_isDigit hg _, fun y61 h61 hy61 => ?_⟩
      obtain ⟨rfl, hh⟩ := hy61
      rw [hh]
      clear hh
      refine ⟨fun c64 => ?_, fun c64 => ?_⟩
      · have c64 : isdg (tp (nI a1).toNatClampNeg) = false := qb_0.mp c64
        rw [h_tn (n := a1) (by omega), hby a1 (by omega), ← tby_lt (show a1 < n by omega)] at c64
        exact c114 a1 v cc hX (by rw [← hst, mrun, if_neg (by rw [c64]; decide)]) (by omega) hMX hTX hs
      · have c64 : isdg (tp (nI a1).toNatClampNeg) = true := qb_1.mp c64
        rw [h_tn (n := a1) (by omega), hby a1 (by omega), ← tby_lt (show a1 < n by omega)] at c64
        refine ⟨fun c72 => ?_, fun c72 => ?_⟩
        · have c72 : ¬ 9999 < v := Int32.not_lt.mpr c72
          refine step.1 _ _ _ _ _ _ _ sgX12_readNumber_81_ok ?_
          refine ⟨by decide, _, _, hMX, rfl, ?_⟩
          refine ⟨by decide, _, _, hMX, rfl, ?_⟩
          refine ⟨_, _, hTX, vp_in_nI (n := a1) (N := 600) (by omega) (by decide), ?_⟩
          refine step.1 _ _ _ _ _ _ _ sgX12_readNumber_99_ok ?_
          refine ⟨rfl, ?_⟩
          refine ⟨by decide, _, _, hMX, rfl, ?_⟩
          refine ⟨_, hMX, Nat.le_of_ble_eq_true rfl, rfl, ?_⟩
          have ev : mcap v (tby F n a1) = 10 * v + tp (nI a1).toNatClampNeg - 48 := by
            rw [h_tn (n := a1) (by omega), hby a1 (by omega), ← tby_lt (show a1 < n by omega)]
            exact if_neg c72
          have kk2 := fun hZ => ih (a1 + 1) (mcap v (tby F n a1)) cc hZ (by omega) (by rw [← hst, mrun, if_pos c64])
          rw [ev] at kk2
          refine kk2 _ ?_ ?_ ?_
          · exact Eq.trans (b := some (M63 (upd x1 4 (nI a1 + 1)) y)) rfl (congrArg (fun z => some (M63 (upd x1 4 z) y)) (nI_1 a1))
          · exact hTX
          · exact hs.t2 (same.up (by simp) : same hX _ [63]) (by decide)
        · have c72 : 9999 < v := Int32.not_le.mp c72
          refine step.1 _ _ _ _ _ _ _ sgX12_readNumber_99_ok ?_
          refine ⟨rfl, ?_⟩
          refine ⟨by decide, _, _, hMX, rfl, ?_⟩
          refine ⟨_, hMX, Nat.le_of_ble_eq_true rfl, rfl, ?_⟩
          have ev : mcap v (tby F n a1) = 10000 := if_pos c72
          have kk2 := fun hZ => ih (a1 + 1) (mcap v (tby F n a1)) cc hZ (by omega) (by rw [← hst, mrun, if_pos c64])
          rw [ev] at kk2
          refine kk2 _ ?_ ?_ ?_
          · exact Eq.trans (b := some (M63 (upd x1 4 (nI a1 + 1)) y)) rfl (congrArg (fun z => some (M63 (upd x1 4 z) y)) (nI_1 a1))
          · exact hTX
          · exact hs.t2 (same.up (by simp) : same hX _ [63]) (by decide)
  refine step.1 _ _ _ _ _ _ _ sgX12_readNumber_0_ok ?_
  refine Or.inl ⟨rfl, _, 1, 0, 0, _, _, _, qi_12_142, ⟨rfl, rfl⟩, ⟨hM, rfl⟩, rfl, rfl, M_fineS hg hM hT, fun y1 h1 hy1 => ?_⟩
  obtain ⟨rfl, hh⟩ := hy1
  rw [hh]
  clear hh
  refine ⟨fun c4 => ?_, fun c4 => absurd (show (1 : Int32) = 0 from c4) (by decide)⟩
  
  refine step.1 _ _ _ _ _ _ _ sgX12_readNumber_9_ok ?_
  refine Or.inl ⟨rfl, _, 1, 0, 0, _, _, _, qi_12_125, ⟨rfl, rfl⟩, ⟨hM, rfl⟩, rfl, rfl, M_here hg hM hT hB, fun y10 h10 hy10 => ?_⟩
  obtain ⟨rfl, x1, hM1, hs1, hk1, hT1⟩ := hy10
  refine ⟨by decide, _, _, hM1, rfl, ?_⟩
  refine Or.inl ⟨rfl, _, 1, 0, 0, _, Or.inl qi_12_146, ⟨rfl, rfl⟩, rfl, rfl, M_isDigit hg _, fun y24 h24 hy24 => ?_⟩
  obtain ⟨rfl, hh⟩ := hy24
  rw [hh]
  clear hh
  refine ⟨fun c27 => ?_, fun c27 => ?_⟩
  · have hd := hch_dg.mp (qb_1.mp c27)
    have kk := tail x1 h10 hM1 ((hs1.2 65 (by decide)).trans hTp) hs1 hk1 hT1 (mnr_n hd.1 hd.2) (n - sk F n a) (sk F n a) 0 (hch F n (sk F n a)) h10 (by omega) rfl (by rw [upd_self hT1.2.2.2.1]; exact hM1) ((hs1.2 65 (by decide)).trans hTp) hs1
    rw [← hT1.2.2.2.1] at kk
    exact kk
  · have hd : ¬ isdg (hch F n (sk F n a)) = true := by
      rw [show isdg (hch F n (sk F n a)) = false from qb_0.mp c27]
      decide
    refine ⟨by decide, _, _, hM1, rfl, ?_⟩
    refine Or.inl ⟨rfl, _, 1, 0, 0, _, _, _, qi_12_149, ⟨rfl, rfl⟩, ⟨hM1, rfl⟩, rfl, rfl, (by rw [hT1.2.2.2.1]; exact M_wrong_r hg hM1 hT1 1 (sk F n a) (by omega)), fun y36 h36 hy36 => ?_⟩
    obtain ⟨rfl, x2, hM2, hs2, hk2, hT2⟩ := hy36
    refine ⟨.int, rfl, rfl, Nat.le_refl _, Nat.le_refl _, ?_⟩
    rw [pnum_m F n a hh, if_pos (mnr_q hsk.2 hd)]
    exact ⟨rfl, x2, hM2, hs1.t2 hs2 (by decide), fun k hk => (hk2 k (by simp at hk ⊢; omega)).trans (hk1 k (by simp at hk ⊢; omega)), hT2⟩
theorem M_num {g : qG} (hg : qOK g) {h : qH} {x : Nat → Int32} {y : Nat → Int64} (hM : h.2 63 = some (M63 x y)) {F : Nat → Int32} {n : Nat} {s : PS} (hT : mT x n s) (hB : mB h F) (lo : Int32) {hi : Int32} (hh : hi ≤ 9999) : qSpec g 2 0 0 mX12_readNumber [.ref 63, .int lo, .int hi] h (fun r h' => r = some (.int (pnum F n lo hi s).2) ∧ mP h h' x y [4, 5, 6] n (pnum F n lo hi s).1) := by
  match s, hT with
  | .inl e, hT => exact qSpec_mono (M_num_l hg hM hT _ _) (fun r h' hy => ⟨hy.1, hy.2 ▸ mP.rf hM hT _⟩)
  | .inr a, hT => exact M_num_r hg hM hT hB hh
end Q10C
