section Q10D
theorem nI_bv (n : Nat) : (nI n).toBitVec = BitVec.ofNat 32 n := rfl
theorem sh5 {v d : Nat} (hv : v < 2 ^ 25) (hd : d < 32) : (nI v <<< ((5 : Int32) &&& 31)) ||| nI d = nI (v * 32 + d) := by
  apply Int32.toBitVec.inj
  rw [Int32.toBitVec_or, Int32.toBitVec_shiftLeft, nI_bv, nI_bv, nI_bv]
  have e : ((5 : Int32) &&& 31).toBitVec.smod 32 = 5#32 := by decide
  rw [e]
  apply BitVec.eq_of_toNat_eq
  rw [BitVec.toNat_or]
  have e5 : (BitVec.ofNat 32 v <<< 5#32).toNat = (v % 2 ^ 32) <<< 5 % 2 ^ 32 := by
    show (BitVec.ofNat 32 v <<< (5#32).toNat).toNat = _
    rw [BitVec.toNat_shiftLeft, BitVec.toNat_ofNat]
    rfl
  rw [e5]
  simp only [BitVec.toNat_ofNat]
  rw [Nat.mod_eq_of_lt (show v < 2 ^ 32 by omega), Nat.mod_eq_of_lt (show d < 2 ^ 32 by omega), Nat.mod_eq_of_lt (show v * 32 + d < 2 ^ 32 by omega)]
  have e2 : v <<< 5 % 2 ^ 32 = v * 32 := by
    rw [Nat.shiftLeft_eq, Nat.mod_eq_of_lt (by omega)]
  rw [e2]
  have e3 := Nat.shiftLeft_add_eq_or_of_lt (a := v) (b := d) (i := 5) (by omega)
  rw [Nat.shiftLeft_eq, show (2 : Nat) ^ 5 = 32 from rfl] at e3
  exact e3.symm
theorem i96 {c : Nat} (h : 97 ≤ c) : nI c - 96 = nI (c - 96) := by
  have e : nI c = nI (c - 96) + 96 := by
    rw [show (96 : Int32) = nI 96 from rfl, nI_add, show c - 96 + 96 = c by omega]
  rw [e]
  exact Int32.add_sub_cancel _ _
/-- the first k letters, packed by five bits -/
def pkn (l : Nat → Nat) : Nat → Nat
  | 0 => 0
  | k + 1 => pkn l k * 32 + (l k - 96)
def lets (l : Nat → Nat) (k : Nat) : Prop := ∀ i : Nat, i < k → 97 ≤ l i ∧ l i ≤ 122
theorem pkn_lt {l : Nat → Nat} : ∀ {k : Nat}, lets l k → pkn l k < 32 ^ k
  | 0, _ => Nat.one_pos
  | k + 1, h => by
    have := pkn_lt (k := k) (fun i hi => h i (by omega))
    have h2 := h k (by omega)
    rw [pkn, Nat.pow_succ]
    omega
theorem pkn_lt25 {l : Nat → Nat} {k : Nat} (h : lets l k) (hk : k ≤ 5) : pkn l k < 2 ^ 25 := by
  have h1 := pkn_lt h
  have h2 : 32 ^ k ≤ 32 ^ 5 := Nat.pow_le_pow_right (by decide) hk
  have : (32 : Nat) ^ 5 = 2 ^ 25 := by decide
  omega
theorem pkn_s {l : Nat → Nat} {k : Nat} (h : lets l (k + 1)) (hk : k ≤ 5) : (nI (pkn l k) <<< ((5 : Int32) &&& 31)) ||| (nI (l k) - 96) = nI (pkn l (k + 1)) := by
  have h2 := h k (by omega)
  rw [i96 h2.1, sh5 (pkn_lt25 (fun i hi => h i (by omega)) hk) (by omega), pkn]
/-- packing loses nothing -/
theorem pkn_inj {l l' : Nat → Nat} : ∀ {k k' : Nat}, lets l k → lets l' k' → pkn l k = pkn l' k' → k = k' ∧ ∀ i : Nat, i < k → l i = l' i
  | 0, 0, _, _, _ => ⟨rfl, fun i hi => absurd hi (by omega)⟩
  | 0, k' + 1, _, h', e => by
    have h2 := h' k' (by omega)
    rw [pkn, pkn] at e
    omega
  | k + 1, 0, h, _, e => by
    have h2 := h k (by omega)
    rw [pkn, pkn] at e
    omega
  | k + 1, k' + 1, h, h', e => by
    have h2 := h k (by omega)
    have h3 := h' k' (by omega)
    rw [pkn, pkn] at e
    have e1 : pkn l k = pkn l' k' := by omega
    have e2 : l k = l' k' := by omega
    obtain ⟨e3, e4⟩ := pkn_inj (fun i hi => h i (by omega)) (fun i hi => h' i (by omega)) e1
    subst e3
    refine ⟨rfl, fun i hi => ?_⟩
    rcases Nat.lt_or_ge i k with z | z
    · exact e4 i z
    · obtain rfl : i = k := by omega
      exact e2
theorem M_of {g : qG} (hg : qOK g) {h : qH} (hJ : qJDK g) {j jv len : Nat} {f : Nat → Nat} (hS : qSTR g j jv len f) (hl : len ≤ 6) (hf : lets f len) : qSpec g 5 0 0 mX12_of [.retAddr j] h (fun r h' => r = some (.int (nI (pkn f len))) ∧ h' = h) := by
  refine qSpec_runR 12 "of" false hg mX12_of_ok rfl rfl (Nat.le_of_ble_eq_true rfl) (by decide) ?_
  intro run step stepR
  have hlen : len < 2 ^ 31 := by omega
  have loop : ∀ (m i : Nat), i + m = len → run 4 [(2, .int (nI i)), (1, .int (nI (pkn f i))), (0, .retAddr j)] [] h 0 0 := by
    intro m
    induction m with
    | zero =>
      intro i hm
      refine step.1 _ _ _ _ _ _ _ srX12_of_4_ok ?_
      refine stepR 133 6 2 0 0 j _ [] _ _ _ _ _ _ qi_12_133 ⟨rfl, rfl⟩ hS.1 rfl (by decide +kernel) (J_length hg hJ hS) (fun y6 h6 hy6 => ?_)
      obtain ⟨rfl, hh⟩ := hy6
      rw [hh]
      clear hh
      refine step.1 _ _ _ _ _ _ _ srX12_of_9_ok ?_
      refine ⟨fun c9 => ?_, fun c9 => absurd (show nI len ≤ nI i from nI_le (by omega) (by omega)) c9⟩
      
      refine step.1 _ _ _ _ _ _ _ srX12_of_31_ok ?_
      refine ⟨.int, rfl, rfl, Nat.le_refl _, Nat.le_refl _, ?_⟩
      exact ⟨by rw [show i = len by omega], rfl⟩
    | succ m ih =>
      intro i hm
      refine step.1 _ _ _ _ _ _ _ srX12_of_4_ok ?_
      refine stepR 133 6 2 0 0 j _ [] _ _ _ _ _ _ qi_12_133 ⟨rfl, rfl⟩ hS.1 rfl (by decide +kernel) (J_length hg hJ hS) (fun y6 h6 hy6 => ?_)
      obtain ⟨rfl, hh⟩ := hy6
      rw [hh]
      clear hh
      refine step.1 _ _ _ _ _ _ _ srX12_of_9_ok ?_
      refine ⟨fun c9 => absurd c9 (h_nle (by omega) (by omega)), fun c9 => ?_⟩
      refine stepR 138 17 4 0 0 j _ [.int (nI i)] _ _ _ _ _ _ qi_12_138 ⟨rfl, rfl⟩ hS.1 rfl (by decide +kernel) (J_charAt hg hJ hS (i := i) (by omega)) (fun y17 h17 hy17 => ?_)
      obtain ⟨rfl, hh⟩ := hy17
      rw [hh]
      clear hh
      refine step.1 _ _ _ _ _ _ _ srX12_of_20_ok ?_
      have kk2 := ih (i + 1) (by omega)
      rw [← pkn_s (fun q hq => hf q (by omega)) (by omega), ← nI_1] at kk2
      exact kk2
  refine step.1 _ _ _ _ _ _ _ srX12_of_0_ok ?_
  exact loop len 0 (by omega)
/-- the letters of a text from q on -/
def tl (F : Nat → Int32) (q : Nat) : Nat → Nat := fun k => (F (q + k) &&& 255).toNatClampNeg
/-- a word of the text, packed -/
def mword (F : Nat → Int32) (n q : Nat) : Int32 := if 6 < lrun F n (n - q) q - q then 0 else nI (pkn (tl F q) (lrun F n (n - q) q - q))
theorem lt_nat {c : Int32} (h : islt c = true) : ∃ e : Nat, 97 ≤ e ∧ e ≤ 122 ∧ c = nI e := by
  simp only [islt, Bool.and_eq_true, decide_eq_true_eq] at h
  obtain ⟨e, he, rfl⟩ := nI_of (Int32.not_lt.mpr (Int32.le_trans (by decide : (0 : Int32) ≤ 97) h.1))
  exact ⟨e, (nI_leI (a := 97) (by decide) he).mp h.1, (nI_leI (b := 122) he (by decide)).mp h.2, rfl⟩
theorem tl_nI {F : Nat → Int32} {q k : Nat} (h : islt (F (q + k) &&& 255) = true) : F (q + k) &&& 255 = nI (tl F q k) ∧ 97 ≤ tl F q k ∧ tl F q k ≤ 122 := by
  obtain ⟨e, h1, h2, h3⟩ := lt_nat h
  have e4 : tl F q k = e := by
    unfold tl
    rw [h3, h_tn (by omega)]
  rw [e4]
  exact ⟨h3, h1, h2⟩
theorem M_word {g : qG} (hg : qOK g) {h : qH} {x : Nat → Int32} {y : Nat → Int64} (hM : h.2 63 = some (M63 x y)) {F : Nat → Int32} {n a : Nat} (hT : mT x n (.inr a)) (hB : mB h F) : qSpec g 2 0 0 mX12_word [.ref 63] h (fun r h' => r = some (.int (mword F n (sk F n a))) ∧ mP h h' x y [4] n (.inr (sk F n a))) := by
  refine qSpec_run 12 "word" false hg mX12_word_ok rfl rfl (Nat.le_of_ble_eq_true rfl) (by decide) ?_
  intro run step
  obtain ⟨tp, hTp, hby⟩ := hB
  have hB : mB h F := ⟨tp, hTp, hby⟩
  have hsk := sk_le F hT.2.2.2.2
  have hn := hT.2.1
  have tail : ∀ (x1 : Nat → Int32) (h1 : qH), h1.2 63 = some (M63 x1 y) → h1.2 65 = some (aI' 600 tp) → mP h h1 x y [4] n (.inr (sk F n a)) → mT x1 n (.inr (sk F n a)) → ∀ (m k : Nat), sk F n a + k + m = n → lrun F n m (sk F n a + k) = lrun F n (n - sk F n a) (sk F n a) → lets (tl F (sk F n a)) k → run 14 [(3, .int (nI (sk F n a + k))), (2, .int (nI k)), (1, .int (if k ≤ 6 then nI (pkn (tl F (sk F n a)) k) else 0)), (0, .ref 63)] [] h1 0 0 := by
    intro x1 h1 hM1 hTp1 hPx hT1
    generalize hq : sk F n a = q at *
    have c67 : ∀ (k : Nat) (cc : Int32), q + k = lrun F n (n - q) q → q + k ≤ n → run 67 [(3, .int cc), (2, .int (nI k)), (1, .int (if k ≤ 6 then nI (pkn (tl F q) k) else 0)), (0, .ref 63)] [] h1 0 0 := by
      intro k cc hst hle
      refine step.1 _ _ _ _ _ _ _ sgX12_word_67_ok ?_
      refine ⟨fun c70 => ?_, fun c70 => ?_⟩
      · have c70 : ¬ 6 < k := fun z => h_nle (a := 6) (b := k) z (by omega) c70
        refine step.1 _ _ _ _ _ _ _ sgX12_word_77_ok ?_
        refine step.1 _ _ _ _ _ _ _ sgX12_word_78_ok ?_
        refine ⟨.int, rfl, rfl, Nat.le_refl _, Nat.le_refl _, ?_⟩
        exact ⟨by rw [mword, ← hst, show q + k - q = k by omega, if_neg c70, if_pos (by omega)], hPx⟩
      · have c70 : 6 < k := by
          rcases Nat.lt_or_ge 6 k with z | z
          · exact z
          · exact absurd (nI_le (b := 6) z (by decide)) c70
        refine step.1 _ _ _ _ _ _ _ sgX12_word_78_ok ?_
        refine ⟨.int, rfl, rfl, Nat.le_refl _, Nat.le_refl _, ?_⟩
        exact ⟨by rw [mword, ← hst, show q + k - q = k by omega, if_pos c70], hPx⟩
    intro m
    induction m with
    | zero =>
      intro k hm hst hl
      refine step.1 _ _ _ _ _ _ _ sgX12_word_14_ok ?_
      refine ⟨by decide, _, _, hM1, rfl, ?_⟩
      refine ⟨fun c19 => ?_, fun c19 => absurd (show x1 3 ≤ nI (q + k) from by rw [hT1.1, show q + k = n by omega]; exact Int32.le_refl _) c19⟩
      
      exact c67 k _ hst (by omega)
    | succ m ih =>
      intro k hm hst hl
      refine step.1 _ _ _ _ _ _ _ sgX12_word_14_ok ?_
      refine ⟨by decide, _, _, hM1, rfl, ?_⟩
      refine ⟨fun c19 => absurd (show x1 3 ≤ nI (q + k) from c19) (by rw [hT1.1]; exact h_nle (by omega) (by omega)), fun c19 => ?_⟩
      refine ⟨by decide, _, _, hM1, rfl, ?_⟩
      refine ⟨_, _, hTp1, vp_in_nI (n := q + k) (N := 600) (by omega) (by decide), ?_⟩
      refine Or.inl ⟨rfl, _, 1, 0, 0, _, Or.inl qi_12_129, ⟨rfl, rfl⟩, rfl, rfl, M_isSmall hg _, fun y28 h28 hy28 => ?_⟩
      obtain ⟨rfl, hh⟩ := hy28
      rw [hh]
      clear hh
      refine ⟨fun c31 => ?_, fun c31 => ?_⟩
      · have c31 : islt (tp (nI (q + k)).toNatClampNeg) = false := qb_0.mp c31
        rw [h_tn (n := q + k) (by omega), hby (q + k) (by omega)] at c31
        exact c67 k _ (by rw [← hst, lrun, if_neg (by rw [tby_lt (show q + k < n by omega), c31]; decide)]) (by omega)
      · have c31 : islt (tp (nI (q + k)).toNatClampNeg) = true := qb_1.mp c31
        rw [h_tn (n := q + k) (by omega), hby (q + k) (by omega)] at c31
        have c31' : islt (tby F n (q + k)) = true := by rw [tby_lt (by omega)]; exact c31
        have hc := tl_nI c31
        refine ⟨fun c37 => ?_, fun c37 => ?_⟩
        · have c37 : ¬ k < 6 := fun z => absurd (nI_lt (b := 6) z (by decide)) (Int32.not_lt.mpr c37)
          refine step.1 _ _ _ _ _ _ _ sgX12_word_56_ok ?_
          refine step.1 _ _ _ _ _ _ _ sgX12_word_57_ok ?_
          have kk2 := ih (k + 1) (by omega) (by rw [← hst, lrun, if_pos c31']; rfl) (fun i hi => by
            rcases Nat.lt_or_ge i k with z | z
            · exact hl i z
            · obtain rfl : i = k := by omega
              exact hc.2)
          have ev : (if k + 1 ≤ 6 then nI (pkn (tl F q) (k + 1)) else 0) = 0 := if_neg (by omega)
          rw [ev, ← nI_1, show q + (k + 1) = q + k + 1 by omega, ← nI_1 (q + k)] at kk2
          exact kk2
        · have c37 : k < 6 := by
            rcases Nat.lt_or_ge k 6 with z | z
            · exact z
            · exact absurd (nI_le (a := 6) z (by omega)) c37
          refine ⟨by decide, _, _, hM1, rfl, ?_⟩
          refine ⟨_, _, hTp1, vp_in_nI (n := q + k) (N := 600) (by omega) (by decide), ?_⟩
          refine step.1 _ _ _ _ _ _ _ sgX12_word_57_ok ?_
          have kk2 := ih (k + 1) (by omega) (by rw [← hst, lrun, if_pos c31']; rfl) (fun i hi => by
            rcases Nat.lt_or_ge i k with z | z
            · exact hl i z
            · obtain rfl : i = k := by omega
              exact hc.2)
          have ev : (if k + 1 ≤ 6 then nI (pkn (tl F q) (k + 1)) else 0) = (if k ≤ 6 then nI (pkn (tl F q) k) else 0) <<< ((5 : Int32) &&& 31) ||| (tp (nI (q + k)).toNatClampNeg - 96) := by
            rw [if_pos (by omega), if_pos (by omega), h_tn (n := q + k) (by omega), hby (q + k) (by omega), hc.1]
            refine (pkn_s (fun i hi => ?_) (by omega)).symm
            rcases Nat.lt_or_ge i k with z | z
            · exact hl i z
            · obtain rfl : i = k := by omega
              exact hc.2
          rw [ev, ← nI_1, show q + (k + 1) = q + k + 1 by omega, ← nI_1 (q + k)] at kk2
          exact kk2
  refine step.1 _ _ _ _ _ _ _ sgX12_word_0_ok ?_
  refine Or.inl ⟨rfl, _, 1, 0, 0, _, _, _, qi_12_125, ⟨rfl, rfl⟩, ⟨hM, rfl⟩, rfl, rfl, M_here hg hM hT hB, fun y1 h1 hy1 => ?_⟩
  obtain ⟨rfl, x1, hM1, hs1, hk1, hT1⟩ := hy1
  refine ⟨rfl, ?_⟩
  refine ⟨by decide, _, _, hM1, rfl, ?_⟩
  have kk := tail x1 h1 hM1 ((hs1.2 65 (by decide)).trans hTp) ⟨x1, hM1, hs1, hk1, hT1⟩ hT1 (n - sk F n a) 0 (by omega) rfl (fun i hi => absurd hi (by omega))
  rw [if_pos (by omega), Nat.add_zero, ← hT1.2.2.2.1] at kk
  exact kk
end Q10D
