section Q10B
theorem upd_self {f : Nat → Int32} {k : Nat} {v : Int32} (h : f k = v) : upd f k v = f := by
  funext j
  unfold upd
  split
  · rename_i e; rw [e, h]
  · rfl
/-- where the model's reading stands -/
def mT (x : Nat → Int32) (n : Nat) (s : PS) : Prop := x 3 = nI n ∧ n ≤ 600 ∧ (match s with
  | .inl e => x 6 = nI e.1 ∧ x 5 = nI e.2 ∧ e.2 ≤ 600
  | .inr a => x 5 = -1 ∧ x 4 = nI a ∧ a ≤ n)
/-- the model's tape holds these bytes -/
def mB (h : qH) (F : Nat → Int32) : Prop := ∃ tp : Nat → Int32, h.2 65 = some (aI' 600 tp) ∧ ∀ j : Nat, j < 600 → tp j = F j &&& 255
/-- a step of the reading: which fields may change, and where it stands behind it -/
def mP (h h' : qH) (x : Nat → Int32) (y : Nat → Int64) (Z : List Nat) (n : Nat) (s : PS) : Prop := ∃ x' : Nat → Int32, h'.2 63 = some (M63 x' y) ∧ same h h' [63] ∧ (∀ k : Nat, k ∉ Z → x' k = x k) ∧ mT x' n s
theorem mB.sm {h h' : qH} {F : Nat → Int32} {z : List Nat} (hB : mB h F) (hs : same h h' z) (hz : 65 ∉ z) : mB h' F := by
  obtain ⟨tp, h1, h2⟩ := hB
  exact ⟨tp, (hs.2 65 hz).trans h1, h2⟩
def hch (F : Nat → Int32) (n a : Nat) : Int32 := if a < n then tby F n a else 0
theorem tby_lt {F : Nat → Int32} {n a : Nat} (h : a < n) : tby F n a = F a &&& 255 := if_pos h
theorem mne {p : Nat} (h : p ≤ 600) : ¬ nI p = -1 := fun e => by
  have := nI_toInt (n := p) (by omega)
  rw [e] at this
  have e2 : (-1 : Int32).toInt = -1 := by decide
  omega
theorem M_here {g : qG} (hg : qOK g) {h : qH} {x : Nat → Int32} {y : Nat → Int64} (hM : h.2 63 = some (M63 x y)) {F : Nat → Int32} {n a : Nat} (hT : mT x n (.inr a)) (hB : mB h F) : qSpec g 1 0 0 mX12_here [.ref 63] h (fun r h' => r = some (.int (hch F n (sk F n a))) ∧ mP h h' x y [4] n (.inr (sk F n a))) := by
  refine qSpec_run 12 "here" false hg mX12_here_ok rfl rfl (Nat.le_of_ble_eq_true rfl) (by decide) ?_
  intro run step
  obtain ⟨h3, hn, h5, h4, ha⟩ := hT
  obtain ⟨tp, hTp, hby⟩ := hB

  have c38 : ∀ (a1 : Nat) (hX : qH), hX.2 63 = some (M63 (upd x 4 (nI a1)) y) → hX.2 65 = some (aI' 600 tp) → same h hX [63] → a1 = sk F n a → a1 ≤ n → run 38 [(0, .ref 63)] [] hX 0 0 := by
    intro a1 hX hMX hTX hs hst hle
    refine step.1 _ _ _ _ _ _ _ sgX12_here_38_ok ?_
    refine ⟨by decide, _, _, hMX, rfl, ?_⟩
    refine ⟨by decide, _, _, hMX, rfl, ?_⟩
    refine ⟨fun c46 => ?_, fun c46 => ?_⟩
    · have hge : ¬ a1 < n := by
        have c46 : x 3 ≤ nI a1 := c46
        rw [h3] at c46
        have := (nI_leI (by omega) (by omega)).mp c46
        omega
      refine step.1 _ _ _ _ _ _ _ sgX12_here_61_ok ?_
      refine step.1 _ _ _ _ _ _ _ sgX12_here_62_ok ?_
      refine ⟨.int, rfl, rfl, Nat.le_refl _, Nat.le_refl _, ?_⟩
      refine ⟨?_, upd x 4 (nI a1), hMX, hs, fun k hk => upd_n (fun e => hk (e ▸ List.mem_singleton.mpr rfl)), h3, hn, h5, congrArg nI hst, by omega⟩
      rw [show sk F n a = a1 from hst.symm]
      exact congrArg (fun z => some (Value.int z)) (show 0 = hch F n a1 from (if_neg (by omega)).symm)
    · have hlt : a1 < n := by
        have c46 : ¬ x 3 ≤ nI a1 := c46
        rw [h3] at c46
        rcases Nat.lt_or_ge a1 n with z | z
        · exact z
        · exact absurd (nI_le z (by omega)) c46
      refine ⟨by decide, _, _, hMX, rfl, ?_⟩
      refine ⟨by decide, _, _, hMX, rfl, ?_⟩
      refine ⟨_, _, hTX, vp_in_nI (n := a1) (N := 600) (by omega) (by decide), ?_⟩
      refine step.1 _ _ _ _ _ _ _ sgX12_here_62_ok ?_
      refine ⟨.int, rfl, rfl, Nat.le_refl _, Nat.le_refl _, ?_⟩
      refine ⟨?_, upd x 4 (nI a1), hMX, hs, fun k hk => upd_n (fun e => hk (e ▸ List.mem_singleton.mpr rfl)), h3, hn, h5, congrArg nI hst, by omega⟩
      rw [show sk F n a = a1 from hst.symm]
      exact congrArg (fun z => some (Value.int z)) (show tp (nI a1).toNatClampNeg = hch F n a1 from by rw [hch, if_pos hlt, tby_lt hlt, h_tn (n := a1) (by omega), hby a1 (by omega)])
  have loop : ∀ (m a1 : Nat) (hX : qH), a1 + m = n → hX.2 63 = some (M63 (upd x 4 (nI a1)) y) → hX.2 65 = some (aI' 600 tp) → same h hX [63] → skp F n m a1 = sk F n a → run 0 [(0, .ref 63)] [] hX 0 0 := by
    intro m
    induction m with
    | zero =>
      intro a1 hX hm hMX hTX hs hst
      refine step.1 _ _ _ _ _ _ _ sgX12_here_0_ok ?_
      refine ⟨by decide, _, _, hMX, rfl, ?_⟩
      refine ⟨by decide, _, _, hMX, rfl, ?_⟩
      refine ⟨fun c8 => ?_, fun c8 => absurd (show x 3 ≤ nI a1 from by rw [h3, show a1 = n by omega]; exact Int32.le_refl _) c8⟩
      
      exact c38 a1 hX hMX hTX hs hst (by omega)
    | succ m ih =>
      intro a1 hX hm hMX hTX hs hst
      refine step.1 _ _ _ _ _ _ _ sgX12_here_0_ok ?_
      refine ⟨by decide, _, _, hMX, rfl, ?_⟩
      refine ⟨by decide, _, _, hMX, rfl, ?_⟩
      refine ⟨fun c8 => absurd (show x 3 ≤ nI a1 from c8) (by rw [h3]; exact h_nle (by omega) (by omega)), fun c8 => ?_⟩
      refine ⟨by decide, _, _, hMX, rfl, ?_⟩
      refine ⟨by decide, _, _, hMX, rfl, ?_⟩
      refine ⟨_, _, hTX, vp_in_nI (n := a1) (N := 600) (by omega) (by decide), ?_⟩
      refine ⟨fun c22 => ?_, fun c22 => ?_⟩
      · have c22 : ¬ tp (nI a1).toNatClampNeg = 32 := c22
        rw [h_tn (n := a1) (by omega), hby a1 (by omega), ← tby_lt (show a1 < n by omega)] at c22
        exact c38 a1 hX hMX hTX hs ((show skp F n (m + 1) a1 = a1 from if_neg c22) ▸ hst) (by omega)
      · have c22 : tp (nI a1).toNatClampNeg = 32 := c22
        rw [h_tn (n := a1) (by omega), hby a1 (by omega), ← tby_lt (show a1 < n by omega)] at c22
        refine ⟨rfl, ?_⟩
        refine ⟨by decide, _, _, hMX, rfl, ?_⟩
        refine ⟨_, hMX, Nat.le_of_ble_eq_true rfl, rfl, ?_⟩
        have kk2 := fun hZ => ih (a1 + 1) hZ (by omega)
        refine kk2 _ ?_ ?_ ?_ ?_
        · exact Eq.trans (b := some (M63 (upd x 4 (nI a1 + 1)) y)) rfl (congrArg (fun z => some (M63 (upd x 4 z) y)) (nI_1 a1))
        · exact hTX
        · exact hs.t2 (same.up (by simp) : same hX _ [63]) (by decide)
        · rw [← hst, skp, if_pos c22]
  exact loop (n - a) a h (by omega) (by rw [upd_self h4]; exact hM) hTp same.rf rfl
theorem mT.fine {x : Nat → Int32} {n : Nat} {s : PS} (hT : mT x n s) : decide (x 5 = -1) = !pbad s := by
  match s, hT with
  | .inl e, ⟨_, _, _, h2, h3⟩ => rw [h2]; exact decide_eq_false (mne h3)
  | .inr a, ⟨_, _, h1, _⟩ => exact decide_eq_true h1
theorem M_fineS {g : qG} (hg : qOK g) {h : qH} {x : Nat → Int32} {y : Nat → Int64} (hM : h.2 63 = some (M63 x y)) {n : Nat} {s : PS} (hT : mT x n s) : qSpec g 1 0 0 mX12_fine [.ref 63] h (fun r h' => r = some (.int (qb (!pbad s))) ∧ h' = h) := by
  rw [← hT.fine]
  exact M_fine hg hM
theorem mP.rf {h : qH} {x : Nat → Int32} {y : Nat → Int64} (hM : h.2 63 = some (M63 x y)) {n : Nat} {s : PS} (hT : mT x n s) (Z : List Nat) : mP h h x y Z n s := ⟨x, hM, same.rf, fun _ _ => rfl, hT⟩
theorem u_n {f : Nat → Int32} {k j : Nat} {x : Int32} (Z : List Nat) (h : j ∉ Z) (hk : k ∈ Z) : upd f k x j = f j := upd_n (fun e => h (e ▸ hk))
theorem M_wrong_l {g : qG} (hg : qOK g) {h : qH} {x : Nat → Int32} {y : Nat → Int64} (hM : h.2 63 = some (M63 x y)) {n : Nat} {e : Nat × Nat} (hT : mT x n (.inl e)) (k p : Int32) : qSpec g 1 0 0 mX12_wrong [.ref 63, .int k, .int p] h (fun r h' => r = none ∧ h' = h) := by
  refine qSpec_run 12 "wrong" false hg mX12_wrong_ok rfl rfl (Nat.le_of_ble_eq_true rfl) (by decide) ?_
  intro run step
  refine step.1 _ _ _ _ _ _ _ sgX12_wrong_0_ok ?_
  refine ⟨by decide, _, _, hM, rfl, ?_⟩
  refine ⟨fun c5 => absurd (show x 5 = -1 from c5) (by rw [hT.2.2.2.1]; exact mne hT.2.2.2.2), fun c5 => ?_⟩
  
  refine ⟨rfl, Nat.le_refl _, Nat.le_refl _, ?_⟩
  exact ⟨rfl, rfl⟩
theorem M_wrong_r {g : qG} (hg : qOK g) {h : qH} {x : Nat → Int32} {y : Nat → Int64} (hM : h.2 63 = some (M63 x y)) {n a : Nat} (hT : mT x n (.inr a)) (k p : Nat) (hp : p ≤ 600) : qSpec g 1 0 0 mX12_wrong [.ref 63, .int (nI k), .int (nI p)] h (fun r h' => r = none ∧ mP h h' x y [5, 6] n (.inl (k, p))) := by
  refine qSpec_run 12 "wrong" false hg mX12_wrong_ok rfl rfl (Nat.le_of_ble_eq_true rfl) (by decide) ?_
  intro run step
  refine step.1 _ _ _ _ _ _ _ sgX12_wrong_0_ok ?_
  refine ⟨by decide, _, _, hM, rfl, ?_⟩
  refine ⟨fun c5 => ?_, fun c5 => absurd hT.2.2.1 c5⟩
  
  refine step.1 _ _ _ _ _ _ _ sgX12_wrong_9_ok ?_
  refine ⟨_, hM, Nat.le_of_ble_eq_true rfl, rfl, ?_⟩
  refine ⟨_, rfl, Nat.le_of_ble_eq_true rfl, rfl, ?_⟩
  refine ⟨rfl, Nat.le_refl _, Nat.le_refl _, ?_⟩
  exact ⟨rfl, upd (upd x 5 (nI p)) 6 (nI k), rfl, same.up2 (by simp) (by simp), fun j hj => (u_n [5, 6] hj (by simp)).trans (u_n [5, 6] hj (by simp)), hT.1, hT.2.1, rfl, rfl, hp⟩
theorem M_wrong {g : qG} (hg : qOK g) {h : qH} {x : Nat → Int32} {y : Nat → Int64} (hM : h.2 63 = some (M63 x y)) {n : Nat} {s : PS} (hT : mT x n s) (k p : Nat) (hp : p ≤ 600) : qSpec g 1 0 0 mX12_wrong [.ref 63, .int (nI k), .int (nI p)] h (fun r h' => r = none ∧ mP h h' x y [5, 6] n (pfail k p s)) := by
  match s, hT with
  | .inl e, hT => exact qSpec_mono (M_wrong_l hg hM hT _ _) (fun r h' hy => ⟨hy.1, hy.2 ▸ mP.rf hM hT _⟩)
  | .inr a, hT => exact M_wrong_r hg hM hT k p hp
theorem M_isMore {g : qG} (hg : qOK g) {h : qH} {x : Nat → Int32} {y : Nat → Int64} (hM : h.2 63 = some (M63 x y)) {F : Nat → Int32} {n a : Nat} (hT : mT x n (.inr a)) (hB : mB h F) : qSpec g 2 0 0 mX12_isMore [.ref 63] h (fun r h' => r = some (.int (qb (decide (sk F n a < n)))) ∧ mP h h' x y [4] n (.inr (sk F n a))) := by
  refine qSpec_run 12 "isMore" false hg mX12_isMore_ok rfl rfl (Nat.le_of_ble_eq_true rfl) (by decide) ?_
  intro run step
  refine step.1 _ _ _ _ _ _ _ sgX12_isMore_0_ok ?_
  refine Or.inl ⟨rfl, _, 1, 0, 0, _, _, _, qi_12_125, ⟨rfl, rfl⟩, ⟨hM, rfl⟩, rfl, rfl, M_here hg hM hT hB, fun y1 h1 hy1 => ?_⟩
  obtain ⟨rfl, x1, hM1, hs1, hk1, hT1⟩ := hy1
  have hsk := sk_le F hT.2.2.2.2
  have hn := hT.2.1
  refine ⟨rfl, ?_⟩
  refine ⟨by decide, _, _, hM1, rfl, ?_⟩
  refine ⟨by decide, _, _, hM1, rfl, ?_⟩
  refine ⟨fun c13 => ?_, fun c13 => ?_⟩
  · have c13 : x1 3 ≤ x1 4 := c13
    rw [hT1.1, hT1.2.2.2.1] at c13
    have c13 := (nI_leI (by omega) (by omega)).mp c13
    have e : decide (sk F n a < n) = false := decide_eq_false (by omega)
    refine step.1 _ _ _ _ _ _ _ sgX12_isMore_20_ok ?_
    refine step.1 _ _ _ _ _ _ _ sgX12_isMore_21_ok ?_
    refine ⟨.boolean, rfl, rfl, Nat.le_refl _, Nat.le_refl _, ?_⟩
    rw [e]
    exact ⟨rfl, x1, hM1, hs1, hk1, hT1⟩
  · have c13 : ¬ x1 3 ≤ x1 4 := c13
    rw [hT1.1, hT1.2.2.2.1] at c13
    have e : decide (sk F n a < n) = true := decide_eq_true (by
      rcases Nat.lt_or_ge (sk F n a) n with z | z
      · exact z
      · exact absurd (nI_le z (by omega)) c13)
    refine step.1 _ _ _ _ _ _ _ sgX12_isMore_21_ok ?_
    refine ⟨.boolean, rfl, rfl, Nat.le_refl _, Nat.le_refl _, ?_⟩
    rw [e]
    exact ⟨rfl, x1, hM1, hs1, hk1, hT1⟩
theorem M_sign_l {g : qG} (hg : qOK g) {h : qH} {x : Nat → Int32} {y : Nat → Int64} (hM : h.2 63 = some (M63 x y)) {n : Nat} {e : Nat × Nat} (hT : mT x n (.inl e)) (v : Int32) : qSpec g 2 0 0 mX12_sign [.ref 63, .int v] h (fun r h' => r = none ∧ h' = h) := by
  refine qSpec_run 12 "sign" false hg mX12_sign_ok rfl rfl (Nat.le_of_ble_eq_true rfl) (by decide) ?_
  intro run step
  refine step.1 _ _ _ _ _ _ _ sgX12_sign_0_ok ?_
  refine Or.inl ⟨rfl, _, 1, 0, 0, _, _, _, qi_12_142, ⟨rfl, rfl⟩, ⟨hM, rfl⟩, rfl, rfl, M_fineS hg hM hT, fun y1 h1 hy1 => ?_⟩
  obtain ⟨rfl, hh⟩ := hy1
  rw [hh]
  clear hh
  refine ⟨fun c4 => ?_, fun c4 => absurd rfl c4⟩
  
  refine step.1 _ _ _ _ _ _ _ sgX12_sign_24_ok ?_
  refine Or.inl ⟨rfl, _, 1, 0, 0, _, _, _, qi_12_142, ⟨rfl, rfl⟩, ⟨hM, rfl⟩, rfl, rfl, M_fineS hg hM hT, fun y25 h25 hy25 => ?_⟩
  obtain ⟨rfl, hh⟩ := hy25
  rw [hh]
  clear hh
  refine ⟨fun c28 => ?_, fun c28 => absurd rfl c28⟩
  
  refine step.1 _ _ _ _ _ _ _ sgX12_sign_41_ok ?_
  refine ⟨rfl, Nat.le_refl _, Nat.le_refl _, ?_⟩
  exact ⟨rfl, rfl⟩
theorem M_sign_r {g : qG} (hg : qOK g) {h : qH} {x : Nat → Int32} {y : Nat → Int64} (hM : h.2 63 = some (M63 x y)) {F : Nat → Int32} {n a : Nat} (hT : mT x n (.inr a)) (hB : mB h F) (v : Int32) (hv : ¬ v = 0) (hv2 : ¬ v = -1) : qSpec g 2 0 0 mX12_sign [.ref 63, .int v] h (fun r h' => r = none ∧ mP h h' x y [4, 5, 6] n (psign F n v (.inr a))) := by
  refine qSpec_run 12 "sign" false hg mX12_sign_ok rfl rfl (Nat.le_of_ble_eq_true rfl) (by decide) ?_
  intro run step
  refine step.1 _ _ _ _ _ _ _ sgX12_sign_0_ok ?_
  refine Or.inl ⟨rfl, _, 1, 0, 0, _, _, _, qi_12_142, ⟨rfl, rfl⟩, ⟨hM, rfl⟩, rfl, rfl, M_fineS hg hM hT, fun y1 h1 hy1 => ?_⟩
  obtain ⟨rfl, hh⟩ := hy1
  rw [hh]
  clear hh
  refine ⟨fun c4 => absurd (show (1 : Int32) = 0 from c4) (by decide), fun c4 => ?_⟩
  refine Or.inl ⟨rfl, _, 1, 0, 0, _, _, _, qi_12_125, ⟨rfl, rfl⟩, ⟨hM, rfl⟩, rfl, rfl, M_here hg hM hT hB, fun y8 h8 hy8 => ?_⟩
  obtain ⟨rfl, x1, hM1, hs1, hk1, hT1⟩ := hy8
  have hsk := sk_le F hT.2.2.2.2
  have hn := hT.2.1
  refine ⟨fun c12 => ?_, fun c12 => ?_⟩
  · have hc : sk F n a < n ∧ tby F n (sk F n a) = v := by
      have c12 : hch F n (sk F n a) = v := c12
      rw [hch] at c12
      split at c12
      · exact ⟨by assumption, c12⟩
      · exact absurd c12.symm hv
    refine step.1 _ _ _ _ _ _ _ sgX12_sign_24_ok ?_
    refine Or.inl ⟨rfl, _, 1, 0, 0, _, _, _, qi_12_142, ⟨rfl, rfl⟩, ⟨hM1, rfl⟩, rfl, rfl, M_fineS hg hM1 hT1, fun y25 h25 hy25 => ?_⟩
    obtain ⟨rfl, hh⟩ := hy25
    rw [hh]
    clear hh
    refine ⟨fun c28 => absurd (show (1 : Int32) = 0 from c28) (by decide), fun c28 => ?_⟩
    
    refine ⟨rfl, ?_⟩
    refine ⟨by decide, _, _, hM1, rfl, ?_⟩
    refine ⟨_, hM1, Nat.le_of_ble_eq_true rfl, rfl, ?_⟩
    refine step.1 _ _ _ _ _ _ _ sgX12_sign_41_ok ?_
    refine ⟨rfl, Nat.le_refl _, Nat.le_refl _, ?_⟩
    have e9 : (x1 4 + 1 : Int32) = nI (sk F n a + 1) := by rw [hT1.2.2.2.1]; exact nI_1 _
    refine ⟨rfl, upd x1 4 (nI (sk F n a + 1)), ?_, hs1.t2 (same.up (by simp) : same _ _ [63]) (by decide), fun j hj => (upd_n (by simp at hj; omega)).trans (hk1 j (by simp at hj ⊢; omega)), ?_⟩
    · exact Eq.trans (b := some (M63 (upd x1 4 (x1 4 + 1)) y)) rfl (congrArg (fun z => some (M63 (upd x1 4 z) y)) e9)
    · rw [show psign F n v (.inr a) = .inr (sk F n a + 1) from if_pos hc.2]
      exact ⟨hT1.1, hT1.2.1, hT1.2.2.1, rfl, hc.1⟩
  · have hc : ¬ tby F n (sk F n a) = v := fun z => by
      have c12 : ¬ hch F n (sk F n a) = v := c12
      rw [hch] at c12
      split at c12
      · exact c12 z
      · rw [tby_end (by omega)] at z
        exact hv2 z.symm
    refine ⟨by decide, _, _, hM1, rfl, ?_⟩
    refine Or.inl ⟨rfl, _, 1, 0, 0, _, _, _, qi_12_149, ⟨rfl, rfl⟩, ⟨hM1, rfl⟩, rfl, rfl, (by rw [hT1.2.2.2.1]; exact M_wrong_r hg hM1 hT1 1 (sk F n a) (by omega)), fun y21 h21 hy21 => ?_⟩
    obtain ⟨rfl, x2, hM2, hs2, hk2, hT2⟩ := hy21
    refine step.1 _ _ _ _ _ _ _ sgX12_sign_24_ok ?_
    refine Or.inl ⟨rfl, _, 1, 0, 0, _, _, _, qi_12_142, ⟨rfl, rfl⟩, ⟨hM2, rfl⟩, rfl, rfl, M_fineS hg hM2 hT2, fun y25 h25 hy25 => ?_⟩
    obtain ⟨rfl, hh⟩ := hy25
    rw [hh]
    clear hh
    refine ⟨fun c28 => ?_, fun c28 => absurd rfl c28⟩
    
    refine step.1 _ _ _ _ _ _ _ sgX12_sign_41_ok ?_
    refine ⟨rfl, Nat.le_refl _, Nat.le_refl _, ?_⟩
    rw [show psign F n v (.inr a) = .inl (1, sk F n a) from if_neg hc]
    exact ⟨rfl, x2, hM2, hs1.t2 hs2 (by decide), fun j hj => (hk2 j (by simp at hj ⊢; omega)).trans (hk1 j (by simp at hj ⊢; omega)), hT2⟩
theorem M_sign {g : qG} (hg : qOK g) {h : qH} {x : Nat → Int32} {y : Nat → Int64} (hM : h.2 63 = some (M63 x y)) {F : Nat → Int32} {n : Nat} {s : PS} (hT : mT x n s) (hB : mB h F) (v : Int32) (hv : ¬ v = 0) (hv2 : ¬ v = -1) : qSpec g 2 0 0 mX12_sign [.ref 63, .int v] h (fun r h' => r = none ∧ mP h h' x y [4, 5, 6] n (psign F n v s)) := by
  match s, hT with
  | .inl e, hT => exact qSpec_mono (M_sign_l hg hM hT _) (fun r h' hy => ⟨hy.1, hy.2 ▸ mP.rf hM hT _⟩)
  | .inr a, hT => exact M_sign_r hg hM hT hB v hv hv2
theorem M_begins {g : qG} (hg : qOK g) {h : qH} {x : Nat → Int32} {y : Nat → Int64} (hM : h.2 63 = some (M63 x y)) {n : Nat} (hn : n ≤ 600) : qSpec g 1 0 0 mX12_begins [.ref 63, .int (nI n)] h (fun r h' => r = none ∧ ∃ x' : Nat → Int32, h'.2 63 = some (M63 x' y) ∧ same h h' [63] ∧ (∀ k : Nat, k ∉ [2, 3, 4, 5, 7, 8] → x' k = x k) ∧ x' 2 = 0 ∧ x' 7 = 0 ∧ x' 8 = -1 ∧ mT x' n (.inr 0)) := by
  refine qSpec_run 12 "begins" false hg mX12_begins_ok rfl rfl (Nat.le_of_ble_eq_true rfl) (by decide) ?_
  intro run step
  refine step.1 _ _ _ _ _ _ _ sgX12_begins_0_ok ?_
  refine ⟨_, hM, Nat.le_of_ble_eq_true rfl, rfl, ?_⟩
  refine ⟨_, rfl, Nat.le_of_ble_eq_true rfl, rfl, ?_⟩
  refine ⟨_, rfl, Nat.le_of_ble_eq_true rfl, rfl, ?_⟩
  refine ⟨_, rfl, Nat.le_of_ble_eq_true rfl, rfl, ?_⟩
  refine ⟨_, rfl, Nat.le_of_ble_eq_true rfl, rfl, ?_⟩
  refine ⟨_, rfl, Nat.le_of_ble_eq_true rfl, rfl, ?_⟩
  refine ⟨rfl, Nat.le_refl _, Nat.le_refl _, ?_⟩
  exact ⟨rfl, upd (upd (upd (upd (upd (upd x 2 0) 8 (-1)) 3 (nI n)) 4 0) 5 (-1)) 7 0, rfl, ⟨rfl, fun j hj => by
    have hj2 : ¬ j = 63 := by simpa using hj
    simp only [qup, if_neg hj2]⟩, fun k hk => by
    simp at hk
    obtain ⟨h2, h3, h4, h5, h7, h8⟩ := hk
    simp only [upd, if_neg h2, if_neg h3, if_neg h4, if_neg h5, if_neg h7, if_neg h8], rfl, rfl, rfl, rfl, hn, rfl, rfl, Nat.zero_le _⟩
theorem M_result {g : qG} (hg : qOK g) {h : qH} {x : Nat → Int32} {y : Nat → Int64} (hM : h.2 63 = some (M63 x y)) {n : Nat} {s : PS} (hT : mT x n s) (v : Int32) : qSpec g 2 0 0 mX12_result [.ref 63, .int v] h (fun r h' => r = some (.int (if pbad s = true then pki s - 10 else v)) ∧ ∃ x' : Nat → Int32, h'.2 63 = some (M63 x' y) ∧ same h h' [63] ∧ (∀ k : Nat, k ∉ [8] → x' k = x k) ∧ x' 8 = ppl s ∧ mT x' n s) := by
  refine qSpec_run 12 "result" false hg mX12_result_ok rfl rfl (Nat.le_of_ble_eq_true rfl) (by decide) ?_
  intro run step
  refine step.1 _ _ _ _ _ _ _ sgX12_result_0_ok ?_
  refine ⟨by decide, _, _, hM, rfl, ?_⟩
  refine ⟨_, hM, Nat.le_of_ble_eq_true rfl, rfl, ?_⟩
  have hTu : mT (upd x 8 (x 5)) n s := by
    match s, hT with
    | .inl e, hT => exact hT
    | .inr a, hT => exact hT
  have hMu : (qup h.2 63 (M63 (upd x 8 (x 5)) y)) 63 = some (M63 (upd x 8 (x 5)) y) := rfl
  refine Or.inl ⟨rfl, _, 1, 0, 0, _, _, _, qi_12_142, ⟨rfl, rfl⟩, ⟨rfl, rfl⟩, rfl, rfl, M_fineS hg hMu hTu, fun y9 h9 hy9 => ?_⟩
  obtain ⟨rfl, hh⟩ := hy9
  rw [hh]
  clear hh
  refine ⟨fun c12 => ?_, fun c12 => ?_⟩
  · have hb : pbad s = true := by simpa using qb_0.mp c12
    refine step.1 _ _ _ _ _ _ _ sgX12_result_19_ok ?_
    refine ⟨by decide, _, _, rfl, rfl, ?_⟩
    refine step.1 _ _ _ _ _ _ _ sgX12_result_26_ok ?_
    refine ⟨.int, rfl, rfl, Nat.le_refl _, Nat.le_refl _, ?_⟩
    have e5 : x 5 = ppl s := by
      match s, hT with
      | .inl e, ⟨_, _, _, h2, _⟩ => exact h2
      | .inr a, ⟨_, _, h1, _⟩ => exact h1
    refine ⟨by
      rw [if_pos hb]
      match s, hT, hb with
      | .inl e, ⟨_, _, h1, _, _⟩, _ => exact congrArg (fun z => some (Value.int (z - 10))) h1, upd x 8 (x 5), hMu, same.up (by simp), fun k hk => upd_n (by simpa using hk), e5, ?_⟩
    match s, hT with
    | .inl e, hT => exact hT
    | .inr a, hT => exact hT
  · have hb : ¬ pbad s = true := by simpa using qb_1.mp c12
    refine step.1 _ _ _ _ _ _ _ sgX12_result_26_ok ?_
    refine ⟨.int, rfl, rfl, Nat.le_refl _, Nat.le_refl _, ?_⟩
    have e5 : x 5 = ppl s := by
      match s, hT with
      | .inl e, ⟨_, _, _, h2, _⟩ => exact h2
      | .inr a, ⟨_, _, h1, _⟩ => exact h1
    refine ⟨by rw [if_neg hb], upd x 8 (x 5), hMu, same.up (by simp), fun k hk => upd_n (by simpa using hk), e5, ?_⟩
    match s, hT with
    | .inl e, hT => exact hT
    | .inr a, hT => exact hT
end Q10B
