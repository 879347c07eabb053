section Q10B
theorem upd_self {f : Nat → Int32} {k : Nat} {v : Int32} (h : f k = v) : upd f k v = f := by
  funext j
  unfold upd
  split
  · rename_i e; rw [e, h]
  · rfl
/-- where the model's reading stands -/
def mT (x : Nat → Int32) (n : Nat) (s : PS) : Prop := x 3 = nI n ∧ n ≤ 600 ∧ (match s with
  | .inl e => x 6 = nI e.1 ∧ x 5 = nI e.2 ∧ e.2 ≤ 600
  | .inr a => x 5 = -1 ∧ x 4 = nI a ∧ a ≤ n)
/-- the model's tape holds these bytes -/
def mB (h : qH) (F : Nat → Int32) : Prop := ∃ tp : Nat → Int32, h.2 65 = some (aI' 600 tp) ∧ ∀ j : Nat, j < 600 → tp j = F j &&& 255
/-- a step of the reading: which fields may change, and where it stands behind it -/
def mP (h h' : qH) (x : Nat → Int32) (y : Nat → Int64) (Z : List Nat) (n : Nat) (s : PS) : Prop := ∃ x' : Nat → Int32, h'.2 63 = some (M63 x' y) ∧ same h h' [63] ∧ (∀ k : Nat, k ∉ Z → x' k = x k) ∧ mT x' n s
theorem mB.sm {h h' : qH} {F : Nat → Int32} {z : List Nat} (hB : mB h F) (hs : same h h' z) (hz : 65 ∉ z) : mB h' F := by
  obtain ⟨tp, h1, h2⟩ := hB
  exact ⟨tp, (hs.2 65 hz).trans h1, h2⟩
def hch (F : Nat → Int32) (n a : Nat) : Int32 := if a < n then tby F n a else 0
theorem tby_lt {F : Nat → Int32} {n a : Nat} (h : a < n) : tby F n a = F a &&& 255 := if_pos h
theorem mne {p : Nat} (h : p ≤ 600) : ¬ nI p = -1 := fun e => by
  have := nI_toInt (n := p) (by omega)
  rw [e] at this
  have e2 : (-1 : Int32).toInt = -1 := by decide
  omega
theorem M_here {g : qG} (hg : qOK g) {h : qH} {x : Nat → Int32} {y : Nat → Int64} (hM : h.2 63 = some (M63 x y)) {F : Nat → Int32} {n a : Nat} (hT : mT x n (.inr a)) (hB : mB h F) : qSpec g 1 0 0 mX12_here [.ref 63] h (fun r h' => r = some (.int (hch F n (sk F n a))) ∧ mP h h' x y [4] n (.inr (sk F n a))) := by
  refine qSpec_run 12 "here" false hg mX12_here_ok rfl rfl (Nat.le_of_ble_eq_true rfl) (by decide) ?_
  intro run step
  obtain ⟨h3, hn, h5, h4, ha⟩ := hT
  obtain ⟨tp, hTp, hby⟩ := hB

  have c38 : ∀ (a1 : Nat) (hX : qH), hX.2 63 = some (M63 (upd x 4 (nI a1)) y) → hX.2 65 = some (aI' 600 tp) → same h hX [63] → a1 = sk F n a → a1 ≤ n → run 38 [(0, .ref 63)] [] hX 0 0 := by
    intro a1 hX hMX hTX hs hst hle
    refine step.1 _ _ _ _ _ _ _ sgX12_here_38_ok ?_
    refine ⟨by decide, _, _, hMX, rfl, ?_⟩
    refine ⟨by decide, _, _, hMX, rfl, ?_⟩
    refine ⟨fun c46 => ?_, fun c46 => ?_⟩
    · have hge : ¬ a1 < n := by
        have c46 : x 3 ≤ nI a1 := c46
        rw [h3] at c46
        have := (nI_leI (by omega) (by omega)).mp c46
        omega
      refine step.1 _ _ _ _ _ _ _ sgX12_here_61_ok ?_
      refine step.1 _ _ _ _ _ _ _ sgX12_here_62_ok ?_
      refine ⟨.int, rfl, rfl, Nat.le_refl _, Nat.le_refl _, ?_⟩
      refine ⟨?_, upd x 4 (nI a1), hMX, hs, fun k hk => upd_n (fun e => hk (e ▸ List.mem_singleton.mpr rfl)), h3, hn, h5, congrArg nI hst, by omega⟩
      rw [show sk F n a = a1 from hst.symm]
      exact congrArg (fun z => some (Value.int z)) (show 0 = hch F n a1 from (if_neg (by omega)).symm)
    · have hlt : a1 < n := by
        have c46 : ¬ x 3 ≤ nI a1 := c46
        rw [h3] at c46
        rcases Nat.lt_or_ge a1 n with z | z
        · exact z
        · exact absurd (nI_le z (by omega)) c46
      refine ⟨by decide, _, _, hMX, rfl, ?_⟩
      refine ⟨by decide, _, _, hMX, rfl, ?_⟩
      refine ⟨_, _, hTX, vp_in_nI (n := a1) (N := 600) (by omega) (by decide), ?_⟩
      refine step.1 _ _ _ _ _ _ _ sgX12_here_62_ok ?_
      refine ⟨.int, rfl, rfl, Nat.le_refl _, Nat.le_refl _, ?_⟩
      refine ⟨?_, upd x 4 (nI a1), hMX, hs, fun k hk => upd_n (fun e => hk (e ▸ List.mem_singleton.mpr rfl)), h3, hn, h5, congrArg nI hst, by omega⟩
      rw [show sk F n a = a1 from hst.symm]
      exact congrArg (fun z => some (Value.int z)) (show tp (nI a1).toNatClampNeg = hch F n a1 from by rw [hch, if_pos hlt, tby_lt hlt, h_tn (n := a1) (by omega), hby a1 (by omega)])
  have loop : ∀ (m a1 : Nat) (hX : qH), a1 + m = n → hX.2 63 = some (M63 (upd x 4 (nI a1)) y) → hX.2 65 = some (aI' 600 tp) → same h hX [63] → skp F n m a1 = sk F n a → run 0 [(0, .ref 63)] [] hX 0 0 := by
    intro m
    induction m with
    | zero =>
      intro a1 hX hm hMX hTX hs hst
      refine step.1 _ _ _ _ _ _ _ sgX12_here_0_ok ?_
      refine ⟨by decide, _, _, hMX, rfl, ?_⟩
      refine ⟨by decide, _, _, hMX, rfl, ?_⟩
      refine ⟨fun c8 => ?_, fun c8 => absurd (show x 3 ≤ nI a1 from by rw [h3, show a1 = n by omega]; exact Int32.le_refl _) c8⟩
      
      exact c38 a1 hX hMX hTX hs hst (by omega)
    | succ m ih =>
      intro a1 hX hm hMX hTX hs hst
      refine step.1 _ _ _ _ _ _ _ sgX12_here_0_ok ?_
      refine ⟨by decide, _, _, hMX, rfl, ?_⟩
      refine ⟨by decide, _, _, hMX, rfl, ?_⟩
      refine ⟨fun c8 => absurd (show x 3 ≤ nI a1 from c8) (by rw [h3]; exact h_nle (by omega) (by omega)), fun c8 => ?_⟩
      refine ⟨by decide, _, _, hMX, rfl, ?_⟩
      refine ⟨by decide, _, _, hMX, rfl, ?_⟩
      refine ⟨_, _, hTX, vp_in_nI (n := a1) (N := 600) (by omega) (by decide), ?_⟩
      refine ⟨fun c22 => ?_, fun c22 => ?_⟩
      · have c22 : ¬ tp (nI a1).toNatClampNeg = 32 := c22
        rw [h_tn (n := a1) (by omega), hby a1 (by omega), ← tby_lt (show a1 < n by omega)] at c22
        exact c38 a1 hX hMX hTX hs ((show skp F n (m + 1) a1 = a1 from if_neg c22) ▸ hst) (by omega)
      · have c22 : tp (nI a1).toNatClampNeg = 32 := c22
        rw [h_tn (n := a1) (by omega), hby a1 (by omega), ← tby_lt (show a1 < n by omega)] at c22
        refine ⟨rfl, ?_⟩
        refine ⟨by decide, _, _, hMX, rfl, ?_⟩
        refine ⟨_, hMX, Nat.le_of_ble_eq_true rfl, rfl, ?_⟩
        have kk2 := fun hZ => ih (a1 + 1) hZ (by omega)
        refine kk2 _ ?_ ?_ ?_ ?_
        · exact Eq.trans (b := some (M63 (upd x 4 (nI a1 + 1)) y)) rfl (congrArg (fun z => some (M63 (upd x 4 z) y)) (nI_1 a1))
        · exact hTX
        · exact hs.t2 (same.up (by simp) : same hX _ [63]) (by decide)
        · rw [← hst, skp, if_pos c22]
  exact loop (n - a) a h (by omega) (by rw [upd_self h4]; exact hM) hTp same.rf rfl
end Q10B
