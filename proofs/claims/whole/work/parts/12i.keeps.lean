section Q12I
/-- n of f from b on -/
def bpt (Z : Nat → Int32) (b : Nat) (f : Nat → Int32) (n : Nat) : Nat → Int32 := fun j => if b ≤ j ∧ j < b + n then f (j - b) else Z j
theorem bpt_0 (Z : Nat → Int32) (b : Nat) (f : Nat → Int32) : bpt Z b f 0 = Z := funext fun j => if_neg (by omega)
theorem bpt_s (Z : Nat → Int32) (b : Nat) (f : Nat → Int32) (i : Nat) : upd (bpt Z b f i) (b + i) (f i) = bpt Z b f (i + 1) := by
  funext j
  unfold upd bpt
  by_cases c : j = b + i
  · rw [if_pos c, if_pos (by omega), show j - b = i by omega]
  · by_cases c2 : b ≤ j ∧ j < b + i
    · rw [if_neg c, if_pos c2, if_pos (by omega)]
    · rw [if_neg c, if_neg c2, if_neg (by omega)]
/-- a round written down -/
def krow (Z : Nat → Int32) (b : Nat) (d p : Nat → Int32) (n u : Int32) : Nat → Int32 := upd (upd (bpt (bpt Z b d 100) (b + 100) p 30) (b + 130) n) (b + 131) u
theorem kx_2 (b : Nat) : (nI b + 132 - 2 : Int32) = nI (b + 130) := by
  rw [← nI_add]
  show (nI b + 132 - 2 : Int32) = nI b + 130
  generalize (nI b : Int32) = z
  grind
theorem kx_1 (b : Nat) : (nI b + 132 - 1 : Int32) = nI (b + 131) := by
  rw [← nI_add]
  show (nI b + 132 - 1 : Int32) = nI b + 131
  generalize (nI b : Int32) = z
  grind
theorem kx_100 (b i : Nat) : (nI b + 100 + nI i : Int32) = nI (b + 100 + i) := by rw [← nI_add, ← nI_add]; rfl
theorem MX.vk {h : qH} {x : Nat → Int32} {y : Nat → Int64} {F : Nat → Nat → Int32} {G : Nat → Nat → Int64} (hM : MX h x y F G) {h' : qH} {k : Nat} {f : Nat → Int32} (hk : 64 ≤ k) (h1 : h'.2 k = some (mcell k (fup F k f) G)) (h2 : ∀ j : Nat, j ≠ k → h'.2 j = h.2 j) : MX h' x y (fup F k f) G := ⟨(h2 63 (by omega)).trans hM.1, fun j a b => by
  by_cases c : j = k
  · rw [c]; exact h1
  · rw [h2 j c, mcell_f c]; exact hM.2 j a b⟩
theorem kp.s {h h' h'' : qH} (a : kp h h') {l : List Nat} (s : same h' h'' l) (hl : ∀ j : Nat, j ∈ l → 63 ≤ j ∧ j ≤ 91) : kp h h'' := ⟨by rw [s.1]; exact a.1, fun j hj => (s.2 j (fun q => by have := hl j q; omega)).trans (a.2 j hj)⟩
theorem M_keepsIn {g : qG} (hg : qOK g) {h : qH} {x : Nat → Int32} {y : Nat → Int64} {F : Nat → Nat → Int32} {G : Nat → Nat → Int64} (hM : MX h x y F G) {a b sz : Nat} {Z : Nat → Int32} (hA : h.2 a = some (aI' sz Z)) (ha : a ≠ 63) (ha1 : a ≠ 67) (ha2 : a ≠ 78) (hb : b + 132 ≤ sz) (hsz : sz < 10000) : qSpec g 1 0 0 mX12_keepsIn [.ref 63, .ref a, .int (nI b)] h (fun r h' => r = none ∧ h'.2 a = some (aI' sz (krow Z b (F 67) (F 78) (x 36) (x 23))) ∧ same h h' [a]) := by
  refine qSpec_run 12 "keepsIn" false hg mX12_keepsIn_ok rfl rfl (Nat.le_of_ble_eq_true rfl) (by decide) ?_
  intro run step
  have loop2 : ∀ (m i : Nat) (hX : qH), i + m = 30 → hX.2 a = some (aI' sz (bpt (bpt Z b (F 67) 100) (b + 100) (F 78) i)) → same h hX [a] → run 27 [(3, .int (nI i)), (0, .ref 63), (1, .ref a), (2, .int (nI b))] [] hX 0 0 := by
    intro m
    induction m with
    | zero =>
      intro i hX hm hX2 hs
      have hMX := (hs.2 63 (by simpa using ha.symm)).trans hM.1
      have hDX := (hs.2 67 (by simpa using ha1.symm)).trans hM.c67
      have hPX := (hs.2 78 (by simpa using ha2.symm)).trans hM.c78
      refine step.1 _ _ _ _ _ _ _ sgX12_keepsIn_27_ok ?_
      refine ⟨fun c30 => ?_, fun c30 => absurd (show (30 : Int32) ≤ nI i from nI_le (a := 30) (by omega) (by omega)) c30⟩
      
      refine step.1 _ _ _ _ _ _ _ sgX12_keepsIn_53_ok ?_
      refine ⟨by decide, _, _, hMX, rfl, ?_⟩
      refine ⟨_, _, hX2, (by rw [kx_2]; exact vp_in_nI (n := b + 130) (by omega) (by omega)), ?_⟩
      have hMY := (qup_n (f := hX.2) (e := aI' sz (upd (bpt (bpt Z b (F 67) 100) (b + 100) (F 78) i) (nI b + 132 - 2 : Int32).toNatClampNeg (x 36))) ha.symm).trans hMX
      refine ⟨by decide, _, _, hMY, rfl, ?_⟩
      refine ⟨_, _, qup_s, (by rw [kx_1]; exact vp_in_nI (n := b + 131) (N := sz) (by omega) (by omega)), ?_⟩
      refine ⟨rfl, Nat.le_refl _, Nat.le_refl _, ?_⟩
      refine ⟨rfl, qup_s.trans ?_, ?_⟩
      · show some (aI' sz (upd (upd (bpt (bpt Z b (F 67) 100) (b + 100) (F 78) i) (nI b + 132 - 2 : Int32).toNatClampNeg (x 36)) (nI b + 132 - 1 : Int32).toNatClampNeg (x 23))) = _
        rw [kx_2, kx_1, h_tn (by omega), h_tn (by omega), show i = 30 by omega]
        rfl
      · exact (hs.t2 (same.up (List.mem_singleton.mpr rfl) : same hX _ [a]) (by simp)).t2 (same.up (List.mem_singleton.mpr rfl)) (by simp)
    | succ m ih =>
      intro i hX hm hX2 hs
      have hMX := (hs.2 63 (by simpa using ha.symm)).trans hM.1
      have hDX := (hs.2 67 (by simpa using ha1.symm)).trans hM.c67
      have hPX := (hs.2 78 (by simpa using ha2.symm)).trans hM.c78
      refine step.1 _ _ _ _ _ _ _ sgX12_keepsIn_27_ok ?_
      refine ⟨fun c30 => absurd c30 (h_nle (b := 30) (by omega) (by omega)), fun c30 => ?_⟩
      
      refine ⟨by decide, _, _, hMX, rfl, ?_⟩
      refine ⟨_, _, hPX, vp_in_nI (n := i) (N := 30) (by omega) (by decide), ?_⟩
      refine ⟨_, _, hX2, (by rw [kx_100]; exact vp_in_nI (n := b + 100 + i) (by omega) (by omega)), ?_⟩
      have kk2 := fun hZ => ih (i + 1) hZ (by omega)
      rw [← nI_1] at kk2
      refine kk2 _ ?_ ?_
      · refine qup_s.trans ?_
        show some (aI' sz (upd (bpt (bpt Z b (F 67) 100) (b + 100) (F 78) i) (nI b + 100 + nI i : Int32).toNatClampNeg (F 78 (nI i).toNatClampNeg))) = _
        rw [h_tn (n := i) (by omega), kx_100, h_tn (by omega), bpt_s]
      · exact hs.t2 (same.up (List.mem_singleton.mpr rfl) : same hX _ [a]) (by simp)
  have loop1 : ∀ (m i : Nat) (hX : qH), i + m = 100 → hX.2 a = some (aI' sz (bpt Z b (F 67) i)) → same h hX [a] → run 2 [(3, .int (nI i)), (0, .ref 63), (1, .ref a), (2, .int (nI b))] [] hX 0 0 := by
    intro m
    induction m with
    | zero =>
      intro i hX hm hX2 hs
      have hMX := (hs.2 63 (by simpa using ha.symm)).trans hM.1
      have hDX := (hs.2 67 (by simpa using ha1.symm)).trans hM.c67
      have hPX := (hs.2 78 (by simpa using ha2.symm)).trans hM.c78
      refine step.1 _ _ _ _ _ _ _ sgX12_keepsIn_2_ok ?_
      refine ⟨fun c5 => ?_, fun c5 => absurd (show (100 : Int32) ≤ nI i from nI_le (a := 100) (by omega) (by omega)) c5⟩
      
      refine step.1 _ _ _ _ _ _ _ sgX12_keepsIn_25_ok ?_
      exact loop2 30 0 hX (by omega) (by rw [bpt_0, hX2, show i = 100 by omega]) hs
    | succ m ih =>
      intro i hX hm hX2 hs
      have hMX := (hs.2 63 (by simpa using ha.symm)).trans hM.1
      have hDX := (hs.2 67 (by simpa using ha1.symm)).trans hM.c67
      have hPX := (hs.2 78 (by simpa using ha2.symm)).trans hM.c78
      refine step.1 _ _ _ _ _ _ _ sgX12_keepsIn_2_ok ?_
      refine ⟨fun c5 => absurd c5 (h_nle (b := 100) (by omega) (by omega)), fun c5 => ?_⟩
      
      refine ⟨by decide, _, _, hMX, rfl, ?_⟩
      refine ⟨_, _, hDX, vp_in_nI (n := i) (N := 100) (by omega) (by decide), ?_⟩
      refine ⟨_, _, hX2, (by rw [nI_add]; exact vp_in_nI (n := b + i) (by omega) (by omega)), ?_⟩
      have kk2 := fun hZ => ih (i + 1) hZ (by omega)
      rw [← nI_1] at kk2
      refine kk2 _ ?_ ?_
      · refine qup_s.trans ?_
        show some (aI' sz (upd (bpt Z b (F 67) i) (nI b + nI i : Int32).toNatClampNeg (F 67 (nI i).toNatClampNeg))) = _
        rw [h_tn (n := i) (by omega), nI_add, h_tn (by omega), bpt_s]
      · exact hs.t2 (same.up (List.mem_singleton.mpr rfl) : same hX _ [a]) (by simp)
  refine step.1 _ _ _ _ _ _ _ sgX12_keepsIn_0_ok ?_
  exact loop1 100 0 h (by omega) (by rw [bpt_0]; exact hA) same.rf
end Q12I
