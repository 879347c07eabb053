section Q12J
theorem MX.vkk {h : qH} {x : Nat → Int32} {y : Nat → Int64} {F : Nat → Nat → Int32} {G : Nat → Nat → Int64} {k : Nat} {f0 : Nat → Int32} (hM : MX h x y (fup F k f0) G) {h' : qH} {f : Nat → Int32} (hk : 64 ≤ k) (h1 : h'.2 k = some (mcell k (fup F k f) G)) (h2 : ∀ j : Nat, j ≠ k → h'.2 j = h.2 j) : MX h' x y (fup F k f) G := by
  have q := hM.vk (f := f) hk (by rw [fup_fup]; exact h1) h2
  rw [fup_fup] at q
  exact q
theorem M_takesFrom {g : qG} (hg : qOK g) {h : qH} {x : Nat → Int32} {y : Nat → Int64} {F : Nat → Nat → Int32} {G : Nat → Nat → Int64} (hM : MX h x y F G) {a b sz : Nat} {Z : Nat → Int32} (hA : h.2 a = some (aI' sz Z)) (ha : a ≠ 63) (ha1 : a ≠ 67) (ha2 : a ≠ 78) (hb : b + 132 ≤ sz) (hsz : sz < 10000) : qSpec g 1 0 0 mX12_takesFrom [.ref 63, .ref a, .int (nI b)] h (fun r h' => r = none ∧ MX h' (upd (upd x 36 (Z (b + 130))) 23 (Z (b + 131))) y (fup (fup F 67 (cp (fun j => Z (b + j)) (F 67) 100)) 78 (cp (fun j => Z (b + 100 + j)) (F 78) 30)) G ∧ kp h h') := by
  refine qSpec_run 12 "takesFrom" false hg mX12_takesFrom_ok rfl rfl (Nat.le_of_ble_eq_true rfl) (by decide) ?_
  intro run step
  have loop2 : ∀ (m i : Nat) (hX : qH), i + m = 30 → MX hX x y (fup (fup F 67 (cp (fun j => Z (b + j)) (F 67) 100)) 78 (cp (fun j => Z (b + 100 + j)) (F 78) i)) G → same h hX [67, 78] → run 27 [(3, .int (nI i)), (0, .ref 63), (1, .ref a), (2, .int (nI b))] [] hX 0 0 := by
    intro m
    induction m with
    | zero =>
      intro i hX hm hMX hs
      have hAX := (hs.2 a (by simp; omega)).trans hA
      refine step.1 _ _ _ _ _ _ _ sgX12_takesFrom_27_ok ?_
      refine ⟨fun c30 => ?_, fun c30 => absurd (show (30 : Int32) ≤ nI i from nI_le (a := 30) (by omega) (by omega)) c30⟩
      
      refine step.1 _ _ _ _ _ _ _ sgX12_takesFrom_53_ok ?_
      refine ⟨_, _, hAX, (by rw [kx_2]; exact vp_in_nI (n := b + 130) (N := sz) (by omega) (by omega)), ?_⟩
      refine ⟨_, hMX.1, Nat.le_of_ble_eq_true rfl, rfl, ?_⟩
      have hM1 := hMX.p63 (sI_36 (v := Z (nI b + 132 - 2 : Int32).toNatClampNeg) (rfl : _ = M63l x y))
      have hA1 := (qup_n (f := hX.2) (e := .inl (12, (M63l x y).set 36 (.int (Z (nI b + 132 - 2 : Int32).toNatClampNeg)))) ha).trans hAX
      refine ⟨_, _, hA1, (by rw [kx_1]; exact vp_in_nI (n := b + 131) (N := sz) (by omega) (by omega)), ?_⟩
      refine ⟨_, hM1.1, Nat.le_of_ble_eq_true rfl, rfl, ?_⟩
      have hM2 := hM1.p63 (sI_23 (v := Z (nI b + 132 - 1 : Int32).toNatClampNeg) (sI_36 (v := Z (nI b + 132 - 2 : Int32).toNatClampNeg) (rfl : _ = M63l x y)))
      refine ⟨rfl, Nat.le_refl _, Nat.le_refl _, ?_⟩
      refine ⟨rfl, ?_, ?_⟩
      · have q := hM2
        rw [kx_2, kx_1, h_tn (by omega), h_tn (by omega)] at q
        rw [kx_2, kx_1, h_tn (by omega), h_tn (by omega)]
        rw [show i = 30 by omega] at q
        exact q
      · exact ((kp.rf (h := h)).s hs (by simp)).v (k := 63) rfl (by decide) (by decide) (fun j hj => by simp only [qup, if_neg hj])
    | succ m ih =>
      intro i hX hm hMX hs
      have hAX := (hs.2 a (by simp; omega)).trans hA
      refine step.1 _ _ _ _ _ _ _ sgX12_takesFrom_27_ok ?_
      refine ⟨fun c30 => absurd c30 (h_nle (b := 30) (by omega) (by omega)), fun c30 => ?_⟩
      
      refine ⟨by decide, _, _, hMX.1, rfl, ?_⟩
      refine ⟨_, _, hAX, (by rw [kx_100]; exact vp_in_nI (n := b + 100 + i) (N := sz) (by omega) (by omega)), ?_⟩
      refine ⟨_, _, hMX.c78, vp_in_nI (n := i) (N := 30) (by omega) (by decide), ?_⟩
      have kk2 := fun hZ => ih (i + 1) hZ (by omega)
      rw [← nI_1] at kk2
      refine kk2 _ (hMX.vkk (k := 78) (by decide) ?_ (fun j hj => qup_n hj)) ?_
      · show some (aI' 30 (upd ((cp (fun j => Z (b + 100 + j)) (F 78) i)) (nI i).toNatClampNeg (Z (nI b + 100 + nI i : Int32).toNatClampNeg))) = some (aI' 30 ((cp (fun j => Z (b + 100 + j)) (F 78) (i + 1))))
        rw [h_tn (n := i) (by omega), kx_100, h_tn (by omega)]
        exact congrArg (fun z => some (aI' 30 z)) (cp_s (fun j => Z (b + 100 + j)) (F 78) i)
      · exact hs.t2 (same.up (List.mem_singleton.mpr rfl) : same hX _ [78]) (by simp)
  have loop1 : ∀ (m i : Nat) (hX : qH), i + m = 100 → MX hX x y (fup F 67 (cp (fun j => Z (b + j)) (F 67) i)) G → same h hX [67] → run 2 [(3, .int (nI i)), (0, .ref 63), (1, .ref a), (2, .int (nI b))] [] hX 0 0 := by
    intro m
    induction m with
    | zero =>
      intro i hX hm hMX hs
      have hAX := (hs.2 a (by simp; omega)).trans hA
      refine step.1 _ _ _ _ _ _ _ sgX12_takesFrom_2_ok ?_
      refine ⟨fun c5 => ?_, fun c5 => absurd (show (100 : Int32) ≤ nI i from nI_le (a := 100) (by omega) (by omega)) c5⟩
      
      refine step.1 _ _ _ _ _ _ _ sgX12_takesFrom_25_ok ?_
      refine loop2 30 0 hX (by omega) ?_ (hs.sub (by simp))
      have q := hMX
      rw [show i = 100 by omega] at q
      rw [cp_0, show fup (fup F 67 (cp (fun j => Z (b + j)) (F 67) 100)) 78 (F 78) = fup F 67 (cp (fun j => Z (b + j)) (F 67) 100) from by
        funext j
        unfold fup
        by_cases c : j = 78
        · rw [if_pos c, if_neg (by omega), c]
        · rw [if_neg c]]
      exact q
    | succ m ih =>
      intro i hX hm hMX hs
      have hAX := (hs.2 a (by simp; omega)).trans hA
      refine step.1 _ _ _ _ _ _ _ sgX12_takesFrom_2_ok ?_
      refine ⟨fun c5 => absurd c5 (h_nle (b := 100) (by omega) (by omega)), fun c5 => ?_⟩
      
      refine ⟨by decide, _, _, hMX.1, rfl, ?_⟩
      refine ⟨_, _, hAX, (by rw [nI_add]; exact vp_in_nI (n := b + i) (N := sz) (by omega) (by omega)), ?_⟩
      refine ⟨_, _, hMX.c67, vp_in_nI (n := i) (N := 100) (by omega) (by decide), ?_⟩
      have kk2 := fun hZ => ih (i + 1) hZ (by omega)
      rw [← nI_1] at kk2
      refine kk2 _ (hMX.vkk (k := 67) (by decide) ?_ (fun j hj => qup_n hj)) ?_
      · show some (aI' 100 (upd ((cp (fun j => Z (b + j)) (F 67) i)) (nI i).toNatClampNeg (Z (nI b + nI i : Int32).toNatClampNeg))) = some (aI' 100 ((cp (fun j => Z (b + j)) (F 67) (i + 1))))
        rw [h_tn (n := i) (by omega), nI_add, h_tn (by omega)]
        exact congrArg (fun z => some (aI' 100 z)) (cp_s (fun j => Z (b + j)) (F 67) i)
      · exact hs.t2 (same.up (List.mem_singleton.mpr rfl) : same hX _ [67]) (by simp)
  refine step.1 _ _ _ _ _ _ _ sgX12_takesFrom_0_ok ?_
  exact loop1 100 0 h (by omega) (by rw [cp_0, fup_self]; exact hM) same.rf
theorem M_mostIs {g : qG} (hg : qOK g) {h : qH} {n : Nat} (h1 : 1 ≤ n) (h9 : n ≤ 9) : qSpec g 1 0 0 mX12_mostOf [.int (nI n)] h (fun r h' => r = some (.int (nI (fmost n))) ∧ h' = h) := by
  refine qSpec_run 12 "mostOf" false hg mX12_mostOf_ok rfl rfl (Nat.le_of_ble_eq_true rfl) (by decide) ?_
  intro run step
  rcases (show n = 1 ∨ n = 2 ∨ n = 3 ∨ n = 4 ∨ n = 5 ∨ n = 6 ∨ n = 7 ∨ n = 8 ∨ n = 9 by omega) with rfl | rfl | rfl | rfl | rfl | rfl | rfl | rfl | rfl
  · refine step.1 _ _ _ _ _ _ _ sgX12_mostOf_0_ok ?_
    refine ⟨fun c2 => absurd c2 (by decide), fun _ => ?_⟩
    refine step.1 _ _ _ _ _ _ _ sgX12_mostOf_45_ok ?_
    refine ⟨.int, rfl, rfl, Nat.le_refl _, Nat.le_refl _, ?_⟩
    exact ⟨rfl, rfl⟩
  · refine step.1 _ _ _ _ _ _ _ sgX12_mostOf_0_ok ?_
    refine ⟨fun _ => ?_, fun c2 => absurd c2 (by decide)⟩
    refine step.1 _ _ _ _ _ _ _ sgX12_mostOf_11_ok ?_
    refine ⟨fun c13 => absurd c13 (by decide), fun _ => ?_⟩
    refine step.1 _ _ _ _ _ _ _ sgX12_mostOf_45_ok ?_
    refine ⟨.int, rfl, rfl, Nat.le_refl _, Nat.le_refl _, ?_⟩
    exact ⟨rfl, rfl⟩
  · refine step.1 _ _ _ _ _ _ _ sgX12_mostOf_0_ok ?_
    refine ⟨fun _ => ?_, fun c2 => absurd c2 (by decide)⟩
    refine step.1 _ _ _ _ _ _ _ sgX12_mostOf_11_ok ?_
    refine ⟨fun _ => ?_, fun c13 => absurd c13 (by decide)⟩
    refine step.1 _ _ _ _ _ _ _ sgX12_mostOf_21_ok ?_
    refine ⟨fun c24 => absurd c24 (by decide), fun _ => ?_⟩
    refine step.1 _ _ _ _ _ _ _ sgX12_mostOf_45_ok ?_
    refine ⟨.int, rfl, rfl, Nat.le_refl _, Nat.le_refl _, ?_⟩
    exact ⟨rfl, rfl⟩
  · refine step.1 _ _ _ _ _ _ _ sgX12_mostOf_0_ok ?_
    refine ⟨fun _ => ?_, fun c2 => absurd c2 (by decide)⟩
    refine step.1 _ _ _ _ _ _ _ sgX12_mostOf_11_ok ?_
    refine ⟨fun _ => ?_, fun c13 => absurd c13 (by decide)⟩
    refine step.1 _ _ _ _ _ _ _ sgX12_mostOf_21_ok ?_
    refine ⟨fun c24 => absurd c24 (by decide), fun _ => ?_⟩
    refine step.1 _ _ _ _ _ _ _ sgX12_mostOf_45_ok ?_
    refine ⟨.int, rfl, rfl, Nat.le_refl _, Nat.le_refl _, ?_⟩
    exact ⟨rfl, rfl⟩
  · refine step.1 _ _ _ _ _ _ _ sgX12_mostOf_0_ok ?_
    refine ⟨fun _ => ?_, fun c2 => absurd c2 (by decide)⟩
    refine step.1 _ _ _ _ _ _ _ sgX12_mostOf_11_ok ?_
    refine ⟨fun _ => ?_, fun c13 => absurd c13 (by decide)⟩
    refine step.1 _ _ _ _ _ _ _ sgX12_mostOf_21_ok ?_
    refine ⟨fun c24 => absurd c24 (by decide), fun _ => ?_⟩
    refine step.1 _ _ _ _ _ _ _ sgX12_mostOf_45_ok ?_
    refine ⟨.int, rfl, rfl, Nat.le_refl _, Nat.le_refl _, ?_⟩
    exact ⟨rfl, rfl⟩
  · refine step.1 _ _ _ _ _ _ _ sgX12_mostOf_0_ok ?_
    refine ⟨fun _ => ?_, fun c2 => absurd c2 (by decide)⟩
    refine step.1 _ _ _ _ _ _ _ sgX12_mostOf_11_ok ?_
    refine ⟨fun _ => ?_, fun c13 => absurd c13 (by decide)⟩
    refine step.1 _ _ _ _ _ _ _ sgX12_mostOf_21_ok ?_
    refine ⟨fun c24 => absurd c24 (by decide), fun _ => ?_⟩
    refine step.1 _ _ _ _ _ _ _ sgX12_mostOf_45_ok ?_
    refine ⟨.int, rfl, rfl, Nat.le_refl _, Nat.le_refl _, ?_⟩
    exact ⟨rfl, rfl⟩
  · refine step.1 _ _ _ _ _ _ _ sgX12_mostOf_0_ok ?_
    refine ⟨fun _ => ?_, fun c2 => absurd c2 (by decide)⟩
    refine step.1 _ _ _ _ _ _ _ sgX12_mostOf_11_ok ?_
    refine ⟨fun _ => ?_, fun c13 => absurd c13 (by decide)⟩
    refine step.1 _ _ _ _ _ _ _ sgX12_mostOf_21_ok ?_
    refine ⟨fun c24 => absurd c24 (by decide), fun _ => ?_⟩
    refine step.1 _ _ _ _ _ _ _ sgX12_mostOf_45_ok ?_
    refine ⟨.int, rfl, rfl, Nat.le_refl _, Nat.le_refl _, ?_⟩
    exact ⟨rfl, rfl⟩
  · refine step.1 _ _ _ _ _ _ _ sgX12_mostOf_0_ok ?_
    refine ⟨fun _ => ?_, fun c2 => absurd c2 (by decide)⟩
    refine step.1 _ _ _ _ _ _ _ sgX12_mostOf_11_ok ?_
    refine ⟨fun _ => ?_, fun c13 => absurd c13 (by decide)⟩
    refine step.1 _ _ _ _ _ _ _ sgX12_mostOf_21_ok ?_
    refine ⟨fun _ => ?_, fun c24 => absurd c24 (by decide)⟩
    refine step.1 _ _ _ _ _ _ _ sgX12_mostOf_32_ok ?_
    refine ⟨fun c35 => absurd c35 (by decide), fun _ => ?_⟩
    refine step.1 _ _ _ _ _ _ _ sgX12_mostOf_45_ok ?_
    refine ⟨.int, rfl, rfl, Nat.le_refl _, Nat.le_refl _, ?_⟩
    exact ⟨rfl, rfl⟩
  · refine step.1 _ _ _ _ _ _ _ sgX12_mostOf_0_ok ?_
    refine ⟨fun _ => ?_, fun c2 => absurd c2 (by decide)⟩
    refine step.1 _ _ _ _ _ _ _ sgX12_mostOf_11_ok ?_
    refine ⟨fun _ => ?_, fun c13 => absurd c13 (by decide)⟩
    refine step.1 _ _ _ _ _ _ _ sgX12_mostOf_21_ok ?_
    refine ⟨fun _ => ?_, fun c24 => absurd c24 (by decide)⟩
    refine step.1 _ _ _ _ _ _ _ sgX12_mostOf_32_ok ?_
    refine ⟨fun _ => ?_, fun c35 => absurd c35 (by decide)⟩
    refine step.1 _ _ _ _ _ _ _ sgX12_mostOf_43_ok ?_
    refine step.1 _ _ _ _ _ _ _ sgX12_mostOf_45_ok ?_
    refine ⟨.int, rfl, rfl, Nat.le_refl _, Nat.le_refl _, ?_⟩
    exact ⟨rfl, rfl⟩
end Q12J
