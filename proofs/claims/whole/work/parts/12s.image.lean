section Q12S
theorem cpy_at {α : Type} {A B : Nat → α} {n j : Nat} (hj : j < n) : va_cpy A B 0 0 n j = A j := by
  unfold va_cpy
  rw [if_pos (by omega)]
  congr 1
  omega
theorem RA.cp (A B : RT) {u : Nat} (hu : u ≤ 20) : RA u A (rcpy A B) := ⟨fun j hj => cpy_at hj, fun j hj => cpy_at hj, fun j hj => cpy_at (n := 100) (by omega), rfl, rfl, rfl⟩
theorem ROK.cp {A : RT} (h : ROK A) (B : RT) : ROK (rcpy A B) := h.c h.1.2.2 (RA.cp A B h.1.2.2)
theorem bpt_i {Z f : Nat → Int32} {b n j : Nat} (hj : j < n) : bpt Z b f n (b + j) = f j := by
  unfold bpt
  rw [if_pos (by omega), show b + j - b = j by omega]
theorem bpt_o {Z f : Nat → Int32} {b n j : Nat} (hj : j < b ∨ b + n ≤ j) : bpt Z b f n j = Z j := if_neg (by omega)
/-- an image written down -/
def imw (Z : Nat → Int32) (q : Nat) (d p : Nat → Int32) (n u c : Int32) (past : Nat → Int32) (m : Nat) : Nat → Int32 := bpt (upd (krow Z q d p n u) (q + 132) c) (q + 133) past m
theorem imw_0 (Z : Nat → Int32) (q : Nat) (d p : Nat → Int32) (n u c : Int32) (past : Nat → Int32) : imw Z q d p n u c past 0 = upd (krow Z q d p n u) (q + 132) c := bpt_0 _ _ _
theorem imw_s (Z : Nat → Int32) (q : Nat) (d p : Nat → Int32) (n u c : Int32) (past : Nat → Int32) (i : Nat) : upd (imw Z q d p n u c past i) (q + 133 + i) (past i) = imw Z q d p n u c past (i + 1) := bpt_s _ _ _ _
theorem mrow_z {Z Z' : Nat → Int32} {b : Nat} {R : RT} (h : mrow Z b R) (h1 : R.2.2.2.1 ≤ 10) (h2 : R.2.2.2.2.1 ≤ 10) (hz : ∀ j : Nat, j < 132 → Z' (b + j) = Z (b + j)) : mrow Z' b R := by
  obtain ⟨m1, m2, m3, m4⟩ := h
  refine ⟨fun j hj => (hz j (by omega)).trans (m1 j hj), fun j hj => ?_, (hz 130 (by decide)).trans m3, (hz 131 (by decide)).trans m4⟩
  rw [Nat.add_assoc, hz (100 + j) (by omega), ← Nat.add_assoc]
  exact m2 j hj
/-- an image made -/
theorem Rel.image {S : CS} {x x' : Nat → Int32} {F F' : Nat → Nat → Int32} (hR : Rel S x F) (hI : INV S) {ic : Nat} (hic : S.2.2.1.2 = ic) (hlt : ic < 3) (hx : ∀ k : Nat, k ≠ 64 → x' k = x k) (h64 : x' 64 = nI (ic + 1)) (hF : ∀ j : Nat, j ≠ 91 → F' j = F j) (h91 : F' 91 = imw (F 91) (2773 * ic) (F 67) (F 78) (x 36) (x 23) (nI S.2.1.2.2.2.2.2.1) (F 90) (132 * S.2.1.2.2.2.2.2.1)) : Rel (S.1, S.2.1, (fun i => if i = ic then rcpy S.2.1 (S.2.2.1.1 ic) else S.2.2.1.1 i, ic + 1), S.2.2.2) x' F' := by
  obtain ⟨⟨h2, h8, h19, h20, h21, h22, h23', h36', h37, h62', h64'⟩, hbt, ⟨hd, hcs, hp⟩, hl, hy, hr, hm, hi⟩ := hR
  have e := fun k hk => hx k hk
  have f := fun k hk => hF k hk
  have hu := hI.2.1.1.2.2
  unfold Rel
  rw [e 2 (by decide), e 8 (by decide), e 19 (by decide), e 20 (by decide), e 21 (by decide), e 22 (by decide), e 23 (by decide), e 36 (by decide), e 37 (by decide), e 62 (by decide), f 64 (by decide), f 65 (by decide), f 67 (by decide), f 69 (by decide), f 72 (by decide), f 73 (by decide), f 74 (by decide), f 78 (by decide), f 80 (by decide), f 90 (by decide), h64]
  refine ⟨⟨h2, h8, h19, h20, h21, h22, h23', h36', h37, h62', rfl⟩, hbt, ⟨hd, hcs, hp⟩, hl, hy, hr, hm, fun q hq => ?_⟩
  show mrow (F' 91) (2773 * q) (if q = ic then rcpy S.2.1 (S.2.2.1.1 ic) else S.2.2.1.1 q) ∧ F' 91 (2773 * q + 132) = nI (if q = ic then rcpy S.2.1 (S.2.2.1.1 ic) else S.2.2.1.1 q).2.2.2.2.2.1 ∧ mch (F' 91) (2773 * q + 133) (if q = ic then rcpy S.2.1 (S.2.2.1.1 ic) else S.2.2.1.1 q).2.2.2.2.2.1 (if q = ic then rcpy S.2.1 (S.2.2.1.1 ic) else S.2.2.1.1 q)
  rw [h91]
  replace hq : q < ic + 1 := hq
  by_cases c : q = ic
  · rw [if_pos c, c]
    refine ⟨mrow_c (Z := krow (F 91) (2773 * ic) (F 67) (F 78) (x 36) (x 23)) (krow_m hI.2.1 hd hp h36' h23') hI.2.1 (fun j hj => ?_) (RA.cp _ _ hu), ?_, mch_c (Z := F 90) (b := 0) S.2.1.2.2.2.2.2.1 S.2.1 _ hI.2.1 hm (fun j hj => ?_) (RA.cp _ _ hu)⟩
    · unfold imw
      rw [bpt_o (by omega), upd_n (by omega)]
    · unfold imw
      rw [bpt_o (by omega), upd_s]
      rfl
    · unfold imw
      rw [bpt_i hj, Nat.zero_add]
  · rw [if_neg c]
    obtain ⟨m1, m2, m3⟩ := hi q (by omega)
    have hq2 : 2773 * q + 2773 ≤ 2773 * ic := by omega
    have hro := (hI.2.2.2.2.2.2 q (by omega)).1
    have ho : ∀ j : Nat, j < 2773 * ic → imw (F 91) (2773 * ic) (F 67) (F 78) (x 36) (x 23) (nI S.2.1.2.2.2.2.2.1) (F 90) (132 * S.2.1.2.2.2.2.2.1) j = F 91 j := by
      intro j hj
      unfold imw
      rw [bpt_o (by omega), upd_n (by omega), krow_o (by omega)]
    refine ⟨mrow_z m1 hro.1.1 hro.1.2.1 (fun j hj => ho _ (by omega)), (ho _ (by omega)).trans m2, mch_c _ _ _ hro m3 (fun j hj => ho _ (by have := hro.1.2.2; omega)) RA.rf⟩
theorem INV.image {S : CS} (hI : INV S) {ic : Nat} (hic : S.2.2.1.2 = ic) (hlt : ic < 3) : INV (S.1, S.2.1, (fun i => if i = ic then rcpy S.2.1 (S.2.2.1.1 ic) else S.2.2.1.1 i, ic + 1), S.2.2.2) := by
  obtain ⟨h1, h2, h3, h4, h5, h6, h7⟩ := hI
  refine ⟨h1, h2, h3, h4, h5, hlt, fun q hq => ?_⟩
  show ROK (if q = ic then rcpy S.2.1 (S.2.2.1.1 ic) else S.2.2.1.1 q) ∧ (if q = ic then rcpy S.2.1 (S.2.2.1.1 ic) else S.2.2.1.1 q).2.2.2.1 = _ ∧ (if q = ic then rcpy S.2.1 (S.2.2.1.1 ic) else S.2.2.1.1 q).2.2.2.2.2.2.1 = _ ∧ (if q = ic then rcpy S.2.1 (S.2.2.1.1 ic) else S.2.2.1.1 q).2.2.2.2.2.2.2.1 = _
  replace hq : q < ic + 1 := hq
  by_cases c : q = ic
  · rw [if_pos c]
    exact ⟨h2.cp _, rfl, rfl, rfl⟩
  · rw [if_neg c]
    exact h7 q (by omega)
set_option maxHeartbeats 1000000 in
theorem M_image {g : qG} (hg : qOK g) {h : qH} {x : Nat → Int32} {y : Nat → Int64} {F : Nat → Nat → Int32} {G : Nat → Nat → Int64} (hM : MX h x y F G) {S : CS} (hR : Rel S x F) (hI : INV S) : qSpec g 3 0 0 mX12_image [.ref 63] h (fun r h' => (if S.2.2.1.2 = 3 then r = some (.int (-1)) ∧ MG h h' S else r = some (.int (nI (S.2.2.1.2 + 1))) ∧ MG h h' (S.1, S.2.1, (fun i => if i = S.2.2.1.2 then rcpy S.2.1 (S.2.2.1.1 S.2.2.1.2) else S.2.2.1.1 i, S.2.2.1.2 + 1), S.2.2.2))) := by
  refine qSpec_run 12 "image" false hg mX12_image_ok rfl rfl (Nat.le_of_ble_eq_true rfl) (by decide) ?_
  intro run step
  have hic3 := hI.2.2.2.2.2.1
  have hu20 := hI.2.1.1.2.2
  have e64 : x 64 = nI S.2.2.1.2 := (hR.1.2.2.2.2.2.2.2.2.2.2)
  have e62 : x 62 = nI S.2.1.2.2.2.2.2.1 := (hR.1.2.2.2.2.2.2.2.2.2.1)
  have eq_ : (2773 * (upd x 0 0) 64 : Int32) = nI (2773 * S.2.2.1.2) := by
    show (2773 * x 64 : Int32) = _
    rw [e64, Int32.mul_comm, Nat.mul_comm 2773]
    exact pk_mul _ 2773
  have eqc : (2773 * (upd x 0 0) 64 + 132 : Int32) = nI (2773 * S.2.2.1.2 + 132) := by rw [eq_]; exact nI_add _ 132
  have eqi : ∀ i : Nat, (2773 * (upd x 0 0) 64 + 132 + 1 + nI i : Int32) = nI (2773 * S.2.2.1.2 + 133 + i) := by
    intro i
    rw [eqc, nI_1, nI_add]
  have em : (132 * (upd x 0 0) 62 : Int32) = nI (132 * S.2.1.2.2.2.2.2.1) := by
    show (132 * x 62 : Int32) = _
    rw [e62, Int32.mul_comm, Nat.mul_comm 132]
    exact pk_mul _ 132
  refine step.1 _ _ _ _ _ _ _ sgX12_image_0_ok ?_
  refine ⟨_, hM.1, Nat.le_of_ble_eq_true rfl, rfl, ?_⟩
  have hM0 := hM.p63 (sI_0 (v := 0) (rfl : _ = M63l x y))
  have hR0 : Rel S (upd x 0 0) F := hR.t 0
  have hk0 := kp.rf (h := h) |>.u (k := 63) (e := .inl (12, (M63l x y).set 0 (.int 0))) (by decide) (by decide)
  refine ⟨by decide, _, _, hM0.1, rfl, ?_⟩
  refine ⟨fun c10 => ?_, fun c10 => ?_⟩
  · have d10 : ¬ S.2.2.1.2 = 3 := fun q => c10 (by show x 64 = 3; rw [e64, q]; rfl)
    have loop : ∀ (m i : Nat) (hX : qH), i + m = 132 * S.2.1.2.2.2.2.2.1 → MX hX (upd x 0 0) y (fup F 91 (imw (F 91) (2773 * S.2.2.1.2) (F 67) (F 78) ((upd x 0 0) 36) ((upd x 0 0) 23) ((upd x 0 0) 62) (F 90) i)) G → kp h hX → run 49 [(2, .int (nI i)), (1, .int (2773 * (upd x 0 0) 64)), (0, .ref 63)] [] hX 0 0 := by
      intro m
      induction m with
      | zero =>
        intro i hX hi hMX hkX
        refine step.1 _ _ _ _ _ _ _ sgX12_image_49_ok ?_
        refine ⟨by decide, _, _, hMX.1, rfl, ?_⟩
        refine ⟨fun c58 => ?_, fun c58 => absurd (show (132 * (upd x 0 0) 62 : Int32) ≤ nI i from by rw [em]; exact nI_le (by omega) (by omega)) c58⟩
        
        refine step.1 _ _ _ _ _ _ _ sgX12_image_87_ok ?_
        refine ⟨rfl, ?_⟩
        refine ⟨by decide, _, _, hMX.1, rfl, ?_⟩
        refine ⟨_, hMX.1, Nat.le_of_ble_eq_true rfl, rfl, ?_⟩
        refine ⟨by decide, _, _, rfl, rfl, ?_⟩
        refine ⟨.int, rfl, rfl, Nat.le_refl _, Nat.le_refl _, ?_⟩
        show if S.2.2.1.2 = 3 then _ else _
        rw [if_neg d10]
        have hX3 := hMX
        rw [show i = 132 * S.2.1.2.2.2.2.2.1 by omega] at hX3
        refine ⟨congrArg (fun z => some (Value.int z)) (show (x 64 + 1 : Int32) = nI (S.2.2.1.2 + 1) by rw [e64, nI_1]), _, _, _, _, hX3.p63 (sI_64 (v := (upd x 0 0) 64 + 1) rfl), hkX.u (by decide) (by decide), ?_, rfl⟩
        exact hR0.image hI rfl (by omega) (fun k hk => upd_n hk) (show (x 64 + 1 : Int32) = nI (S.2.2.1.2 + 1) by rw [e64, nI_1]) (fun j hj => fup_n hj) (by rw [fup_s, show (upd x 0 0) 62 = nI S.2.1.2.2.2.2.2.1 from e62])
      | succ m ih =>
        intro i hX hi hMX hkX
        refine step.1 _ _ _ _ _ _ _ sgX12_image_49_ok ?_
        refine ⟨by decide, _, _, hMX.1, rfl, ?_⟩
        refine ⟨fun c58 => absurd (show nI (132 * S.2.1.2.2.2.2.2.1) ≤ nI i from by rw [← em]; exact c58) (h_nle (by omega) (by omega)), fun c58 => ?_⟩
        
        refine ⟨by decide, _, _, hMX.1, rfl, ?_⟩
        refine ⟨by decide, _, _, hMX.1, rfl, ?_⟩
        refine ⟨_, _, hMX.c90, vp_in_nI (n := i) (N := 2640) (by omega) (by decide), ?_⟩
        refine ⟨_, _, hMX.c91, (by rw [eqi]; exact vp_in_nI (n := 2773 * S.2.2.1.2 + 133 + i) (N := 8319) (by omega) (by decide)), ?_⟩
        have kk := fun hZ => ih (i + 1) hZ (by omega)
        rw [← nI_1 i] at kk
        refine kk _ (hMX.vkk (k := 91) (by decide) ?_ (fun j hj => qup_n hj)) (hkX.u (k := 91) (by decide) (by decide))
        show some (aI' 8319 (upd (imw (F 91) (2773 * S.2.2.1.2) (F 67) (F 78) ((upd x 0 0) 36) ((upd x 0 0) 23) ((upd x 0 0) 62) (F 90) i) (2773 * (upd x 0 0) 64 + 132 + 1 + nI i : Int32).toNatClampNeg (F 90 (nI i).toNatClampNeg))) = some (aI' 8319 (imw (F 91) (2773 * S.2.2.1.2) (F 67) (F 78) ((upd x 0 0) 36) ((upd x 0 0) 23) ((upd x 0 0) 62) (F 90) (i + 1)))
        rw [eqi, h_tn (by omega), h_tn (by omega), imw_s]
    refine step.1 _ _ _ _ _ _ _ sgX12_image_15_ok ?_
    refine ⟨by decide, _, _, hM0.1, rfl, ?_⟩
    refine ⟨by decide, _, _, hM0.1, rfl, ?_⟩
    refine Or.inl ⟨rfl, _, 1, 0, 0, _, _, _, qi_12_524, ⟨rfl, rfl⟩, ⟨hM0.1, rfl⟩, rfl, rfl, (by rw [eq_]; exact M_keepsIn hg hM0 (a := 91) (sz := 8319) (b := 2773 * S.2.2.1.2) hM0.c91 (by decide) (by decide) (by decide) (by omega) (by decide)), fun y30 h30 hy30 => ?_⟩
    obtain ⟨rfl, hA, hs⟩ := hy30
    have hM2 : MX h30 (upd x 0 0) y (fup F 91 (krow (F 91) (2773 * S.2.2.1.2) (F 67) (F 78) ((upd x 0 0) 36) ((upd x 0 0) 23))) G := hM0.vk (by decide) hA (fun j hj => hs.2 j (by simpa using hj))
    have hk2 := hk0.s hs (by simp)
    refine ⟨by decide, _, _, hM2.1, rfl, ?_⟩
    refine ⟨by decide, _, _, hM2.1, rfl, ?_⟩
    refine ⟨_, _, hM2.c91, (by rw [eqc]; exact vp_in_nI (n := 2773 * S.2.2.1.2 + 132) (N := 8319) (by omega) (by decide)), ?_⟩
    refine loop (132 * S.2.1.2.2.2.2.2.1) 0 _ (by omega) (hM2.vkk (k := 91) (by decide) ?_ (fun j hj => qup_n hj)) (hk2.u (k := 91) (by decide) (by decide))
    rw [imw_0]
    show some (aI' 8319 (upd (krow (F 91) (2773 * S.2.2.1.2) (F 67) (F 78) ((upd x 0 0) 36) ((upd x 0 0) 23)) (2773 * (upd x 0 0) 64 + 132 : Int32).toNatClampNeg ((upd x 0 0) 62))) = some (aI' 8319 (upd (krow (F 91) (2773 * S.2.2.1.2) (F 67) (F 78) ((upd x 0 0) 36) ((upd x 0 0) 23)) (2773 * S.2.2.1.2 + 132) ((upd x 0 0) 62)))
    rw [eqc, h_tn (by omega)]
  · have d10 : S.2.2.1.2 = 3 := (nI_eq (b := 3) (by omega) (by decide)).mp (by rw [← e64]; exact c10)
    refine ⟨.int, rfl, rfl, Nat.le_refl _, Nat.le_refl _, ?_⟩
    show if S.2.2.1.2 = 3 then _ else _
    rw [if_pos d10]
    exact ⟨rfl, _, _, _, _, hM0, hk0, hR0, rfl⟩
end Q12S
