section Q07M
theorem qsub_nil {α : Type} {L : List α} : ∀ y ∈ ([] : List α), y ∈ L := fun _ h => absurd h List.not_mem_nil
theorem qsub_cons {α : Type} {L L' : List α} {x : α} (i : Nat) (h : L[i]? = some x) (t : ∀ y ∈ L', y ∈ L) : ∀ y ∈ x :: L', y ∈ L := fun y hy => by
  rcases List.mem_cons.mp hy with rfl | h2
  · exact List.mem_of_getElem? h
  · exact t y h2
theorem lgc_le (x y : Int64) : lg_cmp x y ≤ 0 ↔ x ≤ y := by
  unfold lg_cmp
  split
  · rename_i h
    exact ⟨fun q => absurd q (by decide), fun q => absurd q (Int64.not_le.mpr h)⟩
  · rename_i h
    have h := Int64.not_lt.mp h
    split
    · exact ⟨fun _ => h, fun _ => by decide⟩
    · exact ⟨fun _ => h, fun _ => by decide⟩
theorem lgc_lt (x y : Int64) : lg_cmp x y < 0 ↔ x < y := by
  unfold lg_cmp
  split
  · rename_i h
    exact ⟨fun q => absurd q (by decide), fun q => absurd q (Int64.not_lt.mpr (Int64.le_of_lt h))⟩
  · rename_i h
    split
    · rename_i e
      subst e
      exact ⟨fun q => absurd q (by decide), fun q => absurd q (Int64.lt_irrefl)⟩
    · rename_i e
      exact ⟨fun _ => by
        rcases Int64.lt_or_eq_of_le (Int64.not_lt.mp h) with q | q
        · exact q
        · exact absurd q e, fun _ => by decide⟩
theorem lgc_ge (x y : Int64) : 0 ≤ lg_cmp x y ↔ y ≤ x := by
  rw [← Int32.not_lt, lgc_lt, Int64.not_lt]
theorem lgc_gt (x y : Int64) : 0 < lg_cmp x y ↔ y < x := by
  rw [← Int32.not_le, lgc_le, Int64.not_le]
theorem within_t {lo x hi : Nat} (h1 : lo ≤ x) (h2 : x ≤ hi) (h3 : hi < 2 ^ 31) : (decide (nI lo ≤ nI x) && decide (nI x ≤ nI hi)) = true := by
  rw [decide_eq_true ((nI_leI (by omega) (by omega)).mpr h1), decide_eq_true ((nI_leI (by omega) (by omega)).mpr h2)]; rfl
/-- the greatest of the worths from door d on -/
def tbest (W : Nat → Int64) : Nat → Nat → Nat → Nat
  | 0, _, b => b
  | m + 1, d, b => tbest W m (d + 1) (if W b < W d then d else b)
theorem tbest_lt (W : Nat → Int64) : ∀ (m d b : Nat), d + m = 10 → b < 10 → tbest W m d b < 10 := by
  intro m
  induction m with
  | zero => intro d b _ h; exact h
  | succ m ih =>
    intro d b h1 h2
    refine ih _ _ (by omega) ?_
    split <;> omega
abbrev sS : Type := (Nat → Int64) × Int32 × Int64
def stake (s : sS) : sS := if 0 ≤ s.1 (tbest s.1 9 1 0) then (vp_updL s.1 (tbest s.1 9 1 0) (-1), s.2.1 ||| (1 <<< (nI (tbest s.1 9 1 0) &&& 31)), s.2.2 + s.1 (tbest s.1 9 1 0)) else s
def stakes : Nat → sS → sS
  | 0, s => s
  | m + 1, s => stakes m (stake s)
theorem T_takeSolo {g : qG} (hg : qOK g) {h : qH}  {tc tp tj tm : Int64} {sd : Int32} {sw : Int64} {pa pd : Int32} (hT : h.2 50 = some (T50 tc tp tj tm sd sw pa pd)) {W : Nat → Int64} (h51 : h.2 51 = some (.inr (.inr (.inl (10, W))))) : qSpec g 1 0 0 mX9_takeSolo [.ref 50] h (fun r h' => r = none ∧ same h h' [50, 51] ∧ h'.2 50 = some (T50 tc tp tj tm (stake (W, sd, sw)).2.1 (stake (W, sd, sw)).2.2 pa pd) ∧ h'.2 51 = some (.inr (.inr (.inl (10, (stake (W, sd, sw)).1))))) := by
  refine qSpec_run 9 "takeSolo" false hg mX9_takeSolo_ok rfl rfl (Nat.le_of_ble_eq_true rfl) (by decide) ?_
  intro run step
  have loop : ∀ (m d b : Nat), d + m = 10 → b < 10 → tbest W m d b = tbest W 9 1 0 → run 4 [(2, .int (nI d)), (1, .int (nI b)), (0, .ref 50)] [] h 0 0 := by
    intro m
    induction m with
    | zero =>
      intro d b hd hb hk
      obtain rfl : d = 10 := by omega
      have hk : b = tbest W 9 1 0 := hk
      subst hk
      have e := h_tn (n := tbest W 9 1 0) (by omega)
      refine step.1 _ _ _ _ _ _ _ sgX9_takeSolo_4_ok ?_
      refine ⟨fun c7 => ?_, fun c7 => absurd (by decide : (10 : Int32) ≤ nI 10) c7⟩
      refine step.1 _ _ _ _ _ _ _ sgX9_takeSolo_38_ok ?_
      refine ⟨by decide, _, _, hT, rfl, ?_⟩
      refine ⟨_, _, h51, vp_in_nI (by omega) (by decide), ?_⟩
      refine ⟨fun c46 => ?_, fun c46 => ?_⟩
      · have hs : ¬ (0 : Int64) ≤ W (tbest W 9 1 0) := by
          have q := (lgc_lt _ _).mp c46
          rw [e] at q
          exact Int64.not_le.mpr q
        refine step.1 _ _ _ _ _ _ _ sgX9_takeSolo_85_ok ?_
        refine ⟨rfl, Nat.le_refl _, Nat.le_refl _, ?_⟩
        exact ⟨rfl, same.rf, by rw [stake, if_neg hs]; exact hT, by rw [stake, if_neg hs]; exact h51⟩
      · have hs : (0 : Int64) ≤ W (tbest W 9 1 0) := by
          have q := Int64.not_lt.mp (fun q => c46 ((lgc_lt _ _).mpr q))
          rw [e] at q
          exact q
        refine ⟨rfl, ?_⟩
        refine ⟨by decide, _, _, hT, rfl, ?_⟩
        refine ⟨_, hT, Nat.le_of_ble_eq_true rfl, rfl, ?_⟩
        refine ⟨rfl, ?_⟩
        refine ⟨by decide, _, _, rfl, rfl, ?_⟩
        refine ⟨by decide, _, _, rfl, rfl, ?_⟩
        refine ⟨_, _, h51, vp_in_nI (by omega) (by decide), ?_⟩
        refine ⟨_, rfl, Nat.le_of_ble_eq_true rfl, rfl, ?_⟩
        refine ⟨by decide, _, _, rfl, rfl, ?_⟩
        refine ⟨_, _, h51, vp_in_nI (by omega) (by decide), ?_⟩
        refine step.1 _ _ _ _ _ _ _ sgX9_takeSolo_85_ok ?_
        refine ⟨rfl, Nat.le_refl _, Nat.le_refl _, ?_⟩
        refine ⟨rfl, ⟨rfl, fun j hj => ?_⟩, ?_, ?_⟩
        · have hj1 : j ≠ 50 := fun q => hj (by rw [q]; simp)
          have hj2 : j ≠ 51 := fun q => hj (by rw [q]; simp)
          simp only [qup_n hj1, qup_n hj2]
        · rw [stake, if_pos hs]; simp only [e]; rfl
        · rw [stake, if_pos hs]; simp only [e]; rfl
    | succ m ih =>
      intro d b hd hb hk
      refine step.1 _ _ _ _ _ _ _ sgX9_takeSolo_4_ok ?_
      refine ⟨fun c7 => absurd c7 (h_nle (b := 10) (by omega) (by decide)), fun c7 => ?_⟩
      refine ⟨by decide, _, _, hT, rfl, ?_⟩
      refine ⟨_, _, h51, vp_in_nI (by omega) (by decide), ?_⟩
      refine ⟨by decide, _, _, hT, rfl, ?_⟩
      refine ⟨_, _, h51, vp_in_nI (by omega) (by decide), ?_⟩
      refine ⟨fun c23 => ?_, fun c23 => ?_⟩
      · have q := (lgc_le _ _).mp c23
        rw [h_tn (by omega), h_tn (by omega)] at q
        have hk2 : tbest W m (d + 1) b = tbest W 9 1 0 := by rw [← hk, tbest, if_neg (Int64.not_lt.mpr q)]
        refine step.1 _ _ _ _ _ _ _ sgX9_takeSolo_30_ok ?_
        refine step.1 _ _ _ _ _ _ _ sgX9_takeSolo_31_ok ?_
        have kk2 := ih (d + 1) b (by omega) (by omega) hk2
        rw [← nI_1] at kk2
        exact kk2
      · have q := Int64.not_le.mp (fun q => c23 ((lgc_le _ _).mpr q))
        rw [h_tn (by omega), h_tn (by omega)] at q
        have hk2 : tbest W m (d + 1) d = tbest W 9 1 0 := by rw [← hk, tbest, if_pos q]
        refine step.1 _ _ _ _ _ _ _ sgX9_takeSolo_31_ok ?_
        have kk2 := ih (d + 1) d (by omega) (by omega) hk2
        rw [← nI_1] at kk2
        exact kk2
  refine step.1 _ _ _ _ _ _ _ sgX9_takeSolo_0_ok ?_
  exact loop 9 1 0 rfl (by decide) rfl
/-- the lines' joys, by doors -/
def swl (D K V : Nat → Int32) (N : Nat) (m ve : Int32) (pf vf rf : Nat → Nat) (i : Nat) : Nat → (Nat → Int64) → (Nat → Int64)
  | 0, W => W
  | q + 1, W => swl D K V N m ve pf vf rf (i + 1) q (vp_updL W (pf i) ((lmean D K V N m ve pf vf rf i).2.2.1 * (D (pf i * 10 + 2)).toInt64))
set_option maxHeartbeats 2000000 in
theorem T_chooseSolos {g : qG} (hg : qOK g) {h : qH} {D P U Q K V : Nat → Int32} {n u st ve cl : Int32} {N M kk so : Nat} {pf vf rf : Nat → Nat} (hW : isW h D P U Q K V n (nI kk) u st ve cl (nI M) N) (hP : isP P kk pf vf rf) (hk : kk ≤ 10) (hM : M ≤ 8) (hso : csol Q 0 M 0 = nI so) (hs72 : so ≤ 72) {tc tp tj tm : Int64} {sd : Int32} {sw : Int64} {pa pd : Int32} (hT : h.2 50 = some (T50 tc tp tj tm sd sw pa pd)) {W : Nat → Int64} (h51 : h.2 51 = some (.inr (.inr (.inl (10, W))))) : qSpec g 6 0 0 mX9_chooseSolos [.ref 50] h (fun r h' => r = none ∧ ∃ W0 : Nat → Int64, (∀ j : Nat, j < 10 → W0 j = -1) ∧ same h h' [25, 48, 49, 50, 51] ∧ isW h' D P U Q K V n (nI kk) u st ve cl (nI M) N ∧ h'.2 50 = some (T50 tc tp tj tm (stakes (min so kk) (swl D K V N (nI M) ve pf vf rf 0 kk W0, 0, 0)).2.1 (stakes (min so kk) (swl D K V N (nI M) ve pf vf rf 0 kk W0, 0, 0)).2.2 pa pd) ∧ h'.2 51 = some (.inr (.inr (.inl (10, (stakes (min so kk) (swl D K V N (nI M) ve pf vf rf 0 kk W0, 0, 0)).1))))) := by
  refine qSpec_run 9 "chooseSolos" false hg mX9_chooseSolos_ok rfl rfl (Nat.le_of_ble_eq_true rfl) (by decide) ?_
  intro run step
  have hM0 := hM
  have loop3 : ∀ (W0 : Nat → Int64), (∀ j : Nat, j < 10 → W0 j = -1) → ∀ (mm i : Nat) (s : sS) (hX : qH), i + mm = min so kk → stakes mm s = stakes (min so kk) (swl D K V N (nI M) ve pf vf rf 0 kk W0, 0, 0) → same h hX [25, 48, 49, 50, 51] → isW hX D P U Q K V n (nI kk) u st ve cl (nI M) N → hX.2 50 = some (T50 tc tp tj tm s.2.1 s.2.2 pa pd) → hX.2 51 = some (.inr (.inr (.inl (10, s.1)))) → run 100 [(2, .int (nI i)), (1, .int (nI so)), (0, .ref 50)] [] hX 0 0 := by
    intro W0 hW0 mm
    induction mm with
    | zero =>
      intro i s hX hi hst hsX hWX hTX h5X
      refine step.1 _ _ _ _ _ _ _ sgX9_chooseSolos_100_ok ?_
      refine ⟨fun c102 => ?_, fun c102 => ?_⟩
      · refine step.1 _ _ _ _ _ _ _ sgX9_chooseSolos_126_ok ?_
        refine ⟨rfl, Nat.le_refl _, Nat.le_refl _, ?_⟩
        exact ⟨rfl, W0, hW0, hsX, hWX, by rw [← hst]; exact hTX, by rw [← hst]; exact h5X⟩
      · refine ⟨by decide, _, _, hTX, rfl, ?_⟩
        refine ⟨by decide, _, _, hWX.1.1, rfl, ?_⟩
        refine ⟨fun c113 => ?_, fun c113 => absurd ((nI_leI (a := kk) (b := i) (by omega) (by omega)).mpr (by have := mt (nI_leI (a := so) (b := i) (by omega) (by omega)).mpr c102; omega)) c113⟩
        refine step.1 _ _ _ _ _ _ _ sgX9_chooseSolos_126_ok ?_
        refine ⟨rfl, Nat.le_refl _, Nat.le_refl _, ?_⟩
        exact ⟨rfl, W0, hW0, hsX, hWX, by rw [← hst]; exact hTX, by rw [← hst]; exact h5X⟩
    | succ mm ih =>
      intro i s hX hi hst hsX hWX hTX h5X
      refine step.1 _ _ _ _ _ _ _ sgX9_chooseSolos_100_ok ?_
      refine ⟨fun c102 => absurd ((nI_leI (a := so) (b := i) (by omega) (by omega)).mp c102) (by omega), fun c102 => ?_⟩
      refine ⟨by decide, _, _, hTX, rfl, ?_⟩
      refine ⟨by decide, _, _, hWX.1.1, rfl, ?_⟩
      refine ⟨fun c113 => absurd ((nI_leI (a := kk) (b := i) (by omega) (by omega)).mp c113) (by omega), fun c113 => ?_⟩
      refine Or.inl ⟨rfl, _, 1, 0, 0, _, _, _, qi_9_105, ⟨rfl, rfl⟩, ⟨hTX, rfl⟩, rfl, rfl, T_takeSolo hg hTX h5X, fun y117 h117 hy117 => ?_⟩
      obtain ⟨rfl, hs9, hT9, h59⟩ := hy117
      have kk2 := ih (i + 1) (stake s) h117 (by omega) hst (hsX.tr (l' := [50, 51]) (l2 := [25, 48, 49, 50, 51]) hs9 (by simp) (by simp)) (hWX.sm hs9 rfl) hT9 h59
      rw [← nI_1] at kk2
      exact kk2
  have loop2 : ∀ (W0 : Nat → Int64), (∀ j : Nat, j < 10 → W0 j = -1) → ∀ (mm i : Nat) (Wc : Nat → Int64) (hX : qH), i + mm = kk → swl D K V N (nI M) ve pf vf rf i mm Wc = swl D K V N (nI M) ve pf vf rf 0 kk W0 → same h hX [25, 48, 49, 50, 51] → isW hX D P U Q K V n (nI kk) u st ve cl (nI M) N → hX.2 50 = some (T50 tc tp tj tm sd sw pa pd) → hX.2 51 = some (.inr (.inr (.inl (10, Wc)))) → run 25 [(1, .int (nI i)), (0, .ref 50)] [] hX 0 0 := by
    intro W0 hW0 mm
    induction mm with
    | zero =>
      intro i Wc hX hi hst hsX hWX hTX h5X
      refine step.1 _ _ _ _ _ _ _ sgX9_chooseSolos_25_ok ?_
      refine ⟨by decide, _, _, hTX, rfl, ?_⟩
      refine ⟨by decide, _, _, hWX.1.1, rfl, ?_⟩
      refine ⟨fun c33 => ?_, fun c33 => absurd ((nI_leI (a := kk) (b := i) (by omega) (by omega)).mpr (by omega)) c33⟩
      refine step.1 _ _ _ _ _ _ _ sgX9_chooseSolos_80_ok ?_
      refine ⟨_, hTX, Nat.le_of_ble_eq_true rfl, rfl, ?_⟩
      refine ⟨_, rfl, Nat.le_of_ble_eq_true rfl, rfl, ?_⟩
      have hfin : ∀ e1 e2 : qE, same hX (hX.1, qup (qup hX.2 50 e1) 50 e2) [50] := fun e1 e2 => ⟨rfl, fun j hj => by
        have hj : j ≠ 50 := fun q => hj (by rw [q]; simp)
        simp only [qup_n hj]⟩
      have hWZ := hWX.sm (hfin (T50 tc tp tj tm 0 sw pa pd) (T50 tc tp tj tm 0 0 pa pd)) rfl
      refine ⟨by decide, _, _, rfl, rfl, ?_⟩
      refine Or.inl ⟨rfl, _, 2, 0, 0, _, _, _, qi_9_99, ⟨rfl, rfl⟩, ⟨hWZ.2.1.1, rfl⟩, rfl, rfl, C_allSolos hg hWZ.2.1 hM, fun y94 h94 hy94 => ?_⟩
      obtain ⟨rfl, hh⟩ := hy94
      rw [hh, hso]
      clear hh
      exact loop3 W0 hW0 (min so kk) 0 (swl D K V N (nI M) ve pf vf rf 0 kk W0, 0, 0) _ (by omega) rfl (hsX.tr (l' := [50]) (l2 := [25, 48, 49, 50, 51]) (hfin _ _) (by simp) (by simp)) hWZ rfl (by rw [← hst]; exact h5X)
    | succ mm ih =>
      intro i Wc hX hi hst hsX hWX hTX h5X
      refine step.1 _ _ _ _ _ _ _ sgX9_chooseSolos_25_ok ?_
      refine ⟨by decide, _, _, hTX, rfl, ?_⟩
      refine ⟨by decide, _, _, hWX.1.1, rfl, ?_⟩
      refine ⟨fun c33 => absurd ((nI_leI (a := kk) (b := i) (by omega) (by omega)).mp c33) (by omega), fun c33 => ?_⟩
      refine ⟨by decide, _, _, hTX, rfl, ?_⟩
      have hpi := hP i (by omega)
      refine Or.inl ⟨rfl, _, 1, 0, 0, _, _, _, qi_9_69, ⟨rfl, rfl⟩, ⟨hWX.1.1, rfl⟩, rfl, rfl, R_ofLine hg hWX.1 i 0 (by omega) (by decide), fun y42 h42 hy42 => ?_⟩
      obtain ⟨rfl, hh⟩ := hy42
      rw [hh, hpi.1.1]
      clear hh
      refine Or.inl ⟨rfl, _, 1, 0, 0, _, Or.inr qi_9_89, ⟨rfl, rfl⟩, rfl, rfl, sp_within hg _ _ _, fun y50 h50 hy50 => ?_⟩
      obtain ⟨rfl, hh⟩ := hy50
      rw [hh]
      clear hh
      refine ⟨fun c53 => absurd ((congrArg qb (within_t (lo := 0) (x := pf i) (hi := 9) (by omega) (by omega) (by omega))).symm.trans c53) (by decide), fun c53 => ?_⟩
      refine Or.inl ⟨rfl, _, 5, 0, 0, _, _, _, qi_9_53, ⟨rfl, rfl⟩, ⟨hTX, rfl⟩, rfl, rfl, T_visitBy hg hWX hP hk hTX i (by omega), fun y58 h58 hy58 => ?_⟩
      obtain ⟨rfl, hs9, hW9, hV9⟩ := hy58
      have hT9 := (hs9.2 50 (by simp)).trans hTX
      have h59 := (hs9.2 51 (by simp)).trans h5X
      refine ⟨by decide, _, _, hT9, rfl, ?_⟩
      refine ⟨by decide, _, _, hT9, rfl, ?_⟩
      refine ⟨by decide, _, _, hV9, rfl, ?_⟩
      refine ⟨_, _, h59, vp_in_nI (by omega) (by decide), ?_⟩
      have hsA : same h58 (h58.1, qup h58.2 51 (.inr (.inr (.inl (10, vp_updL Wc (nI (pf i)).toNatClampNeg ((lmean D K V N (nI M) ve pf vf rf i).2.2.1 * (D (pf i * 10 + 2)).toInt64)))))) [51] := same.up (by simp)
      have eX := h_tn (n := pf i) (by omega)
      refine step.1 _ _ _ _ _ _ _ sgX9_chooseSolos_74_ok ?_
      refine step.2 _ _ _ _ _ _ _ (qsub_cons 0 rfl (qsub_cons 2 rfl qsub_nil)) ?_
      have kk2 := ih (i + 1) (vp_updL Wc (pf i) ((lmean D K V N (nI M) ve pf vf rf i).2.2.1 * (D (pf i * 10 + 2)).toInt64)) _ (by omega) hst ((hsX.tr (l' := [25, 48, 49]) (l2 := [25, 48, 49, 50, 51]) hs9 (by simp) (by simp)).tr (l' := [51]) (l2 := [25, 48, 49, 50, 51]) hsA (by simp) (by simp)) (hW9.sm hsA rfl) hT9 (by rw [eX]; rfl)
      rw [← nI_1] at kk2
      exact kk2
  have loop1 : ∀ (mm d : Nat) (W1 : Nat → Int64) (hX : qH), d + mm = 10 → (∀ j : Nat, j < d → W1 j = -1) → same h hX [51] → hX.2 50 = some (T50 tc tp tj tm sd sw pa pd) → hX.2 51 = some (.inr (.inr (.inl (10, W1)))) → run 2 [(1, .int (nI d)), (0, .ref 50)] [] hX 0 0 := by
    intro mm
    induction mm with
    | zero =>
      intro d W1 hX hd hW1 hsX hTX h5X
      obtain rfl : d = 10 := by omega
      refine step.1 _ _ _ _ _ _ _ sgX9_chooseSolos_2_ok ?_
      refine ⟨fun c5 => ?_, fun c5 => absurd (by decide : (10 : Int32) ≤ nI 10) c5⟩
      refine step.1 _ _ _ _ _ _ _ sgX9_chooseSolos_23_ok ?_
      exact loop2 W1 hW1 kk 0 W1 _ (by omega) rfl (hsX.tr (l2 := [25, 48, 49, 50, 51]) same.rf (l' := []) (by simp) (by simp)) (hW.sm hsX rfl) hTX h5X
    | succ mm ih =>
      intro d W1 hX hd hW1 hsX hTX h5X
      refine step.1 _ _ _ _ _ _ _ sgX9_chooseSolos_2_ok ?_
      refine ⟨fun c5 => absurd c5 (h_nle (b := 10) (by omega) (by decide)), fun c5 => ?_⟩
      refine ⟨by decide, _, _, hTX, rfl, ?_⟩
      refine ⟨_, _, h5X, vp_in_nI (by omega) (by decide), ?_⟩
      have kk2 := ih (d + 1) (vp_updL W1 (nI d).toNatClampNeg (-1)) _ (by omega) (fun j hj => by
        rw [h_tn (n := d) (by omega)]
        by_cases e : j = d
        · subst e; exact if_pos rfl
        · exact (if_neg e).trans (hW1 j (by omega))) (hsX.tr (l' := [51]) (l2 := [51]) (same.up (h := hX) (k := 51) (e := .inr (.inr (.inl (10, vp_updL W1 (nI d).toNatClampNeg (-1))))) (by simp)) (by simp) (by simp)) hTX rfl
      rw [← nI_1] at kk2
      exact kk2
  refine step.1 _ _ _ _ _ _ _ sgX9_chooseSolos_0_ok ?_
  exact loop1 10 0 W h rfl (fun j hj => absurd hj (Nat.not_lt_zero j)) same.rf hT h51
end Q07M
