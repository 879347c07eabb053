section Q07M
theorem qsub_nil {α : Type} {L : List α} : ∀ y ∈ ([] : List α), y ∈ L := fun _ h => absurd h List.not_mem_nil
theorem qsub_cons {α : Type} {L L' : List α} {x : α} (i : Nat) (h : L[i]? = some x) (t : ∀ y ∈ L', y ∈ L) : ∀ y ∈ x :: L', y ∈ L := fun y hy => by
  rcases List.mem_cons.mp hy with rfl | h2
  · exact List.mem_of_getElem? h
  · exact t y h2
theorem lgc_le (x y : Int64) : lg_cmp x y ≤ 0 ↔ x ≤ y := by
  unfold lg_cmp
  split
  · rename_i h
    exact ⟨fun q => absurd q (by decide), fun q => absurd q (Int64.not_le.mpr h)⟩
  · rename_i h
    have h := Int64.not_lt.mp h
    split
    · exact ⟨fun _ => h, fun _ => by decide⟩
    · exact ⟨fun _ => h, fun _ => by decide⟩
theorem lgc_lt (x y : Int64) : lg_cmp x y < 0 ↔ x < y := by
  unfold lg_cmp
  split
  · rename_i h
    exact ⟨fun q => absurd q (by decide), fun q => absurd q (Int64.not_lt.mpr (Int64.le_of_lt h))⟩
  · rename_i h
    split
    · rename_i e
      subst e
      exact ⟨fun q => absurd q (by decide), fun q => absurd q (Int64.lt_irrefl)⟩
    · rename_i e
      exact ⟨fun _ => by
        rcases Int64.lt_or_eq_of_le (Int64.not_lt.mp h) with q | q
        · exact q
        · exact absurd q e, fun _ => by decide⟩
theorem lgc_ge (x y : Int64) : 0 ≤ lg_cmp x y ↔ y ≤ x := by
  rw [← Int32.not_lt, lgc_lt, Int64.not_lt]
theorem lgc_gt (x y : Int64) : 0 < lg_cmp x y ↔ y < x := by
  rw [← Int32.not_le, lgc_le, Int64.not_le]
/-- the greatest of the worths from door d on -/
def tbest (W : Nat → Int64) : Nat → Nat → Nat → Nat
  | 0, _, b => b
  | m + 1, d, b => tbest W m (d + 1) (if W b < W d then d else b)
theorem tbest_lt (W : Nat → Int64) : ∀ (m d b : Nat), d + m = 10 → b < 10 → tbest W m d b < 10 := by
  intro m
  induction m with
  | zero => intro d b _ h; exact h
  | succ m ih =>
    intro d b h1 h2
    refine ih _ _ (by omega) ?_
    split <;> omega
abbrev sS : Type := (Nat → Int64) × Int32 × Int64
def stake (s : sS) : sS := if 0 ≤ s.1 (tbest s.1 9 1 0) then (vp_updL s.1 (tbest s.1 9 1 0) (-1), s.2.1 ||| (1 <<< (nI (tbest s.1 9 1 0) &&& 31)), s.2.2 + s.1 (tbest s.1 9 1 0)) else s
def stakes : Nat → sS → sS
  | 0, s => s
  | m + 1, s => stakes m (stake s)
theorem T_takeSolo {g : qG} (hg : qOK g) {h : qH}  {tc tp tj tm : Int64} {sd : Int32} {sw : Int64} {pa pd : Int32} (hT : h.2 50 = some (T50 tc tp tj tm sd sw pa pd)) {W : Nat → Int64} (h51 : h.2 51 = some (.inr (.inr (.inl (10, W))))) : qSpec g 1 0 0 mX9_takeSolo [.ref 50] h (fun r h' => r = none ∧ same h h' [50, 51] ∧ h'.2 50 = some (T50 tc tp tj tm (stake (W, sd, sw)).2.1 (stake (W, sd, sw)).2.2 pa pd) ∧ h'.2 51 = some (.inr (.inr (.inl (10, (stake (W, sd, sw)).1))))) := by
  refine qSpec_run 9 "takeSolo" false hg mX9_takeSolo_ok rfl rfl (Nat.le_of_ble_eq_true rfl) (by decide) ?_
  intro run step
  have loop : ∀ (m d b : Nat), d + m = 10 → b < 10 → tbest W m d b = tbest W 9 1 0 → run 4 [(2, .int (nI d)), (1, .int (nI b)), (0, .ref 50)] [] h 0 0 := by
    intro m
    induction m with
    | zero =>
      intro d b hd hb hk
      obtain rfl : d = 10 := by omega
      have hk : b = tbest W 9 1 0 := hk
      subst hk
      have e := h_tn (n := tbest W 9 1 0) (by omega)
      refine step.1 _ _ _ _ _ _ _ sgX9_takeSolo_4_ok ?_
      refine ⟨fun c7 => ?_, fun c7 => absurd (by decide : (10 : Int32) ≤ nI 10) c7⟩
      refine step.1 _ _ _ _ _ _ _ sgX9_takeSolo_38_ok ?_
      refine ⟨by decide, _, _, hT, rfl, ?_⟩
      refine ⟨_, _, h51, vp_in_nI (by omega) (by decide), ?_⟩
      refine ⟨fun c46 => ?_, fun c46 => ?_⟩
      · have hs : ¬ (0 : Int64) ≤ W (tbest W 9 1 0) := by
          have q := (lgc_lt _ _).mp c46
          rw [e] at q
          exact Int64.not_le.mpr q
        refine step.1 _ _ _ _ _ _ _ sgX9_takeSolo_85_ok ?_
        refine ⟨rfl, Nat.le_refl _, Nat.le_refl _, ?_⟩
        exact ⟨rfl, same.rf, by rw [stake, if_neg hs]; exact hT, by rw [stake, if_neg hs]; exact h51⟩
      · have hs : (0 : Int64) ≤ W (tbest W 9 1 0) := by
          have q := Int64.not_lt.mp (fun q => c46 ((lgc_lt _ _).mpr q))
          rw [e] at q
          exact q
        refine ⟨rfl, ?_⟩
        refine ⟨by decide, _, _, hT, rfl, ?_⟩
        refine ⟨_, hT, Nat.le_of_ble_eq_true rfl, rfl, ?_⟩
        refine ⟨rfl, ?_⟩
        refine ⟨by decide, _, _, rfl, rfl, ?_⟩
        refine ⟨by decide, _, _, rfl, rfl, ?_⟩
        refine ⟨_, _, h51, vp_in_nI (by omega) (by decide), ?_⟩
        refine ⟨_, rfl, Nat.le_of_ble_eq_true rfl, rfl, ?_⟩
        refine ⟨by decide, _, _, rfl, rfl, ?_⟩
        refine ⟨_, _, h51, vp_in_nI (by omega) (by decide), ?_⟩
        refine step.1 _ _ _ _ _ _ _ sgX9_takeSolo_85_ok ?_
        refine ⟨rfl, Nat.le_refl _, Nat.le_refl _, ?_⟩
        refine ⟨rfl, ⟨rfl, fun j hj => ?_⟩, ?_, ?_⟩
        · have hj1 : j ≠ 50 := fun q => hj (by rw [q]; simp)
          have hj2 : j ≠ 51 := fun q => hj (by rw [q]; simp)
          simp only [qup_n hj1, qup_n hj2]
        · rw [stake, if_pos hs]; simp only [e]; rfl
        · rw [stake, if_pos hs]; simp only [e]; rfl
    | succ m ih =>
      intro d b hd hb hk
      refine step.1 _ _ _ _ _ _ _ sgX9_takeSolo_4_ok ?_
      refine ⟨fun c7 => absurd c7 (h_nle (b := 10) (by omega) (by decide)), fun c7 => ?_⟩
      refine ⟨by decide, _, _, hT, rfl, ?_⟩
      refine ⟨_, _, h51, vp_in_nI (by omega) (by decide), ?_⟩
      refine ⟨by decide, _, _, hT, rfl, ?_⟩
      refine ⟨_, _, h51, vp_in_nI (by omega) (by decide), ?_⟩
      refine ⟨fun c23 => ?_, fun c23 => ?_⟩
      · have q := (lgc_le _ _).mp c23
        rw [h_tn (by omega), h_tn (by omega)] at q
        have hk2 : tbest W m (d + 1) b = tbest W 9 1 0 := by rw [← hk, tbest, if_neg (Int64.not_lt.mpr q)]
        refine step.1 _ _ _ _ _ _ _ sgX9_takeSolo_30_ok ?_
        refine step.1 _ _ _ _ _ _ _ sgX9_takeSolo_31_ok ?_
        have kk2 := ih (d + 1) b (by omega) (by omega) hk2
        rw [← nI_1] at kk2
        exact kk2
      · have q := Int64.not_le.mp (fun q => c23 ((lgc_le _ _).mpr q))
        rw [h_tn (by omega), h_tn (by omega)] at q
        have hk2 : tbest W m (d + 1) d = tbest W 9 1 0 := by rw [← hk, tbest, if_pos q]
        refine step.1 _ _ _ _ _ _ _ sgX9_takeSolo_31_ok ?_
        have kk2 := ih (d + 1) d (by omega) (by omega) hk2
        rw [← nI_1] at kk2
        exact kk2
  refine step.1 _ _ _ _ _ _ _ sgX9_takeSolo_0_ok ?_
  exact loop 9 1 0 rfl (by decide) rfl
end Q07M
