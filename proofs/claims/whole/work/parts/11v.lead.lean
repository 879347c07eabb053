section Q11V
theorem sins_b (D : Nat → Int32) (d B : Nat) : ∀ (i : Nat) (w : Nat → Nat), i ≤ d → (∀ j : Nat, j ≤ d → j ≠ i → w j < B) → ∀ j : Nat, j ≤ d → j ≠ (sins D d i w).1 → (sins D d i w).2 j < B := by
  intro i
  induction i with
  | zero => intro w _ h j hj hne; exact h j hj hne
  | succ i ih =>
    intro w hi h j hj hne
    unfold sins at hne ⊢
    by_cases c : D (w i * 10 + 0) ≤ D (d * 10 + 0)
    · rw [if_pos c] at hne ⊢
      exact h j hj hne
    · rw [if_neg c] at hne ⊢
      refine ih _ (by omega) (fun q hq hqi => ?_) j hj hne
      unfold wup
      split
      · exact h i (by omega) (by omega)
      · exact h q hq (by omega)
theorem srow_b (D : Nat → Int32) : ∀ (m d : Nat) (w : Nat → Nat), (∀ j : Nat, j < d → w j < d) → ∀ j : Nat, j < d + m → srow D m d w j < d + m := by
  intro m
  induction m with
  | zero => intro d w h j hj; exact h j (by omega)
  | succ m ih =>
    intro d w h j hj
    rw [show d + (m + 1) = d + 1 + m by omega]
    refine ih (d + 1) _ (fun q hq => ?_) j (by omega)
    unfold wup
    by_cases e : q = (sins D d d w).1
    · rw [if_pos e]; omega
    · rw [if_neg e]
      have := sins_b D d d d w (Nat.le_refl _) (fun z hz hzd => h z (by omega)) q (by omega) e
      omega
set_option maxHeartbeats 2000000 in
theorem M_findLead {g : qG} (hg : qOK g) {h : qH} {x : Nat → Int32} {y : Nat → Int64} {F : Nat → Nat → Int32} {G : Nat → Nat → Int64} (hM : MX h x y F G) {S : CS} (hR : Rel S x F) (hn : S.2.1.2.2.2.1 ≤ 10) : qSpec g 3 0 0 mX12_findLead [.ref 63] h (fun r h' => r = none ∧ ∃ F' : Nat → Nat → Int32, QL h h' x y F G F' ∧ (∀ j : Nat, j < S.2.1.2.2.2.1 → F' 87 j = nI ((srow S.2.1.1 S.2.1.2.2.2.1 0 (fun _ => 0)) j)) ∧ ∀ a m : Nat, a + m ≤ S.2.1.2.2.2.1 → F' 88 (a * 11 + (a + m)) = plt S.2.1.1 (srow S.2.1.1 S.2.1.2.2.2.1 0 (fun _ => 0)) m a) := by
  refine qSpec_run 12 "findLead" false hg mX12_findLead_ok rfl rfl (Nat.le_of_ble_eq_true rfl) (by decide) ?_
  intro run step
  have hwb : ∀ j : Nat, j < S.2.1.2.2.2.1 → (srow S.2.1.1 S.2.1.2.2.2.1 0 (fun _ => 0)) j < S.2.1.2.2.2.1 := fun j hj => by
    have := srow_b S.2.1.1 S.2.1.2.2.2.1 0 (fun _ => 0) (fun j hj => absurd hj (Nat.not_lt_zero j)) j (by omega)
    rw [Nat.zero_add] at this
    exact this
  have loop : ∀ (m mn : Nat) (hZ : qH) (FX : Nat → Nat → Int32), mn + m = S.2.1.2.2.2.1 + 1 → QL h hZ x y F G FX → (∀ j : Nat, j < S.2.1.2.2.2.1 → FX 87 j = nI ((srow S.2.1.1 S.2.1.2.2.2.1 0 (fun _ => 0)) j)) → (∀ m : Nat, m < mn → ∀ b : Nat, b + m ≤ S.2.1.2.2.2.1 → FX 88 (b * 11 + (b + m)) = plt S.2.1.1 (srow S.2.1.1 S.2.1.2.2.2.1 0 (fun _ => 0)) m b) → run 9 [(2, .int (nI mn)), (1, .int 11), (0, .ref 63)] [] hZ 0 0 := by
    intro m
    induction m with
    | zero =>
      intro mn hZ FX hm hX hrow htb
      have e19 : x 19 = nI S.2.1.2.2.2.1 := hR.1.2.2.1
      refine step.1 _ _ _ _ _ _ _ sgX12_findLead_9_ok ?_
      refine ⟨by decide, _, _, hX.1.1, rfl, ?_⟩
      refine ⟨fun c14 => ?_, fun c14 => absurd (show x 19 < nI mn from by rw [e19]; exact (nI_ltI (by omega) (by omega)).mpr (by omega)) c14⟩
      
      refine step.1 _ _ _ _ _ _ _ sgX12_findLead_157_ok ?_
      refine ⟨rfl, Nat.le_refl _, Nat.le_refl _, ?_⟩
      refine ⟨rfl, FX, hX, hrow, fun a m ham => htb m (by omega) a ham⟩
    | succ m ih =>
      intro mn hZ FX hm hX hrow htb
      have inner : ∀ (q a : Nat) (hZ : qH) (FX : Nat → Nat → Int32), a + q = S.2.1.2.2.2.1 + 1 - mn → QL h hZ x y F G FX → (∀ j : Nat, j < S.2.1.2.2.2.1 → FX 87 j = nI ((srow S.2.1.1 S.2.1.2.2.2.1 0 (fun _ => 0)) j)) → (∀ m : Nat, m < mn → ∀ b : Nat, b + m ≤ S.2.1.2.2.2.1 → FX 88 (b * 11 + (b + m)) = plt S.2.1.1 (srow S.2.1.1 S.2.1.2.2.2.1 0 (fun _ => 0)) m b) → (∀ b : Nat, b < a → b + mn ≤ S.2.1.2.2.2.1 → FX 88 (b * 11 + (b + mn)) = plt S.2.1.1 (srow S.2.1.1 S.2.1.2.2.2.1 0 (fun _ => 0)) mn b) → run 19 [(3, .int (nI a)), (2, .int (nI mn)), (1, .int 11), (0, .ref 63)] [] hZ 0 0 := by
        intro q
        induction q with
        | zero =>
          intro a hZ FX ha hX hrow htb hti
          have e19 : x 19 = nI S.2.1.2.2.2.1 := hR.1.2.2.1
          have eam : (nI a + nI mn : Int32) = nI (a + mn) := nI_add a mn
          refine step.1 _ _ _ _ _ _ _ sgX12_findLead_19_ok ?_
          refine ⟨by decide, _, _, hX.1.1, rfl, ?_⟩
          refine ⟨fun c26 => ?_, fun c26 => absurd (show x 19 < nI a + nI mn from by rw [e19, eam]; exact (nI_ltI (by omega) (by omega)).mpr (by omega)) c26⟩
          
          refine step.1 _ _ _ _ _ _ _ sgX12_findLead_151_ok ?_
          refine step.2 _ _ _ _ _ _ _ (qsub_cons 0 rfl (qsub_cons 2 rfl (qsub_cons 3 rfl qsub_nil))) ?_
          have kk := ih (mn + 1) hZ FX (by omega) hX hrow (fun m hm b hb => ?_)
          · rw [← nI_1] at kk
            exact kk
          · by_cases e : m = mn
            · subst e; exact hti b (by omega) hb
            · exact htb m (by omega) b hb
        | succ q ihq =>
          intro a hZ FX ha hX hrow htb hti
          have e19 : x 19 = nI S.2.1.2.2.2.1 := hR.1.2.2.1
          have eam : (nI a + nI mn : Int32) = nI (a + mn) := nI_add a mn
          have eix : (11 * nI a + (nI a + nI mn) : Int32) = nI (a * 11 + (a + mn)) := by rw [eam]; exact ixk (k := 11)
          have eix2 : (11 * nI a + (nI a + nI mn) : Int32).toNatClampNeg = a * 11 + (a + mn) := by rw [eix, h_tn (by omega)]
          have hmn : mn = 0 ∨ ∃ mm : Nat, mn = mm + 1 := by
            cases mn with
            | zero => exact Or.inl rfl
            | succ mm => exact Or.inr ⟨mm, rfl⟩
          refine step.1 _ _ _ _ _ _ _ sgX12_findLead_19_ok ?_
          refine ⟨by decide, _, _, hX.1.1, rfl, ?_⟩
          refine ⟨fun c26 => absurd (show nI S.2.1.2.2.2.1 < nI a + nI mn from by rw [← e19]; exact c26) (by rw [eam]; exact fun z => absurd ((nI_ltI (by omega) (by omega)).mp z) (by omega)), fun c26 => ?_⟩
          
          refine ⟨fun c35 => ?_, fun c35 => ?_⟩
          · obtain ⟨mm, hmn⟩ := hmn.resolve_left (fun e => c35 (by rw [e]; rfl))
            have hra := hrow a (by omega)
            have hwa := hwb a (by omega)
            have hrb := hrow (a + mm) (by omega)
            have hwb2 := hwb (a + mm) (by omega)
            have eb1 : (nI a + nI mn - 1 : Int32) = nI (a + mm) := by rw [eam, show (1 : Int32) = nI 1 from rfl, pk_sub (by omega)]; congr 1; omega
            have r1 : FX 87 (nI a).toNatClampNeg = nI ((srow S.2.1.1 S.2.1.2.2.2.1 0 (fun _ => 0)) a) := by rw [h_tn (by omega)]; exact hra
            have r2 : FX 87 (nI a + nI mn - 1 : Int32).toNatClampNeg = nI ((srow S.2.1.1 S.2.1.2.2.2.1 0 (fun _ => 0)) (a + mm)) := by rw [eb1, h_tn (by omega)]; exact hrb
            have i1 : (10 * FX 87 (nI a).toNatClampNeg + 1 : Int32) = nI ((srow S.2.1.1 S.2.1.2.2.2.1 0 (fun _ => 0)) a * 10 + 1) := by rw [r1]; exact ixk (k := 10) (w := 1)
            have i2 : (10 * FX 87 (nI a + nI mn - 1 : Int32).toNatClampNeg + 1 : Int32) = nI ((srow S.2.1.1 S.2.1.2.2.2.1 0 (fun _ => 0)) (a + mm) * 10 + 1) := by rw [r2]; exact ixk (k := 10) (w := 1)
            have p1 : FX 67 (10 * FX 87 (nI a).toNatClampNeg + 1 : Int32).toNatClampNeg = S.2.1.1 ((srow S.2.1.1 S.2.1.2.2.2.1 0 (fun _ => 0)) a * 10 + 1) := by rw [i1, h_tn (by omega)]; exact (hX.R hR).2.2.1.1 _ (by omega)
            have p2 : FX 67 (10 * FX 87 (nI a + nI mn - 1 : Int32).toNatClampNeg + 1 : Int32).toNatClampNeg = S.2.1.1 ((srow S.2.1.1 S.2.1.2.2.2.1 0 (fun _ => 0)) (a + mm) * 10 + 1) := by rw [i2, h_tn (by omega)]; exact (hX.R hR).2.2.1.1 _ (by omega)
            have i3 : (11 * (nI a + 1) + (nI a + nI mn) : Int32) = nI ((a + 1) * 11 + ((a + 1) + mm)) := by rw [eam, nI_1, show (11 * nI (a + 1) + nI (a + mn) : Int32) = nI ((a + 1) * 11 + (a + mn)) from ixk (k := 11)]; congr 1; omega
            have i4 : (11 * nI a + (nI a + nI mn) - 1 : Int32) = nI (a * 11 + (a + mm)) := by rw [eix, show (1 : Int32) = nI 1 from rfl, pk_sub (by omega)]; congr 1; omega
            have q1 : FX 88 (11 * (nI a + 1) + (nI a + nI mn) : Int32).toNatClampNeg = plt S.2.1.1 (srow S.2.1.1 S.2.1.2.2.2.1 0 (fun _ => 0)) mm (a + 1) := by rw [i3, h_tn (by omega)]; exact htb mm (by omega) (a + 1) (by omega)
            have q2 : FX 88 (11 * nI a + (nI a + nI mn) - 1 : Int32).toNatClampNeg = plt S.2.1.1 (srow S.2.1.1 S.2.1.2.2.2.1 0 (fun _ => 0)) mm a := by rw [i4, h_tn (by omega)]; exact htb mm (by omega) a (by omega)
            refine step.1 _ _ _ _ _ _ _ sgX12_findLead_53_ok ?_
            refine ⟨by decide, _, _, hX.1.1, rfl, ?_⟩
            refine ⟨by decide, _, _, hX.1.1, rfl, ?_⟩
            refine ⟨_, _, hX.1.c87, (vp_in_nI (n := a) (N := 10) (by omega) (by decide)), ?_⟩
            refine ⟨_, _, hX.1.c67, (by rw [i1]; exact vp_in_nI (n := (srow S.2.1.1 S.2.1.2.2.2.1 0 (fun _ => 0)) a * 10 + 1) (N := 100) (by omega) (by decide)), ?_⟩
            refine ⟨by decide, _, _, hX.1.1, rfl, ?_⟩
            refine ⟨_, _, hX.1.c88, (by rw [i3]; exact vp_in_nI (n := (a + 1) * 11 + ((a + 1) + mm)) (N := 121) (by omega) (by decide)), ?_⟩
            refine ⟨by decide, _, _, hX.1.1, rfl, ?_⟩
            refine ⟨by decide, _, _, hX.1.1, rfl, ?_⟩
            refine ⟨_, _, hX.1.c87, (by rw [eb1]; exact vp_in_nI (n := a + mm) (N := 10) (by omega) (by decide)), ?_⟩
            refine ⟨_, _, hX.1.c67, (by rw [i2]; exact vp_in_nI (n := (srow S.2.1.1 S.2.1.2.2.2.1 0 (fun _ => 0)) (a + mm) * 10 + 1) (N := 100) (by omega) (by decide)), ?_⟩
            refine ⟨by decide, _, _, hX.1.1, rfl, ?_⟩
            refine ⟨_, _, hX.1.c88, (by rw [i4]; exact vp_in_nI (n := a * 11 + (a + mm)) (N := 121) (by omega) (by decide)), ?_⟩
            refine ⟨by decide, _, _, hX.1.1, rfl, ?_⟩
            refine ⟨fun c134 => ?_, fun c134 => ?_⟩
            · refine step.1 _ _ _ _ _ _ _ sgX12_findLead_142_ok ?_
              refine step.1 _ _ _ _ _ _ _ sgX12_findLead_144_ok ?_
              refine ⟨_, _, hX.1.c88, (by rw [eix]; exact vp_in_nI (n := a * 11 + (a + mn)) (N := 121) (by omega) (by decide)), ?_⟩
              rw [eix2]
              refine step.1 _ _ _ _ _ _ _ sgX12_findLead_145_ok ?_
              refine step.2 _ _ _ _ _ _ _ (qsub_cons 0 rfl (qsub_cons 4 rfl (qsub_cons 5 rfl (qsub_cons 6 rfl qsub_nil)))) ?_
              have kk := fun hZ => ihq (a + 1) hZ (fup FX 88 (upd (FX 88) (a * 11 + (a + mn)) (FX 67 (10 * FX 87 (nI a + nI mn - 1 : Int32).toNatClampNeg + 1 : Int32).toNatClampNeg - FX 88 (11 * nI a + (nI a + nI mn) - 1 : Int32).toNatClampNeg))) (by omega)
              rw [← nI_1] at kk
              refine kk _ (hX.w88 _) hrow (fun m hm b hb => ?_) (fun b hb hbm => ?_)
              · refine (upd_n ?_).trans (htb m hm b hb)
                omega
              · show upd (FX 88) (a * 11 + (a + mn)) _ _ = _
                by_cases e : b = a
                · subst e
                  rw [upd_s]
                  rw [p2, q2, hmn]
                  show _ = plt S.2.1.1 (srow S.2.1.1 S.2.1.2.2.2.1 0 (fun _ => 0)) (mm + 1) b
                  rw [plt]
                  by_cases z : S.2.1.1 ((srow S.2.1.1 S.2.1.2.2.2.1 0 (fun _ => 0)) b * 10 + 1) - plt S.2.1.1 (srow S.2.1.1 S.2.1.2.2.2.1 0 (fun _ => 0)) mm (b + 1) < S.2.1.1 ((srow S.2.1.1 S.2.1.2.2.2.1 0 (fun _ => 0)) (b + mm) * 10 + 1) - plt S.2.1.1 (srow S.2.1.1 S.2.1.2.2.2.1 0 (fun _ => 0)) mm b
                  · rw [if_pos z]
                  · rw [if_neg z]
                    have c134 : _ ≤ _ := c134
                    rw [p1, q1, p2, q2] at c134
                    exact Int32.le_antisymm (Int32.not_lt.mp z) c134
                · rw [upd_n (by omega)]
                  exact hti b (by omega) hbm
            · refine step.1 _ _ _ _ _ _ _ sgX12_findLead_144_ok ?_
              refine ⟨_, _, hX.1.c88, (by rw [eix]; exact vp_in_nI (n := a * 11 + (a + mn)) (N := 121) (by omega) (by decide)), ?_⟩
              rw [eix2]
              refine step.1 _ _ _ _ _ _ _ sgX12_findLead_145_ok ?_
              refine step.2 _ _ _ _ _ _ _ (qsub_cons 0 rfl (qsub_cons 4 rfl (qsub_cons 5 rfl (qsub_cons 6 rfl qsub_nil)))) ?_
              have kk := fun hZ => ihq (a + 1) hZ (fup FX 88 (upd (FX 88) (a * 11 + (a + mn)) (FX 67 (10 * FX 87 (nI a).toNatClampNeg + 1 : Int32).toNatClampNeg - FX 88 (11 * (nI a + 1) + (nI a + nI mn) : Int32).toNatClampNeg))) (by omega)
              rw [← nI_1] at kk
              refine kk _ (hX.w88 _) hrow (fun m hm b hb => ?_) (fun b hb hbm => ?_)
              · refine (upd_n ?_).trans (htb m hm b hb)
                omega
              · show upd (FX 88) (a * 11 + (a + mn)) _ _ = _
                by_cases e : b = a
                · subst e
                  rw [upd_s]
                  rw [p1, q1, hmn]
                  show _ = plt S.2.1.1 (srow S.2.1.1 S.2.1.2.2.2.1 0 (fun _ => 0)) (mm + 1) b
                  rw [plt]
                  rw [if_neg (fun z => c134 (by rw [p1, q1, p2, q2]; exact Int32.le_of_lt z))]
                · rw [upd_n (by omega)]
                  exact hti b (by omega) hbm
          · have hmn : mn = 0 := (nI_eq (b := 0) (by omega) (by decide)).mp c35
            refine ⟨by decide, _, _, hX.1.1, rfl, ?_⟩
            refine ⟨_, _, hX.1.c88, (by rw [eix]; exact vp_in_nI (n := a * 11 + (a + mn)) (N := 121) (by omega) (by decide)), ?_⟩
            rw [eix2]
            refine step.1 _ _ _ _ _ _ _ sgX12_findLead_145_ok ?_
            refine step.2 _ _ _ _ _ _ _ (qsub_cons 0 rfl (qsub_cons 2 rfl (qsub_cons 3 rfl (qsub_cons 4 rfl qsub_nil)))) ?_
            have kk := fun hZ => ihq (a + 1) hZ (fup FX 88 (upd (FX 88) (a * 11 + (a + mn)) 0)) (by omega)
            rw [← nI_1] at kk
            refine kk _ (hX.w88 _) hrow (fun m hm b hb => ?_) (fun b hb hbm => ?_)
            · refine (upd_n ?_).trans (htb m hm b hb)
              omega
            · show upd (FX 88) (a * 11 + (a + mn)) _ _ = _
              by_cases e : b = a
              · subst e
                rw [upd_s]
                rw [hmn]
                rfl
              · rw [upd_n (by omega)]
                exact hti b (by omega) hbm
      have e19 : x 19 = nI S.2.1.2.2.2.1 := hR.1.2.2.1
      refine step.1 _ _ _ _ _ _ _ sgX12_findLead_9_ok ?_
      refine ⟨by decide, _, _, hX.1.1, rfl, ?_⟩
      refine ⟨fun c14 => absurd (show nI S.2.1.2.2.2.1 < nI mn from by rw [← e19]; exact c14) (fun z => absurd ((nI_ltI (by omega) (by omega)).mp z) (by omega)), fun c14 => ?_⟩
      
      exact inner (S.2.1.2.2.2.1 + 1 - mn) 0 hZ FX (by omega) hX hrow htb (fun b hb => absurd hb (Nat.not_lt_zero b))
  refine step.1 _ _ _ _ _ _ _ sgX12_findLead_0_ok ?_
  refine Or.inl ⟨rfl, _, 2, 0, 0, _, _, _, qi_12_484, ⟨rfl, rfl⟩, ⟨hM.1, rfl⟩, rfl, rfl, M_findRow hg hM hR hn, fun y1 h1 hy1 => ?_⟩
  obtain ⟨rfl, F1, hX, hrow⟩ := hy1
  exact loop (S.2.1.2.2.2.1 + 1) 0 h1 F1 (by omega) hX hrow (fun m hm => absurd hm (Nat.not_lt_zero m))
end Q11V
