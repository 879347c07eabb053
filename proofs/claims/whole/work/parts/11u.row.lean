section Q11U
/-- the row and the leads alone are other -/
def QL (h h' : qH) (x : Nat → Int32) (y : Nat → Int64) (F : Nat → Nat → Int32) (G : Nat → Nat → Int64) (F' : Nat → Nat → Int32) : Prop := MX h' x y F' G ∧ (∀ j : Nat, j ∉ [87, 88] → F' j = F j) ∧ kp h h'
section
variable {h h1 h2 : qH} {x : Nat → Int32} {y : Nat → Int64} {F F1 F2 : Nat → Nat → Int32} {G : Nat → Nat → Int64} {S : CS}
theorem QL.rf (hM : MX h x y F G) : QL h h x y F G F := ⟨hM, fun _ _ => rfl, kp.rf⟩
theorem QL.tr (a : QL h h1 x y F G F1) (b : QL h1 h2 x y F1 G F2) : QL h h2 x y F G F2 := ⟨b.1, fun j hj => (b.2.1 j hj).trans (a.2.1 j hj), a.2.2.tr b.2.2⟩
theorem QL.R (a : QL h h1 x y F G F1) (hR : Rel S x F) : Rel S x F1 := hR.mq ⟨fun _ _ => rfl, fun j hj => a.2.1 j (fun q => hj (by simp at q ⊢; omega))⟩
theorem QL.w87 (a : QL h h1 x y F G F1) (f : Nat → Int32) : QL h (h1.1, qup h1.2 87 (aI' 10 f)) x y F G (fup F1 87 f) := ⟨a.1.u87 f, fun j hj => (fup_n (by simp at hj; omega)).trans (a.2.1 j hj), a.2.2.u (by decide) (by decide)⟩
theorem QL.w88 (a : QL h h1 x y F G F1) (f : Nat → Int32) : QL h (h1.1, qup h1.2 88 (aI' 121 f)) x y F G (fup F1 88 f) := ⟨a.1.u88 f, fun j hj => (fup_n (by simp at hj; omega)).trans (a.2.1 j hj), a.2.2.u (by decide) (by decide)⟩
end
theorem M_findRow {g : qG} (hg : qOK g) {h : qH} {x : Nat → Int32} {y : Nat → Int64} {F : Nat → Nat → Int32} {G : Nat → Nat → Int64} (hM : MX h x y F G) {S : CS} (hR : Rel S x F) (hn : S.2.1.2.2.2.1 ≤ 10) : qSpec g 2 0 0 mX12_findRow [.ref 63] h (fun r h' => r = none ∧ ∃ F' : Nat → Nat → Int32, QL h h' x y F G F' ∧ (∀ j : Nat, j < S.2.1.2.2.2.1 → F' 87 j = nI ((srow S.2.1.1 S.2.1.2.2.2.1 0 (fun _ => 0)) j))) := by
  refine qSpec_run 12 "findRow" false hg mX12_findRow_ok rfl rfl (Nat.le_of_ble_eq_true rfl) (by decide) ?_
  intro run step
  have e19 : x 19 = nI S.2.1.2.2.2.1 := hR.1.2.2.1
  have loop : ∀ (m d : Nat) (w : Nat → Nat) (hZ : qH) (FX : Nat → Nat → Int32), d + m = S.2.1.2.2.2.1 → QL h hZ x y F G FX → (∀ j : Nat, j < d → FX 87 j = nI (w j)) → (∀ j : Nat, j < d → w j < S.2.1.2.2.2.1) → (∀ j : Nat, j < S.2.1.2.2.2.1 → srow S.2.1.1 m d w j = (srow S.2.1.1 S.2.1.2.2.2.1 0 (fun _ => 0)) j) → run 2 [(1, .int (nI d)), (0, .ref 63)] [] hZ 0 0 := by
    intro m
    induction m with
    | zero =>
      intro d w hZ FX hd hX hw hw10 hres
      refine step.1 _ _ _ _ _ _ _ sgX12_findRow_2_ok ?_
      refine ⟨by decide, _, _, hX.1.1, rfl, ?_⟩
      refine ⟨fun c7 => ?_, fun c7 => absurd (show x 19 ≤ nI d from by rw [e19]; exact nI_le (by omega) (by omega)) c7⟩
      
      refine step.1 _ _ _ _ _ _ _ sgX12_findRow_69_ok ?_
      refine ⟨rfl, Nat.le_refl _, Nat.le_refl _, ?_⟩
      refine ⟨rfl, FX, hX, fun j hj => ?_⟩
      rw [hw j (by omega), ← hres j hj]
      rfl
    | succ m ih =>
      intro d w hZ FX hd hX hw hw10 hres
      have at56 : ∀ (k : Nat) (u : Nat → Nat) (hZ : qH) (FX : Nat → Nat → Int32), QL h hZ x y F G FX → k ≤ d → (∀ j : Nat, j < d + 1 → j ≠ k → FX 87 j = nI (u j)) → (∀ j : Nat, j < d + 1 → j ≠ k → u j < S.2.1.2.2.2.1) → (∀ j : Nat, j < S.2.1.2.2.2.1 → srow S.2.1.1 m (d + 1) (wup u k d) j = (srow S.2.1.1 S.2.1.2.2.2.1 0 (fun _ => 0)) j) → run 56 [(2, .int (nI k)), (1, .int (nI d)), (0, .ref 63)] [] hZ 0 0 := by
        intro k u hZ FX hX hk hu hu10 hfin
        refine step.1 _ _ _ _ _ _ _ sgX12_findRow_56_ok ?_
        refine ⟨by decide, _, _, hX.1.1, rfl, ?_⟩
        refine ⟨_, _, hX.1.c87, (vp_in_nI (n := k) (N := 10) (by omega) (by decide)), ?_⟩
        refine step.2 _ _ _ _ _ _ _ (qsub_cons 0 rfl (qsub_cons 2 rfl qsub_nil)) ?_
        have kk := fun hZ => ih (d + 1) (wup u k d) hZ (fup FX 87 (upd (FX 87) k (nI d))) (by omega)
        rw [← nI_1] at kk
        rw [h_tn (n := k) (by omega)]
        refine kk _ (hX.w87 _) (fun j hj => ?_) (fun j hj => ?_) (fun j hj => ?_)
        · show upd (FX 87) k (nI d) j = nI (wup u k d j)
          unfold upd wup
          by_cases c : j = k
          · rw [if_pos c, if_pos c]
          · rw [if_neg c, if_neg c]; exact hu j hj c
        · unfold wup
          split
          · omega
          · exact hu10 j (by omega) (by omega)
        · rw [← hfin j hj]
      have inner : ∀ (k : Nat) (u : Nat → Nat) (hZ : qH) (FX : Nat → Nat → Int32), QL h hZ x y F G FX → k ≤ d → (∀ j : Nat, j < d + 1 → j ≠ k → FX 87 j = nI (u j)) → (∀ j : Nat, j < d + 1 → j ≠ k → u j < S.2.1.2.2.2.1) → (∀ j : Nat, j < S.2.1.2.2.2.1 → srow S.2.1.1 m (d + 1) (wup (sins S.2.1.1 d k u).2 (sins S.2.1.1 d k u).1 d) j = (srow S.2.1.1 S.2.1.2.2.2.1 0 (fun _ => 0)) j) → run 12 [(2, .int (nI k)), (1, .int (nI d)), (0, .ref 63)] [] hZ 0 0 := by
        intro k
        induction k with
        | zero =>
          intro u hZ FX hX hk hu hu10 hfin
          refine step.1 _ _ _ _ _ _ _ sgX12_findRow_12_ok ?_
          refine ⟨fun c13 => ?_, fun c13 => absurd (Int32.le_refl _ : (0 : Int32) ≤ 0) c13⟩
          
          exact at56 0 u hZ FX hX (by omega) hu hu10 hfin
        | succ k ihk =>
          intro u hZ FX hX hk hu hu10 hfin
          have ek : (nI (k + 1) - 1 : Int32) = nI k := by rw [show (nI (k + 1) - 1 : Int32) = nI (k + 1) - nI 1 from rfl, pk_sub (by omega)]; rfl
          have er : FX 87 (nI (k + 1) - 1 : Int32).toNatClampNeg = nI (u k) := by rw [ek, h_tn (by omega)]; exact hu k (by omega) (by omega)
          have huk := hu10 k (by omega) (by omega)
          have gk : FX 67 (u k * 10 + 0) = S.2.1.1 (u k * 10 + 0) := (hX.R hR).2.2.1.1 _ (by omega)
          have gd : FX 67 (d * 10 + 0) = S.2.1.1 (d * 10 + 0) := (hX.R hR).2.2.1.1 _ (by omega)
          refine step.1 _ _ _ _ _ _ _ sgX12_findRow_12_ok ?_
          refine ⟨fun c13 => absurd (show nI (k + 1) ≤ nI 0 from c13) (h_nle (by omega) (by omega)), fun c13 => ?_⟩
          
          refine ⟨by decide, _, _, hX.1.1, rfl, ?_⟩
          refine ⟨_, _, hX.1.c87, (by rw [ek]; exact vp_in_nI (n := k) (N := 10) (by omega) (by decide)), ?_⟩
          refine Or.inl ⟨rfl, _, 1, 0, 0, _, _, _, qi_12_347, ⟨rfl, rfl⟩, ⟨hX.1.1, rfl⟩, rfl, rfl, (by rw [er]; exact M_xOf hg hX.1.1 hX.1.c67 (u k) (by omega)), fun y25 h25 hy25 => ?_⟩
          obtain ⟨rfl, hh⟩ := hy25
          rw [hh]
          clear hh
          refine Or.inl ⟨rfl, _, 1, 0, 0, _, _, _, qi_12_347, ⟨rfl, rfl⟩, ⟨hX.1.1, rfl⟩, rfl, rfl, M_xOf hg hX.1.1 hX.1.c67 d (by omega), fun y30 h30 hy30 => ?_⟩
          obtain ⟨rfl, hh⟩ := hy30
          rw [hh]
          clear hh
          refine ⟨fun c33 => ?_, fun c33 => ?_⟩
          · have d33 : S.2.1.1 (u k * 10 + 0) ≤ S.2.1.1 (d * 10 + 0) := by rw [← gk, ← gd]; exact c33
            exact at56 (k + 1) u hZ FX hX (by omega) hu hu10 (fun j hj => by rw [← hfin j hj]; unfold sins; rw [if_pos d33])
          · have d33 : ¬ S.2.1.1 (u k * 10 + 0) ≤ S.2.1.1 (d * 10 + 0) := fun q => c33 (by rw [gk, gd]; exact q)
            refine ⟨by decide, _, _, hX.1.1, rfl, ?_⟩
            refine ⟨by decide, _, _, hX.1.1, rfl, ?_⟩
            refine ⟨_, _, hX.1.c87, (by rw [ek]; exact vp_in_nI (n := k) (N := 10) (by omega) (by decide)), ?_⟩
            refine ⟨_, _, hX.1.c87, (vp_in_nI (n := k + 1) (N := 10) (by omega) (by decide)), ?_⟩
            rw [h_tn (n := k + 1) (by omega), er]
            have kk := fun hZ => ihk (wup u (k + 1) (u k)) hZ (fup FX 87 (upd (FX 87) (k + 1) (nI (u k))))
            rw [show nI k = (nI (k + 1) + (-1) : Int32) from by rw [← nI_1]; generalize nI k = z; grind] at kk
            refine kk _ (hX.w87 _) (by omega) (fun j hj hne => ?_) (fun j hj hne => ?_) (fun j hj => ?_)
            · show upd (FX 87) (k + 1) (nI (u k)) j = nI (wup u (k + 1) (u k) j)
              unfold upd wup
              by_cases c : j = k + 1
              · rw [if_pos c, if_pos c]
              · rw [if_neg c, if_neg c]; exact hu j hj c
            · unfold wup
              split
              · omega
              · exact hu10 j hj (by omega)
            · rw [← hfin j hj]
              show _ = srow _ _ _ (wup (sins _ d (k + 1) u).2 (sins _ d (k + 1) u).1 d) j
              conv => rhs; unfold sins
              rw [if_neg d33]
      refine step.1 _ _ _ _ _ _ _ sgX12_findRow_2_ok ?_
      refine ⟨by decide, _, _, hX.1.1, rfl, ?_⟩
      refine ⟨fun c7 => absurd (show nI S.2.1.2.2.2.1 ≤ nI d from by rw [← e19]; exact c7) (h_nle (by omega) (by omega)), fun c7 => ?_⟩
      
      exact inner d w hZ FX hX (Nat.le_refl _) (fun j hj hne => hw j (by omega)) (fun j hj hne => hw10 j (by omega)) hres
  refine step.1 _ _ _ _ _ _ _ sgX12_findRow_0_ok ?_
  exact loop S.2.1.2.2.2.1 0 (fun _ => 0) h F (by omega) (QL.rf hM) (fun j hj => absurd hj (Nat.not_lt_zero j)) (fun j hj => absurd hj (Nat.not_lt_zero j)) (fun j _ => rfl)
end Q11U
