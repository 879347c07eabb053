section Q11W
/-- what the party's question answers -/
def pval (D : Nat → Int32) (n : Nat) (v : Int32) : Int32 := if v = 0 then plt D (srow D n 0 (fun _ => 0)) n 0 else if n = 0 then -1 else if D (srow D n 0 (fun _ => 0) 0 * 10 + 1) - plt D (srow D n 0 (fun _ => 0)) (n - 1) 1 = plt D (srow D n 0 (fun _ => 0)) n 0 then nI (srow D n 0 (fun _ => 0) 0) else nI (srow D n 0 (fun _ => 0) (n - 1))
theorem pval_e (D : Nat → Int32) {n : Nat} (hn : n ≤ 10) (w : Nat → Nat) (a0 : Nat → Int32) (h0 : ∀ j : Nat, j < 11 → a0 j = 0) (v : Int32) : (if v = 0 then (pout D (srow D n 0 w) n n 1 (a0, -1)).1 0 else (pout D (srow D n 0 w) n n 1 (a0, -1)).2) = pval D n v := by
  obtain ⟨e1, e2⟩ := party_e D (srow D n 0 w) n a0 h0 hn
  have hc : ∀ j : Nat, j < n → srow D n 0 w j = srow D n 0 (fun _ => 0) j := fun j hj => srow_c D n 0 w (fun _ => 0) (fun q hq => absurd hq (Nat.not_lt_zero q)) j (by omega)
  rw [e1, e2]
  unfold pval
  by_cases c : n = 0
  · subst c
    rfl
  · rw [plt_c D hc n 0 (by omega), plt_c D hc (n - 1) 1 (by omega), hc 0 (by omega), hc (n - 1) (by omega)]
theorem M_party {g : qG} (hg : qOK g) {h : qH} {x : Nat → Int32} {y : Nat → Int64} {F : Nat → Nat → Int32} {G : Nat → Nat → Int64} (hM : MX h x y F G) {S : CS} (hR : Rel S x F) (hn : S.2.1.2.2.2.1 ≤ 10) (v : Int32) : qSpec g 4 0 0 mX12_party [.ref 63, .int v] h (fun r h' => ((wi 0 1 v = true) ∧ (r = some (.int (pval S.2.1.1 S.2.1.2.2.2.1 v))) ∧ MG h h' S) ∨ ∃ (k : Nat) (c : Int32), ((k = 1 ∧ c = 1 ∧ ¬ (wi 0 1 v = true))) ∧ (∃ z, r = some (.int z)) ∧ mbad h h' S k c) := by
  refine qSpec_run 12 "party" false hg mX12_party_ok rfl rfl (Nat.le_of_ble_eq_true rfl) (by decide) ?_
  intro run step
  refine step.1 _ _ _ _ _ _ _ sgX12_party_0_ok ?_
  refine ⟨_, hM.1, Nat.le_of_ble_eq_true rfl, rfl, ?_⟩
  have hM0 := hM.p63 (sI_0 (v := 0) (rfl : _ = M63l x y))
  have hR0 : Rel S (upd x 0 0) F := hR.t 0
  have hk0 := kp.rf (h := h) |>.u (k := 63) (e := .inl (12, (M63l x y).set 0 (.int 0))) (by decide) (by decide)
  refine Or.inl ⟨rfl, _, 1, 0, 0, _, Or.inl qi_12_324, ⟨rfl, rfl⟩, rfl, rfl, M_within hg _ _ _, fun y9 h9 hy9 => ?_⟩
  obtain ⟨rfl, hh⟩ := hy9
  rw [hh]
  clear hh
  refine Or.inl ⟨rfl, _, 1, 0, 0, _, _, _, qi_12_247, ⟨rfl, rfl⟩, ⟨hM0.1, rfl⟩, rfl, rfl, M_mayU hg hM0 hR0 rfl _ 1 (by decide) 1 (by decide), fun y14 h14 hy14 => ?_⟩
  rcases hy14 with ⟨w14, rfl, hb⟩ | ⟨w14, rfl, hh⟩
  · refine ⟨fun c17 => absurd c17 (by decide), fun _ => ?_⟩
    refine ⟨.int, rfl, rfl, Nat.le_refl _, Nat.le_refl _, ?_⟩
    exact Or.inr ⟨1, 1, ⟨rfl, rfl, (by rw [w14]; decide)⟩, ⟨_, rfl⟩, mbad.l hk0 hb⟩
  · rw [hh]
    clear hh
    refine ⟨fun _ => ?_, fun c17 => absurd c17 (by decide)⟩
    refine step.1 _ _ _ _ _ _ _ sgX12_party_22_ok ?_
    refine Or.inl ⟨rfl, _, 3, 0, 0, _, _, _, qi_12_487, ⟨rfl, rfl⟩, ⟨hM0.1, rfl⟩, rfl, rfl, M_findLead hg hM0 hR0 hn, fun y23 h23 hy23 => ?_⟩
    obtain ⟨rfl, F1, hX, hrow, hld⟩ := hy23
    have e19 : (upd x 0 0) 19 = nI S.2.1.2.2.2.1 := hR.1.2.2.1
    have hwb : ∀ j : Nat, j < S.2.1.2.2.2.1 → (srow S.2.1.1 S.2.1.2.2.2.1 0 (fun _ => 0)) j < S.2.1.2.2.2.1 := fun j hj => by
      have := srow_b S.2.1.1 S.2.1.2.2.2.1 0 (fun _ => 0) (fun j hj => absurd hj (Nat.not_lt_zero j)) j (by omega)
      rw [Nat.zero_add] at this
      exact this
    have l0 : F1 88 ((upd x 0 0) 19).toNatClampNeg = plt S.2.1.1 (srow S.2.1.1 S.2.1.2.2.2.1 0 (fun _ => 0)) S.2.1.2.2.2.1 0 := by
      rw [e19, h_tn (by omega)]
      have := hld 0 S.2.1.2.2.2.1 (by omega)
      rw [Nat.zero_mul, Nat.zero_add, Nat.zero_add] at this
      exact this
    have i19 : vp_in ((upd x 0 0) 19) 121 := by rw [e19]; exact vp_in_nI (by omega) (by decide)
    have hz : nI S.2.1.2.2.2.1 = 0 ↔ S.2.1.2.2.2.1 = 0 := nI_eq (b := 0) (by omega) (by decide)
    refine ⟨fun c27 => ?_, fun c27 => ?_⟩
    · have d27 : ¬ v = 0 := c27
      refine step.1 _ _ _ _ _ _ _ sgX12_party_40_ok ?_
      refine ⟨by decide, _, _, hX.1.1, rfl, ?_⟩
      refine ⟨fun c44 => ?_, fun c44 => ?_⟩
      · have hn0 : ¬ S.2.1.2.2.2.1 = 0 := fun e => c44 (by rw [e19]; exact hz.mpr e)
        have r1 : F1 87 (nI 0).toNatClampNeg = nI ((srow S.2.1.1 S.2.1.2.2.2.1 0 (fun _ => 0)) 0) := hrow 0 (by omega)
        have hw0 := hwb 0 (by omega)
        have hw1 := hwb (S.2.1.2.2.2.1 - 1) (by omega)
        have i1 : (10 * F1 87 (nI 0).toNatClampNeg + 1 : Int32) = nI ((srow S.2.1.1 S.2.1.2.2.2.1 0 (fun _ => 0)) 0 * 10 + 1) := by rw [r1]; exact ixk (k := 10) (w := 1)
        have p1 : F1 67 (10 * F1 87 (nI 0).toNatClampNeg + 1 : Int32).toNatClampNeg = S.2.1.1 ((srow S.2.1.1 S.2.1.2.2.2.1 0 (fun _ => 0)) 0 * 10 + 1) := by rw [i1, h_tn (by omega)]; exact (hX.R hR0).2.2.1.1 _ (by omega)
        have i2 : (11 + (upd x 0 0) 19 : Int32) = nI (11 + S.2.1.2.2.2.1) := by rw [e19]; exact nI_add 11 S.2.1.2.2.2.1
        have q1 : F1 88 (11 + (upd x 0 0) 19 : Int32).toNatClampNeg = plt S.2.1.1 (srow S.2.1.1 S.2.1.2.2.2.1 0 (fun _ => 0)) (S.2.1.2.2.2.1 - 1) 1 := by
          rw [i2, h_tn (by omega)]
          have := hld 1 (S.2.1.2.2.2.1 - 1) (by omega)
          rw [show 1 * 11 + (1 + (S.2.1.2.2.2.1 - 1)) = 11 + S.2.1.2.2.2.1 by omega] at this
          exact this
        have i3 : ((upd x 0 0) 19 - 1 : Int32) = nI (S.2.1.2.2.2.1 - 1) := by rw [e19, show (1 : Int32) = nI 1 from rfl, pk_sub (by omega)]
        have r3 : F1 87 ((upd x 0 0) 19 - 1 : Int32).toNatClampNeg = nI ((srow S.2.1.1 S.2.1.2.2.2.1 0 (fun _ => 0)) (S.2.1.2.2.2.1 - 1)) := by rw [i3, h_tn (by omega)]; exact hrow (S.2.1.2.2.2.1 - 1) (by omega)
        refine step.1 _ _ _ _ _ _ _ sgX12_party_49_ok ?_
        refine ⟨by decide, _, _, hX.1.1, rfl, ?_⟩
        refine ⟨by decide, _, _, hX.1.1, rfl, ?_⟩
        refine ⟨_, _, hX.1.c87, (vp_in_nI (n := 0) (N := 10) (by decide) (by decide) : vp_in (nI 0) 10), ?_⟩
        refine ⟨_, _, hX.1.c67, (by rw [show (10 * F1 87 (0 : Int32).toNatClampNeg + 1 : Int32) = nI ((srow S.2.1.1 S.2.1.2.2.2.1 0 (fun _ => 0)) 0 * 10 + 1) from i1]; exact vp_in_nI (n := (srow S.2.1.1 S.2.1.2.2.2.1 0 (fun _ => 0)) 0 * 10 + 1) (N := 100) (by omega) (by decide)), ?_⟩
        refine ⟨by decide, _, _, hX.1.1, rfl, ?_⟩
        refine ⟨by decide, _, _, hX.1.1, rfl, ?_⟩
        refine ⟨_, _, hX.1.c88, (by rw [i2]; exact vp_in_nI (n := 11 + S.2.1.2.2.2.1) (N := 121) (by omega) (by decide)), ?_⟩
        refine ⟨by decide, _, _, hX.1.1, rfl, ?_⟩
        refine ⟨by decide, _, _, hX.1.1, rfl, ?_⟩
        refine ⟨_, _, hX.1.c88, i19, ?_⟩
        refine ⟨fun c89 => ?_, fun c89 => ?_⟩
        · have d89 : ¬ S.2.1.1 ((srow S.2.1.1 S.2.1.2.2.2.1 0 (fun _ => 0)) 0 * 10 + 1) - plt S.2.1.1 (srow S.2.1.1 S.2.1.2.2.2.1 0 (fun _ => 0)) (S.2.1.2.2.2.1 - 1) 1 = plt S.2.1.1 (srow S.2.1.1 S.2.1.2.2.2.1 0 (fun _ => 0)) S.2.1.2.2.2.1 0 := fun q => c89 (by rw [l0, ← q, ← p1, ← q1]; rfl)
          refine step.1 _ _ _ _ _ _ _ sgX12_party_101_ok ?_
          refine ⟨by decide, _, _, hX.1.1, rfl, ?_⟩
          refine ⟨by decide, _, _, hX.1.1, rfl, ?_⟩
          refine ⟨_, _, hX.1.c87, (by rw [i3]; exact vp_in_nI (n := S.2.1.2.2.2.1 - 1) (N := 10) (by omega) (by decide)), ?_⟩
          refine step.1 _ _ _ _ _ _ _ sgX12_party_112_ok ?_
          refine ⟨.int, rfl, rfl, Nat.le_refl _, Nat.le_refl _, ?_⟩
          exact Or.inl ⟨w14, congrArg (fun z => some (Value.int z)) (by rw [pval, if_neg d27, if_neg hn0, if_neg d89]; exact r3), MG.of hX.1 (hk0.tr hX.2.2) (hX.R hR0) rfl⟩
        · have d89 : S.2.1.1 ((srow S.2.1.1 S.2.1.2.2.2.1 0 (fun _ => 0)) 0 * 10 + 1) - plt S.2.1.1 (srow S.2.1.1 S.2.1.2.2.2.1 0 (fun _ => 0)) (S.2.1.2.2.2.1 - 1) 1 = plt S.2.1.1 (srow S.2.1.1 S.2.1.2.2.2.1 0 (fun _ => 0)) S.2.1.2.2.2.1 0 := by
            rw [← p1, ← q1, ← l0]
            exact c89
          refine ⟨by decide, _, _, hX.1.1, rfl, ?_⟩
          refine ⟨_, _, hX.1.c87, (vp_in_nI (n := 0) (N := 10) (by decide) (by decide) : vp_in (nI 0) 10), ?_⟩
          refine step.1 _ _ _ _ _ _ _ sgX12_party_112_ok ?_
          refine ⟨.int, rfl, rfl, Nat.le_refl _, Nat.le_refl _, ?_⟩
          exact Or.inl ⟨w14, congrArg (fun z => some (Value.int z)) (by rw [pval, if_neg d27, if_neg hn0, if_pos d89]; exact r1), MG.of hX.1 (hk0.tr hX.2.2) (hX.R hR0) rfl⟩
      · have hn0 : S.2.1.2.2.2.1 = 0 := hz.mp (by rw [← e19]; exact c44)
        refine ⟨.int, rfl, rfl, Nat.le_refl _, Nat.le_refl _, ?_⟩
        exact Or.inl ⟨w14, congrArg (fun z => some (Value.int z)) (by rw [pval, if_neg d27, if_pos hn0]), MG.of hX.1 (hk0.tr hX.2.2) (hX.R hR0) rfl⟩
    · have d27 : v = 0 := c27
      refine ⟨by decide, _, _, hX.1.1, rfl, ?_⟩
      refine ⟨by decide, _, _, hX.1.1, rfl, ?_⟩
      refine ⟨_, _, hX.1.c88, i19, ?_⟩
      refine ⟨.int, rfl, rfl, Nat.le_refl _, Nat.le_refl _, ?_⟩
      exact Or.inl ⟨w14, congrArg (fun z => some (Value.int z)) (by rw [pval, if_pos d27]; exact l0), MG.of hX.1 (hk0.tr hX.2.2) (hX.R hR0) rfl⟩
end Q11W
