section Q07H
set_option maxHeartbeats 1000000 in
theorem L_worth {g : qG} (hg : qOK g) {h : qH} {a ka va sk nma N : Nat} {K V S nm : Nat → Int32} (hL : isL h a ka va sk K V S (nI N)) (hN : N ≤ 150) (hnm : h.2 nma = some (.inr (.inl (.int, 10, nm)))) (d1 : ka ≠ sk) (d2 : va ≠ sk) (d3 : nma ≠ sk) (hok : lok K V 0 N 0) : qSpec g 2 0 0 mX3_worth [.ref a, .ref nma] h (fun r h' => r = some (.int (lworth K V nm 0 N 0 S)) ∧ ∃ S' : Nat → Int32, h' = (h.1, qup h.2 sk (.inr (.inl (.int, 152, S'))))) := by
  refine qSpec_run 3 "worth" false hg mX3_worth_ok rfl rfl (Nat.le_of_ble_eq_true rfl) (by decide) ?_
  intro run step
  have hI : ∀ S1 : Nat → Int32, isL (h.1, qup h.2 sk (.inr (.inl (.int, 152, S1)))) a ka va sk K V S1 (nI N) := fun S1 => hL.stk d1 d2
  have hM : ∀ S1 : Nat → Int32, (h.1, qup h.2 sk (.inr (.inl (.int, 152, S1)))).2 nma = some (.inr (.inl (.int, 10, nm))) := fun S1 => (qup_n d3).trans hnm
  have loop : ∀ (m i top : Nat) (S1 : Nat → Int32), i + m = N → top ≤ i → lok K V i m top → lworth K V nm i m top S1 = lworth K V nm 0 N 0 S → run 4 [(3, .int (nI i)), (2, .int (nI top)), (0, .ref a), (1, .ref nma)] [] (h.1, qup h.2 sk (.inr (.inl (.int, 152, S1)))) 0 0 := by
    intro m
    induction m with
    | zero =>
      intro i top S1 hi ht hk hs
      have hS := hI S1
      refine step.1 _ _ _ _ _ _ _ sgX3_worth_4_ok ?_
      refine ⟨by decide, _, _, hS.1, rfl, fun c1 => ?_, fun c1 => absurd ((nI_leI (a := N) (b := i) (by omega) (by omega)).mpr (by omega)) c1⟩
      refine step.1 _ _ _ _ _ _ _ sgX3_worth_214_ok ?_
      exact ⟨by decide, _, _, hS.1, rfl, _, _, hS.2.2.2, vp_in_nI (n := 0) (by decide) (by decide), .int, rfl, rfl, Nat.le_refl _, Nat.le_refl _, by rw [← hs]; rfl, S1, rfl⟩
    | succ m ih =>
      intro i top S1 hi ht hk hs
      have hS := hI S1
      have fin : ∀ (t2 : Nat) (S2 : Nat → Int32) (hX : qH), hX = (h.1, qup h.2 sk (.inr (.inl (.int, 152, S2)))) → t2 ≤ i → lok K V (i + 1) m (t2 + 1) → lworth K V nm (i + 1) m (t2 + 1) S2 = lworth K V nm 0 N 0 S → run 205 [(2, .int (nI t2)), (4, .int (K i)), (3, .int (nI i)), (0, .ref a), (1, .ref nma)] [] hX 0 0 := by
        intro t2 S2 hX hX2 ht2 hk2 hs2
        rw [hX2]
        refine step.1 _ _ _ _ _ _ _ sgX3_worth_205_ok ?_
        refine step.2 _ [(3, .int (nI i + 1)), (2, .int (nI t2 + 1)), (4, .int (K i)), (0, .ref a), (1, .ref nma)] [(3, .int (nI i + 1)), (2, .int (nI t2 + 1)), (0, .ref a), (1, .ref nma)] _ _ _ _ (by intro x hx; simp only [List.mem_cons, List.not_mem_nil, or_false] at hx ⊢; rcases hx with e | e | e | e <;> simp only [e, true_or, or_true]) ?_
        have kk := ih (i + 1) (t2 + 1) S2 (by omega) (by omega) hk2 hs2
        rw [← nI_1, ← nI_1] at kk
        exact kk
      have at50 : ∀ (dec t2 : Nat), t2 + dec = top → run 69 [(2, .int (nI t2)), (4, .int (K i)), (3, .int (nI i)), (0, .ref a), (1, .ref nma)] [] (h.1, qup h.2 sk (.inr (.inl (.int, 152, S1)))) 0 0 → run 50 [(4, .int (K i)), (3, .int (nI i)), (2, .int (nI top)), (0, .ref a), (1, .ref nma)] [.int (nI dec), .int (nI top)] (h.1, qup h.2 sk (.inr (.inl (.int, 152, S1)))) 0 0 := by
        intro dec t2 hd k69
        have e1 : (nI top - nI dec : Int32) = nI t2 := by rw [pk_sub (by omega)]; congr 1; omega
        refine step.1 _ _ _ _ _ _ _ sgX3_worth_50_ok ?_
        refine ⟨fun c1 => absurd (e1 ▸ c1) (h_nn (by omega)), fun c1 => ?_⟩
        refine ⟨by decide, _, _, hS.1, rfl, _, _, hS.2.2.2, rfl, fun c2 => ?_, fun c2 => absurd ?_ c2⟩
        · have kk := k69
          rw [← e1] at kk
          exact kk
        · show nI top - nI dec + nI 2 < nI 152
          rw [e1, nI_add, nI_ltI (by omega) (by decide)]
          omega
      refine step.1 _ _ _ _ _ _ _ sgX3_worth_4_ok ?_
      refine ⟨by decide, _, _, hS.1, rfl, fun c1 => absurd c1 (h_nle (by omega) (by omega)), fun c1 => ?_⟩
      refine ⟨fun c2 => absurd c2 (h_nle (b := 150) (by omega) (by decide)), fun c2 => ?_⟩
      refine ⟨by decide, _, _, hS.1, rfl, _, _, hS.2.1, vp_in_nI (by omega) (by decide), ?_⟩
      rw [h_tn (n := i) (by omega)]
      rcases hk with ⟨k0, hk⟩ | ⟨k0, ⟨j, hj, hv⟩, hk⟩ | ⟨k0, h3, hk⟩ | ⟨⟨k, hk2, hk7, k0⟩, h3, hk⟩
      · -- a number
        refine ⟨fun c3 => ?_, fun c3 => absurd (show K i = 8 from c3) (by rw [k0]; decide)⟩
        refine step.1 _ _ _ _ _ _ _ sgX3_worth_39_ok ?_
        refine ⟨fun c4 => ?_, fun c4 => absurd (show K i ≤ 1 by rw [k0]; decide) c4⟩
        refine step.1 _ _ _ _ _ _ _ sgX3_worth_49_ok ?_
        refine at50 0 top rfl ?_
        refine step.1 _ _ _ _ _ _ _ sgX3_worth_69_ok ?_
        refine ⟨fun c5 => absurd k0 c5, fun c5 => ?_⟩
        refine ⟨by decide, _, _, hS.1, rfl, by decide, _, _, hS.1, rfl, _, _, hS.2.2.1, vp_in_nI (by omega) (by decide), _, _, hS.2.2.2, vp_in_nI (by omega) (by decide), ?_⟩
        rw [h_tn (n := i) (by omega), h_tn (n := top) (by omega)]
        exact fin top (upd S1 top (V i)) _ (by rw [qup_qup]) ht hk (by rw [← hs, lworth, if_pos k0])
      · -- a name
        have k1 : ¬ K i = 0 := by rw [k0]; decide
        refine ⟨fun c3 => ?_, fun c3 => absurd (show K i = 8 from c3) (by rw [k0]; decide)⟩
        refine step.1 _ _ _ _ _ _ _ sgX3_worth_39_ok ?_
        refine ⟨fun c4 => ?_, fun c4 => absurd (show K i ≤ 1 by rw [k0]; decide) c4⟩
        refine step.1 _ _ _ _ _ _ _ sgX3_worth_49_ok ?_
        refine at50 0 top rfl ?_
        refine step.1 _ _ _ _ _ _ _ sgX3_worth_69_ok ?_
        refine ⟨fun c5 => ?_, fun c5 => absurd (show K i = 0 from c5) k1⟩
        refine step.1 _ _ _ _ _ _ _ sgX3_worth_89_ok ?_
        refine ⟨fun c6 => absurd k0 c6, fun c6 => ?_⟩
        refine ⟨by decide, _, _, hS.1, rfl, by decide, _, _, hS.1, rfl, _, _, hS.2.2.1, vp_in_nI (by omega) (by decide), ?_⟩
        rw [h_tn (n := i) (by omega), hv]
        refine ⟨fun c7 => absurd c7 (h_nn (by omega)), fun c7 => ?_⟩
        refine ⟨by decide, _, _, hS.1, rfl, _, _, hS.2.2.1, vp_in_nI (by omega) (by decide), ?_⟩
        rw [h_tn (n := i) (by omega), hv]
        refine ⟨_, _, hM S1, rfl, fun c8 => absurd c8 (h_nle (b := 10) (by omega) (by decide)), fun c8 => ?_⟩
        refine ⟨by decide, _, _, hS.1, rfl, _, _, hS.2.2.1, vp_in_nI (by omega) (by decide), ?_⟩
        rw [h_tn (n := i) (by omega), hv]
        refine ⟨_, _, hM S1, vp_in_nI (by omega) (by decide), ?_⟩
        refine step.1 _ _ _ _ _ _ _ sgX3_worth_132_ok ?_
        refine ⟨_, _, hS.2.2.2, vp_in_nI (by omega) (by decide), ?_⟩
        rw [h_tn (n := top) (by omega)]
        exact fin top (upd S1 top (nm (nI j).toNatClampNeg)) _ (by rw [qup_qup]) ht hk (by rw [← hs, lworth, if_neg k1, if_pos k0, hv])
      · -- if
        have k1 : ¬ K i = 0 := by rw [k0]; decide
        have k2 : ¬ K i = 1 := by rw [k0]; decide
        refine ⟨fun c3 => absurd k0 c3, fun c3 => ?_⟩
        refine at50 3 (top - 3) (by omega) ?_
        refine step.1 _ _ _ _ _ _ _ sgX3_worth_69_ok ?_
        refine ⟨fun c5 => ?_, fun c5 => absurd (show K i = 0 from c5) k1⟩
        refine step.1 _ _ _ _ _ _ _ sgX3_worth_89_ok ?_
        refine ⟨fun c6 => ?_, fun c6 => absurd (show K i = 1 from c6) k2⟩
        refine step.1 _ _ _ _ _ _ _ sgX3_worth_136_ok ?_
        refine ⟨fun c7 => absurd k0 c7, fun c7 => ?_⟩
        refine ⟨by decide, _, _, hS.1, rfl, by decide, _, _, hS.1, rfl, _, _, hS.2.2.2, vp_in_nI (by omega) (by decide), ?_⟩
        rw [h_tn (n := top - 3) (by omega)]
        have at176 : ∀ z : Int32, z = (if S1 (top - 3) ≤ 0 then S1 (top - 1) else S1 (top - 2)) → run 176 [(2, .int (nI (top - 3))), (4, .int (K i)), (3, .int (nI i)), (0, .ref a), (1, .ref nma)] [.int z, .int (nI (top - 3)), .ref sk] (h.1, qup h.2 sk (.inr (.inl (.int, 152, S1)))) 0 0 := by
          intro z hz
          refine step.1 _ _ _ _ _ _ _ sgX3_worth_176_ok ?_
          refine ⟨_, _, hS.2.2.2, vp_in_nI (by omega) (by decide), ?_⟩
          rw [h_tn (n := top - 3) (by omega)]
          refine fin (top - 3) (upd S1 (top - 3) z) _ (by rw [qup_qup]) (by omega) ?_ ?_
          · rw [show top - 3 + 1 = top - 2 by omega]; exact hk
          · rw [← hs, lworth, if_neg k1, if_neg k2, if_pos k0, hz, show top - 3 + 1 = top - 2 by omega]
        refine ⟨fun c8 => ?_, fun c8 => ?_⟩
        · have c8 : S1 (top - 3) ≤ 0 := c8
          refine step.1 _ _ _ _ _ _ _ sgX3_worth_168_ok ?_
          refine ⟨by decide, _, _, hS.1, rfl, ?_⟩
          have e2 : (nI (top - 3) + 2 : Int32) = nI (top - 1) := by rw [show (nI (top - 3) + 2 : Int32) = nI (top - 3) + nI 2 from rfl, nI_add]; congr 1; omega
          refine ⟨_, _, hS.2.2.2, by rw [e2]; exact vp_in_nI (by omega) (by decide), ?_⟩
          rw [e2, h_tn (n := top - 1) (by omega)]
          exact at176 _ (by rw [if_pos c8])
        · have c8 : ¬ S1 (top - 3) ≤ 0 := c8
          refine ⟨by decide, _, _, hS.1, rfl, ?_⟩
          have e2 : (nI (top - 3) + 1 : Int32) = nI (top - 2) := by rw [nI_1]; congr 1; omega
          refine ⟨_, _, hS.2.2.2, by rw [e2]; exact vp_in_nI (by omega) (by decide), ?_⟩
          rw [e2, h_tn (n := top - 2) (by omega)]
          exact at176 _ (by rw [if_neg c8])
      · -- an operator
        have k1 : ¬ K i = 0 := fun e => by rw [k0] at e; exact absurd ((nI_eq (b := 0) (by omega) (by decide)).mp e) (by omega)
        have k2 : ¬ K i = 1 := fun e => by rw [k0] at e; exact absurd ((nI_eq (b := 1) (by omega) (by decide)).mp e) (by omega)
        have k3 : ¬ K i = 8 := fun e => by rw [k0] at e; exact absurd ((nI_eq (b := 8) (by omega) (by decide)).mp e) (by omega)
        refine ⟨fun c3 => ?_, fun c3 => absurd (show K i = 8 from c3) k3⟩
        refine step.1 _ _ _ _ _ _ _ sgX3_worth_39_ok ?_
        refine ⟨fun c4 => absurd (show K i ≤ 1 from c4) (by rw [k0]; exact h_nle (a := 1) (by omega) (by omega)), fun c4 => ?_⟩
        refine at50 2 (top - 2) (by omega) ?_
        refine step.1 _ _ _ _ _ _ _ sgX3_worth_69_ok ?_
        refine ⟨fun c5 => ?_, fun c5 => absurd (show K i = 0 from c5) k1⟩
        refine step.1 _ _ _ _ _ _ _ sgX3_worth_89_ok ?_
        refine ⟨fun c6 => ?_, fun c6 => absurd (show K i = 1 from c6) k2⟩
        refine step.1 _ _ _ _ _ _ _ sgX3_worth_136_ok ?_
        refine ⟨fun c7 => ?_, fun c7 => absurd (show K i = 8 from c7) k3⟩
        refine step.1 _ _ _ _ _ _ _ sgX3_worth_180_ok ?_
        refine ⟨by decide, _, _, hS.1, rfl, by decide, _, _, hS.1, rfl, _, _, hS.2.2.2, vp_in_nI (by omega) (by decide), by decide, _, _, hS.1, rfl, ?_⟩
        rw [h_tn (n := top - 2) (by omega)]
        have e2 : (nI (top - 2) + 1 : Int32) = nI (top - 1) := by rw [nI_1]; congr 1; omega
        refine ⟨_, _, hS.2.2.2, by rw [e2]; exact vp_in_nI (by omega) (by decide), ?_⟩
        rw [e2, h_tn (n := top - 1) (by omega), k0]
        refine Or.inl ⟨rfl, _, 1, 0, 0, _, Or.inl qi_3_35, ⟨rfl, rfl⟩, rfl, rfl, L_join hg k hk2 hk7 _ _, fun y1 h9 hy => ?_⟩
        obtain ⟨rfl, hh⟩ := hy
        rw [hh]
        clear hh
        refine ⟨_, _, hS.2.2.2, vp_in_nI (by omega) (by decide), ?_⟩
        rw [h_tn (n := top - 2) (by omega), ← k0]
        refine fin (top - 2) (upd S1 (top - 2) (ljoin (K i) (S1 (top - 2)) (S1 (top - 1)))) _ (by rw [qup_qup]) (by omega) ?_ ?_
        · rw [show top - 2 + 1 = top - 1 by omega]; exact hk
        · rw [← hs, lworth, if_neg k1, if_neg k2, if_neg k3, show top - 2 + 1 = top - 1 by omega]
  have e0 : h = (h.1, qup h.2 sk (.inr (.inl (.int, 152, S)))) := by rw [qup_self hL.2.2.2]
  have kk := loop N 0 0 S (by omega) (Nat.le_refl _) hok rfl
  refine step.1 _ _ _ _ _ _ _ sgX3_worth_0_ok ?_
  rw [← e0] at kk
  exact kk
end Q07H
