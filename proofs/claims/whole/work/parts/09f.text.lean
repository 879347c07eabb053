section Q09F
/-- how far the i-th byte of a word is shifted -/
def shf (i : Nat) : Int32 := match i with
  | 0 => 24
  | 1 => 16
  | 2 => 8
  | 3 => 0
  | _ => -8
def bby (v : Int32) (i : Nat) : Int32 := vp_nar .byte (v >>> (shf i &&& 31)).toInt8.toInt32
def bput (F : Nat → Int32) (p : Nat) (v : Int32) : Nat → (Nat → Int32)
  | 0 => F
  | i + 1 => upd (bput F p v i) (p + i) (bby v i)
theorem T_put {g : qG} (hg : qOK g) {h : qH} {F : Nat → Int32} {p : Nat} {en po fr ki pl : Int32} (hT : isT h 1 2 F (nI p) en po fr ki pl) (hp : p + 4 ≤ 600) (v : Int32) : qSpec g 1 0 0 mX8_put [.ref 1, .int v] h (fun r h' => r = none ∧ same h h' [1, 2] ∧ isT h' 1 2 (bput F p v 4) (nI (p + 4)) en po fr ki pl) := by
  refine qSpec_run 8 "put" false hg mX8_put_ok rfl rfl (Nat.le_of_ble_eq_true rfl) (by decide) ?_
  intro run step
  have loop : ∀ (m i : Nat) (hX : qH), i + m = 4 → same h hX [1, 2] → isT hX 1 2 (bput F p v i) (nI (p + i)) en po fr ki pl → run 3 [(2, .int (shf i)), (0, .ref 1), (1, .int v)] [] hX 0 0 := by
    intro m
    induction m with
    | zero =>
      intro i hX hi hs hT
      obtain rfl : i = 4 := by omega
      refine step.1 _ _ _ _ _ _ _ sgX8_put_3_ok ?_
      refine ⟨fun c4 => ?_, fun c4 => absurd (by decide : (-8 : Int32) < 0) c4⟩
      
      refine step.1 _ _ _ _ _ _ _ sgX8_put_55_ok ?_
      refine ⟨rfl, Nat.le_refl _, Nat.le_refl _, ?_⟩
      exact ⟨rfl, hs, hT⟩
    | succ m ih =>
      intro i hX hi hs hT
      refine step.1 _ _ _ _ _ _ _ sgX8_put_3_ok ?_
      refine ⟨fun c4 => absurd c4 (by rcases (show i = 0 ∨ i = 1 ∨ i = 2 ∨ i = 3 by omega) with rfl | rfl | rfl | rfl <;> decide), fun c4 => ?_⟩
      refine ⟨by decide, _, _, hT.1, rfl, ?_⟩
      refine ⟨fun c11 => absurd c11 (h_nn (by omega)), fun c11 => ?_⟩
      refine ⟨by decide, _, _, hT.1, rfl, ?_⟩
      refine ⟨by decide, _, _, hT.1, rfl, ?_⟩
      refine ⟨_, _, hT.2, rfl, ?_⟩
      refine ⟨fun c23 => absurd c23 (h_nle (a := p + i) (b := 600) (by omega) (by decide)), fun c23 => ?_⟩
      refine ⟨by decide, _, _, hT.1, rfl, ?_⟩
      refine ⟨by decide, _, _, hT.1, rfl, ?_⟩
      refine ⟨_, _, _, hT.2, Or.inl rfl, vp_in_nI (by omega) (by decide), ?_⟩
      refine ⟨rfl, ?_⟩
      refine ⟨by decide, _, _, hT.1, rfl, ?_⟩
      refine ⟨_, hT.1, Nat.le_of_ble_eq_true rfl, rfl, ?_⟩
      refine step.1 _ _ _ _ _ _ _ sgX8_put_49_ok ?_
      have ei : shf (i + 1) = (shf i + -8 : Int32) := by rcases (show i = 0 ∨ i = 1 ∨ i = 2 ∨ i = 3 by omega) with rfl | rfl | rfl | rfl <;> rfl
      have kk2 := fun hZ => ih (i + 1) hZ (by omega)
      rw [ei] at kk2
      have hB : ∀ (f : Nat → Option qE) (e e2 : qE), qup (qup f 2 e) 1 e2 2 = some e := fun f e e2 => (qup_n (by decide)).trans qup_s
      have hA : ∀ f : Nat → Option qE, qup f 1 (.inl (8, [.ref 2, .int (nI (p + i) + 1), .int en, .int po, .int fr, .int ki, .int pl])) 1 = some (.inl (8, [.ref 2, .int (nI (p + (i + 1))), .int en, .int po, .int fr, .int ki, .int pl])) := fun f => by
        rw [nI_1]
        exact qup_s
      refine kk2 _ ?_ ?_
      · exact ⟨hs.1, fun j hj => (qup_n (by simp at hj; omega)).trans ((qup_n (by simp at hj; omega)).trans (hs.2 j hj))⟩
      · exact ⟨hA (qup hX.2 2 (.inr (.inl (.byte, 600, upd (bput F p v i) (nI (p + i)).toNatClampNeg (bby v i))))), (hB hX.2 _ (.inl (8, [.ref 2, .int (nI (p + i) + 1), .int en, .int po, .int fr, .int ki, .int pl]))).trans (congrArg (fun z => some (Sum.inr (Sum.inl (FieldType.byte, 600, upd (bput F p v i) z (bby v i))))) (h_tn (n := p + i) (by omega)))⟩
  refine step.1 _ _ _ _ _ _ _ sgX8_put_0_ok ?_
  exact loop 4 0 h rfl same.rf hT
/-- five words fed -/
def bfeed (F : Nat → Int32) (p : Nat) (a b c d e : Int32) : Nat → Int32 := bput (bput (bput (bput (bput F p a 4) (p + 4) b 4) (p + 4 + 4) c 4) (p + 4 + 4 + 4) d 4) (p + 4 + 4 + 4 + 4) e 4
theorem F_feed {g : qG} (hg : qOK g) {h : qH} {S : CS} (hC : CH h S) (hhe : S.1.2.1 ≤ 600) (a b c d e : Int32) : qSpec g 2 0 0 mX11_feed [.ref 0, .int a, .int b, .int c, .int d, .int e] h (fun r h' => (if 600 < S.1.2.1 + 20 then r = some (.int (-1)) ∧ CH h' S else r = some (.int (nI (S.1.2.1 + 4 + 4 + 4 + 4 + 4))) ∧ CH h' ((bfeed S.1.1 S.1.2.1 a b c d e, S.1.2.1 + 4 + 4 + 4 + 4 + 4, S.1.2.2), S.2)) ∧ gro h h') := by
  refine qSpec_run 11 "feed" false hg mX11_feed_ok rfl rfl (Nat.le_of_ble_eq_true rfl) (by decide) ?_
  intro run step
  obtain ⟨en, po, fr, ki, hTp⟩ := hC.tape
  have hX := hC.obj
  have hs : same h h [1, 2] := same.rf
  refine step.1 _ _ _ _ _ _ _ sgX11_feed_0_ok ?_
  refine ⟨by decide, _, _, hX, rfl, ?_⟩
  refine Or.inl ⟨rfl, _, 1, 0, 0, _, _, _, qi_11_103, ⟨rfl, rfl⟩, ⟨hTp.1, rfl⟩, rfl, rfl, T_hasRoom hg hTp, fun y4 h4 hy4 => ?_⟩
  obtain ⟨rfl, hh⟩ := hy4
  rw [hh]
  clear hh
  refine ⟨fun c7 => ?_, fun c7 => ?_⟩
  · have c7 : ¬ 600 < S.1.2.1 + 20 := by
      have c7 := of_decide_eq_true (qb_1.mp c7)
      have e9 : (nI S.1.2.1 + 20 : Int32) = nI (S.1.2.1 + 20) := nI_add _ 20
      rw [e9] at c7
      have := (nI_leI (a := S.1.2.1 + 20) (b := 600) (by omega) (by decide)).mp c7
      omega
    refine step.1 _ _ _ _ _ _ _ sgX11_feed_12_ok ?_
    refine ⟨by decide, _, _, hX, rfl, ?_⟩
    refine Or.inl ⟨rfl, _, 1, 0, 0, _, _, _, qi_11_107, ⟨rfl, rfl⟩, ⟨hTp.1, rfl⟩, rfl, rfl, T_put hg hTp (by omega) a, fun y17 h17 hy17 => ?_⟩
    obtain ⟨rfl, hsN, hTp⟩ := hy17
    have hs := hs.t2 hsN (by decide)
    have hX := (hsN.2 0 (by decide)).trans hX
    refine ⟨by decide, _, _, hX, rfl, ?_⟩
    refine Or.inl ⟨rfl, _, 1, 0, 0, _, _, _, qi_11_107, ⟨rfl, rfl⟩, ⟨hTp.1, rfl⟩, rfl, rfl, T_put hg hTp (by omega) b, fun y25 h25 hy25 => ?_⟩
    obtain ⟨rfl, hsN, hTp⟩ := hy25
    have hs := hs.t2 hsN (by decide)
    have hX := (hsN.2 0 (by decide)).trans hX
    refine ⟨by decide, _, _, hX, rfl, ?_⟩
    refine Or.inl ⟨rfl, _, 1, 0, 0, _, _, _, qi_11_107, ⟨rfl, rfl⟩, ⟨hTp.1, rfl⟩, rfl, rfl, T_put hg hTp (by omega) c, fun y33 h33 hy33 => ?_⟩
    obtain ⟨rfl, hsN, hTp⟩ := hy33
    have hs := hs.t2 hsN (by decide)
    have hX := (hsN.2 0 (by decide)).trans hX
    refine ⟨by decide, _, _, hX, rfl, ?_⟩
    refine Or.inl ⟨rfl, _, 1, 0, 0, _, _, _, qi_11_107, ⟨rfl, rfl⟩, ⟨hTp.1, rfl⟩, rfl, rfl, T_put hg hTp (by omega) d, fun y42 h42 hy42 => ?_⟩
    obtain ⟨rfl, hsN, hTp⟩ := hy42
    have hs := hs.t2 hsN (by decide)
    have hX := (hsN.2 0 (by decide)).trans hX
    refine ⟨by decide, _, _, hX, rfl, ?_⟩
    refine Or.inl ⟨rfl, _, 1, 0, 0, _, _, _, qi_11_107, ⟨rfl, rfl⟩, ⟨hTp.1, rfl⟩, rfl, rfl, T_put hg hTp (by omega) e, fun y51 h51 hy51 => ?_⟩
    obtain ⟨rfl, hsN, hTp⟩ := hy51
    have hs := hs.t2 hsN (by decide)
    have hX := (hsN.2 0 (by decide)).trans hX
    refine ⟨by decide, _, _, hX, rfl, ?_⟩
    refine ⟨by decide, _, _, hTp.1, rfl, ?_⟩
    refine ⟨.int, rfl, rfl, Nat.le_refl _, Nat.le_refl _, ?_⟩
    refine ⟨?_, gro.of hs rfl⟩
    rw [if_neg c7]
    exact ⟨rfl, hC.setT hs hTp⟩
  · have c7 : 600 < S.1.2.1 + 20 := by
      have c7 := of_decide_eq_false (qb_0.mp c7)
      have e9 : (nI S.1.2.1 + 20 : Int32) = nI (S.1.2.1 + 20) := nI_add _ 20
      rw [e9] at c7
      rcases Nat.lt_or_ge 600 (S.1.2.1 + 20) with z | z
      · exact z
      · exact absurd (nI_le (b := 600) z (by decide)) c7
    refine ⟨.int, rfl, rfl, Nat.le_refl _, Nat.le_refl _, ?_⟩
    refine ⟨?_, gro.rf⟩
    rw [if_pos c7]
    exact ⟨rfl, hC⟩
end Q09F
