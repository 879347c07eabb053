section Q11S
/-- all lines from i on are right -/
def okl (R : Nat → Bool) (i : Nat) : Nat → Bool
  | 0 => true
  | m + 1 => R i && okl R (i + 1) m
theorem brt_okl (D B1 B2 : Nat → Int32) (g : Int32) : ∀ (m i : Nat), okl (fun j => decide (bbox D 10 0 (g &&& B1 j) 0 = B2 j)) i m = decide (brt D B1 B2 g m i = i + m) := by
  intro m
  induction m with
  | zero => intro i; show true = decide (i = i + 0); simp
  | succ m ih =>
    intro i
    show (decide (bbox D 10 0 (g &&& B1 i) 0 = B2 i) && okl _ (i + 1) m) = _
    rw [ih (i + 1)]
    show _ = decide ((if bbox D 10 0 (g &&& B1 i) 0 = B2 i then brt D B1 B2 g m (i + 1) else i) = i + (m + 1))
    by_cases c : bbox D 10 0 (g &&& B1 i) 0 = B2 i
    · rw [if_pos c, decide_eq_true c, Bool.true_and, decide_eq_decide]; omega
    · rw [if_neg c, decide_eq_false c, Bool.false_and]
      exact (decide_eq_false (by omega)).symm
/-- the first set stands once there is one -/
def ginv (i : Nat) (s : fS) : Prop := (∃ c : Nat, c ≤ i ∧ s.1 = nI c) ∧ (s.1 = 0 → s.2.1 = -1) ∧ (¬ s.1 = 0 → ¬ s.2.1 = -1)
theorem inv_k {i : Nat} {s : fS} (h : ginv i s) : ginv (i + 1) s := ⟨⟨h.1.choose, by have := h.1.choose_spec.1; omega, h.1.choose_spec.2⟩, h.2⟩
theorem inv_s {i : Nat} {s : fS} (h : ginv i s) (hi : i < 2000) (h0 : s.1 = 0 → False) {a b : Int32} : ginv (i + 1) (s.1 + 1, s.2.1, a, b) := by
  obtain ⟨⟨c, hc, e⟩, h1, h2⟩ := h
  refine ⟨⟨c + 1, by omega, by show s.1 + 1 = _; rw [e, nI_1]⟩, fun q => ?_, fun _ => h2 h0⟩
  have q : s.1 + 1 = 0 := q
  rw [e, nI_1] at q
  exact absurd ((nI_eq (b := 0) (by omega) (by decide)).mp q) (by omega)
theorem inv_s2 {i : Nat} {s : fS} (h : ginv i s) (hi : i < 2000) {a b : Int32} : ginv (i + 1) (s.1 + 1, nI i, a, b) := by
  obtain ⟨⟨c, hc, e⟩, h1, h2⟩ := h
  refine ⟨⟨c + 1, by omega, by show s.1 + 1 = _; rw [e, nI_1]⟩, fun q => ?_, fun _ => nim1 (by omega)⟩
  have q : s.1 + 1 = 0 := q
  rw [e, nI_1] at q
  exact absurd ((nI_eq (b := 0) (by omega) (by decide)).mp q) (by omega)
set_option maxHeartbeats 2000000 in
theorem M_gave {g : qG} (hg : qOK g) {h : qH} {x : Nat → Int32} {y : Nat → Int64} {F : Nat → Nat → Int32} {G : Nat → Nat → Int64} (hM : MX h x y F G) {S : CS} (hR : Rel S x F) (hn : S.2.1.2.2.2.1 ≤ 10) (hb8 : S.2.2.2.2.2.1.2.2 ≤ 8) (v : Int32) : qSpec g 3 0 0 mX12_gave [.ref 63, .int v] h (fun r h' => ((wi 0 3 v = true) ∧ (∃ k : Nat, k ≤ 3 ∧ v = nI k ∧ r = some (.int (if k = 0 then (bsets S.2.1.1 S.2.2.2.2.2.1.1 S.2.2.2.2.2.1.2.1 S.2.2.2.2.2.1.2.2 (2 ^ S.2.1.2.2.2.1) 0 (0, -1, nI (2 ^ S.2.1.2.2.2.1 - 1), 0)).1 else if k = 1 then (bsets S.2.1.1 S.2.2.2.2.2.1.1 S.2.2.2.2.2.1.2.1 S.2.2.2.2.2.1.2.2 (2 ^ S.2.1.2.2.2.1) 0 (0, -1, nI (2 ^ S.2.1.2.2.2.1 - 1), 0)).2.1 else if k = 2 then (if (bsets S.2.1.1 S.2.2.2.2.2.1.1 S.2.2.2.2.2.1.2.1 S.2.2.2.2.2.1.2.2 (2 ^ S.2.1.2.2.2.1) 0 (0, -1, nI (2 ^ S.2.1.2.2.2.1 - 1), 0)).1 = 0 then 0 else (bsets S.2.1.1 S.2.2.2.2.2.1.1 S.2.2.2.2.2.1.2.1 S.2.2.2.2.2.1.2.2 (2 ^ S.2.1.2.2.2.1) 0 (0, -1, nI (2 ^ S.2.1.2.2.2.1 - 1), 0)).2.2.1) else (if (bsets S.2.1.1 S.2.2.2.2.2.1.1 S.2.2.2.2.2.1.2.1 S.2.2.2.2.2.1.2.2 (2 ^ S.2.1.2.2.2.1) 0 (0, -1, nI (2 ^ S.2.1.2.2.2.1 - 1), 0)).1 = 0 then 0 else nI (2 ^ S.2.1.2.2.2.1 - 1) &&& ((bsets S.2.1.1 S.2.2.2.2.2.1.1 S.2.2.2.2.2.1.2.1 S.2.2.2.2.2.1.2.2 (2 ^ S.2.1.2.2.2.1) 0 (0, -1, nI (2 ^ S.2.1.2.2.2.1 - 1), 0)).2.2.2 ^^^ -1))))) ∧ MG h h' S) ∨ ∃ (k : Nat) (c : Int32), ((k = 1 ∧ c = 1 ∧ ¬ (wi 0 3 v = true))) ∧ (∃ z, r = some (.int z)) ∧ mbad h h' S k c) := by
  refine qSpec_run 12 "gave" false hg mX12_gave_ok rfl rfl (Nat.le_of_ble_eq_true rfl) (by decide) ?_
  intro run step
  have e19 : (upd x 0 0) 19 = nI S.2.1.2.2.2.1 := hR.1.2.2.1
  have epow : (1 : Int32) <<< ((upd x 0 0) 19 &&& 31) = nI (2 ^ S.2.1.2.2.2.1) := by rw [e19]; exact b_shl (by omega)
  have eall : ((1 : Int32) <<< ((upd x 0 0) 19 &&& 31)) - 1 = nI (2 ^ S.2.1.2.2.2.1 - 1) := by rw [e19]; exact all_nn _ (by omega)
  refine step.1 _ _ _ _ _ _ _ sgX12_gave_0_ok ?_
  refine ⟨_, hM.1, Nat.le_of_ble_eq_true rfl, rfl, ?_⟩
  have hM0 := hM.p63 (sI_0 (v := 0) (rfl : _ = M63l x y))
  have hR0 : Rel S (upd x 0 0) F := hR.t 0
  have hk0 := kp.rf (h := h) |>.u (k := 63) (e := .inl (12, (M63l x y).set 0 (.int 0))) (by decide) (by decide)
  refine Or.inl ⟨rfl, _, 1, 0, 0, _, Or.inl qi_12_324, ⟨rfl, rfl⟩, rfl, rfl, M_within hg _ _ _, fun y9 h9 hy9 => ?_⟩
  obtain ⟨rfl, hh⟩ := hy9
  rw [hh]
  clear hh
  refine Or.inl ⟨rfl, _, 1, 0, 0, _, _, _, qi_12_247, ⟨rfl, rfl⟩, ⟨hM0.1, rfl⟩, rfl, rfl, M_mayU hg hM0 hR0 rfl _ 1 (by decide) 1 (by decide), fun y14 h14 hy14 => ?_⟩
  rcases hy14 with ⟨w14, rfl, hb⟩ | ⟨w14, rfl, hh⟩
  · refine ⟨fun c17 => absurd c17 (by decide), fun _ => ?_⟩
    refine ⟨.int, rfl, rfl, Nat.le_refl _, Nat.le_refl _, ?_⟩
    exact Or.inr ⟨1, 1, ⟨rfl, rfl, (by rw [w14]; decide)⟩, ⟨_, rfl⟩, mbad.l hk0 hb⟩
  · rw [hh]
    clear hh
    obtain ⟨k, hk, ek⟩ := wi_nat (m := 3) (by decide) w14
    have hW := w14
    have e37 : (upd x 0 0) 37 = nI S.2.2.2.2.2.1.2.2 := hR0.1.2.2.2.2.2.2.2.2.1
    have hp10 : (2 : Nat) ^ S.2.1.2.2.2.1 ≤ 2 ^ 10 := Nat.pow_le_pow_right (by decide) hn
    have loop : ∀ (m i : Nat) (s : fS), i + m = 2 ^ S.2.1.2.2.2.1 → ginv i s → (bsets S.2.1.1 S.2.2.2.2.2.1.1 S.2.2.2.2.2.1.2.1 S.2.2.2.2.2.1.2.2 m i s) = (bsets S.2.1.1 S.2.2.2.2.2.1.1 S.2.2.2.2.2.1.2.1 S.2.2.2.2.2.1.2.2 (2 ^ S.2.1.2.2.2.1) 0 (0, -1, nI (2 ^ S.2.1.2.2.2.1 - 1), 0)) → run 42 [(6, .int (nI i)), (5, .int s.2.2.2), (4, .int s.2.2.1), (3, .int s.2.1), (2, .int s.1), (0, .ref 63), (1, .int v)] [] (h.1, qup h.2 63 (.inl (12, (M63l x y).set 0 (.int 0)))) 0 0 := by
        intro m
        induction m with
        | zero =>
          intro i s hi hinv hres
          refine step.1 _ _ _ _ _ _ _ sgX12_gave_42_ok ?_
          refine ⟨by decide, _, _, hM0.1, rfl, ?_⟩
          refine ⟨fun c50 => ?_, fun c50 => absurd (show (1 : Int32) <<< ((upd x 0 0) 19 &&& 31) ≤ nI i from by rw [epow]; exact nI_le (by omega) (by omega)) c50⟩
          
          have hres : s = (bsets S.2.1.1 S.2.2.2.2.2.1.1 S.2.2.2.2.2.1.2.1 S.2.2.2.2.2.1.2.2 (2 ^ S.2.1.2.2.2.1) 0 (0, -1, nI (2 ^ S.2.1.2.2.2.1 - 1), 0)) := by rw [← hres]; rfl
          refine step.1 _ _ _ _ _ _ _ sgX12_gave_140_ok ?_
          refine ⟨fun c142 => ?_, fun c142 => ?_⟩
          · have d142 : ¬ k < 2 := fun q => absurd c142 (Int32.not_le.mpr (by rw [ek]; exact (nI_ltI (b := 2) (by omega) (by decide)).mpr q))
            refine step.1 _ _ _ _ _ _ _ sgX12_gave_155_ok ?_
            refine ⟨fun c156 => ?_, fun c156 => ?_⟩
            · have d156 : ¬ (bsets S.2.1.1 S.2.2.2.2.2.1.1 S.2.2.2.2.2.1.2.1 S.2.2.2.2.2.1.2.2 (2 ^ S.2.1.2.2.2.1) 0 (0, -1, nI (2 ^ S.2.1.2.2.2.1 - 1), 0)).1 = 0 := fun q => c156 (by rw [hres]; exact q)
              refine step.1 _ _ _ _ _ _ _ sgX12_gave_163_ok ?_
              refine ⟨fun c165 => ?_, fun c165 => ?_⟩
              · have d165 : ¬ k = 2 := fun q => c165 (by rw [ek, q]; rfl)
                refine step.1 _ _ _ _ _ _ _ sgX12_gave_173_ok ?_
                refine ⟨by decide, _, _, hM0.1, rfl, ?_⟩
                refine step.1 _ _ _ _ _ _ _ sgX12_gave_186_ok ?_
                refine ⟨.int, rfl, rfl, Nat.le_refl _, Nat.le_refl _, ?_⟩
                exact Or.inl ⟨hW, ⟨k, hk, ek, congrArg (fun z => some (Value.int z)) (by rw [if_neg (show ¬ k = 0 by omega), if_neg (show ¬ k = 1 by omega), if_neg d165, if_neg d156, hres, eall])⟩, MG.of hM0 hk0 hR0 rfl⟩
              · have d165 : k = 2 := (nI_eq (b := 2) (by omega) (by decide)).mp (by rw [← ek]; exact c165)
                refine step.1 _ _ _ _ _ _ _ sgX12_gave_186_ok ?_
                refine ⟨.int, rfl, rfl, Nat.le_refl _, Nat.le_refl _, ?_⟩
                exact Or.inl ⟨hW, ⟨k, hk, ek, congrArg (fun z => some (Value.int z)) (by rw [if_neg (show ¬ k = 0 by omega), if_neg (show ¬ k = 1 by omega), if_pos d165, if_neg d156, hres])⟩, MG.of hM0 hk0 hR0 rfl⟩
            · have d156 : (bsets S.2.1.1 S.2.2.2.2.2.1.1 S.2.2.2.2.2.1.2.1 S.2.2.2.2.2.1.2.2 (2 ^ S.2.1.2.2.2.1) 0 (0, -1, nI (2 ^ S.2.1.2.2.2.1 - 1), 0)).1 = 0 := by rw [← hres]; exact c156
              refine step.1 _ _ _ _ _ _ _ sgX12_gave_186_ok ?_
              refine ⟨.int, rfl, rfl, Nat.le_refl _, Nat.le_refl _, ?_⟩
              exact Or.inl ⟨hW, ⟨k, hk, ek, congrArg (fun z => some (Value.int z)) (by rw [if_neg (show ¬ k = 0 by omega), if_neg (show ¬ k = 1 by omega), if_pos d156, if_pos d156, ite_self])⟩, MG.of hM0 hk0 hR0 rfl⟩
          · have d142 : k < 2 := by
              have q := Int32.not_le.mp c142
              rw [ek] at q
              exact (nI_ltI (b := 2) (by omega) (by decide)).mp q
            refine ⟨fun c146 => ?_, fun c146 => ?_⟩
            · have d146 : ¬ k = 0 := fun q => c146 (by rw [ek, q]; rfl)
              refine step.1 _ _ _ _ _ _ _ sgX12_gave_153_ok ?_
              refine step.1 _ _ _ _ _ _ _ sgX12_gave_154_ok ?_
              refine ⟨.int, rfl, rfl, Nat.le_refl _, Nat.le_refl _, ?_⟩
              exact Or.inl ⟨hW, ⟨k, hk, ek, congrArg (fun z => some (Value.int z)) (by rw [if_neg d146, if_pos (show k = 1 by omega), hres])⟩, MG.of hM0 hk0 hR0 rfl⟩
            · have d146 : k = 0 := (nI_eq (b := 0) (by omega) (by decide)).mp (by rw [← ek]; exact c146)
              refine step.1 _ _ _ _ _ _ _ sgX12_gave_154_ok ?_
              refine ⟨.int, rfl, rfl, Nat.le_refl _, Nat.le_refl _, ?_⟩
              exact Or.inl ⟨hW, ⟨k, hk, ek, congrArg (fun z => some (Value.int z)) (by rw [if_pos d146, hres])⟩, MG.of hM0 hk0 hR0 rfl⟩
        | succ m ih =>
          intro i s hi hinv hres
          have at97 : ∀ (l : Nat) (c : Bool), c = okl (fun j => decide (bbox S.2.1.1 10 0 (nI i &&& S.2.2.2.2.2.1.1 j) 0 = S.2.2.2.2.2.1.2.1 j)) 0 S.2.2.2.2.2.1.2.2 → run 97 [(8, .int (nI l)), (7, .int (qb c)), (6, .int (nI i)), (5, .int s.2.2.2), (4, .int s.2.2.1), (3, .int s.2.1), (2, .int s.1), (0, .ref 63), (1, .int v)] [] (h.1, qup h.2 63 (.inl (12, (M63l x y).set 0 (.int 0)))) 0 0 := by
            intro l c hT
            refine step.1 _ _ _ _ _ _ _ sgX12_gave_97_ok ?_
            refine ⟨fun c99 => ?_, fun c99 => ?_⟩
            · have d99 : brt S.2.1.1 S.2.2.2.2.2.1.1 S.2.2.2.2.2.1.2.1 (nI i) S.2.2.2.2.2.1.2.2 0 = S.2.2.2.2.2.1.2.2 := by
                have q := (hT.symm.trans (qb_1.mp c99))
                rw [brt_okl, Nat.zero_add] at q
                exact of_decide_eq_true q
              refine step.1 _ _ _ _ _ _ _ sgX12_gave_105_ok ?_
              refine ⟨fun c110 => ?_, fun c110 => ?_⟩
              · have d110 : ¬ s.1 = 0 := fun q => c110 (hinv.2.1 q)
                refine step.1 _ _ _ _ _ _ _ sgX12_gave_118_ok ?_
                refine step.1 _ _ _ _ _ _ _ sgX12_gave_119_ok ?_
                refine step.1 _ _ _ _ _ _ _ sgX12_gave_134_ok ?_
                refine step.2 _ _ _ _ _ _ _ (qsub_cons 0 rfl (qsub_cons 1 rfl (qsub_cons 2 rfl (qsub_cons 3 rfl (qsub_cons 4 rfl (qsub_cons 7 rfl (qsub_cons 8 rfl qsub_nil))))))) ?_
                have kk := ih (i + 1) (s.1 + 1, s.2.1, s.2.2.1 &&& nI i, s.2.2.2 ||| nI i) (by omega) (inv_s hinv (by omega) (fun q => absurd q d110)) (by rw [← hres]; show _ = bsets _ _ _ _ m (i + 1) (bst _ _ _ _ i s); rw [bst, if_pos d99, if_neg d110])
                rw [← nI_1] at kk
                exact kk
              · have d110 : s.1 = 0 := by
                  by_cases q : s.1 = 0
                  · exact q
                  · exact absurd c110 (hinv.2.2 q)
                refine step.1 _ _ _ _ _ _ _ sgX12_gave_119_ok ?_
                refine step.1 _ _ _ _ _ _ _ sgX12_gave_134_ok ?_
                refine step.2 _ _ _ _ _ _ _ (qsub_cons 0 rfl (qsub_cons 1 rfl (qsub_cons 2 rfl (qsub_cons 3 rfl (qsub_cons 4 rfl (qsub_cons 7 rfl (qsub_cons 8 rfl qsub_nil))))))) ?_
                have kk := ih (i + 1) (s.1 + 1, nI i, s.2.2.1 &&& nI i, s.2.2.2 ||| nI i) (by omega) (inv_s2 hinv (by omega)) (by rw [← hres]; show _ = bsets _ _ _ _ m (i + 1) (bst _ _ _ _ i s); rw [bst, if_pos d99, if_pos d110])
                rw [← nI_1] at kk
                exact kk
            · have d99 : ¬ brt S.2.1.1 S.2.2.2.2.2.1.1 S.2.2.2.2.2.1.2.1 (nI i) S.2.2.2.2.2.1.2.2 0 = S.2.2.2.2.2.1.2.2 := fun q => by
                have q2 : c = true := hT.trans (by rw [brt_okl, Nat.zero_add]; exact decide_eq_true q)
                rw [qb_0.mp c99] at q2
                cases q2
              refine step.1 _ _ _ _ _ _ _ sgX12_gave_134_ok ?_
              refine step.2 _ _ _ _ _ _ _ (qsub_cons 0 rfl (qsub_cons 3 rfl (qsub_cons 4 rfl (qsub_cons 5 rfl (qsub_cons 6 rfl (qsub_cons 7 rfl (qsub_cons 8 rfl qsub_nil))))))) ?_
              have kk := ih (i + 1) s (by omega) (inv_k hinv) (by rw [← hres]; show _ = bsets _ _ _ _ m (i + 1) (bst _ _ _ _ i s); rw [bst, if_neg d99])
              rw [← nI_1] at kk
              exact kk
          have inner : ∀ (q l : Nat) (c : Bool), l + q = S.2.2.2.2.2.1.2.2 → (c && okl (fun j => decide (bbox S.2.1.1 10 0 (nI i &&& S.2.2.2.2.2.1.1 j) 0 = S.2.2.2.2.2.1.2.1 j)) l q) = okl (fun j => decide (bbox S.2.1.1 10 0 (nI i &&& S.2.2.2.2.2.1.1 j) 0 = S.2.2.2.2.2.1.2.1 j)) 0 S.2.2.2.2.2.1.2.2 → run 59 [(8, .int (nI l)), (7, .int (qb c)), (6, .int (nI i)), (5, .int s.2.2.2), (4, .int s.2.2.1), (3, .int s.2.1), (2, .int s.1), (0, .ref 63), (1, .int v)] [] (h.1, qup h.2 63 (.inl (12, (M63l x y).set 0 (.int 0)))) 0 0 := by
            intro q
            induction q with
            | zero =>
              intro l c hl hc
              refine step.1 _ _ _ _ _ _ _ sgX12_gave_59_ok ?_
              refine ⟨by decide, _, _, hM0.1, rfl, ?_⟩
              refine ⟨fun c65 => ?_, fun c65 => absurd (show (upd x 0 0) 37 ≤ nI l from by rw [e37]; exact nI_le (by omega) (by omega)) c65⟩
            
              exact at97 l c (by rw [← hc]; show c = (c && true); rw [Bool.and_true])
            | succ q ihl =>
              intro l c hl hc
              have at89 : ∀ z : Bool, z = (c && (fun j => decide (bbox S.2.1.1 10 0 (nI i &&& S.2.2.2.2.2.1.1 j) 0 = S.2.2.2.2.2.1.2.1 j)) l) → run 89 [(8, .int (nI l)), (7, .int (qb c)), (6, .int (nI i)), (5, .int s.2.2.2), (4, .int s.2.2.1), (3, .int s.2.1), (2, .int s.1), (0, .ref 63), (1, .int v)] [.int (qb z)] (h.1, qup h.2 63 (.inl (12, (M63l x y).set 0 (.int 0)))) 0 0 := by
                intro z hz
                refine step.1 _ _ _ _ _ _ _ sgX12_gave_89_ok ?_
                have kk := ihl (l + 1) z (by omega) (by rw [← hc, hz, Bool.and_assoc]; rfl)
                rw [← nI_1] at kk
                exact kk
              refine step.1 _ _ _ _ _ _ _ sgX12_gave_59_ok ?_
              refine ⟨by decide, _, _, hM0.1, rfl, ?_⟩
              refine ⟨fun c65 => absurd (show nI S.2.2.2.2.2.1.2.2 ≤ nI l from by rw [← e37]; exact c65) (h_nle (by omega) (by omega)), fun c65 => ?_⟩
            
              refine ⟨fun c70 => ?_, fun c70 => ?_⟩
              · have d70 : c = false := qb_0.mp c70
                refine step.1 _ _ _ _ _ _ _ sgX12_gave_88_ok ?_
                exact at89 false (by rw [d70]; rfl)
              · have d70 : c = true := qb_1.mp c70
                refine Or.inl ⟨rfl, _, 1, 0, 0, _, _, _, qi_12_490, ⟨rfl, rfl⟩, ⟨hM0.1, rfl⟩, rfl, rfl, M_isRight hg hM0 hR0 hn hb8 (l := l) (b := i) (by omega) (by omega), fun y78 h78 hy78 => ?_⟩
                obtain ⟨rfl, hh⟩ := hy78
                rw [hh]
                clear hh
                refine ⟨fun c81 => ?_, fun c81 => ?_⟩
                · have d81 := qb_0.mp c81
                  refine step.1 _ _ _ _ _ _ _ sgX12_gave_88_ok ?_
                  exact at89 false (by show false = (c && decide _); rw [d81, Bool.and_false])
                · have d81 := qb_1.mp c81
                  exact at89 true (by show true = (c && decide _); rw [d81, d70]; rfl)
          refine step.1 _ _ _ _ _ _ _ sgX12_gave_42_ok ?_
          refine ⟨by decide, _, _, hM0.1, rfl, ?_⟩
          refine ⟨fun c50 => absurd (show nI (2 ^ S.2.1.2.2.2.1) ≤ nI i from by rw [← epow]; exact c50) (h_nle (by omega) (by omega)), fun c50 => ?_⟩
          
          exact inner S.2.2.2.2.2.1.2.2 0 true (by omega) rfl
    refine ⟨fun _ => ?_, fun c17 => absurd c17 (by decide)⟩
    refine step.1 _ _ _ _ _ _ _ sgX12_gave_22_ok ?_
    refine ⟨by decide, _, _, hM0.1, rfl, ?_⟩
    have kk := loop (2 ^ S.2.1.2.2.2.1) 0 (0, -1, nI (2 ^ S.2.1.2.2.2.1 - 1), 0) (by omega) ⟨⟨0, by omega, rfl⟩, fun _ => rfl, fun q => absurd rfl q⟩ rfl
    simp only [← eall] at kk
    exact kk
end Q11S
