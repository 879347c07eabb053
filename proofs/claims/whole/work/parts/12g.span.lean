section Q12G
theorem eopen_4 (i : Bool) (f : Int32) (e : Nat → Int32) : (eopen i f e).2 4 = e 4 := by cases i <;> rfl
theorem evs_4 {D : Nat → Int32} {ve : Int32} {x : Nat} {i : Bool} {sing : (Nat → Int32) → Bool} : ∀ (f : Nat) (s : eS), (evs (everse D ve x i) sing f s).2 4 = s.2 4 := by
  intro f
  induction f with
  | zero => intro s; rfl
  | succ f ih =>
    intro s
    show (if s.1 then s else if sing s.2 then evs (everse D ve x i) sing f (everse D ve x i s.2) else s).2 4 = _
    split
    · rfl
    · split
      · rw [ih]; exact eopen_4 i _ _
      · rfl
theorem estay_4 {G : Int32 → Int32} {D : Nat → Int32} {ve : Int32} {sing : (Nat → Int32) → Bool} {x r : Nat} {e : Nat → Int32} (hG : ∀ z : Int32, ∃ q : Nat, q ≤ 999 ∧ G z = nI q) {b : Nat} (h : e 4 = nI b) : ∃ c : Nat, c ≤ b + 999 ∧ estay G D ve sing x r e 4 = nI c := by
  show ∃ c : Nat, _ ∧ es3 G D x (es2 D x _ r (evs (everse D ve x _) sing 5 (if r = 1 then ering D x _ (ecame D x e) else (false, ecame D x e)))) 4 = nI c
  have h2 : (es2 D x (decide (ebits (e 3) < D (x * 10 + 3))) r (evs (everse D ve x (decide (ebits (e 3) < D (x * 10 + 3)))) sing 5 (if r = 1 then ering D x (decide (ebits (e 3) < D (x * 10 + 3))) (ecame D x e) else (false, ecame D x e)))).2 4 = nI b := by
    have h0 : (if r = 1 then ering D x (decide (ebits (e 3) < D (x * 10 + 3))) (ecame D x e) else (false, ecame D x e)).2 4 = nI b := by
      split
      · exact (eopen_4 _ _ _).trans h
      · exact h
    have h1 := (evs_4 (D := D) (ve := ve) (x := x) (i := decide (ebits (e 3) < D (x * 10 + 3))) (sing := sing) 5 _).trans h0
    generalize evs (everse D ve x (decide (ebits (e 3) < D (x * 10 + 3)))) sing 5 (if r = 1 then ering D x (decide (ebits (e 3) < D (x * 10 + 3))) (ecame D x e) else (false, ecame D x e)) = s1 at h1 ⊢
    unfold es2
    by_cases c : s1.1 = false ∧ r = 2
    · rw [if_pos c]; exact (eopen_4 _ _ _).trans h1
    · rw [if_neg c]; exact h1
  generalize es2 D x (decide (ebits (e 3) < D (x * 10 + 3))) r (evs (everse D ve x (decide (ebits (e 3) < D (x * 10 + 3)))) sing 5 (if r = 1 then ering D x (decide (ebits (e 3) < D (x * 10 + 3))) (ecame D x e) else (false, ecame D x e))) = s at h2 ⊢
  unfold es3
  split
  · obtain ⟨q, hq, eq⟩ := hG (s.2 11)
    refine ⟨b + q, by omega, ?_⟩
    show s.2 4 + G (s.2 11) = _
    rw [h2, eq, nI_add]
  · exact ⟨b, by omega, h2⟩
theorem erun_4 {R : RT} (hR : ROK R) {pf vf rf : Nat → Nat} (hpn : ∀ i : Nat, i < R.2.2.2.2.1 → pf i < R.2.2.2.1) (K V : Nat → Int32) (N : Nat) (m : Int32) (sing : Nat → (Nat → Int32) → Bool) : ∀ (q i b : Nat) (e : Nat → Int32), i + q = R.2.2.2.2.1 → e 4 = nI b → ∃ c : Nat, c ≤ b + 999 * q ∧ erun (fun i z => vgift R.1 K V N m (pf i) z (nI i)) R.1 R.2.2.2.2.2.2.2.1 R.2.2.2.2.2.2.1 R.2.2.2.2.2.2.2.2 sing pf rf q i e 4 = nI c := by
  intro q
  induction q with
  | zero => intro i b e _ h; exact ⟨b, by omega, h⟩
  | succ q ih =>
    intro i b e hi h
    unfold erun
    split
    · obtain ⟨c, hc, ec⟩ := estay_4 (G := fun z => vgift R.1 K V N m (pf i) z (nI i)) (D := R.1) (ve := R.2.2.2.2.2.2.2.1) (sing := sing i) (x := pf i) (r := rf i) (e := upd (upd e 6 (e 6 + lwayv R.1 R.2.2.2.2.2.2.1 pf i)) 10 (e 10 + 1)) (fun z => vgift_b hR (hpn i (by omega)) K V N m z (nI i)) h
      obtain ⟨c2, hc2, ec2⟩ := ih (i + 1) c _ (by omega) ec
      exact ⟨c2, by omega, ec2⟩
    · exact ⟨b, by omega, h⟩
theorem night_4 {S : CS} (hI : ROK S.2.1) {pf vf rf : Nat → Nat} (hpn : ∀ i : Nat, i < S.2.1.2.2.2.2.1 → pf i < S.2.1.2.2.2.1) (e : Nat → Int32) (sd : Int32) : ∃ b : Nat, b ≤ 9990 ∧ nightS S pf vf rf e sd 4 = nI b := by
  obtain ⟨c, hc, ec⟩ := erun_4 hI (vf := vf) (rf := rf) hpn S.2.2.2.2.1.1.1 S.2.2.2.2.1.1.2.1 S.2.2.2.2.1.1.2.2 (nI S.2.2.2.1.2) (fun i z => esing S.2.1.1 S.2.2.2.2.1.2.1 S.2.2.2.2.1.2.2.1 S.2.2.2.2.1.2.2.2 (nI S.2.2.2.1.2) (pf i) (nI i) (nI (vf i)) z) S.2.1.2.2.2.2.1 0 0 (ezero e sd) (by omega) rfl
  have hk := hI.1.2.1
  exact ⟨c, by omega, ec⟩
set_option maxHeartbeats 2000000 in
theorem M_finest {g : qG} (hg : qOK g) {h : qH} {x : Nat → Int32} {y : Nat → Int64} {F : Nat → Nat → Int32} {G : Nat → Nat → Int64} (hM : MX h x y F G) {S : CS} (hR : Rel S x F) {pf vf rf : Nat → Nat} (hP : isP S.2.1.2.1 S.2.1.2.2.2.2.1 pf vf rf) (hI : ROK S.2.1) (hpn : ∀ i : Nat, i < S.2.1.2.2.2.2.1 → pf i < S.2.1.2.2.2.1) (hl : lwf S.2.2.2.2.1.1) (hl2 : lwf S.2.2.2.2.1.2) (e0 : Nat → Int32) (sd mn : Int32) : qSpec g 6 0 0 mX12_finest [.ref 63, .int sd, .int mn] h (fun r h' => ((wi 1 40 mn = true) ∧ (∃ n : Nat, 1 ≤ n ∧ n ≤ 40 ∧ mn = nI n ∧ r = some (.int (firun (nightS S pf vf rf) sd n 0 (e0, sd, -1)).2.1)) ∧ MG h h' S) ∨ ∃ (k : Nat) (c : Int32), ((k = 1 ∧ c = 1 ∧ ¬ (wi 1 40 mn = true))) ∧ (∃ z, r = some (.int z)) ∧ mbad h h' S k c) := by
  refine qSpec_run 12 "finest" false hg mX12_finest_ok rfl rfl (Nat.le_of_ble_eq_true rfl) (by decide) ?_
  intro run step
  refine step.1 _ _ _ _ _ _ _ sgX12_finest_0_ok ?_
  refine ⟨_, hM.1, Nat.le_of_ble_eq_true rfl, rfl, ?_⟩
  have hM0 := hM.p63 (sI_0 (v := 0) (rfl : _ = M63l x y))
  have hR0 : Rel S (upd x 0 0) F := hR.t 0
  have hk0 := kp.rf (h := h) |>.u (k := 63) (e := .inl (12, (M63l x y).set 0 (.int 0))) (by decide) (by decide)
  refine Or.inl ⟨rfl, _, 2, 0, 0, _, _, _, qi_12_520, ⟨rfl, rfl⟩, ⟨hM0.1, rfl⟩, rfl, rfl, M_isSpan hg hM0 hR0 rfl _ true, fun y8 h8 hy8 => ?_⟩
  rcases hy8 with ⟨hneg, rfl, hb⟩ | ⟨hW, hW2, rfl, hh⟩
  · refine ⟨fun c11 => absurd c11 (by decide), fun _ => ?_⟩
    refine ⟨.int, rfl, rfl, Nat.le_refl _, Nat.le_refl _, ?_⟩
    exact Or.inr ⟨1, 1, ⟨rfl, rfl, fun z => hneg ⟨z, rfl⟩⟩, ⟨_, rfl⟩, mbad.l hk0 hb⟩
  · rw [hh]
    clear hh
    obtain ⟨n, hn1, hn2, en⟩ := wi1_nat (m := 40) (by decide) hW
    subst en
    have en : (nI n : Int32) = nI n := rfl
    have loop : ∀ (m i : Nat) (s : fiS) (hZ : qH) (xX : Nat → Int32) (FX : Nat → Nat → Int32), i + m = n → QZ (h.1, qup h.2 63 (.inl (12, (M63l x y).set 0 (.int 0)))) hZ (upd x 0 0) F G xX y FX → (firun (nightS S pf vf rf) sd m i s) = (firun (nightS S pf vf rf) sd n 0 (e0, sd, -1)) → run 24 [(5, .int (nI i)), (4, .int s.2.2), (3, .int s.2.1), (0, .ref 63), (1, .int sd), (2, .int (nI n))] [] hZ 0 0 := by
      intro m
      induction m with
      | zero =>
        intro i s hZ xX FX hi hX hres
        refine step.1 _ _ _ _ _ _ _ sgX12_finest_24_ok ?_
        refine ⟨fun c27 => ?_, fun c27 => absurd (show nI n ≤ nI i from nI_le (by omega) (by omega)) c27⟩
        
        refine step.1 _ _ _ _ _ _ _ sgX12_finest_71_ok ?_
        refine ⟨.int, rfl, rfl, Nat.le_refl _, Nat.le_refl _, ?_⟩
        exact Or.inl ⟨hW, ⟨n, hn1, hn2, en, by rw [← hres]; rfl⟩, hX.mg hk0 hR0 rfl⟩
      | succ m ih =>
        intro i s hZ xX FX hi hX hres
        refine step.1 _ _ _ _ _ _ _ sgX12_finest_24_ok ?_
        refine ⟨fun c27 => absurd c27 (h_nle (by omega) (by omega)), fun c27 => ?_⟩
        
        refine Or.inl ⟨rfl, _, 5, 0, 0, _, _, _, qi_12_517, ⟨rfl, rfl⟩, ⟨hX.1.1, rfl⟩, rfl, rfl, M_goesOut hg hX.1 (hX.R hR0) hP hI hpn hl hl2 s.1 (sd + nI i), fun y35 h35 hy35 => ?_⟩
        obtain ⟨rfl, x1, F1, hX1, n0, n1, n2, n3, n4, n5, n6, n7⟩ := hy35
        have hX2 := hX.tr hX1
        refine ⟨by decide, _, _, hX2.1.1, rfl, ?_⟩
        refine ⟨_, _, hX2.1.c89, (vp_in_nI (n := 1) (N := 7) (by decide) (by decide) : vp_in (nI 1) 7), ?_⟩
        refine ⟨fun c46 => ?_, fun c46 => ?_⟩
        · have d46 : s.2.2 < (nightS S pf vf rf) s.1 (sd + nI i) 5 := by rw [← n2]; exact c46
          refine step.1 _ _ _ _ _ _ _ sgX12_finest_52_ok ?_
          refine ⟨by decide, _, _, hX2.1.1, rfl, ?_⟩
          refine ⟨_, _, hX2.1.c89, (vp_in_nI (n := 1) (N := 7) (by decide) (by decide) : vp_in (nI 1) 7), ?_⟩
          refine step.1 _ _ _ _ _ _ _ sgX12_finest_65_ok ?_
          refine step.2 _ _ _ _ _ _ _ (qsub_cons 0 rfl (qsub_cons 2 rfl (qsub_cons 1 rfl (qsub_cons 3 rfl (qsub_cons 4 rfl (qsub_cons 5 rfl qsub_nil)))))) ?_
          have kk := ih (i + 1) (fist (nightS S pf vf rf) sd i s) h35 x1 F1 (by omega) hX2 (by rw [← hres]; rfl)
          rw [← nI_1, show fist (nightS S pf vf rf) sd i s = ((nightS S pf vf rf) s.1 (sd + nI i), (sd + nI i, (nightS S pf vf rf) s.1 (sd + nI i) 5)) from by unfold fist; rw [if_pos d46], ← n2] at kk
          exact kk
        · have d46 : ¬ s.2.2 < (nightS S pf vf rf) s.1 (sd + nI i) 5 := by rw [← n2]; exact c46
          refine step.1 _ _ _ _ _ _ _ sgX12_finest_65_ok ?_
          have kk := ih (i + 1) (fist (nightS S pf vf rf) sd i s) h35 x1 F1 (by omega) hX2 (by rw [← hres]; rfl)
          rw [← nI_1, show fist (nightS S pf vf rf) sd i s = ((nightS S pf vf rf) s.1 (sd + nI i), (s.2.1, s.2.2)) from by unfold fist; rw [if_neg d46]] at kk
          exact kk
    refine ⟨fun _ => ?_, fun c11 => absurd c11 (by decide)⟩
    refine step.1 _ _ _ _ _ _ _ sgX12_finest_16_ok ?_
    exact loop n 0 (e0, sd, -1) _ (upd x 0 0) F (by omega) (QZ.rf hM0) rfl
set_option maxHeartbeats 2000000 in
theorem M_span {g : qG} (hg : qOK g) {h : qH} {x : Nat → Int32} {y : Nat → Int64} {F : Nat → Nat → Int32} {G : Nat → Nat → Int64} (hM : MX h x y F G) {S : CS} (hR : Rel S x F) {pf vf rf : Nat → Nat} (hP : isP S.2.1.2.1 S.2.1.2.2.2.2.1 pf vf rf) (hI : ROK S.2.1) (hpn : ∀ i : Nat, i < S.2.1.2.2.2.2.1 → pf i < S.2.1.2.2.2.1) (hl : lwf S.2.2.2.2.1.1) (hl2 : lwf S.2.2.2.2.1.2) (e0 : Nat → Int32) (sd mn v dr : Int32) : qSpec g 6 0 0 mX12_span [.ref 63, .int sd, .int mn, .int v, .int dr] h (fun r h' => ((wi 1 40 mn = true ∧ wi 0 3 v = true ∧ wi 0 (nI S.2.1.2.2.2.1 - 1) dr = true) ∧ (∃ n k a : Nat, 1 ≤ n ∧ n ≤ 40 ∧ k ≤ 3 ∧ a < S.2.1.2.2.2.1 ∧ mn = nI n ∧ v = nI k ∧ dr = nI a ∧ r = some (.int (if k = 0 then (sprun (nightS S pf vf rf) sd a n 0 (e0, 0, 0, 0, 0)).2.1 else if k = 1 then (sprun (nightS S pf vf rf) sd a n 0 (e0, 0, 0, 0, 0)).2.2.1 else if k = 2 then (sprun (nightS S pf vf rf) sd a n 0 (e0, 0, 0, 0, 0)).2.2.2.1 else (sprun (nightS S pf vf rf) sd a n 0 (e0, 0, 0, 0, 0)).2.2.2.2))) ∧ MG h h' S) ∨ ∃ (k : Nat) (c : Int32), ((k = 1 ∧ c = 1 ∧ ¬ (wi 1 40 mn = true ∧ wi 0 3 v = true ∧ wi 0 (nI S.2.1.2.2.2.1 - 1) dr = true))) ∧ (∃ z, r = some (.int z)) ∧ mbad h h' S k c) := by
  refine qSpec_run 12 "span" false hg mX12_span_ok rfl rfl (Nat.le_of_ble_eq_true rfl) (by decide) ?_
  intro run step
  have e19 : (upd x 0 0) 19 = nI S.2.1.2.2.2.1 := hR.1.2.2.1
  refine step.1 _ _ _ _ _ _ _ sgX12_span_0_ok ?_
  refine ⟨_, hM.1, Nat.le_of_ble_eq_true rfl, rfl, ?_⟩
  have hM0 := hM.p63 (sI_0 (v := 0) (rfl : _ = M63l x y))
  have hR0 : Rel S (upd x 0 0) F := hR.t 0
  have hk0 := kp.rf (h := h) |>.u (k := 63) (e := .inl (12, (M63l x y).set 0 (.int 0))) (by decide) (by decide)
  refine Or.inl ⟨rfl, _, 1, 0, 0, _, Or.inl qi_12_324, ⟨rfl, rfl⟩, rfl, rfl, M_within hg _ _ _, fun y10 h10 hy10 => ?_⟩
  obtain ⟨rfl, hh⟩ := hy10
  rw [hh]
  clear hh
  refine ⟨fun c13 => ?_, fun c13 => ?_⟩
  · have w13 : (wi 0 3 v) = false := qb_0.mp c13
    refine step.1 _ _ _ _ _ _ _ sgX12_span_35_ok ?_
    refine step.1 _ _ _ _ _ _ _ sgX12_span_36_ok ?_
    refine Or.inl ⟨rfl, _, 2, 0, 0, _, _, _, qi_12_520, ⟨rfl, rfl⟩, ⟨hM0.1, rfl⟩, rfl, rfl, M_isSpan hg hM0 hR0 rfl _ false, fun y36 h36 hy36 => ?_⟩
    rcases hy36 with ⟨hneg, rfl, hb⟩ | ⟨hW, hW2, rfl, hh⟩
    · refine ⟨fun c39 => absurd c39 (by decide), fun _ => ?_⟩
      refine ⟨.int, rfl, rfl, Nat.le_refl _, Nat.le_refl _, ?_⟩
      exact Or.inr ⟨1, 1, ⟨rfl, rfl, (fun z => absurd z.2.1 (by rw [w13]; decide))⟩, ⟨_, rfl⟩, mbad.l hk0 hb⟩
    · cases hW2
  · have w13 : (wi 0 3 v) = true := qb_1.mp c13
    refine ⟨by decide, _, _, hM0.1, rfl, ?_⟩
    refine Or.inl ⟨rfl, _, 1, 0, 0, _, Or.inl qi_12_324, ⟨rfl, rfl⟩, rfl, rfl, (by rw [e19]; exact M_within hg _ _ _), fun y25 h25 hy25 => ?_⟩
    obtain ⟨rfl, hh⟩ := hy25
    rw [hh]
    clear hh
    refine ⟨fun c28 => ?_, fun c28 => ?_⟩
    · have w28 : (wi 0 (nI S.2.1.2.2.2.1 - 1) dr) = false := qb_0.mp c28
      refine step.1 _ _ _ _ _ _ _ sgX12_span_35_ok ?_
      refine step.1 _ _ _ _ _ _ _ sgX12_span_36_ok ?_
      refine Or.inl ⟨rfl, _, 2, 0, 0, _, _, _, qi_12_520, ⟨rfl, rfl⟩, ⟨hM0.1, rfl⟩, rfl, rfl, M_isSpan hg hM0 hR0 rfl _ false, fun y36 h36 hy36 => ?_⟩
      rcases hy36 with ⟨hneg, rfl, hb⟩ | ⟨hW, hW2, rfl, hh⟩
      · refine ⟨fun c39 => absurd c39 (by decide), fun _ => ?_⟩
        refine ⟨.int, rfl, rfl, Nat.le_refl _, Nat.le_refl _, ?_⟩
        exact Or.inr ⟨1, 1, ⟨rfl, rfl, (fun z => absurd z.2.2 (by rw [w28]; decide))⟩, ⟨_, rfl⟩, mbad.l hk0 hb⟩
      · cases hW2
    · have w28 : (wi 0 (nI S.2.1.2.2.2.1 - 1) dr) = true := qb_1.mp c28
      refine step.1 _ _ _ _ _ _ _ sgX12_span_36_ok ?_
      refine Or.inl ⟨rfl, _, 2, 0, 0, _, _, _, qi_12_520, ⟨rfl, rfl⟩, ⟨hM0.1, rfl⟩, rfl, rfl, M_isSpan hg hM0 hR0 rfl _ true, fun y36 h36 hy36 => ?_⟩
      rcases hy36 with ⟨hneg, rfl, hb⟩ | ⟨hW, hW2, rfl, hh⟩
      · refine ⟨fun c39 => absurd c39 (by decide), fun _ => ?_⟩
        refine ⟨.int, rfl, rfl, Nat.le_refl _, Nat.le_refl _, ?_⟩
        exact Or.inr ⟨1, 1, ⟨rfl, rfl, (fun z => hneg ⟨z.1, rfl⟩)⟩, ⟨_, rfl⟩, mbad.l hk0 hb⟩
      · rw [hh]
        clear hh
        have hv3 := w13
        have hd := w28
        obtain ⟨n, hn1, hn2, en⟩ := wi1_nat (m := 40) (by decide) hW
        obtain ⟨k, hk3, ek⟩ := wi_nat (m := 3) (by decide) hv3
        obtain ⟨a, ha, ea⟩ := wi_lt (by have := hI.1.1; omega) hd
        subst en ek ea
        have loop : ∀ (m i : Nat) (s : spS) (hZ : qH) (xX : Nat → Int32) (FX : Nat → Nat → Int32), i + m = n → QZ (h.1, qup h.2 63 (.inl (12, (M63l x y).set 0 (.int 0)))) hZ (upd x 0 0) F G xX y FX → (i = 0 → s.2.1 = 0 ∧ s.2.2.1 = 0) → (¬ i = 0 → ∃ b : Nat, b ≤ 9990 ∧ s.2.1 = nI b) → (sprun (nightS S pf vf rf) sd a m i s) = (sprun (nightS S pf vf rf) sd a n 0 (e0, 0, 0, 0, 0)) → run 59 [(9, .int (nI i)), (8, .int s.2.2.2.2), (7, .int s.2.2.2.1), (6, .int s.2.2.1), (5, .int (if i = 0 then -1 else s.2.1)), (0, .ref 63), (1, .int sd), (2, .int (nI n)), (3, .int (nI k)), (4, .int (nI a))] [] hZ 0 0 := by
          intro m
          induction m with
          | zero =>
            intro i s hZ xX FX hi hX hin hnn hres
            refine step.1 _ _ _ _ _ _ _ sgX12_span_59_ok ?_
            refine ⟨fun c62 => ?_, fun c62 => absurd (show nI n ≤ nI i from nI_le (by omega) (by omega)) c62⟩
            
            have hres : s = (sprun (nightS S pf vf rf) sd a n 0 (e0, 0, 0, 0, 0)) := by rw [← hres]; rfl
            refine step.1 _ _ _ _ _ _ _ sgX12_span_160_ok ?_
            refine ⟨fun c161 => ?_, fun c161 => ?_⟩
            · have d161 : ¬ k = 0 := fun q => c161 (by rw [q]; rfl)
              refine step.1 _ _ _ _ _ _ _ sgX12_span_169_ok ?_
              refine ⟨fun c171 => ?_, fun c171 => ?_⟩
              · have d171 : ¬ k = 1 := fun q => c171 (by rw [q]; rfl)
                refine step.1 _ _ _ _ _ _ _ sgX12_span_179_ok ?_
                refine ⟨fun c181 => ?_, fun c181 => ?_⟩
                · have d181 : ¬ k = 2 := fun q => c181 (by rw [q]; rfl)
                  refine step.1 _ _ _ _ _ _ _ sgX12_span_189_ok ?_
                  refine step.1 _ _ _ _ _ _ _ sgX12_span_191_ok ?_
                  refine ⟨.int, rfl, rfl, Nat.le_refl _, Nat.le_refl _, ?_⟩
                  exact Or.inl ⟨⟨hW, hv3, hd⟩, ⟨n, k, a, hn1, hn2, hk3, ha, rfl, rfl, rfl, congrArg (fun z => some (Value.int z)) (by rw [if_neg d161, if_neg d171, if_neg d181, hres])⟩, hX.mg hk0 hR0 rfl⟩
                · have d181 : k = 2 := (nI_eq (b := 2) (by omega) (by decide)).mp c181
                  refine step.1 _ _ _ _ _ _ _ sgX12_span_191_ok ?_
                  refine ⟨.int, rfl, rfl, Nat.le_refl _, Nat.le_refl _, ?_⟩
                  exact Or.inl ⟨⟨hW, hv3, hd⟩, ⟨n, k, a, hn1, hn2, hk3, ha, rfl, rfl, rfl, congrArg (fun z => some (Value.int z)) (by rw [if_neg d161, if_neg d171, if_pos d181, hres])⟩, hX.mg hk0 hR0 rfl⟩
              · have d171 : k = 1 := (nI_eq (b := 1) (by omega) (by decide)).mp c171
                refine step.1 _ _ _ _ _ _ _ sgX12_span_191_ok ?_
                refine ⟨.int, rfl, rfl, Nat.le_refl _, Nat.le_refl _, ?_⟩
                exact Or.inl ⟨⟨hW, hv3, hd⟩, ⟨n, k, a, hn1, hn2, hk3, ha, rfl, rfl, rfl, congrArg (fun z => some (Value.int z)) (by rw [if_neg d161, if_pos d171, hres])⟩, hX.mg hk0 hR0 rfl⟩
            · have d161 : k = 0 := (nI_eq (b := 0) (by omega) (by decide)).mp c161
              refine step.1 _ _ _ _ _ _ _ sgX12_span_191_ok ?_
              refine ⟨.int, rfl, rfl, Nat.le_refl _, Nat.le_refl _, ?_⟩
              exact Or.inl ⟨⟨hW, hv3, hd⟩, ⟨n, k, a, hn1, hn2, hk3, ha, rfl, rfl, rfl, congrArg (fun z => some (Value.int z)) (by rw [if_pos d161, if_neg (show ¬ i = 0 by omega), hres])⟩, hX.mg hk0 hR0 rfl⟩
          | succ m ih =>
            intro i s hZ xX FX hi hX hin hnn hres
            refine step.1 _ _ _ _ _ _ _ sgX12_span_59_ok ?_
            refine ⟨fun c62 => absurd c62 (h_nle (by omega) (by omega)), fun c62 => ?_⟩
            
            refine Or.inl ⟨rfl, _, 5, 0, 0, _, _, _, qi_12_517, ⟨rfl, rfl⟩, ⟨hX.1.1, rfl⟩, rfl, rfl, M_goesOut hg hX.1 (hX.R hR0) hP hI hpn hl hl2 s.1 (sd + nI i), fun y70 h70 hy70 => ?_⟩
            obtain ⟨rfl, x1, F1, hX1, n0, n1, n2, n3, n4, n5, n6, n7⟩ := hy70
            have hX2 := hX.tr hX1
            obtain ⟨b, hb, eb⟩ := night_4 hI (vf := vf) (rf := rf) hpn s.1 (sd + nI i)
            have hbx : ∃ b : Nat, b ≤ 9990 ∧ (nightS S pf vf rf) s.1 (sd + nI i) 4 = nI b := ⟨b, hb, eb⟩
            have z1 : F1 89 (Int32.toNatClampNeg (0 : Int32)) = (nightS S pf vf rf) s.1 (sd + nI i) 4 := n1
            have hnw : ∃ b : Nat, b ≤ 9990 ∧ (spst (nightS S pf vf rf) sd a i s).2.1 = nI b := by
              show ∃ b : Nat, _ ∧ (if i = 0 ∨ (nightS S pf vf rf) s.1 (sd + nI i) 4 < s.2.1 then (nightS S pf vf rf) s.1 (sd + nI i) 4 else s.2.1) = nI b
              by_cases q : i = 0
              · rw [if_pos (Or.inl q)]; exact hbx
              · obtain ⟨b2, hb2, eb2⟩ := hnn q
                by_cases q2 : (nightS S pf vf rf) s.1 (sd + nI i) 4 < s.2.1
                · rw [if_pos (Or.inr q2)]; exact hbx
                · rw [if_neg (fun z => z.elim q q2)]; exact ⟨b2, hb2, eb2⟩
            have at125 : ∀ z : Int32, z = (if i = 0 ∨ s.2.2.1 < (nightS S pf vf rf) s.1 (sd + nI i) 4 then (nightS S pf vf rf) s.1 (sd + nI i) 4 else s.2.2.1) → run 125 [(5, .int (if i = 0 ∨ (nightS S pf vf rf) s.1 (sd + nI i) 4 < s.2.1 then (nightS S pf vf rf) s.1 (sd + nI i) 4 else s.2.1)), (9, .int (nI i)), (8, .int s.2.2.2.2), (7, .int s.2.2.2.1), (0, .ref 63), (1, .int sd), (2, .int (nI n)), (3, .int (nI k)), (4, .int (nI a))] [.int z] h70 0 0 := by
              intro z hz
              refine step.1 _ _ _ _ _ _ _ sgX12_span_125_ok ?_
              refine ⟨by decide, _, _, hX2.1.1, rfl, ?_⟩
              refine ⟨_, _, hX2.1.c89, (vp_in_nI (n := 0) (N := 7) (by decide) (by decide) : vp_in (nI 0) 7), ?_⟩
              refine ⟨by decide, _, _, hX2.1.1, rfl, ?_⟩
              refine ⟨_, _, hX2.1.c89, (vp_in_nI (n := 3) (N := 7) (by decide) (by decide) : vp_in (nI 3) 7), ?_⟩
              have kk : run 59 [(9, .int (nI i + 1)), (8, .int (s.2.2.2.2 + ((nightS S pf vf rf) s.1 (sd + nI i) 7 >>> (nI a &&& 31) &&& 1))), (7, .int (s.2.2.2.1 + (nightS S pf vf rf) s.1 (sd + nI i) 4)), (6, .int (if i = 0 ∨ s.2.2.1 < (nightS S pf vf rf) s.1 (sd + nI i) 4 then (nightS S pf vf rf) s.1 (sd + nI i) 4 else s.2.2.1)), (5, .int (if i = 0 ∨ (nightS S pf vf rf) s.1 (sd + nI i) 4 < s.2.1 then (nightS S pf vf rf) s.1 (sd + nI i) 4 else s.2.1)), (0, .ref 63), (1, .int sd), (2, .int (nI n)), (3, .int (nI k)), (4, .int (nI a))] [] h70 0 0 := by
                have q := ih (i + 1) (spst (nightS S pf vf rf) sd a i s) h70 x1 F1 (by omega) hX2 (fun z => absurd z (Nat.succ_ne_zero i)) (fun _ => hnw) (by rw [← hres]; rfl)
                rw [← nI_1, if_neg (Nat.succ_ne_zero i)] at q
                exact q
              have e7 : s.2.2.2.1 + F1 89 0 = s.2.2.2.1 + (nightS S pf vf rf) s.1 (sd + nI i) 4 := by rw [n1]
              have e8 : s.2.2.2.2 + (F1 89 3 >>> (nI a &&& 31) &&& 1) = s.2.2.2.2 + ((nightS S pf vf rf) s.1 (sd + nI i) 7 >>> (nI a &&& 31) &&& 1) := by rw [n4]
              rw [← e8, ← e7, ← hz] at kk
              exact kk
            have at101 : ∀ z : Int32, z = (if i = 0 ∨ (nightS S pf vf rf) s.1 (sd + nI i) 4 < s.2.1 then (nightS S pf vf rf) s.1 (sd + nI i) 4 else s.2.1) → run 101 [(9, .int (nI i)), (8, .int s.2.2.2.2), (7, .int s.2.2.2.1), (6, .int s.2.2.1), (0, .ref 63), (1, .int sd), (2, .int (nI n)), (3, .int (nI k)), (4, .int (nI a))] [.int z] h70 0 0 := by
              intro z hz
              rw [hz]
              refine step.1 _ _ _ _ _ _ _ sgX12_span_101_ok ?_
              refine ⟨by decide, _, _, hX2.1.1, rfl, ?_⟩
              refine ⟨_, _, hX2.1.c89, (vp_in_nI (n := 0) (N := 7) (by decide) (by decide) : vp_in (nI 0) 7), ?_⟩
              refine ⟨fun c111 => ?_, fun c111 => ?_⟩
              · have d111 : ¬ s.2.2.1 < (nightS S pf vf rf) s.1 (sd + nI i) 4 := by rw [← n1]; exact Int32.not_lt.mpr c111
                refine step.1 _ _ _ _ _ _ _ sgX12_span_123_ok ?_
                refine step.2 _ _ _ _ _ _ _ (qsub_cons 0 rfl (qsub_cons 1 rfl (qsub_cons 2 rfl (qsub_cons 3 rfl (qsub_cons 5 rfl (qsub_cons 6 rfl (qsub_cons 7 rfl (qsub_cons 8 rfl (qsub_cons 9 rfl qsub_nil))))))))) ?_
                exact at125 _ (by
                  by_cases q : i = 0
                  · have q2 := (hin q).2
                    obtain ⟨b, hb, eb⟩ := hbx
                    rw [if_pos (Or.inl q), eb, q2]
                    rw [eb, q2] at d111
                    have : b = 0 := by
                      rcases Nat.eq_zero_or_pos b with z | z
                      · exact z
                      · exact absurd ((nI_ltI (a := 0) (by decide) (by omega)).mpr z) d111
                    rw [this]; rfl
                  · rw [if_neg (fun z => z.elim q d111)])
              · have d111 : s.2.2.1 < (nightS S pf vf rf) s.1 (sd + nI i) 4 := by rw [← n1]; exact Int32.not_le.mp c111
                refine ⟨by decide, _, _, hX2.1.1, rfl, ?_⟩
                refine ⟨_, _, hX2.1.c89, (vp_in_nI (n := 0) (N := 7) (by decide) (by decide) : vp_in (nI 0) 7), ?_⟩
                refine step.2 _ _ _ _ _ _ _ (qsub_cons 0 rfl (qsub_cons 1 rfl (qsub_cons 2 rfl (qsub_cons 3 rfl (qsub_cons 5 rfl (qsub_cons 6 rfl (qsub_cons 7 rfl (qsub_cons 8 rfl (qsub_cons 9 rfl qsub_nil))))))))) ?_
                exact at125 _ (z1.trans (by rw [if_pos (Or.inr d111)]))
            refine ⟨fun c76 => ?_, fun c76 => ?_⟩
            · have d76 : i = 0 := by
                by_cases q : i = 0
                · exact q
                · rw [if_neg q] at c76
                  obtain ⟨b, hb, eb⟩ := hnn q
                  rw [eb] at c76
                  exact absurd c76 (nim1 (by omega))
              refine step.1 _ _ _ _ _ _ _ sgX12_span_90_ok ?_
              refine ⟨by decide, _, _, hX2.1.1, rfl, ?_⟩
              refine ⟨_, _, hX2.1.c89, (vp_in_nI (n := 0) (N := 7) (by decide) (by decide) : vp_in (nI 0) 7), ?_⟩
              refine step.2 _ _ _ _ _ _ _ (qsub_cons 0 rfl (qsub_cons 1 rfl (qsub_cons 2 rfl (qsub_cons 3 rfl (qsub_cons 5 rfl (qsub_cons 6 rfl (qsub_cons 7 rfl (qsub_cons 8 rfl (qsub_cons 9 rfl qsub_nil))))))))) ?_
              exact at101 _ (z1.trans (by rw [if_pos (Or.inl d76)]))
            · have d76 : ¬ i = 0 := fun q => c76 (by rw [if_pos q])
              refine ⟨by decide, _, _, hX2.1.1, rfl, ?_⟩
              refine ⟨_, _, hX2.1.c89, (vp_in_nI (n := 0) (N := 7) (by decide) (by decide) : vp_in (nI 0) 7), ?_⟩
              refine ⟨fun c87 => ?_, fun c87 => ?_⟩
              · have d87 : ¬ (nightS S pf vf rf) s.1 (sd + nI i) 4 < s.2.1 := by
                  rw [if_neg d76, z1] at c87
                  exact Int32.not_lt.mpr c87
                refine step.1 _ _ _ _ _ _ _ sgX12_span_99_ok ?_
                refine step.2 _ _ _ _ _ _ _ (qsub_cons 0 rfl (qsub_cons 1 rfl (qsub_cons 2 rfl (qsub_cons 3 rfl (qsub_cons 5 rfl (qsub_cons 6 rfl (qsub_cons 7 rfl (qsub_cons 8 rfl (qsub_cons 9 rfl qsub_nil))))))))) ?_
                rw [if_neg d76]
                exact at101 _ (by rw [if_neg (fun z => z.elim d76 d87)])
              · have d87 : (nightS S pf vf rf) s.1 (sd + nI i) 4 < s.2.1 := by
                  rw [if_neg d76, z1] at c87
                  exact Int32.not_le.mp c87
                refine step.1 _ _ _ _ _ _ _ sgX12_span_90_ok ?_
                refine ⟨by decide, _, _, hX2.1.1, rfl, ?_⟩
                refine ⟨_, _, hX2.1.c89, (vp_in_nI (n := 0) (N := 7) (by decide) (by decide) : vp_in (nI 0) 7), ?_⟩
                refine step.2 _ _ _ _ _ _ _ (qsub_cons 0 rfl (qsub_cons 1 rfl (qsub_cons 2 rfl (qsub_cons 3 rfl (qsub_cons 5 rfl (qsub_cons 6 rfl (qsub_cons 7 rfl (qsub_cons 8 rfl (qsub_cons 9 rfl qsub_nil))))))))) ?_
                exact at101 _ (z1.trans (by rw [if_pos (Or.inr d87)]))
        refine ⟨fun _ => ?_, fun c39 => absurd c39 (by decide)⟩
        refine step.1 _ _ _ _ _ _ _ sgX12_span_44_ok ?_
        exact loop n 0 (e0, 0, 0, 0, 0) _ (upd x 0 0) F (by omega) (QZ.rf hM0) (fun _ => ⟨rfl, rfl⟩) (fun q => absurd rfl q) rfl
end Q12G
