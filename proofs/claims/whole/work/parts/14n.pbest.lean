section Q14N
theorem PD_best (S : CS) (p0 p1 : Int32) {j k : Nat} {c : Int32} (hq : (fun k => (k = 1 ∧ ¬ (wi 0 9 p0 && wi 0 1 p1) = true) ∨ (k = 2 ∧ (wi 0 9 p0 && wi 0 1 p1) = true ∧ ¬ S.2.1.2.2.2.1 ≤ 5)) j) (hb : (fun (k : Nat) (c : Int32) => (k = 1 ∧ c = 1 ∧ ¬ (wi 0 9 p0 = true ∧ wi 0 1 p1 = true)) ∨ (k = 2 ∧ c = 2 ∧ (wi 0 9 p0 = true ∧ wi 0 1 p1 = true) ∧ ¬ S.2.1.2.2.2.1 ≤ 5)) k c) : k = j ∧ c = (fun k => nI k) j := by
  simp only [Bool.and_eq_true] at hq
  rcases hq with ⟨rfl, hq⟩ | ⟨rfl, hq⟩ <;> rcases hb with ⟨rfl, rfl, hb⟩ | ⟨rfl, rfl, hb⟩ <;> first | exact ⟨rfl, rfl⟩ | (exfalso; grind)
theorem PE_best (S : CS) (p0 p1 : Int32) {j : Nat} (hq : (fun k => (k = 1 ∧ ¬ (wi 0 9 p0 && wi 0 1 p1) = true) ∨ (k = 2 ∧ (wi 0 9 p0 && wi 0 1 p1) = true ∧ ¬ S.2.1.2.2.2.1 ≤ 5)) j) (w0 : wi 0 9 p0 = true ∧ wi 0 1 p1 = true) (w1 : S.2.1.2.2.2.1 ≤ 5) : False := by
  simp only [Bool.and_eq_true] at hq
  rcases hq with ⟨rfl, hq⟩ | ⟨rfl, hq⟩ <;> grind
theorem PB_best (S : CS) (p0 p1 : Int32) {k : Nat} {c : Int32} (hb : (fun (k : Nat) (c : Int32) => (k = 1 ∧ c = 1 ∧ ¬ (wi 0 9 p0 = true ∧ wi 0 1 p1 = true)) ∨ (k = 2 ∧ c = 2 ∧ (wi 0 9 p0 = true ∧ wi 0 1 p1 = true) ∧ ¬ S.2.1.2.2.2.1 ≤ 5)) k c) (w0 : wi 0 9 p0 = true ∧ wi 0 1 p1 = true) (w1 : S.2.1.2.2.2.1 ≤ 5) : False := by
  rcases hb with ⟨rfl, rfl, hb⟩ | ⟨rfl, rfl, hb⟩ <;> grind
theorem P_best {g : qG} (hg : qOK g) (hT : qTHR g) (hCt : qCAT g) {h : qH} {S : CS} {x : Nat → Int32} {y : Nat → Int64} {F : Nat → Nat → Int32} {G : Nat → Nat → Int64} {u : Nat → Int64} (hL : LI h S x y F G u) (p0 p1 : Int32) : PR g h wL_best mX12_best [.int p0, .int p1] 13 8 0 0 := by
  obtain ⟨hC, hM, hR, hI, hu, h93⟩ := id hL
  have hn10 := hI.2.1.1.1
  have hm8 := hI.2.2.1.1
  have hk10 := hI.2.1.1.2.1
  refine ⟨fun h1 k => MidG h1 x y F G (fun (zv : Value) (S' : CS) => S = S' ∧ (wi 0 9 p0 && wi 0 1 p1) = true ∧ S.2.1.2.2.2.1 ≤ 5 ∧ ∃ (VL HO : Nat → Int64) (LN CO SZ FO CHo : Nat → Int32), some zv = some (.long (lterms (bend S.2.1.1 S.2.1.2.2.2.2.2.2.1 S.2.1.2.2.2.2.2.2.2.2 S.2.1.2.2.2.1 (kend S.2.1.1 S.2.2.2.2.1.1.1 S.2.2.2.2.1.1.2.1 S.2.2.2.2.1.1.2.2 (nI S.2.2.2.1.2) S.2.1.2.2.2.2.2.2.2.1 p0 S.2.1.2.2.2.1 (VL, LN, CO, SZ, HO)) FO CHo).1 268435456 p1))) lvi k ∨ MidB h1 S x y F G (fun k => (k = 1 ∧ ¬ (wi 0 9 p0 && wi 0 1 p1) = true) ∨ (k = 2 ∧ (wi 0 9 p0 && wi 0 1 p1) = true ∧ ¬ S.2.1.2.2.2.1 ≤ 5)) (fun k => nI k) k, fun h1 k hm => mid63 hm, ?_, ?_⟩
  · refine qSpecW_mono (W_best hg hT hCt hC.obj (u := u) (F_best hg hT hC hI.2.1.1.1 hI.2.2.2.1.1 p0 p1) ?_ ?_) ?_
    · intro v h1 hp
      obtain ⟨w, h5, VL, HO, LN, CO, SZ, FO, CHo, hz, hC1, hg1⟩ := hp
      exact ⟨⟨_, hz⟩, hg1.u92 hu⟩
    · intro E h1 hx
      obtain ⟨k, rfl, hq, -, -⟩ := hx
      refine ⟨k, ?_, rfl⟩
      rcases hq with hq | hq <;> (have := hq.1; omega)
    · intro r h1 hr
      rcases hr with ⟨z, h2, hp, rfl, rfl⟩ | ⟨k, hk, hx, rfl⟩
      · obtain ⟨w, h5, VL, HO, LN, CO, SZ, FO, CHo, hz, hC1, hg1⟩ := hp
        exact ⟨0, rfl, Or.inl (mid_g hL (Kg := (fun (zv : Value) (S' : CS) => S = S' ∧ (wi 0 9 p0 && wi 0 1 p1) = true ∧ S.2.1.2.2.2.1 ≤ 5 ∧ ∃ (VL HO : Nat → Int64) (LN CO SZ FO CHo : Nat → Int32), some zv = some (.long (lterms (bend S.2.1.1 S.2.1.2.2.2.2.2.2.1 S.2.1.2.2.2.2.2.2.2.2 S.2.1.2.2.2.1 (kend S.2.1.1 S.2.2.2.2.1.1.1 S.2.2.2.2.1.1.2.1 S.2.2.2.2.1.1.2.2 (nI S.2.2.2.1.2) S.2.1.2.2.2.2.2.2.2.1 p0 S.2.1.2.2.2.1 (VL, LN, CO, SZ, HO)) FO CHo).1 268435456 p1)))) (z := .long z) ⟨rfl, w, h5, VL, HO, LN, CO, SZ, FO, CHo, hz⟩ hC1 hg1 rfl)⟩
      · refine ⟨(fun k => nI k) k, ?_, Or.inr (mid_b hL (by omega) (fun j hj => ?_) hx)⟩
        · rfl
        · rcases hj with hj | hj <;> (have := hj.1; omega)
  · intro h1 k hmid
    rcases hmid with ⟨rfl, zv, S', u', ⟨rfl, w, h5, VL, HO, LN, CO, SZ, FO, CHo, hz⟩, hC1, hM1, hu1, hv, h93b⟩ | ⟨j, u', rfl, hq, hC1, hM1, hu1, h93b⟩
    · obtain rfl := Option.some.inj hz
      refine qSpec_mono (M_best hg hM1 hR hI.2.1 hI.2.2.2.1.1 p0 p1) fun r h2 hr => ?_
      rcases hr with ⟨-, -, ⟨V0, ch, hlex, rfl⟩, hG⟩ | ⟨k, c, hb, -, -⟩
      · refine ⟨_, rfl, rfl, LA.g hC1 hI hu1 h93b hG (hv.trans ?_)⟩
        obtain ⟨w0, hw9, rfl⟩ := wi_nat (m := 9) (by decide) ((Bool.and_eq_true _ _).mp w).1
        have hb := bend_e hI.2.1 h5 _ _ _ _ hw9 hlex (VL, LN, CO, SZ, HO) FO CHo
        show lterms _ _ _ = lterms _ _ _
        rw [hb.1]
      · exact (PB_best S p0 p1 hb ⟨((Bool.and_eq_true _ _).mp w).1, ((Bool.and_eq_true _ _).mp w).2⟩ h5).elim
    · refine qSpec_mono (M_best hg hM1 hR hI.2.1 hI.2.2.2.1.1 p0 p1) fun r h2 hr => ?_
      rcases hr with ⟨w0, w1, -⟩ | ⟨k, c, hb, ⟨z, rfl⟩, hG⟩
      · exact (PE_best S p0 p1 hq w0 w1).elim
      · obtain ⟨rfl, rfl⟩ := PD_best S p0 p1 hq hb
        refine ⟨_, rfl, rfl, LA.b hC1 hI hu1 h93b hG ?_⟩
        rcases hq with hq | hq <;> (rw [hq.1]; decide)
theorem PD_bestAt (S : CS) (p0 p1 : Int32) {j k : Nat} {c : Int32} (hq : (fun k => (k = 0 ∧ ¬ wi 0 (nI S.2.1.2.2.2.1 - 1) p1 = true) ∨ (k = 1 ∧ wi 0 (nI S.2.1.2.2.2.1 - 1) p1 = true ∧ ¬ wi 0 9 p0 = true) ∨ (k = 2 ∧ wi 0 (nI S.2.1.2.2.2.1 - 1) p1 = true ∧ wi 0 9 p0 = true ∧ ¬ S.2.1.2.2.2.1 ≤ 5)) j) (hb : (fun (k : Nat) (c : Int32) => (k = 0 ∧ c = 1 ∧ ¬ (wi 0 (nI S.2.1.2.2.2.1 - 1) p1 = true)) ∨ (k = 1 ∧ c = 2 ∧ (wi 0 (nI S.2.1.2.2.2.1 - 1) p1 = true) ∧ ¬ wi 0 9 p0 = true) ∨ (k = 2 ∧ c = 3 ∧ (wi 0 (nI S.2.1.2.2.2.1 - 1) p1 = true) ∧ wi 0 9 p0 = true ∧ ¬ S.2.1.2.2.2.1 ≤ 5)) k c) : k = j ∧ c = (fun k => nI (k + 1)) j := by
  simp only [Bool.and_eq_true] at hq
  rcases hq with ⟨rfl, hq⟩ | ⟨rfl, hq⟩ | ⟨rfl, hq⟩ <;> rcases hb with ⟨rfl, rfl, hb⟩ | ⟨rfl, rfl, hb⟩ | ⟨rfl, rfl, hb⟩ <;> first | exact ⟨rfl, rfl⟩ | (exfalso; grind)
theorem PE_bestAt (S : CS) (p0 p1 : Int32) {j : Nat} (hq : (fun k => (k = 0 ∧ ¬ wi 0 (nI S.2.1.2.2.2.1 - 1) p1 = true) ∨ (k = 1 ∧ wi 0 (nI S.2.1.2.2.2.1 - 1) p1 = true ∧ ¬ wi 0 9 p0 = true) ∨ (k = 2 ∧ wi 0 (nI S.2.1.2.2.2.1 - 1) p1 = true ∧ wi 0 9 p0 = true ∧ ¬ S.2.1.2.2.2.1 ≤ 5)) j) (w0 : wi 0 (nI S.2.1.2.2.2.1 - 1) p1 = true) (w1 : wi 0 9 p0 = true) (w2 : S.2.1.2.2.2.1 ≤ 5) : False := by
  simp only [Bool.and_eq_true] at hq
  rcases hq with ⟨rfl, hq⟩ | ⟨rfl, hq⟩ | ⟨rfl, hq⟩ <;> grind
theorem PB_bestAt (S : CS) (p0 p1 : Int32) {k : Nat} {c : Int32} (hb : (fun (k : Nat) (c : Int32) => (k = 0 ∧ c = 1 ∧ ¬ (wi 0 (nI S.2.1.2.2.2.1 - 1) p1 = true)) ∨ (k = 1 ∧ c = 2 ∧ (wi 0 (nI S.2.1.2.2.2.1 - 1) p1 = true) ∧ ¬ wi 0 9 p0 = true) ∨ (k = 2 ∧ c = 3 ∧ (wi 0 (nI S.2.1.2.2.2.1 - 1) p1 = true) ∧ wi 0 9 p0 = true ∧ ¬ S.2.1.2.2.2.1 ≤ 5)) k c) (w0 : wi 0 (nI S.2.1.2.2.2.1 - 1) p1 = true) (w1 : wi 0 9 p0 = true) (w2 : S.2.1.2.2.2.1 ≤ 5) : False := by
  rcases hb with ⟨rfl, rfl, hb⟩ | ⟨rfl, rfl, hb⟩ | ⟨rfl, rfl, hb⟩ <;> grind
theorem P_bestAt {g : qG} (hg : qOK g) (hT : qTHR g) (hCt : qCAT g) {h : qH} {S : CS} {x : Nat → Int32} {y : Nat → Int64} {F : Nat → Nat → Int32} {G : Nat → Nat → Int64} {u : Nat → Int64} (hL : LI h S x y F G u) (p0 p1 : Int32) : PR g h wL_bestAt mX12_bestAt [.int p0, .int p1] 13 8 0 0 := by
  obtain ⟨hC, hM, hR, hI, hu, h93⟩ := id hL
  have hn10 := hI.2.1.1.1
  have hm8 := hI.2.2.1.1
  have hk10 := hI.2.1.1.2.1
  refine ⟨fun h1 k => MidG h1 x y F G (fun (zv : Value) (S' : CS) => S = S' ∧ wi 0 9 p0 = true ∧ S.2.1.2.2.2.1 ≤ 5 ∧ ∃ x : Nat, x < S.2.1.2.2.2.1 ∧ p1 = nI x ∧ ∃ (VL HO : Nat → Int64) (LN CO SZ FO CHo : Nat → Int32), some zv = some (.int ((bend S.2.1.1 S.2.1.2.2.2.2.2.2.1 S.2.1.2.2.2.2.2.2.2.2 S.2.1.2.2.2.1 (kend S.2.1.1 S.2.2.2.2.1.1.1 S.2.2.2.2.1.1.2.1 S.2.2.2.2.1.1.2.2 (nI S.2.2.2.1.2) S.2.1.2.2.2.2.2.2.2.1 p0 S.2.1.2.2.2.1 (VL, LN, CO, SZ, HO)) FO CHo).2.2.1 x))) lvi k ∨ MidB h1 S x y F G (fun k => (k = 0 ∧ ¬ wi 0 (nI S.2.1.2.2.2.1 - 1) p1 = true) ∨ (k = 1 ∧ wi 0 (nI S.2.1.2.2.2.1 - 1) p1 = true ∧ ¬ wi 0 9 p0 = true) ∨ (k = 2 ∧ wi 0 (nI S.2.1.2.2.2.1 - 1) p1 = true ∧ wi 0 9 p0 = true ∧ ¬ S.2.1.2.2.2.1 ≤ 5)) (fun k => nI (k + 1)) k, fun h1 k hm => mid63 hm, ?_, ?_⟩
  · refine qSpecW_mono (W_bestAt hg hT hCt hC.obj (u := u) (F_bestAt hg hT hC hI.2.1.1.1 hI.2.2.2.1.1 p0 p1) ?_ ?_) ?_
    · intro v h1 hp
      obtain ⟨w, h5, xx, hx, e1, VL, HO, LN, CO, SZ, FO, CHo, hz, hC1, hg1⟩ := hp
      exact ⟨⟨_, hz⟩, hg1.u92 hu⟩
    · intro E h1 hx
      obtain ⟨k, rfl, hq, -, -⟩ := hx
      refine ⟨k, ?_, rfl⟩
      rcases hq with hq | hq | hq <;> (have := hq.1; omega)
    · intro r h1 hr
      rcases hr with ⟨z, h2, hp, rfl, rfl⟩ | ⟨k, hk, hx, rfl⟩
      · obtain ⟨w, h5, xx, hx, e1, VL, HO, LN, CO, SZ, FO, CHo, hz, hC1, hg1⟩ := hp
        exact ⟨0, rfl, Or.inl (mid_g hL (Kg := (fun (zv : Value) (S' : CS) => S = S' ∧ wi 0 9 p0 = true ∧ S.2.1.2.2.2.1 ≤ 5 ∧ ∃ x : Nat, x < S.2.1.2.2.2.1 ∧ p1 = nI x ∧ ∃ (VL HO : Nat → Int64) (LN CO SZ FO CHo : Nat → Int32), some zv = some (.int ((bend S.2.1.1 S.2.1.2.2.2.2.2.2.1 S.2.1.2.2.2.2.2.2.2.2 S.2.1.2.2.2.1 (kend S.2.1.1 S.2.2.2.2.1.1.1 S.2.2.2.2.1.1.2.1 S.2.2.2.2.1.1.2.2 (nI S.2.2.2.1.2) S.2.1.2.2.2.2.2.2.2.1 p0 S.2.1.2.2.2.1 (VL, LN, CO, SZ, HO)) FO CHo).2.2.1 x)))) (z := .int z) ⟨rfl, w, h5, xx, hx, e1, VL, HO, LN, CO, SZ, FO, CHo, hz⟩ hC1 hg1 rfl)⟩
      · refine ⟨(fun k => nI (k + 1)) k, ?_, Or.inr (mid_b hL (by omega) (fun j hj => ?_) hx)⟩
        · rfl
        · rcases hj with hj | hj | hj <;> (have := hj.1; omega)
  · intro h1 k hmid
    rcases hmid with ⟨rfl, zv, S', u', ⟨rfl, w, h5, xx, hx, e1, VL, HO, LN, CO, SZ, FO, CHo, hz⟩, hC1, hM1, hu1, hv, h93b⟩ | ⟨j, u', rfl, hq, hC1, hM1, hu1, h93b⟩
    · obtain rfl := Option.some.inj hz
      refine qSpec_mono (M_bestAt hg hM1 hR hI.2.1 hI.2.2.2.1.1 p0 p1) fun r h2 hr => ?_
      rcases hr with ⟨-, -, -, ⟨a, ha, f1, V0, ch, hlex, rfl⟩, hG⟩ | ⟨k, c, hb, -, -⟩
      · refine ⟨_, rfl, rfl, LA.g hC1 hI hu1 h93b hG (hv.trans ?_)⟩
        obtain rfl : a = xx := (nI_eq (by omega) (by omega)).mp (f1.symm.trans e1)
        obtain ⟨w0, hw9, rfl⟩ := wi_nat (m := 9) (by decide) w
        have hb := bend_e hI.2.1 h5 _ _ _ _ hw9 hlex (VL, LN, CO, SZ, HO) FO CHo
        exact congrArg Int32.toInt64 (hb.2.2 _ ha)
      · exact (PB_bestAt S p0 p1 hb (by rw [e1]; exact wi_dn hn10 hx) w h5).elim
    · refine qSpec_mono (M_bestAt hg hM1 hR hI.2.1 hI.2.2.2.1.1 p0 p1) fun r h2 hr => ?_
      rcases hr with ⟨w0, w1, w2, -⟩ | ⟨k, c, hb, ⟨z, rfl⟩, hG⟩
      · exact (PE_bestAt S p0 p1 hq w0 w1 w2).elim
      · obtain ⟨rfl, rfl⟩ := PD_bestAt S p0 p1 hq hb
        refine ⟨_, rfl, rfl, LA.b hC1 hI hu1 h93b hG ?_⟩
        rcases hq with hq | hq | hq <;> (rw [hq.1]; decide)
theorem PD_bestLong (S : CS) (p0 : Int32) {j k : Nat} {c : Int32} (hq : (fun k => (k = 1 ∧ ¬ wi 0 9 p0 = true) ∨ (k = 2 ∧ wi 0 9 p0 = true ∧ ¬ S.2.1.2.2.2.1 ≤ 5)) j) (hb : (fun (k : Nat) (c : Int32) => (k = 1 ∧ c = 1 ∧ ¬ wi 0 9 p0 = true) ∨ (k = 2 ∧ c = 2 ∧ wi 0 9 p0 = true ∧ ¬ S.2.1.2.2.2.1 ≤ 5)) k c) : k = j ∧ c = (fun k => nI k) j := by
  simp only [Bool.and_eq_true] at hq
  rcases hq with ⟨rfl, hq⟩ | ⟨rfl, hq⟩ <;> rcases hb with ⟨rfl, rfl, hb⟩ | ⟨rfl, rfl, hb⟩ <;> first | exact ⟨rfl, rfl⟩ | (exfalso; grind)
theorem PE_bestLong (S : CS) (p0 : Int32) {j : Nat} (hq : (fun k => (k = 1 ∧ ¬ wi 0 9 p0 = true) ∨ (k = 2 ∧ wi 0 9 p0 = true ∧ ¬ S.2.1.2.2.2.1 ≤ 5)) j) (w0 : wi 0 9 p0 = true) (w1 : S.2.1.2.2.2.1 ≤ 5) : False := by
  simp only [Bool.and_eq_true] at hq
  rcases hq with ⟨rfl, hq⟩ | ⟨rfl, hq⟩ <;> grind
theorem PB_bestLong (S : CS) (p0 : Int32) {k : Nat} {c : Int32} (hb : (fun (k : Nat) (c : Int32) => (k = 1 ∧ c = 1 ∧ ¬ wi 0 9 p0 = true) ∨ (k = 2 ∧ c = 2 ∧ wi 0 9 p0 = true ∧ ¬ S.2.1.2.2.2.1 ≤ 5)) k c) (w0 : wi 0 9 p0 = true) (w1 : S.2.1.2.2.2.1 ≤ 5) : False := by
  rcases hb with ⟨rfl, rfl, hb⟩ | ⟨rfl, rfl, hb⟩ <;> grind
theorem P_bestLong {g : qG} (hg : qOK g) (hT : qTHR g) (hCt : qCAT g) {h : qH} {S : CS} {x : Nat → Int32} {y : Nat → Int64} {F : Nat → Nat → Int32} {G : Nat → Nat → Int64} {u : Nat → Int64} (hL : LI h S x y F G u) (p0 : Int32) : PR g h wL_bestLong mX12_bestLong [.int p0] 13 8 0 0 := by
  obtain ⟨hC, hM, hR, hI, hu, h93⟩ := id hL
  have hn10 := hI.2.1.1.1
  have hm8 := hI.2.2.1.1
  have hk10 := hI.2.1.1.2.1
  refine ⟨fun h1 k => MidG h1 x y F G (fun (zv : Value) (S' : CS) => S = S' ∧ wi 0 9 p0 = true ∧ S.2.1.2.2.2.1 ≤ 5 ∧ ∃ (VL HO : Nat → Int64) (LN CO SZ FO CHo : Nat → Int32), some zv = some (.int (bend S.2.1.1 S.2.1.2.2.2.2.2.2.1 S.2.1.2.2.2.2.2.2.2.2 S.2.1.2.2.2.1 (kend S.2.1.1 S.2.2.2.2.1.1.1 S.2.2.2.2.1.1.2.1 S.2.2.2.2.1.1.2.2 (nI S.2.2.2.1.2) S.2.1.2.2.2.2.2.2.2.1 p0 S.2.1.2.2.2.1 (VL, LN, CO, SZ, HO)) FO CHo).2.1)) lvi k ∨ MidB h1 S x y F G (fun k => (k = 1 ∧ ¬ wi 0 9 p0 = true) ∨ (k = 2 ∧ wi 0 9 p0 = true ∧ ¬ S.2.1.2.2.2.1 ≤ 5)) (fun k => nI k) k, fun h1 k hm => mid63 hm, ?_, ?_⟩
  · refine qSpecW_mono (W_bestLong hg hT hCt hC.obj (u := u) (F_bestLong hg hT hC hI.2.1.1.1 hI.2.2.2.1.1 p0) ?_ ?_) ?_
    · intro v h1 hp
      obtain ⟨w, h5, VL, HO, LN, CO, SZ, FO, CHo, hz, hC1, hg1⟩ := hp
      exact ⟨⟨_, hz⟩, hg1.u92 hu⟩
    · intro E h1 hx
      obtain ⟨k, rfl, hq, -, -⟩ := hx
      refine ⟨k, ?_, rfl⟩
      rcases hq with hq | hq <;> (have := hq.1; omega)
    · intro r h1 hr
      rcases hr with ⟨z, h2, hp, rfl, rfl⟩ | ⟨k, hk, hx, rfl⟩
      · obtain ⟨w, h5, VL, HO, LN, CO, SZ, FO, CHo, hz, hC1, hg1⟩ := hp
        exact ⟨0, rfl, Or.inl (mid_g hL (Kg := (fun (zv : Value) (S' : CS) => S = S' ∧ wi 0 9 p0 = true ∧ S.2.1.2.2.2.1 ≤ 5 ∧ ∃ (VL HO : Nat → Int64) (LN CO SZ FO CHo : Nat → Int32), some zv = some (.int (bend S.2.1.1 S.2.1.2.2.2.2.2.2.1 S.2.1.2.2.2.2.2.2.2.2 S.2.1.2.2.2.1 (kend S.2.1.1 S.2.2.2.2.1.1.1 S.2.2.2.2.1.1.2.1 S.2.2.2.2.1.1.2.2 (nI S.2.2.2.1.2) S.2.1.2.2.2.2.2.2.2.1 p0 S.2.1.2.2.2.1 (VL, LN, CO, SZ, HO)) FO CHo).2.1))) (z := .int z) ⟨rfl, w, h5, VL, HO, LN, CO, SZ, FO, CHo, hz⟩ hC1 hg1 rfl)⟩
      · refine ⟨(fun k => nI k) k, ?_, Or.inr (mid_b hL (by omega) (fun j hj => ?_) hx)⟩
        · rfl
        · rcases hj with hj | hj <;> (have := hj.1; omega)
  · intro h1 k hmid
    rcases hmid with ⟨rfl, zv, S', u', ⟨rfl, w, h5, VL, HO, LN, CO, SZ, FO, CHo, hz⟩, hC1, hM1, hu1, hv, h93b⟩ | ⟨j, u', rfl, hq, hC1, hM1, hu1, h93b⟩
    · obtain rfl := Option.some.inj hz
      refine qSpec_mono (M_bestLong hg hM1 hR hI.2.1 hI.2.2.2.1.1 p0) fun r h2 hr => ?_
      rcases hr with ⟨-, -, ⟨V0, ch, hlex, rfl⟩, hG⟩ | ⟨k, c, hb, -, -⟩
      · refine ⟨_, rfl, rfl, LA.g hC1 hI hu1 h93b hG (hv.trans ?_)⟩
        obtain ⟨w0, hw9, rfl⟩ := wi_nat (m := 9) (by decide) w
        have hb := bend_e hI.2.1 h5 _ _ _ _ hw9 hlex (VL, LN, CO, SZ, HO) FO CHo
        exact congrArg Int32.toInt64 hb.2.1
      · exact (PB_bestLong S p0 hb w h5).elim
    · refine qSpec_mono (M_bestLong hg hM1 hR hI.2.1 hI.2.2.2.1.1 p0) fun r h2 hr => ?_
      rcases hr with ⟨w0, w1, -⟩ | ⟨k, c, hb, ⟨z, rfl⟩, hG⟩
      · exact (PE_bestLong S p0 hq w0 w1).elim
      · obtain ⟨rfl, rfl⟩ := PD_bestLong S p0 hq hb
        refine ⟨_, rfl, rfl, LA.b hC1 hI hu1 h93b hG ?_⟩
        rcases hq with hq | hq <;> (rw [hq.1]; decide)
end Q14N
