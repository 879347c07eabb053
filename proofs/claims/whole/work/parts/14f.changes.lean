section Q14F
theorem INV.rd {S : CS} (hI : INV S) {R : RT} (hR : ROK R) (e1 : R.2.2.2.1 = S.2.1.2.2.2.1) (e2 : R.2.2.2.2.2.2.1 = S.2.1.2.2.2.2.2.2.1) (e3 : R.2.2.2.2.2.2.2.1 = S.2.1.2.2.2.2.2.2.2.1) : INV (S.1, R, S.2.2) := ⟨hI.1, hR, hI.2.2.1, hI.2.2.2.1, hI.2.2.2.2.1, hI.2.2.2.2.2.1, fun q hq => by
  obtain ⟨g1, g2, g3, g4⟩ := hI.2.2.2.2.2.2 q hq
  exact ⟨g1, g2.trans e1.symm, g3.trans e2.symm, g4.trans e3.symm⟩⟩
theorem wi_1n {a : Nat} (h1 : 1 ≤ a) (h9 : a ≤ 9) : wi 1 9 (nI a) = true := by
  show (decide (nI 1 ≤ nI a) && decide (nI a ≤ nI 9)) = true
  rw [decide_eq_true (show nI 1 ≤ nI a from nI_le h1 (by omega)), decide_eq_true (show nI a ≤ nI 9 from nI_le h9 (by omega))]
  rfl
theorem PD_change (S : CS) (p0 p1 p2 : Int32) {j k : Nat} {c : Int32} (hq : (fun k => (k = 0 ∧ ¬ wi 0 (nI S.2.1.2.2.2.1 - 1) p0 = true) ∨ (k = 1 ∧ wi 0 (nI S.2.1.2.2.2.1 - 1) p0 = true ∧ ¬ wi 1 9 p1 = true) ∨ (k = 1 ∧ wi 0 (nI S.2.1.2.2.2.1 - 1) p0 = true ∧ wi 1 9 p1 = true ∧ ¬ wi 0 (nI (fmost p1.toNatClampNeg)) p2 = true)) j) (hb : (fun (k : Nat) (c : Int32) => (k = 0 ∧ c = 1 ∧ ¬ (wi 0 (nI S.2.1.2.2.2.1 - 1) p0 = true)) ∨ (k = 1 ∧ c = 2 ∧ (wi 0 (nI S.2.1.2.2.2.1 - 1) p0 = true) ∧ ¬ (wi 1 9 p1 = true ∧ wi 0 (nI (fmost p1.toNatClampNeg)) p2 = true))) k c) : k = j ∧ c = (fun k => nI (k + 1)) j := by
  simp only [Bool.and_eq_true] at hq
  rcases hq with ⟨rfl, hq⟩ | ⟨rfl, hq⟩ | ⟨rfl, hq⟩ <;> rcases hb with ⟨rfl, rfl, hb⟩ | ⟨rfl, rfl, hb⟩ <;> first | exact ⟨rfl, rfl⟩ | (exfalso; grind)
theorem PE_change (S : CS) (p0 p1 p2 : Int32) {j : Nat} (hq : (fun k => (k = 0 ∧ ¬ wi 0 (nI S.2.1.2.2.2.1 - 1) p0 = true) ∨ (k = 1 ∧ wi 0 (nI S.2.1.2.2.2.1 - 1) p0 = true ∧ ¬ wi 1 9 p1 = true) ∨ (k = 1 ∧ wi 0 (nI S.2.1.2.2.2.1 - 1) p0 = true ∧ wi 1 9 p1 = true ∧ ¬ wi 0 (nI (fmost p1.toNatClampNeg)) p2 = true)) j) (w0 : (wi 0 (nI S.2.1.2.2.2.1 - 1) p0 = true)) (w1 : (wi 1 9 p1 = true ∧ wi 0 (nI (fmost p1.toNatClampNeg)) p2 = true)) : False := by
  simp only [Bool.and_eq_true] at hq
  rcases hq with ⟨rfl, hq⟩ | ⟨rfl, hq⟩ | ⟨rfl, hq⟩ <;> grind
theorem PB_change (S : CS) (p0 p1 p2 : Int32) {k : Nat} {c : Int32} (hb : (fun (k : Nat) (c : Int32) => (k = 0 ∧ c = 1 ∧ ¬ (wi 0 (nI S.2.1.2.2.2.1 - 1) p0 = true)) ∨ (k = 1 ∧ c = 2 ∧ (wi 0 (nI S.2.1.2.2.2.1 - 1) p0 = true) ∧ ¬ (wi 1 9 p1 = true ∧ wi 0 (nI (fmost p1.toNatClampNeg)) p2 = true))) k c) (w0 : (wi 0 (nI S.2.1.2.2.2.1 - 1) p0 = true)) (w1 : (wi 1 9 p1 = true ∧ wi 0 (nI (fmost p1.toNatClampNeg)) p2 = true)) : False := by
  rcases hb with ⟨rfl, rfl, hb⟩ | ⟨rfl, rfl, hb⟩ <;> grind
set_option maxHeartbeats 1000000 in
theorem P_change {g : qG} (hg : qOK g) (hT : qTHR g) (hCt : qCAT g) (hFM : qFM g) {h : qH} {S : CS} {x : Nat → Int32} {y : Nat → Int64} {F : Nat → Nat → Int32} {G : Nat → Nat → Int64} {u : Nat → Int64} (hL : LI h S x y F G u) (p0 p1 p2 : Int32) : PR g h wL_change mX12_change [.int p0, .int p1, .int p2] 9 3 0 0 := by
  obtain ⟨hC, hM, hR, hI, hu, h93⟩ := id hL
  have hn10 := hI.2.1.1.1
  have hk10 := hI.2.1.1.2.1
  have hu20 := hI.2.1.1.2.2
  refine ⟨fun h1 k => MidG h1 x y F G (fun (zv : Value) (S' : CS) => INV S' ∧ ∃ x y : Nat, x < S.2.1.2.2.2.1 ∧ 1 ≤ y ∧ y ≤ 9 ∧ p0 = nI x ∧ p1 = nI y ∧ wi 0 (nI (fmost y)) p2 = true ∧ (if S.2.1.2.2.2.2.2.1 = 20 then some zv = some (.int (-1)) ∧ (S = S') else some zv = some (.int (S.2.1.1 (x * 10 + y))) ∧ ((S.1, (upd S.2.1.1 (x * 10 + y) p2, S.2.1.2.1, unote S.2.1.2.2.1 S.2.1.2.2.2.2.2.1 0 (nI x) (nI y) (S.2.1.1 (x * 10 + y)) 0, S.2.1.2.2.2.1, S.2.1.2.2.2.2.1, S.2.1.2.2.2.2.2.1 + 1, S.2.1.2.2.2.2.2.2.1, S.2.1.2.2.2.2.2.2.2.1, S.2.1.2.2.2.2.2.2.2.2), S.2.2) = S'))) lvi k ∨ MidB h1 S x y F G (fun k => (k = 0 ∧ ¬ wi 0 (nI S.2.1.2.2.2.1 - 1) p0 = true) ∨ (k = 1 ∧ wi 0 (nI S.2.1.2.2.2.1 - 1) p0 = true ∧ ¬ wi 1 9 p1 = true) ∨ (k = 1 ∧ wi 0 (nI S.2.1.2.2.2.1 - 1) p0 = true ∧ wi 1 9 p1 = true ∧ ¬ wi 0 (nI (fmost p1.toNatClampNeg)) p2 = true)) (fun k => nI (k + 1)) k, fun h1 k hm => mid63 hm, ?_, ?_⟩
  · refine qSpecW_mono (W_change hg hT hCt hC.obj (u := u) (F_change hg hT hC hI.2.1.1.1 hI.2.1.1.2.2 hFM p0 p1 p2) ?_ ?_) ?_
    · intro v h1 hp
      obtain ⟨xx, yy, hx, hy1, hy, e1, e2, hv0, hif, hg1⟩ := hp
      by_cases q0 : S.2.1.2.2.2.2.2.1 = 20
      · rw [if_pos q0] at hif
        exact ⟨⟨_, hif.1⟩, hg1.u92 hu⟩
      · rw [if_neg q0] at hif
        exact ⟨⟨_, hif.1⟩, hg1.u92 hu⟩
    · intro E h1 hx
      obtain ⟨k, rfl, hq, -, -⟩ := hx
      refine ⟨k, ?_, rfl⟩
      rcases hq with hq | hq | hq <;> (have := hq.1; omega)
    · intro r h1 hr
      rcases hr with ⟨z, h2, hp, rfl, rfl⟩ | ⟨k, hk, hx, rfl⟩
      · obtain ⟨xx, yy, hx, hy1, hy, e1, e2, hv0, hif, hg1⟩ := hp
        by_cases q0 : S.2.1.2.2.2.2.2.1 = 20
        · rw [if_pos q0] at hif
          obtain ⟨hz, hC1⟩ := hif
          exact ⟨0, rfl, Or.inl (mid_g hL (Kg := (fun (zv : Value) (S' : CS) => INV S' ∧ ∃ x y : Nat, x < S.2.1.2.2.2.1 ∧ 1 ≤ y ∧ y ≤ 9 ∧ p0 = nI x ∧ p1 = nI y ∧ wi 0 (nI (fmost y)) p2 = true ∧ (if S.2.1.2.2.2.2.2.1 = 20 then some zv = some (.int (-1)) ∧ (S = S') else some zv = some (.int (S.2.1.1 (x * 10 + y))) ∧ ((S.1, (upd S.2.1.1 (x * 10 + y) p2, S.2.1.2.1, unote S.2.1.2.2.1 S.2.1.2.2.2.2.2.1 0 (nI x) (nI y) (S.2.1.1 (x * 10 + y)) 0, S.2.1.2.2.2.1, S.2.1.2.2.2.2.1, S.2.1.2.2.2.2.2.1 + 1, S.2.1.2.2.2.2.2.2.1, S.2.1.2.2.2.2.2.2.2.1, S.2.1.2.2.2.2.2.2.2.2), S.2.2) = S')))) (z := .int z) ⟨hI, xx, yy, hx, hy1, hy, e1, e2, hv0, (by rw [if_pos q0]; exact ⟨hz, rfl⟩)⟩ hC1 hg1 rfl)⟩
        · rw [if_neg q0] at hif
          obtain ⟨hz, hC1⟩ := hif
          exact ⟨0, rfl, Or.inl (mid_g hL (Kg := (fun (zv : Value) (S' : CS) => INV S' ∧ ∃ x y : Nat, x < S.2.1.2.2.2.1 ∧ 1 ≤ y ∧ y ≤ 9 ∧ p0 = nI x ∧ p1 = nI y ∧ wi 0 (nI (fmost y)) p2 = true ∧ (if S.2.1.2.2.2.2.2.1 = 20 then some zv = some (.int (-1)) ∧ (S = S') else some zv = some (.int (S.2.1.1 (x * 10 + y))) ∧ ((S.1, (upd S.2.1.1 (x * 10 + y) p2, S.2.1.2.1, unote S.2.1.2.2.1 S.2.1.2.2.2.2.2.1 0 (nI x) (nI y) (S.2.1.1 (x * 10 + y)) 0, S.2.1.2.2.2.1, S.2.1.2.2.2.2.1, S.2.1.2.2.2.2.2.1 + 1, S.2.1.2.2.2.2.2.2.1, S.2.1.2.2.2.2.2.2.2.1, S.2.1.2.2.2.2.2.2.2.2), S.2.2) = S')))) (z := .int z) ⟨hI.rd (ROK_change hI.2.1 (by omega) hy hv0 _) rfl rfl rfl, xx, yy, hx, hy1, hy, e1, e2, hv0, (by rw [if_neg q0]; exact ⟨hz, rfl⟩)⟩ hC1 hg1 rfl)⟩
      · refine ⟨(fun k => nI (k + 1)) k, ?_, Or.inr (mid_b hL (by omega) (fun j hj => ?_) hx)⟩
        · rfl
        · rcases hj with hj | hj | hj <;> (have := hj.1; omega)
  · intro h1 k hmid
    rcases hmid with ⟨rfl, zv, S', u', ⟨hIV, xx, yy, hx, hy1, hy, e1, e2, hv0, hif⟩, hC1, hM1, hu1, hv, h93b⟩ | ⟨j, u', rfl, hq, hC1, hM1, hu1, h93b⟩
    · refine qSpec_mono (M_change hg hM1 hR hI.2.1 p0 p1 p2) fun r h2 hr => ?_
      rcases hr with ⟨-, -, ⟨a, b, ha, hb1, hb, f1, f2, hv2, hif2⟩⟩ | ⟨k, c, hb, -, -⟩
      · obtain rfl : xx = a := (nI_eq (by omega) (by omega)).mp (e1.symm.trans f1)
        obtain rfl : yy = b := (nI_eq (by omega) (by omega)).mp (e2.symm.trans f2)
        by_cases q0 : S.2.1.2.2.2.2.2.1 = 20
        · rw [if_pos q0] at hif
          obtain ⟨hz, rfl⟩ := hif
          obtain rfl := Option.some.inj hz
          rw [if_pos q0] at hif2
          obtain ⟨rfl, hG⟩ := hif2
          exact ⟨_, rfl, rfl, LA.g hC1 hIV hu1 h93b hG hv⟩
        · rw [if_neg q0] at hif
          obtain ⟨hz, rfl⟩ := hif
          obtain rfl := Option.some.inj hz
          rw [if_neg q0] at hif2
          obtain ⟨rfl, hG⟩ := hif2
          exact ⟨_, rfl, rfl, LA.g hC1 hIV hu1 h93b hG hv⟩
      · exact (PB_change S p0 p1 p2 hb (by rw [e1]; exact wi_dn hn10 hx) ⟨(by rw [e2]; exact wi_1n hy1 hy), (by rw [e2, h_tn (by omega)]; exact hv0)⟩).elim
    · refine qSpec_mono (M_change hg hM1 hR hI.2.1 p0 p1 p2) fun r h2 hr => ?_
      rcases hr with ⟨w0, w1, -⟩ | ⟨k, c, hb, ⟨z, rfl⟩, hG⟩
      · exact (PE_change S p0 p1 p2 hq w0 w1).elim
      · obtain ⟨rfl, rfl⟩ := PD_change S p0 p1 p2 hq hb
        refine ⟨_, rfl, rfl, LA.b hC1 hI hu1 h93b hG ?_⟩
        rcases hq with hq | hq | hq <;> (rw [hq.1]; decide)
theorem PD_sing (S : CS) (p0 p1 p2 : Int32) {j k : Nat} {c : Int32} (hq : (fun k => (k = 0 ∧ ¬ wi 0 (nI S.2.1.2.2.2.2.1 - 1) p0 = true) ∨ (k = 1 ∧ wi 0 (nI S.2.1.2.2.2.2.1 - 1) p0 = true ∧ ¬ (wi 0 5 p1 && wi 0 2 p2) = true)) j) (hb : (fun (k : Nat) (c : Int32) => (k = 0 ∧ c = 1 ∧ ¬ (wi 0 (nI S.2.1.2.2.2.2.1 - 1) p0 = true)) ∨ (k = 1 ∧ c = 2 ∧ (wi 0 (nI S.2.1.2.2.2.2.1 - 1) p0 = true) ∧ ¬ (wi 0 5 p1 = true ∧ wi 0 2 p2 = true))) k c) : k = j ∧ c = (fun k => nI (k + 1)) j := by
  simp only [Bool.and_eq_true] at hq
  rcases hq with ⟨rfl, hq⟩ | ⟨rfl, hq⟩ <;> rcases hb with ⟨rfl, rfl, hb⟩ | ⟨rfl, rfl, hb⟩ <;> first | exact ⟨rfl, rfl⟩ | (exfalso; grind)
theorem PE_sing (S : CS) (p0 p1 p2 : Int32) {j : Nat} (hq : (fun k => (k = 0 ∧ ¬ wi 0 (nI S.2.1.2.2.2.2.1 - 1) p0 = true) ∨ (k = 1 ∧ wi 0 (nI S.2.1.2.2.2.2.1 - 1) p0 = true ∧ ¬ (wi 0 5 p1 && wi 0 2 p2) = true)) j) (w0 : (wi 0 (nI S.2.1.2.2.2.2.1 - 1) p0 = true)) (w1 : (wi 0 5 p1 = true ∧ wi 0 2 p2 = true)) : False := by
  simp only [Bool.and_eq_true] at hq
  rcases hq with ⟨rfl, hq⟩ | ⟨rfl, hq⟩ <;> grind
theorem PB_sing (S : CS) (p0 p1 p2 : Int32) {k : Nat} {c : Int32} (hb : (fun (k : Nat) (c : Int32) => (k = 0 ∧ c = 1 ∧ ¬ (wi 0 (nI S.2.1.2.2.2.2.1 - 1) p0 = true)) ∨ (k = 1 ∧ c = 2 ∧ (wi 0 (nI S.2.1.2.2.2.2.1 - 1) p0 = true) ∧ ¬ (wi 0 5 p1 = true ∧ wi 0 2 p2 = true))) k c) (w0 : (wi 0 (nI S.2.1.2.2.2.2.1 - 1) p0 = true)) (w1 : (wi 0 5 p1 = true ∧ wi 0 2 p2 = true)) : False := by
  rcases hb with ⟨rfl, rfl, hb⟩ | ⟨rfl, rfl, hb⟩ <;> grind
set_option maxHeartbeats 1000000 in
theorem P_sing {g : qG} (hg : qOK g) (hT : qTHR g) (hCt : qCAT g) (hFM : qFM g) {h : qH} {S : CS} {x : Nat → Int32} {y : Nat → Int64} {F : Nat → Nat → Int32} {G : Nat → Nat → Int64} {u : Nat → Int64} (hL : LI h S x y F G u) (p0 p1 p2 : Int32) : PR g h wL_sing mX12_sing [.int p0, .int p1, .int p2] 9 3 0 0 := by
  obtain ⟨hC, hM, hR, hI, hu, h93⟩ := id hL
  have hn10 := hI.2.1.1.1
  have hk10 := hI.2.1.1.2.1
  have hu20 := hI.2.1.1.2.2
  refine ⟨fun h1 k => MidG h1 x y F G (fun (zv : Value) (S' : CS) => INV S' ∧ (wi 0 5 p1 && wi 0 2 p2) = true ∧ ∃ x : Nat, x < S.2.1.2.2.2.2.1 ∧ p0 = nI x ∧ (if S.2.1.2.2.2.2.2.1 = 20 then some zv = some (.int (-1)) ∧ (S = S') else some zv = some (.int 1) ∧ ((S.1, (S.2.1.1, lput S.2.1.2.1 x (S.2.1.2.1 (x * 3)) p1 p2, unote S.2.1.2.2.1 S.2.1.2.2.2.2.2.1 1 (nI x) (S.2.1.2.1 (x * 3 + 1)) (S.2.1.2.1 (x * 3 + 2)) 0, S.2.1.2.2.2.1, S.2.1.2.2.2.2.1, S.2.1.2.2.2.2.2.1 + 1, S.2.1.2.2.2.2.2.2.1, S.2.1.2.2.2.2.2.2.2.1, S.2.1.2.2.2.2.2.2.2.2), S.2.2) = S'))) lvi k ∨ MidB h1 S x y F G (fun k => (k = 0 ∧ ¬ wi 0 (nI S.2.1.2.2.2.2.1 - 1) p0 = true) ∨ (k = 1 ∧ wi 0 (nI S.2.1.2.2.2.2.1 - 1) p0 = true ∧ ¬ (wi 0 5 p1 && wi 0 2 p2) = true)) (fun k => nI (k + 1)) k, fun h1 k hm => mid63 hm, ?_, ?_⟩
  · refine qSpecW_mono (W_sing hg hT hCt hC.obj (u := u) (F_sing hg hT hC hI.2.1.1.2.1 hI.2.1.1.2.2 p0 p1 p2) ?_ ?_) ?_
    · intro v h1 hp
      obtain ⟨w, xx, hx, e1, hif, hg1⟩ := hp
      by_cases q0 : S.2.1.2.2.2.2.2.1 = 20
      · rw [if_pos q0] at hif
        exact ⟨⟨_, hif.1⟩, hg1.u92 hu⟩
      · rw [if_neg q0] at hif
        exact ⟨⟨_, hif.1⟩, hg1.u92 hu⟩
    · intro E h1 hx
      obtain ⟨k, rfl, hq, -, -⟩ := hx
      refine ⟨k, ?_, rfl⟩
      rcases hq with hq | hq <;> (have := hq.1; omega)
    · intro r h1 hr
      rcases hr with ⟨z, h2, hp, rfl, rfl⟩ | ⟨k, hk, hx, rfl⟩
      · obtain ⟨w, xx, hx, e1, hif, hg1⟩ := hp
        by_cases q0 : S.2.1.2.2.2.2.2.1 = 20
        · rw [if_pos q0] at hif
          obtain ⟨hz, hC1⟩ := hif
          exact ⟨0, rfl, Or.inl (mid_g hL (Kg := (fun (zv : Value) (S' : CS) => INV S' ∧ (wi 0 5 p1 && wi 0 2 p2) = true ∧ ∃ x : Nat, x < S.2.1.2.2.2.2.1 ∧ p0 = nI x ∧ (if S.2.1.2.2.2.2.2.1 = 20 then some zv = some (.int (-1)) ∧ (S = S') else some zv = some (.int 1) ∧ ((S.1, (S.2.1.1, lput S.2.1.2.1 x (S.2.1.2.1 (x * 3)) p1 p2, unote S.2.1.2.2.1 S.2.1.2.2.2.2.2.1 1 (nI x) (S.2.1.2.1 (x * 3 + 1)) (S.2.1.2.1 (x * 3 + 2)) 0, S.2.1.2.2.2.1, S.2.1.2.2.2.2.1, S.2.1.2.2.2.2.2.1 + 1, S.2.1.2.2.2.2.2.2.1, S.2.1.2.2.2.2.2.2.2.1, S.2.1.2.2.2.2.2.2.2.2), S.2.2) = S')))) (z := .int z) ⟨hI, w, xx, hx, e1, (by rw [if_pos q0]; exact ⟨hz, rfl⟩)⟩ hC1 hg1 rfl)⟩
        · rw [if_neg q0] at hif
          obtain ⟨hz, hC1⟩ := hif
          exact ⟨0, rfl, Or.inl (mid_g hL (Kg := (fun (zv : Value) (S' : CS) => INV S' ∧ (wi 0 5 p1 && wi 0 2 p2) = true ∧ ∃ x : Nat, x < S.2.1.2.2.2.2.1 ∧ p0 = nI x ∧ (if S.2.1.2.2.2.2.2.1 = 20 then some zv = some (.int (-1)) ∧ (S = S') else some zv = some (.int 1) ∧ ((S.1, (S.2.1.1, lput S.2.1.2.1 x (S.2.1.2.1 (x * 3)) p1 p2, unote S.2.1.2.2.1 S.2.1.2.2.2.2.2.1 1 (nI x) (S.2.1.2.1 (x * 3 + 1)) (S.2.1.2.1 (x * 3 + 2)) 0, S.2.1.2.2.2.1, S.2.1.2.2.2.2.1, S.2.1.2.2.2.2.2.1 + 1, S.2.1.2.2.2.2.2.2.1, S.2.1.2.2.2.2.2.2.2.1, S.2.1.2.2.2.2.2.2.2.2), S.2.2) = S')))) (z := .int z) ⟨hI.rd (ROK_sing hI.2.1 (by omega) ((Bool.and_eq_true _ _).mp w).1 ((Bool.and_eq_true _ _).mp w).2 _) rfl rfl rfl, w, xx, hx, e1, (by rw [if_neg q0]; exact ⟨hz, rfl⟩)⟩ hC1 hg1 rfl)⟩
      · refine ⟨(fun k => nI (k + 1)) k, ?_, Or.inr (mid_b hL (by omega) (fun j hj => ?_) hx)⟩
        · rfl
        · rcases hj with hj | hj <;> (have := hj.1; omega)
  · intro h1 k hmid
    rcases hmid with ⟨rfl, zv, S', u', ⟨hIV, w, xx, hx, e1, hif⟩, hC1, hM1, hu1, hv, h93b⟩ | ⟨j, u', rfl, hq, hC1, hM1, hu1, h93b⟩
    · refine qSpec_mono (M_sing hg hM1 hR hI.2.1 p0 p1 p2) fun r h2 hr => ?_
      rcases hr with ⟨-, -, ⟨a, ha, f1, hif2⟩⟩ | ⟨k, c, hb, -, -⟩
      · obtain rfl : xx = a := (nI_eq (by omega) (by omega)).mp (e1.symm.trans f1)
        by_cases q0 : S.2.1.2.2.2.2.2.1 = 20
        · rw [if_pos q0] at hif
          obtain ⟨hz, rfl⟩ := hif
          obtain rfl := Option.some.inj hz
          rw [if_pos q0] at hif2
          obtain ⟨rfl, hG⟩ := hif2
          exact ⟨_, rfl, rfl, LA.g hC1 hIV hu1 h93b hG hv⟩
        · rw [if_neg q0] at hif
          obtain ⟨hz, rfl⟩ := hif
          obtain rfl := Option.some.inj hz
          rw [if_neg q0] at hif2
          obtain ⟨rfl, hG⟩ := hif2
          exact ⟨_, rfl, rfl, LA.g hC1 hIV hu1 h93b hG hv⟩
      · exact (PB_sing S p0 p1 p2 hb (by rw [e1]; exact wi_dn hk10 hx) ⟨((Bool.and_eq_true _ _).mp w).1, ((Bool.and_eq_true _ _).mp w).2⟩).elim
    · refine qSpec_mono (M_sing hg hM1 hR hI.2.1 p0 p1 p2) fun r h2 hr => ?_
      rcases hr with ⟨w0, w1, -⟩ | ⟨k, c, hb, ⟨z, rfl⟩, hG⟩
      · exact (PE_sing S p0 p1 p2 hq w0 w1).elim
      · obtain ⟨rfl, rfl⟩ := PD_sing S p0 p1 p2 hq hb
        refine ⟨_, rfl, rfl, LA.b hC1 hI hu1 h93b hG ?_⟩
        rcases hq with hq | hq <;> (rw [hq.1]; decide)
theorem PD_swap (S : CS) (p0 p1 : Int32) {j k : Nat} {c : Int32} (hq : (fun k => (k = 0 ∧ ¬ wi 0 (nI S.2.1.2.2.2.2.1 - 1) p0 = true) ∨ (k = 0 ∧ wi 0 (nI S.2.1.2.2.2.2.1 - 1) p0 = true ∧ ¬ wi 0 (nI S.2.1.2.2.2.2.1 - 1) p1 = true)) j) (hb : (fun (k : Nat) (c : Int32) => (k = 0 ∧ c = 1 ∧ ¬ (wi 0 (nI S.2.1.2.2.2.2.1 - 1) p0 = true)) ∨ (k = 0 ∧ c = 1 ∧ (wi 0 (nI S.2.1.2.2.2.2.1 - 1) p0 = true) ∧ ¬ (wi 0 (nI S.2.1.2.2.2.2.1 - 1) p1 = true))) k c) : k = j ∧ c = (fun _ => 1) j := by
  simp only [Bool.and_eq_true] at hq
  rcases hq with ⟨rfl, hq⟩ | ⟨rfl, hq⟩ <;> rcases hb with ⟨rfl, rfl, hb⟩ | ⟨rfl, rfl, hb⟩ <;> first | exact ⟨rfl, rfl⟩ | (exfalso; grind)
theorem PE_swap (S : CS) (p0 p1 : Int32) {j : Nat} (hq : (fun k => (k = 0 ∧ ¬ wi 0 (nI S.2.1.2.2.2.2.1 - 1) p0 = true) ∨ (k = 0 ∧ wi 0 (nI S.2.1.2.2.2.2.1 - 1) p0 = true ∧ ¬ wi 0 (nI S.2.1.2.2.2.2.1 - 1) p1 = true)) j) (w0 : (wi 0 (nI S.2.1.2.2.2.2.1 - 1) p0 = true)) (w1 : (wi 0 (nI S.2.1.2.2.2.2.1 - 1) p1 = true)) : False := by
  simp only [Bool.and_eq_true] at hq
  rcases hq with ⟨rfl, hq⟩ | ⟨rfl, hq⟩ <;> grind
theorem PB_swap (S : CS) (p0 p1 : Int32) {k : Nat} {c : Int32} (hb : (fun (k : Nat) (c : Int32) => (k = 0 ∧ c = 1 ∧ ¬ (wi 0 (nI S.2.1.2.2.2.2.1 - 1) p0 = true)) ∨ (k = 0 ∧ c = 1 ∧ (wi 0 (nI S.2.1.2.2.2.2.1 - 1) p0 = true) ∧ ¬ (wi 0 (nI S.2.1.2.2.2.2.1 - 1) p1 = true))) k c) (w0 : (wi 0 (nI S.2.1.2.2.2.2.1 - 1) p0 = true)) (w1 : (wi 0 (nI S.2.1.2.2.2.2.1 - 1) p1 = true)) : False := by
  rcases hb with ⟨rfl, rfl, hb⟩ | ⟨rfl, rfl, hb⟩ <;> grind
set_option maxHeartbeats 1000000 in
theorem P_swap {g : qG} (hg : qOK g) (hT : qTHR g) (hCt : qCAT g) (hFM : qFM g) {h : qH} {S : CS} {x : Nat → Int32} {y : Nat → Int64} {F : Nat → Nat → Int32} {G : Nat → Nat → Int64} {u : Nat → Int64} (hL : LI h S x y F G u) (p0 p1 : Int32) : PR g h wL_swap mX12_swap [.int p0, .int p1] 9 3 0 0 := by
  obtain ⟨hC, hM, hR, hI, hu, h93⟩ := id hL
  have hn10 := hI.2.1.1.1
  have hk10 := hI.2.1.1.2.1
  have hu20 := hI.2.1.1.2.2
  refine ⟨fun h1 k => MidG h1 x y F G (fun (zv : Value) (S' : CS) => INV S' ∧ ∃ x y : Nat, x < S.2.1.2.2.2.2.1 ∧ y < S.2.1.2.2.2.2.1 ∧ p0 = nI x ∧ p1 = nI y ∧ (if x = y then some zv = some (.int 0) ∧ (S = S') else if S.2.1.2.2.2.2.2.1 = 20 then some zv = some (.int (-1)) ∧ (S = S') else some zv = some (.int 1) ∧ ((S.1, (S.2.1.1, lxch S.2.1.2.1 x y, unote S.2.1.2.2.1 S.2.1.2.2.2.2.2.1 2 (nI x) (nI y) 0 0, S.2.1.2.2.2.1, S.2.1.2.2.2.2.1, S.2.1.2.2.2.2.2.1 + 1, S.2.1.2.2.2.2.2.2.1, S.2.1.2.2.2.2.2.2.2.1, S.2.1.2.2.2.2.2.2.2.2), S.2.2) = S'))) lvi k ∨ MidB h1 S x y F G (fun k => (k = 0 ∧ ¬ wi 0 (nI S.2.1.2.2.2.2.1 - 1) p0 = true) ∨ (k = 0 ∧ wi 0 (nI S.2.1.2.2.2.2.1 - 1) p0 = true ∧ ¬ wi 0 (nI S.2.1.2.2.2.2.1 - 1) p1 = true)) (fun _ => 1) k, fun h1 k hm => mid63 hm, ?_, ?_⟩
  · refine qSpecW_mono (W_swap hg hT hCt hC.obj (u := u) (F_swap hg hT hC hI.2.1.1.2.1 hI.2.1.1.2.2 p0 p1) ?_ ?_) ?_
    · intro v h1 hp
      obtain ⟨xx, yy, hx, hy, e1, e2, hif, hg1⟩ := hp
      by_cases q0 : xx = yy
      · rw [if_pos q0] at hif
        exact ⟨⟨_, hif.1⟩, hg1.u92 hu⟩
      · rw [if_neg q0] at hif
        by_cases q1 : S.2.1.2.2.2.2.2.1 = 20
        · rw [if_pos q1] at hif
          exact ⟨⟨_, hif.1⟩, hg1.u92 hu⟩
        · rw [if_neg q1] at hif
          exact ⟨⟨_, hif.1⟩, hg1.u92 hu⟩
    · intro E h1 hx
      obtain ⟨k, rfl, hq, -, -⟩ := hx
      refine ⟨k, ?_, rfl⟩
      rcases hq with hq | hq <;> (have := hq.1; omega)
    · intro r h1 hr
      rcases hr with ⟨z, h2, hp, rfl, rfl⟩ | ⟨k, hk, hx, rfl⟩
      · obtain ⟨xx, yy, hx, hy, e1, e2, hif, hg1⟩ := hp
        by_cases q0 : xx = yy
        · rw [if_pos q0] at hif
          obtain ⟨hz, hC1⟩ := hif
          exact ⟨0, rfl, Or.inl (mid_g hL (Kg := (fun (zv : Value) (S' : CS) => INV S' ∧ ∃ x y : Nat, x < S.2.1.2.2.2.2.1 ∧ y < S.2.1.2.2.2.2.1 ∧ p0 = nI x ∧ p1 = nI y ∧ (if x = y then some zv = some (.int 0) ∧ (S = S') else if S.2.1.2.2.2.2.2.1 = 20 then some zv = some (.int (-1)) ∧ (S = S') else some zv = some (.int 1) ∧ ((S.1, (S.2.1.1, lxch S.2.1.2.1 x y, unote S.2.1.2.2.1 S.2.1.2.2.2.2.2.1 2 (nI x) (nI y) 0 0, S.2.1.2.2.2.1, S.2.1.2.2.2.2.1, S.2.1.2.2.2.2.2.1 + 1, S.2.1.2.2.2.2.2.2.1, S.2.1.2.2.2.2.2.2.2.1, S.2.1.2.2.2.2.2.2.2.2), S.2.2) = S')))) (z := .int z) ⟨hI, xx, yy, hx, hy, e1, e2, (by rw [if_pos q0]; exact ⟨hz, rfl⟩)⟩ hC1 hg1 rfl)⟩
        · rw [if_neg q0] at hif
          by_cases q1 : S.2.1.2.2.2.2.2.1 = 20
          · rw [if_pos q1] at hif
            obtain ⟨hz, hC1⟩ := hif
            exact ⟨0, rfl, Or.inl (mid_g hL (Kg := (fun (zv : Value) (S' : CS) => INV S' ∧ ∃ x y : Nat, x < S.2.1.2.2.2.2.1 ∧ y < S.2.1.2.2.2.2.1 ∧ p0 = nI x ∧ p1 = nI y ∧ (if x = y then some zv = some (.int 0) ∧ (S = S') else if S.2.1.2.2.2.2.2.1 = 20 then some zv = some (.int (-1)) ∧ (S = S') else some zv = some (.int 1) ∧ ((S.1, (S.2.1.1, lxch S.2.1.2.1 x y, unote S.2.1.2.2.1 S.2.1.2.2.2.2.2.1 2 (nI x) (nI y) 0 0, S.2.1.2.2.2.1, S.2.1.2.2.2.2.1, S.2.1.2.2.2.2.2.1 + 1, S.2.1.2.2.2.2.2.2.1, S.2.1.2.2.2.2.2.2.2.1, S.2.1.2.2.2.2.2.2.2.2), S.2.2) = S')))) (z := .int z) ⟨hI, xx, yy, hx, hy, e1, e2, (by rw [if_neg q0, if_pos q1]; exact ⟨hz, rfl⟩)⟩ hC1 hg1 rfl)⟩
          · rw [if_neg q1] at hif
            obtain ⟨hz, hC1⟩ := hif
            exact ⟨0, rfl, Or.inl (mid_g hL (Kg := (fun (zv : Value) (S' : CS) => INV S' ∧ ∃ x y : Nat, x < S.2.1.2.2.2.2.1 ∧ y < S.2.1.2.2.2.2.1 ∧ p0 = nI x ∧ p1 = nI y ∧ (if x = y then some zv = some (.int 0) ∧ (S = S') else if S.2.1.2.2.2.2.2.1 = 20 then some zv = some (.int (-1)) ∧ (S = S') else some zv = some (.int 1) ∧ ((S.1, (S.2.1.1, lxch S.2.1.2.1 x y, unote S.2.1.2.2.1 S.2.1.2.2.2.2.2.1 2 (nI x) (nI y) 0 0, S.2.1.2.2.2.1, S.2.1.2.2.2.2.1, S.2.1.2.2.2.2.2.1 + 1, S.2.1.2.2.2.2.2.2.1, S.2.1.2.2.2.2.2.2.2.1, S.2.1.2.2.2.2.2.2.2.2), S.2.2) = S')))) (z := .int z) ⟨hI.rd (ROK_swap hI.2.1 (by omega) hx hy q0 _) rfl rfl rfl, xx, yy, hx, hy, e1, e2, (by rw [if_neg q0, if_neg q1]; exact ⟨hz, rfl⟩)⟩ hC1 hg1 rfl)⟩
      · refine ⟨(fun _ => 1) k, ?_, Or.inr (mid_b hL (by omega) (fun j hj => ?_) hx)⟩
        · rfl
        · rcases hj with hj | hj <;> (have := hj.1; omega)
  · intro h1 k hmid
    rcases hmid with ⟨rfl, zv, S', u', ⟨hIV, xx, yy, hx, hy, e1, e2, hif⟩, hC1, hM1, hu1, hv, h93b⟩ | ⟨j, u', rfl, hq, hC1, hM1, hu1, h93b⟩
    · refine qSpec_mono (M_swap hg hM1 hR hI.2.1 p0 p1) fun r h2 hr => ?_
      rcases hr with ⟨-, -, ⟨a, b, ha, hb, f1, f2, hif2⟩⟩ | ⟨k, c, hb, -, -⟩
      · obtain rfl : xx = a := (nI_eq (by omega) (by omega)).mp (e1.symm.trans f1)
        obtain rfl : yy = b := (nI_eq (by omega) (by omega)).mp (e2.symm.trans f2)
        by_cases q0 : xx = yy
        · rw [if_pos q0] at hif
          obtain ⟨hz, rfl⟩ := hif
          obtain rfl := Option.some.inj hz
          rw [if_pos q0] at hif2
          obtain ⟨rfl, hG⟩ := hif2
          exact ⟨_, rfl, rfl, LA.g hC1 hIV hu1 h93b hG hv⟩
        · rw [if_neg q0] at hif
          by_cases q1 : S.2.1.2.2.2.2.2.1 = 20
          · rw [if_pos q1] at hif
            obtain ⟨hz, rfl⟩ := hif
            obtain rfl := Option.some.inj hz
            rw [if_neg q0, if_pos q1] at hif2
            obtain ⟨rfl, hG⟩ := hif2
            exact ⟨_, rfl, rfl, LA.g hC1 hIV hu1 h93b hG hv⟩
          · rw [if_neg q1] at hif
            obtain ⟨hz, rfl⟩ := hif
            obtain rfl := Option.some.inj hz
            rw [if_neg q0, if_neg q1] at hif2
            obtain ⟨rfl, hG⟩ := hif2
            exact ⟨_, rfl, rfl, LA.g hC1 hIV hu1 h93b hG hv⟩
      · exact (PB_swap S p0 p1 hb (by rw [e1]; exact wi_dn hk10 hx) (by rw [e2]; exact wi_dn hk10 hy)).elim
    · refine qSpec_mono (M_swap hg hM1 hR hI.2.1 p0 p1) fun r h2 hr => ?_
      rcases hr with ⟨w0, w1, -⟩ | ⟨k, c, hb, ⟨z, rfl⟩, hG⟩
      · exact (PE_swap S p0 p1 hq w0 w1).elim
      · obtain ⟨rfl, rfl⟩ := PD_swap S p0 p1 hq hb
        refine ⟨_, rfl, rfl, LA.b hC1 hI hu1 h93b hG ?_⟩
        rcases hq with hq | hq <;> (rw [hq.1]; decide)
theorem PD_skip (S : CS) (p0 : Int32) {j k : Nat} {c : Int32} (hq : (fun k => (k = 0 ∧ ¬ wi 0 (nI S.2.1.2.2.2.2.1 - 1) p0 = true)) j) (hb : (fun (k : Nat) (c : Int32) => (k = 0 ∧ c = 1 ∧ ¬ (wi 0 (nI S.2.1.2.2.2.2.1 - 1) p0 = true))) k c) : k = j ∧ c = (fun _ => 1) j := by
  simp only [Bool.and_eq_true] at hq
  rcases hq with ⟨rfl, hq⟩ <;> rcases hb with ⟨rfl, rfl, hb⟩ <;> first | exact ⟨rfl, rfl⟩ | (exfalso; grind)
theorem PE_skip (S : CS) (p0 : Int32) {j : Nat} (hq : (fun k => (k = 0 ∧ ¬ wi 0 (nI S.2.1.2.2.2.2.1 - 1) p0 = true)) j) (w0 : (wi 0 (nI S.2.1.2.2.2.2.1 - 1) p0 = true)) : False := by
  simp only [Bool.and_eq_true] at hq
  rcases hq with ⟨rfl, hq⟩ <;> grind
theorem PB_skip (S : CS) (p0 : Int32) {k : Nat} {c : Int32} (hb : (fun (k : Nat) (c : Int32) => (k = 0 ∧ c = 1 ∧ ¬ (wi 0 (nI S.2.1.2.2.2.2.1 - 1) p0 = true))) k c) (w0 : (wi 0 (nI S.2.1.2.2.2.2.1 - 1) p0 = true)) : False := by
  rcases hb with ⟨rfl, rfl, hb⟩ <;> grind
set_option maxHeartbeats 1000000 in
theorem P_skip {g : qG} (hg : qOK g) (hT : qTHR g) (hCt : qCAT g) (hFM : qFM g) {h : qH} {S : CS} {x : Nat → Int32} {y : Nat → Int64} {F : Nat → Nat → Int32} {G : Nat → Nat → Int64} {u : Nat → Int64} (hL : LI h S x y F G u) (p0 : Int32) : PR g h wL_skip mX12_skip [.int p0] 9 3 0 0 := by
  obtain ⟨hC, hM, hR, hI, hu, h93⟩ := id hL
  have hn10 := hI.2.1.1.1
  have hk10 := hI.2.1.1.2.1
  have hu20 := hI.2.1.1.2.2
  refine ⟨fun h1 k => MidG h1 x y F G (fun (zv : Value) (S' : CS) => INV S' ∧ ∃ x : Nat, x < S.2.1.2.2.2.2.1 ∧ p0 = nI x ∧ (if S.2.1.2.2.2.2.2.1 = 20 then some zv = some (.int (-1)) ∧ (S = S') else some zv = some (.int (nI (S.2.1.2.2.2.2.1 - 1))) ∧ ((S.1, (S.2.1.1, ltake S.2.1.2.1 x (S.2.1.2.2.2.2.1 - 1 - x), unote S.2.1.2.2.1 S.2.1.2.2.2.2.2.1 3 (nI x) (S.2.1.2.1 (x * 3)) (S.2.1.2.1 (x * 3 + 1)) (S.2.1.2.1 (x * 3 + 2)), S.2.1.2.2.2.1, S.2.1.2.2.2.2.1 - 1, S.2.1.2.2.2.2.2.1 + 1, S.2.1.2.2.2.2.2.2.1, S.2.1.2.2.2.2.2.2.2.1, S.2.1.2.2.2.2.2.2.2.2), S.2.2) = S'))) lvi k ∨ MidB h1 S x y F G (fun k => (k = 0 ∧ ¬ wi 0 (nI S.2.1.2.2.2.2.1 - 1) p0 = true)) (fun _ => 1) k, fun h1 k hm => mid63 hm, ?_, ?_⟩
  · refine qSpecW_mono (W_skip hg hT hCt hC.obj (u := u) (F_skip hg hT hC hI.2.1.1.2.1 hI.2.1.1.2.2 p0) ?_ ?_) ?_
    · intro v h1 hp
      obtain ⟨xx, hx, e1, hif, hg1⟩ := hp
      by_cases q0 : S.2.1.2.2.2.2.2.1 = 20
      · rw [if_pos q0] at hif
        exact ⟨⟨_, hif.1⟩, hg1.u92 hu⟩
      · rw [if_neg q0] at hif
        exact ⟨⟨_, hif.1⟩, hg1.u92 hu⟩
    · intro E h1 hx
      obtain ⟨k, rfl, hq, -, -⟩ := hx
      refine ⟨k, ?_, rfl⟩
      rcases hq with hq <;> (have := hq.1; omega)
    · intro r h1 hr
      rcases hr with ⟨z, h2, hp, rfl, rfl⟩ | ⟨k, hk, hx, rfl⟩
      · obtain ⟨xx, hx, e1, hif, hg1⟩ := hp
        by_cases q0 : S.2.1.2.2.2.2.2.1 = 20
        · rw [if_pos q0] at hif
          obtain ⟨hz, hC1⟩ := hif
          exact ⟨0, rfl, Or.inl (mid_g hL (Kg := (fun (zv : Value) (S' : CS) => INV S' ∧ ∃ x : Nat, x < S.2.1.2.2.2.2.1 ∧ p0 = nI x ∧ (if S.2.1.2.2.2.2.2.1 = 20 then some zv = some (.int (-1)) ∧ (S = S') else some zv = some (.int (nI (S.2.1.2.2.2.2.1 - 1))) ∧ ((S.1, (S.2.1.1, ltake S.2.1.2.1 x (S.2.1.2.2.2.2.1 - 1 - x), unote S.2.1.2.2.1 S.2.1.2.2.2.2.2.1 3 (nI x) (S.2.1.2.1 (x * 3)) (S.2.1.2.1 (x * 3 + 1)) (S.2.1.2.1 (x * 3 + 2)), S.2.1.2.2.2.1, S.2.1.2.2.2.2.1 - 1, S.2.1.2.2.2.2.2.1 + 1, S.2.1.2.2.2.2.2.2.1, S.2.1.2.2.2.2.2.2.2.1, S.2.1.2.2.2.2.2.2.2.2), S.2.2) = S')))) (z := .int z) ⟨hI, xx, hx, e1, (by rw [if_pos q0]; exact ⟨hz, rfl⟩)⟩ hC1 hg1 rfl)⟩
        · rw [if_neg q0] at hif
          obtain ⟨hz, hC1⟩ := hif
          exact ⟨0, rfl, Or.inl (mid_g hL (Kg := (fun (zv : Value) (S' : CS) => INV S' ∧ ∃ x : Nat, x < S.2.1.2.2.2.2.1 ∧ p0 = nI x ∧ (if S.2.1.2.2.2.2.2.1 = 20 then some zv = some (.int (-1)) ∧ (S = S') else some zv = some (.int (nI (S.2.1.2.2.2.2.1 - 1))) ∧ ((S.1, (S.2.1.1, ltake S.2.1.2.1 x (S.2.1.2.2.2.2.1 - 1 - x), unote S.2.1.2.2.1 S.2.1.2.2.2.2.2.1 3 (nI x) (S.2.1.2.1 (x * 3)) (S.2.1.2.1 (x * 3 + 1)) (S.2.1.2.1 (x * 3 + 2)), S.2.1.2.2.2.1, S.2.1.2.2.2.2.1 - 1, S.2.1.2.2.2.2.2.1 + 1, S.2.1.2.2.2.2.2.2.1, S.2.1.2.2.2.2.2.2.2.1, S.2.1.2.2.2.2.2.2.2.2), S.2.2) = S')))) (z := .int z) ⟨hI.rd (ROK_skip hI.2.1 (by omega) hx _) rfl rfl rfl, xx, hx, e1, (by rw [if_neg q0]; exact ⟨hz, rfl⟩)⟩ hC1 hg1 rfl)⟩
      · refine ⟨(fun _ => 1) k, ?_, Or.inr (mid_b hL (by omega) (fun j hj => ?_) hx)⟩
        · rfl
        · rcases hj with hj <;> (have := hj.1; omega)
  · intro h1 k hmid
    rcases hmid with ⟨rfl, zv, S', u', ⟨hIV, xx, hx, e1, hif⟩, hC1, hM1, hu1, hv, h93b⟩ | ⟨j, u', rfl, hq, hC1, hM1, hu1, h93b⟩
    · refine qSpec_mono (M_skip hg hM1 hR hI.2.1 p0) fun r h2 hr => ?_
      rcases hr with ⟨-, ⟨a, ha, f1, hif2⟩⟩ | ⟨k, c, hb, -, -⟩
      · obtain rfl : xx = a := (nI_eq (by omega) (by omega)).mp (e1.symm.trans f1)
        by_cases q0 : S.2.1.2.2.2.2.2.1 = 20
        · rw [if_pos q0] at hif
          obtain ⟨hz, rfl⟩ := hif
          obtain rfl := Option.some.inj hz
          rw [if_pos q0] at hif2
          obtain ⟨rfl, hG⟩ := hif2
          exact ⟨_, rfl, rfl, LA.g hC1 hIV hu1 h93b hG hv⟩
        · rw [if_neg q0] at hif
          obtain ⟨hz, rfl⟩ := hif
          obtain rfl := Option.some.inj hz
          rw [if_neg q0] at hif2
          obtain ⟨rfl, hG⟩ := hif2
          exact ⟨_, rfl, rfl, LA.g hC1 hIV hu1 h93b hG hv⟩
      · exact (PB_skip S p0 hb (by rw [e1]; exact wi_dn hk10 hx)).elim
    · refine qSpec_mono (M_skip hg hM1 hR hI.2.1 p0) fun r h2 hr => ?_
      rcases hr with ⟨w0, -⟩ | ⟨k, c, hb, ⟨z, rfl⟩, hG⟩
      · exact (PE_skip S p0 hq w0).elim
      · obtain ⟨rfl, rfl⟩ := PD_skip S p0 hq hb
        refine ⟨_, rfl, rfl, LA.b hC1 hI hu1 h93b hG ?_⟩
        rcases hq with hq <;> (rw [hq.1]; decide)
theorem PD_until (S : CS) (p0 : Int32) {j k : Nat} {c : Int32} (hq : (fun k => (k = 1 ∧ ¬ wi 0 480 p0 = true)) j) (hb : (fun (k : Nat) (c : Int32) => (k = 1 ∧ c = 1 ∧ ¬ (wi 0 480 p0 = true))) k c) : k = j ∧ c = (fun _ => 1) j := by
  simp only [Bool.and_eq_true] at hq
  rcases hq with ⟨rfl, hq⟩ <;> rcases hb with ⟨rfl, rfl, hb⟩ <;> first | exact ⟨rfl, rfl⟩ | (exfalso; grind)
theorem PE_until (S : CS) (p0 : Int32) {j : Nat} (hq : (fun k => (k = 1 ∧ ¬ wi 0 480 p0 = true)) j) (w0 : (wi 0 480 p0 = true)) : False := by
  simp only [Bool.and_eq_true] at hq
  rcases hq with ⟨rfl, hq⟩ <;> grind
theorem PB_until (S : CS) (p0 : Int32) {k : Nat} {c : Int32} (hb : (fun (k : Nat) (c : Int32) => (k = 1 ∧ c = 1 ∧ ¬ (wi 0 480 p0 = true))) k c) (w0 : (wi 0 480 p0 = true)) : False := by
  rcases hb with ⟨rfl, rfl, hb⟩ <;> grind
set_option maxHeartbeats 1000000 in
theorem P_until {g : qG} (hg : qOK g) (hT : qTHR g) (hCt : qCAT g) (hFM : qFM g) {h : qH} {S : CS} {x : Nat → Int32} {y : Nat → Int64} {F : Nat → Nat → Int32} {G : Nat → Nat → Int64} {u : Nat → Int64} (hL : LI h S x y F G u) (p0 : Int32) : PR g h wL_until mX12_until [.int p0] 9 3 0 0 := by
  obtain ⟨hC, hM, hR, hI, hu, h93⟩ := id hL
  have hn10 := hI.2.1.1.1
  have hk10 := hI.2.1.1.2.1
  have hu20 := hI.2.1.1.2.2
  refine ⟨fun h1 k => MidG h1 x y F G (fun (zv : Value) (S' : CS) => INV S' ∧ wi 0 480 p0 = true ∧ (if S.2.1.2.2.2.2.2.1 = 20 then some zv = some (.int (-1)) ∧ (S = S') else some zv = some (.int S.2.1.2.2.2.2.2.2.2.2) ∧ ((S.1, (S.2.1.1, S.2.1.2.1, unote S.2.1.2.2.1 S.2.1.2.2.2.2.2.1 4 S.2.1.2.2.2.2.2.2.2.2 0 0 0, S.2.1.2.2.2.1, S.2.1.2.2.2.2.1, S.2.1.2.2.2.2.2.1 + 1, S.2.1.2.2.2.2.2.2.1, S.2.1.2.2.2.2.2.2.2.1, p0), S.2.2) = S'))) lvi k ∨ MidB h1 S x y F G (fun k => (k = 1 ∧ ¬ wi 0 480 p0 = true)) (fun _ => 1) k, fun h1 k hm => mid63 hm, ?_, ?_⟩
  · refine qSpecW_mono (W_until hg hT hCt hC.obj (u := u) (F_until hg hT hC hI.2.1.1.2.2 p0) ?_ ?_) ?_
    · intro v h1 hp
      obtain ⟨w, hif, hg1⟩ := hp
      by_cases q0 : S.2.1.2.2.2.2.2.1 = 20
      · rw [if_pos q0] at hif
        exact ⟨⟨_, hif.1⟩, hg1.u92 hu⟩
      · rw [if_neg q0] at hif
        exact ⟨⟨_, hif.1⟩, hg1.u92 hu⟩
    · intro E h1 hx
      obtain ⟨k, rfl, hq, -, -⟩ := hx
      refine ⟨k, ?_, rfl⟩
      rcases hq with hq <;> (have := hq.1; omega)
    · intro r h1 hr
      rcases hr with ⟨z, h2, hp, rfl, rfl⟩ | ⟨k, hk, hx, rfl⟩
      · obtain ⟨w, hif, hg1⟩ := hp
        by_cases q0 : S.2.1.2.2.2.2.2.1 = 20
        · rw [if_pos q0] at hif
          obtain ⟨hz, hC1⟩ := hif
          exact ⟨0, rfl, Or.inl (mid_g hL (Kg := (fun (zv : Value) (S' : CS) => INV S' ∧ wi 0 480 p0 = true ∧ (if S.2.1.2.2.2.2.2.1 = 20 then some zv = some (.int (-1)) ∧ (S = S') else some zv = some (.int S.2.1.2.2.2.2.2.2.2.2) ∧ ((S.1, (S.2.1.1, S.2.1.2.1, unote S.2.1.2.2.1 S.2.1.2.2.2.2.2.1 4 S.2.1.2.2.2.2.2.2.2.2 0 0 0, S.2.1.2.2.2.1, S.2.1.2.2.2.2.1, S.2.1.2.2.2.2.2.1 + 1, S.2.1.2.2.2.2.2.2.1, S.2.1.2.2.2.2.2.2.2.1, p0), S.2.2) = S')))) (z := .int z) ⟨hI, w, (by rw [if_pos q0]; exact ⟨hz, rfl⟩)⟩ hC1 hg1 rfl)⟩
        · rw [if_neg q0] at hif
          obtain ⟨hz, hC1⟩ := hif
          exact ⟨0, rfl, Or.inl (mid_g hL (Kg := (fun (zv : Value) (S' : CS) => INV S' ∧ wi 0 480 p0 = true ∧ (if S.2.1.2.2.2.2.2.1 = 20 then some zv = some (.int (-1)) ∧ (S = S') else some zv = some (.int S.2.1.2.2.2.2.2.2.2.2) ∧ ((S.1, (S.2.1.1, S.2.1.2.1, unote S.2.1.2.2.1 S.2.1.2.2.2.2.2.1 4 S.2.1.2.2.2.2.2.2.2.2 0 0 0, S.2.1.2.2.2.1, S.2.1.2.2.2.2.1, S.2.1.2.2.2.2.2.1 + 1, S.2.1.2.2.2.2.2.2.1, S.2.1.2.2.2.2.2.2.2.1, p0), S.2.2) = S')))) (z := .int z) ⟨hI.rd (ROK_until hI.2.1 (by omega) w _) rfl rfl rfl, w, (by rw [if_neg q0]; exact ⟨hz, rfl⟩)⟩ hC1 hg1 rfl)⟩
      · refine ⟨(fun _ => 1) k, ?_, Or.inr (mid_b hL (by omega) (fun j hj => ?_) hx)⟩
        · rfl
        · rcases hj with hj <;> (have := hj.1; omega)
  · intro h1 k hmid
    rcases hmid with ⟨rfl, zv, S', u', ⟨hIV, w, hif⟩, hC1, hM1, hu1, hv, h93b⟩ | ⟨j, u', rfl, hq, hC1, hM1, hu1, h93b⟩
    · refine qSpec_mono (M_until hg hM1 hR hI.2.1 p0) fun r h2 hr => ?_
      rcases hr with ⟨-, hif2⟩ | ⟨k, c, hb, -, -⟩
      · by_cases q0 : S.2.1.2.2.2.2.2.1 = 20
        · rw [if_pos q0] at hif
          obtain ⟨hz, rfl⟩ := hif
          obtain rfl := Option.some.inj hz
          rw [if_pos q0] at hif2
          obtain ⟨rfl, hG⟩ := hif2
          exact ⟨_, rfl, rfl, LA.g hC1 hIV hu1 h93b hG hv⟩
        · rw [if_neg q0] at hif
          obtain ⟨hz, rfl⟩ := hif
          obtain rfl := Option.some.inj hz
          rw [if_neg q0] at hif2
          obtain ⟨rfl, hG⟩ := hif2
          exact ⟨_, rfl, rfl, LA.g hC1 hIV hu1 h93b hG hv⟩
      · exact (PB_until S p0 hb w).elim
    · refine qSpec_mono (M_until hg hM1 hR hI.2.1 p0) fun r h2 hr => ?_
      rcases hr with ⟨w0, -⟩ | ⟨k, c, hb, ⟨z, rfl⟩, hG⟩
      · exact (PE_until S p0 hq w0).elim
      · obtain ⟨rfl, rfl⟩ := PD_until S p0 hq hb
        refine ⟨_, rfl, rfl, LA.b hC1 hI hu1 h93b hG ?_⟩
        rcases hq with hq <;> (rw [hq.1]; decide)
end Q14F
