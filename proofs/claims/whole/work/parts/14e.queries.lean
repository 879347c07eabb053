section Q14E
theorem qb01 (c : Bool) : Value.int (qb c) = .int 0 ∨ Value.int (qb c) = .int 1 := by
  cases c
  · exact Or.inl rfl
  · exact Or.inr rfl
/-- one call that is answered by yes or no -/
def PRB (g : qG) (h : qH) (wq : qWr) (mq : qMr) (ints : List Value) (d d2 mc2 ms2 : Nat) : Prop := ∃ Mid : qH → Int32 → Prop, (∀ (h1 : qH) (k : Int32), Mid h1 k → ∃ fs : List Value, h1.2 63 = some (.inl (12, fs))) ∧ qSpecW g d 4 24 wq (.ref 0 :: (ints ++ [.ref 92])) h (fun r h1 => ∃ k : Int32, r = some (.int k) ∧ Mid h1 k) ∧ ∀ (h1 : qH) (k : Int32), Mid h1 k → qSpec g d2 mc2 ms2 mq (.ref 63 :: ints) h1 (fun r h2 => ∃ b : Value, r = some b ∧ isK mq.2.2.2.1 b = true ∧ LA h2 k (lvi b) ∧ (k = 0 → b = .int 0 ∨ b = .int 1))
theorem PD_told (S : CS) (p0 : Int32) {j k : Nat} {c : Int32} (hq : (fun k => (k = 1 ∧ ¬ wi 0 6 p0 = true)) j) (hb : (fun (k : Nat) (c : Int32) => (k = 1 ∧ c = 1 ∧ ¬ (wi 0 6 p0 = true))) k c) : k = j ∧ c = (fun _ => 1) j := by
  simp only [Bool.and_eq_true] at hq
  rcases hq with ⟨rfl, hq⟩ <;> rcases hb with ⟨rfl, rfl, hb⟩ <;> first | exact ⟨rfl, rfl⟩ | (exfalso; grind)
theorem PE_told (S : CS) (p0 : Int32) {j : Nat} (hq : (fun k => (k = 1 ∧ ¬ wi 0 6 p0 = true)) j) (w0 : (wi 0 6 p0 = true)) : False := by
  simp only [Bool.and_eq_true] at hq
  rcases hq with ⟨rfl, hq⟩ <;> grind
theorem PB_told (S : CS) (p0 : Int32) {k : Nat} {c : Int32} (hb : (fun (k : Nat) (c : Int32) => (k = 1 ∧ c = 1 ∧ ¬ (wi 0 6 p0 = true))) k c) (w0 : (wi 0 6 p0 = true)) : False := by
  rcases hb with ⟨rfl, rfl, hb⟩ <;> grind
theorem P_told {g : qG} (hg : qOK g) (hT : qTHR g) (hCt : qCAT g) {h : qH} {S : CS} {x : Nat → Int32} {y : Nat → Int64} {F : Nat → Nat → Int32} {G : Nat → Nat → Int64} {u : Nat → Int64} (hL : LI h S x y F G u) (p0 : Int32) : PR g h wL_told mX12_told [.int p0] 8 2 0 0 := by
  obtain ⟨hC, hM, hR, hI, hu, h93⟩ := id hL
  have hn10 := hI.2.1.1.1
  have hm8 := hI.2.2.1.1
  have hk10 := hI.2.1.1.2.1
  refine ⟨fun h1 k => MidG h1 x y F G (fun (zv : Value) (S' : CS) => S = S' ∧ wi 0 6 p0 = true ∧ some zv = some (.int (if p0 = 0 then nI S.2.1.2.2.2.1 else if p0 = 1 then nI S.2.2.2.1.2 else if p0 = 2 then nI S.2.1.2.2.2.2.1 else if p0 = 3 then nI S.2.2.2.2.2.1.2.2 else if p0 = 4 then S.2.1.2.2.2.2.2.2.1 else if p0 = 5 then S.2.1.2.2.2.2.2.2.2.1 else S.2.1.2.2.2.2.2.2.2.2))) lvi k ∨ MidB h1 S x y F G (fun k => (k = 1 ∧ ¬ wi 0 6 p0 = true)) (fun _ => 1) k, fun h1 k hm => mid63 hm, ?_, ?_⟩
  · refine qSpecW_mono (W_told hg hT hCt hC.obj (u := u) (F_told hg hT hC p0) ?_ ?_) ?_
    · intro v h1 hp
      obtain ⟨w, hz, hC1, hg1⟩ := hp
      exact ⟨⟨_, hz⟩, hg1.u92 hu⟩
    · intro E h1 hx
      obtain ⟨k, rfl, hq, -, -⟩ := hx
      refine ⟨k, ?_, rfl⟩
      rcases hq with hq <;> (have := hq.1; omega)
    · intro r h1 hr
      rcases hr with ⟨z, h2, hp, rfl, rfl⟩ | ⟨k, hk, hx, rfl⟩
      · obtain ⟨w, hz, hC1, hg1⟩ := hp
        exact ⟨0, rfl, Or.inl (mid_g hL (Kg := (fun (zv : Value) (S' : CS) => S = S' ∧ wi 0 6 p0 = true ∧ some zv = some (.int (if p0 = 0 then nI S.2.1.2.2.2.1 else if p0 = 1 then nI S.2.2.2.1.2 else if p0 = 2 then nI S.2.1.2.2.2.2.1 else if p0 = 3 then nI S.2.2.2.2.2.1.2.2 else if p0 = 4 then S.2.1.2.2.2.2.2.2.1 else if p0 = 5 then S.2.1.2.2.2.2.2.2.2.1 else S.2.1.2.2.2.2.2.2.2.2)))) (z := .int z) ⟨rfl, w, hz⟩ hC1 hg1 rfl)⟩
      · refine ⟨(fun _ => 1) k, ?_, Or.inr (mid_b hL (by omega) (fun j hj => ?_) hx)⟩
        · rfl
        · rcases hj with hj <;> (have := hj.1; omega)
  · intro h1 k hmid
    rcases hmid with ⟨rfl, zv, S', u', ⟨rfl, w, hz⟩, hC1, hM1, hu1, hv, h93b⟩ | ⟨j, u', rfl, hq, hC1, hM1, hu1, h93b⟩
    · obtain rfl := Option.some.inj hz
      refine qSpec_mono (M_told hg hM1 hR p0) fun r h2 hr => ?_
      rcases hr with ⟨-, rfl, hG⟩ | ⟨k, c, hb, -, -⟩
      · refine ⟨_, rfl, rfl, LA.g hC1 hI hu1 h93b hG (hv.trans ?_)⟩
        rfl
      · exact (PB_told S p0 hb w).elim
    · refine qSpec_mono (M_told hg hM1 hR p0) fun r h2 hr => ?_
      rcases hr with ⟨w0, -⟩ | ⟨k, c, hb, ⟨z, rfl⟩, hG⟩
      · exact (PE_told S p0 hq w0).elim
      · obtain ⟨rfl, rfl⟩ := PD_told S p0 hq hb
        refine ⟨_, rfl, rfl, LA.b hC1 hI hu1 h93b hG ?_⟩
        rcases hq with hq <;> (rw [hq.1]; decide)
theorem PD_door (S : CS) (p0 p1 : Int32) {j k : Nat} {c : Int32} (hq : (fun k => (k = 0 ∧ ¬ wi 0 (nI S.2.1.2.2.2.1 - 1) p0 = true) ∨ (k = 1 ∧ wi 0 (nI S.2.1.2.2.2.1 - 1) p0 = true ∧ ¬ wi 0 9 p1 = true)) j) (hb : (fun (k : Nat) (c : Int32) => (k = 0 ∧ c = 1 ∧ ¬ (wi 0 (nI S.2.1.2.2.2.1 - 1) p0 = true)) ∨ (k = 1 ∧ c = 2 ∧ (wi 0 (nI S.2.1.2.2.2.1 - 1) p0 = true) ∧ ¬ (wi 0 9 p1 = true))) k c) : k = j ∧ c = (fun k => nI (k + 1)) j := by
  simp only [Bool.and_eq_true] at hq
  rcases hq with ⟨rfl, hq⟩ | ⟨rfl, hq⟩ <;> rcases hb with ⟨rfl, rfl, hb⟩ | ⟨rfl, rfl, hb⟩ <;> first | exact ⟨rfl, rfl⟩ | (exfalso; grind)
theorem PE_door (S : CS) (p0 p1 : Int32) {j : Nat} (hq : (fun k => (k = 0 ∧ ¬ wi 0 (nI S.2.1.2.2.2.1 - 1) p0 = true) ∨ (k = 1 ∧ wi 0 (nI S.2.1.2.2.2.1 - 1) p0 = true ∧ ¬ wi 0 9 p1 = true)) j) (w0 : (wi 0 (nI S.2.1.2.2.2.1 - 1) p0 = true)) (w1 : (wi 0 9 p1 = true)) : False := by
  simp only [Bool.and_eq_true] at hq
  rcases hq with ⟨rfl, hq⟩ | ⟨rfl, hq⟩ <;> grind
theorem PB_door (S : CS) (p0 p1 : Int32) {k : Nat} {c : Int32} (hb : (fun (k : Nat) (c : Int32) => (k = 0 ∧ c = 1 ∧ ¬ (wi 0 (nI S.2.1.2.2.2.1 - 1) p0 = true)) ∨ (k = 1 ∧ c = 2 ∧ (wi 0 (nI S.2.1.2.2.2.1 - 1) p0 = true) ∧ ¬ (wi 0 9 p1 = true))) k c) (w0 : (wi 0 (nI S.2.1.2.2.2.1 - 1) p0 = true)) (w1 : (wi 0 9 p1 = true)) : False := by
  rcases hb with ⟨rfl, rfl, hb⟩ | ⟨rfl, rfl, hb⟩ <;> grind
theorem P_door {g : qG} (hg : qOK g) (hT : qTHR g) (hCt : qCAT g) {h : qH} {S : CS} {x : Nat → Int32} {y : Nat → Int64} {F : Nat → Nat → Int32} {G : Nat → Nat → Int64} {u : Nat → Int64} (hL : LI h S x y F G u) (p0 p1 : Int32) : PR g h wL_door mX12_door [.int p0, .int p1] 9 3 0 0 := by
  obtain ⟨hC, hM, hR, hI, hu, h93⟩ := id hL
  have hn10 := hI.2.1.1.1
  have hm8 := hI.2.2.1.1
  have hk10 := hI.2.1.1.2.1
  refine ⟨fun h1 k => MidG h1 x y F G (fun (zv : Value) (S' : CS) => S = S' ∧ ∃ x y : Nat, x < S.2.1.2.2.2.1 ∧ y ≤ 9 ∧ p0 = nI x ∧ p1 = nI y ∧ some zv = some (.int (S.2.1.1 (x * 10 + y)))) lvi k ∨ MidB h1 S x y F G (fun k => (k = 0 ∧ ¬ wi 0 (nI S.2.1.2.2.2.1 - 1) p0 = true) ∨ (k = 1 ∧ wi 0 (nI S.2.1.2.2.2.1 - 1) p0 = true ∧ ¬ wi 0 9 p1 = true)) (fun k => nI (k + 1)) k, fun h1 k hm => mid63 hm, ?_, ?_⟩
  · refine qSpecW_mono (W_door hg hT hCt hC.obj (u := u) (F_door hg hT hC hI.2.1.1.1 p0 p1) ?_ ?_) ?_
    · intro v h1 hp
      obtain ⟨xx, yy, hx, hy, e1, e2, hz, hC1, hg1⟩ := hp
      exact ⟨⟨_, hz⟩, hg1.u92 hu⟩
    · intro E h1 hx
      obtain ⟨k, rfl, hq, -, -⟩ := hx
      refine ⟨k, ?_, rfl⟩
      rcases hq with hq | hq <;> (have := hq.1; omega)
    · intro r h1 hr
      rcases hr with ⟨z, h2, hp, rfl, rfl⟩ | ⟨k, hk, hx, rfl⟩
      · obtain ⟨xx, yy, hx, hy, e1, e2, hz, hC1, hg1⟩ := hp
        exact ⟨0, rfl, Or.inl (mid_g hL (Kg := (fun (zv : Value) (S' : CS) => S = S' ∧ ∃ x y : Nat, x < S.2.1.2.2.2.1 ∧ y ≤ 9 ∧ p0 = nI x ∧ p1 = nI y ∧ some zv = some (.int (S.2.1.1 (x * 10 + y))))) (z := .int z) ⟨rfl, xx, yy, hx, hy, e1, e2, hz⟩ hC1 hg1 rfl)⟩
      · refine ⟨(fun k => nI (k + 1)) k, ?_, Or.inr (mid_b hL (by omega) (fun j hj => ?_) hx)⟩
        · rfl
        · rcases hj with hj | hj <;> (have := hj.1; omega)
  · intro h1 k hmid
    rcases hmid with ⟨rfl, zv, S', u', ⟨rfl, xx, yy, hx, hy, e1, e2, hz⟩, hC1, hM1, hu1, hv, h93b⟩ | ⟨j, u', rfl, hq, hC1, hM1, hu1, h93b⟩
    · obtain rfl := Option.some.inj hz
      refine qSpec_mono (M_door hg hM1 hR hI.2.1 p0 p1) fun r h2 hr => ?_
      rcases hr with ⟨-, -, ⟨a, b, ha, hb, f1, f2, rfl⟩, hG⟩ | ⟨k, c, hb, -, -⟩
      · refine ⟨_, rfl, rfl, LA.g hC1 hI hu1 h93b hG (hv.trans ?_)⟩
        obtain rfl : a = xx := (nI_eq (by omega) (by omega)).mp (f1.symm.trans e1)
        obtain rfl : b = yy := (nI_eq (by omega) (by omega)).mp (f2.symm.trans e2)
        rfl
      · exact (PB_door S p0 p1 hb (by rw [e1]; exact wi_dn hn10 hx) (by rw [e2]; exact wi_mn (m := 9) (by decide) hy)).elim
    · refine qSpec_mono (M_door hg hM1 hR hI.2.1 p0 p1) fun r h2 hr => ?_
      rcases hr with ⟨w0, w1, -⟩ | ⟨k, c, hb, ⟨z, rfl⟩, hG⟩
      · exact (PE_door S p0 p1 hq w0 w1).elim
      · obtain ⟨rfl, rfl⟩ := PD_door S p0 p1 hq hb
        refine ⟨_, rfl, rfl, LA.b hC1 hI hu1 h93b hG ?_⟩
        rcases hq with hq | hq <;> (rw [hq.1]; decide)
theorem PD_singer (S : CS) (p0 p1 : Int32) {j k : Nat} {c : Int32} (hq : (fun k => (k = 0 ∧ ¬ wi 0 (nI S.2.2.2.1.2 - 1) p0 = true) ∨ (k = 1 ∧ wi 0 (nI S.2.2.2.1.2 - 1) p0 = true ∧ ¬ wi 0 3 p1 = true)) j) (hb : (fun (k : Nat) (c : Int32) => (k = 0 ∧ c = 1 ∧ ¬ (wi 0 (nI S.2.2.2.1.2 - 1) p0 = true)) ∨ (k = 1 ∧ c = 2 ∧ (wi 0 (nI S.2.2.2.1.2 - 1) p0 = true) ∧ ¬ (wi 0 3 p1 = true))) k c) : k = j ∧ c = (fun k => nI (k + 1)) j := by
  simp only [Bool.and_eq_true] at hq
  rcases hq with ⟨rfl, hq⟩ | ⟨rfl, hq⟩ <;> rcases hb with ⟨rfl, rfl, hb⟩ | ⟨rfl, rfl, hb⟩ <;> first | exact ⟨rfl, rfl⟩ | (exfalso; grind)
theorem PE_singer (S : CS) (p0 p1 : Int32) {j : Nat} (hq : (fun k => (k = 0 ∧ ¬ wi 0 (nI S.2.2.2.1.2 - 1) p0 = true) ∨ (k = 1 ∧ wi 0 (nI S.2.2.2.1.2 - 1) p0 = true ∧ ¬ wi 0 3 p1 = true)) j) (w0 : (wi 0 (nI S.2.2.2.1.2 - 1) p0 = true)) (w1 : (wi 0 3 p1 = true)) : False := by
  simp only [Bool.and_eq_true] at hq
  rcases hq with ⟨rfl, hq⟩ | ⟨rfl, hq⟩ <;> grind
theorem PB_singer (S : CS) (p0 p1 : Int32) {k : Nat} {c : Int32} (hb : (fun (k : Nat) (c : Int32) => (k = 0 ∧ c = 1 ∧ ¬ (wi 0 (nI S.2.2.2.1.2 - 1) p0 = true)) ∨ (k = 1 ∧ c = 2 ∧ (wi 0 (nI S.2.2.2.1.2 - 1) p0 = true) ∧ ¬ (wi 0 3 p1 = true))) k c) (w0 : (wi 0 (nI S.2.2.2.1.2 - 1) p0 = true)) (w1 : (wi 0 3 p1 = true)) : False := by
  rcases hb with ⟨rfl, rfl, hb⟩ | ⟨rfl, rfl, hb⟩ <;> grind
theorem P_singer {g : qG} (hg : qOK g) (hT : qTHR g) (hCt : qCAT g) {h : qH} {S : CS} {x : Nat → Int32} {y : Nat → Int64} {F : Nat → Nat → Int32} {G : Nat → Nat → Int64} {u : Nat → Int64} (hL : LI h S x y F G u) (p0 p1 : Int32) : PR g h wL_singer mX12_singer [.int p0, .int p1] 9 3 0 0 := by
  obtain ⟨hC, hM, hR, hI, hu, h93⟩ := id hL
  have hn10 := hI.2.1.1.1
  have hm8 := hI.2.2.1.1
  have hk10 := hI.2.1.1.2.1
  refine ⟨fun h1 k => MidG h1 x y F G (fun (zv : Value) (S' : CS) => S = S' ∧ ∃ x y : Nat, x < S.2.2.2.1.2 ∧ y ≤ 3 ∧ p0 = nI x ∧ p1 = nI y ∧ some zv = some (.int (S.2.2.2.1.1 (x * 4 + y)))) lvi k ∨ MidB h1 S x y F G (fun k => (k = 0 ∧ ¬ wi 0 (nI S.2.2.2.1.2 - 1) p0 = true) ∨ (k = 1 ∧ wi 0 (nI S.2.2.2.1.2 - 1) p0 = true ∧ ¬ wi 0 3 p1 = true)) (fun k => nI (k + 1)) k, fun h1 k hm => mid63 hm, ?_, ?_⟩
  · refine qSpecW_mono (W_singer hg hT hCt hC.obj (u := u) (F_singer hg hT hC hI.2.2.1.1 p0 p1) ?_ ?_) ?_
    · intro v h1 hp
      obtain ⟨xx, yy, hx, hy, e1, e2, hz, hC1, hg1⟩ := hp
      exact ⟨⟨_, hz⟩, hg1.u92 hu⟩
    · intro E h1 hx
      obtain ⟨k, rfl, hq, -, -⟩ := hx
      refine ⟨k, ?_, rfl⟩
      rcases hq with hq | hq <;> (have := hq.1; omega)
    · intro r h1 hr
      rcases hr with ⟨z, h2, hp, rfl, rfl⟩ | ⟨k, hk, hx, rfl⟩
      · obtain ⟨xx, yy, hx, hy, e1, e2, hz, hC1, hg1⟩ := hp
        exact ⟨0, rfl, Or.inl (mid_g hL (Kg := (fun (zv : Value) (S' : CS) => S = S' ∧ ∃ x y : Nat, x < S.2.2.2.1.2 ∧ y ≤ 3 ∧ p0 = nI x ∧ p1 = nI y ∧ some zv = some (.int (S.2.2.2.1.1 (x * 4 + y))))) (z := .int z) ⟨rfl, xx, yy, hx, hy, e1, e2, hz⟩ hC1 hg1 rfl)⟩
      · refine ⟨(fun k => nI (k + 1)) k, ?_, Or.inr (mid_b hL (by omega) (fun j hj => ?_) hx)⟩
        · rfl
        · rcases hj with hj | hj <;> (have := hj.1; omega)
  · intro h1 k hmid
    rcases hmid with ⟨rfl, zv, S', u', ⟨rfl, xx, yy, hx, hy, e1, e2, hz⟩, hC1, hM1, hu1, hv, h93b⟩ | ⟨j, u', rfl, hq, hC1, hM1, hu1, h93b⟩
    · obtain rfl := Option.some.inj hz
      refine qSpec_mono (M_singer hg hM1 hR hI.2.2.1.1 p0 p1) fun r h2 hr => ?_
      rcases hr with ⟨-, -, ⟨a, b, ha, hb, f1, f2, rfl⟩, hG⟩ | ⟨k, c, hb, -, -⟩
      · refine ⟨_, rfl, rfl, LA.g hC1 hI hu1 h93b hG (hv.trans ?_)⟩
        obtain rfl : a = xx := (nI_eq (by omega) (by omega)).mp (f1.symm.trans e1)
        obtain rfl : b = yy := (nI_eq (by omega) (by omega)).mp (f2.symm.trans e2)
        rfl
      · exact (PB_singer S p0 p1 hb (by rw [e1]; exact wi_dn (Nat.le_trans hm8 (by decide)) hx) (by rw [e2]; exact wi_mn (m := 3) (by decide) hy)).elim
    · refine qSpec_mono (M_singer hg hM1 hR hI.2.2.1.1 p0 p1) fun r h2 hr => ?_
      rcases hr with ⟨w0, w1, -⟩ | ⟨k, c, hb, ⟨z, rfl⟩, hG⟩
      · exact (PE_singer S p0 p1 hq w0 w1).elim
      · obtain ⟨rfl, rfl⟩ := PD_singer S p0 p1 hq hb
        refine ⟨_, rfl, rfl, LA.b hC1 hI hu1 h93b hG ?_⟩
        rcases hq with hq | hq <;> (rw [hq.1]; decide)
theorem PD_line (S : CS) (p0 p1 : Int32) {j k : Nat} {c : Int32} (hq : (fun k => (k = 0 ∧ ¬ wi 0 (nI S.2.1.2.2.2.2.1 - 1) p0 = true) ∨ (k = 1 ∧ wi 0 (nI S.2.1.2.2.2.2.1 - 1) p0 = true ∧ ¬ wi 0 3 p1 = true)) j) (hb : (fun (k : Nat) (c : Int32) => (k = 0 ∧ c = 1 ∧ ¬ (wi 0 (nI S.2.1.2.2.2.2.1 - 1) p0 = true)) ∨ (k = 1 ∧ c = 2 ∧ (wi 0 (nI S.2.1.2.2.2.2.1 - 1) p0 = true) ∧ ¬ (wi 0 3 p1 = true))) k c) : k = j ∧ c = (fun k => nI (k + 1)) j := by
  simp only [Bool.and_eq_true] at hq
  rcases hq with ⟨rfl, hq⟩ | ⟨rfl, hq⟩ <;> rcases hb with ⟨rfl, rfl, hb⟩ | ⟨rfl, rfl, hb⟩ <;> first | exact ⟨rfl, rfl⟩ | (exfalso; grind)
theorem PE_line (S : CS) (p0 p1 : Int32) {j : Nat} (hq : (fun k => (k = 0 ∧ ¬ wi 0 (nI S.2.1.2.2.2.2.1 - 1) p0 = true) ∨ (k = 1 ∧ wi 0 (nI S.2.1.2.2.2.2.1 - 1) p0 = true ∧ ¬ wi 0 3 p1 = true)) j) (w0 : (wi 0 (nI S.2.1.2.2.2.2.1 - 1) p0 = true)) (w1 : (wi 0 3 p1 = true)) : False := by
  simp only [Bool.and_eq_true] at hq
  rcases hq with ⟨rfl, hq⟩ | ⟨rfl, hq⟩ <;> grind
theorem PB_line (S : CS) (p0 p1 : Int32) {k : Nat} {c : Int32} (hb : (fun (k : Nat) (c : Int32) => (k = 0 ∧ c = 1 ∧ ¬ (wi 0 (nI S.2.1.2.2.2.2.1 - 1) p0 = true)) ∨ (k = 1 ∧ c = 2 ∧ (wi 0 (nI S.2.1.2.2.2.2.1 - 1) p0 = true) ∧ ¬ (wi 0 3 p1 = true))) k c) (w0 : (wi 0 (nI S.2.1.2.2.2.2.1 - 1) p0 = true)) (w1 : (wi 0 3 p1 = true)) : False := by
  rcases hb with ⟨rfl, rfl, hb⟩ | ⟨rfl, rfl, hb⟩ <;> grind
theorem P_line {g : qG} (hg : qOK g) (hT : qTHR g) (hCt : qCAT g) {h : qH} {S : CS} {x : Nat → Int32} {y : Nat → Int64} {F : Nat → Nat → Int32} {G : Nat → Nat → Int64} {u : Nat → Int64} (hL : LI h S x y F G u) (p0 p1 : Int32) : PR g h wL_line mX12_line [.int p0, .int p1] 9 3 0 0 := by
  obtain ⟨hC, hM, hR, hI, hu, h93⟩ := id hL
  have hn10 := hI.2.1.1.1
  have hm8 := hI.2.2.1.1
  have hk10 := hI.2.1.1.2.1
  obtain ⟨pf, vf, rf, hP, hpn, hinj⟩ := hI.2.1.2.2.1
  refine ⟨fun h1 k => MidG h1 x y F G (fun (zv : Value) (S' : CS) => S = S' ∧ ∃ x y : Nat, x < S.2.1.2.2.2.2.1 ∧ y ≤ 3 ∧ p0 = nI x ∧ p1 = nI y ∧ some zv = some (.int (if y = 3 then lwayv S.2.1.1 S.2.1.2.2.2.2.2.2.1 pf x else S.2.1.2.1 (x * 3 + y)))) lvi k ∨ MidB h1 S x y F G (fun k => (k = 0 ∧ ¬ wi 0 (nI S.2.1.2.2.2.2.1 - 1) p0 = true) ∨ (k = 1 ∧ wi 0 (nI S.2.1.2.2.2.2.1 - 1) p0 = true ∧ ¬ wi 0 3 p1 = true)) (fun k => nI (k + 1)) k, fun h1 k hm => mid63 hm, ?_, ?_⟩
  · refine qSpecW_mono (W_line hg hT hCt hC.obj (u := u) (F_line hg hT hC hI.2.1.1.2.1 hP p0 p1) ?_ ?_) ?_
    · intro v h1 hp
      obtain ⟨xx, yy, hx, hy, e1, e2, hz, hC1, hg1⟩ := hp
      exact ⟨⟨_, hz⟩, hg1.u92 hu⟩
    · intro E h1 hx
      obtain ⟨k, rfl, hq, -, -⟩ := hx
      refine ⟨k, ?_, rfl⟩
      rcases hq with hq | hq <;> (have := hq.1; omega)
    · intro r h1 hr
      rcases hr with ⟨z, h2, hp, rfl, rfl⟩ | ⟨k, hk, hx, rfl⟩
      · obtain ⟨xx, yy, hx, hy, e1, e2, hz, hC1, hg1⟩ := hp
        exact ⟨0, rfl, Or.inl (mid_g hL (Kg := (fun (zv : Value) (S' : CS) => S = S' ∧ ∃ x y : Nat, x < S.2.1.2.2.2.2.1 ∧ y ≤ 3 ∧ p0 = nI x ∧ p1 = nI y ∧ some zv = some (.int (if y = 3 then lwayv S.2.1.1 S.2.1.2.2.2.2.2.2.1 pf x else S.2.1.2.1 (x * 3 + y))))) (z := .int z) ⟨rfl, xx, yy, hx, hy, e1, e2, hz⟩ hC1 hg1 rfl)⟩
      · refine ⟨(fun k => nI (k + 1)) k, ?_, Or.inr (mid_b hL (by omega) (fun j hj => ?_) hx)⟩
        · rfl
        · rcases hj with hj | hj <;> (have := hj.1; omega)
  · intro h1 k hmid
    rcases hmid with ⟨rfl, zv, S', u', ⟨rfl, xx, yy, hx, hy, e1, e2, hz⟩, hC1, hM1, hu1, hv, h93b⟩ | ⟨j, u', rfl, hq, hC1, hM1, hu1, h93b⟩
    · obtain rfl := Option.some.inj hz
      refine qSpec_mono (M_line hg hM1 hR hP hI.2.1 hpn p0 p1) fun r h2 hr => ?_
      rcases hr with ⟨-, -, ⟨a, b, ha, hb, f1, f2, rfl⟩, hG⟩ | ⟨k, c, hb, -, -⟩
      · refine ⟨_, rfl, rfl, LA.g hC1 hI hu1 h93b hG (hv.trans ?_)⟩
        obtain rfl : a = xx := (nI_eq (by omega) (by omega)).mp (f1.symm.trans e1)
        obtain rfl : b = yy := (nI_eq (by omega) (by omega)).mp (f2.symm.trans e2)
        rfl
      · exact (PB_line S p0 p1 hb (by rw [e1]; exact wi_dn hk10 hx) (by rw [e2]; exact wi_mn (m := 3) (by decide) hy)).elim
    · refine qSpec_mono (M_line hg hM1 hR hP hI.2.1 hpn p0 p1) fun r h2 hr => ?_
      rcases hr with ⟨w0, w1, -⟩ | ⟨k, c, hb, ⟨z, rfl⟩, hG⟩
      · exact (PE_line S p0 p1 hq w0 w1).elim
      · obtain ⟨rfl, rfl⟩ := PD_line S p0 p1 hq hb
        refine ⟨_, rfl, rfl, LA.b hC1 hI hu1 h93b hG ?_⟩
        rcases hq with hq | hq <;> (rw [hq.1]; decide)
theorem PD_gives (S : CS) (p0 p1 p2 : Int32) {j k : Nat} {c : Int32} (hq : (fun k => (k = 0 ∧ ¬ wi 0 (nI S.2.1.2.2.2.1 - 1) p0 = true) ∨ (k = 1 ∧ wi 0 (nI S.2.1.2.2.2.1 - 1) p0 = true ∧ ¬ (wi 0 60 p1 && wi 0 9 p2) = true)) j) (hb : (fun (k : Nat) (c : Int32) => (k = 0 ∧ c = 1 ∧ ¬ (wi 0 (nI S.2.1.2.2.2.1 - 1) p0 = true)) ∨ (k = 1 ∧ c = 2 ∧ (wi 0 (nI S.2.1.2.2.2.1 - 1) p0 = true) ∧ ¬ (wi 0 60 p1 = true ∧ wi 0 9 p2 = true))) k c) : k = j ∧ c = (fun k => nI (k + 1)) j := by
  simp only [Bool.and_eq_true] at hq
  rcases hq with ⟨rfl, hq⟩ | ⟨rfl, hq⟩ <;> rcases hb with ⟨rfl, rfl, hb⟩ | ⟨rfl, rfl, hb⟩ <;> first | exact ⟨rfl, rfl⟩ | (exfalso; grind)
theorem PE_gives (S : CS) (p0 p1 p2 : Int32) {j : Nat} (hq : (fun k => (k = 0 ∧ ¬ wi 0 (nI S.2.1.2.2.2.1 - 1) p0 = true) ∨ (k = 1 ∧ wi 0 (nI S.2.1.2.2.2.1 - 1) p0 = true ∧ ¬ (wi 0 60 p1 && wi 0 9 p2) = true)) j) (w0 : (wi 0 (nI S.2.1.2.2.2.1 - 1) p0 = true)) (w1 : (wi 0 60 p1 = true ∧ wi 0 9 p2 = true)) : False := by
  simp only [Bool.and_eq_true] at hq
  rcases hq with ⟨rfl, hq⟩ | ⟨rfl, hq⟩ <;> grind
theorem PB_gives (S : CS) (p0 p1 p2 : Int32) {k : Nat} {c : Int32} (hb : (fun (k : Nat) (c : Int32) => (k = 0 ∧ c = 1 ∧ ¬ (wi 0 (nI S.2.1.2.2.2.1 - 1) p0 = true)) ∨ (k = 1 ∧ c = 2 ∧ (wi 0 (nI S.2.1.2.2.2.1 - 1) p0 = true) ∧ ¬ (wi 0 60 p1 = true ∧ wi 0 9 p2 = true))) k c) (w0 : (wi 0 (nI S.2.1.2.2.2.1 - 1) p0 = true)) (w1 : (wi 0 60 p1 = true ∧ wi 0 9 p2 = true)) : False := by
  rcases hb with ⟨rfl, rfl, hb⟩ | ⟨rfl, rfl, hb⟩ <;> grind
theorem P_gives {g : qG} (hg : qOK g) (hT : qTHR g) (hCt : qCAT g) {h : qH} {S : CS} {x : Nat → Int32} {y : Nat → Int64} {F : Nat → Nat → Int32} {G : Nat → Nat → Int64} {u : Nat → Int64} (hL : LI h S x y F G u) (p0 p1 p2 : Int32) : PR g h wL_gives mX12_gives [.int p0, .int p1, .int p2] 9 4 0 0 := by
  obtain ⟨hC, hM, hR, hI, hu, h93⟩ := id hL
  have hn10 := hI.2.1.1.1
  have hm8 := hI.2.2.1.1
  have hk10 := hI.2.1.1.2.1
  refine ⟨fun h1 k => MidG h1 x y F G (fun (zv : Value) (S' : CS) => S = S' ∧ (wi 0 60 p1 && wi 0 9 p2) = true ∧ ∃ x : Nat, x < S.2.1.2.2.2.1 ∧ p0 = nI x ∧ some zv = some (.int (vgift S.2.1.1 S.2.2.2.2.1.1.1 S.2.2.2.2.1.1.2.1 S.2.2.2.2.1.1.2.2 (nI S.2.2.2.1.2) x p1 p2))) lvi k ∨ MidB h1 S x y F G (fun k => (k = 0 ∧ ¬ wi 0 (nI S.2.1.2.2.2.1 - 1) p0 = true) ∨ (k = 1 ∧ wi 0 (nI S.2.1.2.2.2.1 - 1) p0 = true ∧ ¬ (wi 0 60 p1 && wi 0 9 p2) = true)) (fun k => nI (k + 1)) k, fun h1 k hm => mid63 hm, ?_, ?_⟩
  · refine qSpecW_mono (W_gives hg hT hCt hC.obj (u := u) (F_gives hg hT hC hI.2.1.1.1 hI.2.2.2.1.1 p0 p1 p2) ?_ ?_) ?_
    · intro v h1 hp
      obtain ⟨w, xx, hx, e1, hz, hC1, hg1⟩ := hp
      exact ⟨⟨_, hz⟩, hg1.u92 hu⟩
    · intro E h1 hx
      obtain ⟨k, rfl, hq, -, -⟩ := hx
      refine ⟨k, ?_, rfl⟩
      rcases hq with hq | hq <;> (have := hq.1; omega)
    · intro r h1 hr
      rcases hr with ⟨z, h2, hp, rfl, rfl⟩ | ⟨k, hk, hx, rfl⟩
      · obtain ⟨w, xx, hx, e1, hz, hC1, hg1⟩ := hp
        exact ⟨0, rfl, Or.inl (mid_g hL (Kg := (fun (zv : Value) (S' : CS) => S = S' ∧ (wi 0 60 p1 && wi 0 9 p2) = true ∧ ∃ x : Nat, x < S.2.1.2.2.2.1 ∧ p0 = nI x ∧ some zv = some (.int (vgift S.2.1.1 S.2.2.2.2.1.1.1 S.2.2.2.2.1.1.2.1 S.2.2.2.2.1.1.2.2 (nI S.2.2.2.1.2) x p1 p2)))) (z := .int z) ⟨rfl, w, xx, hx, e1, hz⟩ hC1 hg1 rfl)⟩
      · refine ⟨(fun k => nI (k + 1)) k, ?_, Or.inr (mid_b hL (by omega) (fun j hj => ?_) hx)⟩
        · rfl
        · rcases hj with hj | hj <;> (have := hj.1; omega)
  · intro h1 k hmid
    rcases hmid with ⟨rfl, zv, S', u', ⟨rfl, w, xx, hx, e1, hz⟩, hC1, hM1, hu1, hv, h93b⟩ | ⟨j, u', rfl, hq, hC1, hM1, hu1, h93b⟩
    · obtain rfl := Option.some.inj hz
      refine qSpec_mono (M_gives hg hM1 hR hI.2.1 hI.2.2.2.1.1 p0 p1 p2) fun r h2 hr => ?_
      rcases hr with ⟨-, -, ⟨a, ha, f1, rfl⟩, hG⟩ | ⟨k, c, hb, -, -⟩
      · refine ⟨_, rfl, rfl, LA.g hC1 hI hu1 h93b hG (hv.trans ?_)⟩
        obtain rfl : a = xx := (nI_eq (by omega) (by omega)).mp (f1.symm.trans e1)
        rfl
      · exact (PB_gives S p0 p1 p2 hb (by rw [e1]; exact wi_dn hn10 hx) (by simpa using w)).elim
    · refine qSpec_mono (M_gives hg hM1 hR hI.2.1 hI.2.2.2.1.1 p0 p1 p2) fun r h2 hr => ?_
      rcases hr with ⟨w0, w1, -⟩ | ⟨k, c, hb, ⟨z, rfl⟩, hG⟩
      · exact (PE_gives S p0 p1 p2 hq w0 w1).elim
      · obtain ⟨rfl, rfl⟩ := PD_gives S p0 p1 p2 hq hb
        refine ⟨_, rfl, rfl, LA.b hC1 hI hu1 h93b hG ?_⟩
        rcases hq with hq | hq <;> (rw [hq.1]; decide)
theorem PD_mean (S : CS) (p0 p1 p2 p3 p4 : Int32) {j k : Nat} {c : Int32} (hq : (fun k => (k = 0 ∧ ¬ wi 0 (nI S.2.1.2.2.2.1 - 1) p0 = true) ∨ (k = 1 ∧ wi 0 (nI S.2.1.2.2.2.1 - 1) p0 = true ∧ ¬ (wi 0 5 p1 && wi 0 2 p2) = true) ∨ (k = 1 ∧ wi 0 (nI S.2.1.2.2.2.1 - 1) p0 = true ∧ (wi 0 5 p1 && wi 0 2 p2) = true ∧ ¬ (wi 0 3 p3 && wi 0 1 p4) = true)) j) (hb : (fun (k : Nat) (c : Int32) => (k = 0 ∧ c = 1 ∧ ¬ (wi 0 (nI S.2.1.2.2.2.1 - 1) p0 = true)) ∨ (k = 1 ∧ c = 2 ∧ (wi 0 (nI S.2.1.2.2.2.1 - 1) p0 = true) ∧ ¬ (wi 0 5 p1 = true ∧ wi 0 2 p2 = true ∧ wi 0 3 p3 = true ∧ wi 0 1 p4 = true))) k c) : k = j ∧ c = (fun k => nI (k + 1)) j := by
  simp only [Bool.and_eq_true] at hq
  rcases hq with ⟨rfl, hq⟩ | ⟨rfl, hq⟩ | ⟨rfl, hq⟩ <;> rcases hb with ⟨rfl, rfl, hb⟩ | ⟨rfl, rfl, hb⟩ <;> first | exact ⟨rfl, rfl⟩ | (exfalso; grind)
theorem PE_mean (S : CS) (p0 p1 p2 p3 p4 : Int32) {j : Nat} (hq : (fun k => (k = 0 ∧ ¬ wi 0 (nI S.2.1.2.2.2.1 - 1) p0 = true) ∨ (k = 1 ∧ wi 0 (nI S.2.1.2.2.2.1 - 1) p0 = true ∧ ¬ (wi 0 5 p1 && wi 0 2 p2) = true) ∨ (k = 1 ∧ wi 0 (nI S.2.1.2.2.2.1 - 1) p0 = true ∧ (wi 0 5 p1 && wi 0 2 p2) = true ∧ ¬ (wi 0 3 p3 && wi 0 1 p4) = true)) j) (w0 : (wi 0 (nI S.2.1.2.2.2.1 - 1) p0 = true)) (w1 : (wi 0 5 p1 = true ∧ wi 0 2 p2 = true ∧ wi 0 3 p3 = true ∧ wi 0 1 p4 = true)) : False := by
  simp only [Bool.and_eq_true] at hq
  rcases hq with ⟨rfl, hq⟩ | ⟨rfl, hq⟩ | ⟨rfl, hq⟩ <;> grind
theorem PB_mean (S : CS) (p0 p1 p2 p3 p4 : Int32) {k : Nat} {c : Int32} (hb : (fun (k : Nat) (c : Int32) => (k = 0 ∧ c = 1 ∧ ¬ (wi 0 (nI S.2.1.2.2.2.1 - 1) p0 = true)) ∨ (k = 1 ∧ c = 2 ∧ (wi 0 (nI S.2.1.2.2.2.1 - 1) p0 = true) ∧ ¬ (wi 0 5 p1 = true ∧ wi 0 2 p2 = true ∧ wi 0 3 p3 = true ∧ wi 0 1 p4 = true))) k c) (w0 : (wi 0 (nI S.2.1.2.2.2.1 - 1) p0 = true)) (w1 : (wi 0 5 p1 = true ∧ wi 0 2 p2 = true ∧ wi 0 3 p3 = true ∧ wi 0 1 p4 = true)) : False := by
  rcases hb with ⟨rfl, rfl, hb⟩ | ⟨rfl, rfl, hb⟩ <;> grind
theorem P_mean {g : qG} (hg : qOK g) (hT : qTHR g) (hCt : qCAT g) {h : qH} {S : CS} {x : Nat → Int32} {y : Nat → Int64} {F : Nat → Nat → Int32} {G : Nat → Nat → Int64} {u : Nat → Int64} (hL : LI h S x y F G u) (p0 p1 p2 p3 p4 : Int32) : PR g h wL_mean mX12_mean [.int p0, .int p1, .int p2, .int p3, .int p4] 10 6 0 0 := by
  obtain ⟨hC, hM, hR, hI, hu, h93⟩ := id hL
  have hn10 := hI.2.1.1.1
  have hm8 := hI.2.2.1.1
  have hk10 := hI.2.1.1.2.1
  refine ⟨fun h1 k => MidG h1 x y F G (fun (zv : Value) (S' : CS) => S = S' ∧ (wi 0 5 p1 && wi 0 2 p2) = true ∧ (wi 0 3 p3 && wi 0 1 p4) = true ∧ ∃ x y z u : Nat, x < S.2.1.2.2.2.1 ∧ y ≤ 5 ∧ z ≤ 2 ∧ u ≤ 3 ∧ p0 = nI x ∧ p1 = nI y ∧ p2 = nI z ∧ p3 = nI u ∧ some zv = some (.long (lterms (if u = 0 then (vmean (fun z => vgift S.2.1.1 S.2.2.2.2.1.1.1 S.2.2.2.2.1.1.2.1 S.2.2.2.2.1.1.2.2 (nI S.2.2.2.1.2) x z 0) S.2.1.1 S.2.1.2.2.2.2.2.2.2.1 x z y).2.2.1 else if u = 1 then (vmean (fun z => vgift S.2.1.1 S.2.2.2.2.1.1.1 S.2.2.2.2.1.1.2.1 S.2.2.2.2.1.1.2.2 (nI S.2.2.2.1.2) x z 0) S.2.1.1 S.2.1.2.2.2.2.2.2.2.1 x z y).2.2.2.1 else if u = 2 then (vmean (fun z => vgift S.2.1.1 S.2.2.2.2.1.1.1 S.2.2.2.2.1.1.2.1 S.2.2.2.2.1.1.2.2 (nI S.2.2.2.1.2) x z 0) S.2.1.1 S.2.1.2.2.2.2.2.2.2.1 x z y).2.2.1 * (S.2.1.1 (x * 10 + 2)).toInt64 else (vmean (fun z => vgift S.2.1.1 S.2.2.2.2.1.1.1 S.2.2.2.2.1.1.2.1 S.2.2.2.2.1.1.2.2 (nI S.2.2.2.1.2) x z 0) S.2.1.1 S.2.1.2.2.2.2.2.2.2.1 x z y).2.2.2.2 + (vmean (fun z => vgift S.2.1.1 S.2.2.2.2.1.1.1 S.2.2.2.2.1.1.2.1 S.2.2.2.2.1.1.2.2 (nI S.2.2.2.1.2) x z 0) S.2.1.1 S.2.1.2.2.2.2.2.2.2.1 x z y).2.2.1 * (S.2.1.1 (x * 10 + 9)).toInt64) 268435456 p4))) lvi k ∨ MidB h1 S x y F G (fun k => (k = 0 ∧ ¬ wi 0 (nI S.2.1.2.2.2.1 - 1) p0 = true) ∨ (k = 1 ∧ wi 0 (nI S.2.1.2.2.2.1 - 1) p0 = true ∧ ¬ (wi 0 5 p1 && wi 0 2 p2) = true) ∨ (k = 1 ∧ wi 0 (nI S.2.1.2.2.2.1 - 1) p0 = true ∧ (wi 0 5 p1 && wi 0 2 p2) = true ∧ ¬ (wi 0 3 p3 && wi 0 1 p4) = true)) (fun k => nI (k + 1)) k, fun h1 k hm => mid63 hm, ?_, ?_⟩
  · refine qSpecW_mono (W_mean hg hT hCt hC.obj (u := u) (F_mean hg hT hC hI.2.1.1.1 hI.2.2.2.1.1 p0 p1 p2 p3 p4) ?_ ?_) ?_
    · intro v h1 hp
      obtain ⟨w1, w2, xx, yy, zz, uu, hx, hy, hz1, hu2, e1, e2, e3, e4, hz, hC1, hg1⟩ := hp
      exact ⟨⟨_, hz⟩, hg1.u92 hu⟩
    · intro E h1 hx
      obtain ⟨k, rfl, hq, -, -⟩ := hx
      refine ⟨k, ?_, rfl⟩
      rcases hq with hq | hq | hq <;> (have := hq.1; omega)
    · intro r h1 hr
      rcases hr with ⟨z, h2, hp, rfl, rfl⟩ | ⟨k, hk, hx, rfl⟩
      · obtain ⟨w1, w2, xx, yy, zz, uu, hx, hy, hz1, hu2, e1, e2, e3, e4, hz, hC1, hg1⟩ := hp
        exact ⟨0, rfl, Or.inl (mid_g hL (Kg := (fun (zv : Value) (S' : CS) => S = S' ∧ (wi 0 5 p1 && wi 0 2 p2) = true ∧ (wi 0 3 p3 && wi 0 1 p4) = true ∧ ∃ x y z u : Nat, x < S.2.1.2.2.2.1 ∧ y ≤ 5 ∧ z ≤ 2 ∧ u ≤ 3 ∧ p0 = nI x ∧ p1 = nI y ∧ p2 = nI z ∧ p3 = nI u ∧ some zv = some (.long (lterms (if u = 0 then (vmean (fun z => vgift S.2.1.1 S.2.2.2.2.1.1.1 S.2.2.2.2.1.1.2.1 S.2.2.2.2.1.1.2.2 (nI S.2.2.2.1.2) x z 0) S.2.1.1 S.2.1.2.2.2.2.2.2.2.1 x z y).2.2.1 else if u = 1 then (vmean (fun z => vgift S.2.1.1 S.2.2.2.2.1.1.1 S.2.2.2.2.1.1.2.1 S.2.2.2.2.1.1.2.2 (nI S.2.2.2.1.2) x z 0) S.2.1.1 S.2.1.2.2.2.2.2.2.2.1 x z y).2.2.2.1 else if u = 2 then (vmean (fun z => vgift S.2.1.1 S.2.2.2.2.1.1.1 S.2.2.2.2.1.1.2.1 S.2.2.2.2.1.1.2.2 (nI S.2.2.2.1.2) x z 0) S.2.1.1 S.2.1.2.2.2.2.2.2.2.1 x z y).2.2.1 * (S.2.1.1 (x * 10 + 2)).toInt64 else (vmean (fun z => vgift S.2.1.1 S.2.2.2.2.1.1.1 S.2.2.2.2.1.1.2.1 S.2.2.2.2.1.1.2.2 (nI S.2.2.2.1.2) x z 0) S.2.1.1 S.2.1.2.2.2.2.2.2.2.1 x z y).2.2.2.2 + (vmean (fun z => vgift S.2.1.1 S.2.2.2.2.1.1.1 S.2.2.2.2.1.1.2.1 S.2.2.2.2.1.1.2.2 (nI S.2.2.2.1.2) x z 0) S.2.1.1 S.2.1.2.2.2.2.2.2.2.1 x z y).2.2.1 * (S.2.1.1 (x * 10 + 9)).toInt64) 268435456 p4)))) (z := .long z) ⟨rfl, w1, w2, xx, yy, zz, uu, hx, hy, hz1, hu2, e1, e2, e3, e4, hz⟩ hC1 hg1 rfl)⟩
      · refine ⟨(fun k => nI (k + 1)) k, ?_, Or.inr (mid_b hL (by omega) (fun j hj => ?_) hx)⟩
        · rfl
        · rcases hj with hj | hj | hj <;> (have := hj.1; omega)
  · intro h1 k hmid
    rcases hmid with ⟨rfl, zv, S', u', ⟨rfl, w1, w2, xx, yy, zz, uu, hx, hy, hz1, hu2, e1, e2, e3, e4, hz⟩, hC1, hM1, hu1, hv, h93b⟩ | ⟨j, u', rfl, hq, hC1, hM1, hu1, h93b⟩
    · obtain rfl := Option.some.inj hz
      refine qSpec_mono (M_mean hg hM1 hR hI.2.1 hI.2.2.2.1.1 p0 p1 p2 p3 p4) fun r h2 hr => ?_
      rcases hr with ⟨-, -, ⟨a, b, c1, d1, ha, hb, hc, hd, f1, f2, f3, f4, rfl⟩, hG⟩ | ⟨k, c, hb, -, -⟩
      · refine ⟨_, rfl, rfl, LA.g hC1 hI hu1 h93b hG (hv.trans ?_)⟩
        obtain rfl : a = xx := (nI_eq (by omega) (by omega)).mp (f1.symm.trans e1)
        obtain rfl : b = yy := (nI_eq (by omega) (by omega)).mp (f2.symm.trans e2)
        obtain rfl : c1 = zz := (nI_eq (by omega) (by omega)).mp (f3.symm.trans e3)
        obtain rfl : d1 = uu := (nI_eq (by omega) (by omega)).mp (f4.symm.trans e4)
        rfl
      · exact (PB_mean S p0 p1 p2 p3 p4 hb (by rw [e1]; exact wi_dn hn10 hx) ⟨((Bool.and_eq_true _ _).mp w1).1, ((Bool.and_eq_true _ _).mp w1).2, ((Bool.and_eq_true _ _).mp w2).1, ((Bool.and_eq_true _ _).mp w2).2⟩).elim
    · refine qSpec_mono (M_mean hg hM1 hR hI.2.1 hI.2.2.2.1.1 p0 p1 p2 p3 p4) fun r h2 hr => ?_
      rcases hr with ⟨w0, w1, -⟩ | ⟨k, c, hb, ⟨z, rfl⟩, hG⟩
      · exact (PE_mean S p0 p1 p2 p3 p4 hq w0 w1).elim
      · obtain ⟨rfl, rfl⟩ := PD_mean S p0 p1 p2 p3 p4 hq hb
        refine ⟨_, rfl, rfl, LA.b hC1 hI hu1 h93b hG ?_⟩
        rcases hq with hq | hq | hq <;> (rw [hq.1]; decide)
theorem PD_planned (S : CS) (p0 p1 : Int32) {j k : Nat} {c : Int32} (hq : (fun k => (k = 1 ∧ ¬ (wi 0 3 p0 && wi 0 1 p1) = true)) j) (hb : (fun (k : Nat) (c : Int32) => (k = 1 ∧ c = 1 ∧ ¬ (wi 0 3 p0 = true ∧ wi 0 1 p1 = true))) k c) : k = j ∧ c = (fun _ => 1) j := by
  simp only [Bool.and_eq_true] at hq
  rcases hq with ⟨rfl, hq⟩ <;> rcases hb with ⟨rfl, rfl, hb⟩ <;> first | exact ⟨rfl, rfl⟩ | (exfalso; grind)
theorem PE_planned (S : CS) (p0 p1 : Int32) {j : Nat} (hq : (fun k => (k = 1 ∧ ¬ (wi 0 3 p0 && wi 0 1 p1) = true)) j) (w0 : (wi 0 3 p0 = true ∧ wi 0 1 p1 = true)) : False := by
  simp only [Bool.and_eq_true] at hq
  rcases hq with ⟨rfl, hq⟩ <;> grind
theorem PB_planned (S : CS) (p0 p1 : Int32) {k : Nat} {c : Int32} (hb : (fun (k : Nat) (c : Int32) => (k = 1 ∧ c = 1 ∧ ¬ (wi 0 3 p0 = true ∧ wi 0 1 p1 = true))) k c) (w0 : (wi 0 3 p0 = true ∧ wi 0 1 p1 = true)) : False := by
  rcases hb with ⟨rfl, rfl, hb⟩ <;> grind
theorem P_planned {g : qG} (hg : qOK g) (hT : qTHR g) (hCt : qCAT g) {h : qH} {S : CS} {x : Nat → Int32} {y : Nat → Int64} {F : Nat → Nat → Int32} {G : Nat → Nat → Int64} {u : Nat → Int64} (hL : LI h S x y F G u) (p0 p1 : Int32) : PR g h wL_planned mX12_planned [.int p0, .int p1] 10 7 0 0 := by
  obtain ⟨hC, hM, hR, hI, hu, h93⟩ := id hL
  have hn10 := hI.2.1.1.1
  have hm8 := hI.2.2.1.1
  have hk10 := hI.2.1.1.2.1
  obtain ⟨pf, vf, rf, hP, hpn, hinj⟩ := hI.2.1.2.2.1
  refine ⟨fun h1 k => MidG h1 x y F G (fun (zv : Value) (S' : CS) => S = S' ∧ (wi 0 3 p0 && wi 0 1 p1) = true ∧ ∃ u : Nat, u ≤ 3 ∧ p0 = nI u ∧ some zv = some (.long (lterms (if u = 0 then (tsum S.2.1.1 S.2.2.2.2.1.1.1 S.2.2.2.2.1.1.2.1 S.2.2.2.2.1.1.2.2 (nI S.2.2.2.1.2) S.2.1.2.2.2.2.2.2.1 S.2.1.2.2.2.2.2.2.2.1 pf vf rf 0 (S.2.1.2.2.2.2.1 - 0) (0, 0, 0, 0)).1 else if u = 1 then (tsum S.2.1.1 S.2.2.2.2.1.1.1 S.2.2.2.2.1.1.2.1 S.2.2.2.2.1.1.2.2 (nI S.2.2.2.1.2) S.2.1.2.2.2.2.2.2.1 S.2.1.2.2.2.2.2.2.2.1 pf vf rf 0 (S.2.1.2.2.2.2.1 - 0) (0, 0, 0, 0)).2.1 else if u = 2 then (tsum S.2.1.1 S.2.2.2.2.1.1.1 S.2.2.2.2.1.1.2.1 S.2.2.2.2.1.1.2.2 (nI S.2.2.2.1.2) S.2.1.2.2.2.2.2.2.1 S.2.1.2.2.2.2.2.2.2.1 pf vf rf 0 (S.2.1.2.2.2.2.1 - 0) (0, 0, 0, 0)).2.2.1 else (tsum S.2.1.1 S.2.2.2.2.1.1.1 S.2.2.2.2.1.1.2.1 S.2.2.2.2.1.1.2.2 (nI S.2.2.2.1.2) S.2.1.2.2.2.2.2.2.1 S.2.1.2.2.2.2.2.2.2.1 pf vf rf 0 (S.2.1.2.2.2.2.1 - 0) (0, 0, 0, 0)).2.2.2) 268435456 p1))) lvi k ∨ MidB h1 S x y F G (fun k => (k = 1 ∧ ¬ (wi 0 3 p0 && wi 0 1 p1) = true)) (fun _ => 1) k, fun h1 k hm => mid63 hm, ?_, ?_⟩
  · refine qSpecW_mono (W_planned hg hT hCt hC.obj (u := u) (F_planned hg hT hC hI.2.1.1.2.1 hP hI.2.2.2.1.1 p0 p1) ?_ ?_) ?_
    · intro v h1 hp
      obtain ⟨w, uu, hu2, e1, hz, hC1, hg1⟩ := hp
      exact ⟨⟨_, hz⟩, hg1.u92 hu⟩
    · intro E h1 hx
      obtain ⟨k, rfl, hq, -, -⟩ := hx
      refine ⟨k, ?_, rfl⟩
      rcases hq with hq <;> (have := hq.1; omega)
    · intro r h1 hr
      rcases hr with ⟨z, h2, hp, rfl, rfl⟩ | ⟨k, hk, hx, rfl⟩
      · obtain ⟨w, uu, hu2, e1, hz, hC1, hg1⟩ := hp
        exact ⟨0, rfl, Or.inl (mid_g hL (Kg := (fun (zv : Value) (S' : CS) => S = S' ∧ (wi 0 3 p0 && wi 0 1 p1) = true ∧ ∃ u : Nat, u ≤ 3 ∧ p0 = nI u ∧ some zv = some (.long (lterms (if u = 0 then (tsum S.2.1.1 S.2.2.2.2.1.1.1 S.2.2.2.2.1.1.2.1 S.2.2.2.2.1.1.2.2 (nI S.2.2.2.1.2) S.2.1.2.2.2.2.2.2.1 S.2.1.2.2.2.2.2.2.2.1 pf vf rf 0 (S.2.1.2.2.2.2.1 - 0) (0, 0, 0, 0)).1 else if u = 1 then (tsum S.2.1.1 S.2.2.2.2.1.1.1 S.2.2.2.2.1.1.2.1 S.2.2.2.2.1.1.2.2 (nI S.2.2.2.1.2) S.2.1.2.2.2.2.2.2.1 S.2.1.2.2.2.2.2.2.2.1 pf vf rf 0 (S.2.1.2.2.2.2.1 - 0) (0, 0, 0, 0)).2.1 else if u = 2 then (tsum S.2.1.1 S.2.2.2.2.1.1.1 S.2.2.2.2.1.1.2.1 S.2.2.2.2.1.1.2.2 (nI S.2.2.2.1.2) S.2.1.2.2.2.2.2.2.1 S.2.1.2.2.2.2.2.2.2.1 pf vf rf 0 (S.2.1.2.2.2.2.1 - 0) (0, 0, 0, 0)).2.2.1 else (tsum S.2.1.1 S.2.2.2.2.1.1.1 S.2.2.2.2.1.1.2.1 S.2.2.2.2.1.1.2.2 (nI S.2.2.2.1.2) S.2.1.2.2.2.2.2.2.1 S.2.1.2.2.2.2.2.2.2.1 pf vf rf 0 (S.2.1.2.2.2.2.1 - 0) (0, 0, 0, 0)).2.2.2) 268435456 p1)))) (z := .long z) ⟨rfl, w, uu, hu2, e1, hz⟩ hC1 hg1 rfl)⟩
      · refine ⟨(fun _ => 1) k, ?_, Or.inr (mid_b hL (by omega) (fun j hj => ?_) hx)⟩
        · rfl
        · rcases hj with hj <;> (have := hj.1; omega)
  · intro h1 k hmid
    rcases hmid with ⟨rfl, zv, S', u', ⟨rfl, w, uu, hu2, e1, hz⟩, hC1, hM1, hu1, hv, h93b⟩ | ⟨j, u', rfl, hq, hC1, hM1, hu1, h93b⟩
    · obtain rfl := Option.some.inj hz
      refine qSpec_mono (M_planned hg hM1 hR hP hI.2.1 hpn hI.2.2.2.1.1 p0 p1) fun r h2 hr => ?_
      rcases hr with ⟨-, ⟨a, ha, f1, rfl⟩, hG⟩ | ⟨k, c, hb, -, -⟩
      · refine ⟨_, rfl, rfl, LA.g hC1 hI hu1 h93b hG (hv.trans ?_)⟩
        obtain rfl : a = uu := (nI_eq (by omega) (by omega)).mp (f1.symm.trans e1)
        rfl
      · exact (PB_planned S p0 p1 hb (by simpa using w)).elim
    · refine qSpec_mono (M_planned hg hM1 hR hP hI.2.1 hpn hI.2.2.2.1.1 p0 p1) fun r h2 hr => ?_
      rcases hr with ⟨w0, -⟩ | ⟨k, c, hb, ⟨z, rfl⟩, hG⟩
      · exact (PE_planned S p0 p1 hq w0).elim
      · obtain ⟨rfl, rfl⟩ := PD_planned S p0 p1 hq hb
        refine ⟨_, rfl, rfl, LA.b hC1 hI hu1 h93b hG ?_⟩
        rcases hq with hq <;> (rw [hq.1]; decide)
theorem PD_home (S : CS) (p0 p1 p2 p3 : Int32) {j k : Nat} {c : Int32} (hq : (fun k => (k = 0 ∧ ¬ wi 0 (nI S.2.1.2.2.2.1 - 1) p0 = true) ∨ (k = 1 ∧ wi 0 (nI S.2.1.2.2.2.1 - 1) p0 = true ∧ ¬ (wi 0 2 p1 && (wi 0 10 p2 && wi 0 1 p3)) = true)) j) (hb : (fun (k : Nat) (c : Int32) => (k = 0 ∧ c = 1 ∧ ¬ (wi 0 (nI S.2.1.2.2.2.1 - 1) p0 = true)) ∨ (k = 1 ∧ c = 2 ∧ (wi 0 (nI S.2.1.2.2.2.1 - 1) p0 = true) ∧ ¬ (wi 0 2 p1 = true ∧ wi 0 10 p2 = true ∧ wi 0 1 p3 = true))) k c) : k = j ∧ c = (fun k => nI (k + 1)) j := by
  simp only [Bool.and_eq_true] at hq
  rcases hq with ⟨rfl, hq⟩ | ⟨rfl, hq⟩ <;> rcases hb with ⟨rfl, rfl, hb⟩ | ⟨rfl, rfl, hb⟩ <;> first | exact ⟨rfl, rfl⟩ | (exfalso; grind)
theorem PE_home (S : CS) (p0 p1 p2 p3 : Int32) {j : Nat} (hq : (fun k => (k = 0 ∧ ¬ wi 0 (nI S.2.1.2.2.2.1 - 1) p0 = true) ∨ (k = 1 ∧ wi 0 (nI S.2.1.2.2.2.1 - 1) p0 = true ∧ ¬ (wi 0 2 p1 && (wi 0 10 p2 && wi 0 1 p3)) = true)) j) (w0 : (wi 0 (nI S.2.1.2.2.2.1 - 1) p0 = true)) (w1 : (wi 0 2 p1 = true ∧ wi 0 10 p2 = true ∧ wi 0 1 p3 = true)) : False := by
  simp only [Bool.and_eq_true] at hq
  rcases hq with ⟨rfl, hq⟩ | ⟨rfl, hq⟩ <;> grind
theorem PB_home (S : CS) (p0 p1 p2 p3 : Int32) {k : Nat} {c : Int32} (hb : (fun (k : Nat) (c : Int32) => (k = 0 ∧ c = 1 ∧ ¬ (wi 0 (nI S.2.1.2.2.2.1 - 1) p0 = true)) ∨ (k = 1 ∧ c = 2 ∧ (wi 0 (nI S.2.1.2.2.2.1 - 1) p0 = true) ∧ ¬ (wi 0 2 p1 = true ∧ wi 0 10 p2 = true ∧ wi 0 1 p3 = true))) k c) (w0 : (wi 0 (nI S.2.1.2.2.2.1 - 1) p0 = true)) (w1 : (wi 0 2 p1 = true ∧ wi 0 10 p2 = true ∧ wi 0 1 p3 = true)) : False := by
  rcases hb with ⟨rfl, rfl, hb⟩ | ⟨rfl, rfl, hb⟩ <;> grind
theorem P_home {g : qG} (hg : qOK g) (hT : qTHR g) (hCt : qCAT g) {h : qH} {S : CS} {x : Nat → Int32} {y : Nat → Int64} {F : Nat → Nat → Int32} {G : Nat → Nat → Int64} {u : Nat → Int64} (hL : LI h S x y F G u) (p0 p1 p2 p3 : Int32) : PR g h wL_home mX12_home [.int p0, .int p1, .int p2, .int p3] 9 5 0 0 := by
  obtain ⟨hC, hM, hR, hI, hu, h93⟩ := id hL
  have hn10 := hI.2.1.1.1
  have hm8 := hI.2.2.1.1
  have hk10 := hI.2.1.1.2.1
  refine ⟨fun h1 k => MidG h1 x y F G (fun (zv : Value) (S' : CS) => S = S' ∧ (wi 0 2 p1 && (wi 0 10 p2 && wi 0 1 p3)) = true ∧ ∃ x y : Nat, x < S.2.1.2.2.2.1 ∧ y ≤ 10 ∧ p0 = nI x ∧ p2 = nI y ∧ some zv = some (.long (lterms (vin S.2.1.1 x p1 y) (vall S.2.1.1 x p1 y) p3))) lvi k ∨ MidB h1 S x y F G (fun k => (k = 0 ∧ ¬ wi 0 (nI S.2.1.2.2.2.1 - 1) p0 = true) ∨ (k = 1 ∧ wi 0 (nI S.2.1.2.2.2.1 - 1) p0 = true ∧ ¬ (wi 0 2 p1 && (wi 0 10 p2 && wi 0 1 p3)) = true)) (fun k => nI (k + 1)) k, fun h1 k hm => mid63 hm, ?_, ?_⟩
  · refine qSpecW_mono (W_home hg hT hCt hC.obj (u := u) (F_home hg hT hC hI.2.1.1.1 hI.2.2.2.1.1 p0 p1 p2 p3) ?_ ?_) ?_
    · intro v h1 hp
      obtain ⟨w, xx, yy, hx, hy, e1, e2, hz, hC1, hg1⟩ := hp
      exact ⟨⟨_, hz⟩, hg1.u92 hu⟩
    · intro E h1 hx
      obtain ⟨k, rfl, hq, -, -⟩ := hx
      refine ⟨k, ?_, rfl⟩
      rcases hq with hq | hq <;> (have := hq.1; omega)
    · intro r h1 hr
      rcases hr with ⟨z, h2, hp, rfl, rfl⟩ | ⟨k, hk, hx, rfl⟩
      · obtain ⟨w, xx, yy, hx, hy, e1, e2, hz, hC1, hg1⟩ := hp
        exact ⟨0, rfl, Or.inl (mid_g hL (Kg := (fun (zv : Value) (S' : CS) => S = S' ∧ (wi 0 2 p1 && (wi 0 10 p2 && wi 0 1 p3)) = true ∧ ∃ x y : Nat, x < S.2.1.2.2.2.1 ∧ y ≤ 10 ∧ p0 = nI x ∧ p2 = nI y ∧ some zv = some (.long (lterms (vin S.2.1.1 x p1 y) (vall S.2.1.1 x p1 y) p3)))) (z := .long z) ⟨rfl, w, xx, yy, hx, hy, e1, e2, hz⟩ hC1 hg1 rfl)⟩
      · refine ⟨(fun k => nI (k + 1)) k, ?_, Or.inr (mid_b hL (by omega) (fun j hj => ?_) hx)⟩
        · rfl
        · rcases hj with hj | hj <;> (have := hj.1; omega)
  · intro h1 k hmid
    rcases hmid with ⟨rfl, zv, S', u', ⟨rfl, w, xx, yy, hx, hy, e1, e2, hz⟩, hC1, hM1, hu1, hv, h93b⟩ | ⟨j, u', rfl, hq, hC1, hM1, hu1, h93b⟩
    · obtain rfl := Option.some.inj hz
      refine qSpec_mono (M_home hg hM1 hR hI.2.1 hI.2.2.2.1.1 p0 p1 p2 p3) fun r h2 hr => ?_
      rcases hr with ⟨-, -, ⟨a, b, ha, hb, f1, f2, rfl⟩, hG⟩ | ⟨k, c, hb, -, -⟩
      · refine ⟨_, rfl, rfl, LA.g hC1 hI hu1 h93b hG (hv.trans ?_)⟩
        obtain rfl : a = xx := (nI_eq (by omega) (by omega)).mp (f1.symm.trans e1)
        obtain rfl : b = yy := (nI_eq (by omega) (by omega)).mp (f2.symm.trans e2)
        rfl
      · exact (PB_home S p0 p1 p2 p3 hb (by rw [e1]; exact wi_dn hn10 hx) (by simpa using w)).elim
    · refine qSpec_mono (M_home hg hM1 hR hI.2.1 hI.2.2.2.1.1 p0 p1 p2 p3) fun r h2 hr => ?_
      rcases hr with ⟨w0, w1, -⟩ | ⟨k, c, hb, ⟨z, rfl⟩, hG⟩
      · exact (PE_home S p0 p1 p2 p3 hq w0 w1).elim
      · obtain ⟨rfl, rfl⟩ := PD_home S p0 p1 p2 p3 hq hb
        refine ⟨_, rfl, rfl, LA.b hC1 hI hu1 h93b hG ?_⟩
        rcases hq with hq | hq <;> (rw [hq.1]; decide)
theorem PD_another (S : CS) (p0 p1 p2 p3 : Int32) {j k : Nat} {c : Int32} (hq : (fun k => (k = 0 ∧ ¬ wi 0 (nI S.2.1.2.2.2.1 - 1) p0 = true) ∨ (k = 1 ∧ wi 0 (nI S.2.1.2.2.2.1 - 1) p0 = true ∧ ¬ (wi 0 2 p1 && (wi 0 10 p2 && wi 0 1 p3)) = true)) j) (hb : (fun (k : Nat) (c : Int32) => (k = 0 ∧ c = 1 ∧ ¬ (wi 0 (nI S.2.1.2.2.2.1 - 1) p0 = true)) ∨ (k = 1 ∧ c = 2 ∧ (wi 0 (nI S.2.1.2.2.2.1 - 1) p0 = true) ∧ ¬ (wi 0 2 p1 = true ∧ wi 0 10 p2 = true ∧ wi 0 1 p3 = true))) k c) : k = j ∧ c = (fun k => nI (k + 1)) j := by
  simp only [Bool.and_eq_true] at hq
  rcases hq with ⟨rfl, hq⟩ | ⟨rfl, hq⟩ <;> rcases hb with ⟨rfl, rfl, hb⟩ | ⟨rfl, rfl, hb⟩ <;> first | exact ⟨rfl, rfl⟩ | (exfalso; grind)
theorem PE_another (S : CS) (p0 p1 p2 p3 : Int32) {j : Nat} (hq : (fun k => (k = 0 ∧ ¬ wi 0 (nI S.2.1.2.2.2.1 - 1) p0 = true) ∨ (k = 1 ∧ wi 0 (nI S.2.1.2.2.2.1 - 1) p0 = true ∧ ¬ (wi 0 2 p1 && (wi 0 10 p2 && wi 0 1 p3)) = true)) j) (w0 : (wi 0 (nI S.2.1.2.2.2.1 - 1) p0 = true)) (w1 : (wi 0 2 p1 = true ∧ wi 0 10 p2 = true ∧ wi 0 1 p3 = true)) : False := by
  simp only [Bool.and_eq_true] at hq
  rcases hq with ⟨rfl, hq⟩ | ⟨rfl, hq⟩ <;> grind
theorem PB_another (S : CS) (p0 p1 p2 p3 : Int32) {k : Nat} {c : Int32} (hb : (fun (k : Nat) (c : Int32) => (k = 0 ∧ c = 1 ∧ ¬ (wi 0 (nI S.2.1.2.2.2.1 - 1) p0 = true)) ∨ (k = 1 ∧ c = 2 ∧ (wi 0 (nI S.2.1.2.2.2.1 - 1) p0 = true) ∧ ¬ (wi 0 2 p1 = true ∧ wi 0 10 p2 = true ∧ wi 0 1 p3 = true))) k c) (w0 : (wi 0 (nI S.2.1.2.2.2.1 - 1) p0 = true)) (w1 : (wi 0 2 p1 = true ∧ wi 0 10 p2 = true ∧ wi 0 1 p3 = true)) : False := by
  rcases hb with ⟨rfl, rfl, hb⟩ | ⟨rfl, rfl, hb⟩ <;> grind
theorem P_another {g : qG} (hg : qOK g) (hT : qTHR g) (hCt : qCAT g) {h : qH} {S : CS} {x : Nat → Int32} {y : Nat → Int64} {F : Nat → Nat → Int32} {G : Nat → Nat → Int64} {u : Nat → Int64} (hL : LI h S x y F G u) (p0 p1 p2 p3 : Int32) : PR g h wL_another mX12_another [.int p0, .int p1, .int p2, .int p3] 9 5 0 0 := by
  obtain ⟨hC, hM, hR, hI, hu, h93⟩ := id hL
  have hn10 := hI.2.1.1.1
  have hm8 := hI.2.2.1.1
  have hk10 := hI.2.1.1.2.1
  refine ⟨fun h1 k => MidG h1 x y F G (fun (zv : Value) (S' : CS) => S = S' ∧ (wi 0 2 p1 && (wi 0 10 p2 && wi 0 1 p3)) = true ∧ ∃ x y : Nat, x < S.2.1.2.2.2.1 ∧ y ≤ 10 ∧ p0 = nI x ∧ p2 = nI y ∧ some zv = some (.long (lterms (vin S.2.1.1 x p1 y * (S.2.1.1 (x * 10 + 4)).toInt64) (vall S.2.1.1 x p1 y * 16) p3))) lvi k ∨ MidB h1 S x y F G (fun k => (k = 0 ∧ ¬ wi 0 (nI S.2.1.2.2.2.1 - 1) p0 = true) ∨ (k = 1 ∧ wi 0 (nI S.2.1.2.2.2.1 - 1) p0 = true ∧ ¬ (wi 0 2 p1 && (wi 0 10 p2 && wi 0 1 p3)) = true)) (fun k => nI (k + 1)) k, fun h1 k hm => mid63 hm, ?_, ?_⟩
  · refine qSpecW_mono (W_another hg hT hCt hC.obj (u := u) (F_another hg hT hC hI.2.1.1.1 hI.2.2.2.1.1 p0 p1 p2 p3) ?_ ?_) ?_
    · intro v h1 hp
      obtain ⟨w, xx, yy, hx, hy, e1, e2, hz, hC1, hg1⟩ := hp
      exact ⟨⟨_, hz⟩, hg1.u92 hu⟩
    · intro E h1 hx
      obtain ⟨k, rfl, hq, -, -⟩ := hx
      refine ⟨k, ?_, rfl⟩
      rcases hq with hq | hq <;> (have := hq.1; omega)
    · intro r h1 hr
      rcases hr with ⟨z, h2, hp, rfl, rfl⟩ | ⟨k, hk, hx, rfl⟩
      · obtain ⟨w, xx, yy, hx, hy, e1, e2, hz, hC1, hg1⟩ := hp
        exact ⟨0, rfl, Or.inl (mid_g hL (Kg := (fun (zv : Value) (S' : CS) => S = S' ∧ (wi 0 2 p1 && (wi 0 10 p2 && wi 0 1 p3)) = true ∧ ∃ x y : Nat, x < S.2.1.2.2.2.1 ∧ y ≤ 10 ∧ p0 = nI x ∧ p2 = nI y ∧ some zv = some (.long (lterms (vin S.2.1.1 x p1 y * (S.2.1.1 (x * 10 + 4)).toInt64) (vall S.2.1.1 x p1 y * 16) p3)))) (z := .long z) ⟨rfl, w, xx, yy, hx, hy, e1, e2, hz⟩ hC1 hg1 rfl)⟩
      · refine ⟨(fun k => nI (k + 1)) k, ?_, Or.inr (mid_b hL (by omega) (fun j hj => ?_) hx)⟩
        · rfl
        · rcases hj with hj | hj <;> (have := hj.1; omega)
  · intro h1 k hmid
    rcases hmid with ⟨rfl, zv, S', u', ⟨rfl, w, xx, yy, hx, hy, e1, e2, hz⟩, hC1, hM1, hu1, hv, h93b⟩ | ⟨j, u', rfl, hq, hC1, hM1, hu1, h93b⟩
    · obtain rfl := Option.some.inj hz
      refine qSpec_mono (M_another hg hM1 hR hI.2.1 hI.2.2.2.1.1 p0 p1 p2 p3) fun r h2 hr => ?_
      rcases hr with ⟨-, -, ⟨a, b, ha, hb, f1, f2, rfl⟩, hG⟩ | ⟨k, c, hb, -, -⟩
      · refine ⟨_, rfl, rfl, LA.g hC1 hI hu1 h93b hG (hv.trans ?_)⟩
        obtain rfl : a = xx := (nI_eq (by omega) (by omega)).mp (f1.symm.trans e1)
        obtain rfl : b = yy := (nI_eq (by omega) (by omega)).mp (f2.symm.trans e2)
        rfl
      · exact (PB_another S p0 p1 p2 p3 hb (by rw [e1]; exact wi_dn hn10 hx) (by simpa using w)).elim
    · refine qSpec_mono (M_another hg hM1 hR hI.2.1 hI.2.2.2.1.1 p0 p1 p2 p3) fun r h2 hr => ?_
      rcases hr with ⟨w0, w1, -⟩ | ⟨k, c, hb, ⟨z, rfl⟩, hG⟩
      · exact (PE_another S p0 p1 p2 p3 hq w0 w1).elim
      · obtain ⟨rfl, rfl⟩ := PD_another S p0 p1 p2 p3 hq hb
        refine ⟨_, rfl, rfl, LA.b hC1 hI hu1 h93b hG ?_⟩
        rcases hq with hq | hq <;> (rw [hq.1]; decide)
theorem PD_lineAt (S : CS) (p0 p1 p2 : Int32) {j k : Nat} {c : Int32} (hq : (fun k => (k = 0 ∧ ¬ wi 0 (nI S.2.1.2.2.2.1 - 1) p0 = true) ∨ (k = 1 ∧ wi 0 (nI S.2.1.2.2.2.1 - 1) p0 = true ∧ ¬ (wi 0 2 p1 && wi 0 999 p2) = true)) j) (hb : (fun (k : Nat) (c : Int32) => (k = 0 ∧ c = 1 ∧ ¬ (wi 0 (nI S.2.1.2.2.2.1 - 1) p0 = true)) ∨ (k = 1 ∧ c = 2 ∧ (wi 0 (nI S.2.1.2.2.2.1 - 1) p0 = true) ∧ ¬ (wi 0 2 p1 = true ∧ wi 0 999 p2 = true))) k c) : k = j ∧ c = (fun k => nI (k + 1)) j := by
  simp only [Bool.and_eq_true] at hq
  rcases hq with ⟨rfl, hq⟩ | ⟨rfl, hq⟩ <;> rcases hb with ⟨rfl, rfl, hb⟩ | ⟨rfl, rfl, hb⟩ <;> first | exact ⟨rfl, rfl⟩ | (exfalso; grind)
theorem PE_lineAt (S : CS) (p0 p1 p2 : Int32) {j : Nat} (hq : (fun k => (k = 0 ∧ ¬ wi 0 (nI S.2.1.2.2.2.1 - 1) p0 = true) ∨ (k = 1 ∧ wi 0 (nI S.2.1.2.2.2.1 - 1) p0 = true ∧ ¬ (wi 0 2 p1 && wi 0 999 p2) = true)) j) (w0 : (wi 0 (nI S.2.1.2.2.2.1 - 1) p0 = true)) (w1 : (wi 0 2 p1 = true ∧ wi 0 999 p2 = true)) : False := by
  simp only [Bool.and_eq_true] at hq
  rcases hq with ⟨rfl, hq⟩ | ⟨rfl, hq⟩ <;> grind
theorem PB_lineAt (S : CS) (p0 p1 p2 : Int32) {k : Nat} {c : Int32} (hb : (fun (k : Nat) (c : Int32) => (k = 0 ∧ c = 1 ∧ ¬ (wi 0 (nI S.2.1.2.2.2.1 - 1) p0 = true)) ∨ (k = 1 ∧ c = 2 ∧ (wi 0 (nI S.2.1.2.2.2.1 - 1) p0 = true) ∧ ¬ (wi 0 2 p1 = true ∧ wi 0 999 p2 = true))) k c) (w0 : (wi 0 (nI S.2.1.2.2.2.1 - 1) p0 = true)) (w1 : (wi 0 2 p1 = true ∧ wi 0 999 p2 = true)) : False := by
  rcases hb with ⟨rfl, rfl, hb⟩ | ⟨rfl, rfl, hb⟩ <;> grind
theorem P_lineAt {g : qG} (hg : qOK g) (hT : qTHR g) (hCt : qCAT g) {h : qH} {S : CS} {x : Nat → Int32} {y : Nat → Int64} {F : Nat → Nat → Int32} {G : Nat → Nat → Int64} {u : Nat → Int64} (hL : LI h S x y F G u) (p0 p1 p2 : Int32) : PR g h wL_lineAt mX12_lineAt [.int p0, .int p1, .int p2] 9 5 0 0 := by
  obtain ⟨hC, hM, hR, hI, hu, h93⟩ := id hL
  have hn10 := hI.2.1.1.1
  have hm8 := hI.2.2.1.1
  have hk10 := hI.2.1.1.2.1
  refine ⟨fun h1 k => MidG h1 x y F G (fun (zv : Value) (S' : CS) => S = S' ∧ (wi 0 2 p1 && wi 0 999 p2) = true ∧ ∃ x : Nat, x < S.2.1.2.2.2.1 ∧ p0 = nI x ∧ some zv = some (.int (llineF (fun i => vless (fun z => vgift S.2.1.1 S.2.2.2.2.1.1.1 S.2.2.2.2.1.1.2.1 S.2.2.2.2.1.1.2.2 (nI S.2.2.2.1.2) x z 0) S.2.1.1 x p1 i p2) 11 0))) lvi k ∨ MidB h1 S x y F G (fun k => (k = 0 ∧ ¬ wi 0 (nI S.2.1.2.2.2.1 - 1) p0 = true) ∨ (k = 1 ∧ wi 0 (nI S.2.1.2.2.2.1 - 1) p0 = true ∧ ¬ (wi 0 2 p1 && wi 0 999 p2) = true)) (fun k => nI (k + 1)) k, fun h1 k hm => mid63 hm, ?_, ?_⟩
  · refine qSpecW_mono (W_lineAt hg hT hCt hC.obj (u := u) (F_lineAt hg hT hC hI.2.1.1.1 hI.2.2.2.1.1 p0 p1 p2) ?_ ?_) ?_
    · intro v h1 hp
      obtain ⟨w, xx, hx, e1, hz, hC1, hg1⟩ := hp
      exact ⟨⟨_, hz⟩, hg1.u92 hu⟩
    · intro E h1 hx
      obtain ⟨k, rfl, hq, -, -⟩ := hx
      refine ⟨k, ?_, rfl⟩
      rcases hq with hq | hq <;> (have := hq.1; omega)
    · intro r h1 hr
      rcases hr with ⟨z, h2, hp, rfl, rfl⟩ | ⟨k, hk, hx, rfl⟩
      · obtain ⟨w, xx, hx, e1, hz, hC1, hg1⟩ := hp
        exact ⟨0, rfl, Or.inl (mid_g hL (Kg := (fun (zv : Value) (S' : CS) => S = S' ∧ (wi 0 2 p1 && wi 0 999 p2) = true ∧ ∃ x : Nat, x < S.2.1.2.2.2.1 ∧ p0 = nI x ∧ some zv = some (.int (llineF (fun i => vless (fun z => vgift S.2.1.1 S.2.2.2.2.1.1.1 S.2.2.2.2.1.1.2.1 S.2.2.2.2.1.1.2.2 (nI S.2.2.2.1.2) x z 0) S.2.1.1 x p1 i p2) 11 0)))) (z := .int z) ⟨rfl, w, xx, hx, e1, hz⟩ hC1 hg1 rfl)⟩
      · refine ⟨(fun k => nI (k + 1)) k, ?_, Or.inr (mid_b hL (by omega) (fun j hj => ?_) hx)⟩
        · rfl
        · rcases hj with hj | hj <;> (have := hj.1; omega)
  · intro h1 k hmid
    rcases hmid with ⟨rfl, zv, S', u', ⟨rfl, w, xx, hx, e1, hz⟩, hC1, hM1, hu1, hv, h93b⟩ | ⟨j, u', rfl, hq, hC1, hM1, hu1, h93b⟩
    · obtain rfl := Option.some.inj hz
      refine qSpec_mono (M_lineAt hg hM1 hR hI.2.1 hI.2.2.2.1.1 p0 p1 p2) fun r h2 hr => ?_
      rcases hr with ⟨-, -, ⟨a, ha, f1, rfl⟩, hG⟩ | ⟨k, c, hb, -, -⟩
      · refine ⟨_, rfl, rfl, LA.g hC1 hI hu1 h93b hG (hv.trans ?_)⟩
        obtain rfl : a = xx := (nI_eq (by omega) (by omega)).mp (f1.symm.trans e1)
        rfl
      · exact (PB_lineAt S p0 p1 p2 hb (by rw [e1]; exact wi_dn hn10 hx) (by simpa using w)).elim
    · refine qSpec_mono (M_lineAt hg hM1 hR hI.2.1 hI.2.2.2.1.1 p0 p1 p2) fun r h2 hr => ?_
      rcases hr with ⟨w0, w1, -⟩ | ⟨k, c, hb, ⟨z, rfl⟩, hG⟩
      · exact (PE_lineAt S p0 p1 p2 hq w0 w1).elim
      · obtain ⟨rfl, rfl⟩ := PD_lineAt S p0 p1 p2 hq hb
        refine ⟨_, rfl, rfl, LA.b hC1 hI hu1 h93b hG ?_⟩
        rcases hq with hq | hq <;> (rw [hq.1]; decide)
theorem PD_ring (S : CS) (p0 p1 : Int32) {j k : Nat} {c : Int32} (hq : (fun k => (k = 0 ∧ ¬ wi 0 (nI S.2.1.2.2.2.1 - 1) p0 = true) ∨ (k = 1 ∧ wi 0 (nI S.2.1.2.2.2.1 - 1) p0 = true ∧ ¬ wi 0 5 p1 = true)) j) (hb : (fun (k : Nat) (c : Int32) => (k = 0 ∧ c = 1 ∧ ¬ (wi 0 (nI S.2.1.2.2.2.1 - 1) p0 = true)) ∨ (k = 1 ∧ c = 2 ∧ (wi 0 (nI S.2.1.2.2.2.1 - 1) p0 = true) ∧ ¬ (wi 0 5 p1 = true))) k c) : k = j ∧ c = (fun k => nI (k + 1)) j := by
  simp only [Bool.and_eq_true] at hq
  rcases hq with ⟨rfl, hq⟩ | ⟨rfl, hq⟩ <;> rcases hb with ⟨rfl, rfl, hb⟩ | ⟨rfl, rfl, hb⟩ <;> first | exact ⟨rfl, rfl⟩ | (exfalso; grind)
theorem PE_ring (S : CS) (p0 p1 : Int32) {j : Nat} (hq : (fun k => (k = 0 ∧ ¬ wi 0 (nI S.2.1.2.2.2.1 - 1) p0 = true) ∨ (k = 1 ∧ wi 0 (nI S.2.1.2.2.2.1 - 1) p0 = true ∧ ¬ wi 0 5 p1 = true)) j) (w0 : (wi 0 (nI S.2.1.2.2.2.1 - 1) p0 = true)) (w1 : (wi 0 5 p1 = true)) : False := by
  simp only [Bool.and_eq_true] at hq
  rcases hq with ⟨rfl, hq⟩ | ⟨rfl, hq⟩ <;> grind
theorem PB_ring (S : CS) (p0 p1 : Int32) {k : Nat} {c : Int32} (hb : (fun (k : Nat) (c : Int32) => (k = 0 ∧ c = 1 ∧ ¬ (wi 0 (nI S.2.1.2.2.2.1 - 1) p0 = true)) ∨ (k = 1 ∧ c = 2 ∧ (wi 0 (nI S.2.1.2.2.2.1 - 1) p0 = true) ∧ ¬ (wi 0 5 p1 = true))) k c) (w0 : (wi 0 (nI S.2.1.2.2.2.1 - 1) p0 = true)) (w1 : (wi 0 5 p1 = true)) : False := by
  rcases hb with ⟨rfl, rfl, hb⟩ | ⟨rfl, rfl, hb⟩ <;> grind
theorem P_ring {g : qG} (hg : qOK g) (hT : qTHR g) (hCt : qCAT g) {h : qH} {S : CS} {x : Nat → Int32} {y : Nat → Int64} {F : Nat → Nat → Int32} {G : Nat → Nat → Int64} {u : Nat → Int64} (hL : LI h S x y F G u) (p0 p1 : Int32) : PR g h wL_ring mX12_ring [.int p0, .int p1] 9 6 0 0 := by
  obtain ⟨hC, hM, hR, hI, hu, h93⟩ := id hL
  have hn10 := hI.2.1.1.1
  have hm8 := hI.2.2.1.1
  have hk10 := hI.2.1.1.2.1
  refine ⟨fun h1 k => MidG h1 x y F G (fun (zv : Value) (S' : CS) => S = S' ∧ wi 0 5 p1 = true ∧ ∃ x y : Nat, x < S.2.1.2.2.2.1 ∧ y ≤ 5 ∧ p0 = nI x ∧ p1 = nI y ∧ some zv = some (.int (rgst (fun z => (vmean (fun z => vgift S.2.1.1 S.2.2.2.2.1.1.1 S.2.2.2.2.1.1.2.1 S.2.2.2.2.1.1.2.2 (nI S.2.2.2.1.2) x z 0) S.2.1.1 S.2.1.2.2.2.2.2.2.2.1 x z y).2.2.2.1) (fun z => ((vmean (fun z => vgift S.2.1.1 S.2.2.2.2.1.1.1 S.2.2.2.2.1.1.2.1 S.2.2.2.2.1.1.2.2 (nI S.2.2.2.1.2) x z 0) S.2.1.1 S.2.1.2.2.2.2.2.2.2.1 x z y).2.2.2.2 + (vmean (fun z => vgift S.2.1.1 S.2.2.2.2.1.1.1 S.2.2.2.2.1.1.2.1 S.2.2.2.2.1.1.2.2 (nI S.2.2.2.1.2) x z 0) S.2.1.1 S.2.1.2.2.2.2.2.2.2.1 x z y).2.2.1 * (S.2.1.1 (x * 10 + 9)).toInt64)) 2 (rgst (fun z => (vmean (fun z => vgift S.2.1.1 S.2.2.2.2.1.1.1 S.2.2.2.2.1.1.2.1 S.2.2.2.2.1.1.2.2 (nI S.2.2.2.1.2) x z 0) S.2.1.1 S.2.1.2.2.2.2.2.2.2.1 x z y).2.2.2.1) (fun z => ((vmean (fun z => vgift S.2.1.1 S.2.2.2.2.1.1.1 S.2.2.2.2.1.1.2.1 S.2.2.2.2.1.1.2.2 (nI S.2.2.2.1.2) x z 0) S.2.1.1 S.2.1.2.2.2.2.2.2.2.1 x z y).2.2.2.2 + (vmean (fun z => vgift S.2.1.1 S.2.2.2.2.1.1.1 S.2.2.2.2.1.1.2.1 S.2.2.2.2.1.1.2.2 (nI S.2.2.2.1.2) x z 0) S.2.1.1 S.2.1.2.2.2.2.2.2.2.1 x z y).2.2.1 * (S.2.1.1 (x * 10 + 9)).toInt64)) 1 (0, (fun z => (vmean (fun z => vgift S.2.1.1 S.2.2.2.2.1.1.1 S.2.2.2.2.1.1.2.1 S.2.2.2.2.1.1.2.2 (nI S.2.2.2.1.2) x z 0) S.2.1.1 S.2.1.2.2.2.2.2.2.2.1 x z y).2.2.2.1) 0, (fun z => ((vmean (fun z => vgift S.2.1.1 S.2.2.2.2.1.1.1 S.2.2.2.2.1.1.2.1 S.2.2.2.2.1.1.2.2 (nI S.2.2.2.1.2) x z 0) S.2.1.1 S.2.1.2.2.2.2.2.2.2.1 x z y).2.2.2.2 + (vmean (fun z => vgift S.2.1.1 S.2.2.2.2.1.1.1 S.2.2.2.2.1.1.2.1 S.2.2.2.2.1.1.2.2 (nI S.2.2.2.1.2) x z 0) S.2.1.1 S.2.1.2.2.2.2.2.2.2.1 x z y).2.2.1 * (S.2.1.1 (x * 10 + 9)).toInt64)) 0))).1)) lvi k ∨ MidB h1 S x y F G (fun k => (k = 0 ∧ ¬ wi 0 (nI S.2.1.2.2.2.1 - 1) p0 = true) ∨ (k = 1 ∧ wi 0 (nI S.2.1.2.2.2.1 - 1) p0 = true ∧ ¬ wi 0 5 p1 = true)) (fun k => nI (k + 1)) k, fun h1 k hm => mid63 hm, ?_, ?_⟩
  · refine qSpecW_mono (W_ring hg hT hCt hC.obj (u := u) (F_ring hg hT hC hI.2.1.1.1 hI.2.2.2.1.1 p0 p1) ?_ ?_) ?_
    · intro v h1 hp
      obtain ⟨w, xx, yy, hx, hy, e1, e2, hz, hC1, hg1⟩ := hp
      exact ⟨⟨_, hz⟩, hg1.u92 hu⟩
    · intro E h1 hx
      obtain ⟨k, rfl, hq, -, -⟩ := hx
      refine ⟨k, ?_, rfl⟩
      rcases hq with hq | hq <;> (have := hq.1; omega)
    · intro r h1 hr
      rcases hr with ⟨z, h2, hp, rfl, rfl⟩ | ⟨k, hk, hx, rfl⟩
      · obtain ⟨w, xx, yy, hx, hy, e1, e2, hz, hC1, hg1⟩ := hp
        exact ⟨0, rfl, Or.inl (mid_g hL (Kg := (fun (zv : Value) (S' : CS) => S = S' ∧ wi 0 5 p1 = true ∧ ∃ x y : Nat, x < S.2.1.2.2.2.1 ∧ y ≤ 5 ∧ p0 = nI x ∧ p1 = nI y ∧ some zv = some (.int (rgst (fun z => (vmean (fun z => vgift S.2.1.1 S.2.2.2.2.1.1.1 S.2.2.2.2.1.1.2.1 S.2.2.2.2.1.1.2.2 (nI S.2.2.2.1.2) x z 0) S.2.1.1 S.2.1.2.2.2.2.2.2.2.1 x z y).2.2.2.1) (fun z => ((vmean (fun z => vgift S.2.1.1 S.2.2.2.2.1.1.1 S.2.2.2.2.1.1.2.1 S.2.2.2.2.1.1.2.2 (nI S.2.2.2.1.2) x z 0) S.2.1.1 S.2.1.2.2.2.2.2.2.2.1 x z y).2.2.2.2 + (vmean (fun z => vgift S.2.1.1 S.2.2.2.2.1.1.1 S.2.2.2.2.1.1.2.1 S.2.2.2.2.1.1.2.2 (nI S.2.2.2.1.2) x z 0) S.2.1.1 S.2.1.2.2.2.2.2.2.2.1 x z y).2.2.1 * (S.2.1.1 (x * 10 + 9)).toInt64)) 2 (rgst (fun z => (vmean (fun z => vgift S.2.1.1 S.2.2.2.2.1.1.1 S.2.2.2.2.1.1.2.1 S.2.2.2.2.1.1.2.2 (nI S.2.2.2.1.2) x z 0) S.2.1.1 S.2.1.2.2.2.2.2.2.2.1 x z y).2.2.2.1) (fun z => ((vmean (fun z => vgift S.2.1.1 S.2.2.2.2.1.1.1 S.2.2.2.2.1.1.2.1 S.2.2.2.2.1.1.2.2 (nI S.2.2.2.1.2) x z 0) S.2.1.1 S.2.1.2.2.2.2.2.2.2.1 x z y).2.2.2.2 + (vmean (fun z => vgift S.2.1.1 S.2.2.2.2.1.1.1 S.2.2.2.2.1.1.2.1 S.2.2.2.2.1.1.2.2 (nI S.2.2.2.1.2) x z 0) S.2.1.1 S.2.1.2.2.2.2.2.2.2.1 x z y).2.2.1 * (S.2.1.1 (x * 10 + 9)).toInt64)) 1 (0, (fun z => (vmean (fun z => vgift S.2.1.1 S.2.2.2.2.1.1.1 S.2.2.2.2.1.1.2.1 S.2.2.2.2.1.1.2.2 (nI S.2.2.2.1.2) x z 0) S.2.1.1 S.2.1.2.2.2.2.2.2.2.1 x z y).2.2.2.1) 0, (fun z => ((vmean (fun z => vgift S.2.1.1 S.2.2.2.2.1.1.1 S.2.2.2.2.1.1.2.1 S.2.2.2.2.1.1.2.2 (nI S.2.2.2.1.2) x z 0) S.2.1.1 S.2.1.2.2.2.2.2.2.2.1 x z y).2.2.2.2 + (vmean (fun z => vgift S.2.1.1 S.2.2.2.2.1.1.1 S.2.2.2.2.1.1.2.1 S.2.2.2.2.1.1.2.2 (nI S.2.2.2.1.2) x z 0) S.2.1.1 S.2.1.2.2.2.2.2.2.2.1 x z y).2.2.1 * (S.2.1.1 (x * 10 + 9)).toInt64)) 0))).1))) (z := .int z) ⟨rfl, w, xx, yy, hx, hy, e1, e2, hz⟩ hC1 hg1 rfl)⟩
      · refine ⟨(fun k => nI (k + 1)) k, ?_, Or.inr (mid_b hL (by omega) (fun j hj => ?_) hx)⟩
        · rfl
        · rcases hj with hj | hj <;> (have := hj.1; omega)
  · intro h1 k hmid
    rcases hmid with ⟨rfl, zv, S', u', ⟨rfl, w, xx, yy, hx, hy, e1, e2, hz⟩, hC1, hM1, hu1, hv, h93b⟩ | ⟨j, u', rfl, hq, hC1, hM1, hu1, h93b⟩
    · obtain rfl := Option.some.inj hz
      refine qSpec_mono (M_ring hg hM1 hR hI.2.1 hI.2.2.2.1.1 p0 p1) fun r h2 hr => ?_
      rcases hr with ⟨-, -, ⟨a, b, ha, hb, f1, f2, rfl⟩, hG⟩ | ⟨k, c, hb, -, -⟩
      · refine ⟨_, rfl, rfl, LA.g hC1 hI hu1 h93b hG (hv.trans ?_)⟩
        obtain rfl : a = xx := (nI_eq (by omega) (by omega)).mp (f1.symm.trans e1)
        obtain rfl : b = yy := (nI_eq (by omega) (by omega)).mp (f2.symm.trans e2)
        rfl
      · exact (PB_ring S p0 p1 hb (by rw [e1]; exact wi_dn hn10 hx) w).elim
    · refine qSpec_mono (M_ring hg hM1 hR hI.2.1 hI.2.2.2.1.1 p0 p1) fun r h2 hr => ?_
      rcases hr with ⟨w0, w1, -⟩ | ⟨k, c, hb, ⟨z, rfl⟩, hG⟩
      · exact (PE_ring S p0 p1 hq w0 w1).elim
      · obtain ⟨rfl, rfl⟩ := PD_ring S p0 p1 hq hb
        refine ⟨_, rfl, rfl, LA.b hC1 hI hu1 h93b hG ?_⟩
        rcases hq with hq | hq <;> (rw [hq.1]; decide)
theorem PD_pays (S : CS) (p0 p1 p2 p3 : Int32) {j k : Nat} {c : Int32} (hq : (fun k => (k = 0 ∧ ¬ wi 0 (nI S.2.1.2.2.2.1 - 1) p0 = true) ∨ (k = 1 ∧ wi 0 (nI S.2.1.2.2.2.1 - 1) p0 = true ∧ ¬ (wi 0 5 p1 && (wi 0 2 p2 && wi 0 99 p3)) = true)) j) (hb : (fun (k : Nat) (c : Int32) => (k = 0 ∧ c = 1 ∧ ¬ (wi 0 (nI S.2.1.2.2.2.1 - 1) p0 = true)) ∨ (k = 1 ∧ c = 2 ∧ (wi 0 (nI S.2.1.2.2.2.1 - 1) p0 = true) ∧ ¬ (wi 0 5 p1 = true ∧ wi 0 2 p2 = true ∧ wi 0 99 p3 = true))) k c) : k = j ∧ c = (fun k => nI (k + 1)) j := by
  simp only [Bool.and_eq_true] at hq
  rcases hq with ⟨rfl, hq⟩ | ⟨rfl, hq⟩ <;> rcases hb with ⟨rfl, rfl, hb⟩ | ⟨rfl, rfl, hb⟩ <;> first | exact ⟨rfl, rfl⟩ | (exfalso; grind)
theorem PE_pays (S : CS) (p0 p1 p2 p3 : Int32) {j : Nat} (hq : (fun k => (k = 0 ∧ ¬ wi 0 (nI S.2.1.2.2.2.1 - 1) p0 = true) ∨ (k = 1 ∧ wi 0 (nI S.2.1.2.2.2.1 - 1) p0 = true ∧ ¬ (wi 0 5 p1 && (wi 0 2 p2 && wi 0 99 p3)) = true)) j) (w0 : (wi 0 (nI S.2.1.2.2.2.1 - 1) p0 = true)) (w1 : (wi 0 5 p1 = true ∧ wi 0 2 p2 = true ∧ wi 0 99 p3 = true)) : False := by
  simp only [Bool.and_eq_true] at hq
  rcases hq with ⟨rfl, hq⟩ | ⟨rfl, hq⟩ <;> grind
theorem PB_pays (S : CS) (p0 p1 p2 p3 : Int32) {k : Nat} {c : Int32} (hb : (fun (k : Nat) (c : Int32) => (k = 0 ∧ c = 1 ∧ ¬ (wi 0 (nI S.2.1.2.2.2.1 - 1) p0 = true)) ∨ (k = 1 ∧ c = 2 ∧ (wi 0 (nI S.2.1.2.2.2.1 - 1) p0 = true) ∧ ¬ (wi 0 5 p1 = true ∧ wi 0 2 p2 = true ∧ wi 0 99 p3 = true))) k c) (w0 : (wi 0 (nI S.2.1.2.2.2.1 - 1) p0 = true)) (w1 : (wi 0 5 p1 = true ∧ wi 0 2 p2 = true ∧ wi 0 99 p3 = true)) : False := by
  rcases hb with ⟨rfl, rfl, hb⟩ | ⟨rfl, rfl, hb⟩ <;> grind
theorem P_pays {g : qG} (hg : qOK g) (hT : qTHR g) (hCt : qCAT g) {h : qH} {S : CS} {x : Nat → Int32} {y : Nat → Int64} {F : Nat → Nat → Int32} {G : Nat → Nat → Int64} {u : Nat → Int64} (hL : LI h S x y F G u) (p0 p1 p2 p3 : Int32) : PRB g h wL_pays mX12_pays [.int p0, .int p1, .int p2, .int p3] 9 6 0 0 := by
  obtain ⟨hC, hM, hR, hI, hu, h93⟩ := id hL
  have hn10 := hI.2.1.1.1
  have hm8 := hI.2.2.1.1
  have hk10 := hI.2.1.1.2.1
  refine ⟨fun h1 k => MidG h1 x y F G (fun (zv : Value) (S' : CS) => S = S' ∧ (wi 0 5 p1 && (wi 0 2 p2 && wi 0 99 p3)) = true ∧ ∃ x y z : Nat, x < S.2.1.2.2.2.1 ∧ y ≤ 5 ∧ z ≤ 2 ∧ p0 = nI x ∧ p1 = nI y ∧ p2 = nI z ∧ some zv = some (.int (qb (decide (p3.toInt64 * ((vmean (fun z => vgift S.2.1.1 S.2.2.2.2.1.1.1 S.2.2.2.2.1.1.2.1 S.2.2.2.2.1.1.2.2 (nI S.2.2.2.1.2) x z 0) S.2.1.1 S.2.1.2.2.2.2.2.2.2.1 x z y).2.2.2.2 + (vmean (fun z => vgift S.2.1.1 S.2.2.2.2.1.1.1 S.2.2.2.2.1.1.2.1 S.2.2.2.2.1.1.2.2 (nI S.2.2.2.1.2) x z 0) S.2.1.1 S.2.1.2.2.2.2.2.2.2.1 x z y).2.2.1 * (S.2.1.1 (x * 10 + 9)).toInt64) ≤ (vmean (fun z => vgift S.2.1.1 S.2.2.2.2.1.1.1 S.2.2.2.2.1.1.2.1 S.2.2.2.2.1.1.2.2 (nI S.2.2.2.1.2) x z 0) S.2.1.1 S.2.1.2.2.2.2.2.2.2.1 x z y).2.2.2.1))))) lvi k ∨ MidB h1 S x y F G (fun k => (k = 0 ∧ ¬ wi 0 (nI S.2.1.2.2.2.1 - 1) p0 = true) ∨ (k = 1 ∧ wi 0 (nI S.2.1.2.2.2.1 - 1) p0 = true ∧ ¬ (wi 0 5 p1 && (wi 0 2 p2 && wi 0 99 p3)) = true)) (fun k => nI (k + 1)) k, fun h1 k hm => mid63 hm, ?_, ?_⟩
  · refine qSpecW_mono (W_pays hg hT hCt hC.obj (u := u) (F_pays hg hT hC hI.2.1.1.1 hI.2.2.2.1.1 p0 p1 p2 p3) ?_ ?_) ?_
    · intro v h1 hp
      obtain ⟨w, xx, yy, zz, hx, hy, hz1, e1, e2, e3, hz, hC1, hg1⟩ := hp
      exact ⟨⟨_, hz⟩, hg1.u92 hu⟩
    · intro E h1 hx
      obtain ⟨k, rfl, hq, -, -⟩ := hx
      refine ⟨k, ?_, rfl⟩
      rcases hq with hq | hq <;> (have := hq.1; omega)
    · intro r h1 hr
      rcases hr with ⟨b, h2, hp, rfl, rfl⟩ | ⟨k, hk, hx, rfl⟩
      · obtain ⟨w, xx, yy, zz, hx, hy, hz1, e1, e2, e3, hz, hC1, hg1⟩ := hp
        exact ⟨0, rfl, Or.inl (mid_g hL (Kg := (fun (zv : Value) (S' : CS) => S = S' ∧ (wi 0 5 p1 && (wi 0 2 p2 && wi 0 99 p3)) = true ∧ ∃ x y z : Nat, x < S.2.1.2.2.2.1 ∧ y ≤ 5 ∧ z ≤ 2 ∧ p0 = nI x ∧ p1 = nI y ∧ p2 = nI z ∧ some zv = some (.int (qb (decide (p3.toInt64 * ((vmean (fun z => vgift S.2.1.1 S.2.2.2.2.1.1.1 S.2.2.2.2.1.1.2.1 S.2.2.2.2.1.1.2.2 (nI S.2.2.2.1.2) x z 0) S.2.1.1 S.2.1.2.2.2.2.2.2.2.1 x z y).2.2.2.2 + (vmean (fun z => vgift S.2.1.1 S.2.2.2.2.1.1.1 S.2.2.2.2.1.1.2.1 S.2.2.2.2.1.1.2.2 (nI S.2.2.2.1.2) x z 0) S.2.1.1 S.2.1.2.2.2.2.2.2.2.1 x z y).2.2.1 * (S.2.1.1 (x * 10 + 9)).toInt64) ≤ (vmean (fun z => vgift S.2.1.1 S.2.2.2.2.1.1.1 S.2.2.2.2.1.1.2.1 S.2.2.2.2.1.1.2.2 (nI S.2.2.2.1.2) x z 0) S.2.1.1 S.2.1.2.2.2.2.2.2.2.1 x z y).2.2.2.1)))))) (z := .int (qb b)) ⟨rfl, w, xx, yy, zz, hx, hy, hz1, e1, e2, e3, hz⟩ hC1 hg1 rfl)⟩
      · refine ⟨(fun k => nI (k + 1)) k, ?_, Or.inr (mid_b hL (by omega) (fun j hj => ?_) hx)⟩
        · rfl
        · rcases hj with hj | hj <;> (have := hj.1; omega)
  · intro h1 k hmid
    rcases hmid with ⟨rfl, zv, S', u', ⟨rfl, w, xx, yy, zz, hx, hy, hz1, e1, e2, e3, hz⟩, hC1, hM1, hu1, hv, h93b⟩ | ⟨j, u', rfl, hq, hC1, hM1, hu1, h93b⟩
    · obtain rfl := Option.some.inj hz
      refine qSpec_mono (M_pays hg hM1 hR hI.2.1 hI.2.2.2.1.1 p0 p1 p2 p3) fun r h2 hr => ?_
      rcases hr with ⟨-, -, ⟨a, b, c1, ha, hb, hc, f1, f2, f3, rfl⟩, hG⟩ | ⟨k, c, hb, -, -⟩
      · refine ⟨_, rfl, rfl, LA.g hC1 hI hu1 h93b hG (hv.trans ?_), fun _ => qb01 _⟩
        obtain rfl : a = xx := (nI_eq (by omega) (by omega)).mp (f1.symm.trans e1)
        obtain rfl : b = yy := (nI_eq (by omega) (by omega)).mp (f2.symm.trans e2)
        obtain rfl : c1 = zz := (nI_eq (by omega) (by omega)).mp (f3.symm.trans e3)
        rfl
      · exact (PB_pays S p0 p1 p2 p3 hb (by rw [e1]; exact wi_dn hn10 hx) (by simpa using w)).elim
    · refine qSpec_mono (M_pays hg hM1 hR hI.2.1 hI.2.2.2.1.1 p0 p1 p2 p3) fun r h2 hr => ?_
      rcases hr with ⟨w0, w1, -⟩ | ⟨k, c, hb, ⟨z, rfl⟩, hG⟩
      · exact (PE_pays S p0 p1 p2 p3 hq w0 w1).elim
      · obtain ⟨rfl, rfl⟩ := PD_pays S p0 p1 p2 p3 hq hb
        have hk9 : ¬ (fun k => nI (k + 1)) k = 0 := by
          rcases hq with hq | hq <;> (rw [hq.1]; decide)
        exact ⟨_, rfl, rfl, LA.b hC1 hI hu1 h93b hG hk9, fun q => absurd q hk9⟩
theorem PD_stop (S : CS) (p0 : Int32) {j k : Nat} {c : Int32} (hq : (fun k => (k = 1 ∧ ¬ wi 0 99 p0 = true)) j) (hb : (fun (k : Nat) (c : Int32) => (k = 1 ∧ c = 1 ∧ ¬ (wi 0 99 p0 = true))) k c) : k = j ∧ c = (fun _ => 1) j := by
  simp only [Bool.and_eq_true] at hq
  rcases hq with ⟨rfl, hq⟩ <;> rcases hb with ⟨rfl, rfl, hb⟩ <;> first | exact ⟨rfl, rfl⟩ | (exfalso; grind)
theorem PE_stop (S : CS) (p0 : Int32) {j : Nat} (hq : (fun k => (k = 1 ∧ ¬ wi 0 99 p0 = true)) j) (w0 : (wi 0 99 p0 = true)) : False := by
  simp only [Bool.and_eq_true] at hq
  rcases hq with ⟨rfl, hq⟩ <;> grind
theorem PB_stop (S : CS) (p0 : Int32) {k : Nat} {c : Int32} (hb : (fun (k : Nat) (c : Int32) => (k = 1 ∧ c = 1 ∧ ¬ (wi 0 99 p0 = true))) k c) (w0 : (wi 0 99 p0 = true)) : False := by
  rcases hb with ⟨rfl, rfl, hb⟩ <;> grind
theorem P_stop {g : qG} (hg : qOK g) (hT : qTHR g) (hCt : qCAT g) {h : qH} {S : CS} {x : Nat → Int32} {y : Nat → Int64} {F : Nat → Nat → Int32} {G : Nat → Nat → Int64} {u : Nat → Int64} (hL : LI h S x y F G u) (p0 : Int32) : PR g h wL_stop mX12_stop [.int p0] 10 7 0 0 := by
  obtain ⟨hC, hM, hR, hI, hu, h93⟩ := id hL
  have hn10 := hI.2.1.1.1
  have hm8 := hI.2.2.1.1
  have hk10 := hI.2.1.1.2.1
  obtain ⟨pf, vf, rf, hP, hpn, hinj⟩ := hI.2.1.2.2.1
  refine ⟨fun h1 k => MidG h1 x y F G (fun (zv : Value) (S' : CS) => S = S' ∧ wi 0 99 p0 = true ∧ some zv = some (.int (llineF (fun i => decide ((tsum S.2.1.1 S.2.2.2.2.1.1.1 S.2.2.2.2.1.1.2.1 S.2.2.2.2.1.1.2.2 (nI S.2.2.2.1.2) S.2.1.2.2.2.2.2.2.1 S.2.1.2.2.2.2.2.2.2.1 pf vf rf i (S.2.1.2.2.2.2.1 - i) (0, 0, 0, 0)).2.1 < p0.toInt64 * (tsum S.2.1.1 S.2.2.2.2.1.1.1 S.2.2.2.2.1.1.2.1 S.2.2.2.2.1.1.2.2 (nI S.2.2.2.1.2) S.2.1.2.2.2.2.2.2.1 S.2.1.2.2.2.2.2.2.2.1 pf vf rf i (S.2.1.2.2.2.2.1 - i) (0, 0, 0, 0)).2.2.2)) S.2.1.2.2.2.2.1 0))) lvi k ∨ MidB h1 S x y F G (fun k => (k = 1 ∧ ¬ wi 0 99 p0 = true)) (fun _ => 1) k, fun h1 k hm => mid63 hm, ?_, ?_⟩
  · refine qSpecW_mono (W_stop hg hT hCt hC.obj (u := u) (F_stop hg hT hC hI.2.1.1.2.1 hP hI.2.2.2.1.1 p0) ?_ ?_) ?_
    · intro v h1 hp
      obtain ⟨w, hz, hC1, hg1⟩ := hp
      exact ⟨⟨_, hz⟩, hg1.u92 hu⟩
    · intro E h1 hx
      obtain ⟨k, rfl, hq, -, -⟩ := hx
      refine ⟨k, ?_, rfl⟩
      rcases hq with hq <;> (have := hq.1; omega)
    · intro r h1 hr
      rcases hr with ⟨z, h2, hp, rfl, rfl⟩ | ⟨k, hk, hx, rfl⟩
      · obtain ⟨w, hz, hC1, hg1⟩ := hp
        exact ⟨0, rfl, Or.inl (mid_g hL (Kg := (fun (zv : Value) (S' : CS) => S = S' ∧ wi 0 99 p0 = true ∧ some zv = some (.int (llineF (fun i => decide ((tsum S.2.1.1 S.2.2.2.2.1.1.1 S.2.2.2.2.1.1.2.1 S.2.2.2.2.1.1.2.2 (nI S.2.2.2.1.2) S.2.1.2.2.2.2.2.2.1 S.2.1.2.2.2.2.2.2.2.1 pf vf rf i (S.2.1.2.2.2.2.1 - i) (0, 0, 0, 0)).2.1 < p0.toInt64 * (tsum S.2.1.1 S.2.2.2.2.1.1.1 S.2.2.2.2.1.1.2.1 S.2.2.2.2.1.1.2.2 (nI S.2.2.2.1.2) S.2.1.2.2.2.2.2.2.1 S.2.1.2.2.2.2.2.2.2.1 pf vf rf i (S.2.1.2.2.2.2.1 - i) (0, 0, 0, 0)).2.2.2)) S.2.1.2.2.2.2.1 0)))) (z := .int z) ⟨rfl, w, hz⟩ hC1 hg1 rfl)⟩
      · refine ⟨(fun _ => 1) k, ?_, Or.inr (mid_b hL (by omega) (fun j hj => ?_) hx)⟩
        · rfl
        · rcases hj with hj <;> (have := hj.1; omega)
  · intro h1 k hmid
    rcases hmid with ⟨rfl, zv, S', u', ⟨rfl, w, hz⟩, hC1, hM1, hu1, hv, h93b⟩ | ⟨j, u', rfl, hq, hC1, hM1, hu1, h93b⟩
    · obtain rfl := Option.some.inj hz
      refine qSpec_mono (M_stop hg hM1 hR hP hI.2.1 hpn hI.2.2.2.1.1 p0) fun r h2 hr => ?_
      rcases hr with ⟨-, rfl, hG⟩ | ⟨k, c, hb, -, -⟩
      · refine ⟨_, rfl, rfl, LA.g hC1 hI hu1 h93b hG (hv.trans ?_)⟩
        rfl
      · exact (PB_stop S p0 hb w).elim
    · refine qSpec_mono (M_stop hg hM1 hR hP hI.2.1 hpn hI.2.2.2.1.1 p0) fun r h2 hr => ?_
      rcases hr with ⟨w0, -⟩ | ⟨k, c, hb, ⟨z, rfl⟩, hG⟩
      · exact (PE_stop S p0 hq w0).elim
      · obtain ⟨rfl, rfl⟩ := PD_stop S p0 hq hb
        refine ⟨_, rfl, rfl, LA.b hC1 hI hu1 h93b hG ?_⟩
        rcases hq with hq <;> (rw [hq.1]; decide)
theorem PD_there (S : CS) (p0 : Int32) {j k : Nat} {c : Int32} (hq : (fun k => (k = 1 ∧ ¬ wi 0 480 p0 = true)) j) (hb : (fun (k : Nat) (c : Int32) => (k = 1 ∧ c = 1 ∧ ¬ (wi 0 480 p0 = true))) k c) : k = j ∧ c = (fun _ => 1) j := by
  simp only [Bool.and_eq_true] at hq
  rcases hq with ⟨rfl, hq⟩ <;> rcases hb with ⟨rfl, rfl, hb⟩ <;> first | exact ⟨rfl, rfl⟩ | (exfalso; grind)
theorem PE_there (S : CS) (p0 : Int32) {j : Nat} (hq : (fun k => (k = 1 ∧ ¬ wi 0 480 p0 = true)) j) (w0 : (wi 0 480 p0 = true)) : False := by
  simp only [Bool.and_eq_true] at hq
  rcases hq with ⟨rfl, hq⟩ <;> grind
theorem PB_there (S : CS) (p0 : Int32) {k : Nat} {c : Int32} (hb : (fun (k : Nat) (c : Int32) => (k = 1 ∧ c = 1 ∧ ¬ (wi 0 480 p0 = true))) k c) (w0 : (wi 0 480 p0 = true)) : False := by
  rcases hb with ⟨rfl, rfl, hb⟩ <;> grind
theorem P_there {g : qG} (hg : qOK g) (hT : qTHR g) (hCt : qCAT g) {h : qH} {S : CS} {x : Nat → Int32} {y : Nat → Int64} {F : Nat → Nat → Int32} {G : Nat → Nat → Int64} {u : Nat → Int64} (hL : LI h S x y F G u) (p0 : Int32) : PR g h wL_there mX12_there [.int p0] 8 2 0 0 := by
  obtain ⟨hC, hM, hR, hI, hu, h93⟩ := id hL
  have hn10 := hI.2.1.1.1
  have hm8 := hI.2.2.1.1
  have hk10 := hI.2.1.1.2.1
  refine ⟨fun h1 k => MidG h1 x y F G (fun (zv : Value) (S' : CS) => S = S' ∧ wi 0 480 p0 = true ∧ some zv = some (.int (cnoth S.2.2.2.1.1 p0 0 S.2.2.2.1.2 0))) lvi k ∨ MidB h1 S x y F G (fun k => (k = 1 ∧ ¬ wi 0 480 p0 = true)) (fun _ => 1) k, fun h1 k hm => mid63 hm, ?_, ?_⟩
  · refine qSpecW_mono (W_there hg hT hCt hC.obj (u := u) (F_there hg hT hC hI.2.2.1.1 p0) ?_ ?_) ?_
    · intro v h1 hp
      obtain ⟨w, hz, hC1, hg1⟩ := hp
      exact ⟨⟨_, hz⟩, hg1.u92 hu⟩
    · intro E h1 hx
      obtain ⟨k, rfl, hq, -, -⟩ := hx
      refine ⟨k, ?_, rfl⟩
      rcases hq with hq <;> (have := hq.1; omega)
    · intro r h1 hr
      rcases hr with ⟨z, h2, hp, rfl, rfl⟩ | ⟨k, hk, hx, rfl⟩
      · obtain ⟨w, hz, hC1, hg1⟩ := hp
        exact ⟨0, rfl, Or.inl (mid_g hL (Kg := (fun (zv : Value) (S' : CS) => S = S' ∧ wi 0 480 p0 = true ∧ some zv = some (.int (cnoth S.2.2.2.1.1 p0 0 S.2.2.2.1.2 0)))) (z := .int z) ⟨rfl, w, hz⟩ hC1 hg1 rfl)⟩
      · refine ⟨(fun _ => 1) k, ?_, Or.inr (mid_b hL (by omega) (fun j hj => ?_) hx)⟩
        · rfl
        · rcases hj with hj <;> (have := hj.1; omega)
  · intro h1 k hmid
    rcases hmid with ⟨rfl, zv, S', u', ⟨rfl, w, hz⟩, hC1, hM1, hu1, hv, h93b⟩ | ⟨j, u', rfl, hq, hC1, hM1, hu1, h93b⟩
    · obtain rfl := Option.some.inj hz
      refine qSpec_mono (M_there hg hM1 hR hI.2.2.1 p0) fun r h2 hr => ?_
      rcases hr with ⟨-, rfl, hG⟩ | ⟨k, c, hb, -, -⟩
      · refine ⟨_, rfl, rfl, LA.g hC1 hI hu1 h93b hG (hv.trans ?_)⟩
        rfl
      · exact (PB_there S p0 hb w).elim
    · refine qSpec_mono (M_there hg hM1 hR hI.2.2.1 p0) fun r h2 hr => ?_
      rcases hr with ⟨w0, -⟩ | ⟨k, c, hb, ⟨z, rfl⟩, hG⟩
      · exact (PE_there S p0 hq w0).elim
      · obtain ⟨rfl, rfl⟩ := PD_there S p0 hq hb
        refine ⟨_, rfl, rfl, LA.b hC1 hI hu1 h93b hG ?_⟩
        rcases hq with hq <;> (rw [hq.1]; decide)
theorem PD_lasts (S : CS) (p0 p1 : Int32) {j k : Nat} {c : Int32} (hq : (fun k => (k = 1 ∧ ¬ (wi 0 8 p0 && wi 0 480 p1) = true)) j) (hb : (fun (k : Nat) (c : Int32) => (k = 1 ∧ c = 1 ∧ ¬ (wi 0 8 p0 = true ∧ wi 0 480 p1 = true))) k c) : k = j ∧ c = (fun _ => 1) j := by
  simp only [Bool.and_eq_true] at hq
  rcases hq with ⟨rfl, hq⟩ <;> rcases hb with ⟨rfl, rfl, hb⟩ <;> first | exact ⟨rfl, rfl⟩ | (exfalso; grind)
theorem PE_lasts (S : CS) (p0 p1 : Int32) {j : Nat} (hq : (fun k => (k = 1 ∧ ¬ (wi 0 8 p0 && wi 0 480 p1) = true)) j) (w0 : (wi 0 8 p0 = true ∧ wi 0 480 p1 = true)) : False := by
  simp only [Bool.and_eq_true] at hq
  rcases hq with ⟨rfl, hq⟩ <;> grind
theorem PB_lasts (S : CS) (p0 p1 : Int32) {k : Nat} {c : Int32} (hb : (fun (k : Nat) (c : Int32) => (k = 1 ∧ c = 1 ∧ ¬ (wi 0 8 p0 = true ∧ wi 0 480 p1 = true))) k c) (w0 : (wi 0 8 p0 = true ∧ wi 0 480 p1 = true)) : False := by
  rcases hb with ⟨rfl, rfl, hb⟩ <;> grind
theorem P_lasts {g : qG} (hg : qOK g) (hT : qTHR g) (hCt : qCAT g) {h : qH} {S : CS} {x : Nat → Int32} {y : Nat → Int64} {F : Nat → Nat → Int32} {G : Nat → Nat → Int64} {u : Nat → Int64} (hL : LI h S x y F G u) (p0 p1 : Int32) : PR g h wL_lasts mX12_lasts [.int p0, .int p1] 8 3 100 400 := by
  obtain ⟨hC, hM, hR, hI, hu, h93⟩ := id hL
  have hn10 := hI.2.1.1.1
  have hm8 := hI.2.2.1.1
  have hk10 := hI.2.1.1.2.1
  refine ⟨fun h1 k => MidG h1 x y F G (fun (zv : Value) (S' : CS) => S = S' ∧ (wi 0 8 p0 && wi 0 480 p1) = true ∧ some zv = some (.int (cmost S.2.2.2.1.1 S.2.2.2.1.2 p0 p1 (-1) 99))) lvi k ∨ MidB h1 S x y F G (fun k => (k = 1 ∧ ¬ (wi 0 8 p0 && wi 0 480 p1) = true)) (fun _ => 1) k, fun h1 k hm => mid63 hm, ?_, ?_⟩
  · refine qSpecW_mono (W_lasts hg hT hCt hC.obj (u := u) (F_lasts hg hT hC hI.2.2.1.1 p0 p1) ?_ ?_) ?_
    · intro v h1 hp
      obtain ⟨w, hz, hC1, hg1⟩ := hp
      exact ⟨⟨_, hz⟩, hg1.u92 hu⟩
    · intro E h1 hx
      obtain ⟨k, rfl, hq, -, -⟩ := hx
      refine ⟨k, ?_, rfl⟩
      rcases hq with hq <;> (have := hq.1; omega)
    · intro r h1 hr
      rcases hr with ⟨z, h2, hp, rfl, rfl⟩ | ⟨k, hk, hx, rfl⟩
      · obtain ⟨w, hz, hC1, hg1⟩ := hp
        exact ⟨0, rfl, Or.inl (mid_g hL (Kg := (fun (zv : Value) (S' : CS) => S = S' ∧ (wi 0 8 p0 && wi 0 480 p1) = true ∧ some zv = some (.int (cmost S.2.2.2.1.1 S.2.2.2.1.2 p0 p1 (-1) 99)))) (z := .int z) ⟨rfl, w, hz⟩ hC1 hg1 rfl)⟩
      · refine ⟨(fun _ => 1) k, ?_, Or.inr (mid_b hL (by omega) (fun j hj => ?_) hx)⟩
        · rfl
        · rcases hj with hj <;> (have := hj.1; omega)
  · intro h1 k hmid
    rcases hmid with ⟨rfl, zv, S', u', ⟨rfl, w, hz⟩, hC1, hM1, hu1, hv, h93b⟩ | ⟨j, u', rfl, hq, hC1, hM1, hu1, h93b⟩
    · obtain rfl := Option.some.inj hz
      refine qSpec_mono (M_lasts hg hM1 hR hI.2.2.1 h93b p0 p1) fun r h2 hr => ?_
      rcases hr with ⟨-, rfl, hG⟩ | ⟨k, c, hb, -, -⟩
      · refine ⟨_, rfl, rfl, LA.g hC1 hI hu1 h93b hG (hv.trans ?_)⟩
        rfl
      · exact (PB_lasts S p0 p1 hb (by simpa using w)).elim
    · refine qSpec_mono (M_lasts hg hM1 hR hI.2.2.1 h93b p0 p1) fun r h2 hr => ?_
      rcases hr with ⟨w0, -⟩ | ⟨k, c, hb, ⟨z, rfl⟩, hG⟩
      · exact (PE_lasts S p0 p1 hq w0).elim
      · obtain ⟨rfl, rfl⟩ := PD_lasts S p0 p1 hq hb
        refine ⟨_, rfl, rfl, LA.b hC1 hI hu1 h93b hG ?_⟩
        rcases hq with hq <;> (rw [hq.1]; decide)
theorem PD_without (S : CS) (p0 p1 p2 : Int32) {j k : Nat} {c : Int32} (hq : (fun k => (k = 1 ∧ ¬ wi 0 3 p0 = true) ∨ (k = 1 ∧ wi 0 3 p0 = true ∧ ¬ (wi 0 8 p1 && wi 0 480 p2) = true)) j) (hb : (fun (k : Nat) (c : Int32) => (k = 1 ∧ c = 1 ∧ ¬ (wi 0 3 p0 = true ∧ wi 0 8 p1 = true ∧ wi 0 480 p2 = true))) k c) : k = j ∧ c = (fun _ => 1) j := by
  simp only [Bool.and_eq_true] at hq
  rcases hq with ⟨rfl, hq⟩ | ⟨rfl, hq⟩ <;> rcases hb with ⟨rfl, rfl, hb⟩ <;> first | exact ⟨rfl, rfl⟩ | (exfalso; grind)
theorem PE_without (S : CS) (p0 p1 p2 : Int32) {j : Nat} (hq : (fun k => (k = 1 ∧ ¬ wi 0 3 p0 = true) ∨ (k = 1 ∧ wi 0 3 p0 = true ∧ ¬ (wi 0 8 p1 && wi 0 480 p2) = true)) j) (w0 : (wi 0 3 p0 = true ∧ wi 0 8 p1 = true ∧ wi 0 480 p2 = true)) : False := by
  simp only [Bool.and_eq_true] at hq
  rcases hq with ⟨rfl, hq⟩ | ⟨rfl, hq⟩ <;> grind
theorem PB_without (S : CS) (p0 p1 p2 : Int32) {k : Nat} {c : Int32} (hb : (fun (k : Nat) (c : Int32) => (k = 1 ∧ c = 1 ∧ ¬ (wi 0 3 p0 = true ∧ wi 0 8 p1 = true ∧ wi 0 480 p2 = true))) k c) (w0 : (wi 0 3 p0 = true ∧ wi 0 8 p1 = true ∧ wi 0 480 p2 = true)) : False := by
  rcases hb with ⟨rfl, rfl, hb⟩ <;> grind
theorem P_without {g : qG} (hg : qOK g) (hT : qTHR g) (hCt : qCAT g) {h : qH} {S : CS} {x : Nat → Int32} {y : Nat → Int64} {F : Nat → Nat → Int32} {G : Nat → Nat → Int64} {u : Nat → Int64} (hL : LI h S x y F G u) (p0 p1 p2 : Int32) : PR g h wL_without mX12_without [.int p0, .int p1, .int p2] 8 3 100 400 := by
  obtain ⟨hC, hM, hR, hI, hu, h93⟩ := id hL
  have hn10 := hI.2.1.1.1
  have hm8 := hI.2.2.1.1
  have hk10 := hI.2.1.1.2.1
  refine ⟨fun h1 k => MidG h1 x y F G (fun (zv : Value) (S' : CS) => S = S' ∧ wi 0 3 p0 = true ∧ (wi 0 8 p1 && wi 0 480 p2) = true ∧ some zv = some (.int (cmost S.2.2.2.1.1 S.2.2.2.1.2 p1 p2 p0 99))) lvi k ∨ MidB h1 S x y F G (fun k => (k = 1 ∧ ¬ wi 0 3 p0 = true) ∨ (k = 1 ∧ wi 0 3 p0 = true ∧ ¬ (wi 0 8 p1 && wi 0 480 p2) = true)) (fun _ => 1) k, fun h1 k hm => mid63 hm, ?_, ?_⟩
  · refine qSpecW_mono (W_without hg hT hCt hC.obj (u := u) (F_without hg hT hC hI.2.2.1.1 p0 p1 p2) ?_ ?_) ?_
    · intro v h1 hp
      obtain ⟨w1, w2, hz, hC1, hg1⟩ := hp
      exact ⟨⟨_, hz⟩, hg1.u92 hu⟩
    · intro E h1 hx
      obtain ⟨k, rfl, hq, -, -⟩ := hx
      refine ⟨k, ?_, rfl⟩
      rcases hq with hq | hq <;> (have := hq.1; omega)
    · intro r h1 hr
      rcases hr with ⟨z, h2, hp, rfl, rfl⟩ | ⟨k, hk, hx, rfl⟩
      · obtain ⟨w1, w2, hz, hC1, hg1⟩ := hp
        exact ⟨0, rfl, Or.inl (mid_g hL (Kg := (fun (zv : Value) (S' : CS) => S = S' ∧ wi 0 3 p0 = true ∧ (wi 0 8 p1 && wi 0 480 p2) = true ∧ some zv = some (.int (cmost S.2.2.2.1.1 S.2.2.2.1.2 p1 p2 p0 99)))) (z := .int z) ⟨rfl, w1, w2, hz⟩ hC1 hg1 rfl)⟩
      · refine ⟨(fun _ => 1) k, ?_, Or.inr (mid_b hL (by omega) (fun j hj => ?_) hx)⟩
        · rfl
        · rcases hj with hj | hj <;> (have := hj.1; omega)
  · intro h1 k hmid
    rcases hmid with ⟨rfl, zv, S', u', ⟨rfl, w1, w2, hz⟩, hC1, hM1, hu1, hv, h93b⟩ | ⟨j, u', rfl, hq, hC1, hM1, hu1, h93b⟩
    · obtain rfl := Option.some.inj hz
      refine qSpec_mono (M_without hg hM1 hR hI.2.2.1 h93b p0 p1 p2) fun r h2 hr => ?_
      rcases hr with ⟨-, rfl, hG⟩ | ⟨k, c, hb, -, -⟩
      · refine ⟨_, rfl, rfl, LA.g hC1 hI hu1 h93b hG (hv.trans ?_)⟩
        rfl
      · exact (PB_without S p0 p1 p2 hb ⟨w1, ((Bool.and_eq_true _ _).mp w2).1, ((Bool.and_eq_true _ _).mp w2).2⟩).elim
    · refine qSpec_mono (M_without hg hM1 hR hI.2.2.1 h93b p0 p1 p2) fun r h2 hr => ?_
      rcases hr with ⟨w0, -⟩ | ⟨k, c, hb, ⟨z, rfl⟩, hG⟩
      · exact (PE_without S p0 p1 p2 hq w0).elim
      · obtain ⟨rfl, rfl⟩ := PD_without S p0 p1 p2 hq hb
        refine ⟨_, rfl, rfl, LA.b hC1 hI hu1 h93b hG ?_⟩
        rcases hq with hq | hq <;> (rw [hq.1]; decide)
theorem PD_gave (S : CS) (p0 : Int32) {j k : Nat} {c : Int32} (hq : (fun k => (k = 1 ∧ ¬ wi 0 3 p0 = true)) j) (hb : (fun (k : Nat) (c : Int32) => (k = 1 ∧ c = 1 ∧ ¬ (wi 0 3 p0 = true))) k c) : k = j ∧ c = (fun _ => 1) j := by
  simp only [Bool.and_eq_true] at hq
  rcases hq with ⟨rfl, hq⟩ <;> rcases hb with ⟨rfl, rfl, hb⟩ <;> first | exact ⟨rfl, rfl⟩ | (exfalso; grind)
theorem PE_gave (S : CS) (p0 : Int32) {j : Nat} (hq : (fun k => (k = 1 ∧ ¬ wi 0 3 p0 = true)) j) (w0 : (wi 0 3 p0 = true)) : False := by
  simp only [Bool.and_eq_true] at hq
  rcases hq with ⟨rfl, hq⟩ <;> grind
theorem PB_gave (S : CS) (p0 : Int32) {k : Nat} {c : Int32} (hb : (fun (k : Nat) (c : Int32) => (k = 1 ∧ c = 1 ∧ ¬ (wi 0 3 p0 = true))) k c) (w0 : (wi 0 3 p0 = true)) : False := by
  rcases hb with ⟨rfl, rfl, hb⟩ <;> grind
theorem P_gave {g : qG} (hg : qOK g) (hT : qTHR g) (hCt : qCAT g) {h : qH} {S : CS} {x : Nat → Int32} {y : Nat → Int64} {F : Nat → Nat → Int32} {G : Nat → Nat → Int64} {u : Nat → Int64} (hL : LI h S x y F G u) (p0 : Int32) : PR g h wL_gave mX12_gave [.int p0] 9 3 0 0 := by
  obtain ⟨hC, hM, hR, hI, hu, h93⟩ := id hL
  have hn10 := hI.2.1.1.1
  have hm8 := hI.2.2.1.1
  have hk10 := hI.2.1.1.2.1
  refine ⟨fun h1 k => MidG h1 x y F G (fun (zv : Value) (S' : CS) => S = S' ∧ wi 0 3 p0 = true ∧ ∃ k : Nat, k ≤ 3 ∧ p0 = nI k ∧ some zv = some (.int (if k = 0 then (bsets S.2.1.1 S.2.2.2.2.2.1.1 S.2.2.2.2.2.1.2.1 S.2.2.2.2.2.1.2.2 (2 ^ S.2.1.2.2.2.1) 0 (0, -1, nI (2 ^ S.2.1.2.2.2.1 - 1), 0)).1 else if k = 1 then (bsets S.2.1.1 S.2.2.2.2.2.1.1 S.2.2.2.2.2.1.2.1 S.2.2.2.2.2.1.2.2 (2 ^ S.2.1.2.2.2.1) 0 (0, -1, nI (2 ^ S.2.1.2.2.2.1 - 1), 0)).2.1 else if k = 2 then (if (bsets S.2.1.1 S.2.2.2.2.2.1.1 S.2.2.2.2.2.1.2.1 S.2.2.2.2.2.1.2.2 (2 ^ S.2.1.2.2.2.1) 0 (0, -1, nI (2 ^ S.2.1.2.2.2.1 - 1), 0)).1 = 0 then 0 else (bsets S.2.1.1 S.2.2.2.2.2.1.1 S.2.2.2.2.2.1.2.1 S.2.2.2.2.2.1.2.2 (2 ^ S.2.1.2.2.2.1) 0 (0, -1, nI (2 ^ S.2.1.2.2.2.1 - 1), 0)).2.2.1) else (if (bsets S.2.1.1 S.2.2.2.2.2.1.1 S.2.2.2.2.2.1.2.1 S.2.2.2.2.2.1.2.2 (2 ^ S.2.1.2.2.2.1) 0 (0, -1, nI (2 ^ S.2.1.2.2.2.1 - 1), 0)).1 = 0 then 0 else nI (2 ^ S.2.1.2.2.2.1 - 1) &&& ((bsets S.2.1.1 S.2.2.2.2.2.1.1 S.2.2.2.2.2.1.2.1 S.2.2.2.2.2.1.2.2 (2 ^ S.2.1.2.2.2.1) 0 (0, -1, nI (2 ^ S.2.1.2.2.2.1 - 1), 0)).2.2.2 ^^^ -1))))) lvi k ∨ MidB h1 S x y F G (fun k => (k = 1 ∧ ¬ wi 0 3 p0 = true)) (fun _ => 1) k, fun h1 k hm => mid63 hm, ?_, ?_⟩
  · refine qSpecW_mono (W_gave hg hT hCt hC.obj (u := u) (F_gave hg hT hC hI.2.1.1.1 hI.2.2.2.2.1 p0) ?_ ?_) ?_
    · intro v h1 hp
      obtain ⟨w, kk, hk1, e1, hz, hC1, hg1⟩ := hp
      exact ⟨⟨_, hz⟩, hg1.u92 hu⟩
    · intro E h1 hx
      obtain ⟨k, rfl, hq, -, -⟩ := hx
      refine ⟨k, ?_, rfl⟩
      rcases hq with hq <;> (have := hq.1; omega)
    · intro r h1 hr
      rcases hr with ⟨z, h2, hp, rfl, rfl⟩ | ⟨k, hk, hx, rfl⟩
      · obtain ⟨w, kk, hk1, e1, hz, hC1, hg1⟩ := hp
        exact ⟨0, rfl, Or.inl (mid_g hL (Kg := (fun (zv : Value) (S' : CS) => S = S' ∧ wi 0 3 p0 = true ∧ ∃ k : Nat, k ≤ 3 ∧ p0 = nI k ∧ some zv = some (.int (if k = 0 then (bsets S.2.1.1 S.2.2.2.2.2.1.1 S.2.2.2.2.2.1.2.1 S.2.2.2.2.2.1.2.2 (2 ^ S.2.1.2.2.2.1) 0 (0, -1, nI (2 ^ S.2.1.2.2.2.1 - 1), 0)).1 else if k = 1 then (bsets S.2.1.1 S.2.2.2.2.2.1.1 S.2.2.2.2.2.1.2.1 S.2.2.2.2.2.1.2.2 (2 ^ S.2.1.2.2.2.1) 0 (0, -1, nI (2 ^ S.2.1.2.2.2.1 - 1), 0)).2.1 else if k = 2 then (if (bsets S.2.1.1 S.2.2.2.2.2.1.1 S.2.2.2.2.2.1.2.1 S.2.2.2.2.2.1.2.2 (2 ^ S.2.1.2.2.2.1) 0 (0, -1, nI (2 ^ S.2.1.2.2.2.1 - 1), 0)).1 = 0 then 0 else (bsets S.2.1.1 S.2.2.2.2.2.1.1 S.2.2.2.2.2.1.2.1 S.2.2.2.2.2.1.2.2 (2 ^ S.2.1.2.2.2.1) 0 (0, -1, nI (2 ^ S.2.1.2.2.2.1 - 1), 0)).2.2.1) else (if (bsets S.2.1.1 S.2.2.2.2.2.1.1 S.2.2.2.2.2.1.2.1 S.2.2.2.2.2.1.2.2 (2 ^ S.2.1.2.2.2.1) 0 (0, -1, nI (2 ^ S.2.1.2.2.2.1 - 1), 0)).1 = 0 then 0 else nI (2 ^ S.2.1.2.2.2.1 - 1) &&& ((bsets S.2.1.1 S.2.2.2.2.2.1.1 S.2.2.2.2.2.1.2.1 S.2.2.2.2.2.1.2.2 (2 ^ S.2.1.2.2.2.1) 0 (0, -1, nI (2 ^ S.2.1.2.2.2.1 - 1), 0)).2.2.2 ^^^ -1)))))) (z := .int z) ⟨rfl, w, kk, hk1, e1, hz⟩ hC1 hg1 rfl)⟩
      · refine ⟨(fun _ => 1) k, ?_, Or.inr (mid_b hL (by omega) (fun j hj => ?_) hx)⟩
        · rfl
        · rcases hj with hj <;> (have := hj.1; omega)
  · intro h1 k hmid
    rcases hmid with ⟨rfl, zv, S', u', ⟨rfl, w, kk, hk1, e1, hz⟩, hC1, hM1, hu1, hv, h93b⟩ | ⟨j, u', rfl, hq, hC1, hM1, hu1, h93b⟩
    · obtain rfl := Option.some.inj hz
      refine qSpec_mono (M_gave hg hM1 hR hI.2.1.1.1 hI.2.2.2.2.1 p0) fun r h2 hr => ?_
      rcases hr with ⟨-, ⟨a, ha, f1, rfl⟩, hG⟩ | ⟨k, c, hb, -, -⟩
      · refine ⟨_, rfl, rfl, LA.g hC1 hI hu1 h93b hG (hv.trans ?_)⟩
        obtain rfl : a = kk := (nI_eq (by omega) (by omega)).mp (f1.symm.trans e1)
        rfl
      · exact (PB_gave S p0 hb w).elim
    · refine qSpec_mono (M_gave hg hM1 hR hI.2.1.1.1 hI.2.2.2.2.1 p0) fun r h2 hr => ?_
      rcases hr with ⟨w0, -⟩ | ⟨k, c, hb, ⟨z, rfl⟩, hG⟩
      · exact (PE_gave S p0 hq w0).elim
      · obtain ⟨rfl, rfl⟩ := PD_gave S p0 hq hb
        refine ⟨_, rfl, rfl, LA.b hC1 hI hu1 h93b hG ?_⟩
        rcases hq with hq <;> (rw [hq.1]; decide)
theorem PD_right (S : CS) (p0 : Int32) {j k : Nat} {c : Int32} (hq : (fun k => (k = 1 ∧ ¬ wi 0 (nI (2 ^ S.2.1.2.2.2.1 - 1)) p0 = true)) j) (hb : (fun (k : Nat) (c : Int32) => (k = 1 ∧ c = 1 ∧ ¬ (wi 0 (nI (2 ^ S.2.1.2.2.2.1 - 1)) p0 = true))) k c) : k = j ∧ c = (fun _ => 1) j := by
  simp only [Bool.and_eq_true] at hq
  rcases hq with ⟨rfl, hq⟩ <;> rcases hb with ⟨rfl, rfl, hb⟩ <;> first | exact ⟨rfl, rfl⟩ | (exfalso; grind)
theorem PE_right (S : CS) (p0 : Int32) {j : Nat} (hq : (fun k => (k = 1 ∧ ¬ wi 0 (nI (2 ^ S.2.1.2.2.2.1 - 1)) p0 = true)) j) (w0 : (wi 0 (nI (2 ^ S.2.1.2.2.2.1 - 1)) p0 = true)) : False := by
  simp only [Bool.and_eq_true] at hq
  rcases hq with ⟨rfl, hq⟩ <;> grind
theorem PB_right (S : CS) (p0 : Int32) {k : Nat} {c : Int32} (hb : (fun (k : Nat) (c : Int32) => (k = 1 ∧ c = 1 ∧ ¬ (wi 0 (nI (2 ^ S.2.1.2.2.2.1 - 1)) p0 = true))) k c) (w0 : (wi 0 (nI (2 ^ S.2.1.2.2.2.1 - 1)) p0 = true)) : False := by
  rcases hb with ⟨rfl, rfl, hb⟩ <;> grind
theorem P_right {g : qG} (hg : qOK g) (hT : qTHR g) (hCt : qCAT g) {h : qH} {S : CS} {x : Nat → Int32} {y : Nat → Int64} {F : Nat → Nat → Int32} {G : Nat → Nat → Int64} {u : Nat → Int64} (hL : LI h S x y F G u) (p0 : Int32) : PR g h wL_right mX12_right [.int p0] 8 3 0 0 := by
  obtain ⟨hC, hM, hR, hI, hu, h93⟩ := id hL
  have hn10 := hI.2.1.1.1
  have hm8 := hI.2.2.1.1
  have hk10 := hI.2.1.1.2.1
  refine ⟨fun h1 k => MidG h1 x y F G (fun (zv : Value) (S' : CS) => S = S' ∧ wi 0 (nI (2 ^ S.2.1.2.2.2.1 - 1)) p0 = true ∧ some zv = some (.int (nI (brt S.2.1.1 S.2.2.2.2.2.1.1 S.2.2.2.2.2.1.2.1 p0 S.2.2.2.2.2.1.2.2 0)))) lvi k ∨ MidB h1 S x y F G (fun k => (k = 1 ∧ ¬ wi 0 (nI (2 ^ S.2.1.2.2.2.1 - 1)) p0 = true)) (fun _ => 1) k, fun h1 k hm => mid63 hm, ?_, ?_⟩
  · refine qSpecW_mono (W_right hg hT hCt hC.obj (u := u) (F_right hg hT hC hI.2.1.1.1 hI.2.2.2.2.1 p0) ?_ ?_) ?_
    · intro v h1 hp
      obtain ⟨w, hz, hC1, hg1⟩ := hp
      exact ⟨⟨_, hz⟩, hg1.u92 hu⟩
    · intro E h1 hx
      obtain ⟨k, rfl, hq, -, -⟩ := hx
      refine ⟨k, ?_, rfl⟩
      rcases hq with hq <;> (have := hq.1; omega)
    · intro r h1 hr
      rcases hr with ⟨z, h2, hp, rfl, rfl⟩ | ⟨k, hk, hx, rfl⟩
      · obtain ⟨w, hz, hC1, hg1⟩ := hp
        exact ⟨0, rfl, Or.inl (mid_g hL (Kg := (fun (zv : Value) (S' : CS) => S = S' ∧ wi 0 (nI (2 ^ S.2.1.2.2.2.1 - 1)) p0 = true ∧ some zv = some (.int (nI (brt S.2.1.1 S.2.2.2.2.2.1.1 S.2.2.2.2.2.1.2.1 p0 S.2.2.2.2.2.1.2.2 0))))) (z := .int z) ⟨rfl, w, hz⟩ hC1 hg1 rfl)⟩
      · refine ⟨(fun _ => 1) k, ?_, Or.inr (mid_b hL (by omega) (fun j hj => ?_) hx)⟩
        · rfl
        · rcases hj with hj <;> (have := hj.1; omega)
  · intro h1 k hmid
    rcases hmid with ⟨rfl, zv, S', u', ⟨rfl, w, hz⟩, hC1, hM1, hu1, hv, h93b⟩ | ⟨j, u', rfl, hq, hC1, hM1, hu1, h93b⟩
    · obtain rfl := Option.some.inj hz
      refine qSpec_mono (M_right hg hM1 hR hI.2.1.1.1 hI.2.2.2.2.1 p0) fun r h2 hr => ?_
      rcases hr with ⟨-, rfl, hG⟩ | ⟨k, c, hb, -, -⟩
      · refine ⟨_, rfl, rfl, LA.g hC1 hI hu1 h93b hG (hv.trans ?_)⟩
        rfl
      · exact (PB_right S p0 hb w).elim
    · refine qSpec_mono (M_right hg hM1 hR hI.2.1.1.1 hI.2.2.2.2.1 p0) fun r h2 hr => ?_
      rcases hr with ⟨w0, -⟩ | ⟨k, c, hb, ⟨z, rfl⟩, hG⟩
      · exact (PE_right S p0 hq w0).elim
      · obtain ⟨rfl, rfl⟩ := PD_right S p0 hq hb
        refine ⟨_, rfl, rfl, LA.b hC1 hI hu1 h93b hG ?_⟩
        rcases hq with hq <;> (rw [hq.1]; decide)
theorem PD_evening (S : CS) (p0 p1 : Int32) {j k : Nat} {c : Int32} (hq : (fun k => (k = 1 ∧ ¬ wi 0 6 p1 = true)) j) (hb : (fun (k : Nat) (c : Int32) => (k = 1 ∧ c = 1 ∧ ¬ (wi 0 6 p1 = true))) k c) : k = j ∧ c = (fun _ => 1) j := by
  simp only [Bool.and_eq_true] at hq
  rcases hq with ⟨rfl, hq⟩ <;> rcases hb with ⟨rfl, rfl, hb⟩ <;> first | exact ⟨rfl, rfl⟩ | (exfalso; grind)
theorem PE_evening (S : CS) (p0 p1 : Int32) {j : Nat} (hq : (fun k => (k = 1 ∧ ¬ wi 0 6 p1 = true)) j) (w0 : (wi 0 6 p1 = true)) : False := by
  simp only [Bool.and_eq_true] at hq
  rcases hq with ⟨rfl, hq⟩ <;> grind
theorem PB_evening (S : CS) (p0 p1 : Int32) {k : Nat} {c : Int32} (hb : (fun (k : Nat) (c : Int32) => (k = 1 ∧ c = 1 ∧ ¬ (wi 0 6 p1 = true))) k c) (w0 : (wi 0 6 p1 = true)) : False := by
  rcases hb with ⟨rfl, rfl, hb⟩ <;> grind
theorem P_evening {g : qG} (hg : qOK g) (hT : qTHR g) (hCt : qCAT g) {h : qH} {S : CS} {x : Nat → Int32} {y : Nat → Int64} {F : Nat → Nat → Int32} {G : Nat → Nat → Int64} {u : Nat → Int64} (hL : LI h S x y F G u) (p0 p1 : Int32) : PR g h wL_evening mX12_evening [.int p0, .int p1] 9 6 0 0 := by
  obtain ⟨hC, hM, hR, hI, hu, h93⟩ := id hL
  have hn10 := hI.2.1.1.1
  have hm8 := hI.2.2.1.1
  have hk10 := hI.2.1.1.2.1
  obtain ⟨pf, vf, rf, hP, hpn, hinj⟩ := hI.2.1.2.2.1
  refine ⟨fun h1 k => MidG h1 x y F G (fun (zv : Value) (S' : CS) => S = S' ∧ wi 0 6 p1 = true ∧ ∃ k : Nat, k ≤ 6 ∧ p1 = nI k ∧ ∃ e : Nat → Int32, some zv = some (.int (nightS S pf vf rf e p0 (k + 4)))) lvi k ∨ MidB h1 S x y F G (fun k => (k = 1 ∧ ¬ wi 0 6 p1 = true)) (fun _ => 1) k, fun h1 k hm => mid63 hm, ?_, ?_⟩
  · refine qSpecW_mono (W_evening hg hT hCt hC.obj (u := u) (F_evening hg hT hC hI.2.1.1.2.1 hP hI.2.2.2.1.1 hI.2.2.2.1.2 p0 p1) ?_ ?_) ?_
    · intro v h1 hp
      obtain ⟨w, kk, hk1, e1, e, hz, hC1, hg1⟩ := hp
      exact ⟨⟨_, hz⟩, hg1.u92 hu⟩
    · intro E h1 hx
      obtain ⟨k, rfl, hq, -, -⟩ := hx
      refine ⟨k, ?_, rfl⟩
      rcases hq with hq <;> (have := hq.1; omega)
    · intro r h1 hr
      rcases hr with ⟨z, h2, hp, rfl, rfl⟩ | ⟨k, hk, hx, rfl⟩
      · obtain ⟨w, kk, hk1, e1, e, hz, hC1, hg1⟩ := hp
        exact ⟨0, rfl, Or.inl (mid_g hL (Kg := (fun (zv : Value) (S' : CS) => S = S' ∧ wi 0 6 p1 = true ∧ ∃ k : Nat, k ≤ 6 ∧ p1 = nI k ∧ ∃ e : Nat → Int32, some zv = some (.int (nightS S pf vf rf e p0 (k + 4))))) (z := .int z) ⟨rfl, w, kk, hk1, e1, e, hz⟩ hC1 hg1 rfl)⟩
      · refine ⟨(fun _ => 1) k, ?_, Or.inr (mid_b hL (by omega) (fun j hj => ?_) hx)⟩
        · rfl
        · rcases hj with hj <;> (have := hj.1; omega)
  · intro h1 k hmid
    rcases hmid with ⟨rfl, zv, S', u', ⟨rfl, w, kk, hk1, e1, e, hz⟩, hC1, hM1, hu1, hv, h93b⟩ | ⟨j, u', rfl, hq, hC1, hM1, hu1, h93b⟩
    · obtain rfl := Option.some.inj hz
      refine qSpec_mono (M_evening hg hM1 hR hP hI.2.1 hpn hI.2.2.2.1.1 hI.2.2.2.1.2 e p0 p1) fun r h2 hr => ?_
      rcases hr with ⟨-, ⟨a, ha, f1, rfl⟩, hG⟩ | ⟨k, c, hb, -, -⟩
      · refine ⟨_, rfl, rfl, LA.g hC1 hI hu1 h93b hG (hv.trans ?_)⟩
        obtain rfl : a = kk := (nI_eq (by omega) (by omega)).mp (f1.symm.trans e1)
        rfl
      · exact (PB_evening S p0 p1 hb w).elim
    · refine qSpec_mono (M_evening hg hM1 hR hP hI.2.1 hpn hI.2.2.2.1.1 hI.2.2.2.1.2 (fun _ => 0) p0 p1) fun r h2 hr => ?_
      rcases hr with ⟨w0, -⟩ | ⟨k, c, hb, ⟨z, rfl⟩, hG⟩
      · exact (PE_evening S p0 p1 hq w0).elim
      · obtain ⟨rfl, rfl⟩ := PD_evening S p0 p1 hq hb
        refine ⟨_, rfl, rfl, LA.b hC1 hI hu1 h93b hG ?_⟩
        rcases hq with hq <;> (rw [hq.1]; decide)
theorem PD_span (S : CS) (p0 p1 p2 p3 : Int32) {j k : Nat} {c : Int32} (hq : (fun k => (k = 1 ∧ ¬ (wi 1 40 p1 && (wi 0 3 p2 && wi 0 (nI S.2.1.2.2.2.1 - 1) p3)) = true)) j) (hb : (fun (k : Nat) (c : Int32) => (k = 1 ∧ c = 1 ∧ ¬ (wi 1 40 p1 = true ∧ wi 0 3 p2 = true ∧ wi 0 (nI S.2.1.2.2.2.1 - 1) p3 = true))) k c) : k = j ∧ c = (fun _ => 1) j := by
  simp only [Bool.and_eq_true] at hq
  rcases hq with ⟨rfl, hq⟩ <;> rcases hb with ⟨rfl, rfl, hb⟩ <;> first | exact ⟨rfl, rfl⟩ | (exfalso; grind)
theorem PE_span (S : CS) (p0 p1 p2 p3 : Int32) {j : Nat} (hq : (fun k => (k = 1 ∧ ¬ (wi 1 40 p1 && (wi 0 3 p2 && wi 0 (nI S.2.1.2.2.2.1 - 1) p3)) = true)) j) (w0 : (wi 1 40 p1 = true ∧ wi 0 3 p2 = true ∧ wi 0 (nI S.2.1.2.2.2.1 - 1) p3 = true)) : False := by
  simp only [Bool.and_eq_true] at hq
  rcases hq with ⟨rfl, hq⟩ <;> grind
theorem PB_span (S : CS) (p0 p1 p2 p3 : Int32) {k : Nat} {c : Int32} (hb : (fun (k : Nat) (c : Int32) => (k = 1 ∧ c = 1 ∧ ¬ (wi 1 40 p1 = true ∧ wi 0 3 p2 = true ∧ wi 0 (nI S.2.1.2.2.2.1 - 1) p3 = true))) k c) (w0 : (wi 1 40 p1 = true ∧ wi 0 3 p2 = true ∧ wi 0 (nI S.2.1.2.2.2.1 - 1) p3 = true)) : False := by
  rcases hb with ⟨rfl, rfl, hb⟩ <;> grind
theorem P_span {g : qG} (hg : qOK g) (hT : qTHR g) (hCt : qCAT g) {h : qH} {S : CS} {x : Nat → Int32} {y : Nat → Int64} {F : Nat → Nat → Int32} {G : Nat → Nat → Int64} {u : Nat → Int64} (hL : LI h S x y F G u) (p0 p1 p2 p3 : Int32) : PR g h wL_span mX12_span [.int p0, .int p1, .int p2, .int p3] 9 6 0 0 := by
  obtain ⟨hC, hM, hR, hI, hu, h93⟩ := id hL
  have hn10 := hI.2.1.1.1
  have hm8 := hI.2.2.1.1
  have hk10 := hI.2.1.1.2.1
  obtain ⟨pf, vf, rf, hP, hpn, hinj⟩ := hI.2.1.2.2.1
  refine ⟨fun h1 k => MidG h1 x y F G (fun (zv : Value) (S' : CS) => S = S' ∧ (wi 1 40 p1 && (wi 0 3 p2 && wi 0 (nI S.2.1.2.2.2.1 - 1) p3)) = true ∧ ∃ n k x : Nat, 1 ≤ n ∧ n ≤ 40 ∧ k ≤ 3 ∧ x < S.2.1.2.2.2.1 ∧ p1 = nI n ∧ p2 = nI k ∧ p3 = nI x ∧ ∃ e : Nat → Int32, some zv = some (.int (if k = 0 then (sprun (nightS S pf vf rf) p0 x n 0 (e, 0, 0, 0, 0)).2.1 else if k = 1 then (sprun (nightS S pf vf rf) p0 x n 0 (e, 0, 0, 0, 0)).2.2.1 else if k = 2 then (sprun (nightS S pf vf rf) p0 x n 0 (e, 0, 0, 0, 0)).2.2.2.1 else (sprun (nightS S pf vf rf) p0 x n 0 (e, 0, 0, 0, 0)).2.2.2.2))) lvi k ∨ MidB h1 S x y F G (fun k => (k = 1 ∧ ¬ (wi 1 40 p1 && (wi 0 3 p2 && wi 0 (nI S.2.1.2.2.2.1 - 1) p3)) = true)) (fun _ => 1) k, fun h1 k hm => mid63 hm, ?_, ?_⟩
  · refine qSpecW_mono (W_span hg hT hCt hC.obj (u := u) (F_span hg hT hC hI.2.1.1.1 hI.2.1.1.2.1 hP hI.2.2.2.1.1 hI.2.2.2.1.2 p0 p1 p2 p3) ?_ ?_) ?_
    · intro v h1 hp
      obtain ⟨w, nn, kk, xx, hn1, hn2, hk1, hx, e1, e2, e3, e, hz, hC1, hg1⟩ := hp
      exact ⟨⟨_, hz⟩, hg1.u92 hu⟩
    · intro E h1 hx
      obtain ⟨k, rfl, hq, -, -⟩ := hx
      refine ⟨k, ?_, rfl⟩
      rcases hq with hq <;> (have := hq.1; omega)
    · intro r h1 hr
      rcases hr with ⟨z, h2, hp, rfl, rfl⟩ | ⟨k, hk, hx, rfl⟩
      · obtain ⟨w, nn, kk, xx, hn1, hn2, hk1, hx, e1, e2, e3, e, hz, hC1, hg1⟩ := hp
        exact ⟨0, rfl, Or.inl (mid_g hL (Kg := (fun (zv : Value) (S' : CS) => S = S' ∧ (wi 1 40 p1 && (wi 0 3 p2 && wi 0 (nI S.2.1.2.2.2.1 - 1) p3)) = true ∧ ∃ n k x : Nat, 1 ≤ n ∧ n ≤ 40 ∧ k ≤ 3 ∧ x < S.2.1.2.2.2.1 ∧ p1 = nI n ∧ p2 = nI k ∧ p3 = nI x ∧ ∃ e : Nat → Int32, some zv = some (.int (if k = 0 then (sprun (nightS S pf vf rf) p0 x n 0 (e, 0, 0, 0, 0)).2.1 else if k = 1 then (sprun (nightS S pf vf rf) p0 x n 0 (e, 0, 0, 0, 0)).2.2.1 else if k = 2 then (sprun (nightS S pf vf rf) p0 x n 0 (e, 0, 0, 0, 0)).2.2.2.1 else (sprun (nightS S pf vf rf) p0 x n 0 (e, 0, 0, 0, 0)).2.2.2.2)))) (z := .int z) ⟨rfl, w, nn, kk, xx, hn1, hn2, hk1, hx, e1, e2, e3, e, hz⟩ hC1 hg1 rfl)⟩
      · refine ⟨(fun _ => 1) k, ?_, Or.inr (mid_b hL (by omega) (fun j hj => ?_) hx)⟩
        · rfl
        · rcases hj with hj <;> (have := hj.1; omega)
  · intro h1 k hmid
    rcases hmid with ⟨rfl, zv, S', u', ⟨rfl, w, nn, kk, xx, hn1, hn2, hk1, hx, e1, e2, e3, e, hz⟩, hC1, hM1, hu1, hv, h93b⟩ | ⟨j, u', rfl, hq, hC1, hM1, hu1, h93b⟩
    · obtain rfl := Option.some.inj hz
      refine qSpec_mono (M_span hg hM1 hR hP hI.2.1 hpn hI.2.2.2.1.1 hI.2.2.2.1.2 e p0 p1 p2 p3) fun r h2 hr => ?_
      rcases hr with ⟨-, ⟨a, b, c1, ha1, ha2, hb, hc, f1, f2, f3, rfl⟩, hG⟩ | ⟨k, c, hb, -, -⟩
      · refine ⟨_, rfl, rfl, LA.g hC1 hI hu1 h93b hG (hv.trans ?_)⟩
        obtain rfl : a = nn := (nI_eq (by omega) (by omega)).mp (f1.symm.trans e1)
        obtain rfl : b = kk := (nI_eq (by omega) (by omega)).mp (f2.symm.trans e2)
        obtain rfl : c1 = xx := (nI_eq (by omega) (by omega)).mp (f3.symm.trans e3)
        rfl
      · exact (PB_span S p0 p1 p2 p3 hb (by simpa using w)).elim
    · refine qSpec_mono (M_span hg hM1 hR hP hI.2.1 hpn hI.2.2.2.1.1 hI.2.2.2.1.2 (fun _ => 0) p0 p1 p2 p3) fun r h2 hr => ?_
      rcases hr with ⟨w0, -⟩ | ⟨k, c, hb, ⟨z, rfl⟩, hG⟩
      · exact (PE_span S p0 p1 p2 p3 hq w0).elim
      · obtain ⟨rfl, rfl⟩ := PD_span S p0 p1 p2 p3 hq hb
        refine ⟨_, rfl, rfl, LA.b hC1 hI hu1 h93b hG ?_⟩
        rcases hq with hq <;> (rw [hq.1]; decide)
theorem PD_finest (S : CS) (p0 p1 : Int32) {j k : Nat} {c : Int32} (hq : (fun k => (k = 1 ∧ ¬ wi 1 40 p1 = true)) j) (hb : (fun (k : Nat) (c : Int32) => (k = 1 ∧ c = 1 ∧ ¬ (wi 1 40 p1 = true))) k c) : k = j ∧ c = (fun _ => 1) j := by
  simp only [Bool.and_eq_true] at hq
  rcases hq with ⟨rfl, hq⟩ <;> rcases hb with ⟨rfl, rfl, hb⟩ <;> first | exact ⟨rfl, rfl⟩ | (exfalso; grind)
theorem PE_finest (S : CS) (p0 p1 : Int32) {j : Nat} (hq : (fun k => (k = 1 ∧ ¬ wi 1 40 p1 = true)) j) (w0 : (wi 1 40 p1 = true)) : False := by
  simp only [Bool.and_eq_true] at hq
  rcases hq with ⟨rfl, hq⟩ <;> grind
theorem PB_finest (S : CS) (p0 p1 : Int32) {k : Nat} {c : Int32} (hb : (fun (k : Nat) (c : Int32) => (k = 1 ∧ c = 1 ∧ ¬ (wi 1 40 p1 = true))) k c) (w0 : (wi 1 40 p1 = true)) : False := by
  rcases hb with ⟨rfl, rfl, hb⟩ <;> grind
theorem P_finest {g : qG} (hg : qOK g) (hT : qTHR g) (hCt : qCAT g) {h : qH} {S : CS} {x : Nat → Int32} {y : Nat → Int64} {F : Nat → Nat → Int32} {G : Nat → Nat → Int64} {u : Nat → Int64} (hL : LI h S x y F G u) (p0 p1 : Int32) : PR g h wL_finest mX12_finest [.int p0, .int p1] 9 6 0 0 := by
  obtain ⟨hC, hM, hR, hI, hu, h93⟩ := id hL
  have hn10 := hI.2.1.1.1
  have hm8 := hI.2.2.1.1
  have hk10 := hI.2.1.1.2.1
  obtain ⟨pf, vf, rf, hP, hpn, hinj⟩ := hI.2.1.2.2.1
  refine ⟨fun h1 k => MidG h1 x y F G (fun (zv : Value) (S' : CS) => S = S' ∧ wi 1 40 p1 = true ∧ ∃ n : Nat, 1 ≤ n ∧ n ≤ 40 ∧ p1 = nI n ∧ ∃ e : Nat → Int32, some zv = some (.int (firun (nightS S pf vf rf) p0 n 0 (e, p0, -1)).2.1)) lvi k ∨ MidB h1 S x y F G (fun k => (k = 1 ∧ ¬ wi 1 40 p1 = true)) (fun _ => 1) k, fun h1 k hm => mid63 hm, ?_, ?_⟩
  · refine qSpecW_mono (W_finest hg hT hCt hC.obj (u := u) (F_finest hg hT hC hI.2.1.1.2.1 hP hI.2.2.2.1.1 hI.2.2.2.1.2 p0 p1) ?_ ?_) ?_
    · intro v h1 hp
      obtain ⟨w, nn, hn1, hn2, e1, e, hz, hC1, hg1⟩ := hp
      exact ⟨⟨_, hz⟩, hg1.u92 hu⟩
    · intro E h1 hx
      obtain ⟨k, rfl, hq, -, -⟩ := hx
      refine ⟨k, ?_, rfl⟩
      rcases hq with hq <;> (have := hq.1; omega)
    · intro r h1 hr
      rcases hr with ⟨z, h2, hp, rfl, rfl⟩ | ⟨k, hk, hx, rfl⟩
      · obtain ⟨w, nn, hn1, hn2, e1, e, hz, hC1, hg1⟩ := hp
        exact ⟨0, rfl, Or.inl (mid_g hL (Kg := (fun (zv : Value) (S' : CS) => S = S' ∧ wi 1 40 p1 = true ∧ ∃ n : Nat, 1 ≤ n ∧ n ≤ 40 ∧ p1 = nI n ∧ ∃ e : Nat → Int32, some zv = some (.int (firun (nightS S pf vf rf) p0 n 0 (e, p0, -1)).2.1))) (z := .int z) ⟨rfl, w, nn, hn1, hn2, e1, e, hz⟩ hC1 hg1 rfl)⟩
      · refine ⟨(fun _ => 1) k, ?_, Or.inr (mid_b hL (by omega) (fun j hj => ?_) hx)⟩
        · rfl
        · rcases hj with hj <;> (have := hj.1; omega)
  · intro h1 k hmid
    rcases hmid with ⟨rfl, zv, S', u', ⟨rfl, w, nn, hn1, hn2, e1, e, hz⟩, hC1, hM1, hu1, hv, h93b⟩ | ⟨j, u', rfl, hq, hC1, hM1, hu1, h93b⟩
    · obtain rfl := Option.some.inj hz
      refine qSpec_mono (M_finest hg hM1 hR hP hI.2.1 hpn hI.2.2.2.1.1 hI.2.2.2.1.2 e p0 p1) fun r h2 hr => ?_
      rcases hr with ⟨-, ⟨a, ha1, ha2, f1, rfl⟩, hG⟩ | ⟨k, c, hb, -, -⟩
      · refine ⟨_, rfl, rfl, LA.g hC1 hI hu1 h93b hG (hv.trans ?_)⟩
        obtain rfl : a = nn := (nI_eq (by omega) (by omega)).mp (f1.symm.trans e1)
        rfl
      · exact (PB_finest S p0 p1 hb w).elim
    · refine qSpec_mono (M_finest hg hM1 hR hP hI.2.1 hpn hI.2.2.2.1.1 hI.2.2.2.1.2 (fun _ => 0) p0 p1) fun r h2 hr => ?_
      rcases hr with ⟨w0, -⟩ | ⟨k, c, hb, ⟨z, rfl⟩, hG⟩
      · exact (PE_finest S p0 p1 hq w0).elim
      · obtain ⟨rfl, rfl⟩ := PD_finest S p0 p1 hq hb
        refine ⟨_, rfl, rfl, LA.b hC1 hI hu1 h93b hG ?_⟩
        rcases hq with hq <;> (rw [hq.1]; decide)
end Q14E
