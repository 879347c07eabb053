section Q14J
theorem ifc {c A B : Prop} [Decidable c] (h : if c then A else B) : (c ∧ A) ∨ (¬ c ∧ B) := by
  by_cases q : c
  · rw [if_pos q] at h; exact Or.inl ⟨q, h⟩
  · rw [if_neg q] at h; exact Or.inr ⟨q, h⟩
theorem ift {c A B : Prop} [Decidable c] (q : c) (h : A) : if c then A else B := by rw [if_pos q]; exact h
theorem ife {c A B : Prop} [Decidable c] (q : ¬ c) (h : B) : if c then A else B := by rw [if_neg q]; exact h
theorem INV.tape {S : CS} (hI : INV S) {B : Nat → Int32} {n : Nat} {v : Int32} (hn : n ≤ 600) : INV ((B, n, v), S.2) := ⟨hn, hI.2⟩
theorem LG.cp {P : Nat → Int32} {k N : Nat} (h : LG P k N) (hN : N ≤ 10) (P2 : Nat → Int32) : LG (va_cpy P P2 0 0 30) k N := by
  have hk := h.le
  obtain ⟨pf, vf, rf, h1, h2, h3⟩ := h
  refine ⟨pf, vf, rf, fun i hi => ?_, h2, h3⟩
  rw [cpy_at (by omega), cpy_at (by omega), cpy_at (by omega)]
  exact h1 i hi
theorem INV.plan {S : CS} (hI : INV S) {pl : Int32} {P : Nat → Int32} {k : Nat} (h : LG P k S.2.1.2.2.2.1) : INV ((S.1.1, 0, pl), (S.2.1.1, va_cpy P S.2.1.2.1 0 0 30, S.2.1.2.2.1, S.2.1.2.2.2.1, k, 0, S.2.1.2.2.2.2.2.2), S.2.2) := by
  have hN := hI.2.1.1.1
  have hk := h.le
  refine (hI.tape (B := S.1.1) (n := 0) (v := pl) (Nat.zero_le _)).rd (R := (S.2.1.1, va_cpy P S.2.1.2.1 0 0 30, S.2.1.2.2.1, S.2.1.2.2.2.1, k, 0, S.2.1.2.2.2.2.2.2)) ?_ rfl rfl rfl
  exact ⟨⟨hN, by show k ≤ 10; omega, Nat.zero_le _⟩, hI.2.1.2.1, h.cp hN _, hI.2.1.2.2.2⟩
theorem INV.book {S : CS} (hI : INV S) {pl : Int32} {B C : Nat → Int32} {k : Nat} (h : k ≤ 8) : INV ((S.1.1, 0, pl), S.2.1, S.2.2.1, S.2.2.2.1, S.2.2.2.2.1, (B, C, k), S.2.2.2.2.2.2) := ⟨Nat.zero_le _, hI.2.1, hI.2.2.1, hI.2.2.2.1, h, hI.2.2.2.2.2⟩
theorem INV.law0 {S : CS} (hI : INV S) {pl : Int32} {L : (Nat → Int32) × (Nat → Int32) × Nat} (h : lwf L) : INV ((S.1.1, 0, pl), S.2.1, S.2.2.1, S.2.2.2.1, (L, S.2.2.2.2.1.2), S.2.2.2.2.2) := ⟨Nat.zero_le _, hI.2.1, hI.2.2.1, ⟨h, hI.2.2.2.1.2⟩, hI.2.2.2.2⟩
theorem INV.law1 {S : CS} (hI : INV S) {pl : Int32} {L : (Nat → Int32) × (Nat → Int32) × Nat} (h : lwf L) : INV ((S.1.1, 0, pl), S.2.1, S.2.2.1, S.2.2.2.1, (S.2.2.2.2.1.1, L), S.2.2.2.2.2) := ⟨Nat.zero_le _, hI.2.1, hI.2.2.1, ⟨hI.2.2.2.1.1, h⟩, hI.2.2.2.2⟩
theorem VOK0 {D Q : Nat → Int32} : VOK (D, 0, Q, 0, 0, 2, 120) := ⟨Nat.zero_le _, fun a f ha => absurd ha (Nat.not_lt_zero a), ⟨Nat.zero_le _, fun a ha => absurd ha (Nat.not_lt_zero a)⟩, ⟨0, by decide, rfl⟩, ⟨2, by decide, by decide, rfl⟩, ⟨120, by decide, rfl⟩⟩
theorem lbr_w {f : Nat → Nat} {len : Nat} (h : lbr f len) {F : Nat → Int32} {n a : Nat} (ha : a ≤ n) (hn : n ≤ 600) : pword F n f len a = -1 ∨ ∃ k : Nat, k < 13 ∧ pword F n f len a = nI k := by
  rcases h F n a ha hn with ⟨h1, -⟩ | ⟨h1, -⟩ | ⟨h1, -⟩ | ⟨h1, -⟩
  · rcases h1 with ⟨h2, -⟩ | ⟨k, hk, h2, -⟩
    · exact Or.inl h2
    · exact Or.inr ⟨k, by omega, h2⟩
  · exact Or.inr ⟨10, by decide, h1⟩
  · exact Or.inr ⟨11, by decide, h1⟩
  · exact Or.inr ⟨12, by decide, h1⟩
theorem PD_village (S : CS) (p0 : Int32) {j k : Nat} {c : Int32} (hq : (fun k => (k = 1 ∧ ¬ tOK S.1.2.1 600 p0 = true)) j) (hb : (fun (k : Nat) (c : Int32) => (k = 1 ∧ c = 1 ∧ ¬ (tOK S.1.2.1 600 p0 = true))) k c) : k = j ∧ c = (fun _ => 1) j := by
  try simp only [Bool.and_eq_true] at hq
  rcases hq with ⟨rfl, hq⟩ <;> rcases hb with ⟨rfl, rfl, hb⟩ <;> first | exact ⟨rfl, rfl⟩ | (exfalso; grind)
theorem PE_village (S : CS) (p0 : Int32) {j : Nat} (hq : (fun k => (k = 1 ∧ ¬ tOK S.1.2.1 600 p0 = true)) j) (w0 : (tOK S.1.2.1 600 p0 = true)) : False := by
  try simp only [Bool.and_eq_true] at hq
  rcases hq with ⟨rfl, hq⟩ <;> grind
theorem PB_village (S : CS) (p0 : Int32) {k : Nat} {c : Int32} (hb : (fun (k : Nat) (c : Int32) => (k = 1 ∧ c = 1 ∧ ¬ (tOK S.1.2.1 600 p0 = true))) k c) (w0 : (tOK S.1.2.1 600 p0 = true)) : False := by
  rcases hb with ⟨rfl, rfl, hb⟩ <;> grind
set_option maxHeartbeats 1000000 in
theorem P_village {g : qG} (hg : qOK g) (hT : qTHR g) (hCt : qCAT g) {h : qH} {S : CS} {x : Nat → Int32} {y : Nat → Int64} {F : Nat → Nat → Int32} {G : Nat → Nat → Int64} {u : Nat → Int64} (hL : LI h S x y F G u) (hFM : qFM g) (hJ : qJDK g) (hW : qMW g) {f : Nat → Nat} {len : Nat} (hSt : qSTR g 10 11 len f) (hLd : qLD g 5 53 10) (hbr : vbr f len) (p0 : Int32) : PR g h wL_village mX12_village [.int p0] 11 9 0 0 := by
  obtain ⟨hC, hM, hR, hI, hu, h93⟩ := id hL
  have hn10 := hI.2.1.1.1
  refine ⟨fun h1 k => MidG h1 x y F G (fun (zv : Value) (S' : CS) => tOK S.1.2.1 600 p0 = true ∧ ∃ n : Nat, n ≤ S.1.2.1 ∧ n ≤ 600 ∧ p0 = nI n ∧ ∃ D4 P4 U4 Q4 : Nat → Int32, (if pbad (pvrun S.1.1 n f len 61 0 (Sum.inr 0, D4, 0, Q4, 0, 0, 2, 120)).1 = true then some zv = some (.int (pki (pvrun S.1.1 n f len 61 0 (Sum.inr 0, D4, 0, Q4, 0, 0, 2, 120)).1 - 10)) ∧ (((S.1.1, 0, ppl (pvrun S.1.1 n f len 61 0 (Sum.inr 0, D4, 0, Q4, 0, 0, 2, 120)).1), S.2) = S') else some zv = some (.int (nI (pvrun S.1.1 n f len 61 0 (Sum.inr 0, D4, 0, Q4, 0, 0, 2, 120)).2.2.1)) ∧ (pvrun S.1.1 n f len 61 0 (Sum.inr 0, D4, 0, Q4, 0, 0, 2, 120)).2.2.1 ≤ 10 ∧ (pvrun S.1.1 n f len 61 0 (Sum.inr 0, D4, 0, Q4, 0, 0, 2, 120)).2.2.2.2.1 ≤ 8 ∧ ((svil S (ppl (pvrun S.1.1 n f len 61 0 (Sum.inr 0, D4, 0, Q4, 0, 0, 2, 120)).1) (va_cpy (pvrun S.1.1 n f len 61 0 (Sum.inr 0, D4, 0, Q4, 0, 0, 2, 120)).2.1 S.2.1.1 0 0 100) (va_cpy P4 S.2.1.2.1 0 0 30) (va_cpy U4 S.2.1.2.2.1 0 0 100) (pvrun S.1.1 n f len 61 0 (Sum.inr 0, D4, 0, Q4, 0, 0, 2, 120)).2.2.1 (va_cpy (pvrun S.1.1 n f len 61 0 (Sum.inr 0, D4, 0, Q4, 0, 0, 2, 120)).2.2.2.1 S.2.2.2.1.1 0 0 32) (pvrun S.1.1 n f len 61 0 (Sum.inr 0, D4, 0, Q4, 0, 0, 2, 120)).2.2.2.2.1 (pvrun S.1.1 n f len 61 0 (Sum.inr 0, D4, 0, Q4, 0, 0, 2, 120)).2.2.2.2.2.1 (pvrun S.1.1 n f len 61 0 (Sum.inr 0, D4, 0, Q4, 0, 0, 2, 120)).2.2.2.2.2.2.1 (pvrun S.1.1 n f len 61 0 (Sum.inr 0, D4, 0, Q4, 0, 0, 2, 120)).2.2.2.2.2.2.2) = S'))) lvi k ∨ MidB h1 S x y F G (fun k => (k = 1 ∧ ¬ tOK S.1.2.1 600 p0 = true)) (fun _ => 1) k, fun h1 k hm => mid63 hm, ?_, ?_⟩
  · refine qSpecW_mono (W_village hg hT hCt hC.obj (u := u) (F_village hg hT hC hI.1 hFM hJ hSt hLd p0) ?_ ?_) ?_
    · intro v h1 hp
      obtain ⟨w, n, hn1, hn2, e1, D4, P4, U4, Q4, hif, hg1⟩ := hp
      rcases ifc hif with ⟨-, hz, -⟩ | ⟨-, hz, -⟩
      · exact ⟨⟨_, hz⟩, hg1.u92 hu⟩
      · exact ⟨⟨_, hz⟩, hg1.u92 hu⟩
    · intro E h1 hx
      obtain ⟨k, rfl, hq, -, -⟩ := hx
      refine ⟨k, ?_, rfl⟩
      rcases hq with hq <;> (have := hq.1; omega)
    · intro r h1 hr
      rcases hr with ⟨z, h2, hp, rfl, rfl⟩ | ⟨k, hk, hx, rfl⟩
      · obtain ⟨w, n, hn1, hn2, e1, D4, P4, U4, Q4, hif, hg1⟩ := hp
        rcases ifc hif with ⟨q0, hz, hC1⟩ | ⟨q0, hz, hN1, hM8, hC1⟩
        · exact ⟨0, rfl, Or.inl (mid_g hL (Kg := (fun (zv : Value) (S' : CS) => tOK S.1.2.1 600 p0 = true ∧ ∃ n : Nat, n ≤ S.1.2.1 ∧ n ≤ 600 ∧ p0 = nI n ∧ ∃ D4 P4 U4 Q4 : Nat → Int32, (if pbad (pvrun S.1.1 n f len 61 0 (Sum.inr 0, D4, 0, Q4, 0, 0, 2, 120)).1 = true then some zv = some (.int (pki (pvrun S.1.1 n f len 61 0 (Sum.inr 0, D4, 0, Q4, 0, 0, 2, 120)).1 - 10)) ∧ (((S.1.1, 0, ppl (pvrun S.1.1 n f len 61 0 (Sum.inr 0, D4, 0, Q4, 0, 0, 2, 120)).1), S.2) = S') else some zv = some (.int (nI (pvrun S.1.1 n f len 61 0 (Sum.inr 0, D4, 0, Q4, 0, 0, 2, 120)).2.2.1)) ∧ (pvrun S.1.1 n f len 61 0 (Sum.inr 0, D4, 0, Q4, 0, 0, 2, 120)).2.2.1 ≤ 10 ∧ (pvrun S.1.1 n f len 61 0 (Sum.inr 0, D4, 0, Q4, 0, 0, 2, 120)).2.2.2.2.1 ≤ 8 ∧ ((svil S (ppl (pvrun S.1.1 n f len 61 0 (Sum.inr 0, D4, 0, Q4, 0, 0, 2, 120)).1) (va_cpy (pvrun S.1.1 n f len 61 0 (Sum.inr 0, D4, 0, Q4, 0, 0, 2, 120)).2.1 S.2.1.1 0 0 100) (va_cpy P4 S.2.1.2.1 0 0 30) (va_cpy U4 S.2.1.2.2.1 0 0 100) (pvrun S.1.1 n f len 61 0 (Sum.inr 0, D4, 0, Q4, 0, 0, 2, 120)).2.2.1 (va_cpy (pvrun S.1.1 n f len 61 0 (Sum.inr 0, D4, 0, Q4, 0, 0, 2, 120)).2.2.2.1 S.2.2.2.1.1 0 0 32) (pvrun S.1.1 n f len 61 0 (Sum.inr 0, D4, 0, Q4, 0, 0, 2, 120)).2.2.2.2.1 (pvrun S.1.1 n f len 61 0 (Sum.inr 0, D4, 0, Q4, 0, 0, 2, 120)).2.2.2.2.2.1 (pvrun S.1.1 n f len 61 0 (Sum.inr 0, D4, 0, Q4, 0, 0, 2, 120)).2.2.2.2.2.2.1 (pvrun S.1.1 n f len 61 0 (Sum.inr 0, D4, 0, Q4, 0, 0, 2, 120)).2.2.2.2.2.2.2) = S')))) (z := .int z) ⟨w, n, hn1, hn2, e1, D4, P4, U4, Q4, ift q0 ⟨hz, rfl⟩⟩ hC1 hg1 rfl)⟩
        · exact ⟨0, rfl, Or.inl (mid_g hL (Kg := (fun (zv : Value) (S' : CS) => tOK S.1.2.1 600 p0 = true ∧ ∃ n : Nat, n ≤ S.1.2.1 ∧ n ≤ 600 ∧ p0 = nI n ∧ ∃ D4 P4 U4 Q4 : Nat → Int32, (if pbad (pvrun S.1.1 n f len 61 0 (Sum.inr 0, D4, 0, Q4, 0, 0, 2, 120)).1 = true then some zv = some (.int (pki (pvrun S.1.1 n f len 61 0 (Sum.inr 0, D4, 0, Q4, 0, 0, 2, 120)).1 - 10)) ∧ (((S.1.1, 0, ppl (pvrun S.1.1 n f len 61 0 (Sum.inr 0, D4, 0, Q4, 0, 0, 2, 120)).1), S.2) = S') else some zv = some (.int (nI (pvrun S.1.1 n f len 61 0 (Sum.inr 0, D4, 0, Q4, 0, 0, 2, 120)).2.2.1)) ∧ (pvrun S.1.1 n f len 61 0 (Sum.inr 0, D4, 0, Q4, 0, 0, 2, 120)).2.2.1 ≤ 10 ∧ (pvrun S.1.1 n f len 61 0 (Sum.inr 0, D4, 0, Q4, 0, 0, 2, 120)).2.2.2.2.1 ≤ 8 ∧ ((svil S (ppl (pvrun S.1.1 n f len 61 0 (Sum.inr 0, D4, 0, Q4, 0, 0, 2, 120)).1) (va_cpy (pvrun S.1.1 n f len 61 0 (Sum.inr 0, D4, 0, Q4, 0, 0, 2, 120)).2.1 S.2.1.1 0 0 100) (va_cpy P4 S.2.1.2.1 0 0 30) (va_cpy U4 S.2.1.2.2.1 0 0 100) (pvrun S.1.1 n f len 61 0 (Sum.inr 0, D4, 0, Q4, 0, 0, 2, 120)).2.2.1 (va_cpy (pvrun S.1.1 n f len 61 0 (Sum.inr 0, D4, 0, Q4, 0, 0, 2, 120)).2.2.2.1 S.2.2.2.1.1 0 0 32) (pvrun S.1.1 n f len 61 0 (Sum.inr 0, D4, 0, Q4, 0, 0, 2, 120)).2.2.2.2.1 (pvrun S.1.1 n f len 61 0 (Sum.inr 0, D4, 0, Q4, 0, 0, 2, 120)).2.2.2.2.2.1 (pvrun S.1.1 n f len 61 0 (Sum.inr 0, D4, 0, Q4, 0, 0, 2, 120)).2.2.2.2.2.2.1 (pvrun S.1.1 n f len 61 0 (Sum.inr 0, D4, 0, Q4, 0, 0, 2, 120)).2.2.2.2.2.2.2) = S')))) (z := .int z) ⟨w, n, hn1, hn2, e1, D4, P4, U4, Q4, ife q0 ⟨hz, hN1, hM8, rfl⟩⟩ hC1 hg1 rfl)⟩
      · refine ⟨(fun _ => 1) k, ?_, Or.inr (mid_b hL (by omega) (fun j hj => ?_) hx)⟩
        · rfl
        · rcases hj with hj <;> (have := hj.1; omega)
  · intro h1 k hmid
    rcases hmid with ⟨rfl, zv, S', u', ⟨w, n, hn1, hn2, e1, D4, P4, U4, Q4, hif⟩, hC1, hM1, hu3, hv, h93b⟩ | ⟨j, u', rfl, hq, hC1, hM1, hu3, h93b⟩
    · refine qSpec_mono (M_village hg hM1 hR hI hJ hW hbr D4 P4 U4 Q4 p0) fun r h2 hr => ?_
      rcases hr with ⟨-, ⟨n2, hn3, hn4, f1, hif2⟩⟩ | ⟨k, c, hb, -, -⟩
      · obtain rfl : n = n2 := (nI_eq (by omega) (by omega)).mp (e1.symm.trans f1)
        rcases ifc hif with ⟨q0, hz, rfl⟩ | ⟨q0, hz, hN1, hM8, rfl⟩
        · obtain rfl := Option.some.inj hz
          rcases ifc hif2 with ⟨-, rfl, hG⟩ | ⟨q1, -⟩
          · exact ⟨_, rfl, rfl, LA.g hC1 (hI.tape (Nat.zero_le _)) hu3 h93b hG hv⟩
          · exact absurd q0 q1
        · obtain rfl := Option.some.inj hz
          rcases ifc hif2 with ⟨q1, -⟩ | ⟨-, rfl, hG⟩
          · exact absurd q1 q0
          · exact ⟨_, rfl, rfl, LA.g hC1 (hI.vil ((VOK.run 61 0 (Sum.inr 0, D4, 0, Q4, 0, 0, 2, 120) (fun _ => VOK0) (Bool.eq_false_iff.mpr q0)).cp _ _)) hu3 h93b hG hv⟩
      · exact (PB_village S p0 hb w).elim
    · refine qSpec_mono (M_village hg hM1 hR hI hJ hW hbr (fun _ => 0) (fun _ => 0) (fun _ => 0) (fun _ => 0) p0) fun r h2 hr => ?_
      rcases hr with ⟨w0, -⟩ | ⟨k, c, hb, ⟨z, rfl⟩, hG⟩
      · exact (PE_village S p0 hq w0).elim
      · obtain ⟨rfl, rfl⟩ := PD_village S p0 hq hb
        refine ⟨_, rfl, rfl, LA.b hC1 hI hu3 h93b hG ?_⟩
        rcases hq with hq <;> (rw [hq.1]; decide)
theorem PD_plan (S : CS) (p0 : Int32) {j k : Nat} {c : Int32} (hq : (fun k => (k = 1 ∧ ¬ tOK S.1.2.1 150 p0 = true)) j) (hb : (fun (k : Nat) (c : Int32) => (k = 1 ∧ c = 1 ∧ ¬ (tOK S.1.2.1 150 p0 = true))) k c) : k = j ∧ c = (fun _ => 1) j := by
  try simp only [Bool.and_eq_true] at hq
  rcases hq with ⟨rfl, hq⟩ <;> rcases hb with ⟨rfl, rfl, hb⟩ <;> first | exact ⟨rfl, rfl⟩ | (exfalso; grind)
theorem PE_plan (S : CS) (p0 : Int32) {j : Nat} (hq : (fun k => (k = 1 ∧ ¬ tOK S.1.2.1 150 p0 = true)) j) (w0 : (tOK S.1.2.1 150 p0 = true)) : False := by
  try simp only [Bool.and_eq_true] at hq
  rcases hq with ⟨rfl, hq⟩ <;> grind
theorem PB_plan (S : CS) (p0 : Int32) {k : Nat} {c : Int32} (hb : (fun (k : Nat) (c : Int32) => (k = 1 ∧ c = 1 ∧ ¬ (tOK S.1.2.1 150 p0 = true))) k c) (w0 : (tOK S.1.2.1 150 p0 = true)) : False := by
  rcases hb with ⟨rfl, rfl, hb⟩ <;> grind
set_option maxHeartbeats 1000000 in
theorem P_plan {g : qG} (hg : qOK g) (hT : qTHR g) (hCt : qCAT g) {h : qH} {S : CS} {x : Nat → Int32} {y : Nat → Int64} {F : Nat → Nat → Int32} {G : Nat → Nat → Int64} {u : Nat → Int64} (hL : LI h S x y F G u) (hJ : qJDK g) (hW : qMW g) {f : Nat → Nat} {len : Nat} (hSt : qSTR g 12 13 len f) (hLd : qLD g 5 137 12) (hbr : rbr f len) (p0 : Int32) : PR g h wL_plan mX12_plan [.int p0] 11 8 0 0 := by
  obtain ⟨hC, hM, hR, hI, hu, h93⟩ := id hL
  have hn10 := hI.2.1.1.1
  refine ⟨fun h1 k => MidG h1 x y F G (fun (zv : Value) (S' : CS) => tOK S.1.2.1 150 p0 = true ∧ ∃ n : Nat, n ≤ S.1.2.1 ∧ n ≤ 150 ∧ p0 = nI n ∧ ∃ P4 : Nat → Int32, (if pbad (pprun S.1.1 n f len S.2.1.2.2.2.1 11 0 (Sum.inr 0, va_cpy S.2.1.2.1 P4 0 0 30, 0)).1 = true then some zv = some (.int (pki (pprun S.1.1 n f len S.2.1.2.2.2.1 11 0 (Sum.inr 0, va_cpy S.2.1.2.1 P4 0 0 30, 0)).1 - 10)) ∧ (((S.1.1, 0, ppl (pprun S.1.1 n f len S.2.1.2.2.2.1 11 0 (Sum.inr 0, va_cpy S.2.1.2.1 P4 0 0 30, 0)).1), S.2) = S') else some zv = some (.int (nI (pprun S.1.1 n f len S.2.1.2.2.2.1 11 0 (Sum.inr 0, va_cpy S.2.1.2.1 P4 0 0 30, 0)).2.2)) ∧ (((S.1.1, 0, ppl (pprun S.1.1 n f len S.2.1.2.2.2.1 11 0 (Sum.inr 0, va_cpy S.2.1.2.1 P4 0 0 30, 0)).1), (S.2.1.1, va_cpy (pprun S.1.1 n f len S.2.1.2.2.2.1 11 0 (Sum.inr 0, va_cpy S.2.1.2.1 P4 0 0 30, 0)).2.1 S.2.1.2.1 0 0 30, S.2.1.2.2.1, S.2.1.2.2.2.1, (pprun S.1.1 n f len S.2.1.2.2.2.1 11 0 (Sum.inr 0, va_cpy S.2.1.2.1 P4 0 0 30, 0)).2.2, 0, S.2.1.2.2.2.2.2.2), S.2.2) = S'))) lvi k ∨ MidB h1 S x y F G (fun k => (k = 1 ∧ ¬ tOK S.1.2.1 150 p0 = true)) (fun _ => 1) k, fun h1 k hm => mid63 hm, ?_, ?_⟩
  · refine qSpecW_mono (W_plan hg hT hCt hC.obj (u := u) (F_plan hg hT hC hI.1 hI.2.1.1.1 hJ hSt hLd p0) ?_ ?_) ?_
    · intro v h1 hp
      obtain ⟨w, n, hn1, hn2, e1, P4, hif, hg1⟩ := hp
      rcases ifc hif with ⟨-, hz, -⟩ | ⟨-, hz, -⟩
      · exact ⟨⟨_, hz⟩, hg1.u92 hu⟩
      · exact ⟨⟨_, hz⟩, hg1.u92 hu⟩
    · intro E h1 hx
      obtain ⟨k, rfl, hq, -, -⟩ := hx
      refine ⟨k, ?_, rfl⟩
      rcases hq with hq <;> (have := hq.1; omega)
    · intro r h1 hr
      rcases hr with ⟨z, h2, hp, rfl, rfl⟩ | ⟨k, hk, hx, rfl⟩
      · obtain ⟨w, n, hn1, hn2, e1, P4, hif, hg1⟩ := hp
        rcases ifc hif with ⟨q0, hz, hC1⟩ | ⟨q0, hz, hC1⟩
        · exact ⟨0, rfl, Or.inl (mid_g hL (Kg := (fun (zv : Value) (S' : CS) => tOK S.1.2.1 150 p0 = true ∧ ∃ n : Nat, n ≤ S.1.2.1 ∧ n ≤ 150 ∧ p0 = nI n ∧ ∃ P4 : Nat → Int32, (if pbad (pprun S.1.1 n f len S.2.1.2.2.2.1 11 0 (Sum.inr 0, va_cpy S.2.1.2.1 P4 0 0 30, 0)).1 = true then some zv = some (.int (pki (pprun S.1.1 n f len S.2.1.2.2.2.1 11 0 (Sum.inr 0, va_cpy S.2.1.2.1 P4 0 0 30, 0)).1 - 10)) ∧ (((S.1.1, 0, ppl (pprun S.1.1 n f len S.2.1.2.2.2.1 11 0 (Sum.inr 0, va_cpy S.2.1.2.1 P4 0 0 30, 0)).1), S.2) = S') else some zv = some (.int (nI (pprun S.1.1 n f len S.2.1.2.2.2.1 11 0 (Sum.inr 0, va_cpy S.2.1.2.1 P4 0 0 30, 0)).2.2)) ∧ (((S.1.1, 0, ppl (pprun S.1.1 n f len S.2.1.2.2.2.1 11 0 (Sum.inr 0, va_cpy S.2.1.2.1 P4 0 0 30, 0)).1), (S.2.1.1, va_cpy (pprun S.1.1 n f len S.2.1.2.2.2.1 11 0 (Sum.inr 0, va_cpy S.2.1.2.1 P4 0 0 30, 0)).2.1 S.2.1.2.1 0 0 30, S.2.1.2.2.1, S.2.1.2.2.2.1, (pprun S.1.1 n f len S.2.1.2.2.2.1 11 0 (Sum.inr 0, va_cpy S.2.1.2.1 P4 0 0 30, 0)).2.2, 0, S.2.1.2.2.2.2.2.2), S.2.2) = S')))) (z := .int z) ⟨w, n, hn1, hn2, e1, P4, ift q0 ⟨hz, rfl⟩⟩ hC1 hg1 rfl)⟩
        · exact ⟨0, rfl, Or.inl (mid_g hL (Kg := (fun (zv : Value) (S' : CS) => tOK S.1.2.1 150 p0 = true ∧ ∃ n : Nat, n ≤ S.1.2.1 ∧ n ≤ 150 ∧ p0 = nI n ∧ ∃ P4 : Nat → Int32, (if pbad (pprun S.1.1 n f len S.2.1.2.2.2.1 11 0 (Sum.inr 0, va_cpy S.2.1.2.1 P4 0 0 30, 0)).1 = true then some zv = some (.int (pki (pprun S.1.1 n f len S.2.1.2.2.2.1 11 0 (Sum.inr 0, va_cpy S.2.1.2.1 P4 0 0 30, 0)).1 - 10)) ∧ (((S.1.1, 0, ppl (pprun S.1.1 n f len S.2.1.2.2.2.1 11 0 (Sum.inr 0, va_cpy S.2.1.2.1 P4 0 0 30, 0)).1), S.2) = S') else some zv = some (.int (nI (pprun S.1.1 n f len S.2.1.2.2.2.1 11 0 (Sum.inr 0, va_cpy S.2.1.2.1 P4 0 0 30, 0)).2.2)) ∧ (((S.1.1, 0, ppl (pprun S.1.1 n f len S.2.1.2.2.2.1 11 0 (Sum.inr 0, va_cpy S.2.1.2.1 P4 0 0 30, 0)).1), (S.2.1.1, va_cpy (pprun S.1.1 n f len S.2.1.2.2.2.1 11 0 (Sum.inr 0, va_cpy S.2.1.2.1 P4 0 0 30, 0)).2.1 S.2.1.2.1 0 0 30, S.2.1.2.2.1, S.2.1.2.2.2.1, (pprun S.1.1 n f len S.2.1.2.2.2.1 11 0 (Sum.inr 0, va_cpy S.2.1.2.1 P4 0 0 30, 0)).2.2, 0, S.2.1.2.2.2.2.2.2), S.2.2) = S')))) (z := .int z) ⟨w, n, hn1, hn2, e1, P4, ife q0 ⟨hz, rfl⟩⟩ hC1 hg1 rfl)⟩
      · refine ⟨(fun _ => 1) k, ?_, Or.inr (mid_b hL (by omega) (fun j hj => ?_) hx)⟩
        · rfl
        · rcases hj with hj <;> (have := hj.1; omega)
  · intro h1 k hmid
    rcases hmid with ⟨rfl, zv, S', u', ⟨w, n, hn1, hn2, e1, P4, hif⟩, hC1, hM1, hu3, hv, h93b⟩ | ⟨j, u', rfl, hq, hC1, hM1, hu3, h93b⟩
    · refine qSpec_mono (M_plan hg hM1 hR hI hJ hW hbr P4 p0) fun r h2 hr => ?_
      rcases hr with ⟨-, ⟨n2, hn3, hn4, f1, hif2⟩⟩ | ⟨k, c, hb, -, -⟩
      · obtain rfl : n = n2 := (nI_eq (by omega) (by omega)).mp (e1.symm.trans f1)
        rcases ifc hif with ⟨q0, hz, rfl⟩ | ⟨q0, hz, rfl⟩
        · obtain rfl := Option.some.inj hz
          rcases ifc hif2 with ⟨-, rfl, hG⟩ | ⟨q1, -⟩
          · exact ⟨_, rfl, rfl, LA.g hC1 (hI.tape (Nat.zero_le _)) hu3 h93b hG hv⟩
          · exact absurd q0 q1
        · obtain rfl := Option.some.inj hz
          rcases ifc hif2 with ⟨q1, -⟩ | ⟨-, rfl, hLG, hG⟩
          · exact absurd q1 q0
          · exact ⟨_, rfl, rfl, LA.g hC1 (hI.plan hLG) hu3 h93b hG hv⟩
      · exact (PB_plan S p0 hb w).elim
    · refine qSpec_mono (M_plan hg hM1 hR hI hJ hW hbr (fun _ => 0) p0) fun r h2 hr => ?_
      rcases hr with ⟨w0, -⟩ | ⟨k, c, hb, ⟨z, rfl⟩, hG⟩
      · exact (PE_plan S p0 hq w0).elim
      · obtain ⟨rfl, rfl⟩ := PD_plan S p0 hq hb
        refine ⟨_, rfl, rfl, LA.b hC1 hI hu3 h93b hG ?_⟩
        rcases hq with hq <;> (rw [hq.1]; decide)
theorem PD_book (S : CS) (p0 : Int32) {j k : Nat} {c : Int32} (hq : (fun k => (k = 1 ∧ ¬ tOK S.1.2.1 200 p0 = true)) j) (hb : (fun (k : Nat) (c : Int32) => (k = 1 ∧ c = 1 ∧ ¬ (tOK S.1.2.1 200 p0 = true))) k c) : k = j ∧ c = (fun _ => 1) j := by
  try simp only [Bool.and_eq_true] at hq
  rcases hq with ⟨rfl, hq⟩ <;> rcases hb with ⟨rfl, rfl, hb⟩ <;> first | exact ⟨rfl, rfl⟩ | (exfalso; grind)
theorem PE_book (S : CS) (p0 : Int32) {j : Nat} (hq : (fun k => (k = 1 ∧ ¬ tOK S.1.2.1 200 p0 = true)) j) (w0 : (tOK S.1.2.1 200 p0 = true)) : False := by
  try simp only [Bool.and_eq_true] at hq
  rcases hq with ⟨rfl, hq⟩ <;> grind
theorem PB_book (S : CS) (p0 : Int32) {k : Nat} {c : Int32} (hb : (fun (k : Nat) (c : Int32) => (k = 1 ∧ c = 1 ∧ ¬ (tOK S.1.2.1 200 p0 = true))) k c) (w0 : (tOK S.1.2.1 200 p0 = true)) : False := by
  rcases hb with ⟨rfl, rfl, hb⟩ <;> grind
set_option maxHeartbeats 1000000 in
theorem P_book {g : qG} (hg : qOK g) (hT : qTHR g) (hCt : qCAT g) {h : qH} {S : CS} {x : Nat → Int32} {y : Nat → Int64} {F : Nat → Nat → Int32} {G : Nat → Nat → Int64} {u : Nat → Int64} (hL : LI h S x y F G u) (p0 : Int32) : PR g h wL_book mX12_book [.int p0] 9 8 0 0 := by
  obtain ⟨hC, hM, hR, hI, hu, h93⟩ := id hL
  have hn10 := hI.2.1.1.1
  refine ⟨fun h1 k => MidG h1 x y F G (fun (zv : Value) (S' : CS) => tOK S.1.2.1 200 p0 = true ∧ ∃ n : Nat, n ≤ S.1.2.1 ∧ n ≤ 200 ∧ p0 = nI n ∧ ∃ B41 B42 : Nat → Int32, (if pbad (pbrun S.1.1 n S.2.1.2.2.2.1 9 0 (Sum.inr 0, B41, B42, 0)).1 = true then some zv = some (.int (pki (pbrun S.1.1 n S.2.1.2.2.2.1 9 0 (Sum.inr 0, B41, B42, 0)).1 - 10)) ∧ (((S.1.1, 0, ppl (pbrun S.1.1 n S.2.1.2.2.2.1 9 0 (Sum.inr 0, B41, B42, 0)).1), S.2) = S') else some zv = some (.int (nI (pbrun S.1.1 n S.2.1.2.2.2.1 9 0 (Sum.inr 0, B41, B42, 0)).2.2.2)) ∧ (((S.1.1, 0, ppl (pbrun S.1.1 n S.2.1.2.2.2.1 9 0 (Sum.inr 0, B41, B42, 0)).1), S.2.1, S.2.2.1, S.2.2.2.1, S.2.2.2.2.1, (va_cpy (pbrun S.1.1 n S.2.1.2.2.2.1 9 0 (Sum.inr 0, B41, B42, 0)).2.1 S.2.2.2.2.2.1.1 0 0 8, va_cpy (pbrun S.1.1 n S.2.1.2.2.2.1 9 0 (Sum.inr 0, B41, B42, 0)).2.2.1 S.2.2.2.2.2.1.2.1 0 0 8, (pbrun S.1.1 n S.2.1.2.2.2.1 9 0 (Sum.inr 0, B41, B42, 0)).2.2.2), S.2.2.2.2.2.2) = S'))) lvi k ∨ MidB h1 S x y F G (fun k => (k = 1 ∧ ¬ tOK S.1.2.1 200 p0 = true)) (fun _ => 1) k, fun h1 k hm => mid63 hm, ?_, ?_⟩
  · refine qSpecW_mono (W_book hg hT hCt hC.obj (u := u) (F_book hg hT hC hI.1 hI.2.1.1.1 p0) ?_ ?_) ?_
    · intro v h1 hp
      obtain ⟨w, n, hn1, hn2, e1, B41, B42, hif, hg1⟩ := hp
      rcases ifc hif with ⟨-, hz, -⟩ | ⟨-, hz, -⟩
      · exact ⟨⟨_, hz⟩, hg1.u92 hu⟩
      · exact ⟨⟨_, hz⟩, hg1.u92 hu⟩
    · intro E h1 hx
      obtain ⟨k, rfl, hq, -, -⟩ := hx
      refine ⟨k, ?_, rfl⟩
      rcases hq with hq <;> (have := hq.1; omega)
    · intro r h1 hr
      rcases hr with ⟨z, h2, hp, rfl, rfl⟩ | ⟨k, hk, hx, rfl⟩
      · obtain ⟨w, n, hn1, hn2, e1, B41, B42, hif, hg1⟩ := hp
        rcases ifc hif with ⟨q0, hz, hC1⟩ | ⟨q0, hz, hC1⟩
        · exact ⟨0, rfl, Or.inl (mid_g hL (Kg := (fun (zv : Value) (S' : CS) => tOK S.1.2.1 200 p0 = true ∧ ∃ n : Nat, n ≤ S.1.2.1 ∧ n ≤ 200 ∧ p0 = nI n ∧ ∃ B41 B42 : Nat → Int32, (if pbad (pbrun S.1.1 n S.2.1.2.2.2.1 9 0 (Sum.inr 0, B41, B42, 0)).1 = true then some zv = some (.int (pki (pbrun S.1.1 n S.2.1.2.2.2.1 9 0 (Sum.inr 0, B41, B42, 0)).1 - 10)) ∧ (((S.1.1, 0, ppl (pbrun S.1.1 n S.2.1.2.2.2.1 9 0 (Sum.inr 0, B41, B42, 0)).1), S.2) = S') else some zv = some (.int (nI (pbrun S.1.1 n S.2.1.2.2.2.1 9 0 (Sum.inr 0, B41, B42, 0)).2.2.2)) ∧ (((S.1.1, 0, ppl (pbrun S.1.1 n S.2.1.2.2.2.1 9 0 (Sum.inr 0, B41, B42, 0)).1), S.2.1, S.2.2.1, S.2.2.2.1, S.2.2.2.2.1, (va_cpy (pbrun S.1.1 n S.2.1.2.2.2.1 9 0 (Sum.inr 0, B41, B42, 0)).2.1 S.2.2.2.2.2.1.1 0 0 8, va_cpy (pbrun S.1.1 n S.2.1.2.2.2.1 9 0 (Sum.inr 0, B41, B42, 0)).2.2.1 S.2.2.2.2.2.1.2.1 0 0 8, (pbrun S.1.1 n S.2.1.2.2.2.1 9 0 (Sum.inr 0, B41, B42, 0)).2.2.2), S.2.2.2.2.2.2) = S')))) (z := .int z) ⟨w, n, hn1, hn2, e1, B41, B42, ift q0 ⟨hz, rfl⟩⟩ hC1 hg1 rfl)⟩
        · exact ⟨0, rfl, Or.inl (mid_g hL (Kg := (fun (zv : Value) (S' : CS) => tOK S.1.2.1 200 p0 = true ∧ ∃ n : Nat, n ≤ S.1.2.1 ∧ n ≤ 200 ∧ p0 = nI n ∧ ∃ B41 B42 : Nat → Int32, (if pbad (pbrun S.1.1 n S.2.1.2.2.2.1 9 0 (Sum.inr 0, B41, B42, 0)).1 = true then some zv = some (.int (pki (pbrun S.1.1 n S.2.1.2.2.2.1 9 0 (Sum.inr 0, B41, B42, 0)).1 - 10)) ∧ (((S.1.1, 0, ppl (pbrun S.1.1 n S.2.1.2.2.2.1 9 0 (Sum.inr 0, B41, B42, 0)).1), S.2) = S') else some zv = some (.int (nI (pbrun S.1.1 n S.2.1.2.2.2.1 9 0 (Sum.inr 0, B41, B42, 0)).2.2.2)) ∧ (((S.1.1, 0, ppl (pbrun S.1.1 n S.2.1.2.2.2.1 9 0 (Sum.inr 0, B41, B42, 0)).1), S.2.1, S.2.2.1, S.2.2.2.1, S.2.2.2.2.1, (va_cpy (pbrun S.1.1 n S.2.1.2.2.2.1 9 0 (Sum.inr 0, B41, B42, 0)).2.1 S.2.2.2.2.2.1.1 0 0 8, va_cpy (pbrun S.1.1 n S.2.1.2.2.2.1 9 0 (Sum.inr 0, B41, B42, 0)).2.2.1 S.2.2.2.2.2.1.2.1 0 0 8, (pbrun S.1.1 n S.2.1.2.2.2.1 9 0 (Sum.inr 0, B41, B42, 0)).2.2.2), S.2.2.2.2.2.2) = S')))) (z := .int z) ⟨w, n, hn1, hn2, e1, B41, B42, ife q0 ⟨hz, rfl⟩⟩ hC1 hg1 rfl)⟩
      · refine ⟨(fun _ => 1) k, ?_, Or.inr (mid_b hL (by omega) (fun j hj => ?_) hx)⟩
        · rfl
        · rcases hj with hj <;> (have := hj.1; omega)
  · intro h1 k hmid
    rcases hmid with ⟨rfl, zv, S', u', ⟨w, n, hn1, hn2, e1, B41, B42, hif⟩, hC1, hM1, hu3, hv, h93b⟩ | ⟨j, u', rfl, hq, hC1, hM1, hu3, h93b⟩
    · refine qSpec_mono (M_book hg hM1 hR hI B41 B42 p0) fun r h2 hr => ?_
      rcases hr with ⟨-, ⟨n2, hn3, hn4, f1, hif2⟩⟩ | ⟨k, c, hb, -, -⟩
      · obtain rfl : n = n2 := (nI_eq (by omega) (by omega)).mp (e1.symm.trans f1)
        rcases ifc hif with ⟨q0, hz, rfl⟩ | ⟨q0, hz, rfl⟩
        · obtain rfl := Option.some.inj hz
          rcases ifc hif2 with ⟨-, rfl, hG⟩ | ⟨q1, -⟩
          · exact ⟨_, rfl, rfl, LA.g hC1 (hI.tape (Nat.zero_le _)) hu3 h93b hG hv⟩
          · exact absurd q0 q1
        · obtain rfl := Option.some.inj hz
          rcases ifc hif2 with ⟨q1, -⟩ | ⟨-, rfl, h8, hG⟩
          · exact absurd q1 q0
          · exact ⟨_, rfl, rfl, LA.g hC1 (hI.book h8) hu3 h93b hG hv⟩
      · exact (PB_book S p0 hb w).elim
    · refine qSpec_mono (M_book hg hM1 hR hI (fun _ => 0) (fun _ => 0) p0) fun r h2 hr => ?_
      rcases hr with ⟨w0, -⟩ | ⟨k, c, hb, ⟨z, rfl⟩, hG⟩
      · exact (PE_book S p0 hq w0).elim
      · obtain ⟨rfl, rfl⟩ := PD_book S p0 hq hb
        refine ⟨_, rfl, rfl, LA.b hC1 hI hu3 h93b hG ?_⟩
        rcases hq with hq <;> (rw [hq.1]; decide)
theorem PD_law (S : CS) (p0 p1 : Int32) {j k : Nat} {c : Int32} (hq : (fun k => (k = 1 ∧ ¬ wi 0 1 p0 = true) ∨ (k = 1 ∧ wi 0 1 p0 = true ∧ ¬ tOK S.1.2.1 150 p1 = true)) j) (hb : (fun (k : Nat) (c : Int32) => (k = 1 ∧ c = 1 ∧ ¬ (wi 0 1 p0 = true ∧ tOK S.1.2.1 150 p1 = true))) k c) : k = j ∧ c = (fun _ => 1) j := by
  try simp only [Bool.and_eq_true] at hq
  rcases hq with ⟨rfl, hq⟩ | ⟨rfl, hq⟩ <;> rcases hb with ⟨rfl, rfl, hb⟩ <;> first | exact ⟨rfl, rfl⟩ | (exfalso; grind)
theorem PE_law (S : CS) (p0 p1 : Int32) {j : Nat} (hq : (fun k => (k = 1 ∧ ¬ wi 0 1 p0 = true) ∨ (k = 1 ∧ wi 0 1 p0 = true ∧ ¬ tOK S.1.2.1 150 p1 = true)) j) (w0 : (wi 0 1 p0 = true ∧ tOK S.1.2.1 150 p1 = true)) : False := by
  try simp only [Bool.and_eq_true] at hq
  rcases hq with ⟨rfl, hq⟩ | ⟨rfl, hq⟩ <;> grind
theorem PB_law (S : CS) (p0 p1 : Int32) {k : Nat} {c : Int32} (hb : (fun (k : Nat) (c : Int32) => (k = 1 ∧ c = 1 ∧ ¬ (wi 0 1 p0 = true ∧ tOK S.1.2.1 150 p1 = true))) k c) (w0 : (wi 0 1 p0 = true ∧ tOK S.1.2.1 150 p1 = true)) : False := by
  rcases hb with ⟨rfl, rfl, hb⟩ <;> grind
set_option maxHeartbeats 1000000 in
theorem P_law {g : qG} (hg : qOK g) (hT : qTHR g) (hCt : qCAT g) {h : qH} {S : CS} {x : Nat → Int32} {y : Nat → Int64} {F : Nat → Nat → Int32} {G : Nat → Nat → Int64} {u : Nat → Int64} (hL : LI h S x y F G u) (hJ : qJDK g) (hW : qMW g) (hSG : qSG g) {f : Nat → Nat} {len : Nat} (hSt : qSTR g 14 15 len f) (hLd : qLD g 4 78 14) (hbr : lbr f len) (p0 p1 : Int32) : PR g h wL_law mX12_law [.int p0, .int p1] 44 37 0 0 := by
  obtain ⟨hC, hM, hR, hI, hu, h93⟩ := id hL
  have hn10 := hI.2.1.1.1
  refine ⟨fun h1 k => MidG h1 x y F G (fun (zv : Value) (S' : CS) => wi 0 1 p0 = true ∧ tOK S.1.2.1 150 p1 = true ∧ ∃ u n : Nat, u ≤ 1 ∧ p0 = nI u ∧ n ≤ S.1.2.1 ∧ n ≤ 150 ∧ p1 = nI n ∧ ∃ K4 V4 : Nat → Int32, (if pbad (plend S.1.1 n (pexp S.1.1 n f len 6 0 (K4, V4, 0)).1) = true then some zv = some (.int (pki (plend S.1.1 n (pexp S.1.1 n f len 6 0 (K4, V4, 0)).1) - 10)) ∧ (((S.1.1, 0, ppl (plend S.1.1 n (pexp S.1.1 n f len 6 0 (K4, V4, 0)).1)), S.2) = S') else some zv = some (.int 1) ∧ (pexp S.1.1 n f len 6 0 (K4, V4, 0)).2.2.2 ≤ 150 ∧ (if u = 0 then (((S.1.1, 0, ppl (plend S.1.1 n (pexp S.1.1 n f len 6 0 (K4, V4, 0)).1)), S.2.1, S.2.2.1, S.2.2.2.1, ((va_cpy (pexp S.1.1 n f len 6 0 (K4, V4, 0)).2.1 S.2.2.2.2.1.1.1 0 0 150, va_cpy (pexp S.1.1 n f len 6 0 (K4, V4, 0)).2.2.1 S.2.2.2.2.1.1.2.1 0 0 150, (pexp S.1.1 n f len 6 0 (K4, V4, 0)).2.2.2), S.2.2.2.2.1.2), S.2.2.2.2.2) = S') else (((S.1.1, 0, ppl (plend S.1.1 n (pexp S.1.1 n f len 6 0 (K4, V4, 0)).1)), S.2.1, S.2.2.1, S.2.2.2.1, (S.2.2.2.2.1.1, (va_cpy (pexp S.1.1 n f len 6 0 (K4, V4, 0)).2.1 S.2.2.2.2.1.2.1 0 0 150, va_cpy (pexp S.1.1 n f len 6 0 (K4, V4, 0)).2.2.1 S.2.2.2.2.1.2.2.1 0 0 150, (pexp S.1.1 n f len 6 0 (K4, V4, 0)).2.2.2)), S.2.2.2.2.2) = S')))) lvi k ∨ MidB h1 S x y F G (fun k => (k = 1 ∧ ¬ wi 0 1 p0 = true) ∨ (k = 1 ∧ wi 0 1 p0 = true ∧ ¬ tOK S.1.2.1 150 p1 = true)) (fun _ => 1) k, fun h1 k hm => mid63 hm, ?_, ?_⟩
  · refine qSpecW_mono (W_law hg hT hCt hC.obj (u := u) (F_law hg hT hC hI.1 hJ hSt hLd p0 p1) ?_ ?_) ?_
    · intro v h1 hp
      obtain ⟨w1, w2, uu, n, hu1, e0, hn1, hn2, e1, K4, V4, hif, hg1⟩ := hp
      rcases ifc hif with ⟨-, hz, -⟩ | ⟨-, hz, -⟩
      · exact ⟨⟨_, hz⟩, hg1.u92 hu⟩
      · exact ⟨⟨_, hz⟩, hg1.u92 hu⟩
    · intro E h1 hx
      obtain ⟨k, rfl, hq, -, -⟩ := hx
      refine ⟨k, ?_, rfl⟩
      rcases hq with hq | hq <;> (have := hq.1; omega)
    · intro r h1 hr
      rcases hr with ⟨z, h2, hp, rfl, rfl⟩ | ⟨k, hk, hx, rfl⟩
      · obtain ⟨w1, w2, uu, n, hu1, e0, hn1, hn2, e1, K4, V4, hif, hg1⟩ := hp
        rcases ifc hif with ⟨q0, hz, hC1⟩ | ⟨q0, hz, h150, hC1⟩
        · exact ⟨0, rfl, Or.inl (mid_g hL (Kg := (fun (zv : Value) (S' : CS) => wi 0 1 p0 = true ∧ tOK S.1.2.1 150 p1 = true ∧ ∃ u n : Nat, u ≤ 1 ∧ p0 = nI u ∧ n ≤ S.1.2.1 ∧ n ≤ 150 ∧ p1 = nI n ∧ ∃ K4 V4 : Nat → Int32, (if pbad (plend S.1.1 n (pexp S.1.1 n f len 6 0 (K4, V4, 0)).1) = true then some zv = some (.int (pki (plend S.1.1 n (pexp S.1.1 n f len 6 0 (K4, V4, 0)).1) - 10)) ∧ (((S.1.1, 0, ppl (plend S.1.1 n (pexp S.1.1 n f len 6 0 (K4, V4, 0)).1)), S.2) = S') else some zv = some (.int 1) ∧ (pexp S.1.1 n f len 6 0 (K4, V4, 0)).2.2.2 ≤ 150 ∧ (if u = 0 then (((S.1.1, 0, ppl (plend S.1.1 n (pexp S.1.1 n f len 6 0 (K4, V4, 0)).1)), S.2.1, S.2.2.1, S.2.2.2.1, ((va_cpy (pexp S.1.1 n f len 6 0 (K4, V4, 0)).2.1 S.2.2.2.2.1.1.1 0 0 150, va_cpy (pexp S.1.1 n f len 6 0 (K4, V4, 0)).2.2.1 S.2.2.2.2.1.1.2.1 0 0 150, (pexp S.1.1 n f len 6 0 (K4, V4, 0)).2.2.2), S.2.2.2.2.1.2), S.2.2.2.2.2) = S') else (((S.1.1, 0, ppl (plend S.1.1 n (pexp S.1.1 n f len 6 0 (K4, V4, 0)).1)), S.2.1, S.2.2.1, S.2.2.2.1, (S.2.2.2.2.1.1, (va_cpy (pexp S.1.1 n f len 6 0 (K4, V4, 0)).2.1 S.2.2.2.2.1.2.1 0 0 150, va_cpy (pexp S.1.1 n f len 6 0 (K4, V4, 0)).2.2.1 S.2.2.2.2.1.2.2.1 0 0 150, (pexp S.1.1 n f len 6 0 (K4, V4, 0)).2.2.2)), S.2.2.2.2.2) = S'))))) (z := .int z) ⟨w1, w2, uu, n, hu1, e0, hn1, hn2, e1, K4, V4, ift q0 ⟨hz, rfl⟩⟩ hC1 hg1 rfl)⟩
        · rcases ifc hC1 with ⟨q1, hC2⟩ | ⟨q1, hC2⟩
          · exact ⟨0, rfl, Or.inl (mid_g hL (Kg := (fun (zv : Value) (S' : CS) => wi 0 1 p0 = true ∧ tOK S.1.2.1 150 p1 = true ∧ ∃ u n : Nat, u ≤ 1 ∧ p0 = nI u ∧ n ≤ S.1.2.1 ∧ n ≤ 150 ∧ p1 = nI n ∧ ∃ K4 V4 : Nat → Int32, (if pbad (plend S.1.1 n (pexp S.1.1 n f len 6 0 (K4, V4, 0)).1) = true then some zv = some (.int (pki (plend S.1.1 n (pexp S.1.1 n f len 6 0 (K4, V4, 0)).1) - 10)) ∧ (((S.1.1, 0, ppl (plend S.1.1 n (pexp S.1.1 n f len 6 0 (K4, V4, 0)).1)), S.2) = S') else some zv = some (.int 1) ∧ (pexp S.1.1 n f len 6 0 (K4, V4, 0)).2.2.2 ≤ 150 ∧ (if u = 0 then (((S.1.1, 0, ppl (plend S.1.1 n (pexp S.1.1 n f len 6 0 (K4, V4, 0)).1)), S.2.1, S.2.2.1, S.2.2.2.1, ((va_cpy (pexp S.1.1 n f len 6 0 (K4, V4, 0)).2.1 S.2.2.2.2.1.1.1 0 0 150, va_cpy (pexp S.1.1 n f len 6 0 (K4, V4, 0)).2.2.1 S.2.2.2.2.1.1.2.1 0 0 150, (pexp S.1.1 n f len 6 0 (K4, V4, 0)).2.2.2), S.2.2.2.2.1.2), S.2.2.2.2.2) = S') else (((S.1.1, 0, ppl (plend S.1.1 n (pexp S.1.1 n f len 6 0 (K4, V4, 0)).1)), S.2.1, S.2.2.1, S.2.2.2.1, (S.2.2.2.2.1.1, (va_cpy (pexp S.1.1 n f len 6 0 (K4, V4, 0)).2.1 S.2.2.2.2.1.2.1 0 0 150, va_cpy (pexp S.1.1 n f len 6 0 (K4, V4, 0)).2.2.1 S.2.2.2.2.1.2.2.1 0 0 150, (pexp S.1.1 n f len 6 0 (K4, V4, 0)).2.2.2)), S.2.2.2.2.2) = S'))))) (z := .int z) ⟨w1, w2, uu, n, hu1, e0, hn1, hn2, e1, K4, V4, ife q0 ⟨hz, h150, ift q1 rfl⟩⟩ hC2 hg1 rfl)⟩
          · exact ⟨0, rfl, Or.inl (mid_g hL (Kg := (fun (zv : Value) (S' : CS) => wi 0 1 p0 = true ∧ tOK S.1.2.1 150 p1 = true ∧ ∃ u n : Nat, u ≤ 1 ∧ p0 = nI u ∧ n ≤ S.1.2.1 ∧ n ≤ 150 ∧ p1 = nI n ∧ ∃ K4 V4 : Nat → Int32, (if pbad (plend S.1.1 n (pexp S.1.1 n f len 6 0 (K4, V4, 0)).1) = true then some zv = some (.int (pki (plend S.1.1 n (pexp S.1.1 n f len 6 0 (K4, V4, 0)).1) - 10)) ∧ (((S.1.1, 0, ppl (plend S.1.1 n (pexp S.1.1 n f len 6 0 (K4, V4, 0)).1)), S.2) = S') else some zv = some (.int 1) ∧ (pexp S.1.1 n f len 6 0 (K4, V4, 0)).2.2.2 ≤ 150 ∧ (if u = 0 then (((S.1.1, 0, ppl (plend S.1.1 n (pexp S.1.1 n f len 6 0 (K4, V4, 0)).1)), S.2.1, S.2.2.1, S.2.2.2.1, ((va_cpy (pexp S.1.1 n f len 6 0 (K4, V4, 0)).2.1 S.2.2.2.2.1.1.1 0 0 150, va_cpy (pexp S.1.1 n f len 6 0 (K4, V4, 0)).2.2.1 S.2.2.2.2.1.1.2.1 0 0 150, (pexp S.1.1 n f len 6 0 (K4, V4, 0)).2.2.2), S.2.2.2.2.1.2), S.2.2.2.2.2) = S') else (((S.1.1, 0, ppl (plend S.1.1 n (pexp S.1.1 n f len 6 0 (K4, V4, 0)).1)), S.2.1, S.2.2.1, S.2.2.2.1, (S.2.2.2.2.1.1, (va_cpy (pexp S.1.1 n f len 6 0 (K4, V4, 0)).2.1 S.2.2.2.2.1.2.1 0 0 150, va_cpy (pexp S.1.1 n f len 6 0 (K4, V4, 0)).2.2.1 S.2.2.2.2.1.2.2.1 0 0 150, (pexp S.1.1 n f len 6 0 (K4, V4, 0)).2.2.2)), S.2.2.2.2.2) = S'))))) (z := .int z) ⟨w1, w2, uu, n, hu1, e0, hn1, hn2, e1, K4, V4, ife q0 ⟨hz, h150, ife q1 rfl⟩⟩ hC2 hg1 rfl)⟩
      · refine ⟨(fun _ => 1) k, ?_, Or.inr (mid_b hL (by omega) (fun j hj => ?_) hx)⟩
        · rfl
        · rcases hj with hj | hj <;> (have := hj.1; omega)
  · intro h1 k hmid
    rcases hmid with ⟨rfl, zv, S', u', ⟨w1, w2, uu, n, hu1, e0, hn1, hn2, e1, K4, V4, hif⟩, hC1, hM1, hu3, hv, h93b⟩ | ⟨j, u', rfl, hq, hC1, hM1, hu3, h93b⟩
    · refine qSpec_mono (M_law hg hM1 hR hI hJ hW hSG hbr K4 V4 p0 p1) fun r h2 hr => ?_
      rcases hr with ⟨-, ⟨uu2, n2, hu2, f0, hn3, hn4, f1, hif2⟩⟩ | ⟨k, c, hb, -, -⟩
      · obtain rfl : n = n2 := (nI_eq (by omega) (by omega)).mp (e1.symm.trans f1)
        obtain rfl : uu = uu2 := (nI_eq (by omega) (by omega)).mp (e0.symm.trans f0)
        rcases ifc hif with ⟨q0, hz, rfl⟩ | ⟨q0, hz, h150, hSS⟩
        · obtain rfl := Option.some.inj hz
          rcases ifc hif2 with ⟨-, rfl, hG⟩ | ⟨q1, -⟩
          · exact ⟨_, rfl, rfl, LA.g hC1 (hI.tape (Nat.zero_le _)) hu3 h93b hG hv⟩
          · exact absurd q0 q1
        · obtain rfl := Option.some.inj hz
          rcases ifc hif2 with ⟨q1, -⟩ | ⟨-, rfl, hif3⟩
          · exact absurd q1 q0
          · have q2 : pbad (plend S.1.1 n (pexp S.1.1 n f len 6 0 (K4, V4, 0)).1) = false := Bool.eq_false_iff.mpr q0
            rcases ifc hSS with ⟨q1, rfl⟩ | ⟨q1, rfl⟩
            · rcases ifc hif3 with ⟨-, hG⟩ | ⟨q3, -⟩
              · exact ⟨_, rfl, rfl, LA.g hC1 (hI.law0 (lwf_exp (by omega) (fun a ha => lbr_w hbr ha (by omega)) q2 _ _)) hu3 h93b hG hv⟩
              · exact absurd q1 q3
            · rcases ifc hif3 with ⟨q3, -⟩ | ⟨-, hG⟩
              · exact absurd q3 q1
              · exact ⟨_, rfl, rfl, LA.g hC1 (hI.law1 (lwf_exp (by omega) (fun a ha => lbr_w hbr ha (by omega)) q2 _ _)) hu3 h93b hG hv⟩
      · exact (PB_law S p0 p1 hb ⟨w1, w2⟩).elim
    · refine qSpec_mono (M_law hg hM1 hR hI hJ hW hSG hbr (fun _ => 0) (fun _ => 0) p0 p1) fun r h2 hr => ?_
      rcases hr with ⟨w0, -⟩ | ⟨k, c, hb, ⟨z, rfl⟩, hG⟩
      · exact (PE_law S p0 p1 hq w0).elim
      · obtain ⟨rfl, rfl⟩ := PD_law S p0 p1 hq hb
        refine ⟨_, rfl, rfl, LA.b hC1 hI hu3 h93b hG ?_⟩
        rcases hq with hq | hq <;> (rw [hq.1]; decide)
end Q14J
