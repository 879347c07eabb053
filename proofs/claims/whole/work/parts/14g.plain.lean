section Q14G
/-- one call that catches nothing: the program's, then the model's -/
def LQ (h : qH) : Prop := ∃ (S : CS) (x : Nat → Int32) (y : Nat → Int64) (F : Nat → Nat → Int32) (G : Nat → Nat → Int64) (u : Nat → Int64), LI h S x y F G u
theorem ifd {c A B : Prop} [Decidable c] (h : if c then A else B) : (c ∧ A) ∨ (¬ c ∧ B) := by
  by_cases q : c
  · rw [if_pos q] at h; exact Or.inl ⟨q, h⟩
  · rw [if_neg q] at h; exact Or.inr ⟨q, h⟩
def PN (g : qG) (h : qH) (fq mq : qMr) (ints : List Value) (d d2 mc2 ms2 : Nat) : Prop := ∃ Mid : qH → Value → Prop, (∀ (h1 : qH) (a : Value), Mid h1 a → (∃ z : Int32, a = .int z) ∧ ∃ fs : List Value, h1.2 63 = some (.inl (12, fs))) ∧ qSpec g d 0 0 fq (.ref 0 :: ints) h (fun r h1 => ∃ a : Value, r = some a ∧ Mid h1 a) ∧ ∀ (h1 : qH) (a : Value), Mid h1 a → qSpec g d2 mc2 ms2 mq (.ref 63 :: ints) h1 (fun r h2 => r = some a ∧ LQ h2)
theorem PN.mk' {g : qG} {h : qH} {S : CS} {x : Nat → Int32} {y : Nat → Int64} {F : Nat → Nat → Int32} {G : Nat → Nat → Int64} {u : Nat → Int64} (hL : LI h S x y F G u) {fq mq : qMr} {ints : List Value} {d d2 mc2 ms2 : Nat} {PF : Option Value → qH → Prop} (Kg : Value → CS → Prop) (hF : qSpec g d 0 0 fq (.ref 0 :: ints) h PF) (h1 : ∀ r h1, PF r h1 → ∃ (a : Value) (S' : CS), r = some a ∧ CH h1 S' ∧ gro h h1 ∧ INV S' ∧ Kg a S') (hM : ∀ h1 : qH, MX h1 x y F G → 93 ≤ h1.1 → ∀ (a : Value) (S' : CS), Kg a S' → qSpec g d2 mc2 ms2 mq (.ref 63 :: ints) h1 (fun r h2 => r = some a ∧ MG h1 h2 S')) (hz : ∀ (a : Value) (S' : CS), Kg a S' → ∃ z : Int32, a = .int z := by first | exact fun a S' hk => ⟨_, hk.1⟩ | exact fun a S' hk => ⟨_, hk.2⟩ | (intro a S' hk; obtain ⟨-, W0, -, hk⟩ := hk; exact ⟨_, hk⟩) | (intro a S' hk; rcases ifd hk with ⟨-, hk, -⟩ | ⟨-, hk, -⟩ <;> exact ⟨_, hk⟩)) : PN g h fq mq ints d d2 mc2 ms2 := by
  obtain ⟨-, hX, -, -, hu, h93⟩ := hL
  refine ⟨fun h1 a => ∃ S' : CS, Kg a S' ∧ CH h1 S' ∧ MX h1 x y F G ∧ INV S' ∧ h1.2 92 = some (aL 1 u) ∧ 93 ≤ h1.1, fun h1 a hm => ?_, ?_, ?_⟩
  · obtain ⟨S', hk, -, hX2, -⟩ := hm
    exact ⟨hz a S' hk, _, hX2.1⟩
  · refine qSpec_mono hF fun r h2 hp => ?_
    obtain ⟨a, S', rfl, hC, hg, hI, hk⟩ := h1 r h2 hp
    exact ⟨a, rfl, S', hk, hC, hX.cg (fun j h3 _ => hg.2 j h3), hI, hg.u92 hu, Nat.le_trans h93 hg.1⟩
  · intro h2 a ⟨S', hk, hC, hX2, hI, hu2, h932⟩
    refine qSpec_mono (hM h2 hX2 h932 a S' hk) fun r h3 hr => ⟨hr.1, ?_⟩
    obtain ⟨x', y', F', G', g1, g2, g3, g4⟩ := hr.2
    exact ⟨S', x', y', F', G', u, hC.cg (fun j hj => g2.2 j (Or.inl hj)), g1, g3, hI, (g2.2 92 (Or.inr rfl)).trans hu2, Nat.le_trans h932 g2.1⟩
theorem P_longest {g : qG} (hg : qOK g) {h : qH} {S : CS} {x : Nat → Int32} {y : Nat → Int64} {F : Nat → Nat → Int32} {G : Nat → Nat → Int64} {u : Nat → Int64} (hL : LI h S x y F G u) : PN g h mX11_longest mX12_longest [] 5 7 0 0 := by
  obtain ⟨hC, hM, hR, hI, hu, h93⟩ := id hL
  obtain ⟨pf, vf, rf, hP, hpn, hinj⟩ := hI.2.1.2.2.1
  refine PN.mk' hL (fun a S' => S = S' ∧ a = .int (lall S.2.1.1 S.2.1.2.2.2.2.2.2.1 S.2.1.2.2.2.2.2.2.2.1 pf vf rf 0 S.2.1.2.2.2.2.1 0)) (F_longest hg hC hI.2.1.1.2.1 hP hI.2.2.2.1.1) (fun r h1 hp => ⟨_, S, hp.1, hp.2.1, hp.2.2, hI, rfl, rfl⟩) (fun h1 hM1 h93b a S' hk => ?_)
  obtain ⟨rfl, rfl⟩ := hk
  exact qSpec_mono (M_longest hg hM1 hR hP hI.2.1 hpn hI.2.2.2.1.1) fun r h2 hr => hr
theorem P_sure {g : qG} (hg : qOK g) {h : qH} {S : CS} {x : Nat → Int32} {y : Nat → Int64} {F : Nat → Nat → Int32} {G : Nat → Nat → Int64} {u : Nat → Int64} (hL : LI h S x y F G u) : PN g h mX11_sure mX12_sure [] 5 7 0 0 := by
  obtain ⟨hC, hM, hR, hI, hu, h93⟩ := id hL
  obtain ⟨pf, vf, rf, hP, hpn, hinj⟩ := hI.2.1.2.2.1
  refine PN.mk' hL (fun a S' => S = S' ∧ a = .int (lsure S.2.1.1 S.2.1.2.2.2.2.2.2.1 S.2.1.2.2.2.2.2.2.2.1 S.2.1.2.2.2.2.2.2.2.2 pf vf rf 0 S.2.1.2.2.2.2.1 0)) (F_sure hg hC hI.2.1.1.2.1 hP hI.2.2.2.1.1) (fun r h1 hp => ⟨_, S, hp.1, hp.2.1, hp.2.2, hI, rfl, rfl⟩) (fun h1 hM1 h93b a S' hk => ?_)
  obtain ⟨rfl, rfl⟩ := hk
  exact qSpec_mono (M_sure hg hM1 hR hP hI.2.1 hpn hI.2.2.2.1.1) fun r h2 hr => hr
theorem P_flat {g : qG} (hg : qOK g) {h : qH} {S : CS} {x : Nat → Int32} {y : Nat → Int64} {F : Nat → Nat → Int32} {G : Nat → Nat → Int64} {u : Nat → Int64} (hL : LI h S x y F G u) : PN g h mX11_flat mX12_flat [] 4 2 0 0 := by
  obtain ⟨hC, hM, hR, hI, hu, h93⟩ := id hL
  refine PN.mk' hL (fun a S' => S = S' ∧ a = .int (cfirst S.2.2.2.1.1 S.2.2.2.1.2 0 4 (-1))) (F_flat hg hC hI.2.2.1.1) (fun r h1 hp => ⟨_, S, hp.1, hp.2.1, hp.2.2, hI, rfl, rfl⟩) (fun h1 hM1 h93b a S' hk => ?_)
  obtain ⟨rfl, rfl⟩ := hk
  exact qSpec_mono (M_flat hg hM1 hR hI.2.2.1) fun r h2 hr => hr
theorem P_status {g : qG} (hg : qOK g) {h : qH} {S : CS} {x : Nat → Int32} {y : Nat → Int64} {F : Nat → Nat → Int32} {G : Nat → Nat → Int64} {u : Nat → Int64} (hL : LI h S x y F G u) (p0 : Int32) : PN g h mX11_status mX12_status [.int p0] 1 2 0 0 := by
  obtain ⟨hC, hM, hR, hI, hu, h93⟩ := id hL
  refine PN.mk' hL (fun a S' => S = S' ∧ a = .int (if p0 = nI 0 then S.2.2.2.2.2.2.1 else if p0 = nI 1 then S.2.2.2.2.2.2.2.1 else if p0 = nI 2 then S.2.2.2.2.2.2.2.2 else -1)) (F_status hg hC p0) (fun r h1 hp => ⟨_, S, hp.1, hp.2.1, hp.2.2, hI, rfl, rfl⟩) (fun h1 hM1 h93b a S' hk => ?_)
  obtain ⟨rfl, rfl⟩ := hk
  exact qSpec_mono (M_status hg hM1 hR p0) fun r h2 hr => hr
theorem P_fault {g : qG} (hg : qOK g) {h : qH} {S : CS} {x : Nat → Int32} {y : Nat → Int64} {F : Nat → Nat → Int32} {G : Nat → Nat → Int64} {u : Nat → Int64} (hL : LI h S x y F G u) : PN g h mX11_fault mX12_fault [] 1 1 0 0 := by
  obtain ⟨hC, hM, hR, hI, hu, h93⟩ := id hL
  refine PN.mk' hL (fun a S' => S = S' ∧ a = .int S.1.2.2) (F_fault hg hC) (fun r h1 hp => ⟨_, S, hp.1, hp.2.1, hp.2.2, hI, rfl, rfl⟩) (fun h1 hM1 h93b a S' hk => ?_)
  obtain ⟨rfl, rfl⟩ := hk
  refine qSpec_mono (M_fault hg hM1.1) fun r h2 hr => ?_
  obtain ⟨rfl, rfl⟩ := hr
  exact ⟨congrArg (fun z => some (Value.int z)) hR.1.2.1, ⟨upd x 0 0, y, F, G, hM1.u63 _ _, kp.rf.u (by decide) (by decide), hR.t 0, upd_s⟩⟩
theorem P_count {g : qG} (hg : qOK g) {h : qH} {S : CS} {x : Nat → Int32} {y : Nat → Int64} {F : Nat → Nat → Int32} {G : Nat → Nat → Int64} {u : Nat → Int64} (hL : LI h S x y F G u) (p0 : Int32) : PN g h mX11_count mX12_count [.int p0] 1 1 0 0 := by
  obtain ⟨hC, hM, hR, hI, hu, h93⟩ := id hL
  refine PN.mk' hL (fun a S' => S = S' ∧ a = .int (if p0 = nI 0 then nI S.2.2.1.2 else if p0 = nI 1 then nI S.1.2.1 else if p0 = nI 2 then nI S.2.1.2.2.2.2.2.1 else -1)) (F_count hg hC p0) (fun r h1 hp => ⟨_, S, hp.1, hp.2.1, hp.2.2, hI, rfl, rfl⟩) (fun h1 hM1 h93b a S' hk => ?_)
  obtain ⟨rfl, rfl⟩ := hk
  refine qSpec_mono (M_count hg hM1.1 p0) fun r h2 hr => ?_
  obtain ⟨rfl, rfl⟩ := hr
  obtain ⟨e2, -, -, -, -, -, -, -, -, e62, e64⟩ := hR.1
  refine ⟨?_, ⟨upd x 0 0, y, F, G, hM1.u63 _ _, kp.rf.u (by decide) (by decide), hR.t 0, upd_s⟩⟩
  rw [e2, e62, e64]
  rfl
theorem INV.feed2 {S : CS} (hI : INV S) {B : Nat → Int32} {n : Nat} {v : Int32} (hn : n ≤ 600) : INV ((B, n, v), S.2) := ⟨hn, hI.2⟩
theorem P_feed {g : qG} (hg : qOK g) {h : qH} {S : CS} {x : Nat → Int32} {y : Nat → Int64} {F : Nat → Nat → Int32} {G : Nat → Nat → Int64} {u : Nat → Int64} (hL : LI h S x y F G u) (p0 p1 p2 p3 p4 : Int32) : PN g h mX11_feed mX12_feed [.int p0, .int p1, .int p2, .int p3, .int p4] 2 1 0 0 := by
  obtain ⟨hC, hM, hR, hI, hu, h93⟩ := id hL
  refine PN.mk' hL (fun a S' => if 600 < S.1.2.1 + 20 then a = .int (-1) ∧ S = S' else a = .int (nI (S.1.2.1 + 4 + 4 + 4 + 4 + 4)) ∧ ((bfeed S.1.1 S.1.2.1 p0 p1 p2 p3 p4, S.1.2.1 + 4 + 4 + 4 + 4 + 4, S.1.2.2), S.2) = S') (F_feed hg hC hI.1 p0 p1 p2 p3 p4) (fun r h1 hp => ?_) (fun h1 hM1 h93b a S' hk => ?_)
  · obtain ⟨hif, hg1⟩ := hp
    by_cases q : 600 < S.1.2.1 + 20
    · rw [if_pos q] at hif
      exact ⟨_, S, hif.1, hif.2, hg1, hI, by rw [if_pos q]; exact ⟨rfl, rfl⟩⟩
    · rw [if_neg q] at hif
      exact ⟨_, _, hif.1, hif.2, hg1, hI.feed2 (by omega), by rw [if_neg q]; exact ⟨rfl, rfl⟩⟩
  · refine qSpec_mono (M_feed hg hM1 hR hI p0 p1 p2 p3 p4) fun r h2 hr => ?_
    by_cases q : 600 < S.1.2.1 + 20
    · rw [if_pos q] at hk hr
      obtain ⟨rfl, rfl⟩ := hk
      exact hr
    · rw [if_neg q] at hk hr
      obtain ⟨rfl, rfl⟩ := hk
      exact hr
theorem INV.image2 {S : CS} (hI : INV S) (h3 : S.2.2.1.2 < 3) : INV (S.1, S.2.1, (fun i => if i = S.2.2.1.2 then rcpy S.2.1 (S.2.2.1.1 S.2.2.1.2) else S.2.2.1.1 i, S.2.2.1.2 + 1), S.2.2.2) := ⟨hI.1, hI.2.1, hI.2.2.1, hI.2.2.2.1, hI.2.2.2.2.1, h3, fun q hq => by
  have hq2 : q < S.2.2.1.2 + 1 := hq
  show ROK (if q = S.2.2.1.2 then rcpy S.2.1 (S.2.2.1.1 S.2.2.1.2) else S.2.2.1.1 q) ∧ (if q = S.2.2.1.2 then rcpy S.2.1 (S.2.2.1.1 S.2.2.1.2) else S.2.2.1.1 q).2.2.2.1 = _ ∧ (if q = S.2.2.1.2 then rcpy S.2.1 (S.2.2.1.1 S.2.2.1.2) else S.2.2.1.1 q).2.2.2.2.2.2.1 = _ ∧ (if q = S.2.2.1.2 then rcpy S.2.1 (S.2.2.1.1 S.2.2.1.2) else S.2.2.1.1 q).2.2.2.2.2.2.2.1 = _
  by_cases e : q = S.2.2.1.2
  · rw [if_pos e]
    exact ⟨hI.2.1.cp _, rfl, rfl, rfl⟩
  · rw [if_neg e]
    exact hI.2.2.2.2.2.2 q (by omega)⟩
theorem INV.restore2 {S : CS} (hI : INV S) {ic : Nat} (h3 : S.2.2.1.2 = ic + 1) : INV (S.1, rcpy (S.2.2.1.1 ic) S.2.1, (S.2.2.1.1, ic), S.2.2.2) := by
  have hi := hI.2.2.2.2.2.1
  obtain ⟨g1, g2, g3, g4⟩ := hI.2.2.2.2.2.2 ic (by omega)
  refine ⟨hI.1, g1.cp _, hI.2.2.1, hI.2.2.2.1, hI.2.2.2.2.1, (by show ic ≤ 3; omega), fun q hq => ?_⟩
  have hq2 : q < ic := hq
  obtain ⟨k1, k2, k3, k4⟩ := hI.2.2.2.2.2.2 q (by omega)
  exact ⟨k1, k2.trans g2.symm, k3.trans g3.symm, k4.trans g4.symm⟩
theorem P_image {g : qG} (hg : qOK g) {h : qH} {S : CS} {x : Nat → Int32} {y : Nat → Int64} {F : Nat → Nat → Int32} {G : Nat → Nat → Int64} {u : Nat → Int64} (hL : LI h S x y F G u) : PN g h mX11_image mX12_image [] 3 3 0 0 := by
  obtain ⟨hC, hM, hR, hI, hu, h93⟩ := id hL
  refine PN.mk' hL (fun a S' => if S.2.2.1.2 = 3 then a = .int (-1) ∧ S = S' else a = .int (nI (S.2.2.1.2 + 1)) ∧ (S.1, S.2.1, (fun i => if i = S.2.2.1.2 then rcpy S.2.1 (S.2.2.1.1 S.2.2.1.2) else S.2.2.1.1 i, S.2.2.1.2 + 1), S.2.2.2) = S') (F_image hg hC rfl hI.2.2.2.2.2.1) (fun r h1 hp => ?_) (fun h1 hM1 h93b a S' hk => ?_)
  · obtain ⟨hi1, hi2, hg1⟩ := hp
    have hi := hI.2.2.2.2.2.1
    by_cases q : S.2.2.1.2 = 3
    · exact ⟨_, S, (hi1 q).1, (hi1 q).2, hg1, hI, by rw [if_pos q]; exact ⟨rfl, rfl⟩⟩
    · have q3 : S.2.2.1.2 < 3 := by omega
      exact ⟨_, _, (hi2 q3).1, (hi2 q3).2, hg1, hI.image2 q3, by rw [if_neg q]; exact ⟨rfl, rfl⟩⟩
  · refine qSpec_mono (M_image hg hM1 hR hI) fun r h2 hr => ?_
    by_cases q : S.2.2.1.2 = 3
    · rw [if_pos q] at hk hr
      obtain ⟨rfl, rfl⟩ := hk
      exact hr
    · rw [if_neg q] at hk hr
      obtain ⟨rfl, rfl⟩ := hk
      exact hr
theorem P_restore {g : qG} (hg : qOK g) {h : qH} {S : CS} {x : Nat → Int32} {y : Nat → Int64} {F : Nat → Nat → Int32} {G : Nat → Nat → Int64} {u : Nat → Int64} (hL : LI h S x y F G u) : PN g h mX11_restore mX12_restore [] 3 3 0 0 := by
  obtain ⟨hC, hM, hR, hI, hu, h93⟩ := id hL
  have hi := hI.2.2.2.2.2.1
  by_cases q : S.2.2.1.2 = 0
  · refine PN.mk' hL (fun a S' => a = .int (-1) ∧ S = S') (F_restore0 hg hC q) (fun r h1 hp => ⟨_, S, hp.1, hp.2.1, hp.2.2, hI, rfl, rfl⟩) (fun h1 hM1 h93b a S' hk => ?_)
    obtain ⟨rfl, rfl⟩ := hk
    refine qSpec_mono (M_restore hg hM1 hR hI) fun r h2 hr => ?_
    rw [if_pos q] at hr
    exact hr
  · obtain ⟨ic, hic⟩ : ∃ ic : Nat, S.2.2.1.2 = ic + 1 := ⟨S.2.2.1.2 - 1, by omega⟩
    refine PN.mk' hL (fun a S' => a = .int (nI ic) ∧ (S.1, rcpy (S.2.2.1.1 ic) S.2.1, (S.2.2.1.1, ic), S.2.2.2) = S') (F_restore hg hC hic (by omega)) (fun r h1 hp => ⟨_, _, hp.1, hp.2.1, hp.2.2, hI.restore2 hic, rfl, rfl⟩) (fun h1 hM1 h93b a S' hk => ?_)
    obtain ⟨rfl, rfl⟩ := hk
    refine qSpec_mono (M_restore hg hM1 hR hI) fun r h2 hr => ?_
    rw [if_neg q, hic, Nat.add_sub_cancel] at hr
    exact hr
theorem rbk_det {R R1 R2 : RT} {u : Nat} (h1 : rbk R u R1) (h2 : rbk R u R2) : R1 = R2 := by
  have inj : ∀ a b : Nat, a ≤ 10 → b ≤ 10 → nI a = nI b → a = b := fun a b ha hb e => (nI_eq (by omega) (by omega)).mp e
  rcases h1 with ⟨k1, a, b, ha, hb, e1, e2, rfl⟩ | ⟨k1, a, ha, e1, rfl⟩ | ⟨k1, a, b, ha, hb, e1, e2, rfl⟩ | ⟨k1, a, ha, hb, e1, rfl⟩ | ⟨k1, rfl⟩ <;> rcases h2 with ⟨k2, a', b', ha', hb', e1', e2', rfl⟩ | ⟨k2, a', ha', e1', rfl⟩ | ⟨k2, a', b', ha', hb', e1', e2', rfl⟩ | ⟨k2, a', ha', hb', e1', rfl⟩ | ⟨k2, rfl⟩ <;> first
    | (exact absurd (k1.symm.trans k2) (by decide))
    | rfl
    | (obtain rfl := inj a a' (by omega) (by omega) (e1.symm.trans e1')
       first
       | rfl
       | (obtain rfl := inj b b' (by omega) (by omega) (e2.symm.trans e2')
          rfl))
theorem P_undo {g : qG} (hg : qOK g) {h : qH} {S : CS} {x : Nat → Int32} {y : Nat → Int64} {F : Nat → Nat → Int32} {G : Nat → Nat → Int64} {u : Nat → Int64} (hL : LI h S x y F G u) : PN g h mX11_undo mX12_undo [] 6 3 0 0 := by
  obtain ⟨hC, hM, hR, hI, hu, h93⟩ := id hL
  have hu20 := hI.2.1.1.2.2
  by_cases q : S.2.1.2.2.2.2.2.1 = 0
  · refine PN.mk' hL (fun a S' => a = .int (-1) ∧ S = S') (F_undo0 hg hC q) (fun r h1 hp => ⟨_, S, hp.1, hp.2.1, hp.2.2, hI, rfl, rfl⟩) (fun h1 hM1 h93b a S' hk => ?_)
    obtain ⟨rfl, rfl⟩ := hk
    refine qSpec_mono (M_undo hg hM1 hR hI.2.1) fun r h2 hr => ?_
    rw [if_pos q] at hr
    exact hr
  · obtain ⟨n, hn⟩ : ∃ n : Nat, S.2.1.2.2.2.2.2.1 = n + 1 := ⟨S.2.1.2.2.2.2.2.1 - 1, by omega⟩
    have hch := hR.2.2.2.2.2.2.1
    rw [hn] at hch
    obtain ⟨R', hb, hRo, -, -⟩ := hch
    refine PN.mk' hL (fun a S' => a = .int (nI n) ∧ (S.1, R', S.2.2) = S') (F_undo1 hg hC hn (by omega) hb) (fun r h1 hp => ⟨_, _, hp.1, hp.2.1, hp.2.2, hI.rd hRo (rbk_k hb).2 (rbk_s hb).1 (rbk_s hb).2, rfl, rfl⟩) (fun h1 hM1 h93b a S' hk => ?_)
    obtain ⟨rfl, rfl⟩ := hk
    refine qSpec_mono (M_undo hg hM1 hR hI.2.1) fun r h2 hr => ?_
    rw [if_neg q] at hr
    obtain ⟨R2, g1, g2, g3, g4⟩ := hr
    rw [hn, Nat.add_sub_cancel] at g1 g3
    obtain rfl := rbk_det hb g1
    exact ⟨g3, g4⟩
theorem P_solos {g : qG} (hg : qOK g) {h : qH} {S : CS} {x : Nat → Int32} {y : Nat → Int64} {F : Nat → Nat → Int32} {G : Nat → Nat → Int64} {u : Nat → Int64} (hL : LI h S x y F G u) : PN g h mX11_solos mX12_solos [] 7 7 0 0 := by
  obtain ⟨hC, hM, hR, hI, hu, h93⟩ := id hL
  obtain ⟨pf, vf, rf, hP, hpn, hinj⟩ := hI.2.1.2.2.1
  obtain ⟨so, hso9, hso⟩ := csol_n (Q := S.2.2.2.1.1) (M := S.2.2.2.1.2) hI.2.2.1 S.2.2.2.1.2 0 0 (by omega) (by omega)
  have hm8 := hI.2.2.1.1
  have hso2 : csol S.2.2.2.1.1 0 S.2.2.2.1.2 0 = nI so := hso
  refine PN.mk' hL (fun a S' => S = S' ∧ ∃ W0 : Nat → Int64, (∀ j : Nat, j < 10 → W0 j = -1) ∧ a = .int (stakes (min so S.2.1.2.2.2.2.1) (swl S.2.1.1 S.2.2.2.2.1.1.1 S.2.2.2.2.1.1.2.1 S.2.2.2.2.1.1.2.2 (nI S.2.2.2.1.2) S.2.1.2.2.2.2.2.2.2.1 pf vf rf 0 S.2.1.2.2.2.2.1 W0, 0, 0)).2.1) (F_solos hg hC hI.2.1.1.2.1 hP hI.2.2.2.1.1 hm8 hso2 (by omega)) (fun r h1 hp => ?_) (fun h1 hM1 h93b a S' hk => ?_)
  · obtain ⟨W0, hW, hr, hC1, hg1⟩ := hp
    exact ⟨_, S, hr, hC1, hg1, hI, rfl, W0, hW, rfl⟩
  · obtain ⟨rfl, W0, hW, rfl⟩ := hk
    refine qSpec_mono (M_solos hg hM1 hR hP hI.2.1 hpn hinj hI.2.2.2.1.1 hI.2.2.1 hso2 (by omega)) fun r h2 hr => ?_
    obtain ⟨⟨b, s, hsf, rfl⟩, hG⟩ := hr
    obtain ⟨b2, s2, hsf2, -, -, k1, -⟩ := solo_p hI.2.1 hP hpn hinj S.2.2.2.2.1.1.1 S.2.2.2.2.1.1.2.1 S.2.2.2.2.1.1.2.2 (nI S.2.2.2.1.2) so W0 hW
    rw [hsf] at hsf2
    cases hsf2
    exact ⟨congrArg (fun z => some (Value.int z)) k1.symm, hG⟩
theorem PD_party (S : CS) (p0 : Int32) {j k : Nat} {c : Int32} (hq : (fun k => (k = 1 ∧ ¬ wi 0 1 p0 = true)) j) (hb : (fun (k : Nat) (c : Int32) => (k = 1 ∧ c = 1 ∧ ¬ (wi 0 1 p0 = true))) k c) : k = j ∧ c = (fun _ => 1) j := by
  simp only [Bool.and_eq_true] at hq
  rcases hq with ⟨rfl, hq⟩ <;> rcases hb with ⟨rfl, rfl, hb⟩ <;> first | exact ⟨rfl, rfl⟩ | (exfalso; grind)
theorem PE_party (S : CS) (p0 : Int32) {j : Nat} (hq : (fun k => (k = 1 ∧ ¬ wi 0 1 p0 = true)) j) (w0 : (wi 0 1 p0 = true)) : False := by
  simp only [Bool.and_eq_true] at hq
  rcases hq with ⟨rfl, hq⟩ <;> grind
theorem PB_party (S : CS) (p0 : Int32) {k : Nat} {c : Int32} (hb : (fun (k : Nat) (c : Int32) => (k = 1 ∧ c = 1 ∧ ¬ (wi 0 1 p0 = true))) k c) (w0 : (wi 0 1 p0 = true)) : False := by
  rcases hb with ⟨rfl, rfl, hb⟩ <;> grind
theorem P_party {g : qG} (hg : qOK g) (hT : qTHR g) (hCt : qCAT g) {h : qH} {S : CS} {x : Nat → Int32} {y : Nat → Int64} {F : Nat → Nat → Int32} {G : Nat → Nat → Int64} {u : Nat → Int64} (hL : LI h S x y F G u) (p0 : Int32) : PR g h wL_party mX12_party [.int p0] 9 4 0 0 := by
  obtain ⟨hC, hM, hR, hI, hu, h93⟩ := id hL
  have hn10 := hI.2.1.1.1
  have hm8 := hI.2.2.1.1
  have hk10 := hI.2.1.1.2.1
  refine ⟨fun h1 k => MidG h1 x y F G (fun (zv : Value) (S' : CS) => S = S' ∧ wi 0 1 p0 = true ∧ ∃ (w : Nat → Nat) (a0 : Nat → Int32), (∀ j, w j < 10) ∧ (∀ j : Nat, j < 11 → a0 j = 0) ∧ some zv = some (.int (if p0 = 0 then (pout S.2.1.1 (srow S.2.1.1 S.2.1.2.2.2.1 0 w) S.2.1.2.2.2.1 S.2.1.2.2.2.1 1 (a0, -1)).1 0 else (pout S.2.1.1 (srow S.2.1.1 S.2.1.2.2.2.1 0 w) S.2.1.2.2.2.1 S.2.1.2.2.2.1 1 (a0, -1)).2))) lvi k ∨ MidB h1 S x y F G (fun k => (k = 1 ∧ ¬ wi 0 1 p0 = true)) (fun _ => 1) k, fun h1 k hm => mid63 hm, ?_, ?_⟩
  · refine qSpecW_mono (W_party hg hT hCt hC.obj (u := u) (F_party hg hT hC hI.2.1.1.1 p0) ?_ ?_) ?_
    · intro v h1 hp
      obtain ⟨w, W0, a0, hw, ha0, hz, hC1, hg1⟩ := hp
      exact ⟨⟨_, hz⟩, hg1.u92 hu⟩
    · intro E h1 hx
      obtain ⟨k, rfl, hq, -, -⟩ := hx
      refine ⟨k, ?_, rfl⟩
      rcases hq with hq <;> (have := hq.1; omega)
    · intro r h1 hr
      rcases hr with ⟨z, h2, hp, rfl, rfl⟩ | ⟨k, hk, hx, rfl⟩
      · obtain ⟨w, W0, a0, hw, ha0, hz, hC1, hg1⟩ := hp
        exact ⟨0, rfl, Or.inl (mid_g hL (Kg := (fun (zv : Value) (S' : CS) => S = S' ∧ wi 0 1 p0 = true ∧ ∃ (w : Nat → Nat) (a0 : Nat → Int32), (∀ j, w j < 10) ∧ (∀ j : Nat, j < 11 → a0 j = 0) ∧ some zv = some (.int (if p0 = 0 then (pout S.2.1.1 (srow S.2.1.1 S.2.1.2.2.2.1 0 w) S.2.1.2.2.2.1 S.2.1.2.2.2.1 1 (a0, -1)).1 0 else (pout S.2.1.1 (srow S.2.1.1 S.2.1.2.2.2.1 0 w) S.2.1.2.2.2.1 S.2.1.2.2.2.1 1 (a0, -1)).2)))) (z := .int z) ⟨rfl, w, W0, a0, hw, ha0, hz⟩ hC1 hg1 rfl)⟩
      · refine ⟨(fun _ => 1) k, ?_, Or.inr (mid_b hL (by omega) (fun j hj => ?_) hx)⟩
        · rfl
        · rcases hj with hj <;> (have := hj.1; omega)
  · intro h1 k hmid
    rcases hmid with ⟨rfl, zv, S', u', ⟨rfl, w, W0, a0, hw, ha0, hz⟩, hC1, hM1, hu1, hv, h93b⟩ | ⟨j, u', rfl, hq, hC1, hM1, hu1, h93b⟩
    · obtain rfl := Option.some.inj hz
      refine qSpec_mono (M_party hg hM1 hR hI.2.1.1.1 p0) fun r h2 hr => ?_
      rcases hr with ⟨-, rfl, hG⟩ | ⟨k, c, hb, -, -⟩
      · refine ⟨_, rfl, rfl, LA.g hC1 hI hu1 h93b hG (hv.trans ?_)⟩
        exact congrArg Int32.toInt64 (pval_e S.2.1.1 hn10 W0 a0 ha0 p0)
      · exact (PB_party S p0 hb w).elim
    · refine qSpec_mono (M_party hg hM1 hR hI.2.1.1.1 p0) fun r h2 hr => ?_
      rcases hr with ⟨w0, -⟩ | ⟨k, c, hb, ⟨z, rfl⟩, hG⟩
      · exact (PE_party S p0 hq w0).elim
      · obtain ⟨rfl, rfl⟩ := PD_party S p0 hq hb
        refine ⟨_, rfl, rfl, LA.b hC1 hI hu1 h93b hG ?_⟩
        rcases hq with hq <;> (rw [hq.1]; decide)
theorem PD_soloJoy (S : CS) (p0 : Int32) {j k : Nat} {c : Int32} (hq : (fun k => (k = 1 ∧ ¬ wi 0 1 p0 = true)) j) (hb : (fun (k : Nat) (c : Int32) => (k = 1 ∧ c = 1 ∧ ¬ (wi 0 1 p0 = true))) k c) : k = j ∧ c = (fun _ => 1) j := by
  simp only [Bool.and_eq_true] at hq
  rcases hq with ⟨rfl, hq⟩ <;> rcases hb with ⟨rfl, rfl, hb⟩ <;> first | exact ⟨rfl, rfl⟩ | (exfalso; grind)
theorem PE_soloJoy (S : CS) (p0 : Int32) {j : Nat} (hq : (fun k => (k = 1 ∧ ¬ wi 0 1 p0 = true)) j) (w0 : (wi 0 1 p0 = true)) : False := by
  simp only [Bool.and_eq_true] at hq
  rcases hq with ⟨rfl, hq⟩ <;> grind
theorem PB_soloJoy (S : CS) (p0 : Int32) {k : Nat} {c : Int32} (hb : (fun (k : Nat) (c : Int32) => (k = 1 ∧ c = 1 ∧ ¬ (wi 0 1 p0 = true))) k c) (w0 : (wi 0 1 p0 = true)) : False := by
  rcases hb with ⟨rfl, rfl, hb⟩ <;> grind
theorem P_soloJoy {g : qG} (hg : qOK g) (hT : qTHR g) (hCt : qCAT g) {h : qH} {S : CS} {x : Nat → Int32} {y : Nat → Int64} {F : Nat → Nat → Int32} {G : Nat → Nat → Int64} {u : Nat → Int64} (hL : LI h S x y F G u) (p0 : Int32) : PR g h wL_soloJoy mX12_soloJoy [.int p0] 10 7 0 0 := by
  obtain ⟨hC, hM, hR, hI, hu, h93⟩ := id hL
  have hn10 := hI.2.1.1.1
  have hm8 := hI.2.2.1.1
  have hk10 := hI.2.1.1.2.1
  obtain ⟨pf, vf, rf, hP, hpn, hinj⟩ := hI.2.1.2.2.1
  obtain ⟨so, hso9, hso0⟩ := csol_n (Q := S.2.2.2.1.1) (M := S.2.2.2.1.2) hI.2.2.1 S.2.2.2.1.2 0 0 (by omega) (by omega)
  have hso : csol S.2.2.2.1.1 0 S.2.2.2.1.2 0 = nI so := hso0
  have h72 : so ≤ 72 := by omega
  refine ⟨fun h1 k => MidG h1 x y F G (fun (zv : Value) (S' : CS) => S = S' ∧ wi 0 1 p0 = true ∧ ∃ W0 : Nat → Int64, (∀ j : Nat, j < 10 → W0 j = -1) ∧ some zv = some (.long (lterms (stakes (min so S.2.1.2.2.2.2.1) (swl S.2.1.1 S.2.2.2.2.1.1.1 S.2.2.2.2.1.1.2.1 S.2.2.2.2.1.1.2.2 (nI S.2.2.2.1.2) S.2.1.2.2.2.2.2.2.2.1 pf vf rf 0 S.2.1.2.2.2.2.1 W0, 0, 0)).2.2 268435456 p0))) lvi k ∨ MidB h1 S x y F G (fun k => (k = 1 ∧ ¬ wi 0 1 p0 = true)) (fun _ => 1) k, fun h1 k hm => mid63 hm, ?_, ?_⟩
  · refine qSpecW_mono (W_soloJoy hg hT hCt hC.obj (u := u) (F_soloJoy hg hT hC hI.2.1.1.2.1 hP hI.2.2.2.1.1 hI.2.2.1.1 hso h72 p0) ?_ ?_) ?_
    · intro v h1 hp
      obtain ⟨w, W0, hW0, hz, hC1, hg1⟩ := hp
      exact ⟨⟨_, hz⟩, hg1.u92 hu⟩
    · intro E h1 hx
      obtain ⟨k, rfl, hq, -, -⟩ := hx
      refine ⟨k, ?_, rfl⟩
      rcases hq with hq <;> (have := hq.1; omega)
    · intro r h1 hr
      rcases hr with ⟨z, h2, hp, rfl, rfl⟩ | ⟨k, hk, hx, rfl⟩
      · obtain ⟨w, W0, hW0, hz, hC1, hg1⟩ := hp
        exact ⟨0, rfl, Or.inl (mid_g hL (Kg := (fun (zv : Value) (S' : CS) => S = S' ∧ wi 0 1 p0 = true ∧ ∃ W0 : Nat → Int64, (∀ j : Nat, j < 10 → W0 j = -1) ∧ some zv = some (.long (lterms (stakes (min so S.2.1.2.2.2.2.1) (swl S.2.1.1 S.2.2.2.2.1.1.1 S.2.2.2.2.1.1.2.1 S.2.2.2.2.1.1.2.2 (nI S.2.2.2.1.2) S.2.1.2.2.2.2.2.2.2.1 pf vf rf 0 S.2.1.2.2.2.2.1 W0, 0, 0)).2.2 268435456 p0)))) (z := .long z) ⟨rfl, w, W0, hW0, hz⟩ hC1 hg1 rfl)⟩
      · refine ⟨(fun _ => 1) k, ?_, Or.inr (mid_b hL (by omega) (fun j hj => ?_) hx)⟩
        · rfl
        · rcases hj with hj <;> (have := hj.1; omega)
  · intro h1 k hmid
    rcases hmid with ⟨rfl, zv, S', u', ⟨rfl, w, W0, hW0, hz⟩, hC1, hM1, hu1, hv, h93b⟩ | ⟨j, u', rfl, hq, hC1, hM1, hu1, h93b⟩
    · obtain rfl := Option.some.inj hz
      refine qSpec_mono (M_soloJoy hg hM1 hR hP hI.2.1 hpn hinj hI.2.2.2.1.1 hI.2.2.1 hso h72 p0) fun r h2 hr => ?_
      rcases hr with ⟨-, ⟨b, s, hsf, rfl⟩, hG⟩ | ⟨k, c, hb, -, -⟩
      · refine ⟨_, rfl, rfl, LA.g hC1 hI hu1 h93b hG (hv.trans ?_)⟩
        obtain ⟨b2, s2, hsf2, -, -, -, k2⟩ := solo_p hI.2.1 hP hpn hinj S.2.2.2.2.1.1.1 S.2.2.2.2.1.1.2.1 S.2.2.2.2.1.1.2.2 (nI S.2.2.2.1.2) so W0 hW0
        rw [hsf] at hsf2
        cases hsf2
        show lterms _ _ _ = lterms _ _ _
        rw [k2]
      · exact (PB_soloJoy S p0 hb w).elim
    · refine qSpec_mono (M_soloJoy hg hM1 hR hP hI.2.1 hpn hinj hI.2.2.2.1.1 hI.2.2.1 hso h72 p0) fun r h2 hr => ?_
      rcases hr with ⟨w0, -⟩ | ⟨k, c, hb, ⟨z, rfl⟩, hG⟩
      · exact (PE_soloJoy S p0 hq w0).elim
      · obtain ⟨rfl, rfl⟩ := PD_soloJoy S p0 hq hb
        refine ⟨_, rfl, rfl, LA.b hC1 hI hu1 h93b hG ?_⟩
        rcases hq with hq <;> (rw [hq.1]; decide)
end Q14G
