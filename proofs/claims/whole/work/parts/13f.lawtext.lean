section Q13F
theorem M_unit_l {g : qG} (hg : qOK g) {h : qH} {d : Nat} {x : Nat → Int32} {y : Nat → Int64} (hM : h.2 63 = some (M63 x y)) {n : Nat} {e : Nat × Nat} (hT : mT x n (.inl e)) : qSpec g (d + 2) 0 0 mX12_readUnit [.ref 63] h (fun r h' => r = none ∧ h' = h) := by
  refine qSpec_run 12 "readUnit" false hg mX12_readUnit_ok rfl rfl (Nat.le_of_ble_eq_true rfl) (by decide) ?_
  intro run step
  refine step.1 _ _ _ _ _ _ _ sgX12_readUnit_0_ok ?_
  refine Or.inl ⟨rfl, _, 1, 0, 0, _, _, _, qi_12_142, ⟨rfl, rfl⟩, ⟨hM, rfl⟩, (qnum_rec (by omega) (by omega) (by omega) rfl), rfl, M_fineS hg hM hT, fun y1 h1 hy1 => ?_⟩
  obtain ⟨rfl, hh⟩ := hy1
  rw [hh]
  clear hh
  refine ⟨fun c4 => absurd rfl c4, fun c4 => ?_⟩
  refine ⟨rfl, Nat.le_refl _, Nat.le_refl _, ?_⟩
  exact ⟨rfl, rfl⟩
theorem M_prod_l {g : qG} (hg : qOK g) {h : qH} {d : Nat} {x : Nat → Int32} {y : Nat → Int64} (hM : h.2 63 = some (M63 x y)) {n : Nat} {e : Nat × Nat} (hT : mT x n (.inl e)) : qSpec g (d + 3) 0 0 mX12_readProduct [.ref 63] h (fun r h' => r = none ∧ h' = h) := by
  refine qSpec_run 12 "readProduct" false hg mX12_readProduct_ok rfl rfl (Nat.le_of_ble_eq_true rfl) (by decide) ?_
  intro run step
  refine step.1 _ _ _ _ _ _ _ sgX12_readProduct_0_ok ?_
  refine Or.inl ⟨rfl, _, d + 2, 0, 0, _, _, _, qi_12_285, ⟨rfl, rfl⟩, ⟨hM, rfl⟩, (qnum_rec (by omega) (by omega) (by omega) rfl), rfl, M_unit_l hg hM hT, fun y1 h1 hy1 => ?_⟩
  obtain ⟨rfl, hh⟩ := hy1
  rw [hh]
  clear hh
  refine step.1 _ _ _ _ _ _ _ sgX12_readProduct_4_ok ?_
  refine Or.inl ⟨rfl, _, 1, 0, 0, _, _, _, qi_12_142, ⟨rfl, rfl⟩, ⟨hM, rfl⟩, (qnum_rec (by omega) (by omega) (by omega) rfl), rfl, M_fineS hg hM hT, fun y5 h5 hy5 => ?_⟩
  obtain ⟨rfl, hh⟩ := hy5
  rw [hh]
  clear hh
  refine ⟨fun c8 => ?_, fun c8 => absurd (show (0 : Int32) = 0 from rfl) c8⟩
  
  refine step.1 _ _ _ _ _ _ _ sgX12_readProduct_67_ok ?_
  refine ⟨rfl, Nat.le_refl _, Nat.le_refl _, ?_⟩
  exact ⟨rfl, rfl⟩
theorem M_sum_l {g : qG} (hg : qOK g) {h : qH} {d : Nat} {x : Nat → Int32} {y : Nat → Int64} (hM : h.2 63 = some (M63 x y)) {n : Nat} {e : Nat × Nat} (hT : mT x n (.inl e)) : qSpec g (d + 4) 0 0 mX12_readSum [.ref 63] h (fun r h' => r = none ∧ h' = h) := by
  refine qSpec_run 12 "readSum" false hg mX12_readSum_ok rfl rfl (Nat.le_of_ble_eq_true rfl) (by decide) ?_
  intro run step
  refine step.1 _ _ _ _ _ _ _ sgX12_readSum_0_ok ?_
  refine Or.inl ⟨rfl, _, d + 3, 0, 0, _, _, _, qi_12_279, ⟨rfl, rfl⟩, ⟨hM, rfl⟩, (qnum_rec (by omega) (by omega) (by omega) rfl), rfl, M_prod_l hg hM hT, fun y1 h1 hy1 => ?_⟩
  obtain ⟨rfl, hh⟩ := hy1
  rw [hh]
  clear hh
  refine step.1 _ _ _ _ _ _ _ sgX12_readSum_4_ok ?_
  refine Or.inl ⟨rfl, _, 1, 0, 0, _, _, _, qi_12_142, ⟨rfl, rfl⟩, ⟨hM, rfl⟩, (qnum_rec (by omega) (by omega) (by omega) rfl), rfl, M_fineS hg hM hT, fun y5 h5 hy5 => ?_⟩
  obtain ⟨rfl, hh⟩ := hy5
  rw [hh]
  clear hh
  refine ⟨fun c8 => ?_, fun c8 => absurd (show (0 : Int32) = 0 from rfl) c8⟩
  
  refine step.1 _ _ _ _ _ _ _ sgX12_readSum_67_ok ?_
  refine ⟨rfl, Nat.le_refl _, Nat.le_refl _, ?_⟩
  exact ⟨rfl, rfl⟩
/-- the model amid a law's text -/
def LTS (h : qH) (x : Nat → Int32) (y : Nat → Int64) (n o : Nat) (s : PS) (c : CD) : Prop := h.2 63 = some (M63 x y) ∧ x 7 = nI o ∧ mT x n s ∧ ∃ K V : Nat → Int32, h.2 70 = some (aI' 150 K) ∧ h.2 71 = some (aI' 150 V) ∧ ∀ a : Nat, s = .inr a → x 30 = nI c.2.2 ∧ ag c.2.2 K c.1 ∧ ag c.2.2 V c.2.1 ∧ c.2.2 ≤ a
/-- what a part of the reading leaves -/
def LTP (h h' : qH) (x : Nat → Int32) (y : Nat → Int64) (n o : Nat) (r : PS × CD) : Prop := ∃ x' : Nat → Int32, LTS h' x' y n o r.1 r.2 ∧ same h h' [63, 70, 71] ∧ ∀ k : Nat, k ∉ [4, 5, 6, 7, 30] → x' k = x k
def mE (g : qG) (F : Nat → Int32) (n d o : Nat) (q : qMr) (E : PE) : Prop := ∀ (h : qH) (x : Nat → Int32) (y : Nat → Int64) (a : Nat) (c : CD), LTS h x y n o (.inr a) c → mB h F → qSpec g d 0 0 q [.ref 63] h (fun r h' => r = none ∧ LTP h h' x y n o (E a c))
theorem mT.ne {x : Nat → Int32} {n : Nat} {s : PS} (h : mT x n s) : n ≤ 600 := h.2.1
section
variable {h h' : qH} {x x' : Nat → Int32} {y : Nat → Int64} {n o : Nat} {s s' : PS} {c : CD}
theorem LTS.st {Z : List Nat} (hL : LTS h x y n o s c) (hp : mP h h' x y Z n s') (hz : ∀ k : Nat, k ∈ Z → k = 4 ∨ k = 5 ∨ k = 6) (hs : ∀ b : Nat, s' = .inr b → ∃ a : Nat, s = .inr a ∧ a ≤ b) : ∃ x' : Nat → Int32, LTS h' x' y n o s' c ∧ same h h' [63, 70, 71] ∧ ∀ k : Nat, k ∉ [4, 5, 6, 7, 30] → x' k = x k := by
  obtain ⟨a1, a2, a3, K, V, a4, a5, a6⟩ := hL
  obtain ⟨x2, g1, g2, g3, g4⟩ := hp
  have e : ∀ k : Nat, ¬ (k = 4 ∨ k = 5 ∨ k = 6) → x2 k = x k := fun k hk => g3 k (fun q => hk (hz k q))
  refine ⟨x2, ⟨g1, (e 7 (by decide)).trans a2, g4, K, V, (g2.2 70 (by decide)).trans a4, (g2.2 71 (by decide)).trans a5, fun b hb => ?_⟩, g2.sub (by simp), fun k hk => e k (fun q => hk (by rcases q with rfl | rfl | rfl <;> decide))⟩
  obtain ⟨a, ha, hab⟩ := hs b hb
  obtain ⟨b1, b2, b3, b4⟩ := a6 a ha
  exact ⟨(e 30 (by decide)).trans b1, b2, b3, Nat.le_trans b4 hab⟩
theorem LTS.tape {F : Nat → Int32} {h0 : qH} {z : List Nat} (hB : mB h0 F) (hs : same h0 h z) (hz : 65 ∉ z) : mB h F := hB.sm hs hz
end
theorem psign_le {F : Nat → Int32} {n : Nat} {w : Int32} {s : PS} (hn : ∀ a : Nat, s = .inr a → a ≤ n) {b : Nat} (h : psign F n w s = .inr b) : ∃ a : Nat, s = .inr a ∧ a < b := by
  cases s with
  | inl e => cases h
  | inr a =>
    refine ⟨a, rfl, ?_⟩
    have h2 : (if tby F n (sk F n a) = w then (.inr (sk F n a + 1) : PS) else .inl (1, sk F n a)) = .inr b := h
    have := (sk_le F (hn a rfl)).1
    by_cases q : tby F n (sk F n a) = w
    · rw [if_pos q] at h2
      cases h2
      omega
    · rw [if_neg q] at h2; cases h2
theorem mT.le {x : Nat → Int32} {n : Nat} {s : PS} (h : mT x n s) : ∀ a : Nat, s = .inr a → a ≤ n := fun a e => by
  subst e
  exact h.2.2.2.2
theorem M_signL {g : qG} (hg : qOK g) {h : qH} {x : Nat → Int32} {y : Nat → Int64} {F : Nat → Int32} {n o : Nat} {s : PS} {c : CD} (hL : LTS h x y n o s c) (hB : mB h F) (v : Int32) (hv : ¬ v = 0) (hv2 : ¬ v = -1) : qSpec g 2 0 0 mX12_sign [.ref 63, .int v] h (fun r h' => r = none ∧ ∃ x' : Nat → Int32, LTS h' x' y n o (psign F n v s) c ∧ same h h' [63, 70, 71] ∧ ∀ k : Nat, k ∉ [4, 5, 6, 7, 30] → x' k = x k) :=
  qSpec_mono (M_sign hg hL.1 hL.2.2.1 hB v hv hv2) fun r h' hy => ⟨hy.1, hL.st hy.2 (by simp) (fun b hb => by
    obtain ⟨a, h1, h2⟩ := psign_le hL.2.2.1.le hb
    exact ⟨a, h1, by omega⟩)⟩
theorem M_emitL {g : qG} (hg : qOK g) {h : qH} {x : Nat → Int32} {y : Nat → Int64} {n o : Nat} {s : PS} {c : CD} (hL : LTS h x y n o s c) (hn : n ≤ 150) (hz : ∀ a : Nat, s = .inr a → c.2.2 < a) (k v : Int32) : qSpec g 2 0 0 mX12_emit [.ref 63, .int k, .int v] h (fun r h' => r = none ∧ ∃ x' : Nat → Int32, LTS h' x' y n o s (cadd k v c) ∧ same h h' [63, 70, 71] ∧ ∀ j : Nat, j ∉ [4, 5, 6, 7, 30] → x' j = x j) := by
  obtain ⟨a1, a2, a3, K, V, a4, a5, a6⟩ := id hL
  cases s with
  | inl e =>
    refine qSpec_mono (M_emit_l hg a1 a3 rfl k v) fun r h' hy => ⟨hy.1, x, ?_, ?_, fun _ _ => rfl⟩
    · rw [hy.2]
      exact ⟨a1, a2, a3, K, V, a4, a5, fun a q => by cases q⟩
    · rw [hy.2]; exact same.rf
  | inr a =>
    obtain ⟨b1, b2, b3, b4⟩ := a6 a rfl
    have ha := a3.le a rfl
    have hza := hz a rfl
    have hz2 : c.2.2 < 150 := by omega
    refine qSpec_mono (M_emit_r hg a1 a3 rfl a4 a5 b1 hz2 k v) fun r h' hy => ⟨hy.1, _, ⟨hy.2.1, (upd_n (by decide)).trans a2, ?_, _, _, hy.2.2.1, hy.2.2.2.1, fun a' q => ?_⟩, hy.2.2.2.2, fun j hj => upd_n (fun q => hj (by rw [q]; decide))⟩
    · exact ⟨a3.1, a3.2.1, a3.2.2⟩
    · cases q
      unfold cadd
      rw [if_pos hz2]
      refine ⟨upd_s, fun j hj => ?_, fun j hj => ?_, hza⟩
      · show upd K c.2.2 k j = upd c.1 c.2.2 k j
        unfold upd
        by_cases q : j = c.2.2
        · rw [if_pos q, if_pos q]
        · rw [if_neg q, if_neg q]; exact b2 j (by have : j < c.2.2 + 1 := hj; omega)
      · show upd V c.2.2 v j = upd c.2.1 c.2.2 v j
        unfold upd
        by_cases q : j = c.2.2
        · rw [if_pos q, if_pos q]
        · rw [if_neg q, if_neg q]; exact b3 j (by have : j < c.2.2 + 1 := hj; omega)
end Q13F
