section Q12W
theorem pd0_l (N q : Nat) (e : Nat × Nat) : pd0 N q (.inl e) = .inl e := by unfold pd0; split <;> rfl
theorem ps0_l (N q : Nat) (e : Nat × Nat) : ps0 N q (.inl e) = .inl e := by unfold ps0; split <;> rfl
theorem pbody_l (F : Nat → Int32) (n k q : Nat) (e : Nat × Nat) (D : Nat → Int32) (N : Nat) (Q : Nat → Int32) (M : Nat) (st ve cl : Int32) : (pbody F n k q (.inl e) D N Q M st ve cl).1 = .inl e := by
  unfold pbody
  split
  · show pnumS F n 0 99 (pnumS F n 0 240 (pnumS F n 0 99 (pd0 N q (.inl e)))) = _
    rw [pd0_l]; rfl
  all_goals first
    | rfl
    | (show pnumS F n 0 3 (pnumS F n 0 99 (ps0 M q (.inl e))) = _
       rw [ps0_l]; rfl)
theorem pvrun_b {F : Nat → Int32} {n : Nat} {f : Nat → Nat} {len : Nat} {r : PS × VD} (h : pbad r.1 = true) (m i : Nat) : pvrun F n f len m i r = r := by
  cases m with
  | zero => rfl
  | succ m =>
    obtain ⟨s, V⟩ := r
    cases s with
    | inl e => rfl
    | inr a => cases h
/-- the program's words for clauses are the model's -/
def vbr (f : Nat → Nat) (len : Nat) : Prop := ∀ (F : Nat → Int32) (n a : Nat), a ≤ n → n ≤ 600 → (pword F n f len a = -1 ∧ mkind (mword F n (sk F n a)) = 13) ∨ ∃ k : Nat, k < 13 ∧ pword F n f len a = nI k ∧ mkind (mword F n (sk F n a)) = k
theorem pkind_nI {k : Nat} (hk : k < 13) : pkind (nI k) = k := by
  unfold pkind
  rw [if_neg, h_tn (by omega)]
  intro h
  rcases h with h | h
  · exact absurd ((nI_ltI (b := 0) (by omega) (by decide)).mp h) (by omega)
  · exact absurd ((nI_ltI (a := 12) (by decide) (by omega)).mp h) (by omega)
section
variable {F : Nat → Int32} {n : Nat} {f : Nat → Nat} {len : Nat}
theorem pclause_x {i a : Nat} {V : VD} (h : pword F n f len a = -1) : (pclause F n f len i a V).1 = .inl (1, sk F n a) := by
  show psign F n 59 (pbody F n (pkind (pword F n f len a)) (sk F n a) (pcl0 i (sk F n a) (pwst F n f len (.inr a))) V.1 V.2.1 V.2.2.1 V.2.2.2.1 V.2.2.2.2.1 V.2.2.2.2.2.1 V.2.2.2.2.2.2).1 = _
  have e : pwst F n f len (.inr a) = .inl (1, sk F n a) := if_pos h
  have e2 : pcl0 i (sk F n a) (.inl (1, sk F n a)) = .inl (1, sk F n a) := by unfold pcl0; split <;> rfl
  rw [e, e2, pbody_l]
  rfl
theorem pclause_60 {i a : Nat} {V : VD} (h : ¬ pword F n f len a = -1) (hi : 60 ≤ i) : (pclause F n f len i a V).1 = .inl (3, sk F n a) := by
  show psign F n 59 (pbody F n (pkind (pword F n f len a)) (sk F n a) (pcl0 i (sk F n a) (pwst F n f len (.inr a))) V.1 V.2.1 V.2.2.1 V.2.2.2.1 V.2.2.2.2.1 V.2.2.2.2.2.1 V.2.2.2.2.2.2).1 = _
  have e : pwst F n f len (.inr a) = .inr (pwend F n a) := if_neg h
  have e2 : pcl0 i (sk F n a) (.inr (pwend F n a)) = .inl (3, sk F n a) := if_pos hi
  rw [e, e2, pbody_l]
  rfl
theorem pclause_g {i a k : Nat} {V : VD} (hk : k < 13) (h : pword F n f len a = nI k) (hi : i < 60) : pclause F n f len i a V = (psign F n 59 (pbody F n k (sk F n a) (.inr (pwend F n a)) V.1 V.2.1 V.2.2.1 V.2.2.2.1 V.2.2.2.2.1 V.2.2.2.2.2.1 V.2.2.2.2.2.2).1, (pbody F n k (sk F n a) (.inr (pwend F n a)) V.1 V.2.1 V.2.2.1 V.2.2.2.1 V.2.2.2.2.1 V.2.2.2.2.2.1 V.2.2.2.2.2.2).2) := by
  have e : pwst F n f len (.inr a) = .inr (pwend F n a) := if_neg (by rw [h]; exact nim1 (by omega))
  have e2 : pcl0 i (sk F n a) (.inr (pwend F n a)) = .inr (pwend F n a) := if_neg (by omega)
  unfold pclause
  rw [e, e2, h, pkind_nI hk]
theorem pclause_d {i a : Nat} {V : VD} (h : pword F n f len a = nI 0) (hi : i < 60) (hN : V.2.1 = 10) : (pclause F n f len i a V).1 = .inl (3, sk F n a) := by
  rw [pclause_g (by decide) h hi]
  show psign F n 59 (pnumS F n 0 99 (pnumS F n 0 240 (pnumS F n 0 99 (pd0 V.2.1 (sk F n a) (.inr (pwend F n a)))))) = _
  rw [hN]
  rfl
theorem pclause_s {i a : Nat} {V : VD} (h : pword F n f len a = nI 7) (hi : i < 60) (hM : V.2.2.2.1 = 8) : (pclause F n f len i a V).1 = .inl (3, sk F n a) := by
  rw [pclause_g (by decide) h hi]
  show psign F n 59 (pnumS F n 0 3 (pnumS F n 0 99 (ps0 V.2.2.2.1 (sk F n a) (.inr (pwend F n a))))) = _
  rw [hM]
  rfl
end
/-- the model amid a village's text -/
def VX (h0 hX : qH) (x0 x' : Nat → Int32) (y : Nat → Int64) (n : Nat) (s : PS) (V : VD) : Prop := hX.2 63 = some (M63 x' y) ∧ same h0 hX [63, 66, 68] ∧ (∀ k : Nat, k ∉ [2, 3, 4, 5, 6, 7, 8, 14, 15, 16, 17, 18] → x' k = x0 k) ∧ x' 2 = 0 ∧ mT x' n s ∧ mVS hX x' s V
theorem VX.st {h0 hX h' : qH} {x0 x' : Nat → Int32} {y : Nat → Int64} {n a : Nat} {s : PS} {V : VD} {Z : List Nat} (hV : VX h0 hX x0 x' y n (.inr a) V) (hp : mP hX h' x' y Z n s) (hz : ∀ k : Nat, k ∈ Z → k = 4 ∨ k = 5 ∨ k = 6) : ∃ x2 : Nat → Int32, VX h0 h' x0 x2 y n s V := by
  obtain ⟨h1, h2, h3, h4, h5, h6⟩ := hV
  obtain ⟨x2, g1, g2, g3, g4⟩ := hp
  obtain ⟨nd, ns, a1, a2, a3, a4, a5, a6, a7, a8, a9⟩ := h6.2 rfl
  have e : ∀ k : Nat, ¬ (k = 4 ∨ k = 5 ∨ k = 6) → x2 k = x' k := fun k hk => g3 k (fun q => hk (hz k q))
  have b1 := (g2.2 66 (by decide)).trans a1
  have b2 := (g2.2 68 (by decide)).trans a2
  refine ⟨x2, g1, same.tr (l := [63, 66, 68]) h2 g2 (by simp) (by simp), fun k hk => ?_, (e 2 (by decide)).trans h4, g4, ⟨⟨nd, b1⟩, ns, b2⟩, fun _ => ⟨nd, ns, b1, b2, (e 14 (by decide)).trans a3, (e 15 (by decide)).trans a4, (e 16 (by decide)).trans a5, (e 17 (by decide)).trans a6, (e 18 (by decide)).trans a7, a8, a9⟩⟩
  rw [e k (fun q => hk (by rcases q with rfl | rfl | rfl <;> decide))]
  exact h3 k hk
theorem VX.sl {h0 hX h' : qH} {x0 x' : Nat → Int32} {y : Nat → Int64} {n : Nat} {s s' : PS} {V : VD} {Z : List Nat} (hV : VX h0 hX x0 x' y n s V) (hp : mP hX h' x' y Z n s') (hz : ∀ k : Nat, k ∈ Z → k = 4 ∨ k = 5 ∨ k = 6) (hb : pbad s' = false → pbad s = false) : ∃ x2 : Nat → Int32, VX h0 h' x0 x2 y n s' V := by
  obtain ⟨h1, h2, h3, h4, h5, h6⟩ := hV
  obtain ⟨x2, g1, g2, g3, g4⟩ := hp
  have e : ∀ k : Nat, ¬ (k = 4 ∨ k = 5 ∨ k = 6) → x2 k = x' k := fun k hk => g3 k (fun q => hk (hz k q))
  obtain ⟨⟨⟨nd, a1⟩, ns, a2⟩, h6⟩ := h6
  refine ⟨x2, g1, same.tr (l := [63, 66, 68]) h2 g2 (by simp) (by simp), fun k hk => ?_, (e 2 (by decide)).trans h4, g4, ⟨⟨nd, (g2.2 66 (by decide)).trans a1⟩, ns, (g2.2 68 (by decide)).trans a2⟩, fun q => ?_⟩
  · rw [e k (fun q => hk (by rcases q with rfl | rfl | rfl <;> decide))]
    exact h3 k hk
  · obtain ⟨nd, ns, a1, a2, a3, a4, a5, a6, a7, a8, a9⟩ := h6 (hb q)
    exact ⟨nd, ns, (g2.2 66 (by decide)).trans a1, (g2.2 68 (by decide)).trans a2, (e 14 (by decide)).trans a3, (e 15 (by decide)).trans a4, (e 16 (by decide)).trans a5, (e 17 (by decide)).trans a6, (e 18 (by decide)).trans a7, a8, a9⟩
theorem VX.cl {h0 hX h' : qH} {x0 x' : Nat → Int32} {y : Nat → Int64} {n : Nat} {s : PS} {V : VD} {r : PS × VD} (hV : VX h0 hX x0 x' y n s V) (hp : mCl hX h' x' y n r) : ∃ x2 : Nat → Int32, VX h0 h' x0 x2 y n r.1 r.2 := by
  obtain ⟨h1, h2, h3, h4, h5, h6⟩ := hV
  obtain ⟨x2, g1, g2, g3, g4, g5⟩ := hp
  refine ⟨x2, g1, same.tr (l := [63, 66, 68]) h2 g2 (by simp) (by simp), fun k hk => ?_, (g3 2 (by decide)).trans h4, g4, g5⟩
  rw [g3 k (fun q => hk (by simp at q ⊢; omega))]
  exact h3 k hk
theorem VX.bad {h0 hX : qH} {x0 x' : Nat → Int32} {y : Nat → Int64} {n : Nat} {s : PS} {V V' : VD} (hV : VX h0 hX x0 x' y n s V) (hb : pbad s = true) : VX h0 hX x0 x' y n s V' := ⟨hV.1, hV.2.1, hV.2.2.1, hV.2.2.2.1, hV.2.2.2.2.1, hV.2.2.2.2.2.1, fun q => by rw [hb] at q; cases q⟩
theorem VX.tape {h0 hX : qH} {x0 x' : Nat → Int32} {y : Nat → Int64} {n : Nat} {s : PS} {V : VD} {F : Nat → Int32} (hV : VX h0 hX x0 x' y n s V) (hB : mB h0 F) : mB hX F := hB.sm hV.2.1 (by decide)
theorem Rel.mB {h : qH} {x : Nat → Int32} {y : Nat → Int64} {F : Nat → Nat → Int32} {G : Nat → Nat → Int64} (hM : MX h x y F G) {S : CS} (hR : Rel S x F) : mB h S.1.1 := ⟨F 65, hM.c65, hR.2.1⟩
end Q12W
