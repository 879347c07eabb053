section Q11Z
def pcn : Nat → Nat → Nat
  | 0, _ => 0
  | f + 1, b => if b = 0 then 0 else pcn f (b &&& (b - 1)) + 1
theorem pcn_e : ∀ b : Nat, b < 1024 → pcn 1024 b = sones 10 b := by decide +kernel
theorem sones_k {k b : Nat} (hk : k ≤ 10) (hb : b < 2 ^ k) : sones k b = sones 10 b := by
  have h : ∀ m : Nat, sm (fun _ => 1) (fun l => b.testBit l) (k + m) = sm (fun _ => 1) (fun l => b.testBit l) k := by
    intro m
    induction m with
    | zero => rfl
    | succ m ih =>
      show sm _ _ (k + m) + (if b.testBit (k + m) = true then 1 else 0) = _
      rw [ih, if_neg (by rw [tb_hi hb (by omega)]; decide), Nat.add_zero]
  have := h (10 - k)
  rw [show k + (10 - k) = 10 by omega] at this
  exact this.symm
theorem csol_n {Q : Nat → Int32} {M : Nat} (h : QOK Q M) : ∀ (m i s : Nat), i + m = M → s ≤ 9 * i → ∃ so : Nat, so ≤ 9 * M ∧ csol Q i m (nI s) = nI so := by
  intro m
  induction m with
  | zero => intro i s hi hs; exact ⟨s, by omega, rfl⟩
  | succ m ih =>
    intro i s hi hs
    obtain ⟨v, hv, e⟩ := (h.2 i (by omega)).2.2.2
    show ∃ so : Nat, _ ∧ csol Q (i + 1) m (nI s + Q (i * 4 + 3)) = nI so
    rw [e, nI_add]
    exact ih (i + 1) (s + v) (by omega) (by omega)
/-- a question's scratch alone is other -/
def QZ (h h' : qH) (x : Nat → Int32) (F : Nat → Nat → Int32) (G : Nat → Nat → Int64) (x' : Nat → Int32) (y' : Nat → Int64) (F' : Nat → Nat → Int32) : Prop := MX h' x' y' F' G ∧ mq x x' F F' ∧ kp h h'
section
variable {h h1 h2 : qH} {x x1 x2 : Nat → Int32} {y y1 y2 : Nat → Int64} {F F1 F2 : Nat → Nat → Int32} {G : Nat → Nat → Int64} {S : CS}
theorem QZ.rf (hM : MX h x y F G) : QZ h h x F G x y F := ⟨hM, mq.rf, kp.rf⟩
theorem QZ.tr (a : QZ h h1 x F G x1 y1 F1) (b : QZ h1 h2 x1 F1 G x2 y2 F2) : QZ h h2 x F G x2 y2 F2 := ⟨b.1, a.2.1.tr b.2.1, a.2.2.tr b.2.2⟩
theorem QN.z (a : QN h h1 x y F G x1 y1 F1) : QZ h h1 x F G x1 y1 F1 := ⟨a.1, ⟨fun k hk => a.2.2.1 k (fun e => hk (by rw [e]; simp)), fun j hj => a.2.1 j (fun q => hj (by simp at q ⊢; omega))⟩, a.2.2.2.2⟩
theorem QZ.R (a : QZ h h1 x F G x1 y1 F1) (hR : Rel S x F) : Rel S x1 F1 := hR.mq a.2.1
theorem QZ.mg (a : QZ h h1 x F G x1 y1 F1) (hk : kp h2 h) (hR : Rel S x F) (h0 : x 0 = 0) : MG h2 h1 S := ⟨x1, y1, F1, G, a.1, hk.tr a.2.2, a.R hR, (a.2.1.1 0 (by decide)).trans h0⟩
end
/-- what the model remembers of its search -/
def stv (st : Option (Nat × Nat)) (a : Int32) (b : Int64) : Prop := match st with
  | none => a = -1 ∧ b = 0
  | some c => a = nI c.1 ∧ b = Int64.ofNat c.2 ∧ c.1 < 2 ^ 10 ∧ c.2 < 2 ^ 50
theorem M_ones {g : qG} (hg : qOK g) {h : qH} (b0 : Nat) (hb0 : b0 < 1024) : qSpec g 1 0 0 mX12_ones [.ref 63, .int (nI b0)] h (fun r h' => r = some (.int (nI (sones 10 b0))) ∧ h' = h) := by
  refine qSpec_run 12 "ones" false hg mX12_ones_ok rfl rfl (Nat.le_of_ble_eq_true rfl) (by decide) ?_
  intro run step
  have loop : ∀ (f b n : Nat), b ≤ f → b < 1024 → n + pcn f b = sones 10 b0 → run 4 [(3, .int (nI b)), (2, .int (nI n)), (0, .ref 63), (1, .int (nI b0))] [] h 0 0 := by
    intro f
    induction f with
    | zero =>
      intro b n hb hb2 hres
      refine step.1 _ _ _ _ _ _ _ sgX12_ones_4_ok ?_
      refine ⟨fun c5 => ?_, fun c5 => absurd (show nI b = 0 from by rw [show b = 0 by omega]; rfl) c5⟩
      
      refine step.1 _ _ _ _ _ _ _ sgX12_ones_20_ok ?_
      refine ⟨.int, rfl, rfl, Nat.le_refl _, Nat.le_refl _, ?_⟩
      exact ⟨congrArg (fun z => some (Value.int z)) (by rw [← hres]; rfl), rfl⟩
    | succ f ih =>
      intro b n hb hb2 hres
      refine step.1 _ _ _ _ _ _ _ sgX12_ones_4_ok ?_
      refine ⟨fun c5 => ?_, fun c5 => ?_⟩
      · have d5 : b = 0 := (nI_eq (b := 0) (by omega) (by decide)).mp c5
        refine step.1 _ _ _ _ _ _ _ sgX12_ones_20_ok ?_
        refine ⟨.int, rfl, rfl, Nat.le_refl _, Nat.le_refl _, ?_⟩
        exact ⟨congrArg (fun z => some (Value.int z)) (by rw [← hres, pcn, if_pos d5, Nat.add_zero]), rfl⟩
      · have d5 : ¬ b = 0 := fun q => c5 (by rw [q]; rfl)
        have hle : b &&& (b - 1) ≤ b - 1 := Nat.and_le_right
        have kk := ih (b &&& (b - 1)) (n + 1) (by omega) (by omega) (by rw [← hres, pcn, if_neg d5]; omega)
        rw [← nI_1, ← b_and, show nI (b - 1) = nI b - 1 from (pk_sub (a := b) (b := 1) (by omega)).symm] at kk
        exact kk
  refine step.1 _ _ _ _ _ _ _ sgX12_ones_0_ok ?_
  exact loop 1024 b0 0 (by omega) hb0 (by rw [Nat.zero_add]; exact pcn_e b0 hb0)
end Q11Z
