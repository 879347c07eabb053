section T1
/-- an int of an array, 0 outside -/
def rdI (n : Nat) (f : Nat → Int32) (i : Int32) : Int32 := if i < 0 then 0 else if Int32.ofNat n ≤ i then 0 else f i.toNatClampNeg
theorem sp_Round_of {g : qG} (hg : qOK g) {h : qH} {a b n : Nat} {fs : List Value} {f : Nat → Int32} (hn : n < 2 ^ 31) (ha : h.2 a = some (.inl (6, fs))) (hf : fs[0]? = some (.ref b)) (hb : h.2 b = some (.inr (.inl (.int, n, f)))) (x y : Int32) : qSpec g 1 0 0 mX6_of [.ref a, .int x, .int y] h (fun v h' => v = some (.int (rdI n f (x * 10 + y))) ∧ h' = h) := by
  refine qSpec_of (ow := 6) (nm := "of") hg mX6_of_ok rfl rfl (by decide) ?_
  intro p e s m args below meth c X
  have fin : ∀ (L : List (Nat × Value)) (v : Int32), v = rdI n f (x * 10 + y) → qRun g p e (qRoom 1 0 0) s m args below meth c 4 (MQ below (qQc g (fun v h' => v = some (.int (rdI n f (x * 10 + y))) ∧ h' = h)) args s 0 0 (qfree g)) 30 L [.int v] h 0 0 := by
    intro L v hv
    refine q_seg X qEnd_m (by decide) _ sgX6_of_30_ok ?_
    exact ⟨.int, rfl, rfl, Nat.le_refl _, Nat.le_refl _, by rw [hv], rfl⟩
  have zero : ∀ (L : List (Nat × Value)), rdI n f (x * 10 + y) = 0 → qRun g p e (qRoom 1 0 0) s m args below meth c 4 (MQ below (qQc g (fun v h' => v = some (.int (rdI n f (x * 10 + y))) ∧ h' = h)) args s 0 0 (qfree g)) 29 L [] h 0 0 := by
    intro L hv
    refine q_seg X qEnd_m (by decide) _ sgX6_of_29_ok ?_
    exact fin _ _ hv.symm
  refine q_seg X qEnd_m (by decide) _ sgX6_of_0_ok ?_
  refine ⟨fun c1 => zero _ ?_, fun c1 => ?_⟩
  · unfold rdI
    rw [if_pos c1]
  refine ⟨by decide, fs, _, ha, hf, _, n, hb, rfl, fun c2 => zero _ ?_, fun c2 => ?_⟩
  · unfold rdI
    rw [if_neg c1, if_pos c2]
  refine ⟨by decide, fs, _, ha, hf, n, f, hb, ?_, fin _ _ ?_⟩
  · sorry
  · unfold rdI
    rw [if_neg c1, if_neg c2]
end T1
