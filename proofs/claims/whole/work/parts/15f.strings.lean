section Q15F
section
variable {g : qG} {p : Program} {e : Env} {R : Room} {s : State} {m : MethodId} {args : Array Value} {below : List Frame} {meth : Method} {c : Code} {own nm : String} {cc : ByteArray} {nL : Nat} {ret : Option FieldType} {Z : State → Prop} {pc : Nat} {L : List (Nat × Value)} {st : List Value} {h : qH} {cu su : Nat}
end
/-- a String constant with its letters -/
theorem str_of {s : State} {a : Array Value} {l : Launch} {D : va_G} {own : String} {k n : Nat} {bs : List Int32} (hN : n < 2 ^ 31) (hex : (Cond.exactly (Term.string own k) "java/lang/String").before a s = true) (hco : (Cond.eq (.field (Term.string own k) "java/lang/String" "coder" "B") (.int 0)).before a s = true) (har : (Cond.arrayOf (.field (Term.string own k) "java/lang/String" "value" "[B") .byte).before a s = true) (hle : (Cond.eq (.length (.field (Term.string own k) "java/lang/String" "value" "[B")) (.int (Int32.ofNat n))).before a s = true) (hel : ∀ j : Nat, j < n → (Cond.eq (.elem (.field (Term.string own k) "java/lang/String" "value" "[B") (.int (Int32.ofNat j))) (.int (bs.getD j 0))).before a s = true) : ∃ aK aV : Nat, (Term.string own k).eval a s none [] s = some (.ref aK) ∧ ∀ (sp : Nat → Nat) (j jv : Nat) (f : Nat → Nat), sp j = aK → sp jv = aV → (∀ i : Nat, i < n → bs.getD i 0 = nI (f i)) → qSO (l, s, D, sp) j RJ0 ∧ qSF (l, s, D, sp) RJ0 9 j (.retAddr jv) ∧ qSF (l, s, D, sp) RJ0 15 j (.int 0) ∧ qScr (l, s, D, sp) .byte jv n (fun i => nI (f i)) := by
  obtain ⟨adK, adV, hv, he⟩ := vk_Sof (args := a) (s := s) (N := 1) (tm := fun _ => Term.string own k) (len := [n]) (byt := [bs]) (A := fun q => s.heap.size ≤ q) (fun i hi => by
    obtain rfl : i = 0 := by omega
    exact hN) (fun _ _ => hex) (fun _ _ => hco) (fun _ _ => har) (fun i hi => by
    obtain rfl : i = 0 := by omega
    exact hle) (fun i hi => by
    obtain rfl : i = 0 := by omega
    exact hel) (fun i j hi hj hij => by omega) (fun q hq => by omega)
  obtain ⟨h1, h2, h3, h4⟩ := hv.1 0 (by decide)
  refine ⟨adK 0, adV 0, he 0 (by decide), fun sp j jv f ej ev hf => ?_⟩
  obtain ⟨c1, p1, p2, p3, -⟩ := h1
  obtain ⟨cf, kk, i, fl, c2, q1, q2, q3, q4, q5, -⟩ := h2
  obtain ⟨cf3, kk3, i3, fl3, c3, r1, r2, r3, r4, r5, -⟩ := h3
  obtain ⟨c4, t1, t2, t3, t4, t5, t6, -⟩ := h4
  refine ⟨⟨c1, ?_, p2, p3⟩, ⟨"java/lang/String", "value", "[B", cf3, i3, kk3, fl3, c3, ?_, r1, r2, ?_, r4, ?_⟩, ⟨"java/lang/String", "coder", "B", cf, i, kk, fl, c2, ?_, q1, q2, ?_, q4, q5⟩, ⟨c4, ?_, t2, t3, ⟨t4, t5⟩, fun i hi => ?_⟩⟩
  · show s.heap[sp j]? = _; rw [ej]; exact p1
  · exact ⟨(qat_in (p := (10, 57)) (by decide +kernel)), by decide +kernel⟩
  · show s.heap[sp j]? = _; rw [ej]; exact r3
  · rw [r5]; show some (Value.ref (adV 0)) = some (.ref (sp jv)); rw [ev]
  · exact ⟨(qat_in (p := (10, 58)) (by decide +kernel)), by decide +kernel⟩
  · show s.heap[sp j]? = _; rw [ej]; exact q3
  · show s.heap[sp jv]? = _; rw [ev]; exact t1
  · rw [t6 i hi]
    show some (Value.int (bs.getD i 0)) = _
    rw [hf i hi]
end Q15F
