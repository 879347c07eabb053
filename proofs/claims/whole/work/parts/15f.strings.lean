section Q15F
section
variable {g : qG} {p : Program} {e : Env} {R : Room} {s : State} {m : MethodId} {args : Array Value} {below : List Frame} {meth : Method} {c : Code} {own nm : String} {cc : ByteArray} {nL : Nat} {ret : Option FieldType} {Z : State → Prop} {pc : Nat} {L : List (Nat × Value)} {st : List Value} {h : qH} {cu su : Nat}
def qScrT (g : qG) (ty : FieldType) (j n : Nat) (f : Nat → Int32) : Prop := ∃ cell : Cell, g.2.1.heap[g.2.2.2 j]? = some cell ∧ g.2.1.isArrayOf cell ty ∧ cell.vm ≠ .unknown ∧ (n ≤ cell.slots.size ∧ cell.slots.size.toInt32 = Int32.ofNat n) ∧ ∀ i : Nat, i < n → cell.slots[i]? = some (.int (f i))
theorem qr_sldT (X : qCtx g p s m meth c own nm cc nL ret) {j n : Nat} {f : Nat → Int32} {i : Int32} (hS : qScrT g .int j n f) (hi : vp_in i n) (hd : decode cc pc = .ok (.iaload, 1)) (kk : qRun g p e R s m args below meth c nL Z (pc + 1) L (.int (f i.toNatClampNeg) :: st) h cu su) : qRun g p e R s m args below meth c nL Z pc L (.int i :: .retAddr j :: st) h cu su := by
  intro H locs ls a1 a2 a3
  obtain ⟨scr, h1, h2, h3, h4, h5⟩ := hS
  have hlt : i.toNatClampNeg < n := Nat.not_le.mp fun q => hi (Or.inr q)
  exact W.iald (v := .int (f i.toNatClampNeg)) X.2.1 X.2.2.1 (by rw [a1.2.1 _ (Array.getElem?_eq_some_iff.mp h1).1]; exact h1) (State.isArrayOf_alike X.2.2.2.2.2.2.2.1.alike h2) h3 (fun q => hi (q.imp id (fun z => Nat.le_trans h4.1 z))) (h5 _ hlt) rfl rfl hd (kk H locs ls a1 a2 a3)
theorem qr_sbldT (X : qCtx g p s m meth c own nm cc nL ret) {j n : Nat} {f : Nat → Int32} {i : Int32} (hS : qScrT g .byte j n f) (hi : vp_in i n) (hd : decode cc pc = .ok (.baload, 1)) (kk : qRun g p e R s m args below meth c nL Z (pc + 1) L (.int (f i.toNatClampNeg) :: st) h cu su) : qRun g p e R s m args below meth c nL Z pc L (.int i :: .retAddr j :: st) h cu su := by
  intro H locs ls a1 a2 a3
  obtain ⟨scr, h1, h2, h3, h4, h5⟩ := hS
  have hlt : i.toNatClampNeg < n := Nat.not_le.mp fun q => hi (Or.inr q)
  exact W.bald (v := .int (f i.toNatClampNeg)) X.2.1 X.2.2.1 (by rw [a1.2.1 _ (Array.getElem?_eq_some_iff.mp h1).1]; exact h1) (State.isArrayOf_alike X.2.2.2.2.2.2.2.1.alike h2) h3 (fun q => hi (q.imp id (fun z => Nat.le_trans h4.1 z))) (h5 _ hlt) rfl rfl hd (kk H locs ls a1 a2 a3)
theorem qr_slenT (X : qCtx g p s m meth c own nm cc nL ret) {j n : Nat} {ty : FieldType} {f : Nat → Int32} (hS : qScrT g ty j n f) (hd : decode cc pc = .ok (.arraylength, 1)) (kk : qRun g p e R s m args below meth c nL Z (pc + 1) L (.int (Int32.ofNat n) :: st) h cu su) : qRun g p e R s m args below meth c nL Z pc L (.retAddr j :: st) h cu su := by
  intro H locs ls a1 a2 a3
  obtain ⟨scr, h1, h2, h3, h4, h5⟩ := hS
  exact W.alen (n := Int32.ofNat n) X.2.1 X.2.2.1 (by rw [a1.2.1 _ (Array.getElem?_eq_some_iff.mp h1).1]; exact h1) (State.isArrayOf_alike X.2.2.2.2.2.2.2.1.alike h2) h4.2 rfl rfl hd (kk H locs ls a1 a2 a3)
end
/-- a String constant with its letters -/
theorem str_of {s : State} {a : Array Value} {l : Launch} {D : va_G} {own : String} {k n : Nat} {bs : List Int32} (hN : n < 2 ^ 31) (hex : (Cond.exactly (Term.string own k) "java/lang/String").before a s = true) (hco : (Cond.eq (.field (Term.string own k) "java/lang/String" "coder" "B") (.int 0)).before a s = true) (har : (Cond.arrayOf (.field (Term.string own k) "java/lang/String" "value" "[B") .byte).before a s = true) (hle : (Cond.eq (.length (.field (Term.string own k) "java/lang/String" "value" "[B")) (.int (Int32.ofNat n))).before a s = true) (hel : ∀ j : Nat, j < n → (Cond.eq (.elem (.field (Term.string own k) "java/lang/String" "value" "[B") (.int (Int32.ofNat j))) (.int (bs.getD j 0))).before a s = true) : ∃ aK aV : Nat, (Term.string own k).eval a s none [] s = some (.ref aK) ∧ ∀ (sp : Nat → Nat) (j jv : Nat) (f : Nat → Nat), sp j = aK → sp jv = aV → (∀ i : Nat, i < n → bs.getD i 0 = nI (f i)) → qSO (l, s, D, sp) j RJ0 ∧ qSF (l, s, D, sp) RJ0 9 j (.retAddr jv) ∧ qSF (l, s, D, sp) RJ0 15 j (.int 0) ∧ qScrT (l, s, D, sp) .byte jv n (fun i => nI (f i)) := by
  obtain ⟨adK, adV, hv, he⟩ := vk_Sof (args := a) (s := s) (N := 1) (tm := fun _ => Term.string own k) (len := [n]) (byt := [bs]) (A := fun q => s.heap.size ≤ q) (fun i hi => by
    obtain rfl : i = 0 := by omega
    exact hN) (fun _ _ => hex) (fun _ _ => hco) (fun _ _ => har) (fun i hi => by
    obtain rfl : i = 0 := by omega
    exact hle) (fun i hi => by
    obtain rfl : i = 0 := by omega
    exact hel) (fun i j hi hj hij => by omega) (fun q hq => by omega)
  obtain ⟨h1, h2, h3, h4⟩ := hv.1 0 (by decide)
  refine ⟨adK 0, adV 0, he 0 (by decide), fun sp j jv f ej ev hf => ?_⟩
  obtain ⟨c1, p1, p2, p3, -⟩ := h1
  obtain ⟨cf, kk, i, fl, c2, q1, q2, q3, q4, q5, -⟩ := h2
  obtain ⟨cf3, kk3, i3, fl3, c3, r1, r2, r3, r4, r5, -⟩ := h3
  obtain ⟨c4, t1, t2, t3, t4, t5, t6, -⟩ := h4
  refine ⟨⟨c1, ?_, p2, p3⟩, ⟨"java/lang/String", "value", "[B", cf3, i3, kk3, fl3, c3, ?_, r1, r2, ?_, r4, ?_⟩, ⟨"java/lang/String", "coder", "B", cf, i, kk, fl, c2, ?_, q1, q2, ?_, q4, q5⟩, ⟨c4, ?_, t2, t3, ⟨t4, t5⟩, fun i hi => ?_⟩⟩
  · show s.heap[sp j]? = _; rw [ej]; exact p1
  · exact ⟨(qat_in (p := (10, 49)) (by decide +kernel)), by decide +kernel⟩
  · show s.heap[sp j]? = _; rw [ej]; exact r3
  · rw [r5]; show some (Value.ref (adV 0)) = some (.ref (sp jv)); rw [ev]
  · exact ⟨(qat_in (p := (10, 50)) (by decide +kernel)), by decide +kernel⟩
  · show s.heap[sp j]? = _; rw [ej]; exact q3
  · show s.heap[sp jv]? = _; rw [ev]; exact t1
  · rw [t6 i hi]
    show some (Value.int (bs.getD i 0)) = _
    rw [hf i hi]
end Q15F
