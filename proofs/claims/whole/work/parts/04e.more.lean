/-! arraycopy of ints; constants that lie in the old heap: Strings, the script -/
section QZ
variable {g : qG} {p : Program} {e : Env} {R : Room} {s : State} {m : MethodId} {args : Array Value} {below : List Frame} {meth : Method} {c : Code} {nL : Nat} {Z : State → Prop} {nm own : String} {cc : ByteArray} {ret : Option FieldType} {pc : Nat} {L : List (Nat × Value)} {st : List Value} {h : qH} {cu su : Nat}
theorem qr_copy (X : qCtx g p s m meth c own nm cc nL ret) {idx a b na nb : Nat} {f f2 : Nat → Int32} {sp dp n : Int32} (hl : Jvm.Cond.methodLink own idx arraycopyName ∈ lw_tbl) (hc0 : h.2 a = some (.inr (.inl (.int, na, f)))) (hc1 : h.2 b = some (.inr (.inl (.int, nb, f2)))) (h1 : ¬ sp < 0) (h2 : ¬ dp < 0) (h3 : ¬ n < 0) (h4 : sp.toNatClampNeg + n.toNatClampNeg ≤ na) (h5 : dp.toNatClampNeg + n.toNatClampNeg ≤ nb) (hfr : 1 ≤ R.frames) (hlo : (st.map Value.category).sum + (nativeFrameWords "java/lang/System" "arraycopy" 5 + 11) ≤ R.locals) (hd : decode cc pc = .ok (.invokestatic idx, 3))
    (kk : qRun g p e R s m args below meth c nL Z (pc + 3) L st (h.1, qup h.2 b (.inr (.inl (.int, nb, va_cpy f f2 sp.toNatClampNeg dp.toNatClampNeg n.toNatClampNeg)))) cu su) : qRun g p e R s m args below meth c nL Z pc L (.int n :: .int dp :: .ref b :: .int sp :: .ref a :: st) h cu su := by
  intro H locs ls a1 a2 a3 T hT T1
  have nn : ∀ z : Int32, ¬ z < 0 → z.toInt = (z.toNatClampNeg : Int) := by
    intro z hz
    have hz0 : (0 : Int) ≤ z.toInt := by
      have := Int32.not_lt.mp hz
      simpa using Int32.le_iff_toInt_le.mp this
    show z.toInt = ((z.toInt.toNat : Nat) : Int)
    omega
  obtain ⟨-, c0, q0, z0⟩ := a1.2.2 a _ hc0
  obtain ⟨-, c1, q1, z1⟩ := a1.2.2 b _ hc1
  have hA := X.2.2.2.2.2.2.2.1.alike
  obtain ⟨-, k0, hk0, cm0, hkk0⟩ := arrOfT_moved hA z0 na (fun j => .int (f j))
  obtain ⟨-, k1, hk1, cm1, hkk1⟩ := arrOfT_moved hA z1 nb (fun j => .int (f2 j))
  have hstk : (.int n :: .int dp :: .ref b :: .int sp :: .ref a :: st).map (qv g) = .int n :: .int dp :: .ref (g.2.1.heap.size + b) :: .int sp :: .ref (g.2.1.heap.size + a) :: st.map (qv g) := rfl
  obtain ⟨vm', X', step⟩ := T1.arraycopy X.2.1 X.2.2.2.2.2.2.1 (X.word hl rfl args) (X.word qA_nat rfl args) (X.word qA_stat rfl args) (X.word qA_ini rfl args) (src := g.2.1.heap.size + a) (dst := g.2.1.heap.size + b) (cs := vp_cell c0 (na, .inl f)) (cd := vp_cell c1 (nb, .inl f2)) (srcPos := sp) (destPos := dp) (n := n) (by rw [hT]; exact q0) (by rw [hT]; exact q1)
    (fun _ h => by cases h) (fun _ h => by cases h) (fun h => by cases h) (fun h => by cases h) hk0 hk1 hkk0 hkk1 rfl h1 h2 h3
    (by rw [nn sp h1, nn n h3]; show ¬ _ > ((arrV c0 na (fun j => .int (f j))).slots.size : Int); rw [arrV_size]; omega)
    (by rw [nn dp h2, nn n h3]; show ¬ _ > ((arrV c1 nb (fun j => .int (f2 j))).slots.size : Int); rw [arrV_size]; omega)
    (fun vm₁ _ i hi => by
      have e : (vp_cell c0 (na, .inl f)).slots.getD (sp.toNatClampNeg + i) .null = .int (f (sp.toNatClampNeg + i)) := by
        show (arrV c0 na (fun j => .int (f j))).slots.getD _ _ = _
        rw [Array.getD_eq_getD_getElem?, arrV_read _ _ (by omega)]
        rfl
      refine ⟨?_, ?_⟩
      · rw [e]
        rfl
      · rw [e]
        exact trivial)
    (g := F0 m pc ls ((.int n :: .int dp :: .ref b :: .int sp :: .ref a :: st).map (qv g))) rfl (by rw [X.2.2.2.1]; exact a3.1) (rest := st.map (qv g)) hstk (by rw [X.2.2.1]; exact hd) hfr (by rw [qcat_map]; show 2 * 0 + _ + _ ≤ _; omega)
  have e1 : copied (vp_cell c0 (na, .inl f)) (vp_cell c1 (nb, .inl f2)) sp dp n = vp_cell c1 (nb, .inl (va_cpy f f2 sp.toNatClampNeg dp.toNatClampNeg n.toNatClampNeg)) := va_copied (fun z => .int z) c0 c1 f f2 h4
  rw [e1] at X' step
  have hlt : g.2.1.heap.size + b < H.size := (Array.getElem?_eq_some_iff.mp q1).1
  have hheap : ((T.setVm vm').setCell (g.2.1.heap.size + b) (vp_cell c1 (nb, .inl (va_cpy f f2 sp.toNatClampNeg dp.toNatClampNeg n.toNatClampNeg)))).heap = H.setIfInBounds (g.2.1.heap.size + b) (vp_cell c1 (nb, .inl (va_cpy f f2 sp.toNatClampNeg dp.toNatClampNeg n.toNatClampNeg))) := by rw [← hT]; rfl
  have oq : ∀ q : Nat, q ≠ g.2.1.heap.size + b → (H.setIfInBounds (g.2.1.heap.size + b) (vp_cell c1 (nb, .inl (va_cpy f f2 sp.toNatClampNeg dp.toNatClampNeg n.toNatClampNeg))))[q]? = H[q]? := fun q hq => by simp [Array.getElem?_setIfInBounds, Ne.symm hq]
  obtain ⟨t, b1, b2⟩ := kk _ _ ls (a1.set hc1 ⟨c1, (show (H.setIfInBounds (g.2.1.heap.size + b) _)[g.2.1.heap.size + b]? = some _ by simp [Array.getElem?_setIfInBounds, hlt]), z1⟩ (by simp) oq) (fun z hz => by
      rcases List.mem_append.mp hz with h | h
      · exact a2 z h
      · obtain ⟨w, -, hw⟩ := List.mem_map.mp h
        rw [← hw]
        exact Nat.le_add_right _ _) a3 _ hheap X'
  exact ⟨t, step t b1, b2⟩
/-- a String constant, by its number -/
theorem qr_ldcS (X : qCtx g p s m meth c own nm cc nL ret) {idx j : Nat} {tx : String} (hZ : vk_R own idx tx (g.2.2.2 j) g.2.1) (hd : decode cc pc = .ok (.ldc idx, 2)) (kk : qRun g p e R s m args below meth c nL Z (pc + 2) L (.retAddr j :: st) h cu su) : qRun g p e R s m args below meth c nL Z pc L st h cu su := fun H locs ls a1 a2 a3 =>
  va_ldcS X.2.1 X.2.2.1 X.2.2.2.2.2.2.1 (vk_R.warm X.2.2.2.2.2.2.2.1 hZ) hd (kk H locs ls a1 a2 a3)
/-- an array of the old heap that is only read -/
def qScr (g : qG) (ty : FieldType) (j n : Nat) (f : Nat → Int32) : Prop := ∃ cell : Cell, g.2.1.heap[g.2.2.2 j]? = some cell ∧ g.2.1.isArrayOf cell ty ∧ cell.vm ≠ .unknown ∧ (n ≤ cell.slots.size ∧ cell.slots.size.toInt32 = Int32.ofNat n) ∧ ∀ i : Nat, i < n → cell.slots[i]? = some (.int (f i))
theorem qr_sld (X : qCtx g p s m meth c own nm cc nL ret) {j n : Nat} {f : Nat → Int32} {i : Int32} (hS : qScr g .int j n f) (hi : vp_in i n) (hd : decode cc pc = .ok (.iaload, 1)) (kk : qRun g p e R s m args below meth c nL Z (pc + 1) L (.int (f i.toNatClampNeg) :: st) h cu su) : qRun g p e R s m args below meth c nL Z pc L (.int i :: .retAddr j :: st) h cu su := by
  intro H locs ls a1 a2 a3
  obtain ⟨scr, h1, h2, h3, h4, h5⟩ := hS
  have hlt : i.toNatClampNeg < n := Nat.not_le.mp fun q => hi (Or.inr q)
  exact W.iald (v := .int (f i.toNatClampNeg)) X.2.1 X.2.2.1 (by rw [a1.2.1 _ (Array.getElem?_eq_some_iff.mp h1).1]; exact h1) (State.isArrayOf_alike X.2.2.2.2.2.2.2.1.alike h2) h3 (fun q => hi (q.imp id (fun z => Nat.le_trans h4.1 z))) (h5 _ hlt) rfl rfl hd (kk H locs ls a1 a2 a3)
theorem qr_sbld (X : qCtx g p s m meth c own nm cc nL ret) {j n : Nat} {f : Nat → Int32} {i : Int32} (hS : qScr g .byte j n f) (hi : vp_in i n) (hd : decode cc pc = .ok (.baload, 1)) (kk : qRun g p e R s m args below meth c nL Z (pc + 1) L (.int (f i.toNatClampNeg) :: st) h cu su) : qRun g p e R s m args below meth c nL Z pc L (.int i :: .retAddr j :: st) h cu su := by
  intro H locs ls a1 a2 a3
  obtain ⟨scr, h1, h2, h3, h4, h5⟩ := hS
  have hlt : i.toNatClampNeg < n := Nat.not_le.mp fun q => hi (Or.inr q)
  exact W.bald (v := .int (f i.toNatClampNeg)) X.2.1 X.2.2.1 (by rw [a1.2.1 _ (Array.getElem?_eq_some_iff.mp h1).1]; exact h1) (State.isArrayOf_alike X.2.2.2.2.2.2.2.1.alike h2) h3 (fun q => hi (q.imp id (fun z => Nat.le_trans h4.1 z))) (h5 _ hlt) rfl rfl hd (kk H locs ls a1 a2 a3)
theorem qr_slen (X : qCtx g p s m meth c own nm cc nL ret) {j n : Nat} {ty : FieldType} {f : Nat → Int32} (hS : qScr g ty j n f) (hd : decode cc pc = .ok (.arraylength, 1)) (kk : qRun g p e R s m args below meth c nL Z (pc + 1) L (.int (Int32.ofNat n) :: st) h cu su) : qRun g p e R s m args below meth c nL Z pc L (.retAddr j :: st) h cu su := by
  intro H locs ls a1 a2 a3
  obtain ⟨scr, h1, h2, h3, h4, h5⟩ := hS
  exact W.alen (n := Int32.ofNat n) X.2.1 X.2.2.1 (by rw [a1.2.1 _ (Array.getElem?_eq_some_iff.mp h1).1]; exact h1) (State.isArrayOf_alike X.2.2.2.2.2.2.2.1.alike h2) h4.2 rfl rfl hd (kk H locs ls a1 a2 a3)
/-- a field of an object of the old heap that is only read -/
def qSF (g : qG) (own : String) (idx j : Nat) (v : Value) : Prop := ∃ (ref n d : String) (cf i : Nat) (k : Class) (f : Field) (cell : Cell), (Jvm.Cond.fieldLink own idx ref n d ∈ lw_tbl ∧ q_gd (Jvm.Cond.fieldLink own idx ref n d) = true) ∧ g.2.1.fieldFound? ref n d = some (cf, k, i, f) ∧ f.isStatic = false ∧ g.2.1.heap[g.2.2.2 j]? = some cell ∧ cell.vm ≠ .unknown ∧ cell.slots[f.slot]? = some (qv g v)
theorem qr_sget (X : qCtx g p s m meth c own nm cc nL ret) {idx j : Nat} {v : Value} (hS : qSF g own idx j v) (hd : decode cc pc = .ok (.getfield idx, 3)) (kk : qRun g p e R s m args below meth c nL Z (pc + 3) L (v :: st) h cu su) : qRun g p e R s m args below meth c nL Z pc L (.retAddr j :: st) h cu su := by
  intro H locs ls a1 a2 a3
  obtain ⟨ref, n, d, cf, i, k, f, cell, hl, hi, hst, hc, hvm, hsl⟩ := hS
  obtain ⟨k', hi2, -⟩ := State.fieldFound?_setVm X.2.2.2.2.2.2.2.1.alike hi
  have hi3 : s.fieldFound? ref n d = some (cf, k', i, f) := by simpa only [State.fieldFound?, State.vm_setVm] using hi2
  exact W.getf X.2.1 X.2.2.1 X.2.2.2.2.2.2.1 (X.word hl.1 hl.2 args) hi3 hst (by rw [a1.2.1 _ (Array.getElem?_eq_some_iff.mp hc).1]; exact hc) hvm hsl rfl rfl hd (kk H locs ls a1 a2 a3)
/-- a static field that holds a constant -/
def qGS (g : qG) (own : String) (idx : Nat) (v : Value) : Prop := ∃ ref n d : String, (Jvm.Cond.fieldLink own idx ref n d ∈ lw_tbl ∧ q_gd (Jvm.Cond.fieldLink own idx ref n d) = true) ∧ va_Z ref n d (qv g v) (fun q => g.2.1.heap.size ≤ q) g.2.1 g.2.1.heap
theorem qr_gets (X : qCtx g p s m meth c own nm cc nL ret) {idx : Nat} {v : Value} (hS : qGS g own idx v) (hd : decode cc pc = .ok (.getstatic idx, 3)) (kk : qRun g p e R s m args below meth c nL Z (pc + 3) L (v :: st) h cu su) : qRun g p e R s m args below meth c nL Z pc L st h cu su := by
  intro H locs ls a1 a2 a3
  obtain ⟨ref, n, d, hl, hZ⟩ := hS
  obtain ⟨cf, kf, fi, f, a, cell, h1, h2, h3, h4, h5, h6, h7, h8⟩ := va_Z.moved X.2.2.2.2.2.2.2.1.alike hZ
  exact W.gets X.2.1 X.2.2.1 X.2.2.2.2.2.2.1 (X.word hl.1 hl.2 args) h1 h2 h3 h4 (by rw [a1.2.1 _ (Array.getElem?_eq_some_iff.mp h5).1]; exact h5) (fun e => by rw [e] at h6; cases h6) h7 rfl hd (kk H locs ls a1 a2 a3)
theorem qr_ldcWS (X : qCtx g p s m meth c own nm cc nL ret) {idx j : Nat} {tx : String} (hZ : vk_R own idx tx (g.2.2.2 j) g.2.1) (hd : decode cc pc = .ok (.ldc_w idx, 3)) (kk : qRun g p e R s m args below meth c nL Z (pc + 3) L (.retAddr j :: st) h cu su) : qRun g p e R s m args below meth c nL Z pc L st h cu su := by
  intro H locs ls a1 a2 a3 T hT T1
  have hZ' := vk_R.warm X.2.2.2.2.2.2.2.1 hZ
  obtain ⟨t, b1, b2⟩ := kk H locs ls a1 a2 a3 T hT T1
  exact ⟨t, T1.ldcStringW X.2.1 X.2.2.2.2.2.2.1 (text := tx) (a := g.2.2.2 j) hZ'.1 hZ'.2 (g := F0 m pc ls (st.map (qv g))) rfl (by rw [X.2.2.1]; exact hd) t b1, b2⟩
theorem qr_i2c (X : qCtx g p s m meth c own nm cc nL ret) {x : Int32} (hd : decode cc pc = .ok (.i2c, 1)) (k : qRun g p e R s m args below meth c nL Z (pc + 1) L (.int (x.toUInt32 % 65536).toInt32 :: st) h cu su) : qRun g p e R s m args below meth c nL Z pc L (.int x :: st) h cu su := fun H locs ls a1 a2 a3 => lv_i2c X.2.1 X.2.2.1 hd rfl (k H locs ls a1 a2 a3)
end QZ
