/-! rows of fields, of new cells, of arraycopy -/
section QD
variable {g : qG} {p : Program} {e : Env} {R : Room} {s : State} {m : MethodId} {args : Array Value} {below : List Frame} {meth : Method} {c : Code} {nL : Nat} {Z : State → Prop} {own nm : String} {cc : ByteArray} {ret : Option FieldType} {pc : Nat} {L : List (Nat × Value)} {st : List Value} {h : qH} {cu su : Nat}
def qok (ty : FieldType) (v : Value) : Bool := match ty, v with
  | .int, .int _ => true
  | .long, .long _ => true
  | .boolean, .int x => decide (x = 0) || decide (x = 1)
  | .object _, .ref _ => true
  | .array _, .ref _ => true
  | _, _ => false
theorem qok_n (g : qG) {ty : FieldType} {v : Value} (h : qok ty v = true) : narrow ty (qv g v) = qv g v ∧ fits ty (qv g v) = true := by
  unfold qok at h
  split at h
  · exact ⟨rfl, rfl⟩
  · exact ⟨rfl, rfl⟩
  · rename_i x
    rcases (Bool.or_eq_true _ _).mp h with h | h <;> (have h := of_decide_eq_true h; subst h; exact ⟨rfl, rfl⟩)
  · exact ⟨rfl, rfl⟩
  · exact ⟨rfl, rfl⟩
  · cases h
/-- the link of a field of class ci, slot k, from the class 'own' -/
def qFk (own : String) (idx ci k : Nat) : Prop := ∃ r : vw_C, vwCl[ci]? = some r ∧ k < r.2.2 ∧
  ((Jvm.Cond.fieldLink own idx (r.2.1 k).1 (r.2.1 k).2.1 (r.2.1 k).2.2.1 ∈ lw_tbl ∧ q_gd (Jvm.Cond.fieldLink own idx (r.2.1 k).1 (r.2.1 k).2.1 (r.2.1 k).2.2.1) = true) ∨
   (Jvm.Cond.fieldLinkNest own idx (r.2.1 k).1 (r.2.1 k).2.1 (r.2.1 k).2.2.1 "CarolDoors" ∈ lw_tbl ∧ q_gd (Jvm.Cond.fieldLinkNest own idx (r.2.1 k).1 (r.2.1 k).2.1 (r.2.1 k).2.2.1 "CarolDoors") = true))
theorem qFk_of {ow idx ci k : Nat} {nest : Bool} {pos : Nat × Nat} (h : (ow, idx, ci, k, nest, pos) ∈ qF) : qFk (qown ow) idx ci k := by
  have h1 := qF_ok _ h
  unfold qFb at h1
  simp only [Bool.and_eq_true, decide_eq_true_eq] at h1
  obtain ⟨⟨h2, h3⟩, h4⟩ := h1
  unfold qFw at h2 h3
  dsimp only at h2 h3 h4
  cases hr : vwCl[ci]? with
  | none => rw [hr] at h4; exact absurd h4 (Nat.not_lt_zero _)
  | some r =>
    rw [hr] at h2 h3 h4
    refine ⟨r, hr, h4, ?_⟩
    cases nest
    · exact Or.inl ⟨qat_in h2, h3⟩
    · exact Or.inr ⟨qat_in h2, h3⟩
theorem qr_get (X : qCtx g p s m meth c own nm cc nL ret) {idx ci k a : Nat} {fs : List Value} {v : Value} (hf : qFk own idx ci k) (hc : h.2 a = some (.inl (ci, fs))) (hv : fs[k]? = some v) (hd : decode cc pc = .ok (.getfield idx, 3)) (kk : qRun g p e R s m args below meth c nL Z (pc + 3) L (v :: st) h cu su) : qRun g p e R s m args below meth c nL Z pc L (.ref a :: st) h cu su := by
  intro H locs ls a1 a2 a3
  obtain ⟨r, hr, hk, hl⟩ := hf
  obtain ⟨-, r', hr', cell, q1, q2, q3, q4⟩ := a1.2.2 a _ hc
  cases hr.symm.trans hr'
  obtain ⟨hS, hfc, kC, hkC, hkind⟩ := X.K.1 ci _ hr
  obtain ⟨cf, kf, fi, f, hi, hsl⟩ := hS k hk
  have hlay : ∀ w ∈ u_ws r.1 r.2.1 r.2.2, w.before args s = true := fun w hw => X.word (q_lays ci r hr w hw).1 (q_lays ci r hr w hw).2 args
  have hst := (u_facts hfc hkC (u_lays hlay (fun _ z => z) hk) hi).1
  have hslot : cell.slots[f.slot]? = some (qv g v) := by
    rw [hsl, q4 k hk]
    simp [vp_V, hv]
  rcases hl with hl | hl
  · exact W.getf X.2.1 X.2.2.1 X.2.2.2.2.2.2.1 (X.word hl.1 hl.2 args) hi hst q1 (by rw [q3]; exact fun h => by cases h) hslot rfl rfl hd (kk H locs ls a1 a2 a3)
  · exact va_Wgetf X.2.1 X.2.2.1 X.2.2.2.2.2.2.1 (X.word hl.1 hl.2 args) hi hst q1 (by rw [q3]; exact fun h => by cases h) hslot rfl rfl hd (kk H locs ls a1 a2 a3)
theorem q_base {k : Nat} {locs : List Loc} {x : Nat} (a2 : ∀ z ∈ locs, g.2.1.heap.size ≤ z.base) : ∀ z ∈ locs ++ [(⟨g.2.1.heap.size + k, x⟩ : Loc)], g.2.1.heap.size ≤ z.base := by
  intro z hz
  rcases List.mem_append.mp hz with h4 | h4
  · exact a2 z h4
  · rw [List.mem_singleton.mp h4]
    exact Nat.le_add_right _ _
theorem qv_set (g : qG) {fs : List Value} {k : Nat} (hk : k < fs.length) (v : Value) (j : Nat) : updV (fun j => qv g (vp_V fs j)) k (qv g v) j = qv g (vp_V (fs.set k v) j) := by
  rw [← vp_updV_set hk v j]
  unfold updV
  split <;> rfl
theorem qr_put (X : qCtx g p s m meth c own nm cc nL ret) {idx ci k a : Nat} {fs : List Value} {v : Value} (hf : qFk own idx ci k) (hfin : ∀ r : vw_C, vwCl[ci]? = some r → (r.2.1 k).2.2.2 = false ∨ (nm = "<init>" ∧ (r.2.1 k).1 = own)) (hc : h.2 a = some (.inl (ci, fs))) (hl : k < fs.length) (hv : qok (qty ci k) v = true) (hd : decode cc pc = .ok (.putfield idx, 3)) (kk : qRun g p e R s m args below meth c nL Z (pc + 3) L st (h.1, qup h.2 a (.inl (ci, fs.set k v))) cu su) : qRun g p e R s m args below meth c nL Z pc L (v :: .ref a :: st) h cu su := by
  intro H locs ls a1 a2 a3
  obtain ⟨r, hr, hk, hli⟩ := hf
  obtain ⟨-, r', hr', cell, q1, q2, q3, q4⟩ := a1.2.2 a _ hc
  cases hr.symm.trans hr'
  have hlay : ∀ w ∈ u_ws r.1 r.2.1 r.2.2, w.before args s = true := fun w hw => X.word (q_lays ci r hr w hw).1 (q_lays ci r hr w hw).2 args
  have hap := va_apart (own := own) hlay (fun _ z => z) (qty ci) (q_tys ci r hr).1 (q_tys ci r hr).2 X.K hr
  obtain ⟨hS, hfc, kC, hkC, hkind⟩ := X.K.1 ci _ hr
  obtain ⟨cf, kf, fi, f, hi, hsl⟩ := hS k hk
  have hst := (u_facts hfc hkC (u_lays hlay (fun _ z => z) hk) hi).1
  have hd' := (q_tys ci r hr).1 k hk
  have hn := qok_n g hv
  have h7 := u_fits hfc hkC hkind (u_lays hlay (fun _ z => z) hk) hi hd' hn.1 hn.2
  have fin : ∀ H' : Heap, H'[g.2.1.heap.size + a]? = some (cell.setSlot f.slot (qv g v)) → H'.size = H.size → (∀ q, q ≠ g.2.1.heap.size + a → H'[q]? = H[q]?) → W p g.1 e R s m args below meth c H' (locs ++ [⟨g.2.1.heap.size + a, f.slot⟩]) cu su Z (F0 m (pc + 3) ls (st.map (qv g))) := by
    intro H' e1 e2 e3
    refine kk H' _ ls (a1.set hc ⟨r, hr, ?_⟩ e2 e3) (q_base a2) a3
    rw [hsl] at e1
    exact t_OB.to (V := updV (fun j => qv g (vp_V fs j)) k (qv g v)) ⟨_, e1, q2, q3, t_set q4 hap hk (qv g v)⟩ (fun j _ => qv_set g hl v j)
  have hlt : f.slot < cell.slots.size := by rw [hsl]; exact k2_hasslot (q4 k hk)
  rcases hfin r hr with hnf | ⟨hin2, hdecl⟩
  · have hla := hlay _ (u_in_lay hk)
    unfold u_lay at hla
    rw [if_neg (by rw [hnf]; decide)] at hla
    have h6 := u_store hfc hkC hkind hla hi hd' hn.1 hn.2
    rcases hli with hli | hli
    · exact W.putK X.2.1 X.2.2.1 (f := f) ⟨X.2.2.2.2.2.2.1, X.word hli.1 hli.2 args, ⟨_, _, _, hi⟩, hst⟩ (by rw [q2]; exact h6) q1 q3 hlt rfl rfl hd fin
    · exact va_WputK X.2.1 X.2.2.1 (f := f) X.2.2.2.2.2.2.1 (X.word hli.1 hli.2 args) hi hst (by rw [q2]; exact h6) q1 q3 hlt rfl rfl hd fin
  · by_cases hnf : (r.2.1 k).2.2.2 = true
    · have hla := hlay _ (u_in_lay hk)
      unfold u_lay at hla
      rw [if_pos hnf] at hla
      have hcf : m.cls = cf := by
        obtain ⟨_, _, c', _, _, _, -, -, hf', -, -, -, hown2, -⟩ := Cond.laysFinal_spec hla
        have e1 : c' = cf := by have := hi.symm.trans hf'; simp at this; exact this.1.symm
        rw [hdecl] at hown2
        rw [← e1]; exact Option.some.inj (X.2.2.2.2.2.2.1.symm.trans hown2)
      rcases hli with hli | hli
      · exact W.putFinK X.2.1 X.2.2.1 X.2.2.2.2.2.2.1 (X.word hli.1 hli.2 args) hi hst hcf (X.2.2.2.2.2.2.2.2.trans hin2) (by rw [q2]; exact h7) q1 q3 hlt rfl rfl hd fin
      · have ha : g.2.1.heap.size + a < H.size := (Array.getElem?_eq_some_iff.mp q1).1
        refine va_Wputf X.2.1 X.2.2.1 X.2.2.2.2.2.2.1 (X.word hli.1 hli.2 args) hi hst (Or.inr ⟨hcf, X.2.2.2.2.2.2.2.2.trans hin2⟩) q1 (by rw [q3]; exact fun h => by cases h) hlt h7.1 (by rw [q3, q2]; exact h7.2) rfl rfl hd ?_
        refine fin _ ?_ ?_ ?_
        · simp [Array.getElem?_setIfInBounds, ha]
        · simp
        · intro q hq
          simp [Array.getElem?_setIfInBounds, Ne.symm hq]
    · have hnf : (r.2.1 k).2.2.2 = false := by simpa using hnf
      have hla := hlay _ (u_in_lay hk)
      unfold u_lay at hla
      rw [if_neg (by rw [hnf]; decide)] at hla
      have h6 := u_store hfc hkC hkind hla hi hd' hn.1 hn.2
      rcases hli with hli | hli
      · exact W.putK X.2.1 X.2.2.1 (f := f) ⟨X.2.2.2.2.2.2.1, X.word hli.1 hli.2 args, ⟨_, _, _, hi⟩, hst⟩ (by rw [q2]; exact h6) q1 q3 hlt rfl rfl hd fin
      · exact va_WputK X.2.1 X.2.2.1 (f := f) X.2.2.2.2.2.2.1 (X.word hli.1 hli.2 args) hi hst (by rw [q2]; exact h6) q1 q3 hlt rfl rfl hd fin
/-- what a fresh object holds -/
def qdef (ci n : Nat) : List Value := (List.range n).map (fun k => defaultValue (qty ci k))
theorem qdef_v (ci n k : Nat) (hk : k < n) : vp_V (qdef ci n) k = defaultValue (qty ci k) := by
  unfold vp_V qdef
  simp [List.getD, hk]
theorem qv_def (g : qG) (ty : FieldType) : qv g (defaultValue ty) = defaultValue ty := by cases ty <;> rfl
def qCk (own : String) (idx ci n : Nat) : Prop := ∃ r : vw_C, vwCl[ci]? = some r ∧ r.2.2 = n ∧ (Jvm.Cond.classLink own idx r.1 ∈ lw_tbl ∧ q_gd (Jvm.Cond.classLink own idx r.1) = true) ∧ (Jvm.Cond.instantiable r.1 r.2.2 ∈ lw_tbl ∧ q_gd (Jvm.Cond.instantiable r.1 r.2.2) = true) ∧ (Jvm.Cond.initialized r.1 ∈ lw_tbl ∧ q_gd (Jvm.Cond.initialized r.1) = true)
theorem qCk_of {ow idx ci n : Nat} {p1 p2 p3 : Nat × Nat} (h : (ow, idx, ci, p1, p2, p3) ∈ qC) (hn : ∀ r : vw_C, vwCl[ci]? = some r → r.2.2 = n) : qCk (qown ow) idx ci n := by
  have h1 := qC_ok _ h
  unfold qCb at h1
  dsimp only at h1
  cases hr : vwCl[ci]? with
  | none => rw [hr] at h1; cases h1
  | some r =>
    rw [hr] at h1
    simp only [Bool.and_eq_true, decide_eq_true_eq] at h1
    obtain ⟨⟨⟨⟨⟨h2, h3⟩, h4⟩, h5⟩, h6⟩, h7⟩ := h1
    exact ⟨r, hr, hn r hr, ⟨qat_in h2, h5⟩, ⟨qat_in h3, h6⟩, ⟨qat_in h4, h7⟩⟩
theorem qr_new (X : qCtx g p s m meth c own nm cc nL ret) {idx ci n : Nat} (hf : qCk own idx ci n) (hcu : cu + 1 ≤ R.cells) (hsu : su + n ≤ R.slots) (hd : decode cc pc = .ok (.new idx, 3)) (kk : qRun g p e R s m args below meth c nL Z (pc + 3) L (.ref h.1 :: st) (h.1 + 1, qup h.2 h.1 (.inl (ci, qdef ci n))) (cu + 1) (su + n)) : qRun g p e R s m args below meth c nL Z pc L st h cu su := by
  intro H locs ls a1 a2 a3
  obtain ⟨r, hr, hn, w1, w2, w3⟩ := hf
  subst hn
  have hlay : ∀ w ∈ u_ws r.1 r.2.1 r.2.2, w.before args s = true := fun w hw => X.word (q_lays ci r hr w hw).1 (q_lays ci r hr w hw).2 args
  have hKn := X.K.1 ci _ hr
  refine W.newcK X.2.1 X.2.2.1 X.2.2.2.2.2.2.1 (X.word w1.1 w1.2 args) (X.word w2.1 w2.2 args) (X.word w3.1 w3.2 args) rfl hd hcu hsu hKn.2.1 a1.1 fun H1 kC hkC e1 z1 o1 => ?_
  refine kk H1 locs ls (a1.push ⟨r, hr, ?_⟩ (by rw [z1, a1.1]) (fun q hq => o1 q (by rw [← a1.1]; exact hq))) a2 a3
  rw [a1.1]
  exact (u_born (qty ci) hlay (fun _ z => z) hKn hkC e1 (q_tys ci r hr).1).to (fun j hj => by rw [qdef_v _ _ _ hj, qv_def])
def qarr (ty : FieldType) (n : Nat) : qE := match ty with
  | .long => .inr (.inr (.inl (n, fun _ => 0)))
  | t => .inr (.inl (t, n, fun _ => 0))
theorem qr_newa (X : qCtx g p s m meth c own nm cc nL ret) {atype : ArrayType} {ty : FieldType} {x : Int32} {n : Nat} (hty : newarray.typeOf atype = ty) (ht : ty = .int ∨ ty = .byte ∨ ty = .boolean ∨ ty = .long) (hw : Jvm.Cond.arrayClass ty ∈ lw_tbl) (hn0 : ¬ x < 0) (hn : x.toNatClampNeg = n) (hbig : n ≤ 60000000) (hcu : cu + 1 ≤ R.cells) (hsu : su + n ≤ R.slots) (hd : decode cc pc = .ok (.newarray atype, 2)) (kk : qRun g p e R s m args below meth c nL Z (pc + 2) L (.ref h.1 :: st) (h.1 + 1, qup h.2 h.1 (qarr ty n)) (cu + 1) (su + n)) : qRun g p e R s m args below meth c nL Z pc L (.int x :: st) h cu su := by
  intro H locs ls a1 a2 a3
  subst hty
  have hcb : n * componentBytes (newarray.typeOf atype) ≤ 536870912 := by
    rcases ht with q | q | q | q <;> rw [q] <;> simp only [componentBytes] <;> omega
  refine va_newaK X.2.1 X.2.2.1 (X.word hw rfl args) rfl hd rfl hn0 hn hcb hcu hsu a1.1 fun H1 cA e1 z1 o1 hAr hNm => ?_
  have hA0 : ArrOfT g.2.1 cA (newarray.typeOf atype) := arrOfT_moved X.2.2.2.2.2.2.2.1.alike.symm hAr
  refine kk H1 locs ls (a1.push ?_ (by rw [z1, a1.1]) (fun q hq => o1 q (by rw [← a1.1]; exact hq))) a2 a3
  rw [a1.1]
  rcases ht with q | q | q | q <;> rw [q] at e1 hA0 ⊢ <;> exact ⟨cA, e1, hA0⟩
theorem qr_anew (X : qCtx g p s m meth c own nm cc nL ret) {idx : Nat} {C : String} {x : Int32} {n : Nat} (hw : Jvm.Cond.classLink own idx C ∈ lw_tbl) (ho : Jvm.Cond.arrayOver (.object C) ∈ lw_tbl) (hov : ∀ a : Array Value, (Jvm.Cond.arrayOver (.object C)).before a s = true) (hn0 : ¬ x < 0) (hn : x.toNatClampNeg = n) (hbig : n ≤ 60000000) (hcu : cu + 1 ≤ R.cells) (hsu : su + n ≤ R.slots) (hd : decode cc pc = .ok (.anewarray idx, 3)) (kk : qRun g p e R s m args below meth c nL Z (pc + 3) L (.ref h.1 :: st) (h.1 + 1, qup h.2 h.1 (.inr (.inr (.inr (C, n, fun _ => none))))) (cu + 1) (su + n)) : qRun g p e R s m args below meth c nL Z pc L (.int x :: st) h cu su := by
  intro H locs ls a1 a2 a3
  subst hn
  refine W.anew X.2.1 X.2.2.1 X.2.2.2.2.2.2.1 (X.word hw rfl args) (hov args) rfl hd rfl hn0 (by omega) hcu hsu fun cA kA comp f1 f2 f3 f4 => ?_
  generalize hH1 : H.push ({ cls := cA, slots := Array.replicate x.toNatClampNeg .null, vm := .none } : Cell) = H1
  have z1 : H1.size = H.size + 1 := by rw [← hH1, Array.size_push]
  have e1 : H1[H.size]? = some (arrV cA x.toNatClampNeg (fun _ => .null)) := by rw [← hH1, Array.getElem?_push_size, ← arrV_new]
  have o1 : ∀ q : Nat, q < H.size → H1[q]? = H[q]? := fun q hq => by rw [← hH1, Array.getElem?_push, if_neg (Nat.ne_of_lt hq)]
  have hAr : ArrOfT s cA (.object C) := fun N z => ⟨(fun k h => by cases h), kA, f2, comp, f3⟩
  have hsz : H.size = g.2.1.heap.size + h.1 := a1.1
  have k1 := kk H1 locs ls (a1.push (e := .inr (.inr (.inr (C, x.toNatClampNeg, fun _ => none)))) ⟨cA, e1, arrOfT_moved X.2.2.2.2.2.2.2.1.alike.symm hAr, va_RA.moved X.2.2.2.2.2.2.2.1.alike.symm ⟨kA, comp, f2, f3, f4, f1⟩⟩ z1 o1) a2 a3
  rw [hsz]
  exact k1
end QD
