/-! answers, arraycopy, calls of methods that throw, the entry of a method -/
section QY
variable {g : qG} {p : Program} {e : Env} {R : Room} {s : State} {m : MethodId} {args : Array Value} {below : List Frame} {meth : Method} {c : Code} {nL : Nat} {Z : State → Prop} {nm own : String} {cc : ByteArray} {ret : Option FieldType} {pc : Nat} {L : List (Nat × Value)} {st : List Value} {h : qH} {cu su : Nat} {ow : Nat}
/-- the end that a body owes: it may be reached by returning -/
def qEnd (g : qG) (p : Program) (e : Env) (R : Room) (s : State) (m : MethodId) (args : Array Value) (below : List Frame) (meth : Method) (c : Code) (mc ms : Nat) (P : Option Value → qH → Prop) (Z : State → Prop) : Prop :=
  ∀ (H : Heap) (locs : List Loc) (cu su : Nat) (fr : JFrame), W p g.1 e R s m args below meth c H locs cu su (MQ below (qQc g P) args s mc ms (qfree g)) fr → W p g.1 e R s m args below meth c H locs cu su Z fr
theorem qEnd_m {mc ms : Nat} {P : Option Value → qH → Prop} : qEnd g p e R s m args below meth c mc ms P (MQ below (qQc g P) args s mc ms (qfree g)) := fun _ _ _ _ _ k => k
theorem qEnd_x {mc ms : Nat} {P : Option Value → qH → Prop} {XC : String → State → State → Prop} : qEnd g p e R s m args below meth c mc ms P (vx_MQ below (qQc g P) XC args s mc ms (qfree g)) := fun _ _ _ _ _ k => vx_ret k
theorem qr_iret (X : qCtx g p s m meth c own nm cc nL ret) {mc ms : Nat} {P : Option Value → qH → Prop} (hZ : qEnd g p e R s m args below meth c mc ms P Z) {v : Int32} {ty : FieldType} (hr : ret = some ty) (hn : narrow ty (.int v) = .int v) (hP : P (some (.int v)) h) (hc : cu ≤ mc) (hs : su ≤ ms) (hd : decode cc pc = .ok (.ireturn, 1)) : qRun g p e R s m args below meth c nL Z pc L [.int v] h cu su := fun H locs ls a1 a2 a3 =>
  hZ H locs cu su _ (W.widen hc hs (W.zret X.2.1 X.2.2.1 (X.2.2.2.2.1.trans hr) hn (fun t ht _ => ⟨some (.int v), h, rfl, hP, by rw [ht]; exact a1⟩) a2 hd X.2.2.2.2.2.1))
theorem qr_lret (X : qCtx g p s m meth c own nm cc nL ret) {mc ms : Nat} {P : Option Value → qH → Prop} (hZ : qEnd g p e R s m args below meth c mc ms P Z) {v : Int64} (hr : ret = some .long) (hP : P (some (.long v)) h) (hc : cu ≤ mc) (hs : su ≤ ms) (hd : decode cc pc = .ok (.lreturn, 1)) : qRun g p e R s m args below meth c nL Z pc L [.long v] h cu su := fun H locs ls a1 a2 a3 =>
  hZ H locs cu su _ (W.widen hc hs (W.lret X.2.1 X.2.2.1 (X.2.2.2.2.1.trans hr) (fun t ht _ => ⟨some (.long v), h, rfl, hP, by rw [ht]; exact a1⟩) a2 hd X.2.2.2.2.2.1))
theorem qr_vret (X : qCtx g p s m meth c own nm cc nL ret) {mc ms : Nat} {P : Option Value → qH → Prop} (hZ : qEnd g p e R s m args below meth c mc ms P Z) (hr : ret = none) (hP : P none h) (hc : cu ≤ mc) (hs : su ≤ ms) (hd : decode cc pc = .ok (.return_, 1)) : qRun g p e R s m args below meth c nL Z pc L [] h cu su := fun H locs ls a1 a2 a3 =>
  hZ H locs cu su _ (W.widen hc hs (W.vret X.2.1 X.2.2.1 (X.2.2.2.2.1.trans hr) (fun t ht _ => ⟨none, h, rfl, hP, by rw [ht]; exact a1⟩) a2 hd X.2.2.2.2.2.1))
theorem qr_aret (X : qCtx g p s m meth c own nm cc nL ret) {mc ms : Nat} {P : Option Value → qH → Prop} (hZ : qEnd g p e R s m args below meth c mc ms P Z) {a : Nat} {rt : FieldType} (hr : ret = some rt) (hrt : (∃ n, rt = .object n) ∨ ∃ t, rt = .array t) (hP : P (some (.ref a)) h) (hc : cu ≤ mc) (hs : su ≤ ms) (hd : decode cc pc = .ok (.areturn, 1)) : qRun g p e R s m args below meth c nL Z pc L [.ref a] h cu su := fun H locs ls a1 a2 a3 =>
  hZ H locs cu su _ (W.widen hc hs (W.aret (v := .ref (g.2.1.heap.size + a)) X.2.1 X.2.2.1 (X.2.2.2.2.1.trans hr) hrt (Or.inr ⟨_, rfl⟩) (fun t ht _ => ⟨some (.ref a), h, rfl, hP, by rw [ht]; exact a1⟩) a2 hd X.2.2.2.2.2.1))
/-- the thrown cell stands over the method's frame -/
def qThr (g : qG) (p : Program) (e : Env) (R : Room) (s : State) (m : MethodId) (args : Array Value) (below : List Frame) (meth : Method) (c : Code) (nL : Nat) (Z : State → Prop) (pc : Nat) (L : List (Nat × Value)) (E : String) (h : qH) (cu su : Nat) : Prop :=
  ∀ (H : Heap) (locs : List Loc) (ls : Array Slot) (rest : List Value) (q : Addr) (ce : Cell), qHolds g h H → (∀ z ∈ locs, g.2.1.heap.size ≤ z.base) → lv_has ls nL (qvl g L) → H[q]? = some ce → ce.vm = .none → s.vm.findClass E = some ce.cls → vx_W p g.1 e R s m args below meth c H locs cu su Z (F0 m pc ls rest) q
theorem qr_out (X : qCtx g p s m meth c own nm cc nL ret) {mc ms : Nat} {P : Option Value → qH → Prop} {PX : String → qH → Prop} {E : String} (hout : ∀ x ∈ c.exceptionTable.toList, covers x pc = false) (hP : PX E h) (hc : cu ≤ mc) (hs : su ≤ ms) : qThr g p e R s m args below meth c nL (vx_MQ below (qQc g P) (qXC g PX) args s mc ms (qfree g)) pc L E h cu su := fun H locs ls rest q ce a1 a2 a3 h1 h2 h3 =>
  vx_out hout X.2.2.2.2.2.1 h1 h2 h3 (fun t ht _ => ⟨h, hP, by rw [ht]; exact a1⟩) a2 hc hs
theorem qr_callX (X : qCtx g p s m meth c (qown ow) nm cc nL ret) {idx d mc ms a ci : Nat} {q : qMr} {avs fs : List Value} {P : Option Value → qH → Prop} {PX : String → qH → Prop} (hlk : qLk ow idx q) (hkd : q.2.2.2.2.2.1 = 0) (hna : avs.length = q.2.2.2.2.1) (hS : qSpecX g d mc ms q (.ref a :: avs) h P PX) (hc : h.2 a = some (.inl (ci, fs))) (hcl : (vwCl[ci]?).map (fun r => r.1) = some q.1.cls) (hfr : d + 1 ≤ R.frames) (hlo : 120 * d + 101 ≤ R.locals) (hcu : cu + mc ≤ R.cells) (hsu : su + ms ≤ R.slots) (hst : (st.map Value.category).sum ≤ 30) (hd : decode cc pc = .ok (.invokevirtual idx, 3))
    (kk : ∀ v h', P v h' → qRun g p e R s m args below meth c nL Z (pc + 3) L (v.toList ++ st) h' (cu + mc) (su + ms)) (kx : ∀ E h', PX E h' → qThr g p e R s m args below meth c nL Z pc L E h' (cu + mc) (su + ms)) : qRun g p e R s m args below meth c nL Z pc L (avs.reverse ++ .ref a :: st) h cu su := by
  intro H locs ls a1 a2 a3 T hT T1
  have hf := qM_facts hlk.2
  obtain ⟨cellB, g1, g2, g3⟩ := q_recv X (q := q) a1 hc hcl
  rcases vx_callV T1 X.2.1 (C := q.1.cls) (bytes := q.2.1) (maxL := q.2.2.1) (ret := q.2.2.2.1) X.2.2.2.2.2.2.1 (X.word hlk.1.1 hlk.1.2 args) (X.word (hf.1 hkd).1 rfl args) (X.word (hf.1 hkd).2 rfl args) (X.word hlk.2.1 rfl args) hf.2.2.2.2.2.2.2 (q_backX X (args := args) (e := e) (below := below) hlk.2 hS hfr hlo) (by rw [hT]; exact g1) g2 g3 (g := F0 m pc ls ((avs.reverse ++ .ref a :: st).map (qv g))) rfl (a3.1.trans X.2.2.2.1.symm) (argsL := avs.map (qv g)) (rest := st.map (qv g)) (fun sig hs => by rw [List.length_map, hna]; exact hf.2.2.2.2.1 sig hs) (q_rev g avs (.ref a) st) (by rw [qcat_map]; show 2 * 0 + _ ≤ 30; omega) (by rw [X.2.2.1]; exact hd)
    (fun vm₁ hW₁ => ⟨hcu, hsu, rfl, State.WarmedH.trans X.2.2.2.2.2.2.2.1 hW₁, by show qHolds g h T.heap; rw [hT]; exact a1⟩) with ⟨v, vm₁, B, hW₁, X', hpost, hst'⟩ | ⟨q0, vm₁, B, hW₁, X', hpost, hst'⟩
  · exact q_after X a2 a3 X' hpost hst' kk
  · obtain ⟨U', l2, c2, s2⟩ := B
    obtain ⟨g', mk, t, L', E, ce, e1, e2, ⟨h', hPX, hH⟩, hce, hcv, hcl', h1, hL, h2, h3⟩ := hpost
    dsimp only [Pt.U, Pt.locs, Pt.cells, Pt.slots] at X' e1 e2 h1 h2 h3 hst' hcl'
    subst h1; subst h2; subst h3
    obtain ⟨t2, b1, b2⟩ := kx E h' hPX U'.heap (locs ++ L') ls (st.map (qv g)) q0 ce (by rw [e1]; exact hH) (fun z hz => by
      rcases List.mem_append.mp hz with h | h
      · exact a2 z h
      · exact hL z h) a3 (by rw [e1]; exact hce) hcv (vx_cls hW₁ hcl') U' rfl X'
    exact ⟨t2, hst'.trans b1, b2⟩
/-- a method's contract out of its body's run -/
theorem qSpec_of {d mc ms : Nat} {q : qMr} {avs : List Value} {P : Option Value → qH → Prop} {ow : Nat} {nm : String} (hg : qOK g) (hq : qMg q) (hnm : q.1.name = nm) (hown : q.1.cls = qown ow) (hsl : (lg_sl avs).length ≤ q.2.2.1)
    (body : ∀ (p : Program) (e : Env) (s : State) (m : MethodId) (args : Array Value) (below : List Frame) (meth : Method) (c : Code), qCtx g p s m meth c (qown ow) nm q.2.1 q.2.2.1 q.2.2.2.1 → qRun g p e (qRoom d mc ms) s m args below meth c q.2.2.1 (MQ below (qQc g P) args s mc ms (qfree g)) 0 (lv_args 0 avs) [] h 0 0) : qSpec g d mc ms q avs h P := by
  have hf := qM_facts hq
  refine Met.ofW (cc := q.2.1) (maxL := q.2.2.1) (ret := q.2.2.2.1) hf.2.2.2.2.2.1 rfl ?_
  intro p e s m args below meth c s₁ B hml hP
  obtain ⟨ha, hW, hH⟩ := hP
  have hnm' := name_of_methodNamed B.named B.method
  have X : qCtx g p s m meth c (qown ow) nm q.2.1 q.2.2.1 q.2.2.2.1 := ⟨hg, B.exec, B.bytes, hml, B.returns, B.notSynchronized, by rw [← hown]; exact findClass_of_methodNamed B.named, hW, hnm'.1.trans hnm⟩
  have hl := lv_entry (avs.map (qv g)) (n := q.2.2.1) (by
    have e : (lg_sl (avs.map (qv g))).length = (lg_sl avs).length := by
      unfold lg_sl
      rw [List.length_flatMap, List.length_flatMap, List.map_map]
      congr 2
      funext v
      simp only [Function.comp, qv_cat]
      split <;> rfl
    rw [e]; exact hsl)
  rw [ha, lg_entry_eq]
  have hr := body p e s m (avs.map (qv g)).toArray below meth c X
  rw [← ha] at hr
  rw [← ha]
  refine hr s.heap [] _ hH (fun z hz => nomatch hz) ?_
  have e : lv_args 0 (avs.map (qv g)) = qvl g (lv_args 0 avs) := by
    have : ∀ (n : Nat) (l : List Value), lv_args n (l.map (qv g)) = qvl g (lv_args n l) := by
      intro n l
      induction l generalizing n with
      | nil => rfl
      | cons v t ih =>
        simp only [List.map_cons, lv_args, qv_cat, qvl]
        rw [ih]
        rfl
    exact this 0 avs
  rw [← e]
  exact hl
theorem qSpecX_of {d mc ms : Nat} {q : qMr} {avs : List Value} {P : Option Value → qH → Prop} {PX : String → qH → Prop} {ow : Nat} {nm : String} (hg : qOK g) (hq : qMg q) (hnm : q.1.name = nm) (hown : q.1.cls = qown ow) (hsl : (lg_sl avs).length ≤ q.2.2.1)
    (body : ∀ (p : Program) (e : Env) (s : State) (m : MethodId) (args : Array Value) (below : List Frame) (meth : Method) (c : Code), qCtx g p s m meth c (qown ow) nm q.2.1 q.2.2.1 q.2.2.2.1 → (∀ x ∈ c.exceptionTable.toList, False) → qRun g p e (qRoom d mc ms) s m args below meth c q.2.2.1 (vx_MQ below (qQc g P) (qXC g PX) args s mc ms (qfree g)) 0 (lv_args 0 avs) [] h 0 0) : qSpecX g d mc ms q avs h P PX := by
  have hf := qM_facts hq
  refine vx_ofW (cc := q.2.1) (maxL := q.2.2.1) (ret := q.2.2.2.1) hf.2.2.2.2.2.1 rfl ?_
  intro p e s m args below meth c s₁ B hml ht hP
  obtain ⟨ha, hW, hH⟩ := hP
  have hnm' := name_of_methodNamed B.named B.method
  have X : qCtx g p s m meth c (qown ow) nm q.2.1 q.2.2.1 q.2.2.2.1 := ⟨hg, B.exec, B.bytes, hml, B.returns, B.notSynchronized, by rw [← hown]; exact findClass_of_methodNamed B.named, hW, hnm'.1.trans hnm⟩
  have hl := lv_entry (avs.map (qv g)) (n := q.2.2.1) (by
    have e : (lg_sl (avs.map (qv g))).length = (lg_sl avs).length := by
      unfold lg_sl
      rw [List.length_flatMap, List.length_flatMap, List.map_map]
      congr 2
      funext v
      simp only [Function.comp, qv_cat]
      split <;> rfl
    rw [e]; exact hsl)
  rw [ha, lg_entry_eq]
  have hr := body p e s m (avs.map (qv g)).toArray below meth c X ht
  rw [← ha] at hr
  rw [← ha]
  refine hr s.heap [] _ hH (fun z hz => nomatch hz) ?_
  have e : lv_args 0 (avs.map (qv g)) = qvl g (lv_args 0 avs) := by
    have : ∀ (n : Nat) (l : List Value), lv_args n (l.map (qv g)) = qvl g (lv_args n l) := by
      intro n l
      induction l generalizing n with
      | nil => rfl
      | cons v t ih =>
        simp only [List.map_cons, lv_args, qv_cat, qvl]
        rw [ih]
        rfl
    exact this 0 avs
  rw [← e]
  exact hl
end QY
