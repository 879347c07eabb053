/-! contracts over the plain heap, answers, calls -/
section QX
def qRoom (d mc ms : Nat) : Room := { frames := d, cells := mc, slots := ms, locals := 120 * d }
def qPc (g : qG) (avs : List Value) (h : qH) : Array Value → State → Prop := fun a U => a = (avs.map (qv g)).toArray ∧ g.2.1.WarmedH U.vm ∧ qHolds g h U.heap
def qQc (g : qG) (P : Option Value → qH → Prop) : Array Value → State → Outcome → State → Prop := fun _ _ o t => ∃ (v : Option Value) (h' : qH), o = .returned (v.map (qv g)) ∧ P v h' ∧ qHolds g h' t.heap
def qXC (g : qG) (PX : String → qH → Prop) : String → State → State → Prop := fun E _ t => ∃ h' : qH, PX E h' ∧ qHolds g h' t.heap
def qfree (g : qG) : Addr → Prop := fun q => g.2.1.heap.size ≤ q
/-- a method's contract: from the heap h, with these arguments, it returns, and P says what it answers and what the heap is -/
def qSpec (g : qG) (d mc ms : Nat) (q : qMr) (avs : List Value) (h : qH) (P : Option Value → qH → Prop) : Prop :=
  Met g.1 q.1 [.code q.1 q.2.1 q.2.2.1 q.2.2.2.1] (qRoom d mc ms) (qPc g avs h) (qQc g P) mc ms (qfree g)
/-- likewise of a method that may throw: PX says with which class, and what the heap is -/
def qSpecX (g : qG) (d mc ms : Nat) (q : qMr) (avs : List Value) (h : qH) (P : Option Value → qH → Prop) (PX : String → qH → Prop) : Prop :=
  vx_Met g.1 q.1 [.code q.1 q.2.1 q.2.2.1 q.2.2.2.1] (qRoom d mc ms) (qPc g avs h) (qQc g P) (qXC g PX) mc ms (qfree g)
theorem qPc_blind (g : qG) (avs : List Value) (h : qH) : FrameBlind (qPc g avs h) := fun _ _ _ _ q => q
theorem qcat_map (g : qG) (st : List Value) : ((st.map (qv g)).map fun v => v.category) = st.map Value.category := by
  rw [List.map_map]
  congr 1
  funext v
  exact qv_cat g v
theorem qM_facts {q : qMr} (h : qMg q) : (q.2.2.2.2.2.1 = 0 → Jvm.Cond.instanceMethod q.1 ∈ lw_tbl ∧ Jvm.Cond.selects q.1.cls q.1 q.1 ∈ lw_tbl) ∧ (q.2.2.2.2.2.1 = 1 → Jvm.Cond.static q.1 ∈ lw_tbl) ∧ (q.2.2.2.2.2.1 = 2 → Jvm.Cond.instanceMethod q.1 ∈ lw_tbl ∧ q.1.name = "<init>" ∧ q.2.2.2.1 = none) ∧ Jvm.Cond.initialized q.1.cls ∈ lw_tbl ∧ (∀ sig, parseMethodDescriptor q.1.desc = some sig → q.2.2.2.2.1 = sig.parameters.length) ∧ plainName q.1.cls = true ∧ q.2.2.1 ≤ 60 ∧ (q.1.cls ≠ "java/lang/invoke/MethodHandle" ∧ q.1.cls ≠ "java/lang/invoke/VarHandle") := by
  obtain ⟨y, cc, nL, ret, n, kd, b, d, f⟩ := q
  have h1 := h.2
  unfold qMb at h1
  simp only [Bool.and_eq_true, decide_eq_true_eq] at h1
  obtain ⟨⟨⟨⟨⟨⟨h2, h3⟩, h4⟩, h5⟩, h6⟩, h7⟩, h8⟩ := h1
  refine ⟨fun e => ?_, fun e => ?_, fun e => ?_, qat_in h3, fun sig hs => ?_, h5, h6, h7, h8⟩
  · have e : kd = 0 := e
    subst e
    simp only [Bool.and_eq_true, decide_eq_true_eq] at h2
    exact ⟨qat_in h2.1, qat_in h2.2⟩
  · have e : kd = 1 := e
    subst e
    simp only [decide_eq_true_eq] at h2
    exact qat_in h2
  · have e : kd = 2 := e
    subst e
    simp only [Bool.and_eq_true, decide_eq_true_eq] at h2
    exact ⟨qat_in h2.1.1, h2.1.2, h2.2⟩
  · rw [hs] at h4
    exact (Option.some.inj h4).symm
variable {g : qG} {p : Program} {e : Env} {R : Room} {s : State} {m : MethodId} {args : Array Value} {below : List Frame} {meth : Method} {c : Code} {nL : Nat} {Z : State → Prop} {nm : String} {cc : ByteArray} {ret : Option FieldType} {pc : Nat} {L : List (Nat × Value)} {st : List Value} {h : qH} {cu su : Nat} {ow : Nat}
theorem q_hws {own : String} (X : qCtx g p s m meth c own nm cc nL ret) {q : qMr} (h : qMg q) : ∀ w ∈ [Jvm.Cond.code q.1 q.2.1 q.2.2.1 q.2.2.2.1], ∀ (a' : Array Value) (U : State), s.WarmedH U.vm → w.before a' U = true := by
  intro w hw a' U hW
  rw [List.mem_singleton.mp hw]
  exact q_at hW rfl (X.word h.1 rfl #[])
theorem q_back {own : String} (X : qCtx g p s m meth c own nm cc nL ret) {d mc ms : Nat} {q : qMr} {avs : List Value} {P : Option Value → qH → Prop} (hm : qMg q) (hS : qSpec g d mc ms q avs h P) (hfr : d + 1 ≤ R.frames) (hlo : 120 * d + 101 ≤ R.locals) : Back g.1 R p e below s args q.1 3 30 (PreOf R mc ms (qPc g avs h)) (PostOf (qQc g P) mc ms (qfree g)) := by
  have hf := qM_facts hm
  refine back_of (bytes := q.2.1) (maxL := q.2.2.1) (ret := q.2.2.2.1) hS (qPc_blind g avs h) rfl rfl hfr ?_ (q_hws X hm) List.mem_cons_self (fun a' U hW => q_at hW rfl (X.word hf.2.2.2.1 rfl #[]))
  show 30 + (q.2.2.1 + 11) + 120 * d ≤ R.locals
  have := hf.2.2.2.2.2.2.1
  omega
theorem q_backX {own : String} (X : qCtx g p s m meth c own nm cc nL ret) {d mc ms : Nat} {q : qMr} {avs : List Value} {P : Option Value → qH → Prop} {PX : String → qH → Prop} (hm : qMg q) (hS : qSpecX g d mc ms q avs h P PX) (hfr : d + 1 ≤ R.frames) (hlo : 120 * d + 101 ≤ R.locals) : vx_Back g.1 R p e below s args q.1 3 30 (PreOf R mc ms (qPc g avs h)) (PostOf (qQc g P) mc ms (qfree g)) (vx_Post (qXC g PX) mc ms (qfree g)) := by
  have hf := qM_facts hm
  refine vx_back (bytes := q.2.1) (maxL := q.2.2.1) (ret := q.2.2.2.1) hS (qPc_blind g avs h) rfl rfl hfr ?_ (q_hws X hm) List.mem_cons_self (fun a' U hW => q_at hW rfl (X.word hf.2.2.2.1 rfl #[]))
  show 30 + (q.2.2.1 + 11) + 120 * d ≤ R.locals
  have := hf.2.2.2.2.2.2.1
  omega
theorem q_rev (g : qG) (avs : List Value) (v : Value) (st : List Value) : (avs.reverse ++ v :: st).map (qv g) = (avs.map (qv g)).reverse ++ qv g v :: st.map (qv g) := by
  rw [List.map_append, List.map_reverse, List.map_cons]
theorem q_revS (g : qG) (avs : List Value) (st : List Value) : (avs.reverse ++ st).map (qv g) = (avs.map (qv g)).reverse ++ st.map (qv g) := by
  rw [List.map_append, List.map_reverse]
theorem q_ret (g : qG) (v : Option Value) (st : List Value) : ((v.map (qv g)).toList ++ st.map (qv g)) = (v.toList ++ st).map (qv g) := by cases v <;> rfl
theorem q_recv {own : String} (X : qCtx g p s m meth c own nm cc nL ret) {q : qMr} {a ci : Nat} {fs : List Value} {H : Heap} (a1 : qHolds g h H) (hc : h.2 a = some (.inl (ci, fs))) (hcl : (vwCl[ci]?).map (fun r => r.1) = some q.1.cls) : ∃ cell : Cell, H[g.2.1.heap.size + a]? = some cell ∧ cell.vm.isStatics = false ∧ s.vm.findClass q.1.cls = some cell.cls := by
  obtain ⟨-, r, hr, cell, q1, q2, q3, -⟩ := a1.2.2 a _ hc
  have hr' : vwCl[ci]? = some r := hr
  rw [hr'] at hcl
  have e : r.1 = q.1.cls := Option.some.inj hcl
  exact ⟨cell, q1, by rw [q3]; rfl, by rw [← e, q2]; exact (X.K.1 ci r hr).2.1⟩
theorem q_after {own : String} (X : qCtx g p s m meth c own nm cc nL ret) {mc ms : Nat} {P : Option Value → qH → Prop} {a : Array Value} {locs : List Loc} {ls : Array Slot} {T : State} {st0 : List Value} (a2 : ∀ z ∈ locs, g.2.1.heap.size ≤ z.base) (a3 : lv_has ls nL (qvl g L)) {v : Option Value} {vm₁ : Vm} {B : Pt} (X' : Stand p g.1 e R s m args below meth c B.U B.locs B.cells B.slots) (hpost : PostOf (qQc g P) mc ms (qfree g) ⟨T.setVm vm₁, locs, cu, su⟩ a v B)
    (hst : ∀ target, Steps p.tables e below (B.U.setTop { (F0 m pc ls st0) with pc := (F0 m pc ls st0).pc + 3, stack := v.toList ++ st.map (qv g) }) target → Steps p.tables e below (T.setTop (F0 m pc ls st0)) target)
    (kk : ∀ v h', P v h' → qRun g p e R s m args below meth c nL Z (pc + 3) L (v.toList ++ st) h' (cu + mc) (su + ms)) : ∃ t, Steps p.tables e below (T.setTop (F0 m pc ls st0)) t ∧ Z t := by
  obtain ⟨U', l2, c2, s2⟩ := B
  obtain ⟨g', mk, t, L', e1, e2, ⟨v', h', hv, hP, hH⟩, h1, hL, h2, h3⟩ := hpost
  dsimp only [Pt.U, Pt.locs, Pt.cells, Pt.slots] at X' e1 e2 h1 h2 h3 hst
  subst h1; subst h2; subst h3
  cases hv
  obtain ⟨t2, b1, b2⟩ := kk v' h' hP U'.heap (locs ++ L') ls (by rw [e1]; exact hH) (fun z hz => by
    rcases List.mem_append.mp hz with h | h
    · exact a2 z h
    · exact hL z h) a3 U' rfl X'
  rw [← q_ret] at b1
  exact ⟨t2, hst t2 b1, b2⟩
theorem qr_callV (X : qCtx g p s m meth c (qown ow) nm cc nL ret) {idx d mc ms a ci : Nat} {q : qMr} {avs fs : List Value} {P : Option Value → qH → Prop} (hlk : qLk ow idx q) (hkd : q.2.2.2.2.2.1 = 0) (hna : avs.length = q.2.2.2.2.1) (hS : qSpec g d mc ms q (.ref a :: avs) h P) (hc : h.2 a = some (.inl (ci, fs))) (hcl : (vwCl[ci]?).map (fun r => r.1) = some q.1.cls) (hfr : d + 1 ≤ R.frames) (hlo : 120 * d + 101 ≤ R.locals) (hcu : cu + mc ≤ R.cells) (hsu : su + ms ≤ R.slots) (hst : (st.map Value.category).sum ≤ 30) (hd : decode cc pc = .ok (.invokevirtual idx, 3))
    (kk : ∀ v h', P v h' → qRun g p e R s m args below meth c nL Z (pc + 3) L (v.toList ++ st) h' (cu + mc) (su + ms)) : qRun g p e R s m args below meth c nL Z pc L (avs.reverse ++ .ref a :: st) h cu su := by
  intro H locs ls a1 a2 a3 T hT T1
  have hf := qM_facts hlk.2
  obtain ⟨cellB, g1, g2, g3⟩ := q_recv X (q := q) a1 hc hcl
  obtain ⟨v, vm₁, B, hW₁, X', hpost, hst'⟩ := callV T1 X.2.1 (C := q.1.cls) (bytes := q.2.1) (maxL := q.2.2.1) (ret := q.2.2.2.1) X.2.2.2.2.2.2.1 (X.word hlk.1.1 hlk.1.2 args) (X.word (hf.1 hkd).1 rfl args) (X.word (hf.1 hkd).2 rfl args) (X.word hlk.2.1 rfl args) hf.2.2.2.2.2.2.2 (q_back X (args := args) (e := e) (below := below) hlk.2 hS hfr hlo) (by rw [hT]; exact g1) g2 g3 (g := F0 m pc ls ((avs.reverse ++ .ref a :: st).map (qv g))) rfl (a3.1.trans X.2.2.2.1.symm) (argsL := avs.map (qv g)) (rest := st.map (qv g)) (fun sig hs => by rw [List.length_map, hna]; exact hf.2.2.2.2.1 sig hs) (q_rev g avs (.ref a) st) (by rw [qcat_map]; show 2 * 0 + _ ≤ 30; omega) (by rw [X.2.2.1]; exact hd)
    (fun vm₁ hW₁ => ⟨hcu, hsu, rfl, State.WarmedH.trans X.2.2.2.2.2.2.2.1 hW₁, by show qHolds g h T.heap; rw [hT]; exact a1⟩)
  exact q_after X a2 a3 X' hpost hst' kk
theorem qr_callS (X : qCtx g p s m meth c (qown ow) nm cc nL ret) {idx d mc ms : Nat} {q : qMr} {avs : List Value} {P : Option Value → qH → Prop} (hlk : qLk ow idx q) (hkd : q.2.2.2.2.2.1 = 1) (hna : avs.length = q.2.2.2.2.1) (hS : qSpec g d mc ms q avs h P) (hfr : d + 1 ≤ R.frames) (hlo : 120 * d + 101 ≤ R.locals) (hcu : cu + mc ≤ R.cells) (hsu : su + ms ≤ R.slots) (hst : (st.map Value.category).sum ≤ 30) (hd : decode cc pc = .ok (.invokestatic idx, 3))
    (kk : ∀ v h', P v h' → qRun g p e R s m args below meth c nL Z (pc + 3) L (v.toList ++ st) h' (cu + mc) (su + ms)) : qRun g p e R s m args below meth c nL Z pc L (avs.reverse ++ st) h cu su := by
  intro H locs ls a1 a2 a3 T hT T1
  have hf := qM_facts hlk.2
  obtain ⟨v, vm₁, B, hW₁, X', hpost, hst'⟩ := callS T1 X.2.1 (bytes := q.2.1) (maxL := q.2.2.1) (ret := q.2.2.2.1) X.2.2.2.2.2.2.1 (X.word hlk.1.1 hlk.1.2 args) (X.word (hf.2.1 hkd) rfl args) (X.word hf.2.2.2.1 rfl args) (X.word hlk.2.1 rfl args) hf.2.2.2.2.2.2.2 (q_back X (args := args) (e := e) (below := below) hlk.2 hS hfr hlo) (g := F0 m pc ls ((avs.reverse ++ st).map (qv g))) rfl (a3.1.trans X.2.2.2.1.symm) (argsL := avs.map (qv g)) (rest := st.map (qv g)) (fun sig hs => by rw [List.length_map, hna]; exact hf.2.2.2.2.1 sig hs) (q_revS g avs st) (by rw [qcat_map]; show 2 * 0 + _ ≤ 30; omega) (by rw [X.2.2.1]; exact hd)
    (fun vm₁ hW₁ => ⟨hcu, hsu, rfl, State.WarmedH.trans X.2.2.2.2.2.2.2.1 hW₁, by show qHolds g h T.heap; rw [hT]; exact a1⟩)
  exact q_after X a2 a3 X' hpost hst' kk
theorem qr_callSN (X : qCtx g p s m meth c (qown ow) nm cc nL ret) {idx d mc ms : Nat} {q : qMr} {avs : List Value} {P : Option Value → qH → Prop} (hlk : qLn ow idx q) (hkd : q.2.2.2.2.2.1 = 1) (hna : avs.length = q.2.2.2.2.1) (hS : qSpec g d mc ms q avs h P) (hfr : d + 1 ≤ R.frames) (hlo : 120 * d + 101 ≤ R.locals) (hcu : cu + mc ≤ R.cells) (hsu : su + ms ≤ R.slots) (hst : (st.map Value.category).sum ≤ 30) (hd : decode cc pc = .ok (.invokestatic idx, 3))
    (kk : ∀ v h', P v h' → qRun g p e R s m args below meth c nL Z (pc + 3) L (v.toList ++ st) h' (cu + mc) (su + ms)) : qRun g p e R s m args below meth c nL Z pc L (avs.reverse ++ st) h cu su := by
  intro H locs ls a1 a2 a3 T hT T1
  have hf := qM_facts hlk.2
  obtain ⟨v, vm₁, B, hW₁, X', hpost, hst'⟩ := va_callSN T1 X.2.1 (bytes := q.2.1) (maxL := q.2.2.1) (ret := q.2.2.2.1) X.2.2.2.2.2.2.1 (X.word hlk.1.1 hlk.1.2 args) (X.word (hf.2.1 hkd) rfl args) (X.word hf.2.2.2.1 rfl args) (X.word hlk.2.1 rfl args) hf.2.2.2.2.2.2.2 (q_back X (args := args) (e := e) (below := below) hlk.2 hS hfr hlo) (g := F0 m pc ls ((avs.reverse ++ st).map (qv g))) rfl (a3.1.trans X.2.2.2.1.symm) (argsL := avs.map (qv g)) (rest := st.map (qv g)) (fun sig hs => by rw [List.length_map, hna]; exact hf.2.2.2.2.1 sig hs) (q_revS g avs st) (by rw [qcat_map]; show 2 * 0 + _ ≤ 30; omega) (by rw [X.2.2.1]; exact hd)
    (fun vm₁ hW₁ => ⟨hcu, hsu, rfl, State.WarmedH.trans X.2.2.2.2.2.2.2.1 hW₁, by show qHolds g h T.heap; rw [hT]; exact a1⟩)
  exact q_after X a2 a3 X' hpost hst' kk
theorem qr_callI (X : qCtx g p s m meth c (qown ow) nm cc nL ret) {idx d mc ms a : Nat} {q : qMr} {avs : List Value} {P : Option Value → qH → Prop} (hlk : qLk ow idx q) (hkd : q.2.2.2.2.2.1 = 2) (hna : avs.length = q.2.2.2.2.1) (hS : qSpec g d mc ms q (.ref a :: avs) h P) (hfr : d + 1 ≤ R.frames) (hlo : 120 * d + 101 ≤ R.locals) (hcu : cu + mc ≤ R.cells) (hsu : su + ms ≤ R.slots) (hst : (st.map Value.category).sum ≤ 30) (hd : decode cc pc = .ok (.invokespecial idx, 3))
    (kk : ∀ v h', P v h' → qRun g p e R s m args below meth c nL Z (pc + 3) L (v.toList ++ st) h' (cu + mc) (su + ms)) : qRun g p e R s m args below meth c nL Z pc L (avs.reverse ++ .ref a :: st) h cu su := by
  intro H locs ls a1 a2 a3 T hT T1
  have hf := qM_facts hlk.2
  have hcd : (Cond.code q.1 q.2.1 q.2.2.1 none).before args s = true := by
    rw [← (hf.2.2.1 hkd).2.2]
    exact X.word hlk.2.1 rfl args
  obtain ⟨v, vm₁, B, hW₁, X', hpost, hst'⟩ := callI T1 X.2.1 (bytes := q.2.1) (maxL := q.2.2.1) X.2.2.2.2.2.2.1 (hf.2.2.1 hkd).2.1 (X.word hlk.1.1 hlk.1.2 args) (X.word (hf.2.2.1 hkd).1 rfl args) hcd hf.2.2.2.2.2.2.2 (q_back X (args := args) (e := e) (below := below) hlk.2 hS hfr hlo) (g := F0 m pc ls ((avs.reverse ++ .ref a :: st).map (qv g))) rfl (a3.1.trans X.2.2.2.1.symm) (argsL := avs.map (qv g)) (rest := st.map (qv g)) (fun sig hs => by rw [List.length_map, hna]; exact hf.2.2.2.2.1 sig hs) (q_rev g avs (.ref a) st) (by rw [qcat_map]; show 2 * 0 + _ ≤ 30; omega) (by rw [X.2.2.1]; exact hd)
    (fun vm₁ hW₁ => ⟨hcu, hsu, rfl, State.WarmedH.trans X.2.2.2.2.2.2.2.1 hW₁, by show qHolds g h T.heap; rw [hT]; exact a1⟩)
  exact q_after X a2 a3 X' hpost hst' kk
theorem qr_callIN (X : qCtx g p s m meth c (qown ow) nm cc nL ret) {idx d mc ms a : Nat} {q : qMr} {avs : List Value} {P : Option Value → qH → Prop} (hlk : qLn ow idx q) (hkd : q.2.2.2.2.2.1 = 2) (hna : avs.length = q.2.2.2.2.1) (hS : qSpec g d mc ms q (.ref a :: avs) h P) (hfr : d + 1 ≤ R.frames) (hlo : 120 * d + 101 ≤ R.locals) (hcu : cu + mc ≤ R.cells) (hsu : su + ms ≤ R.slots) (hst : (st.map Value.category).sum ≤ 30) (hd : decode cc pc = .ok (.invokespecial idx, 3))
    (kk : ∀ v h', P v h' → qRun g p e R s m args below meth c nL Z (pc + 3) L (v.toList ++ st) h' (cu + mc) (su + ms)) : qRun g p e R s m args below meth c nL Z pc L (avs.reverse ++ .ref a :: st) h cu su := by
  intro H locs ls a1 a2 a3 T hT T1
  have hf := qM_facts hlk.2
  have hcd : (Cond.code q.1 q.2.1 q.2.2.1 none).before args s = true := by
    rw [← (hf.2.2.1 hkd).2.2]
    exact X.word hlk.2.1 rfl args
  obtain ⟨v, vm₁, B, hW₁, X', hpost, hst'⟩ := va_callIN T1 X.2.1 (bytes := q.2.1) (maxL := q.2.2.1) X.2.2.2.2.2.2.1 (hf.2.2.1 hkd).2.1 (X.word hlk.1.1 hlk.1.2 args) (X.word (hf.2.2.1 hkd).1 rfl args) hcd hf.2.2.2.2.2.2.2 (q_back X (args := args) (e := e) (below := below) hlk.2 hS hfr hlo) (g := F0 m pc ls ((avs.reverse ++ .ref a :: st).map (qv g))) rfl (a3.1.trans X.2.2.2.1.symm) (argsL := avs.map (qv g)) (rest := st.map (qv g)) (fun sig hs => by rw [List.length_map, hna]; exact hf.2.2.2.2.1 sig hs) (q_rev g avs (.ref a) st) (by rw [qcat_map]; show 2 * 0 + _ ≤ 30; omega) (by rw [X.2.2.1]; exact hd)
    (fun vm₁ hW₁ => ⟨hcu, hsu, rfl, State.WarmedH.trans X.2.2.2.2.2.2.2.1 hW₁, by show qHolds g h T.heap; rw [hT]; exact a1⟩)
  exact q_after X a2 a3 X' hpost hst' kk
/-- Object.<init> -/
theorem qr_obj {own : String} (X : qCtx g p s m meth c own nm cc nL ret) {idx a : Nat} (hl : Jvm.Cond.methodLink own idx Jvm.Lib.objectInit ∈ lw_tbl) (hi : Jvm.Cond.instanceMethod Jvm.Lib.objectInit ∈ lw_tbl) (hc : Jvm.Cond.code Jvm.Lib.objectInit ⟨#[0xb1]⟩ 1 none ∈ lw_tbl) (hfr : 1 ≤ R.frames) (hlo : 42 ≤ R.locals) (hst : (st.map Value.category).sum ≤ 30) (hd : decode cc pc = .ok (.invokespecial idx, 3)) (kk : qRun g p e R s m args below meth c nL Z (pc + 3) L st h cu su) : qRun g p e R s m args below meth c nL Z pc L (.ref a :: st) h cu su := fun H locs ls a1 a2 a3 =>
  W.objInit X.2.1 X.2.2.1 X.2.2.2.2.2.2.1 (X.word hl rfl args) (X.word hi rfl args) (X.word hc rfl args) (g := F0 m pc ls ((.ref a :: st).map (qv g))) rfl (a3.1.trans X.2.2.2.1.symm) rfl hd hfr (by rw [qcat_map]; show 2 * 0 + _ + 12 ≤ _; omega) (kk H locs ls a1 a2 a3)
end QX
