section Q09A
/-- the words of 'throw new X(text)' whose constructor passes the text on by entry ix (this part follows the proofs behind vx_throwSW of kit/laws) -/
def vyAll (own : String) (ic : Nat) (X : String) (ix : Nat) (rx : ByteArray) (Y : String) (names : List String) : List Cond :=
  Bundle.throwableAtoms ++ Bundle.throwableSAtoms ++ (Bundle.passSAtoms X Y ix rx ++ Bundle.chainSAtoms Y names) ++
  [.methodLink own ic (Bundle.initS X), .instantiable X 6, .castable X X, .selects X Bundle.tFill0 Bundle.tFill0, .selects X Bundle.tFill Bundle.tFill,
   .lays X Bundle.tN "cause" "Ljava/lang/Throwable;", .lays X Bundle.tN "stackTrace" Bundle.steD, .lays X Bundle.tN "suppressedExceptions" Bundle.listD, .lays X Bundle.tN "detailMessage" "Ljava/lang/String;",
   .isRef (.static Bundle.tN "UNASSIGNED_STACK" Bundle.steD), .isRef (.static Bundle.tN "SUPPRESSED_SENTINEL" Bundle.listD),
   .fieldLink Bundle.tN 198 Bundle.tN "backtrace" "Ljava/lang/Object;", .lays Bundle.tN Bundle.tN "backtrace" "Ljava/lang/Object;", .lays X Bundle.tN "backtrace" "Ljava/lang/Object;"]
def vyAt (own : String) (ic : Nat) (X : String) (ix : Nat) (rx : ByteArray) (Y : String) (names : List String) : List Cond := (vyAll own ic X ix rx Y names).filter vx_no
theorem vy_chain {args : Array Value} {s : State} {pl : Platform} (hpl : pl.magicAccessors = ({} : Platform).magicAccessors) {top : MethodId} (htop : s.methodNamed? (Bundle.initS Bundle.tN) = some top) {X Y : String} {ix : Nat} {rx : ByteArray} {names : List String} (hX : plainName X = true) (hY : Bundle.fit Y = true) (hn : ∀ n ∈ names, Bundle.fit n = true)
    (h0 : decode rx 0 = .ok (.aload_n 0, 1)) (h1 : decode rx 1 = .ok (.aload_n 1, 1)) (h2 : decode rx 2 = .ok (.invokespecial ix, 3)) (h5 : decode rx 5 = .ok (.return_, 1)) (h : ∀ c ∈ Bundle.passSAtoms X Y ix rx ++ Bundle.chainSAtoms Y names, c.before args s = true) :
    ∃ (P1 : PassC) (Ps : List PassC), Ps.length = names.length + 1 ∧ P1.LinksS pl s ∧ (∀ P, P ∈ Ps → P.LinksS pl s) ∧ s.methodNamed? (Bundle.initS X) = some P1.m ∧ P1.sup = firstOf top (Ps.map (·.toPassT)) ∧ PassesOn top (Ps.map (·.toPassT)) := by
  obtain ⟨P, L, hm, hs⟩ := PassC.ofS_atoms (args := args) (s := s) hpl (X := X) (Y := Y) hX (Bundle.fit_spec hY).2 h0 h1 h2 h5 (fun c hc => h c (List.mem_append_left _ hc))
  obtain ⟨P', Ps, hlen, L', hL, hm', hsup, hpass⟩ := Bundle.chainS (args := args) hpl htop names Y hY hn (fun c hc => h c (List.mem_append_right _ hc))
  refine ⟨P, P' :: Ps, congrArg (· + 1) hlen, L, fun Q hQ => ?_, hm, Option.some.inj (hs.symm.trans hm'), hsup, hpass⟩
  rcases List.mem_cons.mp hQ with rfl | hQ
  · exact L'
  · exact hL Q hQ
section VY
variable {p : Program} {l : Launch} {e : Env} {R : Room} {s : State} {m : MethodId} {args : Array Value} {below : List Frame} {meth : Method} {c : Code}
set_option maxHeartbeats 1000000 in
theorem vy_ctor {W : State} {locs : List Loc} {cells slots : Nat} (X : Stand p l e R s m args below meth c W locs cells slots) (hexec : p.tables.exec = Jvm.exec) (htr : e.platform.stackTraces = false) {own cls Y : String} {names : List String} {ic ix : Nat} {rx : ByteArray}
    (hown : s.vm.findClass own = some m.cls) (hcls : Bundle.fit cls = true) (hY : Bundle.fit Y = true) (hnames : ∀ n ∈ names, Bundle.fit n = true)
    (r0 : decode rx 0 = .ok (.aload_n 0, 1)) (r1 : decode rx 1 = .ok (.aload_n 1, 1)) (r2 : decode rx 2 = .ok (.invokespecial ix, 3)) (r5 : decode rx 5 = .ok (.return_, 1))
    (h : ∀ a ∈ vyAll own ic cls ix rx Y names, a.before args s = true) (hlocs : ∀ x ∈ locs, ∀ cell, s.heap[x.base]? = some cell → cell.vm.isStatics = false)
    {a : Addr} {cX : ClassId} {kX : Class} (hfoundX : s.vm.findClass cls = some cX) (hkX : s.vm.classes[cX]? = some kX) (hcell : W.heap[a]? = some (freshCell cX kX)) (hnew : s.heap.size ≤ a) {msg : Value} (hmsg : msg.isRef = true)
    {g : JFrame} (hg : g.method = m) (hsize : g.locals.size = c.maxLocals) (hlocked : g.locked = none) (hentered : g.entered = []) {rest : List Value} (hstack : g.stack = msg :: .ref a :: .ref a :: rest)
    (hd6 : decode c.code g.pc = .ok (.invokespecial ic, 3)) (hd9 : decode c.code (g.pc + 3) = .ok (.athrow, 1)) (hout : ∀ x ∈ c.exceptionTable.toList, covers x (g.pc + 3) = false)
    (hRf : names.length + 4 < R.frames) (hRl : 2 * g.monitorRoom + ((Value.ref a :: rest).map fun v => v.category).sum + (13 * (names.length + 2) + 42) ≤ R.locals) (hlocks : meth.locks = false) :
    ∃ U : State, Steps p.tables e below (W.setTop g) U ∧ U.status = .running ∧ Ended U below (.threw a) ∧ s.WarmedH U.vm ∧ s.sameButNew ({ U with vm := s.vm } : State) locs cells slots ∧ ∃ ce, U.heap[a]? = some ce ∧ s.vm.findClass cls = some ce.cls ∧ ce.vm = .none := by
  have howns : e.platform.frameOwnsMonitors = true := by rw [X.admits.platform]
  have hfin : e.platform.finalization = false := by rw [X.admits.platform]
  have hpl : e.platform.magicAccessors = ({} : Platform).magicAccessors := by rw [X.admits.platform]
  have sub1 : ∀ x ∈ Bundle.throwableAtoms, x ∈ vyAll own ic cls ix rx Y names := fun x hx => by simp only [vyAll, List.mem_append]; exact Or.inl (Or.inl (Or.inl hx))
  have sub2 : ∀ x ∈ Bundle.throwableSAtoms, x ∈ vyAll own ic cls ix rx Y names := fun x hx => by simp only [vyAll, List.mem_append]; exact Or.inl (Or.inl (Or.inr hx))
  have sub3 : ∀ x ∈ Bundle.passSAtoms cls Y ix rx ++ Bundle.chainSAtoms Y names, x ∈ vyAll own ic cls ix rx Y names := fun x hx => by
    have hx := List.mem_append.mp hx
    simp only [vyAll, List.mem_append]; exact Or.inl (Or.inr hx)
  have at' : ∀ x, x ∈ [Cond.methodLink own ic (Bundle.initS cls), .instantiable cls 6, .castable cls cls, .selects cls Bundle.tFill0 Bundle.tFill0, .selects cls Bundle.tFill Bundle.tFill, .lays cls Bundle.tN "cause" "Ljava/lang/Throwable;", .lays cls Bundle.tN "stackTrace" Bundle.steD, .lays cls Bundle.tN "suppressedExceptions" Bundle.listD, .lays cls Bundle.tN "detailMessage" "Ljava/lang/String;", .isRef (.static Bundle.tN "UNASSIGNED_STACK" Bundle.steD), .isRef (.static Bundle.tN "SUPPRESSED_SENTINEL" Bundle.listD), .fieldLink Bundle.tN 198 Bundle.tN "backtrace" "Ljava/lang/Object;", .lays Bundle.tN Bundle.tN "backtrace" "Ljava/lang/Object;", .lays cls Bundle.tN "backtrace" "Ljava/lang/Object;"] → x.holds args s none s [] = true := fun x hx => h x (by simp only [vyAll, List.mem_append]; exact Or.inr hx)
  obtain ⟨T, Z0, L, -, Yt⟩ := ThrowableC.of_atoms (args := args) howns hfin hpl (fun x hx => h x (sub1 x hx))
  obtain ⟨Z, M, LZ, LM, hnZ⟩ := Init0T.ofS_atoms (args := args) hpl L Yt (fun x hx => h x (sub2 x hx))
  obtain ⟨P1, Ps, hlen, L1, hL, hP1m, hlink1, hlink⟩ := vy_chain (args := args) hpl hnZ (Bundle.fit_spec hcls).1 hY hnames r0 r1 r2 r5 (fun x hx => h x (sub3 x hx))
  have hfound : s.vm.findClass cls = some P1.m.cls := findClass_of_methodNamed hP1m
  cases Option.some.inj (hfoundX.symm.trans hfound)
  obtain ⟨c1, kX', hc1, hk, hord, -, -, hn6⟩ := Cond.instantiable_spec (at' (.instantiable cls 6) (by simp))
  cases Option.some.inj (hc1.symm.trans hfound)
  cases Option.some.inj (hkX.symm.trans hk)
  have hsel0 : selectMethod e.platform s.vm P1.m.cls T.fill0 = .method T.fill0 := by
    obtain ⟨c2, r2, m2, q1, q2, q3, q4, -⟩ := Cond.selects_spec (at' (.selects cls Bundle.tFill0 Bundle.tFill0) (by simp))
    cases Option.some.inj (q1.symm.trans hfound)
    cases Option.some.inj (q2.symm.trans (State.methodFound?_of_named Yt.fill0 (by decide)))
    cases Option.some.inj (q3.symm.trans Yt.fill0)
    rw [Launch.admits_selectMethod X.admits]; exact q4
  have hselF : selectMethod e.platform s.vm P1.m.cls T.fill = .method T.fill := by
    obtain ⟨c2, r2, m2, q1, q2, q3, q4, -⟩ := Cond.selects_spec (at' (.selects cls Bundle.tFill Bundle.tFill) (by simp))
    cases Option.some.inj (q1.symm.trans hfound)
    cases Option.some.inj (q2.symm.trans (State.methodFound?_of_named Yt.fill (by decide)))
    cases Option.some.inj (q3.symm.trans Yt.fill)
    rw [Launch.admits_selectMethod X.admits]; exact q4
  obtain ⟨cS0, hcS0, hiss⟩ := Yt.statics
  obtain ⟨u0, hu0⟩ := Cond.staticRefV Yt.unassigned L.unassignedStatic L.statics hcS0 hiss (at' (.isRef (.static Bundle.tN "UNASSIGNED_STACK" Bundle.steD)) (by simp))
  obtain ⟨sen, hsen⟩ := Cond.staticRefV Yt.sentinel L.sentinelStatic L.statics hcS0 hiss (at' (.isRef (.static Bundle.tN "SUPPRESSED_SENTINEL" Bundle.listD)) (by simp))
  obtain ⟨ci, ib, fB, hkb, hgb, hab, hsB, -, hnB, htB, hffB⟩ := Cond.ownField (t := .object "java/lang/Object") Yt.found L.cls (by decide +kernel) (at' (.fieldLink Bundle.tN 198 Bundle.tN "backtrace" "Ljava/lang/Object;") (by simp)) (at' (.lays Bundle.tN Bundle.tN "backtrace" "Ljava/lang/Object;") (by simp)) e.platform hpl
  obtain ⟨cS, hcS, heS, -, hkeep⟩ := X.same.2.2.2.2.2 T.aS cS0 hcS0
  have hcS : W.heap[T.aS]? = some cS := hcS
  have hout' : ∀ i, (⟨T.aS, i⟩ : Loc) ∉ locs := fun i hmem => by
    have := hlocs _ hmem cS0 hcS0
    rw [hiss] at this; cases this
  have hknown : cS.vm ≠ .unknown := by
    rw [heS]; intro hu
    rw [show cS0.vm = .unknown from hu] at hiss
    cases hiss
  have hne : T.aS ≠ a := Nat.ne_of_lt (Nat.lt_of_lt_of_le (Array.getElem?_eq_some_iff.mp hcS0).1 hnew)
  obtain ⟨iM, hffM⟩ := Yt.msg
  obtain ⟨tyC, dC, hdC, hdnC⟩ := Cond.laysAt hfound hk Yt.cause (at' (.lays cls Bundle.tN "cause" "Ljava/lang/Throwable;") (by simp))
  obtain ⟨tyS, dS, hdS, hdnS⟩ := Cond.laysAt hfound hk Yt.stack (at' (.lays cls Bundle.tN "stackTrace" Bundle.steD) (by simp))
  obtain ⟨tyP, dP, hdP, hdnP⟩ := Cond.laysAt hfound hk Yt.supp (at' (.lays cls Bundle.tN "suppressedExceptions" Bundle.listD) (by simp))
  obtain ⟨tyM, dM, hdM, hdnM⟩ := Cond.laysAt hfound hk hffM (at' (.lays cls Bundle.tN "detailMessage" "Ljava/lang/String;") (by simp))
  obtain ⟨tyB, dB, hdB, hdnB⟩ := Cond.laysAt hfound hk hffB (at' (.lays cls Bundle.tN "backtrace" "Ljava/lang/Object;") (by simp))
  have bC := Cond.laysApart hdB hdC hdnB hdnC (by rw [hnB, Yt.causeName]; decide)
  have bS := Cond.laysApart hdB hdS hdnB hdnS (by rw [hnB, Yt.stackName]; decide)
  have bP := Cond.laysApart hdB hdP hdnB hdnP (by rw [hnB, Yt.suppName]; decide)
  have hskip : SkipFacts T e.platform s (fun u => u) u0 ((preparedCellV T.toThrowableT (freshCell P1.m.cls kX) a u0 sen).withEntry W.cur) :=
    ⟨{ ci198 := ci, i198 := ib, fBack := fB }, ⟨hkb, hgb, hab, hsB⟩, by
      have := fresh_default (c := P1.m.cls) tyB
      rw [htB] at this
      simpa [preparedCellV, Cell.setSlot, Cell.withEntry, Array.getElem?_setIfInBounds, bC, bS, bP, bC.symm, bS.symm, bP.symm, defaultValue] using this, fun _ _ => rfl⟩
  have hpass : ∀ x ∈ Bundle.passSAtoms cls Y ix rx, x.before args s = true := fun x hx => h x (sub3 x (List.mem_append_left _ hx))
  obtain ⟨tm, mC, cdC, kC, vm₁, hnC, -, -, -, -, -, -, -, hW₁, st1⟩ := Steps.initColdS (tb := p.tables) (e := e) (below := below) (s := s) (U := W) X.here hexec X.warmed hpl hown (t := Bundle.initS cls) rfl rfl (Bundle.fit_spec hcls).2
    (at' (.methodLink own ic (Bundle.initS cls)) (by simp)) (hpass (.instanceMethod (Bundle.initS cls)) (by simp [Bundle.passSAtoms])) (bytes := rx) (maxL := 2) (hpass (.code (Bundle.initS cls) rx 2 none) (by simp [Bundle.passSAtoms]))
    (f := g) hg (a := a) (msg := msg) (rest := .ref a :: rest) hstack hd6
  cases Option.some.inj (hnC.symm.trans hP1m)
  have X₁ := X.noted hW₁
  obtain ⟨vm₂, X₂, st2⟩ := X₁.ctorMessageOffV hexec (g := { g with stack := .ref a :: rest }) hg hsize T L Z LZ M LM (P1 :: Ps)
    (fun P hP => by rcases List.mem_cons.mp hP with rfl | hP; exact L1; exact hL P hP) ⟨hlink1, hlink⟩ (u0 := u0) (sen := sen) (self := a) hmsg (cell := freshCell P1.m.cls kX) (cellS := cS)
    hcell (fun _ => by simp) (by simp) rfl rfl hsel0 hselF hcS hne hknown (by rw [hkeep _ (hout' _)]; exact hu0) (by rw [hkeep _ (hout' _)]; exact hsen)
    (Takes.of_laid hk hord tyC (by rw [Yt.causeType]; rfl)) (Takes.of_laid hk hord tyS (by rw [Yt.stackType]; exact fits_refV_array _ u0)) (Takes.of_laid hk hord tyP (by rw [Yt.suppType]; exact fits_refV_object _ sen))
    (Takes.of_laid hk hord tyM (by rw [Yt.msgType]; exact fits_refV_object _ ⟨msg, hmsg⟩)) Yt.objLocals hskip htr [] hd6
    (by simp only [List.length_cons, hlen]; omega) (by simp only [List.length_cons, hlen]; exact hRl)
  obtain ⟨hwalk, hrun, hended, hWU, hsame⟩ := X₂.athrowLeaves hexec (g := { g with stack := .ref a :: rest, pc := g.pc + 3 }) hg hlocked hentered hout (a := a) (rest := rest) rfl hd9
  have hlt : a < ((W.setVm vm₁).setVm vm₂).heap.size := (Array.getElem?_eq_some_iff.mp hcell).1
  have hU := heapAt_setCell_self (s := (W.setVm vm₁).setVm vm₂) (plainBareV T.toThrowableT (freshCell P1.m.cls kX) a u0 sen msg) hlt
  refine ⟨_, st1 _ (fun acts => ?_), hrun, hended, hWU, hsame.weaken (fun y hy hlt' => ?_) (Nat.le_refl _) (Nat.le_refl _), _, hU, hfound, rfl⟩
  · rw [doInvoke_state]
    exact st2 _ hwalk
  · rcases List.mem_append.mp hy with h1 | h1
    · exact h1
    · exfalso
      have hb : y.base = a := by
        simp only [List.mem_cons, List.not_mem_nil, or_false] at h1
        rcases h1 with rfl | rfl | rfl | rfl | rfl <;> rfl
      rw [hb] at hlt'
      exact Nat.not_lt.mpr hnew hlt'
variable {H : Heap} {locs : List Loc} {cells slots : Nat} {Q : State → Prop} {free : Addr → Prop} {ls : Array Slot} {rest : List Value} {Qc : Array Value → State → Outcome → State → Prop} {XC : String → State → State → Prop}
theorem vy_throwSW {cc : ByteArray} {pc : Nat} (hexec : p.tables.exec = Jvm.exec) (hb : c.code = cc) (hl : l.stackTraces = false) {own cls Y text : String} {names : List String} {ik is ic ix mc ms sa : Nat} {rx : ByteArray} {A : Nat → Prop}
    (hown : s.vm.findClass own = some m.cls) (hcls : Bundle.fit cls = true) (hY : Bundle.fit Y = true) (hnames : ∀ n ∈ names, Bundle.fit n = true)
    (r0 : decode rx 0 = .ok (.aload_n 0, 1)) (r1 : decode rx 1 = .ok (.aload_n 1, 1)) (r2 : decode rx 2 = .ok (.invokespecial ix, 3)) (r5 : decode rx 5 = .ok (.return_, 1))
    (hk : (Cond.classLink own ik cls).before args s = true) (hini : (Cond.initialized cls).before args s = true) (hstr : vk_R own is text sa s) (hat : ∀ w ∈ vyAt own ic cls ix rx Y names, w.before args s = true)
    (hgood : ∀ w ∈ Cond.classLink own ik cls :: Cond.initialized cls :: vyAt own ic cls ix rx Y names, vx_ot w = true)
    (hU : vx_Zq Bundle.tN "UNASSIGNED_STACK" Bundle.steD A s s.heap) (hN : vx_Zq Bundle.tN "SUPPRESSED_SENTINEL" Bundle.listD A s s.heap) (hS : va_S A s.heap H locs) (hsize : ls.size = c.maxLocals)
    (d0 : decode cc pc = .ok (.new ik, 3)) (d3 : decode cc (pc + 3) = .ok (.dup, 1)) (d4 : decode cc (pc + 4) = .ok (.ldc_w is, 3)) (d7 : decode cc (pc + 7) = .ok (.invokespecial ic, 3)) (d10 : decode cc (pc + 10) = .ok (.athrow, 1))
    (hout : ∀ x ∈ c.exceptionTable.toList, covers x (pc + 10) = false)
    (hRf : names.length + 4 < R.frames) (hRl : (rest.map fun v => v.category).sum + (13 * (names.length + 2) + 43) ≤ R.locals) (hRcells : cells + 1 ≤ R.cells) (hRslots : slots + 6 ≤ R.slots) (hlocks : meth.locks = false)
    (hx : ∀ t : State, s.vm.Alike t.vm → H.size ≤ t.heap.size → (∀ q : Nat, q < H.size → t.heap[q]? = H[q]?) → XC cls s t)
    (hf : ∀ z ∈ locs, free z.base) (hc : cells + 1 ≤ mc) (hs : slots + 6 ≤ ms) :
    W p l e R s m args below meth c H locs cells slots (vx_MQ below Qc XC args s mc ms free) (F0 m pc ls rest) := by
  intro T hT X
  have htr : e.platform.stackTraces = false := (show e.platform.stackTraces = l.stackTraces by rw [X.admits.platform]).trans hl
  have Z := vx_rebase X (R' := { frames := R.frames, locals := R.locals, cells := 1, slots := 6 }) (Nat.le_refl _) (Nat.le_refl _) hRcells hRslots
  obtain ⟨s', hA⟩ : ∃ z, z = (T.setVm s.vm).setFrames (.invoking m args :: below) := ⟨_, rfl⟩
  rw [← hA] at Z
  have hvm : s'.vm = s.vm := by rw [hA]; rfl
  have hhp : s'.heap = H := by rw [hA]; exact hT
  have hW0 : s.WarmedH s'.vm := by rw [hvm]; exact State.WarmedH.refl s
  have hat' : ∀ w ∈ vyAt own ic cls ix rx Y names, w.before args s' = true := fun w hw => vx_ot_at hW0 hvm.symm (hgood w (List.mem_cons_of_mem _ (List.mem_cons_of_mem _ hw))) (hat w hw)
  have hk' : (Cond.classLink own ik cls).before args s' = true := vx_ot_at hW0 hvm.symm (hgood _ List.mem_cons_self) hk
  have hini' : (Cond.initialized cls).before args s' = true := vx_ot_at hW0 hvm.symm (hgood _ (List.mem_cons_of_mem _ List.mem_cons_self)) hini
  have hU' : vx_Zq Bundle.tN "UNASSIGNED_STACK" Bundle.steD A s' s'.heap := by rw [hhp]; exact vx_Zq.moved hW0.alike (hU.kept hS.2.1)
  have hN' : vx_Zq Bundle.tN "SUPPRESSED_SENTINEL" Bundle.listD A s' s'.heap := by rw [hhp]; exact vx_Zq.moved hW0.alike (hN.kept hS.2.1)
  have h : ∀ w ∈ vyAll own ic cls ix rx Y names, w.before args s' = true := vx_own hat' (vx_isRefq hU'.1) (vx_isRefq hN'.1) hU'.2.word hN'.2.word
  have hown' : s'.vm.findClass own = some m.cls := by rw [hvm]; exact hown
  have hins : (Cond.instantiable cls 6).before args s' = true := h _ (by simp only [vyAll, List.mem_append]; exact Or.inr (by simp))
  obtain ⟨vm₁, cX, kX, hfX, hkX, -, -, X₁, st1⟩ := Z.newCold hexec (own := own) (C := cls) (index := ik) (n := 6) hown' hk' hins hini' (g := F0 m pc ls rest) rfl (by rw [hb]; exact d0) (Nat.le_refl _) (Nat.le_refl _)
  generalize hT1 : (T.setVm vm₁).pushCell { cls := cX, slots := kX.instanceTypes.map defaultValue, vm := .none } = T1 at X₁ st1
  have hcat : (Value.ref T.heap.size).category = 1 := rfl
  have hcellA : T1.heap[T.heap.size]? = some (freshCell cX kX) := by rw [← hT1]; exact State.heap_pushCell_size _ _
  have d3' : decode c.code (pc + 3) = .ok (.dup, 1) := by rw [hb]; exact d3
  have d4' : decode c.code (pc + 4) = .ok (.ldc_w is, 3) := by rw [hb]; exact d4
  have hstr' : vk_R own is text sa s' := vk_R.warm hW0 hstr
  obtain ⟨U, hsteps, hrun, hend, hWw, hsame, ce, hce, hceC, hceV⟩ := vy_ctor X₁ hexec htr (own := own) (cls := cls) (Y := Y) (names := names) (ic := ic) hown' hcls hY hnames r0 r1 r2 r5 h (fun x hx => nomatch hx) hfX hkX hcellA (by rw [hhp, hT]; exact Nat.le_refl _) (msg := .ref sa) rfl
    (g := { method := m, pc := pc + 7, locals := ls, stack := .ref sa :: .ref T.heap.size :: .ref T.heap.size :: rest, locked := none }) rfl hsize rfl rfl (rest := rest) rfl
    (by rw [hb]; exact d7) (by rw [hb]; exact d10) hout hRf (by simp only [List.map_cons, List.sum_cons, hcat]; show 2 * 0 + _ + _ ≤ _; omega) hlocks
  obtain ⟨f1, f2⟩ := vx_frame hsame
  rw [hhp] at f1 f2
  have hWs : s.WarmedH U.vm := State.WarmedH.trans hW0 hWw
  have hcl : s.vm.findClass cls = some ce.cls := by rw [← hvm]; exact hceC
  have hall : s.sameButNew ({ U with vm := s.vm } : State) locs mc ms := by
    subst hA
    obtain ⟨e1, e2⟩ := hsame
    rw [State.setFrames_setFrames] at e1
    have h2 : (T.setVm s.vm).sameButNew ({ U with vm := s.vm } : State) [] (0 + 1) (0 + 6) := ⟨e1, e2⟩
    have h3 := X.same.trans h2
    rw [List.append_nil] at h3
    exact h3.mono hc hs
  refine ⟨U, ?_, .threw T.heap.size, hrun, hend, Or.inr ⟨T.heap.size, rfl, cls, ce, locs, hx U hWs.alike f1 (fun q hq => f2 q hq (fun z hz => nomatch hz)), hce, hceV, hcl, hWs, hall, hf⟩⟩
  refine st1 _ ?_
  show Steps p.tables e below (T1.setTop { method := m, pc := pc + 3, locals := ls, stack := .ref T.heap.size :: rest, locked := none }) _
  jvm_step X₁.here [X₁.here.top, hexec, d3', Value.category]
  exact X₁.ldcStringW hexec (own := own) (text := text) (index := is) (a := sa) hown' hstr'.1 hstr'.2
    (g := { method := m, pc := pc + 4, locals := ls, stack := .ref T.heap.size :: .ref T.heap.size :: rest, locked := none }) rfl d4' _ hsteps
end VY

/-- a word that stays as the machine warms up; or reads the tables alone -/
def q_gf (w : Jvm.Cond) : Bool := q_gd w || (w.faceAtom && w.onTables)
theorem q_in2 (ws : List Jvm.Cond) (ps : List (Nat × Nat)) (hp : ws = ps.filterMap qat) (h : ws.all q_gf = true) : ∀ w ∈ ws, w ∈ lw_tbl ∧ q_gf w = true := by
  intro w hw
  have h1 := List.all_eq_true.mp h w hw
  rw [hp] at hw
  obtain ⟨i, -, hi⟩ := List.mem_filterMap.mp hw
  exact ⟨qat_in hi, h1⟩
theorem vy_atNS : ∀ w ∈ vyAt RX11 401 "java/util/NoSuchElementException" 13 ⟨#[0x2a, 0x2b, 0xb7, 0x00, 0x0d, 0xb1]⟩ "java/lang/RuntimeException" ["java/lang/Exception"], w ∈ lw_tbl ∧ q_gf w = true := q_in2 _ [(1, 14), (3, 224), (3, 233), (3, 237), (4, 0), (4, 2), (3, 225), (3, 226), (1, 31), (1, 32), (3, 227), (3, 232), (3, 238), (4, 18), (3, 214), (4, 19), (3, 216), (4, 20), (3, 218), (3, 228), (3, 230), (3, 220), (4, 14), (4, 15), (4, 17), (3, 220), (5, 97), (5, 98), (5, 99), (4, 8), (3, 206), (4, 8), (4, 9), (4, 10), (4, 11), (3, 208), (4, 11), (4, 12), (4, 13), (4, 14), (3, 210), (5, 96), (5, 87), (5, 88), (5, 89), (3, 236), (5, 90), (5, 91), (5, 92), (5, 93), (3, 223), (3, 222), (5, 94)] (by decide +kernel) (by decide +kernel)
theorem vy_otNS : ∀ w ∈ Cond.classLink RX11 397 "java/util/NoSuchElementException" :: Cond.initialized "java/util/NoSuchElementException" :: vyAt RX11 401 "java/util/NoSuchElementException" 13 ⟨#[0x2a, 0x2b, 0xb7, 0x00, 0x0d, 0xb1]⟩ "java/lang/RuntimeException" ["java/lang/Exception"], vx_ot w = true := List.all_eq_true.mp (by decide +kernel)
theorem vy_ckNS : ∀ w ∈ [Cond.classLink RX11 397 "java/util/NoSuchElementException", Cond.initialized "java/util/NoSuchElementException"], w ∈ lw_tbl ∧ q_gd w = true := q_in _ [(5, 86), (1, 23)] (by decide +kernel) (by decide +kernel)
theorem vy_atIA : ∀ w ∈ vyAt RX11 408 "java/lang/IllegalArgumentException" 7 Bundle.six "java/lang/RuntimeException" ["java/lang/Exception"], w ∈ lw_tbl ∧ q_gf w = true := q_in2 _ [(1, 14), (3, 224), (3, 233), (3, 237), (4, 0), (4, 2), (3, 225), (3, 226), (1, 31), (1, 32), (3, 227), (3, 232), (3, 238), (4, 18), (3, 214), (4, 19), (3, 216), (4, 20), (3, 218), (3, 228), (3, 230), (3, 220), (4, 14), (4, 15), (4, 17), (3, 220), (4, 5), (4, 6), (4, 7), (4, 8), (3, 206), (4, 8), (4, 9), (4, 10), (4, 11), (3, 208), (4, 11), (4, 12), (4, 13), (4, 14), (3, 210), (4, 4), (3, 203), (3, 204), (3, 211), (3, 212), (3, 213), (3, 215), (3, 217), (3, 219), (3, 223), (3, 222), (3, 221)] (by decide +kernel) (by decide +kernel)
theorem vy_otIA : ∀ w ∈ Cond.classLink RX11 404 "java/lang/IllegalArgumentException" :: Cond.initialized "java/lang/IllegalArgumentException" :: vyAt RX11 408 "java/lang/IllegalArgumentException" 7 Bundle.six "java/lang/RuntimeException" ["java/lang/Exception"], vx_ot w = true := List.all_eq_true.mp (by decide +kernel)
theorem vy_ckIA : ∀ w ∈ [Cond.classLink RX11 404 "java/lang/IllegalArgumentException", Cond.initialized "java/lang/IllegalArgumentException"], w ∈ lw_tbl ∧ q_gd w = true := q_in _ [(3, 202), (1, 17)] (by decide +kernel) (by decide +kernel)
theorem vy_atIS : ∀ w ∈ vyAt RX11 413 "java/lang/IllegalStateException" 7 Bundle.six "java/lang/RuntimeException" ["java/lang/Exception"], w ∈ lw_tbl ∧ q_gf w = true := q_in2 _ [(1, 14), (3, 224), (3, 233), (3, 237), (4, 0), (4, 2), (3, 225), (3, 226), (1, 31), (1, 32), (3, 227), (3, 232), (3, 238), (4, 18), (3, 214), (4, 19), (3, 216), (4, 20), (3, 218), (3, 228), (3, 230), (3, 220), (4, 14), (4, 15), (4, 17), (3, 220), (5, 190), (5, 191), (5, 192), (4, 8), (3, 206), (4, 8), (4, 9), (4, 10), (4, 11), (3, 208), (4, 11), (4, 12), (4, 13), (4, 14), (3, 210), (5, 189), (5, 180), (5, 181), (5, 182), (3, 235), (5, 183), (5, 184), (5, 185), (5, 186), (3, 223), (3, 222), (5, 187)] (by decide +kernel) (by decide +kernel)
theorem vy_otIS : ∀ w ∈ Cond.classLink RX11 409 "java/lang/IllegalStateException" :: Cond.initialized "java/lang/IllegalStateException" :: vyAt RX11 413 "java/lang/IllegalStateException" 7 Bundle.six "java/lang/RuntimeException" ["java/lang/Exception"], vx_ot w = true := List.all_eq_true.mp (by decide +kernel)
theorem vy_ckIS : ∀ w ∈ [Cond.classLink RX11 409 "java/lang/IllegalStateException", Cond.initialized "java/lang/IllegalStateException"], w ∈ lw_tbl ∧ q_gd w = true := q_in _ [(5, 179), (1, 24)] (by decide +kernel) (by decide +kernel)
/-- what a throw stands on -/
def qTHR (g : qG) : Prop := (∀ w ∈ lw_tbl, (w.faceAtom && w.onTables) = true → w.before #[] g.2.1 = true) ∧ vx_Zq Bundle.tN "UNASSIGNED_STACK" Bundle.steD (fun q => g.2.1.heap.size ≤ q) g.2.1 g.2.1.heap ∧ vx_Zq Bundle.tN "SUPPRESSED_SENTINEL" Bundle.listD (fun q => g.2.1.heap.size ≤ q) g.2.1 g.2.1.heap ∧ qLD g 11 399 4 ∧ qLD g 11 406 5 ∧ qLD g 11 411 6
theorem qTHR.word {g : qG} (hg : qOK g) (hT : qTHR g) {s : State} (hW : g.2.1.WarmedH s.vm) {w : Jvm.Cond} (hw : w ∈ lw_tbl) (hf : q_gf w = true) (a : Array Value) : w.before a s = true := by
  rcases (Bool.or_eq_true _ _).mp hf with h1 | h1
  · exact q_at hW h1 (hg.1 w hw h1)
  · have h2 := hT.1 w hw h1
    simp only [Bool.and_eq_true] at h1
    exact va_tabs h1.2 (show (g.2.1.setVm s.vm).vm = s.vm from rfl) (Cond.faceAtom_setVm hW.alike w h1.1 h2)
/-- the three classes that are thrown, and where their words lie -/
def thrK (E : String) (ik is ic : Nat) : Prop := (E = "java/util/NoSuchElementException" ∧ ik = 397 ∧ is = 399 ∧ ic = 401) ∨ (E = "java/lang/IllegalArgumentException" ∧ ik = 404 ∧ is = 406 ∧ ic = 408) ∨ (E = "java/lang/IllegalStateException" ∧ ik = 409 ∧ is = 411 ∧ ic = 413)
theorem thrK_all {g : qG} (hT : qTHR g) {E : String} {ik is ic : Nat} (h : thrK E ik is ic) : ∃ (ix j : Nat) (rx : ByteArray), Bundle.fit E = true ∧ decode rx 0 = .ok (.aload_n 0, 1) ∧ decode rx 1 = .ok (.aload_n 1, 1) ∧ decode rx 2 = .ok (.invokespecial ix, 3) ∧ decode rx 5 = .ok (.return_, 1) ∧ (∀ w ∈ [Cond.classLink RX11 ik E, Cond.initialized E], w ∈ lw_tbl ∧ q_gd w = true) ∧ (∀ w ∈ vyAt RX11 ic E ix rx "java/lang/RuntimeException" ["java/lang/Exception"], w ∈ lw_tbl ∧ q_gf w = true) ∧ (∀ w ∈ Cond.classLink RX11 ik E :: Cond.initialized E :: vyAt RX11 ic E ix rx "java/lang/RuntimeException" ["java/lang/Exception"], vx_ot w = true) ∧ qLD g 11 is j := by
  rcases h with ⟨rfl, rfl, rfl, rfl⟩ | ⟨rfl, rfl, rfl, rfl⟩ | ⟨rfl, rfl, rfl, rfl⟩
  · exact ⟨13, 4, ⟨#[0x2a, 0x2b, 0xb7, 0x00, 0x0d, 0xb1]⟩, by decide +kernel, by decide +kernel, by decide +kernel, by decide +kernel, by decide +kernel, vy_ckNS, vy_atNS, vy_otNS, hT.2.2.2.1⟩
  · exact ⟨7, 5, Bundle.six, by decide +kernel, by decide +kernel, by decide +kernel, by decide +kernel, by decide +kernel, vy_ckIA, vy_atIA, vy_otIA, hT.2.2.2.2.1⟩
  · exact ⟨7, 6, Bundle.six, by decide +kernel, by decide +kernel, by decide +kernel, by decide +kernel, by decide +kernel, vy_ckIS, vy_atIS, vy_otIS, hT.2.2.2.2.2⟩
theorem qr_throw {g : qG} {p : Program} {e : Env} {s : State} {m : MethodId} {args : Array Value} {below : List Frame} {meth : Method} {c : Code} {nL d mc ms : Nat} {nm : String} {cc : ByteArray} {ret : Option FieldType} {pc : Nat} {L : List (Nat × Value)} {st : List Value} {h : qH} {cu su : Nat} {P : Option Value → qH → Prop} {PX : String → qH → Prop} (X : qCtx g p s m meth c (qown 11) nm cc nL ret) (hT : qTHR g) (h0 : ∃ h0 : qH, qHolds g h0 s.heap) {E : String} {ik is ic : Nat} (hE : thrK E ik is ic)
    (d0 : decode cc pc = .ok (.new ik, 3)) (d3 : decode cc (pc + 3) = .ok (.dup, 1)) (d4 : decode cc (pc + 4) = .ok (.ldc_w is, 3)) (d7 : decode cc (pc + 7) = .ok (.invokespecial ic, 3)) (d10 : decode cc (pc + 10) = .ok (.athrow, 1))
    (hout : ∀ x ∈ c.exceptionTable.toList, False) (hd : 6 ≤ d) (hst : qcat st ≤ 30) (hc : cu + 1 ≤ mc) (hs : su + 6 ≤ ms) (hPX : ∀ h' : qH, h.1 ≤ h'.1 → h'.2 = h.2 → PX E h') : qRun g p e (qRoom d mc ms) s m args below meth c nL (vx_MQ below (qQc g P) (qXC g PX) args s mc ms (qfree g)) pc L st h cu su := by
  obtain ⟨ix, j, rx, k1, k2, k3, k4, k5, k6, k7, k8, tx, k9⟩ := thrK_all hT hE
  intro H locs ls a1 a2 a3
  have hW := X.2.2.2.2.2.2.2.1
  intro T hTh T1
  have hsz : s.heap.size ≤ H.size := by rw [← hTh]; exact T1.same.2.1
  obtain ⟨h0, hh0⟩ := h0
  have hS : va_S (fun q => g.2.1.heap.size ≤ q) s.heap H locs := ⟨hsz, fun q hq hA => by
    have hq2 : q < g.2.1.heap.size := Nat.not_le.mp hA
    rw [a1.2.1 q hq2, hh0.2.1 q hq2], a2⟩
  have mv : ∀ {n2 d2 : String}, vx_Zq Bundle.tN n2 d2 (fun q => g.2.1.heap.size ≤ q) g.2.1 g.2.1.heap → vx_Zq Bundle.tN n2 d2 (fun q => g.2.1.heap.size ≤ q) s s.heap := fun hz => (vx_Zq.moved hW.alike hz).kept (fun q hq _ => hh0.2.1 q hq)
  refine vy_throwSW X.2.1 X.2.2.1 X.1.2.2 (own := RX11) (cls := E) (Y := "java/lang/RuntimeException") (names := ["java/lang/Exception"]) (ik := ik) (is := is) (ic := ic) (ix := ix) (rx := rx) (A := fun q => g.2.1.heap.size ≤ q) (text := tx) (sa := g.2.2.2 j) X.2.2.2.2.2.2.1 k1 (by decide +kernel) (fun n hn => by rw [List.mem_singleton.mp hn]; decide +kernel) k2 k3 k4 k5
    (X.word (k6 _ (List.mem_cons_self)).1 (k6 _ (List.mem_cons_self)).2 args) (X.word (k6 _ (List.mem_cons_of_mem _ List.mem_cons_self)).1 (k6 _ (List.mem_cons_of_mem _ List.mem_cons_self)).2 args) (vk_R.warm hW k9) (fun w hw => hT.word X.1 hW (k7 w hw).1 (k7 w hw).2 args) k8 (mv hT.2.1) (mv hT.2.2.1) hS (a3.1.trans X.2.2.2.1.symm) d0 d3 d4 d7 d10 (fun x hx => (hout x hx).elim) (by show 1 + 4 < d; omega) (by
      have : ((st.map (qv g)).map fun v => v.category).sum ≤ 30 := by rw [qcat_map]; exact hst
      show _ + (13 * (1 + 2) + 43) ≤ 120 * d; omega) hc hs X.2.2.2.2.2.1 ?_ a2 hc hs T hTh T1
  intro t ht h1 h2
  refine ⟨(t.heap.size - g.2.1.heap.size, h.2), hPX _ (by show h.1 ≤ t.heap.size - g.2.1.heap.size; have := a1.1; omega) rfl, ?_⟩
  have hb := a1.1
  refine ⟨by show t.heap.size = g.2.1.heap.size + (t.heap.size - g.2.1.heap.size); omega, fun q hq => by rw [h2 q (by omega)]; exact a1.2.1 q hq, fun k e hk => ?_⟩
  obtain ⟨z1, z2⟩ := a1.2.2 k e hk
  exact ⟨by show k < t.heap.size - g.2.1.heap.size; omega, z2.kept (h2 _ (by omega))⟩
/-- the rule of a throw -/
def qStepT (d mc ms : Nat) (q : qMr) (PX : String → qH → Prop) (run : qK0) : Prop :=
  ∀ (E : String) (ik is ic pc : Nat) (L : List (Nat × Value)) (st : List Value) (h : qH) (cu su : Nat), thrK E ik is ic → decode q.2.1 pc = .ok (.new ik, 3) → decode q.2.1 (pc + 3) = .ok (.dup, 1) → decode q.2.1 (pc + 4) = .ok (.ldc_w is, 3) → decode q.2.1 (pc + 7) = .ok (.invokespecial ic, 3) → decode q.2.1 (pc + 10) = .ok (.athrow, 1) → 6 ≤ d → qcat st ≤ 30 → cu + 1 ≤ mc → su + 6 ≤ ms → (∀ h' : qH, h.1 ≤ h'.1 → h'.2 = h.2 → PX E h') → run pc L st h cu su
theorem qSpecX_runT {g : qG} {h : qH} {d mc ms : Nat} {P : Option Value → qH → Prop} {PX : String → qH → Prop} {q : qMr} {avs : List Value} (nm : String) (hg : qOK g) (hT : qTHR g) (hq : qMg q) (hnm : q.1.name = nm) (hown : q.1.cls = qown 11) (hsl : (lg_sl avs).length ≤ q.2.2.1)
    (body : ∀ run : qK0, qStep g d mc ms 11 q false P (fun _ _ E h cu su => PX E h ∧ cu ≤ mc ∧ su ≤ ms) run → qStepT d mc ms q PX run → run 0 (lv_args 0 avs) [] h 0 0) : qSpecX g d mc ms q avs h P PX := by
  have hf := qM_facts hq
  refine vx_ofW (cc := q.2.1) (maxL := q.2.2.1) (ret := q.2.2.2.1) hf.2.2.2.2.2.1 rfl ?_
  intro p e s m args below meth c s₁ B hml ht hP
  obtain ⟨ha, hW, hH⟩ := hP
  have hnm' := name_of_methodNamed B.named B.method
  have X : qCtx g p s m meth c (qown 11) nm q.2.1 q.2.2.1 q.2.2.2.1 := ⟨hg, B.exec, B.bytes, hml, B.returns, B.notSynchronized, by rw [← hown]; exact findClass_of_methodNamed B.named, hW, hnm'.1.trans hnm⟩
  have hl := lv_entry (avs.map (qv g)) (n := q.2.2.1) (by
    have e : (lg_sl (avs.map (qv g))).length = (lg_sl avs).length := by
      unfold lg_sl
      rw [List.length_flatMap, List.length_flatMap, List.map_map]
      congr 2
      funext v
      simp only [Function.comp, qv_cat]
      split <;> rfl
    rw [e]; exact hsl)
  rw [ha, lg_entry_eq]
  have hr := body _ ⟨fun sg pc L st h cu su h1 h2 => wpN_ok (e := e) (args := (avs.map (qv g)).toArray) (below := below) X qEnd_x (fun z => by cases z) (fun pc L E h cu su z => qr_out X (fun x hx => (ht x hx).elim) z.1 z.2.1 z.2.2) (fun _ _ _ _ _ _ z => z) sg h1 h2, fun pc L L' st h cu su h1 h2 => q_sub h1 h2⟩
    (fun E ik is ic pc L st h cu su b1 b2 b3 b4 b5 b6 b7 b8 b9 b10 b11 => qr_throw X hT ⟨_, hH⟩ b1 b2 b3 b4 b5 b6 ht b7 b8 b9 b10 b11)
  rw [← ha] at hr
  rw [← ha]
  refine hr s.heap [] _ hH (fun z hz => nomatch hz) ?_
  have e : lv_args 0 (avs.map (qv g)) = qvl g (lv_args 0 avs) := by
    have : ∀ (n : Nat) (l : List Value), lv_args n (l.map (qv g)) = qvl g (lv_args n l) := by
      intro n l
      induction l generalizing n with
      | nil => rfl
      | cons v t ih =>
        simp only [List.map_cons, lv_args, qv_cat, qvl]
        rw [ih]
        rfl
    exact this 0 avs
  rw [← e]
  exact hl
end Q09A
