/-! THE ROAD: a heap in plain words (cells by number), a run judgement over it (qRun), a row an instruction; later a weakest condition that is computed (wp), and contracts (qSpec). -/
section QC
abbrev qG : Type := Launch × State × va_G × (Nat → Nat)
def q_gd (w : Jvm.Cond) : Bool := (w.onTables && w.keepsH) || (match w with | .arrayClass _ => true | _ => false)
theorem q_at {s U : State} (hW : s.WarmedH U.vm) {w : Jvm.Cond} (hg : q_gd w = true) {a a' : Array Value} (h : w.before a s = true) : w.before a' U = true := by
  unfold q_gd at hg
  rcases (Bool.or_eq_true _ _).mp hg with h1 | h1
  · simp only [Bool.and_eq_true] at h1
    have h2 := Cond.onTables_warmH (T := U) (args' := a') hW h1.1 h1.2 h
    rwa [State.setVm_self] at h2
  · cases w <;> first | exact word_at hW (Or.inr ⟨_, rfl⟩) h | cases h1
abbrev qE : Type := (Nat × List Value) ⊕ ((FieldType × Nat × (Nat → Int32)) ⊕ ((Nat × (Nat → Int64)) ⊕ (String × Nat × (Nat → Option Nat))))
abbrev qH : Type := Nat × (Nat → Option qE)
/-- a cell's number, a constant's number: its address -/
def qv (g : qG) : Value → Value
  | .ref k => .ref (g.2.1.heap.size + k)
  | .retAddr j => .ref (g.2.2.2 j)
  | v => v
def qvl (g : qG) (L : List (Nat × Value)) : List (Nat × Value) := L.map (fun q => (q.1, qv g q.2))
def qAt (g : qG) (a : Nat) (e : qE) (H : Heap) : Prop := match e with
  | .inl o => ∃ r : vw_C, vwCl[o.1]? = some r ∧ t_OB a (g.2.2.1.1 o.1) r.2.2 (g.2.2.1.2 o.1) H (fun k => qv g (vp_V o.2 k))
  | .inr (.inl x) => ∃ cA, H[a]? = some (vp_cell cA (x.2.1, .inl x.2.2)) ∧ ArrOfT g.2.1 cA x.1
  | .inr (.inr (.inl x)) => ∃ cA, H[a]? = some (vp_cell cA (x.1, .inr (.inl x.2))) ∧ ArrOfT g.2.1 cA .long
  | .inr (.inr (.inr x)) => ∃ cA, H[a]? = some (vp_cell cA (x.2.1, .inr (.inr (.inr (.inr (fun i => (x.2.2 i).map (fun k => g.2.1.heap.size + k))))))) ∧ ArrOfT g.2.1 cA (.object x.1) ∧ va_RA g.2.1 cA (.object x.1)
def qHolds (g : qG) (h : qH) (H : Heap) : Prop := H.size = g.2.1.heap.size + h.1 ∧ (∀ q : Nat, q < g.2.1.heap.size → H[q]? = g.2.1.heap[q]?) ∧ ∀ (k : Nat) (e : qE), h.2 k = some e → k < h.1 ∧ qAt g (g.2.1.heap.size + k) e H
def qup (f : Nat → Option qE) (k : Nat) (e : qE) : Nat → Option qE := fun j => if j = k then some e else f j
theorem qup_s {f : Nat → Option qE} {k : Nat} {e : qE} : qup f k e k = some e := if_pos rfl
theorem qup_n {f : Nat → Option qE} {k j : Nat} {e : qE} (h : j ≠ k) : qup f k e j = f j := if_neg h
theorem qAt.kept {g : qG} {a : Nat} {e : qE} {H H1 : Heap} (h : qAt g a e H) (hq : H1[a]? = H[a]?) : qAt g a e H1 := by
  rcases e with o | x | x | x
  · obtain ⟨r, h1, h2⟩ := h
    exact ⟨r, h1, h2.kept hq⟩
  · obtain ⟨cA, h1, h2⟩ := h
    exact ⟨cA, hq.trans h1, h2⟩
  · obtain ⟨cA, h1, h2⟩ := h
    exact ⟨cA, hq.trans h1, h2⟩
  · obtain ⟨cA, h1, h2⟩ := h
    exact ⟨cA, hq.trans h1, h2⟩
theorem qHolds.set {g : qG} {h : qH} {H H1 : Heap} (hh : qHolds g h H) {k : Nat} {e0 e : qE} (hk : h.2 k = some e0) (he : qAt g (g.2.1.heap.size + k) e H1) (hz : H1.size = H.size) (ho : ∀ q : Nat, q ≠ g.2.1.heap.size + k → H1[q]? = H[q]?) : qHolds g (h.1, qup h.2 k e) H1 := by
  refine ⟨hz.trans hh.1, fun q hq => ?_, fun j x hx => ?_⟩
  · rw [ho q (by omega)]
    exact hh.2.1 q hq
  · by_cases hj : j = k
    · subst hj
      have hx : qup h.2 j e j = some x := hx
      rw [qup_s] at hx
      cases hx
      exact ⟨(hh.2.2 _ _ hk).1, he⟩
    · have hx : qup h.2 k e j = some x := hx
      rw [qup_n hj] at hx
      obtain ⟨h1, h2⟩ := hh.2.2 j x hx
      exact ⟨h1, h2.kept (ho _ (by omega))⟩
theorem qHolds.push {g : qG} {h : qH} {H H1 : Heap} (hh : qHolds g h H) {e : qE} (he : qAt g H.size e H1) (hz : H1.size = H.size + 1) (ho : ∀ q : Nat, q < H.size → H1[q]? = H[q]?) : qHolds g (h.1 + 1, qup h.2 h.1 e) H1 := by
  have hs := hh.1
  refine ⟨by show H1.size = g.2.1.heap.size + (h.1 + 1); omega, fun q hq => ?_, fun j x hx => ?_⟩
  · rw [ho q (by omega)]
    exact hh.2.1 q hq
  · by_cases hj : j = h.1
    · subst hj
      have hx : qup h.2 h.1 e h.1 = some x := hx
      rw [qup_s] at hx
      cases hx
      exact ⟨Nat.lt_succ_self _, by rw [← hs]; exact he⟩
    · have hx : qup h.2 h.1 e j = some x := hx
      rw [qup_n hj] at hx
      obtain ⟨h1, h2⟩ := hh.2.2 j x hx
      exact ⟨Nat.lt_succ_of_lt h1, h2.kept (ho _ (by omega))⟩
theorem qv_cat (g : qG) (v : Value) : (qv g v).category = v.category := by cases v <;> rfl
/-- the static facts -/
def qOK (g : qG) : Prop := (∀ w ∈ lw_tbl, q_gd w = true → w.before #[] g.2.1 = true) ∧ va_K g.2.2.1 vwCl [] g.2.1 ∧ g.1.stackTraces = false
/-- what a walk stands on: the machine, the code, the method -/
def qCtx (g : qG) (p : Program) (s : State) (m : MethodId) (meth : Method) (c : Code) (own : String) (nm : String) (cc : ByteArray) (nL : Nat) (ret : Option FieldType) : Prop :=
  qOK g ∧ p.tables.exec = Jvm.exec ∧ c.code = cc ∧ c.maxLocals = nL ∧ meth.sig.returnType = ret ∧ meth.locks = false ∧ s.vm.findClass own = some m.cls ∧ g.2.1.WarmedH s.vm ∧ meth.name = nm
theorem qCtx.word {g : qG} {p : Program} {s : State} {m : MethodId} {meth : Method} {c : Code} {own nm : String} {cc : ByteArray} {nL : Nat} {ret : Option FieldType} (X : qCtx g p s m meth c own nm cc nL ret) {w : Jvm.Cond} (hw : w ∈ lw_tbl) (hg : q_gd w = true) (a : Array Value) : w.before a s = true := q_at X.2.2.2.2.2.2.2.1 hg (X.1.1 w hw hg)
theorem qCtx.K {g : qG} {p : Program} {s : State} {m : MethodId} {meth : Method} {c : Code} {own nm : String} {cc : ByteArray} {nL : Nat} {ret : Option FieldType} (X : qCtx g p s m meth c own nm cc nL ret) : va_K g.2.2.1 vwCl [] s := va_K.moved X.2.2.2.2.2.2.2.1.alike X.1.2.1
def qRun (g : qG) (p : Program) (e : Env) (R : Room) (s : State) (m : MethodId) (args : Array Value) (below : List Frame) (meth : Method) (c : Code) (nL : Nat) (Z : State → Prop) (pc : Nat) (L : List (Nat × Value)) (st : List Value) (h : qH) (cu su : Nat) : Prop :=
  ∀ (H : Heap) (locs : List Loc) (ls : Array Slot), qHolds g h H → (∀ z ∈ locs, g.2.1.heap.size ≤ z.base) → lv_has ls nL (qvl g L) → W p g.1 e R s m args below meth c H locs cu su Z (F0 m pc ls (st.map (qv g)))
def qld (L : List (Nat × Value)) (i : Nat) : Option Value := match L with
  | [] => none
  | q :: t => bif q.1 == i then some q.2 else qld t i
def qs1 (L : List (Nat × Value)) (i : Nat) (v : Value) : List (Nat × Value) := (i, v) :: L.filter (fun q => !(q.1 == i) && !(q.1 + 1 == i && q.2.category == 2))
def qs2 (L : List (Nat × Value)) (i : Nat) (v : Value) : List (Nat × Value) := (i, v) :: L.filter (fun q => !(q.1 == i) && (!(q.1 == i + 1) && !(q.1 + 1 == i && q.2.category == 2)))
theorem qld_mem : ∀ {L : List (Nat × Value)} {i : Nat} {v : Value}, qld L i = some v → (i, v) ∈ L
  | [], i, v, h => by cases h
  | q :: t, i, v, h => by
    unfold qld at h
    cases hq : q.1 == i with
    | true =>
      rw [hq] at h
      have e := eq_of_beq hq
      cases h
      rw [← e]
      exact List.mem_cons_self
    | false =>
      rw [hq] at h
      exact List.mem_cons_of_mem _ (qld_mem h)
theorem qld_at {g : qG} {ls : Array Slot} {nL : Nat} {L : List (Nat × Value)} (hl : lv_has ls nL (qvl g L)) {i : Nat} {v : Value} (h : qld L i = some v) : ls[i]? = some (.val (qv g v)) := hl.2.2 (i, qv g v) (List.mem_map.mpr ⟨(i, v), qld_mem h, rfl⟩)
theorem qvl_s1 (g : qG) (L : List (Nat × Value)) (i : Nat) (v : Value) : qvl g (qs1 L i v) = (i, qv g v) :: (qvl g L).filter (fun q => !(q.1 == i) && !(q.1 + 1 == i && q.2.category == 2)) := by
  show (i, qv g v) :: (L.filter _).map _ = _
  rw [qvl, List.filter_map]
  congr 3
  funext q
  simp only [Function.comp, qv_cat]
theorem qvl_s2 (g : qG) (L : List (Nat × Value)) (i : Nat) (v : Value) : qvl g (qs2 L i v) = (i, qv g v) :: (qvl g L).filter (fun q => !(q.1 == i) && (!(q.1 == i + 1) && !(q.1 + 1 == i && q.2.category == 2))) := by
  show (i, qv g v) :: (L.filter _).map _ = _
  rw [qvl, List.filter_map]
  congr 3
  funext q
  simp only [Function.comp, qv_cat]
end QC
