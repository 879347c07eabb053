section Q15C
section
variable {g : qG} {p : Program} {l : Launch} {e : Env} {R : Room} {s : State} {m : MethodId} {args : Array Value} {below : List Frame} {meth : Method} {c : Code} {Z : State → Prop} {H : Heap} {locs : List Loc} {cu su : Nat} {fr : JFrame}
/-- what is written into new cells alone is no write of the frame's -/
theorem sbn_drop {s s' : State} {locs : List Loc} {c n : Nat} (h : s.sameButNew s' locs c n) (hl : ∀ z ∈ locs, s.heap.size ≤ z.base) : s.sameButNew s' [] c n := by
  obtain ⟨h1, h2, h3, h4, h5, h6⟩ := h
  refine ⟨h1, h2, h3, h4, h5, fun a k hk => ?_⟩
  obtain ⟨c', g1, g2, g3, g4⟩ := h6 a k hk
  refine ⟨c', g1, g2, g3, fun i _ => g4 i (fun q => ?_)⟩
  have h8 : a < s.heap.size := (Array.getElem?_eq_some_iff.mp hk).1
  have h9 : s.heap.size ≤ a := hl _ q
  exact Nat.lt_irrefl _ (Nat.lt_of_lt_of_le h8 h9)
theorem W_drop (hl : ∀ z ∈ locs, s.heap.size ≤ z.base) (k : W p l e R s m args below meth c H [] cu su Z fr) : W p l e R s m args below meth c H locs cu su Z fr := fun T hT X => k T hT { X with same := sbn_drop X.same hl }
theorem hasRoom_le {s : State} {pl : Platform} {r r' : Room} (hf : r.frames ≤ r'.frames) (hl : r.locals ≤ r'.locals) (hc : r.cells ≤ r'.cells) (hs : r.slots ≤ r'.slots) (h : s.hasRoom pl r' = true) : s.hasRoom pl r = true := by
  unfold State.hasRoom at h ⊢
  simp only [Bool.and_eq_true, decide_eq_true_eq] at h ⊢
  obtain ⟨⟨⟨⟨h1, h2, h3, h4, h5, h6⟩, h7⟩, h8⟩, h9⟩ := h
  exact ⟨⟨⟨⟨by omega, by omega, by omega, by omega, by omega, h6⟩, by omega⟩, by omega⟩, h9⟩
theorem W_room {R' : Room} (hf : R'.frames ≤ R.frames) (hl : R'.locals ≤ R.locals) (hc : R'.cells ≤ R.cells) (hs : R'.slots ≤ R.slots) (k : W p l e R' s m args below meth c H locs cu su Z fr) : W p l e R s m args below meth c H locs cu su Z fr := fun T hT X => k T hT { X with room := hasRoom_le hf hl hc hs X.room }
theorem qEnd_no {mc ms : Nat} : qEnd g p e R s m args below meth c mc ms (fun _ _ => False) Z := fun H locs cu su fr k T hT X => by
  obtain ⟨t, a, o, -, -, ⟨v, h', -, hf, -⟩, -⟩ := k T hT X
  exact hf.elim
theorem mStep_of {nm : String} (X : qCtx g p s m meth c (qown 13) nm code 8 (some .boolean)) : mStep g (qRun g p e (qRoom 700 60000 400000) s m args below meth c 8 Z) := by
  refine ⟨fun sg pc L st h cu su h1 h2 => wpN_ok X qEnd_no (ini := false) (fun q => by cases q) (fun _ _ _ _ _ _ z => z.elim) (fun _ _ _ _ _ _ z => z) sg h1 h2, fun pc L L' st h cu su h1 h2 => q_sub h1 h2, ?_⟩
  intro idx pc d mc ms q avs Q L st h cu su h1 h2 h3 h4 h5 h6 h7
  obtain ⟨n1, n2, n3, n4, n5⟩ := qnum_ok h4
  exact qr_callW X h1 h2 h3 h5 n1 n2 n3 n4 n5 h6 h7
/-- the law's own end, at any room -/
theorem lw_end {CC SS : Nat} (hx : p.tables.exec = Jvm.exec) (hb : c.code = code) (hr : meth.sig.returnType = some .boolean) (hlocks : meth.locks = false) {pc : Nat} {ls : Array Slot} (hdg : decode code pc = .ok (.ireturn, 1)) : W p l e R s m args below meth c H [] CC SS (fun t => ∃ o, t.status = .running ∧ Ended t below o ∧ o = .returned (some (.int 1)) ∧ Framed s o t [] CC SS) (F0 m pc ls [.int 1]) := by
  intro T hT X
  obtain ⟨fs, hret, hrun, hended, hW, hframe⟩ := X.leave (v := some (.int 1)) (hlocks := hlocks) (fun h => by rw [hr] at h; cases h)
  have hmeth' : T.vm.method? m = some meth := X.method'
  refine ⟨T.setFrames fs, ?_, .returned (some (.int 1)), hrun, hended, rfl, ⟨_, rfl⟩, hW, hframe⟩
  jvm_step X.here [X.here.top, hx, hb, hdg, hmeth', hr, narrow_b1]
  (try refine ⟨rfl, ?_⟩); (try refine ⟨rfl, ?_⟩)
  first | (intro acts; rw [hret _ acts rfl rfl rfl]) | rw [hret _ _ rfl rfl rfl]
  exact Steps.refl _
theorem main_end {nm : String} {CC SS : Nat} (hCC : 60000 ≤ CC) (hSS : 400000 ≤ SS) (X : qCtx g p s m meth c (qown 13) nm code 8 (some .boolean)) (hg2 : g.2.1 = s) (hgl : g.1 = l) (L : List (Nat × Value)) (h : qH) (cu su : Nat) (hc : cu ≤ 60000) (hs : su ≤ 400000) : qRun g p e R s m args below meth c 8 (fun t => ∃ o, t.status = .running ∧ Ended t below o ∧ o = .returned (some (.int 1)) ∧ Framed s o t [] CC SS) 2891 L [.int 1] h cu su := by
  intro H locs ls a1 a2 a3
  refine W_drop (fun z hz => by rw [← hg2]; exact a2 z hz) ?_
  exact W.widen (Nat.le_trans hc hCC) (Nat.le_trans hs hSS) (lw_end X.2.1 X.2.2.1 X.2.2.2.2.1 X.2.2.2.2.2.1 (by decide +kernel))
end
end Q15C
