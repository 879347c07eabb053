section Q14A
/-- a method of the law that catches: name, code, locals, arguments, handlers -/
abbrev qWr : Type := MethodName × ByteArray × Nat × Nat × List (Nat × Nat × Nat × Nat)
def qWg (q : qWr) : Prop := Jvm.Cond.codeWith q.1 q.2.1 q.2.2.1 (some .int) q.2.2.2.2 ∈ lw_tbl ∧ Jvm.Cond.static q.1 ∈ lw_tbl ∧ Jvm.Cond.initialized q.1.cls ∈ lw_tbl ∧ (parseMethodDescriptor q.1.desc).map (fun z => z.parameters.length) = some q.2.2.2.1 ∧ plainName q.1.cls = true ∧ q.2.2.1 ≤ 60 ∧ (q.1.cls ≠ "java/lang/invoke/MethodHandle" ∧ q.1.cls ≠ "java/lang/invoke/VarHandle")
def qSpecW (g : qG) (d mc ms : Nat) (q : qWr) (avs : List Value) (h : qH) (P : Option Value → qH → Prop) : Prop :=
  Met g.1 q.1 [.codeWith q.1 q.2.1 q.2.2.1 (some .int) q.2.2.2.2] (qRoom d mc ms) (qPc g avs h) (qQc g P) mc ms (qfree g)
/-- none of the three classes is another's -/
def qCAT (g : qG) : Prop := ∀ j k : Nat, j < 3 → k < 3 → j ≠ k → va_Nc (exN j) (exN k) g.2.1
theorem cst_k : ∀ k : Nat, k < 3 → Jvm.Cond.castable (exN k) (exN k) ∈ lw_tbl ∧ q_gf (Jvm.Cond.castable (exN k) (exN k)) = true := by
  intro k hk
  match k, hk with
  | 0, _ => exact ⟨qat_in (p := (5, 88)) (by decide +kernel), by decide +kernel⟩
  | 1, _ => exact ⟨qat_in (p := (3, 204)) (by decide +kernel), by decide +kernel⟩
  | 2, _ => exact ⟨qat_in (p := (5, 181)) (by decide +kernel), by decide +kernel⟩
theorem clk_1 : Jvm.Cond.classLink (qown 13) 13 (exN 1) ∈ lw_tbl := qat_in (p := (3, 188)) (by decide +kernel)
theorem clk_0 : Jvm.Cond.classLink (qown 13) 31 (exN 0) ∈ lw_tbl := qat_in (p := (5, 73)) (by decide +kernel)
theorem clk_2 : Jvm.Cond.classLink (qown 13) 54 (exN 2) ∈ lw_tbl := qat_in (p := (5, 170)) (by decide +kernel)
section
variable {g : qG} {p : Program} {e : Env} {R : Room} {s : State} {m : MethodId} {args : Array Value} {below : List Frame} {meth : Method} {c : Code} {nL : Nat} {Z : State → Prop} {nm own : String} {cc : ByteArray} {ret : Option FieldType} {pc : Nat} {L : List (Nat × Value)} {st : List Value} {h : qH} {cu su : Nat}
theorem q_backW (X : qCtx g p s m meth c own nm cc nL ret) {d mc ms : Nat} {q : qWr} {avs : List Value} {P : Option Value → qH → Prop} (hm : qWg q) (hS : qSpecW g d mc ms q avs h P) (hfr : d + 1 ≤ R.frames) (hlo : 120 * d + 101 ≤ R.locals) : Back g.1 R p e below s args q.1 3 30 (PreOf R mc ms (qPc g avs h)) (PostOf (qQc g P) mc ms (qfree g)) := by
  refine va_backW (hh := q.2.2.2.2) (bytes := q.2.1) (maxL := q.2.2.1) (ret := some .int) hS (qPc_blind g avs h) rfl rfl hfr ?_ (fun w hw a' U hW => by rw [List.mem_singleton.mp hw]; exact q_at hW rfl (X.word hm.1 rfl #[])) List.mem_cons_self (fun a' U hW => q_at hW rfl (X.word hm.2.2.1 rfl #[]))
  show 30 + (q.2.2.1 + 11) + 120 * d ≤ R.locals
  have := hm.2.2.2.2.2.1
  omega
theorem qr_callW (X : qCtx g p s m meth c (qown 13) nm cc nL ret) {idx d mc ms : Nat} {q : qWr} {avs : List Value} {P : Option Value → qH → Prop} (hlk : Jvm.Cond.methodLink (qown 13) idx q.1 ∈ lw_tbl) (hq : qWg q) (hna : avs.length = q.2.2.2.1) (hS : qSpecW g d mc ms q avs h P) (hfr : d + 1 ≤ R.frames) (hlo : 120 * d + 101 ≤ R.locals) (hcu : cu + mc ≤ R.cells) (hsu : su + ms ≤ R.slots) (hst : (st.map Value.category).sum ≤ 30) (hd : decode cc pc = .ok (.invokestatic idx, 3))
    (kk : ∀ v h', P v h' → qRun g p e R s m args below meth c nL Z (pc + 3) L (v.toList ++ st) h' (cu + mc) (su + ms)) : qRun g p e R s m args below meth c nL Z pc L (avs.reverse ++ st) h cu su := by
  intro H locs ls a1 a2 a3 T hT T1
  obtain ⟨v, vm₁, B, hW₁, X', hpost, hst'⟩ := vx_callSW T1 X.2.1 (hh := q.2.2.2.2) (bytes := q.2.1) (maxL := q.2.2.1) (ret := some .int) X.2.2.2.2.2.2.1 (X.word hlk rfl args) (X.word hq.2.1 rfl args) (X.word hq.2.2.1 rfl args) (X.word hq.1 rfl args) hq.2.2.2.2.2.2 (q_backW X (args := args) (e := e) (below := below) hq hS hfr hlo) (g := F0 m pc ls ((avs.reverse ++ st).map (qv g))) rfl (a3.1.trans X.2.2.2.1.symm) (argsL := avs.map (qv g)) (rest := st.map (qv g)) (fun sig hs => by
      rw [List.length_map, hna]
      have h1 := hq.2.2.2.1
      rw [hs] at h1
      exact (Option.some.inj h1).symm) (q_revS g avs st) (by rw [qcat_map]; show 2 * 0 + _ ≤ 30; omega) (by rw [X.2.2.1]; exact hd)
    (fun vm₁ hW₁ => ⟨hcu, hsu, rfl, State.WarmedH.trans X.2.2.2.2.2.2.2.1 hW₁, by show qHolds g h T.heap; rw [hT]; exact a1⟩)
  exact q_after X a2 a3 X' hpost hst' kk
end
/-- a contract of a method of the law that catches: what a body owes -/
theorem qSpecW_run {g : qG} {h : qH} {d mc ms : Nat} {P : Option Value → qH → Prop} {q : qWr} {avs : List Value} (hg : qOK g) (hT : qTHR g) (hC : qCAT g) (hq : qWg q) (hown : q.1.cls = qown 13) (hsl : (lg_sl avs).length ≤ q.2.2.1)
    (body : ∀ (run : qK0) (thr : Nat → List (Nat × Value) → String → qH → Nat → Nat → Prop), (∀ (sg : List qEl) (pc : Nat) (L : List (Nat × Value)) (st : List Value) (h : qH) (cu su : Nat), qsg q.2.1 13 q.2.2.1 false pc sg = true → wpN g 13 d mc ms (some .int) P thr run sg pc L st h cu su → run pc L st h cu su) →
      (∀ (pre suf : List (Nat × Nat × Nat × Nat)) (x : Nat × Nat × Nat × Nat) (k i len pc : Nat) (L : List (Nat × Value)) (h : qH) (cu su : Nat), q.2.2.2.2 = pre ++ x :: suf → (∀ z ∈ pre, z.2.2.2 ≠ 0 ∧ ∃ j : Nat, j < 3 ∧ j ≠ k ∧ Jvm.Cond.classLink (qown 13) z.2.2.2 (exN j) ∈ lw_tbl) → k < 3 → (x.1 ≤ pc ∧ pc < x.2.1) → x.2.2.2 ≠ 0 → Jvm.Cond.classLink (qown 13) x.2.2.2 (exN k) ∈ lw_tbl → ((decode q.2.1 x.2.2.1 = .ok (.astore i, 2) ∧ len = 2) ∨ ∃ f : Fin 4, (f : Nat) = i ∧ decode q.2.1 x.2.2.1 = .ok (.astore_n f, 1) ∧ len = 1) → i < q.2.2.1 → L.all (fun z => !(z.1 == i) && !(z.1 + 1 == i && z.2.category == 2)) = true → run (x.2.2.1 + len) L [] h cu su → thr pc L (exN k) h cu su) →
      run 0 (lv_args 0 avs) [] h 0 0) : qSpecW g d mc ms q avs h P := by
  unfold qSpecW Met
  refine MetFree.of_bodyS (code := q.2.1) (maxLocals := q.2.2.1) (ret := some .int) hq.2.2.2.2.1 ?_ ?_
  · intro args s m h hn
    obtain ⟨m9, meth, c, hn9, h1, h2, h3, h4, -, h5, h6, -⟩ := Cond.codeWith_spec (atoms_spec (ws := [Jvm.Cond.codeWith q.1 q.2.1 q.2.2.1 (some .int) q.2.2.2.2]) h _ List.mem_cons_self)
    cases hn.symm.trans hn9
    exact ⟨meth, c, h1, h2, h3, h4, h5, h6⟩
  · intro p e s m args below meth c s₁ B hml hP _
    have hh0 : s₁.heap = s.heap := by rw [B.state]; rfl
    obtain ⟨ha, hW, hH⟩ := hP
    have hcw : (Jvm.Cond.codeWith q.1 q.2.1 q.2.2.1 (some .int) q.2.2.2.2).before args s = true := atoms_spec (ws := [Jvm.Cond.codeWith q.1 q.2.1 q.2.2.1 (some .int) q.2.2.2.2]) B.pre _ List.mem_cons_self
    have htab := vx_table (x := q.1) B hcw
    have X : qCtx g p s m meth c (qown 13) meth.name q.2.1 q.2.2.1 (some .int) := ⟨hg, B.exec, B.bytes, hml, B.returns, B.notSynchronized, by rw [← hown]; exact findClass_of_methodNamed B.named, hW, rfl⟩
    have hl := lv_entry (avs.map (qv g)) (n := q.2.2.1) (by
      have e : (lg_sl (avs.map (qv g))).length = (lg_sl avs).length := by
        unfold lg_sl
        rw [List.length_flatMap, List.length_flatMap, List.map_map]
        congr 2
        funext v
        simp only [Function.comp, qv_cat]
        split <;> rfl
      rw [e]; exact hsl)
    have key : W p g.1 e (qRoom d mc ms) s m args below meth c s.heap [] 0 0 (MQ below (qQc g P) args s mc ms (qfree g)) (entryFrame m args q.2.2.1) := by
      have hr := body (qRun g p e (qRoom d mc ms) s m args below meth c q.2.2.1 (MQ below (qQc g P) args s mc ms (qfree g))) (qThr g p e (qRoom d mc ms) s m args below meth c q.2.2.1 (MQ below (qQc g P) args s mc ms (qfree g))) (fun sg pc L st h cu su h1 h2 => wpN_ok X qEnd_m (fun z => by cases z) (fun _ _ _ _ _ _ z => z) (fun _ _ _ _ _ _ z => z) sg h1 h2) ?_
      · rw [ha, lg_entry_eq]
        rw [← ha]
        refine hr s.heap [] _ hH (fun z hz => nomatch hz) ?_
        have e : lv_args 0 (avs.map (qv g)) = qvl g (lv_args 0 avs) := by
          have : ∀ (n : Nat) (l : List Value), lv_args n (l.map (qv g)) = qvl g (lv_args n l) := by
            intro n l
            induction l generalizing n with
            | nil => rfl
            | cons v t ih =>
              simp only [List.map_cons, lv_args, qv_cat, qvl]
              rw [ih]
              rfl
          exact this 0 avs
        rw [← e]
        exact hl
      · intro pre suf x k i len pc L h cu su hsplit hpre hk hcov h0 hlink hast hi hall hrun H locs ls rest q0 ce a1 a2 a3 h1 h2 h3
        have hls : ∀ ls' : Array Slot, lv_has ls' q.2.2.1 ((i, Value.ref q0) :: (qvl g L).filter (fun q => !(q.1 == i) && !(q.1 + 1 == i && q.2.category == 2))) → lv_has ls' q.2.2.1 (qvl g L) := fun ls' hz => ⟨hz.1, hz.2.1, fun z hz2 => hz.2.2 z (List.mem_cons_of_mem _ (List.mem_filter.mpr ⟨hz2, by
          obtain ⟨z0, hz0, rfl⟩ := List.mem_map.mp hz2
          have h4 := List.all_eq_true.mp hall z0 hz0
          show (!(z0.1 == i) && !(z0.1 + 1 == i && (qv g z0.2).category == 2)) = true
          rw [qv_cat]
          exact h4⟩))⟩
        refine vx_catch (own := qown 13) (name := exN k) (E := exN k) X.2.2.2.2.2.2.1 (tableOf pre) ⟨x.1, x.2.1, x.2.2.1, x.2.2.2⟩ (tableOf suf) (by rw [htab, hsplit]; unfold tableOf; rw [List.map_append, List.map_cons]) (fun z hz => Or.inr ?_) (by show (decide (x.1 ≤ pc) && decide (pc < x.2.1)) = true; rw [decide_eq_true hcov.1, decide_eq_true hcov.2]; rfl) h0 (X.word hlink rfl args) (hT.word hg hW (cst_k k hk).1 (cst_k k hk).2 args) h1 h2 h3 ?_
        · obtain ⟨z0, hz0, rfl⟩ := List.mem_map.mp hz
          obtain ⟨b1, j, b2, b3, b4⟩ := hpre z0 hz0
          exact ⟨b1, exN j, X.word b4 rfl args, (hC k j hk b2 (Ne.symm b3)).moved hW.alike⟩
        · rcases hast with ⟨hd, rfl⟩ | ⟨f, hf, hd, rfl⟩
          · exact lv_astore X.2.1 X.2.2.1 hd a3 hi rfl (fun ls' hz => hrun H locs ls' a1 a2 (hls ls' hz))
          · exact lv_astore_n X.2.1 X.2.2.1 hd hf a3 hi rfl (fun ls' hz => hrun H locs ls' a1 a2 (hls ls' hz))
    obtain ⟨t, a1, o, b1, b2, b3⟩ := key s₁ hh0 (Stand.of_body B)
    exact ⟨t, o, a1, b1, b2, b3⟩
end Q14A
