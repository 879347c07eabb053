section Q08C
/-- a constant object of the old heap, its class by name -/
def qSO (g : qG) (j : Nat) (cls : String) : Prop := ∃ cell : Cell, g.2.1.heap[g.2.2.2 j]? = some cell ∧ cell.vm.isStatics = false ∧ g.2.1.vm.findClass cls = some cell.cls
theorem qr_callR {g : qG} {p : Program} {e : Env} {R : Room} {s : State} {m : MethodId} {args : Array Value} {below : List Frame} {meth : Method} {c : Code} {nL : Nat} {Z : State → Prop} {nm : String} {cc : ByteArray} {ret : Option FieldType} {pc : Nat} {L : List (Nat × Value)} {st : List Value} {h : qH} {cu su ow : Nat} (X : qCtx g p s m meth c (qown ow) nm cc nL ret) {idx d mc ms j : Nat} {q : qMr} {avs : List Value} {P : Option Value → qH → Prop} (hlk : qLk ow idx q) (hkd : q.2.2.2.2.2.1 = 0) (hna : avs.length = q.2.2.2.2.1) (hS : qSpec g d mc ms q (.retAddr j :: avs) h P) (hO : qSO g j q.1.cls) (hfr : d + 1 ≤ R.frames) (hlo : 120 * d + 101 ≤ R.locals) (hcu : cu + mc ≤ R.cells) (hsu : su + ms ≤ R.slots) (hst : (st.map Value.category).sum ≤ 30) (hd : decode cc pc = .ok (.invokevirtual idx, 3))
    (kk : ∀ v h', P v h' → qRun g p e R s m args below meth c nL Z (pc + 3) L (v.toList ++ st) h' (cu + mc) (su + ms)) : qRun g p e R s m args below meth c nL Z pc L (avs.reverse ++ .retAddr j :: st) h cu su := by
  intro H locs ls a1 a2 a3 T hT T1
  have hf := qM_facts hlk.2
  obtain ⟨cellB, g1, g2, g3⟩ := hO
  have g1' : H[g.2.2.2 j]? = some cellB := by rw [a1.2.1 _ (Array.getElem?_eq_some_iff.mp g1).1]; exact g1
  have g3' : s.vm.findClass q.1.cls = some cellB.cls := by rw [X.2.2.2.2.2.2.2.1.alike.findClass]; exact g3
  obtain ⟨v, vm₁, B, hW₁, X', hpost, hst'⟩ := callV T1 X.2.1 (C := q.1.cls) (bytes := q.2.1) (maxL := q.2.2.1) (ret := q.2.2.2.1) X.2.2.2.2.2.2.1 (X.word hlk.1.1 hlk.1.2 args) (X.word (hf.1 hkd).1 rfl args) (X.word (hf.1 hkd).2 rfl args) (X.word hlk.2.1 rfl args) hf.2.2.2.2.2.2.2 (q_back X (args := args) (e := e) (below := below) hlk.2 hS hfr hlo) (by rw [hT]; exact g1') g2 g3' (g := F0 m pc ls ((avs.reverse ++ .retAddr j :: st).map (qv g))) rfl (a3.1.trans X.2.2.2.1.symm) (argsL := avs.map (qv g)) (rest := st.map (qv g)) (fun sig hs => by rw [List.length_map, hna]; exact hf.2.2.2.2.1 sig hs) (q_rev g avs (.retAddr j) st) (by rw [qcat_map]; show 2 * 0 + _ ≤ 30; omega) (by rw [X.2.2.1]; exact hd)
    (fun vm₁ hW₁ => ⟨hcu, hsu, rfl, State.WarmedH.trans X.2.2.2.2.2.2.2.1 hW₁, by show qHolds g h T.heap; rw [hT]; exact a1⟩)
  exact q_after X a2 a3 X' hpost hst' kk
/-- the rule of a call on a constant object -/
def qStepR (g : qG) (d mc ms ow : Nat) (q : qMr) (run : qK0) : Prop :=
  ∀ (idx pc d2 mc2 ms2 j : Nat) (q2 : qMr) (avs : List Value) (Q : Option Value → qH → Prop) (L : List (Nat × Value)) (st : List Value) (h : qH) (cu su : Nat), qLk ow idx q2 → (q2.2.2.2.2.2.1 = 0 ∧ avs.length = q2.2.2.2.2.1) → qSO g j q2.1.cls → qnum d d2 mc mc2 cu ms ms2 su st = true → decode q.2.1 pc = .ok (.invokevirtual idx, 3) → qSpec g d2 mc2 ms2 q2 (.retAddr j :: avs) h Q → (∀ y h2, Q y h2 → run (pc + 3) L (y.toList ++ st) h2 (cu + mc2) (su + ms2)) → run pc L (avs.reverse ++ .retAddr j :: st) h cu su
theorem qSpec_runR {g : qG} {h : qH} {d mc ms : Nat} {P : Option Value → qH → Prop} {q : qMr} {avs : List Value} (ow : Nat) (nm : String) (ini : Bool) (hg : qOK g) (hq : qMg q) (hnm : q.1.name = nm) (hown : q.1.cls = qown ow) (hsl : (lg_sl avs).length ≤ q.2.2.1) (hin : ini = true → nm = "<init>")
    (body : ∀ run : qK0, qStep g d mc ms ow q ini P (fun _ _ _ _ _ _ => False) run → qStepR g d mc ms ow q run → run 0 (lv_args 0 avs) [] h 0 0) : qSpec g d mc ms q avs h P := by
  refine qSpec_of hg hq hnm hown hsl ?_
  intro p e s m args below meth c X
  refine body _ ⟨fun sg pc L st h cu su h1 h2 => wpN_ok X qEnd_m hin (fun _ _ _ _ _ _ z => z.elim) (fun _ _ _ _ _ _ z => z) sg h1 h2, fun pc L L' st h cu su h1 h2 => q_sub h1 h2⟩ ?_
  intro idx pc d2 mc2 ms2 j q2 avs Q L st h cu su h1 h2 h3 h4 h5 h6 h7
  obtain ⟨n1, n2, n3, n4, n5⟩ := qnum_ok h4
  exact qr_callR X h1 h2.1 h2.2 h6 h3 n1 n2 n3 n4 n5 h5 h7
/-- a String constant j: its bytes jv, its length, its letters -/
def qSTR (g : qG) (j jv n : Nat) (f : Nat → Nat) : Prop := qSO g j RJ0 ∧ qSF g RJ0 9 j (.retAddr jv) ∧ qSF g RJ0 15 j (.int 0) ∧ qScr g .byte jv n (fun i => nI (f i)) ∧ n < 1000 ∧ ∀ i : Nat, i < n → f i < 128
/-- the JDK's own statics -/
def qJDK (g : qG) : Prop := qGS g RJ0 38 (.int 1) ∧ (qGS g RJ0 1053 .null ∨ qGS g RJ0 1053 (.retAddr 2))
theorem J_coder {g : qG} (hg : qOK g) (hJ : qJDK g) {h : qH} {j jv n : Nat} {f : Nat → Nat} (hS : qSTR g j jv n f) : qSpec g 1 0 0 mJ0_coder_7d493 [.retAddr j] h (fun r h' => r = some (.int 0) ∧ h' = h) := by
  refine qSpec_run 14 "coder" false hg mJ0_coder_7d493_ok rfl rfl (Nat.le_of_ble_eq_true rfl) (by decide) ?_
  intro run step
  refine step.1 _ _ _ _ _ _ _ sgJ0_coder_7d493_0_ok ?_
  refine ⟨_, hJ.1, fun c => absurd c (by decide), fun c => ⟨_, hS.2.2.1, ?_⟩⟩
  refine step.1 _ _ _ _ _ _ _ sgJ0_coder_7d493_14_ok ?_
  exact ⟨.byte, rfl, rfl, Nat.le_refl _, Nat.le_refl _, rfl, rfl⟩
theorem J_isLatin1 {g : qG} (hg : qOK g) (hJ : qJDK g) {h : qH} {j jv n : Nat} {f : Nat → Nat} (hS : qSTR g j jv n f) : qSpec g 1 0 0 mJ0_isLatin1_aae02 [.retAddr j] h (fun r h' => r = some (.int 1) ∧ h' = h) := by
  refine qSpec_run 14 "isLatin1" false hg mJ0_isLatin1_aae02_ok rfl rfl (Nat.le_of_ble_eq_true rfl) (by decide) ?_
  intro run step
  refine step.1 _ _ _ _ _ _ _ sgJ0_isLatin1_aae02_0_ok ?_
  refine ⟨_, hJ.1, fun c => absurd c (by decide), fun c => ⟨_, hS.2.2.1, fun c2 => absurd rfl c2, fun c2 => ?_⟩⟩
  refine step.1 _ _ _ _ _ _ _ sgJ0_isLatin1_aae02_18_ok ?_
  exact ⟨.boolean, rfl, rfl, Nat.le_refl _, Nat.le_refl _, rfl, rfl⟩
theorem J_length {g : qG} (hg : qOK g) (hJ : qJDK g) {h : qH} {j jv n : Nat} {f : Nat → Nat} (hS : qSTR g j jv n f) : qSpec g 2 0 0 mJ0_length_8abf5 [.retAddr j] h (fun r h' => r = some (.int (nI n)) ∧ h' = h) := by
  refine qSpec_runR 14 "length" false hg mJ0_length_8abf5_ok rfl rfl (Nat.le_of_ble_eq_true rfl) (by decide) ?_
  intro run step stepR
  refine step.1 _ _ _ _ _ _ _ srJ0_length_8abf5_0_ok ?_
  refine ⟨_, hS.2.1, _, _, _, hS.2.2.2.1, ?_⟩
  refine stepR 335 6 1 0 0 j _ [] _ _ [.int (nI n)] _ _ _ qi_14_335 ⟨rfl, rfl⟩ hS.1 rfl (by decide +kernel) (J_coder hg hJ hS) (fun y h2 hy => ?_)
  obtain ⟨rfl, rfl⟩ := hy
  refine step.1 _ _ _ _ _ _ _ srJ0_length_8abf5_9_ok ?_
  refine ⟨.int, rfl, rfl, Nat.le_refl _, Nat.le_refl _, ?_, rfl⟩
  have e : (nI n >>> ((0 : Int32) &&& 31)) = nI n := by
    have q := pk_shrN (n := n) (by have := hS.2.2.2.2.1; omega) ((0 : Int32) &&& 31) 0 (by decide)
    rw [q]
    congr 1
    omega
  exact congrArg (fun z => some (Value.int z)) e
theorem J_check3 {g : qG} (hg : qOK g) {h : qH} {n i : Nat} (hn : n < 1000) (hi : i < n) : qSpec g 1 0 0 mJ3_checkIndex_8e157 [.int (nI i), .int (nI n), .retAddr 2] h (fun r h' => r = some (.int (nI i)) ∧ h' = h) := by
  refine qSpec_run 17 "checkIndex" false hg mJ3_checkIndex_8e157_ok rfl rfl (Nat.le_of_ble_eq_true rfl) (by decide) ?_
  intro run step
  refine step.1 _ _ _ _ _ _ _ sgJ3_checkIndex_8e157_0_ok ?_
  refine ⟨fun c => absurd c (h_nn (by omega)), fun c => ⟨fun c2 => ?_, fun c2 => absurd (nI_lt hi (by omega)) c2⟩⟩
  refine step.1 _ _ _ _ _ _ _ sgJ3_checkIndex_8e157_16_ok ?_
  exact ⟨.int, rfl, rfl, Nat.le_refl _, Nat.le_refl _, rfl, rfl⟩
theorem J_check3n {g : qG} (hg : qOK g) {h : qH} {n i : Nat} (hn : n < 1000) (hi : i < n) : qSpec g 1 0 0 mJ3_checkIndex_8e157 [.int (nI i), .int (nI n), .null] h (fun r h' => r = some (.int (nI i)) ∧ h' = h) := by
  refine qSpec_run 17 "checkIndex" false hg mJ3_checkIndex_8e157_ok rfl rfl (Nat.le_of_ble_eq_true rfl) (by decide) ?_
  intro run step
  refine step.1 _ _ _ _ _ _ _ sgJ3_checkIndex_8e157_0_ok ?_
  refine ⟨fun c => absurd c (h_nn (by omega)), fun c => ⟨fun c2 => ?_, fun c2 => absurd (nI_lt hi (by omega)) c2⟩⟩
  refine step.1 _ _ _ _ _ _ _ sgJ3_checkIndex_8e157_16_ok ?_
  exact ⟨.int, rfl, rfl, Nat.le_refl _, Nat.le_refl _, rfl, rfl⟩
theorem J_check {g : qG} (hg : qOK g) (hJ : qJDK g) {h : qH} {n i : Nat} (hn : n < 1000) (hi : i < n) : qSpec g 2 0 0 mJ0_checkIndex_df160 [.int (nI i), .int (nI n)] h (fun r h' => r = none ∧ h' = h) := by
  refine qSpec_run 14 "checkIndex" false hg mJ0_checkIndex_df160_ok rfl rfl (Nat.le_of_ble_eq_true rfl) (by decide) ?_
  intro run step
  refine step.1 _ _ _ _ _ _ _ sgJ0_checkIndex_df160_0_ok ?_
  rcases hJ.2 with hJ2 | hJ2
  · refine ⟨_, hJ2, Or.inl ⟨rfl, _, 1, 0, 0, _, Or.inl qi_14_1059, ⟨rfl, rfl⟩, rfl, rfl, J_check3n hg hn hi, fun y h2 hy => ?_⟩⟩
    obtain ⟨rfl, rfl⟩ := hy
    exact ⟨rfl, rfl, Nat.le_refl _, Nat.le_refl _, rfl, rfl⟩
  · refine ⟨_, hJ2, Or.inl ⟨rfl, _, 1, 0, 0, _, Or.inl qi_14_1059, ⟨rfl, rfl⟩, rfl, rfl, J_check3 hg hn hi, fun y h2 hy => ?_⟩⟩
    obtain ⟨rfl, rfl⟩ := hy
    exact ⟨rfl, rfl, Nat.le_refl _, Nat.le_refl _, rfl, rfl⟩
theorem J_char0 : ∀ w : Nat, w < 128 → ((nI w &&& 255 : Int32).toUInt32 % 65536).toInt32 = nI w ∧ narrow .char (.int (nI w)) = .int (nI w) := by decide +kernel
theorem J_char1 {g : qG} (hg : qOK g) (hJ : qJDK g) {h : qH} {j jv n : Nat} {f : Nat → Nat} (hS : qSTR g j jv n f) {i : Nat} (hi : i < n) : qSpec g 3 0 0 mJ1_charAt_3b067 [.retAddr jv, .int (nI i)] h (fun r h' => r = some (.int (nI (f i))) ∧ h' = h) := by
  refine qSpec_run 15 "charAt" false hg mJ1_charAt_3b067_ok rfl rfl (Nat.le_of_ble_eq_true rfl) (by decide) ?_
  intro run step
  have hn := hS.2.2.2.2.1
  refine step.1 _ _ _ _ _ _ _ sgJ1_charAt_3b067_0_ok ?_
  refine ⟨_, _, _, hS.2.2.2.1, Or.inl ⟨rfl, _, 2, 0, 0, _, Or.inl qi_15_9, ⟨rfl, rfl⟩, rfl, rfl, J_check hg hJ hn hi, fun y h2 hy => ?_⟩⟩
  obtain ⟨rfl, rfl⟩ := hy
  have e := J_char0 (f i) (hS.2.2.2.2.2 i hi)
  refine ⟨_, _, hS.2.2.2.1, vp_in_nI hi (by omega), ?_⟩
  have e2 : (((nI (f (nI i).toNatClampNeg) &&& 255 : Int32)).toUInt32 % 65536).toInt32 = nI (f i) := by rw [h_tn (n := i) (by omega)]; exact e.1
  exact ⟨.char, rfl, by rw [e2]; exact e.2, Nat.le_refl _, Nat.le_refl _, congrArg (fun z => some (Value.int z)) e2, rfl⟩
theorem J_charAt {g : qG} (hg : qOK g) (hJ : qJDK g) {h : qH} {j jv n : Nat} {f : Nat → Nat} (hS : qSTR g j jv n f) {i : Nat} (hi : i < n) : qSpec g 4 0 0 mJ0_charAt_5068e [.retAddr j, .int (nI i)] h (fun r h' => r = some (.int (nI (f i))) ∧ h' = h) := by
  refine qSpec_runR 14 "charAt" false hg mJ0_charAt_5068e_ok rfl rfl (Nat.le_of_ble_eq_true rfl) (by decide) ?_
  intro run step stepR
  refine step.1 _ _ _ _ _ _ _ srJ0_charAt_5068e_0_ok ?_
  refine stepR 492 1 1 0 0 j _ [] _ _ [] _ _ _ qi_14_492 ⟨rfl, rfl⟩ hS.1 rfl (by decide +kernel) (J_isLatin1 hg hJ hS) (fun y h2 hy => ?_)
  obtain ⟨rfl, rfl⟩ := hy
  refine step.1 _ _ _ _ _ _ _ srJ0_charAt_5068e_4_ok ?_
  refine ⟨fun c => absurd c (by decide), fun c => ⟨_, hS.2.1, Or.inl ⟨rfl, _, 3, 0, 0, _, Or.inl qi_14_495, ⟨rfl, rfl⟩, rfl, rfl, J_char1 hg hJ hS hi, fun y h2 hy => ?_⟩⟩⟩
  obtain ⟨rfl, rfl⟩ := hy
  exact ⟨.char, rfl, (J_char0 (f i) (hS.2.2.2.2.2 i hi)).2, Nat.le_refl _, Nat.le_refl _, rfl, rfl⟩
end Q08C
