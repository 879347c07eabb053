section Q15H
section
variable {s : State} {a : Array Value} {l : Launch} {D : va_G} {sp : Nat → Nat}
theorem B_str {g : qG} {j jv n : Nat} {f : Nat → Nat} (h : qSTRT g j jv n f) (hn : n < 1000) (hf : ∀ i : Nat, i < n → f i < 128) : qSTR g j jv n f := ⟨h.1, h.2.1, h.2.2.1, h.2.2.2, hn, hf⟩
theorem B_ld {own tx : String} {ow idx k j : Nat} (h1 : (Cond.stringRef own idx tx).before a s = true) (h2 : (Term.string own idx).eval a s none [] s = some (.ref k)) (ho : qown ow = own) (hj : sp j = k) : qLD (l, s, D, sp) ow idx j := by
  refine ⟨tx, ?_⟩
  show vk_R (qown ow) idx tx (sp j) s
  rw [ho, hj]
  exact vk_R.of h1 h2
theorem B_thr (hts : ∀ w ∈ lw_tbl, w.before a s = true) (hs : ∀ w ∈ flatC (Jvm.Cond.and given_1 narrow_1), w.before a s = true) {k4 k0 k5 : Nat} (e4 : (Term.string "CarolDoors" 399).eval a s none [] s = some (.ref k4)) (e0 : (Term.string "CarolDoors" 406).eval a s none [] s = some (.ref k0)) (e5 : (Term.string "CarolDoors" 411).eval a s none [] s = some (.ref k5)) (p4 : sp 4 = k4) (p5 : sp 5 = k0) (p6 : sp 6 = k5) : qTHR (l, s, D, sp) := by
  have hA : ∀ q : Nat, q < s.heap.size → ¬ s.heap.size ≤ q := fun q h => Nat.not_le_of_lt h
  refine ⟨fun w hw hg => va_tabs ((Bool.and_eq_true _ _).mp hg).2 rfl (hts w hw), ?_, ?_, ?_, ?_, ?_⟩
  · exact vx_Zqof (hts (Jvm.Cond.laysStatic "java/lang/Throwable" "UNASSIGNED_STACK" "[Ljava/lang/StackTraceElement;") (qat_in (p := (3, 229)) (by decide +kernel))) (hts (Jvm.Cond.initialized "java/lang/Throwable") (qat_in (p := (1, 14)) (by decide +kernel))) (hs _ (by decide +kernel)) hA
  · exact vx_Zqof (hts (Jvm.Cond.laysStatic "java/lang/Throwable" "SUPPRESSED_SENTINEL" "Ljava/util/List;") (qat_in (p := (3, 231)) (by decide +kernel))) (hts (Jvm.Cond.initialized "java/lang/Throwable") (qat_in (p := (1, 14)) (by decide +kernel))) (hs _ (by decide +kernel)) hA
  · exact B_ld (hts (Jvm.Cond.stringRef "CarolDoors" (399 : Nat) "there is no such door, singer or line") (qat_in (p := (5, 95)) (by decide +kernel))) e4 rfl p4
  · exact B_ld (hts (Jvm.Cond.stringRef "CarolDoors" (406 : Nat) "an argument is not within its bounds") (qat_in (p := (4, 3)) (by decide +kernel))) e0 rfl p5
  · exact B_ld (hts (Jvm.Cond.stringRef "CarolDoors" (411 : Nat) "the best plan is for five doors at most") (qat_in (p := (5, 188)) (by decide +kernel))) e5 rfl p6
theorem B_cat (hs : ∀ w ∈ flatC (Jvm.Cond.and given_1 narrow_1), w.before a s = true) : qCAT (l, s, D, sp) := by
  refine qCAT_of (a := a) (fun j k hj hk hjk => hs _ ?_)
  exact (by decide +kernel : ∀ j : Nat, j < 3 → ∀ k : Nat, k < 3 → j ≠ k → (Jvm.Cond.not (.castable (exN j) (exN k))) ∈ flatC (Jvm.Cond.and given_1 narrow_1)) j hj k hk hjk
theorem B_fmt (hts : ∀ w ∈ lw_tbl, w.before a s = true) (hs : ∀ w ∈ flatC (Jvm.Cond.and given_1 narrow_1), w.before a s = true) : va_Zq "jdk/internal/util/Preconditions" "SIOOBE_FORMATTER" "Ljava/util/function/BiFunction;" (fun q => s.heap.size ≤ q) s s.heap := va_Zqof (hts (Jvm.Cond.laysStatic "jdk/internal/util/Preconditions" "SIOOBE_FORMATTER" "Ljava/util/function/BiFunction;") (qat_in (p := (4, 99)) (by decide +kernel))) (hts (Jvm.Cond.initialized "jdk/internal/util/Preconditions") (qat_in (p := (1, 20)) (by decide +kernel))) (hs _ (by decide +kernel)) (fun q h => Nat.not_le_of_lt h)
theorem B_jdk (hts : ∀ w ∈ lw_tbl, w.before a s = true) (hs : ∀ w ∈ flatC (Jvm.Cond.and given_1 narrow_1), w.before a s = true) (hq : va_Z "jdk/internal/util/Preconditions" "SIOOBE_FORMATTER" "Ljava/util/function/BiFunction;" .null (fun q => s.heap.size ≤ q) s s.heap ∨ va_Z "jdk/internal/util/Preconditions" "SIOOBE_FORMATTER" "Ljava/util/function/BiFunction;" (.ref (sp 2)) (fun q => s.heap.size ≤ q) s s.heap) : qJDK (l, s, D, sp) := by
  refine ⟨⟨"java/lang/String", "COMPACT_STRINGS", "Z", ⟨(qat_in (p := (4, 82)) (by decide +kernel)), by decide +kernel⟩, ?_⟩, ?_⟩
  · exact va_Zof (hts (Jvm.Cond.laysStatic "java/lang/String" "COMPACT_STRINGS" "Z") (qat_in (p := (4, 83)) (by decide +kernel))) (hts (Jvm.Cond.initialized "java/lang/String") (qat_in (p := (1, 18)) (by decide +kernel))) (va_eqt (hs _ (by decide +kernel))) (fun q h => Nat.not_le_of_lt h)
  · rcases hq with h | h
    · exact Or.inl ⟨"jdk/internal/util/Preconditions", "SIOOBE_FORMATTER", "Ljava/util/function/BiFunction;", ⟨(qat_in (p := (4, 98)) (by decide +kernel)), by decide +kernel⟩, h⟩
    · exact Or.inr ⟨"jdk/internal/util/Preconditions", "SIOOBE_FORMATTER", "Ljava/util/function/BiFunction;", ⟨(qat_in (p := (4, 98)) (by decide +kernel)), by decide +kernel⟩, h⟩
theorem B_fmo (hs : ∀ w ∈ flatC (Jvm.Cond.and given_1 narrow_1), w.before a s = true) : ∃ t : Nat, (Term.static "CarolDoors" "FACT_MOST" "[I").eval a s none [] s = some (.ref t) ∧ va_T .int t 10 (fun j => .int (nI (fmost j))) (fun q => s.heap.size ≤ q) s s.heap := by
  refine va_Tof (by decide) (hs _ (by decide +kernel)) (va_eqt (hs _ (by decide +kernel))) (fun j hj => va_eqt (hs _ ?_)) (fun q h => Nat.not_le_of_lt h)
  exact (by decide +kernel : ∀ j : Nat, j < 10 → (Cond.eq (.elem (Term.static "CarolDoors" "FACT_MOST" "[I") (.int (Int32.ofNat j))) (.int (nI (fmost j)))) ∈ flatC (Jvm.Cond.and given_1 narrow_1)) j hj
theorem B_fm (hts : ∀ w ∈ lw_tbl, w.before a s = true) {t : Nat} (ht : (Term.static "CarolDoors" "FACT_MOST" "[I").eval a s none [] s = some (.ref t)) (hT : va_T .int t 10 (fun j => .int (nI (fmost j))) (fun q => s.heap.size ≤ q) s s.heap) (p1 : sp 1 = t) : qFM (l, s, D, sp) := by
  obtain ⟨c4, t1, t2, t3, t4, t5, t6, -⟩ := hT
  subst p1
  refine ⟨⟨"CarolDoors", "FACT_MOST", "[I", ⟨(qat_in (p := (4, 138)) (by decide +kernel)), by decide +kernel⟩, ?_⟩, ⟨c4, t1, t2, t3, ⟨t4, t5⟩, t6⟩⟩
  exact va_Zref (hts (Jvm.Cond.laysStatic "CarolDoors" "FACT_MOST" "[I") (qat_in (p := (4, 139)) (by decide +kernel))) (hts (Jvm.Cond.initialized "CarolDoors") (qat_in (p := (1, 1)) (by decide +kernel))) ht (fun q h => Nat.not_le_of_lt h)
theorem B_word {f : Nat → Nat} {i idx k n w : Nat} {own tx : String} (h1 : (Cond.stringRef own idx tx).before a s = true) (h2 : (Term.string own idx).eval a s none [] s = some (.ref k)) (ho : qown 12 = own) (h3 : qSTRT (l, s, D, sp) (16 + 2 * i) (17 + 2 * i) n f) (hk : sp (16 + 2 * i) = k) (hn : n < 1000) (hf : ∀ j : Nat, j < n → f j < 128) (hl : ∀ j : Nat, j < n → 97 ≤ f j ∧ f j ≤ 122) (hw : pkn f n = w) (e1 : wlen i = n) (e2 : wpk i = w) (e3 : widx i = idx) : ∃ f : Nat → Nat, qSTR (l, s, D, sp) (16 + 2 * i) (17 + 2 * i) (wlen i) f ∧ lets f (wlen i) ∧ pkn f (wlen i) = wpk i ∧ qLD (l, s, D, sp) 12 (widx i) (16 + 2 * i) := by
  subst e1 e2 e3
  exact ⟨f, B_str h3 hn hf, hl, hw, B_ld h1 h2 ho hk⟩
theorem bund_of (hts : ∀ w ∈ lw_tbl, w.before a s = true) (hs : ∀ w ∈ flatC (Jvm.Cond.and given_1 narrow_1), w.before a s = true) (hK : va_K D vwCl [] s) (hf : l.stackTraces = false) (b : Nat) : ∃ sp : Nat → Nat, sp 0 = b ∧ mBund (l, s, D, sp) := by
  obtain ⟨k0, e0⟩ := S_0 hs
  obtain ⟨k1, v1, e1, m1⟩ := S_1 (l := l) (D := D) hs
  obtain ⟨k2, v2, e2, m2⟩ := S_2 (l := l) (D := D) hs
  obtain ⟨k3, v3, e3, m3⟩ := S_3 (l := l) (D := D) hs
  obtain ⟨k4, e4⟩ := S_4 hs
  obtain ⟨k5, e5⟩ := S_5 hs
  obtain ⟨k6, v6, e6, m6⟩ := S_6 (l := l) (D := D) hs
  obtain ⟨k7, v7, e7, m7⟩ := S_7 (l := l) (D := D) hs
  obtain ⟨k8, v8, e8, m8⟩ := S_8 (l := l) (D := D) hs
  obtain ⟨k9, v9, e9, m9⟩ := S_9 (l := l) (D := D) hs
  obtain ⟨k10, v10, e10, m10⟩ := S_10 (l := l) (D := D) hs
  obtain ⟨k11, v11, e11, m11⟩ := S_11 (l := l) (D := D) hs
  obtain ⟨k12, v12, e12, m12⟩ := S_12 (l := l) (D := D) hs
  obtain ⟨k13, v13, e13, m13⟩ := S_13 (l := l) (D := D) hs
  obtain ⟨k14, v14, e14, m14⟩ := S_14 (l := l) (D := D) hs
  obtain ⟨k15, v15, e15, m15⟩ := S_15 (l := l) (D := D) hs
  obtain ⟨k16, v16, e16, m16⟩ := S_16 (l := l) (D := D) hs
  obtain ⟨k17, v17, e17, m17⟩ := S_17 (l := l) (D := D) hs
  obtain ⟨k18, v18, e18, m18⟩ := S_18 (l := l) (D := D) hs
  obtain ⟨k19, v19, e19, m19⟩ := S_19 (l := l) (D := D) hs
  obtain ⟨k20, v20, e20, m20⟩ := S_20 (l := l) (D := D) hs
  obtain ⟨k21, v21, e21, m21⟩ := S_21 (l := l) (D := D) hs
  obtain ⟨k22, v22, e22, m22⟩ := S_22 (l := l) (D := D) hs
  obtain ⟨k23, v23, e23, m23⟩ := S_23 (l := l) (D := D) hs
  obtain ⟨k24, v24, e24, m24⟩ := S_24 (l := l) (D := D) hs
  obtain ⟨k25, v25, e25, m25⟩ := S_25 (l := l) (D := D) hs
  obtain ⟨k26, v26, e26, m26⟩ := S_26 (l := l) (D := D) hs
  obtain ⟨k27, v27, e27, m27⟩ := S_27 (l := l) (D := D) hs
  obtain ⟨k28, v28, e28, m28⟩ := S_28 (l := l) (D := D) hs
  obtain ⟨k29, v29, e29, m29⟩ := S_29 (l := l) (D := D) hs
  obtain ⟨k30, v30, e30, m30⟩ := S_30 (l := l) (D := D) hs
  obtain ⟨k31, v31, e31, m31⟩ := S_31 (l := l) (D := D) hs
  obtain ⟨t, ht, hT⟩ := B_fmo hs
  have hq : ∃ q : Nat, va_Z "jdk/internal/util/Preconditions" "SIOOBE_FORMATTER" "Ljava/util/function/BiFunction;" .null (fun q => s.heap.size ≤ q) s s.heap ∨ va_Z "jdk/internal/util/Preconditions" "SIOOBE_FORMATTER" "Ljava/util/function/BiFunction;" (.ref q) (fun q => s.heap.size ≤ q) s s.heap := by
    rcases B_fmt hts hs with h | ⟨q, h⟩
    · exact ⟨0, Or.inl h⟩
    · exact ⟨q, Or.inr h⟩
  obtain ⟨q, hq⟩ := hq
  obtain ⟨sp, p0, p1, p2, p4, p5, p6, p10, p11, p12, p13, p14, p15, p16, p17, p18, p19, p20, p21, p22, p23, p24, p25, p26, p27, p28, p29, p30, p31, p32, p33, p34, p35, p36, p37, p38, p39, p40, p41, p42, p43, p44, p45, p46, p47, p48, p49, p50, p51, p52, p53, p54, p55, p56, p57, p58, p59, p60, p61, p62, p63, p64, p65, p66, p67⟩ : ∃ sp : Nat → Nat, sp 0 = b ∧ sp 1 = t ∧ sp 2 = q ∧ sp 4 = k4 ∧ sp 5 = k0 ∧ sp 6 = k5 ∧ sp 10 = k1 ∧ sp 11 = v1 ∧ sp 12 = k3 ∧ sp 13 = v3 ∧ sp 14 = k2 ∧ sp 15 = v2 ∧ sp 16 = k6 ∧ sp 17 = v6 ∧ sp 18 = k7 ∧ sp 19 = v7 ∧ sp 20 = k8 ∧ sp 21 = v8 ∧ sp 22 = k9 ∧ sp 23 = v9 ∧ sp 24 = k10 ∧ sp 25 = v10 ∧ sp 26 = k11 ∧ sp 27 = v11 ∧ sp 28 = k12 ∧ sp 29 = v12 ∧ sp 30 = k13 ∧ sp 31 = v13 ∧ sp 32 = k14 ∧ sp 33 = v14 ∧ sp 34 = k15 ∧ sp 35 = v15 ∧ sp 36 = k16 ∧ sp 37 = v16 ∧ sp 38 = k17 ∧ sp 39 = v17 ∧ sp 40 = k18 ∧ sp 41 = v18 ∧ sp 42 = k23 ∧ sp 43 = v23 ∧ sp 44 = k24 ∧ sp 45 = v24 ∧ sp 46 = k25 ∧ sp 47 = v25 ∧ sp 48 = k26 ∧ sp 49 = v26 ∧ sp 50 = k27 ∧ sp 51 = v27 ∧ sp 52 = k28 ∧ sp 53 = v28 ∧ sp 54 = k29 ∧ sp 55 = v29 ∧ sp 56 = k19 ∧ sp 57 = v19 ∧ sp 58 = k20 ∧ sp 59 = v20 ∧ sp 60 = k21 ∧ sp 61 = v21 ∧ sp 62 = k30 ∧ sp 63 = v30 ∧ sp 64 = k31 ∧ sp 65 = v31 ∧ sp 66 = k22 ∧ sp 67 = v22 := ⟨fun j => ([b, t, q, 0, k4, k0, k5, 0, 0, 0, k1, v1, k3, v3, k2, v2, k6, v6, k7, v7, k8, v8, k9, v9, k10, v10, k11, v11, k12, v12, k13, v13, k14, v14, k15, v15, k16, v16, k17, v17, k18, v18, k23, v23, k24, v24, k25, v25, k26, v26, k27, v27, k28, v28, k29, v29, k19, v19, k20, v20, k21, v21, k30, v30, k31, v31, k22, v22] : List Nat).getD j 0, rfl, rfl, rfl, rfl, rfl, rfl, rfl, rfl, rfl, rfl, rfl, rfl, rfl, rfl, rfl, rfl, rfl, rfl, rfl, rfl, rfl, rfl, rfl, rfl, rfl, rfl, rfl, rfl, rfl, rfl, rfl, rfl, rfl, rfl, rfl, rfl, rfl, rfl, rfl, rfl, rfl, rfl, rfl, rfl, rfl, rfl, rfl, rfl, rfl, rfl, rfl, rfl, rfl, rfl, rfl, rfl, rfl, rfl, rfl, rfl, rfl, rfl, rfl, rfl⟩
  have hq : va_Z "jdk/internal/util/Preconditions" "SIOOBE_FORMATTER" "Ljava/util/function/BiFunction;" .null (fun q => s.heap.size ≤ q) s s.heap ∨ va_Z "jdk/internal/util/Preconditions" "SIOOBE_FORMATTER" "Ljava/util/function/BiFunction;" (.ref (sp 2)) (fun q => s.heap.size ≤ q) s s.heap := by
    rw [p2]
    exact hq
  refine ⟨sp, p0, ⟨fun w hw hg => q_at (State.WarmedH.refl s) hg (hts w hw), hK, hf⟩, B_thr hts hs e4 e0 e5 p4 p5 p6, B_cat hs, B_jdk hts hs hq, B_fm hts ht hT p1, ?_, ?_, ?_, ?_, ?_, ?_⟩
  · intro i hi
    match i, hi with
    | 0, _ => exact B_word (f := (fun i => ([100, 111, 111, 114] : List Nat).getD i 0)) (i := 0) (n := 4) (hts (Jvm.Cond.stringRef "CarolDoorsModel" (223 : Nat) "door") (qat_in (p := (8, 46)) (by decide +kernel))) e6 rfl (m6 sp 16 17 (fun i => ([100, 111, 111, 114] : List Nat).getD i 0) p16 p17 (by decide +kernel)) p16 (by decide) (by decide +kernel) (by decide +kernel) rfl (by decide +kernel) (by decide +kernel) rfl
    | 1, _ => exact B_word (f := (fun i => ([105, 110] : List Nat).getD i 0)) (i := 1) (n := 2) (hts (Jvm.Cond.stringRef "CarolDoorsModel" (227 : Nat) "in") (qat_in (p := (8, 52)) (by decide +kernel))) e7 rfl (m7 sp 18 19 (fun i => ([105, 110] : List Nat).getD i 0) p18 p19 (by decide +kernel)) p18 (by decide) (by decide +kernel) (by decide +kernel) rfl (by decide +kernel) (by decide +kernel) rfl
    | 2, _ => exact B_word (f := (fun i => ([104, 101, 97, 114, 115] : List Nat).getD i 0)) (i := 2) (n := 5) (hts (Jvm.Cond.stringRef "CarolDoorsModel" (232 : Nat) "hears") (qat_in (p := (8, 53)) (by decide +kernel))) e8 rfl (m8 sp 20 21 (fun i => ([104, 101, 97, 114, 115] : List Nat).getD i 0) p20 p21 (by decide +kernel)) p20 (by decide) (by decide +kernel) (by decide +kernel) rfl (by decide +kernel) (by decide +kernel) rfl
    | 3, _ => exact B_word (f := (fun i => ([114, 105, 110, 103, 115] : List Nat).getD i 0)) (i := 3) (n := 5) (hts (Jvm.Cond.stringRef "CarolDoorsModel" (234 : Nat) "rings") (qat_in (p := (8, 54)) (by decide +kernel))) e9 rfl (m9 sp 22 23 (fun i => ([114, 105, 110, 103, 115] : List Nat).getD i 0) p22 p23 (by decide +kernel)) p22 (by decide) (by decide +kernel) (by decide +kernel) rfl (by decide +kernel) (by decide +kernel) rfl
    | 4, _ => exact B_word (f := (fun i => ([108, 105, 103, 104, 116] : List Nat).getD i 0)) (i := 4) (n := 5) (hts (Jvm.Cond.stringRef "CarolDoorsModel" (240 : Nat) "light") (qat_in (p := (8, 55)) (by decide +kernel))) e10 rfl (m10 sp 24 25 (fun i => ([108, 105, 103, 104, 116] : List Nat).getD i 0) p24 p25 (by decide +kernel)) p24 (by decide) (by decide +kernel) (by decide +kernel) rfl (by decide +kernel) (by decide +kernel) rfl
    | 5, _ => exact B_word (f := (fun i => ([100, 114, 105, 118, 101] : List Nat).getD i 0)) (i := 5) (n := 5) (hts (Jvm.Cond.stringRef "CarolDoorsModel" (236 : Nat) "drive") (qat_in (p := (8, 56)) (by decide +kernel))) e11 rfl (m11 sp 26 27 (fun i => ([100, 114, 105, 118, 101] : List Nat).getD i 0) p26 p27 (by decide +kernel)) p26 (by decide) (by decide +kernel) (by decide +kernel) rfl (by decide +kernel) (by decide +kernel) rfl
    | 6, _ => exact B_word (f := (fun i => ([112, 105, 101, 115] : List Nat).getD i 0)) (i := 6) (n := 4) (hts (Jvm.Cond.stringRef "CarolDoorsModel" (238 : Nat) "pies") (qat_in (p := (8, 57)) (by decide +kernel))) e12 rfl (m12 sp 28 29 (fun i => ([112, 105, 101, 115] : List Nat).getD i 0) p28 p29 (by decide +kernel)) p28 (by decide) (by decide +kernel) (by decide +kernel) rfl (by decide +kernel) (by decide +kernel) rfl
    | 7, _ => exact B_word (f := (fun i => ([115, 105, 110, 103, 101, 114] : List Nat).getD i 0)) (i := 7) (n := 6) (hts (Jvm.Cond.stringRef "CarolDoorsModel" (209 : Nat) "singer") (qat_in (p := (8, 58)) (by decide +kernel))) e13 rfl (m13 sp 30 31 (fun i => ([115, 105, 110, 103, 101, 114] : List Nat).getD i 0) p30 p31 (by decide +kernel)) p30 (by decide) (by decide +kernel) (by decide +kernel) rfl (by decide +kernel) (by decide +kernel) rfl
    | 8, _ => exact B_word (f := (fun i => ([104, 111, 109, 101] : List Nat).getD i 0)) (i := 8) (n := 4) (hts (Jvm.Cond.stringRef "CarolDoorsModel" (214 : Nat) "home") (qat_in (p := (8, 59)) (by decide +kernel))) e14 rfl (m14 sp 32 33 (fun i => ([104, 111, 109, 101] : List Nat).getD i 0) p32 p33 (by decide +kernel)) p32 (by decide) (by decide +kernel) (by decide +kernel) rfl (by decide +kernel) (by decide +kernel) rfl
    | 9, _ => exact B_word (f := (fun i => ([115, 111, 108, 111] : List Nat).getD i 0)) (i := 9) (n := 4) (hts (Jvm.Cond.stringRef "CarolDoorsModel" (219 : Nat) "solo") (qat_in (p := (8, 60)) (by decide +kernel))) e15 rfl (m15 sp 34 35 (fun i => ([115, 111, 108, 111] : List Nat).getD i 0) p34 p35 (by decide +kernel)) p34 (by decide) (by decide +kernel) (by decide +kernel) rfl (by decide +kernel) (by decide +kernel) rfl
    | 10, _ => exact B_word (f := (fun i => ([115, 116, 97, 114, 116] : List Nat).getD i 0)) (i := 10) (n := 5) (hts (Jvm.Cond.stringRef "CarolDoorsModel" (221 : Nat) "start") (qat_in (p := (8, 61)) (by decide +kernel))) e16 rfl (m16 sp 36 37 (fun i => ([115, 116, 97, 114, 116] : List Nat).getD i 0) p36 p37 (by decide +kernel)) p36 (by decide) (by decide +kernel) (by decide +kernel) rfl (by decide +kernel) (by decide +kernel) rfl
    | 11, _ => exact B_word (f := (fun i => ([118, 101, 114, 115, 101] : List Nat).getD i 0)) (i := 11) (n := 5) (hts (Jvm.Cond.stringRef "CarolDoorsModel" (222 : Nat) "verse") (qat_in (p := (8, 62)) (by decide +kernel))) e17 rfl (m17 sp 38 39 (fun i => ([118, 101, 114, 115, 101] : List Nat).getD i 0) p38 p39 (by decide +kernel)) p38 (by decide) (by decide +kernel) (by decide +kernel) rfl (by decide +kernel) (by decide +kernel) rfl
    | 12, _ => exact B_word (f := (fun i => ([117, 110, 116, 105, 108] : List Nat).getD i 0)) (i := 12) (n := 5) (hts (Jvm.Cond.stringRef "CarolDoorsModel" (246 : Nat) "until") (qat_in (p := (8, 63)) (by decide +kernel))) e18 rfl (m18 sp 40 41 (fun i => ([117, 110, 116, 105, 108] : List Nat).getD i 0) p40 p41 (by decide +kernel)) p40 (by decide) (by decide +kernel) (by decide +kernel) rfl (by decide +kernel) (by decide +kernel) rfl
    | 13, _ => exact B_word (f := (fun i => ([118, 101, 114, 115, 101, 115] : List Nat).getD i 0)) (i := 13) (n := 6) (hts (Jvm.Cond.stringRef "CarolDoorsModel" (299 : Nat) "verses") (qat_in (p := (8, 154)) (by decide +kernel))) e23 rfl (m23 sp 42 43 (fun i => ([118, 101, 114, 115, 101, 115] : List Nat).getD i 0) p42 p43 (by decide +kernel)) p42 (by decide) (by decide +kernel) (by decide +kernel) rfl (by decide +kernel) (by decide +kernel) rfl
    | 14, _ => exact B_word (f := (fun i => ([112, 101, 110, 99, 101] : List Nat).getD i 0)) (i := 14) (n := 5) (hts (Jvm.Cond.stringRef "CarolDoorsModel" (301 : Nat) "pence") (qat_in (p := (8, 155)) (by decide +kernel))) e24 rfl (m24 sp 44 45 (fun i => ([112, 101, 110, 99, 101] : List Nat).getD i 0) p44 p45 (by decide +kernel)) p44 (by decide) (by decide +kernel) (by decide +kernel) rfl (by decide +kernel) (by decide +kernel) rfl
    | 15, _ => exact B_word (f := (fun i => ([106, 111, 121] : List Nat).getD i 0)) (i := 15) (n := 3) (hts (Jvm.Cond.stringRef "CarolDoorsModel" (303 : Nat) "joy") (qat_in (p := (8, 156)) (by decide +kernel))) e25 rfl (m25 sp 46 47 (fun i => ([106, 111, 121] : List Nat).getD i 0) p46 p47 (by decide +kernel)) p46 (by decide) (by decide +kernel) (by decide +kernel) rfl (by decide +kernel) (by decide +kernel) rfl
    | 16, _ => exact B_word (f := (fun i => ([112, 108, 97, 99, 101] : List Nat).getD i 0)) (i := 16) (n := 5) (hts (Jvm.Cond.stringRef "CarolDoorsModel" (305 : Nat) "place") (qat_in (p := (8, 157)) (by decide +kernel))) e26 rfl (m26 sp 48 49 (fun i => ([112, 108, 97, 99, 101] : List Nat).getD i 0) p48 p49 (by decide +kernel)) p48 (by decide) (by decide +kernel) (by decide +kernel) rfl (by decide +kernel) (by decide +kernel) rfl
    | 17, _ => exact B_word (f := (fun i => ([109, 105, 110, 117, 116, 101] : List Nat).getD i 0)) (i := 17) (n := 6) (hts (Jvm.Cond.stringRef "CarolDoorsModel" (307 : Nat) "minute") (qat_in (p := (8, 158)) (by decide +kernel))) e27 rfl (m27 sp 50 51 (fun i => ([109, 105, 110, 117, 116, 101] : List Nat).getD i 0) p50 p51 (by decide +kernel)) p50 (by decide) (by decide +kernel) (by decide +kernel) rfl (by decide +kernel) (by decide +kernel) rfl
    | 18, _ => exact B_word (f := (fun i => ([98, 111, 120] : List Nat).getD i 0)) (i := 18) (n := 3) (hts (Jvm.Cond.stringRef "CarolDoorsModel" (309 : Nat) "box") (qat_in (p := (8, 159)) (by decide +kernel))) e28 rfl (m28 sp 52 53 (fun i => ([98, 111, 120] : List Nat).getD i 0) p52 p53 (by decide +kernel)) p52 (by decide) (by decide +kernel) (by decide +kernel) rfl (by decide +kernel) (by decide +kernel) rfl
    | 19, _ => exact B_word (f := (fun i => ([116, 111, 108, 100] : List Nat).getD i 0)) (i := 19) (n := 4) (hts (Jvm.Cond.stringRef "CarolDoorsModel" (311 : Nat) "told") (qat_in (p := (8, 160)) (by decide +kernel))) e29 rfl (m29 sp 54 55 (fun i => ([116, 111, 108, 100] : List Nat).getD i 0) p54 p55 (by decide +kernel)) p54 (by decide) (by decide +kernel) (by decide +kernel) rfl (by decide +kernel) (by decide +kernel) rfl
    | 20, _ => exact B_word (f := (fun i => ([108, 101, 97, 115, 116] : List Nat).getD i 0)) (i := 20) (n := 5) (hts (Jvm.Cond.stringRef "CarolDoorsModel" (313 : Nat) "least") (qat_in (p := (8, 138)) (by decide +kernel))) e19 rfl (m19 sp 56 57 (fun i => ([108, 101, 97, 115, 116] : List Nat).getD i 0) p56 p57 (by decide +kernel)) p56 (by decide) (by decide +kernel) (by decide +kernel) rfl (by decide +kernel) (by decide +kernel) rfl
    | 21, _ => exact B_word (f := (fun i => ([109, 111, 115, 116] : List Nat).getD i 0)) (i := 21) (n := 4) (hts (Jvm.Cond.stringRef "CarolDoorsModel" (318 : Nat) "most") (qat_in (p := (8, 143)) (by decide +kernel))) e20 rfl (m20 sp 58 59 (fun i => ([109, 111, 115, 116] : List Nat).getD i 0) p58 p59 (by decide +kernel)) p58 (by decide) (by decide +kernel) (by decide +kernel) rfl (by decide +kernel) (by decide +kernel) rfl
    | 22, _ => exact B_word (f := (fun i => ([105, 102] : List Nat).getD i 0)) (i := 22) (n := 2) (hts (Jvm.Cond.stringRef "CarolDoorsModel" (319 : Nat) "if") (qat_in (p := (8, 144)) (by decide +kernel))) e21 rfl (m21 sp 60 61 (fun i => ([105, 102] : List Nat).getD i 0) p60 p61 (by decide +kernel)) p60 (by decide) (by decide +kernel) (by decide +kernel) rfl (by decide +kernel) (by decide +kernel) rfl
    | 23, _ => exact B_word (f := (fun i => ([102, 105, 114, 115, 116] : List Nat).getD i 0)) (i := 23) (n := 5) (hts (Jvm.Cond.stringRef "CarolDoorsModel" (339 : Nat) "first") (qat_in (p := (8, 165)) (by decide +kernel))) e30 rfl (m30 sp 62 63 (fun i => ([102, 105, 114, 115, 116] : List Nat).getD i 0) p62 p63 (by decide +kernel)) p62 (by decide) (by decide +kernel) (by decide +kernel) rfl (by decide +kernel) (by decide +kernel) rfl
    | 24, _ => exact B_word (f := (fun i => ([108, 97, 115, 116] : List Nat).getD i 0)) (i := 24) (n := 4) (hts (Jvm.Cond.stringRef "CarolDoorsModel" (341 : Nat) "last") (qat_in (p := (8, 166)) (by decide +kernel))) e31 rfl (m31 sp 64 65 (fun i => ([108, 97, 115, 116] : List Nat).getD i 0) p64 p65 (by decide +kernel)) p64 (by decide) (by decide +kernel) (by decide +kernel) rfl (by decide +kernel) (by decide +kernel) rfl
    | n + 25, h => exact absurd h (by omega)
  · exact ⟨⟨sgw, B_str (m22 sp 66 67 sgw p66 p67 (by decide +kernel)) (by decide) (by decide +kernel), fun i _ => rfl⟩, B_ld (hts (Jvm.Cond.stringRef "CarolDoorsModel" (294 : Nat) "singers") (qat_in (p := (8, 149)) (by decide +kernel))) e22 rfl p66⟩
  · exact ⟨B_str (m1 sp 10 11 vtx p10 p11 (by decide +kernel)) (by decide) (by decide +kernel), B_ld (hts (Jvm.Cond.stringRef "CarolDoors$Reader" (53 : Nat) "door in hears rings light drive pies singer home solo start verse until") (qat_in (p := (4, 65)) (by decide +kernel))) e1 rfl p10⟩
  · exact ⟨B_str (m3 sp 12 13 rtx p12 p13 (by decide +kernel)) (by decide) (by decide +kernel), B_ld (hts (Jvm.Cond.stringRef "CarolDoors$Reader" (137 : Nat) "first last") (qat_in (p := (5, 33)) (by decide +kernel))) e3 rfl p12⟩
  · exact B_str (m2 sp 14 15 ltx p14 p15 (by decide +kernel)) (by decide) (by decide +kernel)
  · exact B_ld (hts (Jvm.Cond.stringRef "CarolDoors$LawReader" (78 : Nat) "verses pence joy place singers drive pies minute box told least most if") (qat_in (p := (5, 2)) (by decide +kernel))) e2 rfl p14
end
end Q15H
