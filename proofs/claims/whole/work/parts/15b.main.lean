section Q15B
/-- the walk of the law's own method -/
def mStep (g : qG) (run : qK0) : Prop :=
  (∀ (sg : List qEl) (pc : Nat) (L : List (Nat × Value)) (st : List Value) (h : qH) (cu su : Nat), qsg cL_law_ 13 8 false pc sg = true → wpN g 13 700 60000 400000 (some .boolean) (fun _ _ => False) (fun _ _ _ _ _ _ => False) run sg pc L st h cu su → run pc L st h cu su) ∧
  (∀ (pc : Nat) (L L' : List (Nat × Value)) (st : List Value) (h : qH) (cu su : Nat), (∀ x ∈ L', x ∈ L) → run pc L' st h cu su → run pc L st h cu su) ∧
  ∀ (idx pc d mc ms : Nat) (q : qWr) (avs : List Value) (Q : Option Value → qH → Prop) (L : List (Nat × Value)) (st : List Value) (h : qH) (cu su : Nat), Jvm.Cond.methodLink (qown 13) idx q.1 ∈ lw_tbl → qWg q → avs.length = q.2.2.2.1 → qnum 700 d 60000 mc cu 400000 ms su st = true → qSpecW g d mc ms q avs h Q → decode cL_law_ pc = .ok (.invokestatic idx, 3) → (∀ v h', Q v h' → run (pc + 3) L (v.toList ++ st) h' (cu + mc) (su + ms)) → run pc L (avs.reverse ++ st) h cu su
/-- the law's locals between two rows of the script -/
abbrev LL (i : Nat) : List (Nat × Value) := [(4, .int (nI i)), (3, .ref 92), (2, .ref 63), (1, .ref 0), (0, .retAddr 0)]
theorem vI {i n k : Nat} (hk : k < 6) (h : i + 6 ≤ n) (hn : n ≤ 3072) : vp_in (nI i + nI k) n := by
  rw [nI_add]
  exact vp_in_nI (by omega) (by omega)
theorem isK_i {b : Value} (h : isK (some .int) b = true) : ∃ z : Int32, b = .int z := by
  cases b <;> first | exact ⟨_, rfl⟩ | cases h
theorem isK_l {b : Value} (h : isK (some .long) b = true) : ∃ z : Int64, b = .long z := by
  cases b <;> first | exact ⟨_, rfl⟩ | cases h
theorem isK_b {b : Value} (h : isK (some .boolean) b = true) : ∃ z : Int32, b = .int z := by
  cases b <;> first | exact ⟨_, rfl⟩ | cases h
theorem LA.q {h : qH} {k : Int32} {v : Int64} (hA : LA h k v) : LQ h := by
  obtain ⟨S, x, y, F, G, u, hL, -, -⟩ := hA
  exact ⟨S, x, y, F, G, u, hL⟩
def mBund (g : qG) : Prop := qOK g ∧ qTHR g ∧ qCAT g ∧ qJDK g ∧ qFM g ∧ qMW g ∧ qSG g ∧ (qSTR g 10 11 71 vtx ∧ qLD g 5 53 10) ∧ (qSTR g 12 13 10 rtx ∧ qLD g 5 137 12) ∧ qSTR g 14 15 71 ltx ∧ qLD g 4 78 14
set_option maxHeartbeats 1000000 in
theorem MC_0 {g : qG} {run : qK0} (M : mStep g run) (B : mBund g) {n i : Nat} {xs : Nat → Int32} (hS : qScr g .int 0 n xs) (hn : n ≤ 3072) (hi : i + 6 ≤ n) {h : qH} (hQ : LQ h) {cu su : Nat} (hcu : cu + 104 ≤ 60000) (hsu : su + 424 ≤ 400000) (kk : ∀ (h2 : qH) (cu2 su2 : Nat), LQ h2 → cu2 ≤ cu + 104 → su2 ≤ su + 424 → run 2884 (LL i) [] h2 cu2 su2) : run 240 (LL i) [] h cu su := by
  obtain ⟨hg, hT, hCt, hJ, hFM, hW, hSG, ⟨hS1, hL1⟩, ⟨hS2, hL2⟩, hS3, hL3⟩ := id B
  obtain ⟨S, x, y, F, G, u, hL⟩ := hQ
  obtain ⟨Mid, h63, hF, hM⟩ := P_feed hg hL (xs (nI i + 1).toNatClampNeg) (xs (nI i + 2).toNatClampNeg) (xs (nI i + 3).toNatClampNeg) (xs (nI i + 4).toNatClampNeg) (xs (nI i + 5).toNatClampNeg)
  refine M.1 _ _ _ _ _ _ _ sgL_law__240_ok ?_
  refine ⟨n, xs, hS, vI (k := 1) (by decide) hi hn, ?_⟩
  refine ⟨n, xs, hS, vI (k := 2) (by decide) hi hn, ?_⟩
  refine ⟨n, xs, hS, vI (k := 3) (by decide) hi hn, ?_⟩
  refine ⟨n, xs, hS, vI (k := 4) (by decide) hi hn, ?_⟩
  refine ⟨n, xs, hS, vI (k := 5) (by decide) hi hn, ?_⟩
  refine Or.inl ⟨rfl, _, 2, 0, 0, 11, _, _, qi_13_133, ⟨rfl, rfl⟩, ⟨hL.1.obj, rfl⟩, (qnum_rec (by decide) (by omega) (by omega) rfl), rfl, hF, fun y1 h1 hy1 => ?_⟩
  obtain ⟨a, rfl, hmid⟩ := hy1
  obtain ⟨⟨z, rfl⟩, fs, h63⟩ := h63 h1 _ hmid
  refine ⟨n, xs, hS, vI (k := 1) (by decide) hi hn, ?_⟩
  refine ⟨n, xs, hS, vI (k := 2) (by decide) hi hn, ?_⟩
  refine ⟨n, xs, hS, vI (k := 3) (by decide) hi hn, ?_⟩
  refine ⟨n, xs, hS, vI (k := 4) (by decide) hi hn, ?_⟩
  refine ⟨n, xs, hS, vI (k := 5) (by decide) hi hn, ?_⟩
  refine Or.inl ⟨rfl, _, 1, 0, 0, 12, fs, _, qi_13_137, ⟨rfl, rfl⟩, ⟨h63, rfl⟩, (qnum_rec (by decide) (by omega) (by omega) rfl), rfl, hM h1 _ hmid, fun y2 h2 hy2 => ?_⟩
  obtain ⟨rfl, hq⟩ := hy2
  exact ⟨fun _ => kk _ _ _ hq (by omega) (by omega), fun hc => absurd rfl hc⟩
set_option maxHeartbeats 1000000 in
theorem MC_1 {g : qG} {run : qK0} (M : mStep g run) (B : mBund g) {n i : Nat} {xs : Nat → Int32} (hS : qScr g .int 0 n xs) (hn : n ≤ 3072) (hi : i + 6 ≤ n) {h : qH} (hQ : LQ h) {cu su : Nat} (hcu : cu + 104 ≤ 60000) (hsu : su + 424 ≤ 400000) (kk : ∀ (h2 : qH) (cu2 su2 : Nat), LQ h2 → cu2 ≤ cu + 104 → su2 ≤ su + 424 → run 2884 (LL i) [] h2 cu2 su2) : run 313 (LL i) [] h cu su := by
  obtain ⟨hg, hT, hCt, hJ, hFM, hW, hSG, ⟨hS1, hL1⟩, ⟨hS2, hL2⟩, hS3, hL3⟩ := id B
  obtain ⟨S, x, y, F, G, u, hL⟩ := hQ
  obtain ⟨Mid, h63, hF, hM⟩ := P_village hg hT hCt hL hFM hJ hW hS1 hL1 vbr_vtx (xs (nI i + 1).toNatClampNeg)
  refine M.1 _ _ _ _ _ _ _ sgL_law__313_ok ?_
  refine ⟨n, xs, hS, vI (k := 1) (by decide) hi hn, ?_⟩
  refine M.2.2 138 321 11 4 24 wL_village [.ref 0, .int (xs (nI i + 1).toNatClampNeg), .ref 92] _ _ [] _ _ _ (qat_in (p := (3, 185)) (by decide +kernel)) wL_village_ok rfl (qnum_rec (by decide) (by omega) (by omega) rfl) hF (by decide +kernel) ?_
  intro r h1 hr
  obtain ⟨k, rfl, hmid⟩ := hr
  obtain ⟨fs, h63⟩ := h63 h1 k hmid
  refine M.1 _ _ _ _ _ _ _ sgL_law__324_ok ?_
  refine ⟨n, xs, hS, vI (k := 1) (by decide) hi hn, ?_⟩
  refine Or.inl ⟨rfl, _, 9, 0, 0, 12, fs, _, qi_13_143, ⟨rfl, rfl⟩, ⟨h63, rfl⟩, (qnum_rec (by decide) (by omega) (by omega) rfl), rfl, hM h1 k hmid, fun y2 h2 hy2 => ?_⟩
  obtain ⟨b, rfl, hb, hA⟩ := hy2
  obtain ⟨z, rfl⟩ := isK_i hb
  obtain ⟨S2, x2, y2, F2, G2, u2, hL2, hx0, hu0⟩ := id hA
  refine Or.inl ⟨rfl, _, 1, 0, 0, 12, _, _, qi_13_144, ⟨rfl, rfl⟩, ⟨hL2.2.1.1, rfl⟩, (qnum_rec (by decide) (by omega) (by omega) rfl), rfl, M_thrown hg hL2.2.1.1, fun y3 h3 hy3 => ?_⟩
  obtain ⟨rfl, rfl⟩ := hy3
  have fin : ∀ L : List (Nat × Value), (∀ q ∈ LL i, q ∈ L) → run 366 L [] h3 (cu + 4 + 0 + 0) (su + 24 + 0 + 0) := fun L hs => M.1 _ _ _ _ _ _ _ sgL_law__366_ok (M.2.1 _ _ _ _ _ _ _ hs (kk _ _ _ hA.q (by omega) (by omega)))
  refine ⟨fun _ => ?_, fun hc => absurd hx0 hc⟩
  refine M.1 _ _ _ _ _ _ _ sgL_law__349_ok ?_
  have sub : ∀ (v1 v2 : Value), ∀ q ∈ LL i, q ∈ (6, v2) :: (5, v1) :: LL i := fun v1 v2 q hq => List.mem_cons_of_mem _ (List.mem_cons_of_mem _ hq)
  refine ⟨fun hk => fin _ (sub _ _), fun hk => ?_⟩
  refine ⟨_, _, hL2.2.2.2.2.1, vp_in_nI (n := 0) (by decide) (by decide), ?_⟩
  exact ⟨fun _ => fin _ (sub _ _), fun hc => absurd ((lgc_eq _ _).mpr (hu0 hk)) hc⟩
set_option maxHeartbeats 1000000 in
theorem MC_2 {g : qG} {run : qK0} (M : mStep g run) (B : mBund g) {n i : Nat} {xs : Nat → Int32} (hS : qScr g .int 0 n xs) (hn : n ≤ 3072) (hi : i + 6 ≤ n) {h : qH} (hQ : LQ h) {cu su : Nat} (hcu : cu + 104 ≤ 60000) (hsu : su + 424 ≤ 400000) (kk : ∀ (h2 : qH) (cu2 su2 : Nat), LQ h2 → cu2 ≤ cu + 104 → su2 ≤ su + 424 → run 2884 (LL i) [] h2 cu2 su2) : run 369 (LL i) [] h cu su := by
  obtain ⟨hg, hT, hCt, hJ, hFM, hW, hSG, ⟨hS1, hL1⟩, ⟨hS2, hL2⟩, hS3, hL3⟩ := id B
  obtain ⟨S, x, y, F, G, u, hL⟩ := hQ
  obtain ⟨Mid, h63, hF, hM⟩ := P_law hg hT hCt hL hJ hW hSG hS3 hL3 lbr_ltx (xs (nI i + 1).toNatClampNeg) (xs (nI i + 2).toNatClampNeg)
  refine M.1 _ _ _ _ _ _ _ sgL_law__369_ok ?_
  refine ⟨n, xs, hS, vI (k := 1) (by decide) hi hn, ?_⟩
  refine ⟨n, xs, hS, vI (k := 2) (by decide) hi hn, ?_⟩
  refine M.2.2 148 383 44 4 24 wL_law [.ref 0, .int (xs (nI i + 1).toNatClampNeg), .int (xs (nI i + 2).toNatClampNeg), .ref 92] _ _ [] _ _ _ (qat_in (p := (4, 192)) (by decide +kernel)) wL_law_ok rfl (qnum_rec (by decide) (by omega) (by omega) rfl) hF (by decide +kernel) ?_
  intro r h1 hr
  obtain ⟨k, rfl, hmid⟩ := hr
  obtain ⟨fs, h63⟩ := h63 h1 k hmid
  refine M.1 _ _ _ _ _ _ _ sgL_law__386_ok ?_
  refine ⟨n, xs, hS, vI (k := 1) (by decide) hi hn, ?_⟩
  refine ⟨n, xs, hS, vI (k := 2) (by decide) hi hn, ?_⟩
  refine Or.inl ⟨rfl, _, 37, 0, 0, 12, fs, _, qi_13_151, ⟨rfl, rfl⟩, ⟨h63, rfl⟩, (qnum_rec (by decide) (by omega) (by omega) rfl), rfl, hM h1 k hmid, fun y2 h2 hy2 => ?_⟩
  obtain ⟨b, rfl, hb, hA⟩ := hy2
  obtain ⟨z, rfl⟩ := isK_i hb
  obtain ⟨S2, x2, y2, F2, G2, u2, hL2, hx0, hu0⟩ := id hA
  refine Or.inl ⟨rfl, _, 1, 0, 0, 12, _, _, qi_13_144, ⟨rfl, rfl⟩, ⟨hL2.2.1.1, rfl⟩, (qnum_rec (by decide) (by omega) (by omega) rfl), rfl, M_thrown hg hL2.2.1.1, fun y3 h3 hy3 => ?_⟩
  obtain ⟨rfl, rfl⟩ := hy3
  have fin : ∀ L : List (Nat × Value), (∀ q ∈ LL i, q ∈ L) → run 434 L [] h3 (cu + 4 + 0 + 0) (su + 24 + 0 + 0) := fun L hs => M.1 _ _ _ _ _ _ _ sgL_law__434_ok (M.2.1 _ _ _ _ _ _ _ hs (kk _ _ _ hA.q (by omega) (by omega)))
  refine ⟨fun _ => ?_, fun hc => absurd hx0 hc⟩
  refine M.1 _ _ _ _ _ _ _ sgL_law__417_ok ?_
  have sub : ∀ (v1 v2 : Value), ∀ q ∈ LL i, q ∈ (6, v2) :: (5, v1) :: LL i := fun v1 v2 q hq => List.mem_cons_of_mem _ (List.mem_cons_of_mem _ hq)
  refine ⟨fun hk => fin _ (sub _ _), fun hk => ?_⟩
  refine ⟨_, _, hL2.2.2.2.2.1, vp_in_nI (n := 0) (by decide) (by decide), ?_⟩
  exact ⟨fun _ => fin _ (sub _ _), fun hc => absurd ((lgc_eq _ _).mpr (hu0 hk)) hc⟩
set_option maxHeartbeats 1000000 in
theorem MC_3 {g : qG} {run : qK0} (M : mStep g run) (B : mBund g) {n i : Nat} {xs : Nat → Int32} (hS : qScr g .int 0 n xs) (hn : n ≤ 3072) (hi : i + 6 ≤ n) {h : qH} (hQ : LQ h) {cu su : Nat} (hcu : cu + 104 ≤ 60000) (hsu : su + 424 ≤ 400000) (kk : ∀ (h2 : qH) (cu2 su2 : Nat), LQ h2 → cu2 ≤ cu + 104 → su2 ≤ su + 424 → run 2884 (LL i) [] h2 cu2 su2) : run 437 (LL i) [] h cu su := by
  obtain ⟨hg, hT, hCt, hJ, hFM, hW, hSG, ⟨hS1, hL1⟩, ⟨hS2, hL2⟩, hS3, hL3⟩ := id B
  obtain ⟨S, x, y, F, G, u, hL⟩ := hQ
  obtain ⟨Mid, h63, hF, hM⟩ := P_plan hg hT hCt hL hJ hW hS2 hL2 rbr_rtx (xs (nI i + 1).toNatClampNeg)
  refine M.1 _ _ _ _ _ _ _ sgL_law__437_ok ?_
  refine ⟨n, xs, hS, vI (k := 1) (by decide) hi hn, ?_⟩
  refine M.2.2 152 445 11 4 24 wL_plan [.ref 0, .int (xs (nI i + 1).toNatClampNeg), .ref 92] _ _ [] _ _ _ (qat_in (p := (5, 10)) (by decide +kernel)) wL_plan_ok rfl (qnum_rec (by decide) (by omega) (by omega) rfl) hF (by decide +kernel) ?_
  intro r h1 hr
  obtain ⟨k, rfl, hmid⟩ := hr
  obtain ⟨fs, h63⟩ := h63 h1 k hmid
  refine M.1 _ _ _ _ _ _ _ sgL_law__448_ok ?_
  refine ⟨n, xs, hS, vI (k := 1) (by decide) hi hn, ?_⟩
  refine Or.inl ⟨rfl, _, 8, 0, 0, 12, fs, _, qi_13_154, ⟨rfl, rfl⟩, ⟨h63, rfl⟩, (qnum_rec (by decide) (by omega) (by omega) rfl), rfl, hM h1 k hmid, fun y2 h2 hy2 => ?_⟩
  obtain ⟨b, rfl, hb, hA⟩ := hy2
  obtain ⟨z, rfl⟩ := isK_i hb
  obtain ⟨S2, x2, y2, F2, G2, u2, hL2, hx0, hu0⟩ := id hA
  refine Or.inl ⟨rfl, _, 1, 0, 0, 12, _, _, qi_13_144, ⟨rfl, rfl⟩, ⟨hL2.2.1.1, rfl⟩, (qnum_rec (by decide) (by omega) (by omega) rfl), rfl, M_thrown hg hL2.2.1.1, fun y3 h3 hy3 => ?_⟩
  obtain ⟨rfl, rfl⟩ := hy3
  have fin : ∀ L : List (Nat × Value), (∀ q ∈ LL i, q ∈ L) → run 490 L [] h3 (cu + 4 + 0 + 0) (su + 24 + 0 + 0) := fun L hs => M.1 _ _ _ _ _ _ _ sgL_law__490_ok (M.2.1 _ _ _ _ _ _ _ hs (kk _ _ _ hA.q (by omega) (by omega)))
  refine ⟨fun _ => ?_, fun hc => absurd hx0 hc⟩
  refine M.1 _ _ _ _ _ _ _ sgL_law__473_ok ?_
  have sub : ∀ (v1 v2 : Value), ∀ q ∈ LL i, q ∈ (6, v2) :: (5, v1) :: LL i := fun v1 v2 q hq => List.mem_cons_of_mem _ (List.mem_cons_of_mem _ hq)
  refine ⟨fun hk => fin _ (sub _ _), fun hk => ?_⟩
  refine ⟨_, _, hL2.2.2.2.2.1, vp_in_nI (n := 0) (by decide) (by decide), ?_⟩
  exact ⟨fun _ => fin _ (sub _ _), fun hc => absurd ((lgc_eq _ _).mpr (hu0 hk)) hc⟩
set_option maxHeartbeats 1000000 in
theorem MC_4 {g : qG} {run : qK0} (M : mStep g run) (B : mBund g) {n i : Nat} {xs : Nat → Int32} (hS : qScr g .int 0 n xs) (hn : n ≤ 3072) (hi : i + 6 ≤ n) {h : qH} (hQ : LQ h) {cu su : Nat} (hcu : cu + 104 ≤ 60000) (hsu : su + 424 ≤ 400000) (kk : ∀ (h2 : qH) (cu2 su2 : Nat), LQ h2 → cu2 ≤ cu + 104 → su2 ≤ su + 424 → run 2884 (LL i) [] h2 cu2 su2) : run 493 (LL i) [] h cu su := by
  obtain ⟨hg, hT, hCt, hJ, hFM, hW, hSG, ⟨hS1, hL1⟩, ⟨hS2, hL2⟩, hS3, hL3⟩ := id B
  obtain ⟨S, x, y, F, G, u, hL⟩ := hQ
  obtain ⟨Mid, h63, hF, hM⟩ := P_book hg hT hCt hL (xs (nI i + 1).toNatClampNeg)
  refine M.1 _ _ _ _ _ _ _ sgL_law__493_ok ?_
  refine ⟨n, xs, hS, vI (k := 1) (by decide) hi hn, ?_⟩
  refine M.2.2 155 501 9 4 24 wL_book [.ref 0, .int (xs (nI i + 1).toNatClampNeg), .ref 92] _ _ [] _ _ _ (qat_in (p := (5, 35)) (by decide +kernel)) wL_book_ok rfl (qnum_rec (by decide) (by omega) (by omega) rfl) hF (by decide +kernel) ?_
  intro r h1 hr
  obtain ⟨k, rfl, hmid⟩ := hr
  obtain ⟨fs, h63⟩ := h63 h1 k hmid
  refine M.1 _ _ _ _ _ _ _ sgL_law__504_ok ?_
  refine ⟨n, xs, hS, vI (k := 1) (by decide) hi hn, ?_⟩
  refine Or.inl ⟨rfl, _, 8, 0, 0, 12, fs, _, qi_13_157, ⟨rfl, rfl⟩, ⟨h63, rfl⟩, (qnum_rec (by decide) (by omega) (by omega) rfl), rfl, hM h1 k hmid, fun y2 h2 hy2 => ?_⟩
  obtain ⟨b, rfl, hb, hA⟩ := hy2
  obtain ⟨z, rfl⟩ := isK_i hb
  obtain ⟨S2, x2, y2, F2, G2, u2, hL2, hx0, hu0⟩ := id hA
  refine Or.inl ⟨rfl, _, 1, 0, 0, 12, _, _, qi_13_144, ⟨rfl, rfl⟩, ⟨hL2.2.1.1, rfl⟩, (qnum_rec (by decide) (by omega) (by omega) rfl), rfl, M_thrown hg hL2.2.1.1, fun y3 h3 hy3 => ?_⟩
  obtain ⟨rfl, rfl⟩ := hy3
  have fin : ∀ L : List (Nat × Value), (∀ q ∈ LL i, q ∈ L) → run 546 L [] h3 (cu + 4 + 0 + 0) (su + 24 + 0 + 0) := fun L hs => M.1 _ _ _ _ _ _ _ sgL_law__546_ok (M.2.1 _ _ _ _ _ _ _ hs (kk _ _ _ hA.q (by omega) (by omega)))
  refine ⟨fun _ => ?_, fun hc => absurd hx0 hc⟩
  refine M.1 _ _ _ _ _ _ _ sgL_law__529_ok ?_
  have sub : ∀ (v1 v2 : Value), ∀ q ∈ LL i, q ∈ (6, v2) :: (5, v1) :: LL i := fun v1 v2 q hq => List.mem_cons_of_mem _ (List.mem_cons_of_mem _ hq)
  refine ⟨fun hk => fin _ (sub _ _), fun hk => ?_⟩
  refine ⟨_, _, hL2.2.2.2.2.1, vp_in_nI (n := 0) (by decide) (by decide), ?_⟩
  exact ⟨fun _ => fin _ (sub _ _), fun hc => absurd ((lgc_eq _ _).mpr (hu0 hk)) hc⟩
set_option maxHeartbeats 1000000 in
theorem MC_5 {g : qG} {run : qK0} (M : mStep g run) (B : mBund g) {n i : Nat} {xs : Nat → Int32} (hS : qScr g .int 0 n xs) (hn : n ≤ 3072) (hi : i + 6 ≤ n) {h : qH} (hQ : LQ h) {cu su : Nat} (hcu : cu + 104 ≤ 60000) (hsu : su + 424 ≤ 400000) (kk : ∀ (h2 : qH) (cu2 su2 : Nat), LQ h2 → cu2 ≤ cu + 104 → su2 ≤ su + 424 → run 2884 (LL i) [] h2 cu2 su2) : run 549 (LL i) [] h cu su := by
  obtain ⟨hg, hT, hCt, hJ, hFM, hW, hSG, ⟨hS1, hL1⟩, ⟨hS2, hL2⟩, hS3, hL3⟩ := id B
  obtain ⟨S, x, y, F, G, u, hL⟩ := hQ
  obtain ⟨Mid, h63, hF, hM⟩ := P_fault hg hL
  refine M.1 _ _ _ _ _ _ _ sgL_law__549_ok ?_
  refine Or.inl ⟨rfl, _, 1, 0, 0, 11, _, _, qi_13_158, ⟨rfl, rfl⟩, ⟨hL.1.obj, rfl⟩, (qnum_rec (by decide) (by omega) (by omega) rfl), rfl, hF, fun y1 h1 hy1 => ?_⟩
  obtain ⟨a, rfl, hmid⟩ := hy1
  obtain ⟨⟨z, rfl⟩, fs, h63⟩ := h63 h1 _ hmid
  refine Or.inl ⟨rfl, _, 1, 0, 0, 12, fs, _, qi_13_161, ⟨rfl, rfl⟩, ⟨h63, rfl⟩, (qnum_rec (by decide) (by omega) (by omega) rfl), rfl, hM h1 _ hmid, fun y2 h2 hy2 => ?_⟩
  obtain ⟨rfl, hq⟩ := hy2
  exact ⟨fun _ => kk _ _ _ hq (by omega) (by omega), fun hc => absurd rfl hc⟩
set_option maxHeartbeats 1000000 in
theorem MC_6 {g : qG} {run : qK0} (M : mStep g run) (B : mBund g) {n i : Nat} {xs : Nat → Int32} (hS : qScr g .int 0 n xs) (hn : n ≤ 3072) (hi : i + 6 ≤ n) {h : qH} (hQ : LQ h) {cu su : Nat} (hcu : cu + 104 ≤ 60000) (hsu : su + 424 ≤ 400000) (kk : ∀ (h2 : qH) (cu2 su2 : Nat), LQ h2 → cu2 ≤ cu + 104 → su2 ≤ su + 424 → run 2884 (LL i) [] h2 cu2 su2) : run 562 (LL i) [] h cu su := by
  obtain ⟨hg, hT, hCt, hJ, hFM, hW, hSG, ⟨hS1, hL1⟩, ⟨hS2, hL2⟩, hS3, hL3⟩ := id B
  obtain ⟨S, x, y, F, G, u, hL⟩ := hQ
  obtain ⟨Mid, h63, hF, hM⟩ := P_told hg hT hCt hL (xs (nI i + 1).toNatClampNeg)
  refine M.1 _ _ _ _ _ _ _ sgL_law__562_ok ?_
  refine ⟨n, xs, hS, vI (k := 1) (by decide) hi hn, ?_⟩
  refine M.2.2 162 570 8 4 24 wL_told [.ref 0, .int (xs (nI i + 1).toNatClampNeg), .ref 92] _ _ [] _ _ _ (qat_in (p := (5, 63)) (by decide +kernel)) wL_told_ok rfl (qnum_rec (by decide) (by omega) (by omega) rfl) hF (by decide +kernel) ?_
  intro r h1 hr
  obtain ⟨k, rfl, hmid⟩ := hr
  obtain ⟨fs, h63⟩ := h63 h1 k hmid
  refine M.1 _ _ _ _ _ _ _ sgL_law__573_ok ?_
  refine ⟨n, xs, hS, vI (k := 1) (by decide) hi hn, ?_⟩
  refine Or.inl ⟨rfl, _, 2, 0, 0, 12, fs, _, qi_13_164, ⟨rfl, rfl⟩, ⟨h63, rfl⟩, (qnum_rec (by decide) (by omega) (by omega) rfl), rfl, hM h1 k hmid, fun y2 h2 hy2 => ?_⟩
  obtain ⟨b, rfl, hb, hA⟩ := hy2
  obtain ⟨z, rfl⟩ := isK_i hb
  obtain ⟨S2, x2, y2, F2, G2, u2, hL2, hx0, hu0⟩ := id hA
  refine Or.inl ⟨rfl, _, 1, 0, 0, 12, _, _, qi_13_144, ⟨rfl, rfl⟩, ⟨hL2.2.1.1, rfl⟩, (qnum_rec (by decide) (by omega) (by omega) rfl), rfl, M_thrown hg hL2.2.1.1, fun y3 h3 hy3 => ?_⟩
  obtain ⟨rfl, rfl⟩ := hy3
  have fin : ∀ L : List (Nat × Value), (∀ q ∈ LL i, q ∈ L) → run 615 L [] h3 (cu + 4 + 0 + 0) (su + 24 + 0 + 0) := fun L hs => M.1 _ _ _ _ _ _ _ sgL_law__615_ok (M.2.1 _ _ _ _ _ _ _ hs (kk _ _ _ hA.q (by omega) (by omega)))
  refine ⟨fun _ => ?_, fun hc => absurd hx0 hc⟩
  refine M.1 _ _ _ _ _ _ _ sgL_law__598_ok ?_
  have sub : ∀ (v1 v2 : Value), ∀ q ∈ LL i, q ∈ (6, v2) :: (5, v1) :: LL i := fun v1 v2 q hq => List.mem_cons_of_mem _ (List.mem_cons_of_mem _ hq)
  refine ⟨fun hk => fin _ (sub _ _), fun hk => ?_⟩
  refine ⟨_, _, hL2.2.2.2.2.1, vp_in_nI (n := 0) (by decide) (by decide), ?_⟩
  exact ⟨fun _ => fin _ (sub _ _), fun hc => absurd ((lgc_eq _ _).mpr (hu0 hk)) hc⟩
set_option maxHeartbeats 1000000 in
theorem MC_7 {g : qG} {run : qK0} (M : mStep g run) (B : mBund g) {n i : Nat} {xs : Nat → Int32} (hS : qScr g .int 0 n xs) (hn : n ≤ 3072) (hi : i + 6 ≤ n) {h : qH} (hQ : LQ h) {cu su : Nat} (hcu : cu + 104 ≤ 60000) (hsu : su + 424 ≤ 400000) (kk : ∀ (h2 : qH) (cu2 su2 : Nat), LQ h2 → cu2 ≤ cu + 104 → su2 ≤ su + 424 → run 2884 (LL i) [] h2 cu2 su2) : run 618 (LL i) [] h cu su := by
  obtain ⟨hg, hT, hCt, hJ, hFM, hW, hSG, ⟨hS1, hL1⟩, ⟨hS2, hL2⟩, hS3, hL3⟩ := id B
  obtain ⟨S, x, y, F, G, u, hL⟩ := hQ
  obtain ⟨Mid, h63, hF, hM⟩ := P_door hg hT hCt hL (xs (nI i + 1).toNatClampNeg) (xs (nI i + 2).toNatClampNeg)
  refine M.1 _ _ _ _ _ _ _ sgL_law__618_ok ?_
  refine ⟨n, xs, hS, vI (k := 1) (by decide) hi hn, ?_⟩
  refine ⟨n, xs, hS, vI (k := 2) (by decide) hi hn, ?_⟩
  refine M.2.2 165 632 9 4 24 wL_door [.ref 0, .int (xs (nI i + 1).toNatClampNeg), .int (xs (nI i + 2).toNatClampNeg), .ref 92] _ _ [] _ _ _ (qat_in (p := (5, 70)) (by decide +kernel)) wL_door_ok rfl (qnum_rec (by decide) (by omega) (by omega) rfl) hF (by decide +kernel) ?_
  intro r h1 hr
  obtain ⟨k, rfl, hmid⟩ := hr
  obtain ⟨fs, h63⟩ := h63 h1 k hmid
  refine M.1 _ _ _ _ _ _ _ sgL_law__635_ok ?_
  refine ⟨n, xs, hS, vI (k := 1) (by decide) hi hn, ?_⟩
  refine ⟨n, xs, hS, vI (k := 2) (by decide) hi hn, ?_⟩
  refine Or.inl ⟨rfl, _, 3, 0, 0, 12, fs, _, qi_13_167, ⟨rfl, rfl⟩, ⟨h63, rfl⟩, (qnum_rec (by decide) (by omega) (by omega) rfl), rfl, hM h1 k hmid, fun y2 h2 hy2 => ?_⟩
  obtain ⟨b, rfl, hb, hA⟩ := hy2
  obtain ⟨z, rfl⟩ := isK_i hb
  obtain ⟨S2, x2, y2, F2, G2, u2, hL2, hx0, hu0⟩ := id hA
  refine Or.inl ⟨rfl, _, 1, 0, 0, 12, _, _, qi_13_144, ⟨rfl, rfl⟩, ⟨hL2.2.1.1, rfl⟩, (qnum_rec (by decide) (by omega) (by omega) rfl), rfl, M_thrown hg hL2.2.1.1, fun y3 h3 hy3 => ?_⟩
  obtain ⟨rfl, rfl⟩ := hy3
  have fin : ∀ L : List (Nat × Value), (∀ q ∈ LL i, q ∈ L) → run 683 L [] h3 (cu + 4 + 0 + 0) (su + 24 + 0 + 0) := fun L hs => M.1 _ _ _ _ _ _ _ sgL_law__683_ok (M.2.1 _ _ _ _ _ _ _ hs (kk _ _ _ hA.q (by omega) (by omega)))
  refine ⟨fun _ => ?_, fun hc => absurd hx0 hc⟩
  refine M.1 _ _ _ _ _ _ _ sgL_law__666_ok ?_
  have sub : ∀ (v1 v2 : Value), ∀ q ∈ LL i, q ∈ (6, v2) :: (5, v1) :: LL i := fun v1 v2 q hq => List.mem_cons_of_mem _ (List.mem_cons_of_mem _ hq)
  refine ⟨fun hk => fin _ (sub _ _), fun hk => ?_⟩
  refine ⟨_, _, hL2.2.2.2.2.1, vp_in_nI (n := 0) (by decide) (by decide), ?_⟩
  exact ⟨fun _ => fin _ (sub _ _), fun hc => absurd ((lgc_eq _ _).mpr (hu0 hk)) hc⟩
set_option maxHeartbeats 1000000 in
theorem MC_8 {g : qG} {run : qK0} (M : mStep g run) (B : mBund g) {n i : Nat} {xs : Nat → Int32} (hS : qScr g .int 0 n xs) (hn : n ≤ 3072) (hi : i + 6 ≤ n) {h : qH} (hQ : LQ h) {cu su : Nat} (hcu : cu + 104 ≤ 60000) (hsu : su + 424 ≤ 400000) (kk : ∀ (h2 : qH) (cu2 su2 : Nat), LQ h2 → cu2 ≤ cu + 104 → su2 ≤ su + 424 → run 2884 (LL i) [] h2 cu2 su2) : run 686 (LL i) [] h cu su := by
  obtain ⟨hg, hT, hCt, hJ, hFM, hW, hSG, ⟨hS1, hL1⟩, ⟨hS2, hL2⟩, hS3, hL3⟩ := id B
  obtain ⟨S, x, y, F, G, u, hL⟩ := hQ
  obtain ⟨Mid, h63, hF, hM⟩ := P_singer hg hT hCt hL (xs (nI i + 1).toNatClampNeg) (xs (nI i + 2).toNatClampNeg)
  refine M.1 _ _ _ _ _ _ _ sgL_law__686_ok ?_
  refine ⟨n, xs, hS, vI (k := 1) (by decide) hi hn, ?_⟩
  refine ⟨n, xs, hS, vI (k := 2) (by decide) hi hn, ?_⟩
  refine M.2.2 168 700 9 4 24 wL_singer [.ref 0, .int (xs (nI i + 1).toNatClampNeg), .int (xs (nI i + 2).toNatClampNeg), .ref 92] _ _ [] _ _ _ (qat_in (p := (5, 103)) (by decide +kernel)) wL_singer_ok rfl (qnum_rec (by decide) (by omega) (by omega) rfl) hF (by decide +kernel) ?_
  intro r h1 hr
  obtain ⟨k, rfl, hmid⟩ := hr
  obtain ⟨fs, h63⟩ := h63 h1 k hmid
  refine M.1 _ _ _ _ _ _ _ sgL_law__703_ok ?_
  refine ⟨n, xs, hS, vI (k := 1) (by decide) hi hn, ?_⟩
  refine ⟨n, xs, hS, vI (k := 2) (by decide) hi hn, ?_⟩
  refine Or.inl ⟨rfl, _, 3, 0, 0, 12, fs, _, qi_13_170, ⟨rfl, rfl⟩, ⟨h63, rfl⟩, (qnum_rec (by decide) (by omega) (by omega) rfl), rfl, hM h1 k hmid, fun y2 h2 hy2 => ?_⟩
  obtain ⟨b, rfl, hb, hA⟩ := hy2
  obtain ⟨z, rfl⟩ := isK_i hb
  obtain ⟨S2, x2, y2, F2, G2, u2, hL2, hx0, hu0⟩ := id hA
  refine Or.inl ⟨rfl, _, 1, 0, 0, 12, _, _, qi_13_144, ⟨rfl, rfl⟩, ⟨hL2.2.1.1, rfl⟩, (qnum_rec (by decide) (by omega) (by omega) rfl), rfl, M_thrown hg hL2.2.1.1, fun y3 h3 hy3 => ?_⟩
  obtain ⟨rfl, rfl⟩ := hy3
  have fin : ∀ L : List (Nat × Value), (∀ q ∈ LL i, q ∈ L) → run 751 L [] h3 (cu + 4 + 0 + 0) (su + 24 + 0 + 0) := fun L hs => M.1 _ _ _ _ _ _ _ sgL_law__751_ok (M.2.1 _ _ _ _ _ _ _ hs (kk _ _ _ hA.q (by omega) (by omega)))
  refine ⟨fun _ => ?_, fun hc => absurd hx0 hc⟩
  refine M.1 _ _ _ _ _ _ _ sgL_law__734_ok ?_
  have sub : ∀ (v1 v2 : Value), ∀ q ∈ LL i, q ∈ (6, v2) :: (5, v1) :: LL i := fun v1 v2 q hq => List.mem_cons_of_mem _ (List.mem_cons_of_mem _ hq)
  refine ⟨fun hk => fin _ (sub _ _), fun hk => ?_⟩
  refine ⟨_, _, hL2.2.2.2.2.1, vp_in_nI (n := 0) (by decide) (by decide), ?_⟩
  exact ⟨fun _ => fin _ (sub _ _), fun hc => absurd ((lgc_eq _ _).mpr (hu0 hk)) hc⟩
set_option maxHeartbeats 1000000 in
theorem MC_9 {g : qG} {run : qK0} (M : mStep g run) (B : mBund g) {n i : Nat} {xs : Nat → Int32} (hS : qScr g .int 0 n xs) (hn : n ≤ 3072) (hi : i + 6 ≤ n) {h : qH} (hQ : LQ h) {cu su : Nat} (hcu : cu + 104 ≤ 60000) (hsu : su + 424 ≤ 400000) (kk : ∀ (h2 : qH) (cu2 su2 : Nat), LQ h2 → cu2 ≤ cu + 104 → su2 ≤ su + 424 → run 2884 (LL i) [] h2 cu2 su2) : run 754 (LL i) [] h cu su := by
  obtain ⟨hg, hT, hCt, hJ, hFM, hW, hSG, ⟨hS1, hL1⟩, ⟨hS2, hL2⟩, hS3, hL3⟩ := id B
  obtain ⟨S, x, y, F, G, u, hL⟩ := hQ
  obtain ⟨Mid, h63, hF, hM⟩ := P_line hg hT hCt hL (xs (nI i + 1).toNatClampNeg) (xs (nI i + 2).toNatClampNeg)
  refine M.1 _ _ _ _ _ _ _ sgL_law__754_ok ?_
  refine ⟨n, xs, hS, vI (k := 1) (by decide) hi hn, ?_⟩
  refine ⟨n, xs, hS, vI (k := 2) (by decide) hi hn, ?_⟩
  refine M.2.2 171 768 9 4 24 wL_line [.ref 0, .int (xs (nI i + 1).toNatClampNeg), .int (xs (nI i + 2).toNatClampNeg), .ref 92] _ _ [] _ _ _ (qat_in (p := (5, 111)) (by decide +kernel)) wL_line_ok rfl (qnum_rec (by decide) (by omega) (by omega) rfl) hF (by decide +kernel) ?_
  intro r h1 hr
  obtain ⟨k, rfl, hmid⟩ := hr
  obtain ⟨fs, h63⟩ := h63 h1 k hmid
  refine M.1 _ _ _ _ _ _ _ sgL_law__771_ok ?_
  refine ⟨n, xs, hS, vI (k := 1) (by decide) hi hn, ?_⟩
  refine ⟨n, xs, hS, vI (k := 2) (by decide) hi hn, ?_⟩
  refine Or.inl ⟨rfl, _, 3, 0, 0, 12, fs, _, qi_13_173, ⟨rfl, rfl⟩, ⟨h63, rfl⟩, (qnum_rec (by decide) (by omega) (by omega) rfl), rfl, hM h1 k hmid, fun y2 h2 hy2 => ?_⟩
  obtain ⟨b, rfl, hb, hA⟩ := hy2
  obtain ⟨z, rfl⟩ := isK_i hb
  obtain ⟨S2, x2, y2, F2, G2, u2, hL2, hx0, hu0⟩ := id hA
  refine Or.inl ⟨rfl, _, 1, 0, 0, 12, _, _, qi_13_144, ⟨rfl, rfl⟩, ⟨hL2.2.1.1, rfl⟩, (qnum_rec (by decide) (by omega) (by omega) rfl), rfl, M_thrown hg hL2.2.1.1, fun y3 h3 hy3 => ?_⟩
  obtain ⟨rfl, rfl⟩ := hy3
  have fin : ∀ L : List (Nat × Value), (∀ q ∈ LL i, q ∈ L) → run 819 L [] h3 (cu + 4 + 0 + 0) (su + 24 + 0 + 0) := fun L hs => M.1 _ _ _ _ _ _ _ sgL_law__819_ok (M.2.1 _ _ _ _ _ _ _ hs (kk _ _ _ hA.q (by omega) (by omega)))
  refine ⟨fun _ => ?_, fun hc => absurd hx0 hc⟩
  refine M.1 _ _ _ _ _ _ _ sgL_law__802_ok ?_
  have sub : ∀ (v1 v2 : Value), ∀ q ∈ LL i, q ∈ (6, v2) :: (5, v1) :: LL i := fun v1 v2 q hq => List.mem_cons_of_mem _ (List.mem_cons_of_mem _ hq)
  refine ⟨fun hk => fin _ (sub _ _), fun hk => ?_⟩
  refine ⟨_, _, hL2.2.2.2.2.1, vp_in_nI (n := 0) (by decide) (by decide), ?_⟩
  exact ⟨fun _ => fin _ (sub _ _), fun hc => absurd ((lgc_eq _ _).mpr (hu0 hk)) hc⟩
set_option maxHeartbeats 1000000 in
theorem MC_10 {g : qG} {run : qK0} (M : mStep g run) (B : mBund g) {n i : Nat} {xs : Nat → Int32} (hS : qScr g .int 0 n xs) (hn : n ≤ 3072) (hi : i + 6 ≤ n) {h : qH} (hQ : LQ h) {cu su : Nat} (hcu : cu + 104 ≤ 60000) (hsu : su + 424 ≤ 400000) (kk : ∀ (h2 : qH) (cu2 su2 : Nat), LQ h2 → cu2 ≤ cu + 104 → su2 ≤ su + 424 → run 2884 (LL i) [] h2 cu2 su2) : run 822 (LL i) [] h cu su := by
  obtain ⟨hg, hT, hCt, hJ, hFM, hW, hSG, ⟨hS1, hL1⟩, ⟨hS2, hL2⟩, hS3, hL3⟩ := id B
  obtain ⟨S, x, y, F, G, u, hL⟩ := hQ
  obtain ⟨Mid, h63, hF, hM⟩ := P_gives hg hT hCt hL (xs (nI i + 1).toNatClampNeg) (xs (nI i + 2).toNatClampNeg) (xs (nI i + 3).toNatClampNeg)
  refine M.1 _ _ _ _ _ _ _ sgL_law__822_ok ?_
  refine ⟨n, xs, hS, vI (k := 1) (by decide) hi hn, ?_⟩
  refine ⟨n, xs, hS, vI (k := 2) (by decide) hi hn, ?_⟩
  refine ⟨n, xs, hS, vI (k := 3) (by decide) hi hn, ?_⟩
  refine M.2.2 174 842 9 4 24 wL_gives [.ref 0, .int (xs (nI i + 1).toNatClampNeg), .int (xs (nI i + 2).toNatClampNeg), .int (xs (nI i + 3).toNatClampNeg), .ref 92] _ _ [] _ _ _ (qat_in (p := (5, 124)) (by decide +kernel)) wL_gives_ok rfl (qnum_rec (by decide) (by omega) (by omega) rfl) hF (by decide +kernel) ?_
  intro r h1 hr
  obtain ⟨k, rfl, hmid⟩ := hr
  obtain ⟨fs, h63⟩ := h63 h1 k hmid
  refine M.1 _ _ _ _ _ _ _ sgL_law__845_ok ?_
  refine ⟨n, xs, hS, vI (k := 1) (by decide) hi hn, ?_⟩
  refine ⟨n, xs, hS, vI (k := 2) (by decide) hi hn, ?_⟩
  refine ⟨n, xs, hS, vI (k := 3) (by decide) hi hn, ?_⟩
  refine Or.inl ⟨rfl, _, 4, 0, 0, 12, fs, _, qi_13_177, ⟨rfl, rfl⟩, ⟨h63, rfl⟩, (qnum_rec (by decide) (by omega) (by omega) rfl), rfl, hM h1 k hmid, fun y2 h2 hy2 => ?_⟩
  obtain ⟨b, rfl, hb, hA⟩ := hy2
  obtain ⟨z, rfl⟩ := isK_i hb
  obtain ⟨S2, x2, y2, F2, G2, u2, hL2, hx0, hu0⟩ := id hA
  refine Or.inl ⟨rfl, _, 1, 0, 0, 12, _, _, qi_13_144, ⟨rfl, rfl⟩, ⟨hL2.2.1.1, rfl⟩, (qnum_rec (by decide) (by omega) (by omega) rfl), rfl, M_thrown hg hL2.2.1.1, fun y3 h3 hy3 => ?_⟩
  obtain ⟨rfl, rfl⟩ := hy3
  have fin : ∀ L : List (Nat × Value), (∀ q ∈ LL i, q ∈ L) → run 899 L [] h3 (cu + 4 + 0 + 0) (su + 24 + 0 + 0) := fun L hs => M.1 _ _ _ _ _ _ _ sgL_law__899_ok (M.2.1 _ _ _ _ _ _ _ hs (kk _ _ _ hA.q (by omega) (by omega)))
  refine ⟨fun _ => ?_, fun hc => absurd hx0 hc⟩
  refine M.1 _ _ _ _ _ _ _ sgL_law__882_ok ?_
  have sub : ∀ (v1 v2 : Value), ∀ q ∈ LL i, q ∈ (6, v2) :: (5, v1) :: LL i := fun v1 v2 q hq => List.mem_cons_of_mem _ (List.mem_cons_of_mem _ hq)
  refine ⟨fun hk => fin _ (sub _ _), fun hk => ?_⟩
  refine ⟨_, _, hL2.2.2.2.2.1, vp_in_nI (n := 0) (by decide) (by decide), ?_⟩
  exact ⟨fun _ => fin _ (sub _ _), fun hc => absurd ((lgc_eq _ _).mpr (hu0 hk)) hc⟩
set_option maxHeartbeats 1000000 in
theorem MC_11 {g : qG} {run : qK0} (M : mStep g run) (B : mBund g) {n i : Nat} {xs : Nat → Int32} (hS : qScr g .int 0 n xs) (hn : n ≤ 3072) (hi : i + 6 ≤ n) {h : qH} (hQ : LQ h) {cu su : Nat} (hcu : cu + 104 ≤ 60000) (hsu : su + 424 ≤ 400000) (kk : ∀ (h2 : qH) (cu2 su2 : Nat), LQ h2 → cu2 ≤ cu + 104 → su2 ≤ su + 424 → run 2884 (LL i) [] h2 cu2 su2) : run 902 (LL i) [] h cu su := by
  obtain ⟨hg, hT, hCt, hJ, hFM, hW, hSG, ⟨hS1, hL1⟩, ⟨hS2, hL2⟩, hS3, hL3⟩ := id B
  obtain ⟨S, x, y, F, G, u, hL⟩ := hQ
  obtain ⟨Mid, h63, hF, hM⟩ := P_mean hg hT hCt hL (xs (nI i + 1).toNatClampNeg) (xs (nI i + 2).toNatClampNeg) (xs (nI i + 3).toNatClampNeg) (xs (nI i + 4).toNatClampNeg) (xs (nI i + 5).toNatClampNeg)
  refine M.1 _ _ _ _ _ _ _ sgL_law__902_ok ?_
  refine ⟨n, xs, hS, vI (k := 1) (by decide) hi hn, ?_⟩
  refine ⟨n, xs, hS, vI (k := 2) (by decide) hi hn, ?_⟩
  refine ⟨n, xs, hS, vI (k := 3) (by decide) hi hn, ?_⟩
  refine ⟨n, xs, hS, vI (k := 4) (by decide) hi hn, ?_⟩
  refine ⟨n, xs, hS, vI (k := 5) (by decide) hi hn, ?_⟩
  refine M.2.2 178 934 10 4 24 wL_mean [.ref 0, .int (xs (nI i + 1).toNatClampNeg), .int (xs (nI i + 2).toNatClampNeg), .int (xs (nI i + 3).toNatClampNeg), .int (xs (nI i + 4).toNatClampNeg), .int (xs (nI i + 5).toNatClampNeg), .ref 92] _ _ [] _ _ _ (qat_in (p := (5, 132)) (by decide +kernel)) wL_mean_ok rfl (qnum_rec (by decide) (by omega) (by omega) rfl) hF (by decide +kernel) ?_
  intro r h1 hr
  obtain ⟨k, rfl, hmid⟩ := hr
  obtain ⟨fs, h63⟩ := h63 h1 k hmid
  refine M.1 _ _ _ _ _ _ _ sgL_law__937_ok ?_
  refine ⟨n, xs, hS, vI (k := 1) (by decide) hi hn, ?_⟩
  refine ⟨n, xs, hS, vI (k := 2) (by decide) hi hn, ?_⟩
  refine ⟨n, xs, hS, vI (k := 3) (by decide) hi hn, ?_⟩
  refine ⟨n, xs, hS, vI (k := 4) (by decide) hi hn, ?_⟩
  refine ⟨n, xs, hS, vI (k := 5) (by decide) hi hn, ?_⟩
  refine Or.inl ⟨rfl, _, 6, 0, 0, 12, fs, _, qi_13_181, ⟨rfl, rfl⟩, ⟨h63, rfl⟩, (qnum_rec (by decide) (by omega) (by omega) rfl), rfl, hM h1 k hmid, fun y2 h2 hy2 => ?_⟩
  obtain ⟨b, rfl, hb, hA⟩ := hy2
  obtain ⟨z, rfl⟩ := isK_l hb
  obtain ⟨S2, x2, y2, F2, G2, u2, hL2, hx0, hu0⟩ := id hA
  refine Or.inl ⟨rfl, _, 1, 0, 0, 12, _, _, qi_13_144, ⟨rfl, rfl⟩, ⟨hL2.2.1.1, rfl⟩, (qnum_rec (by decide) (by omega) (by omega) rfl), rfl, M_thrown hg hL2.2.1.1, fun y3 h3 hy3 => ?_⟩
  obtain ⟨rfl, rfl⟩ := hy3
  have fin : ∀ L : List (Nat × Value), (∀ q ∈ LL i, q ∈ L) → run 1002 L [] h3 (cu + 4 + 0 + 0) (su + 24 + 0 + 0) := fun L hs => M.1 _ _ _ _ _ _ _ sgL_law__1002_ok (M.2.1 _ _ _ _ _ _ _ hs (kk _ _ _ hA.q (by omega) (by omega)))
  refine ⟨fun _ => ?_, fun hc => absurd hx0 hc⟩
  refine M.1 _ _ _ _ _ _ _ sgL_law__986_ok ?_
  have sub : ∀ (v1 v2 : Value), ∀ q ∈ LL i, q ∈ (6, v2) :: (5, v1) :: LL i := fun v1 v2 q hq => List.mem_cons_of_mem _ (List.mem_cons_of_mem _ hq)
  refine ⟨fun hk => fin _ (sub _ _), fun hk => ?_⟩
  refine ⟨_, _, hL2.2.2.2.2.1, vp_in_nI (n := 0) (by decide) (by decide), ?_⟩
  exact ⟨fun _ => fin _ (sub _ _), fun hc => absurd ((lgc_eq _ _).mpr (hu0 hk)) hc⟩
set_option maxHeartbeats 1000000 in
theorem MC_12 {g : qG} {run : qK0} (M : mStep g run) (B : mBund g) {n i : Nat} {xs : Nat → Int32} (hS : qScr g .int 0 n xs) (hn : n ≤ 3072) (hi : i + 6 ≤ n) {h : qH} (hQ : LQ h) {cu su : Nat} (hcu : cu + 104 ≤ 60000) (hsu : su + 424 ≤ 400000) (kk : ∀ (h2 : qH) (cu2 su2 : Nat), LQ h2 → cu2 ≤ cu + 104 → su2 ≤ su + 424 → run 2884 (LL i) [] h2 cu2 su2) : run 1005 (LL i) [] h cu su := by
  obtain ⟨hg, hT, hCt, hJ, hFM, hW, hSG, ⟨hS1, hL1⟩, ⟨hS2, hL2⟩, hS3, hL3⟩ := id B
  obtain ⟨S, x, y, F, G, u, hL⟩ := hQ
  obtain ⟨Mid, h63, hF, hM⟩ := P_planned hg hT hCt hL (xs (nI i + 1).toNatClampNeg) (xs (nI i + 2).toNatClampNeg)
  refine M.1 _ _ _ _ _ _ _ sgL_law__1005_ok ?_
  refine ⟨n, xs, hS, vI (k := 1) (by decide) hi hn, ?_⟩
  refine ⟨n, xs, hS, vI (k := 2) (by decide) hi hn, ?_⟩
  refine M.2.2 182 1019 10 4 24 wL_planned [.ref 0, .int (xs (nI i + 1).toNatClampNeg), .int (xs (nI i + 2).toNatClampNeg), .ref 92] _ _ [] _ _ _ (qat_in (p := (5, 151)) (by decide +kernel)) wL_planned_ok rfl (qnum_rec (by decide) (by omega) (by omega) rfl) hF (by decide +kernel) ?_
  intro r h1 hr
  obtain ⟨k, rfl, hmid⟩ := hr
  obtain ⟨fs, h63⟩ := h63 h1 k hmid
  refine M.1 _ _ _ _ _ _ _ sgL_law__1022_ok ?_
  refine ⟨n, xs, hS, vI (k := 1) (by decide) hi hn, ?_⟩
  refine ⟨n, xs, hS, vI (k := 2) (by decide) hi hn, ?_⟩
  refine Or.inl ⟨rfl, _, 7, 0, 0, 12, fs, _, qi_13_184, ⟨rfl, rfl⟩, ⟨h63, rfl⟩, (qnum_rec (by decide) (by omega) (by omega) rfl), rfl, hM h1 k hmid, fun y2 h2 hy2 => ?_⟩
  obtain ⟨b, rfl, hb, hA⟩ := hy2
  obtain ⟨z, rfl⟩ := isK_l hb
  obtain ⟨S2, x2, y2, F2, G2, u2, hL2, hx0, hu0⟩ := id hA
  refine Or.inl ⟨rfl, _, 1, 0, 0, 12, _, _, qi_13_144, ⟨rfl, rfl⟩, ⟨hL2.2.1.1, rfl⟩, (qnum_rec (by decide) (by omega) (by omega) rfl), rfl, M_thrown hg hL2.2.1.1, fun y3 h3 hy3 => ?_⟩
  obtain ⟨rfl, rfl⟩ := hy3
  have fin : ∀ L : List (Nat × Value), (∀ q ∈ LL i, q ∈ L) → run 1069 L [] h3 (cu + 4 + 0 + 0) (su + 24 + 0 + 0) := fun L hs => M.1 _ _ _ _ _ _ _ sgL_law__1069_ok (M.2.1 _ _ _ _ _ _ _ hs (kk _ _ _ hA.q (by omega) (by omega)))
  refine ⟨fun _ => ?_, fun hc => absurd hx0 hc⟩
  refine M.1 _ _ _ _ _ _ _ sgL_law__1053_ok ?_
  have sub : ∀ (v1 v2 : Value), ∀ q ∈ LL i, q ∈ (6, v2) :: (5, v1) :: LL i := fun v1 v2 q hq => List.mem_cons_of_mem _ (List.mem_cons_of_mem _ hq)
  refine ⟨fun hk => fin _ (sub _ _), fun hk => ?_⟩
  refine ⟨_, _, hL2.2.2.2.2.1, vp_in_nI (n := 0) (by decide) (by decide), ?_⟩
  exact ⟨fun _ => fin _ (sub _ _), fun hc => absurd ((lgc_eq _ _).mpr (hu0 hk)) hc⟩
set_option maxHeartbeats 1000000 in
theorem MC_13 {g : qG} {run : qK0} (M : mStep g run) (B : mBund g) {n i : Nat} {xs : Nat → Int32} (hS : qScr g .int 0 n xs) (hn : n ≤ 3072) (hi : i + 6 ≤ n) {h : qH} (hQ : LQ h) {cu su : Nat} (hcu : cu + 104 ≤ 60000) (hsu : su + 424 ≤ 400000) (kk : ∀ (h2 : qH) (cu2 su2 : Nat), LQ h2 → cu2 ≤ cu + 104 → su2 ≤ su + 424 → run 2884 (LL i) [] h2 cu2 su2) : run 1072 (LL i) [] h cu su := by
  obtain ⟨hg, hT, hCt, hJ, hFM, hW, hSG, ⟨hS1, hL1⟩, ⟨hS2, hL2⟩, hS3, hL3⟩ := id B
  obtain ⟨S, x, y, F, G, u, hL⟩ := hQ
  obtain ⟨Mid, h63, hF, hM⟩ := P_longest hg hL
  refine M.1 _ _ _ _ _ _ _ sgL_law__1072_ok ?_
  refine Or.inl ⟨rfl, _, 5, 0, 0, 11, _, _, qi_13_185, ⟨rfl, rfl⟩, ⟨hL.1.obj, rfl⟩, (qnum_rec (by decide) (by omega) (by omega) rfl), rfl, hF, fun y1 h1 hy1 => ?_⟩
  obtain ⟨a, rfl, hmid⟩ := hy1
  obtain ⟨⟨z, rfl⟩, fs, h63⟩ := h63 h1 _ hmid
  refine Or.inl ⟨rfl, _, 7, 0, 0, 12, fs, _, qi_13_188, ⟨rfl, rfl⟩, ⟨h63, rfl⟩, (qnum_rec (by decide) (by omega) (by omega) rfl), rfl, hM h1 _ hmid, fun y2 h2 hy2 => ?_⟩
  obtain ⟨rfl, hq⟩ := hy2
  exact ⟨fun _ => kk _ _ _ hq (by omega) (by omega), fun hc => absurd rfl hc⟩
set_option maxHeartbeats 1000000 in
theorem MC_14 {g : qG} {run : qK0} (M : mStep g run) (B : mBund g) {n i : Nat} {xs : Nat → Int32} (hS : qScr g .int 0 n xs) (hn : n ≤ 3072) (hi : i + 6 ≤ n) {h : qH} (hQ : LQ h) {cu su : Nat} (hcu : cu + 104 ≤ 60000) (hsu : su + 424 ≤ 400000) (kk : ∀ (h2 : qH) (cu2 su2 : Nat), LQ h2 → cu2 ≤ cu + 104 → su2 ≤ su + 424 → run 2884 (LL i) [] h2 cu2 su2) : run 1085 (LL i) [] h cu su := by
  obtain ⟨hg, hT, hCt, hJ, hFM, hW, hSG, ⟨hS1, hL1⟩, ⟨hS2, hL2⟩, hS3, hL3⟩ := id B
  obtain ⟨S, x, y, F, G, u, hL⟩ := hQ
  obtain ⟨Mid, h63, hF, hM⟩ := P_sure hg hL
  refine M.1 _ _ _ _ _ _ _ sgL_law__1085_ok ?_
  refine Or.inl ⟨rfl, _, 5, 0, 0, 11, _, _, qi_13_189, ⟨rfl, rfl⟩, ⟨hL.1.obj, rfl⟩, (qnum_rec (by decide) (by omega) (by omega) rfl), rfl, hF, fun y1 h1 hy1 => ?_⟩
  obtain ⟨a, rfl, hmid⟩ := hy1
  obtain ⟨⟨z, rfl⟩, fs, h63⟩ := h63 h1 _ hmid
  refine Or.inl ⟨rfl, _, 7, 0, 0, 12, fs, _, qi_13_192, ⟨rfl, rfl⟩, ⟨h63, rfl⟩, (qnum_rec (by decide) (by omega) (by omega) rfl), rfl, hM h1 _ hmid, fun y2 h2 hy2 => ?_⟩
  obtain ⟨rfl, hq⟩ := hy2
  exact ⟨fun _ => kk _ _ _ hq (by omega) (by omega), fun hc => absurd rfl hc⟩
set_option maxHeartbeats 1000000 in
theorem MC_15 {g : qG} {run : qK0} (M : mStep g run) (B : mBund g) {n i : Nat} {xs : Nat → Int32} (hS : qScr g .int 0 n xs) (hn : n ≤ 3072) (hi : i + 6 ≤ n) {h : qH} (hQ : LQ h) {cu su : Nat} (hcu : cu + 104 ≤ 60000) (hsu : su + 424 ≤ 400000) (kk : ∀ (h2 : qH) (cu2 su2 : Nat), LQ h2 → cu2 ≤ cu + 104 → su2 ≤ su + 424 → run 2884 (LL i) [] h2 cu2 su2) : run 1098 (LL i) [] h cu su := by
  obtain ⟨hg, hT, hCt, hJ, hFM, hW, hSG, ⟨hS1, hL1⟩, ⟨hS2, hL2⟩, hS3, hL3⟩ := id B
  obtain ⟨S, x, y, F, G, u, hL⟩ := hQ
  obtain ⟨Mid, h63, hF, hM⟩ := P_best hg hT hCt hL (xs (nI i + 1).toNatClampNeg) (xs (nI i + 2).toNatClampNeg)
  refine M.1 _ _ _ _ _ _ _ sgL_law__1098_ok ?_
  refine ⟨n, xs, hS, vI (k := 1) (by decide) hi hn, ?_⟩
  refine ⟨n, xs, hS, vI (k := 2) (by decide) hi hn, ?_⟩
  refine M.2.2 193 1112 13 4 24 wL_best [.ref 0, .int (xs (nI i + 1).toNatClampNeg), .int (xs (nI i + 2).toNatClampNeg), .ref 92] _ _ [] _ _ _ (qat_in (p := (5, 167)) (by decide +kernel)) wL_best_ok rfl (qnum_rec (by decide) (by omega) (by omega) rfl) hF (by decide +kernel) ?_
  intro r h1 hr
  obtain ⟨k, rfl, hmid⟩ := hr
  obtain ⟨fs, h63⟩ := h63 h1 k hmid
  refine M.1 _ _ _ _ _ _ _ sgL_law__1115_ok ?_
  refine ⟨n, xs, hS, vI (k := 1) (by decide) hi hn, ?_⟩
  refine ⟨n, xs, hS, vI (k := 2) (by decide) hi hn, ?_⟩
  refine Or.inl ⟨rfl, _, 8, 0, 0, 12, fs, _, qi_13_195, ⟨rfl, rfl⟩, ⟨h63, rfl⟩, (qnum_rec (by decide) (by omega) (by omega) rfl), rfl, hM h1 k hmid, fun y2 h2 hy2 => ?_⟩
  obtain ⟨b, rfl, hb, hA⟩ := hy2
  obtain ⟨z, rfl⟩ := isK_l hb
  obtain ⟨S2, x2, y2, F2, G2, u2, hL2, hx0, hu0⟩ := id hA
  refine Or.inl ⟨rfl, _, 1, 0, 0, 12, _, _, qi_13_144, ⟨rfl, rfl⟩, ⟨hL2.2.1.1, rfl⟩, (qnum_rec (by decide) (by omega) (by omega) rfl), rfl, M_thrown hg hL2.2.1.1, fun y3 h3 hy3 => ?_⟩
  obtain ⟨rfl, rfl⟩ := hy3
  have fin : ∀ L : List (Nat × Value), (∀ q ∈ LL i, q ∈ L) → run 1162 L [] h3 (cu + 4 + 0 + 0) (su + 24 + 0 + 0) := fun L hs => M.1 _ _ _ _ _ _ _ sgL_law__1162_ok (M.2.1 _ _ _ _ _ _ _ hs (kk _ _ _ hA.q (by omega) (by omega)))
  refine ⟨fun _ => ?_, fun hc => absurd hx0 hc⟩
  refine M.1 _ _ _ _ _ _ _ sgL_law__1146_ok ?_
  have sub : ∀ (v1 v2 : Value), ∀ q ∈ LL i, q ∈ (6, v2) :: (5, v1) :: LL i := fun v1 v2 q hq => List.mem_cons_of_mem _ (List.mem_cons_of_mem _ hq)
  refine ⟨fun hk => fin _ (sub _ _), fun hk => ?_⟩
  refine ⟨_, _, hL2.2.2.2.2.1, vp_in_nI (n := 0) (by decide) (by decide), ?_⟩
  exact ⟨fun _ => fin _ (sub _ _), fun hc => absurd ((lgc_eq _ _).mpr (hu0 hk)) hc⟩
set_option maxHeartbeats 1000000 in
theorem MC_16 {g : qG} {run : qK0} (M : mStep g run) (B : mBund g) {n i : Nat} {xs : Nat → Int32} (hS : qScr g .int 0 n xs) (hn : n ≤ 3072) (hi : i + 6 ≤ n) {h : qH} (hQ : LQ h) {cu su : Nat} (hcu : cu + 104 ≤ 60000) (hsu : su + 424 ≤ 400000) (kk : ∀ (h2 : qH) (cu2 su2 : Nat), LQ h2 → cu2 ≤ cu + 104 → su2 ≤ su + 424 → run 2884 (LL i) [] h2 cu2 su2) : run 1165 (LL i) [] h cu su := by
  obtain ⟨hg, hT, hCt, hJ, hFM, hW, hSG, ⟨hS1, hL1⟩, ⟨hS2, hL2⟩, hS3, hL3⟩ := id B
  obtain ⟨S, x, y, F, G, u, hL⟩ := hQ
  obtain ⟨Mid, h63, hF, hM⟩ := P_bestAt hg hT hCt hL (xs (nI i + 1).toNatClampNeg) (xs (nI i + 2).toNatClampNeg)
  refine M.1 _ _ _ _ _ _ _ sgL_law__1165_ok ?_
  refine ⟨n, xs, hS, vI (k := 1) (by decide) hi hn, ?_⟩
  refine ⟨n, xs, hS, vI (k := 2) (by decide) hi hn, ?_⟩
  refine M.2.2 196 1179 13 4 24 wL_bestAt [.ref 0, .int (xs (nI i + 1).toNatClampNeg), .int (xs (nI i + 2).toNatClampNeg), .ref 92] _ _ [] _ _ _ (qat_in (p := (5, 222)) (by decide +kernel)) wL_bestAt_ok rfl (qnum_rec (by decide) (by omega) (by omega) rfl) hF (by decide +kernel) ?_
  intro r h1 hr
  obtain ⟨k, rfl, hmid⟩ := hr
  obtain ⟨fs, h63⟩ := h63 h1 k hmid
  refine M.1 _ _ _ _ _ _ _ sgL_law__1182_ok ?_
  refine ⟨n, xs, hS, vI (k := 1) (by decide) hi hn, ?_⟩
  refine ⟨n, xs, hS, vI (k := 2) (by decide) hi hn, ?_⟩
  refine Or.inl ⟨rfl, _, 8, 0, 0, 12, fs, _, qi_13_198, ⟨rfl, rfl⟩, ⟨h63, rfl⟩, (qnum_rec (by decide) (by omega) (by omega) rfl), rfl, hM h1 k hmid, fun y2 h2 hy2 => ?_⟩
  obtain ⟨b, rfl, hb, hA⟩ := hy2
  obtain ⟨z, rfl⟩ := isK_i hb
  obtain ⟨S2, x2, y2, F2, G2, u2, hL2, hx0, hu0⟩ := id hA
  refine Or.inl ⟨rfl, _, 1, 0, 0, 12, _, _, qi_13_144, ⟨rfl, rfl⟩, ⟨hL2.2.1.1, rfl⟩, (qnum_rec (by decide) (by omega) (by omega) rfl), rfl, M_thrown hg hL2.2.1.1, fun y3 h3 hy3 => ?_⟩
  obtain ⟨rfl, rfl⟩ := hy3
  have fin : ∀ L : List (Nat × Value), (∀ q ∈ LL i, q ∈ L) → run 1230 L [] h3 (cu + 4 + 0 + 0) (su + 24 + 0 + 0) := fun L hs => M.1 _ _ _ _ _ _ _ sgL_law__1230_ok (M.2.1 _ _ _ _ _ _ _ hs (kk _ _ _ hA.q (by omega) (by omega)))
  refine ⟨fun _ => ?_, fun hc => absurd hx0 hc⟩
  refine M.1 _ _ _ _ _ _ _ sgL_law__1213_ok ?_
  have sub : ∀ (v1 v2 : Value), ∀ q ∈ LL i, q ∈ (6, v2) :: (5, v1) :: LL i := fun v1 v2 q hq => List.mem_cons_of_mem _ (List.mem_cons_of_mem _ hq)
  refine ⟨fun hk => fin _ (sub _ _), fun hk => ?_⟩
  refine ⟨_, _, hL2.2.2.2.2.1, vp_in_nI (n := 0) (by decide) (by decide), ?_⟩
  exact ⟨fun _ => fin _ (sub _ _), fun hc => absurd ((lgc_eq _ _).mpr (hu0 hk)) hc⟩
set_option maxHeartbeats 1000000 in
theorem MC_17 {g : qG} {run : qK0} (M : mStep g run) (B : mBund g) {n i : Nat} {xs : Nat → Int32} (hS : qScr g .int 0 n xs) (hn : n ≤ 3072) (hi : i + 6 ≤ n) {h : qH} (hQ : LQ h) {cu su : Nat} (hcu : cu + 104 ≤ 60000) (hsu : su + 424 ≤ 400000) (kk : ∀ (h2 : qH) (cu2 su2 : Nat), LQ h2 → cu2 ≤ cu + 104 → su2 ≤ su + 424 → run 2884 (LL i) [] h2 cu2 su2) : run 1233 (LL i) [] h cu su := by
  obtain ⟨hg, hT, hCt, hJ, hFM, hW, hSG, ⟨hS1, hL1⟩, ⟨hS2, hL2⟩, hS3, hL3⟩ := id B
  obtain ⟨S, x, y, F, G, u, hL⟩ := hQ
  obtain ⟨Mid, h63, hF, hM⟩ := P_bestLong hg hT hCt hL (xs (nI i + 1).toNatClampNeg)
  refine M.1 _ _ _ _ _ _ _ sgL_law__1233_ok ?_
  refine ⟨n, xs, hS, vI (k := 1) (by decide) hi hn, ?_⟩
  refine M.2.2 199 1241 13 4 24 wL_bestLong [.ref 0, .int (xs (nI i + 1).toNatClampNeg), .ref 92] _ _ [] _ _ _ (qat_in (p := (5, 233)) (by decide +kernel)) wL_bestLong_ok rfl (qnum_rec (by decide) (by omega) (by omega) rfl) hF (by decide +kernel) ?_
  intro r h1 hr
  obtain ⟨k, rfl, hmid⟩ := hr
  obtain ⟨fs, h63⟩ := h63 h1 k hmid
  refine M.1 _ _ _ _ _ _ _ sgL_law__1244_ok ?_
  refine ⟨n, xs, hS, vI (k := 1) (by decide) hi hn, ?_⟩
  refine Or.inl ⟨rfl, _, 8, 0, 0, 12, fs, _, qi_13_201, ⟨rfl, rfl⟩, ⟨h63, rfl⟩, (qnum_rec (by decide) (by omega) (by omega) rfl), rfl, hM h1 k hmid, fun y2 h2 hy2 => ?_⟩
  obtain ⟨b, rfl, hb, hA⟩ := hy2
  obtain ⟨z, rfl⟩ := isK_i hb
  obtain ⟨S2, x2, y2, F2, G2, u2, hL2, hx0, hu0⟩ := id hA
  refine Or.inl ⟨rfl, _, 1, 0, 0, 12, _, _, qi_13_144, ⟨rfl, rfl⟩, ⟨hL2.2.1.1, rfl⟩, (qnum_rec (by decide) (by omega) (by omega) rfl), rfl, M_thrown hg hL2.2.1.1, fun y3 h3 hy3 => ?_⟩
  obtain ⟨rfl, rfl⟩ := hy3
  have fin : ∀ L : List (Nat × Value), (∀ q ∈ LL i, q ∈ L) → run 1286 L [] h3 (cu + 4 + 0 + 0) (su + 24 + 0 + 0) := fun L hs => M.1 _ _ _ _ _ _ _ sgL_law__1286_ok (M.2.1 _ _ _ _ _ _ _ hs (kk _ _ _ hA.q (by omega) (by omega)))
  refine ⟨fun _ => ?_, fun hc => absurd hx0 hc⟩
  refine M.1 _ _ _ _ _ _ _ sgL_law__1269_ok ?_
  have sub : ∀ (v1 v2 : Value), ∀ q ∈ LL i, q ∈ (6, v2) :: (5, v1) :: LL i := fun v1 v2 q hq => List.mem_cons_of_mem _ (List.mem_cons_of_mem _ hq)
  refine ⟨fun hk => fin _ (sub _ _), fun hk => ?_⟩
  refine ⟨_, _, hL2.2.2.2.2.1, vp_in_nI (n := 0) (by decide) (by decide), ?_⟩
  exact ⟨fun _ => fin _ (sub _ _), fun hc => absurd ((lgc_eq _ _).mpr (hu0 hk)) hc⟩
set_option maxHeartbeats 1000000 in
theorem MC_18 {g : qG} {run : qK0} (M : mStep g run) (B : mBund g) {n i : Nat} {xs : Nat → Int32} (hS : qScr g .int 0 n xs) (hn : n ≤ 3072) (hi : i + 6 ≤ n) {h : qH} (hQ : LQ h) {cu su : Nat} (hcu : cu + 104 ≤ 60000) (hsu : su + 424 ≤ 400000) (kk : ∀ (h2 : qH) (cu2 su2 : Nat), LQ h2 → cu2 ≤ cu + 104 → su2 ≤ su + 424 → run 2884 (LL i) [] h2 cu2 su2) : run 1289 (LL i) [] h cu su := by
  obtain ⟨hg, hT, hCt, hJ, hFM, hW, hSG, ⟨hS1, hL1⟩, ⟨hS2, hL2⟩, hS3, hL3⟩ := id B
  obtain ⟨S, x, y, F, G, u, hL⟩ := hQ
  obtain ⟨Mid, h63, hF, hM⟩ := P_home hg hT hCt hL (xs (nI i + 1).toNatClampNeg) (xs (nI i + 2).toNatClampNeg) (xs (nI i + 3).toNatClampNeg) (xs (nI i + 4).toNatClampNeg)
  refine M.1 _ _ _ _ _ _ _ sgL_law__1289_ok ?_
  refine ⟨n, xs, hS, vI (k := 1) (by decide) hi hn, ?_⟩
  refine ⟨n, xs, hS, vI (k := 2) (by decide) hi hn, ?_⟩
  refine ⟨n, xs, hS, vI (k := 3) (by decide) hi hn, ?_⟩
  refine ⟨n, xs, hS, vI (k := 4) (by decide) hi hn, ?_⟩
  refine M.2.2 202 1315 9 4 24 wL_home [.ref 0, .int (xs (nI i + 1).toNatClampNeg), .int (xs (nI i + 2).toNatClampNeg), .int (xs (nI i + 3).toNatClampNeg), .int (xs (nI i + 4).toNatClampNeg), .ref 92] _ _ [] _ _ _ (qat_in (p := (6, 0)) (by decide +kernel)) wL_home_ok rfl (qnum_rec (by decide) (by omega) (by omega) rfl) hF (by decide +kernel) ?_
  intro r h1 hr
  obtain ⟨k, rfl, hmid⟩ := hr
  obtain ⟨fs, h63⟩ := h63 h1 k hmid
  refine M.1 _ _ _ _ _ _ _ sgL_law__1318_ok ?_
  refine ⟨n, xs, hS, vI (k := 1) (by decide) hi hn, ?_⟩
  refine ⟨n, xs, hS, vI (k := 2) (by decide) hi hn, ?_⟩
  refine ⟨n, xs, hS, vI (k := 3) (by decide) hi hn, ?_⟩
  refine ⟨n, xs, hS, vI (k := 4) (by decide) hi hn, ?_⟩
  refine Or.inl ⟨rfl, _, 5, 0, 0, 12, fs, _, qi_13_205, ⟨rfl, rfl⟩, ⟨h63, rfl⟩, (qnum_rec (by decide) (by omega) (by omega) rfl), rfl, hM h1 k hmid, fun y2 h2 hy2 => ?_⟩
  obtain ⟨b, rfl, hb, hA⟩ := hy2
  obtain ⟨z, rfl⟩ := isK_l hb
  obtain ⟨S2, x2, y2, F2, G2, u2, hL2, hx0, hu0⟩ := id hA
  refine Or.inl ⟨rfl, _, 1, 0, 0, 12, _, _, qi_13_144, ⟨rfl, rfl⟩, ⟨hL2.2.1.1, rfl⟩, (qnum_rec (by decide) (by omega) (by omega) rfl), rfl, M_thrown hg hL2.2.1.1, fun y3 h3 hy3 => ?_⟩
  obtain ⟨rfl, rfl⟩ := hy3
  have fin : ∀ L : List (Nat × Value), (∀ q ∈ LL i, q ∈ L) → run 1377 L [] h3 (cu + 4 + 0 + 0) (su + 24 + 0 + 0) := fun L hs => M.1 _ _ _ _ _ _ _ sgL_law__1377_ok (M.2.1 _ _ _ _ _ _ _ hs (kk _ _ _ hA.q (by omega) (by omega)))
  refine ⟨fun _ => ?_, fun hc => absurd hx0 hc⟩
  refine M.1 _ _ _ _ _ _ _ sgL_law__1361_ok ?_
  have sub : ∀ (v1 v2 : Value), ∀ q ∈ LL i, q ∈ (6, v2) :: (5, v1) :: LL i := fun v1 v2 q hq => List.mem_cons_of_mem _ (List.mem_cons_of_mem _ hq)
  refine ⟨fun hk => fin _ (sub _ _), fun hk => ?_⟩
  refine ⟨_, _, hL2.2.2.2.2.1, vp_in_nI (n := 0) (by decide) (by decide), ?_⟩
  exact ⟨fun _ => fin _ (sub _ _), fun hc => absurd ((lgc_eq _ _).mpr (hu0 hk)) hc⟩
set_option maxHeartbeats 1000000 in
theorem MC_19 {g : qG} {run : qK0} (M : mStep g run) (B : mBund g) {n i : Nat} {xs : Nat → Int32} (hS : qScr g .int 0 n xs) (hn : n ≤ 3072) (hi : i + 6 ≤ n) {h : qH} (hQ : LQ h) {cu su : Nat} (hcu : cu + 104 ≤ 60000) (hsu : su + 424 ≤ 400000) (kk : ∀ (h2 : qH) (cu2 su2 : Nat), LQ h2 → cu2 ≤ cu + 104 → su2 ≤ su + 424 → run 2884 (LL i) [] h2 cu2 su2) : run 1380 (LL i) [] h cu su := by
  obtain ⟨hg, hT, hCt, hJ, hFM, hW, hSG, ⟨hS1, hL1⟩, ⟨hS2, hL2⟩, hS3, hL3⟩ := id B
  obtain ⟨S, x, y, F, G, u, hL⟩ := hQ
  obtain ⟨Mid, h63, hF, hM⟩ := P_another hg hT hCt hL (xs (nI i + 1).toNatClampNeg) (xs (nI i + 2).toNatClampNeg) (xs (nI i + 3).toNatClampNeg) (xs (nI i + 4).toNatClampNeg)
  refine M.1 _ _ _ _ _ _ _ sgL_law__1380_ok ?_
  refine ⟨n, xs, hS, vI (k := 1) (by decide) hi hn, ?_⟩
  refine ⟨n, xs, hS, vI (k := 2) (by decide) hi hn, ?_⟩
  refine ⟨n, xs, hS, vI (k := 3) (by decide) hi hn, ?_⟩
  refine ⟨n, xs, hS, vI (k := 4) (by decide) hi hn, ?_⟩
  refine M.2.2 206 1406 9 4 24 wL_another [.ref 0, .int (xs (nI i + 1).toNatClampNeg), .int (xs (nI i + 2).toNatClampNeg), .int (xs (nI i + 3).toNatClampNeg), .int (xs (nI i + 4).toNatClampNeg), .ref 92] _ _ [] _ _ _ (qat_in (p := (6, 22)) (by decide +kernel)) wL_another_ok rfl (qnum_rec (by decide) (by omega) (by omega) rfl) hF (by decide +kernel) ?_
  intro r h1 hr
  obtain ⟨k, rfl, hmid⟩ := hr
  obtain ⟨fs, h63⟩ := h63 h1 k hmid
  refine M.1 _ _ _ _ _ _ _ sgL_law__1409_ok ?_
  refine ⟨n, xs, hS, vI (k := 1) (by decide) hi hn, ?_⟩
  refine ⟨n, xs, hS, vI (k := 2) (by decide) hi hn, ?_⟩
  refine ⟨n, xs, hS, vI (k := 3) (by decide) hi hn, ?_⟩
  refine ⟨n, xs, hS, vI (k := 4) (by decide) hi hn, ?_⟩
  refine Or.inl ⟨rfl, _, 5, 0, 0, 12, fs, _, qi_13_208, ⟨rfl, rfl⟩, ⟨h63, rfl⟩, (qnum_rec (by decide) (by omega) (by omega) rfl), rfl, hM h1 k hmid, fun y2 h2 hy2 => ?_⟩
  obtain ⟨b, rfl, hb, hA⟩ := hy2
  obtain ⟨z, rfl⟩ := isK_l hb
  obtain ⟨S2, x2, y2, F2, G2, u2, hL2, hx0, hu0⟩ := id hA
  refine Or.inl ⟨rfl, _, 1, 0, 0, 12, _, _, qi_13_144, ⟨rfl, rfl⟩, ⟨hL2.2.1.1, rfl⟩, (qnum_rec (by decide) (by omega) (by omega) rfl), rfl, M_thrown hg hL2.2.1.1, fun y3 h3 hy3 => ?_⟩
  obtain ⟨rfl, rfl⟩ := hy3
  have fin : ∀ L : List (Nat × Value), (∀ q ∈ LL i, q ∈ L) → run 1468 L [] h3 (cu + 4 + 0 + 0) (su + 24 + 0 + 0) := fun L hs => M.1 _ _ _ _ _ _ _ sgL_law__1468_ok (M.2.1 _ _ _ _ _ _ _ hs (kk _ _ _ hA.q (by omega) (by omega)))
  refine ⟨fun _ => ?_, fun hc => absurd hx0 hc⟩
  refine M.1 _ _ _ _ _ _ _ sgL_law__1452_ok ?_
  have sub : ∀ (v1 v2 : Value), ∀ q ∈ LL i, q ∈ (6, v2) :: (5, v1) :: LL i := fun v1 v2 q hq => List.mem_cons_of_mem _ (List.mem_cons_of_mem _ hq)
  refine ⟨fun hk => fin _ (sub _ _), fun hk => ?_⟩
  refine ⟨_, _, hL2.2.2.2.2.1, vp_in_nI (n := 0) (by decide) (by decide), ?_⟩
  exact ⟨fun _ => fin _ (sub _ _), fun hc => absurd ((lgc_eq _ _).mpr (hu0 hk)) hc⟩
set_option maxHeartbeats 1000000 in
theorem MC_20 {g : qG} {run : qK0} (M : mStep g run) (B : mBund g) {n i : Nat} {xs : Nat → Int32} (hS : qScr g .int 0 n xs) (hn : n ≤ 3072) (hi : i + 6 ≤ n) {h : qH} (hQ : LQ h) {cu su : Nat} (hcu : cu + 104 ≤ 60000) (hsu : su + 424 ≤ 400000) (kk : ∀ (h2 : qH) (cu2 su2 : Nat), LQ h2 → cu2 ≤ cu + 104 → su2 ≤ su + 424 → run 2884 (LL i) [] h2 cu2 su2) : run 1471 (LL i) [] h cu su := by
  obtain ⟨hg, hT, hCt, hJ, hFM, hW, hSG, ⟨hS1, hL1⟩, ⟨hS2, hL2⟩, hS3, hL3⟩ := id B
  obtain ⟨S, x, y, F, G, u, hL⟩ := hQ
  obtain ⟨Mid, h63, hF, hM⟩ := P_lineAt hg hT hCt hL (xs (nI i + 1).toNatClampNeg) (xs (nI i + 2).toNatClampNeg) (xs (nI i + 3).toNatClampNeg)
  refine M.1 _ _ _ _ _ _ _ sgL_law__1471_ok ?_
  refine ⟨n, xs, hS, vI (k := 1) (by decide) hi hn, ?_⟩
  refine ⟨n, xs, hS, vI (k := 2) (by decide) hi hn, ?_⟩
  refine ⟨n, xs, hS, vI (k := 3) (by decide) hi hn, ?_⟩
  refine M.2.2 209 1491 9 4 24 wL_lineAt [.ref 0, .int (xs (nI i + 1).toNatClampNeg), .int (xs (nI i + 2).toNatClampNeg), .int (xs (nI i + 3).toNatClampNeg), .ref 92] _ _ [] _ _ _ (qat_in (p := (6, 30)) (by decide +kernel)) wL_lineAt_ok rfl (qnum_rec (by decide) (by omega) (by omega) rfl) hF (by decide +kernel) ?_
  intro r h1 hr
  obtain ⟨k, rfl, hmid⟩ := hr
  obtain ⟨fs, h63⟩ := h63 h1 k hmid
  refine M.1 _ _ _ _ _ _ _ sgL_law__1494_ok ?_
  refine ⟨n, xs, hS, vI (k := 1) (by decide) hi hn, ?_⟩
  refine ⟨n, xs, hS, vI (k := 2) (by decide) hi hn, ?_⟩
  refine ⟨n, xs, hS, vI (k := 3) (by decide) hi hn, ?_⟩
  refine Or.inl ⟨rfl, _, 5, 0, 0, 12, fs, _, qi_13_211, ⟨rfl, rfl⟩, ⟨h63, rfl⟩, (qnum_rec (by decide) (by omega) (by omega) rfl), rfl, hM h1 k hmid, fun y2 h2 hy2 => ?_⟩
  obtain ⟨b, rfl, hb, hA⟩ := hy2
  obtain ⟨z, rfl⟩ := isK_i hb
  obtain ⟨S2, x2, y2, F2, G2, u2, hL2, hx0, hu0⟩ := id hA
  refine Or.inl ⟨rfl, _, 1, 0, 0, 12, _, _, qi_13_144, ⟨rfl, rfl⟩, ⟨hL2.2.1.1, rfl⟩, (qnum_rec (by decide) (by omega) (by omega) rfl), rfl, M_thrown hg hL2.2.1.1, fun y3 h3 hy3 => ?_⟩
  obtain ⟨rfl, rfl⟩ := hy3
  have fin : ∀ L : List (Nat × Value), (∀ q ∈ LL i, q ∈ L) → run 1548 L [] h3 (cu + 4 + 0 + 0) (su + 24 + 0 + 0) := fun L hs => M.1 _ _ _ _ _ _ _ sgL_law__1548_ok (M.2.1 _ _ _ _ _ _ _ hs (kk _ _ _ hA.q (by omega) (by omega)))
  refine ⟨fun _ => ?_, fun hc => absurd hx0 hc⟩
  refine M.1 _ _ _ _ _ _ _ sgL_law__1531_ok ?_
  have sub : ∀ (v1 v2 : Value), ∀ q ∈ LL i, q ∈ (6, v2) :: (5, v1) :: LL i := fun v1 v2 q hq => List.mem_cons_of_mem _ (List.mem_cons_of_mem _ hq)
  refine ⟨fun hk => fin _ (sub _ _), fun hk => ?_⟩
  refine ⟨_, _, hL2.2.2.2.2.1, vp_in_nI (n := 0) (by decide) (by decide), ?_⟩
  exact ⟨fun _ => fin _ (sub _ _), fun hc => absurd ((lgc_eq _ _).mpr (hu0 hk)) hc⟩
set_option maxHeartbeats 1000000 in
theorem MC_21 {g : qG} {run : qK0} (M : mStep g run) (B : mBund g) {n i : Nat} {xs : Nat → Int32} (hS : qScr g .int 0 n xs) (hn : n ≤ 3072) (hi : i + 6 ≤ n) {h : qH} (hQ : LQ h) {cu su : Nat} (hcu : cu + 104 ≤ 60000) (hsu : su + 424 ≤ 400000) (kk : ∀ (h2 : qH) (cu2 su2 : Nat), LQ h2 → cu2 ≤ cu + 104 → su2 ≤ su + 424 → run 2884 (LL i) [] h2 cu2 su2) : run 1551 (LL i) [] h cu su := by
  obtain ⟨hg, hT, hCt, hJ, hFM, hW, hSG, ⟨hS1, hL1⟩, ⟨hS2, hL2⟩, hS3, hL3⟩ := id B
  obtain ⟨S, x, y, F, G, u, hL⟩ := hQ
  obtain ⟨Mid, h63, hF, hM⟩ := P_ring hg hT hCt hL (xs (nI i + 1).toNatClampNeg) (xs (nI i + 2).toNatClampNeg)
  refine M.1 _ _ _ _ _ _ _ sgL_law__1551_ok ?_
  refine ⟨n, xs, hS, vI (k := 1) (by decide) hi hn, ?_⟩
  refine ⟨n, xs, hS, vI (k := 2) (by decide) hi hn, ?_⟩
  refine M.2.2 212 1565 9 4 24 wL_ring [.ref 0, .int (xs (nI i + 1).toNatClampNeg), .int (xs (nI i + 2).toNatClampNeg), .ref 92] _ _ [] _ _ _ (qat_in (p := (6, 42)) (by decide +kernel)) wL_ring_ok rfl (qnum_rec (by decide) (by omega) (by omega) rfl) hF (by decide +kernel) ?_
  intro r h1 hr
  obtain ⟨k, rfl, hmid⟩ := hr
  obtain ⟨fs, h63⟩ := h63 h1 k hmid
  refine M.1 _ _ _ _ _ _ _ sgL_law__1568_ok ?_
  refine ⟨n, xs, hS, vI (k := 1) (by decide) hi hn, ?_⟩
  refine ⟨n, xs, hS, vI (k := 2) (by decide) hi hn, ?_⟩
  refine Or.inl ⟨rfl, _, 6, 0, 0, 12, fs, _, qi_13_214, ⟨rfl, rfl⟩, ⟨h63, rfl⟩, (qnum_rec (by decide) (by omega) (by omega) rfl), rfl, hM h1 k hmid, fun y2 h2 hy2 => ?_⟩
  obtain ⟨b, rfl, hb, hA⟩ := hy2
  obtain ⟨z, rfl⟩ := isK_i hb
  obtain ⟨S2, x2, y2, F2, G2, u2, hL2, hx0, hu0⟩ := id hA
  refine Or.inl ⟨rfl, _, 1, 0, 0, 12, _, _, qi_13_144, ⟨rfl, rfl⟩, ⟨hL2.2.1.1, rfl⟩, (qnum_rec (by decide) (by omega) (by omega) rfl), rfl, M_thrown hg hL2.2.1.1, fun y3 h3 hy3 => ?_⟩
  obtain ⟨rfl, rfl⟩ := hy3
  have fin : ∀ L : List (Nat × Value), (∀ q ∈ LL i, q ∈ L) → run 1616 L [] h3 (cu + 4 + 0 + 0) (su + 24 + 0 + 0) := fun L hs => M.1 _ _ _ _ _ _ _ sgL_law__1616_ok (M.2.1 _ _ _ _ _ _ _ hs (kk _ _ _ hA.q (by omega) (by omega)))
  refine ⟨fun _ => ?_, fun hc => absurd hx0 hc⟩
  refine M.1 _ _ _ _ _ _ _ sgL_law__1599_ok ?_
  have sub : ∀ (v1 v2 : Value), ∀ q ∈ LL i, q ∈ (6, v2) :: (5, v1) :: LL i := fun v1 v2 q hq => List.mem_cons_of_mem _ (List.mem_cons_of_mem _ hq)
  refine ⟨fun hk => fin _ (sub _ _), fun hk => ?_⟩
  refine ⟨_, _, hL2.2.2.2.2.1, vp_in_nI (n := 0) (by decide) (by decide), ?_⟩
  exact ⟨fun _ => fin _ (sub _ _), fun hc => absurd ((lgc_eq _ _).mpr (hu0 hk)) hc⟩
set_option maxHeartbeats 1000000 in
theorem MC_22 {g : qG} {run : qK0} (M : mStep g run) (B : mBund g) {n i : Nat} {xs : Nat → Int32} (hS : qScr g .int 0 n xs) (hn : n ≤ 3072) (hi : i + 6 ≤ n) {h : qH} (hQ : LQ h) {cu su : Nat} (hcu : cu + 104 ≤ 60000) (hsu : su + 424 ≤ 400000) (kk : ∀ (h2 : qH) (cu2 su2 : Nat), LQ h2 → cu2 ≤ cu + 104 → su2 ≤ su + 424 → run 2884 (LL i) [] h2 cu2 su2) : run 1619 (LL i) [] h cu su := by
  obtain ⟨hg, hT, hCt, hJ, hFM, hW, hSG, ⟨hS1, hL1⟩, ⟨hS2, hL2⟩, hS3, hL3⟩ := id B
  obtain ⟨S, x, y, F, G, u, hL⟩ := hQ
  obtain ⟨Mid, h63, hF, hM⟩ := P_pays hg hT hCt hL (xs (nI i + 1).toNatClampNeg) (xs (nI i + 2).toNatClampNeg) (xs (nI i + 3).toNatClampNeg) (xs (nI i + 4).toNatClampNeg)
  refine M.1 _ _ _ _ _ _ _ sgL_law__1619_ok ?_
  refine ⟨n, xs, hS, vI (k := 1) (by decide) hi hn, ?_⟩
  refine ⟨n, xs, hS, vI (k := 2) (by decide) hi hn, ?_⟩
  refine ⟨n, xs, hS, vI (k := 3) (by decide) hi hn, ?_⟩
  refine ⟨n, xs, hS, vI (k := 4) (by decide) hi hn, ?_⟩
  refine M.2.2 215 1645 9 4 24 wL_pays [.ref 0, .int (xs (nI i + 1).toNatClampNeg), .int (xs (nI i + 2).toNatClampNeg), .int (xs (nI i + 3).toNatClampNeg), .int (xs (nI i + 4).toNatClampNeg), .ref 92] _ _ [] _ _ _ (qat_in (p := (6, 49)) (by decide +kernel)) wL_pays_ok rfl (qnum_rec (by decide) (by omega) (by omega) rfl) hF (by decide +kernel) ?_
  intro r h1 hr
  obtain ⟨k, rfl, hmid⟩ := hr
  obtain ⟨fs, h63⟩ := h63 h1 k hmid
  refine M.1 _ _ _ _ _ _ _ sgL_law__1648_ok ?_
  refine ⟨n, xs, hS, vI (k := 1) (by decide) hi hn, ?_⟩
  refine ⟨n, xs, hS, vI (k := 2) (by decide) hi hn, ?_⟩
  refine ⟨n, xs, hS, vI (k := 3) (by decide) hi hn, ?_⟩
  refine ⟨n, xs, hS, vI (k := 4) (by decide) hi hn, ?_⟩
  refine Or.inl ⟨rfl, _, 6, 0, 0, 12, fs, _, qi_13_217, ⟨rfl, rfl⟩, ⟨h63, rfl⟩, (qnum_rec (by decide) (by omega) (by omega) rfl), rfl, hM h1 k hmid, fun y2 h2 hy2 => ?_⟩
  obtain ⟨b, rfl, hb, hA, hbz⟩ := hy2
  obtain ⟨z, rfl⟩ := isK_b hb
  obtain ⟨S2, x2, y2, F2, G2, u2, hL2, hx0, hu0⟩ := id hA
  refine Or.inl ⟨rfl, _, 1, 0, 0, 12, _, _, qi_13_144, ⟨rfl, rfl⟩, ⟨hL2.2.1.1, rfl⟩, (qnum_rec (by decide) (by omega) (by omega) rfl), rfl, M_thrown hg hL2.2.1.1, fun y3 h3 hy3 => ?_⟩
  obtain ⟨rfl, rfl⟩ := hy3
  have fin : ∀ L : List (Nat × Value), (∀ q ∈ LL i, q ∈ L) → run 1715 L [] h3 (cu + 4 + 0 + 0) (su + 24 + 0 + 0) := fun L hs => M.1 _ _ _ _ _ _ _ sgL_law__1715_ok (M.2.1 _ _ _ _ _ _ _ hs (kk _ _ _ hA.q (by omega) (by omega)))
  refine ⟨fun _ => ?_, fun hc => absurd hx0 hc⟩
  refine M.1 _ _ _ _ _ _ _ sgL_law__1691_ok ?_
  have sub : ∀ (v1 v2 : Value), ∀ q ∈ LL i, q ∈ (6, v2) :: (5, v1) :: LL i := fun v1 v2 q hq => List.mem_cons_of_mem _ (List.mem_cons_of_mem _ hq)
  refine ⟨fun hk => fin _ (sub _ _), fun hk => ?_⟩
  refine ⟨_, _, hL2.2.2.2.2.1, vp_in_nI (n := 0) (by decide) (by decide), ?_⟩
  rcases hbz hk with e | e
  · cases e
    refine ⟨fun _ => ?_, fun hc => absurd rfl hc⟩
    refine M.1 _ _ _ _ _ _ _ sgL_law__1708_ok ?_
    refine M.1 _ _ _ _ _ _ _ sgL_law__1709_ok ?_
    exact ⟨fun _ => fin _ (sub _ _), fun hc => absurd ((lgc_eq _ _).mpr (hu0 hk)) hc⟩
  · cases e
    refine ⟨fun hc => absurd hc (by decide), fun _ => ?_⟩
    refine M.1 _ _ _ _ _ _ _ sgL_law__1709_ok ?_
    exact ⟨fun _ => fin _ (sub _ _), fun hc => absurd ((lgc_eq _ _).mpr (hu0 hk)) hc⟩
set_option maxHeartbeats 1000000 in
theorem MC_23 {g : qG} {run : qK0} (M : mStep g run) (B : mBund g) {n i : Nat} {xs : Nat → Int32} (hS : qScr g .int 0 n xs) (hn : n ≤ 3072) (hi : i + 6 ≤ n) {h : qH} (hQ : LQ h) {cu su : Nat} (hcu : cu + 104 ≤ 60000) (hsu : su + 424 ≤ 400000) (kk : ∀ (h2 : qH) (cu2 su2 : Nat), LQ h2 → cu2 ≤ cu + 104 → su2 ≤ su + 424 → run 2884 (LL i) [] h2 cu2 su2) : run 1718 (LL i) [] h cu su := by
  obtain ⟨hg, hT, hCt, hJ, hFM, hW, hSG, ⟨hS1, hL1⟩, ⟨hS2, hL2⟩, hS3, hL3⟩ := id B
  obtain ⟨S, x, y, F, G, u, hL⟩ := hQ
  obtain ⟨Mid, h63, hF, hM⟩ := P_stop hg hT hCt hL (xs (nI i + 1).toNatClampNeg)
  refine M.1 _ _ _ _ _ _ _ sgL_law__1718_ok ?_
  refine ⟨n, xs, hS, vI (k := 1) (by decide) hi hn, ?_⟩
  refine M.2.2 218 1726 10 4 24 wL_stop [.ref 0, .int (xs (nI i + 1).toNatClampNeg), .ref 92] _ _ [] _ _ _ (qat_in (p := (6, 56)) (by decide +kernel)) wL_stop_ok rfl (qnum_rec (by decide) (by omega) (by omega) rfl) hF (by decide +kernel) ?_
  intro r h1 hr
  obtain ⟨k, rfl, hmid⟩ := hr
  obtain ⟨fs, h63⟩ := h63 h1 k hmid
  refine M.1 _ _ _ _ _ _ _ sgL_law__1729_ok ?_
  refine ⟨n, xs, hS, vI (k := 1) (by decide) hi hn, ?_⟩
  refine Or.inl ⟨rfl, _, 7, 0, 0, 12, fs, _, qi_13_220, ⟨rfl, rfl⟩, ⟨h63, rfl⟩, (qnum_rec (by decide) (by omega) (by omega) rfl), rfl, hM h1 k hmid, fun y2 h2 hy2 => ?_⟩
  obtain ⟨b, rfl, hb, hA⟩ := hy2
  obtain ⟨z, rfl⟩ := isK_i hb
  obtain ⟨S2, x2, y2, F2, G2, u2, hL2, hx0, hu0⟩ := id hA
  refine Or.inl ⟨rfl, _, 1, 0, 0, 12, _, _, qi_13_144, ⟨rfl, rfl⟩, ⟨hL2.2.1.1, rfl⟩, (qnum_rec (by decide) (by omega) (by omega) rfl), rfl, M_thrown hg hL2.2.1.1, fun y3 h3 hy3 => ?_⟩
  obtain ⟨rfl, rfl⟩ := hy3
  have fin : ∀ L : List (Nat × Value), (∀ q ∈ LL i, q ∈ L) → run 1771 L [] h3 (cu + 4 + 0 + 0) (su + 24 + 0 + 0) := fun L hs => M.1 _ _ _ _ _ _ _ sgL_law__1771_ok (M.2.1 _ _ _ _ _ _ _ hs (kk _ _ _ hA.q (by omega) (by omega)))
  refine ⟨fun _ => ?_, fun hc => absurd hx0 hc⟩
  refine M.1 _ _ _ _ _ _ _ sgL_law__1754_ok ?_
  have sub : ∀ (v1 v2 : Value), ∀ q ∈ LL i, q ∈ (6, v2) :: (5, v1) :: LL i := fun v1 v2 q hq => List.mem_cons_of_mem _ (List.mem_cons_of_mem _ hq)
  refine ⟨fun hk => fin _ (sub _ _), fun hk => ?_⟩
  refine ⟨_, _, hL2.2.2.2.2.1, vp_in_nI (n := 0) (by decide) (by decide), ?_⟩
  exact ⟨fun _ => fin _ (sub _ _), fun hc => absurd ((lgc_eq _ _).mpr (hu0 hk)) hc⟩
set_option maxHeartbeats 1000000 in
theorem MC_24 {g : qG} {run : qK0} (M : mStep g run) (B : mBund g) {n i : Nat} {xs : Nat → Int32} (hS : qScr g .int 0 n xs) (hn : n ≤ 3072) (hi : i + 6 ≤ n) {h : qH} (hQ : LQ h) {cu su : Nat} (hcu : cu + 104 ≤ 60000) (hsu : su + 424 ≤ 400000) (kk : ∀ (h2 : qH) (cu2 su2 : Nat), LQ h2 → cu2 ≤ cu + 104 → su2 ≤ su + 424 → run 2884 (LL i) [] h2 cu2 su2) : run 1774 (LL i) [] h cu su := by
  obtain ⟨hg, hT, hCt, hJ, hFM, hW, hSG, ⟨hS1, hL1⟩, ⟨hS2, hL2⟩, hS3, hL3⟩ := id B
  obtain ⟨S, x, y, F, G, u, hL⟩ := hQ
  obtain ⟨Mid, h63, hF, hM⟩ := P_lasts hg hT hCt hL (xs (nI i + 1).toNatClampNeg) (xs (nI i + 2).toNatClampNeg)
  refine M.1 _ _ _ _ _ _ _ sgL_law__1774_ok ?_
  refine ⟨n, xs, hS, vI (k := 1) (by decide) hi hn, ?_⟩
  refine ⟨n, xs, hS, vI (k := 2) (by decide) hi hn, ?_⟩
  refine M.2.2 221 1788 8 4 24 wL_lasts [.ref 0, .int (xs (nI i + 1).toNatClampNeg), .int (xs (nI i + 2).toNatClampNeg), .ref 92] _ _ [] _ _ _ (qat_in (p := (6, 63)) (by decide +kernel)) wL_lasts_ok rfl (qnum_rec (by decide) (by omega) (by omega) rfl) hF (by decide +kernel) ?_
  intro r h1 hr
  obtain ⟨k, rfl, hmid⟩ := hr
  obtain ⟨fs, h63⟩ := h63 h1 k hmid
  refine M.1 _ _ _ _ _ _ _ sgL_law__1791_ok ?_
  refine ⟨n, xs, hS, vI (k := 1) (by decide) hi hn, ?_⟩
  refine ⟨n, xs, hS, vI (k := 2) (by decide) hi hn, ?_⟩
  refine Or.inl ⟨rfl, _, 3, 100, 400, 12, fs, _, qi_13_223, ⟨rfl, rfl⟩, ⟨h63, rfl⟩, (qnum_rec (by decide) (by omega) (by omega) rfl), rfl, hM h1 k hmid, fun y2 h2 hy2 => ?_⟩
  obtain ⟨b, rfl, hb, hA⟩ := hy2
  obtain ⟨z, rfl⟩ := isK_i hb
  obtain ⟨S2, x2, y2, F2, G2, u2, hL2, hx0, hu0⟩ := id hA
  refine Or.inl ⟨rfl, _, 1, 0, 0, 12, _, _, qi_13_144, ⟨rfl, rfl⟩, ⟨hL2.2.1.1, rfl⟩, (qnum_rec (by decide) (by omega) (by omega) rfl), rfl, M_thrown hg hL2.2.1.1, fun y3 h3 hy3 => ?_⟩
  obtain ⟨rfl, rfl⟩ := hy3
  have fin : ∀ L : List (Nat × Value), (∀ q ∈ LL i, q ∈ L) → run 1839 L [] h3 (cu + 4 + 100 + 0) (su + 24 + 400 + 0) := fun L hs => M.1 _ _ _ _ _ _ _ sgL_law__1839_ok (M.2.1 _ _ _ _ _ _ _ hs (kk _ _ _ hA.q (by omega) (by omega)))
  refine ⟨fun _ => ?_, fun hc => absurd hx0 hc⟩
  refine M.1 _ _ _ _ _ _ _ sgL_law__1822_ok ?_
  have sub : ∀ (v1 v2 : Value), ∀ q ∈ LL i, q ∈ (6, v2) :: (5, v1) :: LL i := fun v1 v2 q hq => List.mem_cons_of_mem _ (List.mem_cons_of_mem _ hq)
  refine ⟨fun hk => fin _ (sub _ _), fun hk => ?_⟩
  refine ⟨_, _, hL2.2.2.2.2.1, vp_in_nI (n := 0) (by decide) (by decide), ?_⟩
  exact ⟨fun _ => fin _ (sub _ _), fun hc => absurd ((lgc_eq _ _).mpr (hu0 hk)) hc⟩
set_option maxHeartbeats 1000000 in
theorem MC_25 {g : qG} {run : qK0} (M : mStep g run) (B : mBund g) {n i : Nat} {xs : Nat → Int32} (hS : qScr g .int 0 n xs) (hn : n ≤ 3072) (hi : i + 6 ≤ n) {h : qH} (hQ : LQ h) {cu su : Nat} (hcu : cu + 104 ≤ 60000) (hsu : su + 424 ≤ 400000) (kk : ∀ (h2 : qH) (cu2 su2 : Nat), LQ h2 → cu2 ≤ cu + 104 → su2 ≤ su + 424 → run 2884 (LL i) [] h2 cu2 su2) : run 1842 (LL i) [] h cu su := by
  obtain ⟨hg, hT, hCt, hJ, hFM, hW, hSG, ⟨hS1, hL1⟩, ⟨hS2, hL2⟩, hS3, hL3⟩ := id B
  obtain ⟨S, x, y, F, G, u, hL⟩ := hQ
  obtain ⟨Mid, h63, hF, hM⟩ := P_without hg hT hCt hL (xs (nI i + 1).toNatClampNeg) (xs (nI i + 2).toNatClampNeg) (xs (nI i + 3).toNatClampNeg)
  refine M.1 _ _ _ _ _ _ _ sgL_law__1842_ok ?_
  refine ⟨n, xs, hS, vI (k := 1) (by decide) hi hn, ?_⟩
  refine ⟨n, xs, hS, vI (k := 2) (by decide) hi hn, ?_⟩
  refine ⟨n, xs, hS, vI (k := 3) (by decide) hi hn, ?_⟩
  refine M.2.2 224 1862 8 4 24 wL_without [.ref 0, .int (xs (nI i + 1).toNatClampNeg), .int (xs (nI i + 2).toNatClampNeg), .int (xs (nI i + 3).toNatClampNeg), .ref 92] _ _ [] _ _ _ (qat_in (p := (6, 86)) (by decide +kernel)) wL_without_ok rfl (qnum_rec (by decide) (by omega) (by omega) rfl) hF (by decide +kernel) ?_
  intro r h1 hr
  obtain ⟨k, rfl, hmid⟩ := hr
  obtain ⟨fs, h63⟩ := h63 h1 k hmid
  refine M.1 _ _ _ _ _ _ _ sgL_law__1865_ok ?_
  refine ⟨n, xs, hS, vI (k := 1) (by decide) hi hn, ?_⟩
  refine ⟨n, xs, hS, vI (k := 2) (by decide) hi hn, ?_⟩
  refine ⟨n, xs, hS, vI (k := 3) (by decide) hi hn, ?_⟩
  refine Or.inl ⟨rfl, _, 3, 100, 400, 12, fs, _, qi_13_226, ⟨rfl, rfl⟩, ⟨h63, rfl⟩, (qnum_rec (by decide) (by omega) (by omega) rfl), rfl, hM h1 k hmid, fun y2 h2 hy2 => ?_⟩
  obtain ⟨b, rfl, hb, hA⟩ := hy2
  obtain ⟨z, rfl⟩ := isK_i hb
  obtain ⟨S2, x2, y2, F2, G2, u2, hL2, hx0, hu0⟩ := id hA
  refine Or.inl ⟨rfl, _, 1, 0, 0, 12, _, _, qi_13_144, ⟨rfl, rfl⟩, ⟨hL2.2.1.1, rfl⟩, (qnum_rec (by decide) (by omega) (by omega) rfl), rfl, M_thrown hg hL2.2.1.1, fun y3 h3 hy3 => ?_⟩
  obtain ⟨rfl, rfl⟩ := hy3
  have fin : ∀ L : List (Nat × Value), (∀ q ∈ LL i, q ∈ L) → run 1919 L [] h3 (cu + 4 + 100 + 0) (su + 24 + 400 + 0) := fun L hs => M.1 _ _ _ _ _ _ _ sgL_law__1919_ok (M.2.1 _ _ _ _ _ _ _ hs (kk _ _ _ hA.q (by omega) (by omega)))
  refine ⟨fun _ => ?_, fun hc => absurd hx0 hc⟩
  refine M.1 _ _ _ _ _ _ _ sgL_law__1902_ok ?_
  have sub : ∀ (v1 v2 : Value), ∀ q ∈ LL i, q ∈ (6, v2) :: (5, v1) :: LL i := fun v1 v2 q hq => List.mem_cons_of_mem _ (List.mem_cons_of_mem _ hq)
  refine ⟨fun hk => fin _ (sub _ _), fun hk => ?_⟩
  refine ⟨_, _, hL2.2.2.2.2.1, vp_in_nI (n := 0) (by decide) (by decide), ?_⟩
  exact ⟨fun _ => fin _ (sub _ _), fun hc => absurd ((lgc_eq _ _).mpr (hu0 hk)) hc⟩
set_option maxHeartbeats 1000000 in
theorem MC_26 {g : qG} {run : qK0} (M : mStep g run) (B : mBund g) {n i : Nat} {xs : Nat → Int32} (hS : qScr g .int 0 n xs) (hn : n ≤ 3072) (hi : i + 6 ≤ n) {h : qH} (hQ : LQ h) {cu su : Nat} (hcu : cu + 104 ≤ 60000) (hsu : su + 424 ≤ 400000) (kk : ∀ (h2 : qH) (cu2 su2 : Nat), LQ h2 → cu2 ≤ cu + 104 → su2 ≤ su + 424 → run 2884 (LL i) [] h2 cu2 su2) : run 1922 (LL i) [] h cu su := by
  obtain ⟨hg, hT, hCt, hJ, hFM, hW, hSG, ⟨hS1, hL1⟩, ⟨hS2, hL2⟩, hS3, hL3⟩ := id B
  obtain ⟨S, x, y, F, G, u, hL⟩ := hQ
  obtain ⟨Mid, h63, hF, hM⟩ := P_there hg hT hCt hL (xs (nI i + 1).toNatClampNeg)
  refine M.1 _ _ _ _ _ _ _ sgL_law__1922_ok ?_
  refine ⟨n, xs, hS, vI (k := 1) (by decide) hi hn, ?_⟩
  refine M.2.2 227 1930 8 4 24 wL_there [.ref 0, .int (xs (nI i + 1).toNatClampNeg), .ref 92] _ _ [] _ _ _ (qat_in (p := (6, 93)) (by decide +kernel)) wL_there_ok rfl (qnum_rec (by decide) (by omega) (by omega) rfl) hF (by decide +kernel) ?_
  intro r h1 hr
  obtain ⟨k, rfl, hmid⟩ := hr
  obtain ⟨fs, h63⟩ := h63 h1 k hmid
  refine M.1 _ _ _ _ _ _ _ sgL_law__1933_ok ?_
  refine ⟨n, xs, hS, vI (k := 1) (by decide) hi hn, ?_⟩
  refine Or.inl ⟨rfl, _, 2, 0, 0, 12, fs, _, qi_13_229, ⟨rfl, rfl⟩, ⟨h63, rfl⟩, (qnum_rec (by decide) (by omega) (by omega) rfl), rfl, hM h1 k hmid, fun y2 h2 hy2 => ?_⟩
  obtain ⟨b, rfl, hb, hA⟩ := hy2
  obtain ⟨z, rfl⟩ := isK_i hb
  obtain ⟨S2, x2, y2, F2, G2, u2, hL2, hx0, hu0⟩ := id hA
  refine Or.inl ⟨rfl, _, 1, 0, 0, 12, _, _, qi_13_144, ⟨rfl, rfl⟩, ⟨hL2.2.1.1, rfl⟩, (qnum_rec (by decide) (by omega) (by omega) rfl), rfl, M_thrown hg hL2.2.1.1, fun y3 h3 hy3 => ?_⟩
  obtain ⟨rfl, rfl⟩ := hy3
  have fin : ∀ L : List (Nat × Value), (∀ q ∈ LL i, q ∈ L) → run 1975 L [] h3 (cu + 4 + 0 + 0) (su + 24 + 0 + 0) := fun L hs => M.1 _ _ _ _ _ _ _ sgL_law__1975_ok (M.2.1 _ _ _ _ _ _ _ hs (kk _ _ _ hA.q (by omega) (by omega)))
  refine ⟨fun _ => ?_, fun hc => absurd hx0 hc⟩
  refine M.1 _ _ _ _ _ _ _ sgL_law__1958_ok ?_
  have sub : ∀ (v1 v2 : Value), ∀ q ∈ LL i, q ∈ (6, v2) :: (5, v1) :: LL i := fun v1 v2 q hq => List.mem_cons_of_mem _ (List.mem_cons_of_mem _ hq)
  refine ⟨fun hk => fin _ (sub _ _), fun hk => ?_⟩
  refine ⟨_, _, hL2.2.2.2.2.1, vp_in_nI (n := 0) (by decide) (by decide), ?_⟩
  exact ⟨fun _ => fin _ (sub _ _), fun hc => absurd ((lgc_eq _ _).mpr (hu0 hk)) hc⟩
set_option maxHeartbeats 1000000 in
theorem MC_27 {g : qG} {run : qK0} (M : mStep g run) (B : mBund g) {n i : Nat} {xs : Nat → Int32} (hS : qScr g .int 0 n xs) (hn : n ≤ 3072) (hi : i + 6 ≤ n) {h : qH} (hQ : LQ h) {cu su : Nat} (hcu : cu + 104 ≤ 60000) (hsu : su + 424 ≤ 400000) (kk : ∀ (h2 : qH) (cu2 su2 : Nat), LQ h2 → cu2 ≤ cu + 104 → su2 ≤ su + 424 → run 2884 (LL i) [] h2 cu2 su2) : run 1978 (LL i) [] h cu su := by
  obtain ⟨hg, hT, hCt, hJ, hFM, hW, hSG, ⟨hS1, hL1⟩, ⟨hS2, hL2⟩, hS3, hL3⟩ := id B
  obtain ⟨S, x, y, F, G, u, hL⟩ := hQ
  obtain ⟨Mid, h63, hF, hM⟩ := P_flat hg hL
  refine M.1 _ _ _ _ _ _ _ sgL_law__1978_ok ?_
  refine Or.inl ⟨rfl, _, 4, 0, 0, 11, _, _, qi_13_230, ⟨rfl, rfl⟩, ⟨hL.1.obj, rfl⟩, (qnum_rec (by decide) (by omega) (by omega) rfl), rfl, hF, fun y1 h1 hy1 => ?_⟩
  obtain ⟨a, rfl, hmid⟩ := hy1
  obtain ⟨⟨z, rfl⟩, fs, h63⟩ := h63 h1 _ hmid
  refine Or.inl ⟨rfl, _, 2, 0, 0, 12, fs, _, qi_13_233, ⟨rfl, rfl⟩, ⟨h63, rfl⟩, (qnum_rec (by decide) (by omega) (by omega) rfl), rfl, hM h1 _ hmid, fun y2 h2 hy2 => ?_⟩
  obtain ⟨rfl, hq⟩ := hy2
  exact ⟨fun _ => kk _ _ _ hq (by omega) (by omega), fun hc => absurd rfl hc⟩
set_option maxHeartbeats 1000000 in
theorem MC_28 {g : qG} {run : qK0} (M : mStep g run) (B : mBund g) {n i : Nat} {xs : Nat → Int32} (hS : qScr g .int 0 n xs) (hn : n ≤ 3072) (hi : i + 6 ≤ n) {h : qH} (hQ : LQ h) {cu su : Nat} (hcu : cu + 104 ≤ 60000) (hsu : su + 424 ≤ 400000) (kk : ∀ (h2 : qH) (cu2 su2 : Nat), LQ h2 → cu2 ≤ cu + 104 → su2 ≤ su + 424 → run 2884 (LL i) [] h2 cu2 su2) : run 1991 (LL i) [] h cu su := by
  obtain ⟨hg, hT, hCt, hJ, hFM, hW, hSG, ⟨hS1, hL1⟩, ⟨hS2, hL2⟩, hS3, hL3⟩ := id B
  obtain ⟨S, x, y, F, G, u, hL⟩ := hQ
  obtain ⟨Mid, h63, hF, hM⟩ := P_solos hg hL
  refine M.1 _ _ _ _ _ _ _ sgL_law__1991_ok ?_
  refine Or.inl ⟨rfl, _, 7, 0, 0, 11, _, _, qi_13_234, ⟨rfl, rfl⟩, ⟨hL.1.obj, rfl⟩, (qnum_rec (by decide) (by omega) (by omega) rfl), rfl, hF, fun y1 h1 hy1 => ?_⟩
  obtain ⟨a, rfl, hmid⟩ := hy1
  obtain ⟨⟨z, rfl⟩, fs, h63⟩ := h63 h1 _ hmid
  refine Or.inl ⟨rfl, _, 7, 0, 0, 12, fs, _, qi_13_237, ⟨rfl, rfl⟩, ⟨h63, rfl⟩, (qnum_rec (by decide) (by omega) (by omega) rfl), rfl, hM h1 _ hmid, fun y2 h2 hy2 => ?_⟩
  obtain ⟨rfl, hq⟩ := hy2
  exact ⟨fun _ => kk _ _ _ hq (by omega) (by omega), fun hc => absurd rfl hc⟩
set_option maxHeartbeats 1000000 in
theorem MC_29 {g : qG} {run : qK0} (M : mStep g run) (B : mBund g) {n i : Nat} {xs : Nat → Int32} (hS : qScr g .int 0 n xs) (hn : n ≤ 3072) (hi : i + 6 ≤ n) {h : qH} (hQ : LQ h) {cu su : Nat} (hcu : cu + 104 ≤ 60000) (hsu : su + 424 ≤ 400000) (kk : ∀ (h2 : qH) (cu2 su2 : Nat), LQ h2 → cu2 ≤ cu + 104 → su2 ≤ su + 424 → run 2884 (LL i) [] h2 cu2 su2) : run 2004 (LL i) [] h cu su := by
  obtain ⟨hg, hT, hCt, hJ, hFM, hW, hSG, ⟨hS1, hL1⟩, ⟨hS2, hL2⟩, hS3, hL3⟩ := id B
  obtain ⟨S, x, y, F, G, u, hL⟩ := hQ
  obtain ⟨Mid, h63, hF, hM⟩ := P_soloJoy hg hT hCt hL (xs (nI i + 1).toNatClampNeg)
  refine M.1 _ _ _ _ _ _ _ sgL_law__2004_ok ?_
  refine ⟨n, xs, hS, vI (k := 1) (by decide) hi hn, ?_⟩
  refine M.2.2 238 2012 10 4 24 wL_soloJoy [.ref 0, .int (xs (nI i + 1).toNatClampNeg), .ref 92] _ _ [] _ _ _ (qat_in (p := (6, 104)) (by decide +kernel)) wL_soloJoy_ok rfl (qnum_rec (by decide) (by omega) (by omega) rfl) hF (by decide +kernel) ?_
  intro r h1 hr
  obtain ⟨k, rfl, hmid⟩ := hr
  obtain ⟨fs, h63⟩ := h63 h1 k hmid
  refine M.1 _ _ _ _ _ _ _ sgL_law__2015_ok ?_
  refine ⟨n, xs, hS, vI (k := 1) (by decide) hi hn, ?_⟩
  refine Or.inl ⟨rfl, _, 7, 0, 0, 12, fs, _, qi_13_240, ⟨rfl, rfl⟩, ⟨h63, rfl⟩, (qnum_rec (by decide) (by omega) (by omega) rfl), rfl, hM h1 k hmid, fun y2 h2 hy2 => ?_⟩
  obtain ⟨b, rfl, hb, hA⟩ := hy2
  obtain ⟨z, rfl⟩ := isK_l hb
  obtain ⟨S2, x2, y2, F2, G2, u2, hL2, hx0, hu0⟩ := id hA
  refine Or.inl ⟨rfl, _, 1, 0, 0, 12, _, _, qi_13_144, ⟨rfl, rfl⟩, ⟨hL2.2.1.1, rfl⟩, (qnum_rec (by decide) (by omega) (by omega) rfl), rfl, M_thrown hg hL2.2.1.1, fun y3 h3 hy3 => ?_⟩
  obtain ⟨rfl, rfl⟩ := hy3
  have fin : ∀ L : List (Nat × Value), (∀ q ∈ LL i, q ∈ L) → run 2056 L [] h3 (cu + 4 + 0 + 0) (su + 24 + 0 + 0) := fun L hs => M.1 _ _ _ _ _ _ _ sgL_law__2056_ok (M.2.1 _ _ _ _ _ _ _ hs (kk _ _ _ hA.q (by omega) (by omega)))
  refine ⟨fun _ => ?_, fun hc => absurd hx0 hc⟩
  refine M.1 _ _ _ _ _ _ _ sgL_law__2040_ok ?_
  have sub : ∀ (v1 v2 : Value), ∀ q ∈ LL i, q ∈ (6, v2) :: (5, v1) :: LL i := fun v1 v2 q hq => List.mem_cons_of_mem _ (List.mem_cons_of_mem _ hq)
  refine ⟨fun hk => fin _ (sub _ _), fun hk => ?_⟩
  refine ⟨_, _, hL2.2.2.2.2.1, vp_in_nI (n := 0) (by decide) (by decide), ?_⟩
  exact ⟨fun _ => fin _ (sub _ _), fun hc => absurd ((lgc_eq _ _).mpr (hu0 hk)) hc⟩
set_option maxHeartbeats 1000000 in
theorem MC_30 {g : qG} {run : qK0} (M : mStep g run) (B : mBund g) {n i : Nat} {xs : Nat → Int32} (hS : qScr g .int 0 n xs) (hn : n ≤ 3072) (hi : i + 6 ≤ n) {h : qH} (hQ : LQ h) {cu su : Nat} (hcu : cu + 104 ≤ 60000) (hsu : su + 424 ≤ 400000) (kk : ∀ (h2 : qH) (cu2 su2 : Nat), LQ h2 → cu2 ≤ cu + 104 → su2 ≤ su + 424 → run 2884 (LL i) [] h2 cu2 su2) : run 2059 (LL i) [] h cu su := by
  obtain ⟨hg, hT, hCt, hJ, hFM, hW, hSG, ⟨hS1, hL1⟩, ⟨hS2, hL2⟩, hS3, hL3⟩ := id B
  obtain ⟨S, x, y, F, G, u, hL⟩ := hQ
  obtain ⟨Mid, h63, hF, hM⟩ := P_party hg hT hCt hL (xs (nI i + 1).toNatClampNeg)
  refine M.1 _ _ _ _ _ _ _ sgL_law__2059_ok ?_
  refine ⟨n, xs, hS, vI (k := 1) (by decide) hi hn, ?_⟩
  refine M.2.2 241 2067 9 4 24 wL_party [.ref 0, .int (xs (nI i + 1).toNatClampNeg), .ref 92] _ _ [] _ _ _ (qat_in (p := (6, 111)) (by decide +kernel)) wL_party_ok rfl (qnum_rec (by decide) (by omega) (by omega) rfl) hF (by decide +kernel) ?_
  intro r h1 hr
  obtain ⟨k, rfl, hmid⟩ := hr
  obtain ⟨fs, h63⟩ := h63 h1 k hmid
  refine M.1 _ _ _ _ _ _ _ sgL_law__2070_ok ?_
  refine ⟨n, xs, hS, vI (k := 1) (by decide) hi hn, ?_⟩
  refine Or.inl ⟨rfl, _, 4, 0, 0, 12, fs, _, qi_13_243, ⟨rfl, rfl⟩, ⟨h63, rfl⟩, (qnum_rec (by decide) (by omega) (by omega) rfl), rfl, hM h1 k hmid, fun y2 h2 hy2 => ?_⟩
  obtain ⟨b, rfl, hb, hA⟩ := hy2
  obtain ⟨z, rfl⟩ := isK_i hb
  obtain ⟨S2, x2, y2, F2, G2, u2, hL2, hx0, hu0⟩ := id hA
  refine Or.inl ⟨rfl, _, 1, 0, 0, 12, _, _, qi_13_144, ⟨rfl, rfl⟩, ⟨hL2.2.1.1, rfl⟩, (qnum_rec (by decide) (by omega) (by omega) rfl), rfl, M_thrown hg hL2.2.1.1, fun y3 h3 hy3 => ?_⟩
  obtain ⟨rfl, rfl⟩ := hy3
  have fin : ∀ L : List (Nat × Value), (∀ q ∈ LL i, q ∈ L) → run 2112 L [] h3 (cu + 4 + 0 + 0) (su + 24 + 0 + 0) := fun L hs => M.1 _ _ _ _ _ _ _ sgL_law__2112_ok (M.2.1 _ _ _ _ _ _ _ hs (kk _ _ _ hA.q (by omega) (by omega)))
  refine ⟨fun _ => ?_, fun hc => absurd hx0 hc⟩
  refine M.1 _ _ _ _ _ _ _ sgL_law__2095_ok ?_
  have sub : ∀ (v1 v2 : Value), ∀ q ∈ LL i, q ∈ (6, v2) :: (5, v1) :: LL i := fun v1 v2 q hq => List.mem_cons_of_mem _ (List.mem_cons_of_mem _ hq)
  refine ⟨fun hk => fin _ (sub _ _), fun hk => ?_⟩
  refine ⟨_, _, hL2.2.2.2.2.1, vp_in_nI (n := 0) (by decide) (by decide), ?_⟩
  exact ⟨fun _ => fin _ (sub _ _), fun hc => absurd ((lgc_eq _ _).mpr (hu0 hk)) hc⟩
set_option maxHeartbeats 1000000 in
theorem MC_31 {g : qG} {run : qK0} (M : mStep g run) (B : mBund g) {n i : Nat} {xs : Nat → Int32} (hS : qScr g .int 0 n xs) (hn : n ≤ 3072) (hi : i + 6 ≤ n) {h : qH} (hQ : LQ h) {cu su : Nat} (hcu : cu + 104 ≤ 60000) (hsu : su + 424 ≤ 400000) (kk : ∀ (h2 : qH) (cu2 su2 : Nat), LQ h2 → cu2 ≤ cu + 104 → su2 ≤ su + 424 → run 2884 (LL i) [] h2 cu2 su2) : run 2115 (LL i) [] h cu su := by
  obtain ⟨hg, hT, hCt, hJ, hFM, hW, hSG, ⟨hS1, hL1⟩, ⟨hS2, hL2⟩, hS3, hL3⟩ := id B
  obtain ⟨S, x, y, F, G, u, hL⟩ := hQ
  obtain ⟨Mid, h63, hF, hM⟩ := P_gave hg hT hCt hL (xs (nI i + 1).toNatClampNeg)
  refine M.1 _ _ _ _ _ _ _ sgL_law__2115_ok ?_
  refine ⟨n, xs, hS, vI (k := 1) (by decide) hi hn, ?_⟩
  refine M.2.2 244 2123 9 4 24 wL_gave [.ref 0, .int (xs (nI i + 1).toNatClampNeg), .ref 92] _ _ [] _ _ _ (qat_in (p := (6, 127)) (by decide +kernel)) wL_gave_ok rfl (qnum_rec (by decide) (by omega) (by omega) rfl) hF (by decide +kernel) ?_
  intro r h1 hr
  obtain ⟨k, rfl, hmid⟩ := hr
  obtain ⟨fs, h63⟩ := h63 h1 k hmid
  refine M.1 _ _ _ _ _ _ _ sgL_law__2126_ok ?_
  refine ⟨n, xs, hS, vI (k := 1) (by decide) hi hn, ?_⟩
  refine Or.inl ⟨rfl, _, 3, 0, 0, 12, fs, _, qi_13_246, ⟨rfl, rfl⟩, ⟨h63, rfl⟩, (qnum_rec (by decide) (by omega) (by omega) rfl), rfl, hM h1 k hmid, fun y2 h2 hy2 => ?_⟩
  obtain ⟨b, rfl, hb, hA⟩ := hy2
  obtain ⟨z, rfl⟩ := isK_i hb
  obtain ⟨S2, x2, y2, F2, G2, u2, hL2, hx0, hu0⟩ := id hA
  refine Or.inl ⟨rfl, _, 1, 0, 0, 12, _, _, qi_13_144, ⟨rfl, rfl⟩, ⟨hL2.2.1.1, rfl⟩, (qnum_rec (by decide) (by omega) (by omega) rfl), rfl, M_thrown hg hL2.2.1.1, fun y3 h3 hy3 => ?_⟩
  obtain ⟨rfl, rfl⟩ := hy3
  have fin : ∀ L : List (Nat × Value), (∀ q ∈ LL i, q ∈ L) → run 2168 L [] h3 (cu + 4 + 0 + 0) (su + 24 + 0 + 0) := fun L hs => M.1 _ _ _ _ _ _ _ sgL_law__2168_ok (M.2.1 _ _ _ _ _ _ _ hs (kk _ _ _ hA.q (by omega) (by omega)))
  refine ⟨fun _ => ?_, fun hc => absurd hx0 hc⟩
  refine M.1 _ _ _ _ _ _ _ sgL_law__2151_ok ?_
  have sub : ∀ (v1 v2 : Value), ∀ q ∈ LL i, q ∈ (6, v2) :: (5, v1) :: LL i := fun v1 v2 q hq => List.mem_cons_of_mem _ (List.mem_cons_of_mem _ hq)
  refine ⟨fun hk => fin _ (sub _ _), fun hk => ?_⟩
  refine ⟨_, _, hL2.2.2.2.2.1, vp_in_nI (n := 0) (by decide) (by decide), ?_⟩
  exact ⟨fun _ => fin _ (sub _ _), fun hc => absurd ((lgc_eq _ _).mpr (hu0 hk)) hc⟩
set_option maxHeartbeats 1000000 in
theorem MC_32 {g : qG} {run : qK0} (M : mStep g run) (B : mBund g) {n i : Nat} {xs : Nat → Int32} (hS : qScr g .int 0 n xs) (hn : n ≤ 3072) (hi : i + 6 ≤ n) {h : qH} (hQ : LQ h) {cu su : Nat} (hcu : cu + 104 ≤ 60000) (hsu : su + 424 ≤ 400000) (kk : ∀ (h2 : qH) (cu2 su2 : Nat), LQ h2 → cu2 ≤ cu + 104 → su2 ≤ su + 424 → run 2884 (LL i) [] h2 cu2 su2) : run 2171 (LL i) [] h cu su := by
  obtain ⟨hg, hT, hCt, hJ, hFM, hW, hSG, ⟨hS1, hL1⟩, ⟨hS2, hL2⟩, hS3, hL3⟩ := id B
  obtain ⟨S, x, y, F, G, u, hL⟩ := hQ
  obtain ⟨Mid, h63, hF, hM⟩ := P_right hg hT hCt hL (xs (nI i + 1).toNatClampNeg)
  refine M.1 _ _ _ _ _ _ _ sgL_law__2171_ok ?_
  refine ⟨n, xs, hS, vI (k := 1) (by decide) hi hn, ?_⟩
  refine M.2.2 247 2179 8 4 24 wL_right [.ref 0, .int (xs (nI i + 1).toNatClampNeg), .ref 92] _ _ [] _ _ _ (qat_in (p := (6, 151)) (by decide +kernel)) wL_right_ok rfl (qnum_rec (by decide) (by omega) (by omega) rfl) hF (by decide +kernel) ?_
  intro r h1 hr
  obtain ⟨k, rfl, hmid⟩ := hr
  obtain ⟨fs, h63⟩ := h63 h1 k hmid
  refine M.1 _ _ _ _ _ _ _ sgL_law__2182_ok ?_
  refine ⟨n, xs, hS, vI (k := 1) (by decide) hi hn, ?_⟩
  refine Or.inl ⟨rfl, _, 3, 0, 0, 12, fs, _, qi_13_249, ⟨rfl, rfl⟩, ⟨h63, rfl⟩, (qnum_rec (by decide) (by omega) (by omega) rfl), rfl, hM h1 k hmid, fun y2 h2 hy2 => ?_⟩
  obtain ⟨b, rfl, hb, hA⟩ := hy2
  obtain ⟨z, rfl⟩ := isK_i hb
  obtain ⟨S2, x2, y2, F2, G2, u2, hL2, hx0, hu0⟩ := id hA
  refine Or.inl ⟨rfl, _, 1, 0, 0, 12, _, _, qi_13_144, ⟨rfl, rfl⟩, ⟨hL2.2.1.1, rfl⟩, (qnum_rec (by decide) (by omega) (by omega) rfl), rfl, M_thrown hg hL2.2.1.1, fun y3 h3 hy3 => ?_⟩
  obtain ⟨rfl, rfl⟩ := hy3
  have fin : ∀ L : List (Nat × Value), (∀ q ∈ LL i, q ∈ L) → run 2224 L [] h3 (cu + 4 + 0 + 0) (su + 24 + 0 + 0) := fun L hs => M.1 _ _ _ _ _ _ _ sgL_law__2224_ok (M.2.1 _ _ _ _ _ _ _ hs (kk _ _ _ hA.q (by omega) (by omega)))
  refine ⟨fun _ => ?_, fun hc => absurd hx0 hc⟩
  refine M.1 _ _ _ _ _ _ _ sgL_law__2207_ok ?_
  have sub : ∀ (v1 v2 : Value), ∀ q ∈ LL i, q ∈ (6, v2) :: (5, v1) :: LL i := fun v1 v2 q hq => List.mem_cons_of_mem _ (List.mem_cons_of_mem _ hq)
  refine ⟨fun hk => fin _ (sub _ _), fun hk => ?_⟩
  refine ⟨_, _, hL2.2.2.2.2.1, vp_in_nI (n := 0) (by decide) (by decide), ?_⟩
  exact ⟨fun _ => fin _ (sub _ _), fun hc => absurd ((lgc_eq _ _).mpr (hu0 hk)) hc⟩
set_option maxHeartbeats 1000000 in
theorem MC_33 {g : qG} {run : qK0} (M : mStep g run) (B : mBund g) {n i : Nat} {xs : Nat → Int32} (hS : qScr g .int 0 n xs) (hn : n ≤ 3072) (hi : i + 6 ≤ n) {h : qH} (hQ : LQ h) {cu su : Nat} (hcu : cu + 104 ≤ 60000) (hsu : su + 424 ≤ 400000) (kk : ∀ (h2 : qH) (cu2 su2 : Nat), LQ h2 → cu2 ≤ cu + 104 → su2 ≤ su + 424 → run 2884 (LL i) [] h2 cu2 su2) : run 2227 (LL i) [] h cu su := by
  obtain ⟨hg, hT, hCt, hJ, hFM, hW, hSG, ⟨hS1, hL1⟩, ⟨hS2, hL2⟩, hS3, hL3⟩ := id B
  obtain ⟨S, x, y, F, G, u, hL⟩ := hQ
  obtain ⟨Mid, h63, hF, hM⟩ := P_evening hg hT hCt hL (xs (nI i + 1).toNatClampNeg) (xs (nI i + 2).toNatClampNeg)
  refine M.1 _ _ _ _ _ _ _ sgL_law__2227_ok ?_
  refine ⟨n, xs, hS, vI (k := 1) (by decide) hi hn, ?_⟩
  refine ⟨n, xs, hS, vI (k := 2) (by decide) hi hn, ?_⟩
  refine M.2.2 250 2241 9 4 24 wL_evening [.ref 0, .int (xs (nI i + 1).toNatClampNeg), .int (xs (nI i + 2).toNatClampNeg), .ref 92] _ _ [] _ _ _ (qat_in (p := (6, 160)) (by decide +kernel)) wL_evening_ok rfl (qnum_rec (by decide) (by omega) (by omega) rfl) hF (by decide +kernel) ?_
  intro r h1 hr
  obtain ⟨k, rfl, hmid⟩ := hr
  obtain ⟨fs, h63⟩ := h63 h1 k hmid
  refine M.1 _ _ _ _ _ _ _ sgL_law__2244_ok ?_
  refine ⟨n, xs, hS, vI (k := 1) (by decide) hi hn, ?_⟩
  refine ⟨n, xs, hS, vI (k := 2) (by decide) hi hn, ?_⟩
  refine Or.inl ⟨rfl, _, 6, 0, 0, 12, fs, _, qi_13_252, ⟨rfl, rfl⟩, ⟨h63, rfl⟩, (qnum_rec (by decide) (by omega) (by omega) rfl), rfl, hM h1 k hmid, fun y2 h2 hy2 => ?_⟩
  obtain ⟨b, rfl, hb, hA⟩ := hy2
  obtain ⟨z, rfl⟩ := isK_i hb
  obtain ⟨S2, x2, y2, F2, G2, u2, hL2, hx0, hu0⟩ := id hA
  refine Or.inl ⟨rfl, _, 1, 0, 0, 12, _, _, qi_13_144, ⟨rfl, rfl⟩, ⟨hL2.2.1.1, rfl⟩, (qnum_rec (by decide) (by omega) (by omega) rfl), rfl, M_thrown hg hL2.2.1.1, fun y3 h3 hy3 => ?_⟩
  obtain ⟨rfl, rfl⟩ := hy3
  have fin : ∀ L : List (Nat × Value), (∀ q ∈ LL i, q ∈ L) → run 2292 L [] h3 (cu + 4 + 0 + 0) (su + 24 + 0 + 0) := fun L hs => M.1 _ _ _ _ _ _ _ sgL_law__2292_ok (M.2.1 _ _ _ _ _ _ _ hs (kk _ _ _ hA.q (by omega) (by omega)))
  refine ⟨fun _ => ?_, fun hc => absurd hx0 hc⟩
  refine M.1 _ _ _ _ _ _ _ sgL_law__2275_ok ?_
  have sub : ∀ (v1 v2 : Value), ∀ q ∈ LL i, q ∈ (6, v2) :: (5, v1) :: LL i := fun v1 v2 q hq => List.mem_cons_of_mem _ (List.mem_cons_of_mem _ hq)
  refine ⟨fun hk => fin _ (sub _ _), fun hk => ?_⟩
  refine ⟨_, _, hL2.2.2.2.2.1, vp_in_nI (n := 0) (by decide) (by decide), ?_⟩
  exact ⟨fun _ => fin _ (sub _ _), fun hc => absurd ((lgc_eq _ _).mpr (hu0 hk)) hc⟩
set_option maxHeartbeats 1000000 in
theorem MC_34 {g : qG} {run : qK0} (M : mStep g run) (B : mBund g) {n i : Nat} {xs : Nat → Int32} (hS : qScr g .int 0 n xs) (hn : n ≤ 3072) (hi : i + 6 ≤ n) {h : qH} (hQ : LQ h) {cu su : Nat} (hcu : cu + 104 ≤ 60000) (hsu : su + 424 ≤ 400000) (kk : ∀ (h2 : qH) (cu2 su2 : Nat), LQ h2 → cu2 ≤ cu + 104 → su2 ≤ su + 424 → run 2884 (LL i) [] h2 cu2 su2) : run 2295 (LL i) [] h cu su := by
  obtain ⟨hg, hT, hCt, hJ, hFM, hW, hSG, ⟨hS1, hL1⟩, ⟨hS2, hL2⟩, hS3, hL3⟩ := id B
  obtain ⟨S, x, y, F, G, u, hL⟩ := hQ
  obtain ⟨Mid, h63, hF, hM⟩ := P_span hg hT hCt hL (xs (nI i + 1).toNatClampNeg) (xs (nI i + 2).toNatClampNeg) (xs (nI i + 3).toNatClampNeg) (xs (nI i + 4).toNatClampNeg)
  refine M.1 _ _ _ _ _ _ _ sgL_law__2295_ok ?_
  refine ⟨n, xs, hS, vI (k := 1) (by decide) hi hn, ?_⟩
  refine ⟨n, xs, hS, vI (k := 2) (by decide) hi hn, ?_⟩
  refine ⟨n, xs, hS, vI (k := 3) (by decide) hi hn, ?_⟩
  refine ⟨n, xs, hS, vI (k := 4) (by decide) hi hn, ?_⟩
  refine M.2.2 253 2321 9 4 24 wL_span [.ref 0, .int (xs (nI i + 1).toNatClampNeg), .int (xs (nI i + 2).toNatClampNeg), .int (xs (nI i + 3).toNatClampNeg), .int (xs (nI i + 4).toNatClampNeg), .ref 92] _ _ [] _ _ _ (qat_in (p := (6, 199)) (by decide +kernel)) wL_span_ok rfl (qnum_rec (by decide) (by omega) (by omega) rfl) hF (by decide +kernel) ?_
  intro r h1 hr
  obtain ⟨k, rfl, hmid⟩ := hr
  obtain ⟨fs, h63⟩ := h63 h1 k hmid
  refine M.1 _ _ _ _ _ _ _ sgL_law__2324_ok ?_
  refine ⟨n, xs, hS, vI (k := 1) (by decide) hi hn, ?_⟩
  refine ⟨n, xs, hS, vI (k := 2) (by decide) hi hn, ?_⟩
  refine ⟨n, xs, hS, vI (k := 3) (by decide) hi hn, ?_⟩
  refine ⟨n, xs, hS, vI (k := 4) (by decide) hi hn, ?_⟩
  refine Or.inl ⟨rfl, _, 6, 0, 0, 12, fs, _, qi_13_255, ⟨rfl, rfl⟩, ⟨h63, rfl⟩, (qnum_rec (by decide) (by omega) (by omega) rfl), rfl, hM h1 k hmid, fun y2 h2 hy2 => ?_⟩
  obtain ⟨b, rfl, hb, hA⟩ := hy2
  obtain ⟨z, rfl⟩ := isK_i hb
  obtain ⟨S2, x2, y2, F2, G2, u2, hL2, hx0, hu0⟩ := id hA
  refine Or.inl ⟨rfl, _, 1, 0, 0, 12, _, _, qi_13_144, ⟨rfl, rfl⟩, ⟨hL2.2.1.1, rfl⟩, (qnum_rec (by decide) (by omega) (by omega) rfl), rfl, M_thrown hg hL2.2.1.1, fun y3 h3 hy3 => ?_⟩
  obtain ⟨rfl, rfl⟩ := hy3
  have fin : ∀ L : List (Nat × Value), (∀ q ∈ LL i, q ∈ L) → run 2384 L [] h3 (cu + 4 + 0 + 0) (su + 24 + 0 + 0) := fun L hs => M.1 _ _ _ _ _ _ _ sgL_law__2384_ok (M.2.1 _ _ _ _ _ _ _ hs (kk _ _ _ hA.q (by omega) (by omega)))
  refine ⟨fun _ => ?_, fun hc => absurd hx0 hc⟩
  refine M.1 _ _ _ _ _ _ _ sgL_law__2367_ok ?_
  have sub : ∀ (v1 v2 : Value), ∀ q ∈ LL i, q ∈ (6, v2) :: (5, v1) :: LL i := fun v1 v2 q hq => List.mem_cons_of_mem _ (List.mem_cons_of_mem _ hq)
  refine ⟨fun hk => fin _ (sub _ _), fun hk => ?_⟩
  refine ⟨_, _, hL2.2.2.2.2.1, vp_in_nI (n := 0) (by decide) (by decide), ?_⟩
  exact ⟨fun _ => fin _ (sub _ _), fun hc => absurd ((lgc_eq _ _).mpr (hu0 hk)) hc⟩
set_option maxHeartbeats 1000000 in
theorem MC_35 {g : qG} {run : qK0} (M : mStep g run) (B : mBund g) {n i : Nat} {xs : Nat → Int32} (hS : qScr g .int 0 n xs) (hn : n ≤ 3072) (hi : i + 6 ≤ n) {h : qH} (hQ : LQ h) {cu su : Nat} (hcu : cu + 104 ≤ 60000) (hsu : su + 424 ≤ 400000) (kk : ∀ (h2 : qH) (cu2 su2 : Nat), LQ h2 → cu2 ≤ cu + 104 → su2 ≤ su + 424 → run 2884 (LL i) [] h2 cu2 su2) : run 2387 (LL i) [] h cu su := by
  obtain ⟨hg, hT, hCt, hJ, hFM, hW, hSG, ⟨hS1, hL1⟩, ⟨hS2, hL2⟩, hS3, hL3⟩ := id B
  obtain ⟨S, x, y, F, G, u, hL⟩ := hQ
  obtain ⟨Mid, h63, hF, hM⟩ := P_finest hg hT hCt hL (xs (nI i + 1).toNatClampNeg) (xs (nI i + 2).toNatClampNeg)
  refine M.1 _ _ _ _ _ _ _ sgL_law__2387_ok ?_
  refine ⟨n, xs, hS, vI (k := 1) (by decide) hi hn, ?_⟩
  refine ⟨n, xs, hS, vI (k := 2) (by decide) hi hn, ?_⟩
  refine M.2.2 256 2401 9 4 24 wL_finest [.ref 0, .int (xs (nI i + 1).toNatClampNeg), .int (xs (nI i + 2).toNatClampNeg), .ref 92] _ _ [] _ _ _ (qat_in (p := (6, 206)) (by decide +kernel)) wL_finest_ok rfl (qnum_rec (by decide) (by omega) (by omega) rfl) hF (by decide +kernel) ?_
  intro r h1 hr
  obtain ⟨k, rfl, hmid⟩ := hr
  obtain ⟨fs, h63⟩ := h63 h1 k hmid
  refine M.1 _ _ _ _ _ _ _ sgL_law__2404_ok ?_
  refine ⟨n, xs, hS, vI (k := 1) (by decide) hi hn, ?_⟩
  refine ⟨n, xs, hS, vI (k := 2) (by decide) hi hn, ?_⟩
  refine Or.inl ⟨rfl, _, 6, 0, 0, 12, fs, _, qi_13_258, ⟨rfl, rfl⟩, ⟨h63, rfl⟩, (qnum_rec (by decide) (by omega) (by omega) rfl), rfl, hM h1 k hmid, fun y2 h2 hy2 => ?_⟩
  obtain ⟨b, rfl, hb, hA⟩ := hy2
  obtain ⟨z, rfl⟩ := isK_i hb
  obtain ⟨S2, x2, y2, F2, G2, u2, hL2, hx0, hu0⟩ := id hA
  refine Or.inl ⟨rfl, _, 1, 0, 0, 12, _, _, qi_13_144, ⟨rfl, rfl⟩, ⟨hL2.2.1.1, rfl⟩, (qnum_rec (by decide) (by omega) (by omega) rfl), rfl, M_thrown hg hL2.2.1.1, fun y3 h3 hy3 => ?_⟩
  obtain ⟨rfl, rfl⟩ := hy3
  have fin : ∀ L : List (Nat × Value), (∀ q ∈ LL i, q ∈ L) → run 2452 L [] h3 (cu + 4 + 0 + 0) (su + 24 + 0 + 0) := fun L hs => M.1 _ _ _ _ _ _ _ sgL_law__2452_ok (M.2.1 _ _ _ _ _ _ _ hs (kk _ _ _ hA.q (by omega) (by omega)))
  refine ⟨fun _ => ?_, fun hc => absurd hx0 hc⟩
  refine M.1 _ _ _ _ _ _ _ sgL_law__2435_ok ?_
  have sub : ∀ (v1 v2 : Value), ∀ q ∈ LL i, q ∈ (6, v2) :: (5, v1) :: LL i := fun v1 v2 q hq => List.mem_cons_of_mem _ (List.mem_cons_of_mem _ hq)
  refine ⟨fun hk => fin _ (sub _ _), fun hk => ?_⟩
  refine ⟨_, _, hL2.2.2.2.2.1, vp_in_nI (n := 0) (by decide) (by decide), ?_⟩
  exact ⟨fun _ => fin _ (sub _ _), fun hc => absurd ((lgc_eq _ _).mpr (hu0 hk)) hc⟩
set_option maxHeartbeats 1000000 in
theorem MC_36 {g : qG} {run : qK0} (M : mStep g run) (B : mBund g) {n i : Nat} {xs : Nat → Int32} (hS : qScr g .int 0 n xs) (hn : n ≤ 3072) (hi : i + 6 ≤ n) {h : qH} (hQ : LQ h) {cu su : Nat} (hcu : cu + 104 ≤ 60000) (hsu : su + 424 ≤ 400000) (kk : ∀ (h2 : qH) (cu2 su2 : Nat), LQ h2 → cu2 ≤ cu + 104 → su2 ≤ su + 424 → run 2884 (LL i) [] h2 cu2 su2) : run 2455 (LL i) [] h cu su := by
  obtain ⟨hg, hT, hCt, hJ, hFM, hW, hSG, ⟨hS1, hL1⟩, ⟨hS2, hL2⟩, hS3, hL3⟩ := id B
  obtain ⟨S, x, y, F, G, u, hL⟩ := hQ
  obtain ⟨Mid, h63, hF, hM⟩ := P_change hg hT hCt hFM hL (xs (nI i + 1).toNatClampNeg) (xs (nI i + 2).toNatClampNeg) (xs (nI i + 3).toNatClampNeg)
  refine M.1 _ _ _ _ _ _ _ sgL_law__2455_ok ?_
  refine ⟨n, xs, hS, vI (k := 1) (by decide) hi hn, ?_⟩
  refine ⟨n, xs, hS, vI (k := 2) (by decide) hi hn, ?_⟩
  refine ⟨n, xs, hS, vI (k := 3) (by decide) hi hn, ?_⟩
  refine M.2.2 259 2475 9 4 24 wL_change [.ref 0, .int (xs (nI i + 1).toNatClampNeg), .int (xs (nI i + 2).toNatClampNeg), .int (xs (nI i + 3).toNatClampNeg), .ref 92] _ _ [] _ _ _ (qat_in (p := (6, 213)) (by decide +kernel)) wL_change_ok rfl (qnum_rec (by decide) (by omega) (by omega) rfl) hF (by decide +kernel) ?_
  intro r h1 hr
  obtain ⟨k, rfl, hmid⟩ := hr
  obtain ⟨fs, h63⟩ := h63 h1 k hmid
  refine M.1 _ _ _ _ _ _ _ sgL_law__2478_ok ?_
  refine ⟨n, xs, hS, vI (k := 1) (by decide) hi hn, ?_⟩
  refine ⟨n, xs, hS, vI (k := 2) (by decide) hi hn, ?_⟩
  refine ⟨n, xs, hS, vI (k := 3) (by decide) hi hn, ?_⟩
  refine Or.inl ⟨rfl, _, 3, 0, 0, 12, fs, _, qi_13_261, ⟨rfl, rfl⟩, ⟨h63, rfl⟩, (qnum_rec (by decide) (by omega) (by omega) rfl), rfl, hM h1 k hmid, fun y2 h2 hy2 => ?_⟩
  obtain ⟨b, rfl, hb, hA⟩ := hy2
  obtain ⟨z, rfl⟩ := isK_i hb
  obtain ⟨S2, x2, y2, F2, G2, u2, hL2, hx0, hu0⟩ := id hA
  refine Or.inl ⟨rfl, _, 1, 0, 0, 12, _, _, qi_13_144, ⟨rfl, rfl⟩, ⟨hL2.2.1.1, rfl⟩, (qnum_rec (by decide) (by omega) (by omega) rfl), rfl, M_thrown hg hL2.2.1.1, fun y3 h3 hy3 => ?_⟩
  obtain ⟨rfl, rfl⟩ := hy3
  have fin : ∀ L : List (Nat × Value), (∀ q ∈ LL i, q ∈ L) → run 2532 L [] h3 (cu + 4 + 0 + 0) (su + 24 + 0 + 0) := fun L hs => M.1 _ _ _ _ _ _ _ sgL_law__2532_ok (M.2.1 _ _ _ _ _ _ _ hs (kk _ _ _ hA.q (by omega) (by omega)))
  refine ⟨fun _ => ?_, fun hc => absurd hx0 hc⟩
  refine M.1 _ _ _ _ _ _ _ sgL_law__2515_ok ?_
  have sub : ∀ (v1 v2 : Value), ∀ q ∈ LL i, q ∈ (6, v2) :: (5, v1) :: LL i := fun v1 v2 q hq => List.mem_cons_of_mem _ (List.mem_cons_of_mem _ hq)
  refine ⟨fun hk => fin _ (sub _ _), fun hk => ?_⟩
  refine ⟨_, _, hL2.2.2.2.2.1, vp_in_nI (n := 0) (by decide) (by decide), ?_⟩
  exact ⟨fun _ => fin _ (sub _ _), fun hc => absurd ((lgc_eq _ _).mpr (hu0 hk)) hc⟩
set_option maxHeartbeats 1000000 in
theorem MC_37 {g : qG} {run : qK0} (M : mStep g run) (B : mBund g) {n i : Nat} {xs : Nat → Int32} (hS : qScr g .int 0 n xs) (hn : n ≤ 3072) (hi : i + 6 ≤ n) {h : qH} (hQ : LQ h) {cu su : Nat} (hcu : cu + 104 ≤ 60000) (hsu : su + 424 ≤ 400000) (kk : ∀ (h2 : qH) (cu2 su2 : Nat), LQ h2 → cu2 ≤ cu + 104 → su2 ≤ su + 424 → run 2884 (LL i) [] h2 cu2 su2) : run 2535 (LL i) [] h cu su := by
  obtain ⟨hg, hT, hCt, hJ, hFM, hW, hSG, ⟨hS1, hL1⟩, ⟨hS2, hL2⟩, hS3, hL3⟩ := id B
  obtain ⟨S, x, y, F, G, u, hL⟩ := hQ
  obtain ⟨Mid, h63, hF, hM⟩ := P_sing hg hT hCt hFM hL (xs (nI i + 1).toNatClampNeg) (xs (nI i + 2).toNatClampNeg) (xs (nI i + 3).toNatClampNeg)
  refine M.1 _ _ _ _ _ _ _ sgL_law__2535_ok ?_
  refine ⟨n, xs, hS, vI (k := 1) (by decide) hi hn, ?_⟩
  refine ⟨n, xs, hS, vI (k := 2) (by decide) hi hn, ?_⟩
  refine ⟨n, xs, hS, vI (k := 3) (by decide) hi hn, ?_⟩
  refine M.2.2 262 2555 9 4 24 wL_sing [.ref 0, .int (xs (nI i + 1).toNatClampNeg), .int (xs (nI i + 2).toNatClampNeg), .int (xs (nI i + 3).toNatClampNeg), .ref 92] _ _ [] _ _ _ (qat_in (p := (6, 230)) (by decide +kernel)) wL_sing_ok rfl (qnum_rec (by decide) (by omega) (by omega) rfl) hF (by decide +kernel) ?_
  intro r h1 hr
  obtain ⟨k, rfl, hmid⟩ := hr
  obtain ⟨fs, h63⟩ := h63 h1 k hmid
  refine M.1 _ _ _ _ _ _ _ sgL_law__2558_ok ?_
  refine ⟨n, xs, hS, vI (k := 1) (by decide) hi hn, ?_⟩
  refine ⟨n, xs, hS, vI (k := 2) (by decide) hi hn, ?_⟩
  refine ⟨n, xs, hS, vI (k := 3) (by decide) hi hn, ?_⟩
  refine Or.inl ⟨rfl, _, 3, 0, 0, 12, fs, _, qi_13_264, ⟨rfl, rfl⟩, ⟨h63, rfl⟩, (qnum_rec (by decide) (by omega) (by omega) rfl), rfl, hM h1 k hmid, fun y2 h2 hy2 => ?_⟩
  obtain ⟨b, rfl, hb, hA⟩ := hy2
  obtain ⟨z, rfl⟩ := isK_i hb
  obtain ⟨S2, x2, y2, F2, G2, u2, hL2, hx0, hu0⟩ := id hA
  refine Or.inl ⟨rfl, _, 1, 0, 0, 12, _, _, qi_13_144, ⟨rfl, rfl⟩, ⟨hL2.2.1.1, rfl⟩, (qnum_rec (by decide) (by omega) (by omega) rfl), rfl, M_thrown hg hL2.2.1.1, fun y3 h3 hy3 => ?_⟩
  obtain ⟨rfl, rfl⟩ := hy3
  have fin : ∀ L : List (Nat × Value), (∀ q ∈ LL i, q ∈ L) → run 2612 L [] h3 (cu + 4 + 0 + 0) (su + 24 + 0 + 0) := fun L hs => M.1 _ _ _ _ _ _ _ sgL_law__2612_ok (M.2.1 _ _ _ _ _ _ _ hs (kk _ _ _ hA.q (by omega) (by omega)))
  refine ⟨fun _ => ?_, fun hc => absurd hx0 hc⟩
  refine M.1 _ _ _ _ _ _ _ sgL_law__2595_ok ?_
  have sub : ∀ (v1 v2 : Value), ∀ q ∈ LL i, q ∈ (6, v2) :: (5, v1) :: LL i := fun v1 v2 q hq => List.mem_cons_of_mem _ (List.mem_cons_of_mem _ hq)
  refine ⟨fun hk => fin _ (sub _ _), fun hk => ?_⟩
  refine ⟨_, _, hL2.2.2.2.2.1, vp_in_nI (n := 0) (by decide) (by decide), ?_⟩
  exact ⟨fun _ => fin _ (sub _ _), fun hc => absurd ((lgc_eq _ _).mpr (hu0 hk)) hc⟩
set_option maxHeartbeats 1000000 in
theorem MC_38 {g : qG} {run : qK0} (M : mStep g run) (B : mBund g) {n i : Nat} {xs : Nat → Int32} (hS : qScr g .int 0 n xs) (hn : n ≤ 3072) (hi : i + 6 ≤ n) {h : qH} (hQ : LQ h) {cu su : Nat} (hcu : cu + 104 ≤ 60000) (hsu : su + 424 ≤ 400000) (kk : ∀ (h2 : qH) (cu2 su2 : Nat), LQ h2 → cu2 ≤ cu + 104 → su2 ≤ su + 424 → run 2884 (LL i) [] h2 cu2 su2) : run 2615 (LL i) [] h cu su := by
  obtain ⟨hg, hT, hCt, hJ, hFM, hW, hSG, ⟨hS1, hL1⟩, ⟨hS2, hL2⟩, hS3, hL3⟩ := id B
  obtain ⟨S, x, y, F, G, u, hL⟩ := hQ
  obtain ⟨Mid, h63, hF, hM⟩ := P_swap hg hT hCt hFM hL (xs (nI i + 1).toNatClampNeg) (xs (nI i + 2).toNatClampNeg)
  refine M.1 _ _ _ _ _ _ _ sgL_law__2615_ok ?_
  refine ⟨n, xs, hS, vI (k := 1) (by decide) hi hn, ?_⟩
  refine ⟨n, xs, hS, vI (k := 2) (by decide) hi hn, ?_⟩
  refine M.2.2 265 2629 9 4 24 wL_swap [.ref 0, .int (xs (nI i + 1).toNatClampNeg), .int (xs (nI i + 2).toNatClampNeg), .ref 92] _ _ [] _ _ _ (qat_in (p := (6, 238)) (by decide +kernel)) wL_swap_ok rfl (qnum_rec (by decide) (by omega) (by omega) rfl) hF (by decide +kernel) ?_
  intro r h1 hr
  obtain ⟨k, rfl, hmid⟩ := hr
  obtain ⟨fs, h63⟩ := h63 h1 k hmid
  refine M.1 _ _ _ _ _ _ _ sgL_law__2632_ok ?_
  refine ⟨n, xs, hS, vI (k := 1) (by decide) hi hn, ?_⟩
  refine ⟨n, xs, hS, vI (k := 2) (by decide) hi hn, ?_⟩
  refine Or.inl ⟨rfl, _, 3, 0, 0, 12, fs, _, qi_13_267, ⟨rfl, rfl⟩, ⟨h63, rfl⟩, (qnum_rec (by decide) (by omega) (by omega) rfl), rfl, hM h1 k hmid, fun y2 h2 hy2 => ?_⟩
  obtain ⟨b, rfl, hb, hA⟩ := hy2
  obtain ⟨z, rfl⟩ := isK_i hb
  obtain ⟨S2, x2, y2, F2, G2, u2, hL2, hx0, hu0⟩ := id hA
  refine Or.inl ⟨rfl, _, 1, 0, 0, 12, _, _, qi_13_144, ⟨rfl, rfl⟩, ⟨hL2.2.1.1, rfl⟩, (qnum_rec (by decide) (by omega) (by omega) rfl), rfl, M_thrown hg hL2.2.1.1, fun y3 h3 hy3 => ?_⟩
  obtain ⟨rfl, rfl⟩ := hy3
  have fin : ∀ L : List (Nat × Value), (∀ q ∈ LL i, q ∈ L) → run 2680 L [] h3 (cu + 4 + 0 + 0) (su + 24 + 0 + 0) := fun L hs => M.1 _ _ _ _ _ _ _ sgL_law__2680_ok (M.2.1 _ _ _ _ _ _ _ hs (kk _ _ _ hA.q (by omega) (by omega)))
  refine ⟨fun _ => ?_, fun hc => absurd hx0 hc⟩
  refine M.1 _ _ _ _ _ _ _ sgL_law__2663_ok ?_
  have sub : ∀ (v1 v2 : Value), ∀ q ∈ LL i, q ∈ (6, v2) :: (5, v1) :: LL i := fun v1 v2 q hq => List.mem_cons_of_mem _ (List.mem_cons_of_mem _ hq)
  refine ⟨fun hk => fin _ (sub _ _), fun hk => ?_⟩
  refine ⟨_, _, hL2.2.2.2.2.1, vp_in_nI (n := 0) (by decide) (by decide), ?_⟩
  exact ⟨fun _ => fin _ (sub _ _), fun hc => absurd ((lgc_eq _ _).mpr (hu0 hk)) hc⟩
set_option maxHeartbeats 1000000 in
theorem MC_39 {g : qG} {run : qK0} (M : mStep g run) (B : mBund g) {n i : Nat} {xs : Nat → Int32} (hS : qScr g .int 0 n xs) (hn : n ≤ 3072) (hi : i + 6 ≤ n) {h : qH} (hQ : LQ h) {cu su : Nat} (hcu : cu + 104 ≤ 60000) (hsu : su + 424 ≤ 400000) (kk : ∀ (h2 : qH) (cu2 su2 : Nat), LQ h2 → cu2 ≤ cu + 104 → su2 ≤ su + 424 → run 2884 (LL i) [] h2 cu2 su2) : run 2683 (LL i) [] h cu su := by
  obtain ⟨hg, hT, hCt, hJ, hFM, hW, hSG, ⟨hS1, hL1⟩, ⟨hS2, hL2⟩, hS3, hL3⟩ := id B
  obtain ⟨S, x, y, F, G, u, hL⟩ := hQ
  obtain ⟨Mid, h63, hF, hM⟩ := P_skip hg hT hCt hFM hL (xs (nI i + 1).toNatClampNeg)
  refine M.1 _ _ _ _ _ _ _ sgL_law__2683_ok ?_
  refine ⟨n, xs, hS, vI (k := 1) (by decide) hi hn, ?_⟩
  refine M.2.2 268 2691 9 4 24 wL_skip [.ref 0, .int (xs (nI i + 1).toNatClampNeg), .ref 92] _ _ [] _ _ _ (qat_in (p := (7, 6)) (by decide +kernel)) wL_skip_ok rfl (qnum_rec (by decide) (by omega) (by omega) rfl) hF (by decide +kernel) ?_
  intro r h1 hr
  obtain ⟨k, rfl, hmid⟩ := hr
  obtain ⟨fs, h63⟩ := h63 h1 k hmid
  refine M.1 _ _ _ _ _ _ _ sgL_law__2694_ok ?_
  refine ⟨n, xs, hS, vI (k := 1) (by decide) hi hn, ?_⟩
  refine Or.inl ⟨rfl, _, 3, 0, 0, 12, fs, _, qi_13_270, ⟨rfl, rfl⟩, ⟨h63, rfl⟩, (qnum_rec (by decide) (by omega) (by omega) rfl), rfl, hM h1 k hmid, fun y2 h2 hy2 => ?_⟩
  obtain ⟨b, rfl, hb, hA⟩ := hy2
  obtain ⟨z, rfl⟩ := isK_i hb
  obtain ⟨S2, x2, y2, F2, G2, u2, hL2, hx0, hu0⟩ := id hA
  refine Or.inl ⟨rfl, _, 1, 0, 0, 12, _, _, qi_13_144, ⟨rfl, rfl⟩, ⟨hL2.2.1.1, rfl⟩, (qnum_rec (by decide) (by omega) (by omega) rfl), rfl, M_thrown hg hL2.2.1.1, fun y3 h3 hy3 => ?_⟩
  obtain ⟨rfl, rfl⟩ := hy3
  have fin : ∀ L : List (Nat × Value), (∀ q ∈ LL i, q ∈ L) → run 2736 L [] h3 (cu + 4 + 0 + 0) (su + 24 + 0 + 0) := fun L hs => M.1 _ _ _ _ _ _ _ sgL_law__2736_ok (M.2.1 _ _ _ _ _ _ _ hs (kk _ _ _ hA.q (by omega) (by omega)))
  refine ⟨fun _ => ?_, fun hc => absurd hx0 hc⟩
  refine M.1 _ _ _ _ _ _ _ sgL_law__2719_ok ?_
  have sub : ∀ (v1 v2 : Value), ∀ q ∈ LL i, q ∈ (6, v2) :: (5, v1) :: LL i := fun v1 v2 q hq => List.mem_cons_of_mem _ (List.mem_cons_of_mem _ hq)
  refine ⟨fun hk => fin _ (sub _ _), fun hk => ?_⟩
  refine ⟨_, _, hL2.2.2.2.2.1, vp_in_nI (n := 0) (by decide) (by decide), ?_⟩
  exact ⟨fun _ => fin _ (sub _ _), fun hc => absurd ((lgc_eq _ _).mpr (hu0 hk)) hc⟩
set_option maxHeartbeats 1000000 in
theorem MC_40 {g : qG} {run : qK0} (M : mStep g run) (B : mBund g) {n i : Nat} {xs : Nat → Int32} (hS : qScr g .int 0 n xs) (hn : n ≤ 3072) (hi : i + 6 ≤ n) {h : qH} (hQ : LQ h) {cu su : Nat} (hcu : cu + 104 ≤ 60000) (hsu : su + 424 ≤ 400000) (kk : ∀ (h2 : qH) (cu2 su2 : Nat), LQ h2 → cu2 ≤ cu + 104 → su2 ≤ su + 424 → run 2884 (LL i) [] h2 cu2 su2) : run 2739 (LL i) [] h cu su := by
  obtain ⟨hg, hT, hCt, hJ, hFM, hW, hSG, ⟨hS1, hL1⟩, ⟨hS2, hL2⟩, hS3, hL3⟩ := id B
  obtain ⟨S, x, y, F, G, u, hL⟩ := hQ
  obtain ⟨Mid, h63, hF, hM⟩ := P_until hg hT hCt hFM hL (xs (nI i + 1).toNatClampNeg)
  refine M.1 _ _ _ _ _ _ _ sgL_law__2739_ok ?_
  refine ⟨n, xs, hS, vI (k := 1) (by decide) hi hn, ?_⟩
  refine M.2.2 271 2747 9 4 24 wL_until [.ref 0, .int (xs (nI i + 1).toNatClampNeg), .ref 92] _ _ [] _ _ _ (qat_in (p := (7, 17)) (by decide +kernel)) wL_until_ok rfl (qnum_rec (by decide) (by omega) (by omega) rfl) hF (by decide +kernel) ?_
  intro r h1 hr
  obtain ⟨k, rfl, hmid⟩ := hr
  obtain ⟨fs, h63⟩ := h63 h1 k hmid
  refine M.1 _ _ _ _ _ _ _ sgL_law__2750_ok ?_
  refine ⟨n, xs, hS, vI (k := 1) (by decide) hi hn, ?_⟩
  refine Or.inl ⟨rfl, _, 3, 0, 0, 12, fs, _, qi_13_273, ⟨rfl, rfl⟩, ⟨h63, rfl⟩, (qnum_rec (by decide) (by omega) (by omega) rfl), rfl, hM h1 k hmid, fun y2 h2 hy2 => ?_⟩
  obtain ⟨b, rfl, hb, hA⟩ := hy2
  obtain ⟨z, rfl⟩ := isK_i hb
  obtain ⟨S2, x2, y2, F2, G2, u2, hL2, hx0, hu0⟩ := id hA
  refine Or.inl ⟨rfl, _, 1, 0, 0, 12, _, _, qi_13_144, ⟨rfl, rfl⟩, ⟨hL2.2.1.1, rfl⟩, (qnum_rec (by decide) (by omega) (by omega) rfl), rfl, M_thrown hg hL2.2.1.1, fun y3 h3 hy3 => ?_⟩
  obtain ⟨rfl, rfl⟩ := hy3
  have fin : ∀ L : List (Nat × Value), (∀ q ∈ LL i, q ∈ L) → run 2792 L [] h3 (cu + 4 + 0 + 0) (su + 24 + 0 + 0) := fun L hs => M.1 _ _ _ _ _ _ _ sgL_law__2792_ok (M.2.1 _ _ _ _ _ _ _ hs (kk _ _ _ hA.q (by omega) (by omega)))
  refine ⟨fun _ => ?_, fun hc => absurd hx0 hc⟩
  refine M.1 _ _ _ _ _ _ _ sgL_law__2775_ok ?_
  have sub : ∀ (v1 v2 : Value), ∀ q ∈ LL i, q ∈ (6, v2) :: (5, v1) :: LL i := fun v1 v2 q hq => List.mem_cons_of_mem _ (List.mem_cons_of_mem _ hq)
  refine ⟨fun hk => fin _ (sub _ _), fun hk => ?_⟩
  refine ⟨_, _, hL2.2.2.2.2.1, vp_in_nI (n := 0) (by decide) (by decide), ?_⟩
  exact ⟨fun _ => fin _ (sub _ _), fun hc => absurd ((lgc_eq _ _).mpr (hu0 hk)) hc⟩
set_option maxHeartbeats 1000000 in
theorem MC_41 {g : qG} {run : qK0} (M : mStep g run) (B : mBund g) {n i : Nat} {xs : Nat → Int32} (hS : qScr g .int 0 n xs) (hn : n ≤ 3072) (hi : i + 6 ≤ n) {h : qH} (hQ : LQ h) {cu su : Nat} (hcu : cu + 104 ≤ 60000) (hsu : su + 424 ≤ 400000) (kk : ∀ (h2 : qH) (cu2 su2 : Nat), LQ h2 → cu2 ≤ cu + 104 → su2 ≤ su + 424 → run 2884 (LL i) [] h2 cu2 su2) : run 2795 (LL i) [] h cu su := by
  obtain ⟨hg, hT, hCt, hJ, hFM, hW, hSG, ⟨hS1, hL1⟩, ⟨hS2, hL2⟩, hS3, hL3⟩ := id B
  obtain ⟨S, x, y, F, G, u, hL⟩ := hQ
  obtain ⟨Mid, h63, hF, hM⟩ := P_undo hg hL
  refine M.1 _ _ _ _ _ _ _ sgL_law__2795_ok ?_
  refine Or.inl ⟨rfl, _, 6, 0, 0, 11, _, _, qi_13_274, ⟨rfl, rfl⟩, ⟨hL.1.obj, rfl⟩, (qnum_rec (by decide) (by omega) (by omega) rfl), rfl, hF, fun y1 h1 hy1 => ?_⟩
  obtain ⟨a, rfl, hmid⟩ := hy1
  obtain ⟨⟨z, rfl⟩, fs, h63⟩ := h63 h1 _ hmid
  refine Or.inl ⟨rfl, _, 3, 0, 0, 12, fs, _, qi_13_277, ⟨rfl, rfl⟩, ⟨h63, rfl⟩, (qnum_rec (by decide) (by omega) (by omega) rfl), rfl, hM h1 _ hmid, fun y2 h2 hy2 => ?_⟩
  obtain ⟨rfl, hq⟩ := hy2
  exact ⟨fun _ => kk _ _ _ hq (by omega) (by omega), fun hc => absurd rfl hc⟩
set_option maxHeartbeats 1000000 in
theorem MC_42 {g : qG} {run : qK0} (M : mStep g run) (B : mBund g) {n i : Nat} {xs : Nat → Int32} (hS : qScr g .int 0 n xs) (hn : n ≤ 3072) (hi : i + 6 ≤ n) {h : qH} (hQ : LQ h) {cu su : Nat} (hcu : cu + 104 ≤ 60000) (hsu : su + 424 ≤ 400000) (kk : ∀ (h2 : qH) (cu2 su2 : Nat), LQ h2 → cu2 ≤ cu + 104 → su2 ≤ su + 424 → run 2884 (LL i) [] h2 cu2 su2) : run 2808 (LL i) [] h cu su := by
  obtain ⟨hg, hT, hCt, hJ, hFM, hW, hSG, ⟨hS1, hL1⟩, ⟨hS2, hL2⟩, hS3, hL3⟩ := id B
  obtain ⟨S, x, y, F, G, u, hL⟩ := hQ
  obtain ⟨Mid, h63, hF, hM⟩ := P_image hg hL
  refine M.1 _ _ _ _ _ _ _ sgL_law__2808_ok ?_
  refine Or.inl ⟨rfl, _, 3, 0, 0, 11, _, _, qi_13_278, ⟨rfl, rfl⟩, ⟨hL.1.obj, rfl⟩, (qnum_rec (by decide) (by omega) (by omega) rfl), rfl, hF, fun y1 h1 hy1 => ?_⟩
  obtain ⟨a, rfl, hmid⟩ := hy1
  obtain ⟨⟨z, rfl⟩, fs, h63⟩ := h63 h1 _ hmid
  refine Or.inl ⟨rfl, _, 3, 0, 0, 12, fs, _, qi_13_281, ⟨rfl, rfl⟩, ⟨h63, rfl⟩, (qnum_rec (by decide) (by omega) (by omega) rfl), rfl, hM h1 _ hmid, fun y2 h2 hy2 => ?_⟩
  obtain ⟨rfl, hq⟩ := hy2
  exact ⟨fun _ => kk _ _ _ hq (by omega) (by omega), fun hc => absurd rfl hc⟩
set_option maxHeartbeats 1000000 in
theorem MC_43 {g : qG} {run : qK0} (M : mStep g run) (B : mBund g) {n i : Nat} {xs : Nat → Int32} (hS : qScr g .int 0 n xs) (hn : n ≤ 3072) (hi : i + 6 ≤ n) {h : qH} (hQ : LQ h) {cu su : Nat} (hcu : cu + 104 ≤ 60000) (hsu : su + 424 ≤ 400000) (kk : ∀ (h2 : qH) (cu2 su2 : Nat), LQ h2 → cu2 ≤ cu + 104 → su2 ≤ su + 424 → run 2884 (LL i) [] h2 cu2 su2) : run 2821 (LL i) [] h cu su := by
  obtain ⟨hg, hT, hCt, hJ, hFM, hW, hSG, ⟨hS1, hL1⟩, ⟨hS2, hL2⟩, hS3, hL3⟩ := id B
  obtain ⟨S, x, y, F, G, u, hL⟩ := hQ
  obtain ⟨Mid, h63, hF, hM⟩ := P_restore hg hL
  refine M.1 _ _ _ _ _ _ _ sgL_law__2821_ok ?_
  refine Or.inl ⟨rfl, _, 3, 0, 0, 11, _, _, qi_13_282, ⟨rfl, rfl⟩, ⟨hL.1.obj, rfl⟩, (qnum_rec (by decide) (by omega) (by omega) rfl), rfl, hF, fun y1 h1 hy1 => ?_⟩
  obtain ⟨a, rfl, hmid⟩ := hy1
  obtain ⟨⟨z, rfl⟩, fs, h63⟩ := h63 h1 _ hmid
  refine Or.inl ⟨rfl, _, 3, 0, 0, 12, fs, _, qi_13_285, ⟨rfl, rfl⟩, ⟨h63, rfl⟩, (qnum_rec (by decide) (by omega) (by omega) rfl), rfl, hM h1 _ hmid, fun y2 h2 hy2 => ?_⟩
  obtain ⟨rfl, hq⟩ := hy2
  exact ⟨fun _ => kk _ _ _ hq (by omega) (by omega), fun hc => absurd rfl hc⟩
set_option maxHeartbeats 1000000 in
theorem MC_44 {g : qG} {run : qK0} (M : mStep g run) (B : mBund g) {n i : Nat} {xs : Nat → Int32} (hS : qScr g .int 0 n xs) (hn : n ≤ 3072) (hi : i + 6 ≤ n) {h : qH} (hQ : LQ h) {cu su : Nat} (hcu : cu + 104 ≤ 60000) (hsu : su + 424 ≤ 400000) (kk : ∀ (h2 : qH) (cu2 su2 : Nat), LQ h2 → cu2 ≤ cu + 104 → su2 ≤ su + 424 → run 2884 (LL i) [] h2 cu2 su2) : run 2834 (LL i) [] h cu su := by
  obtain ⟨hg, hT, hCt, hJ, hFM, hW, hSG, ⟨hS1, hL1⟩, ⟨hS2, hL2⟩, hS3, hL3⟩ := id B
  obtain ⟨S, x, y, F, G, u, hL⟩ := hQ
  obtain ⟨Mid, h63, hF, hM⟩ := P_status hg hL (xs (nI i + 1).toNatClampNeg)
  refine M.1 _ _ _ _ _ _ _ sgL_law__2834_ok ?_
  refine ⟨n, xs, hS, vI (k := 1) (by decide) hi hn, ?_⟩
  refine Or.inl ⟨rfl, _, 1, 0, 0, 11, _, _, qi_13_286, ⟨rfl, rfl⟩, ⟨hL.1.obj, rfl⟩, (qnum_rec (by decide) (by omega) (by omega) rfl), rfl, hF, fun y1 h1 hy1 => ?_⟩
  obtain ⟨a, rfl, hmid⟩ := hy1
  obtain ⟨⟨z, rfl⟩, fs, h63⟩ := h63 h1 _ hmid
  refine ⟨n, xs, hS, vI (k := 1) (by decide) hi hn, ?_⟩
  refine Or.inl ⟨rfl, _, 2, 0, 0, 12, fs, _, qi_13_289, ⟨rfl, rfl⟩, ⟨h63, rfl⟩, (qnum_rec (by decide) (by omega) (by omega) rfl), rfl, hM h1 _ hmid, fun y2 h2 hy2 => ?_⟩
  obtain ⟨rfl, hq⟩ := hy2
  exact ⟨fun _ => kk _ _ _ hq (by omega) (by omega), fun hc => absurd rfl hc⟩
set_option maxHeartbeats 1000000 in
theorem MC_45 {g : qG} {run : qK0} (M : mStep g run) (B : mBund g) {n i : Nat} {xs : Nat → Int32} (hS : qScr g .int 0 n xs) (hn : n ≤ 3072) (hi : i + 6 ≤ n) {h : qH} (hQ : LQ h) {cu su : Nat} (hcu : cu + 104 ≤ 60000) (hsu : su + 424 ≤ 400000) (kk : ∀ (h2 : qH) (cu2 su2 : Nat), LQ h2 → cu2 ≤ cu + 104 → su2 ≤ su + 424 → run 2884 (LL i) [] h2 cu2 su2) : run 2859 (LL i) [] h cu su := by
  obtain ⟨hg, hT, hCt, hJ, hFM, hW, hSG, ⟨hS1, hL1⟩, ⟨hS2, hL2⟩, hS3, hL3⟩ := id B
  obtain ⟨S, x, y, F, G, u, hL⟩ := hQ
  obtain ⟨Mid, h63, hF, hM⟩ := P_count hg hL (xs (nI i + 1).toNatClampNeg)
  refine M.1 _ _ _ _ _ _ _ sgL_law__2859_ok ?_
  refine ⟨n, xs, hS, vI (k := 1) (by decide) hi hn, ?_⟩
  refine Or.inl ⟨rfl, _, 1, 0, 0, 11, _, _, qi_13_290, ⟨rfl, rfl⟩, ⟨hL.1.obj, rfl⟩, (qnum_rec (by decide) (by omega) (by omega) rfl), rfl, hF, fun y1 h1 hy1 => ?_⟩
  obtain ⟨a, rfl, hmid⟩ := hy1
  obtain ⟨⟨z, rfl⟩, fs, h63⟩ := h63 h1 _ hmid
  refine ⟨n, xs, hS, vI (k := 1) (by decide) hi hn, ?_⟩
  refine Or.inl ⟨rfl, _, 1, 0, 0, 12, fs, _, qi_13_293, ⟨rfl, rfl⟩, ⟨h63, rfl⟩, (qnum_rec (by decide) (by omega) (by omega) rfl), rfl, hM h1 _ hmid, fun y2 h2 hy2 => ?_⟩
  obtain ⟨rfl, hq⟩ := hy2
  exact ⟨fun _ => kk _ _ _ hq (by omega) (by omega), fun hc => absurd rfl hc⟩
theorem lt6 {n i : Nat} (hn : n ≤ 3072) (hi : i ≤ 3078) : Int32.ofNat n - 6 < nI i ↔ n < i + 6 := by
  have e1 : (nI n).toInt = n := Int32.toInt_ofNat_of_lt (by omega)
  have e2 : (nI i).toInt = i := Int32.toInt_ofNat_of_lt (by omega)
  have h1 : (nI n - nI 6).toInt = (n : Int) - (6 : Nat) := nJ_int e1 (by omega) (by omega) (by decide)
  show nI n - nI 6 < nI i ↔ _
  rw [Int32.lt_iff_toInt_lt, h1, e2]
  omega
theorem main_disp {g : qG} {run : qK0} (M : mStep g run) (B : mBund g) {n i : Nat} {xs : Nat → Int32} (hS : qScr g .int 0 n xs) (hn : n ≤ 3072) (hi : i + 6 ≤ n) {h : qH} (hQ : LQ h) {cu su : Nat} (hcu : cu + 104 ≤ 60000) (hsu : su + 424 ≤ 400000) (kk : ∀ (h2 : qH) (cu2 su2 : Nat), LQ h2 → cu2 ≤ cu + 104 → su2 ≤ su + 424 → run 2884 (LL i) [] h2 cu2 su2) : ∀ j : Nat, j < 46 → ∃ (off : Int) (t : Nat), (#[200, 273, 329, 397, 453, 509, 522, 578, 646, 714, 782, 862, 965, 1032, 1045, 1058, 1125, 1193, 1249, 1340, 1431, 1511, 1579, 1678, 1734, 1802, 1882, 1938, 1951, 1964, 2019, 2075, 2131, 2187, 2255, 2347, 2415, 2495, 2575, 2643, 2699, 2755, 2768, 2781, 2794, 2819] : Array Int)[j]? = some off ∧ (40 : Int) + off = (t : Int) ∧ run t (LL i) [] h cu su := by
  intro j hj
  match j, hj with
  | 0, _ => exact ⟨200, 240, rfl, by decide, MC_0 M B hS hn hi hQ hcu hsu kk⟩
  | 1, _ => exact ⟨273, 313, rfl, by decide, MC_1 M B hS hn hi hQ hcu hsu kk⟩
  | 2, _ => exact ⟨329, 369, rfl, by decide, MC_2 M B hS hn hi hQ hcu hsu kk⟩
  | 3, _ => exact ⟨397, 437, rfl, by decide, MC_3 M B hS hn hi hQ hcu hsu kk⟩
  | 4, _ => exact ⟨453, 493, rfl, by decide, MC_4 M B hS hn hi hQ hcu hsu kk⟩
  | 5, _ => exact ⟨509, 549, rfl, by decide, MC_5 M B hS hn hi hQ hcu hsu kk⟩
  | 6, _ => exact ⟨522, 562, rfl, by decide, MC_6 M B hS hn hi hQ hcu hsu kk⟩
  | 7, _ => exact ⟨578, 618, rfl, by decide, MC_7 M B hS hn hi hQ hcu hsu kk⟩
  | 8, _ => exact ⟨646, 686, rfl, by decide, MC_8 M B hS hn hi hQ hcu hsu kk⟩
  | 9, _ => exact ⟨714, 754, rfl, by decide, MC_9 M B hS hn hi hQ hcu hsu kk⟩
  | 10, _ => exact ⟨782, 822, rfl, by decide, MC_10 M B hS hn hi hQ hcu hsu kk⟩
  | 11, _ => exact ⟨862, 902, rfl, by decide, MC_11 M B hS hn hi hQ hcu hsu kk⟩
  | 12, _ => exact ⟨965, 1005, rfl, by decide, MC_12 M B hS hn hi hQ hcu hsu kk⟩
  | 13, _ => exact ⟨1032, 1072, rfl, by decide, MC_13 M B hS hn hi hQ hcu hsu kk⟩
  | 14, _ => exact ⟨1045, 1085, rfl, by decide, MC_14 M B hS hn hi hQ hcu hsu kk⟩
  | 15, _ => exact ⟨1058, 1098, rfl, by decide, MC_15 M B hS hn hi hQ hcu hsu kk⟩
  | 16, _ => exact ⟨1125, 1165, rfl, by decide, MC_16 M B hS hn hi hQ hcu hsu kk⟩
  | 17, _ => exact ⟨1193, 1233, rfl, by decide, MC_17 M B hS hn hi hQ hcu hsu kk⟩
  | 18, _ => exact ⟨1249, 1289, rfl, by decide, MC_18 M B hS hn hi hQ hcu hsu kk⟩
  | 19, _ => exact ⟨1340, 1380, rfl, by decide, MC_19 M B hS hn hi hQ hcu hsu kk⟩
  | 20, _ => exact ⟨1431, 1471, rfl, by decide, MC_20 M B hS hn hi hQ hcu hsu kk⟩
  | 21, _ => exact ⟨1511, 1551, rfl, by decide, MC_21 M B hS hn hi hQ hcu hsu kk⟩
  | 22, _ => exact ⟨1579, 1619, rfl, by decide, MC_22 M B hS hn hi hQ hcu hsu kk⟩
  | 23, _ => exact ⟨1678, 1718, rfl, by decide, MC_23 M B hS hn hi hQ hcu hsu kk⟩
  | 24, _ => exact ⟨1734, 1774, rfl, by decide, MC_24 M B hS hn hi hQ hcu hsu kk⟩
  | 25, _ => exact ⟨1802, 1842, rfl, by decide, MC_25 M B hS hn hi hQ hcu hsu kk⟩
  | 26, _ => exact ⟨1882, 1922, rfl, by decide, MC_26 M B hS hn hi hQ hcu hsu kk⟩
  | 27, _ => exact ⟨1938, 1978, rfl, by decide, MC_27 M B hS hn hi hQ hcu hsu kk⟩
  | 28, _ => exact ⟨1951, 1991, rfl, by decide, MC_28 M B hS hn hi hQ hcu hsu kk⟩
  | 29, _ => exact ⟨1964, 2004, rfl, by decide, MC_29 M B hS hn hi hQ hcu hsu kk⟩
  | 30, _ => exact ⟨2019, 2059, rfl, by decide, MC_30 M B hS hn hi hQ hcu hsu kk⟩
  | 31, _ => exact ⟨2075, 2115, rfl, by decide, MC_31 M B hS hn hi hQ hcu hsu kk⟩
  | 32, _ => exact ⟨2131, 2171, rfl, by decide, MC_32 M B hS hn hi hQ hcu hsu kk⟩
  | 33, _ => exact ⟨2187, 2227, rfl, by decide, MC_33 M B hS hn hi hQ hcu hsu kk⟩
  | 34, _ => exact ⟨2255, 2295, rfl, by decide, MC_34 M B hS hn hi hQ hcu hsu kk⟩
  | 35, _ => exact ⟨2347, 2387, rfl, by decide, MC_35 M B hS hn hi hQ hcu hsu kk⟩
  | 36, _ => exact ⟨2415, 2455, rfl, by decide, MC_36 M B hS hn hi hQ hcu hsu kk⟩
  | 37, _ => exact ⟨2495, 2535, rfl, by decide, MC_37 M B hS hn hi hQ hcu hsu kk⟩
  | 38, _ => exact ⟨2575, 2615, rfl, by decide, MC_38 M B hS hn hi hQ hcu hsu kk⟩
  | 39, _ => exact ⟨2643, 2683, rfl, by decide, MC_39 M B hS hn hi hQ hcu hsu kk⟩
  | 40, _ => exact ⟨2699, 2739, rfl, by decide, MC_40 M B hS hn hi hQ hcu hsu kk⟩
  | 41, _ => exact ⟨2755, 2795, rfl, by decide, MC_41 M B hS hn hi hQ hcu hsu kk⟩
  | 42, _ => exact ⟨2768, 2808, rfl, by decide, MC_42 M B hS hn hi hQ hcu hsu kk⟩
  | 43, _ => exact ⟨2781, 2821, rfl, by decide, MC_43 M B hS hn hi hQ hcu hsu kk⟩
  | 44, _ => exact ⟨2794, 2834, rfl, by decide, MC_44 M B hS hn hi hQ hcu hsu kk⟩
  | 45, _ => exact ⟨2819, 2859, rfl, by decide, MC_45 M B hS hn hi hQ hcu hsu kk⟩
  | _ + 46, h => omega
theorem main_loop {g : qG} {run : qK0} (M : mStep g run) (B : mBund g) {n : Nat} {xs : Nat → Int32} (hS : qScr g .int 0 n xs) (hn : n ≤ 3072) (hend : ∀ (L : List (Nat × Value)) (h : qH) (cu su : Nat), cu ≤ 60000 → su ≤ 400000 → run 2891 L [.int 1] h cu su) : ∀ (k i : Nat) {h : qH} {cu su : Nat}, LQ h → n < i + 6 * k + 6 → i ≤ n → cu + 104 * k ≤ 60000 → su + 424 * k ≤ 400000 → run 23 (LL i) [] h cu su := by
  intro k
  induction k with
  | zero =>
    intro i h cu su hQ hk hi hcu hsu
    refine M.1 _ _ _ _ _ _ _ sgL_law__23_ok ?_
    refine ⟨_, _, _, hS, ?_⟩
    refine ⟨fun _ => ?_, fun hc => absurd ((lt6 hn (by omega)).mpr (by omega)) hc⟩
    refine M.1 _ _ _ _ _ _ _ sgL_law__2890_ok ?_
    exact hend _ _ _ _ (by omega) (by omega)
  | succ k ih =>
    intro i h cu su hQ hk hi hcu hsu
    refine M.1 _ _ _ _ _ _ _ sgL_law__23_ok ?_
    refine ⟨_, _, _, hS, ?_⟩
    by_cases c : n < i + 6
    · refine ⟨fun _ => ?_, fun hc => absurd ((lt6 hn (by omega)).mpr c) hc⟩
      refine M.1 _ _ _ _ _ _ _ sgL_law__2890_ok ?_
      exact hend _ _ _ _ (by omega) (by omega)
    · refine ⟨fun hc => absurd ((lt6 hn (by omega)).mp hc) c, fun _ => ?_⟩
      have q0 : i + 6 ≤ n := by omega
      have q1 : cu + 104 ≤ 60000 := by omega
      have q2 : su + 424 ≤ 400000 := Nat.le_trans (Nat.add_le_add_left (Nat.le_mul_of_pos_right 424 (Nat.succ_pos k)) su) hsu
      have kk : ∀ (h2 : qH) (cu2 su2 : Nat), LQ h2 → cu2 ≤ cu + 104 → su2 ≤ su + 424 → run 2884 (LL i) [] h2 cu2 su2 := fun h2 cu2 su2 hq h1 h3 => by
        refine M.1 _ _ _ _ _ _ _ sgL_law__2884_ok ?_
        have k2 : run 23 [(4, .int (nI i + 6)), (3, .ref 92), (2, .ref 63), (1, .ref 0), (0, .retAddr 0)] [] h2 cu2 su2 := by
          rw [show (nI i + 6 : Int32) = nI (i + 6) from nI_add ..]
          exact ih (i + 6) hq (by omega) (by omega) (by omega) (by omega)
        exact k2
      refine M.1 _ _ _ _ _ _ _ sgL_law__33_ok ?_
      refine ⟨n, xs, hS, vp_in_nI (by omega) (by omega), ?_⟩
      refine ⟨fun _ => ⟨2884, by decide, kk _ _ _ hQ (by omega) (by omega)⟩, fun j h0 h45 hj => ?_⟩
      have hj46 : j < 46 := by
        clear hsu hcu q1 q2 kk ih hk
        omega
      obtain ⟨off, t, h1, h2, h3⟩ := main_disp M B hS hn q0 hQ q1 q2 kk j hj46
      exact ⟨off, t, h1, h2, h3⟩
end Q15B
