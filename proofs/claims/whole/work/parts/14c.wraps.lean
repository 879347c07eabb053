section Q14C
theorem W_village {g : qG} (hg : qOK g) (hT : qTHR g) (hC : qCAT g) {h : qH} {fs : List Value} (h0 : h.2 0 = some (.inl (11, fs))) {u : Nat → Int64} {d mc ms : Nat} {P : Option Value → qH → Prop} {PX : String → qH → Prop} {p0 : Int32} (hF : qSpecX g d mc ms mX11_village [.ref 0, .int p0] h P PX) (hP : ∀ v h1, P v h1 → (∃ z : Int32, v = some (.int z)) ∧ h1.2 92 = some (.inr (.inr (.inl (1, u))))) (hX : ∀ E h1, PX E h1 → ∃ k : Nat, (k = 1) ∧ E = exN k) : qSpecW g (d + 1) mc ms wL_village [.ref 0, .int p0, .ref 92] h (fun r h' => (∃ (z : Int32) (h1 : qH), P (some (.int z)) h1 ∧ r = some (.int 0) ∧ h' = (h1.1, qup h1.2 92 (.inr (.inr (.inl (1, vp_updL u 0 z.toInt64)))))) ∨ (∃ k : Nat, (k = 1) ∧ PX (exN k) h' ∧ r = some (.int (1)))) := by
  refine qSpecW_run hg hT hC wL_village_ok rfl (Nat.le_of_ble_eq_true rfl) ?_
  intro run thr st9 catch9
  have step : (∀ (sg : List qEl) (pc : Nat) (L : List (Nat × Value)) (st : List Value) (h : qH) (cu su : Nat), qsg wL_village.2.1 13 wL_village.2.2.1 false pc sg = true → wpN g 13 (d + 1) mc ms (some .int) _ thr run sg pc L st h cu su → run pc L st h cu su) ∧ True := ⟨st9, trivial⟩
  have kx : ∀ (E : String) (h9 : qH), PX E h9 → thr 4 [(0, .ref 0), (1, .int p0), (2, .ref 92)] E h9 (0 + mc) (0 + ms) := by
    intro E h9 hx
    obtain ⟨k, hk, rfl⟩ := hX E h9 hx
    subst hk
    refine catch9 [] [] (0, 9, 12, 13) 1 3 1 _ _ _ _ _ rfl (fun z hz => absurd hz List.not_mem_nil) (by decide) ⟨by decide, by decide⟩ (by decide) clk_1 (Or.inr ⟨3, rfl, by decide +kernel, rfl⟩) (by decide) rfl ?_
    refine step.1 _ _ _ _ _ _ _ sgL_village_13_ok ?_
    refine ⟨.int, rfl, rfl, (by omega), (by omega), ?_⟩
    exact Or.inr ⟨1, rfl, hx, rfl⟩
  refine step.1 _ _ _ _ _ _ _ sgL_village_0_ok ?_
  refine Or.inr ⟨rfl, _, d, mc, ms, _, _, _, _, qi_13_7, ⟨rfl, rfl⟩, ⟨h0, rfl⟩, (qnum_rec (by omega) (by omega) (by omega) rfl), rfl, hF, fun y4 h4 hy4 => ?_, fun E h9 hx => kx E h9 hx⟩
  obtain ⟨⟨z, rfl⟩, hu⟩ := hP y4 h4 hy4
  refine ⟨_, _, hu, vp_in_nI (n := 0) (by decide) (by decide), ?_⟩
  refine step.1 _ _ _ _ _ _ _ sgL_village_15_ok ?_
  refine ⟨.int, rfl, rfl, (by omega), (by omega), ?_⟩
  exact Or.inl ⟨z, h4, hy4, rfl, rfl⟩
theorem W_law {g : qG} (hg : qOK g) (hT : qTHR g) (hC : qCAT g) {h : qH} {fs : List Value} (h0 : h.2 0 = some (.inl (11, fs))) {u : Nat → Int64} {d mc ms : Nat} {P : Option Value → qH → Prop} {PX : String → qH → Prop} {p0 p1 : Int32} (hF : qSpecX g d mc ms mX11_law [.ref 0, .int p0, .int p1] h P PX) (hP : ∀ v h1, P v h1 → (∃ z : Int32, v = some (.int z)) ∧ h1.2 92 = some (.inr (.inr (.inl (1, u))))) (hX : ∀ E h1, PX E h1 → ∃ k : Nat, (k = 1) ∧ E = exN k) : qSpecW g (d + 1) mc ms wL_law [.ref 0, .int p0, .int p1, .ref 92] h (fun r h' => (∃ (z : Int32) (h1 : qH), P (some (.int z)) h1 ∧ r = some (.int 0) ∧ h' = (h1.1, qup h1.2 92 (.inr (.inr (.inl (1, vp_updL u 0 z.toInt64)))))) ∨ (∃ k : Nat, (k = 1) ∧ PX (exN k) h' ∧ r = some (.int (1)))) := by
  refine qSpecW_run hg hT hC wL_law_ok rfl (Nat.le_of_ble_eq_true rfl) ?_
  intro run thr st9 catch9
  have step : (∀ (sg : List qEl) (pc : Nat) (L : List (Nat × Value)) (st : List Value) (h : qH) (cu su : Nat), qsg wL_law.2.1 13 wL_law.2.2.1 false pc sg = true → wpN g 13 (d + 1) mc ms (some .int) _ thr run sg pc L st h cu su → run pc L st h cu su) ∧ True := ⟨st9, trivial⟩
  have kx : ∀ (E : String) (h9 : qH), PX E h9 → thr 5 [(0, .ref 0), (1, .int p0), (2, .int p1), (3, .ref 92)] E h9 (0 + mc) (0 + ms) := by
    intro E h9 hx
    obtain ⟨k, hk, rfl⟩ := hX E h9 hx
    subst hk
    refine catch9 [] [] (0, 10, 13, 13) 1 4 2 _ _ _ _ _ rfl (fun z hz => absurd hz List.not_mem_nil) (by decide) ⟨by decide, by decide⟩ (by decide) clk_1 (Or.inl ⟨by decide +kernel, rfl⟩) (by decide) rfl ?_
    refine step.1 _ _ _ _ _ _ _ sgL_law_15_ok ?_
    refine ⟨.int, rfl, rfl, (by omega), (by omega), ?_⟩
    exact Or.inr ⟨1, rfl, hx, rfl⟩
  refine step.1 _ _ _ _ _ _ _ sgL_law_0_ok ?_
  refine Or.inr ⟨rfl, _, d, mc, ms, _, _, _, _, qi_13_15, ⟨rfl, rfl⟩, ⟨h0, rfl⟩, (qnum_rec (by omega) (by omega) (by omega) rfl), rfl, hF, fun y5 h5 hy5 => ?_, fun E h9 hx => kx E h9 hx⟩
  obtain ⟨⟨z, rfl⟩, hu⟩ := hP y5 h5 hy5
  refine ⟨_, _, hu, vp_in_nI (n := 0) (by decide) (by decide), ?_⟩
  refine step.1 _ _ _ _ _ _ _ sgL_law_17_ok ?_
  refine ⟨.int, rfl, rfl, (by omega), (by omega), ?_⟩
  exact Or.inl ⟨z, h5, hy5, rfl, rfl⟩
theorem W_plan {g : qG} (hg : qOK g) (hT : qTHR g) (hC : qCAT g) {h : qH} {fs : List Value} (h0 : h.2 0 = some (.inl (11, fs))) {u : Nat → Int64} {d mc ms : Nat} {P : Option Value → qH → Prop} {PX : String → qH → Prop} {p0 : Int32} (hF : qSpecX g d mc ms mX11_plan [.ref 0, .int p0] h P PX) (hP : ∀ v h1, P v h1 → (∃ z : Int32, v = some (.int z)) ∧ h1.2 92 = some (.inr (.inr (.inl (1, u))))) (hX : ∀ E h1, PX E h1 → ∃ k : Nat, (k = 1) ∧ E = exN k) : qSpecW g (d + 1) mc ms wL_plan [.ref 0, .int p0, .ref 92] h (fun r h' => (∃ (z : Int32) (h1 : qH), P (some (.int z)) h1 ∧ r = some (.int 0) ∧ h' = (h1.1, qup h1.2 92 (.inr (.inr (.inl (1, vp_updL u 0 z.toInt64)))))) ∨ (∃ k : Nat, (k = 1) ∧ PX (exN k) h' ∧ r = some (.int (1)))) := by
  refine qSpecW_run hg hT hC wL_plan_ok rfl (Nat.le_of_ble_eq_true rfl) ?_
  intro run thr st9 catch9
  have step : (∀ (sg : List qEl) (pc : Nat) (L : List (Nat × Value)) (st : List Value) (h : qH) (cu su : Nat), qsg wL_plan.2.1 13 wL_plan.2.2.1 false pc sg = true → wpN g 13 (d + 1) mc ms (some .int) _ thr run sg pc L st h cu su → run pc L st h cu su) ∧ True := ⟨st9, trivial⟩
  have kx : ∀ (E : String) (h9 : qH), PX E h9 → thr 4 [(0, .ref 0), (1, .int p0), (2, .ref 92)] E h9 (0 + mc) (0 + ms) := by
    intro E h9 hx
    obtain ⟨k, hk, rfl⟩ := hX E h9 hx
    subst hk
    refine catch9 [] [] (0, 9, 12, 13) 1 3 1 _ _ _ _ _ rfl (fun z hz => absurd hz List.not_mem_nil) (by decide) ⟨by decide, by decide⟩ (by decide) clk_1 (Or.inr ⟨3, rfl, by decide +kernel, rfl⟩) (by decide) rfl ?_
    refine step.1 _ _ _ _ _ _ _ sgL_plan_13_ok ?_
    refine ⟨.int, rfl, rfl, (by omega), (by omega), ?_⟩
    exact Or.inr ⟨1, rfl, hx, rfl⟩
  refine step.1 _ _ _ _ _ _ _ sgL_plan_0_ok ?_
  refine Or.inr ⟨rfl, _, d, mc, ms, _, _, _, _, qi_13_19, ⟨rfl, rfl⟩, ⟨h0, rfl⟩, (qnum_rec (by omega) (by omega) (by omega) rfl), rfl, hF, fun y4 h4 hy4 => ?_, fun E h9 hx => kx E h9 hx⟩
  obtain ⟨⟨z, rfl⟩, hu⟩ := hP y4 h4 hy4
  refine ⟨_, _, hu, vp_in_nI (n := 0) (by decide) (by decide), ?_⟩
  refine step.1 _ _ _ _ _ _ _ sgL_plan_15_ok ?_
  refine ⟨.int, rfl, rfl, (by omega), (by omega), ?_⟩
  exact Or.inl ⟨z, h4, hy4, rfl, rfl⟩
theorem W_book {g : qG} (hg : qOK g) (hT : qTHR g) (hC : qCAT g) {h : qH} {fs : List Value} (h0 : h.2 0 = some (.inl (11, fs))) {u : Nat → Int64} {d mc ms : Nat} {P : Option Value → qH → Prop} {PX : String → qH → Prop} {p0 : Int32} (hF : qSpecX g d mc ms mX11_book [.ref 0, .int p0] h P PX) (hP : ∀ v h1, P v h1 → (∃ z : Int32, v = some (.int z)) ∧ h1.2 92 = some (.inr (.inr (.inl (1, u))))) (hX : ∀ E h1, PX E h1 → ∃ k : Nat, (k = 1) ∧ E = exN k) : qSpecW g (d + 1) mc ms wL_book [.ref 0, .int p0, .ref 92] h (fun r h' => (∃ (z : Int32) (h1 : qH), P (some (.int z)) h1 ∧ r = some (.int 0) ∧ h' = (h1.1, qup h1.2 92 (.inr (.inr (.inl (1, vp_updL u 0 z.toInt64)))))) ∨ (∃ k : Nat, (k = 1) ∧ PX (exN k) h' ∧ r = some (.int (1)))) := by
  refine qSpecW_run hg hT hC wL_book_ok rfl (Nat.le_of_ble_eq_true rfl) ?_
  intro run thr st9 catch9
  have step : (∀ (sg : List qEl) (pc : Nat) (L : List (Nat × Value)) (st : List Value) (h : qH) (cu su : Nat), qsg wL_book.2.1 13 wL_book.2.2.1 false pc sg = true → wpN g 13 (d + 1) mc ms (some .int) _ thr run sg pc L st h cu su → run pc L st h cu su) ∧ True := ⟨st9, trivial⟩
  have kx : ∀ (E : String) (h9 : qH), PX E h9 → thr 4 [(0, .ref 0), (1, .int p0), (2, .ref 92)] E h9 (0 + mc) (0 + ms) := by
    intro E h9 hx
    obtain ⟨k, hk, rfl⟩ := hX E h9 hx
    subst hk
    refine catch9 [] [] (0, 9, 12, 13) 1 3 1 _ _ _ _ _ rfl (fun z hz => absurd hz List.not_mem_nil) (by decide) ⟨by decide, by decide⟩ (by decide) clk_1 (Or.inr ⟨3, rfl, by decide +kernel, rfl⟩) (by decide) rfl ?_
    refine step.1 _ _ _ _ _ _ _ sgL_book_13_ok ?_
    refine ⟨.int, rfl, rfl, (by omega), (by omega), ?_⟩
    exact Or.inr ⟨1, rfl, hx, rfl⟩
  refine step.1 _ _ _ _ _ _ _ sgL_book_0_ok ?_
  refine Or.inr ⟨rfl, _, d, mc, ms, _, _, _, _, qi_13_22, ⟨rfl, rfl⟩, ⟨h0, rfl⟩, (qnum_rec (by omega) (by omega) (by omega) rfl), rfl, hF, fun y4 h4 hy4 => ?_, fun E h9 hx => kx E h9 hx⟩
  obtain ⟨⟨z, rfl⟩, hu⟩ := hP y4 h4 hy4
  refine ⟨_, _, hu, vp_in_nI (n := 0) (by decide) (by decide), ?_⟩
  refine step.1 _ _ _ _ _ _ _ sgL_book_15_ok ?_
  refine ⟨.int, rfl, rfl, (by omega), (by omega), ?_⟩
  exact Or.inl ⟨z, h4, hy4, rfl, rfl⟩
theorem W_told {g : qG} (hg : qOK g) (hT : qTHR g) (hC : qCAT g) {h : qH} {fs : List Value} (h0 : h.2 0 = some (.inl (11, fs))) {u : Nat → Int64} {d mc ms : Nat} {P : Option Value → qH → Prop} {PX : String → qH → Prop} {p0 : Int32} (hF : qSpecX g d mc ms mX11_told [.ref 0, .int p0] h P PX) (hP : ∀ v h1, P v h1 → (∃ z : Int32, v = some (.int z)) ∧ h1.2 92 = some (.inr (.inr (.inl (1, u))))) (hX : ∀ E h1, PX E h1 → ∃ k : Nat, (k = 1) ∧ E = exN k) : qSpecW g (d + 1) mc ms wL_told [.ref 0, .int p0, .ref 92] h (fun r h' => (∃ (z : Int32) (h1 : qH), P (some (.int z)) h1 ∧ r = some (.int 0) ∧ h' = (h1.1, qup h1.2 92 (.inr (.inr (.inl (1, vp_updL u 0 z.toInt64)))))) ∨ (∃ k : Nat, (k = 1) ∧ PX (exN k) h' ∧ r = some (.int (1)))) := by
  refine qSpecW_run hg hT hC wL_told_ok rfl (Nat.le_of_ble_eq_true rfl) ?_
  intro run thr st9 catch9
  have step : (∀ (sg : List qEl) (pc : Nat) (L : List (Nat × Value)) (st : List Value) (h : qH) (cu su : Nat), qsg wL_told.2.1 13 wL_told.2.2.1 false pc sg = true → wpN g 13 (d + 1) mc ms (some .int) _ thr run sg pc L st h cu su → run pc L st h cu su) ∧ True := ⟨st9, trivial⟩
  have kx : ∀ (E : String) (h9 : qH), PX E h9 → thr 4 [(0, .ref 0), (1, .int p0), (2, .ref 92)] E h9 (0 + mc) (0 + ms) := by
    intro E h9 hx
    obtain ⟨k, hk, rfl⟩ := hX E h9 hx
    subst hk
    refine catch9 [] [] (0, 9, 12, 13) 1 3 1 _ _ _ _ _ rfl (fun z hz => absurd hz List.not_mem_nil) (by decide) ⟨by decide, by decide⟩ (by decide) clk_1 (Or.inr ⟨3, rfl, by decide +kernel, rfl⟩) (by decide) rfl ?_
    refine step.1 _ _ _ _ _ _ _ sgL_told_13_ok ?_
    refine ⟨.int, rfl, rfl, (by omega), (by omega), ?_⟩
    exact Or.inr ⟨1, rfl, hx, rfl⟩
  refine step.1 _ _ _ _ _ _ _ sgL_told_0_ok ?_
  refine Or.inr ⟨rfl, _, d, mc, ms, _, _, _, _, qi_13_25, ⟨rfl, rfl⟩, ⟨h0, rfl⟩, (qnum_rec (by omega) (by omega) (by omega) rfl), rfl, hF, fun y4 h4 hy4 => ?_, fun E h9 hx => kx E h9 hx⟩
  obtain ⟨⟨z, rfl⟩, hu⟩ := hP y4 h4 hy4
  refine ⟨_, _, hu, vp_in_nI (n := 0) (by decide) (by decide), ?_⟩
  refine step.1 _ _ _ _ _ _ _ sgL_told_15_ok ?_
  refine ⟨.int, rfl, rfl, (by omega), (by omega), ?_⟩
  exact Or.inl ⟨z, h4, hy4, rfl, rfl⟩
theorem W_door {g : qG} (hg : qOK g) (hT : qTHR g) (hC : qCAT g) {h : qH} {fs : List Value} (h0 : h.2 0 = some (.inl (11, fs))) {u : Nat → Int64} {d mc ms : Nat} {P : Option Value → qH → Prop} {PX : String → qH → Prop} {p0 p1 : Int32} (hF : qSpecX g d mc ms mX11_door [.ref 0, .int p0, .int p1] h P PX) (hP : ∀ v h1, P v h1 → (∃ z : Int32, v = some (.int z)) ∧ h1.2 92 = some (.inr (.inr (.inl (1, u))))) (hX : ∀ E h1, PX E h1 → ∃ k : Nat, (k = 0 ∨ k = 1) ∧ E = exN k) : qSpecW g (d + 1) mc ms wL_door [.ref 0, .int p0, .int p1, .ref 92] h (fun r h' => (∃ (z : Int32) (h1 : qH), P (some (.int z)) h1 ∧ r = some (.int 0) ∧ h' = (h1.1, qup h1.2 92 (.inr (.inr (.inl (1, vp_updL u 0 z.toInt64)))))) ∨ (∃ k : Nat, (k = 0 ∨ k = 1) ∧ PX (exN k) h' ∧ r = some (.int (nI (k + 1))))) := by
  refine qSpecW_run hg hT hC wL_door_ok rfl (Nat.le_of_ble_eq_true rfl) ?_
  intro run thr st9 catch9
  have step : (∀ (sg : List qEl) (pc : Nat) (L : List (Nat × Value)) (st : List Value) (h : qH) (cu su : Nat), qsg wL_door.2.1 13 wL_door.2.2.1 false pc sg = true → wpN g 13 (d + 1) mc ms (some .int) _ thr run sg pc L st h cu su → run pc L st h cu su) ∧ True := ⟨st9, trivial⟩
  have kx : ∀ (E : String) (h9 : qH), PX E h9 → thr 5 [(0, .ref 0), (1, .int p0), (2, .int p1), (3, .ref 92)] E h9 (0 + mc) (0 + ms) := by
    intro E h9 hx
    obtain ⟨k, hk, rfl⟩ := hX E h9 hx
    rcases hk with rfl | rfl
    · refine catch9 [] [(0, 10, 17, 13)] (0, 10, 13, 31) 0 4 2 _ _ _ _ _ rfl (fun z hz => absurd hz List.not_mem_nil) (by decide) ⟨by decide, by decide⟩ (by decide) clk_0 (Or.inl ⟨by decide +kernel, rfl⟩) (by decide) rfl ?_
      refine step.1 _ _ _ _ _ _ _ sgL_door_15_ok ?_
      refine ⟨.int, rfl, rfl, (by omega), (by omega), ?_⟩
      exact Or.inr ⟨0, Or.inl rfl, hx, rfl⟩
    · refine catch9 [(0, 10, 13, 31)] [] (0, 10, 17, 13) 1 4 2 _ _ _ _ _ rfl (fun z hz => by
          simp only [List.mem_cons, List.not_mem_nil, or_false] at hz
          rcases hz with rfl
          · exact ⟨by decide, 0, by decide, by decide, clk_0⟩) (by decide) ⟨by decide, by decide⟩ (by decide) clk_1 (Or.inl ⟨by decide +kernel, rfl⟩) (by decide) rfl ?_
      refine step.1 _ _ _ _ _ _ _ sgL_door_19_ok ?_
      refine ⟨.int, rfl, rfl, (by omega), (by omega), ?_⟩
      exact Or.inr ⟨1, Or.inr rfl, hx, rfl⟩
  refine step.1 _ _ _ _ _ _ _ sgL_door_0_ok ?_
  refine Or.inr ⟨rfl, _, d, mc, ms, _, _, _, _, qi_13_28, ⟨rfl, rfl⟩, ⟨h0, rfl⟩, (qnum_rec (by omega) (by omega) (by omega) rfl), rfl, hF, fun y5 h5 hy5 => ?_, fun E h9 hx => kx E h9 hx⟩
  obtain ⟨⟨z, rfl⟩, hu⟩ := hP y5 h5 hy5
  refine ⟨_, _, hu, vp_in_nI (n := 0) (by decide) (by decide), ?_⟩
  refine step.1 _ _ _ _ _ _ _ sgL_door_21_ok ?_
  refine ⟨.int, rfl, rfl, (by omega), (by omega), ?_⟩
  exact Or.inl ⟨z, h5, hy5, rfl, rfl⟩
theorem W_singer {g : qG} (hg : qOK g) (hT : qTHR g) (hC : qCAT g) {h : qH} {fs : List Value} (h0 : h.2 0 = some (.inl (11, fs))) {u : Nat → Int64} {d mc ms : Nat} {P : Option Value → qH → Prop} {PX : String → qH → Prop} {p0 p1 : Int32} (hF : qSpecX g d mc ms mX11_singer [.ref 0, .int p0, .int p1] h P PX) (hP : ∀ v h1, P v h1 → (∃ z : Int32, v = some (.int z)) ∧ h1.2 92 = some (.inr (.inr (.inl (1, u))))) (hX : ∀ E h1, PX E h1 → ∃ k : Nat, (k = 0 ∨ k = 1) ∧ E = exN k) : qSpecW g (d + 1) mc ms wL_singer [.ref 0, .int p0, .int p1, .ref 92] h (fun r h' => (∃ (z : Int32) (h1 : qH), P (some (.int z)) h1 ∧ r = some (.int 0) ∧ h' = (h1.1, qup h1.2 92 (.inr (.inr (.inl (1, vp_updL u 0 z.toInt64)))))) ∨ (∃ k : Nat, (k = 0 ∨ k = 1) ∧ PX (exN k) h' ∧ r = some (.int (nI (k + 1))))) := by
  refine qSpecW_run hg hT hC wL_singer_ok rfl (Nat.le_of_ble_eq_true rfl) ?_
  intro run thr st9 catch9
  have step : (∀ (sg : List qEl) (pc : Nat) (L : List (Nat × Value)) (st : List Value) (h : qH) (cu su : Nat), qsg wL_singer.2.1 13 wL_singer.2.2.1 false pc sg = true → wpN g 13 (d + 1) mc ms (some .int) _ thr run sg pc L st h cu su → run pc L st h cu su) ∧ True := ⟨st9, trivial⟩
  have kx : ∀ (E : String) (h9 : qH), PX E h9 → thr 5 [(0, .ref 0), (1, .int p0), (2, .int p1), (3, .ref 92)] E h9 (0 + mc) (0 + ms) := by
    intro E h9 hx
    obtain ⟨k, hk, rfl⟩ := hX E h9 hx
    rcases hk with rfl | rfl
    · refine catch9 [] [(0, 10, 17, 13)] (0, 10, 13, 31) 0 4 2 _ _ _ _ _ rfl (fun z hz => absurd hz List.not_mem_nil) (by decide) ⟨by decide, by decide⟩ (by decide) clk_0 (Or.inl ⟨by decide +kernel, rfl⟩) (by decide) rfl ?_
      refine step.1 _ _ _ _ _ _ _ sgL_singer_15_ok ?_
      refine ⟨.int, rfl, rfl, (by omega), (by omega), ?_⟩
      exact Or.inr ⟨0, Or.inl rfl, hx, rfl⟩
    · refine catch9 [(0, 10, 13, 31)] [] (0, 10, 17, 13) 1 4 2 _ _ _ _ _ rfl (fun z hz => by
          simp only [List.mem_cons, List.not_mem_nil, or_false] at hz
          rcases hz with rfl
          · exact ⟨by decide, 0, by decide, by decide, clk_0⟩) (by decide) ⟨by decide, by decide⟩ (by decide) clk_1 (Or.inl ⟨by decide +kernel, rfl⟩) (by decide) rfl ?_
      refine step.1 _ _ _ _ _ _ _ sgL_singer_19_ok ?_
      refine ⟨.int, rfl, rfl, (by omega), (by omega), ?_⟩
      exact Or.inr ⟨1, Or.inr rfl, hx, rfl⟩
  refine step.1 _ _ _ _ _ _ _ sgL_singer_0_ok ?_
  refine Or.inr ⟨rfl, _, d, mc, ms, _, _, _, _, qi_13_33, ⟨rfl, rfl⟩, ⟨h0, rfl⟩, (qnum_rec (by omega) (by omega) (by omega) rfl), rfl, hF, fun y5 h5 hy5 => ?_, fun E h9 hx => kx E h9 hx⟩
  obtain ⟨⟨z, rfl⟩, hu⟩ := hP y5 h5 hy5
  refine ⟨_, _, hu, vp_in_nI (n := 0) (by decide) (by decide), ?_⟩
  refine step.1 _ _ _ _ _ _ _ sgL_singer_21_ok ?_
  refine ⟨.int, rfl, rfl, (by omega), (by omega), ?_⟩
  exact Or.inl ⟨z, h5, hy5, rfl, rfl⟩
theorem W_line {g : qG} (hg : qOK g) (hT : qTHR g) (hC : qCAT g) {h : qH} {fs : List Value} (h0 : h.2 0 = some (.inl (11, fs))) {u : Nat → Int64} {d mc ms : Nat} {P : Option Value → qH → Prop} {PX : String → qH → Prop} {p0 p1 : Int32} (hF : qSpecX g d mc ms mX11_line [.ref 0, .int p0, .int p1] h P PX) (hP : ∀ v h1, P v h1 → (∃ z : Int32, v = some (.int z)) ∧ h1.2 92 = some (.inr (.inr (.inl (1, u))))) (hX : ∀ E h1, PX E h1 → ∃ k : Nat, (k = 0 ∨ k = 1) ∧ E = exN k) : qSpecW g (d + 1) mc ms wL_line [.ref 0, .int p0, .int p1, .ref 92] h (fun r h' => (∃ (z : Int32) (h1 : qH), P (some (.int z)) h1 ∧ r = some (.int 0) ∧ h' = (h1.1, qup h1.2 92 (.inr (.inr (.inl (1, vp_updL u 0 z.toInt64)))))) ∨ (∃ k : Nat, (k = 0 ∨ k = 1) ∧ PX (exN k) h' ∧ r = some (.int (nI (k + 1))))) := by
  refine qSpecW_run hg hT hC wL_line_ok rfl (Nat.le_of_ble_eq_true rfl) ?_
  intro run thr st9 catch9
  have step : (∀ (sg : List qEl) (pc : Nat) (L : List (Nat × Value)) (st : List Value) (h : qH) (cu su : Nat), qsg wL_line.2.1 13 wL_line.2.2.1 false pc sg = true → wpN g 13 (d + 1) mc ms (some .int) _ thr run sg pc L st h cu su → run pc L st h cu su) ∧ True := ⟨st9, trivial⟩
  have kx : ∀ (E : String) (h9 : qH), PX E h9 → thr 5 [(0, .ref 0), (1, .int p0), (2, .int p1), (3, .ref 92)] E h9 (0 + mc) (0 + ms) := by
    intro E h9 hx
    obtain ⟨k, hk, rfl⟩ := hX E h9 hx
    rcases hk with rfl | rfl
    · refine catch9 [] [(0, 10, 17, 13)] (0, 10, 13, 31) 0 4 2 _ _ _ _ _ rfl (fun z hz => absurd hz List.not_mem_nil) (by decide) ⟨by decide, by decide⟩ (by decide) clk_0 (Or.inl ⟨by decide +kernel, rfl⟩) (by decide) rfl ?_
      refine step.1 _ _ _ _ _ _ _ sgL_line_15_ok ?_
      refine ⟨.int, rfl, rfl, (by omega), (by omega), ?_⟩
      exact Or.inr ⟨0, Or.inl rfl, hx, rfl⟩
    · refine catch9 [(0, 10, 13, 31)] [] (0, 10, 17, 13) 1 4 2 _ _ _ _ _ rfl (fun z hz => by
          simp only [List.mem_cons, List.not_mem_nil, or_false] at hz
          rcases hz with rfl
          · exact ⟨by decide, 0, by decide, by decide, clk_0⟩) (by decide) ⟨by decide, by decide⟩ (by decide) clk_1 (Or.inl ⟨by decide +kernel, rfl⟩) (by decide) rfl ?_
      refine step.1 _ _ _ _ _ _ _ sgL_line_19_ok ?_
      refine ⟨.int, rfl, rfl, (by omega), (by omega), ?_⟩
      exact Or.inr ⟨1, Or.inr rfl, hx, rfl⟩
  refine step.1 _ _ _ _ _ _ _ sgL_line_0_ok ?_
  refine Or.inr ⟨rfl, _, d, mc, ms, _, _, _, _, qi_13_36, ⟨rfl, rfl⟩, ⟨h0, rfl⟩, (qnum_rec (by omega) (by omega) (by omega) rfl), rfl, hF, fun y5 h5 hy5 => ?_, fun E h9 hx => kx E h9 hx⟩
  obtain ⟨⟨z, rfl⟩, hu⟩ := hP y5 h5 hy5
  refine ⟨_, _, hu, vp_in_nI (n := 0) (by decide) (by decide), ?_⟩
  refine step.1 _ _ _ _ _ _ _ sgL_line_21_ok ?_
  refine ⟨.int, rfl, rfl, (by omega), (by omega), ?_⟩
  exact Or.inl ⟨z, h5, hy5, rfl, rfl⟩
theorem W_gives {g : qG} (hg : qOK g) (hT : qTHR g) (hC : qCAT g) {h : qH} {fs : List Value} (h0 : h.2 0 = some (.inl (11, fs))) {u : Nat → Int64} {d mc ms : Nat} {P : Option Value → qH → Prop} {PX : String → qH → Prop} {p0 p1 p2 : Int32} (hF : qSpecX g d mc ms mX11_gives [.ref 0, .int p0, .int p1, .int p2] h P PX) (hP : ∀ v h1, P v h1 → (∃ z : Int32, v = some (.int z)) ∧ h1.2 92 = some (.inr (.inr (.inl (1, u))))) (hX : ∀ E h1, PX E h1 → ∃ k : Nat, (k = 0 ∨ k = 1) ∧ E = exN k) : qSpecW g (d + 1) mc ms wL_gives [.ref 0, .int p0, .int p1, .int p2, .ref 92] h (fun r h' => (∃ (z : Int32) (h1 : qH), P (some (.int z)) h1 ∧ r = some (.int 0) ∧ h' = (h1.1, qup h1.2 92 (.inr (.inr (.inl (1, vp_updL u 0 z.toInt64)))))) ∨ (∃ k : Nat, (k = 0 ∨ k = 1) ∧ PX (exN k) h' ∧ r = some (.int (nI (k + 1))))) := by
  refine qSpecW_run hg hT hC wL_gives_ok rfl (Nat.le_of_ble_eq_true rfl) ?_
  intro run thr st9 catch9
  have step : (∀ (sg : List qEl) (pc : Nat) (L : List (Nat × Value)) (st : List Value) (h : qH) (cu su : Nat), qsg wL_gives.2.1 13 wL_gives.2.2.1 false pc sg = true → wpN g 13 (d + 1) mc ms (some .int) _ thr run sg pc L st h cu su → run pc L st h cu su) ∧ True := ⟨st9, trivial⟩
  have kx : ∀ (E : String) (h9 : qH), PX E h9 → thr 7 [(0, .ref 0), (1, .int p0), (2, .int p1), (3, .int p2), (4, .ref 92)] E h9 (0 + mc) (0 + ms) := by
    intro E h9 hx
    obtain ⟨k, hk, rfl⟩ := hX E h9 hx
    rcases hk with rfl | rfl
    · refine catch9 [] [(0, 12, 19, 13)] (0, 12, 15, 31) 0 5 2 _ _ _ _ _ rfl (fun z hz => absurd hz List.not_mem_nil) (by decide) ⟨by decide, by decide⟩ (by decide) clk_0 (Or.inl ⟨by decide +kernel, rfl⟩) (by decide) rfl ?_
      refine step.1 _ _ _ _ _ _ _ sgL_gives_17_ok ?_
      refine ⟨.int, rfl, rfl, (by omega), (by omega), ?_⟩
      exact Or.inr ⟨0, Or.inl rfl, hx, rfl⟩
    · refine catch9 [(0, 12, 15, 31)] [] (0, 12, 19, 13) 1 5 2 _ _ _ _ _ rfl (fun z hz => by
          simp only [List.mem_cons, List.not_mem_nil, or_false] at hz
          rcases hz with rfl
          · exact ⟨by decide, 0, by decide, by decide, clk_0⟩) (by decide) ⟨by decide, by decide⟩ (by decide) clk_1 (Or.inl ⟨by decide +kernel, rfl⟩) (by decide) rfl ?_
      refine step.1 _ _ _ _ _ _ _ sgL_gives_21_ok ?_
      refine ⟨.int, rfl, rfl, (by omega), (by omega), ?_⟩
      exact Or.inr ⟨1, Or.inr rfl, hx, rfl⟩
  refine step.1 _ _ _ _ _ _ _ sgL_gives_0_ok ?_
  refine Or.inr ⟨rfl, _, d, mc, ms, _, _, _, _, qi_13_39, ⟨rfl, rfl⟩, ⟨h0, rfl⟩, (qnum_rec (by omega) (by omega) (by omega) rfl), rfl, hF, fun y7 h7 hy7 => ?_, fun E h9 hx => kx E h9 hx⟩
  obtain ⟨⟨z, rfl⟩, hu⟩ := hP y7 h7 hy7
  refine ⟨_, _, hu, vp_in_nI (n := 0) (by decide) (by decide), ?_⟩
  refine step.1 _ _ _ _ _ _ _ sgL_gives_23_ok ?_
  refine ⟨.int, rfl, rfl, (by omega), (by omega), ?_⟩
  exact Or.inl ⟨z, h7, hy7, rfl, rfl⟩
theorem W_mean {g : qG} (hg : qOK g) (hT : qTHR g) (hC : qCAT g) {h : qH} {fs : List Value} (h0 : h.2 0 = some (.inl (11, fs))) {u : Nat → Int64} {d mc ms : Nat} {P : Option Value → qH → Prop} {PX : String → qH → Prop} {p0 p1 p2 p3 p4 : Int32} (hF : qSpecX g d mc ms mX11_mean [.ref 0, .int p0, .int p1, .int p2, .int p3, .int p4] h P PX) (hP : ∀ v h1, P v h1 → (∃ z : Int64, v = some (.long z)) ∧ h1.2 92 = some (.inr (.inr (.inl (1, u))))) (hX : ∀ E h1, PX E h1 → ∃ k : Nat, (k = 0 ∨ k = 1) ∧ E = exN k) : qSpecW g (d + 1) mc ms wL_mean [.ref 0, .int p0, .int p1, .int p2, .int p3, .int p4, .ref 92] h (fun r h' => (∃ (z : Int64) (h1 : qH), P (some (.long z)) h1 ∧ r = some (.int 0) ∧ h' = (h1.1, qup h1.2 92 (.inr (.inr (.inl (1, vp_updL u 0 z)))))) ∨ (∃ k : Nat, (k = 0 ∨ k = 1) ∧ PX (exN k) h' ∧ r = some (.int (nI (k + 1))))) := by
  refine qSpecW_run hg hT hC wL_mean_ok rfl (Nat.le_of_ble_eq_true rfl) ?_
  intro run thr st9 catch9
  have step : (∀ (sg : List qEl) (pc : Nat) (L : List (Nat × Value)) (st : List Value) (h : qH) (cu su : Nat), qsg wL_mean.2.1 13 wL_mean.2.2.1 false pc sg = true → wpN g 13 (d + 1) mc ms (some .int) _ thr run sg pc L st h cu su → run pc L st h cu su) ∧ True := ⟨st9, trivial⟩
  have kx : ∀ (E : String) (h9 : qH), PX E h9 → thr 11 [(0, .ref 0), (1, .int p0), (2, .int p1), (3, .int p2), (4, .int p3), (5, .int p4), (6, .ref 92)] E h9 (0 + mc) (0 + ms) := by
    intro E h9 hx
    obtain ⟨k, hk, rfl⟩ := hX E h9 hx
    rcases hk with rfl | rfl
    · refine catch9 [] [(0, 15, 22, 13)] (0, 15, 18, 31) 0 7 2 _ _ _ _ _ rfl (fun z hz => absurd hz List.not_mem_nil) (by decide) ⟨by decide, by decide⟩ (by decide) clk_0 (Or.inl ⟨by decide +kernel, rfl⟩) (by decide) rfl ?_
      refine step.1 _ _ _ _ _ _ _ sgL_mean_20_ok ?_
      refine ⟨.int, rfl, rfl, (by omega), (by omega), ?_⟩
      exact Or.inr ⟨0, Or.inl rfl, hx, rfl⟩
    · refine catch9 [(0, 15, 18, 31)] [] (0, 15, 22, 13) 1 7 2 _ _ _ _ _ rfl (fun z hz => by
          simp only [List.mem_cons, List.not_mem_nil, or_false] at hz
          rcases hz with rfl
          · exact ⟨by decide, 0, by decide, by decide, clk_0⟩) (by decide) ⟨by decide, by decide⟩ (by decide) clk_1 (Or.inl ⟨by decide +kernel, rfl⟩) (by decide) rfl ?_
      refine step.1 _ _ _ _ _ _ _ sgL_mean_24_ok ?_
      refine ⟨.int, rfl, rfl, (by omega), (by omega), ?_⟩
      exact Or.inr ⟨1, Or.inr rfl, hx, rfl⟩
  refine step.1 _ _ _ _ _ _ _ sgL_mean_0_ok ?_
  refine Or.inr ⟨rfl, _, d, mc, ms, _, _, _, _, qi_13_43, ⟨rfl, rfl⟩, ⟨h0, rfl⟩, (qnum_rec (by omega) (by omega) (by omega) rfl), rfl, hF, fun y11 h11 hy11 => ?_, fun E h9 hx => kx E h9 hx⟩
  obtain ⟨⟨z, rfl⟩, hu⟩ := hP y11 h11 hy11
  refine ⟨_, _, hu, vp_in_nI (n := 0) (by decide) (by decide), ?_⟩
  refine step.1 _ _ _ _ _ _ _ sgL_mean_26_ok ?_
  refine ⟨.int, rfl, rfl, (by omega), (by omega), ?_⟩
  exact Or.inl ⟨z, h11, hy11, rfl, rfl⟩
theorem W_planned {g : qG} (hg : qOK g) (hT : qTHR g) (hC : qCAT g) {h : qH} {fs : List Value} (h0 : h.2 0 = some (.inl (11, fs))) {u : Nat → Int64} {d mc ms : Nat} {P : Option Value → qH → Prop} {PX : String → qH → Prop} {p0 p1 : Int32} (hF : qSpecX g d mc ms mX11_planned [.ref 0, .int p0, .int p1] h P PX) (hP : ∀ v h1, P v h1 → (∃ z : Int64, v = some (.long z)) ∧ h1.2 92 = some (.inr (.inr (.inl (1, u))))) (hX : ∀ E h1, PX E h1 → ∃ k : Nat, (k = 1) ∧ E = exN k) : qSpecW g (d + 1) mc ms wL_planned [.ref 0, .int p0, .int p1, .ref 92] h (fun r h' => (∃ (z : Int64) (h1 : qH), P (some (.long z)) h1 ∧ r = some (.int 0) ∧ h' = (h1.1, qup h1.2 92 (.inr (.inr (.inl (1, vp_updL u 0 z)))))) ∨ (∃ k : Nat, (k = 1) ∧ PX (exN k) h' ∧ r = some (.int (1)))) := by
  refine qSpecW_run hg hT hC wL_planned_ok rfl (Nat.le_of_ble_eq_true rfl) ?_
  intro run thr st9 catch9
  have step : (∀ (sg : List qEl) (pc : Nat) (L : List (Nat × Value)) (st : List Value) (h : qH) (cu su : Nat), qsg wL_planned.2.1 13 wL_planned.2.2.1 false pc sg = true → wpN g 13 (d + 1) mc ms (some .int) _ thr run sg pc L st h cu su → run pc L st h cu su) ∧ True := ⟨st9, trivial⟩
  have kx : ∀ (E : String) (h9 : qH), PX E h9 → thr 5 [(0, .ref 0), (1, .int p0), (2, .int p1), (3, .ref 92)] E h9 (0 + mc) (0 + ms) := by
    intro E h9 hx
    obtain ⟨k, hk, rfl⟩ := hX E h9 hx
    subst hk
    refine catch9 [] [] (0, 9, 12, 13) 1 4 2 _ _ _ _ _ rfl (fun z hz => absurd hz List.not_mem_nil) (by decide) ⟨by decide, by decide⟩ (by decide) clk_1 (Or.inl ⟨by decide +kernel, rfl⟩) (by decide) rfl ?_
    refine step.1 _ _ _ _ _ _ _ sgL_planned_14_ok ?_
    refine ⟨.int, rfl, rfl, (by omega), (by omega), ?_⟩
    exact Or.inr ⟨1, rfl, hx, rfl⟩
  refine step.1 _ _ _ _ _ _ _ sgL_planned_0_ok ?_
  refine Or.inr ⟨rfl, _, d, mc, ms, _, _, _, _, qi_13_47, ⟨rfl, rfl⟩, ⟨h0, rfl⟩, (qnum_rec (by omega) (by omega) (by omega) rfl), rfl, hF, fun y5 h5 hy5 => ?_, fun E h9 hx => kx E h9 hx⟩
  obtain ⟨⟨z, rfl⟩, hu⟩ := hP y5 h5 hy5
  refine ⟨_, _, hu, vp_in_nI (n := 0) (by decide) (by decide), ?_⟩
  refine step.1 _ _ _ _ _ _ _ sgL_planned_16_ok ?_
  refine ⟨.int, rfl, rfl, (by omega), (by omega), ?_⟩
  exact Or.inl ⟨z, h5, hy5, rfl, rfl⟩
theorem W_best {g : qG} (hg : qOK g) (hT : qTHR g) (hC : qCAT g) {h : qH} {fs : List Value} (h0 : h.2 0 = some (.inl (11, fs))) {u : Nat → Int64} {d mc ms : Nat} {P : Option Value → qH → Prop} {PX : String → qH → Prop} {p0 p1 : Int32} (hF : qSpecX g d mc ms mX11_best [.ref 0, .int p0, .int p1] h P PX) (hP : ∀ v h1, P v h1 → (∃ z : Int64, v = some (.long z)) ∧ h1.2 92 = some (.inr (.inr (.inl (1, u))))) (hX : ∀ E h1, PX E h1 → ∃ k : Nat, (k = 1 ∨ k = 2) ∧ E = exN k) : qSpecW g (d + 1) mc ms wL_best [.ref 0, .int p0, .int p1, .ref 92] h (fun r h' => (∃ (z : Int64) (h1 : qH), P (some (.long z)) h1 ∧ r = some (.int 0) ∧ h' = (h1.1, qup h1.2 92 (.inr (.inr (.inl (1, vp_updL u 0 z)))))) ∨ (∃ k : Nat, (k = 1 ∨ k = 2) ∧ PX (exN k) h' ∧ r = some (.int (nI k)))) := by
  refine qSpecW_run hg hT hC wL_best_ok rfl (Nat.le_of_ble_eq_true rfl) ?_
  intro run thr st9 catch9
  have step : (∀ (sg : List qEl) (pc : Nat) (L : List (Nat × Value)) (st : List Value) (h : qH) (cu su : Nat), qsg wL_best.2.1 13 wL_best.2.2.1 false pc sg = true → wpN g 13 (d + 1) mc ms (some .int) _ thr run sg pc L st h cu su → run pc L st h cu su) ∧ True := ⟨st9, trivial⟩
  have kx : ∀ (E : String) (h9 : qH), PX E h9 → thr 5 [(0, .ref 0), (1, .int p0), (2, .int p1), (3, .ref 92)] E h9 (0 + mc) (0 + ms) := by
    intro E h9 hx
    obtain ⟨k, hk, rfl⟩ := hX E h9 hx
    rcases hk with rfl | rfl
    · refine catch9 [] [(0, 9, 16, 54)] (0, 9, 12, 13) 1 4 2 _ _ _ _ _ rfl (fun z hz => absurd hz List.not_mem_nil) (by decide) ⟨by decide, by decide⟩ (by decide) clk_1 (Or.inl ⟨by decide +kernel, rfl⟩) (by decide) rfl ?_
      refine step.1 _ _ _ _ _ _ _ sgL_best_14_ok ?_
      refine ⟨.int, rfl, rfl, (by omega), (by omega), ?_⟩
      exact Or.inr ⟨1, Or.inl rfl, hx, rfl⟩
    · refine catch9 [(0, 9, 12, 13)] [] (0, 9, 16, 54) 2 4 2 _ _ _ _ _ rfl (fun z hz => by
          simp only [List.mem_cons, List.not_mem_nil, or_false] at hz
          rcases hz with rfl
          · exact ⟨by decide, 1, by decide, by decide, clk_1⟩) (by decide) ⟨by decide, by decide⟩ (by decide) clk_2 (Or.inl ⟨by decide +kernel, rfl⟩) (by decide) rfl ?_
      refine step.1 _ _ _ _ _ _ _ sgL_best_18_ok ?_
      refine ⟨.int, rfl, rfl, (by omega), (by omega), ?_⟩
      exact Or.inr ⟨2, Or.inr rfl, hx, rfl⟩
  refine step.1 _ _ _ _ _ _ _ sgL_best_0_ok ?_
  refine Or.inr ⟨rfl, _, d, mc, ms, _, _, _, _, qi_13_51, ⟨rfl, rfl⟩, ⟨h0, rfl⟩, (qnum_rec (by omega) (by omega) (by omega) rfl), rfl, hF, fun y5 h5 hy5 => ?_, fun E h9 hx => kx E h9 hx⟩
  obtain ⟨⟨z, rfl⟩, hu⟩ := hP y5 h5 hy5
  refine ⟨_, _, hu, vp_in_nI (n := 0) (by decide) (by decide), ?_⟩
  refine step.1 _ _ _ _ _ _ _ sgL_best_20_ok ?_
  refine ⟨.int, rfl, rfl, (by omega), (by omega), ?_⟩
  exact Or.inl ⟨z, h5, hy5, rfl, rfl⟩
theorem W_bestAt {g : qG} (hg : qOK g) (hT : qTHR g) (hC : qCAT g) {h : qH} {fs : List Value} (h0 : h.2 0 = some (.inl (11, fs))) {u : Nat → Int64} {d mc ms : Nat} {P : Option Value → qH → Prop} {PX : String → qH → Prop} {p0 p1 : Int32} (hF : qSpecX g d mc ms mX11_bestAt [.ref 0, .int p0, .int p1] h P PX) (hP : ∀ v h1, P v h1 → (∃ z : Int32, v = some (.int z)) ∧ h1.2 92 = some (.inr (.inr (.inl (1, u))))) (hX : ∀ E h1, PX E h1 → ∃ k : Nat, (k = 0 ∨ k = 1 ∨ k = 2) ∧ E = exN k) : qSpecW g (d + 1) mc ms wL_bestAt [.ref 0, .int p0, .int p1, .ref 92] h (fun r h' => (∃ (z : Int32) (h1 : qH), P (some (.int z)) h1 ∧ r = some (.int 0) ∧ h' = (h1.1, qup h1.2 92 (.inr (.inr (.inl (1, vp_updL u 0 z.toInt64)))))) ∨ (∃ k : Nat, (k = 0 ∨ k = 1 ∨ k = 2) ∧ PX (exN k) h' ∧ r = some (.int (nI (k + 1))))) := by
  refine qSpecW_run hg hT hC wL_bestAt_ok rfl (Nat.le_of_ble_eq_true rfl) ?_
  intro run thr st9 catch9
  have step : (∀ (sg : List qEl) (pc : Nat) (L : List (Nat × Value)) (st : List Value) (h : qH) (cu su : Nat), qsg wL_bestAt.2.1 13 wL_bestAt.2.2.1 false pc sg = true → wpN g 13 (d + 1) mc ms (some .int) _ thr run sg pc L st h cu su → run pc L st h cu su) ∧ True := ⟨st9, trivial⟩
  have kx : ∀ (E : String) (h9 : qH), PX E h9 → thr 5 [(0, .ref 0), (1, .int p0), (2, .int p1), (3, .ref 92)] E h9 (0 + mc) (0 + ms) := by
    intro E h9 hx
    obtain ⟨k, hk, rfl⟩ := hX E h9 hx
    rcases hk with rfl | rfl | rfl
    · refine catch9 [] [(0, 10, 17, 13), (0, 10, 21, 54)] (0, 10, 13, 31) 0 4 2 _ _ _ _ _ rfl (fun z hz => absurd hz List.not_mem_nil) (by decide) ⟨by decide, by decide⟩ (by decide) clk_0 (Or.inl ⟨by decide +kernel, rfl⟩) (by decide) rfl ?_
      refine step.1 _ _ _ _ _ _ _ sgL_bestAt_15_ok ?_
      refine ⟨.int, rfl, rfl, (by omega), (by omega), ?_⟩
      exact Or.inr ⟨0, Or.inl rfl, hx, rfl⟩
    · refine catch9 [(0, 10, 13, 31)] [(0, 10, 21, 54)] (0, 10, 17, 13) 1 4 2 _ _ _ _ _ rfl (fun z hz => by
          simp only [List.mem_cons, List.not_mem_nil, or_false] at hz
          rcases hz with rfl
          · exact ⟨by decide, 0, by decide, by decide, clk_0⟩) (by decide) ⟨by decide, by decide⟩ (by decide) clk_1 (Or.inl ⟨by decide +kernel, rfl⟩) (by decide) rfl ?_
      refine step.1 _ _ _ _ _ _ _ sgL_bestAt_19_ok ?_
      refine ⟨.int, rfl, rfl, (by omega), (by omega), ?_⟩
      exact Or.inr ⟨1, Or.inr (Or.inl rfl), hx, rfl⟩
    · refine catch9 [(0, 10, 13, 31), (0, 10, 17, 13)] [] (0, 10, 21, 54) 2 4 2 _ _ _ _ _ rfl (fun z hz => by
          simp only [List.mem_cons, List.not_mem_nil, or_false] at hz
          rcases hz with rfl | rfl
          · exact ⟨by decide, 0, by decide, by decide, clk_0⟩
          · exact ⟨by decide, 1, by decide, by decide, clk_1⟩) (by decide) ⟨by decide, by decide⟩ (by decide) clk_2 (Or.inl ⟨by decide +kernel, rfl⟩) (by decide) rfl ?_
      refine step.1 _ _ _ _ _ _ _ sgL_bestAt_23_ok ?_
      refine ⟨.int, rfl, rfl, (by omega), (by omega), ?_⟩
      exact Or.inr ⟨2, Or.inr (Or.inr rfl), hx, rfl⟩
  refine step.1 _ _ _ _ _ _ _ sgL_bestAt_0_ok ?_
  refine Or.inr ⟨rfl, _, d, mc, ms, _, _, _, _, qi_13_56, ⟨rfl, rfl⟩, ⟨h0, rfl⟩, (qnum_rec (by omega) (by omega) (by omega) rfl), rfl, hF, fun y5 h5 hy5 => ?_, fun E h9 hx => kx E h9 hx⟩
  obtain ⟨⟨z, rfl⟩, hu⟩ := hP y5 h5 hy5
  refine ⟨_, _, hu, vp_in_nI (n := 0) (by decide) (by decide), ?_⟩
  refine step.1 _ _ _ _ _ _ _ sgL_bestAt_25_ok ?_
  refine ⟨.int, rfl, rfl, (by omega), (by omega), ?_⟩
  exact Or.inl ⟨z, h5, hy5, rfl, rfl⟩
theorem W_bestLong {g : qG} (hg : qOK g) (hT : qTHR g) (hC : qCAT g) {h : qH} {fs : List Value} (h0 : h.2 0 = some (.inl (11, fs))) {u : Nat → Int64} {d mc ms : Nat} {P : Option Value → qH → Prop} {PX : String → qH → Prop} {p0 : Int32} (hF : qSpecX g d mc ms mX11_bestLong [.ref 0, .int p0] h P PX) (hP : ∀ v h1, P v h1 → (∃ z : Int32, v = some (.int z)) ∧ h1.2 92 = some (.inr (.inr (.inl (1, u))))) (hX : ∀ E h1, PX E h1 → ∃ k : Nat, (k = 1 ∨ k = 2) ∧ E = exN k) : qSpecW g (d + 1) mc ms wL_bestLong [.ref 0, .int p0, .ref 92] h (fun r h' => (∃ (z : Int32) (h1 : qH), P (some (.int z)) h1 ∧ r = some (.int 0) ∧ h' = (h1.1, qup h1.2 92 (.inr (.inr (.inl (1, vp_updL u 0 z.toInt64)))))) ∨ (∃ k : Nat, (k = 1 ∨ k = 2) ∧ PX (exN k) h' ∧ r = some (.int (nI k)))) := by
  refine qSpecW_run hg hT hC wL_bestLong_ok rfl (Nat.le_of_ble_eq_true rfl) ?_
  intro run thr st9 catch9
  have step : (∀ (sg : List qEl) (pc : Nat) (L : List (Nat × Value)) (st : List Value) (h : qH) (cu su : Nat), qsg wL_bestLong.2.1 13 wL_bestLong.2.2.1 false pc sg = true → wpN g 13 (d + 1) mc ms (some .int) _ thr run sg pc L st h cu su → run pc L st h cu su) ∧ True := ⟨st9, trivial⟩
  have kx : ∀ (E : String) (h9 : qH), PX E h9 → thr 4 [(0, .ref 0), (1, .int p0), (2, .ref 92)] E h9 (0 + mc) (0 + ms) := by
    intro E h9 hx
    obtain ⟨k, hk, rfl⟩ := hX E h9 hx
    rcases hk with rfl | rfl
    · refine catch9 [] [(0, 9, 15, 54)] (0, 9, 12, 13) 1 3 1 _ _ _ _ _ rfl (fun z hz => absurd hz List.not_mem_nil) (by decide) ⟨by decide, by decide⟩ (by decide) clk_1 (Or.inr ⟨3, rfl, by decide +kernel, rfl⟩) (by decide) rfl ?_
      refine step.1 _ _ _ _ _ _ _ sgL_bestLong_13_ok ?_
      refine ⟨.int, rfl, rfl, (by omega), (by omega), ?_⟩
      exact Or.inr ⟨1, Or.inl rfl, hx, rfl⟩
    · refine catch9 [(0, 9, 12, 13)] [] (0, 9, 15, 54) 2 3 1 _ _ _ _ _ rfl (fun z hz => by
          simp only [List.mem_cons, List.not_mem_nil, or_false] at hz
          rcases hz with rfl
          · exact ⟨by decide, 1, by decide, by decide, clk_1⟩) (by decide) ⟨by decide, by decide⟩ (by decide) clk_2 (Or.inr ⟨3, rfl, by decide +kernel, rfl⟩) (by decide) rfl ?_
      refine step.1 _ _ _ _ _ _ _ sgL_bestLong_16_ok ?_
      refine ⟨.int, rfl, rfl, (by omega), (by omega), ?_⟩
      exact Or.inr ⟨2, Or.inr rfl, hx, rfl⟩
  refine step.1 _ _ _ _ _ _ _ sgL_bestLong_0_ok ?_
  refine Or.inr ⟨rfl, _, d, mc, ms, _, _, _, _, qi_13_59, ⟨rfl, rfl⟩, ⟨h0, rfl⟩, (qnum_rec (by omega) (by omega) (by omega) rfl), rfl, hF, fun y4 h4 hy4 => ?_, fun E h9 hx => kx E h9 hx⟩
  obtain ⟨⟨z, rfl⟩, hu⟩ := hP y4 h4 hy4
  refine ⟨_, _, hu, vp_in_nI (n := 0) (by decide) (by decide), ?_⟩
  refine step.1 _ _ _ _ _ _ _ sgL_bestLong_18_ok ?_
  refine ⟨.int, rfl, rfl, (by omega), (by omega), ?_⟩
  exact Or.inl ⟨z, h4, hy4, rfl, rfl⟩
theorem W_home {g : qG} (hg : qOK g) (hT : qTHR g) (hC : qCAT g) {h : qH} {fs : List Value} (h0 : h.2 0 = some (.inl (11, fs))) {u : Nat → Int64} {d mc ms : Nat} {P : Option Value → qH → Prop} {PX : String → qH → Prop} {p0 p1 p2 p3 : Int32} (hF : qSpecX g d mc ms mX11_home [.ref 0, .int p0, .int p1, .int p2, .int p3] h P PX) (hP : ∀ v h1, P v h1 → (∃ z : Int64, v = some (.long z)) ∧ h1.2 92 = some (.inr (.inr (.inl (1, u))))) (hX : ∀ E h1, PX E h1 → ∃ k : Nat, (k = 0 ∨ k = 1) ∧ E = exN k) : qSpecW g (d + 1) mc ms wL_home [.ref 0, .int p0, .int p1, .int p2, .int p3, .ref 92] h (fun r h' => (∃ (z : Int64) (h1 : qH), P (some (.long z)) h1 ∧ r = some (.int 0) ∧ h' = (h1.1, qup h1.2 92 (.inr (.inr (.inl (1, vp_updL u 0 z)))))) ∨ (∃ k : Nat, (k = 0 ∨ k = 1) ∧ PX (exN k) h' ∧ r = some (.int (nI (k + 1))))) := by
  refine qSpecW_run hg hT hC wL_home_ok rfl (Nat.le_of_ble_eq_true rfl) ?_
  intro run thr st9 catch9
  have step : (∀ (sg : List qEl) (pc : Nat) (L : List (Nat × Value)) (st : List Value) (h : qH) (cu su : Nat), qsg wL_home.2.1 13 wL_home.2.2.1 false pc sg = true → wpN g 13 (d + 1) mc ms (some .int) _ thr run sg pc L st h cu su → run pc L st h cu su) ∧ True := ⟨st9, trivial⟩
  have kx : ∀ (E : String) (h9 : qH), PX E h9 → thr 9 [(0, .ref 0), (1, .int p0), (2, .int p1), (3, .int p2), (4, .int p3), (5, .ref 92)] E h9 (0 + mc) (0 + ms) := by
    intro E h9 hx
    obtain ⟨k, hk, rfl⟩ := hX E h9 hx
    rcases hk with rfl | rfl
    · refine catch9 [] [(0, 13, 20, 13)] (0, 13, 16, 31) 0 6 2 _ _ _ _ _ rfl (fun z hz => absurd hz List.not_mem_nil) (by decide) ⟨by decide, by decide⟩ (by decide) clk_0 (Or.inl ⟨by decide +kernel, rfl⟩) (by decide) rfl ?_
      refine step.1 _ _ _ _ _ _ _ sgL_home_18_ok ?_
      refine ⟨.int, rfl, rfl, (by omega), (by omega), ?_⟩
      exact Or.inr ⟨0, Or.inl rfl, hx, rfl⟩
    · refine catch9 [(0, 13, 16, 31)] [] (0, 13, 20, 13) 1 6 2 _ _ _ _ _ rfl (fun z hz => by
          simp only [List.mem_cons, List.not_mem_nil, or_false] at hz
          rcases hz with rfl
          · exact ⟨by decide, 0, by decide, by decide, clk_0⟩) (by decide) ⟨by decide, by decide⟩ (by decide) clk_1 (Or.inl ⟨by decide +kernel, rfl⟩) (by decide) rfl ?_
      refine step.1 _ _ _ _ _ _ _ sgL_home_22_ok ?_
      refine ⟨.int, rfl, rfl, (by omega), (by omega), ?_⟩
      exact Or.inr ⟨1, Or.inr rfl, hx, rfl⟩
  refine step.1 _ _ _ _ _ _ _ sgL_home_0_ok ?_
  refine Or.inr ⟨rfl, _, d, mc, ms, _, _, _, _, qi_13_62, ⟨rfl, rfl⟩, ⟨h0, rfl⟩, (qnum_rec (by omega) (by omega) (by omega) rfl), rfl, hF, fun y9 h9 hy9 => ?_, fun E h9 hx => kx E h9 hx⟩
  obtain ⟨⟨z, rfl⟩, hu⟩ := hP y9 h9 hy9
  refine ⟨_, _, hu, vp_in_nI (n := 0) (by decide) (by decide), ?_⟩
  refine step.1 _ _ _ _ _ _ _ sgL_home_24_ok ?_
  refine ⟨.int, rfl, rfl, (by omega), (by omega), ?_⟩
  exact Or.inl ⟨z, h9, hy9, rfl, rfl⟩
theorem W_another {g : qG} (hg : qOK g) (hT : qTHR g) (hC : qCAT g) {h : qH} {fs : List Value} (h0 : h.2 0 = some (.inl (11, fs))) {u : Nat → Int64} {d mc ms : Nat} {P : Option Value → qH → Prop} {PX : String → qH → Prop} {p0 p1 p2 p3 : Int32} (hF : qSpecX g d mc ms mX11_another [.ref 0, .int p0, .int p1, .int p2, .int p3] h P PX) (hP : ∀ v h1, P v h1 → (∃ z : Int64, v = some (.long z)) ∧ h1.2 92 = some (.inr (.inr (.inl (1, u))))) (hX : ∀ E h1, PX E h1 → ∃ k : Nat, (k = 0 ∨ k = 1) ∧ E = exN k) : qSpecW g (d + 1) mc ms wL_another [.ref 0, .int p0, .int p1, .int p2, .int p3, .ref 92] h (fun r h' => (∃ (z : Int64) (h1 : qH), P (some (.long z)) h1 ∧ r = some (.int 0) ∧ h' = (h1.1, qup h1.2 92 (.inr (.inr (.inl (1, vp_updL u 0 z)))))) ∨ (∃ k : Nat, (k = 0 ∨ k = 1) ∧ PX (exN k) h' ∧ r = some (.int (nI (k + 1))))) := by
  refine qSpecW_run hg hT hC wL_another_ok rfl (Nat.le_of_ble_eq_true rfl) ?_
  intro run thr st9 catch9
  have step : (∀ (sg : List qEl) (pc : Nat) (L : List (Nat × Value)) (st : List Value) (h : qH) (cu su : Nat), qsg wL_another.2.1 13 wL_another.2.2.1 false pc sg = true → wpN g 13 (d + 1) mc ms (some .int) _ thr run sg pc L st h cu su → run pc L st h cu su) ∧ True := ⟨st9, trivial⟩
  have kx : ∀ (E : String) (h9 : qH), PX E h9 → thr 9 [(0, .ref 0), (1, .int p0), (2, .int p1), (3, .int p2), (4, .int p3), (5, .ref 92)] E h9 (0 + mc) (0 + ms) := by
    intro E h9 hx
    obtain ⟨k, hk, rfl⟩ := hX E h9 hx
    rcases hk with rfl | rfl
    · refine catch9 [] [(0, 13, 20, 13)] (0, 13, 16, 31) 0 6 2 _ _ _ _ _ rfl (fun z hz => absurd hz List.not_mem_nil) (by decide) ⟨by decide, by decide⟩ (by decide) clk_0 (Or.inl ⟨by decide +kernel, rfl⟩) (by decide) rfl ?_
      refine step.1 _ _ _ _ _ _ _ sgL_another_18_ok ?_
      refine ⟨.int, rfl, rfl, (by omega), (by omega), ?_⟩
      exact Or.inr ⟨0, Or.inl rfl, hx, rfl⟩
    · refine catch9 [(0, 13, 16, 31)] [] (0, 13, 20, 13) 1 6 2 _ _ _ _ _ rfl (fun z hz => by
          simp only [List.mem_cons, List.not_mem_nil, or_false] at hz
          rcases hz with rfl
          · exact ⟨by decide, 0, by decide, by decide, clk_0⟩) (by decide) ⟨by decide, by decide⟩ (by decide) clk_1 (Or.inl ⟨by decide +kernel, rfl⟩) (by decide) rfl ?_
      refine step.1 _ _ _ _ _ _ _ sgL_another_22_ok ?_
      refine ⟨.int, rfl, rfl, (by omega), (by omega), ?_⟩
      exact Or.inr ⟨1, Or.inr rfl, hx, rfl⟩
  refine step.1 _ _ _ _ _ _ _ sgL_another_0_ok ?_
  refine Or.inr ⟨rfl, _, d, mc, ms, _, _, _, _, qi_13_66, ⟨rfl, rfl⟩, ⟨h0, rfl⟩, (qnum_rec (by omega) (by omega) (by omega) rfl), rfl, hF, fun y9 h9 hy9 => ?_, fun E h9 hx => kx E h9 hx⟩
  obtain ⟨⟨z, rfl⟩, hu⟩ := hP y9 h9 hy9
  refine ⟨_, _, hu, vp_in_nI (n := 0) (by decide) (by decide), ?_⟩
  refine step.1 _ _ _ _ _ _ _ sgL_another_24_ok ?_
  refine ⟨.int, rfl, rfl, (by omega), (by omega), ?_⟩
  exact Or.inl ⟨z, h9, hy9, rfl, rfl⟩
theorem W_lineAt {g : qG} (hg : qOK g) (hT : qTHR g) (hC : qCAT g) {h : qH} {fs : List Value} (h0 : h.2 0 = some (.inl (11, fs))) {u : Nat → Int64} {d mc ms : Nat} {P : Option Value → qH → Prop} {PX : String → qH → Prop} {p0 p1 p2 : Int32} (hF : qSpecX g d mc ms mX11_lineAt [.ref 0, .int p0, .int p1, .int p2] h P PX) (hP : ∀ v h1, P v h1 → (∃ z : Int32, v = some (.int z)) ∧ h1.2 92 = some (.inr (.inr (.inl (1, u))))) (hX : ∀ E h1, PX E h1 → ∃ k : Nat, (k = 0 ∨ k = 1) ∧ E = exN k) : qSpecW g (d + 1) mc ms wL_lineAt [.ref 0, .int p0, .int p1, .int p2, .ref 92] h (fun r h' => (∃ (z : Int32) (h1 : qH), P (some (.int z)) h1 ∧ r = some (.int 0) ∧ h' = (h1.1, qup h1.2 92 (.inr (.inr (.inl (1, vp_updL u 0 z.toInt64)))))) ∨ (∃ k : Nat, (k = 0 ∨ k = 1) ∧ PX (exN k) h' ∧ r = some (.int (nI (k + 1))))) := by
  refine qSpecW_run hg hT hC wL_lineAt_ok rfl (Nat.le_of_ble_eq_true rfl) ?_
  intro run thr st9 catch9
  have step : (∀ (sg : List qEl) (pc : Nat) (L : List (Nat × Value)) (st : List Value) (h : qH) (cu su : Nat), qsg wL_lineAt.2.1 13 wL_lineAt.2.2.1 false pc sg = true → wpN g 13 (d + 1) mc ms (some .int) _ thr run sg pc L st h cu su → run pc L st h cu su) ∧ True := ⟨st9, trivial⟩
  have kx : ∀ (E : String) (h9 : qH), PX E h9 → thr 7 [(0, .ref 0), (1, .int p0), (2, .int p1), (3, .int p2), (4, .ref 92)] E h9 (0 + mc) (0 + ms) := by
    intro E h9 hx
    obtain ⟨k, hk, rfl⟩ := hX E h9 hx
    rcases hk with rfl | rfl
    · refine catch9 [] [(0, 12, 19, 13)] (0, 12, 15, 31) 0 5 2 _ _ _ _ _ rfl (fun z hz => absurd hz List.not_mem_nil) (by decide) ⟨by decide, by decide⟩ (by decide) clk_0 (Or.inl ⟨by decide +kernel, rfl⟩) (by decide) rfl ?_
      refine step.1 _ _ _ _ _ _ _ sgL_lineAt_17_ok ?_
      refine ⟨.int, rfl, rfl, (by omega), (by omega), ?_⟩
      exact Or.inr ⟨0, Or.inl rfl, hx, rfl⟩
    · refine catch9 [(0, 12, 15, 31)] [] (0, 12, 19, 13) 1 5 2 _ _ _ _ _ rfl (fun z hz => by
          simp only [List.mem_cons, List.not_mem_nil, or_false] at hz
          rcases hz with rfl
          · exact ⟨by decide, 0, by decide, by decide, clk_0⟩) (by decide) ⟨by decide, by decide⟩ (by decide) clk_1 (Or.inl ⟨by decide +kernel, rfl⟩) (by decide) rfl ?_
      refine step.1 _ _ _ _ _ _ _ sgL_lineAt_21_ok ?_
      refine ⟨.int, rfl, rfl, (by omega), (by omega), ?_⟩
      exact Or.inr ⟨1, Or.inr rfl, hx, rfl⟩
  refine step.1 _ _ _ _ _ _ _ sgL_lineAt_0_ok ?_
  refine Or.inr ⟨rfl, _, d, mc, ms, _, _, _, _, qi_13_69, ⟨rfl, rfl⟩, ⟨h0, rfl⟩, (qnum_rec (by omega) (by omega) (by omega) rfl), rfl, hF, fun y7 h7 hy7 => ?_, fun E h9 hx => kx E h9 hx⟩
  obtain ⟨⟨z, rfl⟩, hu⟩ := hP y7 h7 hy7
  refine ⟨_, _, hu, vp_in_nI (n := 0) (by decide) (by decide), ?_⟩
  refine step.1 _ _ _ _ _ _ _ sgL_lineAt_23_ok ?_
  refine ⟨.int, rfl, rfl, (by omega), (by omega), ?_⟩
  exact Or.inl ⟨z, h7, hy7, rfl, rfl⟩
theorem W_ring {g : qG} (hg : qOK g) (hT : qTHR g) (hC : qCAT g) {h : qH} {fs : List Value} (h0 : h.2 0 = some (.inl (11, fs))) {u : Nat → Int64} {d mc ms : Nat} {P : Option Value → qH → Prop} {PX : String → qH → Prop} {p0 p1 : Int32} (hF : qSpecX g d mc ms mX11_ring [.ref 0, .int p0, .int p1] h P PX) (hP : ∀ v h1, P v h1 → (∃ z : Int32, v = some (.int z)) ∧ h1.2 92 = some (.inr (.inr (.inl (1, u))))) (hX : ∀ E h1, PX E h1 → ∃ k : Nat, (k = 0 ∨ k = 1) ∧ E = exN k) : qSpecW g (d + 1) mc ms wL_ring [.ref 0, .int p0, .int p1, .ref 92] h (fun r h' => (∃ (z : Int32) (h1 : qH), P (some (.int z)) h1 ∧ r = some (.int 0) ∧ h' = (h1.1, qup h1.2 92 (.inr (.inr (.inl (1, vp_updL u 0 z.toInt64)))))) ∨ (∃ k : Nat, (k = 0 ∨ k = 1) ∧ PX (exN k) h' ∧ r = some (.int (nI (k + 1))))) := by
  refine qSpecW_run hg hT hC wL_ring_ok rfl (Nat.le_of_ble_eq_true rfl) ?_
  intro run thr st9 catch9
  have step : (∀ (sg : List qEl) (pc : Nat) (L : List (Nat × Value)) (st : List Value) (h : qH) (cu su : Nat), qsg wL_ring.2.1 13 wL_ring.2.2.1 false pc sg = true → wpN g 13 (d + 1) mc ms (some .int) _ thr run sg pc L st h cu su → run pc L st h cu su) ∧ True := ⟨st9, trivial⟩
  have kx : ∀ (E : String) (h9 : qH), PX E h9 → thr 5 [(0, .ref 0), (1, .int p0), (2, .int p1), (3, .ref 92)] E h9 (0 + mc) (0 + ms) := by
    intro E h9 hx
    obtain ⟨k, hk, rfl⟩ := hX E h9 hx
    rcases hk with rfl | rfl
    · refine catch9 [] [(0, 10, 17, 13)] (0, 10, 13, 31) 0 4 2 _ _ _ _ _ rfl (fun z hz => absurd hz List.not_mem_nil) (by decide) ⟨by decide, by decide⟩ (by decide) clk_0 (Or.inl ⟨by decide +kernel, rfl⟩) (by decide) rfl ?_
      refine step.1 _ _ _ _ _ _ _ sgL_ring_15_ok ?_
      refine ⟨.int, rfl, rfl, (by omega), (by omega), ?_⟩
      exact Or.inr ⟨0, Or.inl rfl, hx, rfl⟩
    · refine catch9 [(0, 10, 13, 31)] [] (0, 10, 17, 13) 1 4 2 _ _ _ _ _ rfl (fun z hz => by
          simp only [List.mem_cons, List.not_mem_nil, or_false] at hz
          rcases hz with rfl
          · exact ⟨by decide, 0, by decide, by decide, clk_0⟩) (by decide) ⟨by decide, by decide⟩ (by decide) clk_1 (Or.inl ⟨by decide +kernel, rfl⟩) (by decide) rfl ?_
      refine step.1 _ _ _ _ _ _ _ sgL_ring_19_ok ?_
      refine ⟨.int, rfl, rfl, (by omega), (by omega), ?_⟩
      exact Or.inr ⟨1, Or.inr rfl, hx, rfl⟩
  refine step.1 _ _ _ _ _ _ _ sgL_ring_0_ok ?_
  refine Or.inr ⟨rfl, _, d, mc, ms, _, _, _, _, qi_13_72, ⟨rfl, rfl⟩, ⟨h0, rfl⟩, (qnum_rec (by omega) (by omega) (by omega) rfl), rfl, hF, fun y5 h5 hy5 => ?_, fun E h9 hx => kx E h9 hx⟩
  obtain ⟨⟨z, rfl⟩, hu⟩ := hP y5 h5 hy5
  refine ⟨_, _, hu, vp_in_nI (n := 0) (by decide) (by decide), ?_⟩
  refine step.1 _ _ _ _ _ _ _ sgL_ring_21_ok ?_
  refine ⟨.int, rfl, rfl, (by omega), (by omega), ?_⟩
  exact Or.inl ⟨z, h5, hy5, rfl, rfl⟩
theorem W_pays {g : qG} (hg : qOK g) (hT : qTHR g) (hC : qCAT g) {h : qH} {fs : List Value} (h0 : h.2 0 = some (.inl (11, fs))) {u : Nat → Int64} {d mc ms : Nat} {P : Option Value → qH → Prop} {PX : String → qH → Prop} {p0 p1 p2 p3 : Int32} (hF : qSpecX g d mc ms mX11_pays [.ref 0, .int p0, .int p1, .int p2, .int p3] h P PX) (hP : ∀ v h1, P v h1 → (∃ b : Bool, v = some (.int (qb b))) ∧ h1.2 92 = some (.inr (.inr (.inl (1, u))))) (hX : ∀ E h1, PX E h1 → ∃ k : Nat, (k = 0 ∨ k = 1) ∧ E = exN k) : qSpecW g (d + 1) mc ms wL_pays [.ref 0, .int p0, .int p1, .int p2, .int p3, .ref 92] h (fun r h' => (∃ (b : Bool) (h1 : qH), P (some (.int (qb b))) h1 ∧ r = some (.int 0) ∧ h' = (h1.1, qup h1.2 92 (.inr (.inr (.inl (1, vp_updL u 0 (qb b).toInt64)))))) ∨ (∃ k : Nat, (k = 0 ∨ k = 1) ∧ PX (exN k) h' ∧ r = some (.int (nI (k + 1))))) := by
  refine qSpecW_run hg hT hC wL_pays_ok rfl (Nat.le_of_ble_eq_true rfl) ?_
  intro run thr st9 catch9
  have step : (∀ (sg : List qEl) (pc : Nat) (L : List (Nat × Value)) (st : List Value) (h : qH) (cu su : Nat), qsg wL_pays.2.1 13 wL_pays.2.2.1 false pc sg = true → wpN g 13 (d + 1) mc ms (some .int) _ thr run sg pc L st h cu su → run pc L st h cu su) ∧ True := ⟨st9, trivial⟩
  have kx : ∀ (E : String) (h9 : qH), PX E h9 → thr 9 [(0, .ref 0), (1, .int p0), (2, .int p1), (3, .int p2), (4, .int p3), (5, .ref 92)] E h9 (0 + mc) (0 + ms) := by
    intro E h9 hx
    obtain ⟨k, hk, rfl⟩ := hX E h9 hx
    rcases hk with rfl | rfl
    · refine catch9 [] [(0, 21, 28, 13)] (0, 21, 24, 31) 0 6 2 _ _ _ _ _ rfl (fun z hz => absurd hz List.not_mem_nil) (by decide) ⟨by decide, by decide⟩ (by decide) clk_0 (Or.inl ⟨by decide +kernel, rfl⟩) (by decide) rfl ?_
      refine step.1 _ _ _ _ _ _ _ sgL_pays_26_ok ?_
      refine ⟨.int, rfl, rfl, (by omega), (by omega), ?_⟩
      exact Or.inr ⟨0, Or.inl rfl, hx, rfl⟩
    · refine catch9 [(0, 21, 24, 31)] [] (0, 21, 28, 13) 1 6 2 _ _ _ _ _ rfl (fun z hz => by
          simp only [List.mem_cons, List.not_mem_nil, or_false] at hz
          rcases hz with rfl
          · exact ⟨by decide, 0, by decide, by decide, clk_0⟩) (by decide) ⟨by decide, by decide⟩ (by decide) clk_1 (Or.inl ⟨by decide +kernel, rfl⟩) (by decide) rfl ?_
      refine step.1 _ _ _ _ _ _ _ sgL_pays_30_ok ?_
      refine ⟨.int, rfl, rfl, (by omega), (by omega), ?_⟩
      exact Or.inr ⟨1, Or.inr rfl, hx, rfl⟩
  refine step.1 _ _ _ _ _ _ _ sgL_pays_0_ok ?_
  refine Or.inr ⟨rfl, _, d, mc, ms, _, _, _, _, qi_13_75, ⟨rfl, rfl⟩, ⟨h0, rfl⟩, (qnum_rec (by omega) (by omega) (by omega) rfl), rfl, hF, fun y9 h9 hy9 => ?_, fun E h9 hx => kx E h9 hx⟩
  obtain ⟨⟨b, rfl⟩, hu⟩ := hP y9 h9 hy9
  refine ⟨fun c12 => ?_, fun c12 => ?_⟩
  · have hb : b = false := qb_0.mp c12
    refine step.1 _ _ _ _ _ _ _ sgL_pays_19_ok ?_
    refine step.1 _ _ _ _ _ _ _ sgL_pays_20_ok ?_
    refine ⟨_, _, hu, vp_in_nI (n := 0) (by decide) (by decide), ?_⟩
    refine step.1 _ _ _ _ _ _ _ sgL_pays_32_ok ?_
    refine ⟨.int, rfl, rfl, (by omega), (by omega), ?_⟩
    subst hb
    exact Or.inl ⟨_, h9, hy9, rfl, rfl⟩
  · have hb : b = true := qb_1.mp c12
    refine step.1 _ _ _ _ _ _ _ sgL_pays_20_ok ?_
    refine ⟨_, _, hu, vp_in_nI (n := 0) (by decide) (by decide), ?_⟩
    refine step.1 _ _ _ _ _ _ _ sgL_pays_32_ok ?_
    refine ⟨.int, rfl, rfl, (by omega), (by omega), ?_⟩
    subst hb
    exact Or.inl ⟨_, h9, hy9, rfl, rfl⟩
theorem W_stop {g : qG} (hg : qOK g) (hT : qTHR g) (hC : qCAT g) {h : qH} {fs : List Value} (h0 : h.2 0 = some (.inl (11, fs))) {u : Nat → Int64} {d mc ms : Nat} {P : Option Value → qH → Prop} {PX : String → qH → Prop} {p0 : Int32} (hF : qSpecX g d mc ms mX11_stop [.ref 0, .int p0] h P PX) (hP : ∀ v h1, P v h1 → (∃ z : Int32, v = some (.int z)) ∧ h1.2 92 = some (.inr (.inr (.inl (1, u))))) (hX : ∀ E h1, PX E h1 → ∃ k : Nat, (k = 1) ∧ E = exN k) : qSpecW g (d + 1) mc ms wL_stop [.ref 0, .int p0, .ref 92] h (fun r h' => (∃ (z : Int32) (h1 : qH), P (some (.int z)) h1 ∧ r = some (.int 0) ∧ h' = (h1.1, qup h1.2 92 (.inr (.inr (.inl (1, vp_updL u 0 z.toInt64)))))) ∨ (∃ k : Nat, (k = 1) ∧ PX (exN k) h' ∧ r = some (.int (1)))) := by
  refine qSpecW_run hg hT hC wL_stop_ok rfl (Nat.le_of_ble_eq_true rfl) ?_
  intro run thr st9 catch9
  have step : (∀ (sg : List qEl) (pc : Nat) (L : List (Nat × Value)) (st : List Value) (h : qH) (cu su : Nat), qsg wL_stop.2.1 13 wL_stop.2.2.1 false pc sg = true → wpN g 13 (d + 1) mc ms (some .int) _ thr run sg pc L st h cu su → run pc L st h cu su) ∧ True := ⟨st9, trivial⟩
  have kx : ∀ (E : String) (h9 : qH), PX E h9 → thr 4 [(0, .ref 0), (1, .int p0), (2, .ref 92)] E h9 (0 + mc) (0 + ms) := by
    intro E h9 hx
    obtain ⟨k, hk, rfl⟩ := hX E h9 hx
    subst hk
    refine catch9 [] [] (0, 9, 12, 13) 1 3 1 _ _ _ _ _ rfl (fun z hz => absurd hz List.not_mem_nil) (by decide) ⟨by decide, by decide⟩ (by decide) clk_1 (Or.inr ⟨3, rfl, by decide +kernel, rfl⟩) (by decide) rfl ?_
    refine step.1 _ _ _ _ _ _ _ sgL_stop_13_ok ?_
    refine ⟨.int, rfl, rfl, (by omega), (by omega), ?_⟩
    exact Or.inr ⟨1, rfl, hx, rfl⟩
  refine step.1 _ _ _ _ _ _ _ sgL_stop_0_ok ?_
  refine Or.inr ⟨rfl, _, d, mc, ms, _, _, _, _, qi_13_79, ⟨rfl, rfl⟩, ⟨h0, rfl⟩, (qnum_rec (by omega) (by omega) (by omega) rfl), rfl, hF, fun y4 h4 hy4 => ?_, fun E h9 hx => kx E h9 hx⟩
  obtain ⟨⟨z, rfl⟩, hu⟩ := hP y4 h4 hy4
  refine ⟨_, _, hu, vp_in_nI (n := 0) (by decide) (by decide), ?_⟩
  refine step.1 _ _ _ _ _ _ _ sgL_stop_15_ok ?_
  refine ⟨.int, rfl, rfl, (by omega), (by omega), ?_⟩
  exact Or.inl ⟨z, h4, hy4, rfl, rfl⟩
theorem W_lasts {g : qG} (hg : qOK g) (hT : qTHR g) (hC : qCAT g) {h : qH} {fs : List Value} (h0 : h.2 0 = some (.inl (11, fs))) {u : Nat → Int64} {d mc ms : Nat} {P : Option Value → qH → Prop} {PX : String → qH → Prop} {p0 p1 : Int32} (hF : qSpecX g d mc ms mX11_lasts [.ref 0, .int p0, .int p1] h P PX) (hP : ∀ v h1, P v h1 → (∃ z : Int32, v = some (.int z)) ∧ h1.2 92 = some (.inr (.inr (.inl (1, u))))) (hX : ∀ E h1, PX E h1 → ∃ k : Nat, (k = 1) ∧ E = exN k) : qSpecW g (d + 1) mc ms wL_lasts [.ref 0, .int p0, .int p1, .ref 92] h (fun r h' => (∃ (z : Int32) (h1 : qH), P (some (.int z)) h1 ∧ r = some (.int 0) ∧ h' = (h1.1, qup h1.2 92 (.inr (.inr (.inl (1, vp_updL u 0 z.toInt64)))))) ∨ (∃ k : Nat, (k = 1) ∧ PX (exN k) h' ∧ r = some (.int (1)))) := by
  refine qSpecW_run hg hT hC wL_lasts_ok rfl (Nat.le_of_ble_eq_true rfl) ?_
  intro run thr st9 catch9
  have step : (∀ (sg : List qEl) (pc : Nat) (L : List (Nat × Value)) (st : List Value) (h : qH) (cu su : Nat), qsg wL_lasts.2.1 13 wL_lasts.2.2.1 false pc sg = true → wpN g 13 (d + 1) mc ms (some .int) _ thr run sg pc L st h cu su → run pc L st h cu su) ∧ True := ⟨st9, trivial⟩
  have kx : ∀ (E : String) (h9 : qH), PX E h9 → thr 5 [(0, .ref 0), (1, .int p0), (2, .int p1), (3, .ref 92)] E h9 (0 + mc) (0 + ms) := by
    intro E h9 hx
    obtain ⟨k, hk, rfl⟩ := hX E h9 hx
    subst hk
    refine catch9 [] [] (0, 10, 13, 13) 1 4 2 _ _ _ _ _ rfl (fun z hz => absurd hz List.not_mem_nil) (by decide) ⟨by decide, by decide⟩ (by decide) clk_1 (Or.inl ⟨by decide +kernel, rfl⟩) (by decide) rfl ?_
    refine step.1 _ _ _ _ _ _ _ sgL_lasts_15_ok ?_
    refine ⟨.int, rfl, rfl, (by omega), (by omega), ?_⟩
    exact Or.inr ⟨1, rfl, hx, rfl⟩
  refine step.1 _ _ _ _ _ _ _ sgL_lasts_0_ok ?_
  refine Or.inr ⟨rfl, _, d, mc, ms, _, _, _, _, qi_13_82, ⟨rfl, rfl⟩, ⟨h0, rfl⟩, (qnum_rec (by omega) (by omega) (by omega) rfl), rfl, hF, fun y5 h5 hy5 => ?_, fun E h9 hx => kx E h9 hx⟩
  obtain ⟨⟨z, rfl⟩, hu⟩ := hP y5 h5 hy5
  refine ⟨_, _, hu, vp_in_nI (n := 0) (by decide) (by decide), ?_⟩
  refine step.1 _ _ _ _ _ _ _ sgL_lasts_17_ok ?_
  refine ⟨.int, rfl, rfl, (by omega), (by omega), ?_⟩
  exact Or.inl ⟨z, h5, hy5, rfl, rfl⟩
theorem W_without {g : qG} (hg : qOK g) (hT : qTHR g) (hC : qCAT g) {h : qH} {fs : List Value} (h0 : h.2 0 = some (.inl (11, fs))) {u : Nat → Int64} {d mc ms : Nat} {P : Option Value → qH → Prop} {PX : String → qH → Prop} {p0 p1 p2 : Int32} (hF : qSpecX g d mc ms mX11_without [.ref 0, .int p0, .int p1, .int p2] h P PX) (hP : ∀ v h1, P v h1 → (∃ z : Int32, v = some (.int z)) ∧ h1.2 92 = some (.inr (.inr (.inl (1, u))))) (hX : ∀ E h1, PX E h1 → ∃ k : Nat, (k = 1) ∧ E = exN k) : qSpecW g (d + 1) mc ms wL_without [.ref 0, .int p0, .int p1, .int p2, .ref 92] h (fun r h' => (∃ (z : Int32) (h1 : qH), P (some (.int z)) h1 ∧ r = some (.int 0) ∧ h' = (h1.1, qup h1.2 92 (.inr (.inr (.inl (1, vp_updL u 0 z.toInt64)))))) ∨ (∃ k : Nat, (k = 1) ∧ PX (exN k) h' ∧ r = some (.int (1)))) := by
  refine qSpecW_run hg hT hC wL_without_ok rfl (Nat.le_of_ble_eq_true rfl) ?_
  intro run thr st9 catch9
  have step : (∀ (sg : List qEl) (pc : Nat) (L : List (Nat × Value)) (st : List Value) (h : qH) (cu su : Nat), qsg wL_without.2.1 13 wL_without.2.2.1 false pc sg = true → wpN g 13 (d + 1) mc ms (some .int) _ thr run sg pc L st h cu su → run pc L st h cu su) ∧ True := ⟨st9, trivial⟩
  have kx : ∀ (E : String) (h9 : qH), PX E h9 → thr 7 [(0, .ref 0), (1, .int p0), (2, .int p1), (3, .int p2), (4, .ref 92)] E h9 (0 + mc) (0 + ms) := by
    intro E h9 hx
    obtain ⟨k, hk, rfl⟩ := hX E h9 hx
    subst hk
    refine catch9 [] [] (0, 12, 15, 13) 1 5 2 _ _ _ _ _ rfl (fun z hz => absurd hz List.not_mem_nil) (by decide) ⟨by decide, by decide⟩ (by decide) clk_1 (Or.inl ⟨by decide +kernel, rfl⟩) (by decide) rfl ?_
    refine step.1 _ _ _ _ _ _ _ sgL_without_17_ok ?_
    refine ⟨.int, rfl, rfl, (by omega), (by omega), ?_⟩
    exact Or.inr ⟨1, rfl, hx, rfl⟩
  refine step.1 _ _ _ _ _ _ _ sgL_without_0_ok ?_
  refine Or.inr ⟨rfl, _, d, mc, ms, _, _, _, _, qi_13_85, ⟨rfl, rfl⟩, ⟨h0, rfl⟩, (qnum_rec (by omega) (by omega) (by omega) rfl), rfl, hF, fun y7 h7 hy7 => ?_, fun E h9 hx => kx E h9 hx⟩
  obtain ⟨⟨z, rfl⟩, hu⟩ := hP y7 h7 hy7
  refine ⟨_, _, hu, vp_in_nI (n := 0) (by decide) (by decide), ?_⟩
  refine step.1 _ _ _ _ _ _ _ sgL_without_19_ok ?_
  refine ⟨.int, rfl, rfl, (by omega), (by omega), ?_⟩
  exact Or.inl ⟨z, h7, hy7, rfl, rfl⟩
theorem W_there {g : qG} (hg : qOK g) (hT : qTHR g) (hC : qCAT g) {h : qH} {fs : List Value} (h0 : h.2 0 = some (.inl (11, fs))) {u : Nat → Int64} {d mc ms : Nat} {P : Option Value → qH → Prop} {PX : String → qH → Prop} {p0 : Int32} (hF : qSpecX g d mc ms mX11_there [.ref 0, .int p0] h P PX) (hP : ∀ v h1, P v h1 → (∃ z : Int32, v = some (.int z)) ∧ h1.2 92 = some (.inr (.inr (.inl (1, u))))) (hX : ∀ E h1, PX E h1 → ∃ k : Nat, (k = 1) ∧ E = exN k) : qSpecW g (d + 1) mc ms wL_there [.ref 0, .int p0, .ref 92] h (fun r h' => (∃ (z : Int32) (h1 : qH), P (some (.int z)) h1 ∧ r = some (.int 0) ∧ h' = (h1.1, qup h1.2 92 (.inr (.inr (.inl (1, vp_updL u 0 z.toInt64)))))) ∨ (∃ k : Nat, (k = 1) ∧ PX (exN k) h' ∧ r = some (.int (1)))) := by
  refine qSpecW_run hg hT hC wL_there_ok rfl (Nat.le_of_ble_eq_true rfl) ?_
  intro run thr st9 catch9
  have step : (∀ (sg : List qEl) (pc : Nat) (L : List (Nat × Value)) (st : List Value) (h : qH) (cu su : Nat), qsg wL_there.2.1 13 wL_there.2.2.1 false pc sg = true → wpN g 13 (d + 1) mc ms (some .int) _ thr run sg pc L st h cu su → run pc L st h cu su) ∧ True := ⟨st9, trivial⟩
  have kx : ∀ (E : String) (h9 : qH), PX E h9 → thr 4 [(0, .ref 0), (1, .int p0), (2, .ref 92)] E h9 (0 + mc) (0 + ms) := by
    intro E h9 hx
    obtain ⟨k, hk, rfl⟩ := hX E h9 hx
    subst hk
    refine catch9 [] [] (0, 9, 12, 13) 1 3 1 _ _ _ _ _ rfl (fun z hz => absurd hz List.not_mem_nil) (by decide) ⟨by decide, by decide⟩ (by decide) clk_1 (Or.inr ⟨3, rfl, by decide +kernel, rfl⟩) (by decide) rfl ?_
    refine step.1 _ _ _ _ _ _ _ sgL_there_13_ok ?_
    refine ⟨.int, rfl, rfl, (by omega), (by omega), ?_⟩
    exact Or.inr ⟨1, rfl, hx, rfl⟩
  refine step.1 _ _ _ _ _ _ _ sgL_there_0_ok ?_
  refine Or.inr ⟨rfl, _, d, mc, ms, _, _, _, _, qi_13_88, ⟨rfl, rfl⟩, ⟨h0, rfl⟩, (qnum_rec (by omega) (by omega) (by omega) rfl), rfl, hF, fun y4 h4 hy4 => ?_, fun E h9 hx => kx E h9 hx⟩
  obtain ⟨⟨z, rfl⟩, hu⟩ := hP y4 h4 hy4
  refine ⟨_, _, hu, vp_in_nI (n := 0) (by decide) (by decide), ?_⟩
  refine step.1 _ _ _ _ _ _ _ sgL_there_15_ok ?_
  refine ⟨.int, rfl, rfl, (by omega), (by omega), ?_⟩
  exact Or.inl ⟨z, h4, hy4, rfl, rfl⟩
theorem W_soloJoy {g : qG} (hg : qOK g) (hT : qTHR g) (hC : qCAT g) {h : qH} {fs : List Value} (h0 : h.2 0 = some (.inl (11, fs))) {u : Nat → Int64} {d mc ms : Nat} {P : Option Value → qH → Prop} {PX : String → qH → Prop} {p0 : Int32} (hF : qSpecX g d mc ms mX11_soloJoy [.ref 0, .int p0] h P PX) (hP : ∀ v h1, P v h1 → (∃ z : Int64, v = some (.long z)) ∧ h1.2 92 = some (.inr (.inr (.inl (1, u))))) (hX : ∀ E h1, PX E h1 → ∃ k : Nat, (k = 1) ∧ E = exN k) : qSpecW g (d + 1) mc ms wL_soloJoy [.ref 0, .int p0, .ref 92] h (fun r h' => (∃ (z : Int64) (h1 : qH), P (some (.long z)) h1 ∧ r = some (.int 0) ∧ h' = (h1.1, qup h1.2 92 (.inr (.inr (.inl (1, vp_updL u 0 z)))))) ∨ (∃ k : Nat, (k = 1) ∧ PX (exN k) h' ∧ r = some (.int (1)))) := by
  refine qSpecW_run hg hT hC wL_soloJoy_ok rfl (Nat.le_of_ble_eq_true rfl) ?_
  intro run thr st9 catch9
  have step : (∀ (sg : List qEl) (pc : Nat) (L : List (Nat × Value)) (st : List Value) (h : qH) (cu su : Nat), qsg wL_soloJoy.2.1 13 wL_soloJoy.2.2.1 false pc sg = true → wpN g 13 (d + 1) mc ms (some .int) _ thr run sg pc L st h cu su → run pc L st h cu su) ∧ True := ⟨st9, trivial⟩
  have kx : ∀ (E : String) (h9 : qH), PX E h9 → thr 4 [(0, .ref 0), (1, .int p0), (2, .ref 92)] E h9 (0 + mc) (0 + ms) := by
    intro E h9 hx
    obtain ⟨k, hk, rfl⟩ := hX E h9 hx
    subst hk
    refine catch9 [] [] (0, 8, 11, 13) 1 3 1 _ _ _ _ _ rfl (fun z hz => absurd hz List.not_mem_nil) (by decide) ⟨by decide, by decide⟩ (by decide) clk_1 (Or.inr ⟨3, rfl, by decide +kernel, rfl⟩) (by decide) rfl ?_
    refine step.1 _ _ _ _ _ _ _ sgL_soloJoy_12_ok ?_
    refine ⟨.int, rfl, rfl, (by omega), (by omega), ?_⟩
    exact Or.inr ⟨1, rfl, hx, rfl⟩
  refine step.1 _ _ _ _ _ _ _ sgL_soloJoy_0_ok ?_
  refine Or.inr ⟨rfl, _, d, mc, ms, _, _, _, _, qi_13_91, ⟨rfl, rfl⟩, ⟨h0, rfl⟩, (qnum_rec (by omega) (by omega) (by omega) rfl), rfl, hF, fun y4 h4 hy4 => ?_, fun E h9 hx => kx E h9 hx⟩
  obtain ⟨⟨z, rfl⟩, hu⟩ := hP y4 h4 hy4
  refine ⟨_, _, hu, vp_in_nI (n := 0) (by decide) (by decide), ?_⟩
  refine step.1 _ _ _ _ _ _ _ sgL_soloJoy_14_ok ?_
  refine ⟨.int, rfl, rfl, (by omega), (by omega), ?_⟩
  exact Or.inl ⟨z, h4, hy4, rfl, rfl⟩
theorem W_party {g : qG} (hg : qOK g) (hT : qTHR g) (hC : qCAT g) {h : qH} {fs : List Value} (h0 : h.2 0 = some (.inl (11, fs))) {u : Nat → Int64} {d mc ms : Nat} {P : Option Value → qH → Prop} {PX : String → qH → Prop} {p0 : Int32} (hF : qSpecX g d mc ms mX11_party [.ref 0, .int p0] h P PX) (hP : ∀ v h1, P v h1 → (∃ z : Int32, v = some (.int z)) ∧ h1.2 92 = some (.inr (.inr (.inl (1, u))))) (hX : ∀ E h1, PX E h1 → ∃ k : Nat, (k = 1) ∧ E = exN k) : qSpecW g (d + 1) mc ms wL_party [.ref 0, .int p0, .ref 92] h (fun r h' => (∃ (z : Int32) (h1 : qH), P (some (.int z)) h1 ∧ r = some (.int 0) ∧ h' = (h1.1, qup h1.2 92 (.inr (.inr (.inl (1, vp_updL u 0 z.toInt64)))))) ∨ (∃ k : Nat, (k = 1) ∧ PX (exN k) h' ∧ r = some (.int (1)))) := by
  refine qSpecW_run hg hT hC wL_party_ok rfl (Nat.le_of_ble_eq_true rfl) ?_
  intro run thr st9 catch9
  have step : (∀ (sg : List qEl) (pc : Nat) (L : List (Nat × Value)) (st : List Value) (h : qH) (cu su : Nat), qsg wL_party.2.1 13 wL_party.2.2.1 false pc sg = true → wpN g 13 (d + 1) mc ms (some .int) _ thr run sg pc L st h cu su → run pc L st h cu su) ∧ True := ⟨st9, trivial⟩
  have kx : ∀ (E : String) (h9 : qH), PX E h9 → thr 4 [(0, .ref 0), (1, .int p0), (2, .ref 92)] E h9 (0 + mc) (0 + ms) := by
    intro E h9 hx
    obtain ⟨k, hk, rfl⟩ := hX E h9 hx
    subst hk
    refine catch9 [] [] (0, 9, 12, 13) 1 3 1 _ _ _ _ _ rfl (fun z hz => absurd hz List.not_mem_nil) (by decide) ⟨by decide, by decide⟩ (by decide) clk_1 (Or.inr ⟨3, rfl, by decide +kernel, rfl⟩) (by decide) rfl ?_
    refine step.1 _ _ _ _ _ _ _ sgL_party_13_ok ?_
    refine ⟨.int, rfl, rfl, (by omega), (by omega), ?_⟩
    exact Or.inr ⟨1, rfl, hx, rfl⟩
  refine step.1 _ _ _ _ _ _ _ sgL_party_0_ok ?_
  refine Or.inr ⟨rfl, _, d, mc, ms, _, _, _, _, qi_13_95, ⟨rfl, rfl⟩, ⟨h0, rfl⟩, (qnum_rec (by omega) (by omega) (by omega) rfl), rfl, hF, fun y4 h4 hy4 => ?_, fun E h9 hx => kx E h9 hx⟩
  obtain ⟨⟨z, rfl⟩, hu⟩ := hP y4 h4 hy4
  refine ⟨_, _, hu, vp_in_nI (n := 0) (by decide) (by decide), ?_⟩
  refine step.1 _ _ _ _ _ _ _ sgL_party_15_ok ?_
  refine ⟨.int, rfl, rfl, (by omega), (by omega), ?_⟩
  exact Or.inl ⟨z, h4, hy4, rfl, rfl⟩
theorem W_gave {g : qG} (hg : qOK g) (hT : qTHR g) (hC : qCAT g) {h : qH} {fs : List Value} (h0 : h.2 0 = some (.inl (11, fs))) {u : Nat → Int64} {d mc ms : Nat} {P : Option Value → qH → Prop} {PX : String → qH → Prop} {p0 : Int32} (hF : qSpecX g d mc ms mX11_gave [.ref 0, .int p0] h P PX) (hP : ∀ v h1, P v h1 → (∃ z : Int32, v = some (.int z)) ∧ h1.2 92 = some (.inr (.inr (.inl (1, u))))) (hX : ∀ E h1, PX E h1 → ∃ k : Nat, (k = 1) ∧ E = exN k) : qSpecW g (d + 1) mc ms wL_gave [.ref 0, .int p0, .ref 92] h (fun r h' => (∃ (z : Int32) (h1 : qH), P (some (.int z)) h1 ∧ r = some (.int 0) ∧ h' = (h1.1, qup h1.2 92 (.inr (.inr (.inl (1, vp_updL u 0 z.toInt64)))))) ∨ (∃ k : Nat, (k = 1) ∧ PX (exN k) h' ∧ r = some (.int (1)))) := by
  refine qSpecW_run hg hT hC wL_gave_ok rfl (Nat.le_of_ble_eq_true rfl) ?_
  intro run thr st9 catch9
  have step : (∀ (sg : List qEl) (pc : Nat) (L : List (Nat × Value)) (st : List Value) (h : qH) (cu su : Nat), qsg wL_gave.2.1 13 wL_gave.2.2.1 false pc sg = true → wpN g 13 (d + 1) mc ms (some .int) _ thr run sg pc L st h cu su → run pc L st h cu su) ∧ True := ⟨st9, trivial⟩
  have kx : ∀ (E : String) (h9 : qH), PX E h9 → thr 4 [(0, .ref 0), (1, .int p0), (2, .ref 92)] E h9 (0 + mc) (0 + ms) := by
    intro E h9 hx
    obtain ⟨k, hk, rfl⟩ := hX E h9 hx
    subst hk
    refine catch9 [] [] (0, 9, 12, 13) 1 3 1 _ _ _ _ _ rfl (fun z hz => absurd hz List.not_mem_nil) (by decide) ⟨by decide, by decide⟩ (by decide) clk_1 (Or.inr ⟨3, rfl, by decide +kernel, rfl⟩) (by decide) rfl ?_
    refine step.1 _ _ _ _ _ _ _ sgL_gave_13_ok ?_
    refine ⟨.int, rfl, rfl, (by omega), (by omega), ?_⟩
    exact Or.inr ⟨1, rfl, hx, rfl⟩
  refine step.1 _ _ _ _ _ _ _ sgL_gave_0_ok ?_
  refine Or.inr ⟨rfl, _, d, mc, ms, _, _, _, _, qi_13_98, ⟨rfl, rfl⟩, ⟨h0, rfl⟩, (qnum_rec (by omega) (by omega) (by omega) rfl), rfl, hF, fun y4 h4 hy4 => ?_, fun E h9 hx => kx E h9 hx⟩
  obtain ⟨⟨z, rfl⟩, hu⟩ := hP y4 h4 hy4
  refine ⟨_, _, hu, vp_in_nI (n := 0) (by decide) (by decide), ?_⟩
  refine step.1 _ _ _ _ _ _ _ sgL_gave_15_ok ?_
  refine ⟨.int, rfl, rfl, (by omega), (by omega), ?_⟩
  exact Or.inl ⟨z, h4, hy4, rfl, rfl⟩
theorem W_right {g : qG} (hg : qOK g) (hT : qTHR g) (hC : qCAT g) {h : qH} {fs : List Value} (h0 : h.2 0 = some (.inl (11, fs))) {u : Nat → Int64} {d mc ms : Nat} {P : Option Value → qH → Prop} {PX : String → qH → Prop} {p0 : Int32} (hF : qSpecX g d mc ms mX11_right [.ref 0, .int p0] h P PX) (hP : ∀ v h1, P v h1 → (∃ z : Int32, v = some (.int z)) ∧ h1.2 92 = some (.inr (.inr (.inl (1, u))))) (hX : ∀ E h1, PX E h1 → ∃ k : Nat, (k = 1) ∧ E = exN k) : qSpecW g (d + 1) mc ms wL_right [.ref 0, .int p0, .ref 92] h (fun r h' => (∃ (z : Int32) (h1 : qH), P (some (.int z)) h1 ∧ r = some (.int 0) ∧ h' = (h1.1, qup h1.2 92 (.inr (.inr (.inl (1, vp_updL u 0 z.toInt64)))))) ∨ (∃ k : Nat, (k = 1) ∧ PX (exN k) h' ∧ r = some (.int (1)))) := by
  refine qSpecW_run hg hT hC wL_right_ok rfl (Nat.le_of_ble_eq_true rfl) ?_
  intro run thr st9 catch9
  have step : (∀ (sg : List qEl) (pc : Nat) (L : List (Nat × Value)) (st : List Value) (h : qH) (cu su : Nat), qsg wL_right.2.1 13 wL_right.2.2.1 false pc sg = true → wpN g 13 (d + 1) mc ms (some .int) _ thr run sg pc L st h cu su → run pc L st h cu su) ∧ True := ⟨st9, trivial⟩
  have kx : ∀ (E : String) (h9 : qH), PX E h9 → thr 4 [(0, .ref 0), (1, .int p0), (2, .ref 92)] E h9 (0 + mc) (0 + ms) := by
    intro E h9 hx
    obtain ⟨k, hk, rfl⟩ := hX E h9 hx
    subst hk
    refine catch9 [] [] (0, 9, 12, 13) 1 3 1 _ _ _ _ _ rfl (fun z hz => absurd hz List.not_mem_nil) (by decide) ⟨by decide, by decide⟩ (by decide) clk_1 (Or.inr ⟨3, rfl, by decide +kernel, rfl⟩) (by decide) rfl ?_
    refine step.1 _ _ _ _ _ _ _ sgL_right_13_ok ?_
    refine ⟨.int, rfl, rfl, (by omega), (by omega), ?_⟩
    exact Or.inr ⟨1, rfl, hx, rfl⟩
  refine step.1 _ _ _ _ _ _ _ sgL_right_0_ok ?_
  refine Or.inr ⟨rfl, _, d, mc, ms, _, _, _, _, qi_13_101, ⟨rfl, rfl⟩, ⟨h0, rfl⟩, (qnum_rec (by omega) (by omega) (by omega) rfl), rfl, hF, fun y4 h4 hy4 => ?_, fun E h9 hx => kx E h9 hx⟩
  obtain ⟨⟨z, rfl⟩, hu⟩ := hP y4 h4 hy4
  refine ⟨_, _, hu, vp_in_nI (n := 0) (by decide) (by decide), ?_⟩
  refine step.1 _ _ _ _ _ _ _ sgL_right_15_ok ?_
  refine ⟨.int, rfl, rfl, (by omega), (by omega), ?_⟩
  exact Or.inl ⟨z, h4, hy4, rfl, rfl⟩
theorem W_evening {g : qG} (hg : qOK g) (hT : qTHR g) (hC : qCAT g) {h : qH} {fs : List Value} (h0 : h.2 0 = some (.inl (11, fs))) {u : Nat → Int64} {d mc ms : Nat} {P : Option Value → qH → Prop} {PX : String → qH → Prop} {p0 p1 : Int32} (hF : qSpecX g d mc ms mX11_evening [.ref 0, .int p0, .int p1] h P PX) (hP : ∀ v h1, P v h1 → (∃ z : Int32, v = some (.int z)) ∧ h1.2 92 = some (.inr (.inr (.inl (1, u))))) (hX : ∀ E h1, PX E h1 → ∃ k : Nat, (k = 1) ∧ E = exN k) : qSpecW g (d + 1) mc ms wL_evening [.ref 0, .int p0, .int p1, .ref 92] h (fun r h' => (∃ (z : Int32) (h1 : qH), P (some (.int z)) h1 ∧ r = some (.int 0) ∧ h' = (h1.1, qup h1.2 92 (.inr (.inr (.inl (1, vp_updL u 0 z.toInt64)))))) ∨ (∃ k : Nat, (k = 1) ∧ PX (exN k) h' ∧ r = some (.int (1)))) := by
  refine qSpecW_run hg hT hC wL_evening_ok rfl (Nat.le_of_ble_eq_true rfl) ?_
  intro run thr st9 catch9
  have step : (∀ (sg : List qEl) (pc : Nat) (L : List (Nat × Value)) (st : List Value) (h : qH) (cu su : Nat), qsg wL_evening.2.1 13 wL_evening.2.2.1 false pc sg = true → wpN g 13 (d + 1) mc ms (some .int) _ thr run sg pc L st h cu su → run pc L st h cu su) ∧ True := ⟨st9, trivial⟩
  have kx : ∀ (E : String) (h9 : qH), PX E h9 → thr 5 [(0, .ref 0), (1, .int p0), (2, .int p1), (3, .ref 92)] E h9 (0 + mc) (0 + ms) := by
    intro E h9 hx
    obtain ⟨k, hk, rfl⟩ := hX E h9 hx
    subst hk
    refine catch9 [] [] (0, 10, 13, 13) 1 4 2 _ _ _ _ _ rfl (fun z hz => absurd hz List.not_mem_nil) (by decide) ⟨by decide, by decide⟩ (by decide) clk_1 (Or.inl ⟨by decide +kernel, rfl⟩) (by decide) rfl ?_
    refine step.1 _ _ _ _ _ _ _ sgL_evening_15_ok ?_
    refine ⟨.int, rfl, rfl, (by omega), (by omega), ?_⟩
    exact Or.inr ⟨1, rfl, hx, rfl⟩
  refine step.1 _ _ _ _ _ _ _ sgL_evening_0_ok ?_
  refine Or.inr ⟨rfl, _, d, mc, ms, _, _, _, _, qi_13_104, ⟨rfl, rfl⟩, ⟨h0, rfl⟩, (qnum_rec (by omega) (by omega) (by omega) rfl), rfl, hF, fun y5 h5 hy5 => ?_, fun E h9 hx => kx E h9 hx⟩
  obtain ⟨⟨z, rfl⟩, hu⟩ := hP y5 h5 hy5
  refine ⟨_, _, hu, vp_in_nI (n := 0) (by decide) (by decide), ?_⟩
  refine step.1 _ _ _ _ _ _ _ sgL_evening_17_ok ?_
  refine ⟨.int, rfl, rfl, (by omega), (by omega), ?_⟩
  exact Or.inl ⟨z, h5, hy5, rfl, rfl⟩
theorem W_span {g : qG} (hg : qOK g) (hT : qTHR g) (hC : qCAT g) {h : qH} {fs : List Value} (h0 : h.2 0 = some (.inl (11, fs))) {u : Nat → Int64} {d mc ms : Nat} {P : Option Value → qH → Prop} {PX : String → qH → Prop} {p0 p1 p2 p3 : Int32} (hF : qSpecX g d mc ms mX11_span [.ref 0, .int p0, .int p1, .int p2, .int p3] h P PX) (hP : ∀ v h1, P v h1 → (∃ z : Int32, v = some (.int z)) ∧ h1.2 92 = some (.inr (.inr (.inl (1, u))))) (hX : ∀ E h1, PX E h1 → ∃ k : Nat, (k = 1) ∧ E = exN k) : qSpecW g (d + 1) mc ms wL_span [.ref 0, .int p0, .int p1, .int p2, .int p3, .ref 92] h (fun r h' => (∃ (z : Int32) (h1 : qH), P (some (.int z)) h1 ∧ r = some (.int 0) ∧ h' = (h1.1, qup h1.2 92 (.inr (.inr (.inl (1, vp_updL u 0 z.toInt64)))))) ∨ (∃ k : Nat, (k = 1) ∧ PX (exN k) h' ∧ r = some (.int (1)))) := by
  refine qSpecW_run hg hT hC wL_span_ok rfl (Nat.le_of_ble_eq_true rfl) ?_
  intro run thr st9 catch9
  have step : (∀ (sg : List qEl) (pc : Nat) (L : List (Nat × Value)) (st : List Value) (h : qH) (cu su : Nat), qsg wL_span.2.1 13 wL_span.2.2.1 false pc sg = true → wpN g 13 (d + 1) mc ms (some .int) _ thr run sg pc L st h cu su → run pc L st h cu su) ∧ True := ⟨st9, trivial⟩
  have kx : ∀ (E : String) (h9 : qH), PX E h9 → thr 9 [(0, .ref 0), (1, .int p0), (2, .int p1), (3, .int p2), (4, .int p3), (5, .ref 92)] E h9 (0 + mc) (0 + ms) := by
    intro E h9 hx
    obtain ⟨k, hk, rfl⟩ := hX E h9 hx
    subst hk
    refine catch9 [] [] (0, 14, 17, 13) 1 6 2 _ _ _ _ _ rfl (fun z hz => absurd hz List.not_mem_nil) (by decide) ⟨by decide, by decide⟩ (by decide) clk_1 (Or.inl ⟨by decide +kernel, rfl⟩) (by decide) rfl ?_
    refine step.1 _ _ _ _ _ _ _ sgL_span_19_ok ?_
    refine ⟨.int, rfl, rfl, (by omega), (by omega), ?_⟩
    exact Or.inr ⟨1, rfl, hx, rfl⟩
  refine step.1 _ _ _ _ _ _ _ sgL_span_0_ok ?_
  refine Or.inr ⟨rfl, _, d, mc, ms, _, _, _, _, qi_13_107, ⟨rfl, rfl⟩, ⟨h0, rfl⟩, (qnum_rec (by omega) (by omega) (by omega) rfl), rfl, hF, fun y9 h9 hy9 => ?_, fun E h9 hx => kx E h9 hx⟩
  obtain ⟨⟨z, rfl⟩, hu⟩ := hP y9 h9 hy9
  refine ⟨_, _, hu, vp_in_nI (n := 0) (by decide) (by decide), ?_⟩
  refine step.1 _ _ _ _ _ _ _ sgL_span_21_ok ?_
  refine ⟨.int, rfl, rfl, (by omega), (by omega), ?_⟩
  exact Or.inl ⟨z, h9, hy9, rfl, rfl⟩
theorem W_finest {g : qG} (hg : qOK g) (hT : qTHR g) (hC : qCAT g) {h : qH} {fs : List Value} (h0 : h.2 0 = some (.inl (11, fs))) {u : Nat → Int64} {d mc ms : Nat} {P : Option Value → qH → Prop} {PX : String → qH → Prop} {p0 p1 : Int32} (hF : qSpecX g d mc ms mX11_finest [.ref 0, .int p0, .int p1] h P PX) (hP : ∀ v h1, P v h1 → (∃ z : Int32, v = some (.int z)) ∧ h1.2 92 = some (.inr (.inr (.inl (1, u))))) (hX : ∀ E h1, PX E h1 → ∃ k : Nat, (k = 1) ∧ E = exN k) : qSpecW g (d + 1) mc ms wL_finest [.ref 0, .int p0, .int p1, .ref 92] h (fun r h' => (∃ (z : Int32) (h1 : qH), P (some (.int z)) h1 ∧ r = some (.int 0) ∧ h' = (h1.1, qup h1.2 92 (.inr (.inr (.inl (1, vp_updL u 0 z.toInt64)))))) ∨ (∃ k : Nat, (k = 1) ∧ PX (exN k) h' ∧ r = some (.int (1)))) := by
  refine qSpecW_run hg hT hC wL_finest_ok rfl (Nat.le_of_ble_eq_true rfl) ?_
  intro run thr st9 catch9
  have step : (∀ (sg : List qEl) (pc : Nat) (L : List (Nat × Value)) (st : List Value) (h : qH) (cu su : Nat), qsg wL_finest.2.1 13 wL_finest.2.2.1 false pc sg = true → wpN g 13 (d + 1) mc ms (some .int) _ thr run sg pc L st h cu su → run pc L st h cu su) ∧ True := ⟨st9, trivial⟩
  have kx : ∀ (E : String) (h9 : qH), PX E h9 → thr 5 [(0, .ref 0), (1, .int p0), (2, .int p1), (3, .ref 92)] E h9 (0 + mc) (0 + ms) := by
    intro E h9 hx
    obtain ⟨k, hk, rfl⟩ := hX E h9 hx
    subst hk
    refine catch9 [] [] (0, 10, 13, 13) 1 4 2 _ _ _ _ _ rfl (fun z hz => absurd hz List.not_mem_nil) (by decide) ⟨by decide, by decide⟩ (by decide) clk_1 (Or.inl ⟨by decide +kernel, rfl⟩) (by decide) rfl ?_
    refine step.1 _ _ _ _ _ _ _ sgL_finest_15_ok ?_
    refine ⟨.int, rfl, rfl, (by omega), (by omega), ?_⟩
    exact Or.inr ⟨1, rfl, hx, rfl⟩
  refine step.1 _ _ _ _ _ _ _ sgL_finest_0_ok ?_
  refine Or.inr ⟨rfl, _, d, mc, ms, _, _, _, _, qi_13_111, ⟨rfl, rfl⟩, ⟨h0, rfl⟩, (qnum_rec (by omega) (by omega) (by omega) rfl), rfl, hF, fun y5 h5 hy5 => ?_, fun E h9 hx => kx E h9 hx⟩
  obtain ⟨⟨z, rfl⟩, hu⟩ := hP y5 h5 hy5
  refine ⟨_, _, hu, vp_in_nI (n := 0) (by decide) (by decide), ?_⟩
  refine step.1 _ _ _ _ _ _ _ sgL_finest_17_ok ?_
  refine ⟨.int, rfl, rfl, (by omega), (by omega), ?_⟩
  exact Or.inl ⟨z, h5, hy5, rfl, rfl⟩
theorem W_change {g : qG} (hg : qOK g) (hT : qTHR g) (hC : qCAT g) {h : qH} {fs : List Value} (h0 : h.2 0 = some (.inl (11, fs))) {u : Nat → Int64} {d mc ms : Nat} {P : Option Value → qH → Prop} {PX : String → qH → Prop} {p0 p1 p2 : Int32} (hF : qSpecX g d mc ms mX11_change [.ref 0, .int p0, .int p1, .int p2] h P PX) (hP : ∀ v h1, P v h1 → (∃ z : Int32, v = some (.int z)) ∧ h1.2 92 = some (.inr (.inr (.inl (1, u))))) (hX : ∀ E h1, PX E h1 → ∃ k : Nat, (k = 0 ∨ k = 1) ∧ E = exN k) : qSpecW g (d + 1) mc ms wL_change [.ref 0, .int p0, .int p1, .int p2, .ref 92] h (fun r h' => (∃ (z : Int32) (h1 : qH), P (some (.int z)) h1 ∧ r = some (.int 0) ∧ h' = (h1.1, qup h1.2 92 (.inr (.inr (.inl (1, vp_updL u 0 z.toInt64)))))) ∨ (∃ k : Nat, (k = 0 ∨ k = 1) ∧ PX (exN k) h' ∧ r = some (.int (nI (k + 1))))) := by
  refine qSpecW_run hg hT hC wL_change_ok rfl (Nat.le_of_ble_eq_true rfl) ?_
  intro run thr st9 catch9
  have step : (∀ (sg : List qEl) (pc : Nat) (L : List (Nat × Value)) (st : List Value) (h : qH) (cu su : Nat), qsg wL_change.2.1 13 wL_change.2.2.1 false pc sg = true → wpN g 13 (d + 1) mc ms (some .int) _ thr run sg pc L st h cu su → run pc L st h cu su) ∧ True := ⟨st9, trivial⟩
  have kx : ∀ (E : String) (h9 : qH), PX E h9 → thr 7 [(0, .ref 0), (1, .int p0), (2, .int p1), (3, .int p2), (4, .ref 92)] E h9 (0 + mc) (0 + ms) := by
    intro E h9 hx
    obtain ⟨k, hk, rfl⟩ := hX E h9 hx
    rcases hk with rfl | rfl
    · refine catch9 [] [(0, 12, 19, 13)] (0, 12, 15, 31) 0 5 2 _ _ _ _ _ rfl (fun z hz => absurd hz List.not_mem_nil) (by decide) ⟨by decide, by decide⟩ (by decide) clk_0 (Or.inl ⟨by decide +kernel, rfl⟩) (by decide) rfl ?_
      refine step.1 _ _ _ _ _ _ _ sgL_change_17_ok ?_
      refine ⟨.int, rfl, rfl, (by omega), (by omega), ?_⟩
      exact Or.inr ⟨0, Or.inl rfl, hx, rfl⟩
    · refine catch9 [(0, 12, 15, 31)] [] (0, 12, 19, 13) 1 5 2 _ _ _ _ _ rfl (fun z hz => by
          simp only [List.mem_cons, List.not_mem_nil, or_false] at hz
          rcases hz with rfl
          · exact ⟨by decide, 0, by decide, by decide, clk_0⟩) (by decide) ⟨by decide, by decide⟩ (by decide) clk_1 (Or.inl ⟨by decide +kernel, rfl⟩) (by decide) rfl ?_
      refine step.1 _ _ _ _ _ _ _ sgL_change_21_ok ?_
      refine ⟨.int, rfl, rfl, (by omega), (by omega), ?_⟩
      exact Or.inr ⟨1, Or.inr rfl, hx, rfl⟩
  refine step.1 _ _ _ _ _ _ _ sgL_change_0_ok ?_
  refine Or.inr ⟨rfl, _, d, mc, ms, _, _, _, _, qi_13_114, ⟨rfl, rfl⟩, ⟨h0, rfl⟩, (qnum_rec (by omega) (by omega) (by omega) rfl), rfl, hF, fun y7 h7 hy7 => ?_, fun E h9 hx => kx E h9 hx⟩
  obtain ⟨⟨z, rfl⟩, hu⟩ := hP y7 h7 hy7
  refine ⟨_, _, hu, vp_in_nI (n := 0) (by decide) (by decide), ?_⟩
  refine step.1 _ _ _ _ _ _ _ sgL_change_23_ok ?_
  refine ⟨.int, rfl, rfl, (by omega), (by omega), ?_⟩
  exact Or.inl ⟨z, h7, hy7, rfl, rfl⟩
theorem W_sing {g : qG} (hg : qOK g) (hT : qTHR g) (hC : qCAT g) {h : qH} {fs : List Value} (h0 : h.2 0 = some (.inl (11, fs))) {u : Nat → Int64} {d mc ms : Nat} {P : Option Value → qH → Prop} {PX : String → qH → Prop} {p0 p1 p2 : Int32} (hF : qSpecX g d mc ms mX11_sing [.ref 0, .int p0, .int p1, .int p2] h P PX) (hP : ∀ v h1, P v h1 → (∃ z : Int32, v = some (.int z)) ∧ h1.2 92 = some (.inr (.inr (.inl (1, u))))) (hX : ∀ E h1, PX E h1 → ∃ k : Nat, (k = 0 ∨ k = 1) ∧ E = exN k) : qSpecW g (d + 1) mc ms wL_sing [.ref 0, .int p0, .int p1, .int p2, .ref 92] h (fun r h' => (∃ (z : Int32) (h1 : qH), P (some (.int z)) h1 ∧ r = some (.int 0) ∧ h' = (h1.1, qup h1.2 92 (.inr (.inr (.inl (1, vp_updL u 0 z.toInt64)))))) ∨ (∃ k : Nat, (k = 0 ∨ k = 1) ∧ PX (exN k) h' ∧ r = some (.int (nI (k + 1))))) := by
  refine qSpecW_run hg hT hC wL_sing_ok rfl (Nat.le_of_ble_eq_true rfl) ?_
  intro run thr st9 catch9
  have step : (∀ (sg : List qEl) (pc : Nat) (L : List (Nat × Value)) (st : List Value) (h : qH) (cu su : Nat), qsg wL_sing.2.1 13 wL_sing.2.2.1 false pc sg = true → wpN g 13 (d + 1) mc ms (some .int) _ thr run sg pc L st h cu su → run pc L st h cu su) ∧ True := ⟨st9, trivial⟩
  have kx : ∀ (E : String) (h9 : qH), PX E h9 → thr 7 [(0, .ref 0), (1, .int p0), (2, .int p1), (3, .int p2), (4, .ref 92)] E h9 (0 + mc) (0 + ms) := by
    intro E h9 hx
    obtain ⟨k, hk, rfl⟩ := hX E h9 hx
    rcases hk with rfl | rfl
    · refine catch9 [] [(0, 12, 19, 13)] (0, 12, 15, 31) 0 5 2 _ _ _ _ _ rfl (fun z hz => absurd hz List.not_mem_nil) (by decide) ⟨by decide, by decide⟩ (by decide) clk_0 (Or.inl ⟨by decide +kernel, rfl⟩) (by decide) rfl ?_
      refine step.1 _ _ _ _ _ _ _ sgL_sing_17_ok ?_
      refine ⟨.int, rfl, rfl, (by omega), (by omega), ?_⟩
      exact Or.inr ⟨0, Or.inl rfl, hx, rfl⟩
    · refine catch9 [(0, 12, 15, 31)] [] (0, 12, 19, 13) 1 5 2 _ _ _ _ _ rfl (fun z hz => by
          simp only [List.mem_cons, List.not_mem_nil, or_false] at hz
          rcases hz with rfl
          · exact ⟨by decide, 0, by decide, by decide, clk_0⟩) (by decide) ⟨by decide, by decide⟩ (by decide) clk_1 (Or.inl ⟨by decide +kernel, rfl⟩) (by decide) rfl ?_
      refine step.1 _ _ _ _ _ _ _ sgL_sing_21_ok ?_
      refine ⟨.int, rfl, rfl, (by omega), (by omega), ?_⟩
      exact Or.inr ⟨1, Or.inr rfl, hx, rfl⟩
  refine step.1 _ _ _ _ _ _ _ sgL_sing_0_ok ?_
  refine Or.inr ⟨rfl, _, d, mc, ms, _, _, _, _, qi_13_117, ⟨rfl, rfl⟩, ⟨h0, rfl⟩, (qnum_rec (by omega) (by omega) (by omega) rfl), rfl, hF, fun y7 h7 hy7 => ?_, fun E h9 hx => kx E h9 hx⟩
  obtain ⟨⟨z, rfl⟩, hu⟩ := hP y7 h7 hy7
  refine ⟨_, _, hu, vp_in_nI (n := 0) (by decide) (by decide), ?_⟩
  refine step.1 _ _ _ _ _ _ _ sgL_sing_23_ok ?_
  refine ⟨.int, rfl, rfl, (by omega), (by omega), ?_⟩
  exact Or.inl ⟨z, h7, hy7, rfl, rfl⟩
theorem W_swap {g : qG} (hg : qOK g) (hT : qTHR g) (hC : qCAT g) {h : qH} {fs : List Value} (h0 : h.2 0 = some (.inl (11, fs))) {u : Nat → Int64} {d mc ms : Nat} {P : Option Value → qH → Prop} {PX : String → qH → Prop} {p0 p1 : Int32} (hF : qSpecX g d mc ms mX11_swap [.ref 0, .int p0, .int p1] h P PX) (hP : ∀ v h1, P v h1 → (∃ z : Int32, v = some (.int z)) ∧ h1.2 92 = some (.inr (.inr (.inl (1, u))))) (hX : ∀ E h1, PX E h1 → ∃ k : Nat, (k = 0) ∧ E = exN k) : qSpecW g (d + 1) mc ms wL_swap [.ref 0, .int p0, .int p1, .ref 92] h (fun r h' => (∃ (z : Int32) (h1 : qH), P (some (.int z)) h1 ∧ r = some (.int 0) ∧ h' = (h1.1, qup h1.2 92 (.inr (.inr (.inl (1, vp_updL u 0 z.toInt64)))))) ∨ (∃ k : Nat, (k = 0) ∧ PX (exN k) h' ∧ r = some (.int (1)))) := by
  refine qSpecW_run hg hT hC wL_swap_ok rfl (Nat.le_of_ble_eq_true rfl) ?_
  intro run thr st9 catch9
  have step : (∀ (sg : List qEl) (pc : Nat) (L : List (Nat × Value)) (st : List Value) (h : qH) (cu su : Nat), qsg wL_swap.2.1 13 wL_swap.2.2.1 false pc sg = true → wpN g 13 (d + 1) mc ms (some .int) _ thr run sg pc L st h cu su → run pc L st h cu su) ∧ True := ⟨st9, trivial⟩
  have kx : ∀ (E : String) (h9 : qH), PX E h9 → thr 5 [(0, .ref 0), (1, .int p0), (2, .int p1), (3, .ref 92)] E h9 (0 + mc) (0 + ms) := by
    intro E h9 hx
    obtain ⟨k, hk, rfl⟩ := hX E h9 hx
    subst hk
    refine catch9 [] [] (0, 10, 13, 31) 0 4 2 _ _ _ _ _ rfl (fun z hz => absurd hz List.not_mem_nil) (by decide) ⟨by decide, by decide⟩ (by decide) clk_0 (Or.inl ⟨by decide +kernel, rfl⟩) (by decide) rfl ?_
    refine step.1 _ _ _ _ _ _ _ sgL_swap_15_ok ?_
    refine ⟨.int, rfl, rfl, (by omega), (by omega), ?_⟩
    exact Or.inr ⟨0, rfl, hx, rfl⟩
  refine step.1 _ _ _ _ _ _ _ sgL_swap_0_ok ?_
  refine Or.inr ⟨rfl, _, d, mc, ms, _, _, _, _, qi_13_120, ⟨rfl, rfl⟩, ⟨h0, rfl⟩, (qnum_rec (by omega) (by omega) (by omega) rfl), rfl, hF, fun y5 h5 hy5 => ?_, fun E h9 hx => kx E h9 hx⟩
  obtain ⟨⟨z, rfl⟩, hu⟩ := hP y5 h5 hy5
  refine ⟨_, _, hu, vp_in_nI (n := 0) (by decide) (by decide), ?_⟩
  refine step.1 _ _ _ _ _ _ _ sgL_swap_17_ok ?_
  refine ⟨.int, rfl, rfl, (by omega), (by omega), ?_⟩
  exact Or.inl ⟨z, h5, hy5, rfl, rfl⟩
theorem W_skip {g : qG} (hg : qOK g) (hT : qTHR g) (hC : qCAT g) {h : qH} {fs : List Value} (h0 : h.2 0 = some (.inl (11, fs))) {u : Nat → Int64} {d mc ms : Nat} {P : Option Value → qH → Prop} {PX : String → qH → Prop} {p0 : Int32} (hF : qSpecX g d mc ms mX11_skip [.ref 0, .int p0] h P PX) (hP : ∀ v h1, P v h1 → (∃ z : Int32, v = some (.int z)) ∧ h1.2 92 = some (.inr (.inr (.inl (1, u))))) (hX : ∀ E h1, PX E h1 → ∃ k : Nat, (k = 0) ∧ E = exN k) : qSpecW g (d + 1) mc ms wL_skip [.ref 0, .int p0, .ref 92] h (fun r h' => (∃ (z : Int32) (h1 : qH), P (some (.int z)) h1 ∧ r = some (.int 0) ∧ h' = (h1.1, qup h1.2 92 (.inr (.inr (.inl (1, vp_updL u 0 z.toInt64)))))) ∨ (∃ k : Nat, (k = 0) ∧ PX (exN k) h' ∧ r = some (.int (1)))) := by
  refine qSpecW_run hg hT hC wL_skip_ok rfl (Nat.le_of_ble_eq_true rfl) ?_
  intro run thr st9 catch9
  have step : (∀ (sg : List qEl) (pc : Nat) (L : List (Nat × Value)) (st : List Value) (h : qH) (cu su : Nat), qsg wL_skip.2.1 13 wL_skip.2.2.1 false pc sg = true → wpN g 13 (d + 1) mc ms (some .int) _ thr run sg pc L st h cu su → run pc L st h cu su) ∧ True := ⟨st9, trivial⟩
  have kx : ∀ (E : String) (h9 : qH), PX E h9 → thr 4 [(0, .ref 0), (1, .int p0), (2, .ref 92)] E h9 (0 + mc) (0 + ms) := by
    intro E h9 hx
    obtain ⟨k, hk, rfl⟩ := hX E h9 hx
    subst hk
    refine catch9 [] [] (0, 9, 12, 31) 0 3 1 _ _ _ _ _ rfl (fun z hz => absurd hz List.not_mem_nil) (by decide) ⟨by decide, by decide⟩ (by decide) clk_0 (Or.inr ⟨3, rfl, by decide +kernel, rfl⟩) (by decide) rfl ?_
    refine step.1 _ _ _ _ _ _ _ sgL_skip_13_ok ?_
    refine ⟨.int, rfl, rfl, (by omega), (by omega), ?_⟩
    exact Or.inr ⟨0, rfl, hx, rfl⟩
  refine step.1 _ _ _ _ _ _ _ sgL_skip_0_ok ?_
  refine Or.inr ⟨rfl, _, d, mc, ms, _, _, _, _, qi_13_123, ⟨rfl, rfl⟩, ⟨h0, rfl⟩, (qnum_rec (by omega) (by omega) (by omega) rfl), rfl, hF, fun y4 h4 hy4 => ?_, fun E h9 hx => kx E h9 hx⟩
  obtain ⟨⟨z, rfl⟩, hu⟩ := hP y4 h4 hy4
  refine ⟨_, _, hu, vp_in_nI (n := 0) (by decide) (by decide), ?_⟩
  refine step.1 _ _ _ _ _ _ _ sgL_skip_15_ok ?_
  refine ⟨.int, rfl, rfl, (by omega), (by omega), ?_⟩
  exact Or.inl ⟨z, h4, hy4, rfl, rfl⟩
theorem W_until {g : qG} (hg : qOK g) (hT : qTHR g) (hC : qCAT g) {h : qH} {fs : List Value} (h0 : h.2 0 = some (.inl (11, fs))) {u : Nat → Int64} {d mc ms : Nat} {P : Option Value → qH → Prop} {PX : String → qH → Prop} {p0 : Int32} (hF : qSpecX g d mc ms mX11_until [.ref 0, .int p0] h P PX) (hP : ∀ v h1, P v h1 → (∃ z : Int32, v = some (.int z)) ∧ h1.2 92 = some (.inr (.inr (.inl (1, u))))) (hX : ∀ E h1, PX E h1 → ∃ k : Nat, (k = 1) ∧ E = exN k) : qSpecW g (d + 1) mc ms wL_until [.ref 0, .int p0, .ref 92] h (fun r h' => (∃ (z : Int32) (h1 : qH), P (some (.int z)) h1 ∧ r = some (.int 0) ∧ h' = (h1.1, qup h1.2 92 (.inr (.inr (.inl (1, vp_updL u 0 z.toInt64)))))) ∨ (∃ k : Nat, (k = 1) ∧ PX (exN k) h' ∧ r = some (.int (1)))) := by
  refine qSpecW_run hg hT hC wL_until_ok rfl (Nat.le_of_ble_eq_true rfl) ?_
  intro run thr st9 catch9
  have step : (∀ (sg : List qEl) (pc : Nat) (L : List (Nat × Value)) (st : List Value) (h : qH) (cu su : Nat), qsg wL_until.2.1 13 wL_until.2.2.1 false pc sg = true → wpN g 13 (d + 1) mc ms (some .int) _ thr run sg pc L st h cu su → run pc L st h cu su) ∧ True := ⟨st9, trivial⟩
  have kx : ∀ (E : String) (h9 : qH), PX E h9 → thr 4 [(0, .ref 0), (1, .int p0), (2, .ref 92)] E h9 (0 + mc) (0 + ms) := by
    intro E h9 hx
    obtain ⟨k, hk, rfl⟩ := hX E h9 hx
    subst hk
    refine catch9 [] [] (0, 9, 12, 13) 1 3 1 _ _ _ _ _ rfl (fun z hz => absurd hz List.not_mem_nil) (by decide) ⟨by decide, by decide⟩ (by decide) clk_1 (Or.inr ⟨3, rfl, by decide +kernel, rfl⟩) (by decide) rfl ?_
    refine step.1 _ _ _ _ _ _ _ sgL_until_13_ok ?_
    refine ⟨.int, rfl, rfl, (by omega), (by omega), ?_⟩
    exact Or.inr ⟨1, rfl, hx, rfl⟩
  refine step.1 _ _ _ _ _ _ _ sgL_until_0_ok ?_
  refine Or.inr ⟨rfl, _, d, mc, ms, _, _, _, _, qi_13_126, ⟨rfl, rfl⟩, ⟨h0, rfl⟩, (qnum_rec (by omega) (by omega) (by omega) rfl), rfl, hF, fun y4 h4 hy4 => ?_, fun E h9 hx => kx E h9 hx⟩
  obtain ⟨⟨z, rfl⟩, hu⟩ := hP y4 h4 hy4
  refine ⟨_, _, hu, vp_in_nI (n := 0) (by decide) (by decide), ?_⟩
  refine step.1 _ _ _ _ _ _ _ sgL_until_15_ok ?_
  refine ⟨.int, rfl, rfl, (by omega), (by omega), ?_⟩
  exact Or.inl ⟨z, h4, hy4, rfl, rfl⟩
end Q14C
