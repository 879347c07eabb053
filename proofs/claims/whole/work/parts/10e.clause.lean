section Q10E
-- 0 door, 1 in, 2 hears, 3 rings, 4 light, 5 drive, 6 pies, 7 singer, 8 home, 9 solo, 10 start, 11 verse, 12 until, 13 verses, 14 pence, 15 joy, 16 place, 17 minute, 18 box, 19 told, 20 least, 21 most, 22 if, 23 first, 24 last
/-- the words' lengths -/
def wlen (i : Nat) : Nat := match i with
  | 0 => 4
  | 1 => 2
  | 2 => 5
  | 3 => 5
  | 4 => 5
  | 5 => 5
  | 6 => 4
  | 7 => 6
  | 8 => 4
  | 9 => 4
  | 10 => 5
  | 11 => 5
  | 12 => 5
  | 13 => 6
  | 14 => 5
  | 15 => 3
  | 16 => 5
  | 17 => 6
  | 18 => 3
  | 19 => 4
  | 20 => 5
  | 21 => 4
  | 22 => 2
  | 23 => 5
  | _ => 4
/-- the words packed -/
def wpk (i : Nat) : Nat := match i with
  | 0 => 146930
  | 1 => 302
  | 2 => 8554067
  | 3 => 19183859
  | 4 => 12885268
  | 5 => 4794053
  | 6 => 533683
  | 7 => 647437490
  | 8 => 277925
  | 9 => 638351
  | 10 => 20579924
  | 11 => 23251557
  | 12 => 22499628
  | 13 => 744049843
  | 14 => 16955493
  | 15 => 10745
  | 16 => 17171557
  | 17 => 446125701
  | 18 => 2552
  | 19 => 671108
  | 20 => 12748404
  | 21 => 441972
  | 22 => 294
  | 23 => 6605428
  | _ => 394868
/-- where the constant pool holds them -/
def widx (i : Nat) : Nat := match i with
  | 0 => 223
  | 1 => 227
  | 2 => 232
  | 3 => 234
  | 4 => 240
  | 5 => 236
  | 6 => 238
  | 7 => 209
  | 8 => 214
  | 9 => 219
  | 10 => 221
  | 11 => 222
  | 12 => 246
  | 13 => 299
  | 14 => 301
  | 15 => 303
  | 16 => 305
  | 17 => 307
  | 18 => 309
  | 19 => 311
  | 20 => 313
  | 21 => 318
  | 22 => 319
  | 23 => 339
  | _ => 341
def qMW (g : qG) : Prop := ∀ i : Nat, i < 25 → ∃ f : Nat → Nat, qSTR g (16 + 2 * i) (17 + 2 * i) (wlen i) f ∧ lets f (wlen i) ∧ pkn f (wlen i) = wpk i ∧ qLD g 12 (widx i) (16 + 2 * i)
theorem wlen_le : ∀ i : Nat, i < 25 → wlen i ≤ 6 := by decide
theorem wpk_inj : ∀ i : Nat, i < 25 → ∀ k : Nat, k < 25 → i ≠ k → ¬ nI (wpk i) = nI (wpk k) := by decide +kernel
theorem qMW.ld {g : qG} (hW : qMW g) (i : Nat) (hi : i < 25) : qLD g 12 (widx i) (16 + 2 * i) := by
  obtain ⟨f, _, _, _, h⟩ := hW i hi
  exact h
theorem M_ofw {g : qG} (hg : qOK g) (hJ : qJDK g) (hW : qMW g) {h : qH} (i : Nat) (hi : i < 25) : qSpec g 5 0 0 mX12_of [.retAddr (16 + 2 * i)] h (fun r h' => r = some (.int (nI (wpk i))) ∧ h' = h) := by
  obtain ⟨f, h1, h2, h3, _⟩ := hW i hi
  rw [← h3]
  exact M_of hg hJ h1 (wlen_le i hi) h2
/-- which clause a packed word begins -/
def mkind (v : Int32) : Nat := if v = nI (wpk 0) then 0 else if v = nI (wpk 1) then 1 else if v = nI (wpk 2) then 2 else if v = nI (wpk 3) then 3 else if v = nI (wpk 4) then 4 else if v = nI (wpk 5) then 5 else if v = nI (wpk 6) then 6 else if v = nI (wpk 7) then 7 else if v = nI (wpk 8) then 8 else if v = nI (wpk 9) then 9 else if v = nI (wpk 10) then 10 else if v = nI (wpk 11) then 11 else if v = nI (wpk 12) then 12 else 13
set_option maxHeartbeats 1000000 in
theorem M_isClause {g : qG} (hg : qOK g) {h : qH} (hJ : qJDK g) (hW : qMW g) (v : Int32) : qSpec g 6 0 0 mX12_isClause [.int v] h (fun r h' => r = some (.int (qb (decide (mkind v < 13)))) ∧ h' = h) := by
  refine qSpec_run 12 "isClause" false hg mX12_isClause_ok rfl rfl (Nat.le_of_ble_eq_true rfl) (by decide) ?_
  intro run step
  refine step.1 _ _ _ _ _ _ _ sgX12_isClause_0_ok ?_
  refine Or.inl ⟨rfl, 16, (hW.ld 0 (by decide)).choose, (hW.ld 0 (by decide)).choose_spec, ?_⟩
  refine Or.inl ⟨rfl, _, 5, 0, 0, _, Or.inl qi_12_210, ⟨rfl, rfl⟩, rfl, rfl, M_ofw hg hJ hW 0 (by decide), fun y3 h3 hy3 => ?_⟩
  obtain ⟨rfl, hh⟩ := hy3
  rw [hh]
  clear hh
  refine ⟨fun c6 => ?_, fun c6 => ?_⟩
  · have e : decide (mkind v < 13) = true := by rw [mkind, if_pos c6]; rfl
    refine step.1 _ _ _ _ _ _ _ sgX12_isClause_117_ok ?_
    refine step.1 _ _ _ _ _ _ _ sgX12_isClause_122_ok ?_
    refine ⟨.boolean, rfl, rfl, Nat.le_refl _, Nat.le_refl _, ?_⟩
    rw [e]
    exact ⟨rfl, rfl⟩
  · refine Or.inl ⟨rfl, 18, (hW.ld 1 (by decide)).choose, (hW.ld 1 (by decide)).choose_spec, ?_⟩
    refine Or.inl ⟨rfl, _, 5, 0, 0, _, Or.inl qi_12_210, ⟨rfl, rfl⟩, rfl, rfl, M_ofw hg hJ hW 1 (by decide), fun y12 h12 hy12 => ?_⟩
    obtain ⟨rfl, hh⟩ := hy12
    rw [hh]
    clear hh
    refine ⟨fun c15 => ?_, fun c15 => ?_⟩
    · have e : decide (mkind v < 13) = true := by rw [mkind, if_neg c6, if_pos c15]; rfl
      refine step.1 _ _ _ _ _ _ _ sgX12_isClause_117_ok ?_
      refine step.1 _ _ _ _ _ _ _ sgX12_isClause_122_ok ?_
      refine ⟨.boolean, rfl, rfl, Nat.le_refl _, Nat.le_refl _, ?_⟩
      rw [e]
      exact ⟨rfl, rfl⟩
    · refine Or.inl ⟨rfl, 20, (hW.ld 2 (by decide)).choose, (hW.ld 2 (by decide)).choose_spec, ?_⟩
      refine Or.inl ⟨rfl, _, 5, 0, 0, _, Or.inl qi_12_210, ⟨rfl, rfl⟩, rfl, rfl, M_ofw hg hJ hW 2 (by decide), fun y21 h21 hy21 => ?_⟩
      obtain ⟨rfl, hh⟩ := hy21
      rw [hh]
      clear hh
      refine ⟨fun c24 => ?_, fun c24 => ?_⟩
      · have e : decide (mkind v < 13) = true := by rw [mkind, if_neg c6, if_neg c15, if_pos c24]; rfl
        refine step.1 _ _ _ _ _ _ _ sgX12_isClause_117_ok ?_
        refine step.1 _ _ _ _ _ _ _ sgX12_isClause_122_ok ?_
        refine ⟨.boolean, rfl, rfl, Nat.le_refl _, Nat.le_refl _, ?_⟩
        rw [e]
        exact ⟨rfl, rfl⟩
      · refine Or.inl ⟨rfl, 22, (hW.ld 3 (by decide)).choose, (hW.ld 3 (by decide)).choose_spec, ?_⟩
        refine Or.inl ⟨rfl, _, 5, 0, 0, _, Or.inl qi_12_210, ⟨rfl, rfl⟩, rfl, rfl, M_ofw hg hJ hW 3 (by decide), fun y30 h30 hy30 => ?_⟩
        obtain ⟨rfl, hh⟩ := hy30
        rw [hh]
        clear hh
        refine ⟨fun c33 => ?_, fun c33 => ?_⟩
        · have e : decide (mkind v < 13) = true := by rw [mkind, if_neg c6, if_neg c15, if_neg c24, if_pos c33]; rfl
          refine step.1 _ _ _ _ _ _ _ sgX12_isClause_117_ok ?_
          refine step.1 _ _ _ _ _ _ _ sgX12_isClause_122_ok ?_
          refine ⟨.boolean, rfl, rfl, Nat.le_refl _, Nat.le_refl _, ?_⟩
          rw [e]
          exact ⟨rfl, rfl⟩
        · refine Or.inl ⟨rfl, 24, (hW.ld 4 (by decide)).choose, (hW.ld 4 (by decide)).choose_spec, ?_⟩
          refine Or.inl ⟨rfl, _, 5, 0, 0, _, Or.inl qi_12_210, ⟨rfl, rfl⟩, rfl, rfl, M_ofw hg hJ hW 4 (by decide), fun y39 h39 hy39 => ?_⟩
          obtain ⟨rfl, hh⟩ := hy39
          rw [hh]
          clear hh
          refine ⟨fun c42 => ?_, fun c42 => ?_⟩
          · have e : decide (mkind v < 13) = true := by rw [mkind, if_neg c6, if_neg c15, if_neg c24, if_neg c33, if_pos c42]; rfl
            refine step.1 _ _ _ _ _ _ _ sgX12_isClause_117_ok ?_
            refine step.1 _ _ _ _ _ _ _ sgX12_isClause_122_ok ?_
            refine ⟨.boolean, rfl, rfl, Nat.le_refl _, Nat.le_refl _, ?_⟩
            rw [e]
            exact ⟨rfl, rfl⟩
          · refine Or.inl ⟨rfl, 26, (hW.ld 5 (by decide)).choose, (hW.ld 5 (by decide)).choose_spec, ?_⟩
            refine Or.inl ⟨rfl, _, 5, 0, 0, _, Or.inl qi_12_210, ⟨rfl, rfl⟩, rfl, rfl, M_ofw hg hJ hW 5 (by decide), fun y48 h48 hy48 => ?_⟩
            obtain ⟨rfl, hh⟩ := hy48
            rw [hh]
            clear hh
            refine ⟨fun c51 => ?_, fun c51 => ?_⟩
            · have e : decide (mkind v < 13) = true := by rw [mkind, if_neg c6, if_neg c15, if_neg c24, if_neg c33, if_neg c42, if_pos c51]; rfl
              refine step.1 _ _ _ _ _ _ _ sgX12_isClause_117_ok ?_
              refine step.1 _ _ _ _ _ _ _ sgX12_isClause_122_ok ?_
              refine ⟨.boolean, rfl, rfl, Nat.le_refl _, Nat.le_refl _, ?_⟩
              rw [e]
              exact ⟨rfl, rfl⟩
            · refine Or.inl ⟨rfl, 28, (hW.ld 6 (by decide)).choose, (hW.ld 6 (by decide)).choose_spec, ?_⟩
              refine Or.inl ⟨rfl, _, 5, 0, 0, _, Or.inl qi_12_210, ⟨rfl, rfl⟩, rfl, rfl, M_ofw hg hJ hW 6 (by decide), fun y57 h57 hy57 => ?_⟩
              obtain ⟨rfl, hh⟩ := hy57
              rw [hh]
              clear hh
              refine ⟨fun c60 => ?_, fun c60 => ?_⟩
              · have e : decide (mkind v < 13) = true := by rw [mkind, if_neg c6, if_neg c15, if_neg c24, if_neg c33, if_neg c42, if_neg c51, if_pos c60]; rfl
                refine step.1 _ _ _ _ _ _ _ sgX12_isClause_117_ok ?_
                refine step.1 _ _ _ _ _ _ _ sgX12_isClause_122_ok ?_
                refine ⟨.boolean, rfl, rfl, Nat.le_refl _, Nat.le_refl _, ?_⟩
                rw [e]
                exact ⟨rfl, rfl⟩
              · refine Or.inl ⟨rfl, 30, (hW.ld 7 (by decide)).choose, (hW.ld 7 (by decide)).choose_spec, ?_⟩
                refine Or.inl ⟨rfl, _, 5, 0, 0, _, Or.inl qi_12_210, ⟨rfl, rfl⟩, rfl, rfl, M_ofw hg hJ hW 7 (by decide), fun y66 h66 hy66 => ?_⟩
                obtain ⟨rfl, hh⟩ := hy66
                rw [hh]
                clear hh
                refine ⟨fun c69 => ?_, fun c69 => ?_⟩
                · have e : decide (mkind v < 13) = true := by rw [mkind, if_neg c6, if_neg c15, if_neg c24, if_neg c33, if_neg c42, if_neg c51, if_neg c60, if_pos c69]; rfl
                  refine step.1 _ _ _ _ _ _ _ sgX12_isClause_117_ok ?_
                  refine step.1 _ _ _ _ _ _ _ sgX12_isClause_122_ok ?_
                  refine ⟨.boolean, rfl, rfl, Nat.le_refl _, Nat.le_refl _, ?_⟩
                  rw [e]
                  exact ⟨rfl, rfl⟩
                · refine Or.inl ⟨rfl, 32, (hW.ld 8 (by decide)).choose, (hW.ld 8 (by decide)).choose_spec, ?_⟩
                  refine Or.inl ⟨rfl, _, 5, 0, 0, _, Or.inl qi_12_210, ⟨rfl, rfl⟩, rfl, rfl, M_ofw hg hJ hW 8 (by decide), fun y75 h75 hy75 => ?_⟩
                  obtain ⟨rfl, hh⟩ := hy75
                  rw [hh]
                  clear hh
                  refine ⟨fun c78 => ?_, fun c78 => ?_⟩
                  · have e : decide (mkind v < 13) = true := by rw [mkind, if_neg c6, if_neg c15, if_neg c24, if_neg c33, if_neg c42, if_neg c51, if_neg c60, if_neg c69, if_pos c78]; rfl
                    refine step.1 _ _ _ _ _ _ _ sgX12_isClause_117_ok ?_
                    refine step.1 _ _ _ _ _ _ _ sgX12_isClause_122_ok ?_
                    refine ⟨.boolean, rfl, rfl, Nat.le_refl _, Nat.le_refl _, ?_⟩
                    rw [e]
                    exact ⟨rfl, rfl⟩
                  · refine Or.inl ⟨rfl, 34, (hW.ld 9 (by decide)).choose, (hW.ld 9 (by decide)).choose_spec, ?_⟩
                    refine Or.inl ⟨rfl, _, 5, 0, 0, _, Or.inl qi_12_210, ⟨rfl, rfl⟩, rfl, rfl, M_ofw hg hJ hW 9 (by decide), fun y84 h84 hy84 => ?_⟩
                    obtain ⟨rfl, hh⟩ := hy84
                    rw [hh]
                    clear hh
                    refine ⟨fun c87 => ?_, fun c87 => ?_⟩
                    · have e : decide (mkind v < 13) = true := by rw [mkind, if_neg c6, if_neg c15, if_neg c24, if_neg c33, if_neg c42, if_neg c51, if_neg c60, if_neg c69, if_neg c78, if_pos c87]; rfl
                      refine step.1 _ _ _ _ _ _ _ sgX12_isClause_117_ok ?_
                      refine step.1 _ _ _ _ _ _ _ sgX12_isClause_122_ok ?_
                      refine ⟨.boolean, rfl, rfl, Nat.le_refl _, Nat.le_refl _, ?_⟩
                      rw [e]
                      exact ⟨rfl, rfl⟩
                    · refine Or.inl ⟨rfl, 36, (hW.ld 10 (by decide)).choose, (hW.ld 10 (by decide)).choose_spec, ?_⟩
                      refine Or.inl ⟨rfl, _, 5, 0, 0, _, Or.inl qi_12_210, ⟨rfl, rfl⟩, rfl, rfl, M_ofw hg hJ hW 10 (by decide), fun y93 h93 hy93 => ?_⟩
                      obtain ⟨rfl, hh⟩ := hy93
                      rw [hh]
                      clear hh
                      refine ⟨fun c96 => ?_, fun c96 => ?_⟩
                      · have e : decide (mkind v < 13) = true := by rw [mkind, if_neg c6, if_neg c15, if_neg c24, if_neg c33, if_neg c42, if_neg c51, if_neg c60, if_neg c69, if_neg c78, if_neg c87, if_pos c96]; rfl
                        refine step.1 _ _ _ _ _ _ _ sgX12_isClause_117_ok ?_
                        refine step.1 _ _ _ _ _ _ _ sgX12_isClause_122_ok ?_
                        refine ⟨.boolean, rfl, rfl, Nat.le_refl _, Nat.le_refl _, ?_⟩
                        rw [e]
                        exact ⟨rfl, rfl⟩
                      · refine Or.inl ⟨rfl, 38, (hW.ld 11 (by decide)).choose, (hW.ld 11 (by decide)).choose_spec, ?_⟩
                        refine Or.inl ⟨rfl, _, 5, 0, 0, _, Or.inl qi_12_210, ⟨rfl, rfl⟩, rfl, rfl, M_ofw hg hJ hW 11 (by decide), fun y102 h102 hy102 => ?_⟩
                        obtain ⟨rfl, hh⟩ := hy102
                        rw [hh]
                        clear hh
                        refine ⟨fun c105 => ?_, fun c105 => ?_⟩
                        · have e : decide (mkind v < 13) = true := by rw [mkind, if_neg c6, if_neg c15, if_neg c24, if_neg c33, if_neg c42, if_neg c51, if_neg c60, if_neg c69, if_neg c78, if_neg c87, if_neg c96, if_pos c105]; rfl
                          refine step.1 _ _ _ _ _ _ _ sgX12_isClause_117_ok ?_
                          refine step.1 _ _ _ _ _ _ _ sgX12_isClause_122_ok ?_
                          refine ⟨.boolean, rfl, rfl, Nat.le_refl _, Nat.le_refl _, ?_⟩
                          rw [e]
                          exact ⟨rfl, rfl⟩
                        · refine Or.inl ⟨rfl, 40, (hW.ld 12 (by decide)).choose, (hW.ld 12 (by decide)).choose_spec, ?_⟩
                          refine Or.inl ⟨rfl, _, 5, 0, 0, _, Or.inl qi_12_210, ⟨rfl, rfl⟩, rfl, rfl, M_ofw hg hJ hW 12 (by decide), fun y111 h111 hy111 => ?_⟩
                          obtain ⟨rfl, hh⟩ := hy111
                          rw [hh]
                          clear hh
                          refine ⟨fun c114 => ?_, fun c114 => ?_⟩
                          · have e : decide (mkind v < 13) = false := by rw [mkind, if_neg c6, if_neg c15, if_neg c24, if_neg c33, if_neg c42, if_neg c51, if_neg c60, if_neg c69, if_neg c78, if_neg c87, if_neg c96, if_neg c105, if_neg c114]; rfl
                            refine step.1 _ _ _ _ _ _ _ sgX12_isClause_121_ok ?_
                            refine step.1 _ _ _ _ _ _ _ sgX12_isClause_122_ok ?_
                            refine ⟨.boolean, rfl, rfl, Nat.le_refl _, Nat.le_refl _, ?_⟩
                            rw [e]
                            exact ⟨rfl, rfl⟩
                          · have e : decide (mkind v < 13) = true := by rw [mkind, if_neg c6, if_neg c15, if_neg c24, if_neg c33, if_neg c42, if_neg c51, if_neg c60, if_neg c69, if_neg c78, if_neg c87, if_neg c96, if_neg c105, if_pos c114]; rfl
                            refine step.1 _ _ _ _ _ _ _ sgX12_isClause_117_ok ?_
                            refine step.1 _ _ _ _ _ _ _ sgX12_isClause_122_ok ?_
                            refine ⟨.boolean, rfl, rfl, Nat.le_refl _, Nat.le_refl _, ?_⟩
                            rw [e]
                            exact ⟨rfl, rfl⟩
theorem nI_m1 {N : Nat} (hN : N ≤ 10) : (nI N - 1 : Int32) ≤ 9999 := by
  rcases (show N = 0 ∨ N = 1 ∨ N = 2 ∨ N = 3 ∨ N = 4 ∨ N = 5 ∨ N = 6 ∨ N = 7 ∨ N = 8 ∨ N = 9 ∨ N = 10 by omega) with rfl | rfl | rfl | rfl | rfl | rfl | rfl | rfl | rfl | rfl | rfl <;> decide
theorem M_readDoor {g : qG} (hg : qOK g) {h : qH} {x : Nat → Int32} {y : Nat → Int64} (hM : h.2 63 = some (M63 x y)) {F : Nat → Int32} {n : Nat} {s : PS} (hT : mT x n s) (hB : mB h F) {N : Nat} (hx : x 14 = nI N) (hN : N ≤ 10) : qSpec g 3 0 0 mX12_readDoor [.ref 63] h (fun r h' => r = some (.int (pnum F n 0 (nI N - 1) s).2) ∧ mP h h' x y [4, 5, 6] n (pnumS F n 0 (nI N - 1) s)) := by
  refine qSpec_run 12 "readDoor" false hg mX12_readDoor_ok rfl rfl (Nat.le_of_ble_eq_true rfl) (by decide) ?_
  intro run step
  refine step.1 _ _ _ _ _ _ _ sgX12_readDoor_0_ok ?_
  refine ⟨by decide, _, _, hM, rfl, ?_⟩
  refine Or.inl ⟨rfl, _, 2, 0, 0, _, _, _, qi_12_202, ⟨rfl, rfl⟩, ⟨hM, rfl⟩, rfl, rfl, (by rw [hx]; exact M_num hg hM hT hB 0 (nI_m1 hN)), fun y8 h8 hy8 => ?_⟩
  obtain ⟨rfl, hP⟩ := hy8
  refine ⟨.int, rfl, rfl, Nat.le_refl _, Nat.le_refl _, ?_⟩
  exact ⟨rfl, hP⟩
theorem M_readSinger {g : qG} (hg : qOK g) {h : qH} {x : Nat → Int32} {y : Nat → Int64} (hM : h.2 63 = some (M63 x y)) {F : Nat → Int32} {n : Nat} {s : PS} (hT : mT x n s) (hB : mB h F) {N : Nat} (hx : x 15 = nI N) (hN : N ≤ 10) : qSpec g 3 0 0 mX12_readSinger [.ref 63] h (fun r h' => r = some (.int (pnum F n 0 (nI N - 1) s).2) ∧ mP h h' x y [4, 5, 6] n (pnumS F n 0 (nI N - 1) s)) := by
  refine qSpec_run 12 "readSinger" false hg mX12_readSinger_ok rfl rfl (Nat.le_of_ble_eq_true rfl) (by decide) ?_
  intro run step
  refine step.1 _ _ _ _ _ _ _ sgX12_readSinger_0_ok ?_
  refine ⟨by decide, _, _, hM, rfl, ?_⟩
  refine Or.inl ⟨rfl, _, 2, 0, 0, _, _, _, qi_12_202, ⟨rfl, rfl⟩, ⟨hM, rfl⟩, rfl, rfl, (by rw [hx]; exact M_num hg hM hT hB 0 (nI_m1 hN)), fun y8 h8 hy8 => ?_⟩
  obtain ⟨rfl, hP⟩ := hy8
  refine ⟨.int, rfl, rfl, Nat.le_refl _, Nat.le_refl _, ?_⟩
  exact ⟨rfl, hP⟩
end Q10E
