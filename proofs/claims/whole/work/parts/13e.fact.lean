section Q13E
/-- the letters of the longest word -/
def sgw (i : Nat) : Nat := match i with
  | 0 => 115
  | 1 => 105
  | 2 => 110
  | 3 => 103
  | 4 => 101
  | 5 => 114
  | _ => 115
def qSG (g : qG) : Prop := (∃ f : Nat → Nat, qSTR g 66 67 7 f ∧ ∀ i : Nat, i < 7 → f i = sgw i) ∧ qLD g 12 294 66
theorem std_c {F : Nat → Int32} {n len q : Nat} {f f' : Nat → Nat} (h : ∀ i : Nat, i < len → f i = f' i) : std F n f len q = std F n f' len q := by
  unfold std
  congr 1
  rw [decide_eq_decide]
  exact ⟨fun z k hk => by rw [← h k hk]; exact z k hk, fun z k hk => by rw [h k hk]; exact z k hk⟩
/-- which fact a packed word names -/
def mfw (v : Int32) : Int32 := if v = nI (wpk 13) then 0 else if v = nI (wpk 14) then 1 else if v = nI (wpk 15) then 2 else if v = nI (wpk 16) then 3 else if v = nI (wpk 5) then 5 else if v = nI (wpk 6) then 6 else if v = nI (wpk 17) then 7 else if v = nI (wpk 18) then 8 else if v = nI (wpk 19) then 9 else -1
/-- which fact is named here -/
def mfact (F : Nat → Int32) (n q : Nat) : Int32 := if std F n sgw 7 q = true then 4 else mfw (mword F n q)
set_option maxHeartbeats 1000000 in
theorem M_factHere {g : qG} (hg : qOK g) {h : qH} {x : Nat → Int32} {y : Nat → Int64} (hM : h.2 63 = some (M63 x y)) {F : Nat → Int32} {n a : Nat} (hT : mT x n (.inr a)) (hB : mB h F) (hJ : qJDK g) (hW : qMW g) (hSG : qSG g) : qSpec g 6 0 0 mX12_factHere [.ref 63] h (fun r h' => r = some (.int (mfact F n (sk F n a))) ∧ mP h h' x y [4] n (.inr (sk F n a))) := by
  refine qSpec_run 12 "factHere" false hg mX12_factHere_ok rfl rfl (Nat.le_of_ble_eq_true rfl) (by decide) ?_
  intro run step
  obtain ⟨f, hsf, hfe⟩ := id hSG.1
  refine step.1 _ _ _ _ _ _ _ sgX12_factHere_0_ok ?_
  refine Or.inl ⟨rfl, 66, hSG.2.choose, hSG.2.choose_spec, ?_⟩
  refine Or.inl ⟨rfl, _, 5, 0, 0, _, _, _, qi_12_295, ⟨rfl, rfl⟩, ⟨hM, rfl⟩, rfl, rfl, M_standsHere hg hM hT hB hJ hsf (by decide), fun y4 h4 hy4 => ?_⟩
  obtain ⟨rfl, hP4⟩ := hy4
  obtain ⟨x1, hM1, hs1, hx1, hT1⟩ := id hP4
  have hB1 := hB.sm hs1 (by decide)
  refine ⟨fun c7 => ?_, fun c7 => ?_⟩
  · have hst : std F n sgw 7 (sk F n a) = false := by rw [← std_c hfe]; exact qb_0.mp c7
    refine step.1 _ _ _ _ _ _ _ sgX12_factHere_12_ok ?_
    refine Or.inl ⟨rfl, _, 2, 0, 0, _, _, _, qi_12_257, ⟨rfl, rfl⟩, ⟨hM1, rfl⟩, rfl, rfl, M_word hg hM1 hT1 hB1, fun y13 h13 hy13 => ?_⟩
    obtain ⟨rfl, hP13⟩ := hy13
    have hPQ : mP h h13 x y [4] n (.inr (sk F n a)) := by
      obtain ⟨x2, g1, g2, g3, g4⟩ := hP13
      rw [sk_sk F hT.2.2.2.2] at g4
      exact ⟨x2, g1, same.tr (l := [63]) hs1 g2 (by simp) (by simp), fun k hk => (g3 k hk).trans (hx1 k hk), g4⟩
    refine Or.inl ⟨rfl, 42, (hW.ld 13 (by decide)).choose, (hW.ld 13 (by decide)).choose_spec, ?_⟩
    refine Or.inl ⟨rfl, _, 5, 0, 0, _, Or.inl qi_12_210, ⟨rfl, rfl⟩, rfl, rfl, M_ofw hg hJ hW 13 (by decide), fun y21 h21 hy21 => ?_⟩
    obtain ⟨rfl, hh⟩ := hy21
    rw [hh]
    clear hh
    refine ⟨fun c24 => ?_, fun c24 => ?_⟩
    · have d24 : ¬ mword F n (sk F n a) = nI (wpk 13) := by rw [sk_sk F hT.2.2.2.2] at c24; exact c24
      refine step.1 _ _ _ _ _ _ _ sgX12_factHere_31_ok ?_
      refine Or.inl ⟨rfl, 44, (hW.ld 14 (by decide)).choose, (hW.ld 14 (by decide)).choose_spec, ?_⟩
      refine Or.inl ⟨rfl, _, 5, 0, 0, _, Or.inl qi_12_210, ⟨rfl, rfl⟩, rfl, rfl, M_ofw hg hJ hW 14 (by decide), fun y35 h35 hy35 => ?_⟩
      obtain ⟨rfl, hh⟩ := hy35
      rw [hh]
      clear hh
      refine ⟨fun c38 => ?_, fun c38 => ?_⟩
      · have d38 : ¬ mword F n (sk F n a) = nI (wpk 14) := by rw [sk_sk F hT.2.2.2.2] at c38; exact c38
        refine step.1 _ _ _ _ _ _ _ sgX12_factHere_45_ok ?_
        refine Or.inl ⟨rfl, 46, (hW.ld 15 (by decide)).choose, (hW.ld 15 (by decide)).choose_spec, ?_⟩
        refine Or.inl ⟨rfl, _, 5, 0, 0, _, Or.inl qi_12_210, ⟨rfl, rfl⟩, rfl, rfl, M_ofw hg hJ hW 15 (by decide), fun y49 h49 hy49 => ?_⟩
        obtain ⟨rfl, hh⟩ := hy49
        rw [hh]
        clear hh
        refine ⟨fun c52 => ?_, fun c52 => ?_⟩
        · have d52 : ¬ mword F n (sk F n a) = nI (wpk 15) := by rw [sk_sk F hT.2.2.2.2] at c52; exact c52
          refine step.1 _ _ _ _ _ _ _ sgX12_factHere_59_ok ?_
          refine Or.inl ⟨rfl, 48, (hW.ld 16 (by decide)).choose, (hW.ld 16 (by decide)).choose_spec, ?_⟩
          refine Or.inl ⟨rfl, _, 5, 0, 0, _, Or.inl qi_12_210, ⟨rfl, rfl⟩, rfl, rfl, M_ofw hg hJ hW 16 (by decide), fun y63 h63 hy63 => ?_⟩
          obtain ⟨rfl, hh⟩ := hy63
          rw [hh]
          clear hh
          refine ⟨fun c66 => ?_, fun c66 => ?_⟩
          · have d66 : ¬ mword F n (sk F n a) = nI (wpk 16) := by rw [sk_sk F hT.2.2.2.2] at c66; exact c66
            refine step.1 _ _ _ _ _ _ _ sgX12_factHere_73_ok ?_
            refine Or.inl ⟨rfl, 26, (hW.ld 5 (by decide)).choose, (hW.ld 5 (by decide)).choose_spec, ?_⟩
            refine Or.inl ⟨rfl, _, 5, 0, 0, _, Or.inl qi_12_210, ⟨rfl, rfl⟩, rfl, rfl, M_ofw hg hJ hW 5 (by decide), fun y76 h76 hy76 => ?_⟩
            obtain ⟨rfl, hh⟩ := hy76
            rw [hh]
            clear hh
            refine ⟨fun c79 => ?_, fun c79 => ?_⟩
            · have d79 : ¬ mword F n (sk F n a) = nI (wpk 5) := by rw [sk_sk F hT.2.2.2.2] at c79; exact c79
              refine step.1 _ _ _ _ _ _ _ sgX12_factHere_86_ok ?_
              refine Or.inl ⟨rfl, 28, (hW.ld 6 (by decide)).choose, (hW.ld 6 (by decide)).choose_spec, ?_⟩
              refine Or.inl ⟨rfl, _, 5, 0, 0, _, Or.inl qi_12_210, ⟨rfl, rfl⟩, rfl, rfl, M_ofw hg hJ hW 6 (by decide), fun y89 h89 hy89 => ?_⟩
              obtain ⟨rfl, hh⟩ := hy89
              rw [hh]
              clear hh
              refine ⟨fun c92 => ?_, fun c92 => ?_⟩
              · have d92 : ¬ mword F n (sk F n a) = nI (wpk 6) := by rw [sk_sk F hT.2.2.2.2] at c92; exact c92
                refine step.1 _ _ _ _ _ _ _ sgX12_factHere_100_ok ?_
                refine Or.inl ⟨rfl, 50, (hW.ld 17 (by decide)).choose, (hW.ld 17 (by decide)).choose_spec, ?_⟩
                refine Or.inl ⟨rfl, _, 5, 0, 0, _, Or.inl qi_12_210, ⟨rfl, rfl⟩, rfl, rfl, M_ofw hg hJ hW 17 (by decide), fun y104 h104 hy104 => ?_⟩
                obtain ⟨rfl, hh⟩ := hy104
                rw [hh]
                clear hh
                refine ⟨fun c107 => ?_, fun c107 => ?_⟩
                · have d107 : ¬ mword F n (sk F n a) = nI (wpk 17) := by rw [sk_sk F hT.2.2.2.2] at c107; exact c107
                  refine step.1 _ _ _ _ _ _ _ sgX12_factHere_115_ok ?_
                  refine Or.inl ⟨rfl, 52, (hW.ld 18 (by decide)).choose, (hW.ld 18 (by decide)).choose_spec, ?_⟩
                  refine Or.inl ⟨rfl, _, 5, 0, 0, _, Or.inl qi_12_210, ⟨rfl, rfl⟩, rfl, rfl, M_ofw hg hJ hW 18 (by decide), fun y119 h119 hy119 => ?_⟩
                  obtain ⟨rfl, hh⟩ := hy119
                  rw [hh]
                  clear hh
                  refine ⟨fun c122 => ?_, fun c122 => ?_⟩
                  · have d122 : ¬ mword F n (sk F n a) = nI (wpk 18) := by rw [sk_sk F hT.2.2.2.2] at c122; exact c122
                    refine step.1 _ _ _ _ _ _ _ sgX12_factHere_130_ok ?_
                    refine Or.inl ⟨rfl, 54, (hW.ld 19 (by decide)).choose, (hW.ld 19 (by decide)).choose_spec, ?_⟩
                    refine Or.inl ⟨rfl, _, 5, 0, 0, _, Or.inl qi_12_210, ⟨rfl, rfl⟩, rfl, rfl, M_ofw hg hJ hW 19 (by decide), fun y134 h134 hy134 => ?_⟩
                    obtain ⟨rfl, hh⟩ := hy134
                    rw [hh]
                    clear hh
                    refine ⟨fun c137 => ?_, fun c137 => ?_⟩
                    · have d137 : ¬ mword F n (sk F n a) = nI (wpk 19) := by rw [sk_sk F hT.2.2.2.2] at c137; exact c137
                      refine step.1 _ _ _ _ _ _ _ sgX12_factHere_145_ok ?_
                      refine step.1 _ _ _ _ _ _ _ sgX12_factHere_146_ok ?_
                      refine ⟨.int, rfl, rfl, Nat.le_refl _, Nat.le_refl _, ?_⟩
                      exact ⟨by rw [mfact, if_neg (by rw [hst]; decide), mfw, if_neg d24, if_neg d38, if_neg d52, if_neg d66, if_neg d79, if_neg d92, if_neg d107, if_neg d122, if_neg d137], hPQ⟩
                    · have d137 : mword F n (sk F n a) = nI (wpk 19) := by rw [sk_sk F hT.2.2.2.2] at c137; exact c137
                      refine step.1 _ _ _ _ _ _ _ sgX12_factHere_146_ok ?_
                      refine ⟨.int, rfl, rfl, Nat.le_refl _, Nat.le_refl _, ?_⟩
                      exact ⟨by rw [mfact, if_neg (by rw [hst]; decide), mfw, if_neg d24, if_neg d38, if_neg d52, if_neg d66, if_neg d79, if_neg d92, if_neg d107, if_neg d122, if_pos d137], hPQ⟩
                  · have d122 : mword F n (sk F n a) = nI (wpk 18) := by rw [sk_sk F hT.2.2.2.2] at c122; exact c122
                    refine step.1 _ _ _ _ _ _ _ sgX12_factHere_146_ok ?_
                    refine ⟨.int, rfl, rfl, Nat.le_refl _, Nat.le_refl _, ?_⟩
                    exact ⟨by rw [mfact, if_neg (by rw [hst]; decide), mfw, if_neg d24, if_neg d38, if_neg d52, if_neg d66, if_neg d79, if_neg d92, if_neg d107, if_pos d122], hPQ⟩
                · have d107 : mword F n (sk F n a) = nI (wpk 17) := by rw [sk_sk F hT.2.2.2.2] at c107; exact c107
                  refine step.1 _ _ _ _ _ _ _ sgX12_factHere_146_ok ?_
                  refine ⟨.int, rfl, rfl, Nat.le_refl _, Nat.le_refl _, ?_⟩
                  exact ⟨by rw [mfact, if_neg (by rw [hst]; decide), mfw, if_neg d24, if_neg d38, if_neg d52, if_neg d66, if_neg d79, if_neg d92, if_pos d107], hPQ⟩
              · have d92 : mword F n (sk F n a) = nI (wpk 6) := by rw [sk_sk F hT.2.2.2.2] at c92; exact c92
                refine step.1 _ _ _ _ _ _ _ sgX12_factHere_146_ok ?_
                refine ⟨.int, rfl, rfl, Nat.le_refl _, Nat.le_refl _, ?_⟩
                exact ⟨by rw [mfact, if_neg (by rw [hst]; decide), mfw, if_neg d24, if_neg d38, if_neg d52, if_neg d66, if_neg d79, if_pos d92], hPQ⟩
            · have d79 : mword F n (sk F n a) = nI (wpk 5) := by rw [sk_sk F hT.2.2.2.2] at c79; exact c79
              refine step.1 _ _ _ _ _ _ _ sgX12_factHere_146_ok ?_
              refine ⟨.int, rfl, rfl, Nat.le_refl _, Nat.le_refl _, ?_⟩
              exact ⟨by rw [mfact, if_neg (by rw [hst]; decide), mfw, if_neg d24, if_neg d38, if_neg d52, if_neg d66, if_pos d79], hPQ⟩
          · have d66 : mword F n (sk F n a) = nI (wpk 16) := by rw [sk_sk F hT.2.2.2.2] at c66; exact c66
            refine step.1 _ _ _ _ _ _ _ sgX12_factHere_146_ok ?_
            refine ⟨.int, rfl, rfl, Nat.le_refl _, Nat.le_refl _, ?_⟩
            exact ⟨by rw [mfact, if_neg (by rw [hst]; decide), mfw, if_neg d24, if_neg d38, if_neg d52, if_pos d66], hPQ⟩
        · have d52 : mword F n (sk F n a) = nI (wpk 15) := by rw [sk_sk F hT.2.2.2.2] at c52; exact c52
          refine step.1 _ _ _ _ _ _ _ sgX12_factHere_146_ok ?_
          refine ⟨.int, rfl, rfl, Nat.le_refl _, Nat.le_refl _, ?_⟩
          exact ⟨by rw [mfact, if_neg (by rw [hst]; decide), mfw, if_neg d24, if_neg d38, if_pos d52], hPQ⟩
      · have d38 : mword F n (sk F n a) = nI (wpk 14) := by rw [sk_sk F hT.2.2.2.2] at c38; exact c38
        refine step.1 _ _ _ _ _ _ _ sgX12_factHere_146_ok ?_
        refine ⟨.int, rfl, rfl, Nat.le_refl _, Nat.le_refl _, ?_⟩
        exact ⟨by rw [mfact, if_neg (by rw [hst]; decide), mfw, if_neg d24, if_pos d38], hPQ⟩
    · have d24 : mword F n (sk F n a) = nI (wpk 13) := by rw [sk_sk F hT.2.2.2.2] at c24; exact c24
      refine step.1 _ _ _ _ _ _ _ sgX12_factHere_146_ok ?_
      refine ⟨.int, rfl, rfl, Nat.le_refl _, Nat.le_refl _, ?_⟩
      exact ⟨by rw [mfact, if_neg (by rw [hst]; decide), mfw, if_pos d24], hPQ⟩
  · have hst : std F n sgw 7 (sk F n a) = true := by rw [← std_c hfe]; exact qb_1.mp c7
    refine ⟨.int, rfl, rfl, Nat.le_refl _, Nat.le_refl _, ?_⟩
    exact ⟨by rw [mfact, if_pos hst], hP4⟩
end Q13E
