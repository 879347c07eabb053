section Q09L
def pre (n : Nat) (f : Nat → Option qE) : Prop := ∀ j : Nat, 1 ≤ j → j < n → j ≠ 7 → ∃ e : qE, f j = some e ∧ cel S0 j e
theorem pre.ext {n m : Nat} {f f1 : Nat → Option qE} (hp : pre n f) (h : ∀ j : Nat, 1 ≤ j → j < n → ¬ j = 7 → f1 j = f j) (hn : ∀ j : Nat, n ≤ j → j < m → j ≠ 7 → ∃ e : qE, f1 j = some e ∧ cel S0 j e) : pre m f1 := by
  intro j h1 h2 h7
  rcases Nat.lt_or_ge j n with z | z
  · rw [h j h1 z h7]
    exact hp j h1 z h7
  · exact hn j z h2 h7
theorem qT_lk16 : Jvm.Cond.classLink (qown 11) 16 "CarolDoors$Round" ∈ lw_tbl := qat_in (p := (1, 69)) (by decide +kernel)
set_option maxHeartbeats 4000000 in
theorem I_all {g : qG} (hg : qOK g) (hAO : va_AO "CarolDoors$Round" g.2.1) {f : Nat → Option qE} (ho : f 0 = some (.inl (11, qdef 11 17))) : qSpec g 3 62 3671 mX11_init [.ref 0] (1, f) (fun r h' => r = none ∧ h'.1 = 63 ∧ CH h' S0) := by
  refine qSpec_run 11 "<init>" true hg mX11_init_ok rfl rfl (Nat.le_of_ble_eq_true rfl) (by decide) ?_
  intro run step
  have pr : pre 1 f := fun j h1 h2 _ => absurd h2 (by omega)
  refine step.1 _ _ _ _ _ _ _ sgX11_init_0_ok ?_
  refine Or.inr ⟨by decide, rfl, ⟨by decide, by decide⟩, ?_⟩
  refine ⟨Nat.le_of_ble_eq_true rfl, Nat.le_of_ble_eq_true rfl, ?_⟩
  refine ⟨rfl, ?_⟩
  refine Or.inl ⟨rfl, _, 1, 1, 600, _, Or.inr qi_11_9, ⟨rfl, rfl⟩, rfl, rfl, I_tape hg rfl, fun y9 h9 hy9 => ?_⟩
  obtain ⟨rfl, f1, rfl, hk, hT⟩ := hy9
  have ho : f1 0 = some (.inl (11, qdef 11 17)) := (hk 0 (by decide)).trans ho
  have pr : pre 3 f1 := pr.ext (fun j h1 h2 h7 => (hk j (by omega)).trans (by simp only [qup, if_neg (show ¬ j = 1 by omega), if_neg (show ¬ j = 0 by omega), if_neg h7])) (fun j h1 h2 h7 => by
    rcases (show j = 1 ∨ j = 2 by omega) with rfl | rfl
    · exact ⟨_, hT.1, 0, 0, 0, 0, rfl⟩
    · exact ⟨_, hT.2, rfl⟩)
  refine ⟨_, ho, Nat.le_of_ble_eq_true rfl, rfl, ?_⟩
  refine ⟨Nat.le_of_ble_eq_true rfl, Nat.le_of_ble_eq_true rfl, ?_⟩
  refine ⟨rfl, ?_⟩
  refine Or.inl ⟨rfl, _, 1, 3, 230, _, Or.inr qi_11_18, ⟨rfl, rfl⟩, rfl, rfl, I_round_3 hg rfl, fun y20 h20 hy20 => ?_⟩
  obtain ⟨rfl, f1, rfl, hk, hR⟩ := hy20
  have ho : f1 0 = some (.inl (11, (qdef 11 17).set 0 (.ref 1))) := (hk 0 (by decide)).trans rfl
  have pr : pre 7 f1 := pr.ext (fun j h1 h2 h7 => (hk j (by omega)).trans (by simp only [qup, if_neg (show ¬ j = 3 by omega), if_neg (show ¬ j = 0 by omega), if_neg h7])) (fun j h1 h2 h7 => by
    rcases (show j = 3 ∨ j = 4 ∨ j = 5 ∨ j = 6 by omega) with rfl | rfl | rfl | rfl
    · exact ⟨_, hR.1, rfl⟩
    · exact ⟨_, hR.2.1, rfl⟩
    · exact ⟨_, hR.2.2.1, rfl⟩
    · exact ⟨_, hR.2.2.2, rfl⟩)
  refine ⟨_, ho, Nat.le_of_ble_eq_true rfl, rfl, ?_⟩
  refine ⟨RX6, 3, qT_lk16, qT_over, hAO, by decide, rfl, by decide, Nat.le_of_ble_eq_true rfl, Nat.le_of_ble_eq_true rfl, ?_⟩
  refine ⟨_, rfl, Nat.le_of_ble_eq_true rfl, rfl, ?_⟩
  refine step.1 _ _ _ _ _ _ _ sgX11_init_36_ok ?_
  refine ⟨by decide, _, _, rfl, rfl, ?_⟩
  refine ⟨_, _, rfl, rfl, ?_⟩
  refine ⟨fun c42 => absurd c42 (by decide : ¬ (Int32.ofNat 3 ≤ (0 : Int32))), fun _ => ?_⟩
  refine ⟨by decide, _, _, rfl, rfl, ?_⟩
  refine ⟨Nat.le_of_ble_eq_true rfl, Nat.le_of_ble_eq_true rfl, ?_⟩
  refine ⟨rfl, ?_⟩
  refine Or.inl ⟨rfl, _, 1, 3, 230, _, Or.inr qi_11_18, ⟨rfl, rfl⟩, rfl, rfl, I_round_8 hg rfl, fun y54 h54 hy54 => ?_⟩
  obtain ⟨rfl, f1, rfl, hk, hR⟩ := hy54
  have ho : f1 0 = some (.inl (11, (((qdef 11 17).set 0 (.ref 1)).set 1 (.ref 3)).set 2 (.ref 7))) := (hk 0 (by decide)).trans rfl
  have h7 : f1 7 = some (.inr (.inr (.inr (RX6, 3, (fun _ => none))))) := (hk 7 (by decide)).trans rfl
  have pr : pre 12 f1 := (pr.ext (n := 7) (m := 8) (fun j _ _ _ => rfl) (fun j h1 h2 h7 => absurd (show j = 7 by omega) h7)).ext (fun j h1 h2 h7 => (hk j (by omega)).trans (by simp only [qup, if_neg (show ¬ j = 8 by omega), if_neg (show ¬ j = 0 by omega), if_neg h7])) (fun j h1 h2 h7 => by
    rcases (show j = 8 ∨ j = 9 ∨ j = 10 ∨ j = 11 by omega) with rfl | rfl | rfl | rfl
    · exact ⟨_, hR.1, rfl⟩
    · exact ⟨_, hR.2.1, rfl⟩
    · exact ⟨_, hR.2.2.1, rfl⟩
    · exact ⟨_, hR.2.2.2, rfl⟩)
  refine ⟨_, _, _, _, _, _, h7, hR.1, rfl, rfl, (vp_in_nI (by decide) (by decide) : vp_in (nI 0) 3), ?_⟩
  refine step.1 _ _ _ _ _ _ _ sgX11_init_36_ok ?_
  refine ⟨by decide, _, _, ho, rfl, ?_⟩
  refine ⟨_, _, rfl, rfl, ?_⟩
  refine ⟨fun c42 => absurd c42 (by decide : ¬ (Int32.ofNat 3 ≤ (0 + 1 : Int32))), fun _ => ?_⟩
  refine ⟨by decide, _, _, ho, rfl, ?_⟩
  refine ⟨Nat.le_of_ble_eq_true rfl, Nat.le_of_ble_eq_true rfl, ?_⟩
  refine ⟨rfl, ?_⟩
  refine Or.inl ⟨rfl, _, 1, 3, 230, _, Or.inr qi_11_18, ⟨rfl, rfl⟩, rfl, rfl, I_round_12 hg rfl, fun y54 h54 hy54 => ?_⟩
  obtain ⟨rfl, f1, rfl, hk, hR⟩ := hy54
  have ho : f1 0 = some (.inl (11, (((qdef 11 17).set 0 (.ref 1)).set 1 (.ref 3)).set 2 (.ref 7))) := (hk 0 (by decide)).trans ho
  have h7 : f1 7 = some (.inr (.inr (.inr (RX6, 3, va_up (fun _ => none) 0 (some 8))))) := (hk 7 (by decide)).trans rfl
  have pr : pre 16 f1 := pr.ext (fun j h1 h2 h7 => (hk j (by omega)).trans (by simp only [qup, if_neg (show ¬ j = 12 by omega), if_neg (show ¬ j = 0 by omega), if_neg h7])) (fun j h1 h2 h7 => by
    rcases (show j = 12 ∨ j = 13 ∨ j = 14 ∨ j = 15 by omega) with rfl | rfl | rfl | rfl
    · exact ⟨_, hR.1, rfl⟩
    · exact ⟨_, hR.2.1, rfl⟩
    · exact ⟨_, hR.2.2.1, rfl⟩
    · exact ⟨_, hR.2.2.2, rfl⟩)
  refine ⟨_, _, _, _, _, _, h7, hR.1, rfl, rfl, (vp_in_nI (by decide) (by decide) : vp_in (nI 1) 3), ?_⟩
  refine step.1 _ _ _ _ _ _ _ sgX11_init_36_ok ?_
  refine ⟨by decide, _, _, ho, rfl, ?_⟩
  refine ⟨_, _, rfl, rfl, ?_⟩
  refine ⟨fun c42 => absurd c42 (by decide : ¬ (Int32.ofNat 3 ≤ (0 + 1 + 1 : Int32))), fun _ => ?_⟩
  refine ⟨by decide, _, _, ho, rfl, ?_⟩
  refine ⟨Nat.le_of_ble_eq_true rfl, Nat.le_of_ble_eq_true rfl, ?_⟩
  refine ⟨rfl, ?_⟩
  refine Or.inl ⟨rfl, _, 1, 3, 230, _, Or.inr qi_11_18, ⟨rfl, rfl⟩, rfl, rfl, I_round_16 hg rfl, fun y54 h54 hy54 => ?_⟩
  obtain ⟨rfl, f1, rfl, hk, hR⟩ := hy54
  have ho : f1 0 = some (.inl (11, (((qdef 11 17).set 0 (.ref 1)).set 1 (.ref 3)).set 2 (.ref 7))) := (hk 0 (by decide)).trans ho
  have h7 : f1 7 = some (.inr (.inr (.inr (RX6, 3, va_up (va_up (fun _ => none) 0 (some 8)) 1 (some 12))))) := (hk 7 (by decide)).trans rfl
  have pr : pre 20 f1 := pr.ext (fun j h1 h2 h7 => (hk j (by omega)).trans (by simp only [qup, if_neg (show ¬ j = 16 by omega), if_neg (show ¬ j = 0 by omega), if_neg h7])) (fun j h1 h2 h7 => by
    rcases (show j = 16 ∨ j = 17 ∨ j = 18 ∨ j = 19 by omega) with rfl | rfl | rfl | rfl
    · exact ⟨_, hR.1, rfl⟩
    · exact ⟨_, hR.2.1, rfl⟩
    · exact ⟨_, hR.2.2.1, rfl⟩
    · exact ⟨_, hR.2.2.2, rfl⟩)
  refine ⟨_, _, _, _, _, _, h7, hR.1, rfl, rfl, (vp_in_nI (by decide) (by decide) : vp_in (nI 2) 3), ?_⟩
  refine step.1 _ _ _ _ _ _ _ sgX11_init_36_ok ?_
  refine ⟨by decide, _, _, ho, rfl, ?_⟩
  refine ⟨_, _, rfl, rfl, ?_⟩
  refine ⟨fun _ => ?_, fun c42 => absurd c42 (by decide : ¬ ¬ (Int32.ofNat 3 ≤ (0 + 1 + 1 + 1 : Int32)))⟩
  refine step.1 _ _ _ _ _ _ _ sgX11_init_64_ok ?_
  refine ⟨Nat.le_of_ble_eq_true rfl, Nat.le_of_ble_eq_true rfl, ?_⟩
  refine ⟨rfl, ?_⟩
  refine Or.inl ⟨rfl, _, 1, 1, 32, _, Or.inr qi_11_29, ⟨rfl, rfl⟩, rfl, rfl, I_choir_20 hg rfl, fun y69 h69 hy69 => ?_⟩
  obtain ⟨rfl, f1, rfl, hk, hQ⟩ := hy69
  have ho : f1 0 = some (.inl (11, (((qdef 11 17).set 0 (.ref 1)).set 1 (.ref 3)).set 2 (.ref 7))) := (hk 0 (by decide)).trans ho
  have h7 : f1 7 = some (.inr (.inr (.inr (RX6, 3, va_up (va_up (va_up (fun _ => none) 0 (some 8)) 1 (some 12)) 2 (some 16))))) := (hk 7 (by decide)).trans rfl
  have pr : pre 22 f1 := pr.ext (fun j h1 h2 h7 => (hk j (by omega)).trans (by simp only [qup, if_neg (show ¬ j = 20 by omega), if_neg (show ¬ j = 0 by omega), if_neg h7])) (fun j h1 h2 h7 => by
    rcases (show j = 20 ∨ j = 21 by omega) with rfl | rfl
    · exact ⟨_, hQ.1, rfl⟩
    · exact ⟨_, hQ.2, rfl⟩)
  refine ⟨_, ho, Nat.le_of_ble_eq_true rfl, rfl, ?_⟩
  refine ⟨Nat.le_of_ble_eq_true rfl, Nat.le_of_ble_eq_true rfl, ?_⟩
  refine ⟨rfl, ?_⟩
  refine Or.inl ⟨rfl, _, 1, 3, 452, _, Or.inr qi_11_36, ⟨rfl, rfl⟩, rfl, rfl, I_law_22 hg rfl, fun y80 h80 hy80 => ?_⟩
  obtain ⟨rfl, f1, rfl, hk, hL⟩ := hy80
  have ho : f1 0 = some (.inl (11, ((((qdef 11 17).set 0 (.ref 1)).set 1 (.ref 3)).set 2 (.ref 7)).set 3 (.ref 20))) := (hk 0 (by decide)).trans rfl
  have h7 : f1 7 = some (.inr (.inr (.inr (RX6, 3, va_up (va_up (va_up (fun _ => none) 0 (some 8)) 1 (some 12)) 2 (some 16))))) := (hk 7 (by decide)).trans h7
  have pr : pre 26 f1 := pr.ext (fun j h1 h2 h7 => (hk j (by omega)).trans (by simp only [qup, if_neg (show ¬ j = 22 by omega), if_neg (show ¬ j = 0 by omega), if_neg h7])) (fun j h1 h2 h7 => by
    rcases (show j = 22 ∨ j = 23 ∨ j = 24 ∨ j = 25 by omega) with rfl | rfl | rfl | rfl
    · exact ⟨_, hL.1, rfl⟩
    · exact ⟨_, hL.2.1, rfl⟩
    · exact ⟨_, hL.2.2.1, rfl⟩
    · exact ⟨_, hL.2.2.2, _, rfl⟩)
  refine ⟨_, ho, Nat.le_of_ble_eq_true rfl, rfl, ?_⟩
  refine ⟨Nat.le_of_ble_eq_true rfl, Nat.le_of_ble_eq_true rfl, ?_⟩
  refine ⟨rfl, ?_⟩
  refine Or.inl ⟨rfl, _, 1, 3, 452, _, Or.inr qi_11_36, ⟨rfl, rfl⟩, rfl, rfl, I_law_26 hg rfl, fun y91 h91 hy91 => ?_⟩
  obtain ⟨rfl, f1, rfl, hk, hL⟩ := hy91
  have ho : f1 0 = some (.inl (11, (((((qdef 11 17).set 0 (.ref 1)).set 1 (.ref 3)).set 2 (.ref 7)).set 3 (.ref 20)).set 4 (.ref 22))) := (hk 0 (by decide)).trans rfl
  have h7 : f1 7 = some (.inr (.inr (.inr (RX6, 3, va_up (va_up (va_up (fun _ => none) 0 (some 8)) 1 (some 12)) 2 (some 16))))) := (hk 7 (by decide)).trans h7
  have pr : pre 30 f1 := pr.ext (fun j h1 h2 h7 => (hk j (by omega)).trans (by simp only [qup, if_neg (show ¬ j = 26 by omega), if_neg (show ¬ j = 0 by omega), if_neg h7])) (fun j h1 h2 h7 => by
    rcases (show j = 26 ∨ j = 27 ∨ j = 28 ∨ j = 29 by omega) with rfl | rfl | rfl | rfl
    · exact ⟨_, hL.1, rfl⟩
    · exact ⟨_, hL.2.1, rfl⟩
    · exact ⟨_, hL.2.2.1, rfl⟩
    · exact ⟨_, hL.2.2.2, _, rfl⟩)
  refine ⟨_, ho, Nat.le_of_ble_eq_true rfl, rfl, ?_⟩
  refine ⟨Nat.le_of_ble_eq_true rfl, Nat.le_of_ble_eq_true rfl, ?_⟩
  refine ⟨rfl, ?_⟩
  refine Or.inl ⟨rfl, _, 1, 2, 16, _, Or.inr qi_11_46, ⟨rfl, rfl⟩, rfl, rfl, I_book_30 hg rfl, fun y102 h102 hy102 => ?_⟩
  obtain ⟨rfl, f1, rfl, hk, hB⟩ := hy102
  have ho : f1 0 = some (.inl (11, ((((((qdef 11 17).set 0 (.ref 1)).set 1 (.ref 3)).set 2 (.ref 7)).set 3 (.ref 20)).set 4 (.ref 22)).set 5 (.ref 26))) := (hk 0 (by decide)).trans rfl
  have h7 : f1 7 = some (.inr (.inr (.inr (RX6, 3, va_up (va_up (va_up (fun _ => none) 0 (some 8)) 1 (some 12)) 2 (some 16))))) := (hk 7 (by decide)).trans h7
  have pr : pre 33 f1 := pr.ext (fun j h1 h2 h7 => (hk j (by omega)).trans (by simp only [qup, if_neg (show ¬ j = 30 by omega), if_neg (show ¬ j = 0 by omega), if_neg h7])) (fun j h1 h2 h7 => by
    rcases (show j = 30 ∨ j = 31 ∨ j = 32 by omega) with rfl | rfl | rfl
    · exact ⟨_, hB.1, 0, 0, 0, 0, rfl⟩
    · exact ⟨_, hB.2.1, rfl⟩
    · exact ⟨_, hB.2.2, rfl⟩)
  refine ⟨_, ho, Nat.le_of_ble_eq_true rfl, rfl, ?_⟩
  refine ⟨Nat.le_of_ble_eq_true rfl, Nat.le_of_ble_eq_true rfl, ?_⟩
  refine ⟨rfl, ?_⟩
  refine ⟨by decide, _, _, rfl, rfl, ?_⟩
  refine Or.inl ⟨rfl, _, 2, 9, 296, _, Or.inl qi_11_53, ⟨rfl, rfl⟩, rfl, rfl, I_reader hg rfl, fun y117 h117 hy117 => ?_⟩
  obtain ⟨rfl, f1, rfl, hk, hE, hR, hQ, hB⟩ := hy117
  have ho : f1 0 = some (.inl (11, (((((((qdef 11 17).set 0 (.ref 1)).set 1 (.ref 3)).set 2 (.ref 7)).set 3 (.ref 20)).set 4 (.ref 22)).set 5 (.ref 26)).set 6 (.ref 30))) := (hk 0 (by decide)).trans rfl
  have h7 : f1 7 = some (.inr (.inr (.inr (RX6, 3, va_up (va_up (va_up (fun _ => none) 0 (some 8)) 1 (some 12)) 2 (some 16))))) := (hk 7 (by decide)).trans h7
  have pr : pre 43 f1 := pr.ext (fun j h1 h2 h7 => (hk j (by omega)).trans (by simp only [qup, if_neg (show ¬ j = 33 by omega), if_neg (show ¬ j = 0 by omega), if_neg h7])) (fun j h1 h2 h7 => by
    rcases (show j = 33 ∨ j = 34 ∨ j = 35 ∨ j = 36 ∨ j = 37 ∨ j = 38 ∨ j = 39 ∨ j = 40 ∨ j = 41 ∨ j = 42 by omega) with rfl | rfl | rfl | rfl | rfl | rfl | rfl | rfl | rfl | rfl
    · exact ⟨_, hE, rfl⟩
    · exact ⟨_, hR.1, _, _, _, _, _, _, rfl⟩
    · exact ⟨_, hR.2.1, _, rfl⟩
    · exact ⟨_, hR.2.2.1, _, rfl⟩
    · exact ⟨_, hR.2.2.2, _, rfl⟩
    · exact ⟨_, hQ.1, _, rfl⟩
    · exact ⟨_, hQ.2, _, rfl⟩
    · exact ⟨_, hB.1, _, _, _, _, _, rfl⟩
    · exact ⟨_, hB.2.1, _, rfl⟩
    · exact ⟨_, hB.2.2, _, rfl⟩)
  refine ⟨_, ho, Nat.le_of_ble_eq_true rfl, rfl, ?_⟩
  refine ⟨Nat.le_of_ble_eq_true rfl, Nat.le_of_ble_eq_true rfl, ?_⟩
  refine ⟨rfl, ?_⟩
  refine ⟨by decide, _, _, rfl, rfl, ?_⟩
  refine Or.inl ⟨rfl, _, 2, 4, 456, _, Or.inl qi_11_62, ⟨rfl, rfl⟩, rfl, rfl, I_lreader hg rfl, fun y132 h132 hy132 => ?_⟩
  obtain ⟨rfl, f1, rfl, hk, hE, hL⟩ := hy132
  have ho : f1 0 = some (.inl (11, ((((((((qdef 11 17).set 0 (.ref 1)).set 1 (.ref 3)).set 2 (.ref 7)).set 3 (.ref 20)).set 4 (.ref 22)).set 5 (.ref 26)).set 6 (.ref 30)).set 7 (.ref 33))) := (hk 0 (by decide)).trans rfl
  have h7 : f1 7 = some (.inr (.inr (.inr (RX6, 3, va_up (va_up (va_up (fun _ => none) 0 (some 8)) 1 (some 12)) 2 (some 16))))) := (hk 7 (by decide)).trans h7
  have pr : pre 48 f1 := pr.ext (fun j h1 h2 h7 => (hk j (by omega)).trans (by simp only [qup, if_neg (show ¬ j = 43 by omega), if_neg (show ¬ j = 0 by omega), if_neg h7])) (fun j h1 h2 h7 => by
    rcases (show j = 43 ∨ j = 44 ∨ j = 45 ∨ j = 46 ∨ j = 47 by omega) with rfl | rfl | rfl | rfl | rfl
    · exact ⟨_, hE, rfl⟩
    · exact ⟨_, hL.1, _, rfl⟩
    · exact ⟨_, hL.2.1, _, rfl⟩
    · exact ⟨_, hL.2.2.1, _, rfl⟩
    · exact ⟨_, hL.2.2.2, _, rfl⟩)
  refine ⟨_, ho, Nat.le_of_ble_eq_true rfl, rfl, ?_⟩
  refine ⟨Nat.le_of_ble_eq_true rfl, Nat.le_of_ble_eq_true rfl, ?_⟩
  refine ⟨rfl, ?_⟩
  refine ⟨by decide, _, _, rfl, rfl, ?_⟩
  refine ⟨by decide, _, _, rfl, rfl, ?_⟩
  refine ⟨by decide, _, _, rfl, rfl, ?_⟩
  refine Or.inl ⟨rfl, _, 1, 1, 10, _, Or.inl qi_11_69, ⟨rfl, rfl⟩, rfl, rfl, I_visit hg rfl, fun y155 h155 hy155 => ?_⟩
  obtain ⟨rfl, f1, rfl, hk, hV, h49⟩ := hy155
  have ho : f1 0 = some (.inl (11, (((((((((qdef 11 17).set 0 (.ref 1)).set 1 (.ref 3)).set 2 (.ref 7)).set 3 (.ref 20)).set 4 (.ref 22)).set 5 (.ref 26)).set 6 (.ref 30)).set 7 (.ref 33)).set 8 (.ref 43))) := (hk 0 (by decide)).trans rfl
  have h7 : f1 7 = some (.inr (.inr (.inr (RX6, 3, va_up (va_up (va_up (fun _ => none) 0 (some 8)) 1 (some 12)) 2 (some 16))))) := (hk 7 (by decide)).trans h7
  have pr : pre 50 f1 := pr.ext (fun j h1 h2 h7 => (hk j (by omega)).trans (by simp only [qup, if_neg (show ¬ j = 48 by omega), if_neg (show ¬ j = 0 by omega), if_neg h7])) (fun j h1 h2 h7 => by
    rcases (show j = 48 ∨ j = 49 by omega) with rfl | rfl
    · exact ⟨_, hV, 0, 0, 0, 0, rfl⟩
    · exact ⟨_, h49, _, rfl⟩)
  refine ⟨_, ho, Nat.le_of_ble_eq_true rfl, rfl, ?_⟩
  refine ⟨Nat.le_of_ble_eq_true rfl, Nat.le_of_ble_eq_true rfl, ?_⟩
  refine ⟨rfl, ?_⟩
  refine ⟨by decide, _, _, rfl, rfl, ?_⟩
  refine ⟨by decide, _, _, rfl, rfl, ?_⟩
  refine ⟨by decide, _, _, rfl, rfl, ?_⟩
  refine Or.inl ⟨rfl, _, 1, 3, 31, _, Or.inl qi_11_78, ⟨rfl, rfl⟩, rfl, rfl, I_tour hg rfl, fun y178 h178 hy178 => ?_⟩
  obtain ⟨rfl, f1, rfl, hk, h50, h51, h52, h53⟩ := hy178
  have ho : f1 0 = some (.inl (11, ((((((((((qdef 11 17).set 0 (.ref 1)).set 1 (.ref 3)).set 2 (.ref 7)).set 3 (.ref 20)).set 4 (.ref 22)).set 5 (.ref 26)).set 6 (.ref 30)).set 7 (.ref 33)).set 8 (.ref 43)).set 9 (.ref 48))) := (hk 0 (by decide)).trans rfl
  have h7 : f1 7 = some (.inr (.inr (.inr (RX6, 3, va_up (va_up (va_up (fun _ => none) 0 (some 8)) 1 (some 12)) 2 (some 16))))) := (hk 7 (by decide)).trans h7
  have pr : pre 54 f1 := pr.ext (fun j h1 h2 h7 => (hk j (by omega)).trans (by simp only [qup, if_neg (show ¬ j = 50 by omega), if_neg (show ¬ j = 0 by omega), if_neg h7])) (fun j h1 h2 h7 => by
    rcases (show j = 50 ∨ j = 51 ∨ j = 52 ∨ j = 53 by omega) with rfl | rfl | rfl | rfl
    · exact ⟨_, h50, _, _, _, _, _, _, _, _, rfl⟩
    · exact ⟨_, h51, _, rfl⟩
    · exact ⟨_, h52, fun _ => 0, fun _ => Nat.lt_of_sub_eq_succ rfl, rfl⟩
    · exact ⟨_, h53, _, rfl⟩)
  refine ⟨_, ho, Nat.le_of_ble_eq_true rfl, rfl, ?_⟩
  refine ⟨Nat.le_of_ble_eq_true rfl, Nat.le_of_ble_eq_true rfl, ?_⟩
  refine ⟨rfl, ?_⟩
  refine ⟨by decide, _, _, rfl, rfl, ?_⟩
  refine ⟨by decide, _, _, rfl, rfl, ?_⟩
  refine Or.inl ⟨rfl, _, 1, 7, 291, _, Or.inl qi_11_87, ⟨rfl, rfl⟩, rfl, rfl, I_search hg rfl, fun y197 h197 hy197 => ?_⟩
  obtain ⟨rfl, f1, rfl, hk, h54, h55, h56, h57, h58, h59, h60, h61⟩ := hy197
  have ho : f1 0 = some (.inl (11, (((((((((((qdef 11 17).set 0 (.ref 1)).set 1 (.ref 3)).set 2 (.ref 7)).set 3 (.ref 20)).set 4 (.ref 22)).set 5 (.ref 26)).set 6 (.ref 30)).set 7 (.ref 33)).set 8 (.ref 43)).set 9 (.ref 48)).set 10 (.ref 50))) := (hk 0 (by decide)).trans rfl
  have h7 : f1 7 = some (.inr (.inr (.inr (RX6, 3, va_up (va_up (va_up (fun _ => none) 0 (some 8)) 1 (some 12)) 2 (some 16))))) := (hk 7 (by decide)).trans h7
  have pr : pre 62 f1 := pr.ext (fun j h1 h2 h7 => (hk j (by omega)).trans (by simp only [qup, if_neg (show ¬ j = 54 by omega), if_neg (show ¬ j = 0 by omega), if_neg h7])) (fun j h1 h2 h7 => by
    rcases (show j = 54 ∨ j = 55 ∨ j = 56 ∨ j = 57 ∨ j = 58 ∨ j = 59 ∨ j = 60 ∨ j = 61 by omega) with rfl | rfl | rfl | rfl | rfl | rfl | rfl | rfl
    · exact ⟨_, h54, _, _, _, rfl⟩
    · exact ⟨_, h55, _, rfl⟩
    · exact ⟨_, h56, _, rfl⟩
    · exact ⟨_, h57, _, rfl⟩
    · exact ⟨_, h58, _, rfl⟩
    · exact ⟨_, h59, _, rfl⟩
    · exact ⟨_, h60, _, rfl⟩
    · exact ⟨_, h61, _, rfl⟩)
  refine ⟨_, ho, Nat.le_of_ble_eq_true rfl, rfl, ?_⟩
  refine ⟨Nat.le_of_ble_eq_true rfl, Nat.le_of_ble_eq_true rfl, ?_⟩
  refine ⟨rfl, ?_⟩
  refine ⟨by decide, _, _, rfl, rfl, ?_⟩
  refine ⟨by decide, _, _, rfl, rfl, ?_⟩
  refine ⟨by decide, _, _, rfl, rfl, ?_⟩
  refine Or.inl ⟨rfl, _, 1, 0, 0, _, Or.inl qi_11_96, ⟨rfl, rfl⟩, rfl, rfl, I_night hg rfl, fun y220 h220 hy220 => ?_⟩
  obtain ⟨rfl, f1, rfl, hk, h62⟩ := hy220
  have ho : f1 0 = some (.inl (11, ((((((((((((qdef 11 17).set 0 (.ref 1)).set 1 (.ref 3)).set 2 (.ref 7)).set 3 (.ref 20)).set 4 (.ref 22)).set 5 (.ref 26)).set 6 (.ref 30)).set 7 (.ref 33)).set 8 (.ref 43)).set 9 (.ref 48)).set 10 (.ref 50)).set 11 (.ref 54))) := (hk 0 (by decide)).trans rfl
  have h7 : f1 7 = some (.inr (.inr (.inr (RX6, 3, va_up (va_up (va_up (fun _ => none) 0 (some 8)) 1 (some 12)) 2 (some 16))))) := (hk 7 (by decide)).trans h7
  have pr : pre 63 f1 := pr.ext (fun j h1 h2 h7 => (hk j (by omega)).trans (by simp only [qup, if_neg (show ¬ j = 62 by omega), if_neg (show ¬ j = 0 by omega), if_neg h7])) (fun j h1 h2 h7 => by
    rcases (show j = 62 by omega) with rfl
    · exact ⟨_, h62, _, rfl⟩)
  refine ⟨_, ho, Nat.le_of_ble_eq_true rfl, rfl, ?_⟩
  refine ⟨rfl, Nat.le_of_ble_eq_true rfl, Nat.le_of_ble_eq_true rfl, ?_⟩
  refine ⟨rfl, rfl, fun j hj => ?_⟩
  by_cases h0 : j = 0
  · subst h0
    exact ⟨_, rfl, rfl⟩
  · by_cases c7 : j = 7
    · subst c7
      exact ⟨_, h7, rfl⟩
    · obtain ⟨e, h1, h2⟩ := pr j (by omega) hj c7
      exact ⟨e, (qup_n h0).trans h1, h2⟩
end Q09L
