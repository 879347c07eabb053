section Q13D
/-- a word of more letters than are packed stands here, and no letter behind it -/
def std (F : Nat → Int32) (n : Nat) (f : Nat → Nat) (len q : Nat) : Bool := decide (∀ k : Nat, k < len → tby F n (q + k) = nI (f k)) && !islt (tby F n (q + len))
theorem tby_in {F : Nat → Int32} {n q e : Nat} (h : tby F n q = nI e) (he : e < 128) : q < n := by
  rcases Nat.lt_or_ge q n with z | z
  · exact z
  · rw [tby_end z] at h
    exact absurd h.symm (nim1 (by omega))
set_option maxHeartbeats 1000000 in
theorem M_standsHere {g : qG} (hg : qOK g) {h : qH} {x : Nat → Int32} {y : Nat → Int64} (hM : h.2 63 = some (M63 x y)) {F : Nat → Int32} {n a : Nat} (hT : mT x n (.inr a)) (hB : mB h F) (hJ : qJDK g) {j jv len : Nat} {f : Nat → Nat} (hS : qSTR g j jv len f) (hl7 : len ≤ 100) : qSpec g 5 0 0 mX12_standsHere [.ref 63, .retAddr j] h (fun r h' => r = some (.int (qb (std F n f len (sk F n a)))) ∧ mP h h' x y [4] n (.inr (sk F n a))) := by
  refine qSpec_runR 12 "standsHere" false hg mX12_standsHere_ok rfl rfl (Nat.le_of_ble_eq_true rfl) (by decide) ?_
  intro run step stepR
  refine step.1 _ _ _ _ _ _ _ srX12_standsHere_0_ok ?_
  refine Or.inl ⟨rfl, _, 1, 0, 0, _, _, _, qi_12_125, ⟨rfl, rfl⟩, ⟨hM, rfl⟩, rfl, rfl, M_here hg hM hT hB, fun y1 h1 hy1 => ?_⟩
  obtain ⟨rfl, hPx⟩ := hy1
  obtain ⟨x1, hM1, hs1, hx1, hT1⟩ := id hPx
  obtain ⟨tp, hTp, hby⟩ := hB
  have hTp1 := (hs1.2 65 (by decide)).trans hTp
  have hq4 : x1 4 = nI (sk F n a) := hT1.2.2.2.1
  have hqn : (sk F n a) ≤ n := hT1.2.2.2.2
  have hn6 : n ≤ 600 := hT1.2.1
  have loop : ∀ (m k : Nat), k + m = len → (∀ i : Nat, i < k → tby F n ((sk F n a) + i) = nI (f i)) → run 7 [(2, .int (nI k)), (0, .ref 63), (1, .retAddr j)] [] h1 0 0 := by
    intro m
    induction m with
    | zero =>
      intro k hm hl
      refine step.1 _ _ _ _ _ _ _ srX12_standsHere_7_ok ?_
      refine stepR 133 9 2 0 0 j _ [] _ _ _ _ _ _ qi_12_133 ⟨rfl, rfl⟩ hS.1 rfl (by decide +kernel) (J_length hg hJ hS) (fun y9 h9 hy9 => ?_)
      obtain ⟨rfl, hh⟩ := hy9
      rw [hh]
      clear hh
      refine step.1 _ _ _ _ _ _ _ srX12_standsHere_12_ok ?_
      refine ⟨fun c12 => ?_, fun c12 => absurd (show nI len ≤ nI k from nI_le (by omega) (by omega)) c12⟩
      
      refine step.1 _ _ _ _ _ _ _ srX12_standsHere_55_ok ?_
      refine ⟨by decide, _, _, hM1, rfl, ?_⟩
      refine stepR 133 60 2 0 0 j _ [] _ _ _ _ _ _ qi_12_133 ⟨rfl, rfl⟩ hS.1 rfl (by decide +kernel) (J_length hg hJ hS) (fun y60 h60 hy60 => ?_)
      obtain ⟨rfl, hh⟩ := hy60
      rw [hh]
      clear hh
      refine step.1 _ _ _ _ _ _ _ srX12_standsHere_63_ok ?_
      refine ⟨by decide, _, _, hM1, rfl, ?_⟩
      refine ⟨fun c68 => ?_, fun c68 => ?_⟩
      · have hend : n ≤ (sk F n a) + len := (nI_leI (by omega) (by omega)).mp (by rw [← nI_add, ← hq4, ← hT1.1]; exact c68)
        refine step.1 _ _ _ _ _ _ _ srX12_standsHere_91_ok ?_
        refine step.1 _ _ _ _ _ _ _ srX12_standsHere_96_ok ?_
        refine ⟨.boolean, rfl, rfl, Nat.le_refl _, Nat.le_refl _, ?_⟩
        rw [show std F n f len (sk F n a) = true by unfold std; rw [decide_eq_true (fun i hi => hl i (by omega)), tby_end hend]; rfl]
        exact ⟨rfl, hPx⟩
      · have hlt : (sk F n a) + len < n := Nat.lt_of_not_le fun z => c68 (by
          show x1 3 ≤ x1 4 + nI len
          rw [hq4, nI_add, hT1.1]
          exact nI_le z (by omega))
        refine ⟨by decide, _, _, hM1, rfl, ?_⟩
        refine ⟨by decide, _, _, hM1, rfl, ?_⟩
        refine stepR 133 80 2 0 0 j _ [] _ _ _ _ _ _ qi_12_133 ⟨rfl, rfl⟩ hS.1 rfl (by decide +kernel) (J_length hg hJ hS) (fun y80 h80 hy80 => ?_)
        obtain ⟨rfl, hh⟩ := hy80
        rw [hh]
        clear hh
        refine step.1 _ _ _ _ _ _ _ srX12_standsHere_83_ok ?_
        refine ⟨_, _, hTp1, (by rw [hq4, nI_add]; exact vp_in_nI (n := (sk F n a) + len) (N := 600) (by omega) (by decide)), ?_⟩
        refine Or.inl ⟨rfl, _, 1, 0, 0, _, Or.inl qi_12_129, ⟨rfl, rfl⟩, rfl, rfl, M_isSmall hg _, fun y85 h85 hy85 => ?_⟩
        obtain ⟨rfl, hh⟩ := hy85
        rw [hh]
        clear hh
        refine ⟨fun c88 => ?_, fun c88 => ?_⟩
        · have hsm : islt (tby F n ((sk F n a) + len)) = true := by
            have q := qb_1.mp c88
            rw [hq4, nI_add, h_tn (by omega), hby _ (by omega)] at q
            rw [tby_lt hlt]; exact q
          refine step.1 _ _ _ _ _ _ _ srX12_standsHere_95_ok ?_
          refine step.1 _ _ _ _ _ _ _ srX12_standsHere_96_ok ?_
          refine ⟨.boolean, rfl, rfl, Nat.le_refl _, Nat.le_refl _, ?_⟩
          rw [show std F n f len (sk F n a) = false by unfold std; rw [hsm, Bool.not_true, Bool.and_false]]
          exact ⟨rfl, hPx⟩
        · have hsm : islt (tby F n ((sk F n a) + len)) = false := by
            have q := qb_0.mp c88
            rw [hq4, nI_add, h_tn (by omega), hby _ (by omega)] at q
            rw [tby_lt hlt]; exact q
          refine step.1 _ _ _ _ _ _ _ srX12_standsHere_91_ok ?_
          refine step.1 _ _ _ _ _ _ _ srX12_standsHere_96_ok ?_
          refine ⟨.boolean, rfl, rfl, Nat.le_refl _, Nat.le_refl _, ?_⟩
          rw [show std F n f len (sk F n a) = true by unfold std; rw [decide_eq_true (fun i hi => hl i (by omega)), hsm]; rfl]
          exact ⟨rfl, hPx⟩
    | succ m ih =>
      intro k hm hl
      refine step.1 _ _ _ _ _ _ _ srX12_standsHere_7_ok ?_
      refine stepR 133 9 2 0 0 j _ [] _ _ _ _ _ _ qi_12_133 ⟨rfl, rfl⟩ hS.1 rfl (by decide +kernel) (J_length hg hJ hS) (fun y9 h9 hy9 => ?_)
      obtain ⟨rfl, hh⟩ := hy9
      rw [hh]
      clear hh
      refine step.1 _ _ _ _ _ _ _ srX12_standsHere_12_ok ?_
      refine ⟨fun c12 => absurd c12 (h_nle (by omega) (by omega)), fun c12 => ?_⟩
      
      refine ⟨by decide, _, _, hM1, rfl, ?_⟩
      refine ⟨by decide, _, _, hM1, rfl, ?_⟩
      refine ⟨fun c25 => ?_, fun c25 => ?_⟩
      · have hge : n ≤ (sk F n a) + k := (nI_leI (by omega) (by omega)).mp (by rw [← nI_add, ← hq4, ← hT1.1]; exact c25)
        refine step.1 _ _ _ _ _ _ _ srX12_standsHere_47_ok ?_
        refine ⟨.boolean, rfl, rfl, Nat.le_refl _, Nat.le_refl _, ?_⟩
        rw [show std F n f len (sk F n a) = false by unfold std; rw [decide_eq_false (fun z => absurd (tby_in (z k (by omega)) (hS.2.2.2.2.2 k (by omega))) (by omega)), Bool.false_and]]
        exact ⟨rfl, hPx⟩
      · have hlt : (sk F n a) + k < n := Nat.lt_of_not_le fun z => c25 (by
          show x1 3 ≤ x1 4 + nI k
          rw [hq4, nI_add, hT1.1]
          exact nI_le z (by omega))
        refine ⟨by decide, _, _, hM1, rfl, ?_⟩
        refine ⟨by decide, _, _, hM1, rfl, ?_⟩
        refine ⟨_, _, hTp1, (by rw [hq4, nI_add]; exact vp_in_nI (n := (sk F n a) + k) (N := 600) (by omega) (by decide)), ?_⟩
        refine stepR 138 41 4 0 0 j _ [.int (nI k)] _ _ _ _ _ _ qi_12_138 ⟨rfl, rfl⟩ hS.1 rfl (by decide +kernel) (J_charAt hg hJ hS (i := k) (by omega)) (fun y41 h41 hy41 => ?_)
        obtain ⟨rfl, hh⟩ := hy41
        rw [hh]
        clear hh
        refine step.1 _ _ _ _ _ _ _ srX12_standsHere_44_ok ?_
        refine ⟨fun c44 => ?_, fun c44 => ?_⟩
        · have heq : tby F n ((sk F n a) + k) = nI (f k) := by
            have q := c44
            rw [hq4, nI_add, h_tn (by omega), hby _ (by omega)] at q
            rw [tby_lt hlt]; exact q
          refine step.1 _ _ _ _ _ _ _ srX12_standsHere_49_ok ?_
          have kk := ih (k + 1) (by omega) (fun i hi => by
            rcases Nat.lt_or_ge i k with z | z
            · exact hl i z
            · rw [show i = k by omega]; exact heq)
          rw [← nI_1 k] at kk
          exact kk
        · have heq : ¬ tby F n ((sk F n a) + k) = nI (f k) := fun z => by
            rw [tby_lt hlt] at z
            refine c44 ?_
            rw [hq4, nI_add, h_tn (by omega), hby _ (by omega)]
            exact z
          refine step.1 _ _ _ _ _ _ _ srX12_standsHere_47_ok ?_
          refine ⟨.boolean, rfl, rfl, Nat.le_refl _, Nat.le_refl _, ?_⟩
          rw [show std F n f len (sk F n a) = false by unfold std; rw [decide_eq_false (fun z => heq (z k (by omega))), Bool.false_and]]
          exact ⟨rfl, hPx⟩
  refine ⟨rfl, ?_⟩
  exact loop len 0 (by omega) (fun i hi => absurd hi (Nat.not_lt_zero i))
end Q13D
