section Q12B
theorem swl_e {R : RT} (hR : ROK R) {pf vf rf : Nat → Nat} (hP : isP R.2.1 R.2.2.2.2.1 pf vf rf) (hpn : ∀ i : Nat, i < R.2.2.2.2.1 → pf i < R.2.2.2.1) (K V : Nat → Int32) (N : Nat) (m : Int32) : ∀ (q i : Nat) (W : Nat → Int64), i + q = R.2.2.2.2.1 → (∀ d : Nat, d < 10 → W d = if avl pf i d = true then Int64.ofNat (vl pf (lJ R.1 K V N m R.2.2.2.2.2.2.2.1 pf vf rf) i d) else -1) → ∀ d : Nat, d < 10 → swl R.1 K V N m R.2.2.2.2.2.2.2.1 pf vf rf i q W d = if avl pf R.2.2.2.2.1 d = true then Int64.ofNat (vl pf (lJ R.1 K V N m R.2.2.2.2.2.2.2.1 pf vf rf) R.2.2.2.2.1 d) else -1 := by
  intro q
  induction q with
  | zero => intro i W hi h d hd; rw [← hi]; exact h d hd
  | succ q ih =>
    intro i W hi h d hd
    refine ih (i + 1) _ (by omega) (fun e he => ?_) d hd
    have hj := (lJ_e hR hP hpn K V N m (l := i) (by omega)).1
    rw [hj]
    show vp_updL W (pf i) _ e = if (avl pf i e || decide (e = pf i)) = true then Int64.ofNat (if e = pf i then _ else _) else -1
    unfold vp_updL
    by_cases c : e = pf i
    · rw [if_pos c, if_pos c, decide_eq_true c, Bool.or_true, if_pos rfl]
    · rw [if_neg c, if_neg c, decide_eq_false c, Bool.or_false]
      exact h e he
theorem solo_p {R : RT} (hR : ROK R) {pf vf rf : Nat → Nat} (hP : isP R.2.1 R.2.2.2.2.1 pf vf rf) (hpn : ∀ i : Nat, i < R.2.2.2.2.1 → pf i < R.2.2.2.1) (hinj : ∀ i j : Nat, i < R.2.2.2.2.1 → j < R.2.2.2.2.1 → pf i = pf j → i = j) (K V : Nat → Int32) (N : Nat) (m : Int32) (so : Nat) (W0 : Nat → Int64) (h0 : ∀ j : Nat, j < 10 → W0 j = -1) : ∃ b s : Nat, sfold pf (vl pf (lJ R.1 K V N m R.2.2.2.2.2.2.2.1 pf vf rf) R.2.2.2.2.1) R.2.2.2.2.1 (min so R.2.2.2.2.1) (2 ^ R.2.2.2.2.1) 0 none = some (b, s) ∧ b < 2 ^ 10 ∧ s < 2 ^ 50 ∧ (stakes (min so R.2.2.2.2.1) (swl R.1 K V N m R.2.2.2.2.2.2.2.1 pf vf rf 0 R.2.2.2.2.1 W0, 0, 0)).2.1 = nI b ∧ (stakes (min so R.2.2.2.2.1) (swl R.1 K V N m R.2.2.2.2.2.2.2.1 pf vf rf 0 R.2.2.2.2.1 W0, 0, 0)).2.2 = Int64.ofNat s :=
  solo_e hR.1.2.1 (fun l hl => by have := hpn l hl; have := hR.1.1; omega) hinj (fun l hl => (lJ_e hR hP hpn K V N m hl).2) (Nat.min_le_right _ _) (swl_e hR hP hpn K V N m R.2.2.2.2.1 0 W0 (by omega) (fun d hd => (h0 d hd).trans (if_neg (show ¬ avl pf 0 d = true from fun z => Bool.noConfusion (show false = true from z))).symm))
theorem M_solos {g : qG} (hg : qOK g) {h : qH} {x : Nat → Int32} {y : Nat → Int64} {F : Nat → Nat → Int32} {G : Nat → Nat → Int64} (hM : MX h x y F G) {S : CS} (hR : Rel S x F) {pf vf rf : Nat → Nat} (hP : isP S.2.1.2.1 S.2.1.2.2.2.2.1 pf vf rf) (hI : ROK S.2.1) (hpn : ∀ i : Nat, i < S.2.1.2.2.2.2.1 → pf i < S.2.1.2.2.2.1) (hinj : ∀ i j : Nat, i < S.2.1.2.2.2.2.1 → j < S.2.1.2.2.2.2.1 → pf i = pf j → i = j) (hl : lwf S.2.2.2.2.1.1) (hQ : QOK S.2.2.2.1.1 S.2.2.2.1.2) {so : Nat} (hso : csol S.2.2.2.1.1 0 S.2.2.2.1.2 0 = nI so) (h72 : so ≤ 72) : qSpec g 7 0 0 mX12_solos [.ref 63] h (fun r h' => (∃ b s : Nat, sfold pf (vl pf (lJ S.2.1.1 S.2.2.2.2.1.1.1 S.2.2.2.2.1.1.2.1 S.2.2.2.2.1.1.2.2 (nI S.2.2.2.1.2) S.2.1.2.2.2.2.2.2.2.1 pf vf rf) S.2.1.2.2.2.2.1) S.2.1.2.2.2.2.1 (min so S.2.1.2.2.2.2.1) (2 ^ S.2.1.2.2.2.2.1) 0 none = some (b, s) ∧ r = some (.int (nI b))) ∧ MG h h' S) := by
  refine qSpec_run 12 "solos" false hg mX12_solos_ok rfl rfl (Nat.le_of_ble_eq_true rfl) (by decide) ?_
  intro run step
  refine step.1 _ _ _ _ _ _ _ sgX12_solos_0_ok ?_
  refine ⟨_, hM.1, Nat.le_of_ble_eq_true rfl, rfl, ?_⟩
  have hM0 := hM.p63 (sI_0 (v := 0) (rfl : _ = M63l x y))
  have hR0 : Rel S (upd x 0 0) F := hR.t 0
  have hk0 := kp.rf (h := h) |>.u (k := 63) (e := .inl (12, (M63l x y).set 0 (.int 0))) (by decide) (by decide)
  refine Or.inl ⟨rfl, _, 6, 0, 0, _, _, _, qi_12_481, ⟨rfl, rfl⟩, ⟨hM0.1, rfl⟩, rfl, rfl, M_findSolos hg hM0 hR0 hP hI hpn hinj hl hQ hso h72, fun y6 h6 hy6 => ?_⟩
  obtain ⟨rfl, x1, y1, F1, hX, hst⟩ := hy6
  obtain ⟨b, s, hsf, hb, hs, -, -⟩ := solo_p hI hP hpn hinj S.2.2.2.2.1.1.1 S.2.2.2.2.1.1.2.1 S.2.2.2.2.1.1.2.2 (nI S.2.2.2.1.2) so (fun _ => -1) (fun _ _ => rfl)
  rw [hsf] at hst
  obtain ⟨f53, f54, -, -⟩ := hst
  refine ⟨by decide, _, _, hX.1.1, rfl, ?_⟩
  refine ⟨.int, rfl, rfl, Nat.le_refl _, Nat.le_refl _, ?_⟩
  exact ⟨⟨b, s, hsf, congrArg (fun z => some (Value.int z)) f53⟩, hX.mg hk0 hR0 rfl⟩
theorem M_soloJoy {g : qG} (hg : qOK g) {h : qH} {x : Nat → Int32} {y : Nat → Int64} {F : Nat → Nat → Int32} {G : Nat → Nat → Int64} (hM : MX h x y F G) {S : CS} (hR : Rel S x F) {pf vf rf : Nat → Nat} (hP : isP S.2.1.2.1 S.2.1.2.2.2.2.1 pf vf rf) (hI : ROK S.2.1) (hpn : ∀ i : Nat, i < S.2.1.2.2.2.2.1 → pf i < S.2.1.2.2.2.1) (hinj : ∀ i j : Nat, i < S.2.1.2.2.2.2.1 → j < S.2.1.2.2.2.2.1 → pf i = pf j → i = j) (hl : lwf S.2.2.2.2.1.1) (hQ : QOK S.2.2.2.1.1 S.2.2.2.1.2) {so : Nat} (hso : csol S.2.2.2.1.1 0 S.2.2.2.1.2 0 = nI so) (h72 : so ≤ 72) (pt : Int32) : qSpec g 7 0 0 mX12_soloJoy [.ref 63, .int pt] h (fun r h' => ((wi 0 1 pt = true) ∧ (∃ b s : Nat, sfold pf (vl pf (lJ S.2.1.1 S.2.2.2.2.1.1.1 S.2.2.2.2.1.1.2.1 S.2.2.2.2.1.1.2.2 (nI S.2.2.2.1.2) S.2.1.2.2.2.2.2.2.2.1 pf vf rf) S.2.1.2.2.2.2.1) S.2.1.2.2.2.2.1 (min so S.2.1.2.2.2.2.1) (2 ^ S.2.1.2.2.2.2.1) 0 none = some (b, s) ∧ r = some (.long (lterms (Int64.ofNat s) 268435456 pt))) ∧ MG h h' S) ∨ ∃ (k : Nat) (c : Int32), ((k = 1 ∧ c = 1 ∧ ¬ (wi 0 1 pt = true))) ∧ (∃ z, r = some (.long z)) ∧ mbad h h' S k c) := by
  refine qSpec_run 12 "soloJoy" false hg mX12_soloJoy_ok rfl rfl (Nat.le_of_ble_eq_true rfl) (by decide) ?_
  intro run step
  refine step.1 _ _ _ _ _ _ _ sgX12_soloJoy_0_ok ?_
  refine ⟨_, hM.1, Nat.le_of_ble_eq_true rfl, rfl, ?_⟩
  have hM0 := hM.p63 (sI_0 (v := 0) (rfl : _ = M63l x y))
  have hR0 : Rel S (upd x 0 0) F := hR.t 0
  have hk0 := kp.rf (h := h) |>.u (k := 63) (e := .inl (12, (M63l x y).set 0 (.int 0))) (by decide) (by decide)
  refine Or.inl ⟨rfl, _, 1, 0, 0, _, Or.inl qi_12_324, ⟨rfl, rfl⟩, rfl, rfl, M_within hg _ _ _, fun y9 h9 hy9 => ?_⟩
  obtain ⟨rfl, hh⟩ := hy9
  rw [hh]
  clear hh
  refine Or.inl ⟨rfl, _, 1, 0, 0, _, _, _, qi_12_247, ⟨rfl, rfl⟩, ⟨hM0.1, rfl⟩, rfl, rfl, M_mayU hg hM0 hR0 rfl _ 1 (by decide) 1 (by decide), fun y14 h14 hy14 => ?_⟩
  rcases hy14 with ⟨w14, rfl, hb⟩ | ⟨w14, rfl, hh⟩
  · refine ⟨fun c17 => absurd c17 (by decide), fun _ => ?_⟩
    refine ⟨rfl, Nat.le_refl _, Nat.le_refl _, ?_⟩
    exact Or.inr ⟨1, 1, ⟨rfl, rfl, (by rw [w14]; decide)⟩, ⟨_, rfl⟩, mbad.l hk0 hb⟩
  · rw [hh]
    clear hh
    refine ⟨fun _ => ?_, fun c17 => absurd c17 (by decide)⟩
    refine step.1 _ _ _ _ _ _ _ sgX12_soloJoy_22_ok ?_
    refine Or.inl ⟨rfl, _, 6, 0, 0, _, _, _, qi_12_481, ⟨rfl, rfl⟩, ⟨hM0.1, rfl⟩, rfl, rfl, M_findSolos hg hM0 hR0 hP hI hpn hinj hl hQ hso h72, fun y23 h23 hy23 => ?_⟩
    obtain ⟨rfl, x1, y1, F1, hX, hst⟩ := hy23
    obtain ⟨b, s, hsf, hb, hs, -, -⟩ := solo_p hI hP hpn hinj S.2.2.2.2.1.1.1 S.2.2.2.2.1.1.2.1 S.2.2.2.2.1.1.2.2 (nI S.2.2.2.1.2) so (fun _ => -1) (fun _ _ => rfl)
    rw [hsf] at hst
    obtain ⟨f53, f54, -, -⟩ := hst
    refine ⟨by decide, _, _, hX.1.1, rfl, ?_⟩
    refine Or.inl ⟨rfl, _, 1, 0, 0, _, Or.inl qi_12_393, ⟨rfl, rfl⟩, rfl, rfl, (by rw [f54]; exact M_least hg s 268435456 pt (by omega) (by decide) (by decide) (p01 w14)), fun y34 h34 hy34 => ?_⟩
    obtain ⟨rfl, hh⟩ := hy34
    rw [hh]
    clear hh
    refine ⟨rfl, Nat.le_refl _, Nat.le_refl _, ?_⟩
    exact Or.inl ⟨w14, ⟨b, s, hsf, rfl⟩, hX.mg hk0 hR0 rfl⟩
end Q12B
