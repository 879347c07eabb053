section Q14H
/-- what a village read is -/
def DOK (D : Nat → Int32) (N : Nat) : Prop := ∀ a f : Nat, a < N → f < 10 → ∃ v : Nat, v ≤ fmost f ∧ D (a * 10 + f) = nI v
def VOK (V : VD) : Prop := V.2.1 ≤ 10 ∧ DOK V.1 V.2.1 ∧ QOK V.2.2.1 V.2.2.2.1 ∧ (∃ v : Nat, v ≤ 99 ∧ V.2.2.2.2.1 = nI v) ∧ (∃ v : Nat, 1 ≤ v ∧ v ≤ 9 ∧ V.2.2.2.2.2.1 = nI v) ∧ ∃ v : Nat, v ≤ 480 ∧ V.2.2.2.2.2.2 = nI v
theorem pd0_g {N q : Nat} {s : PS} (h : pbad (pd0 N q s) = false) : N < 10 := by
  unfold pd0 at h
  by_cases c : 10 ≤ N
  · rw [if_pos c, pbad_fail] at h; cases h
  · omega
theorem ps0_g {N q : Nat} {s : PS} (h : pbad (ps0 N q s) = false) : N < 8 := by
  unfold ps0 at h
  by_cases c : 8 ≤ N
  · rw [if_pos c, pbad_fail] at h; cases h
  · omega
theorem upd_nI {D : Nat → Int32} {k j : Nat} {v : Int32} {w : Nat} (h1 : j = k → v = nI w) (h2 : j ≠ k → D j = nI w) : upd D k v j = nI w := by
  unfold upd
  by_cases c : j = k
  · rw [if_pos c]; exact h1 c
  · rw [if_neg c]; exact h2 c
theorem DOK.door {D : Nat → Int32} {N x p j : Nat} (hD : DOK D N) (hx : x ≤ 99) (hp : p ≤ 240) (hj : j ≤ 99) : DOK (adoor D N (nI x) (nI p) (nI j)) (N + 1) := by
  intro a f ha hf
  by_cases e : a = N
  · subst e
    unfold adoor upd
    match f, hf with
    | 0, _ => exact ⟨x, hx, by simp⟩
    | 1, _ => exact ⟨p, hp, by simp⟩
    | 2, _ => exact ⟨j, hj, by simp⟩
    | 3, _ => exact ⟨12, by decide, by simp; rfl⟩
    | 4, _ => exact ⟨6, by decide, by simp; rfl⟩
    | 5, _ => exact ⟨10, by decide, by simp; rfl⟩
    | 6, _ => exact ⟨12, by decide, by simp; rfl⟩
    | 7, _ => exact ⟨4, by decide, by simp; rfl⟩
    | 8, _ => exact ⟨0, by decide, by simp; rfl⟩
    | 9, _ => exact ⟨0, by decide, by simp; rfl⟩
  · obtain ⟨v, h1, h2⟩ := hD a f (by omega) hf
    refine ⟨v, h1, ?_⟩
    unfold adoor upd
    rw [if_neg (by omega), if_neg (by omega), if_neg (by omega), if_neg (by omega), if_neg (by omega), if_neg (by omega), if_neg (by omega), if_neg (by omega), if_neg (by omega), if_neg (by omega)]
    exact h2
theorem DOK.up {D : Nat → Int32} {N b f0 v : Nat} (hD : DOK D N) (hf0 : f0 < 10) (hv : v ≤ fmost f0) : DOK (upd D (b * 10 + f0) (nI v)) N := by
  intro a f ha hf
  obtain ⟨w, h1, h2⟩ := hD a f ha hf
  by_cases e : a * 10 + f = b * 10 + f0
  · have e2 : f = f0 := by omega
    subst e2
    exact ⟨v, hv, by rw [e]; exact upd_s⟩
  · exact ⟨w, h1, (upd_n e).trans h2⟩
theorem QOK.sing {Q : Nat → Int32} {M v p : Nat} (hQ : QOK Q M) (hM : M < 8) (hv : v ≤ 99) (hp : p ≤ 3) : QOK (asing Q M (nI v) (nI p)) (M + 1) := by
  refine ⟨by omega, fun a ha => ?_⟩
  by_cases e : a = M
  · subst e
    unfold asing upd
    refine ⟨⟨v, hv, by simp⟩, ⟨p, hp, by simp⟩, Or.inl (by simp), 0, by decide, by simp; rfl⟩
  · obtain ⟨h0, h1, h2, h3⟩ := hQ.2 a (by omega)
    have k : ∀ f : Nat, f < 4 → asing Q M (nI v) (nI p) (a * 4 + f) = Q (a * 4 + f) := fun f hf => by
      unfold asing upd
      rw [if_neg (by omega), if_neg (by omega), if_neg (by omega), if_neg (by omega)]
    rw [k 0 (by omega), k 1 (by omega), k 2 (by omega), k 3 (by omega)]
    exact ⟨h0, h1, h2, h3⟩
theorem QOK.up2 {Q : Nat → Int32} {M b v : Nat} (hQ : QOK Q M) (hv : v ≤ 480) : QOK (upd Q (b * 4 + 2) (nI v)) M := by
  refine ⟨hQ.1, fun a ha => ?_⟩
  obtain ⟨h0, h1, h2, h3⟩ := hQ.2 a ha
  rw [upd_n (show a * 4 + 0 ≠ b * 4 + 2 by omega), upd_n (show a * 4 + 1 ≠ b * 4 + 2 by omega), upd_n (show a * 4 + 3 ≠ b * 4 + 2 by omega)]
  refine ⟨h0, h1, ?_, h3⟩
  by_cases e : a = b
  · subst e
    rw [upd_s]
    exact Or.inr ⟨v, hv, rfl⟩
  · rw [upd_n (by omega)]
    exact h2
theorem QOK.up3 {Q : Nat → Int32} {M b v : Nat} (hQ : QOK Q M) (hv : v ≤ 9) : QOK (upd Q (b * 4 + 3) (nI v)) M := by
  refine ⟨hQ.1, fun a ha => ?_⟩
  obtain ⟨h0, h1, h2, h3⟩ := hQ.2 a ha
  rw [upd_n (show a * 4 + 0 ≠ b * 4 + 3 by omega), upd_n (show a * 4 + 1 ≠ b * 4 + 3 by omega), upd_n (show a * 4 + 2 ≠ b * 4 + 3 by omega)]
  refine ⟨h0, h1, h2, ?_⟩
  by_cases e : a = b
  · subst e
    rw [upd_s]
    exact ⟨v, hv, rfl⟩
  · rw [upd_n (by omega)]
    exact h3
theorem pnum_19 {F : Nat → Int32} {n : Nat} {s : PS} (h : pbad (pnum F n 1 9 s).1 = false) : ∃ x : Nat, 1 ≤ x ∧ x ≤ 9 ∧ (pnum F n 1 9 s).2 = nI x := by
  cases s with
  | inl e => cases h
  | inr a =>
    unfold pnum at h ⊢
    simp only at h ⊢
    by_cases c1 : (pnr F n a).1 = sk F n a
    · rw [if_pos c1] at h; cases h
    · rw [if_neg c1] at h ⊢
      by_cases c2 : (pnr F n a).2 < 1 ∨ 9 < (pnr F n a).2
      · rw [if_pos c2] at h; cases h
      · rw [if_neg c2]
        have h1 : (1 : Int32) ≤ (pnr F n a).2 := Int32.not_lt.mp (fun q => c2 (Or.inl q))
        have h2 : (pnr F n a).2 ≤ 9 := Int32.not_lt.mp (fun q => c2 (Or.inr q))
        obtain ⟨x, hx, e⟩ := wi_nat (m := 9) (v := (pnr F n a).2) (by decide) (by
          show (decide ((0 : Int32) ≤ (pnr F n a).2) && decide ((pnr F n a).2 ≤ 9)) = true
          rw [decide_eq_true (Int32.le_trans (show (0 : Int32) ≤ 1 by decide) h1), decide_eq_true h2]
          rfl)
        refine ⟨x, ?_, hx, e⟩
        rw [e] at h1
        exact (nI_leI (a := 1) (by decide) (by omega)).mp h1
theorem VOK.body {F : Nat → Int32} {n k q : Nat} {s : PS} {V : VD} (hV : VOK V) (h : pbad (pbody F n k q s V.1 V.2.1 V.2.2.1 V.2.2.2.1 V.2.2.2.2.1 V.2.2.2.2.2.1 V.2.2.2.2.2.2).1 = false) : VOK (pbody F n k q s V.1 V.2.1 V.2.2.1 V.2.2.2.1 V.2.2.2.2.1 V.2.2.2.2.2.1 V.2.2.2.2.2.2).2 := by
  obtain ⟨D, N, Q, M, st, ve, cl⟩ := V
  obtain ⟨hN, hD, hQ, hst, hve, hcl⟩ := hV
  have hN : N ≤ 10 := hN
  have hD : DOK D N := hD
  have hQ : QOK Q M := hQ
  have hM8 : M ≤ 8 := hQ.1
  have fact : ∀ (m f0 : Nat), f0 < 10 → m < 2 ^ 20 → m ≤ fmost f0 → pbad (pfactS F n N (nI m) s) = false → DOK (pfactD F n N (nI m) 10 f0 s D) N := fun m f0 h1 h2 h3 h4 => by
    obtain ⟨a, -, ea⟩ := pnum_nat (N := N) (by omega) (pbad_numS h4)
    obtain ⟨v, hv, ev⟩ := pnum_lo (m := m) (by omega) h4
    unfold pfactD
    rw [show (pnum F n 0 (nI m) (pnumS F n 0 (nI N - 1) s)).2 = nI v from ev]
    exact hD.up h1 (by omega)
  unfold pbody at h ⊢
  match k with
  | 0 =>
    have h4 : pbad (pdoorS F n N q s) = false := h
    have hN2 := pd0_g (pbad_numS (pbad_numS (pbad_numS h4)))
    obtain ⟨j, hj, ej⟩ := pnum_lo (m := 99) (by decide) h4
    obtain ⟨p, hp, ep⟩ := pnum_lo (m := 240) (by decide) (pbad_numS h4)
    obtain ⟨x, hx, ex⟩ := pnum_lo (m := 99) (by decide) (pbad_numS (pbad_numS h4))
    refine ⟨?_, ?_, hQ, hst, hve, hcl⟩
    · show (if pbad (pdoorS F n N q s) = true then N else N + 1) ≤ 10
      rw [h4]; show N + 1 ≤ 10; omega
    · show DOK (if pbad (pdoorS F n N q s) = true then D else pdoorD F n N q s D) (if pbad (pdoorS F n N q s) = true then N else N + 1)
      rw [h4]
      show DOK (pdoorD F n N q s D) (N + 1)
      unfold pdoorD
      rw [show (pnum F n 0 99 (pd0 N q s)).2 = nI x from ex, show (pnum F n 0 240 (pnumS F n 0 99 (pd0 N q s))).2 = nI p from ep, show (pnum F n 0 99 (pnumS F n 0 240 (pnumS F n 0 99 (pd0 N q s)))).2 = nI j from ej]
      exact hD.door hx hp hj
  | 1 =>
    have h4 : pbad (pfactS F n N (nI 16) s) = false := h
    refine ⟨hN, ?_, hQ, hst, hve, hcl⟩
    show DOK (if pbad (pfactS F n N (nI 16) s) = true then D else pfactD F n N (nI 16) 10 3 s D) N
    rw [h4]
    exact fact 16 3 (by decide) (by decide) (by decide) h4
  | 2 =>
    have h4 : pbad (pfactS F n N (nI 16) s) = false := h
    refine ⟨hN, ?_, hQ, hst, hve, hcl⟩
    show DOK (if pbad (pfactS F n N (nI 16) s) = true then D else pfactD F n N (nI 16) 10 4 s D) N
    rw [h4]
    exact fact 16 4 (by decide) (by decide) (by decide) h4
  | 3 =>
    have h4 : pbad (pfactS F n N (nI 16) s) = false := h
    refine ⟨hN, ?_, hQ, hst, hve, hcl⟩
    show DOK (if pbad (pfactS F n N (nI 16) s) = true then D else pfactD F n N (nI 16) 10 5 s D) N
    rw [h4]
    exact fact 16 5 (by decide) (by decide) (by decide) h4
  | 5 =>
    have h4 : pbad (pfactS F n N (nI 20) s) = false := h
    refine ⟨hN, ?_, hQ, hst, hve, hcl⟩
    show DOK (if pbad (pfactS F n N (nI 20) s) = true then D else pfactD F n N (nI 20) 10 8 s D) N
    rw [h4]
    exact fact 20 8 (by decide) (by decide) (by decide) h4
  | 6 =>
    have h4 : pbad (pfactS F n N (nI 30) s) = false := h
    refine ⟨hN, ?_, hQ, hst, hve, hcl⟩
    show DOK (if pbad (pfactS F n N (nI 30) s) = true then D else pfactD F n N (nI 30) 10 9 s D) N
    rw [h4]
    exact fact 30 9 (by decide) (by decide) (by decide) h4
  | 4 =>
    have h4 : pbad (plightS F n N s) = false := h
    refine ⟨hN, ?_, hQ, hst, hve, hcl⟩
    show DOK (if pbad (plightS F n N s) = true then D else plightD F n N s D) N
    rw [h4]
    show DOK (plightD F n N s D) N
    obtain ⟨v, hv, ev⟩ := pnum_lo (m := 16) (by decide) h4
    unfold plightD
    rw [show (pnum F n 0 16 (pfactS F n N 16 s)).2 = nI v from ev]
    exact (fact 16 6 (by decide) (by decide) (by decide) (pbad_numS h4)).up (by decide) hv
  | 7 =>
    have h4 : pbad (psingS F n M q s) = false := h
    have hM2 := ps0_g (pbad_numS (pbad_numS h4))
    obtain ⟨p, hp, ep⟩ := pnum_lo (m := 3) (by decide) h4
    obtain ⟨v, hv, ev⟩ := pnum_lo (m := 99) (by decide) (pbad_numS h4)
    refine ⟨hN, hD, ?_, hst, hve, hcl⟩
    show QOK (if pbad (psingS F n M q s) = true then Q else psingQ F n M q s Q) (if pbad (psingS F n M q s) = true then M else M + 1)
    rw [h4]
    show QOK (psingQ F n M q s Q) (M + 1)
    unfold psingQ
    rw [show (pnum F n 0 99 (ps0 M q s)).2 = nI v from ev, show (pnum F n 0 3 (pnumS F n 0 99 (ps0 M q s))).2 = nI p from ep]
    exact hQ.sing hM2 hv hp
  | 8 =>
    have h4 : pbad (pfactS F n M (nI 480) s) = false := h
    obtain ⟨a, -, ea⟩ := pnum_nat (N := M) (by omega) (pbad_numS h4)
    obtain ⟨v, hv, ev⟩ := pnum_lo (m := 480) (by decide) h4
    refine ⟨hN, hD, ?_, hst, hve, hcl⟩
    show QOK (if pbad (pfactS F n M (nI 480) s) = true then Q else pfactD F n M (nI 480) 4 2 s Q) M
    rw [h4]
    show QOK (pfactD F n M (nI 480) 4 2 s Q) M
    unfold pfactD
    rw [show (pnum F n 0 (nI 480) (pnumS F n 0 (nI M - 1) s)).2 = nI v from ev]
    exact hQ.up2 hv
  | 9 =>
    have h4 : pbad (pfactS F n M (nI 9) s) = false := h
    obtain ⟨a, -, ea⟩ := pnum_nat (N := M) (by omega) (pbad_numS h4)
    obtain ⟨v, hv, ev⟩ := pnum_lo (m := 9) (by decide) h4
    refine ⟨hN, hD, ?_, hst, hve, hcl⟩
    show QOK (if pbad (pfactS F n M (nI 9) s) = true then Q else pfactD F n M (nI 9) 4 3 s Q) M
    rw [h4]
    show QOK (pfactD F n M (nI 9) 4 3 s Q) M
    unfold pfactD
    rw [show (pnum F n 0 (nI 9) (pnumS F n 0 (nI M - 1) s)).2 = nI v from ev]
    exact hQ.up3 hv
  | 10 => exact ⟨hN, hD, hQ, pnum_lo (m := 99) (by decide) h, hve, hcl⟩
  | 11 => exact ⟨hN, hD, hQ, hst, pnum_19 h, hcl⟩
  | 12 => exact ⟨hN, hD, hQ, hst, hve, pnum_lo (m := 480) (by decide) h⟩
  | _ + 13 => exact ⟨hN, hD, hQ, hst, hve, hcl⟩
theorem VOK.run {F : Nat → Int32} {n : Nat} {f : Nat → Nat} {len : Nat} : ∀ (m i : Nat) (r : PS × VD), (pbad r.1 = false → VOK r.2) → pbad (pvrun F n f len m i r).1 = false → VOK (pvrun F n f len m i r).2 := by
  intro m
  induction m with
  | zero => intro i r h1 h2; exact h1 h2
  | succ m ih =>
    intro i r h1 h2
    obtain ⟨s, V⟩ := r
    cases s with
    | inl e => cases h2
    | inr a =>
      have hV : VOK V := h1 rfl
      unfold pvrun at h2 ⊢
      simp only at h2 ⊢
      by_cases c : tby F n (sk F n a) = -1
      · rw [if_pos c]; exact hV
      · rw [if_neg c] at h2 ⊢
        refine ih (i + 1) _ (fun h3 => ?_) h2
        have h4 := pbad_sign h3
        exact hV.body h4
theorem INV.vil {S : CS} (hI : INV S) {pl : Int32} {D P U : Nat → Int32} {N : Nat} {Q : Nat → Int32} {M : Nat} {st ve cl : Int32} (hV : VOK (D, N, Q, M, st, ve, cl)) : INV (svil S pl D P U N Q M st ve cl) := by
  obtain ⟨hN, hD, hQ, hst, hve, hcl⟩ := hV
  exact ⟨Nat.zero_le _, ⟨⟨hN, Nat.zero_le _, Nat.zero_le _⟩, hD, ⟨fun _ => 0, fun _ => 0, fun _ => 0, fun i hi => absurd hi (Nat.not_lt_zero i), fun i hi => absurd hi (Nat.not_lt_zero i), fun i j hi => absurd hi (Nat.not_lt_zero i)⟩, hst, hve, hcl⟩, hQ, ⟨⟨Nat.zero_le _, fun q => absurd rfl q⟩, Nat.zero_le _, fun q => absurd rfl q⟩, Nat.zero_le _, Nat.zero_le _, fun q hq => absurd hq (Nat.not_lt_zero q)⟩
theorem VOK.cp {D : Nat → Int32} {N : Nat} {Q : Nat → Int32} {M : Nat} {st ve cl : Int32} (hV : VOK (D, N, Q, M, st, ve, cl)) (D2 Q2 : Nat → Int32) : VOK (va_cpy D D2 0 0 100, N, va_cpy Q Q2 0 0 32, M, st, ve, cl) := by
  obtain ⟨hN, hD, hQ, hst, hve, hcl⟩ := hV
  have hN : N ≤ 10 := hN
  have hQ : QOK Q M := hQ
  have hD : DOK D N := hD
  have hM8 := hQ.1
  refine ⟨hN, fun a f ha hf => ?_, ⟨hQ.1, fun a ha => ?_⟩, hst, hve, hcl⟩
  · have ha : a < N := ha
    obtain ⟨v, h1, h2⟩ := hD a f ha hf
    exact ⟨v, h1, (cpy_at (by omega)).trans h2⟩
  · have ha : a < M := ha
    show (∃ v : Nat, v ≤ 99 ∧ va_cpy Q Q2 0 0 32 (a * 4 + 0) = nI v) ∧ (∃ v : Nat, v ≤ 3 ∧ va_cpy Q Q2 0 0 32 (a * 4 + 1) = nI v) ∧ (va_cpy Q Q2 0 0 32 (a * 4 + 2) = -1 ∨ ∃ v : Nat, v ≤ 480 ∧ va_cpy Q Q2 0 0 32 (a * 4 + 2) = nI v) ∧ ∃ v : Nat, v ≤ 9 ∧ va_cpy Q Q2 0 0 32 (a * 4 + 3) = nI v
    rw [cpy_at (by omega), cpy_at (by omega), cpy_at (by omega), cpy_at (by omega)]
    exact hQ.2 a ha
end Q14H
