section Q13N
theorem nJ_int {u : Int32} {i : Int} {b : Nat} (hu : u.toInt = i) (h1 : -(2 ^ 25) ≤ i) (h2 : i ≤ 2 ^ 25) (hb : b < 2 ^ 20) : (u - nI b).toInt = i - b := by
  rw [Int32.toInt_sub, hu, nI_toInt (by omega)]
  exact Int.bmod_eq_of_le (by omega) (by omega)
theorem nJ_4 {a b c e : Nat} (ha : a < 2 ^ 20) (hb : b < 2 ^ 20) (hc : c < 2 ^ 20) (he : e < 2 ^ 20) : (nI a - nI b - nI c - nI e).toInt = (a : Int) - b - c - e := by
  have h1 := nJ_int (nI_toInt (n := a) (by omega)) (by omega) (by omega) hb
  have h2 := nJ_int h1 (by omega) (by omega) hc
  exact nJ_int h2 (by omega) (by omega) he
theorem nJ_4k {a b c e : Nat} (ha : a < 2 ^ 20) (h : b + c + e ≤ a) : nI a - nI b - nI c - nI e = nI (a - b - c - e) := by
  rw [nJ_sub (by omega), nJ_sub (by omega), nJ_sub (by omega)]
/-- what lies in the model's rows while the first of the best is looked for -/
def btab (dc : Nat) (A T : Nat → Nat → Nat) (W : Nat → Nat) (cl : Nat) (al : Nat → Bool) (F : Nat → Nat → Int32) (G : Nat → Nat → Int64) : Prop := ovN dc A T (G 82) (F 83) ∧ cl ≤ 480 ∧ ∀ s : Nat, s < 2 ^ dc → W s ≤ 400 ∧ F 85 s = nI cl - nI (W s) ∧ F 86 s = qb (al s) ∧ (al s = true → W s ≤ cl) ∧ (W s ≤ cl → ∀ d t : Nat, d ≤ dc → t < 481 → G 81 ((s * 6 + d) * 481 + t) = enc (mo A T s dc (dc - d) t))
set_option maxHeartbeats 1000000 in
theorem M_goesOn {g : qG} (hg : qOK g) {h : qH} {x : Nat → Int32} {y : Nat → Int64} {F : Nat → Nat → Int32} {G : Nat → Nat → Int64} (hM : MX h x y F G) {S : CS} (hR : Rel S x F) (hI : ROK S.2.1) (hd5 : S.2.1.2.2.2.1 ≤ 5) {X : Nat → Nat} {A T : Nat → Nat → Nat} {st cl : Nat} {al : Nat → Bool} (hB : btab S.2.1.2.2.2.1 A T (wayS X S.2.1.2.2.2.1 st) cl al F G) {d q bt got Vv : Nat} (hd : d < S.2.1.2.2.2.1) (hq : q < 19) (h50 : x 50 = nI bt) (hbt : bt ≤ 1000) (h49 : y 49 = Int64.ofNat Vv) (hVv : Vv ≤ 2 ^ 48) (hgot : got ≤ 2 ^ 48) : qSpec g 2 0 0 mX12_goesOn [.ref 63, .int (nI d), .int (nI q), .long (Int64.ofNat got)] h (fun r h' => ∃ b : Bool, r = some (.int (qb b)) ∧ (b = true ↔ ∃ s : Nat, s < 2 ^ S.2.1.2.2.2.1 ∧ gw X A T S.2.1.2.2.2.1 st cl Vv d q bt got al s) ∧ h' = h) := by
  refine qSpec_run 12 "goesOn" false hg mX12_goesOn_ok rfl rfl (Nat.le_of_ble_eq_true rfl) (by decide) ?_
  intro run step
  have hn10 := hI.1.1
  have hp32 : 2 ^ S.2.1.2.2.2.1 ≤ 2 ^ 5 := Nat.pow_le_pow_right (by decide) hd5
  have loop : ∀ (m s : Nat), m + s = 2 ^ S.2.1.2.2.2.1 → (∀ z : Nat, z < s → ¬ gw X A T S.2.1.2.2.2.1 st cl Vv d q bt got al z) → run 3 [(5, .int (nI s)), (0, .ref 63), (1, .int (nI d)), (2, .int (nI q)), (3, .long (Int64.ofNat got))] [] h 0 0 := by
    intro m
    induction m with
    | zero =>
      intro s hs hno
      have e19 : x 19 = nI S.2.1.2.2.2.1 := hR.1.2.2.1
      have epow : (1 : Int32) <<< (x 19 &&& 31) = nI (2 ^ S.2.1.2.2.2.1) := by rw [e19]; exact b_shl (by omega)
      refine step.1 _ _ _ _ _ _ _ sgX12_goesOn_3_ok ?_
      refine ⟨by decide, _, _, hM.1, rfl, ?_⟩
      refine ⟨fun c11 => ?_, fun c11 => absurd (show (1 : Int32) <<< (x 19 &&& 31) ≤ nI s from by rw [epow]; exact nI_le (by omega) (by omega)) c11⟩
      
      refine step.1 _ _ _ _ _ _ _ sgX12_goesOn_128_ok ?_
      refine ⟨.boolean, rfl, rfl, Nat.le_refl _, Nat.le_refl _, ?_⟩
      exact ⟨false, rfl, ⟨fun z => (by cases z), fun ⟨z, hz, hw⟩ => absurd hw (hno z (by omega))⟩, rfl⟩
    | succ m ih =>
      intro s hs hno
      have e19 : x 19 = nI S.2.1.2.2.2.1 := hR.1.2.2.1
      have epow : (1 : Int32) <<< (x 19 &&& 31) = nI (2 ^ S.2.1.2.2.2.1) := by rw [e19]; exact b_shl (by omega)
      obtain ⟨hW, e85, e86, hal, htab⟩ := hB.2.2 s (by omega)
      have ets := h_tn (n := s) (by omega)
      obtain ⟨⟨eA, hA⟩, eT, hT⟩ := hB.1 d q hd hq
      have ei : (19 * nI d + nI q : Int32) = nI (d * 19 + q) := ixk (k := 19)
      have et := h_tn (n := d * 19 + q) (by omega)
      have eL : F 85 (nI s).toNatClampNeg - x 50 - F 83 (19 * nI d + nI q : Int32).toNatClampNeg = nI cl - nI ((wayS X S.2.1.2.2.2.1 st) s) - nI bt - nI (T d q) := by rw [ets, e85, h50, ei, et, eT]
      have hin4 := nJ_4 (a := cl) (b := (wayS X S.2.1.2.2.2.1 st) s) (c := bt) (e := T d q) (by have := hB.2.1; omega) (by omega) (by omega) (by omega)
      have eV : G 82 (19 * nI d + nI q : Int32).toNatClampNeg = Int64.ofNat (A d q) := by rw [ei, et]; exact eA
      have ixv : vp_in (19 * nI d + nI q : Int32) 95 := by rw [ei]; exact vp_in_nI (by omega) (by decide)
      have hcl := hB.2.1
      refine step.1 _ _ _ _ _ _ _ sgX12_goesOn_3_ok ?_
      refine ⟨by decide, _, _, hM.1, rfl, ?_⟩
      refine ⟨fun c11 => absurd (show nI (2 ^ S.2.1.2.2.2.1) ≤ nI s from by rw [← epow]; exact c11) (h_nle (by omega) (by omega)), fun c11 => ?_⟩
      
      refine ⟨by decide, _, _, hM.1, rfl, ?_⟩
      refine ⟨_, _, hM.c85, vp_in_nI (by omega) (by decide), ?_⟩
      refine ⟨by decide, _, _, hM.1, rfl, ?_⟩
      refine ⟨by decide, _, _, hM.1, rfl, ?_⟩
      refine ⟨_, _, hM.c83, ixv, ?_⟩
      refine ⟨by decide, _, _, hM.1, rfl, ?_⟩
      refine ⟨_, _, _, hM.c86, Or.inr rfl, vp_in_nI (by omega) (by decide), ?_⟩
      refine ⟨fun c47 => ?_, fun c47 => ?_⟩
      · have hnw : ¬ gw X A T S.2.1.2.2.2.1 st cl Vv d q bt got al s := fun z => by
          rw [ets, e86, z.1] at c47
          exact absurd c47 (by decide)
        refine step.1 _ _ _ _ _ _ _ sgX12_goesOn_122_ok ?_
        refine step.2 _ _ _ _ _ _ _ (qsub_cons 0 rfl (qsub_cons 2 rfl (qsub_cons 3 rfl (qsub_cons 4 rfl (qsub_cons 5 rfl qsub_nil))))) ?_
        have kk := ih (s + 1) (by omega) (fun z hz => by
          by_cases e : z = s
          · subst e; exact hnw
          · exact hno z (by omega))
        rw [← nI_1] at kk
        exact kk
      · have ha : al s = true := by
          rw [ets, e86] at c47
          exact qb_1.mp c47
        refine Or.inl ⟨rfl, _, 1, 0, 0, _, _, _, qi_12_411, ⟨rfl, rfl⟩, ⟨hM.1, rfl⟩, rfl, rfl, M_isOf hg (s := s) (d := d) (q := q) (by omega) (by omega) (by omega), fun y55 h55 hy55 => ?_⟩
        obtain ⟨rfl, hh⟩ := hy55
        rw [hh]
        clear hh
        refine ⟨fun c58 => ?_, fun c58 => ?_⟩
        · have hnw : ¬ gw X A T S.2.1.2.2.2.1 st cl Vv d q bt got al s := fun z => by
            have h1 := qb_0.mp c58
            rw [z.2.1] at h1
            simp at h1
          refine step.1 _ _ _ _ _ _ _ sgX12_goesOn_122_ok ?_
          refine step.2 _ _ _ _ _ _ _ (qsub_cons 0 rfl (qsub_cons 2 rfl (qsub_cons 3 rfl (qsub_cons 4 rfl (qsub_cons 5 rfl qsub_nil))))) ?_
          have kk := ih (s + 1) (by omega) (fun z hz => by
            by_cases e : z = s
            · subst e; exact hnw
            · exact hno z (by omega))
          rw [← nI_1] at kk
          exact kk
        · have hbq : s.testBit d = decide (0 < q) := eq_of_beq (qb_1.mp c58)
          refine ⟨fun c63 => ?_, fun c63 => ?_⟩
          · have hle : (wayS X S.2.1.2.2.2.1 st) s + bt + T d q ≤ cl := by
              rw [eL] at c63
              have h1 := Int32.le_iff_toInt_le.mp c63
              rw [hin4] at h1
              have h2 : (0 : Int32).toInt = 0 := rfl
              omega
            have eK : F 85 (nI s).toNatClampNeg - x 50 - F 83 (19 * nI d + nI q : Int32).toNatClampNeg = nI (cl - (wayS X S.2.1.2.2.2.1 st) s - bt - T d q) := by rw [eL]; exact nJ_4k (by omega) hle
            have hmb0 : ∀ v : Nat, (mo A T s S.2.1.2.2.2.1 (S.2.1.2.2.2.1 - (d + 1)) (cl - (wayS X S.2.1.2.2.2.1 st) s - bt - T d q)) = some v → v ≤ 5 * 2 ^ 42 := fun v e => Nat.le_trans (mo_b (C := 2 ^ 42) (fun a k ha hk => (hB.1 a k ha hk).1.2) _ _ v (by omega) e) (Nat.mul_le_mul_right _ (by omega))
            have eM : G 81 (nI ((s * 6 + (d + 1)) * 481 + (cl - (wayS X S.2.1.2.2.2.1 st) s - bt - T d q))).toNatClampNeg = enc (mo A T s S.2.1.2.2.2.1 (S.2.1.2.2.2.1 - (d + 1)) (cl - (wayS X S.2.1.2.2.2.1 st) s - bt - T d q)) := by
              rw [h_tn (by omega)]
              exact htab (by omega) (d + 1) _ (by omega) (by omega)
            refine step.1 _ _ _ _ _ _ _ sgX12_goesOn_69_ok ?_
            refine ⟨by decide, _, _, hM.1, rfl, ?_⟩
            refine Or.inl ⟨rfl, _, 1, 0, 0, _, _, _, qi_12_406, ⟨rfl, rfl⟩, ⟨hM.1, rfl⟩, rfl, rfl, (by rw [eK, nI_1]; exact M_index hg s (d + 1) (cl - (wayS X S.2.1.2.2.2.1 st) s - bt - T d q)), fun y81 h81 hy81 => ?_⟩
            obtain ⟨rfl, hh⟩ := hy81
            rw [hh]
            clear hh
            refine ⟨_, _, hM.c81, vp_in_nI (by omega) (by decide), ?_⟩
            refine ⟨fun c93 => ?_, fun c93 => ?_⟩
            · have hnw : ¬ gw X A T S.2.1.2.2.2.1 st cl Vv d q bt got al s := fun z => by
                obtain ⟨v, z4, z5⟩ := z.2.2.2
                have h1 := (lgc0 _ _).mp c93
                rw [eM] at h1
                rw [(enc_m1 (fun v e => by have := hmb0 v e; omega)).mp h1] at z4
                cases z4
              refine step.1 _ _ _ _ _ _ _ sgX12_goesOn_122_ok ?_
              refine step.2 _ _ _ _ _ _ _ (qsub_cons 0 rfl (qsub_cons 3 rfl (qsub_cons 4 rfl (qsub_cons 5 rfl (qsub_cons 6 rfl qsub_nil))))) ?_
              have kk := ih (s + 1) (by omega) (fun z hz => by
                by_cases e : z = s
                · subst e; exact hnw
                · exact hno z (by omega))
              rw [← nI_1] at kk
              exact kk
            · obtain ⟨v, hv⟩ : ∃ v : Nat, (mo A T s S.2.1.2.2.2.1 (S.2.1.2.2.2.1 - (d + 1)) (cl - (wayS X S.2.1.2.2.2.1 st) s - bt - T d q)) = some v := by
                cases z : (mo A T s S.2.1.2.2.2.1 (S.2.1.2.2.2.1 - (d + 1)) (cl - (wayS X S.2.1.2.2.2.1 st) s - bt - T d q)) with
                | none => exact absurd ((lgc0 _ _).mpr (by rw [eM, z]; rfl)) c93
                | some v => exact ⟨v, rfl⟩
              refine ⟨by decide, _, _, hM.1, rfl, ?_⟩
              refine ⟨_, _, hM.c82, ixv, ?_⟩
              refine ⟨by decide, _, _, hM.1, rfl, ?_⟩
              refine ⟨fun c117 => ?_, fun c117 => ?_⟩
              · have hnw : ¬ gw X A T S.2.1.2.2.2.1 st cl Vv d q bt got al s := fun z => by
                  obtain ⟨v, z4, z5⟩ := z.2.2.2
                  refine c117 ((lgc0 _ _).mpr ?_)
                  rw [eV, eM, z4, h49, ← z5, Int64.ofNat_add, Int64.ofNat_add]
                  rfl
                refine step.1 _ _ _ _ _ _ _ sgX12_goesOn_122_ok ?_
                refine step.2 _ _ _ _ _ _ _ (qsub_cons 0 rfl (qsub_cons 3 rfl (qsub_cons 4 rfl (qsub_cons 5 rfl (qsub_cons 6 rfl qsub_nil))))) ?_
                have kk := ih (s + 1) (by omega) (fun z hz => by
                  by_cases e : z = s
                  · subst e; exact hnw
                  · exact hno z (by omega))
                rw [← nI_1] at kk
                exact kk
              · refine ⟨.boolean, rfl, rfl, Nat.le_refl _, Nat.le_refl _, ?_⟩
                refine ⟨true, rfl, ⟨fun _ => ⟨s, by omega, ha, hbq, hle, v, hv, ?_⟩, fun _ => rfl⟩, rfl⟩
                have h1 := (lgc0 _ _).mp c117
                rw [eV, eM, hv, h49] at h1
                have h2 := hmb0 v hv
                have h3 : Int64.ofNat got + Int64.ofNat (A d q) + Int64.ofNat v = Int64.ofNat Vv := h1
                rw [← Int64.ofNat_add, ← Int64.ofNat_add] at h3
                exact eq_n1 (by omega) (by omega) h3
          · have hnw : ¬ gw X A T S.2.1.2.2.2.1 st cl Vv d q bt got al s := fun z => c63 (by
              rw [eL]
              refine Int32.le_iff_toInt_le.mpr ?_
              rw [hin4]
              have h2 : (0 : Int32).toInt = 0 := rfl
              have h3 := z.2.2.1
              omega)
            refine step.1 _ _ _ _ _ _ _ sgX12_goesOn_122_ok ?_
            refine step.2 _ _ _ _ _ _ _ (qsub_cons 0 rfl (qsub_cons 2 rfl (qsub_cons 3 rfl (qsub_cons 4 rfl (qsub_cons 5 rfl qsub_nil))))) ?_
            have kk := ih (s + 1) (by omega) (fun z hz => by
              by_cases e : z = s
              · subst e; exact hnw
              · exact hno z (by omega))
            rw [← nI_1] at kk
            exact kk
  refine step.1 _ _ _ _ _ _ _ sgX12_goesOn_0_ok ?_
  exact loop (2 ^ S.2.1.2.2.2.1) 0 rfl (fun z hz => by omega)
end Q13N
