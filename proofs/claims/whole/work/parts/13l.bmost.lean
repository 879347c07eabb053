section Q13L
theorem mpf_k {R : Nat → Option Nat} {A T : Nat → Nat} {b : Bool} {t k : Nat} (h : ¬ (b = decide (0 < k) ∧ T k ≤ t)) : mpf R A T b t (k + 1) = mpf R A T b t k := if_neg h
theorem omx_n (a : Option Nat) : omx a none = a := by cases a <;> rfl
theorem mpf_x {R : Nat → Option Nat} {A T : Nat → Nat} {b : Bool} {t k : Nat} (h : b = decide (0 < k) ∧ T k ≤ t) (hr : R (t - T k) = none) : mpf R A T b t (k + 1) = mpf R A T b t k := by
  rw [show mpf R A T b t (k + 1) = _ from if_pos h, hr]
  exact omx_n _
theorem mpf_s {R : Nat → Option Nat} {A T : Nat → Nat} {b : Bool} {t k v : Nat} (h : b = decide (0 < k) ∧ T k ≤ t) (hr : R (t - T k) = some v) : mpf R A T b t (k + 1) = omx (mpf R A T b t k) (some (A k + v)) := by
  rw [show mpf R A T b t (k + 1) = _ from if_pos h, hr]
  rfl
theorem omx_b {a b : Option Nat} {B : Nat} (ha : ∀ v : Nat, a = some v → v ≤ B) (hb : ∀ v : Nat, b = some v → v ≤ B) : ∀ v : Nat, omx a b = some v → v ≤ B := by
  intro v e
  cases a with
  | none => exact hb v e
  | some u =>
    cases b with
    | none => exact ha v e
    | some w =>
      cases e
      have h1 := ha u rfl
      have h2 := hb w rfl
      exact Nat.max_le.mpr ⟨h1, h2⟩
theorem mpf_b {R : Nat → Option Nat} {A T : Nat → Nat} {b : Bool} {t B C : Nat} (hR : ∀ t v : Nat, R t = some v → v ≤ B) (hA : ∀ k : Nat, k < 19 → A k ≤ C) : ∀ k : Nat, k ≤ 19 → ∀ v : Nat, mpf R A T b t k = some v → v ≤ C + B := by
  intro k
  induction k with
  | zero => intro _ v e; cases e
  | succ k ih =>
    intro hk v e
    by_cases h : b = decide (0 < k) ∧ T k ≤ t
    · cases hr : R (t - T k) with
      | none => rw [mpf_x h hr] at e; exact ih (by omega) v e
      | some u =>
        rw [mpf_s h hr] at e
        refine omx_b (ih (by omega)) (fun w q => ?_) v e
        cases q
        have h1 := hR _ _ hr
        have h2 := hA k (by omega)
        omega
    · rw [mpf_k h] at e; exact ih (by omega) v e
theorem mo_b {A T : Nat → Nat → Nat} {s dc C : Nat} (hA : ∀ a k : Nat, a < dc → k < 19 → A a k ≤ C) : ∀ f t v : Nat, f ≤ dc → mo A T s dc f t = some v → v ≤ f * C := by
  intro f
  induction f with
  | zero => intro t v _ e; cases e; omega
  | succ f ih =>
    intro t v hf e
    have h := mpf_b (fun t v e => ih t v (by omega) e) (fun k hk => hA (dc - (f + 1)) k (by omega) hk) 19 (Nat.le_refl _) v e
    have e2 : (f + 1) * C = f * C + C := Nat.succ_mul f C
    omega
theorem enc_m1 {r : Option Nat} (hb : ∀ v : Nat, r = some v → v < 2 ^ 50) : enc r = -1 ↔ r = none := by
  cases r with
  | none => exact ⟨fun _ => rfl, fun _ => rfl⟩
  | some v =>
    have h := hb v rfl
    refine ⟨fun e => ?_, fun e => by cases e⟩
    have e2 : Int64.ofNat v = -1 := e
    have h2 : (Int64.ofNat v).toInt = (v : Int) := Int64.toInt_ofNat_of_lt (by omega)
    rw [e2, show (-1 : Int64).toInt = -1 from by decide] at h2
    omega
theorem enc_le {u : Nat} {p : Option Nat} (hu : u < 2 ^ 50) (hp : ∀ v : Nat, p = some v → v < 2 ^ 50) (h : enc (some u) ≤ enc p) : enc (omx p (some u)) = enc p := by
  cases p with
  | none =>
    have h1 : (Int64.ofNat u).toInt = (u : Int) := Int64.toInt_ofNat_of_lt (by omega)
    have h2 : (Int64.ofNat u).toInt ≤ (-1 : Int64).toInt := Int64.le_iff_toInt_le.mp h
    rw [h1, show (-1 : Int64).toInt = -1 from by decide] at h2
    omega
  | some w =>
    have hw := hp w rfl
    have h1 : u ≤ w := (Int64.ofNat_le_iff_le (by omega) (by omega)).mp h
    show Int64.ofNat (max w u) = Int64.ofNat w
    rw [Nat.max_eq_left h1]
theorem enc_nle {u : Nat} {p : Option Nat} (hu : u < 2 ^ 50) (hp : ∀ v : Nat, p = some v → v < 2 ^ 50) (h : ¬ enc (some u) ≤ enc p) : enc (omx p (some u)) = enc (some u) := by
  cases p with
  | none => rfl
  | some w =>
    have hw := hp w rfl
    have h1 : w ≤ u := Nat.le_of_not_lt fun q => h ((Int64.ofNat_le_iff_le (by omega) (by omega)).mpr (by omega))
    show Int64.ofNat (max w u) = Int64.ofNat u
    rw [Nat.max_eq_right h1]
/-- what the rows of the options hold, as numbers -/
def ovN (dc : Nat) (A T : Nat → Nat → Nat) (g : Nat → Int64) (f : Nat → Int32) : Prop := ∀ a b : Nat, a < dc → b < 19 → (g (a * 19 + b) = Int64.ofNat (A a b) ∧ A a b ≤ 2 ^ 42) ∧ f (a * 19 + b) = nI (T a b) ∧ T a b ≤ 200
/-- the table of one set, from door k on -/
def mtI (A T : Nat → Nat → Nat) (s dc k : Nat) (g g0 : Nat → Int64) : Prop := (∀ d t : Nat, k ≤ d → d ≤ dc → t < 481 → g ((s * 6 + d) * 481 + t) = enc (mo A T s dc (dc - d) t)) ∧ ∀ j : Nat, (j < s * 2886 ∨ (s + 1) * 2886 ≤ j) → g j = g0 j
/-- likewise, of the door ahead so many minutes -/
def mtJ (A T : Nat → Nat → Nat) (s dc d q : Nat) (g g0 : Nat → Int64) : Prop := mtI A T s dc (d + 1) g g0 ∧ ∀ t : Nat, t < q → g ((s * 6 + d) * 481 + t) = enc (mo A T s dc (dc - d) t)
theorem mtJ.st {A T : Nat → Nat → Nat} {s dc d q : Nat} {g g0 : Nat → Int64} (h : mtJ A T s dc d q g g0) {v : Int64} (hv : v = enc (mo A T s dc (dc - d) q)) (hq : q < 481) (hd : d < 6) : mtJ A T s dc d (q + 1) (vp_updL g ((s * 6 + d) * 481 + q) v) g0 := by
  obtain ⟨⟨h1, h2⟩, h3⟩ := h
  refine ⟨⟨fun a t ha hb ht => ?_, fun j hj => ?_⟩, fun t ht => ?_⟩
  · exact (if_neg (by omega)).trans (h1 a t ha hb ht)
  · exact (if_neg (by omega)).trans (h2 j hj)
  · by_cases e : t = q
    · subst e
      exact (if_pos rfl).trans hv
    · exact (if_neg (by omega)).trans (h3 t (by omega))
theorem mtJ.nx {A T : Nat → Nat → Nat} {s dc d : Nat} {g g0 : Nat → Int64} (h : mtJ A T s dc d 481 g g0) : mtI A T s dc d g g0 := by
  obtain ⟨⟨h1, h2⟩, h3⟩ := h
  refine ⟨fun a t ha hb ht => ?_, h2⟩
  by_cases e : a = d
  · subst e
    exact h3 t ht
  · exact h1 a t (by omega) hb ht
theorem gup_gup {G : Nat → Nat → Int64} {k : Nat} {f f' : Nat → Int64} : gup (gup G k f) k f' = gup G k f' := by
  funext j
  unfold gup
  split <;> rfl
theorem gup_self {G : Nat → Nat → Int64} {k : Nat} : gup G k (G k) = G := by
  funext j
  unfold gup
  split
  · rename_i e; rw [e]
  · rfl
theorem nJ_subneg {a b : Nat} (h : a < b) (hb : b < 2 ^ 20) : nI a - nI b < 0 := by
  have h1 := nI_toInt (n := a) (by omega)
  have h2 := nI_toInt (n := b) (by omega)
  have h3 : (nI a - nI b).toInt = (a : Int) - b := by
    rw [Int32.toInt_sub, h1, h2]
    exact Int.bmod_eq_of_le (by omega) (by omega)
  rw [Int32.lt_iff_toInt_lt, h3]
  show (a : Int) - b < 0
  omega
set_option maxHeartbeats 1000000 in
theorem M_findMost {g : qG} (hg : qOK g) {h : qH} {x : Nat → Int32} {y : Nat → Int64} {F : Nat → Nat → Int32} {G : Nat → Nat → Int64} (hM : MX h x y F G) {S : CS} (hR : Rel S x F) (hI : ROK S.2.1) (hd5 : S.2.1.2.2.2.1 ≤ 5) {A T : Nat → Nat → Nat} (hO : ovN S.2.1.2.2.2.1 A T (G 82) (F 83)) {s : Nat} (hs : s < 32) : qSpec g 3 0 0 mX12_findMost [.ref 63, .int (nI s)] h (fun r h' => r = none ∧ ∃ g : Nat → Int64, MX h' x y F (gup G 81 g) ∧ kp h h' ∧ (∀ d t : Nat, d ≤ S.2.1.2.2.2.1 → t < 481 → g ((s * 6 + d) * 481 + t) = enc (mo A T s S.2.1.2.2.2.1 (S.2.1.2.2.2.1 - d) t)) ∧ ∀ j : Nat, (j < s * 2886 ∨ (s + 1) * 2886 ≤ j) → g j = G 81 j) := by
  refine qSpec_run 12 "findMost" false hg mX12_findMost_ok rfl rfl (Nat.le_of_ble_eq_true rfl) (by decide) ?_
  intro run step
  have hn10 := hI.1.1
  have loop2 : ∀ (f : Nat) (hX0 : qH) (ga : Nat → Int64), f ≤ S.2.1.2.2.2.1 → MX hX0 x y F (gup G 81 ga) → kp h hX0 → mtI A T s S.2.1.2.2.2.1 f ga (G 81) → run 38 [(2, .int (nI f - 1)), (0, .ref 63), (1, .int (nI s))] [] hX0 0 0 := by
    intro f
    induction f with
    | zero =>
      intro hX0 ga hf hX hk hv0
      refine step.1 _ _ _ _ _ _ _ sgX12_findMost_38_ok ?_
      refine ⟨fun c39 => ?_, fun c39 => absurd (show (nI 0 - 1 : Int32) < 0 from by decide) c39⟩
      
      refine step.1 _ _ _ _ _ _ _ sgX12_findMost_202_ok ?_
      refine ⟨rfl, Nat.le_refl _, Nat.le_refl _, ?_⟩
      exact ⟨rfl, ga, hX, hk, fun d t a b => hv0.1 d t (Nat.zero_le _) a b, hv0.2⟩
    | succ d ih =>
      intro hX0 ga hf hX hk hv0
      have ed : (nI (d + 1) - 1 : Int32) = nI d := nI_pred d
      have loop3 : ∀ (m t : Nat) (hX0 : qH) (ga : Nat → Int64), m + t = 481 → MX hX0 x y F (gup G 81 ga) → kp h hX0 → mtJ A T s S.2.1.2.2.2.1 d t ga (G 81) → run 44 [(3, .int (nI t)), (2, .int (nI d)), (0, .ref 63), (1, .int (nI s))] [] hX0 0 0 := by
        clear hX hk hv0
        intro m
        induction m with
        | zero =>
        intro t hX0 ga hm hX hk hv0
        refine step.1 _ _ _ _ _ _ _ sgX12_findMost_44_ok ?_
        refine ⟨fun c48 => ?_, fun c48 => absurd (show nI 481 ≤ nI t from nI_le (by omega) (by omega)) c48⟩
        
        refine step.1 _ _ _ _ _ _ _ sgX12_findMost_196_ok ?_
        refine step.2 _ _ _ _ _ _ _ (qsub_cons 0 rfl (qsub_cons 2 rfl (qsub_cons 3 rfl qsub_nil))) ?_
        have kk := ih hX0 ga (by omega) hX hk (mtJ.nx (by rw [show (481 : Nat) = t by omega]; exact hv0))
        rw [show (nI d - 1 : Int32) = nI d + (-1) from Int32.sub_eq_add_neg ..] at kk
        exact kk
        | succ m iht =>
        intro t hX0 ga hm hX hk hv0
        have loop4 : ∀ (k q : Nat), k + q = 19 → run 59 [(6, .int (nI q)), (4, .long (enc (mpf (mo A T s S.2.1.2.2.2.1 (S.2.1.2.2.2.1 - (d + 1))) (A d) (T d) (s.testBit d) t q))), (3, .int (nI t)), (2, .int (nI d)), (0, .ref 63), (1, .int (nI s))] [] hX0 0 0 := by
          intro k
          induction k with
          | zero =>
          intro q hkq
          refine step.1 _ _ _ _ _ _ _ sgX12_findMost_59_ok ?_
          refine ⟨fun c63 => ?_, fun c63 => absurd (show nI 19 ≤ nI q from nI_le (by omega) (by omega)) c63⟩
          
          refine step.1 _ _ _ _ _ _ _ sgX12_findMost_176_ok ?_
          refine ⟨by decide, _, _, hX.1, rfl, ?_⟩
          refine Or.inl ⟨rfl, _, 1, 0, 0, _, _, _, qi_12_406, ⟨rfl, rfl⟩, ⟨hX.1, rfl⟩, rfl, rfl, M_index hg s d t, fun y184 h184 hy184 => ?_⟩
          obtain ⟨rfl, hh⟩ := hy184
          rw [hh]
          clear hh
          refine ⟨_, _, hX.c81, vp_in_nI (by omega) (by decide), ?_⟩
          have hXa := hX.u81 (vp_updL (gup G 81 ga 81) (nI ((s * 6 + d) * 481 + t)).toNatClampNeg (enc (mpf (mo A T s S.2.1.2.2.2.1 (S.2.1.2.2.2.1 - (d + 1))) (A d) (T d) (s.testBit d) t q)))
          refine step.2 _ _ _ _ _ _ _ (qsub_cons 0 rfl (qsub_cons 3 rfl (qsub_cons 4 rfl (qsub_cons 5 rfl qsub_nil)))) ?_
          rw [gup_gup] at hXa
          have kk := iht (t + 1) _ _ (by omega) hXa (hk.u (k := 81) (by decide) (by decide)) (by
            rw [gup_s, h_tn (by omega)]
            exact hv0.st (v := enc (mpf (mo A T s S.2.1.2.2.2.1 (S.2.1.2.2.2.1 - (d + 1))) (A d) (T d) (s.testBit d) t q)) (by
              rw [show S.2.1.2.2.2.1 - d = (S.2.1.2.2.2.1 - (d + 1)) + 1 by omega, show q = 19 by omega]
              show _ = enc (mpf _ _ _ _ _ _)
              rw [show S.2.1.2.2.2.1 - (S.2.1.2.2.2.1 - (d + 1) + 1) = d by omega]) (by omega) (by omega))
          rw [← nI_1] at kk
          exact kk
          | succ k ihq =>
          intro q hkq
          obtain ⟨⟨eA, hA⟩, eT, hT⟩ := hO d q (by omega) (by omega)
          have ei : (19 * nI d + nI q : Int32) = nI (d * 19 + q) := ixk (k := 19)
          have et := h_tn (n := d * 19 + q) (by omega)
          have eL : F 83 (19 * nI d + nI q : Int32).toNatClampNeg = nI (T d q) := by rw [ei, et]; exact eT
          have eV : gup G 81 ga 82 (19 * nI d + nI q : Int32).toNatClampNeg = Int64.ofNat (A d q) := by rw [gup_n (by decide), ei, et]; exact eA
          have ixv : vp_in (19 * nI d + nI q : Int32) 95 := by rw [ei]; exact vp_in_nI (by omega) (by decide)
          refine step.1 _ _ _ _ _ _ _ sgX12_findMost_59_ok ?_
          refine ⟨fun c63 => absurd (show nI 19 ≤ nI q from c63) (h_nle (by omega) (by omega)), fun c63 => ?_⟩
          
          refine ⟨by decide, _, _, hX.1, rfl, ?_⟩
          refine ⟨_, _, hX.c83, ixv, ?_⟩
          refine Or.inl ⟨rfl, _, 1, 0, 0, _, _, _, qi_12_411, ⟨rfl, rfl⟩, ⟨hX.1, rfl⟩, rfl, rfl, M_isOf hg (s := s) (d := d) (q := q) (by omega) (by omega) (by omega), fun y87 h87 hy87 => ?_⟩
          obtain ⟨rfl, hh⟩ := hy87
          rw [hh]
          clear hh
          refine ⟨fun c90 => ?_, fun c90 => ?_⟩
          · have hst : ¬ (s.testBit d = decide (0 < q) ∧ T d q ≤ t) := fun z => by
              have h1 := qb_0.mp c90
              rw [z.1] at h1
              simp at h1
            refine step.1 _ _ _ _ _ _ _ sgX12_findMost_170_ok ?_
            refine step.2 _ _ _ _ _ _ _ (qsub_cons 0 rfl (qsub_cons 2 rfl (qsub_cons 3 rfl (qsub_cons 4 rfl (qsub_cons 5 rfl (qsub_cons 6 rfl qsub_nil)))))) ?_
            have kk := ihq (q + 1) (by omega)
            rw [mpf_k hst, ← nI_1] at kk
            exact kk
          · have hbq : s.testBit d = decide (0 < q) := by
              have h1 := qb_1.mp c90
              exact eq_of_beq h1
            refine ⟨fun c95 => ?_, fun c95 => ?_⟩
            · have hst : ¬ (s.testBit d = decide (0 < q) ∧ T d q ≤ t) := fun z => by
                rw [eL, nJ_sub z.2] at c95
                exact nI_pos (by omega) c95
              refine step.1 _ _ _ _ _ _ _ sgX12_findMost_170_ok ?_
              refine step.2 _ _ _ _ _ _ _ (qsub_cons 0 rfl (qsub_cons 2 rfl (qsub_cons 3 rfl (qsub_cons 4 rfl (qsub_cons 5 rfl (qsub_cons 6 rfl qsub_nil)))))) ?_
              have kk := ihq (q + 1) (by omega)
              rw [mpf_k hst, ← nI_1] at kk
              exact kk
            · have hle : T d q ≤ t := Nat.le_of_not_lt fun z => c95 (by
                rw [eL]
                exact nJ_subneg z (by omega))
              have hmb : ∀ v : Nat, (mo A T s S.2.1.2.2.2.1 (S.2.1.2.2.2.1 - (d + 1)) (t - T d q)) = some v → v < 2 ^ 50 := fun v e => by
                have h1 := mo_b (C := 2 ^ 42) (fun a k ha hk => (hO a k ha hk).1.2) _ _ v (by omega) e
                have h2 : (S.2.1.2.2.2.1 - (d + 1)) * 2 ^ 42 ≤ 5 * 2 ^ 42 := Nat.mul_le_mul_right _ (by omega)
                omega
              have eM : gup G 81 ga 81 (nI ((s * 6 + (d + 1)) * 481 + (t - T d q))).toNatClampNeg = enc (mo A T s S.2.1.2.2.2.1 (S.2.1.2.2.2.1 - (d + 1)) (t - T d q)) := by
                rw [gup_s, h_tn (by omega)]
                exact hv0.1.1 (d + 1) (t - T d q) (Nat.le_refl _) (by omega) (by omega)
              refine ⟨by decide, _, _, hX.1, rfl, ?_⟩
              refine Or.inl ⟨rfl, _, 1, 0, 0, _, _, _, qi_12_406, ⟨rfl, rfl⟩, ⟨hX.1, rfl⟩, rfl, rfl, (by rw [eL, nJ_sub hle, nI_1]; exact M_index hg s (d + 1) (t - T d q)), fun y109 h109 hy109 => ?_⟩
              obtain ⟨rfl, hh⟩ := hy109
              rw [hh]
              clear hh
              refine ⟨_, _, hX.c81, vp_in_nI (by omega) (by decide), ?_⟩
              refine ⟨fun c117 => ?_, fun c117 => ?_⟩
              · have hne : ¬ (mo A T s S.2.1.2.2.2.1 (S.2.1.2.2.2.1 - (d + 1)) (t - T d q)) = none := fun z => c117 ((lgc0 _ _).mpr (by rw [eM, z]; rfl))
                obtain ⟨v, hv⟩ : ∃ v : Nat, (mo A T s S.2.1.2.2.2.1 (S.2.1.2.2.2.1 - (d + 1)) (t - T d q)) = some v := by
                  cases z : (mo A T s S.2.1.2.2.2.1 (S.2.1.2.2.2.1 - (d + 1)) (t - T d q)) with
                  | none => exact absurd z hne
                  | some v => exact ⟨v, rfl⟩
                have hvb : v < 2 ^ 50 := hmb v hv
                have hvb2 := mo_b (C := 2 ^ 42) (fun a k ha hk => (hO a k ha hk).1.2) _ _ v (by omega) hv
                have hvb3 : (S.2.1.2.2.2.1 - (d + 1)) * 2 ^ 42 ≤ 5 * 2 ^ 42 := Nat.mul_le_mul_right _ (by omega)
                have eS : gup G 81 ga 82 (19 * nI d + nI q : Int32).toNatClampNeg + gup G 81 ga 81 (nI ((s * 6 + (d + 1)) * 481 + (t - T d q))).toNatClampNeg = enc (some (A d q + v)) := by
                  rw [eV, eM, hv]
                  exact (Int64.ofNat_add _ _).symm
                have hpb : ∀ w : Nat, (mpf (mo A T s S.2.1.2.2.2.1 (S.2.1.2.2.2.1 - (d + 1))) (A d) (T d) (s.testBit d) t q) = some w → w < 2 ^ 50 := fun w hw => by
                  have := mpf_b (B := 5 * 2 ^ 42) (C := 2 ^ 42) (fun t2 v2 e2 => Nat.le_trans (mo_b (C := 2 ^ 42) (fun a k ha hk => (hO a k ha hk).1.2) _ _ v2 (by omega) e2) (Nat.mul_le_mul_right _ (by omega))) (fun k hk => (hO d k (by omega) hk).1.2) q (by omega) w hw
                  omega
                refine step.1 _ _ _ _ _ _ _ sgX12_findMost_123_ok ?_
                refine ⟨by decide, _, _, hX.1, rfl, ?_⟩
                refine ⟨_, _, hX.c82, ixv, ?_⟩
                refine ⟨by decide, _, _, hX.1, rfl, ?_⟩
                refine Or.inl ⟨rfl, _, 1, 0, 0, _, _, _, qi_12_406, ⟨rfl, rfl⟩, ⟨hX.1, rfl⟩, rfl, rfl, (by rw [eL, nJ_sub hle, nI_1]; exact M_index hg s (d + 1) (t - T d q)), fun y146 h146 hy146 => ?_⟩
                obtain ⟨rfl, hh⟩ := hy146
                rw [hh]
                clear hh
                refine ⟨_, _, hX.c81, vp_in_nI (by omega) (by decide), ?_⟩
                refine ⟨fun c158 => ?_, fun c158 => ?_⟩
                · refine step.1 _ _ _ _ _ _ _ sgX12_findMost_166_ok ?_
                  refine step.1 _ _ _ _ _ _ _ sgX12_findMost_168_ok ?_
                  refine step.1 _ _ _ _ _ _ _ sgX12_findMost_170_ok ?_
                  refine step.2 _ _ _ _ _ _ _ (qsub_cons 0 rfl (qsub_cons 1 rfl (qsub_cons 4 rfl (qsub_cons 5 rfl (qsub_cons 6 rfl (qsub_cons 7 rfl qsub_nil)))))) ?_
                  have kk := ihq (q + 1) (by omega)
                  rw [mpf_s ⟨hbq, hle⟩ hv, enc_le (by omega) hpb (by rw [← eS]; exact (lgc_le _ _).mp c158), ← nI_1] at kk
                  exact kk
                · refine step.1 _ _ _ _ _ _ _ sgX12_findMost_168_ok ?_
                  refine step.1 _ _ _ _ _ _ _ sgX12_findMost_170_ok ?_
                  refine step.2 _ _ _ _ _ _ _ (qsub_cons 0 rfl (qsub_cons 1 rfl (qsub_cons 4 rfl (qsub_cons 5 rfl (qsub_cons 6 rfl (qsub_cons 7 rfl qsub_nil)))))) ?_
                  have kk := ihq (q + 1) (by omega)
                  rw [mpf_s ⟨hbq, hle⟩ hv, enc_nle (by omega) hpb (by rw [← eS]; exact fun z => c158 ((lgc_le _ _).mpr z)), ← eS, ← nI_1] at kk
                  exact kk
              · have hno : (mo A T s S.2.1.2.2.2.1 (S.2.1.2.2.2.1 - (d + 1)) (t - T d q)) = none := (enc_m1 hmb).mp (by rw [← eM]; exact (lgc0 _ _).mp c117)
                refine step.1 _ _ _ _ _ _ _ sgX12_findMost_170_ok ?_
                refine step.2 _ _ _ _ _ _ _ (qsub_cons 0 rfl (qsub_cons 2 rfl (qsub_cons 3 rfl (qsub_cons 4 rfl (qsub_cons 5 rfl (qsub_cons 6 rfl qsub_nil)))))) ?_
                have kk := ihq (q + 1) (by omega)
                rw [mpf_x ⟨hbq, hle⟩ hno, ← nI_1] at kk
                exact kk
        refine step.1 _ _ _ _ _ _ _ sgX12_findMost_44_ok ?_
        refine ⟨fun c48 => absurd (show nI 481 ≤ nI t from c48) (h_nle (by omega) (by omega)), fun c48 => ?_⟩
        
        exact loop4 19 0 rfl
      refine step.1 _ _ _ _ _ _ _ sgX12_findMost_38_ok ?_
      refine ⟨fun c39 => absurd (show nI d < 0 from by rw [← ed]; exact c39) (nI_pos (by omega)), fun c39 => ?_⟩
      
      have kk := loop3 481 0 hX0 ga rfl hX hk ⟨hv0, fun t ht => by omega⟩
      rw [← ed] at kk
      exact kk
  have loop1 : ∀ (m t : Nat) (hX0 : qH) (ga : Nat → Int64), m + t = 481 → MX hX0 x y F (gup G 81 ga) → kp h hX0 → (∀ z : Nat, z < t → ga ((s * 6 + S.2.1.2.2.2.1) * 481 + z) = 0) → (∀ j : Nat, (j < s * 2886 ∨ (s + 1) * 2886 ≤ j) → ga j = G 81 j) → run 2 [(2, .int (nI t)), (0, .ref 63), (1, .int (nI s))] [] hX0 0 0 := by
    intro m
    induction m with
    | zero =>
      intro t hX0 ga hm hX hk hq1 hq2
      refine step.1 _ _ _ _ _ _ _ sgX12_findMost_2_ok ?_
      refine ⟨fun c6 => ?_, fun c6 => absurd (show nI 481 ≤ nI t from nI_le (by omega) (by omega)) c6⟩
      
      have e19 : x 19 = nI S.2.1.2.2.2.1 := hR.1.2.2.1
      refine step.1 _ _ _ _ _ _ _ sgX12_findMost_31_ok ?_
      refine ⟨by decide, _, _, hX.1, rfl, ?_⟩
      have kk := loop2 S.2.1.2.2.2.1 hX0 ga (Nat.le_refl _) hX hk ⟨fun d t2 h1 h2 h3 => ?_, hq2⟩
      · rw [← e19] at kk
        exact kk
      · obtain rfl : d = S.2.1.2.2.2.1 := by omega
        rw [Nat.sub_self]
        exact hq1 t2 (by omega)
    | succ m ih =>
      intro t hX0 ga hm hX hk hq1 hq2
      have e19 : x 19 = nI S.2.1.2.2.2.1 := hR.1.2.2.1
      refine step.1 _ _ _ _ _ _ _ sgX12_findMost_2_ok ?_
      refine ⟨fun c6 => absurd (show nI 481 ≤ nI t from c6) (h_nle (by omega) (by omega)), fun c6 => ?_⟩
      
      refine ⟨by decide, _, _, hX.1, rfl, ?_⟩
      refine ⟨by decide, _, _, hX.1, rfl, ?_⟩
      refine Or.inl ⟨rfl, _, 1, 0, 0, _, _, _, qi_12_406, ⟨rfl, rfl⟩, ⟨hX.1, rfl⟩, rfl, rfl, (by rw [e19]; exact M_index hg s S.2.1.2.2.2.1 t), fun y20 h20 hy20 => ?_⟩
      obtain ⟨rfl, hh⟩ := hy20
      rw [hh]
      clear hh
      refine ⟨_, _, hX.c81, vp_in_nI (by omega) (by decide), ?_⟩
      have hXa := hX.u81 (vp_updL (gup G 81 ga 81) (nI ((s * 6 + S.2.1.2.2.2.1) * 481 + t)).toNatClampNeg 0)
      rw [gup_gup] at hXa
      have et := h_tn (n := (s * 6 + S.2.1.2.2.2.1) * 481 + t) (by omega)
      have kk := ih (t + 1) _ _ (by omega) hXa (hk.u (k := 81) (by decide) (by decide)) (fun z hz => ?_) (fun j hj => ?_)
      · rw [← nI_1] at kk
        exact kk
      rotate_left
      · rw [gup_s, et]
        exact (if_neg (by omega)).trans (hq2 j hj)
      · rw [gup_s, et]
        by_cases e : z = t
        · subst e; exact if_pos rfl
        · exact (if_neg (by omega)).trans (hq1 z (by omega))
  refine step.1 _ _ _ _ _ _ _ sgX12_findMost_0_ok ?_
  exact loop1 481 0 h (G 81) rfl (by rw [gup_self]; exact hM) kp.rf (fun z hz => by omega) (fun _ _ => rfl)
end Q13L
