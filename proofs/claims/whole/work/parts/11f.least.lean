section Q11F
theorem l_rem {a b : Nat} (ha : a < 2 ^ 63) (hb : b < 2 ^ 63) : Int64.ofNat a - Int64.ofNat a / Int64.ofNat b * Int64.ofNat b = Int64.ofNat (a % b) := by
  rw [← Int64.ofNat_div ha hb, ← Int64.ofNat_mul, ← Int64.ofNat_sub _ _ (Nat.div_mul_le_self a b)]
  congr 1
  have := Nat.div_add_mod a b
  rw [Nat.mul_comm] at this
  omega
theorem l_0 {a : Nat} (ha : a < 2 ^ 63) : Int64.ofNat a = 0 ↔ a = 0 := by
  constructor
  · intro h
    have h2 := congrArg Int64.toInt h
    rw [Int64.toInt_ofNat_of_lt ha] at h2
    have h3 : (0 : Int64).toInt = 0 := by decide
    omega
  · intro h; rw [h]; rfl
/-- Euclid's rounds on numbers -/
def egcd : Nat → Nat → Nat → Nat
  | 0, a, _ => a
  | n + 1, a, b => if b = 0 then a else egcd n b (a % b)
theorem lgcd_n : ∀ (n a b : Nat), a < 2 ^ 63 → b < 2 ^ 63 → lgcd n (Int64.ofNat a) (Int64.ofNat b) = Int64.ofNat (egcd n a b) := by
  intro n
  induction n with
  | zero => intro a b _ _; rfl
  | succ n ih =>
    intro a b ha hb
    unfold lgcd egcd
    by_cases c : b = 0
    · rw [if_pos c, if_pos ((l_0 hb).mpr c)]
    · rw [if_neg c, if_neg (fun z => c ((l_0 hb).mp z)), l_rem ha hb, ih b (a % b) hb (Nat.lt_trans (Nat.mod_lt a (by omega)) hb)]
def fbp : Nat → Nat × Nat
  | 0 => (1, 2)
  | n + 1 => ((fbp n).2, (fbp n).1 + (fbp n).2)
theorem egcd_f : ∀ (n a b : Nat), egcd n a b = Nat.gcd a b ∨ ((fbp n).1 ≤ b ∧ (b < a → (fbp n).2 ≤ a)) := by
  intro n
  induction n with
  | zero =>
    intro a b
    by_cases c : b = 0
    · left; rw [c, Nat.gcd_zero_right]; rfl
    · right; exact ⟨by show 1 ≤ b; omega, fun _ => by show 2 ≤ a; omega⟩
  | succ n ih =>
    intro a b
    unfold egcd
    by_cases c : b = 0
    · left; rw [if_pos c, c, Nat.gcd_zero_right]
    · rw [if_neg c]
      rcases ih b (a % b) with h | ⟨h1, h2⟩
      · left; rw [h, Nat.gcd_comm a b, Nat.gcd_rec b a, Nat.gcd_comm]
      · right
        have hlt := Nat.mod_lt a (show 0 < b by omega)
        have h3 := h2 hlt
        refine ⟨h3, fun hba => ?_⟩
        show (fbp n).1 + (fbp n).2 ≤ a
        have : b * 1 ≤ b * (a / b) := Nat.mul_le_mul_left b (Nat.div_pos (by omega) (by omega))
        have := Nat.div_add_mod a b
        omega
theorem egcd_100 {a b : Nat} (hb : b < 2 ^ 63) : egcd 100 a b = Nat.gcd a b := by
  rcases egcd_f 100 a b with h | ⟨h, -⟩
  · exact h
  · exfalso
    have e : (fbp 100).1 = 927372692193078999176 := by decide +kernel
    rw [e] at h
    omega
/-- the program's fraction in least terms, by the greatest common divisor -/
theorem lterms_n {a b : Nat} (ha : a < 2 ^ 63) (hb0 : 0 < b) (hb : b < 2 ^ 63) {p : Int32} (hp : p = 0 ∨ p = 1) : lterms (Int64.ofNat a) (Int64.ofNat b) p = (if p = 0 then Int64.ofNat a else Int64.ofNat b) / Int64.ofNat (Nat.gcd a b) := by
  have hg : Nat.gcd a b ≠ 0 := fun z => absurd (Nat.gcd_eq_zero_iff.mp z).2 (by omega)
  have hgb : Nat.gcd a b < 2 ^ 63 := Nat.lt_of_le_of_lt (Nat.le_of_dvd hb0 (Nat.gcd_dvd_right a b)) hb
  unfold lterms
  by_cases c : a = 0
  · rw [if_pos (Or.inl ((l_0 ha).mpr c))]
    subst c
    rw [Nat.gcd_zero_left]
    rcases hp with rfl | rfl
    · rw [if_pos rfl, ← Int64.ofNat_div (by decide) hb, Nat.zero_div]; rfl
    · rw [if_neg (by decide), ← Int64.ofNat_div hb hb, Nat.div_self hb0]; rfl
  · rw [if_neg (fun z => z.elim (fun q => c ((l_0 ha).mp q)) (fun q => absurd ((l_0 hb).mp q) (by omega))), lgcd_n 100 a b ha hb, egcd_100 hb, if_neg (fun z => hg ((l_0 hgb).mp z))]
    rcases hp with rfl | rfl
    · rw [if_pos rfl, if_pos rfl]
    · rw [if_neg (by decide), if_neg (by decide)]
theorem M_least {g : qG} (hg : qOK g) {h : qH} (a b : Nat) (p : Int32) (ha : a < 2 ^ 63) (hb0 : 0 < b) (hb : b < 2 ^ 63) (hp : p = 0 ∨ p = 1) : qSpec g 1 0 0 mX12_least [.long (Int64.ofNat a), .long (Int64.ofNat b), .int p] h (fun r h' => r = some (.long (lterms (Int64.ofNat a) (Int64.ofNat b) p)) ∧ h' = h) := by
  refine qSpec_run 12 "least" false hg mX12_least_ok rfl rfl (Nat.le_of_ble_eq_true rfl) (by decide) ?_
  intro run step
  have hgb : Nat.gcd a b < 2 ^ 63 := Nat.lt_of_le_of_lt (Nat.le_of_dvd hb0 (Nat.gcd_dvd_right a b)) hb
  have fin : ∀ u v : Nat, Nat.gcd a b = u → 0 < u → u < 2 ^ 63 → run 31 [(7, .long (Int64.ofNat v)), (5, .long (Int64.ofNat u)), (0, .long (Int64.ofNat a)), (2, .long (Int64.ofNat b)), (4, .int p)] [] h 0 0 := by
    intro u v hres hu hu2
    refine step.1 _ _ _ _ _ _ _ sgX12_least_31_ok ?_
    refine ⟨fun c33 => ?_, fun c33 => ?_⟩
    · have c33 : ¬ p = 0 := c33
      refine step.1 _ _ _ _ _ _ _ sgX12_least_40_ok ?_
      refine step.1 _ _ _ _ _ _ _ sgX12_least_41_ok ?_
      refine ⟨(fun z => absurd ((l_0 hu2).mp z) (by omega)), ?_⟩
      refine ⟨rfl, Nat.le_refl _, Nat.le_refl _, ?_⟩
      refine ⟨congrArg (fun z => some (Value.long z)) ?_, rfl⟩
      rw [lterms_n ha hb0 hb hp, if_neg c33, ← hres]
    · have c33 : p = 0 := c33
      refine step.1 _ _ _ _ _ _ _ sgX12_least_41_ok ?_
      refine ⟨(fun z => absurd ((l_0 hu2).mp z) (by omega)), ?_⟩
      refine ⟨rfl, Nat.le_refl _, Nat.le_refl _, ?_⟩
      refine ⟨congrArg (fun z => some (Value.long z)) ?_, rfl⟩
      rw [lterms_n ha hb0 hb hp, if_pos c33, ← hres]
  have loop : ∀ (m u v : Nat), v < m → u < 2 ^ 63 → v < 2 ^ 63 → 0 < u ∨ 0 < v → Nat.gcd u v = Nat.gcd a b → run 6 [(7, .long (Int64.ofNat v)), (5, .long (Int64.ofNat u)), (0, .long (Int64.ofNat a)), (2, .long (Int64.ofNat b)), (4, .int p)] [] h 0 0 := by
    intro m
    induction m with
    | zero => intro u v hm; omega
    | succ m ih =>
      intro u v hm hu hv h0 hres
      refine step.1 _ _ _ _ _ _ _ sgX12_least_6_ok ?_
      refine ⟨fun c10 => ?_, fun c10 => ?_⟩
      · have c10 : v = 0 := (l_0 hv).mp ((lgc0 _ _).mp c10)
        exact fin u v (by rw [← hres, c10, Nat.gcd_zero_right]) (by omega) hu
      · have c10 : ¬ v = 0 := fun e => c10 ((lgc0 _ _).mpr ((l_0 hv).mpr e))
        refine ⟨(fun z => c10 ((l_0 hv).mp z)), ?_⟩
        refine step.2 _ _ _ _ _ _ _ (qsub_cons 0 rfl (qsub_cons 1 rfl (qsub_cons 3 rfl (qsub_cons 4 rfl (qsub_cons 5 rfl qsub_nil))))) ?_
        rw [l_rem hu hv]
        exact ih v (u % v) (by have := Nat.mod_lt u (show 0 < v by omega); omega) hv (Nat.lt_trans (Nat.mod_lt u (by omega)) hv) (Or.inl (by omega)) (by rw [← hres, Nat.gcd_comm u v, Nat.gcd_rec v u, Nat.gcd_comm])
  refine step.1 _ _ _ _ _ _ _ sgX12_least_0_ok ?_
  exact loop (b + 1) a b (by omega) ha hb (Or.inr hb0) rfl
theorem M_meanOf {g : qG} (hg : qOK g) {h : qH} {x : Nat → Int32} {y : Nat → Int64} (hM : h.2 63 = some (M63 x y)) (v : Int32) : qSpec g 1 0 0 mX12_meanOf [.ref 63, .int v] h (fun r h' => r = some (.long (if v = 0 then y 38 else if v = 1 then y 39 else if v = 2 then y 40 else y 41)) ∧ h' = h) := by
  refine qSpec_run 12 "meanOf" false hg mX12_meanOf_ok rfl rfl (Nat.le_of_ble_eq_true rfl) (by decide) ?_
  intro run step
  refine step.1 _ _ _ _ _ _ _ sgX12_meanOf_0_ok ?_
  refine ⟨fun c1 => ?_, fun c1 => ?_⟩
  · have c1 : ¬ v = 0 := c1
    refine step.1 _ _ _ _ _ _ _ sgX12_meanOf_11_ok ?_
    refine ⟨fun c13 => ?_, fun c13 => ?_⟩
    · have c13 : ¬ v = 1 := c13
      refine step.1 _ _ _ _ _ _ _ sgX12_meanOf_23_ok ?_
      refine ⟨fun c25 => ?_, fun c25 => ?_⟩
      · have c25 : ¬ v = 2 := c25
        refine step.1 _ _ _ _ _ _ _ sgX12_meanOf_35_ok ?_
        refine ⟨by decide, _, _, hM, rfl, ?_⟩
        refine step.1 _ _ _ _ _ _ _ sgX12_meanOf_39_ok ?_
        refine ⟨rfl, Nat.le_refl _, Nat.le_refl _, ?_⟩
        exact ⟨congrArg (fun z => some (Value.long z)) (by rw [if_neg c1, if_neg c13, if_neg c25]), rfl⟩
      · have c25 : v = 2 := c25
        refine ⟨by decide, _, _, hM, rfl, ?_⟩
        refine step.1 _ _ _ _ _ _ _ sgX12_meanOf_39_ok ?_
        refine ⟨rfl, Nat.le_refl _, Nat.le_refl _, ?_⟩
        exact ⟨congrArg (fun z => some (Value.long z)) (by rw [if_neg c1, if_neg c13, if_pos c25]), rfl⟩
    · have c13 : v = 1 := c13
      refine ⟨by decide, _, _, hM, rfl, ?_⟩
      refine step.1 _ _ _ _ _ _ _ sgX12_meanOf_39_ok ?_
      refine ⟨rfl, Nat.le_refl _, Nat.le_refl _, ?_⟩
      exact ⟨congrArg (fun z => some (Value.long z)) (by rw [if_neg c1, if_pos c13]), rfl⟩
  · have c1 : v = 0 := c1
    refine ⟨by decide, _, _, hM, rfl, ?_⟩
    refine step.1 _ _ _ _ _ _ _ sgX12_meanOf_39_ok ?_
    refine ⟨rfl, Nat.le_refl _, Nat.le_refl _, ?_⟩
    exact ⟨congrArg (fun z => some (Value.long z)) (by rw [if_pos c1]), rfl⟩
end Q11F
