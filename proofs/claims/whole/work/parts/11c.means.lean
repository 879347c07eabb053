section Q11C
theorem l_n {k : Nat} (h : k < 2 ^ 31) : (nI k).toInt64 = Int64.ofNat k := Int32.toInt64_ofNat' (by show (k : Int) ≤ 2147483647; omega)
theorem l_16 {q : Nat} (h : 16 * q < 2 ^ 62) : Int64.ofNat (16 * q) / 16 = Int64.ofNat q := by
  rw [show (16 : Int64) = Int64.ofNat 16 from rfl, ← Int64.ofNat_div (by omega) (by decide), Nat.mul_div_cancel_left q (by decide)]
theorem iapart_comm (a b : Int32) : iapart a b = iapart b a := by
  unfold iapart
  by_cases c : b < a
  · rw [if_pos c, if_neg (fun z => Int32.lt_irrefl (Int32.lt_trans c z))]
  · by_cases c2 : a < b
    · rw [if_neg c, if_pos c2]
    · rw [if_neg c, if_neg c2, Int32.le_antisymm (Int32.not_lt.mp c) (Int32.not_lt.mp c2)]
theorem rg1 {mi c d9 mm W T d8 t : Int64} (z : Int64) (e7 : mi + c * d9 = mm + (W - c) * T + W * d8) : mi + (W - c) * t + (c + z) * d9 = mm + z * (T + t + d9) + (W - (c + z)) * (T + t) + W * d8 := by grind
theorem rg2 (z d : Int64) : z * (16 - d) = z * 16 - z * d := by grind
abbrev mS : Type := Int64 × Int32 × Int32 × Int64 × Int64 × Int64
/-- a step as the model takes it: left, time, verses, opened, pence, minutes -/
def mst (G : Int32 → Int32) (D : Nat → Int32) (ve : Int32) (x : Nat) (b : Bool) (s : mS) : mS := match b with
  | true => (s.1 - s.1 / 16 * (D (x * 10 + 5)).toInt64, s.2.1 + 1, s.2.2.1 + 0, s.2.2.2.1 + s.1 / 16 * (D (x * 10 + 5)).toInt64, s.2.2.2.2.1 + s.1 / 16 * (D (x * 10 + 5)).toInt64 * (G (s.2.2.1 + 0)).toInt64, s.2.2.2.2.2 + s.1 / 16 * (D (x * 10 + 5)).toInt64 * (s.2.1 + 1 + D (x * 10 + 9)).toInt64)
  | false => (s.1 - s.1 / 16 * (D (x * 10 + 4)).toInt64, s.2.1 + ve, s.2.2.1 + 1, s.2.2.2.1 + s.1 / 16 * (D (x * 10 + 4)).toInt64, s.2.2.2.2.1 + s.1 / 16 * (D (x * 10 + 4)).toInt64 * (G (s.2.2.1 + 1)).toInt64, s.2.2.2.2.2 + s.1 / 16 * (D (x * 10 + 4)).toInt64 * (s.2.1 + ve + D (x * 10 + 9)).toInt64)
def mrn (G : Int32 → Int32) (D : Nat → Int32) (ve : Int32) (x r n i : Nat) : Nat → mS → mS
  | 0, s => s
  | m + 1, s => mrn G D ve x r n (i + 1) m (mst G D ve x (vrg r n i) s)
/-- both runs tell the same -/
def mvI (D : Nat → Int32) (x : Nat) (i : Nat) (s : vS) (t : mS) : Prop := (∃ q : Nat, 16 ^ (6 - i) * q ≤ 2 ^ 28 ∧ s.1 = Int64.ofNat (16 ^ (6 - i) * q)) ∧ (∃ tt : Nat, tt ≤ 9 * i ∧ t.2.1 = nI tt) ∧ s.1 = t.1 ∧ s.2.1 = t.2.2.1 ∧ s.2.2.1 = t.2.2.2.1 ∧ s.2.2.2.1 = t.2.2.2.2.1 ∧ s.2.2.2.2 + s.2.2.1 * (D (x * 10 + 9)).toInt64 = t.2.2.2.2.2 + (268435456 - s.2.2.1) * t.2.1.toInt64 + 268435456 * (2 * D (x * 10 + 8)).toInt64
theorem mvI_step {G : Int32 → Int32} {D : Nat → Int32} {ve : Int32} {x i : Nat} {s : vS} {t : mS} (b : Bool) (hv : ∃ v : Nat, v ≤ 9 ∧ ve = nI v) (h4 : ∃ v : Nat, v ≤ 16 ∧ D (x * 10 + 4) = nI v) (h5 : ∃ v : Nat, v ≤ 16 ∧ D (x * 10 + 5) = nI v) (h9 : ∃ v : Nat, v ≤ 30 ∧ D (x * 10 + 9) = nI v) (hi : i < 6) (hI : mvI D x i s t) : mvI D x (i + 1) (vst G D ve x b s) (mst G D ve x b t) := by
  obtain ⟨w, vs, c, p, mi⟩ := s
  obtain ⟨lf, tm, ws, op, pe, mm⟩ := t
  obtain ⟨⟨q, hq, e1⟩, ⟨tt, htt, e2⟩, e3, e4, e5, e6, e7⟩ := hI
  simp only at e1 e2 e3 e4 e5 e6 e7
  subst e3 e4 e5 e6 e2
  obtain ⟨u9, hu9, e9⟩ := h9
  have hpow : 16 ^ (6 - i) * q = 16 * (16 ^ (6 - (i + 1)) * q) := by
    rw [show 6 - i = (6 - (i + 1)) + 1 by omega, Nat.pow_succ]
    simp only [Nat.mul_comm, Nat.mul_left_comm]
  have hdiv : w / 16 = Int64.ofNat (16 ^ (6 - (i + 1)) * q) := by
    rw [e1, hpow, l_16 (by omega)]
  have key : ∀ (o z : Nat) (dv tv : Int32), o ≤ 16 → dv = nI o → z ≤ 9 → tv = nI z → (∃ q' : Nat, 16 ^ (6 - (i + 1)) * q' ≤ 2 ^ 28 ∧ w / 16 * (16 - dv.toInt64) = Int64.ofNat (16 ^ (6 - (i + 1)) * q')) ∧ (∃ t' : Nat, t' ≤ 9 * (i + 1) ∧ nI tt + tv = nI t') ∧ w / 16 * (16 - dv.toInt64) = w - w / 16 * dv.toInt64 ∧ (nI tt + tv + D (x * 10 + 9)).toInt64 = (nI tt).toInt64 + tv.toInt64 + (D (x * 10 + 9)).toInt64 ∧ (nI tt + tv).toInt64 = (nI tt).toInt64 + tv.toInt64 := by
    intro o z dv tv ho hdv hz htv
    subst hdv htv
    refine ⟨⟨q * (16 - o), ?_, ?_⟩, ⟨tt + z, by omega, by rw [nI_add]⟩, ?_, ?_, ?_⟩
    · have : 16 ^ (6 - (i + 1)) * (q * (16 - o)) ≤ 16 ^ (6 - (i + 1)) * (q * 16) := Nat.mul_le_mul_left _ (Nat.mul_le_mul_left _ (by omega))
      have e : 16 ^ (6 - (i + 1)) * (q * 16) = 16 ^ (6 - i) * q := by rw [hpow, ← Nat.mul_assoc, Nat.mul_comm]
      omega
    · rw [hdiv, l_n (by omega), show (16 : Int64) = Int64.ofNat 16 from rfl, ← Int64.ofNat_sub _ _ ho, ← Int64.ofNat_mul, Nat.mul_assoc]
    · have e : w = w / 16 * 16 := by
        rw [hdiv, show (16 : Int64) = Int64.ofNat 16 from rfl, ← Int64.ofNat_mul, e1, hpow, Nat.mul_comm]
      rw [rg2, ← e]
    · rw [e9, nI_add, nI_add, l_n (by omega), l_n (by omega), l_n (by omega), l_n (by omega), Int64.ofNat_add, Int64.ofNat_add]
    · rw [nI_add, l_n (by omega), l_n (by omega), l_n (by omega), Int64.ofNat_add]
  have pz : ∀ z g2 : Int64, (if z = 0 then 0 else z * g2) = z * g2 := by
    intro z g2
    by_cases c : z = 0
    · rw [if_pos c, c, Int64.zero_mul]
    · rw [if_neg c]
  cases b with
  | true =>
    obtain ⟨o, ho, e5⟩ := h5
    obtain ⟨k1, k2, k3, k4, k5⟩ := key o 1 _ 1 ho e5 (by decide) rfl
    refine ⟨k1, k2, k3, rfl, rfl, ?_, ?_⟩
    · show p + (if _ then _ else _) = _
      rw [pz]; rfl
    · show mi + (268435456 - c) * ((1 : Int32)).toInt64 + (c + w / 16 * (D (x * 10 + 5)).toInt64) * (D (x * 10 + 9)).toInt64 = mm + w / 16 * (D (x * 10 + 5)).toInt64 * (nI tt + 1 + D (x * 10 + 9)).toInt64 + (268435456 - (c + w / 16 * (D (x * 10 + 5)).toInt64)) * (nI tt + 1).toInt64 + 268435456 * (2 * D (x * 10 + 8)).toInt64
      rw [k4, k5]
      exact rg1 _ e7
  | false =>
    obtain ⟨o, ho, e5⟩ := h4
    obtain ⟨vv, hvv, ev⟩ := hv
    obtain ⟨k1, k2, k3, k4, k5⟩ := key o vv _ ve ho e5 hvv ev
    refine ⟨k1, k2, k3, rfl, rfl, ?_, ?_⟩
    · show p + (if _ then _ else _) = _
      rw [pz]; rfl
    · show mi + (268435456 - c) * ve.toInt64 + (c + w / 16 * (D (x * 10 + 4)).toInt64) * (D (x * 10 + 9)).toInt64 = mm + w / 16 * (D (x * 10 + 4)).toInt64 * (nI tt + ve + D (x * 10 + 9)).toInt64 + (268435456 - (c + w / 16 * (D (x * 10 + 4)).toInt64)) * (nI tt + ve).toInt64 + 268435456 * (2 * D (x * 10 + 8)).toInt64
      rw [k4, k5]
      exact rg1 _ e7
theorem mvI_run {G : Int32 → Int32} {D : Nat → Int32} {ve : Int32} {x r n : Nat} (hv : ∃ v : Nat, v ≤ 9 ∧ ve = nI v) (h4 : ∃ v : Nat, v ≤ 16 ∧ D (x * 10 + 4) = nI v) (h5 : ∃ v : Nat, v ≤ 16 ∧ D (x * 10 + 5) = nI v) (h9 : ∃ v : Nat, v ≤ 30 ∧ D (x * 10 + 9) = nI v) : ∀ (m i : Nat) (s : vS) (t : mS), i + m ≤ 6 → mvI D x i s t → mvI D x (i + m) (vrun G D ve x r n i m s) (mrn G D ve x r n i m t) := by
  intro m
  induction m with
  | zero => intro i s t _ h; exact h
  | succ m ih =>
    intro i s t hi h
    have := ih (i + 1) _ _ (by omega) (mvI_step (G := G) (ve := ve) (vrg r n i) hv h4 h5 h9 (by omega) h)
    rw [show i + (m + 1) = i + 1 + m by omega]
    exact this
/-- the model's time behind all steps -/
theorem mrn_tm {G : Int32 → Int32} {D : Nat → Int32} {ve : Int32} {x r n : Nat} (hr : r ≤ 2) (hn : n ≤ 5) {t : mS} (h0 : t.2.1 = 0) : (mrn G D ve x r n 0 (if r = 0 then n else n + 1) t).2.1 = nI n * ve + (if nI r = 0 then 0 else 1) := by
  have e : ∀ (b : Bool) (s : mS), (mst G D ve x b s).2.1 = s.2.1 + (bif b then 1 else ve) := fun b s => by cases b <;> rfl
  have f : ∀ (m i : Nat) (s : mS), (mrn G D ve x r n i (m + 1) s).2.1 = (mrn G D ve x r n (i + 1) m (mst G D ve x (vrg r n i) s)).2.1 := fun m i s => rfl
  have z : ∀ (i : Nat) (s : mS), (mrn G D ve x r n i 0 s).2.1 = s.2.1 := fun i s => rfl
  rcases (show r = 0 ∨ r = 1 ∨ r = 2 by omega) with rfl | rfl | rfl <;> rcases (show n = 0 ∨ n = 1 ∨ n = 2 ∨ n = 3 ∨ n = 4 ∨ n = 5 by omega) with rfl | rfl | rfl | rfl | rfl | rfl <;> (simp only [reduceIte, Nat.reduceEqDiff, Nat.reduceAdd, f, z, e, h0, vrg]; simp [nI]; try grind)
theorem M_isRing {g : qG} (hg : qOK g) {h : qH} (n r i : Nat) (hn : n ≤ 5) (hr : r ≤ 2) (hi : i ≤ 6) : qSpec g 1 0 0 mX12_isRing [.int (nI n), .int (nI r), .int (nI i)] h (fun y h' => y = some (.int (qb (vrg r n i))) ∧ h' = h) := by
  refine qSpec_run 12 "isRing" false hg mX12_isRing_ok rfl rfl (Nat.le_of_ble_eq_true rfl) (by decide) ?_
  intro run step
  refine step.1 _ _ _ _ _ _ _ sgX12_isRing_0_ok ?_
  refine ⟨fun c2 => ?_, fun c2 => ?_⟩
  · have d2 : r ≠ 1 := fun e => c2 (by rw [e]; rfl)
    refine step.1 _ _ _ _ _ _ _ sgX12_isRing_9_ok ?_
    refine ⟨fun c11 => ?_, fun c11 => ?_⟩
    · have d11 : r ≠ 2 := fun e => c11 (by rw [e]; rfl)
      refine step.1 _ _ _ _ _ _ _ sgX12_isRing_23_ok ?_
      refine step.1 _ _ _ _ _ _ _ sgX12_isRing_24_ok ?_
      refine ⟨.boolean, rfl, rfl, Nat.le_refl _, Nat.le_refl _, ?_⟩
      exact ⟨congrArg (fun z => some (Value.int z)) (by rw [show vrg r n i = false from by simp [vrg]; omega]; rfl), rfl⟩
    · have d11 : r = 2 := (nI_eq (b := 2) (by omega) (by decide)).mp c11
      refine ⟨fun c16 => ?_, fun c16 => ?_⟩
      · have d16 : i ≠ n := fun e => c16 (by rw [e])
        refine step.1 _ _ _ _ _ _ _ sgX12_isRing_23_ok ?_
        refine step.1 _ _ _ _ _ _ _ sgX12_isRing_24_ok ?_
        refine ⟨.boolean, rfl, rfl, Nat.le_refl _, Nat.le_refl _, ?_⟩
        exact ⟨congrArg (fun z => some (Value.int z)) (by rw [show vrg r n i = false from by simp [vrg]; omega]; rfl), rfl⟩
      · have d16 : i = n := (nI_eq (by omega) (by omega)).mp c16
        refine step.1 _ _ _ _ _ _ _ sgX12_isRing_19_ok ?_
        refine step.1 _ _ _ _ _ _ _ sgX12_isRing_24_ok ?_
        refine ⟨.boolean, rfl, rfl, Nat.le_refl _, Nat.le_refl _, ?_⟩
        exact ⟨congrArg (fun z => some (Value.int z)) (by rw [show vrg r n i = true from by simp [vrg]; omega]; rfl), rfl⟩
  · have d2 : r = 1 := (nI_eq (b := 1) (by omega) (by decide)).mp c2
    refine ⟨fun c6 => ?_, fun c6 => ?_⟩
    · have d6 : i = 0 := (nI_eq (b := 0) (by omega) (by decide)).mp c6
      refine step.1 _ _ _ _ _ _ _ sgX12_isRing_19_ok ?_
      refine step.1 _ _ _ _ _ _ _ sgX12_isRing_24_ok ?_
      refine ⟨.boolean, rfl, rfl, Nat.le_refl _, Nat.le_refl _, ?_⟩
      exact ⟨congrArg (fun z => some (Value.int z)) (by rw [show vrg r n i = true from by simp [vrg]; omega]; rfl), rfl⟩
    · have d6 : i ≠ 0 := fun e => c6 (by rw [e]; rfl)
      refine step.1 _ _ _ _ _ _ _ sgX12_isRing_9_ok ?_
      refine ⟨fun c11 => ?_, fun c11 => ?_⟩
      · have d11 : r ≠ 2 := fun e => c11 (by rw [e]; rfl)
        refine step.1 _ _ _ _ _ _ _ sgX12_isRing_23_ok ?_
        refine step.1 _ _ _ _ _ _ _ sgX12_isRing_24_ok ?_
        refine ⟨.boolean, rfl, rfl, Nat.le_refl _, Nat.le_refl _, ?_⟩
        exact ⟨congrArg (fun z => some (Value.int z)) (by rw [show vrg r n i = false from by simp [vrg]; omega]; rfl), rfl⟩
      · have d11 : r = 2 := (nI_eq (b := 2) (by omega) (by decide)).mp c11
        refine ⟨fun c16 => ?_, fun c16 => ?_⟩
        · have d16 : i ≠ n := fun e => c16 (by rw [e])
          refine step.1 _ _ _ _ _ _ _ sgX12_isRing_23_ok ?_
          refine step.1 _ _ _ _ _ _ _ sgX12_isRing_24_ok ?_
          refine ⟨.boolean, rfl, rfl, Nat.le_refl _, Nat.le_refl _, ?_⟩
          exact ⟨congrArg (fun z => some (Value.int z)) (by rw [show vrg r n i = false from by simp [vrg]; omega]; rfl), rfl⟩
        · have d16 : i = n := (nI_eq (by omega) (by omega)).mp c16
          refine step.1 _ _ _ _ _ _ _ sgX12_isRing_19_ok ?_
          refine step.1 _ _ _ _ _ _ _ sgX12_isRing_24_ok ?_
          refine ⟨.boolean, rfl, rfl, Nat.le_refl _, Nat.le_refl _, ?_⟩
          omega
end Q11C
