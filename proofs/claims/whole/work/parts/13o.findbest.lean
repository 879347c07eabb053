section Q13O
/-- the options' values and lengths, as numbers -/
def nA (f : Nat → Nat → Int64) (a q : Nat) : Nat := (oval f a q).toNatClampNeg
def nT (f : Nat → Nat → Int32) (a q : Nat) : Nat := (olen f a q).toNatClampNeg
theorem n64_cl {n : Nat} (h : n < 2 ^ 60) : (Int64.ofNat n).toNatClampNeg = n := by
  show (Int64.ofNat n).toInt.toNat = _
  rw [Int64.toInt_ofNat_of_lt (by omega)]; rfl
theorem sval_n {R : RT} (hR : ROK R) (K V : Nat → Int32) (N : Nat) (m : Int32) {w0 : Nat} (hw : w0 ≤ 9) {a z : Nat} (ha : a < R.2.2.2.1) (hz : z < 18) : ∃ q : Nat, q ≤ 2 ^ 42 ∧ sval R.1 K V N m R.2.2.2.2.2.2.2.1 (nI w0) a z = Int64.ofNat q := by
  obtain ⟨C, P, T, h1, h2, h3, e1, e2, e3⟩ := vm_nat (G := fun u => vgift R.1 K V N m a u 0) (r := z % 3) (n := z / 3) hR ha (by omega) (fun u => vgift_b hR ha K V N m u 0)
  obtain ⟨j, hj, ej⟩ := hR.d ha (f := 2) (by decide)
  have hj : j ≤ 99 := hj
  have hcj : C * j ≤ 2 ^ 28 * 99 := Nat.mul_le_mul h1 hj
  have hwc : w0 * (C * j) ≤ 9 * (2 ^ 28 * 99) := Nat.mul_le_mul hw hcj
  refine ⟨P + w0 * (C * j), by omega, ?_⟩
  unfold sval
  rw [e1, e2, ej, l_n (by omega), l_n (by omega), ← Int64.ofNat_mul, ← Int64.ofNat_mul, ← Int64.ofNat_add]
theorem slen_n {R : RT} (hR : ROK R) {a z : Nat} (ha : a < R.2.2.2.1) (hz : z < 18) : ∃ v d8 d9 : Nat, 1 ≤ v ∧ v ≤ 9 ∧ d8 ≤ 20 ∧ d9 ≤ 30 ∧ R.2.2.2.2.2.2.2.1 = nI v ∧ R.1 (a * 10 + 8) = nI d8 ∧ R.1 (a * 10 + 9) = nI d9 ∧ slen R.1 R.2.2.2.2.2.2.2.1 a z = nI (2 * d8 + z / 3 * v + (if z % 3 = 0 then 0 else 1) + d9) := by
  obtain ⟨v, hv1, hv9, ev⟩ := hR.2.2.2.2.1
  obtain ⟨d8, h8, e8⟩ := hR.d ha (f := 8) (by decide)
  obtain ⟨d9, h9, e9⟩ := hR.d ha (f := 9) (by decide)
  refine ⟨v, d8, d9, hv1, hv9, h8, h9, ev, e8, e9, ?_⟩
  unfold slen
  rw [ev, e8, e9, show (2 * nI d8 : Int32) = nI (2 * d8) from pk_mul 2 d8, show (nI (z / 3) * nI v : Int32) = nI (z / 3 * v) from pk_mul _ _]
  by_cases c : z % 3 = 0
  · rw [c, if_pos (show nI 0 = 0 from rfl), if_pos rfl, show (0 : Int32) = nI 0 from rfl, nI_add, nI_add, nI_add]
  · rw [if_neg (nI_ne0 (by omega) (by omega)), if_neg c, show (1 : Int32) = nI 1 from rfl, nI_add, nI_add, nI_add]
theorem oval_n {R : RT} (hR : ROK R) (K V : Nat → Int32) (N : Nat) (m : Int32) {w0 : Nat} (hw : w0 ≤ 9) {a q : Nat} (ha : a < R.2.2.2.1) (hq : q < 19) : oval (sval R.1 K V N m R.2.2.2.2.2.2.2.1 (nI w0)) a q = Int64.ofNat (nA (sval R.1 K V N m R.2.2.2.2.2.2.2.1 (nI w0)) a q) ∧ nA (sval R.1 K V N m R.2.2.2.2.2.2.2.1 (nI w0)) a q ≤ 2 ^ 42 := by
  unfold nA oval
  by_cases c : q = 0
  · rw [if_pos c]
    exact ⟨rfl, by decide⟩
  · rw [if_neg c]
    obtain ⟨u, h1, h2⟩ := sval_n hR K V N m hw ha (z := q - 1) (by omega)
    rw [h2, n64_cl (by omega)]
    exact ⟨rfl, h1⟩
theorem olen_n {R : RT} (hR : ROK R) {a q : Nat} (ha : a < R.2.2.2.1) (hq : q < 19) : olen (slen R.1 R.2.2.2.2.2.2.2.1) a q = nI (nT (slen R.1 R.2.2.2.2.2.2.2.1) a q) ∧ nT (slen R.1 R.2.2.2.2.2.2.2.1) a q ≤ 200 := by
  unfold nT olen
  by_cases c : q = 0
  · rw [if_pos c]
    exact ⟨rfl, by decide⟩
  · rw [if_neg c]
    obtain ⟨v, d8, d9, h1, h2, h3, h4, -, -, -, h5⟩ := slen_n hR ha (z := q - 1) (by omega)
    have h6 : (q - 1) / 3 * v ≤ 5 * 9 := Nat.mul_le_mul (by omega) h2
    have h7 : (if (q - 1) % 3 = 0 then 0 else 1) ≤ 1 := by split <;> omega
    rw [h5, h_tn (by omega)]
    exact ⟨rfl, by omega⟩
theorem enc_ge (p : Option Nat) (hp : ∀ v : Nat, p = some v → v < 2 ^ 50) : enc none ≤ enc p := by
  cases p with
  | none => exact Int64.le_refl _
  | some v =>
    have h := hp v rfl
    have h1 : (Int64.ofNat v).toInt = (v : Int) := Int64.toInt_ofNat_of_lt (by omega)
    refine Int64.le_iff_toInt_le.mpr ?_
    show (-1 : Int64).toInt ≤ (Int64.ofNat v).toInt
    rw [h1, show (-1 : Int64).toInt = -1 from by decide]
    omega
theorem enc_om1 {p r : Option Nat} (hp : ∀ v : Nat, p = some v → v < 2 ^ 50) (hr : ∀ v : Nat, r = some v → v < 2 ^ 50) (h : enc r ≤ enc p) : enc (omx p r) = enc p := by
  cases r with
  | none => rw [omx_n]
  | some u => exact enc_le (hr u rfl) hp h
theorem enc_om2 {p r : Option Nat} (hp : ∀ v : Nat, p = some v → v < 2 ^ 50) (hr : ∀ v : Nat, r = some v → v < 2 ^ 50) (h : ¬ enc r ≤ enc p) : enc (omx p r) = enc r := by
  cases r with
  | none => exact absurd (enc_ge p hp) h
  | some u => exact enc_nle (hr u rfl) hp h
/-- the sets that still can be -/
def alf (W : Nat → Nat) (cl : Nat) (ch : Nat → Nat) : Nat → Nat → Bool
  | 0, s => decide (W s ≤ cl)
  | d + 1, s => alf W cl ch d s && (s.testBit d == decide (0 < ch d))
theorem alf_iff {W : Nat → Nat} {cl : Nat} {ch : Nat → Nat} {s : Nat} : ∀ d : Nat, alf W cl ch d s = true ↔ W s ≤ cl ∧ ∀ a : Nat, a < d → s.testBit a = decide (0 < ch a) := by
  intro d
  induction d with
  | zero => exact ⟨fun h => ⟨of_decide_eq_true h, fun a ha => by omega⟩, fun h => decide_eq_true h.1⟩
  | succ d ih =>
    show (alf W cl ch d s && (s.testBit d == decide (0 < ch d))) = true ↔ _
    rw [Bool.and_eq_true, ih]
    constructor
    · rintro ⟨⟨h1, h2⟩, h3⟩
      refine ⟨h1, fun a ha => ?_⟩
      by_cases e : a = d
      · subst e; exact eq_of_beq h3
      · exact h2 a (by omega)
    · rintro ⟨h1, h2⟩
      exact ⟨⟨h1, fun a ha => h2 a (by omega)⟩, by rw [h2 d (by omega)]; exact beq_self_eq_true _⟩
theorem alf_c {W : Nat → Nat} {cl : Nat} {ch ch' : Nat → Nat} {s : Nat} : ∀ d : Nat, (∀ a : Nat, a < d → ch a = ch' a) → alf W cl ch d s = alf W cl ch' d s := by
  intro d
  induction d with
  | zero => intro _; rfl
  | succ d ih =>
    intro h
    show (alf W cl ch d s && (s.testBit d == decide (0 < ch d))) = (alf W cl ch' d s && (s.testBit d == decide (0 < ch' d)))
    rw [ih (fun a ha => h a (by omega)), h d (by omega)]
theorem wayl_b {st : Nat} {r : Option (Nat × Nat)} (hs : st ≤ 99) (hr : wfit r) : wayl st r ≤ 400 := by
  cases r with
  | none => exact Nat.zero_le _
  | some q =>
    obtain ⟨l, u⟩ := q
    have := hr l u rfl
    show u - l + min (ndist st l) (ndist st u) ≤ 400
    unfold ndist
    omega
section
variable {h h1 : qH} {x x1 : Nat → Int32} {y1 : Nat → Int64} {F F1 : Nat → Nat → Int32} {G1 : Nat → Nat → Int64}
theorem QZ.e49 (a : QZ h h1 x F G1 x1 y1 F1) {v : Int64} {L : List Value} (e : L = M63l x1 (updL y1 49 v)) : QZ h (h1.1, qup h1.2 63 (.inl (12, L))) x F G1 x1 (updL y1 49 v) F1 := ⟨a.1.p63 e, a.2.1, a.2.2.u (by decide) (by decide)⟩
theorem QZ.e50 (a : QZ h h1 x F G1 x1 y1 F1) {v : Int32} {L : List Value} (e : L = M63l (upd x1 50 v) y1) : QZ h (h1.1, qup h1.2 63 (.inl (12, L))) x F G1 (upd x1 50 v) y1 F1 := ⟨a.1.p63 e, a.2.1.ux (by decide), a.2.2.u (by decide) (by decide)⟩
end
set_option maxHeartbeats 4000000 in
theorem M_findBest {g : qG} (hg : qOK g) {h : qH} {x : Nat → Int32} {y : Nat → Int64} {F : Nat → Nat → Int32} {G : Nat → Nat → Int64} (hM : MX h x y F G) {S : CS} (hR : Rel S x F) (hI : ROK S.2.1) (hl : lwf S.2.2.2.2.1.1) (hd5 : S.2.1.2.2.2.1 ≤ 5) {w0 : Nat} (hw9 : w0 ≤ 9) : qSpec g 6 0 0 mX12_findBest [.ref 63, .int (nI w0)] h (fun r h' => r = none ∧ ∃ (x' : Nat → Int32) (y' : Nat → Int64) (F' : Nat → Nat → Int32) (G' : Nat → Nat → Int64), QZ h h' x F G' x' y' F' ∧ ∃ (V0 : Nat) (ch : Nat → Nat), lexO (nX S.2.1.1) (nA (sval S.2.1.1 S.2.2.2.2.1.1.1 S.2.2.2.2.1.1.2.1 S.2.2.2.2.1.1.2.2 (nI S.2.2.2.1.2) S.2.1.2.2.2.2.2.2.2.1 (nI w0))) (nT (slen S.2.1.1 S.2.1.2.2.2.2.2.2.2.1)) S.2.1.2.2.2.1 (S.2.1.2.2.2.2.2.2.1).toNatClampNeg (S.2.1.2.2.2.2.2.2.2.2).toNatClampNeg V0 ch ∧ y' 49 = Int64.ofNat V0 ∧ x' 50 = nI (sumN (fun a => (nT (slen S.2.1.1 S.2.1.2.2.2.2.2.2.2.1)) a (ch a)) S.2.1.2.2.2.1 + wayC (nX S.2.1.1) S.2.1.2.2.2.1 (S.2.1.2.2.2.2.2.2.1).toNatClampNeg ch) ∧ ∀ a : Nat, a < S.2.1.2.2.2.1 → F' 84 a = nI (ch a)) := by
  refine qSpec_run 12 "findBest" false hg mX12_findBest_ok rfl rfl (Nat.le_of_ble_eq_true rfl) (by decide) ?_
  intro run step
  have hn10 := hI.1.1
  have hp32 : 2 ^ S.2.1.2.2.2.1 ≤ 2 ^ 5 := Nat.pow_le_pow_right (by decide) hd5
  obtain ⟨a0, ha0, ea0⟩ := hI.2.2.2.1
  obtain ⟨cl, hcl, ecl⟩ := hI.2.2.2.2.2
  have hst : (S.2.1.2.2.2.2.2.2.1).toNatClampNeg ≤ 99 := by rw [ea0, h_tn (by omega)]; exact ha0
  have hWb : ∀ s : Nat, (wayS (nX S.2.1.1) S.2.1.2.2.2.1 (S.2.1.2.2.2.2.2.2.1).toNatClampNeg) s ≤ 400 := fun s => wayl_b hst (wrun_fit S.2.1.2.2.2.1 (fun a ha => (nX_e hI ha).2))
  have ecl2 : (S.2.1.2.2.2.2.2.2.2.2).toNatClampNeg = cl := by rw [ecl, h_tn (by omega)]
  rw [ecl2] at step
  clear ecl2
  obtain ⟨V0, hV, hopt⟩ := bvf_opt (X := (nX S.2.1.1)) (A := (nA (sval S.2.1.1 S.2.2.2.2.1.1.1 S.2.2.2.2.1.1.2.1 S.2.2.2.2.1.1.2.2 (nI S.2.2.2.1.2) S.2.1.2.2.2.2.2.2.2.1 (nI w0)))) (T := (nT (slen S.2.1.1 S.2.1.2.2.2.2.2.2.2.1))) (dc := S.2.1.2.2.2.1) (st := (S.2.1.2.2.2.2.2.2.1).toNatClampNeg) (cl := cl) (fun a ha => rfl)
  have hA42 : ∀ a q : Nat, a < S.2.1.2.2.2.1 → q < 19 → (nA (sval S.2.1.1 S.2.2.2.2.1.1.1 S.2.2.2.2.1.1.2.1 S.2.2.2.2.1.1.2.2 (nI S.2.2.2.1.2) S.2.1.2.2.2.2.2.2.2.1 (nI w0))) a q ≤ 2 ^ 42 := fun a q ha hq => (oval_n hI S.2.2.2.2.1.1.1 S.2.2.2.2.1.1.2.1 S.2.2.2.2.1.1.2.2 (nI S.2.2.2.1.2) hw9 ha hq).2
  have hT200 : ∀ a q : Nat, a < S.2.1.2.2.2.1 → q < 19 → (nT (slen S.2.1.1 S.2.1.2.2.2.2.2.2.2.1)) a q ≤ 200 := fun a q ha hq => (olen_n hI ha hq).2
  have hV0 : V0 ≤ 2 ^ 48 := by
    obtain ⟨c, g1, g2⟩ := hopt.1
    have h1 := sumN_b (f := fun a => (nA (sval S.2.1.1 S.2.2.2.2.1.1.1 S.2.2.2.2.1.1.2.1 S.2.2.2.2.1.1.2.2 (nI S.2.2.2.1.2) S.2.1.2.2.2.2.2.2.2.1 (nI w0))) a (c a)) (B := 2 ^ 42) S.2.1.2.2.2.1 (fun a ha => hA42 a (c a) ha (g1.1 a ha))
    have h2 : S.2.1.2.2.2.1 * 2 ^ 42 ≤ 5 * 2 ^ 42 := Nat.mul_le_mul_right _ hd5
    have h3 : sumN (fun a => (nA (sval S.2.1.1 S.2.2.2.2.1.1.1 S.2.2.2.2.1.1.2.1 S.2.2.2.2.1.1.2.2 (nI S.2.2.2.1.2) S.2.1.2.2.2.2.2.2.2.1 (nI w0))) a (c a)) S.2.1.2.2.2.1 = V0 := g2
    omega
  have loop3 : ∀ (m d : Nat) (ch : Nat → Nat) (hX : qH) (xX : Nat → Int32) (yX : Nat → Int64) (FX : Nat → Nat → Int32) (GX : Nat → Nat → Int64), d + m = S.2.1.2.2.2.1 → (QZ h hX x F GX xX yX FX) → (btab S.2.1.2.2.2.1 (nA (sval S.2.1.1 S.2.2.2.2.1.1.1 S.2.2.2.2.1.1.2.1 S.2.2.2.2.1.1.2.2 (nI S.2.2.2.1.2) S.2.1.2.2.2.2.2.2.2.1 (nI w0))) (nT (slen S.2.1.1 S.2.1.2.2.2.2.2.2.2.1)) (wayS (nX S.2.1.1) S.2.1.2.2.2.1 (S.2.1.2.2.2.2.2.2.1).toNatClampNeg) cl (alf (wayS (nX S.2.1.1) S.2.1.2.2.2.1 (S.2.1.2.2.2.2.2.2.1).toNatClampNeg) cl ch d) FX GX) → (∀ a : Nat, a < d → ch a < 19) → (xX 50 = nI (sumN (fun a => (nT (slen S.2.1.1 S.2.1.2.2.2.2.2.2.2.1)) a (ch a)) d)) → (yX 49 = Int64.ofNat V0) → (∀ a : Nat, a < d → FX 84 a = nI (ch a)) → ((∃ c : Nat → Nat, feas (nX S.2.1.1) (nT (slen S.2.1.1 S.2.1.2.2.2.2.2.2.2.1)) S.2.1.2.2.2.1 (S.2.1.2.2.2.2.2.2.1).toNatClampNeg cl c ∧ valC (nA (sval S.2.1.1 S.2.2.2.2.1.1.1 S.2.2.2.2.1.1.2.1 S.2.2.2.2.1.1.2.2 (nI S.2.2.2.1.2) S.2.1.2.2.2.2.2.2.2.1 (nI w0))) S.2.1.2.2.2.1 c = V0 ∧ ∀ a : Nat, a < d → c a = ch a)) → ((∀ (a : Nat) (c : Nat → Nat), a < d → feas (nX S.2.1.1) (nT (slen S.2.1.1 S.2.1.2.2.2.2.2.2.2.1)) S.2.1.2.2.2.1 (S.2.1.2.2.2.2.2.2.1).toNatClampNeg cl c → valC (nA (sval S.2.1.1 S.2.2.2.2.1.1.1 S.2.2.2.2.1.1.2.1 S.2.2.2.2.1.1.2.2 (nI S.2.2.2.1.2) S.2.1.2.2.2.2.2.2.2.1 (nI w0))) S.2.1.2.2.2.1 c = V0 → (∀ b : Nat, b < a → c b = ch b) → ch a ≤ c a)) → run 135 [(5, .int (nI d)), (4, .int (nI (msk (fun a => decide (0 < ch a)) d))), (2, .long (Int64.ofNat (sumN (fun a => (nA (sval S.2.1.1 S.2.2.2.2.1.1.1 S.2.2.2.2.1.1.2.1 S.2.2.2.2.1.1.2.2 (nI S.2.2.2.1.2) S.2.1.2.2.2.2.2.2.2.1 (nI w0))) a (ch a)) d))), (0, .ref 63), (1, .int (nI w0))] [] hX 0 0 := by
    intro m
    induction m with
    | zero =>
      intro d ch hX xX yX FX GX hd hQ hB hch h50 h49 h84 hP hmin
      have e19 : xX 19 = nI S.2.1.2.2.2.1 := (hQ.R hR).1.2.2.1
      refine step.1 _ _ _ _ _ _ _ sgX12_findBest_135_ok ?_
      refine ⟨by decide, _, _, hQ.1.1, rfl, ?_⟩
      refine ⟨fun c141 => ?_, fun c141 => absurd (show xX 19 ≤ nI d from by rw [e19]; exact nI_le (by omega) (by omega)) c141⟩
      have hdc : d = S.2.1.2.2.2.1 := by omega
      refine step.1 _ _ _ _ _ _ _ sgX12_findBest_291_ok ?_
      refine ⟨rfl, ?_⟩
      refine ⟨by decide, _, _, hQ.1.1, rfl, ?_⟩
      refine Or.inl ⟨rfl, _, 2, 0, 0, _, _, _, qi_12_420, ⟨rfl, rfl⟩, ⟨hQ.1.1, rfl⟩, rfl, rfl, M_wayOver hg hQ.1 (hQ.R hR) hI (s := (msk (fun a => decide (0 < ch a)) d)) (by have h1 := msk_lt (fun a => decide (0 < ch a)) d; have h2 : 2 ^ d ≤ 2 ^ 5 := Nat.pow_le_pow_right (by decide) (by omega); omega), fun y299 h299 hy299 => ?_⟩
      obtain ⟨rfl, hh⟩ := hy299
      rw [hh]
      clear hh
      refine ⟨_, hQ.1.1, Nat.le_of_ble_eq_true rfl, rfl, ?_⟩
      have hQe := hQ.e50 (v := xX 50 + nI ((wayS (nX S.2.1.1) S.2.1.2.2.2.1 (S.2.1.2.2.2.2.2.2.1).toNatClampNeg) (msk (fun a => decide (0 < ch a)) d))) (sI_50 (rfl : _ = M63l xX yX))
      refine ⟨rfl, Nat.le_refl _, Nat.le_refl _, ?_⟩
      have hbits : ∀ a : Nat, a < S.2.1.2.2.2.1 → (msk (fun a => decide (0 < ch a)) d).testBit a = decide (0 < ch a) := fun a ha => by rw [msk_bit, decide_eq_true (show a < d by omega)]; rfl
      obtain ⟨c, g1, g2, g3⟩ := hP
      have hfe : feas (nX S.2.1.1) (nT (slen S.2.1.1 S.2.1.2.2.2.2.2.2.2.1)) S.2.1.2.2.2.1 (S.2.1.2.2.2.2.2.2.1).toNatClampNeg cl ch := ⟨fun a ha => hch a (by omega), by
        have h1 := g1.2
        rw [wayC_c (c := c) (c' := ch) (fun a ha => g3 a (by omega)), sumN_c (f := fun a => (nT (slen S.2.1.1 S.2.1.2.2.2.2.2.2.2.1)) a (c a)) (g := fun a => (nT (slen S.2.1.1 S.2.1.2.2.2.2.2.2.2.1)) a (ch a)) S.2.1.2.2.2.1 (fun a ha => by show (nT (slen S.2.1.1 S.2.1.2.2.2.2.2.2.2.1)) a (c a) = (nT (slen S.2.1.1 S.2.1.2.2.2.2.2.2.2.1)) a (ch a); rw [g3 a (by omega)])] at h1
        exact h1⟩
      have hva : valC (nA (sval S.2.1.1 S.2.2.2.2.1.1.1 S.2.2.2.2.1.1.2.1 S.2.2.2.2.1.1.2.2 (nI S.2.2.2.1.2) S.2.1.2.2.2.2.2.2.2.1 (nI w0))) S.2.1.2.2.2.1 ch = V0 := by
        rw [← g2]
        exact sumN_c (f := fun a => (nA (sval S.2.1.1 S.2.2.2.2.1.1.1 S.2.2.2.2.1.1.2.1 S.2.2.2.2.1.1.2.2 (nI S.2.2.2.1.2) S.2.1.2.2.2.2.2.2.2.1 (nI w0))) a (ch a)) (g := fun a => (nA (sval S.2.1.1 S.2.2.2.2.1.1.1 S.2.2.2.2.1.1.2.1 S.2.2.2.2.1.1.2.2 (nI S.2.2.2.1.2) S.2.1.2.2.2.2.2.2.2.1 (nI w0))) a (c a)) S.2.1.2.2.2.1 (fun a ha => by show (nA (sval S.2.1.1 S.2.2.2.2.1.1.1 S.2.2.2.2.1.1.2.1 S.2.2.2.2.1.1.2.2 (nI S.2.2.2.1.2) S.2.1.2.2.2.2.2.2.2.1 (nI w0))) a (ch a) = (nA (sval S.2.1.1 S.2.2.2.2.1.1.1 S.2.2.2.2.1.1.2.1 S.2.2.2.2.1.1.2.2 (nI S.2.2.2.1.2) S.2.1.2.2.2.2.2.2.2.1 (nI w0))) a (c a); rw [g3 a (by omega)])
      refine ⟨rfl, _, yX, FX, GX, hQe, V0, ch, ⟨hopt, hfe, hva, fun a c ha => hmin a c (by omega)⟩, h49, ?_, fun a ha => h84 a (by omega)⟩
      show xX 50 + nI ((wayS (nX S.2.1.1) S.2.1.2.2.2.1 (S.2.1.2.2.2.2.2.2.1).toNatClampNeg) (msk (fun a => decide (0 < ch a)) d)) = _
      rw [h50, wayS_C hbits, nI_add, hdc]
    | succ m ih =>
      intro d ch hX xX yX FX GX hd hQ hB hch h50 h49 h84 hP hmin
      have hbt : (sumN (fun a => (nT (slen S.2.1.1 S.2.1.2.2.2.2.2.2.2.1)) a (ch a)) d) ≤ 1000 := by
        have h1 := sumN_b (f := fun a => (nT (slen S.2.1.1 S.2.1.2.2.2.2.2.2.2.1)) a (ch a)) (B := 200) d (fun a ha => hT200 a (ch a) (by omega) (hch a ha))
        have h2 : d * 200 ≤ 5 * 200 := Nat.mul_le_mul_right _ (by omega)
        omega
      have hgot : (sumN (fun a => (nA (sval S.2.1.1 S.2.2.2.2.1.1.1 S.2.2.2.2.1.1.2.1 S.2.2.2.2.1.1.2.2 (nI S.2.2.2.1.2) S.2.1.2.2.2.2.2.2.2.1 (nI w0))) a (ch a)) d) ≤ 2 ^ 48 := by
        have h1 := sumN_b (f := fun a => (nA (sval S.2.1.1 S.2.2.2.2.1.1.1 S.2.2.2.2.1.1.2.1 S.2.2.2.2.1.1.2.2 (nI S.2.2.2.1.2) S.2.1.2.2.2.2.2.2.2.1 (nI w0))) a (ch a)) (B := 2 ^ 42) d (fun a ha => hA42 a (ch a) (by omega) (hch a ha))
        have h2 : d * 2 ^ 42 ≤ 5 * 2 ^ 42 := Nat.mul_le_mul_right _ (by omega)
        omega
      have hP2 := hP
      have at165 : ∀ q : Nat, q < 19 → (∃ s : Nat, s < 2 ^ S.2.1.2.2.2.1 ∧ gw (nX S.2.1.1) (nA (sval S.2.1.1 S.2.2.2.2.1.1.1 S.2.2.2.2.1.1.2.1 S.2.2.2.2.1.1.2.2 (nI S.2.2.2.1.2) S.2.1.2.2.2.2.2.2.2.1 (nI w0))) (nT (slen S.2.1.1 S.2.1.2.2.2.2.2.2.2.1)) S.2.1.2.2.2.1 (S.2.1.2.2.2.2.2.2.1).toNatClampNeg cl V0 d q (sumN (fun a => (nT (slen S.2.1.1 S.2.1.2.2.2.2.2.2.2.1)) a (ch a)) d) (sumN (fun a => (nA (sval S.2.1.1 S.2.2.2.2.1.1.1 S.2.2.2.2.1.1.2.1 S.2.2.2.2.1.1.2.2 (nI S.2.2.2.1.2) S.2.1.2.2.2.2.2.2.2.1 (nI w0))) a (ch a)) d) (alf (wayS (nX S.2.1.1) S.2.1.2.2.2.1 (S.2.1.2.2.2.2.2.2.1).toNatClampNeg) cl ch d) s) → (∀ z : Nat, z < q → ¬ ∃ s : Nat, s < 2 ^ S.2.1.2.2.2.1 ∧ gw (nX S.2.1.1) (nA (sval S.2.1.1 S.2.2.2.2.1.1.1 S.2.2.2.2.1.1.2.1 S.2.2.2.2.1.1.2.2 (nI S.2.2.2.1.2) S.2.1.2.2.2.2.2.2.2.1 (nI w0))) (nT (slen S.2.1.1 S.2.1.2.2.2.2.2.2.2.1)) S.2.1.2.2.2.1 (S.2.1.2.2.2.2.2.2.1).toNatClampNeg cl V0 d z (sumN (fun a => (nT (slen S.2.1.1 S.2.1.2.2.2.2.2.2.2.1)) a (ch a)) d) (sumN (fun a => (nA (sval S.2.1.1 S.2.2.2.2.1.1.1 S.2.2.2.2.1.1.2.1 S.2.2.2.2.1.1.2.2 (nI S.2.2.2.1.2) S.2.1.2.2.2.2.2.2.2.1 (nI w0))) a (ch a)) d) (alf (wayS (nX S.2.1.1) S.2.1.2.2.2.1 (S.2.1.2.2.2.2.2.2.1).toNatClampNeg) cl ch d) s) → run 165 [(6, .int (nI q)), (5, .int (nI d)), (4, .int (nI (msk (fun a => decide (0 < ch a)) d))), (2, .long (Int64.ofNat (sumN (fun a => (nA (sval S.2.1.1 S.2.2.2.2.1.1.1 S.2.2.2.2.1.1.2.1 S.2.2.2.2.1.1.2.2 (nI S.2.2.2.1.2) S.2.1.2.2.2.2.2.2.2.1 (nI w0))) a (ch a)) d))), (0, .ref 63), (1, .int (nI w0))] [] hX 0 0 := by
        intro q hq hGO hno
        have at220 : ∀ (hX2 : qH) (F2 : Nat → Nat → Int32), QZ h hX2 x F GX xX yX F2 → (∀ j : Nat, j ≠ 86 → F2 j = FX j) → (∀ z : Nat, z < 2 ^ S.2.1.2.2.2.1 → F2 86 z = qb ((alf (wayS (nX S.2.1.1) S.2.1.2.2.2.1 (S.2.1.2.2.2.2.2.2.1).toNatClampNeg) cl (fun a => if a = d then q else ch a) (d + 1)) z)) → run 220 [(6, .int (nI q)), (5, .int (nI d)), (4, .int (nI (msk (fun a => decide (0 < ch a)) d))), (2, .long (Int64.ofNat (sumN (fun a => (nA (sval S.2.1.1 S.2.2.2.2.1.1.1 S.2.2.2.2.1.1.2.1 S.2.2.2.2.1.1.2.2 (nI S.2.2.2.1.2) S.2.1.2.2.2.2.2.2.2.1 (nI w0))) a (ch a)) d))), (0, .ref 63), (1, .int (nI w0))] [] hX2 0 0 := by
          intro hX2 F2 hQ2 hF hal
          obtain ⟨⟨eA, hA⟩, eT, hT⟩ := hB.1 d q (by omega) hq
          have ei : (19 * nI d + nI q : Int32) = nI (d * 19 + q) := ixk (k := 19)
          have et := h_tn (n := d * 19 + q) (by omega)
          have etd := h_tn (n := d) (by omega)
          have ixv : vp_in (19 * nI d + nI q : Int32) 95 := by rw [ei]; exact vp_in_nI (by omega) (by decide)
          have eV : GX 82 (19 * nI d + nI q : Int32).toNatClampNeg = Int64.ofNat ((nA (sval S.2.1.1 S.2.2.2.2.1.1.1 S.2.2.2.2.1.1.2.1 S.2.2.2.2.1.1.2.2 (nI S.2.2.2.1.2) S.2.1.2.2.2.2.2.2.2.1 (nI w0))) d q) := by rw [ei, et]; exact eA
          have eL : fup F2 84 (upd (F2 84) (nI d).toNatClampNeg (nI q)) 83 (19 * nI d + nI q : Int32).toNatClampNeg = nI ((nT (slen S.2.1.1 S.2.1.2.2.2.2.2.2.2.1)) d q) := by rw [fup_n (by decide), hF 83 (by decide), ei, et]; exact eT
          have hlow : ∀ a : Nat, a < d → (fun a => if a = d then q else ch a) a = ch a := fun a ha => if_neg (by omega)
          have hmid : (fun a => if a = d then q else ch a) d = q := if_pos rfl
          have eSA : sumN (fun a => (nA (sval S.2.1.1 S.2.2.2.2.1.1.1 S.2.2.2.2.1.1.2.1 S.2.2.2.2.1.1.2.2 (nI S.2.2.2.1.2) S.2.1.2.2.2.2.2.2.2.1 (nI w0))) a ((fun a => if a = d then q else ch a) a)) (d + 1) = (sumN (fun a => (nA (sval S.2.1.1 S.2.2.2.2.1.1.1 S.2.2.2.2.1.1.2.1 S.2.2.2.2.1.1.2.2 (nI S.2.2.2.1.2) S.2.1.2.2.2.2.2.2.2.1 (nI w0))) a (ch a)) d) + (nA (sval S.2.1.1 S.2.2.2.2.1.1.1 S.2.2.2.2.1.1.2.1 S.2.2.2.2.1.1.2.2 (nI S.2.2.2.1.2) S.2.1.2.2.2.2.2.2.2.1 (nI w0))) d q := by
            show sumN (fun a => (nA (sval S.2.1.1 S.2.2.2.2.1.1.1 S.2.2.2.2.1.1.2.1 S.2.2.2.2.1.1.2.2 (nI S.2.2.2.1.2) S.2.1.2.2.2.2.2.2.2.1 (nI w0))) a ((fun a => if a = d then q else ch a) a)) d + (nA (sval S.2.1.1 S.2.2.2.2.1.1.1 S.2.2.2.2.1.1.2.1 S.2.2.2.2.1.1.2.2 (nI S.2.2.2.1.2) S.2.1.2.2.2.2.2.2.2.1 (nI w0))) d ((fun a => if a = d then q else ch a) d) = _
            rw [hmid, sumN_c (f := fun a => (nA (sval S.2.1.1 S.2.2.2.2.1.1.1 S.2.2.2.2.1.1.2.1 S.2.2.2.2.1.1.2.2 (nI S.2.2.2.1.2) S.2.1.2.2.2.2.2.2.2.1 (nI w0))) a ((fun a => if a = d then q else ch a) a)) (g := fun a => (nA (sval S.2.1.1 S.2.2.2.2.1.1.1 S.2.2.2.2.1.1.2.1 S.2.2.2.2.1.1.2.2 (nI S.2.2.2.1.2) S.2.1.2.2.2.2.2.2.2.1 (nI w0))) a (ch a)) d (fun a ha => by show (nA (sval S.2.1.1 S.2.2.2.2.1.1.1 S.2.2.2.2.1.1.2.1 S.2.2.2.2.1.1.2.2 (nI S.2.2.2.1.2) S.2.1.2.2.2.2.2.2.2.1 (nI w0))) a ((fun a => if a = d then q else ch a) a) = (nA (sval S.2.1.1 S.2.2.2.2.1.1.1 S.2.2.2.2.1.1.2.1 S.2.2.2.2.1.1.2.2 (nI S.2.2.2.1.2) S.2.1.2.2.2.2.2.2.2.1 (nI w0))) a (ch a); rw [hlow a ha])]
          have eST : sumN (fun a => (nT (slen S.2.1.1 S.2.1.2.2.2.2.2.2.2.1)) a ((fun a => if a = d then q else ch a) a)) (d + 1) = (sumN (fun a => (nT (slen S.2.1.1 S.2.1.2.2.2.2.2.2.2.1)) a (ch a)) d) + (nT (slen S.2.1.1 S.2.1.2.2.2.2.2.2.2.1)) d q := by
            show sumN (fun a => (nT (slen S.2.1.1 S.2.1.2.2.2.2.2.2.2.1)) a ((fun a => if a = d then q else ch a) a)) d + (nT (slen S.2.1.1 S.2.1.2.2.2.2.2.2.2.1)) d ((fun a => if a = d then q else ch a) d) = _
            rw [hmid, sumN_c (f := fun a => (nT (slen S.2.1.1 S.2.1.2.2.2.2.2.2.2.1)) a ((fun a => if a = d then q else ch a) a)) (g := fun a => (nT (slen S.2.1.1 S.2.1.2.2.2.2.2.2.2.1)) a (ch a)) d (fun a ha => by show (nT (slen S.2.1.1 S.2.1.2.2.2.2.2.2.2.1)) a ((fun a => if a = d then q else ch a) a) = (nT (slen S.2.1.1 S.2.1.2.2.2.2.2.2.2.1)) a (ch a); rw [hlow a ha])]
          have eMK : msk (fun a => decide (0 < (fun a => if a = d then q else ch a) a)) (d + 1) = (msk (fun a => decide (0 < ch a)) d) ||| (if 0 < q then 2 ^ d else 0) := by
            refine Nat.eq_of_testBit_eq fun i => ?_
            rw [msk_bit, Nat.testBit_or, msk_bit]
            by_cases e : i = d
            · subst e
              by_cases c : 0 < q
              · rw [if_pos c, Nat.testBit_two_pow_self]
                simp [hmid, c]
              · rw [if_neg c, Nat.zero_testBit]
                simp [hmid, c]
            · have h3 : (if 0 < q then 2 ^ d else 0).testBit i = false := by
                by_cases c : 0 < q
                · rw [if_pos c]; exact Nat.testBit_two_pow_of_ne (by omega)
                · rw [if_neg c, Nat.zero_testBit]
              rw [h3, Bool.or_false]
              by_cases z : i < d
              · simp [z, hlow i z]; omega
              · simp [z]; omega
          obtain ⟨c0, k1, k2, k3, k4⟩ := (gw_iff hopt (by omega) hq hch (al := (alf (wayS (nX S.2.1.1) S.2.1.2.2.2.1 (S.2.1.2.2.2.2.2.2.1).toNatClampNeg) cl ch d)) (fun s _ => alf_iff d)).mp hGO
          refine step.1 _ _ _ _ _ _ _ sgX12_findBest_220_ok ?_
          refine ⟨by decide, _, _, hQ2.1.1, rfl, ?_⟩
          refine ⟨_, _, hQ2.1.c84, vp_in_nI (by omega) (by decide), ?_⟩
          have hQ4 := hQ2.u84 (upd (F2 84) (nI d).toNatClampNeg (nI q))
          refine ⟨by decide, _, _, hQ4.1.1, rfl, ?_⟩
          refine ⟨_, _, hQ4.1.c82, ixv, ?_⟩
          refine ⟨rfl, ?_⟩
          refine ⟨by decide, _, _, hQ4.1.1, rfl, ?_⟩
          refine ⟨by decide, _, _, hQ4.1.1, rfl, ?_⟩
          refine ⟨_, _, hQ4.1.c83, ixv, ?_⟩
          refine ⟨_, hQ4.1.1, Nat.le_of_ble_eq_true rfl, rfl, ?_⟩
          have hQ5 := hQ4.e50 (v := xX 50 + fup F2 84 (upd (F2 84) (nI d).toNatClampNeg (nI q)) 83 (19 * nI d + nI q : Int32).toNatClampNeg) (sI_50 (rfl : _ = M63l xX yX))
          refine ⟨fun c271 => ?_, fun c271 => ?_⟩
          · have hq0 : ¬ 0 < q := fun z => absurd (show nI q ≤ nI 0 from c271) (h_nle z (by omega))
            refine step.1 _ _ _ _ _ _ _ sgX12_findBest_281_ok ?_
            refine step.1 _ _ _ _ _ _ _ sgX12_findBest_282_ok ?_
            refine step.2 _ _ _ _ _ _ _ (qsub_cons 0 rfl (qsub_cons 1 rfl (qsub_cons 2 rfl (qsub_cons 4 rfl (qsub_cons 5 rfl qsub_nil))))) ?_
            have kk := ih (d + 1) (fun a => if a = d then q else ch a) _ _ yX _ GX (by omega) hQ5 ⟨?_, hB.2.1, ?_⟩ ?_ ?_ h49 ?_ ⟨c0, k1, k2, ?_⟩ ?_
            · rw [eSA, Int64.ofNat_add, ← eV, eMK, if_neg hq0, ← b_or, ← nI_1] at kk
              exact kk
            · rw [fup_n (by decide), hF 83 (by decide)]; exact hB.1
            · intro s hs
              obtain ⟨p1, p2, p3, p4, p5⟩ := hB.2.2 s hs
              refine ⟨p1, by rw [fup_n (by decide), hF 85 (by decide)]; exact p2, by rw [fup_n (by decide)]; exact hal s hs, fun q2 => ?_, p5⟩
              exact ((alf_iff (d + 1)).mp q2).1
            · intro a ha
              by_cases e : a = d
              · rw [if_pos e]; exact hq
              · rw [if_neg e]; exact hch a (by omega)
            · show xX 50 + fup F2 84 (upd (F2 84) (nI d).toNatClampNeg (nI q)) 83 (19 * nI d + nI q : Int32).toNatClampNeg = _
              rw [eL, h50, eST, nI_add]
            · intro a ha
              rw [fup_s, etd, hF 84 (by decide)]
              by_cases e : a = d
              · rw [if_pos e, e]; exact upd_s
              · rw [if_neg e]; exact (upd_n e).trans (h84 a (by omega))
            · intro a ha
              by_cases e : a = d
              · rw [if_pos e, e]; exact k4
              · rw [if_neg e]; exact k3 a (by omega)
            · intro a c ha hc1 hc2 hc3
              by_cases e : a = d
              · rw [if_pos e]
                subst e
                refine Nat.le_of_not_lt fun hlt => ?_
                have hcd := hc1.1 a (by omega)
                exact hno (c a) hlt ((gw_iff hopt (by omega) hcd hch (al := alf (wayS (nX S.2.1.1) S.2.1.2.2.2.1 (S.2.1.2.2.2.2.2.2.1).toNatClampNeg) cl ch a) (fun s _ => alf_iff a)).mpr ⟨c, hc1, hc2, fun b hb => (hc3 b hb).trans (hlow b hb), rfl⟩)
              · rw [if_neg e]
                exact hmin a c (by omega) hc1 hc2 (fun b hb => (hc3 b hb).trans (hlow b (by omega)))
          · have hq1 : 0 < q := Nat.pos_of_ne_zero fun z => c271 (by rw [z]; exact Int32.le_refl _)
            refine step.1 _ _ _ _ _ _ _ sgX12_findBest_282_ok ?_
            refine step.2 _ _ _ _ _ _ _ (qsub_cons 0 rfl (qsub_cons 1 rfl (qsub_cons 2 rfl (qsub_cons 4 rfl (qsub_cons 5 rfl qsub_nil))))) ?_
            have kk := ih (d + 1) (fun a => if a = d then q else ch a) _ _ yX _ GX (by omega) hQ5 ⟨?_, hB.2.1, ?_⟩ ?_ ?_ h49 ?_ ⟨c0, k1, k2, ?_⟩ ?_
            · rw [eSA, Int64.ofNat_add, ← eV, eMK, if_pos hq1, ← b_or, ← b_shl (by omega), ← nI_1] at kk
              exact kk
            · rw [fup_n (by decide), hF 83 (by decide)]; exact hB.1
            · intro s hs
              obtain ⟨p1, p2, p3, p4, p5⟩ := hB.2.2 s hs
              refine ⟨p1, by rw [fup_n (by decide), hF 85 (by decide)]; exact p2, by rw [fup_n (by decide)]; exact hal s hs, fun q2 => ?_, p5⟩
              exact ((alf_iff (d + 1)).mp q2).1
            · intro a ha
              by_cases e : a = d
              · rw [if_pos e]; exact hq
              · rw [if_neg e]; exact hch a (by omega)
            · show xX 50 + fup F2 84 (upd (F2 84) (nI d).toNatClampNeg (nI q)) 83 (19 * nI d + nI q : Int32).toNatClampNeg = _
              rw [eL, h50, eST, nI_add]
            · intro a ha
              rw [fup_s, etd, hF 84 (by decide)]
              by_cases e : a = d
              · rw [if_pos e, e]; exact upd_s
              · rw [if_neg e]; exact (upd_n e).trans (h84 a (by omega))
            · intro a ha
              by_cases e : a = d
              · rw [if_pos e, e]; exact k4
              · rw [if_neg e]; exact k3 a (by omega)
            · intro a c ha hc1 hc2 hc3
              by_cases e : a = d
              · rw [if_pos e]
                subst e
                refine Nat.le_of_not_lt fun hlt => ?_
                have hcd := hc1.1 a (by omega)
                exact hno (c a) hlt ((gw_iff hopt (by omega) hcd hch (al := alf (wayS (nX S.2.1.1) S.2.1.2.2.2.1 (S.2.1.2.2.2.2.2.2.1).toNatClampNeg) cl ch a) (fun s _ => alf_iff a)).mpr ⟨c, hc1, hc2, fun b hb => (hc3 b hb).trans (hlow b hb), rfl⟩)
              · rw [if_neg e]
                exact hmin a c (by omega) hc1 hc2 (fun b hb => (hc3 b hb).trans (hlow b (by omega)))
        have loops : ∀ (k s : Nat) (hX2 : qH) (F2 : Nat → Nat → Int32), s + k = 2 ^ S.2.1.2.2.2.1 → QZ h hX2 x F GX xX yX F2 → (∀ j : Nat, j ≠ 86 → F2 j = FX j) → (∀ z : Nat, z < s → F2 86 z = qb ((alf (wayS (nX S.2.1.1) S.2.1.2.2.2.1 (S.2.1.2.2.2.2.2.2.1).toNatClampNeg) cl (fun a => if a = d then q else ch a) (d + 1)) z)) → (∀ z : Nat, s ≤ z → z < 2 ^ S.2.1.2.2.2.1 → F2 86 z = qb ((alf (wayS (nX S.2.1.1) S.2.1.2.2.2.1 (S.2.1.2.2.2.2.2.2.1).toNatClampNeg) cl ch d) z)) → run 168 [(7, .int (nI s)), (6, .int (nI q)), (5, .int (nI d)), (4, .int (nI (msk (fun a => decide (0 < ch a)) d))), (2, .long (Int64.ofNat (sumN (fun a => (nA (sval S.2.1.1 S.2.2.2.2.1.1.1 S.2.2.2.2.1.1.2.1 S.2.2.2.2.1.1.2.2 (nI S.2.2.2.1.2) S.2.1.2.2.2.2.2.2.2.1 (nI w0))) a (ch a)) d))), (0, .ref 63), (1, .int (nI w0))] [] hX2 0 0 := by
          intro k
          induction k with
          | zero =>
          intro s hX2 F2 hs hQ2 hF hlo hhi
          have e19 : xX 19 = nI S.2.1.2.2.2.1 := (hQ.R hR).1.2.2.1
          have epow : (1 : Int32) <<< (xX 19 &&& 31) = nI (2 ^ S.2.1.2.2.2.1) := by rw [e19]; exact b_shl (by omega)
          refine step.1 _ _ _ _ _ _ _ sgX12_findBest_168_ok ?_
          refine ⟨by decide, _, _, hQ2.1.1, rfl, ?_⟩
          refine ⟨fun c176 => ?_, fun c176 => absurd (show (1 : Int32) <<< (xX 19 &&& 31) ≤ nI s from by rw [epow]; exact nI_le (by omega) (by omega)) c176⟩
          
          refine step.2 _ _ _ _ _ _ _ (qsub_cons 1 rfl (qsub_cons 2 rfl (qsub_cons 3 rfl (qsub_cons 4 rfl (qsub_cons 5 rfl (qsub_cons 6 rfl qsub_nil)))))) ?_
          exact at220 hX2 F2 hQ2 hF (fun z hz => hlo z (by omega))
          | succ k ihs =>
          intro s hX2 F2 hs hQ2 hF hlo hhi
          have e19 : xX 19 = nI S.2.1.2.2.2.1 := (hQ.R hR).1.2.2.1
          have epow : (1 : Int32) <<< (xX 19 &&& 31) = nI (2 ^ S.2.1.2.2.2.1) := by rw [e19]; exact b_shl (by omega)
          have ets := h_tn (n := s) (by omega)
          have e86 : F2 86 (nI s).toNatClampNeg = qb ((alf (wayS (nX S.2.1.1) S.2.1.2.2.2.1 (S.2.1.2.2.2.2.2.2.1).toNatClampNeg) cl ch d) s) := by rw [ets]; exact hhi s (Nat.le_refl _) (by omega)
          have eAL : (alf (wayS (nX S.2.1.1) S.2.1.2.2.2.1 (S.2.1.2.2.2.2.2.2.1).toNatClampNeg) cl (fun a => if a = d then q else ch a) (d + 1)) s = ((alf (wayS (nX S.2.1.1) S.2.1.2.2.2.1 (S.2.1.2.2.2.2.2.2.1).toNatClampNeg) cl ch d) s && (s.testBit d == decide (0 < q))) := by
            show (alf (wayS (nX S.2.1.1) S.2.1.2.2.2.1 (S.2.1.2.2.2.2.2.2.1).toNatClampNeg) cl (fun a => if a = d then q else ch a) d s && (s.testBit d == decide (0 < (if d = d then q else ch d)))) = _
            rw [if_pos rfl, alf_c (ch := (fun a => if a = d then q else ch a)) (ch' := ch) d (fun a ha => if_neg (by omega))]
          refine step.1 _ _ _ _ _ _ _ sgX12_findBest_168_ok ?_
          refine ⟨by decide, _, _, hQ2.1.1, rfl, ?_⟩
          refine ⟨fun c176 => absurd (show nI (2 ^ S.2.1.2.2.2.1) ≤ nI s from by rw [← epow]; exact c176) (h_nle (by omega) (by omega)), fun c176 => ?_⟩
          
          refine ⟨by decide, _, _, hQ2.1.1, rfl, ?_⟩
          refine ⟨by decide, _, _, hQ2.1.1, rfl, ?_⟩
          refine ⟨_, _, _, hQ2.1.c86, Or.inr rfl, vp_in_nI (by omega) (by decide), ?_⟩
          refine ⟨fun c192 => ?_, fun c192 => ?_⟩
          · have ha0 : (alf (wayS (nX S.2.1.1) S.2.1.2.2.2.1 (S.2.1.2.2.2.2.2.2.1).toNatClampNeg) cl ch d) s = false := by rw [e86] at c192; exact qb_0.mp c192
            refine step.1 _ _ _ _ _ _ _ sgX12_findBest_212_ok ?_
            refine step.1 _ _ _ _ _ _ _ sgX12_findBest_213_ok ?_
            refine ⟨_, _, _, hQ2.1.c86, Or.inr rfl, vp_in_nI (by omega) (by decide), ?_⟩
            have hQ3 := hQ2.u86 (upd (F2 86) (nI s).toNatClampNeg (vp_nar .boolean 0))
            have kk := ihs (s + 1) _ _ (by omega) hQ3 (fun j hj => (fup_n hj).trans (hF j hj)) (fun z hz => ?_) (fun z hz1 hz2 => ?_)
            · rw [← nI_1] at kk
              exact kk
            · rw [fup_s, ets]
              by_cases e : z = s
              · subst e
                refine upd_s.trans ?_
                rw [eAL]
                rw [ha0]
                rfl
              · exact (upd_n e).trans (hlo z (by omega))
            · rw [fup_s, ets]
              exact (upd_n (by omega)).trans (hhi z (by omega) hz2)
          · have ha1 : (alf (wayS (nX S.2.1.1) S.2.1.2.2.2.1 (S.2.1.2.2.2.2.2.2.1).toNatClampNeg) cl ch d) s = true := by rw [e86] at c192; exact qb_1.mp c192
            refine Or.inl ⟨rfl, _, 1, 0, 0, _, _, _, qi_12_411, ⟨rfl, rfl⟩, ⟨hQ2.1.1, rfl⟩, rfl, rfl, M_isOf hg (s := s) (d := d) (q := q) (by omega) (by omega) (by omega), fun y202 h202 hy202 => ?_⟩
            obtain ⟨rfl, hh⟩ := hy202
            rw [hh]
            clear hh
            refine ⟨fun c205 => ?_, fun c205 => ?_⟩
            · have hb0 := qb_0.mp c205
              refine step.1 _ _ _ _ _ _ _ sgX12_findBest_212_ok ?_
              refine step.1 _ _ _ _ _ _ _ sgX12_findBest_213_ok ?_
              refine ⟨_, _, _, hQ2.1.c86, Or.inr rfl, vp_in_nI (by omega) (by decide), ?_⟩
              have hQ3 := hQ2.u86 (upd (F2 86) (nI s).toNatClampNeg (vp_nar .boolean 0))
              have kk := ihs (s + 1) _ _ (by omega) hQ3 (fun j hj => (fup_n hj).trans (hF j hj)) (fun z hz => ?_) (fun z hz1 hz2 => ?_)
              · rw [← nI_1] at kk
                exact kk
              · rw [fup_s, ets]
                by_cases e : z = s
                · subst e
                  refine upd_s.trans ?_
                  rw [eAL]
                  rw [ha1, hb0]
                  rfl
                · exact (upd_n e).trans (hlo z (by omega))
              · rw [fup_s, ets]
                exact (upd_n (by omega)).trans (hhi z (by omega) hz2)
            · have hb1 := qb_1.mp c205
              refine step.1 _ _ _ _ _ _ _ sgX12_findBest_213_ok ?_
              refine ⟨_, _, _, hQ2.1.c86, Or.inr rfl, vp_in_nI (by omega) (by decide), ?_⟩
              have hQ3 := hQ2.u86 (upd (F2 86) (nI s).toNatClampNeg (vp_nar .boolean 1))
              have kk := ihs (s + 1) _ _ (by omega) hQ3 (fun j hj => (fup_n hj).trans (hF j hj)) (fun z hz => ?_) (fun z hz1 hz2 => ?_)
              · rw [← nI_1] at kk
                exact kk
              · rw [fup_s, ets]
                by_cases e : z = s
                · subst e
                  refine upd_s.trans ?_
                  rw [eAL]
                  rw [ha1, hb1]
                  rfl
                · exact (upd_n e).trans (hlo z (by omega))
              · rw [fup_s, ets]
                exact (upd_n (by omega)).trans (hhi z (by omega) hz2)
        refine step.1 _ _ _ _ _ _ _ sgX12_findBest_165_ok ?_
        exact loops (2 ^ S.2.1.2.2.2.1) 0 hX FX (by omega) hQ (fun _ _ => rfl) (fun z hz => by omega) (fun z _ hz => (hB.2.2 z hz).2.2.1)
      have loopq : ∀ (k q : Nat), k + q = 19 → (∀ z : Nat, z < q → ¬ ∃ s : Nat, s < 2 ^ S.2.1.2.2.2.1 ∧ gw (nX S.2.1.1) (nA (sval S.2.1.1 S.2.2.2.2.1.1.1 S.2.2.2.2.1.1.2.1 S.2.2.2.2.1.1.2.2 (nI S.2.2.2.1.2) S.2.1.2.2.2.2.2.2.2.1 (nI w0))) (nT (slen S.2.1.1 S.2.1.2.2.2.2.2.2.2.1)) S.2.1.2.2.2.1 (S.2.1.2.2.2.2.2.2.1).toNatClampNeg cl V0 d z (sumN (fun a => (nT (slen S.2.1.1 S.2.1.2.2.2.2.2.2.2.1)) a (ch a)) d) (sumN (fun a => (nA (sval S.2.1.1 S.2.2.2.2.1.1.1 S.2.2.2.2.1.1.2.1 S.2.2.2.2.1.1.2.2 (nI S.2.2.2.1.2) S.2.1.2.2.2.2.2.2.2.1 (nI w0))) a (ch a)) d) (alf (wayS (nX S.2.1.1) S.2.1.2.2.2.1 (S.2.1.2.2.2.2.2.2.1).toNatClampNeg) cl ch d) s) → run 147 [(6, .int (nI q)), (5, .int (nI d)), (4, .int (nI (msk (fun a => decide (0 < ch a)) d))), (2, .long (Int64.ofNat (sumN (fun a => (nA (sval S.2.1.1 S.2.2.2.2.1.1.1 S.2.2.2.2.1.1.2.1 S.2.2.2.2.1.1.2.2 (nI S.2.2.2.1.2) S.2.1.2.2.2.2.2.2.2.1 (nI w0))) a (ch a)) d))), (0, .ref 63), (1, .int (nI w0))] [] hX 0 0 := by
        intro k
        induction k with
        | zero =>
          intro q hk hno
          obtain ⟨c, g1, g2, g3⟩ := hP
          have hcd := g1.1 d (by omega)
          exact absurd ((gw_iff hopt (by omega) hcd hch (al := (alf (wayS (nX S.2.1.1) S.2.1.2.2.2.1 (S.2.1.2.2.2.2.2.2.1).toNatClampNeg) cl ch d)) (fun s _ => alf_iff d)).mpr ⟨c, g1, g2, g3, rfl⟩) (hno (c d) (by omega))
        | succ k ihq =>
          intro q hk hno
          refine step.1 _ _ _ _ _ _ _ sgX12_findBest_147_ok ?_
          refine Or.inl ⟨rfl, _, 2, 0, 0, _, _, _, qi_12_429, ⟨rfl, rfl⟩, ⟨hQ.1.1, rfl⟩, rfl, rfl, M_goesOn hg hQ.1 (hQ.R hR) hI hd5 hB (d := d) (q := q) (bt := (sumN (fun a => (nT (slen S.2.1.1 S.2.1.2.2.2.2.2.2.2.1)) a (ch a)) d)) (got := (sumN (fun a => (nA (sval S.2.1.1 S.2.2.2.2.1.1.1 S.2.2.2.2.1.1.2.1 S.2.2.2.2.1.1.2.2 (nI S.2.2.2.1.2) S.2.1.2.2.2.2.2.2.2.1 (nI w0))) a (ch a)) d)) (by omega) (by omega) h50 hbt h49 hV0 hgot, fun y153 h153 hy153 => ?_⟩
          obtain ⟨b, rfl, hgo, hh⟩ := hy153
          rw [hh]
          clear hh
          refine ⟨fun c156 => ?_, fun c156 => ?_⟩
          · have hb1 : b = true := qb_1.mp c156
            exact at165 q (by omega) (hgo.mp hb1) hno
          · have hb0 : b = false := qb_0.mp c156
            have kk := ihq (q + 1) (by omega) (fun z hz => by
              by_cases e : z = q
              · subst e
                intro hw
                rw [hgo.mpr hw] at hb0
                cases hb0
              · exact hno z (by omega))
            rw [← nI_1] at kk
            exact kk
      have e19 : xX 19 = nI S.2.1.2.2.2.1 := (hQ.R hR).1.2.2.1
      refine step.1 _ _ _ _ _ _ _ sgX12_findBest_135_ok ?_
      refine ⟨by decide, _, _, hQ.1.1, rfl, ?_⟩
      refine ⟨fun c141 => absurd (show nI S.2.1.2.2.2.1 ≤ nI d from by rw [← e19]; exact c141) (h_nle (by omega) (by omega)), fun c141 => ?_⟩
      
      exact loopq 19 0 rfl (fun z hz => by omega)
  have at122 : ∀ (hX : qH) (xX : Nat → Int32) (yX : Nat → Int64) (FX : Nat → Nat → Int32) (GX : Nat → Nat → Int64), QZ h hX x F GX xX yX FX → ovN S.2.1.2.2.2.1 (nA (sval S.2.1.1 S.2.2.2.2.1.1.1 S.2.2.2.2.1.1.2.1 S.2.2.2.2.1.1.2.2 (nI S.2.2.2.1.2) S.2.1.2.2.2.2.2.2.2.1 (nI w0))) (nT (slen S.2.1.1 S.2.1.2.2.2.2.2.2.2.1)) (GX 82) (FX 83) → (∀ z : Nat, z < 2 ^ S.2.1.2.2.2.1 → (FX 85 z = nI cl - nI ((wayS (nX S.2.1.1) S.2.1.2.2.2.1 (S.2.1.2.2.2.2.2.2.1).toNatClampNeg) z) ∧ FX 86 z = qb (decide ((wayS (nX S.2.1.1) S.2.1.2.2.2.1 (S.2.1.2.2.2.2.2.2.1).toNatClampNeg) z ≤ cl)) ∧ ((wayS (nX S.2.1.1) S.2.1.2.2.2.1 (S.2.1.2.2.2.2.2.2.1).toNatClampNeg) z ≤ cl → ∀ d t : Nat, d ≤ S.2.1.2.2.2.1 → t < 481 → GX 81 ((z * 6 + d) * 481 + t) = enc (mo (nA (sval S.2.1.1 S.2.2.2.2.1.1.1 S.2.2.2.2.1.1.2.1 S.2.2.2.2.1.1.2.2 (nI S.2.2.2.1.2) S.2.1.2.2.2.2.2.2.2.1 (nI w0))) (nT (slen S.2.1.1 S.2.1.2.2.2.2.2.2.2.1)) z S.2.1.2.2.2.1 (S.2.1.2.2.2.1 - d) t)))) → yX 49 = enc (bvf (nX S.2.1.1) (nA (sval S.2.1.1 S.2.2.2.2.1.1.1 S.2.2.2.2.1.1.2.1 S.2.2.2.2.1.1.2.2 (nI S.2.2.2.1.2) S.2.1.2.2.2.2.2.2.2.1 (nI w0))) (nT (slen S.2.1.1 S.2.1.2.2.2.2.2.2.2.1)) S.2.1.2.2.2.1 (S.2.1.2.2.2.2.2.2.1).toNatClampNeg cl (2 ^ S.2.1.2.2.2.1)) → run 122 [(2, .int (nI (2 ^ S.2.1.2.2.2.1))), (0, .ref 63), (1, .int (nI w0))] [] hX 0 0 := by
    intro hX xX yX FX GX hQ hO hz h49
    rw [hV] at h49
    refine step.1 _ _ _ _ _ _ _ sgX12_findBest_122_ok ?_
    refine ⟨_, hQ.1.1, Nat.le_of_ble_eq_true rfl, rfl, ?_⟩
    have hQe := hQ.e50 (v := 0) (sI_50 (rfl : _ = M63l xX yX))
    obtain ⟨c0, g1, g2⟩ := hopt.1
    exact loop3 S.2.1.2.2.2.1 0 (fun _ => 0) _ (upd xX 50 0) yX FX GX (by omega) hQe ⟨hO, hcl, fun s hs => ⟨hWb s, (hz s hs).1, (hz s hs).2.1, fun q => of_decide_eq_true q, (hz s hs).2.2⟩⟩ (fun a ha => by omega) rfl h49 (fun a ha => by omega) ⟨c0, g1, g2, fun a ha => by omega⟩ (fun a c ha => by omega)
  have loop14 : ∀ (m s : Nat) (hX : qH) (xX : Nat → Int32) (yX : Nat → Int64) (FX : Nat → Nat → Int32) (GX : Nat → Nat → Int64), s + m = 2 ^ S.2.1.2.2.2.1 → QZ h hX x F GX xX yX FX → ovN S.2.1.2.2.2.1 (nA (sval S.2.1.1 S.2.2.2.2.1.1.1 S.2.2.2.2.1.1.2.1 S.2.2.2.2.1.1.2.2 (nI S.2.2.2.1.2) S.2.1.2.2.2.2.2.2.2.1 (nI w0))) (nT (slen S.2.1.1 S.2.1.2.2.2.2.2.2.2.1)) (GX 82) (FX 83) → (∀ z : Nat, z < s → (FX 85 z = nI cl - nI ((wayS (nX S.2.1.1) S.2.1.2.2.2.1 (S.2.1.2.2.2.2.2.2.1).toNatClampNeg) z) ∧ FX 86 z = qb (decide ((wayS (nX S.2.1.1) S.2.1.2.2.2.1 (S.2.1.2.2.2.2.2.2.1).toNatClampNeg) z ≤ cl)) ∧ ((wayS (nX S.2.1.1) S.2.1.2.2.2.1 (S.2.1.2.2.2.2.2.2.1).toNatClampNeg) z ≤ cl → ∀ d t : Nat, d ≤ S.2.1.2.2.2.1 → t < 481 → GX 81 ((z * 6 + d) * 481 + t) = enc (mo (nA (sval S.2.1.1 S.2.2.2.2.1.1.1 S.2.2.2.2.1.1.2.1 S.2.2.2.2.1.1.2.2 (nI S.2.2.2.1.2) S.2.1.2.2.2.2.2.2.2.1 (nI w0))) (nT (slen S.2.1.1 S.2.1.2.2.2.2.2.2.2.1)) z S.2.1.2.2.2.1 (S.2.1.2.2.2.1 - d) t)))) → yX 49 = enc (bvf (nX S.2.1.1) (nA (sval S.2.1.1 S.2.2.2.2.1.1.1 S.2.2.2.2.1.1.2.1 S.2.2.2.2.1.1.2.2 (nI S.2.2.2.1.2) S.2.1.2.2.2.2.2.2.2.1 (nI w0))) (nT (slen S.2.1.1 S.2.1.2.2.2.2.2.2.2.1)) S.2.1.2.2.2.1 (S.2.1.2.2.2.2.2.2.1).toNatClampNeg cl s) → run 14 [(2, .int (nI s)), (0, .ref 63), (1, .int (nI w0))] [] hX 0 0 := by
    intro m
    induction m with
    | zero =>
      intro s hX xX yX FX GX hm hQ hO hz h49
      have e19 : xX 19 = nI S.2.1.2.2.2.1 := (hQ.R hR).1.2.2.1
      have epow : (1 : Int32) <<< (xX 19 &&& 31) = nI (2 ^ S.2.1.2.2.2.1) := by rw [e19]; exact b_shl (by omega)
      refine step.1 _ _ _ _ _ _ _ sgX12_findBest_14_ok ?_
      refine ⟨by decide, _, _, hQ.1.1, rfl, ?_⟩
      refine ⟨fun c21 => ?_, fun c21 => absurd (show (1 : Int32) <<< (xX 19 &&& 31) ≤ nI s from by rw [epow]; exact nI_le (by omega) (by omega)) c21⟩
      
      obtain rfl : s = 2 ^ S.2.1.2.2.2.1 := by omega
      exact at122 hX xX yX FX GX hQ hO hz h49
    | succ m ih =>
      intro s hX xX yX FX GX hm hQ hO hz h49
      have at72 : ∀ (s : Nat) (hX : qH) (xX : Nat → Int32) (yX : Nat → Int64) (FX : Nat → Nat → Int32) (GX : Nat → Nat → Int64), s + m + 1 = 2 ^ S.2.1.2.2.2.1 → QZ h hX x F GX xX yX FX → ovN S.2.1.2.2.2.1 (nA (sval S.2.1.1 S.2.2.2.2.1.1.1 S.2.2.2.2.1.1.2.1 S.2.2.2.2.1.1.2.2 (nI S.2.2.2.1.2) S.2.1.2.2.2.2.2.2.2.1 (nI w0))) (nT (slen S.2.1.1 S.2.1.2.2.2.2.2.2.2.1)) (GX 82) (FX 83) → (∀ z : Nat, z < s → (FX 85 z = nI cl - nI ((wayS (nX S.2.1.1) S.2.1.2.2.2.1 (S.2.1.2.2.2.2.2.2.1).toNatClampNeg) z) ∧ FX 86 z = qb (decide ((wayS (nX S.2.1.1) S.2.1.2.2.2.1 (S.2.1.2.2.2.2.2.2.1).toNatClampNeg) z ≤ cl)) ∧ ((wayS (nX S.2.1.1) S.2.1.2.2.2.1 (S.2.1.2.2.2.2.2.2.1).toNatClampNeg) z ≤ cl → ∀ d t : Nat, d ≤ S.2.1.2.2.2.1 → t < 481 → GX 81 ((z * 6 + d) * 481 + t) = enc (mo (nA (sval S.2.1.1 S.2.2.2.2.1.1.1 S.2.2.2.2.1.1.2.1 S.2.2.2.2.1.1.2.2 (nI S.2.2.2.1.2) S.2.1.2.2.2.2.2.2.2.1 (nI w0))) (nT (slen S.2.1.1 S.2.1.2.2.2.2.2.2.2.1)) z S.2.1.2.2.2.1 (S.2.1.2.2.2.1 - d) t)))) → yX 49 = enc (bvf (nX S.2.1.1) (nA (sval S.2.1.1 S.2.2.2.2.1.1.1 S.2.2.2.2.1.1.2.1 S.2.2.2.2.1.1.2.2 (nI S.2.2.2.1.2) S.2.1.2.2.2.2.2.2.2.1 (nI w0))) (nT (slen S.2.1.1 S.2.1.2.2.2.2.2.2.2.1)) S.2.1.2.2.2.1 (S.2.1.2.2.2.2.2.2.1).toNatClampNeg cl s) → (wayS (nX S.2.1.1) S.2.1.2.2.2.1 (S.2.1.2.2.2.2.2.2.1).toNatClampNeg) s ≤ cl → FX 85 s = nI cl - nI ((wayS (nX S.2.1.1) S.2.1.2.2.2.1 (S.2.1.2.2.2.2.2.2.1).toNatClampNeg) s) → FX 86 s = qb (decide ((wayS (nX S.2.1.1) S.2.1.2.2.2.1 (S.2.1.2.2.2.2.2.2.1).toNatClampNeg) s ≤ cl)) → run 72 [(2, .int (nI s)), (0, .ref 63), (1, .int (nI w0))] [] hX 0 0 := by
        clear hQ hO hz h49
        intro s hX xX yX FX GX hm2 hQ hO hz h49 halive h85 h86
        refine step.1 _ _ _ _ _ _ _ sgX12_findBest_72_ok ?_
        refine Or.inl ⟨rfl, _, 3, 0, 0, _, _, _, qi_12_423, ⟨rfl, rfl⟩, ⟨hQ.1.1, rfl⟩, rfl, rfl, M_findMost hg hQ.1 (hQ.R hR) hI hd5 hO (s := s) (by omega), fun y74 h74 hy74 => ?_⟩
        obtain ⟨rfl, ga, hM2, hk2, hm1, hm2⟩ := hy74
        have hQc : QZ h h74 x F (gup GX 81 ga) xX yX FX := ⟨hM2, hQ.2.1, hQ.2.2.tr hk2⟩
        have ets := h_tn (n := s) (by omega)
        have eC : FX 85 (nI s).toNatClampNeg = nI (cl - (wayS (nX S.2.1.1) S.2.1.2.2.2.1 (S.2.1.2.2.2.2.2.2.1).toNatClampNeg) s) := by rw [ets, h85, nJ_sub halive]
        have e93 : (gup GX 81 ga 81 (nI ((s * 6 + 0) * 481 + (cl - (wayS (nX S.2.1.1) S.2.1.2.2.2.1 (S.2.1.2.2.2.2.2.2.1).toNatClampNeg) s))).toNatClampNeg) = enc (mo (nA (sval S.2.1.1 S.2.2.2.2.1.1.1 S.2.2.2.2.1.1.2.1 S.2.2.2.2.1.1.2.2 (nI S.2.2.2.1.2) S.2.1.2.2.2.2.2.2.2.1 (nI w0))) (nT (slen S.2.1.1 S.2.1.2.2.2.2.2.2.2.1)) s S.2.1.2.2.2.1 S.2.1.2.2.2.1 (cl - (wayS (nX S.2.1.1) S.2.1.2.2.2.1 (S.2.1.2.2.2.2.2.2.1).toNatClampNeg) s)) := by
          rw [gup_s, h_tn (by omega)]
          exact hm1 0 (cl - (wayS (nX S.2.1.1) S.2.1.2.2.2.1 (S.2.1.2.2.2.2.2.2.1).toNatClampNeg) s) (Nat.zero_le _) (by omega)
        have hmo : ∀ v : Nat, (mo (nA (sval S.2.1.1 S.2.2.2.2.1.1.1 S.2.2.2.2.1.1.2.1 S.2.2.2.2.1.1.2.2 (nI S.2.2.2.1.2) S.2.1.2.2.2.2.2.2.2.1 (nI w0))) (nT (slen S.2.1.1 S.2.1.2.2.2.2.2.2.2.1)) s S.2.1.2.2.2.1 S.2.1.2.2.2.1 (cl - (wayS (nX S.2.1.1) S.2.1.2.2.2.1 (S.2.1.2.2.2.2.2.2.1).toNatClampNeg) s)) = some v → v < 2 ^ 50 := fun v e => by
          have h1 := mo_b (C := 2 ^ 42) (fun a k ha hk => (hO a k ha hk).1.2) _ _ v (Nat.le_refl _) e
          have h2 : S.2.1.2.2.2.1 * 2 ^ 42 ≤ 5 * 2 ^ 42 := Nat.mul_le_mul_right _ hd5
          omega
        have hbv : ∀ v : Nat, (bvf (nX S.2.1.1) (nA (sval S.2.1.1 S.2.2.2.2.1.1.1 S.2.2.2.2.1.1.2.1 S.2.2.2.2.1.1.2.2 (nI S.2.2.2.1.2) S.2.1.2.2.2.2.2.2.2.1 (nI w0))) (nT (slen S.2.1.1 S.2.1.2.2.2.2.2.2.2.1)) S.2.1.2.2.2.1 (S.2.1.2.2.2.2.2.2.1).toNatClampNeg cl s) = some v → v < 2 ^ 50 := fun v e => by
          obtain ⟨z, g1, g2, g3⟩ := bvf_ex _ v e
          have h1 := mo_b (C := 2 ^ 42) (fun a k ha hk => (hO a k ha hk).1.2) _ _ v (Nat.le_refl _) g3
          have h2 : S.2.1.2.2.2.1 * 2 ^ 42 ≤ 5 * 2 ^ 42 := Nat.mul_le_mul_right _ hd5
          omega
        have e_bv : (bvf (nX S.2.1.1) (nA (sval S.2.1.1 S.2.2.2.2.1.1.1 S.2.2.2.2.1.1.2.1 S.2.2.2.2.1.1.2.2 (nI S.2.2.2.1.2) S.2.1.2.2.2.2.2.2.2.1 (nI w0))) (nT (slen S.2.1.1 S.2.1.2.2.2.2.2.2.2.1)) S.2.1.2.2.2.1 (S.2.1.2.2.2.2.2.2.1).toNatClampNeg cl (s + 1)) = omx (bvf (nX S.2.1.1) (nA (sval S.2.1.1 S.2.2.2.2.1.1.1 S.2.2.2.2.1.1.2.1 S.2.2.2.2.1.1.2.2 (nI S.2.2.2.1.2) S.2.1.2.2.2.2.2.2.2.1 (nI w0))) (nT (slen S.2.1.1 S.2.1.2.2.2.2.2.2.2.1)) S.2.1.2.2.2.1 (S.2.1.2.2.2.2.2.2.1).toNatClampNeg cl s) (mo (nA (sval S.2.1.1 S.2.2.2.2.1.1.1 S.2.2.2.2.1.1.2.1 S.2.2.2.2.1.1.2.2 (nI S.2.2.2.1.2) S.2.1.2.2.2.2.2.2.2.1 (nI w0))) (nT (slen S.2.1.1 S.2.1.2.2.2.2.2.2.2.1)) s S.2.1.2.2.2.1 S.2.1.2.2.2.1 (cl - (wayS (nX S.2.1.1) S.2.1.2.2.2.1 (S.2.1.2.2.2.2.2.2.1).toNatClampNeg) s)) := if_pos halive
        refine ⟨by decide, _, _, hQc.1.1, rfl, ?_⟩
        refine ⟨by decide, _, _, hQc.1.1, rfl, ?_⟩
        refine ⟨_, _, hQc.1.c85, vp_in_nI (by omega) (by decide), ?_⟩
        refine Or.inl ⟨rfl, _, 1, 0, 0, _, _, _, qi_12_406, ⟨rfl, rfl⟩, ⟨hQc.1.1, rfl⟩, rfl, rfl, (by rw [eC]; exact M_index hg s 0 (cl - (wayS (nX S.2.1.1) S.2.1.2.2.2.1 (S.2.1.2.2.2.2.2.2.1).toNatClampNeg) s)), fun y90 h90 hy90 => ?_⟩
        obtain ⟨rfl, hh⟩ := hy90
        rw [hh]
        clear hh
        refine ⟨_, _, hQc.1.c81, vp_in_nI (by omega) (by decide), ?_⟩
        refine ⟨by decide, _, _, hQc.1.1, rfl, ?_⟩
        refine ⟨fun c102 => ?_, fun c102 => ?_⟩
        · refine step.1 _ _ _ _ _ _ _ sgX12_findBest_109_ok ?_
          refine ⟨by decide, _, _, hQc.1.1, rfl, ?_⟩
          refine step.1 _ _ _ _ _ _ _ sgX12_findBest_113_ok ?_
          refine ⟨_, hQc.1.1, Nat.le_of_ble_eq_true rfl, rfl, ?_⟩
          have hQd := hQc.e49 (v := yX 49) (sL_49 (rfl : _ = M63l xX yX))
          refine step.1 _ _ _ _ _ _ _ sgX12_findBest_116_ok ?_
          refine step.2 _ _ _ _ _ _ _ (qsub_cons 0 rfl (qsub_cons 2 rfl (qsub_cons 3 rfl qsub_nil))) ?_
          have kk := ih (s + 1) _ xX _ FX _ (by omega) hQd (by rw [gup_n (by decide)]; exact hO) (fun z hz2 => ?_) (by rw [show (updL yX 49 (yX 49)) 49 = (yX 49) from if_pos rfl, e_bv]; refine Eq.symm ?_; rw [h49]; exact enc_om1 hbv hmo (by rw [← e93, ← h49]; exact (lgc_le _ _).mp c102))
          · rw [← nI_1] at kk
            exact kk
          · have hz3 : z < s + 1 := hz2
            by_cases e : z = s
            · subst e
              refine ⟨h85, h86, fun _ d t h1 h2 => ?_⟩
              rw [gup_s]
              exact hm1 d t h1 h2
            · obtain ⟨q1, q2, q3⟩ := hz z (by omega)
              refine ⟨q1, q2, fun q d t h1 h2 => ?_⟩
              rw [gup_s, hm2 _ (by omega)]
              exact q3 q d t h1 h2
        · refine step.1 _ _ _ _ _ _ _ sgX12_findBest_113_ok ?_
          refine ⟨_, hQc.1.1, Nat.le_of_ble_eq_true rfl, rfl, ?_⟩
          have hQd := hQc.e49 (v := (gup GX 81 ga 81 (nI ((s * 6 + 0) * 481 + (cl - (wayS (nX S.2.1.1) S.2.1.2.2.2.1 (S.2.1.2.2.2.2.2.2.1).toNatClampNeg) s))).toNatClampNeg)) (sL_49 (rfl : _ = M63l xX yX))
          refine step.1 _ _ _ _ _ _ _ sgX12_findBest_116_ok ?_
          refine step.2 _ _ _ _ _ _ _ (qsub_cons 0 rfl (qsub_cons 2 rfl (qsub_cons 3 rfl qsub_nil))) ?_
          have kk := ih (s + 1) _ xX _ FX _ (by omega) hQd (by rw [gup_n (by decide)]; exact hO) (fun z hz2 => ?_) (by rw [show (updL yX 49 (gup GX 81 ga 81 (nI ((s * 6 + 0) * 481 + (cl - (wayS (nX S.2.1.1) S.2.1.2.2.2.1 (S.2.1.2.2.2.2.2.2.1).toNatClampNeg) s))).toNatClampNeg)) 49 = (gup GX 81 ga 81 (nI ((s * 6 + 0) * 481 + (cl - (wayS (nX S.2.1.1) S.2.1.2.2.2.1 (S.2.1.2.2.2.2.2.2.1).toNatClampNeg) s))).toNatClampNeg) from if_pos rfl, e_bv]; refine Eq.symm ?_; rw [e93]; exact enc_om2 hbv hmo (fun q => c102 ((lgc_le _ _).mpr (by rw [e93, h49]; exact q))))
          · rw [← nI_1] at kk
            exact kk
          · have hz3 : z < s + 1 := hz2
            by_cases e : z = s
            · subst e
              refine ⟨h85, h86, fun _ d t h1 h2 => ?_⟩
              rw [gup_s]
              exact hm1 d t h1 h2
            · obtain ⟨q1, q2, q3⟩ := hz z (by omega)
              refine ⟨q1, q2, fun q d t h1 h2 => ?_⟩
              rw [gup_s, hm2 _ (by omega)]
              exact q3 q d t h1 h2
      have e19 : xX 19 = nI S.2.1.2.2.2.1 := (hQ.R hR).1.2.2.1
      have epow : (1 : Int32) <<< (xX 19 &&& 31) = nI (2 ^ S.2.1.2.2.2.1) := by rw [e19]; exact b_shl (by omega)
      refine step.1 _ _ _ _ _ _ _ sgX12_findBest_14_ok ?_
      refine ⟨by decide, _, _, hQ.1.1, rfl, ?_⟩
      refine ⟨fun c21 => absurd (show nI (2 ^ S.2.1.2.2.2.1) ≤ nI s from by rw [← epow]; exact c21) (h_nle (by omega) (by omega)), fun c21 => ?_⟩
      
      refine ⟨by decide, _, _, hQ.1.1, rfl, ?_⟩
      refine ⟨by decide, _, _, hQ.1.1, rfl, ?_⟩
      refine Or.inl ⟨rfl, _, 2, 0, 0, _, _, _, qi_12_420, ⟨rfl, rfl⟩, ⟨hQ.1.1, rfl⟩, rfl, rfl, M_wayOver hg hQ.1 (hQ.R hR) hI (s := s) (by omega), fun y35 h35 hy35 => ?_⟩
      obtain ⟨rfl, hh⟩ := hy35
      rw [hh]
      clear hh
      refine ⟨_, _, hQ.1.c85, vp_in_nI (by omega) (by decide), ?_⟩
      have hQa := hQ.u85 (upd (FX 85) (nI s).toNatClampNeg (xX 23 - nI ((wayS (nX S.2.1.1) S.2.1.2.2.2.1 (S.2.1.2.2.2.2.2.2.1).toNatClampNeg) s)))
      have ets := h_tn (n := s) (by omega)
      have e23 : xX 23 = nI cl := (hQ.R hR).1.2.2.2.2.2.2.1.trans ecl
      have e85 : fup FX 85 (upd (FX 85) (nI s).toNatClampNeg (xX 23 - nI ((wayS (nX S.2.1.1) S.2.1.2.2.2.1 (S.2.1.2.2.2.2.2.2.1).toNatClampNeg) s))) 85 (nI s).toNatClampNeg = nI cl - nI ((wayS (nX S.2.1.1) S.2.1.2.2.2.1 (S.2.1.2.2.2.2.2.2.1).toNatClampNeg) s) := by rw [fup_s, upd_s, e23]
      refine ⟨by decide, _, _, hQa.1.1, rfl, ?_⟩
      refine ⟨by decide, _, _, hQa.1.1, rfl, ?_⟩
      refine ⟨_, _, hQa.1.c85, vp_in_nI (by omega) (by decide), ?_⟩
      refine ⟨fun c51 => ?_, fun c51 => ?_⟩
      · have hdead : ¬ (wayS (nX S.2.1.1) S.2.1.2.2.2.1 (S.2.1.2.2.2.2.2.2.1).toNatClampNeg) s ≤ cl := fun q => by
          rw [e85, nJ_sub q] at c51
          exact nI_pos (by omega) c51
        refine step.1 _ _ _ _ _ _ _ sgX12_findBest_58_ok ?_
        refine step.1 _ _ _ _ _ _ _ sgX12_findBest_59_ok ?_
        refine ⟨_, _, _, hQa.1.c86, Or.inr rfl, vp_in_nI (by omega) (by decide), ?_⟩
        have hQb := hQa.u86 (upd (fup FX 85 (upd (FX 85) (nI s).toNatClampNeg (xX 23 - nI ((wayS (nX S.2.1.1) S.2.1.2.2.2.1 (S.2.1.2.2.2.2.2.2.1).toNatClampNeg) s))) 86) (nI s).toNatClampNeg (vp_nar .boolean 0))
        refine ⟨by decide, _, _, hQb.1.1, rfl, ?_⟩
        refine ⟨_, _, _, hQb.1.c86, Or.inr rfl, vp_in_nI (by omega) (by decide), ?_⟩
        refine ⟨fun c66 => ?_, fun c66 => ?_⟩
        · exact absurd (show fup _ 86 (upd _ _ (vp_nar .boolean 0)) 86 (nI s).toNatClampNeg = 0 from by rw [fup_s]; exact upd_s) c66
        refine step.1 _ _ _ _ _ _ _ sgX12_findBest_116_ok ?_
        have kk := ih (s + 1) _ xX yX _ GX (by omega) hQb (by rw [fup_n (by decide), fup_n (by decide)]; exact hO) (fun z hz2 => ?_) (by rw [h49]; exact congrArg enc (if_neg hdead).symm)
        · rw [← nI_1] at kk
          exact kk
        · rw [fup_n (show 85 ≠ 86 by decide), fup_s, fup_s, ets]
          by_cases e : z = s
          · subst e
            refine ⟨(upd_s).trans (by rw [e23]), upd_s.trans ?_, fun q => absurd q hdead⟩
            rw [decide_eq_false hdead]
            rfl
          · rw [upd_n e, upd_n e]
            exact hz z (by omega)
      · have halive : (wayS (nX S.2.1.1) S.2.1.2.2.2.1 (S.2.1.2.2.2.2.2.2.1).toNatClampNeg) s ≤ cl := Nat.le_of_not_lt fun q => c51 (by
          rw [e85]
          exact nJ_subneg q (by have := hWb s; omega))
        refine step.1 _ _ _ _ _ _ _ sgX12_findBest_59_ok ?_
        refine ⟨_, _, _, hQa.1.c86, Or.inr rfl, vp_in_nI (by omega) (by decide), ?_⟩
        have hQb := hQa.u86 (upd (fup FX 85 (upd (FX 85) (nI s).toNatClampNeg (xX 23 - nI ((wayS (nX S.2.1.1) S.2.1.2.2.2.1 (S.2.1.2.2.2.2.2.2.1).toNatClampNeg) s))) 86) (nI s).toNatClampNeg (vp_nar .boolean 1))
        refine ⟨by decide, _, _, hQb.1.1, rfl, ?_⟩
        refine ⟨_, _, _, hQb.1.c86, Or.inr rfl, vp_in_nI (by omega) (by decide), ?_⟩
        refine ⟨fun c66 => ?_, fun c66 => ?_⟩
        · exact at72 s _ xX yX _ GX (by omega) hQb (by rw [fup_n (by decide), fup_n (by decide)]; exact hO) (fun z hz2 => by
            rw [fup_n (show 85 ≠ 86 by decide), fup_s, fup_s, ets, upd_n (by omega), upd_n (by omega)]
            exact hz z (by omega)) h49 halive (by rw [fup_n (show 85 ≠ 86 by decide), fup_s, ets]; exact upd_s.trans (by rw [e23])) (by rw [fup_s, ets]; exact upd_s.trans (by rw [decide_eq_true halive]; rfl))
        · exact absurd (show (1 : Int32) = 0 from by have q := c66; rw [fup_s] at q; exact upd_s.symm.trans q) (by decide)
  refine step.1 _ _ _ _ _ _ _ sgX12_findBest_0_ok ?_
  refine Or.inl ⟨rfl, _, 5, 0, 0, _, _, _, qi_12_414, ⟨rfl, rfl⟩, ⟨hM.1, rfl⟩, rfl, rfl, M_findValues hg hM hR hI hl hd5 (nI w0), fun y2 h2 hy2 => ?_⟩
  obtain ⟨rfl, x2, y2, F2, G2, hQ2, hv2⟩ := hy2
  have hO2 : ovN S.2.1.2.2.2.1 (nA (sval S.2.1.1 S.2.2.2.2.1.1.1 S.2.2.2.2.1.1.2.1 S.2.2.2.2.1.1.2.2 (nI S.2.2.2.1.2) S.2.1.2.2.2.2.2.2.2.1 (nI w0))) (nT (slen S.2.1.1 S.2.1.2.2.2.2.2.2.2.1)) (G2 82) (F2 83) := fun a b ha hb => ⟨⟨(hv2 a b ha hb).1.trans (oval_n hI S.2.2.2.2.1.1.1 S.2.2.2.2.1.1.2.1 S.2.2.2.2.1.1.2.2 (nI S.2.2.2.1.2) hw9 ha hb).1, hA42 a b ha hb⟩, (hv2 a b ha hb).2.trans (olen_n hI ha hb).1, hT200 a b ha hb⟩
  refine ⟨_, hQ2.1.1, Nat.le_of_ble_eq_true rfl, rfl, ?_⟩
  have hQe := hQ2.e49 (v := -1) (sL_49 (rfl : _ = M63l x2 y2))
  exact loop14 (2 ^ S.2.1.2.2.2.1) 0 _ x2 (updL y2 49 (-1)) F2 G2 (by omega) hQe hO2 (fun z hz => by omega) rfl
end Q13O
