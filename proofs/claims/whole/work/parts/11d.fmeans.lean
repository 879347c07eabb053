section Q11D
/-- what a door's values are -/
theorem ROK.d {R : RT} (h : ROK R) {a f : Nat} (ha : a < R.2.2.2.1) (hf : f < 10) : ∃ v : Nat, v ≤ fmost f ∧ R.1 (a * 10 + f) = nI v := h.2.1 a f ha hf
/-- the model's run comes to what the program's comes to -/
theorem vm_eq {G : Int32 → Int32} {R : RT} (hR : ROK R) {a r n : Nat} (ha : a < R.2.2.2.1) (hr : r ≤ 2) (hn : n ≤ 5) {t : mS} (ht : t = mrn G R.1 R.2.2.2.2.2.2.2.1 a r n 0 (if r = 0 then n else n + 1) (16777216 * (R.1 (a * 10 + 3)).toInt64, 0, 0, 0, 0, 0)) : t.2.2.2.1 = (vmean G R.1 R.2.2.2.2.2.2.2.1 a r n).2.2.1 ∧ t.2.2.2.2.1 = (vmean G R.1 R.2.2.2.2.2.2.2.1 a r n).2.2.2.1 ∧ t.2.2.2.2.2 + ((268435456 - t.2.2.2.1) * t.2.1.toInt64 + 268435456 * (2 * R.1 (a * 10 + 8)).toInt64) = (vmean G R.1 R.2.2.2.2.2.2.2.1 a r n).2.2.2.2 + (vmean G R.1 R.2.2.2.2.2.2.2.1 a r n).2.2.1 * (R.1 (a * 10 + 9)).toInt64 ∧ t.2.1 = nI n * R.2.2.2.2.2.2.2.1 + (if nI r = 0 then 0 else 1) := by
  obtain ⟨v3, hv3, e3⟩ := hR.d ha (f := 3) (by decide)
  obtain ⟨v8, hv8, e8⟩ := hR.d ha (f := 8) (by decide)
  have h4 := hR.d ha (f := 4) (by decide)
  have h5 := hR.d ha (f := 5) (by decide)
  have h9 := hR.d ha (f := 9) (by decide)
  have hve : ∃ v : Nat, v ≤ 9 ∧ R.2.2.2.2.2.2.2.1 = nI v := by
    obtain ⟨v, h1, h2, h3⟩ := hR.2.2.2.2.1
    exact ⟨v, h2, h3⟩
  have hv3 : v3 ≤ 16 := hv3
  have hv8 : v8 ≤ 20 := hv8
  have h0 : mvI R.1 a 0 (16777216 * (R.1 (a * 10 + 3)).toInt64, 0, 0, 0, 536870912 * (R.1 (a * 10 + 8)).toInt64) (16777216 * (R.1 (a * 10 + 3)).toInt64, 0, 0, 0, 0, 0) := by
    refine ⟨⟨v3, by omega, ?_⟩, ⟨0, by omega, rfl⟩, rfl, rfl, rfl, rfl, ?_⟩
    · show 16777216 * (R.1 (a * 10 + 3)).toInt64 = Int64.ofNat (16777216 * v3)
      rw [e3, l_n (by omega), Int64.ofNat_mul]; rfl
    · show 536870912 * (R.1 (a * 10 + 8)).toInt64 + 0 * (R.1 (a * 10 + 9)).toInt64 = 0 + (268435456 - 0) * (0 : Int32).toInt64 + 268435456 * (2 * R.1 (a * 10 + 8)).toInt64
      rw [e8, show (2 * nI v8 : Int32) = nI (2 * v8) from pk_mul 2 v8, l_n (by omega), l_n (by omega), Int64.ofNat_mul, show (0 : Int32).toInt64 = 0 from rfl, show Int64.ofNat 2 = 2 from rfl]
      generalize Int64.ofNat v8 = z
      generalize (R.1 (a * 10 + 9)).toInt64 = z2
      grind
  have hst : (if r = 0 then n else n + 1) ≤ 6 := by split <;> omega
  obtain ⟨-, -, -, -, f1, f2, f3⟩ := mvI_run (G := G) (r := r) (n := n) hve h4 h5 h9 (if r = 0 then n else n + 1) 0 _ _ (by omega) h0
  have ftm := mrn_tm (G := G) (D := R.1) (ve := R.2.2.2.2.2.2.2.1) (x := a) (t := (16777216 * (R.1 (a * 10 + 3)).toInt64, 0, 0, 0, 0, 0)) hr hn rfl
  rw [← ht] at f1 f2 f3 ftm
  rw [← Int64.add_assoc]
  exact ⟨f1.symm, f2.symm, by rw [← f1]; exact f3.symm, ftm⟩
/-- the end of findMeans: which fields are new -/
def QM (h h' : qH) (x : Nat → Int32) (y : Nat → Int64) (F : Nat → Nat → Int32) (G : Nat → Nat → Int64) (E : Int64 → Int64 → Int64 → Int64 → Int32 → Prop) : Prop := ∃ (x' : Nat → Int32) (y' : Nat → Int64) (F' : Nat → Nat → Int32), MX h' x' y' F' G ∧ (∀ j : Nat, j ∉ [75, 76] → F' j = F j) ∧ (∀ k : Nat, k ≠ 42 → x' k = x k) ∧ (∀ k : Nat, k ∉ [38, 39, 40, 41] → y' k = y k) ∧ kp h h' ∧ E (y' 38) (y' 39) (y' 40) (y' 41) (x' 42)
theorem updL_n {f : Nat → Int64} {k j : Nat} {v : Int64} (h : j ≠ k) : updL f k v j = f j := if_neg h
theorem QF.tr' {h h1 h2 : qH} {x : Nat → Int32} {y : Nat → Int64} {F F1 : Nat → Nat → Int32} {G : Nat → Nat → Int64} (a : ∀ j : Nat, j ∉ [75, 76] → F1 j = F j) (b : kp h h1) (c : QF h1 h2 x y F1 G) : QF h h2 x y F G := by
  obtain ⟨F2, q1, q2, q3⟩ := c
  exact ⟨F2, q1, fun j hj => (q2 j hj).trans (a j hj), b.tr q3⟩
theorem Rel.qf {S : CS} {x : Nat → Int32} {F F' : Nat → Nat → Int32} (hR : Rel S x F) (a : ∀ j : Nat, j ∉ [75, 76] → F' j = F j) : Rel S x F' := hR.mq (QF.mq a)
set_option maxHeartbeats 4000000 in
theorem M_findMeans {g : qG} (hg : qOK g) {h : qH} {x : Nat → Int32} {y : Nat → Int64} {F : Nat → Nat → Int32} {G : Nat → Nat → Int64} (hM : MX h x y F G) {S : CS} (hR : Rel S x F) (hI : ROK S.2.1) {d r nn : Nat} (hd : d < S.2.1.2.2.2.1) (hr : r ≤ 2) (hn5 : nn ≤ 5) (hn : S.2.1.2.2.2.1 ≤ 10) (hl : lwf S.2.2.2.2.1.1) (pl : Int32) : qSpec g 4 0 0 mX12_findMeans [.ref 63, .int (nI d), .int (nI nn), .int (nI r), .int pl] h (fun v h' => v = none ∧ QM h h' x y F G (fun a b c e f => a = (vmean (fun z => vgift S.2.1.1 S.2.2.2.2.1.1.1 S.2.2.2.2.1.1.2.1 S.2.2.2.2.1.1.2.2 (nI S.2.2.2.1.2) d z pl) S.2.1.1 S.2.1.2.2.2.2.2.2.2.1 d r nn).2.2.1 ∧ b = (vmean (fun z => vgift S.2.1.1 S.2.2.2.2.1.1.1 S.2.2.2.2.1.1.2.1 S.2.2.2.2.1.1.2.2 (nI S.2.2.2.1.2) d z pl) S.2.1.1 S.2.1.2.2.2.2.2.2.2.1 d r nn).2.2.2.1 ∧ c = (vmean (fun z => vgift S.2.1.1 S.2.2.2.2.1.1.1 S.2.2.2.2.1.1.2.1 S.2.2.2.2.1.1.2.2 (nI S.2.2.2.1.2) d z pl) S.2.1.1 S.2.1.2.2.2.2.2.2.2.1 d r nn).2.2.1 * (S.2.1.1 (d * 10 + 2)).toInt64 ∧ e = (vmean (fun z => vgift S.2.1.1 S.2.2.2.2.1.1.1 S.2.2.2.2.1.1.2.1 S.2.2.2.2.1.1.2.2 (nI S.2.2.2.1.2) d z pl) S.2.1.1 S.2.1.2.2.2.2.2.2.2.1 d r nn).2.2.2.2 + (vmean (fun z => vgift S.2.1.1 S.2.2.2.2.1.1.1 S.2.2.2.2.1.1.2.1 S.2.2.2.2.1.1.2.2 (nI S.2.2.2.1.2) d z pl) S.2.1.1 S.2.1.2.2.2.2.2.2.2.1 d r nn).2.2.1 * (S.2.1.1 (d * 10 + 9)).toInt64 ∧ f = 2 * S.2.1.1 (d * 10 + 8) + (nI nn * S.2.1.2.2.2.2.2.2.2.1 + (if nI r = 0 then 0 else 1)) + S.2.1.1 (d * 10 + 9))) := by
  refine qSpec_run 12 "findMeans" false hg mX12_findMeans_ok rfl rfl (Nat.le_of_ble_eq_true rfl) (by decide) ?_
  intro run step
  have i2 : vp_in (10 * nI d + 2 : Int32) 100 := by rw [show (10 * nI d + 2 : Int32) = nI (d * 10 + 2) from ixk (k := 10) (w := 2)]; exact vp_in_nI (by omega) (by decide)
  have e2 : F 67 (10 * nI d + 2 : Int32).toNatClampNeg = S.2.1.1 (d * 10 + 2) := by rw [show (10 * nI d + 2 : Int32) = nI (d * 10 + 2) from ixk (k := 10) (w := 2), h_tn (n := d * 10 + 2) (by omega)]; exact hR.2.2.1.1 _ (by omega)
  have i3 : vp_in (10 * nI d + 3 : Int32) 100 := by rw [show (10 * nI d + 3 : Int32) = nI (d * 10 + 3) from ixk (k := 10) (w := 3)]; exact vp_in_nI (by omega) (by decide)
  have e3 : F 67 (10 * nI d + 3 : Int32).toNatClampNeg = S.2.1.1 (d * 10 + 3) := by rw [show (10 * nI d + 3 : Int32) = nI (d * 10 + 3) from ixk (k := 10) (w := 3), h_tn (n := d * 10 + 3) (by omega)]; exact hR.2.2.1.1 _ (by omega)
  have i4 : vp_in (10 * nI d + 4 : Int32) 100 := by rw [show (10 * nI d + 4 : Int32) = nI (d * 10 + 4) from ixk (k := 10) (w := 4)]; exact vp_in_nI (by omega) (by decide)
  have e4 : F 67 (10 * nI d + 4 : Int32).toNatClampNeg = S.2.1.1 (d * 10 + 4) := by rw [show (10 * nI d + 4 : Int32) = nI (d * 10 + 4) from ixk (k := 10) (w := 4), h_tn (n := d * 10 + 4) (by omega)]; exact hR.2.2.1.1 _ (by omega)
  have i5 : vp_in (10 * nI d + 5 : Int32) 100 := by rw [show (10 * nI d + 5 : Int32) = nI (d * 10 + 5) from ixk (k := 10) (w := 5)]; exact vp_in_nI (by omega) (by decide)
  have e5 : F 67 (10 * nI d + 5 : Int32).toNatClampNeg = S.2.1.1 (d * 10 + 5) := by rw [show (10 * nI d + 5 : Int32) = nI (d * 10 + 5) from ixk (k := 10) (w := 5), h_tn (n := d * 10 + 5) (by omega)]; exact hR.2.2.1.1 _ (by omega)
  have i8 : vp_in (10 * nI d + 8 : Int32) 100 := by rw [show (10 * nI d + 8 : Int32) = nI (d * 10 + 8) from ixk (k := 10) (w := 8)]; exact vp_in_nI (by omega) (by decide)
  have e8 : F 67 (10 * nI d + 8 : Int32).toNatClampNeg = S.2.1.1 (d * 10 + 8) := by rw [show (10 * nI d + 8 : Int32) = nI (d * 10 + 8) from ixk (k := 10) (w := 8), h_tn (n := d * 10 + 8) (by omega)]; exact hR.2.2.1.1 _ (by omega)
  have i9 : vp_in (10 * nI d + 9 : Int32) 100 := by rw [show (10 * nI d + 9 : Int32) = nI (d * 10 + 9) from ixk (k := 10) (w := 9)]; exact vp_in_nI (by omega) (by decide)
  have e9 : F 67 (10 * nI d + 9 : Int32).toNatClampNeg = S.2.1.1 (d * 10 + 9) := by rw [show (10 * nI d + 9 : Int32) = nI (d * 10 + 9) from ixk (k := 10) (w := 9), h_tn (n := d * 10 + 9) (by omega)]; exact hR.2.2.1.1 _ (by omega)
  have e22 : x 22 = S.2.1.2.2.2.2.2.2.2.1 := hR.1.2.2.2.2.2.1
  obtain ⟨steps, hst⟩ : ∃ s : Nat, s = (if r = 0 then nn else nn + 1) := ⟨_, rfl⟩
  have hs6 : steps ≤ 6 := by rw [hst]; split <;> omega
  have loop : ∀ (m i : Nat) (lf : Int64) (tm vs : Int32) (hX : qH) (yX : Nat → Int64) (FX : Nat → Nat → Int32), i + m = steps → MX hX x yX FX G → (∀ j : Nat, j ∉ [75, 76] → FX j = F j) → kp h hX → (∀ k : Nat, k ∉ [38, 39, 40, 41] → yX k = y k) → mrn (fun z => vgift S.2.1.1 S.2.2.2.2.1.1.1 S.2.2.2.2.1.1.2.1 S.2.2.2.2.1.1.2.2 (nI S.2.2.2.1.2) d z pl) S.2.1.1 S.2.1.2.2.2.2.2.2.2.1 d r nn i m (lf, tm, vs, yX 38, yX 39, yX 41) = mrn (fun z => vgift S.2.1.1 S.2.2.2.2.1.1.1 S.2.2.2.2.1.1.2.1 S.2.2.2.2.1.1.2.2 (nI S.2.2.2.1.2) d z pl) S.2.1.1 S.2.1.2.2.2.2.2.2.2.1 d r nn 0 steps (16777216 * (S.2.1.1 (d * 10 + 3)).toInt64, 0, 0, 0, 0, 0) → run 59 [(11, .int (nI i)), (10, .int vs), (9, .int tm), (7, .long lf), (6, .int (nI steps)), (0, .ref 63), (1, .int (nI d)), (2, .int (nI nn)), (3, .int (nI r)), (4, .int pl), (5, .int (10 * nI d))] [] hX 0 0 := by
    intro m
    induction m with
    | zero =>
      intro i lf tm vs hX yX FX hi hMX hFX hkX hyX hres
      have q67 := hFX 67 (by decide)
      have d67 : hX.2 67 = some (aI' 100 (F 67)) := by rw [← q67]; exact hMX.c67
      refine step.1 _ _ _ _ _ _ _ sgX12_findMeans_59_ok ?_
      refine ⟨fun c63 => ?_, fun c63 => absurd (show nI steps ≤ nI i from nI_le (by omega) (by omega)) c63⟩
      
      refine step.1 _ _ _ _ _ _ _ sgX12_findMeans_208_ok ?_
      refine ⟨rfl, ?_⟩
      refine ⟨by decide, _, _, hMX.1, rfl, ?_⟩
      refine ⟨by decide, _, _, hMX.1, rfl, ?_⟩
      refine ⟨by decide, _, _, hMX.1, rfl, ?_⟩
      refine ⟨_, _, d67, i8, ?_⟩
      refine ⟨_, hMX.1, Nat.le_of_ble_eq_true rfl, rfl, ?_⟩
      refine ⟨by decide, _, _, rfl, rfl, ?_⟩
      refine ⟨by decide, _, _, rfl, rfl, ?_⟩
      refine ⟨_, _, d67, i2, ?_⟩
      refine ⟨_, rfl, Nat.le_of_ble_eq_true rfl, rfl, ?_⟩
      refine ⟨by decide, _, _, rfl, rfl, ?_⟩
      refine ⟨_, _, d67, i8, ?_⟩
      refine ⟨by decide, _, _, rfl, rfl, ?_⟩
      refine ⟨_, _, d67, i9, ?_⟩
      refine ⟨_, rfl, Nat.le_of_ble_eq_true rfl, rfl, ?_⟩
      refine ⟨rfl, Nat.le_refl _, Nat.le_refl _, ?_⟩
      have t := vm_eq (G := (fun z => vgift S.2.1.1 S.2.2.2.2.1.1.1 S.2.2.2.2.1.1.2.1 S.2.2.2.2.1.1.2.2 (nI S.2.2.2.1.2) d z pl)) (R := S.2.1) hI hd hr hn5 rfl
      rw [← hst, ← hres] at t
      simp only [mrn] at t
      obtain ⟨t1, t2, t3, t4⟩ := t
      refine ⟨rfl, _, _, FX, hMX.e63 rfl (fun j hj => by simp only [qup, if_neg hj]) (sI_42 (sL_40 (sL_41 rfl))), hFX, fun k hk => upd_n hk, fun k hk => ?_, ((hkX.u (by decide) (by decide)).u (by decide) (by decide)).u (by decide) (by decide), ?_, ?_, ?_, ?_, ?_⟩
      · have hk2 := hk
        simp at hk2
        exact (updL_n hk2.2.2.1).trans ((updL_n hk2.2.2.2).trans (hyX k hk))
      · exact t1
      · exact t2
      · show yX 38 * (F 67 (10 * nI d + 2 : Int32).toNatClampNeg).toInt64 = _
        rw [e2, t1]
      · show yX 41 + ((268435456 - yX 38) * tm.toInt64 + 268435456 * (2 * F 67 (10 * nI d + 8 : Int32).toNatClampNeg).toInt64) = _
        rw [e8, t3]
      · show 2 * F 67 (10 * nI d + 8 : Int32).toNatClampNeg + tm + F 67 (10 * nI d + 9 : Int32).toNatClampNeg = _
        rw [e8, e9, t4]
    | succ m ih =>
      intro i lf tm vs hX yX FX hi hMX hFX hkX hyX hres
      have q67 := hFX 67 (by decide)
      have d67 : hX.2 67 = some (aI' 100 (F 67)) := by rw [← q67]; exact hMX.c67
      refine step.1 _ _ _ _ _ _ _ sgX12_findMeans_59_ok ?_
      refine ⟨fun c63 => absurd c63 (h_nle (by omega) (by omega)), fun c63 => ?_⟩
      refine Or.inl ⟨rfl, _, 1, 0, 0, _, Or.inl qi_12_373, ⟨rfl, rfl⟩, rfl, rfl, M_isRing hg nn r i hn5 hr (by omega), fun y70 h70 hy70 => ?_⟩
      obtain ⟨rfl, hh⟩ := hy70
      rw [hh]
      clear hh
      generalize hb : vrg r nn i = b
      cases b with
      | true =>
        refine ⟨by decide, ?_⟩
        refine ⟨by decide, _, _, hMX.1, rfl, ?_⟩
        refine ⟨fun c89 => absurd c89 (by decide), fun c89 => ?_⟩
        
        refine step.1 _ _ _ _ _ _ _ sgX12_findMeans_97_ok ?_
        refine ⟨_, _, d67, i5, ?_⟩
        refine ⟨fun c107 => absurd c107 (by decide), fun c107 => ?_⟩
        
        refine step.1 _ _ _ _ _ _ _ sgX12_findMeans_118_ok ?_
        refine ⟨fun c125 => absurd c125 (by decide), fun c125 => ?_⟩
        
        refine step.1 _ _ _ _ _ _ _ sgX12_findMeans_133_ok ?_
        refine ⟨rfl, ?_⟩
        refine ⟨by decide, _, _, hMX.1, rfl, ?_⟩
        refine ⟨_, hMX.1, Nat.le_of_ble_eq_true rfl, rfl, ?_⟩
        refine ⟨rfl, ?_⟩
        refine ⟨by decide, _, _, rfl, rfl, ?_⟩
        refine Or.inl ⟨rfl, _, 3, 0, 0, _, _, _, qi_12_359, ⟨rfl, rfl⟩, ⟨rfl, rfl⟩, rfl, rfl, M_giveOf hg (hMX.p63 (y' := (updL yX 38 (yX 38 + (lf / 16 * (F 67 (10 * nI d + 5 : Int32).toNatClampNeg).toInt64)))) (sL_38 rfl)) (hR.qf hFX) hd hn hl _ _, fun y167 h167 hy167 => ?_⟩
        obtain ⟨rfl, hQ⟩ := hy167
        obtain ⟨F2, hM2, hF2, hk2⟩ := QF.tr' hFX (hkX.u (by decide) (by decide)) hQ
        have q67 := hF2 67 (by decide)
        have d67 : h167.2 67 = some (aI' 100 (F 67)) := by rw [← q67]; exact hM2.c67
        refine ⟨_, hM2.1, Nat.le_of_ble_eq_true rfl, rfl, ?_⟩
        refine ⟨rfl, ?_⟩
        refine ⟨by decide, _, _, rfl, rfl, ?_⟩
        refine ⟨by decide, _, _, rfl, rfl, ?_⟩
        refine ⟨_, _, d67, i9, ?_⟩
        refine ⟨_, rfl, Nat.le_of_ble_eq_true rfl, rfl, ?_⟩
        refine step.2 _ _ _ _ _ _ _ (qsub_cons 0 rfl (qsub_cons 2 rfl (qsub_cons 3 rfl (qsub_cons 1 rfl (qsub_cons 6 rfl (qsub_cons 7 rfl (qsub_cons 8 rfl (qsub_cons 9 rfl (qsub_cons 10 rfl (qsub_cons 11 rfl (qsub_cons 12 rfl qsub_nil))))))))))) ?_
        have kk := fun hZ => ih (i + 1) (lf - (lf / 16 * (F 67 (10 * nI d + 5 : Int32).toNatClampNeg).toInt64)) (tm + 1) (vs + 0) hZ (updL (updL (updL yX 38 (yX 38 + (lf / 16 * (F 67 (10 * nI d + 5 : Int32).toNatClampNeg).toInt64))) 39 (yX 39 + (lf / 16 * (F 67 (10 * nI d + 5 : Int32).toNatClampNeg).toInt64) * (vgift S.2.1.1 S.2.2.2.2.1.1.1 S.2.2.2.2.1.1.2.1 S.2.2.2.2.1.1.2.2 (nI S.2.2.2.1.2) d (vs + 0) pl).toInt64)) 41 (yX 41 + (lf / 16 * (F 67 (10 * nI d + 5 : Int32).toNatClampNeg).toInt64) * ((tm + 1) + F 67 (10 * nI d + 9 : Int32).toNatClampNeg).toInt64)) F2 (by omega)
        rw [← nI_1] at kk
        refine kk _ (hM2.e63 rfl (fun j hj => by simp only [qup, if_neg hj]) (sL_41 (sL_39 rfl))) hF2 ((hk2.u (by decide) (by decide)).u (by decide) (by decide)) (fun k hk => ?_) (by rw [← hres]; show _ = mrn _ _ _ _ _ _ (i + 1) m (mst _ _ _ _ (vrg r nn i) _); rw [hb, e5, e9]; rfl)
        have hk2 := hk
        simp at hk2
        exact (updL_n hk2.2.2.2).trans ((updL_n hk2.2.1).trans ((updL_n hk2.1).trans (hyX k hk)))
      | false =>
        refine ⟨by decide, ?_⟩
        refine ⟨by decide, _, _, hMX.1, rfl, ?_⟩
        refine ⟨fun c89 => ?_, fun c89 => absurd rfl c89⟩
        
        refine step.1 _ _ _ _ _ _ _ sgX12_findMeans_96_ok ?_
        refine step.1 _ _ _ _ _ _ _ sgX12_findMeans_97_ok ?_
        refine ⟨_, _, d67, i4, ?_⟩
        refine ⟨fun c107 => ?_, fun c107 => absurd rfl c107⟩
        
        refine step.1 _ _ _ _ _ _ _ sgX12_findMeans_114_ok ?_
        refine ⟨by decide, _, _, hMX.1, rfl, ?_⟩
        refine step.1 _ _ _ _ _ _ _ sgX12_findMeans_118_ok ?_
        refine ⟨fun c125 => ?_, fun c125 => absurd rfl c125⟩
        
        refine step.1 _ _ _ _ _ _ _ sgX12_findMeans_132_ok ?_
        refine step.1 _ _ _ _ _ _ _ sgX12_findMeans_133_ok ?_
        refine ⟨rfl, ?_⟩
        refine ⟨by decide, _, _, hMX.1, rfl, ?_⟩
        refine ⟨_, hMX.1, Nat.le_of_ble_eq_true rfl, rfl, ?_⟩
        refine ⟨rfl, ?_⟩
        refine ⟨by decide, _, _, rfl, rfl, ?_⟩
        refine Or.inl ⟨rfl, _, 3, 0, 0, _, _, _, qi_12_359, ⟨rfl, rfl⟩, ⟨rfl, rfl⟩, rfl, rfl, M_giveOf hg (hMX.p63 (y' := (updL yX 38 (yX 38 + (lf / 16 * (F 67 (10 * nI d + 4 : Int32).toNatClampNeg).toInt64)))) (sL_38 rfl)) (hR.qf hFX) hd hn hl _ _, fun y167 h167 hy167 => ?_⟩
        obtain ⟨rfl, hQ⟩ := hy167
        obtain ⟨F2, hM2, hF2, hk2⟩ := QF.tr' hFX (hkX.u (by decide) (by decide)) hQ
        have q67 := hF2 67 (by decide)
        have d67 : h167.2 67 = some (aI' 100 (F 67)) := by rw [← q67]; exact hM2.c67
        refine ⟨_, hM2.1, Nat.le_of_ble_eq_true rfl, rfl, ?_⟩
        refine ⟨rfl, ?_⟩
        refine ⟨by decide, _, _, rfl, rfl, ?_⟩
        refine ⟨by decide, _, _, rfl, rfl, ?_⟩
        refine ⟨_, _, d67, i9, ?_⟩
        refine ⟨_, rfl, Nat.le_of_ble_eq_true rfl, rfl, ?_⟩
        refine step.2 _ _ _ _ _ _ _ (qsub_cons 0 rfl (qsub_cons 2 rfl (qsub_cons 3 rfl (qsub_cons 1 rfl (qsub_cons 6 rfl (qsub_cons 7 rfl (qsub_cons 8 rfl (qsub_cons 9 rfl (qsub_cons 10 rfl (qsub_cons 11 rfl (qsub_cons 12 rfl qsub_nil))))))))))) ?_
        have kk := fun hZ => ih (i + 1) (lf - (lf / 16 * (F 67 (10 * nI d + 4 : Int32).toNatClampNeg).toInt64)) (tm + x 22) (vs + 1) hZ (updL (updL (updL yX 38 (yX 38 + (lf / 16 * (F 67 (10 * nI d + 4 : Int32).toNatClampNeg).toInt64))) 39 (yX 39 + (lf / 16 * (F 67 (10 * nI d + 4 : Int32).toNatClampNeg).toInt64) * (vgift S.2.1.1 S.2.2.2.2.1.1.1 S.2.2.2.2.1.1.2.1 S.2.2.2.2.1.1.2.2 (nI S.2.2.2.1.2) d (vs + 1) pl).toInt64)) 41 (yX 41 + (lf / 16 * (F 67 (10 * nI d + 4 : Int32).toNatClampNeg).toInt64) * ((tm + x 22) + F 67 (10 * nI d + 9 : Int32).toNatClampNeg).toInt64)) F2 (by omega)
        rw [← nI_1] at kk
        refine kk _ (hM2.e63 rfl (fun j hj => by simp only [qup, if_neg hj]) (sL_41 (sL_39 rfl))) hF2 ((hk2.u (by decide) (by decide)).u (by decide) (by decide)) (fun k hk => ?_) (by rw [← hres]; show _ = mrn _ _ _ _ _ _ (i + 1) m (mst _ _ _ _ (vrg r nn i) _); rw [hb, e4, e9, e22]; rfl)
        have hk2 := hk
        simp at hk2
        exact (updL_n hk2.2.2.2).trans ((updL_n hk2.2.1).trans ((updL_n hk2.1).trans (hyX k hk)))
  have at16 : ∀ st : Int32, nI nn + st = nI steps → run 16 [(5, .int (10 * nI d)), (0, .ref 63), (1, .int (nI d)), (2, .int (nI nn)), (3, .int (nI r)), (4, .int pl)] [.int st, .int (nI nn)] h 0 0 := by
    intro st e16
    refine step.1 _ _ _ _ _ _ _ sgX12_findMeans_16_ok ?_
    refine ⟨by decide, _, _, hM.1, rfl, ?_⟩
    refine ⟨_, _, hM.c67, i3, ?_⟩
    refine ⟨_, hM.1, Nat.le_of_ble_eq_true rfl, rfl, ?_⟩
    refine ⟨_, rfl, Nat.le_of_ble_eq_true rfl, rfl, ?_⟩
    refine ⟨_, rfl, Nat.le_of_ble_eq_true rfl, rfl, ?_⟩
    refine step.2 _ _ _ _ _ _ _ (qsub_cons 0 rfl (qsub_cons 1 rfl (qsub_cons 2 rfl (qsub_cons 3 rfl (qsub_cons 4 rfl (qsub_cons 6 rfl (qsub_cons 7 rfl (qsub_cons 8 rfl (qsub_cons 9 rfl (qsub_cons 10 rfl (qsub_cons 5 rfl qsub_nil))))))))))) ?_
    rw [e3, e16]
    refine loop steps 0 _ 0 0 _ (updL (updL (updL y 38 0) 39 0) 41 0) F (by omega) (hM.e63 rfl (fun j hj => by simp only [qup, if_neg hj]) (sL_41 (sL_39 (sL_38 rfl)))) (fun _ _ => rfl) (((kp.rf.u (by decide) (by decide)).u (by decide) (by decide)).u (by decide) (by decide)) (fun k hk => by simp at hk; rw [updL_n hk.2.2.2, updL_n hk.2.1, updL_n hk.1]) rfl
  refine step.1 _ _ _ _ _ _ _ sgX12_findMeans_0_ok ?_
  refine ⟨fun c8 => ?_, fun c8 => ?_⟩
  · have c8 : r ≠ 0 := fun e => c8 (by rw [e]; rfl)
    refine step.1 _ _ _ _ _ _ _ sgX12_findMeans_15_ok ?_
    exact at16 _ (by rw [hst, if_neg c8, nI_1]) 
  · have c8 : r = 0 := (nI_eq (b := 0) (by omega) (by decide)).mp c8
    exact at16 _ (by rw [hst, if_pos c8]; exact Int32.add_zero _)
end Q11D
