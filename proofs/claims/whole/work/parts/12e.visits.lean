section Q12E
def es4 (D : Nat → Int32) (x : Nat) (e : Nat → Int32) : Nat → Int32 := upd e 6 (e 6 + D (x * 10 + 8))
def es3 (G : Int32 → Int32) (D : Nat → Int32) (x : Nat) (s : eS) : Nat → Int32 := if s.1 then egot G D x s.2 else s.2
def es2 (D : Nat → Int32) (x : Nat) (i : Bool) (r : Nat) (s : eS) : eS := if s.1 = false ∧ r = 2 then ering D x i s.2 else s
theorem eopen_11 (i : Bool) (f : Int32) (e : Nat → Int32) : (eopen i f e).2 11 = e 11 := by
  cases i <;> rfl
theorem ering_11 (D : Nat → Int32) (x : Nat) (i : Bool) (e : Nat → Int32) : (ering D x i e).2 11 = e 11 := eopen_11 i _ _
theorem everse_11 (D : Nat → Int32) (ve : Int32) (x : Nat) (i : Bool) (e : Nat → Int32) : (everse D ve x i e).2 11 = e 11 + 1 := eopen_11 i _ _
section
variable {h h1 h2 : qH} {x x1 x2 : Nat → Int32} {y y1 : Nat → Int64} {F F1 F2 : Nat → Nat → Int32} {G : Nat → Nat → Int64} {S : CS} {e : Nat → Int32}
theorem QF.z (a : QF h h1 x y F G) : ∃ F' : Nat → Nat → Int32, QZ h h1 x F G x y F' ∧ F' 89 = F 89 := by
  obtain ⟨F', q1, q2, q3⟩ := a
  exact ⟨F', ⟨q1, QF.mq q2, q3⟩, q2 89 (by decide)⟩
theorem QZ.v89 (a : QZ h h1 x F G x1 y1 F1) {n : Nat} {f : Nat → Option qE} {w : Nat → Int32} (h0 : h1.1 = n) (q1 : f 89 = some (aI' 7 w)) (q2 : ∀ j : Nat, j ≠ 89 → f j = h1.2 j) : QZ h (n, f) x F G x1 y1 (fup F1 89 w) := ⟨a.1.v89 q1 q2, a.2.1.uF (by decide), a.2.2.v (k := 89) h0 (by decide) (by decide) q2⟩
theorem QZ.e63 (a : QZ h h1 x F G x1 y1 F1) {n : Nat} {f : Nat → Option qE} {L : List Value} {x' : Nat → Int32} {y' : Nat → Int64} (h0 : h1.1 = n) (q1 : f 63 = some (.inl (12, L))) (q2 : ∀ j : Nat, j ≠ 63 → f j = h1.2 j) (q3 : L = M63l x' y') (q4 : mq x x' F F1) : QZ h (n, f) x F G x' y' F1 := ⟨a.1.e63 q1 q2 q3, q4, a.2.2.v (k := 63) h0 (by decide) (by decide) q2⟩
end
set_option maxHeartbeats 4000000 in
theorem M_visits {g : qG} (hg : qOK g) {h : qH} {x : Nat → Int32} {y : Nat → Int64} {F : Nat → Nat → Int32} {G : Nat → Nat → Int64} (hM : MX h x y F G) {S : CS} (hR : Rel S x F) {pf vf rf : Nat → Nat} (hP : isP S.2.1.2.1 S.2.1.2.2.2.2.1 pf vf rf) (hI : ROK S.2.1) (hpn : ∀ i : Nat, i < S.2.1.2.2.2.2.1 → pf i < S.2.1.2.2.2.1) (hl : lwf S.2.2.2.2.1.1) (hl2 : lwf S.2.2.2.2.1.2) {l : Nat} (hll : l < S.2.1.2.2.2.2.1) {e : Nat → Int32} (hNe : NE e x (F 89)) : qSpec g 4 0 0 mX12_visits [.ref 63, .int (nI l)] h (fun r h' => r = none ∧ ∃ (x' : Nat → Int32) (F' : Nat → Nat → Int32), QZ h h' x F G x' y F' ∧ NE (estay (fun z => vgift S.2.1.1 S.2.2.2.2.1.1.1 S.2.2.2.2.1.1.2.1 S.2.2.2.2.1.1.2.2 (nI S.2.2.2.1.2) (pf l) z (nI l)) S.2.1.1 S.2.1.2.2.2.2.2.2.2.1 (fun z => esing S.2.1.1 S.2.2.2.2.1.2.1 S.2.2.2.2.1.2.2.1 S.2.2.2.2.1.2.2.2 (nI S.2.2.2.1.2) (pf l) (nI l) (nI (vf l)) z) (pf l) (rf l) e) x' (F' 89)) := by
  refine qSpec_run 12 "visits" false hg mX12_visits_ok rfl rfl (Nat.le_of_ble_eq_true rfl) (by decide) ?_
  intro run step
  have hk := hI.1.2.1
  have hn := hI.1.1
  have hpl := hpn l hll
  have hr2 := (hP l hll).2.2.2
  have j0 : (3 * nI l : Int32) = nI (l * 3 + 0) := by rw [Int32.mul_comm]; exact pk_mul l 3
  have f0 : F 78 (3 * nI l : Int32).toNatClampNeg = nI (pf l) := by rw [j0, h_tn (n := l * 3 + 0) (by omega)]; exact (hR.2.2.1.2.2 (l * 3 + 0) (by omega)).trans (hP l hll).1.1
  have j2 : (3 * nI l + 2 : Int32) = nI (l * 3 + 2) := ixk (k := 3) (w := 2)
  have f2 : F 78 (3 * nI l + 2 : Int32).toNatClampNeg = nI (rf l) := by rw [j2, h_tn (n := l * 3 + 2) (by omega)]; exact (hR.2.2.1.2.2 (l * 3 + 2) (by omega)).trans (hP l hll).2.2.1
  obtain ⟨n0, n1, n2, n3, n4, n5, n6, n7⟩ := hNe
  have iy3 : (10 * nI (pf l) + 3 : Int32) = nI (pf l * 10 + 3) := ixk (k := 10) (w := 3)
  have iy8 : (10 * nI (pf l) + 8 : Int32) = nI (pf l * 10 + 8) := ixk (k := 10) (w := 8)
  have gy3 : F 67 (10 * nI (pf l) + 3 : Int32).toNatClampNeg = S.2.1.1 (pf l * 10 + 3) := by rw [iy3, h_tn (n := pf l * 10 + 3) (by omega)]; exact hR.2.2.1.1 _ (by omega)
  have gy8 : F 67 (10 * nI (pf l) + 8 : Int32).toNatClampNeg = S.2.1.1 (pf l * 10 + 8) := by rw [iy8, h_tn (n := pf l * 10 + 8) (by omega)]; exact hR.2.2.1.1 _ (by omega)
  have at211 : ∀ (hZ : qH) (xX : Nat → Int32) (FX : Nat → Nat → Int32) (v : Nat) (e4 : Nat → Int32), QZ h hZ x F G xX y FX → NE e4 xX (FX 89) → es4 S.2.1.1 (pf l) e4 = (estay (fun z => vgift S.2.1.1 S.2.2.2.2.1.1.1 S.2.2.2.2.1.1.2.1 S.2.2.2.2.1.1.2.2 (nI S.2.2.2.1.2) (pf l) z (nI l)) S.2.1.1 S.2.1.2.2.2.2.2.2.2.1 (fun z => esing S.2.1.1 S.2.2.2.2.1.2.1 S.2.2.2.2.1.2.2.1 S.2.2.2.2.1.2.2.2 (nI S.2.2.2.1.2) (pf l) (nI l) (nI (vf l)) z) (pf l) (rf l) e) → run 211 [(4, .int (nI v)), (3, .int (nI (rf l))), (2, .int (nI (pf l))), (0, .ref 63), (1, .int (nI l))] [] hZ 0 0 := by
    intro hZ xX FX v e4 hX hN hres
    have ix8 : (10 * nI (pf l) + 8 : Int32) = nI (pf l * 10 + 8) := ixk (k := 10) (w := 8)
    have gx8 : FX 67 (10 * nI (pf l) + 8 : Int32).toNatClampNeg = S.2.1.1 (pf l * 10 + 8) := by rw [ix8, h_tn (n := pf l * 10 + 8) (by omega)]; exact (hX.R hR).2.2.1.1 _ (by omega)
    obtain ⟨n0, n1, n2, n3, n4, n5, n6, n7⟩ := hN
    refine step.1 _ _ _ _ _ _ _ sgX12_visits_211_ok ?_
    refine ⟨by decide, _, _, hX.1.1, rfl, ?_⟩
    refine ⟨⟨rfl, rfl⟩, ?_⟩
    refine ⟨_, _, hX.1.c89, (vp_in_nI (n := 2) (N := 7) (by decide) (by decide) : vp_in (nI 2) 7), ?_⟩
    refine ⟨by decide, _, _, hX.1.1, rfl, ?_⟩
    refine ⟨_, _, hX.1.c67, (by rw [ix8]; exact vp_in_nI (n := pf l * 10 + 8) (N := 100) (by omega) (by decide)), ?_⟩
    refine ⟨_, _, hX.1.c89, (vp_in_nI (n := 2) (N := 7) (by decide) (by decide) : vp_in (nI 2) 7), ?_⟩
    refine ⟨rfl, Nat.le_refl _, Nat.le_refl _, ?_⟩
    refine ⟨rfl, _, _, hX.v89 rfl rfl (fun j hj => by simp only [qup, if_neg hj]), ?_⟩
    rw [← hres]
    exact ⟨n0, n1, n2, (show FX 89 2 + FX 67 (10 * nI (pf l) + 8 : Int32).toNatClampNeg = e4 6 + S.2.1.1 (pf l * 10 + 8) by rw [n3, gx8]), n4, n5, n6, n7⟩
  have at134 : ∀ (hZ : qH) (xX : Nat → Int32) (FX : Nat → Nat → Int32) (v : Nat) (s : eS), QZ h hZ x F G xX y FX → NE s.2 xX (FX 89) → xX 59 = qb s.1 → s.2 11 = nI v → es4 S.2.1.1 (pf l) (es3 (fun z => vgift S.2.1.1 S.2.2.2.2.1.1.1 S.2.2.2.2.1.1.2.1 S.2.2.2.2.1.1.2.2 (nI S.2.2.2.1.2) (pf l) z (nI l)) S.2.1.1 (pf l) s) = (estay (fun z => vgift S.2.1.1 S.2.2.2.2.1.1.1 S.2.2.2.2.1.1.2.1 S.2.2.2.2.1.1.2.2 (nI S.2.2.2.1.2) (pf l) z (nI l)) S.2.1.1 S.2.1.2.2.2.2.2.2.2.1 (fun z => esing S.2.1.1 S.2.2.2.2.1.2.1 S.2.2.2.2.1.2.2.1 S.2.2.2.2.1.2.2.2 (nI S.2.2.2.1.2) (pf l) (nI l) (nI (vf l)) z) (pf l) (rf l) e) → run 134 [(4, .int (nI v)), (3, .int (nI (rf l))), (2, .int (nI (pf l))), (0, .ref 63), (1, .int (nI l))] [] hZ 0 0 := by
    intro hZ xX FX v s hX hN h59 h11 hres
    have hN0 := hN
    have ix2 : (10 * nI (pf l) + 2 : Int32) = nI (pf l * 10 + 2) := ixk (k := 10) (w := 2)
    have gx2 : FX 67 (10 * nI (pf l) + 2 : Int32).toNatClampNeg = S.2.1.1 (pf l * 10 + 2) := by rw [ix2, h_tn (n := pf l * 10 + 2) (by omega)]; exact (hX.R hR).2.2.1.1 _ (by omega)
    have ix9 : (10 * nI (pf l) + 9 : Int32) = nI (pf l * 10 + 9) := ixk (k := 10) (w := 9)
    have gx9 : FX 67 (10 * nI (pf l) + 9 : Int32).toNatClampNeg = S.2.1.1 (pf l * 10 + 9) := by rw [ix9, h_tn (n := pf l * 10 + 9) (by omega)]; exact (hX.R hR).2.2.1.1 _ (by omega)
    obtain ⟨n0, n1, n2, n3, n4, n5, n6, n7⟩ := hN
    refine step.1 _ _ _ _ _ _ _ sgX12_visits_134_ok ?_
    refine ⟨by decide, _, _, hX.1.1, rfl, ?_⟩
    refine ⟨fun c138 => ?_, fun c138 => ?_⟩
    · have d138 : s.1 = false := qb_0.mp (by rw [← h59]; exact c138)
      exact at211 hZ xX FX v s.2 hX hN0 (by rw [← hres, es3, d138]; rfl)
    · have d138 : s.1 = true := qb_1.mp (by rw [← h59]; exact c138)
      refine ⟨by decide, _, _, hX.1.1, rfl, ?_⟩
      refine ⟨⟨rfl, rfl⟩, ?_⟩
      refine ⟨_, _, hX.1.c89, (vp_in_nI (n := 0) (N := 7) (by decide) (by decide) : vp_in (nI 0) 7), ?_⟩
      refine Or.inl ⟨rfl, _, 3, 0, 0, _, _, _, qi_12_359, ⟨rfl, rfl⟩, ⟨hX.1.1, rfl⟩, rfl, rfl, M_giveOf hg hX.1 (hX.R hR) hpl hn hl (nI v) (nI l), fun y153 h153 hy153 => ?_⟩
      obtain ⟨rfl, hQ⟩ := hy153
      obtain ⟨F2, hZ2, e89⟩ := hQ.z
      have hX2 := hX.tr hZ2
      have gy2 : F2 67 (10 * nI (pf l) + 2 : Int32).toNatClampNeg = S.2.1.1 (pf l * 10 + 2) := by rw [ix2, h_tn (n := pf l * 10 + 2) (by omega)]; exact (hX2.R hR).2.2.1.1 _ (by omega)
      have gy9 : F2 67 (10 * nI (pf l) + 9 : Int32).toNatClampNeg = S.2.1.1 (pf l * 10 + 9) := by rw [ix9, h_tn (n := pf l * 10 + 9) (by omega)]; exact (hX2.R hR).2.2.1.1 _ (by omega)
      refine ⟨_, _, hX2.1.c89, (vp_in_nI (n := 0) (N := 7) (by decide) (by decide) : vp_in (nI 0) 7), ?_⟩
      refine ⟨by decide, _, _, hX2.1.1, rfl, ?_⟩
      refine ⟨⟨rfl, rfl⟩, ?_⟩
      refine ⟨_, _, rfl, (vp_in_nI (n := 1) (N := 7) (by decide) (by decide) : vp_in (nI 1) 7), ?_⟩
      refine ⟨by decide, _, _, hX2.1.1, rfl, ?_⟩
      refine ⟨_, _, hX2.1.c67, (by rw [ix2]; exact vp_in_nI (n := pf l * 10 + 2) (N := 100) (by omega) (by decide)), ?_⟩
      refine ⟨_, _, rfl, (vp_in_nI (n := 1) (N := 7) (by decide) (by decide) : vp_in (nI 1) 7), ?_⟩
      refine ⟨by decide, _, _, hX2.1.1, rfl, ?_⟩
      refine ⟨⟨rfl, rfl⟩, ?_⟩
      refine ⟨_, _, rfl, (vp_in_nI (n := 2) (N := 7) (by decide) (by decide) : vp_in (nI 2) 7), ?_⟩
      refine ⟨by decide, _, _, hX2.1.1, rfl, ?_⟩
      refine ⟨_, _, hX2.1.c67, (by rw [ix9]; exact vp_in_nI (n := pf l * 10 + 9) (N := 100) (by omega) (by decide)), ?_⟩
      refine ⟨_, _, rfl, (vp_in_nI (n := 2) (N := 7) (by decide) (by decide) : vp_in (nI 2) 7), ?_⟩
      refine ⟨by decide, _, _, hX2.1.1, rfl, ?_⟩
      refine ⟨⟨rfl, rfl⟩, ?_⟩
      refine ⟨_, _, rfl, (vp_in_nI (n := 3) (N := 7) (by decide) (by decide) : vp_in (nI 3) 7), ?_⟩
      refine ⟨_, _, rfl, (vp_in_nI (n := 3) (N := 7) (by decide) (by decide) : vp_in (nI 3) 7), ?_⟩
      refine at211 _ xX _ v (egot (fun z => vgift S.2.1.1 S.2.2.2.2.1.1.1 S.2.2.2.2.1.1.2.1 S.2.2.2.2.1.1.2.2 (nI S.2.2.2.1.2) (pf l) z (nI l)) S.2.1.1 (pf l) s.2) (hX2.v89 rfl rfl (fun j hj => by simp only [qup, if_neg hj])) ?_ (by rw [← hres, es3, d138]; rfl)
      refine ⟨n0, (show FX 89 0 + vgift S.2.1.1 S.2.2.2.2.1.1.1 S.2.2.2.2.1.1.2.1 S.2.2.2.2.1.1.2.2 (nI S.2.2.2.1.2) (pf l) (nI v) (nI l) = s.2 4 + (fun z => vgift S.2.1.1 S.2.2.2.2.1.1.1 S.2.2.2.2.1.1.2.1 S.2.2.2.2.1.1.2.2 (nI S.2.2.2.1.2) (pf l) z (nI l)) (s.2 11) by rw [n1, h11]), ?_, ?_, ?_, ?_, ?_, ?_⟩
      · show F2 89 1 + F2 67 (10 * nI (pf l) + 2 : Int32).toNatClampNeg = s.2 5 + S.2.1.1 (pf l * 10 + 2)
        rw [e89, n2, gy2]
      · show F2 89 2 + F2 67 (10 * nI (pf l) + 9 : Int32).toNatClampNeg = s.2 6 + S.2.1.1 (pf l * 10 + 9)
        rw [e89, n3, gy9]
      · show F2 89 3 ||| _ = s.2 7 ||| _
        rw [e89, n4]
      · show F2 89 4 = s.2 8
        rw [e89, n5]
      · show F2 89 5 = s.2 9
        rw [e89, n6]
      · show F2 89 6 = s.2 10
        rw [e89, n7]
  have main : ∀ iN : Bool, iN = (decide (ebits (e 3) < S.2.1.1 (pf l * 10 + 3))) → (∀ (hZ : qH) (xX : Nat → Int32) (FX : Nat → Nat → Int32) (v : Nat) (s : eS), QZ h hZ x F G xX y FX → NE s.2 xX (FX 89) → xX 59 = qb s.1 → xX 60 = qb iN → s.2 11 = nI v → es4 S.2.1.1 (pf l) (es3 (fun z => vgift S.2.1.1 S.2.2.2.2.1.1.1 S.2.2.2.2.1.1.2.1 S.2.2.2.2.1.1.2.2 (nI S.2.2.2.1.2) (pf l) z (nI l)) S.2.1.1 (pf l) (es2 S.2.1.1 (pf l) iN (rf l) s)) = (estay (fun z => vgift S.2.1.1 S.2.2.2.2.1.1.1 S.2.2.2.2.1.1.2.1 S.2.2.2.2.1.1.2.2 (nI S.2.2.2.1.2) (pf l) z (nI l)) S.2.1.1 S.2.1.2.2.2.2.2.2.2.1 (fun z => esing S.2.1.1 S.2.2.2.2.1.2.1 S.2.2.2.2.1.2.2.1 S.2.2.2.2.1.2.2.2 (nI S.2.2.2.1.2) (pf l) (nI l) (nI (vf l)) z) (pf l) (rf l) e) → run 116 [(4, .int (nI v)), (3, .int (nI (rf l))), (2, .int (nI (pf l))), (0, .ref 63), (1, .int (nI l))] [] hZ 0 0) := by
    intro iN hiN hZ xX FX v s hX hN h59 h60 h11 hres
    refine step.1 _ _ _ _ _ _ _ sgX12_visits_116_ok ?_
    refine ⟨fun c118 => ?_, fun c118 => ?_⟩
    · have d118 : ¬ rf l = 2 := fun q => c118 (by rw [q]; rfl)
      exact at134 hZ xX FX v s hX hN h59 h11 (by rw [← hres, es2, if_neg (fun z => d118 z.2)])
    · have d118 : rf l = 2 := (nI_eq (b := 2) (by omega) (by decide)).mp c118
      refine ⟨by decide, _, _, hX.1.1, rfl, ?_⟩
      refine ⟨fun c125 => ?_, fun c125 => ?_⟩
      · have d125 : s.1 = true := qb_1.mp (by rw [← h59]; exact c125)
        exact at134 hZ xX FX v s hX hN h59 h11 (by rw [← hres, es2, if_neg (fun z => by rw [d125] at z; exact absurd z.1 (by decide))])
      · have d125 : s.1 = false := qb_0.mp (by rw [← h59]; exact c125)
        refine Or.inl ⟨rfl, _, 2, 0, 0, _, _, _, qi_12_507, ⟨rfl, rfl⟩, ⟨hX.1.1, rfl⟩, rfl, rfl, M_stepR hg hX.1 (hX.R hR) hpl hn hN (i := iN) h60 (by rw [h59, d125]; rfl), fun y131 h131 hy131 => ?_⟩
        obtain ⟨rfl, x1, F1, hZ1, hN1, k59, k60⟩ := hy131
        have hX1 := hX.tr hZ1
        exact at134 h131 x1 F1 v _ hX1 hN1 k59 ((ering_11 _ _ _ _).trans h11) (by rw [← hres, es2, if_pos ⟨d125, d118⟩])
  have at44 : ∀ (h1 : qH) (iN : Bool), iN = (decide (ebits (e 3) < S.2.1.1 (pf l * 10 + 3))) → MX h1 (upd x 57 (eseed (x 57))) y F G → kp h h1 → run 44 [(3, .int (nI (rf l))), (2, .int (nI (pf l))), (0, .ref 63), (1, .int (nI l))] [.int (qb iN), .ref 63] h1 0 0 := by
    intro h1 iN hiN hM1 hk1
    have at116 := main iN hiN
    have hess : (estay (fun z => vgift S.2.1.1 S.2.2.2.2.1.1.1 S.2.2.2.2.1.1.2.1 S.2.2.2.2.1.1.2.2 (nI S.2.2.2.1.2) (pf l) z (nI l)) S.2.1.1 S.2.1.2.2.2.2.2.2.2.1 (fun z => esing S.2.1.1 S.2.2.2.2.1.2.1 S.2.2.2.2.1.2.2.1 S.2.2.2.2.1.2.2.2 (nI S.2.2.2.1.2) (pf l) (nI l) (nI (vf l)) z) (pf l) (rf l) e) = es4 S.2.1.1 (pf l) (es3 (fun z => vgift S.2.1.1 S.2.2.2.2.1.1.1 S.2.2.2.2.1.1.2.1 S.2.2.2.2.1.1.2.2 (nI S.2.2.2.1.2) (pf l) z (nI l)) S.2.1.1 (pf l) (es2 S.2.1.1 (pf l) iN (rf l) (evs (everse S.2.1.1 S.2.1.2.2.2.2.2.2.2.1 (pf l) iN) (fun z => esing S.2.1.1 S.2.2.2.2.1.2.1 S.2.2.2.2.1.2.2.1 S.2.2.2.2.1.2.2.2 (nI S.2.2.2.1.2) (pf l) (nI l) (nI (vf l)) z) 5 (if rf l = 1 then ering S.2.1.1 (pf l) iN (ecame S.2.1.1 (pf l) e) else (false, ecame S.2.1.1 (pf l) e))))) := by rw [hiN]; rfl
    have loop : ∀ (f v : Nat) (s : eS) (hZ : qH) (xX : Nat → Int32) (FX : Nat → Nat → Int32), f + v = 5 → QZ h hZ x F G xX y FX → NE s.2 xX (FX 89) → xX 59 = qb s.1 → xX 60 = qb iN → s.2 11 = nI v → es4 S.2.1.1 (pf l) (es3 (fun z => vgift S.2.1.1 S.2.2.2.2.1.1.1 S.2.2.2.2.1.1.2.1 S.2.2.2.2.1.1.2.2 (nI S.2.2.2.1.2) (pf l) z (nI l)) S.2.1.1 (pf l) (es2 S.2.1.1 (pf l) iN (rf l) (evs (everse S.2.1.1 S.2.1.2.2.2.2.2.2.2.1 (pf l) iN) (fun z => esing S.2.1.1 S.2.2.2.2.1.2.1 S.2.2.2.2.1.2.2.1 S.2.2.2.2.1.2.2.2 (nI S.2.2.2.1.2) (pf l) (nI l) (nI (vf l)) z) f s))) = (estay (fun z => vgift S.2.1.1 S.2.2.2.2.1.1.1 S.2.2.2.2.1.1.2.1 S.2.2.2.2.1.1.2.2 (nI S.2.2.2.1.2) (pf l) z (nI l)) S.2.1.1 S.2.1.2.2.2.2.2.2.2.1 (fun z => esing S.2.1.1 S.2.2.2.2.1.2.1 S.2.2.2.2.1.2.2.1 S.2.2.2.2.1.2.2.2 (nI S.2.2.2.1.2) (pf l) (nI l) (nI (vf l)) z) (pf l) (rf l) e) → run 87 [(4, .int (nI v)), (3, .int (nI (rf l))), (2, .int (nI (pf l))), (0, .ref 63), (1, .int (nI l))] [] hZ 0 0 := by
      intro f
      induction f with
      | zero =>
        intro v s hZ xX FX hf hX hN h59 h60 h11 hres
        refine step.1 _ _ _ _ _ _ _ sgX12_visits_87_ok ?_
        refine ⟨by decide, _, _, hX.1.1, rfl, ?_⟩
        refine ⟨fun c91 => ?_, fun c91 => ?_⟩
        · have d91 : s.1 = true := qb_1.mp (by rw [← h59]; exact c91)
          exact at116 hZ xX FX v s hX hN h59 h60 h11 (by rw [← hres]; rfl)
        · have d91 : s.1 = false := qb_0.mp (by rw [← h59]; exact c91)
          refine Or.inl ⟨rfl, _, 3, 0, 0, _, _, _, qi_12_511, ⟨rfl, rfl⟩, ⟨hX.1.1, rfl⟩, rfl, rfl, M_singsOn hg hX.1 (hX.R hR) hP hI hpn hl hl2 (l := l) (v := v) hll (by omega) hN, fun y98 h98 hy98 => ?_⟩
          obtain ⟨rfl, hQ⟩ := hy98
          obtain ⟨F3, hZ3, e89⟩ := hQ.z
          have hX0 := hX
          have hX := hX.tr hZ3
          have hN : NE s.2 xX (F3 89) := by rw [e89]; exact hN
          have hsb : (if S.2.2.2.2.1.2.2.2 = 0 then decide (nI v < nI (vf l)) else if v = 5 then false else decide (0 < lworth S.2.2.2.2.1.2.1 S.2.2.2.2.1.2.2.1 (vnm S.2.1.1 (nI S.2.2.2.1.2) (pf l) (nI v) (nI l) (s.2 6) (s.2 4) (nI (vf l))) 0 S.2.2.2.2.1.2.2.2 0 (fun _ => 0))) = false := by
            have hv5 : v = 5 := by omega
            by_cases q : S.2.2.2.2.1.2.2.2 = 0
            · rw [if_pos q]
              exact decide_eq_false (Int32.not_lt.mpr (nI_le (by have := (hP l hll).2.1.2; omega) (by omega)))
            · rw [if_neg q, if_pos hv5]
          refine ⟨fun c101 => ?_, fun c101 => absurd (show qb (if S.2.2.2.2.1.2.2.2 = 0 then decide (nI v < nI (vf l)) else if v = 5 then false else decide (0 < lworth S.2.2.2.2.1.2.1 S.2.2.2.2.1.2.2.1 (vnm S.2.1.1 (nI S.2.2.2.1.2) (pf l) (nI v) (nI l) (s.2 6) (s.2 4) (nI (vf l))) 0 S.2.2.2.2.1.2.2.2 0 (fun _ => 0))) = 0 by rw [hsb]; rfl) c101⟩
          have d101 : (if S.2.2.2.2.1.2.2.2 = 0 then decide (nI v < nI (vf l)) else if v = 5 then false else decide (0 < lworth S.2.2.2.2.1.2.1 S.2.2.2.2.1.2.2.1 (vnm S.2.1.1 (nI S.2.2.2.1.2) (pf l) (nI v) (nI l) (s.2 6) (s.2 4) (nI (vf l))) 0 S.2.2.2.2.1.2.2.2 0 (fun _ => 0))) = false := qb_0.mp c101
          exact at116 h98 xX F3 v s hX hN h59 h60 h11 (by rw [← hres]; rfl)
      | succ f ih =>
        intro v s hZ xX FX hf hX hN h59 h60 h11 hres
        refine step.1 _ _ _ _ _ _ _ sgX12_visits_87_ok ?_
        refine ⟨by decide, _, _, hX.1.1, rfl, ?_⟩
        refine ⟨fun c91 => ?_, fun c91 => ?_⟩
        · have d91 : s.1 = true := qb_1.mp (by rw [← h59]; exact c91)
          exact at116 hZ xX FX v s hX hN h59 h60 h11 (by rw [← hres]; show _ = es4 _ _ (es3 _ _ _ (es2 _ _ _ _ (if s.1 then s else _))); rw [d91]; rfl)
        · have d91 : s.1 = false := qb_0.mp (by rw [← h59]; exact c91)
          refine Or.inl ⟨rfl, _, 3, 0, 0, _, _, _, qi_12_511, ⟨rfl, rfl⟩, ⟨hX.1.1, rfl⟩, rfl, rfl, M_singsOn hg hX.1 (hX.R hR) hP hI hpn hl hl2 (l := l) (v := v) hll (by omega) hN, fun y98 h98 hy98 => ?_⟩
          obtain ⟨rfl, hQ⟩ := hy98
          obtain ⟨F3, hZ3, e89⟩ := hQ.z
          have hX0 := hX
          have hX := hX.tr hZ3
          have hN : NE s.2 xX (F3 89) := by rw [e89]; exact hN
          refine ⟨fun c101 => ?_, fun c101 => ?_⟩
          · have d101 : (if S.2.2.2.2.1.2.2.2 = 0 then decide (nI v < nI (vf l)) else if v = 5 then false else decide (0 < lworth S.2.2.2.2.1.2.1 S.2.2.2.2.1.2.2.1 (vnm S.2.1.1 (nI S.2.2.2.1.2) (pf l) (nI v) (nI l) (s.2 6) (s.2 4) (nI (vf l))) 0 S.2.2.2.2.1.2.2.2 0 (fun _ => 0))) = false := qb_0.mp c101
            have hsg : ((fun z => esing S.2.1.1 S.2.2.2.2.1.2.1 S.2.2.2.2.1.2.2.1 S.2.2.2.2.1.2.2.2 (nI S.2.2.2.1.2) (pf l) (nI l) (nI (vf l)) z)) s.2 = (if S.2.2.2.2.1.2.2.2 = 0 then decide (nI v < nI (vf l)) else if v = 5 then false else decide (0 < lworth S.2.2.2.2.1.2.1 S.2.2.2.2.1.2.2.1 (vnm S.2.1.1 (nI S.2.2.2.1.2) (pf l) (nI v) (nI l) (s.2 6) (s.2 4) (nI (vf l))) 0 S.2.2.2.2.1.2.2.2 0 (fun _ => 0))) := by
              show esing _ _ _ _ _ _ _ _ s.2 = _
              unfold esing
              rw [h11, if_neg (show ¬ v = 5 by omega)]
            exact at116 h98 xX F3 v s hX hN h59 h60 h11 (by rw [← hres]; show _ = es4 _ _ (es3 _ _ _ (es2 _ _ _ _ (if s.1 then s else if ((fun z => esing S.2.1.1 S.2.2.2.2.1.2.1 S.2.2.2.2.1.2.2.1 S.2.2.2.2.1.2.2.2 (nI S.2.2.2.1.2) (pf l) (nI l) (nI (vf l)) z)) s.2 then _ else s))); rw [d91, hsg, d101]; rfl)
          · have d101 : (if S.2.2.2.2.1.2.2.2 = 0 then decide (nI v < nI (vf l)) else if v = 5 then false else decide (0 < lworth S.2.2.2.2.1.2.1 S.2.2.2.2.1.2.2.1 (vnm S.2.1.1 (nI S.2.2.2.1.2) (pf l) (nI v) (nI l) (s.2 6) (s.2 4) (nI (vf l))) 0 S.2.2.2.2.1.2.2.2 0 (fun _ => 0))) = true := qb_1.mp c101
            have hsg : ((fun z => esing S.2.1.1 S.2.2.2.2.1.2.1 S.2.2.2.2.1.2.2.1 S.2.2.2.2.1.2.2.2 (nI S.2.2.2.1.2) (pf l) (nI l) (nI (vf l)) z)) s.2 = (if S.2.2.2.2.1.2.2.2 = 0 then decide (nI v < nI (vf l)) else if v = 5 then false else decide (0 < lworth S.2.2.2.2.1.2.1 S.2.2.2.2.1.2.2.1 (vnm S.2.1.1 (nI S.2.2.2.1.2) (pf l) (nI v) (nI l) (s.2 6) (s.2 4) (nI (vf l))) 0 S.2.2.2.2.1.2.2.2 0 (fun _ => 0))) := by
              show esing _ _ _ _ _ _ _ _ s.2 = _
              unfold esing
              rw [h11, if_neg (show ¬ v = 5 by omega)]
            refine Or.inl ⟨rfl, _, 2, 0, 0, _, _, _, qi_12_507, ⟨rfl, rfl⟩, ⟨hX.1.1, rfl⟩, rfl, rfl, M_stepV hg hX.1 (hX.R hR) hpl hn hN (i := iN) h60 (by rw [h59, d91]; rfl), fun y107 h107 hy107 => ?_⟩
            obtain ⟨rfl, x1, F1, hZ1, hN1, k59, k60⟩ := hy107
            have hX1 := hX.tr hZ1
            have kk := ih (v + 1) (everse S.2.1.1 S.2.1.2.2.2.2.2.2.2.1 (pf l) iN s.2) h107 x1 F1 (by omega) hX1 hN1 k59 (k60.trans h60) (by rw [everse_11, h11, nI_1]) (by rw [← hres]; show _ = es4 _ _ (es3 _ _ _ (es2 _ _ _ _ (if s.1 then s else if ((fun z => esing S.2.1.1 S.2.2.2.2.1.2.1 S.2.2.2.2.1.2.2.1 S.2.2.2.2.1.2.2.2 (nI S.2.2.2.1.2) (pf l) (nI l) (nI (vf l)) z)) s.2 then _ else s))); rw [d91, hsg, d101]; rfl)
            rw [← nI_1] at kk
            exact kk
    refine step.1 _ _ _ _ _ _ _ sgX12_visits_44_ok ?_
    refine ⟨_, hM1.1, Nat.le_of_ble_eq_true rfl, (by cases iN <;> rfl), ?_⟩
    refine ⟨_, rfl, Nat.le_of_ble_eq_true rfl, rfl, ?_⟩
    refine ⟨by decide, _, _, rfl, rfl, ?_⟩
    refine ⟨⟨rfl, rfl⟩, ?_⟩
    refine ⟨_, _, hM1.c89, (vp_in_nI (n := 2) (N := 7) (by decide) (by decide) : vp_in (nI 2) 7), ?_⟩
    refine ⟨by decide, _, _, rfl, rfl, ?_⟩
    refine ⟨_, _, hM1.c67, (by rw [iy8]; exact vp_in_nI (n := pf l * 10 + 8) (N := 100) (by omega) (by decide)), ?_⟩
    refine ⟨_, _, hM1.c89, (vp_in_nI (n := 2) (N := 7) (by decide) (by decide) : vp_in (nI 2) 7), ?_⟩
    have hX : QZ h _ x F G (upd (upd (upd x 57 (eseed (x 57))) 60 (qb iN)) 59 0) y (fup F 89 (upd (F 89) 2 (F 89 2 + F 67 (10 * nI (pf l) + 8 : Int32).toNatClampNeg))) := ⟨(hM1.e63 (n := h1.1) (f := qup (qup h1.2 63 (.inl (12, (M63l (upd x 57 (eseed (x 57))) y).set 60 (.int (qb iN))))) 63 (.inl (12, ((M63l (upd x 57 (eseed (x 57))) y).set 60 (.int (qb iN))).set 59 (.int 0)))) rfl (fun j hj => by simp only [qup, if_neg hj]) (sI_59 (sI_60 rfl))).u89 _, ((mq.rf.ux (by decide)).ux (by decide)).ux (by decide) |>.uF (by decide), ((hk1.u (by decide) (by decide)).u (by decide) (by decide)).u (by decide) (by decide)⟩
    have hN : NE (ecame S.2.1.1 (pf l) e) (upd (upd (upd x 57 (eseed (x 57))) 60 (qb iN)) 59 0) (upd (F 89) 2 (F 89 2 + F 67 (10 * nI (pf l) + 8 : Int32).toNatClampNeg)) := ⟨(show eseed (x 57) = eseed (e 3) by rw [n0]), n1, n2, (show F 89 2 + F 67 (10 * nI (pf l) + 8 : Int32).toNatClampNeg = e 6 + S.2.1.1 (pf l * 10 + 8) by rw [n3, gy8]), n4, n5, n6, n7⟩
    refine ⟨fun c78 => ?_, fun c78 => ?_⟩
    · have d78 : ¬ rf l = 1 := fun q => c78 (by rw [q]; rfl)
      exact loop 5 0 (false, (ecame S.2.1.1 (pf l) e)) _ _ _ (by omega) hX hN rfl rfl rfl (by rw [hess, if_neg d78])
    · have d78 : rf l = 1 := (nI_eq (b := 1) (by omega) (by decide)).mp c78
      refine Or.inl ⟨rfl, _, 2, 0, 0, _, _, _, qi_12_507, ⟨rfl, rfl⟩, ⟨hX.1.1, rfl⟩, rfl, rfl, M_stepR hg hX.1 (hX.R hR) hpl hn hN (i := iN) rfl rfl, fun y84 h84 hy84 => ?_⟩
      obtain ⟨rfl, x3, F3, hZ1, hN1, k59, k60⟩ := hy84
      have hX1 := hX.tr hZ1
      exact loop 5 0 (ering S.2.1.1 (pf l) iN (ecame S.2.1.1 (pf l) e)) h84 x3 F3 (by omega) hX1 hN1 k59 (k60.trans rfl) (ering_11 _ _ _ _) (by rw [hess, if_pos d78])
  refine step.1 _ _ _ _ _ _ _ sgX12_visits_0_ok ?_
  refine ⟨by decide, _, _, hM.1, rfl, ?_⟩
  refine ⟨_, _, hM.c78, (by rw [j0]; exact vp_in_nI (n := l * 3 + 0) (N := 30) (by omega) (by decide)), ?_⟩
  refine ⟨by decide, _, _, hM.1, rfl, ?_⟩
  refine ⟨_, _, hM.c78, (by rw [j2]; exact vp_in_nI (n := l * 3 + 2) (N := 30) (by omega) (by decide)), ?_⟩
  refine Or.inl ⟨rfl, _, 1, 0, 0, _, _, _, qi_12_501, ⟨rfl, rfl⟩, ⟨hM.1, rfl⟩, rfl, rfl, M_draws hg hM, fun y22 h22 hy22 => ?_⟩
  obtain ⟨rfl, hM1, hk1⟩ := hy22
  refine ⟨by decide, _, _, hM1.1, rfl, ?_⟩
  refine ⟨_, _, hM1.c67, (by rw [f0, iy3]; exact vp_in_nI (n := pf l * 10 + 3) (N := 100) (by omega) (by decide)), ?_⟩
  refine ⟨fun c36 => ?_, fun c36 => ?_⟩
  · have d36 : decide (ebits (e 3) < S.2.1.1 (pf l * 10 + 3)) = false := decide_eq_false (Int32.not_lt.mpr (by rw [← n0, ← gy3, ← f0]; exact c36))
    refine step.1 _ _ _ _ _ _ _ sgX12_visits_43_ok ?_
    rw [f0, f2]
    exact at44 h22 false d36.symm hM1 hk1
  · have d36 : decide (ebits (e 3) < S.2.1.1 (pf l * 10 + 3)) = true := decide_eq_true (Int32.not_le.mp (fun q => c36 (by rw [f0, n0]; exact (show F 67 _ ≤ _ from by rw [gy3]; exact q))))
    rw [f0, f2]
    exact at44 h22 true d36.symm hM1 hk1
end Q12E
