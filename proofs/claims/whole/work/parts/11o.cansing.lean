section Q11O
theorem add4 (B : Nat → Int32) (z : Int32) {q : Nat} (hq : q ≤ 3) : B 0 + B 1 + B 2 + B 3 + z = upd B q (B q + z) 0 + upd B q (B q + z) 1 + upd B q (B q + z) 2 + upd B q (B q + z) 3 := by
  have e : ∀ j : Nat, upd B q (B q + z) j = if j = q then B q + z else B j := fun _ => rfl
  rw [e, e, e, e]
  rcases (show q = 0 ∨ q = 1 ∨ q = 2 ∨ q = 3 by omega) with rfl | rfl | rfl | rfl
  · rw [if_pos rfl, if_neg (by decide), if_neg (by decide), if_neg (by decide)]; generalize B 0 = a; generalize B 1 = b; generalize B 2 = c; generalize B 3 = d; grind
  · rw [if_neg (by decide), if_pos rfl, if_neg (by decide), if_neg (by decide)]; generalize B 0 = a; generalize B 1 = b; generalize B 2 = c; generalize B 3 = d; grind
  · rw [if_neg (by decide), if_neg (by decide), if_pos rfl, if_neg (by decide)]; generalize B 0 = a; generalize B 1 = b; generalize B 2 = c; generalize B 3 = d; grind
  · rw [if_neg (by decide), if_neg (by decide), if_neg (by decide), if_pos rfl]; generalize B 0 = a; generalize B 1 = b; generalize B 2 = c; generalize B 3 = d; grind
theorem csung_n {Q : Nat → Int32} {p v mi : Int32} {i : Nat} (h : ¬ cthere Q i mi = true) : csung Q p v mi 0 (i + 1) 0 = csung Q p v mi 0 i 0 := by
  rw [csung_s, Nat.zero_add, if_neg h]
  split <;> rfl
set_option maxHeartbeats 2000000 in
theorem M_canSing {g : qG} (hg : qOK g) {h : qH} {x : Nat → Int32} {y : Nat → Int64} {F : Nat → Nat → Int32} {G : Nat → Nat → Int64} (hM : MX h x y F G) {S : CS} (hR : Rel S x F) (hQ : QOK S.2.2.2.1.1 S.2.2.2.1.2) (h93 : 93 ≤ h.1) (v mm mi sp : Int32) {nd th : Nat} (hnb : nd < 16) (htb : th < 256) (hnd : ∀ p : Nat, p < 4 → nd.testBit p = (!decide (nI p = sp) && cneed S.2.2.2.1.1 (nI p) 0 S.2.2.2.1.2)) (hth : ∀ i : Nat, i < S.2.2.2.1.2 → th.testBit i = cthere S.2.2.2.1.1 i mi) : qSpec g 1 1 4 mX12_canSing [.ref 63, .int v, .int mm, .int (nI nd), .int (nI th)] h (fun r h' => r = some (.int (qb (ccan S.2.2.2.1.1 S.2.2.2.1.2 v mm mi sp 0 4 0))) ∧ h'.1 = h.1 + 1 ∧ MX h' x y F G ∧ kp h h') := by
  refine qSpec_run 12 "canSing" false hg mX12_canSing_ok rfl rfl (Nat.le_of_ble_eq_true rfl) (by decide) ?_
  intro run step
  have e20 : x 20 = nI S.2.2.2.1.2 := hR.1.2.2.2.1
  have hM8 : S.2.2.2.1.2 ≤ 8 := hQ.1
  have fin : ∀ (al : Int32) (B : Nat → Int32) (hX : qH), al = B 0 + B 1 + B 2 + B 3 → (∀ p : Nat, p < 4 → B p = (csung S.2.2.2.1.1 (nI p) v mi 0 S.2.2.2.1.2 0)) → MX hX x y F G → hX.2 h.1 = some (aI' 4 B) → hX.1 = h.1 + 1 → kp h hX → run 109 [(7, .int (nI S.2.2.2.1.2)), (6, .ref h.1), (5, .int al), (0, .ref 63), (1, .int v), (2, .int mm), (3, .int (nI nd)), (4, .int (nI th))] [] hX 1 4 := by
    intro al B hX hal hB hMX hBy hX1 hkX
    have hXm : hX.1 = h.1 + 1 ∧ MX hX x y F G ∧ kp h hX := ⟨hX1, hMX, hkX⟩
    have loop2 : ∀ (m p : Nat) (c : Bool), p + m = 4 → qb (c && okr B (fun q => nd.testBit q) v p m) = qb (ccan S.2.2.2.1.1 S.2.2.2.1.2 v mm mi sp 0 4 0) → run 127 [(8, .int (nI p)), (7, .int (qb c)), (6, .ref h.1), (1, .int v), (3, .int (nI nd))] [] hX 1 4 := by
      intro m
      induction m with
      | zero =>
        intro p c hp hres
        refine step.1 _ _ _ _ _ _ _ sgX12_canSing_127_ok ?_
        refine ⟨fun c130 => ?_, fun c130 => absurd (show (4 : Int32) ≤ nI p from by rw [show p = 4 by omega]; exact Int32.le_refl _) c130⟩
        
        refine step.1 _ _ _ _ _ _ _ sgX12_canSing_169_ok ?_
        refine ⟨.boolean, rfl, qb_n c, (by omega), (by omega), ?_⟩
        refine ⟨?_, hXm⟩
        refine congrArg (fun z => some (Value.int z)) ?_
        rw [← hres]
        show qb c = qb (c && true)
        rw [Bool.and_true]
      | succ m ih =>
        intro p c hp hres
        have at161 : ∀ z : Bool, z = (c && (!(decide (B p < v) && nd.testBit p))) → run 161 [(8, .int (nI p)), (7, .int (qb c)), (6, .ref h.1), (1, .int v), (3, .int (nI nd))] [.int (qb z)] hX 1 4 := by
          intro z hz
          refine step.1 _ _ _ _ _ _ _ sgX12_canSing_161_ok ?_
          have kk := ih (p + 1) z (by omega) (by rw [← hres, hz, Bool.and_assoc]; rfl)
          rw [← nI_1] at kk
          exact kk
        have hbit := b_bit (b := nd) (i := p) (by omega) (by omega)
        refine step.1 _ _ _ _ _ _ _ sgX12_canSing_127_ok ?_
        refine ⟨fun c130 => absurd (show nI 4 ≤ nI p from c130) (h_nle (by omega) (by decide)), fun c130 => ?_⟩
        
        refine ⟨fun c135 => ?_, fun c135 => ?_⟩
        · have d135 : c = false := qb_0.mp c135
          refine step.1 _ _ _ _ _ _ _ sgX12_canSing_160_ok ?_
          exact at161 false (by rw [d135]; rfl)
        · have d135 : c = true := qb_1.mp c135
          refine ⟨fun c144 => ?_, fun c144 => ?_⟩
          · have d144 : ¬ nd.testBit p = true := fun q => by
              rw [hbit, if_pos q] at c144
              exact absurd c144 (by decide)
            refine step.1 _ _ _ _ _ _ _ sgX12_canSing_156_ok ?_
            exact at161 true (by rw [d135, show nd.testBit p = false from by simpa using d144, Bool.and_false]; rfl)
          · have d144 : nd.testBit p = true := by
              by_cases q : nd.testBit p = true
              · exact q
              · rw [hbit, if_neg q] at c144
                exact absurd rfl c144
            refine ⟨_, _, hBy, (vp_in_nI (n := p) (N := 4) (by omega) (by decide)), ?_⟩
            refine ⟨fun c153 => ?_, fun c153 => ?_⟩
            · have d153 : B p < v := by rw [h_tn (n := p) (by omega)] at c153; exact c153
              refine step.1 _ _ _ _ _ _ _ sgX12_canSing_160_ok ?_
              exact at161 false (by rw [d135, d144, decide_eq_true d153]; rfl)
            · have d153 : ¬ B p < v := by rw [h_tn (n := p) (by omega)] at c153; exact c153
              refine step.1 _ _ _ _ _ _ _ sgX12_canSing_156_ok ?_
              exact at161 true (by rw [d135, decide_eq_false d153]; rfl)
    have hcc : (ccan S.2.2.2.1.1 S.2.2.2.1.2 v mm mi sp 0 4 0) = (okr B (fun q => nd.testBit q) v 0 4 && decide (mm * v ≤ al)) := by
      rcases ccan_e S.2.2.2.1.1 S.2.2.2.1.2 v mm mi sp 4 0 0 with q | q
      · rw [q, hal]
        have e : ∀ p : Nat, p < 4 → csung S.2.2.2.1.1 (nI p) v mi 0 S.2.2.2.1.2 0 = B p := fun p hp => (hB p hp).symm
        have e0 := e 0 (by decide)
        have e1 := e 1 (by decide)
        have e2 := e 2 (by decide)
        have e3 := e 3 (by decide)
        have n0 := hnd 0 (by decide)
        have n1 := hnd 1 (by decide)
        have n2 := hnd 2 (by decide)
        have n3 := hnd 3 (by decide)
        simp only [okr, Nat.zero_add, Nat.reduceAdd, e0, e1, e2, e3, Int32.zero_add, n0, n1, n2, n3]
      · omega
    have at122 : ∀ c : Bool, decide (mm * v ≤ al) = c → run 122 [(6, .ref h.1), (1, .int v), (3, .int (nI nd)), (5, .int al), (0, .ref 63), (2, .int mm), (4, .int (nI th))] [.int (qb c)] hX 1 4 := by
      intro c hcm
      have hc : (c && okr B (fun q => nd.testBit q) v 0 4) = (ccan S.2.2.2.1.1 S.2.2.2.1.2 v mm mi sp 0 4 0) := by rw [hcc, hcm, Bool.and_comm]
      refine step.1 _ _ _ _ _ _ _ sgX12_canSing_122_ok ?_
      refine step.2 _ _ _ _ _ _ _ (qsub_cons 0 rfl (qsub_cons 1 rfl (qsub_cons 2 rfl (qsub_cons 3 rfl (qsub_cons 4 rfl qsub_nil))))) ?_
      exact loop2 4 0 c rfl (by rw [hc])
    refine step.1 _ _ _ _ _ _ _ sgX12_canSing_109_ok ?_
    refine ⟨fun c114 => ?_, fun c114 => ?_⟩
    · have d114 : decide (mm * v ≤ al) = false := decide_eq_false (Int32.not_le.mpr c114)
      refine step.1 _ _ _ _ _ _ _ sgX12_canSing_121_ok ?_
      refine step.2 _ _ _ _ _ _ _ (qsub_cons 1 rfl (qsub_cons 4 rfl (qsub_cons 6 rfl (qsub_cons 2 rfl (qsub_cons 3 rfl (qsub_cons 5 rfl (qsub_cons 7 rfl qsub_nil))))))) ?_
      exact at122 false d114
    · have d114 : decide (mm * v ≤ al) = true := decide_eq_true (Int32.not_lt.mp c114)
      refine step.2 _ _ _ _ _ _ _ (qsub_cons 1 rfl (qsub_cons 4 rfl (qsub_cons 6 rfl (qsub_cons 2 rfl (qsub_cons 3 rfl (qsub_cons 5 rfl (qsub_cons 7 rfl qsub_nil))))))) ?_
      exact at122 true d114
  have loop : ∀ (m i : Nat) (al : Int32) (B : Nat → Int32) (hX : qH), i + m = S.2.2.2.1.2 → (∀ p : Nat, p < 4 → B p = (csung S.2.2.2.1.1 (nI p) v mi 0 i 0)) → al = B 0 + B 1 + B 2 + B 3 → MX hX x y F G → hX.2 h.1 = some (aI' 4 B) → hX.1 = h.1 + 1 → kp h hX → run 27 [(7, .int (nI i)), (6, .ref h.1), (5, .int al), (0, .ref 63), (1, .int v), (2, .int mm), (3, .int (nI nd)), (4, .int (nI th))] [] hX 1 4 := by
    intro m
    induction m with
    | zero =>
      intro i al B hX hi hB hal hMX hBy hX1 hkX
      refine step.1 _ _ _ _ _ _ _ sgX12_canSing_27_ok ?_
      refine ⟨by decide, _, _, hMX.1, rfl, ?_⟩
      refine ⟨fun c33 => ?_, fun c33 => absurd (show x 20 ≤ nI i from by rw [e20]; exact nI_le (by omega) (by omega)) c33⟩
      
      obtain rfl : i = S.2.2.2.1.2 := by omega
      exact fin al B hX hal hB hMX hBy hX1 hkX
    | succ m ih =>
      intro i al B hX hi hB hal hMX hBy hX1 hkX
      have at75 : ∀ z : Int32, cthere S.2.2.2.1.1 i mi = true → z = (if v ≤ S.2.2.2.1.1 (i * 4 + 0) then v else S.2.2.2.1.1 (i * 4 + 0)) → run 75 [(7, .int (nI i)), (6, .ref h.1), (5, .int al), (0, .ref 63), (1, .int v), (2, .int mm), (3, .int (nI nd)), (4, .int (nI th))] [.int z] hX 1 4 := by
        intro z d43 hz
        have j1 : (4 * nI i + 1 : Int32) = nI (i * 4 + 1) := ixk (k := 4) (w := 1)
        have g1 : F 69 (4 * nI i + 1 : Int32).toNatClampNeg = S.2.2.2.1.1 (i * 4 + 1) := by rw [j1, h_tn (n := i * 4 + 1) (by omega)]; exact hR.q (by omega) (by decide)
        have hpt := hQ.pt (a := i) (by omega)
        refine step.1 _ _ _ _ _ _ _ sgX12_canSing_75_ok ?_
        refine ⟨by decide, _, _, hMX.1, rfl, ?_⟩
        refine ⟨_, _, hMX.c69, (by rw [j1]; exact vp_in_nI (n := i * 4 + 1) (N := 32) (by omega) (by decide)), ?_⟩
        refine ⟨⟨rfl, rfl⟩, ?_⟩
        refine ⟨_, _, hBy, (by rw [g1, hpt.1]; exact vp_in_nI (n := qpt S.2.2.2.1.1 i) (N := 4) (by omega) (by decide)), ?_⟩
        refine ⟨_, _, hBy, (by rw [g1, hpt.1]; exact vp_in_nI (n := qpt S.2.2.2.1.1 i) (N := 4) (by omega) (by decide)), ?_⟩
        rw [g1, hpt.1, h_tn (n := qpt S.2.2.2.1.1 i) (by omega)]
        refine step.1 _ _ _ _ _ _ _ sgX12_canSing_103_ok ?_
        refine step.2 _ _ _ _ _ _ _ (qsub_cons 0 rfl (qsub_cons 3 rfl (qsub_cons 1 rfl (qsub_cons 4 rfl (qsub_cons 5 rfl (qsub_cons 6 rfl (qsub_cons 7 rfl (qsub_cons 8 rfl qsub_nil)))))))) ?_
        have kk := fun hZ => ih (i + 1) (al + z) (upd B (qpt S.2.2.2.1.1 i) (B (qpt S.2.2.2.1.1 i) + z)) hZ (by omega)
        rw [← nI_1] at kk
        refine kk _ (fun p hp => ?_) ?_ (hMX.hi (by omega)) qup_s hX1 (hkX.hi (by rw [hX1]; omega) (by omega))
        · rw [csung_s, Nat.zero_add]
          by_cases c : p = qpt S.2.2.2.1.1 i
          · subst c
            rw [upd_s, if_pos hpt.1, if_pos d43, ← hz, hB _ hp]
          · rw [upd_n c, if_neg (fun q => c ((nI_eq (by omega) (by omega)).mp (hpt.1.symm.trans q)).symm), hB p hp]
        · rw [hal]
          exact add4 B z hpt.2
      have j0 : (4 * nI i : Int32) = nI (i * 4 + 0) := by rw [Int32.mul_comm]; exact pk_mul i 4
      have g0 : F 69 (4 * nI i : Int32).toNatClampNeg = S.2.2.2.1.1 (i * 4 + 0) := by rw [j0, h_tn (n := i * 4 + 0) (by omega)]; exact hR.q (by omega) (by decide)
      have j1 : (4 * nI i + 1 : Int32) = nI (i * 4 + 1) := ixk (k := 4) (w := 1)
      have g1 : F 69 (4 * nI i + 1 : Int32).toNatClampNeg = S.2.2.2.1.1 (i * 4 + 1) := by rw [j1, h_tn (n := i * 4 + 1) (by omega)]; exact hR.q (by omega) (by decide)
      have hpt := hQ.pt (a := i) (by omega)
      have hbit := b_bit (b := th) (i := i) (by omega) (by omega)
      refine step.1 _ _ _ _ _ _ _ sgX12_canSing_27_ok ?_
      refine ⟨by decide, _, _, hMX.1, rfl, ?_⟩
      refine ⟨fun c33 => absurd (show nI S.2.2.2.1.2 ≤ nI i from by rw [← e20]; exact c33) (h_nle (by omega) (by omega)), fun c33 => ?_⟩
      
      refine ⟨fun c43 => ?_, fun c43 => ?_⟩
      · have d43 : cthere S.2.2.2.1.1 i mi = true := by
          rw [← hth i (by omega)]
          by_cases q : th.testBit i = true
          · exact q
          · rw [hbit, if_neg q] at c43
            exact absurd rfl c43
        refine step.1 _ _ _ _ _ _ _ sgX12_canSing_49_ok ?_
        refine ⟨by decide, _, _, hMX.1, rfl, ?_⟩
        refine ⟨_, _, hMX.c69, (by rw [j0]; exact vp_in_nI (n := i * 4 + 0) (N := 32) (by omega) (by decide)), ?_⟩
        refine ⟨fun c59 => ?_, fun c59 => ?_⟩
        · have d59 : v ≤ S.2.2.2.1.1 (i * 4 + 0) := by rw [← g0]; exact c59
          refine step.1 _ _ _ _ _ _ _ sgX12_canSing_74_ok ?_
          exact at75 _ d43 (by rw [if_pos d59])
        · have d59 : ¬ v ≤ S.2.2.2.1.1 (i * 4 + 0) := fun q => c59 (by rw [g0]; exact q)
          refine ⟨by decide, _, _, hMX.1, rfl, ?_⟩
          refine ⟨_, _, hMX.c69, (by rw [j0]; exact vp_in_nI (n := i * 4 + 0) (N := 32) (by omega) (by decide)), ?_⟩
          exact at75 _ d43 (by rw [if_neg d59, g0])
      · have d43 : ¬ th.testBit i = true := fun q => by
          rw [hbit, if_pos q] at c43
          exact absurd c43 (by decide)
        refine step.1 _ _ _ _ _ _ _ sgX12_canSing_103_ok ?_
        have kk := ih (i + 1) al B hX (by omega) (fun p hp => by rw [hB p hp]; exact (csung_n (by rw [← hth i (by omega)]; exact d43)).symm) hal hMX hBy hX1 hkX
        rw [← nI_1] at kk
        exact kk
  refine step.1 _ _ _ _ _ _ _ sgX12_canSing_0_ok ?_
  refine ⟨_, _, rfl, by decide, by decide, rfl, Nat.le_of_ble_eq_true rfl, Nat.le_of_ble_eq_true rfl, Nat.le_of_ble_eq_true rfl, ?_⟩
  refine ⟨rfl, ?_⟩
  refine ⟨_, _, qup_s, (vp_in_nI (n := 0) (N := 4) (by decide) (by decide) : vp_in (nI 0) 4), ?_⟩
  refine ⟨rfl, ?_⟩
  refine ⟨_, _, qup_s, (vp_in_nI (n := 1) (N := 4) (by decide) (by decide) : vp_in (nI 1) 4), ?_⟩
  refine ⟨rfl, ?_⟩
  refine ⟨_, _, qup_s, (vp_in_nI (n := 2) (N := 4) (by decide) (by decide) : vp_in (nI 2) 4), ?_⟩
  refine ⟨rfl, ?_⟩
  refine ⟨_, _, qup_s, (vp_in_nI (n := 3) (N := 4) (by decide) (by decide) : vp_in (nI 3) 4), ?_⟩
  refine loop S.2.2.2.1.2 0 0 (upd (upd (upd (upd (fun _ => 0) 0 0) 1 0) 2 0) 3 0) _ (by omega) (fun p hp => ?_) rfl ((((((hM.hi (by omega)).hi (by omega)).hi (by omega)).hi (by omega)).hi (by omega))) qup_s rfl (((((kp.rf.hi (Nat.le_succ _) (by omega)).hi (Nat.le_succ _) (by omega)).hi (Nat.le_succ _) (by omega)).hi (Nat.le_succ _) (by omega)).hi (Nat.le_succ _) (by omega))
  rcases (show p = 0 ∨ p = 1 ∨ p = 2 ∨ p = 3 by omega) with rfl | rfl | rfl | rfl <;> rfl
end Q11O
