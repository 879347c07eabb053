section Q12V
theorem Rel.feed {S : CS} {x x' : Nat → Int32} {F F' : Nat → Nat → Int32} (hR : Rel S x F) {a b c d e : Int32} (hx : ∀ k : Nat, k ≠ 2 → x' k = x k) (h2' : x' 2 = nI (S.1.2.1 + 4 + 4 + 4 + 4 + 4)) (hF : ∀ j : Nat, j ≠ 65 → F' j = F j) (h65 : F' 65 = fbt (F 65) (bfeed S.1.1 S.1.2.1 a b c d e) S.1.2.1 20) : Rel ((bfeed S.1.1 S.1.2.1 a b c d e, S.1.2.1 + 4 + 4 + 4 + 4 + 4, S.1.2.2), S.2) x' F' := by
  obtain ⟨⟨h2, h8, h19, h20, h21, h22, h23', h36', h37, h62', h64'⟩, hbt, h3, hl, hy, hr, hm, hi⟩ := hR
  have ex := fun k hk => hx k hk
  have f := fun k hk => hF k hk
  unfold Rel
  rw [ex 8 (by decide), ex 19 (by decide), ex 20 (by decide), ex 21 (by decide), ex 22 (by decide), ex 23 (by decide), ex 36 (by decide), ex 37 (by decide), ex 62 (by decide), ex 64 (by decide), f 64 (by decide), f 67 (by decide), f 69 (by decide), f 72 (by decide), f 73 (by decide), f 74 (by decide), f 78 (by decide), f 80 (by decide), f 90 (by decide), f 91 (by decide), h2']
  refine ⟨⟨rfl, h8, h19, h20, h21, h22, h23', h36', h37, h62', h64'⟩, fun j hj => ?_, h3, hl, hy, hr, hm, hi⟩
  rw [h65]
  show fbt _ _ _ _ j = bfeed S.1.1 S.1.2.1 a b c d e j &&& 255
  unfold fbt
  by_cases q : S.1.2.1 ≤ j ∧ j < S.1.2.1 + 20
  · rw [if_pos q]
  · rw [if_neg q, bfeed_e, if_neg q]
    exact hbt j hj
theorem INV.feed {S : CS} (hI : INV S) {B : Nat → Int32} {n : Nat} (hn : n ≤ 600) (p : Int32) : INV ((B, n, p), S.2) := ⟨hn, hI.2⟩
set_option maxHeartbeats 2000000 in
theorem M_feed {g : qG} (hg : qOK g) {h : qH} {x : Nat → Int32} {y : Nat → Int64} {F : Nat → Nat → Int32} {G : Nat → Nat → Int64} (hM : MX h x y F G) {S : CS} (hR : Rel S x F) (hI : INV S) (a b c d e : Int32) : qSpec g 1 0 0 mX12_feed [.ref 63, .int a, .int b, .int c, .int d, .int e] h (fun r h' => (if 600 < S.1.2.1 + 20 then r = some (.int (-1)) ∧ MG h h' S else r = some (.int (nI (S.1.2.1 + 4 + 4 + 4 + 4 + 4))) ∧ MG h h' ((bfeed S.1.1 S.1.2.1 a b c d e, S.1.2.1 + 4 + 4 + 4 + 4 + 4, S.1.2.2), S.2))) := by
  refine qSpec_run 12 "feed" false hg mX12_feed_ok rfl rfl (Nat.le_of_ble_eq_true rfl) (by decide) ?_
  intro run step
  have hhe := hI.1
  have e2 : x 2 = nI S.1.2.1 := hR.1.1
  have ecap : ((upd x 0 0) 2 + 20 : Int32) = nI (S.1.2.1 + 20) := by show (x 2 + 20 : Int32) = _; rw [e2]; exact nI_add _ 20
  refine step.1 _ _ _ _ _ _ _ sgX12_feed_0_ok ?_
  refine ⟨_, hM.1, Nat.le_of_ble_eq_true rfl, rfl, ?_⟩
  have hM0 := hM.p63 (sI_0 (v := 0) (rfl : _ = M63l x y))
  have hR0 : Rel S (upd x 0 0) F := hR.t 0
  have hk0 := kp.rf (h := h) |>.u (k := 63) (e := .inl (12, (M63l x y).set 0 (.int 0))) (by decide) (by decide)
  refine ⟨by decide, _, _, hM0.1, rfl, ?_⟩
  refine ⟨fun c15 => ?_, fun c15 => ?_⟩
  · have dcap : ¬ 600 < S.1.2.1 + 20 := fun q => h_nle (a := 600) q (by omega) (by rw [← ecap]; exact c15)
    refine step.1 _ _ _ _ _ _ _ sgX12_feed_20_ok ?_
    have loop : ∀ (m i : Nat) (hX : qH), i + m = 20 → MX hX (upd (upd x 0 0) 2 (nI (S.1.2.1 + i))) y (fup F 65 (fbt (F 65) (bfeed S.1.1 S.1.2.1 a b c d e) S.1.2.1 i)) G → kp h hX → run 23 [(6, .int (nI i)), (0, .ref 63), (1, .int a), (2, .int b), (3, .int c), (4, .int d), (5, .int e)] [] hX 0 0 := by
      intro m
      induction m with
      | zero =>
        intro i hX hi hMX hkX
        refine step.1 _ _ _ _ _ _ _ sgX12_feed_23_ok ?_
        refine ⟨fun c27 => ?_, fun c27 => absurd (show (20 : Int32) ≤ nI i from nI_le (a := 20) (by omega) (by omega)) c27⟩
        
        refine step.1 _ _ _ _ _ _ _ sgX12_feed_120_ok ?_
        refine ⟨by decide, _, _, hMX.1, rfl, ?_⟩
        refine ⟨.int, rfl, rfl, Nat.le_refl _, Nat.le_refl _, ?_⟩
        show if 600 < S.1.2.1 + 20 then _ else _
        rw [if_neg dcap]
        have hX3 := hMX
        have hi20 : i = 20 := by omega
        subst hi20
        exact ⟨rfl, _, _, _, _, hX3, hkX, hR0.feed (fun k hk => upd_n hk) rfl (fun j hj => fup_n hj) rfl, rfl⟩
      | succ m ih =>
        intro i hX hi hMX hkX
        refine step.1 _ _ _ _ _ _ _ sgX12_feed_23_ok ?_
        refine ⟨fun c27 => absurd c27 (h_nle (b := 20) (by omega) (by omega)), fun c27 => ?_⟩
        
        refine ⟨fun c33 => ?_, fun c33 => ?_⟩
        · have d33 : ¬ i < 4 := fun q => h_nle (b := 4) q (by decide) c33
          refine step.1 _ _ _ _ _ _ _ sgX12_feed_40_ok ?_
          refine ⟨fun c44 => ?_, fun c44 => ?_⟩
          · have d44 : ¬ i < 8 := fun q => h_nle (b := 8) q (by decide) c44
            refine step.1 _ _ _ _ _ _ _ sgX12_feed_51_ok ?_
            refine ⟨fun c55 => ?_, fun c55 => ?_⟩
            · have d55 : ¬ i < 12 := fun q => h_nle (b := 12) q (by decide) c55
              refine step.1 _ _ _ _ _ _ _ sgX12_feed_62_ok ?_
              refine ⟨fun c66 => ?_, fun c66 => ?_⟩
              · have d66 : ¬ i < 16 := fun q => h_nle (b := 16) q (by decide) c66
                refine step.1 _ _ _ _ _ _ _ sgX12_feed_74_ok ?_
                refine step.1 _ _ _ _ _ _ _ sgX12_feed_76_ok ?_
                refine ⟨by decide, _, _, hMX.1, rfl, ?_⟩
                refine ⟨by decide, _, _, hMX.1, rfl, ?_⟩
                refine ⟨by decide, ?_⟩
                refine ⟨_, _, hMX.c65, vp_in_nI (n := S.1.2.1 + i) (N := 600) (by omega) (by decide), ?_⟩
                refine ⟨rfl, ?_⟩
                refine ⟨by decide, _, _, hMX.1, rfl, ?_⟩
                refine ⟨_, hMX.1, Nat.le_of_ble_eq_true rfl, rfl, ?_⟩
                refine step.2 _ _ _ _ _ _ _ (qsub_cons 0 rfl (qsub_cons 2 rfl (qsub_cons 3 rfl (qsub_cons 4 rfl (qsub_cons 5 rfl (qsub_cons 6 rfl (qsub_cons 7 rfl qsub_nil))))))) ?_
                have hv := fbt_v S.1.1 S.1.2.1 a b c d e (i := i) (by omega) (v := e) (by unfold fsel; rw [if_neg (by omega), if_neg (by omega), if_neg (by omega), if_neg (by omega)])
                have kk := fun hZ => ih (i + 1) hZ (by omega)
                rw [← nI_1 i] at kk
                refine kk _ ?_ ((hkX.u (k := 65) (by decide) (by decide)).u (k := 63) (by decide) (by decide))
                refine MX.p63 (h := (hX.1, qup hX.2 65 _)) (x := (upd (upd x 0 0) 2 (nI (S.1.2.1 + i)))) (y := y) (hMX.vkk (k := 65) (by decide) ?_ (fun j hj => qup_n hj)) ?_
                · show some (aI' 600 (upd (fbt (F 65) (bfeed S.1.1 S.1.2.1 a b c d e) S.1.2.1 i) (nI (S.1.2.1 + i)).toNatClampNeg ((e >>> ((24 - 8 * (nI i - nI i / 4 * 4)) &&& 31)) &&& 255))) = some (aI' 600 (fbt (F 65) (bfeed S.1.1 S.1.2.1 a b c d e) S.1.2.1 (i + 1)))
                  rw [h_tn (by omega), fbt_s _ _ _ _ hv]
                have q := sI_2 (v := (nI (S.1.2.1 + i) : Int32) + 1) (rfl : _ = M63l (upd (upd x 0 0) 2 (nI (S.1.2.1 + i))) y)
                rw [show (upd (upd (upd x 0 0) 2 (nI (S.1.2.1 + i))) 2 (nI (S.1.2.1 + i) + 1)) = (upd (upd x 0 0) 2 (nI (S.1.2.1 + (i + 1)))) from by
                  rw [nI_1, Nat.add_assoc]
                  funext j
                  unfold upd
                  by_cases z : j = 2
                  · rw [if_pos z, if_pos z]
                  · rw [if_neg z, if_neg z, if_neg z]] at q
                exact q
              · have d66 : i < 16 := Nat.lt_of_not_le fun q => c66 (nI_le (a := 16) q (by omega))
                refine step.1 _ _ _ _ _ _ _ sgX12_feed_76_ok ?_
                refine ⟨by decide, _, _, hMX.1, rfl, ?_⟩
                refine ⟨by decide, _, _, hMX.1, rfl, ?_⟩
                refine ⟨by decide, ?_⟩
                refine ⟨_, _, hMX.c65, vp_in_nI (n := S.1.2.1 + i) (N := 600) (by omega) (by decide), ?_⟩
                refine ⟨rfl, ?_⟩
                refine ⟨by decide, _, _, hMX.1, rfl, ?_⟩
                refine ⟨_, hMX.1, Nat.le_of_ble_eq_true rfl, rfl, ?_⟩
                refine step.2 _ _ _ _ _ _ _ (qsub_cons 0 rfl (qsub_cons 2 rfl (qsub_cons 3 rfl (qsub_cons 4 rfl (qsub_cons 5 rfl (qsub_cons 6 rfl (qsub_cons 7 rfl qsub_nil))))))) ?_
                have hv := fbt_v S.1.1 S.1.2.1 a b c d e (i := i) (by omega) (v := d) (by unfold fsel; rw [if_neg (by omega), if_neg (by omega), if_neg (by omega), if_pos (by omega)])
                have kk := fun hZ => ih (i + 1) hZ (by omega)
                rw [← nI_1 i] at kk
                refine kk _ ?_ ((hkX.u (k := 65) (by decide) (by decide)).u (k := 63) (by decide) (by decide))
                refine MX.p63 (h := (hX.1, qup hX.2 65 _)) (x := (upd (upd x 0 0) 2 (nI (S.1.2.1 + i)))) (y := y) (hMX.vkk (k := 65) (by decide) ?_ (fun j hj => qup_n hj)) ?_
                · show some (aI' 600 (upd (fbt (F 65) (bfeed S.1.1 S.1.2.1 a b c d e) S.1.2.1 i) (nI (S.1.2.1 + i)).toNatClampNeg ((d >>> ((24 - 8 * (nI i - nI i / 4 * 4)) &&& 31)) &&& 255))) = some (aI' 600 (fbt (F 65) (bfeed S.1.1 S.1.2.1 a b c d e) S.1.2.1 (i + 1)))
                  rw [h_tn (by omega), fbt_s _ _ _ _ hv]
                have q := sI_2 (v := (nI (S.1.2.1 + i) : Int32) + 1) (rfl : _ = M63l (upd (upd x 0 0) 2 (nI (S.1.2.1 + i))) y)
                rw [show (upd (upd (upd x 0 0) 2 (nI (S.1.2.1 + i))) 2 (nI (S.1.2.1 + i) + 1)) = (upd (upd x 0 0) 2 (nI (S.1.2.1 + (i + 1)))) from by
                  rw [nI_1, Nat.add_assoc]
                  funext j
                  unfold upd
                  by_cases z : j = 2
                  · rw [if_pos z, if_pos z]
                  · rw [if_neg z, if_neg z, if_neg z]] at q
                exact q
            · have d55 : i < 12 := Nat.lt_of_not_le fun q => c55 (nI_le (a := 12) q (by omega))
              refine step.1 _ _ _ _ _ _ _ sgX12_feed_76_ok ?_
              refine ⟨by decide, _, _, hMX.1, rfl, ?_⟩
              refine ⟨by decide, _, _, hMX.1, rfl, ?_⟩
              refine ⟨by decide, ?_⟩
              refine ⟨_, _, hMX.c65, vp_in_nI (n := S.1.2.1 + i) (N := 600) (by omega) (by decide), ?_⟩
              refine ⟨rfl, ?_⟩
              refine ⟨by decide, _, _, hMX.1, rfl, ?_⟩
              refine ⟨_, hMX.1, Nat.le_of_ble_eq_true rfl, rfl, ?_⟩
              refine step.2 _ _ _ _ _ _ _ (qsub_cons 0 rfl (qsub_cons 2 rfl (qsub_cons 3 rfl (qsub_cons 4 rfl (qsub_cons 5 rfl (qsub_cons 6 rfl (qsub_cons 7 rfl qsub_nil))))))) ?_
              have hv := fbt_v S.1.1 S.1.2.1 a b c d e (i := i) (by omega) (v := c) (by unfold fsel; rw [if_neg (by omega), if_neg (by omega), if_pos (by omega)])
              have kk := fun hZ => ih (i + 1) hZ (by omega)
              rw [← nI_1 i] at kk
              refine kk _ ?_ ((hkX.u (k := 65) (by decide) (by decide)).u (k := 63) (by decide) (by decide))
              refine MX.p63 (h := (hX.1, qup hX.2 65 _)) (x := (upd (upd x 0 0) 2 (nI (S.1.2.1 + i)))) (y := y) (hMX.vkk (k := 65) (by decide) ?_ (fun j hj => qup_n hj)) ?_
              · show some (aI' 600 (upd (fbt (F 65) (bfeed S.1.1 S.1.2.1 a b c d e) S.1.2.1 i) (nI (S.1.2.1 + i)).toNatClampNeg ((c >>> ((24 - 8 * (nI i - nI i / 4 * 4)) &&& 31)) &&& 255))) = some (aI' 600 (fbt (F 65) (bfeed S.1.1 S.1.2.1 a b c d e) S.1.2.1 (i + 1)))
                rw [h_tn (by omega), fbt_s _ _ _ _ hv]
              have q := sI_2 (v := (nI (S.1.2.1 + i) : Int32) + 1) (rfl : _ = M63l (upd (upd x 0 0) 2 (nI (S.1.2.1 + i))) y)
              rw [show (upd (upd (upd x 0 0) 2 (nI (S.1.2.1 + i))) 2 (nI (S.1.2.1 + i) + 1)) = (upd (upd x 0 0) 2 (nI (S.1.2.1 + (i + 1)))) from by
                rw [nI_1, Nat.add_assoc]
                funext j
                unfold upd
                by_cases z : j = 2
                · rw [if_pos z, if_pos z]
                · rw [if_neg z, if_neg z, if_neg z]] at q
              exact q
          · have d44 : i < 8 := Nat.lt_of_not_le fun q => c44 (nI_le (a := 8) q (by omega))
            refine step.1 _ _ _ _ _ _ _ sgX12_feed_76_ok ?_
            refine ⟨by decide, _, _, hMX.1, rfl, ?_⟩
            refine ⟨by decide, _, _, hMX.1, rfl, ?_⟩
            refine ⟨by decide, ?_⟩
            refine ⟨_, _, hMX.c65, vp_in_nI (n := S.1.2.1 + i) (N := 600) (by omega) (by decide), ?_⟩
            refine ⟨rfl, ?_⟩
            refine ⟨by decide, _, _, hMX.1, rfl, ?_⟩
            refine ⟨_, hMX.1, Nat.le_of_ble_eq_true rfl, rfl, ?_⟩
            refine step.2 _ _ _ _ _ _ _ (qsub_cons 0 rfl (qsub_cons 2 rfl (qsub_cons 3 rfl (qsub_cons 4 rfl (qsub_cons 5 rfl (qsub_cons 6 rfl (qsub_cons 7 rfl qsub_nil))))))) ?_
            have hv := fbt_v S.1.1 S.1.2.1 a b c d e (i := i) (by omega) (v := b) (by unfold fsel; rw [if_neg (by omega), if_pos (by omega)])
            have kk := fun hZ => ih (i + 1) hZ (by omega)
            rw [← nI_1 i] at kk
            refine kk _ ?_ ((hkX.u (k := 65) (by decide) (by decide)).u (k := 63) (by decide) (by decide))
            refine MX.p63 (h := (hX.1, qup hX.2 65 _)) (x := (upd (upd x 0 0) 2 (nI (S.1.2.1 + i)))) (y := y) (hMX.vkk (k := 65) (by decide) ?_ (fun j hj => qup_n hj)) ?_
            · show some (aI' 600 (upd (fbt (F 65) (bfeed S.1.1 S.1.2.1 a b c d e) S.1.2.1 i) (nI (S.1.2.1 + i)).toNatClampNeg ((b >>> ((24 - 8 * (nI i - nI i / 4 * 4)) &&& 31)) &&& 255))) = some (aI' 600 (fbt (F 65) (bfeed S.1.1 S.1.2.1 a b c d e) S.1.2.1 (i + 1)))
              rw [h_tn (by omega), fbt_s _ _ _ _ hv]
            have q := sI_2 (v := (nI (S.1.2.1 + i) : Int32) + 1) (rfl : _ = M63l (upd (upd x 0 0) 2 (nI (S.1.2.1 + i))) y)
            rw [show (upd (upd (upd x 0 0) 2 (nI (S.1.2.1 + i))) 2 (nI (S.1.2.1 + i) + 1)) = (upd (upd x 0 0) 2 (nI (S.1.2.1 + (i + 1)))) from by
              rw [nI_1, Nat.add_assoc]
              funext j
              unfold upd
              by_cases z : j = 2
              · rw [if_pos z, if_pos z]
              · rw [if_neg z, if_neg z, if_neg z]] at q
            exact q
        · have d33 : i < 4 := Nat.lt_of_not_le fun q => c33 (nI_le (a := 4) q (by omega))
          refine step.1 _ _ _ _ _ _ _ sgX12_feed_76_ok ?_
          refine ⟨by decide, _, _, hMX.1, rfl, ?_⟩
          refine ⟨by decide, _, _, hMX.1, rfl, ?_⟩
          refine ⟨by decide, ?_⟩
          refine ⟨_, _, hMX.c65, vp_in_nI (n := S.1.2.1 + i) (N := 600) (by omega) (by decide), ?_⟩
          refine ⟨rfl, ?_⟩
          refine ⟨by decide, _, _, hMX.1, rfl, ?_⟩
          refine ⟨_, hMX.1, Nat.le_of_ble_eq_true rfl, rfl, ?_⟩
          refine step.2 _ _ _ _ _ _ _ (qsub_cons 0 rfl (qsub_cons 2 rfl (qsub_cons 3 rfl (qsub_cons 4 rfl (qsub_cons 5 rfl (qsub_cons 6 rfl (qsub_cons 7 rfl qsub_nil))))))) ?_
          have hv := fbt_v S.1.1 S.1.2.1 a b c d e (i := i) (by omega) (v := a) (by unfold fsel; rw [if_pos (by omega)])
          have kk := fun hZ => ih (i + 1) hZ (by omega)
          rw [← nI_1 i] at kk
          refine kk _ ?_ ((hkX.u (k := 65) (by decide) (by decide)).u (k := 63) (by decide) (by decide))
          refine MX.p63 (h := (hX.1, qup hX.2 65 _)) (x := (upd (upd x 0 0) 2 (nI (S.1.2.1 + i)))) (y := y) (hMX.vkk (k := 65) (by decide) ?_ (fun j hj => qup_n hj)) ?_
          · show some (aI' 600 (upd (fbt (F 65) (bfeed S.1.1 S.1.2.1 a b c d e) S.1.2.1 i) (nI (S.1.2.1 + i)).toNatClampNeg ((a >>> ((24 - 8 * (nI i - nI i / 4 * 4)) &&& 31)) &&& 255))) = some (aI' 600 (fbt (F 65) (bfeed S.1.1 S.1.2.1 a b c d e) S.1.2.1 (i + 1)))
            rw [h_tn (by omega), fbt_s _ _ _ _ hv]
          have q := sI_2 (v := (nI (S.1.2.1 + i) : Int32) + 1) (rfl : _ = M63l (upd (upd x 0 0) 2 (nI (S.1.2.1 + i))) y)
          rw [show (upd (upd (upd x 0 0) 2 (nI (S.1.2.1 + i))) 2 (nI (S.1.2.1 + i) + 1)) = (upd (upd x 0 0) 2 (nI (S.1.2.1 + (i + 1)))) from by
            rw [nI_1, Nat.add_assoc]
            funext j
            unfold upd
            by_cases z : j = 2
            · rw [if_pos z, if_pos z]
            · rw [if_neg z, if_neg z, if_neg z]] at q
          exact q
    exact loop 20 0 _ (by omega) (by
      rw [fbt_0, fup_self, show (upd (upd x 0 0) 2 (nI (S.1.2.1 + 0))) = (upd x 0 0) from upd_self (by show x 2 = _; rw [e2]; rfl)]
      exact hM0) hk0
  · have dcap : 600 < S.1.2.1 + 20 := Nat.lt_of_not_le fun q => c15 (by rw [ecap]; exact nI_le (b := 600) q (by decide))
    refine ⟨.int, rfl, rfl, Nat.le_refl _, Nat.le_refl _, ?_⟩
    show if 600 < S.1.2.1 + 20 then _ else _
    rw [if_pos dcap]
    exact ⟨rfl, _, _, _, _, hM0, hk0, hR0, rfl⟩
theorem M_status {g : qG} (hg : qOK g) {h : qH} {x : Nat → Int32} {y : Nat → Int64} {F : Nat → Nat → Int32} {G : Nat → Nat → Int64} (hM : MX h x y F G) {S : CS} (hR : Rel S x F) (v : Int32) : qSpec g 2 0 0 mX12_status [.ref 63, .int v] h (fun r h' => (r = some (.int (if v = nI 0 then S.2.2.2.2.2.2.1 else if v = nI 1 then S.2.2.2.2.2.2.2.1 else if v = nI 2 then S.2.2.2.2.2.2.2.2 else -1))) ∧ MG h h' S) := by
  refine qSpec_run 12 "status" false hg mX12_status_ok rfl rfl (Nat.le_of_ble_eq_true rfl) (by decide) ?_
  intro run step
  refine step.1 _ _ _ _ _ _ _ sgX12_status_0_ok ?_
  refine ⟨_, hM.1, Nat.le_of_ble_eq_true rfl, rfl, ?_⟩
  have hM0 := hM.p63 (sI_0 (v := 0) (rfl : _ = M63l x y))
  have hR0 : Rel S (upd x 0 0) F := hR.t 0
  have hk0 := kp.rf (h := h) |>.u (k := 63) (e := .inl (12, (M63l x y).set 0 (.int 0))) (by decide) (by decide)
  refine Or.inl ⟨rfl, _, 1, 0, 0, _, Or.inl qi_12_324, ⟨rfl, rfl⟩, rfl, rfl, M_within hg _ _ _, fun y8 h8 hy8 => ?_⟩
  obtain ⟨rfl, hh⟩ := hy8
  rw [hh]
  clear hh
  refine ⟨fun c11 => ?_, fun c11 => ?_⟩
  · have w0 : wi 0 2 v = false := qb_0.mp c11
    refine step.1 _ _ _ _ _ _ _ sgX12_status_23_ok ?_
    refine step.1 _ _ _ _ _ _ _ sgX12_status_24_ok ?_
    refine ⟨.int, rfl, rfl, Nat.le_refl _, Nat.le_refl _, ?_⟩
    refine ⟨congrArg (fun z => some (Value.int z)) ?_, _, _, _, _, hM0, hk0, hR0, rfl⟩
    rw [if_neg (fun q => by rw [q] at w0; exact absurd w0 (by decide)), if_neg (fun q => by rw [q] at w0; exact absurd w0 (by decide)), if_neg (fun q => by rw [q] at w0; exact absurd w0 (by decide))]
  · have w0 : wi 0 2 v = true := qb_1.mp c11
    obtain ⟨n, hn, rfl⟩ := wi_nat (m := 2) (by decide) w0
    refine ⟨by decide, _, _, hM0.1, rfl, ?_⟩
    refine ⟨_, _, hM0.c64, vp_in_nI (n := n) (N := 3) (by omega) (by decide), ?_⟩
    refine step.1 _ _ _ _ _ _ _ sgX12_status_24_ok ?_
    refine ⟨.int, rfl, rfl, Nat.le_refl _, Nat.le_refl _, ?_⟩
    refine ⟨congrArg (fun z => some (Value.int z)) ?_, _, _, _, _, hM0, hk0, hR0, rfl⟩
    obtain ⟨r0, r1, r2⟩ := hR.2.2.2.2.2.1
    rcases (show n = 0 ∨ n = 1 ∨ n = 2 by omega) with rfl | rfl | rfl
    · rw [if_pos rfl]; exact r0
    · rw [if_neg (by decide), if_pos rfl]; exact r1
    · rw [if_neg (by decide), if_neg (by decide), if_pos rfl]; exact r2
end Q12V
