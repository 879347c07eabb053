section Q13K
/-- what an option brings: the first leaves the door out -/
def oval (f : Nat → Nat → Int64) (d q : Nat) : Int64 := if q = 0 then 0 else f d (q - 1)
def olen (f : Nat → Nat → Int32) (d q : Nat) : Int32 := if q = 0 then 0 else f d (q - 1)
/-- the rows of the options, as far as they are written -/
def fvI (A : Nat → Nat → Int64) (L : Nat → Nat → Int32) (g : Nat → Int64) (f : Nat → Int32) (d q : Nat) : Prop := ∀ a b : Nat, b < 19 → (a < d ∨ (a = d ∧ b < q)) → g (a * 19 + b) = A a b ∧ f (a * 19 + b) = L a b
theorem fvI.st {A : Nat → Nat → Int64} {L : Nat → Nat → Int32} {g g' : Nat → Int64} {f f' : Nat → Int32} {d q : Nat} (h : fvI A L g f d q) (hg : g' = vp_updL g (d * 19 + q) (A d q)) (hf : f' = upd f (d * 19 + q) (L d q)) (hq : q < 19) : fvI A L g' f' d (q + 1) := by
  intro a b hb hab
  subst hg
  subst hf
  unfold vp_updL upd
  by_cases e : a * 19 + b = d * 19 + q
  · have e1 : a = d := by omega
    have e2 : b = q := by omega
    subst e1
    subst e2
    exact ⟨if_pos rfl, if_pos rfl⟩
  · rw [if_neg e, if_neg e]
    refine h a b hb ?_
    rcases hab with c | ⟨c1, c2⟩
    · exact Or.inl c
    · subst c1
      exact Or.inr ⟨rfl, by omega⟩
theorem fvI.nx {A : Nat → Nat → Int64} {L : Nat → Nat → Int32} {g : Nat → Int64} {f : Nat → Int32} {d : Nat} (h : fvI A L g f d 19) : fvI A L g f (d + 1) 0 := fun a b hb hab => h a b hb (by omega)
section
variable {h h1 : qH} {x x1 : Nat → Int32} {y1 : Nat → Int64} {F F1 : Nat → Nat → Int32} {G1 : Nat → Nat → Int64}
theorem QZ.u81 (a : QZ h h1 x F G1 x1 y1 F1) (f : Nat → Int64) : QZ h (h1.1, qup h1.2 81 (.inr (.inr (.inl (92352, f))))) x F (gup G1 81 f) x1 y1 F1 := ⟨a.1.u81 f, a.2.1, a.2.2.u (by decide) (by decide)⟩
theorem QZ.u82 (a : QZ h h1 x F G1 x1 y1 F1) (f : Nat → Int64) : QZ h (h1.1, qup h1.2 82 (.inr (.inr (.inl (95, f))))) x F (gup G1 82 f) x1 y1 F1 := ⟨a.1.u82 f, a.2.1, a.2.2.u (by decide) (by decide)⟩
theorem QZ.u83 (a : QZ h h1 x F G1 x1 y1 F1) (f : Nat → Int32) : QZ h (h1.1, qup h1.2 83 (aI' 95 f)) x F G1 x1 y1 (fup F1 83 f) := ⟨a.1.u83 f, a.2.1.uF (by decide), a.2.2.u (by decide) (by decide)⟩
theorem QZ.u84 (a : QZ h h1 x F G1 x1 y1 F1) (f : Nat → Int32) : QZ h (h1.1, qup h1.2 84 (aI' 5 f)) x F G1 x1 y1 (fup F1 84 f) := ⟨a.1.u84 f, a.2.1.uF (by decide), a.2.2.u (by decide) (by decide)⟩
theorem QZ.u85 (a : QZ h h1 x F G1 x1 y1 F1) (f : Nat → Int32) : QZ h (h1.1, qup h1.2 85 (aI' 32 f)) x F G1 x1 y1 (fup F1 85 f) := ⟨a.1.u85 f, a.2.1.uF (by decide), a.2.2.u (by decide) (by decide)⟩
theorem QZ.u86 (a : QZ h h1 x F G1 x1 y1 F1) (f : Nat → Int32) : QZ h (h1.1, qup h1.2 86 (.inr (.inl (.boolean, 32, f)))) x F G1 x1 y1 (fup F1 86 f) := ⟨a.1.u86 f, a.2.1.uF (by decide), a.2.2.u (by decide) (by decide)⟩
end
theorem gup_s {G : Nat → Nat → Int64} {k : Nat} {f : Nat → Int64} : gup G k f k = f := if_pos rfl
theorem gup_n {G : Nat → Nat → Int64} {k j : Nat} {f : Nat → Int64} (h : j ≠ k) : gup G k f j = G j := if_neg h
set_option maxHeartbeats 1000000 in
theorem M_findValues {g : qG} (hg : qOK g) {h : qH} {x : Nat → Int32} {y : Nat → Int64} {F : Nat → Nat → Int32} {G : Nat → Nat → Int64} (hM : MX h x y F G) {S : CS} (hR : Rel S x F) (hI : ROK S.2.1) (hl : lwf S.2.2.2.2.1.1) (hd5 : S.2.1.2.2.2.1 ≤ 5) (w : Int32) : qSpec g 5 0 0 mX12_findValues [.ref 63, .int w] h (fun r h' => r = none ∧ ∃ (x' : Nat → Int32) (y' : Nat → Int64) (F' : Nat → Nat → Int32) (G' : Nat → Nat → Int64), QZ h h' x F G' x' y' F' ∧ ∀ a b : Nat, a < S.2.1.2.2.2.1 → b < 19 → G' 82 (a * 19 + b) = (oval (sval S.2.1.1 S.2.2.2.2.1.1.1 S.2.2.2.2.1.1.2.1 S.2.2.2.2.1.1.2.2 (nI S.2.2.2.1.2) S.2.1.2.2.2.2.2.2.2.1 w)) a b ∧ F' 83 (a * 19 + b) = (olen (slen S.2.1.1 S.2.1.2.2.2.2.2.2.2.1)) a b) := by
  refine qSpec_run 12 "findValues" false hg mX12_findValues_ok rfl rfl (Nat.le_of_ble_eq_true rfl) (by decide) ?_
  intro run step
  have hn10 := hI.1.1
  have loop : ∀ (m d : Nat) (hX : qH) (xX : Nat → Int32) (yX : Nat → Int64) (FX : Nat → Nat → Int32) (GX : Nat → Nat → Int64), d + m = S.2.1.2.2.2.1 → QZ h hX x F GX xX yX FX → fvI (oval (sval S.2.1.1 S.2.2.2.2.1.1.1 S.2.2.2.2.1.1.2.1 S.2.2.2.2.1.1.2.2 (nI S.2.2.2.1.2) S.2.1.2.2.2.2.2.2.2.1 w)) (olen (slen S.2.1.1 S.2.1.2.2.2.2.2.2.2.1)) (GX 82) (FX 83) d 0 → run 2 [(2, .int (nI d)), (0, .ref 63), (1, .int w)] [] hX 0 0 := by
    intro m
    induction m with
    | zero =>
      intro d hX xX yX FX GX hd hQ hv
      have e19 : xX 19 = nI S.2.1.2.2.2.1 := (hQ.R hR).1.2.2.1
      refine step.1 _ _ _ _ _ _ _ sgX12_findValues_2_ok ?_
      refine ⟨by decide, _, _, hQ.1.1, rfl, ?_⟩
      refine ⟨fun c7 => ?_, fun c7 => absurd (show xX 19 ≤ nI d from by rw [e19]; exact nI_le (by omega) (by omega)) c7⟩
      
      refine step.1 _ _ _ _ _ _ _ sgX12_findValues_104_ok ?_
      refine ⟨rfl, Nat.le_refl _, Nat.le_refl _, ?_⟩
      exact ⟨rfl, xX, yX, FX, GX, hQ, fun a b ha hb => hv a b hb (Or.inl (by omega))⟩
    | succ m ih =>
      intro d hX xX yX FX GX hd hQ hv
      have inner : ∀ (k q : Nat) (hX : qH) (xX : Nat → Int32) (yX : Nat → Int64) (FX : Nat → Nat → Int32) (GX : Nat → Nat → Int64), k + q = 19 → QZ h hX x F GX xX yX FX → fvI (oval (sval S.2.1.1 S.2.2.2.2.1.1.1 S.2.2.2.2.1.1.2.1 S.2.2.2.2.1.1.2.2 (nI S.2.2.2.1.2) S.2.1.2.2.2.2.2.2.2.1 w)) (olen (slen S.2.1.1 S.2.1.2.2.2.2.2.2.2.1)) (GX 82) (FX 83) d q → run 12 [(3, .int (nI q)), (2, .int (nI d)), (0, .ref 63), (1, .int w)] [] hX 0 0 := by
        clear hQ hv
        intro k
        induction k with
        | zero =>
        intro q hX xX yX FX GX hk hQ hv
        refine step.1 _ _ _ _ _ _ _ sgX12_findValues_12_ok ?_
        refine ⟨fun c15 => ?_, fun c15 => absurd (show nI 19 ≤ nI q from nI_le (by omega) (by omega)) c15⟩
        
        refine step.1 _ _ _ _ _ _ _ sgX12_findValues_98_ok ?_
        refine step.2 _ _ _ _ _ _ _ (qsub_cons 0 rfl (qsub_cons 2 rfl (qsub_cons 3 rfl qsub_nil))) ?_
        have kk := ih (d + 1) hX xX yX FX GX (by omega) hQ (fvI.nx (by rw [show (19 : Nat) = q by omega]; exact hv))
        rw [← nI_1] at kk
        exact kk
        | succ k ihq =>
        intro q hX xX yX FX GX hk hQ hv
        have at38z : ∀ (q : Nat) (hX : qH) (xX : Nat → Int32) (yX : Nat → Int64) (FX : Nat → Nat → Int32) (GX : Nat → Nat → Int64), q + k = 18 → q = 0 → QZ h hX x F GX xX yX FX → fvI (oval (sval S.2.1.1 S.2.2.2.2.1.1.1 S.2.2.2.2.1.1.2.1 S.2.2.2.2.1.1.2.2 (nI S.2.2.2.1.2) S.2.1.2.2.2.2.2.2.2.1 w)) (olen (slen S.2.1.1 S.2.1.2.2.2.2.2.2.2.1)) (GX 82) (FX 83) d q → run 38 [(3, .int (nI q)), (2, .int (nI d)), (0, .ref 63), (1, .int w)] [] hX 0 0 := by
          intro q hX xX yX FX GX hk2 hq1 hQ hv
          have hq0 : nI q = 0 := by rw [hq1]; rfl
          have hval : (0 : Int64) = (oval (sval S.2.1.1 S.2.2.2.2.1.1.1 S.2.2.2.2.1.1.2.1 S.2.2.2.2.1.1.2.2 (nI S.2.2.2.1.2) S.2.1.2.2.2.2.2.2.2.1 w)) d q := by rw [hq1]; rfl
          have hlen : (0 : Int32) = (olen (slen S.2.1.1 S.2.1.2.2.2.2.2.2.2.1)) d q := by rw [hq1]; rfl
          have ei : (19 * nI d + nI q : Int32) = nI (d * 19 + q) := ixk (k := 19)
          have et := h_tn (n := d * 19 + q) (by omega)
          refine step.1 _ _ _ _ _ _ _ sgX12_findValues_38_ok ?_
          refine ⟨by decide, _, _, hQ.1.1, rfl, ?_⟩
          refine ⟨fun c49 => absurd hq0 c49, fun c49 => ?_⟩
        
          refine step.1 _ _ _ _ _ _ _ sgX12_findValues_68_ok ?_
          refine ⟨_, _, hQ.1.c82, (by rw [ei]; exact vp_in_nI (n := d * 19 + q) (N := 95) (by omega) (by decide)), ?_⟩
          have hQa := hQ.u82 (vp_updL (GX 82) (19 * nI d + nI q : Int32).toNatClampNeg (0 : Int64))
          refine ⟨by decide, _, _, hQa.1.1, rfl, ?_⟩
          refine ⟨fun c80 => absurd hq0 c80, fun c80 => ?_⟩
        
          refine step.1 _ _ _ _ _ _ _ sgX12_findValues_91_ok ?_
          refine ⟨_, _, hQa.1.c83, (by rw [ei]; exact vp_in_nI (n := d * 19 + q) (N := 95) (by omega) (by decide)), ?_⟩
          have hQb := hQa.u83 (upd (FX 83) (19 * nI d + nI q : Int32).toNatClampNeg (0 : Int32))
          have kk := ihq (q + 1) _ xX yX _ _ (by omega) hQb (hv.st (by rw [gup_s, ei, et, hval]) (by rw [fup_s, ei, et, hlen]) (by omega))
          rw [← nI_1] at kk
          exact kk
        have at38s : ∀ (q : Nat) (hX : qH) (xX : Nat → Int32) (yX : Nat → Int64) (FX : Nat → Nat → Int32) (GX : Nat → Nat → Int64), q + k = 18 → ¬ nI q = 0 → QZ h hX x F GX xX yX FX → fvI (oval (sval S.2.1.1 S.2.2.2.2.1.1.1 S.2.2.2.2.1.1.2.1 S.2.2.2.2.1.1.2.2 (nI S.2.2.2.1.2) S.2.1.2.2.2.2.2.2.2.1 w)) (olen (slen S.2.1.1 S.2.1.2.2.2.2.2.2.2.1)) (GX 82) (FX 83) d q → yX 39 + w.toInt64 * yX 40 = (oval (sval S.2.1.1 S.2.2.2.2.1.1.1 S.2.2.2.2.1.1.2.1 S.2.2.2.2.1.1.2.2 (nI S.2.2.2.1.2) S.2.1.2.2.2.2.2.2.2.1 w)) d q → xX 42 = (olen (slen S.2.1.1 S.2.1.2.2.2.2.2.2.2.1)) d q → run 38 [(3, .int (nI q)), (2, .int (nI d)), (0, .ref 63), (1, .int w)] [] hX 0 0 := by
          intro q hX xX yX FX GX hk2 hq0 hQ hv hval hlen
          have ei : (19 * nI d + nI q : Int32) = nI (d * 19 + q) := ixk (k := 19)
          have et := h_tn (n := d * 19 + q) (by omega)
          refine step.1 _ _ _ _ _ _ _ sgX12_findValues_38_ok ?_
          refine ⟨by decide, _, _, hQ.1.1, rfl, ?_⟩
          refine ⟨fun c49 => ?_, fun c49 => absurd c49 hq0⟩
        
          refine step.1 _ _ _ _ _ _ _ sgX12_findValues_56_ok ?_
          refine ⟨by decide, _, _, hQ.1.1, rfl, ?_⟩
          refine ⟨by decide, _, _, hQ.1.1, rfl, ?_⟩
          refine step.1 _ _ _ _ _ _ _ sgX12_findValues_68_ok ?_
          refine ⟨_, _, hQ.1.c82, (by rw [ei]; exact vp_in_nI (n := d * 19 + q) (N := 95) (by omega) (by decide)), ?_⟩
          have hQa := hQ.u82 (vp_updL (GX 82) (19 * nI d + nI q : Int32).toNatClampNeg (yX 39 + w.toInt64 * yX 40))
          refine ⟨by decide, _, _, hQa.1.1, rfl, ?_⟩
          refine ⟨fun c80 => ?_, fun c80 => absurd c80 hq0⟩
        
          refine step.1 _ _ _ _ _ _ _ sgX12_findValues_87_ok ?_
          refine ⟨by decide, _, _, hQa.1.1, rfl, ?_⟩
          refine step.1 _ _ _ _ _ _ _ sgX12_findValues_91_ok ?_
          refine ⟨_, _, hQa.1.c83, (by rw [ei]; exact vp_in_nI (n := d * 19 + q) (N := 95) (by omega) (by decide)), ?_⟩
          have hQb := hQa.u83 (upd (FX 83) (19 * nI d + nI q : Int32).toNatClampNeg (xX 42))
          have kk := ihq (q + 1) _ xX yX _ _ (by omega) hQb (hv.st (by rw [gup_s, ei, et, hval]) (by rw [fup_s, ei, et, hlen]) (by omega))
          rw [← nI_1] at kk
          exact kk
        refine step.1 _ _ _ _ _ _ _ sgX12_findValues_12_ok ?_
        refine ⟨fun c15 => absurd (show nI 19 ≤ nI q from c15) (h_nle (by omega) (by omega)), fun c15 => ?_⟩
        
        refine ⟨fun c19 => ?_, fun c19 => ?_⟩
        · have hq1 : q = 0 := by have := (nI_leI (a := q) (b := 0) (by omega) (by decide)).mp c19; omega
          exact at38z q hX xX yX FX GX (by omega) hq1 hQ hv
        · obtain ⟨z, rfl⟩ : ∃ z : Nat, q = z + 1 := ⟨q - 1, by have : q ≠ 0 := fun e => c19 (by rw [e]; exact Int32.le_refl _); omega⟩
          have e1 : (nI (z + 1) - 1 : Int32) = nI z := nI_pred z
          have hdm := way_dm z (by omega)
          refine ⟨by decide, ?_⟩
          refine ⟨by decide, ?_⟩
          refine Or.inl ⟨rfl, _, 4, 0, 0, _, _, _, qi_12_385, ⟨rfl, rfl⟩, ⟨hQ.1.1, rfl⟩, rfl, rfl, (by rw [e1, hdm.1, hdm.2]; exact M_findMeans hg hQ.1 (hQ.R hR) hI (d := d) (r := z % 3) (nn := z / 3) (by omega) (by omega) (by omega) hI.1.1 hl 0), fun y35 h35 hy35 => ?_⟩
          obtain ⟨rfl, hQM⟩ := hy35
          obtain ⟨x1, y1, F1, hN, m1, m2, m3, m4, m5⟩ := hQM.n
          have hQ1 := hQ.tr hN.z
          exact at38s (z + 1) h35 x1 y1 F1 GX (by omega) (nI_ne0 (by omega) (by omega)) hQ1 (by rw [hN.2.1 83 (by decide)]; exact hv) (by
            unfold oval sval
            rw [if_neg (by omega), Nat.add_sub_cancel, m2, m3]) (by
            unfold olen slen
            rw [if_neg (by omega), Nat.add_sub_cancel, m5, ← Int32.add_assoc])
      have e19 : xX 19 = nI S.2.1.2.2.2.1 := (hQ.R hR).1.2.2.1
      refine step.1 _ _ _ _ _ _ _ sgX12_findValues_2_ok ?_
      refine ⟨by decide, _, _, hQ.1.1, rfl, ?_⟩
      refine ⟨fun c7 => absurd (show nI S.2.1.2.2.2.1 ≤ nI d from by rw [← e19]; exact c7) (h_nle (by omega) (by omega)), fun c7 => ?_⟩
      
      exact inner 19 0 hX xX yX FX GX rfl hQ hv
  refine step.1 _ _ _ _ _ _ _ sgX12_findValues_0_ok ?_
  exact loop S.2.1.2.2.2.1 0 h x y F G (by omega) (QZ.rf hM) (fun a b _ hab => by omega)
end Q13K
