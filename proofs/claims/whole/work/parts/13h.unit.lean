section Q13H
theorem hch_w {F : Nat → Int32} {n q : Nat} {w : Int32} (h0 : ¬ w = 0) (h1 : ¬ w = -1) : hch F n q = w ↔ tby F n q = w := by
  unfold hch
  by_cases c : q < n
  · rw [if_pos c]
  · rw [if_neg c, tby_end (F := F) (by omega)]
    exact ⟨fun e => absurd e.symm h0, fun e => absurd e.symm h1⟩
section
variable {g : qG} {h0 hX : qH} {x0 xX : Nat → Int32} {y : Nat → Int64} {n o : Nat} {s : PS} {c : CD} {F : Nat → Int32} {a q : Nat}
theorem M_fineG (hg : qOK g) (hV : LGX h0 hX x0 xX y n o (.inr a) c) : qSpec g 1 0 0 mX12_fine [.ref 63] hX (fun r h' => r = some (.int 1) ∧ h' = hX) := qSpec_mono (M_fineS hg hV.m hV.t) fun _ _ hy => hy
theorem M_fineB (hg : qOK g) {e : Nat × Nat} (hV : LGX h0 hX x0 xX y n o (.inl e) c) : qSpec g 1 0 0 mX12_fine [.ref 63] hX (fun r h' => r = some (.int 0) ∧ h' = hX) := qSpec_mono (M_fineS hg hV.m hV.t) fun _ _ hy => hy
theorem M_hereX (hg : qOK g) (hV : LGX h0 hX x0 xX y n o (.inr a) c) (hB : mB h0 F) : qSpec g 1 0 0 mX12_here [.ref 63] hX (fun r h' => r = some (.int (hch F n (sk F n a))) ∧ ∃ x' : Nat → Int32, LGX h0 h' x0 x' y n o (.inr (sk F n a)) c) := qSpec_mono (M_here hg hV.m hV.t (hV.B hB)) fun _ _ hy => ⟨hy.1, hV.sk0 hy.2⟩
theorem M_hereQ (hg : qOK g) (hV : LGX h0 hX x0 xX y n o (.inr q) c) (hB : mB h0 F) (hq : sk F n q = q) : qSpec g 1 0 0 mX12_here [.ref 63] hX (fun r h' => r = some (.int (hch F n q)) ∧ ∃ x' : Nat → Int32, LGX h0 h' x0 x' y n o (.inr q) c) := qSpec_mono (M_hereX hg hV hB) fun _ _ hy => by
  rw [hq] at hy
  exact hy
theorem M_wordQ (hg : qOK g) (hV : LGX h0 hX x0 xX y n o (.inr q) c) (hB : mB h0 F) (hq : sk F n q = q) : qSpec g 2 0 0 mX12_word [.ref 63] hX (fun r h' => r = some (.int (mword F n q)) ∧ ∃ x' : Nat → Int32, LGX h0 h' x0 x' y n o (.inr q) c) := qSpec_mono (M_word hg hV.m hV.t (hV.B hB)) fun _ _ hy => by
  have z := hV.sk0 hy.2
  rw [hq] at hy z
  exact ⟨hy.1, z⟩
theorem M_factQ (hg : qOK g) (hJ : qJDK g) (hW : qMW g) (hSG : qSG g) (hV : LGX h0 hX x0 xX y n o (.inr q) c) (hB : mB h0 F) (hq : sk F n q = q) : qSpec g 6 0 0 mX12_factHere [.ref 63] hX (fun r h' => r = some (.int (mfact F n q)) ∧ ∃ x' : Nat → Int32, LGX h0 h' x0 x' y n o (.inr q) c) := qSpec_mono (M_factHere hg hV.m hV.t (hV.B hB) hJ hW hSG) fun _ _ hy => by
  have z := hV.sk0 hy.2
  rw [hq] at hy z
  exact ⟨hy.1, z⟩
theorem M_passQ (hg : qOK g) (hV : LGX h0 hX x0 xX y n o (.inr q) c) (hB : mB h0 F) : qSpec g 2 0 0 mX12_pass [.ref 63] hX (fun r h' => r = none ∧ ∃ x' : Nat → Int32, LGX h0 h' x0 x' y n o (.inr (lrun F n (n - q) q)) c) := qSpec_mono (M_pass hg hV.m hV.t (hV.B hB)) fun _ _ hy => ⟨hy.1, hV.mp hy.2 (by simp) (fun b hb => ⟨q, rfl, by cases hb; exact (lrun_le F n (n - q) q).1⟩)⟩
theorem M_numQ (hg : qOK g) (hV : LGX h0 hX x0 xX y n o (.inr q) c) (hB : mB h0 F) : qSpec g 2 0 0 mX12_readNumber [.ref 63, .int 0, .int 999] hX (fun r h' => r = some (.int (pnum F n 0 999 (.inr q)).2) ∧ ∃ x' : Nat → Int32, LGX h0 h' x0 x' y n o (pnumS F n 0 999 (.inr q)) c) := qSpec_mono (M_num_r hg hV.m hV.t (hV.B hB) (by decide)) fun _ _ hy => ⟨hy.1, hV.mp hy.2 (by simp) (fun b hb => ⟨q, rfl, Nat.le_of_lt (pnumS_gt hV.t.le' hb).1⟩)⟩
theorem M_wrongQ (hg : qOK g) (hV : LGX h0 hX x0 xX y n o (.inr q) c) : qSpec g 1 0 0 mX12_wrong [.ref 63, .int 1, .int (nI q)] hX (fun r h' => r = none ∧ ∃ x' : Nat → Int32, LGX h0 h' x0 x' y n o (.inl (1, q)) c) := qSpec_mono (M_wrong_r hg hV.m hV.t 1 q (by have := hV.t.le'; have := hV.t.2.1; omega)) fun _ _ hy => ⟨hy.1, hV.mp hy.2 (by simp) (fun b hb => by cases hb)⟩
theorem LGX.cle (hV : LGX h0 hX x0 xX y n o (.inr q) c) : c.2.2 ≤ q := by
  obtain ⟨K, V, a4, a5, a6⟩ := hV.1.2.2.2
  exact (a6 q rfl).2.2.2
end
/-- the words of a law: what the class and the model make of one -/
def lbr (f : Nat → Nat) (len : Nat) : Prop := ∀ (F : Nat → Int32) (n a : Nat), a ≤ n → n ≤ 600 → (((pword F n f len a = -1 ∧ mfact F n (sk F n a) = -1) ∨ ∃ k : Nat, k < 10 ∧ pword F n f len a = nI k ∧ mfact F n (sk F n a) = nI k) ∧ ¬ mword F n (sk F n a) = nI (wpk 20) ∧ ¬ mword F n (sk F n a) = nI (wpk 21) ∧ ¬ mword F n (sk F n a) = nI (wpk 22)) ∨ (pword F n f len a = 10 ∧ mword F n (sk F n a) = nI (wpk 20) ∧ pwend F n a = sk F n a + 5) ∨ (pword F n f len a = 11 ∧ mword F n (sk F n a) = nI (wpk 21) ∧ pwend F n a = sk F n a + 4) ∨ (pword F n f len a = 12 ∧ mword F n (sk F n a) = nI (wpk 22) ∧ pwend F n a = sk F n a + 2)
section
variable {F : Nat → Int32} {n q : Nat} {f : Nat → Nat} {len : Nat} {E : Option PE} {c : CD}
theorem pwR_x (h : pword F n f len q = -1) (hq : sk F n q = q) : pwordR F n f len E q c = (.inl (1, q), c) := by
  unfold pwordR
  rw [pwst_x h, hq]
  rfl
theorem pwR_k {k : Nat} (hk : k < 10) (h : pword F n f len q = nI k) : pwordR F n f len E q c = (.inr (pwend F n q), cadd 1 (nI k) c) := by
  have h1 : ¬ pword F n f len q = -1 := by rw [h]; exact mne (by omega)
  have h2 : pword F n f len q < 10 := by rw [h]; exact nI_lt (a := k) (b := 10) (by omega) (by omega)
  unfold pwordR
  rw [pwst_n h1, if_neg (show ¬ pbad (.inr (pwend F n q)) = true from Bool.false_ne_true), if_pos h2, h]
theorem LGX.cx {h0 hX : qH} {x0 xX : Nat → Int32} {y : Nat → Int64} {o : Nat} {e : Nat × Nat} {c c' : CD} (hV : LGX h0 hX x0 xX y n o (.inl e) c) : LGX h0 hX x0 xX y n o (.inl e) c' := by
  obtain ⟨⟨a1, a2, a3, K, V, a4, a5, a6⟩, b⟩ := hV
  exact ⟨⟨a1, a2, a3, K, V, a4, a5, fun a q => by cases q⟩, b⟩
theorem pwR_L {h0 hX : qH} {x0 xX : Nat → Int32} {y : Nat → Int64} {o : Nat} {w : Int32} (h : pword F n f len q = w) (h1 : ¬ w = -1) (h2 : ¬ w < 10) (hq : sk F n q = q) {b : Nat} (hb : pwend F n q = q + b) (hp : (pparts w = 2 ∧ ¬ pkd w = 8) ∨ (pparts w = 3 ∧ pkd w = 8)) (hV : LGX h0 hX x0 xX y n o (rowR F n E (pkd w) q b c).1 (rowR F n E (pkd w) q b c).2) : LGX h0 hX x0 xX y n o (pwordR F n f len E q c).1 (pwordR F n f len E q c).2 := by
  have h3 : ¬ pword F n f len q = -1 := by rw [h]; exact h1
  unfold pwordR
  rw [pwst_n h3, if_neg (show ¬ pbad (.inr (pwend F n q)) = true from Bool.false_ne_true), if_neg (by rw [h]; exact h2)]
  cases E with
  | none =>
    have e2 : pwtail F n f len none q c = (.inl (3, q), c) := by
      unfold pwtail
      simp only [pwst_n h3, hq]
      rfl
    rw [e2]
    have e3 : (rowR F n none (pkd w) q b c).1 = .inl (3, q) := by
      unfold rowR row3
      split <;> rfl
    rw [e3] at hV
    exact hV.cx
  | some u =>
    have e4 : pwtail F n f len (some u) q c = rowR F n (some u) (pkd w) q b c := by
      unfold pwtail
      simp only [pwst_n h3, h]
      unfold rowR row3
      rcases hp with ⟨p1, p2⟩ | ⟨p1, p2⟩
      · rw [if_neg p2, p1, pwl2, hb]; rfl
      · rw [if_pos p2, p1, pwl3, hb]; rfl
    rw [e4]
    exact hV
end
section
variable {F : Nat → Int32} {n a : Nat} {f : Nat → Nat} {len : Nat} {E : Option PE} {c : CD}
theorem pu_d (h : isdg (tby F n (sk F n a)) = true) : punit F n f len E a c = (pnumS F n 0 999 (.inr (sk F n a)), cadd 0 (pnum F n 0 999 (.inr (sk F n a))).2 c) := if_pos h
theorem pu_p (h : tby F n (sk F n a) = 40) : punit F n f len E a c = (psign F n 41 (Eop E (opE E (sk F n a) 1) c).1, (Eop E (opE E (sk F n a) 1) c).2) := by
  unfold punit
  rw [if_neg (by rw [h]; decide), if_pos h]
  cases E with
  | none => rfl
  | some e =>
    show ppart F n 41 (e (sk F n a + 1) c) = _
    rw [ppart_eq]
    rfl
theorem pu_w (h : ¬ isdg (tby F n (sk F n a)) = true) (h2 : ¬ tby F n (sk F n a) = 40) : punit F n f len E a c = pwordR F n f len E (sk F n a) c := by
  unfold punit
  rw [if_neg h, if_neg h2]
end
theorem M_unitA {g : qG} (hg : qOK g) {F : Nat → Int32} {n d o : Nat} {E : Option PE} (hO : mEo g F n (d + 8) o E) (hG : gEo n E) (hn : n ≤ 150) (hJ : qJDK g) (hW : qMW g) (hSG : qSG g) {f : Nat → Nat} {len : Nat} (hbr : lbr f len) : mE g F n (d + 10) o mX12_readUnit (punit F n f len E) := by
  intro h x y a c hL hB
  refine qSpec_run 12 "readUnit" false hg mX12_readUnit_ok rfl rfl (Nat.le_of_ble_eq_true rfl) (by decide) ?_
  intro run step
  have han : a ≤ n := hL.2.2.1.le'
  have hqq : sk F n (sk F n a) = sk F n a := sk_sk F han
  have hkn : sk F n a ≤ n := (sk_le F han).2
  refine step.1 _ _ _ _ _ _ _ sgX12_readUnit_0_ok ?_
  refine Or.inl ⟨rfl, _, 1, 0, 0, _, _, _, qi_12_142, ⟨rfl, rfl⟩, ⟨hL.1, rfl⟩, (qnum_rec (by omega) (by omega) (by omega) rfl), rfl, M_fineG hg (LGX.rf hL), fun y1 h1 hy1 => ?_⟩
  obtain ⟨rfl, hh⟩ := hy1
  rw [hh]
  clear hh
  refine ⟨fun _ => ?_, fun c4 => absurd c4 (by decide)⟩
  refine step.1 _ _ _ _ _ _ _ sgX12_readUnit_8_ok ?_
  refine Or.inl ⟨rfl, _, 1, 0, 0, _, _, _, qi_12_125, ⟨rfl, rfl⟩, ⟨hL.1, rfl⟩, (qnum_rec (by omega) (by omega) (by omega) rfl), rfl, M_hereX hg (LGX.rf hL) hB, fun y9 h9 hy9 => ?_⟩
  obtain ⟨rfl, x9, hV9⟩ := hy9
  refine ⟨fun c14 => ?_, fun c14 => ?_⟩
  · have h40 : ¬ tby F n (sk F n a) = 40 := fun z => c14 ((hch_w (by decide) (by decide)).mpr z)
    refine step.1 _ _ _ _ _ _ _ sgX12_readUnit_45_ok ?_
    refine Or.inl ⟨rfl, _, 1, 0, 0, _, _, _, qi_12_125, ⟨rfl, rfl⟩, ⟨hV9.m, rfl⟩, (qnum_rec (by omega) (by omega) (by omega) rfl), rfl, M_hereQ hg hV9 hB hqq, fun y46 h46 hy46 => ?_⟩
    obtain ⟨rfl, x46, hV46⟩ := hy46
    refine Or.inl ⟨rfl, _, 1, 0, 0, _, Or.inl qi_12_146, ⟨rfl, rfl⟩, (qnum_rec (by omega) (by omega) (by omega) rfl), rfl, M_isDigit hg _, fun y49 h49 hy49 => ?_⟩
    obtain ⟨rfl, hh⟩ := hy49
    rw [hh]
    clear hh
    refine ⟨fun c52 => ?_, fun c52 => ?_⟩
    · have hdg : ¬ isdg (tby F n (sk F n a)) = true := by rw [← isdg_h, qb_0.mp c52]; decide
      have hb := hbr F n (sk F n a) hkn hL.2.2.1.2.1
      rw [hqq] at hb
      refine step.1 _ _ _ _ _ _ _ sgX12_readUnit_71_ok ?_
      refine Or.inl ⟨rfl, _, 2, 0, 0, _, _, _, qi_12_257, ⟨rfl, rfl⟩, ⟨hV46.m, rfl⟩, (qnum_rec (by omega) (by omega) (by omega) rfl), rfl, M_wordQ hg hV46 hB hqq, fun y72 h72 hy72 => ?_⟩
      obtain ⟨rfl, x72, hV72⟩ := hy72
      refine Or.inl ⟨rfl, 56, (hW.ld 20 (by decide)).choose, (hW.ld 20 (by decide)).choose_spec, ?_⟩
      refine Or.inl ⟨rfl, _, 5, 0, 0, _, Or.inl qi_12_210, ⟨rfl, rfl⟩, (qnum_rec (by omega) (by omega) (by omega) rfl), rfl, M_ofw hg hJ hW 20 (by decide), fun y78 h78 hy78 => ?_⟩
      obtain ⟨rfl, hh⟩ := hy78
      rw [hh]
      clear hh
      refine ⟨fun c81 => ?_, fun c81 => ?_⟩
      · have n20 : ¬ mword F n (sk F n a) = nI (wpk 20) := c81
        refine step.1 _ _ _ _ _ _ _ sgX12_readUnit_94_ok ?_
        refine Or.inl ⟨rfl, _, 2, 0, 0, _, _, _, qi_12_257, ⟨rfl, rfl⟩, ⟨hV72.m, rfl⟩, (qnum_rec (by omega) (by omega) (by omega) rfl), rfl, M_wordQ hg hV72 hB hqq, fun y95 h95 hy95 => ?_⟩
        obtain ⟨rfl, x95, hV95⟩ := hy95
        refine Or.inl ⟨rfl, 58, (hW.ld 21 (by decide)).choose, (hW.ld 21 (by decide)).choose_spec, ?_⟩
        refine Or.inl ⟨rfl, _, 5, 0, 0, _, Or.inl qi_12_210, ⟨rfl, rfl⟩, (qnum_rec (by omega) (by omega) (by omega) rfl), rfl, M_ofw hg hJ hW 21 (by decide), fun y101 h101 hy101 => ?_⟩
        obtain ⟨rfl, hh⟩ := hy101
        rw [hh]
        clear hh
        refine ⟨fun c104 => ?_, fun c104 => ?_⟩
        · have n21 : ¬ mword F n (sk F n a) = nI (wpk 21) := c104
          refine step.1 _ _ _ _ _ _ _ sgX12_readUnit_117_ok ?_
          refine Or.inl ⟨rfl, _, 2, 0, 0, _, _, _, qi_12_257, ⟨rfl, rfl⟩, ⟨hV95.m, rfl⟩, (qnum_rec (by omega) (by omega) (by omega) rfl), rfl, M_wordQ hg hV95 hB hqq, fun y118 h118 hy118 => ?_⟩
          obtain ⟨rfl, x118, hV118⟩ := hy118
          refine Or.inl ⟨rfl, 60, (hW.ld 22 (by decide)).choose, (hW.ld 22 (by decide)).choose_spec, ?_⟩
          refine Or.inl ⟨rfl, _, 5, 0, 0, _, Or.inl qi_12_210, ⟨rfl, rfl⟩, (qnum_rec (by omega) (by omega) (by omega) rfl), rfl, M_ofw hg hJ hW 22 (by decide), fun y124 h124 hy124 => ?_⟩
          obtain ⟨rfl, hh⟩ := hy124
          rw [hh]
          clear hh
          refine ⟨fun c127 => ?_, fun c127 => ?_⟩
          · have n22 : ¬ mword F n (sk F n a) = nI (wpk 22) := c127
            have hb2 : (pword F n f len (sk F n a) = -1 ∧ mfact F n (sk F n a) = -1) ∨ ∃ k : Nat, k < 10 ∧ pword F n f len (sk F n a) = nI k ∧ mfact F n (sk F n a) = nI k := by
              rcases hb with ⟨z, _⟩ | ⟨_, z, _⟩ | ⟨_, z, _⟩ | ⟨_, z, _⟩
              · exact z
              · exact absurd z n20
              · exact absurd z n21
              · exact absurd z n22
            refine step.1 _ _ _ _ _ _ _ sgX12_readUnit_140_ok ?_
            refine Or.inl ⟨rfl, _, 6, 0, 0, _, _, _, qi_12_321, ⟨rfl, rfl⟩, ⟨hV118.m, rfl⟩, (qnum_rec (by omega) (by omega) (by omega) rfl), rfl, M_factQ hg hJ hW hSG hV118 hB hqq, fun y141 h141 hy141 => ?_⟩
            obtain ⟨rfl, x141, hV141⟩ := hy141
            refine ⟨fun c147 => ?_, fun c147 => ?_⟩
            · obtain ⟨k, hk, ek, em⟩ : ∃ k : Nat, k < 10 ∧ pword F n f len (sk F n a) = nI k ∧ mfact F n (sk F n a) = nI k := by
                rcases hb2 with ⟨_, z⟩ | z
                · exact absurd z c147
                · exact z
              have hnx : ¬ pword F n f len (sk F n a) = -1 := by rw [ek]; exact mne (by omega)
              have hpe : pwend F n (sk F n a) = lrun F n (n - sk F n a) (sk F n a) := by unfold pwend; rw [hqq]
              refine step.1 _ _ _ _ _ _ _ sgX12_readUnit_159_ok ?_
              refine Or.inl ⟨rfl, _, 1, 0, 0, _, _, _, qi_12_142, ⟨rfl, rfl⟩, ⟨hV141.m, rfl⟩, (qnum_rec (by omega) (by omega) (by omega) rfl), rfl, M_fineG hg hV141, fun y160 h160 hy160 => ?_⟩
              obtain ⟨rfl, hh⟩ := hy160
              rw [hh]
              clear hh
              refine ⟨fun _ => ?_, fun c163 => absurd c163 (by decide)⟩
              refine step.1 _ _ _ _ _ _ _ sgX12_readUnit_167_ok ?_
              refine Or.inl ⟨rfl, _, 2, 0, 0, _, _, _, qi_12_263, ⟨rfl, rfl⟩, ⟨hV141.m, rfl⟩, (qnum_rec (by omega) (by omega) (by omega) rfl), rfl, M_passQ hg hV141 hB, fun y168 h168 hy168 => ?_⟩
              obtain ⟨rfl, x168, hV168⟩ := hy168
              refine Or.inl ⟨rfl, _, 2, 0, 0, _, _, _, qi_12_282, ⟨rfl, rfl⟩, ⟨hV168.m, rfl⟩, (qnum_rec (by omega) (by omega) (by omega) rfl), rfl, M_emitL hg hV168.1 hn (fun z hz => by cases hz; have h1 := hV141.cle; rw [← hpe]; have h2 := (pw_gt (f := f) (len := len) hkn hnx).1; rw [hqq] at h2; omega) 1 _, fun y174 h174 hy174 => ?_⟩
              obtain ⟨rfl, hp174⟩ := hy174
              obtain ⟨x174, hV174⟩ := hV168.tr hp174
              refine step.1 _ _ _ _ _ _ _ sgX12_readUnit_177_ok ?_
              refine ⟨rfl, Nat.le_refl _, Nat.le_refl _, ?_⟩
              exact ⟨rfl, x174, by rw [pu_w hdg h40, pwR_k hk ek, hpe]; rw [em] at hV174; exact hV174⟩
            · have hx1 : pword F n f len (sk F n a) = -1 := by
                rcases hb2 with ⟨z, _⟩ | ⟨k, hk, _, z⟩
                · exact z
                · exact absurd (z.symm.trans c147) (mne (by omega))
              refine ⟨by decide, _, _, hV141.m, rfl, ?_⟩
              refine Or.inl ⟨rfl, _, 1, 0, 0, _, _, _, qi_12_149, ⟨rfl, rfl⟩, ⟨hV141.m, rfl⟩, (qnum_rec (by omega) (by omega) (by omega) rfl), rfl, (by rw [show x141 4 = nI (sk F n a) from hV141.t.2.2.2.1]; exact M_wrongQ hg hV141), fun y156 h156 hy156 => ?_⟩
              obtain ⟨rfl, x156, hV156⟩ := hy156
              refine step.1 _ _ _ _ _ _ _ sgX12_readUnit_159_ok ?_
              refine Or.inl ⟨rfl, _, 1, 0, 0, _, _, _, qi_12_142, ⟨rfl, rfl⟩, ⟨hV156.m, rfl⟩, (qnum_rec (by omega) (by omega) (by omega) rfl), rfl, M_fineB hg hV156, fun y160 h160 hy160 => ?_⟩
              obtain ⟨rfl, hh⟩ := hy160
              rw [hh]
              clear hh
              refine ⟨fun c163 => absurd c163 (by decide), fun _ => ?_⟩
              refine ⟨rfl, Nat.le_refl _, Nat.le_refl _, ?_⟩
              exact ⟨rfl, x156, by rw [pu_w hdg h40, pwR_x hx1 hqq]; exact hV156⟩
          · have m22 : mword F n (sk F n a) = nI (wpk 22) := c127
            obtain ⟨ep, hpe⟩ : pword F n f len (sk F n a) = 12 ∧ pwend F n (sk F n a) = sk F n a + 2 := by
              rcases hb with ⟨_, z1, z2, z3⟩ | ⟨z, e, u⟩ | ⟨z, e, u⟩ | ⟨z, e, u⟩
              · exact absurd m22 z3
              · exact absurd (e.symm.trans m22) (by decide)
              · exact absurd (e.symm.trans m22) (by decide)
              · exact ⟨z, u⟩
            have hpn : pwend F n (sk F n a) ≤ n := (pwend_le F hkn).2
            refine Or.inl ⟨rfl, _, d + 9, 0, 0, _, _, _, qi_12_315, ⟨rfl, rfl⟩, ⟨hV118.m, rfl⟩, (qnum_rec (by omega) (by omega) (by omega) rfl), rfl, M_rowA hg hO hG hn hV118.1 (hV118.B hB) 2 (by rw [← hpe]; exact hpn) 8, fun y134 h134 hy134 => ?_⟩
            obtain ⟨rfl, hp134⟩ := hy134
            obtain ⟨x134, hV134⟩ := hV118.tr hp134
            refine step.1 _ _ _ _ _ _ _ sgX12_readUnit_177_ok ?_
            refine ⟨rfl, Nat.le_refl _, Nat.le_refl _, ?_⟩
            exact ⟨rfl, x134, by rw [pu_w hdg h40]; exact pwR_L ep (by decide) (by decide) hqq hpe (by decide) hV134⟩
        · have m21 : mword F n (sk F n a) = nI (wpk 21) := c104
          obtain ⟨ep, hpe⟩ : pword F n f len (sk F n a) = 11 ∧ pwend F n (sk F n a) = sk F n a + 4 := by
            rcases hb with ⟨_, z1, z2, z3⟩ | ⟨z, e, u⟩ | ⟨z, e, u⟩ | ⟨z, e, u⟩
            · exact absurd m21 z2
            · exact absurd (e.symm.trans m21) (by decide)
            · exact ⟨z, u⟩
            · exact absurd (e.symm.trans m21) (by decide)
          have hpn : pwend F n (sk F n a) ≤ n := (pwend_le F hkn).2
          refine Or.inl ⟨rfl, _, d + 9, 0, 0, _, _, _, qi_12_315, ⟨rfl, rfl⟩, ⟨hV95.m, rfl⟩, (qnum_rec (by omega) (by omega) (by omega) rfl), rfl, M_rowA hg hO hG hn hV95.1 (hV95.B hB) 4 (by rw [← hpe]; exact hpn) 7, fun y111 h111 hy111 => ?_⟩
          obtain ⟨rfl, hp111⟩ := hy111
          obtain ⟨x111, hV111⟩ := hV95.tr hp111
          refine step.1 _ _ _ _ _ _ _ sgX12_readUnit_177_ok ?_
          refine ⟨rfl, Nat.le_refl _, Nat.le_refl _, ?_⟩
          exact ⟨rfl, x111, by rw [pu_w hdg h40]; exact pwR_L ep (by decide) (by decide) hqq hpe (by decide) hV111⟩
      · have m20 : mword F n (sk F n a) = nI (wpk 20) := c81
        obtain ⟨ep, hpe⟩ : pword F n f len (sk F n a) = 10 ∧ pwend F n (sk F n a) = sk F n a + 5 := by
          rcases hb with ⟨_, z1, z2, z3⟩ | ⟨z, e, u⟩ | ⟨z, e, u⟩ | ⟨z, e, u⟩
          · exact absurd m20 z1
          · exact ⟨z, u⟩
          · exact absurd (e.symm.trans m20) (by decide)
          · exact absurd (e.symm.trans m20) (by decide)
        have hpn : pwend F n (sk F n a) ≤ n := (pwend_le F hkn).2
        refine Or.inl ⟨rfl, _, d + 9, 0, 0, _, _, _, qi_12_315, ⟨rfl, rfl⟩, ⟨hV72.m, rfl⟩, (qnum_rec (by omega) (by omega) (by omega) rfl), rfl, M_rowA hg hO hG hn hV72.1 (hV72.B hB) 5 (by rw [← hpe]; exact hpn) 6, fun y88 h88 hy88 => ?_⟩
        obtain ⟨rfl, hp88⟩ := hy88
        obtain ⟨x88, hV88⟩ := hV72.tr hp88
        refine step.1 _ _ _ _ _ _ _ sgX12_readUnit_177_ok ?_
        refine ⟨rfl, Nat.le_refl _, Nat.le_refl _, ?_⟩
        exact ⟨rfl, x88, by rw [pu_w hdg h40]; exact pwR_L ep (by decide) (by decide) hqq hpe (by decide) hV88⟩
    · have hdg : isdg (tby F n (sk F n a)) = true := by rw [← isdg_h]; exact qb_1.mp c52
      refine Or.inl ⟨rfl, _, 2, 0, 0, _, _, _, qi_12_202, ⟨rfl, rfl⟩, ⟨hV46.m, rfl⟩, (qnum_rec (by omega) (by omega) (by omega) rfl), rfl, M_numQ hg hV46 hB, fun y62 h62 hy62 => ?_⟩
      obtain ⟨rfl, x62, hV62⟩ := hy62
      refine Or.inl ⟨rfl, _, 2, 0, 0, _, _, _, qi_12_282, ⟨rfl, rfl⟩, ⟨hV62.m, rfl⟩, (qnum_rec (by omega) (by omega) (by omega) rfl), rfl, M_emitL hg hV62.1 hn (fun z hz => by have h1 := pnumS_gt hV46.t.le' hz; have h2 := hV46.cle; omega) 0 _, fun y65 h65 hy65 => ?_⟩
      obtain ⟨rfl, hp65⟩ := hy65
      obtain ⟨x65, hV65⟩ := hV62.tr hp65
      refine step.1 _ _ _ _ _ _ _ sgX12_readUnit_177_ok ?_
      refine ⟨rfl, Nat.le_refl _, Nat.le_refl _, ?_⟩
      exact ⟨rfl, x65, by rw [pu_d hdg]; exact hV65⟩
  · have h40 : tby F n (sk F n a) = 40 := (hch_w (by decide) (by decide)).mp c14
    have hlt : sk F n a + 1 ≤ n := tby_w (w := 40) (by decide) h40
    refine Or.inl ⟨rfl, _, 2, 0, 0, _, _, _, qi_12_288, ⟨rfl, rfl⟩, ⟨hV9.m, rfl⟩, (qnum_rec (by omega) (by omega) (by omega) rfl), rfl, M_openA hg hO hV9.1 1 hlt, fun y19 h19 hy19 => ?_⟩
    obtain ⟨rfl, hp19⟩ := hy19
    obtain ⟨x19, hV19⟩ := hV9.tr hp19
    refine Or.inl ⟨rfl, _, d + 8, 0, 0, _, _, _, qi_12_291, ⟨rfl, rfl⟩, ⟨hV19.m, rfl⟩, (qnum_rec (by omega) (by omega) (by omega) rfl), rfl, M_sumA hg hO hV19.1 (fun z => by subst z; rfl) (hV19.B hB), fun y23 h23 hy23 => ?_⟩
    obtain ⟨rfl, hp23⟩ := hy23
    obtain ⟨x23, hV23⟩ := hV19.tr hp23
    refine Or.inl ⟨rfl, _, 2, 0, 0, _, _, _, qi_12_269, ⟨rfl, rfl⟩, ⟨hV23.m, rfl⟩, (qnum_rec (by omega) (by omega) (by omega) rfl), rfl, M_signL hg hV23.1 (hV23.B hB) 41 (by decide) (by decide), fun y29 h29 hy29 => ?_⟩
    obtain ⟨rfl, hp29⟩ := hy29
    obtain ⟨x29, hV29⟩ := hV23.tr hp29
    refine ⟨rfl, ?_⟩
    refine ⟨by decide, _, _, hV29.m, rfl, ?_⟩
    refine ⟨_, hV29.m, Nat.le_of_ble_eq_true rfl, rfl, ?_⟩
    have e7 : x29 7 - 1 = nI o := by rw [hV29.1.2.1, ← nI_1]; exact Int32.add_sub_cancel _ _
    have hV39 := hV29.set7 (o := o) (sI_7 (v := x29 7 - 1) (rfl : _ = M63l x29 y)) e7
    refine step.1 _ _ _ _ _ _ _ sgX12_readUnit_177_ok ?_
    refine ⟨rfl, Nat.le_refl _, Nat.le_refl _, ?_⟩
    exact ⟨rfl, _, by rw [pu_p h40]; exact hV39⟩
theorem M_prodA {g : qG} (hg : qOK g) {F : Nat → Int32} {n d o : Nat} {U : PE} (hU : mE g F n (d + 10) o mX12_readUnit U) (hGU : gE n U) (hn : n ≤ 150) : mE g F n (d + 11) o mX12_readProduct (fun a c => pops F n U 42 47 4 5 150 (U a c)) := by
  intro h x y a c hL hB
  refine qSpec_run 12 "readProduct" false hg mX12_readProduct_ok rfl rfl (Nat.le_of_ble_eq_true rfl) (by decide) ?_
  intro run step
  have at67 : ∀ (hX : qH) (xX : Nat → Int32) (r : PS × CD), LGX h hX x xX y n o r.1 r.2 → (pops F n U 42 47 4 5 150 (U a c)) = r → run 67 [(0, .ref 63)] [] hX 0 0 := by
    intro hX xX r hV hRV
    refine step.1 _ _ _ _ _ _ _ sgX12_readProduct_67_ok ?_
    refine ⟨rfl, Nat.le_refl _, Nat.le_refl _, ?_⟩
    subst hRV
    exact ⟨rfl, xX, hV⟩
  have bad4 : ∀ (hX : qH) (xX : Nat → Int32) (e : Nat × Nat) (c1 : CD), LGX h hX x xX y n o (.inl e) c1 → (pops F n U 42 47 4 5 150 (U a c)) = (.inl e, c1) → run 4 [(0, .ref 63)] [] hX 0 0 := by
    intro hX xX e c1 hV hRV
    refine step.1 _ _ _ _ _ _ _ sgX12_readProduct_4_ok ?_
    refine Or.inl ⟨rfl, _, 1, 0, 0, _, _, _, qi_12_142, ⟨rfl, rfl⟩, ⟨hV.m, rfl⟩, (qnum_rec (by omega) (by omega) (by omega) rfl), rfl, M_fineB hg hV, fun y5 h5 hy5 => ?_⟩
    obtain ⟨rfl, hh⟩ := hy5
    rw [hh]
    clear hh
    refine ⟨fun _ => ?_, fun c8 => absurd c8 (by decide)⟩
    exact at67 hX xX (.inl e, c1) hV hRV
  have loop : ∀ (m : Nat) (hX : qH) (xX : Nat → Int32) (s : PS) (c1 : CD), (∀ z : Nat, s = .inr z → n ≤ z + m) → LGX h hX x xX y n o s c1 → (pops F n U 42 47 4 5 150 (U a c)) = pops F n U 42 47 4 5 m (s, c1) → run 4 [(0, .ref 63)] [] hX 0 0 := by
    intro m
    induction m with
    | zero =>
      intro hX xX s c1 hz hV hRV
      cases s with
      | inl e => exact bad4 hX xX e c1 hV hRV
      | inr z =>
      have hzn : z ≤ n := hV.t.le'
      have hqq : sk F n (sk F n z) = sk F n z := sk_sk F hzn
      have hsz : sk F n z = z := by have h1 := sk_le F hzn; have h2 := hz z rfl; omega
      have hte : tby F n (sk F n z) = -1 := tby_end (by rw [hsz]; have h2 := hz z rfl; omega)
      refine step.1 _ _ _ _ _ _ _ sgX12_readProduct_4_ok ?_
      refine Or.inl ⟨rfl, _, 1, 0, 0, _, _, _, qi_12_142, ⟨rfl, rfl⟩, ⟨hV.m, rfl⟩, (qnum_rec (by omega) (by omega) (by omega) rfl), rfl, M_fineG hg hV, fun y5 h5 hy5 => ?_⟩
      obtain ⟨rfl, hh⟩ := hy5
      rw [hh]
      clear hh
      refine ⟨fun c8 => absurd c8 (by decide), fun _ => ?_⟩
      refine Or.inl ⟨rfl, _, 1, 0, 0, _, _, _, qi_12_125, ⟨rfl, rfl⟩, ⟨hV.m, rfl⟩, (qnum_rec (by omega) (by omega) (by omega) rfl), rfl, M_hereX hg hV hB, fun y12 h12 hy12 => ?_⟩
      obtain ⟨rfl, x12, hV12⟩ := hy12
      refine ⟨fun c17 => absurd ((hch_w (by decide) (by decide)).mp c17) (by rw [hte]; decide), fun c17 => ?_⟩
      
      refine Or.inl ⟨rfl, _, 1, 0, 0, _, _, _, qi_12_125, ⟨rfl, rfl⟩, ⟨hV12.m, rfl⟩, (qnum_rec (by omega) (by omega) (by omega) rfl), rfl, M_hereQ hg hV12 hB hqq, fun y21 h21 hy21 => ?_⟩
      obtain ⟨rfl, x21, hV21⟩ := hy21
      refine ⟨fun c26 => ?_, fun c26 => absurd ((hch_w (by decide) (by decide)).mp c26) (by rw [hte]; decide)⟩
      exact at67 _ x21 (.inr (sk F n z), c1) hV21 (hRV.trans (by rw [hsz]; rfl))
    | succ m ih =>
      intro hX xX s c1 hz hV hRV
      cases s with
      | inl e => exact bad4 hX xX e c1 hV hRV
      | inr z =>
      have hzn : z ≤ n := hV.t.le'
      have hqq : sk F n (sk F n z) = sk F n z := sk_sk F hzn
      have hkz := sk_le F hzn
      have hcz := hV.cle
      have at29 : ∀ (hX : qH) (xX : Nat → Int32), (tby F n (sk F n z) = 42 ∨ tby F n (sk F n z) = 47) → LGX h hX x xX y n o (.inr (sk F n z)) c1 → run 29 [(0, .ref 63)] [] hX 0 0 := by
        intro hX xX hcc hV
        have hlt : sk F n z + 1 ≤ n := by
          rcases hcc with u | u
          · exact tby_w (w := 42) (by decide) u
          · exact tby_w (w := 47) (by decide) u
        have gz : ∀ b : Nat, (U (sk F n z + 1) c1).1 = .inr b → (U (sk F n z + 1) c1).2.2.2 < b := fun b hb => by
          obtain ⟨p1, a1, p2, p3, p4⟩ := hGU (sk F n z + 1) c1 (fun u hu => by cases hu; exact hlt) b hb
          cases p2
          omega
        refine step.1 _ _ _ _ _ _ _ sgX12_readProduct_29_ok ?_
        refine Or.inl ⟨rfl, _, 1, 0, 0, _, _, _, qi_12_125, ⟨rfl, rfl⟩, ⟨hV.m, rfl⟩, (qnum_rec (by omega) (by omega) (by omega) rfl), rfl, M_hereQ hg hV hB hqq, fun y30 h30 hy30 => ?_⟩
        obtain ⟨rfl, x30, hV30⟩ := hy30
        refine ⟨fun c35 => ?_, fun c35 => ?_⟩
        · have hk1 : ¬ tby F n (sk F n z) = 42 := fun u => c35 ((hch_w (by decide) (by decide)).mpr u)
          refine step.1 _ _ _ _ _ _ _ sgX12_readProduct_42_ok ?_
          refine step.1 _ _ _ _ _ _ _ sgX12_readProduct_43_ok ?_
          refine ⟨rfl, ?_⟩
          refine ⟨by decide, _, _, hV30.m, rfl, ?_⟩
          refine ⟨_, hV30.m, Nat.le_of_ble_eq_true rfl, rfl, ?_⟩
          have e4 : x30 4 + 1 = nI (sk F n z + 1) := by rw [show x30 4 = nI (sk F n z) from hV30.t.2.2.2.1]; exact nI_1 _
          have hV51 := hV30.set4 (sI_4 (v := x30 4 + 1) (rfl : _ = M63l x30 y)) e4 hlt
          refine Or.inl ⟨rfl, _, d + 10, 0, 0, _, _, _, qi_12_285, ⟨rfl, rfl⟩, ⟨hV51.m, rfl⟩, (qnum_rec (by omega) (by omega) (by omega) rfl), rfl, hU _ _ y _ _ hV51.1 (hV51.B hB), fun y55 h55 hy55 => ?_⟩
          obtain ⟨rfl, hp55⟩ := hy55
          obtain ⟨x55, hV55⟩ := hV51.tr hp55
          refine Or.inl ⟨rfl, _, 2, 0, 0, _, _, _, qi_12_282, ⟨rfl, rfl⟩, ⟨hV55.m, rfl⟩, (qnum_rec (by omega) (by omega) (by omega) rfl), rfl, M_emitL hg hV55.1 hn gz 5 0, fun y61 h61 hy61 => ?_⟩
          obtain ⟨rfl, hp61⟩ := hy61
          obtain ⟨x61, hV61⟩ := hV55.tr hp61
          refine step.2 _ _ _ _ _ _ _ (qsub_cons 1 rfl qsub_nil) ?_
          exact ih _ x61 _ _ (fun b hb => by have h1 := (hGU (sk F n z + 1) c1 (fun u hu => by cases hu; exact hlt) b hb); obtain ⟨p1, a1, p2, p3, p4⟩ := h1; cases p2; have := hz z rfl; omega) hV61 (hRV.trans (by rw [show pops F n U 42 47 4 5 (m + 1) (.inr z, c1) = _ from if_pos hcc]; rw [if_neg hk1]))
        · have hk1 : tby F n (sk F n z) = 42 := (hch_w (by decide) (by decide)).mp c35
          refine step.1 _ _ _ _ _ _ _ sgX12_readProduct_43_ok ?_
          refine ⟨rfl, ?_⟩
          refine ⟨by decide, _, _, hV30.m, rfl, ?_⟩
          refine ⟨_, hV30.m, Nat.le_of_ble_eq_true rfl, rfl, ?_⟩
          have e4 : x30 4 + 1 = nI (sk F n z + 1) := by rw [show x30 4 = nI (sk F n z) from hV30.t.2.2.2.1]; exact nI_1 _
          have hV51 := hV30.set4 (sI_4 (v := x30 4 + 1) (rfl : _ = M63l x30 y)) e4 hlt
          refine Or.inl ⟨rfl, _, d + 10, 0, 0, _, _, _, qi_12_285, ⟨rfl, rfl⟩, ⟨hV51.m, rfl⟩, (qnum_rec (by omega) (by omega) (by omega) rfl), rfl, hU _ _ y _ _ hV51.1 (hV51.B hB), fun y55 h55 hy55 => ?_⟩
          obtain ⟨rfl, hp55⟩ := hy55
          obtain ⟨x55, hV55⟩ := hV51.tr hp55
          refine Or.inl ⟨rfl, _, 2, 0, 0, _, _, _, qi_12_282, ⟨rfl, rfl⟩, ⟨hV55.m, rfl⟩, (qnum_rec (by omega) (by omega) (by omega) rfl), rfl, M_emitL hg hV55.1 hn gz 4 0, fun y61 h61 hy61 => ?_⟩
          obtain ⟨rfl, hp61⟩ := hy61
          obtain ⟨x61, hV61⟩ := hV55.tr hp61
          refine step.2 _ _ _ _ _ _ _ (qsub_cons 1 rfl qsub_nil) ?_
          exact ih _ x61 _ _ (fun b hb => by have h1 := (hGU (sk F n z + 1) c1 (fun u hu => by cases hu; exact hlt) b hb); obtain ⟨p1, a1, p2, p3, p4⟩ := h1; cases p2; have := hz z rfl; omega) hV61 (hRV.trans (by rw [show pops F n U 42 47 4 5 (m + 1) (.inr z, c1) = _ from if_pos hcc]; rw [if_pos hk1]))
      refine step.1 _ _ _ _ _ _ _ sgX12_readProduct_4_ok ?_
      refine Or.inl ⟨rfl, _, 1, 0, 0, _, _, _, qi_12_142, ⟨rfl, rfl⟩, ⟨hV.m, rfl⟩, (qnum_rec (by omega) (by omega) (by omega) rfl), rfl, M_fineG hg hV, fun y5 h5 hy5 => ?_⟩
      obtain ⟨rfl, hh⟩ := hy5
      rw [hh]
      clear hh
      refine ⟨fun c8 => absurd c8 (by decide), fun _ => ?_⟩
      refine Or.inl ⟨rfl, _, 1, 0, 0, _, _, _, qi_12_125, ⟨rfl, rfl⟩, ⟨hV.m, rfl⟩, (qnum_rec (by omega) (by omega) (by omega) rfl), rfl, M_hereX hg hV hB, fun y12 h12 hy12 => ?_⟩
      obtain ⟨rfl, x12, hV12⟩ := hy12
      refine ⟨fun c17 => ?_, fun c17 => ?_⟩
      · have hcc : tby F n (sk F n z) = 42 ∨ tby F n (sk F n z) = 47 := Or.inl ((hch_w (by decide) (by decide)).mp c17)
        exact at29 _ x12 hcc hV12
      · refine Or.inl ⟨rfl, _, 1, 0, 0, _, _, _, qi_12_125, ⟨rfl, rfl⟩, ⟨hV12.m, rfl⟩, (qnum_rec (by omega) (by omega) (by omega) rfl), rfl, M_hereQ hg hV12 hB hqq, fun y21 h21 hy21 => ?_⟩
        obtain ⟨rfl, x21, hV21⟩ := hy21
        refine ⟨fun c26 => ?_, fun c26 => ?_⟩
        · have hnc : ¬ (tby F n (sk F n z) = 42 ∨ tby F n (sk F n z) = 47) := fun u => u.elim (fun u => c17 ((hch_w (by decide) (by decide)).mpr u)) (fun u => c26 ((hch_w (by decide) (by decide)).mpr u))
          exact at67 _ x21 (.inr (sk F n z), c1) hV21 (hRV.trans (if_neg hnc))
        · have hcc : tby F n (sk F n z) = 42 ∨ tby F n (sk F n z) = 47 := Or.inr ((hch_w (by decide) (by decide)).mp c26)
          exact at29 _ x21 hcc hV21
  refine step.1 _ _ _ _ _ _ _ sgX12_readProduct_0_ok ?_
  refine Or.inl ⟨rfl, _, d + 10, 0, 0, _, _, _, qi_12_285, ⟨rfl, rfl⟩, ⟨hL.1, rfl⟩, (qnum_rec (by omega) (by omega) (by omega) rfl), rfl, hU h x y a c hL hB, fun y1 h1 hy1 => ?_⟩
  obtain ⟨rfl, hp1⟩ := hy1
  obtain ⟨x1, hV1⟩ := (LGX.rf hL).tr hp1
  exact loop 150 h1 x1 (U a c).1 (U a c).2 (fun z _ => by omega) hV1 rfl
theorem M_sumB {g : qG} (hg : qOK g) {F : Nat → Int32} {n d o : Nat} {U : PE} (hU : mE g F n (d + 11) o mX12_readProduct U) (hGU : gE n U) (hn : n ≤ 150) : mE g F n (d + 12) o mX12_readSum (fun a c => pops F n U 43 45 2 3 150 (U a c)) := by
  intro h x y a c hL hB
  refine qSpec_run 12 "readSum" false hg mX12_readSum_ok rfl rfl (Nat.le_of_ble_eq_true rfl) (by decide) ?_
  intro run step
  have at67 : ∀ (hX : qH) (xX : Nat → Int32) (r : PS × CD), LGX h hX x xX y n o r.1 r.2 → (pops F n U 43 45 2 3 150 (U a c)) = r → run 67 [(0, .ref 63)] [] hX 0 0 := by
    intro hX xX r hV hRV
    refine step.1 _ _ _ _ _ _ _ sgX12_readSum_67_ok ?_
    refine ⟨rfl, Nat.le_refl _, Nat.le_refl _, ?_⟩
    subst hRV
    exact ⟨rfl, xX, hV⟩
  have bad4 : ∀ (hX : qH) (xX : Nat → Int32) (e : Nat × Nat) (c1 : CD), LGX h hX x xX y n o (.inl e) c1 → (pops F n U 43 45 2 3 150 (U a c)) = (.inl e, c1) → run 4 [(0, .ref 63)] [] hX 0 0 := by
    intro hX xX e c1 hV hRV
    refine step.1 _ _ _ _ _ _ _ sgX12_readSum_4_ok ?_
    refine Or.inl ⟨rfl, _, 1, 0, 0, _, _, _, qi_12_142, ⟨rfl, rfl⟩, ⟨hV.m, rfl⟩, (qnum_rec (by omega) (by omega) (by omega) rfl), rfl, M_fineB hg hV, fun y5 h5 hy5 => ?_⟩
    obtain ⟨rfl, hh⟩ := hy5
    rw [hh]
    clear hh
    refine ⟨fun _ => ?_, fun c8 => absurd c8 (by decide)⟩
    exact at67 hX xX (.inl e, c1) hV hRV
  have loop : ∀ (m : Nat) (hX : qH) (xX : Nat → Int32) (s : PS) (c1 : CD), (∀ z : Nat, s = .inr z → n ≤ z + m) → LGX h hX x xX y n o s c1 → (pops F n U 43 45 2 3 150 (U a c)) = pops F n U 43 45 2 3 m (s, c1) → run 4 [(0, .ref 63)] [] hX 0 0 := by
    intro m
    induction m with
    | zero =>
      intro hX xX s c1 hz hV hRV
      cases s with
      | inl e => exact bad4 hX xX e c1 hV hRV
      | inr z =>
      have hzn : z ≤ n := hV.t.le'
      have hqq : sk F n (sk F n z) = sk F n z := sk_sk F hzn
      have hsz : sk F n z = z := by have h1 := sk_le F hzn; have h2 := hz z rfl; omega
      have hte : tby F n (sk F n z) = -1 := tby_end (by rw [hsz]; have h2 := hz z rfl; omega)
      refine step.1 _ _ _ _ _ _ _ sgX12_readSum_4_ok ?_
      refine Or.inl ⟨rfl, _, 1, 0, 0, _, _, _, qi_12_142, ⟨rfl, rfl⟩, ⟨hV.m, rfl⟩, (qnum_rec (by omega) (by omega) (by omega) rfl), rfl, M_fineG hg hV, fun y5 h5 hy5 => ?_⟩
      obtain ⟨rfl, hh⟩ := hy5
      rw [hh]
      clear hh
      refine ⟨fun c8 => absurd c8 (by decide), fun _ => ?_⟩
      refine Or.inl ⟨rfl, _, 1, 0, 0, _, _, _, qi_12_125, ⟨rfl, rfl⟩, ⟨hV.m, rfl⟩, (qnum_rec (by omega) (by omega) (by omega) rfl), rfl, M_hereX hg hV hB, fun y12 h12 hy12 => ?_⟩
      obtain ⟨rfl, x12, hV12⟩ := hy12
      refine ⟨fun c17 => absurd ((hch_w (by decide) (by decide)).mp c17) (by rw [hte]; decide), fun c17 => ?_⟩
      
      refine Or.inl ⟨rfl, _, 1, 0, 0, _, _, _, qi_12_125, ⟨rfl, rfl⟩, ⟨hV12.m, rfl⟩, (qnum_rec (by omega) (by omega) (by omega) rfl), rfl, M_hereQ hg hV12 hB hqq, fun y21 h21 hy21 => ?_⟩
      obtain ⟨rfl, x21, hV21⟩ := hy21
      refine ⟨fun c26 => ?_, fun c26 => absurd ((hch_w (by decide) (by decide)).mp c26) (by rw [hte]; decide)⟩
      exact at67 _ x21 (.inr (sk F n z), c1) hV21 (hRV.trans (by rw [hsz]; rfl))
    | succ m ih =>
      intro hX xX s c1 hz hV hRV
      cases s with
      | inl e => exact bad4 hX xX e c1 hV hRV
      | inr z =>
      have hzn : z ≤ n := hV.t.le'
      have hqq : sk F n (sk F n z) = sk F n z := sk_sk F hzn
      have hkz := sk_le F hzn
      have hcz := hV.cle
      have at29 : ∀ (hX : qH) (xX : Nat → Int32), (tby F n (sk F n z) = 43 ∨ tby F n (sk F n z) = 45) → LGX h hX x xX y n o (.inr (sk F n z)) c1 → run 29 [(0, .ref 63)] [] hX 0 0 := by
        intro hX xX hcc hV
        have hlt : sk F n z + 1 ≤ n := by
          rcases hcc with u | u
          · exact tby_w (w := 43) (by decide) u
          · exact tby_w (w := 45) (by decide) u
        have gz : ∀ b : Nat, (U (sk F n z + 1) c1).1 = .inr b → (U (sk F n z + 1) c1).2.2.2 < b := fun b hb => by
          obtain ⟨p1, a1, p2, p3, p4⟩ := hGU (sk F n z + 1) c1 (fun u hu => by cases hu; exact hlt) b hb
          cases p2
          omega
        refine step.1 _ _ _ _ _ _ _ sgX12_readSum_29_ok ?_
        refine Or.inl ⟨rfl, _, 1, 0, 0, _, _, _, qi_12_125, ⟨rfl, rfl⟩, ⟨hV.m, rfl⟩, (qnum_rec (by omega) (by omega) (by omega) rfl), rfl, M_hereQ hg hV hB hqq, fun y30 h30 hy30 => ?_⟩
        obtain ⟨rfl, x30, hV30⟩ := hy30
        refine ⟨fun c35 => ?_, fun c35 => ?_⟩
        · have hk1 : ¬ tby F n (sk F n z) = 43 := fun u => c35 ((hch_w (by decide) (by decide)).mpr u)
          refine step.1 _ _ _ _ _ _ _ sgX12_readSum_42_ok ?_
          refine step.1 _ _ _ _ _ _ _ sgX12_readSum_43_ok ?_
          refine ⟨rfl, ?_⟩
          refine ⟨by decide, _, _, hV30.m, rfl, ?_⟩
          refine ⟨_, hV30.m, Nat.le_of_ble_eq_true rfl, rfl, ?_⟩
          have e4 : x30 4 + 1 = nI (sk F n z + 1) := by rw [show x30 4 = nI (sk F n z) from hV30.t.2.2.2.1]; exact nI_1 _
          have hV51 := hV30.set4 (sI_4 (v := x30 4 + 1) (rfl : _ = M63l x30 y)) e4 hlt
          refine Or.inl ⟨rfl, _, d + 11, 0, 0, _, _, _, qi_12_279, ⟨rfl, rfl⟩, ⟨hV51.m, rfl⟩, (qnum_rec (by omega) (by omega) (by omega) rfl), rfl, hU _ _ y _ _ hV51.1 (hV51.B hB), fun y55 h55 hy55 => ?_⟩
          obtain ⟨rfl, hp55⟩ := hy55
          obtain ⟨x55, hV55⟩ := hV51.tr hp55
          refine Or.inl ⟨rfl, _, 2, 0, 0, _, _, _, qi_12_282, ⟨rfl, rfl⟩, ⟨hV55.m, rfl⟩, (qnum_rec (by omega) (by omega) (by omega) rfl), rfl, M_emitL hg hV55.1 hn gz 3 0, fun y61 h61 hy61 => ?_⟩
          obtain ⟨rfl, hp61⟩ := hy61
          obtain ⟨x61, hV61⟩ := hV55.tr hp61
          refine step.2 _ _ _ _ _ _ _ (qsub_cons 1 rfl qsub_nil) ?_
          exact ih _ x61 _ _ (fun b hb => by have h1 := (hGU (sk F n z + 1) c1 (fun u hu => by cases hu; exact hlt) b hb); obtain ⟨p1, a1, p2, p3, p4⟩ := h1; cases p2; have := hz z rfl; omega) hV61 (hRV.trans (by rw [show pops F n U 43 45 2 3 (m + 1) (.inr z, c1) = _ from if_pos hcc]; rw [if_neg hk1]))
        · have hk1 : tby F n (sk F n z) = 43 := (hch_w (by decide) (by decide)).mp c35
          refine step.1 _ _ _ _ _ _ _ sgX12_readSum_43_ok ?_
          refine ⟨rfl, ?_⟩
          refine ⟨by decide, _, _, hV30.m, rfl, ?_⟩
          refine ⟨_, hV30.m, Nat.le_of_ble_eq_true rfl, rfl, ?_⟩
          have e4 : x30 4 + 1 = nI (sk F n z + 1) := by rw [show x30 4 = nI (sk F n z) from hV30.t.2.2.2.1]; exact nI_1 _
          have hV51 := hV30.set4 (sI_4 (v := x30 4 + 1) (rfl : _ = M63l x30 y)) e4 hlt
          refine Or.inl ⟨rfl, _, d + 11, 0, 0, _, _, _, qi_12_279, ⟨rfl, rfl⟩, ⟨hV51.m, rfl⟩, (qnum_rec (by omega) (by omega) (by omega) rfl), rfl, hU _ _ y _ _ hV51.1 (hV51.B hB), fun y55 h55 hy55 => ?_⟩
          obtain ⟨rfl, hp55⟩ := hy55
          obtain ⟨x55, hV55⟩ := hV51.tr hp55
          refine Or.inl ⟨rfl, _, 2, 0, 0, _, _, _, qi_12_282, ⟨rfl, rfl⟩, ⟨hV55.m, rfl⟩, (qnum_rec (by omega) (by omega) (by omega) rfl), rfl, M_emitL hg hV55.1 hn gz 2 0, fun y61 h61 hy61 => ?_⟩
          obtain ⟨rfl, hp61⟩ := hy61
          obtain ⟨x61, hV61⟩ := hV55.tr hp61
          refine step.2 _ _ _ _ _ _ _ (qsub_cons 1 rfl qsub_nil) ?_
          exact ih _ x61 _ _ (fun b hb => by have h1 := (hGU (sk F n z + 1) c1 (fun u hu => by cases hu; exact hlt) b hb); obtain ⟨p1, a1, p2, p3, p4⟩ := h1; cases p2; have := hz z rfl; omega) hV61 (hRV.trans (by rw [show pops F n U 43 45 2 3 (m + 1) (.inr z, c1) = _ from if_pos hcc]; rw [if_pos hk1]))
      refine step.1 _ _ _ _ _ _ _ sgX12_readSum_4_ok ?_
      refine Or.inl ⟨rfl, _, 1, 0, 0, _, _, _, qi_12_142, ⟨rfl, rfl⟩, ⟨hV.m, rfl⟩, (qnum_rec (by omega) (by omega) (by omega) rfl), rfl, M_fineG hg hV, fun y5 h5 hy5 => ?_⟩
      obtain ⟨rfl, hh⟩ := hy5
      rw [hh]
      clear hh
      refine ⟨fun c8 => absurd c8 (by decide), fun _ => ?_⟩
      refine Or.inl ⟨rfl, _, 1, 0, 0, _, _, _, qi_12_125, ⟨rfl, rfl⟩, ⟨hV.m, rfl⟩, (qnum_rec (by omega) (by omega) (by omega) rfl), rfl, M_hereX hg hV hB, fun y12 h12 hy12 => ?_⟩
      obtain ⟨rfl, x12, hV12⟩ := hy12
      refine ⟨fun c17 => ?_, fun c17 => ?_⟩
      · have hcc : tby F n (sk F n z) = 43 ∨ tby F n (sk F n z) = 45 := Or.inl ((hch_w (by decide) (by decide)).mp c17)
        exact at29 _ x12 hcc hV12
      · refine Or.inl ⟨rfl, _, 1, 0, 0, _, _, _, qi_12_125, ⟨rfl, rfl⟩, ⟨hV12.m, rfl⟩, (qnum_rec (by omega) (by omega) (by omega) rfl), rfl, M_hereQ hg hV12 hB hqq, fun y21 h21 hy21 => ?_⟩
        obtain ⟨rfl, x21, hV21⟩ := hy21
        refine ⟨fun c26 => ?_, fun c26 => ?_⟩
        · have hnc : ¬ (tby F n (sk F n z) = 43 ∨ tby F n (sk F n z) = 45) := fun u => u.elim (fun u => c17 ((hch_w (by decide) (by decide)).mpr u)) (fun u => c26 ((hch_w (by decide) (by decide)).mpr u))
          exact at67 _ x21 (.inr (sk F n z), c1) hV21 (hRV.trans (if_neg hnc))
        · have hcc : tby F n (sk F n z) = 43 ∨ tby F n (sk F n z) = 45 := Or.inr ((hch_w (by decide) (by decide)).mp c26)
          exact at29 _ x21 hcc hV21
  refine step.1 _ _ _ _ _ _ _ sgX12_readSum_0_ok ?_
  refine Or.inl ⟨rfl, _, d + 11, 0, 0, _, _, _, qi_12_279, ⟨rfl, rfl⟩, ⟨hL.1, rfl⟩, (qnum_rec (by omega) (by omega) (by omega) rfl), rfl, hU h x y a c hL hB, fun y1 h1 hy1 => ?_⟩
  obtain ⟨rfl, hp1⟩ := hy1
  obtain ⟨x1, hV1⟩ := (LGX.rf hL).tr hp1
  exact loop 150 h1 x1 (U a c).1 (U a c).2 (fun z _ => by omega) hV1 rfl
theorem M_expA {g : qG} (hg : qOK g) (hJ : qJDK g) (hW : qMW g) (hSG : qSG g) {f : Nat → Nat} {len : Nat} (hbr : lbr f len) {F : Nat → Int32} {n : Nat} (hn : n ≤ 150) : ∀ l o : Nat, o + l = 6 → mE g F n (4 * l + 12) o mX12_readSum (pexp F n f len l) := by
  intro l
  induction l with
  | zero =>
    intro o ho
    have hO : mEo g F n (0 + 8) o none := ho
    have hG : gEo n none := fun e q => by cases q
    exact M_sumB (d := 0) hg (M_prodA (d := 0) hg (M_unitA (d := 0) hg hO hG hn hJ hW hSG hbr) (gE_unit hG) hn) (gE_prod hG) hn
  | succ l ih =>
    intro o ho
    have hO : mEo g F n (4 * l + 4 + 8) o (some (pexp F n f len l)) := ⟨by omega, ih (o + 1) (by omega)⟩
    have hG : gEo n (some (pexp F n f len l)) := fun e q => by cases q; exact gE_exp l
    exact M_sumB (d := 4 * l + 4) hg (M_prodA (d := 4 * l + 4) hg (M_unitA (d := 4 * l + 4) hg hO hG hn hJ hW hSG hbr) (gE_unit hG) hn) (gE_prod hG) hn
end Q13H
