section Q09G
theorem nI_any (x : Int32) : ∃ q : Nat, q < 2 ^ 32 ∧ x = nI q := by
  refine ⟨x.toUInt32.toNat, x.toUInt32.toNat_lt, ?_⟩
  have e : Int32.ofNat x.toUInt32.toNat = x := by
    apply Int32.toBitVec.inj
    simp [Int32.ofNat]
  exact e.symm
def ppl (s : PS) : Int32 := match s with
  | .inl e => nI e.2
  | .inr _ => -1
def pki (s : PS) : Int32 := match s with
  | .inl e => nI e.1
  | .inr _ => 0
theorem cT.out {h : qH} {F : Nat → Int32} {n q : Nat} {s : PS} (hT : cT h F n s q) : ∃ en po fr : Int32, isT h 1 2 F 0 en po fr (pki s) (ppl s) := by
  obtain ⟨p, ki, pl, hT, -, -, -, hs⟩ := hT
  match s, hs with
  | .inl e, ⟨h1, h2, _⟩ => exact ⟨_, _, _, by rw [h1, h2] at hT; exact hT⟩
  | .inr a, ⟨_, h2, h3⟩ => exact ⟨_, _, _, by rw [h2, h3] at hT; exact hT⟩
theorem X_begin {g : qG} (hg : qOK g) {h : qH} {S : CS} (hC : CH h S) {n : Nat} (hn : n ≤ 600) : qSpec g 1 0 0 mX8_begin [.ref 1, .int (nI n)] h (fun r h' => r = none ∧ same h h' [1] ∧ ∃ q : Nat, cT h' S.1.1 n (.inr 0) q) := by
  obtain ⟨en, po, fr, ki, hTp⟩ := hC.tape
  obtain ⟨q, hq, rfl⟩ := nI_any fr
  refine qSpec_mono (T_begin hg hTp (nI n)) ?_
  intro r h' hy
  obtain ⟨rfl, rfl⟩ := hy
  exact ⟨rfl, T1_same, q, 0, 0, -1, hTp.set _ _ _ _ _ _, Nat.zero_le _, hn, hq, rfl, rfl, rfl⟩
set_option maxHeartbeats 1000000 in
/-- the tape and what the readers use have changed, no more -/
theorem CH.upT {h h' : qH} {S : CS} {Z : List Nat} (hC : CH h S) (hs : same h h' Z) (h1 : 1 ∈ Z) {pl : Int32} (hz : ∀ j ∈ Z, ∃ e : qE, h'.2 j = some e ∧ cel ((S.1.1, 0, pl), S.2) j e) : CH h' ((S.1.1, 0, pl), S.2) := by
  intro j hj
  by_cases c : j ∈ Z
  · exact hz j c
  · obtain ⟨e, h2, h3⟩ := hC j hj
    refine ⟨e, (hs.2 j c).trans h2, ?_⟩
    match j, hj, c, h3 with
    | 0, _, _, h3 => exact h3
    | 1, _, c, _ => exact absurd h1 c
    | 2, _, _, h3 => exact h3
    | 3, _, _, h3 => exact h3
    | 4, _, _, h3 => exact h3
    | 5, _, _, h3 => exact h3
    | 6, _, _, h3 => exact h3
    | 7, _, _, h3 => exact h3
    | 8, _, _, h3 => exact h3
    | 9, _, _, h3 => exact h3
    | 10, _, _, h3 => exact h3
    | 11, _, _, h3 => exact h3
    | 12, _, _, h3 => exact h3
    | 13, _, _, h3 => exact h3
    | 14, _, _, h3 => exact h3
    | 15, _, _, h3 => exact h3
    | 16, _, _, h3 => exact h3
    | 17, _, _, h3 => exact h3
    | 18, _, _, h3 => exact h3
    | 19, _, _, h3 => exact h3
    | 20, _, _, h3 => exact h3
    | 21, _, _, h3 => exact h3
    | 22, _, _, h3 => exact h3
    | 23, _, _, h3 => exact h3
    | 24, _, _, h3 => exact h3
    | 25, _, _, h3 => exact h3
    | 26, _, _, h3 => exact h3
    | 27, _, _, h3 => exact h3
    | 28, _, _, h3 => exact h3
    | 29, _, _, h3 => exact h3
    | 30, _, _, h3 => exact h3
    | 31, _, _, h3 => exact h3
    | 32, _, _, h3 => exact h3
    | 33, _, _, h3 => exact h3
    | 34, _, _, h3 => exact h3
    | 35, _, _, h3 => exact h3
    | 36, _, _, h3 => exact h3
    | 37, _, _, h3 => exact h3
    | 38, _, _, h3 => exact h3
    | 39, _, _, h3 => exact h3
    | 40, _, _, h3 => exact h3
    | 41, _, _, h3 => exact h3
    | 42, _, _, h3 => exact h3
    | 43, _, _, h3 => exact h3
    | 44, _, _, h3 => exact h3
    | 45, _, _, h3 => exact h3
    | 46, _, _, h3 => exact h3
    | 47, _, _, h3 => exact h3
    | 48, _, _, h3 => exact h3
    | 49, _, _, h3 => exact h3
    | 50, _, _, h3 => exact h3
    | 51, _, _, h3 => exact h3
    | 52, _, _, h3 => exact h3
    | 53, _, _, h3 => exact h3
    | 54, _, _, h3 => exact h3
    | 55, _, _, h3 => exact h3
    | 56, _, _, h3 => exact h3
    | 57, _, _, h3 => exact h3
    | 58, _, _, h3 => exact h3
    | 59, _, _, h3 => exact h3
    | 60, _, _, h3 => exact h3
    | 61, _, _, h3 => exact h3
    | 62, _, _, h3 => exact h3
    | k + 63, hj, _, _ => exact absurd hj (by omega)
theorem va_cpy_va {α : Type} (A B : Nat → α) (n : Nat) : va_cpy (va_cpy A B 0 0 n) A 0 0 n = A := by
  funext k
  unfold va_cpy
  split
  · rename_i c
    rw [if_pos (by omega)]
    congr 1
    omega
  · rfl
theorem isL.z {h : qH} {a ka va sk : Nat} {K V S : Nat → Int32} {sz : Int32} (hL : isL h a ka va sk K V S sz) (h1 : ka ≠ a) (h2 : va ≠ a) (h3 : sk ≠ a) : isL (h.1, qup h.2 a (.inl (3, [.ref ka, .ref va, .ref sk, .int 0]))) a ka va sk K V S 0 := ⟨qup_s, (qup_n h1).trans hL.2.1, (qup_n h2).trans hL.2.2.1, (qup_n h3).trans hL.2.2.2⟩
def tOK (he : Nat) (most v : Int32) : Bool := wi 0 most v && decide (v ≤ nI he)
theorem tOK_nat {he m : Nat} {v : Int32} (hm : m ≤ 600) (hh : he ≤ 600) (h : tOK he (nI m) v = true) : ∃ n : Nat, n ≤ m ∧ n ≤ he ∧ n ≤ 600 ∧ v = nI n := by
  have h2 := (Bool.and_eq_true _ _).mp h
  obtain ⟨n, hn, rfl⟩ := wi_nat (m := m) (by omega) h2.1
  exact ⟨n, hn, (nI_leI (by omega) (by omega)).mp (of_decide_eq_true h2.2), by omega, rfl⟩
/-- the strings of the readers -/
def qJOB (g : qG) : Prop := qFM g ∧ qJDK g ∧ ∃ (f5 : Nat → Nat) (l5 : Nat) (f6 : Nat → Nat) (l6 : Nat) (f7 : Nat → Nat) (l7 : Nat), True
def svil (S : CS) (pl : Int32) (D P U : Nat → Int32) (N : Nat) (Q : Nat → Int32) (M : Nat) (st ve cl : Int32) : CS := ((S.1.1, 0, pl), (D, P, U, N, 0, 0, st, ve, cl), (S.2.2.1.1, 0), (Q, M), ((S.2.2.2.2.1.1.1, S.2.2.2.2.1.1.2.1, 0), (S.2.2.2.2.1.2.1, S.2.2.2.2.1.2.2.1, 0)), (S.2.2.2.2.2.1.1, S.2.2.2.2.2.1.2.1, 0), S.2.2.2.2.2.2)
theorem F_village {g : qG} (hg : qOK g) (hT : qTHR g) {h : qH} {S : CS} (hC : CH h S) (hhe : S.1.2.1 ≤ 600) (hM : qFM g) (hJ : qJDK g) {f : Nat → Nat} {len : Nat} (hS : qSTR g 10 11 len f) (hL : qLD g 5 53 10) (v : Int32) : qSpecX g 10 4 24 mX11_village [.ref 0, .int v] h (fun r h' => tOK S.1.2.1 600 v = true ∧ ∃ n : Nat, n ≤ S.1.2.1 ∧ n ≤ 600 ∧ v = nI n ∧ ∃ D4 P4 U4 Q4 : Nat → Int32, (if pbad (pvrun S.1.1 n f len 61 0 (Sum.inr 0, D4, 0, Q4, 0, 0, 2, 120)).1 = true then r = some (.int (pki (pvrun S.1.1 n f len 61 0 (Sum.inr 0, D4, 0, Q4, 0, 0, 2, 120)).1 - 10)) ∧ CH h' ((S.1.1, 0, ppl (pvrun S.1.1 n f len 61 0 (Sum.inr 0, D4, 0, Q4, 0, 0, 2, 120)).1), S.2) else r = some (.int (nI (pvrun S.1.1 n f len 61 0 (Sum.inr 0, D4, 0, Q4, 0, 0, 2, 120)).2.2.1)) ∧ (pvrun S.1.1 n f len 61 0 (Sum.inr 0, D4, 0, Q4, 0, 0, 2, 120)).2.2.1 ≤ 10 ∧ (pvrun S.1.1 n f len 61 0 (Sum.inr 0, D4, 0, Q4, 0, 0, 2, 120)).2.2.2.2.1 ≤ 8 ∧ CH h' (svil S (ppl (pvrun S.1.1 n f len 61 0 (Sum.inr 0, D4, 0, Q4, 0, 0, 2, 120)).1) (va_cpy (pvrun S.1.1 n f len 61 0 (Sum.inr 0, D4, 0, Q4, 0, 0, 2, 120)).2.1 S.2.1.1 0 0 100) (va_cpy P4 S.2.1.2.1 0 0 30) (va_cpy U4 S.2.1.2.2.1 0 0 100) (pvrun S.1.1 n f len 61 0 (Sum.inr 0, D4, 0, Q4, 0, 0, 2, 120)).2.2.1 (va_cpy (pvrun S.1.1 n f len 61 0 (Sum.inr 0, D4, 0, Q4, 0, 0, 2, 120)).2.2.2.1 S.2.2.2.1.1 0 0 32) (pvrun S.1.1 n f len 61 0 (Sum.inr 0, D4, 0, Q4, 0, 0, 2, 120)).2.2.2.2.1 (pvrun S.1.1 n f len 61 0 (Sum.inr 0, D4, 0, Q4, 0, 0, 2, 120)).2.2.2.2.2.1 (pvrun S.1.1 n f len 61 0 (Sum.inr 0, D4, 0, Q4, 0, 0, 2, 120)).2.2.2.2.2.2.1 (pvrun S.1.1 n f len 61 0 (Sum.inr 0, D4, 0, Q4, 0, 0, 2, 120)).2.2.2.2.2.2.2)) ∧ gro h h') (TX h S (fun k => (k = 1 ∧ ¬ tOK S.1.2.1 600 v = true))) := by
  refine qSpecX_runT "village" hg hT mX11_village_ok rfl rfl (Nat.le_of_ble_eq_true rfl) ?_
  intro run step stepT
  obtain ⟨D4, P4, U4, n4, k4, u4, s4, v4, c4, hR4⟩ := hC.sR
  obtain ⟨Q4, m4, hQ4⟩ := hC.sC
  obtain ⟨en0, po0, fr0, ki0, hTp⟩ := hC.tape
  obtain ⟨fg, hLg⟩ := hC.give
  obtain ⟨fo, hLo⟩ := hC.on
  obtain ⟨se, fi, ia, ino, hB⟩ := hC.book
  refine step.1 _ _ _ _ _ _ _ sgX11_village_0_ok ?_
  refine Or.inr ⟨rfl, _, 7, 1, 6, _, _, _, _, qi_11_115, ⟨rfl, rfl⟩, ⟨hC.obj, rfl⟩, rfl, rfl, X_needText hg hT hC hhe _ _, fun y5 h5 hy5 => ?_, fun E h9 z => ⟨z.mono (fun k hk => ⟨hk.1, hk.2⟩), Nat.le_of_ble_eq_true rfl, Nat.le_of_ble_eq_true rfl⟩⟩
  obtain ⟨hw, rfl, hh⟩ := hy5
  rw [hh]
  clear hh
  obtain ⟨n, hn1, hn2, hn3, en⟩ := tOK_nat (m := 600) (by decide) hhe hw
  refine ⟨by decide, _, _, hC.obj, rfl, ?_⟩
  refine Or.inl ⟨rfl, _, 1, 0, 0, _, _, _, qi_11_119, ⟨rfl, rfl⟩, ⟨hC.tape.choose_spec.choose_spec.choose_spec.choose_spec.1, rfl⟩, rfl, rfl, (by rw [en]; exact X_begin hg hC hn3), fun y13 h13 hy13 => ?_⟩
  obtain ⟨rfl, hs1, q, hTc⟩ := hy13
  have hX := (hs1.2 0 (by decide)).trans hC.obj
  have hE := (hs1.2 33 (by decide)).trans hC.reader
  have hR4 := hR4.sm hs1 (by decide) (by decide) (by decide) (by decide)
  have hQ4 := hQ4.sm hs1 (by decide) (by decide)
  refine ⟨by decide, _, _, hX, rfl, ?_⟩
  refine Or.inl ⟨rfl, _, 9, 0, 0, _, _, _, qi_11_122, ⟨rfl, rfl⟩, ⟨hE, rfl⟩, rfl, rfl, RD_village hg hM hJ hS hL hTc hE hR4 hQ4, fun y20 h20 hy20 => ?_⟩
  obtain ⟨rfl, hsN, ⟨q', hTc⟩, hR4, hQ4, hN10, hM8⟩ := hy20
  have hs : same h h20 [1, 34, 35, 38, 39] := hs1.tr hsN (by simp) (fun _ z => z)
  obtain ⟨en1, po1, fr1, hTp⟩ := hTc.out
  have hC1 := hC.upT hs (by simp) (pl := ppl (pvrun S.1.1 n f len 61 0 (Sum.inr 0, D4, 0, Q4, 0, 0, 2, 120)).1) (fz_cons ⟨_, hTp.1, _, _, _, _, rfl⟩ (fz_cons ⟨_, hR4.1, _, _, _, _, _, _, rfl⟩ (fz_cons ⟨_, hR4.2.1, _, rfl⟩ (fz_cons ⟨_, hQ4.1, _, rfl⟩ (fz_cons ⟨_, hQ4.2, _, rfl⟩ fz_nil)))))
  have hG := gro.of hs rfl
  have hX := hC1.obj
  have hE := hC1.reader
  refine ⟨fun c23 => ?_, fun c23 => ?_⟩
  · have hb : pbad (pvrun S.1.1 n f len 61 0 (Sum.inr 0, D4, 0, Q4, 0, 0, 2, 120)).1 = false := by simpa using qb_1.mp c23
    refine step.1 _ _ _ _ _ _ _ sgX11_village_37_ok ?_
    refine ⟨by decide, _, _, hX, rfl, ?_⟩
    refine ⟨by decide, _, _, hX, rfl, ?_⟩
    refine ⟨by decide, _, _, hE, rfl, ?_⟩
    refine Or.inl ⟨rfl, _, 2, 0, 0, _, _, _, qi_11_129, ⟨rfl, rfl⟩, ⟨hC1.rnd.1, rfl⟩, rfl, rfl, R_copy_3_34 hg hC1.rnd hR4, fun y48 h48 hy48 => ?_⟩
    obtain ⟨rfl, hsN, hR9⟩ := hy48
    have hC2 : CH h48 ((S.1.1, 0, ppl (pvrun S.1.1 n f len 61 0 (Sum.inr 0, D4, 0, Q4, 0, 0, 2, 120)).1), ((va_cpy (pvrun S.1.1 n f len 61 0 (Sum.inr 0, D4, 0, Q4, 0, 0, 2, 120)).2.1 S.2.1.1 0 0 100), (va_cpy P4 S.2.1.2.1 0 0 30), (va_cpy U4 S.2.1.2.2.1 0 0 100), (pvrun S.1.1 n f len 61 0 (Sum.inr 0, D4, 0, Q4, 0, 0, 2, 120)).2.2.1, 0, 0, (pvrun S.1.1 n f len 61 0 (Sum.inr 0, D4, 0, Q4, 0, 0, 2, 120)).2.2.2.2.2.1, (pvrun S.1.1 n f len 61 0 (Sum.inr 0, D4, 0, Q4, 0, 0, 2, 120)).2.2.2.2.2.2.1, (pvrun S.1.1 n f len 61 0 (Sum.inr 0, D4, 0, Q4, 0, 0, 2, 120)).2.2.2.2.2.2.2), S.2.2) := hC1.setR hsN (R := (_, _, _, _, 0, 0, _, _, _)) hR9
    have hG := hG.tr (gro.of hsN rfl)
    have hQ4 := hQ4.sm hsN (by decide) (by decide)
    have hX := hC2.obj
    have hE := hC2.reader
    refine ⟨by decide, _, _, hX, rfl, ?_⟩
    refine ⟨by decide, _, _, hX, rfl, ?_⟩
    refine ⟨by decide, _, _, hE, rfl, ?_⟩
    refine Or.inl ⟨rfl, _, 2, 0, 0, _, _, _, qi_11_134, ⟨rfl, rfl⟩, ⟨hC2.choir.1, rfl⟩, rfl, rfl, C_copy hg hC2.choir hQ4, fun y62 h62 hy62 => ?_⟩
    obtain ⟨rfl, hsN, hQ9⟩ := hy62
    have hC3 : CH h62 ((S.1.1, 0, ppl (pvrun S.1.1 n f len 61 0 (Sum.inr 0, D4, 0, Q4, 0, 0, 2, 120)).1), ((va_cpy (pvrun S.1.1 n f len 61 0 (Sum.inr 0, D4, 0, Q4, 0, 0, 2, 120)).2.1 S.2.1.1 0 0 100), (va_cpy P4 S.2.1.2.1 0 0 30), (va_cpy U4 S.2.1.2.2.1 0 0 100), (pvrun S.1.1 n f len 61 0 (Sum.inr 0, D4, 0, Q4, 0, 0, 2, 120)).2.2.1, 0, 0, (pvrun S.1.1 n f len 61 0 (Sum.inr 0, D4, 0, Q4, 0, 0, 2, 120)).2.2.2.2.2.1, (pvrun S.1.1 n f len 61 0 (Sum.inr 0, D4, 0, Q4, 0, 0, 2, 120)).2.2.2.2.2.2.1, (pvrun S.1.1 n f len 61 0 (Sum.inr 0, D4, 0, Q4, 0, 0, 2, 120)).2.2.2.2.2.2.2), S.2.2.1, ((va_cpy (pvrun S.1.1 n f len 61 0 (Sum.inr 0, D4, 0, Q4, 0, 0, 2, 120)).2.2.2.1 S.2.2.2.1.1 0 0 32), (pvrun S.1.1 n f len 61 0 (Sum.inr 0, D4, 0, Q4, 0, 0, 2, 120)).2.2.2.2.1), S.2.2.2.2) := hC2.setC hsN (C := (_, _)) hQ9
    have hG := hG.tr (gro.of hsN rfl)
    have hX := hC3.obj
    obtain ⟨fg3, hLg⟩ := hC3.give
    obtain ⟨fo3, hLo⟩ := hC3.on
    refine ⟨by decide, _, _, hX, rfl, ?_⟩
    refine Or.inl ⟨rfl, _, 1, 0, 0, _, _, _, qi_11_137, ⟨rfl, rfl⟩, ⟨hLg.1, rfl⟩, rfl, rfl, L_clear hg hLg, fun y69 h69 hy69 => ?_⟩
    obtain ⟨rfl, rfl⟩ := hy69
    have hs22 := same.up (h := h62) (k := 22) (e := .inl (3, [.ref 23, .ref 24, .ref 25, .int 0])) (l := [22, 23, 24]) (by simp)
    have hC4 : CH (h62.1, qup h62.2 22 (.inl (3, [.ref 23, .ref 24, .ref 25, .int 0]))) ((S.1.1, 0, ppl (pvrun S.1.1 n f len 61 0 (Sum.inr 0, D4, 0, Q4, 0, 0, 2, 120)).1), ((va_cpy (pvrun S.1.1 n f len 61 0 (Sum.inr 0, D4, 0, Q4, 0, 0, 2, 120)).2.1 S.2.1.1 0 0 100), (va_cpy P4 S.2.1.2.1 0 0 30), (va_cpy U4 S.2.1.2.2.1 0 0 100), (pvrun S.1.1 n f len 61 0 (Sum.inr 0, D4, 0, Q4, 0, 0, 2, 120)).2.2.1, 0, 0, (pvrun S.1.1 n f len 61 0 (Sum.inr 0, D4, 0, Q4, 0, 0, 2, 120)).2.2.2.2.2.1, (pvrun S.1.1 n f len 61 0 (Sum.inr 0, D4, 0, Q4, 0, 0, 2, 120)).2.2.2.2.2.2.1, (pvrun S.1.1 n f len 61 0 (Sum.inr 0, D4, 0, Q4, 0, 0, 2, 120)).2.2.2.2.2.2.2), S.2.2.1, ((va_cpy (pvrun S.1.1 n f len 61 0 (Sum.inr 0, D4, 0, Q4, 0, 0, 2, 120)).2.2.2.1 S.2.2.2.1.1 0 0 32), (pvrun S.1.1 n f len 61 0 (Sum.inr 0, D4, 0, Q4, 0, 0, 2, 120)).2.2.2.2.1), ((S.2.2.2.2.1.1.1, S.2.2.2.2.1.1.2.1, 0), S.2.2.2.2.1.2), S.2.2.2.2.2) := hC3.setL0 hs22 (L := (_, _, 0)) (hLg.z (by decide) (by decide) (by decide))
    have hG := hG.tr (gro.of hs22 rfl)
    have hX := hC4.obj
    obtain ⟨fo4, hLo⟩ := hC4.on
    refine ⟨by decide, _, _, hX, rfl, ?_⟩
    refine Or.inl ⟨rfl, _, 1, 0, 0, _, _, _, qi_11_137, ⟨rfl, rfl⟩, ⟨hLo.1, rfl⟩, rfl, rfl, L_clear hg hLo, fun y76 h76 hy76 => ?_⟩
    obtain ⟨rfl, rfl⟩ := hy76
    have hs26 := same.up (h := (h62.1, qup h62.2 22 (.inl (3, [.ref 23, .ref 24, .ref 25, .int 0])))) (k := 26) (e := .inl (3, [.ref 27, .ref 28, .ref 29, .int 0])) (l := [26, 27, 28]) (by simp)
    have hC5 : CH ((h62.1, qup h62.2 22 (.inl (3, [.ref 23, .ref 24, .ref 25, .int 0]))).1, qup (h62.1, qup h62.2 22 (.inl (3, [.ref 23, .ref 24, .ref 25, .int 0]))).2 26 (.inl (3, [.ref 27, .ref 28, .ref 29, .int 0]))) ((S.1.1, 0, ppl (pvrun S.1.1 n f len 61 0 (Sum.inr 0, D4, 0, Q4, 0, 0, 2, 120)).1), ((va_cpy (pvrun S.1.1 n f len 61 0 (Sum.inr 0, D4, 0, Q4, 0, 0, 2, 120)).2.1 S.2.1.1 0 0 100), (va_cpy P4 S.2.1.2.1 0 0 30), (va_cpy U4 S.2.1.2.2.1 0 0 100), (pvrun S.1.1 n f len 61 0 (Sum.inr 0, D4, 0, Q4, 0, 0, 2, 120)).2.2.1, 0, 0, (pvrun S.1.1 n f len 61 0 (Sum.inr 0, D4, 0, Q4, 0, 0, 2, 120)).2.2.2.2.2.1, (pvrun S.1.1 n f len 61 0 (Sum.inr 0, D4, 0, Q4, 0, 0, 2, 120)).2.2.2.2.2.2.1, (pvrun S.1.1 n f len 61 0 (Sum.inr 0, D4, 0, Q4, 0, 0, 2, 120)).2.2.2.2.2.2.2), S.2.2.1, ((va_cpy (pvrun S.1.1 n f len 61 0 (Sum.inr 0, D4, 0, Q4, 0, 0, 2, 120)).2.2.2.1 S.2.2.2.1.1 0 0 32), (pvrun S.1.1 n f len 61 0 (Sum.inr 0, D4, 0, Q4, 0, 0, 2, 120)).2.2.2.2.1), ((S.2.2.2.2.1.1.1, S.2.2.2.2.1.1.2.1, 0), (S.2.2.2.2.1.2.1, S.2.2.2.2.1.2.2.1, 0)), S.2.2.2.2.2) := hC4.setL1 hs26 (L := (_, _, 0)) (hLo.z (by decide) (by decide) (by decide))
    have hG := hG.tr (gro.of hs26 rfl)
    have hX := hC5.obj
    obtain ⟨se5, fi5, ia5, ino5, hB⟩ := hC5.book
    refine ⟨by decide, _, _, hX, rfl, ?_⟩
    refine Or.inl ⟨rfl, _, 1, 0, 0, _, _, _, qi_11_140, ⟨rfl, rfl⟩, ⟨hB.1, rfl⟩, rfl, rfl, B_clear_30 hg hB, fun y83 h83 hy83 => ?_⟩
    obtain ⟨rfl, hsN, hB9⟩ := hy83
    have hsN : same _ h83 [30, 31, 32] := hsN.sub (by simp)
    have hC6 : CH h83 ((S.1.1, 0, ppl (pvrun S.1.1 n f len 61 0 (Sum.inr 0, D4, 0, Q4, 0, 0, 2, 120)).1), ((va_cpy (pvrun S.1.1 n f len 61 0 (Sum.inr 0, D4, 0, Q4, 0, 0, 2, 120)).2.1 S.2.1.1 0 0 100), (va_cpy P4 S.2.1.2.1 0 0 30), (va_cpy U4 S.2.1.2.2.1 0 0 100), (pvrun S.1.1 n f len 61 0 (Sum.inr 0, D4, 0, Q4, 0, 0, 2, 120)).2.2.1, 0, 0, (pvrun S.1.1 n f len 61 0 (Sum.inr 0, D4, 0, Q4, 0, 0, 2, 120)).2.2.2.2.2.1, (pvrun S.1.1 n f len 61 0 (Sum.inr 0, D4, 0, Q4, 0, 0, 2, 120)).2.2.2.2.2.2.1, (pvrun S.1.1 n f len 61 0 (Sum.inr 0, D4, 0, Q4, 0, 0, 2, 120)).2.2.2.2.2.2.2), S.2.2.1, ((va_cpy (pvrun S.1.1 n f len 61 0 (Sum.inr 0, D4, 0, Q4, 0, 0, 2, 120)).2.2.2.1 S.2.2.2.1.1 0 0 32), (pvrun S.1.1 n f len 61 0 (Sum.inr 0, D4, 0, Q4, 0, 0, 2, 120)).2.2.2.2.1), ((S.2.2.2.2.1.1.1, S.2.2.2.2.1.1.2.1, 0), (S.2.2.2.2.1.2.1, S.2.2.2.2.1.2.2.1, 0)), (S.2.2.2.2.2.1.1, S.2.2.2.2.2.1.2.1, 0), S.2.2.2.2.2.2) := hC5.setB hsN (B := (_, _, 0)) hB9
    have hG := hG.tr (gro.of hsN rfl)
    have hX := hC6.obj
    refine ⟨_, hX, Nat.le_of_ble_eq_true rfl, rfl, ?_⟩
    have hs0 := same.up (h := h83) (k := 0) (e := E0 (nI 0) S.2.2.2.2.2.2.1 S.2.2.2.2.2.2.2.1 S.2.2.2.2.2.2.2.2) (l := [0]) (by simp)
    have hR7 : isR h83 3 4 5 6 ((va_cpy (pvrun S.1.1 n f len 61 0 (Sum.inr 0, D4, 0, Q4, 0, 0, 2, 120)).2.1 S.2.1.1 0 0 100), (va_cpy P4 S.2.1.2.1 0 0 30), (va_cpy U4 S.2.1.2.2.1 0 0 100), (pvrun S.1.1 n f len 61 0 (Sum.inr 0, D4, 0, Q4, 0, 0, 2, 120)).2.2.1, 0, 0, (pvrun S.1.1 n f len 61 0 (Sum.inr 0, D4, 0, Q4, 0, 0, 2, 120)).2.2.2.2.2.1, (pvrun S.1.1 n f len 61 0 (Sum.inr 0, D4, 0, Q4, 0, 0, 2, 120)).2.2.2.2.2.2.1, (pvrun S.1.1 n f len 61 0 (Sum.inr 0, D4, 0, Q4, 0, 0, 2, 120)).2.2.2.2.2.2.2).1 ((va_cpy (pvrun S.1.1 n f len 61 0 (Sum.inr 0, D4, 0, Q4, 0, 0, 2, 120)).2.1 S.2.1.1 0 0 100), (va_cpy P4 S.2.1.2.1 0 0 30), (va_cpy U4 S.2.1.2.2.1 0 0 100), (pvrun S.1.1 n f len 61 0 (Sum.inr 0, D4, 0, Q4, 0, 0, 2, 120)).2.2.1, 0, 0, (pvrun S.1.1 n f len 61 0 (Sum.inr 0, D4, 0, Q4, 0, 0, 2, 120)).2.2.2.2.2.1, (pvrun S.1.1 n f len 61 0 (Sum.inr 0, D4, 0, Q4, 0, 0, 2, 120)).2.2.2.2.2.2.1, (pvrun S.1.1 n f len 61 0 (Sum.inr 0, D4, 0, Q4, 0, 0, 2, 120)).2.2.2.2.2.2.2).2.1 ((va_cpy (pvrun S.1.1 n f len 61 0 (Sum.inr 0, D4, 0, Q4, 0, 0, 2, 120)).2.1 S.2.1.1 0 0 100), (va_cpy P4 S.2.1.2.1 0 0 30), (va_cpy U4 S.2.1.2.2.1 0 0 100), (pvrun S.1.1 n f len 61 0 (Sum.inr 0, D4, 0, Q4, 0, 0, 2, 120)).2.2.1, 0, 0, (pvrun S.1.1 n f len 61 0 (Sum.inr 0, D4, 0, Q4, 0, 0, 2, 120)).2.2.2.2.2.1, (pvrun S.1.1 n f len 61 0 (Sum.inr 0, D4, 0, Q4, 0, 0, 2, 120)).2.2.2.2.2.2.1, (pvrun S.1.1 n f len 61 0 (Sum.inr 0, D4, 0, Q4, 0, 0, 2, 120)).2.2.2.2.2.2.2).2.2.1 (nI (pvrun S.1.1 n f len 61 0 (Sum.inr 0, D4, 0, Q4, 0, 0, 2, 120)).2.2.1) 0 0 (pvrun S.1.1 n f len 61 0 (Sum.inr 0, D4, 0, Q4, 0, 0, 2, 120)).2.2.2.2.2.1 (pvrun S.1.1 n f len 61 0 (Sum.inr 0, D4, 0, Q4, 0, 0, 2, 120)).2.2.2.2.2.2.1 (pvrun S.1.1 n f len 61 0 (Sum.inr 0, D4, 0, Q4, 0, 0, 2, 120)).2.2.2.2.2.2.2 := hC6.rnd
    have hC7 : CH (h83.1, qup h83.2 0 (E0 (nI 0) S.2.2.2.2.2.2.1 S.2.2.2.2.2.2.2.1 S.2.2.2.2.2.2.2.2)) (svil S (ppl (pvrun S.1.1 n f len 61 0 (Sum.inr 0, D4, 0, Q4, 0, 0, 2, 120)).1) (va_cpy (pvrun S.1.1 n f len 61 0 (Sum.inr 0, D4, 0, Q4, 0, 0, 2, 120)).2.1 S.2.1.1 0 0 100) (va_cpy P4 S.2.1.2.1 0 0 30) (va_cpy U4 S.2.1.2.2.1 0 0 100) (pvrun S.1.1 n f len 61 0 (Sum.inr 0, D4, 0, Q4, 0, 0, 2, 120)).2.2.1 (va_cpy (pvrun S.1.1 n f len 61 0 (Sum.inr 0, D4, 0, Q4, 0, 0, 2, 120)).2.2.2.1 S.2.2.2.1.1 0 0 32) (pvrun S.1.1 n f len 61 0 (Sum.inr 0, D4, 0, Q4, 0, 0, 2, 120)).2.2.2.2.1 (pvrun S.1.1 n f len 61 0 (Sum.inr 0, D4, 0, Q4, 0, 0, 2, 120)).2.2.2.2.2.1 (pvrun S.1.1 n f len 61 0 (Sum.inr 0, D4, 0, Q4, 0, 0, 2, 120)).2.2.2.2.2.2.1 (pvrun S.1.1 n f len 61 0 (Sum.inr 0, D4, 0, Q4, 0, 0, 2, 120)).2.2.2.2.2.2.2) := hC6.setO hs0 (ic := 0) rfl
    have hG := hG.tr (gro.of hs0 rfl)
    refine ⟨by decide, _, _, rfl, rfl, ?_⟩
    refine ⟨by decide, _, _, hR7.1, rfl, ?_⟩
    refine ⟨.int, rfl, rfl, Nat.le_of_ble_eq_true rfl, Nat.le_of_ble_eq_true rfl, ?_⟩
    refine ⟨hw, n, hn2, hn3, en, D4, P4, U4, Q4, ?_, hG⟩
    rw [if_neg (by rw [hb]; decide)]
    exact ⟨rfl, hN10, hM8, hC7⟩
  · have hb : pbad (pvrun S.1.1 n f len 61 0 (Sum.inr 0, D4, 0, Q4, 0, 0, 2, 120)).1 = true := by simpa using qb_0.mp c23
    refine ⟨by decide, _, _, hX, rfl, ?_⟩
    refine ⟨by decide, _, _, hTp.1, rfl, ?_⟩
    refine ⟨.int, rfl, rfl, Nat.le_of_ble_eq_true rfl, Nat.le_of_ble_eq_true rfl, ?_⟩
    refine ⟨hw, n, hn2, hn3, en, D4, P4, U4, Q4, ?_, hG⟩
    rw [if_pos hb]
    exact ⟨rfl, hC1⟩
theorem F_law {g : qG} (hg : qOK g) (hT : qTHR g) {h : qH} {S : CS} (hC : CH h S) (hhe : S.1.2.1 ≤ 600) (hJ : qJDK g) {f : Nat → Nat} {len : Nat} (hS : qSTR g 14 15 len f) (hL : qLD g 4 78 14) (wh v : Int32) : qSpecX g 43 4 24 mX11_law [.ref 0, .int wh, .int v] h (fun r h' => wi 0 1 wh = true ∧ tOK S.1.2.1 150 v = true ∧ ∃ u n : Nat, u ≤ 1 ∧ wh = nI u ∧ n ≤ S.1.2.1 ∧ n ≤ 150 ∧ v = nI n ∧ ∃ K4 V4 : Nat → Int32, (if pbad (plend S.1.1 n (pexp S.1.1 n f len 6 0 (K4, V4, 0)).1) = true then r = some (.int (pki (plend S.1.1 n (pexp S.1.1 n f len 6 0 (K4, V4, 0)).1) - 10)) ∧ CH h' ((S.1.1, 0, ppl (plend S.1.1 n (pexp S.1.1 n f len 6 0 (K4, V4, 0)).1)), S.2) else r = some (.int 1) ∧ (pexp S.1.1 n f len 6 0 (K4, V4, 0)).2.2.2 ≤ 150 ∧ (if u = 0 then CH h' ((S.1.1, 0, ppl (plend S.1.1 n (pexp S.1.1 n f len 6 0 (K4, V4, 0)).1)), S.2.1, S.2.2.1, S.2.2.2.1, ((va_cpy (pexp S.1.1 n f len 6 0 (K4, V4, 0)).2.1 S.2.2.2.2.1.1.1 0 0 150, va_cpy (pexp S.1.1 n f len 6 0 (K4, V4, 0)).2.2.1 S.2.2.2.2.1.1.2.1 0 0 150, (pexp S.1.1 n f len 6 0 (K4, V4, 0)).2.2.2), S.2.2.2.2.1.2), S.2.2.2.2.2) else CH h' ((S.1.1, 0, ppl (plend S.1.1 n (pexp S.1.1 n f len 6 0 (K4, V4, 0)).1)), S.2.1, S.2.2.1, S.2.2.2.1, (S.2.2.2.2.1.1, (va_cpy (pexp S.1.1 n f len 6 0 (K4, V4, 0)).2.1 S.2.2.2.2.1.2.1 0 0 150, va_cpy (pexp S.1.1 n f len 6 0 (K4, V4, 0)).2.2.1 S.2.2.2.2.1.2.2.1 0 0 150, (pexp S.1.1 n f len 6 0 (K4, V4, 0)).2.2.2)), S.2.2.2.2.2))) ∧ gro h h') (TX h S (fun k => (k = 1 ∧ ¬ wi 0 1 wh = true) ∨ (k = 1 ∧ wi 0 1 wh = true ∧ ¬ tOK S.1.2.1 150 v = true))) := by
  refine qSpecX_runT "law" hg hT mX11_law_ok rfl rfl (Nat.le_of_ble_eq_true rfl) ?_
  intro run step stepT
  obtain ⟨K4, V4, f4, z4, hL4⟩ := hC.sL
  obtain ⟨en0, po0, fr0, ki0, hTp⟩ := hC.tape
  obtain ⟨fg, hLg⟩ := hC.give
  obtain ⟨fo, hLo⟩ := hC.on
  refine step.1 _ _ _ _ _ _ _ sgX11_law_0_ok ?_
  refine Or.inl ⟨rfl, _, 1, 0, 0, _, Or.inl qi_11_147, ⟨rfl, rfl⟩, rfl, rfl, sp_within hg _ _ _, fun y4 h4 hy4 => ?_⟩
  obtain ⟨rfl, hh⟩ := hy4
  rw [hh]
  clear hh
  refine Or.inr ⟨rfl, _, 6, 1, 6, _, _, _, _, qi_11_151, ⟨rfl, rfl⟩, ⟨hC.obj, rfl⟩, rfl, rfl, X_need hg hT hC _, fun y7 h7 hy7 => ?_, fun E h9 z => ⟨z.mono (fun k hk => Or.inl (⟨hk.1, hk.2⟩)), Nat.le_of_ble_eq_true rfl, Nat.le_of_ble_eq_true rfl⟩⟩
  obtain ⟨hu, rfl, hh⟩ := hy7
  rw [hh]
  clear hh
  obtain ⟨u, hu1, eu⟩ := wi_nat (m := 1) (by decide) hu
  refine Or.inr ⟨rfl, _, 7, 1, 6, _, _, _, _, qi_11_115, ⟨rfl, rfl⟩, ⟨hC.obj, rfl⟩, rfl, rfl, X_needText hg hT hC hhe _ _, fun y15 h15 hy15 => ?_, fun E h9 z => ⟨z.mono (fun k hk => Or.inr (⟨hk.1, hu, hk.2⟩)), Nat.le_of_ble_eq_true rfl, Nat.le_of_ble_eq_true rfl⟩⟩
  obtain ⟨hw, rfl, hh⟩ := hy15
  rw [hh]
  clear hh
  obtain ⟨n, hn1, hn2, hn3, en⟩ := tOK_nat (m := 150) (by decide) hhe hw
  refine ⟨by decide, _, _, hC.obj, rfl, ?_⟩
  refine Or.inl ⟨rfl, _, 1, 0, 0, _, _, _, qi_11_119, ⟨rfl, rfl⟩, ⟨hC.tape.choose_spec.choose_spec.choose_spec.choose_spec.1, rfl⟩, rfl, rfl, (by rw [en]; exact X_begin hg hC hn3), fun y23 h23 hy23 => ?_⟩
  obtain ⟨rfl, hs1, q, hTc⟩ := hy23
  have hX := (hs1.2 0 (by decide)).trans hC.obj
  have hE := (hs1.2 43 (by decide)).trans hC.lreader
  have hL4 := hL4.sm hs1 (by decide) (by decide) (by decide) (by decide)
  refine ⟨by decide, _, _, hX, rfl, ?_⟩
  refine Or.inl ⟨rfl, _, 42, 0, 0, _, _, _, qi_11_155, ⟨rfl, rfl⟩, ⟨hE, rfl⟩, rfl, rfl, RL_reads hg hJ hS hL hTc hE hL4, fun y30 h30 hy30 => ?_⟩
  obtain ⟨rfl, hsN, ⟨q', hTc⟩, hL4, hz⟩ := hy30
  have hs : same h h30 [1, 44, 45, 46] := hs1.tr hsN (by simp) (fun _ z => z)
  obtain ⟨en1, po1, fr1, hTp⟩ := hTc.out
  have hC1 : CH h30 ((S.1.1, 0, ppl (plend S.1.1 n (pexp S.1.1 n f len 6 0 (K4, V4, 0)).1)), S.2) := hC.upT hs (by simp) (fz_cons ⟨_, hTp.1, _, _, _, _, rfl⟩ (fz_cons ⟨_, hL4.1, _, rfl⟩ (fz_cons ⟨_, hL4.2.1, _, rfl⟩ (fz_cons ⟨_, hL4.2.2.1, _, rfl⟩ fz_nil))))
  have hG := gro.of hs rfl
  have hX := hC1.obj
  have hE := hC1.lreader
  obtain ⟨fg, hLg⟩ := hC1.give
  obtain ⟨fo, hLo⟩ := hC1.on
  refine ⟨fun c33 => ?_, fun c33 => ?_⟩
  · have hb : pbad (plend S.1.1 n (pexp S.1.1 n f len 6 0 (K4, V4, 0)).1) = false := by simpa using qb_1.mp c33
    refine step.1 _ _ _ _ _ _ _ sgX11_law_47_ok ?_
    refine ⟨fun c48 => ?_, fun c48 => ?_⟩
    · have c48 : ¬ u = 0 := fun z => c48 (by rw [eu, z]; rfl)
      refine step.1 _ _ _ _ _ _ _ sgX11_law_58_ok ?_
      refine ⟨by decide, _, _, hX, rfl, ?_⟩
      refine step.1 _ _ _ _ _ _ _ sgX11_law_62_ok ?_
      refine ⟨by decide, _, _, hX, rfl, ?_⟩
      refine ⟨by decide, _, _, hE, rfl, ?_⟩
      refine Or.inl ⟨rfl, _, 2, 0, 0, _, _, _, qi_11_161, ⟨rfl, rfl⟩, ⟨hLo.1, rfl⟩, rfl, rfl, L_copy_26 hg hLo hL4, fun y71 h71 hy71 => ?_⟩
      obtain ⟨rfl, hsN, hL9⟩ := hy71
      have hC2 : CH h71 ((S.1.1, 0, ppl (plend S.1.1 n (pexp S.1.1 n f len 6 0 (K4, V4, 0)).1)), S.2.1, S.2.2.1, S.2.2.2.1, (S.2.2.2.2.1.1, (va_cpy (pexp S.1.1 n f len 6 0 (K4, V4, 0)).2.1 S.2.2.2.2.1.2.1 0 0 150, va_cpy (pexp S.1.1 n f len 6 0 (K4, V4, 0)).2.2.1 S.2.2.2.2.1.2.2.1 0 0 150, (pexp S.1.1 n f len 6 0 (K4, V4, 0)).2.2.2)), S.2.2.2.2.2) := hC1.setL1 hsN (L := (_, _, _)) hL9
      have hG := hG.tr (gro.of hsN rfl)
      refine ⟨.int, rfl, rfl, Nat.le_of_ble_eq_true rfl, Nat.le_of_ble_eq_true rfl, ?_⟩
      refine ⟨hu, hw, u, n, hu1, eu, hn2, hn1, en, K4, V4, ?_, hG⟩
      rw [if_neg (by rw [hb]; decide), if_neg c48]
      exact ⟨rfl, hz, hC2⟩
    · have c48 : u = 0 := (nI_eq (b := 0) (by omega) (by decide)).mp (eu.symm.trans c48)
      refine ⟨by decide, _, _, hX, rfl, ?_⟩
      refine step.1 _ _ _ _ _ _ _ sgX11_law_62_ok ?_
      refine ⟨by decide, _, _, hX, rfl, ?_⟩
      refine ⟨by decide, _, _, hE, rfl, ?_⟩
      refine Or.inl ⟨rfl, _, 2, 0, 0, _, _, _, qi_11_161, ⟨rfl, rfl⟩, ⟨hLg.1, rfl⟩, rfl, rfl, L_copy_22 hg hLg hL4, fun y71 h71 hy71 => ?_⟩
      obtain ⟨rfl, hsN, hL9⟩ := hy71
      have hC2 : CH h71 ((S.1.1, 0, ppl (plend S.1.1 n (pexp S.1.1 n f len 6 0 (K4, V4, 0)).1)), S.2.1, S.2.2.1, S.2.2.2.1, ((va_cpy (pexp S.1.1 n f len 6 0 (K4, V4, 0)).2.1 S.2.2.2.2.1.1.1 0 0 150, va_cpy (pexp S.1.1 n f len 6 0 (K4, V4, 0)).2.2.1 S.2.2.2.2.1.1.2.1 0 0 150, (pexp S.1.1 n f len 6 0 (K4, V4, 0)).2.2.2), S.2.2.2.2.1.2), S.2.2.2.2.2) := hC1.setL0 hsN (L := (_, _, _)) hL9
      have hG := hG.tr (gro.of hsN rfl)
      refine ⟨.int, rfl, rfl, Nat.le_of_ble_eq_true rfl, Nat.le_of_ble_eq_true rfl, ?_⟩
      refine ⟨hu, hw, u, n, hu1, eu, hn2, hn1, en, K4, V4, ?_, hG⟩
      rw [if_neg (by rw [hb]; decide), if_pos c48]
      exact ⟨rfl, hz, hC2⟩
  · have hb : pbad (plend S.1.1 n (pexp S.1.1 n f len 6 0 (K4, V4, 0)).1) = true := by simpa using qb_0.mp c33
    refine ⟨by decide, _, _, hX, rfl, ?_⟩
    refine ⟨by decide, _, _, hTp.1, rfl, ?_⟩
    refine ⟨.int, rfl, rfl, Nat.le_of_ble_eq_true rfl, Nat.le_of_ble_eq_true rfl, ?_⟩
    refine ⟨hu, hw, u, n, hu1, eu, hn2, hn1, en, K4, V4, ?_, hG⟩
    rw [if_pos hb]
    exact ⟨rfl, hC1⟩
theorem F_plan {g : qG} (hg : qOK g) (hT : qTHR g) {h : qH} {S : CS} (hC : CH h S) (hhe : S.1.2.1 ≤ 600) (hn : S.2.1.2.2.2.1 ≤ 10) (hJ : qJDK g) {f : Nat → Nat} {len : Nat} (hS : qSTR g 12 13 len f) (hL : qLD g 5 137 12) (v : Int32) : qSpecX g 10 4 24 mX11_plan [.ref 0, .int v] h (fun r h' => tOK S.1.2.1 150 v = true ∧ ∃ n : Nat, n ≤ S.1.2.1 ∧ n ≤ 150 ∧ v = nI n ∧ ∃ P4 : Nat → Int32, (if pbad (pprun S.1.1 n f len S.2.1.2.2.2.1 11 0 (Sum.inr 0, va_cpy S.2.1.2.1 P4 0 0 30, 0)).1 = true then r = some (.int (pki (pprun S.1.1 n f len S.2.1.2.2.2.1 11 0 (Sum.inr 0, va_cpy S.2.1.2.1 P4 0 0 30, 0)).1 - 10)) ∧ CH h' ((S.1.1, 0, ppl (pprun S.1.1 n f len S.2.1.2.2.2.1 11 0 (Sum.inr 0, va_cpy S.2.1.2.1 P4 0 0 30, 0)).1), S.2) else r = some (.int (nI (pprun S.1.1 n f len S.2.1.2.2.2.1 11 0 (Sum.inr 0, va_cpy S.2.1.2.1 P4 0 0 30, 0)).2.2)) ∧ CH h' ((S.1.1, 0, ppl (pprun S.1.1 n f len S.2.1.2.2.2.1 11 0 (Sum.inr 0, va_cpy S.2.1.2.1 P4 0 0 30, 0)).1), (S.2.1.1, va_cpy (pprun S.1.1 n f len S.2.1.2.2.2.1 11 0 (Sum.inr 0, va_cpy S.2.1.2.1 P4 0 0 30, 0)).2.1 S.2.1.2.1 0 0 30, S.2.1.2.2.1, S.2.1.2.2.2.1, (pprun S.1.1 n f len S.2.1.2.2.2.1 11 0 (Sum.inr 0, va_cpy S.2.1.2.1 P4 0 0 30, 0)).2.2, 0, S.2.1.2.2.2.2.2.2), S.2.2)) ∧ gro h h') (TX h S (fun k => (k = 1 ∧ ¬ tOK S.1.2.1 150 v = true))) := by
  refine qSpecX_runT "plan" hg hT mX11_plan_ok rfl rfl (Nat.le_of_ble_eq_true rfl) ?_
  intro run step stepT
  obtain ⟨D4, P4, U4, n4, k4, u4, s4, v4, c4, hR4⟩ := hC.sR
  obtain ⟨en0, po0, fr0, ki0, hTp⟩ := hC.tape
  refine step.1 _ _ _ _ _ _ _ sgX11_plan_0_ok ?_
  refine Or.inr ⟨rfl, _, 7, 1, 6, _, _, _, _, qi_11_115, ⟨rfl, rfl⟩, ⟨hC.obj, rfl⟩, rfl, rfl, X_needText hg hT hC hhe _ _, fun y5 h5 hy5 => ?_, fun E h9 z => ⟨z.mono (fun k hk => ⟨hk.1, hk.2⟩), Nat.le_of_ble_eq_true rfl, Nat.le_of_ble_eq_true rfl⟩⟩
  obtain ⟨hw, rfl, hh⟩ := hy5
  rw [hh]
  clear hh
  obtain ⟨n, hn1, hn2, hn3, en⟩ := tOK_nat (m := 150) (by decide) hhe hw
  refine ⟨by decide, _, _, hC.obj, rfl, ?_⟩
  refine Or.inl ⟨rfl, _, 1, 0, 0, _, _, _, qi_11_119, ⟨rfl, rfl⟩, ⟨hC.tape.choose_spec.choose_spec.choose_spec.choose_spec.1, rfl⟩, rfl, rfl, (by rw [en]; exact X_begin hg hC hn3), fun y13 h13 hy13 => ?_⟩
  obtain ⟨rfl, hs1, q, hTc⟩ := hy13
  have hX := (hs1.2 0 (by decide)).trans hC.obj
  have hE := (hs1.2 33 (by decide)).trans hC.reader
  have hR4 := hR4.sm hs1 (by decide) (by decide) (by decide) (by decide)
  have hRr := hC.rnd.sm hs1 (by decide) (by decide) (by decide) (by decide)
  refine ⟨by decide, _, _, hX, rfl, ?_⟩
  refine ⟨by decide, _, _, hE, rfl, ?_⟩
  refine ⟨by decide, _, _, hX, rfl, ?_⟩
  refine Or.inl ⟨rfl, _, 2, 0, 0, _, _, _, qi_11_129, ⟨rfl, rfl⟩, ⟨hR4.1, rfl⟩, rfl, rfl, R_copy_34_3 hg hR4 hRr, fun y27 h27 hy27 => ?_⟩
  obtain ⟨rfl, hsN, hR4⟩ := hy27
  have hs : same h h27 [1, 34, 35, 36, 37] := hs1.tr hsN (by simp) (by simp)
  have hX := (hsN.2 0 (by decide)).trans hX
  have hE := (hsN.2 33 (by decide)).trans hE
  have hTc := hTc.sm hsN (by decide) (by decide)
  refine ⟨by decide, _, _, hX, rfl, ?_⟩
  refine Or.inl ⟨rfl, _, 9, 0, 0, _, _, _, qi_11_164, ⟨rfl, rfl⟩, ⟨hE, rfl⟩, rfl, rfl, RD_plan hg hJ hS hL hTc hE hR4 hn, fun y34 h34 hy34 => ?_⟩
  obtain ⟨rfl, hsN, ⟨q', hTc⟩, hR4⟩ := hy34
  have hs := hs.t2 hsN (by decide)
  obtain ⟨en1, po1, fr1, hTp⟩ := hTc.out
  have hC1 : CH h34 ((S.1.1, 0, ppl (pprun S.1.1 n f len S.2.1.2.2.2.1 11 0 (Sum.inr 0, va_cpy S.2.1.2.1 P4 0 0 30, 0)).1), S.2) := hC.upT hs (by simp) (fz_cons ⟨_, hTp.1, _, _, _, _, rfl⟩ (fz_cons ⟨_, hR4.1, _, _, _, _, _, _, rfl⟩ (fz_cons ⟨_, hR4.2.1, _, rfl⟩ (fz_cons ⟨_, hR4.2.2.1, _, rfl⟩ (fz_cons ⟨_, hR4.2.2.2, _, rfl⟩ fz_nil)))))
  have hG := gro.of hs rfl
  have hX := hC1.obj
  have hE := hC1.reader
  refine ⟨fun c37 => ?_, fun c37 => ?_⟩
  · have hb : pbad (pprun S.1.1 n f len S.2.1.2.2.2.1 11 0 (Sum.inr 0, va_cpy S.2.1.2.1 P4 0 0 30, 0)).1 = false := by simpa using qb_1.mp c37
    refine step.1 _ _ _ _ _ _ _ sgX11_plan_51_ok ?_
    refine ⟨by decide, _, _, hX, rfl, ?_⟩
    refine ⟨by decide, _, _, hX, rfl, ?_⟩
    refine ⟨by decide, _, _, hE, rfl, ?_⟩
    refine Or.inl ⟨rfl, _, 2, 0, 0, _, _, _, qi_11_129, ⟨rfl, rfl⟩, ⟨hC1.rnd.1, rfl⟩, rfl, rfl, R_copy_3_34 hg hC1.rnd hR4, fun y62 h62 hy62 => ?_⟩
    obtain ⟨rfl, hsN, hR9⟩ := hy62
    rw [va_cpy_va, va_cpy_va] at hR9
    have hC2 : CH h62 ((S.1.1, 0, ppl (pprun S.1.1 n f len S.2.1.2.2.2.1 11 0 (Sum.inr 0, va_cpy S.2.1.2.1 P4 0 0 30, 0)).1), (S.2.1.1, va_cpy (pprun S.1.1 n f len S.2.1.2.2.2.1 11 0 (Sum.inr 0, va_cpy S.2.1.2.1 P4 0 0 30, 0)).2.1 S.2.1.2.1 0 0 30, S.2.1.2.2.1, S.2.1.2.2.2.1, (pprun S.1.1 n f len S.2.1.2.2.2.1 11 0 (Sum.inr 0, va_cpy S.2.1.2.1 P4 0 0 30, 0)).2.2, 0, S.2.1.2.2.2.2.2.2), S.2.2) := hC1.setR hsN (R := (_, _, _, _, _, 0, _, _, _)) hR9
    have hG := hG.tr (gro.of hsN rfl)
    have hX := hC2.obj
    refine ⟨by decide, _, _, hX, rfl, ?_⟩
    refine ⟨by decide, _, _, hR9.1, rfl, ?_⟩
    refine ⟨.int, rfl, rfl, Nat.le_of_ble_eq_true rfl, Nat.le_of_ble_eq_true rfl, ?_⟩
    refine ⟨hw, n, hn2, hn1, en, P4, ?_, hG⟩
    rw [if_neg (by rw [hb]; decide)]
    exact ⟨rfl, hC2⟩
  · have hb : pbad (pprun S.1.1 n f len S.2.1.2.2.2.1 11 0 (Sum.inr 0, va_cpy S.2.1.2.1 P4 0 0 30, 0)).1 = true := by simpa using qb_0.mp c37
    refine ⟨by decide, _, _, hX, rfl, ?_⟩
    refine ⟨by decide, _, _, hTp.1, rfl, ?_⟩
    refine ⟨.int, rfl, rfl, Nat.le_of_ble_eq_true rfl, Nat.le_of_ble_eq_true rfl, ?_⟩
    refine ⟨hw, n, hn2, hn1, en, P4, ?_, hG⟩
    rw [if_pos hb]
    exact ⟨rfl, hC1⟩
theorem F_book {g : qG} (hg : qOK g) (hT : qTHR g) {h : qH} {S : CS} (hC : CH h S) (hhe : S.1.2.1 ≤ 600) (hn : S.2.1.2.2.2.1 ≤ 10) (v : Int32) : qSpecX g 8 4 24 mX11_book [.ref 0, .int v] h (fun r h' => tOK S.1.2.1 200 v = true ∧ ∃ n : Nat, n ≤ S.1.2.1 ∧ n ≤ 200 ∧ v = nI n ∧ ∃ B41 B42 : Nat → Int32, (if pbad (pbrun S.1.1 n S.2.1.2.2.2.1 9 0 (Sum.inr 0, B41, B42, 0)).1 = true then r = some (.int (pki (pbrun S.1.1 n S.2.1.2.2.2.1 9 0 (Sum.inr 0, B41, B42, 0)).1 - 10)) ∧ CH h' ((S.1.1, 0, ppl (pbrun S.1.1 n S.2.1.2.2.2.1 9 0 (Sum.inr 0, B41, B42, 0)).1), S.2) else r = some (.int (nI (pbrun S.1.1 n S.2.1.2.2.2.1 9 0 (Sum.inr 0, B41, B42, 0)).2.2.2)) ∧ CH h' ((S.1.1, 0, ppl (pbrun S.1.1 n S.2.1.2.2.2.1 9 0 (Sum.inr 0, B41, B42, 0)).1), S.2.1, S.2.2.1, S.2.2.2.1, S.2.2.2.2.1, (va_cpy (pbrun S.1.1 n S.2.1.2.2.2.1 9 0 (Sum.inr 0, B41, B42, 0)).2.1 S.2.2.2.2.2.1.1 0 0 8, va_cpy (pbrun S.1.1 n S.2.1.2.2.2.1 9 0 (Sum.inr 0, B41, B42, 0)).2.2.1 S.2.2.2.2.2.1.2.1 0 0 8, (pbrun S.1.1 n S.2.1.2.2.2.1 9 0 (Sum.inr 0, B41, B42, 0)).2.2.2), S.2.2.2.2.2.2)) ∧ gro h h') (TX h S (fun k => (k = 1 ∧ ¬ tOK S.1.2.1 200 v = true))) := by
  refine qSpecX_runT "book" hg hT mX11_book_ok rfl rfl (Nat.le_of_ble_eq_true rfl) ?_
  intro run step stepT
  obtain ⟨B41, B42, n4, a4, b4, c4, d4, hB4⟩ := hC.sB
  obtain ⟨en0, po0, fr0, ki0, hTp⟩ := hC.tape
  refine step.1 _ _ _ _ _ _ _ sgX11_book_0_ok ?_
  refine Or.inr ⟨rfl, _, 7, 1, 6, _, _, _, _, qi_11_115, ⟨rfl, rfl⟩, ⟨hC.obj, rfl⟩, rfl, rfl, X_needText hg hT hC hhe _ _, fun y5 h5 hy5 => ?_, fun E h9 z => ⟨z.mono (fun k hk => ⟨hk.1, hk.2⟩), Nat.le_of_ble_eq_true rfl, Nat.le_of_ble_eq_true rfl⟩⟩
  obtain ⟨hw, rfl, hh⟩ := hy5
  rw [hh]
  clear hh
  obtain ⟨n, hn1, hn2, hn3, en⟩ := tOK_nat (m := 200) (by decide) hhe hw
  refine ⟨by decide, _, _, hC.obj, rfl, ?_⟩
  refine Or.inl ⟨rfl, _, 1, 0, 0, _, _, _, qi_11_119, ⟨rfl, rfl⟩, ⟨hC.tape.choose_spec.choose_spec.choose_spec.choose_spec.1, rfl⟩, rfl, rfl, (by rw [en]; exact X_begin hg hC hn3), fun y13 h13 hy13 => ?_⟩
  obtain ⟨rfl, hs1, q, hTc⟩ := hy13
  have hX := (hs1.2 0 (by decide)).trans hC.obj
  have hE := (hs1.2 33 (by decide)).trans hC.reader
  have hB4 := hB4.sm hs1 (by decide) (by decide) (by decide)
  have hRr := hC.rnd.sm hs1 (by decide) (by decide) (by decide) (by decide)
  refine ⟨by decide, _, _, hX, rfl, ?_⟩
  refine ⟨by decide, _, _, hX, rfl, ?_⟩
  refine ⟨by decide, _, _, hRr.1, rfl, ?_⟩
  refine Or.inl ⟨rfl, _, 5, 0, 0, _, _, _, qi_11_170, ⟨rfl, rfl⟩, ⟨hE, rfl⟩, rfl, rfl, RD_book hg hTc hE hB4 hn, fun y27 h27 hy27 => ?_⟩
  obtain ⟨rfl, hsN, ⟨q', hTc⟩, hB4⟩ := hy27
  have hs : same h h27 [1, 40, 41, 42] := hs1.tr hsN (by simp) (fun _ z => z)
  obtain ⟨en1, po1, fr1, hTp⟩ := hTc.out
  have hC1 : CH h27 ((S.1.1, 0, ppl (pbrun S.1.1 n S.2.1.2.2.2.1 9 0 (Sum.inr 0, B41, B42, 0)).1), S.2) := hC.upT hs (by simp) (fz_cons ⟨_, hTp.1, _, _, _, _, rfl⟩ (fz_cons ⟨_, hB4.1, _, _, _, _, _, rfl⟩ (fz_cons ⟨_, hB4.2.1, _, rfl⟩ (fz_cons ⟨_, hB4.2.2, _, rfl⟩ fz_nil))))
  have hG := gro.of hs rfl
  have hX := hC1.obj
  have hE := hC1.reader
  obtain ⟨se5, fi5, ia5, ino5, hB⟩ := hC1.book
  refine ⟨fun c30 => ?_, fun c30 => ?_⟩
  · have hb : pbad (pbrun S.1.1 n S.2.1.2.2.2.1 9 0 (Sum.inr 0, B41, B42, 0)).1 = false := by simpa using qb_1.mp c30
    refine step.1 _ _ _ _ _ _ _ sgX11_book_44_ok ?_
    refine ⟨by decide, _, _, hX, rfl, ?_⟩
    refine ⟨by decide, _, _, hX, rfl, ?_⟩
    refine ⟨by decide, _, _, hE, rfl, ?_⟩
    refine Or.inl ⟨rfl, _, 2, 0, 0, _, _, _, qi_11_177, ⟨rfl, rfl⟩, ⟨hB.1, rfl⟩, rfl, rfl, B_copy hg hB hB4, fun y55 h55 hy55 => ?_⟩
    obtain ⟨rfl, hsN, hB9⟩ := hy55
    have hC2 : CH h55 ((S.1.1, 0, ppl (pbrun S.1.1 n S.2.1.2.2.2.1 9 0 (Sum.inr 0, B41, B42, 0)).1), S.2.1, S.2.2.1, S.2.2.2.1, S.2.2.2.2.1, (va_cpy (pbrun S.1.1 n S.2.1.2.2.2.1 9 0 (Sum.inr 0, B41, B42, 0)).2.1 S.2.2.2.2.2.1.1 0 0 8, va_cpy (pbrun S.1.1 n S.2.1.2.2.2.1 9 0 (Sum.inr 0, B41, B42, 0)).2.2.1 S.2.2.2.2.2.1.2.1 0 0 8, (pbrun S.1.1 n S.2.1.2.2.2.1 9 0 (Sum.inr 0, B41, B42, 0)).2.2.2), S.2.2.2.2.2.2) := hC1.setB hsN (B := (_, _, _)) hB9
    have hG := hG.tr (gro.of hsN rfl)
    have hX := hC2.obj
    refine ⟨by decide, _, _, hX, rfl, ?_⟩
    refine ⟨by decide, _, _, hB9.1, rfl, ?_⟩
    refine ⟨.int, rfl, rfl, Nat.le_of_ble_eq_true rfl, Nat.le_of_ble_eq_true rfl, ?_⟩
    refine ⟨hw, n, hn2, hn1, en, B41, B42, ?_, hG⟩
    rw [if_neg (by rw [hb]; decide)]
    exact ⟨rfl, hC2⟩
  · have hb : pbad (pbrun S.1.1 n S.2.1.2.2.2.1 9 0 (Sum.inr 0, B41, B42, 0)).1 = true := by simpa using qb_0.mp c30
    refine ⟨by decide, _, _, hX, rfl, ?_⟩
    refine ⟨by decide, _, _, hTp.1, rfl, ?_⟩
    refine ⟨.int, rfl, rfl, Nat.le_of_ble_eq_true rfl, Nat.le_of_ble_eq_true rfl, ?_⟩
    refine ⟨hw, n, hn2, hn1, en, B41, B42, ?_, hG⟩
    rw [if_pos hb]
    exact ⟨rfl, hC1⟩
end Q09G
