section Q12L
theorem krow_d {Z d p : Nat → Int32} {b : Nat} {n u : Int32} {j : Nat} (hj : j < 100) : krow Z b d p n u (b + j) = d j := by
  unfold krow
  rw [upd_n (by omega), upd_n (by omega)]
  unfold bpt
  rw [if_neg (by omega), if_pos (by omega), show b + j - b = j by omega]
theorem krow_p {Z d p : Nat → Int32} {b : Nat} {n u : Int32} {j : Nat} (hj : j < 30) : krow Z b d p n u (b + 100 + j) = p j := by
  unfold krow
  rw [upd_n (by omega), upd_n (by omega)]
  unfold bpt
  rw [if_pos (by omega), show b + 100 + j - (b + 100) = j by omega]
theorem krow_n {Z d p : Nat → Int32} {b : Nat} {n u : Int32} : krow Z b d p n u (b + 130) = n := by
  unfold krow
  rw [upd_n (by omega)]
  exact if_pos rfl
theorem krow_u {Z d p : Nat → Int32} {b : Nat} {n u : Int32} : krow Z b d p n u (b + 131) = u := if_pos rfl
theorem krow_o {Z d p : Nat → Int32} {b : Nat} {n u : Int32} {j : Nat} (hj : j < b ∨ b + 132 ≤ j) : krow Z b d p n u j = Z j := by
  unfold krow
  rw [upd_n (by omega), upd_n (by omega)]
  unfold bpt
  rw [if_neg (by omega), if_neg (by omega)]
theorem krow_m {R : RT} (hR : ROK R) {Z d p : Nat → Int32} {b : Nat} {n u : Int32} (hd : ag (R.2.2.2.1 * 10) d R.1) (hp : ag (R.2.2.2.2.1 * 3) p R.2.1) (hn : n = nI R.2.2.2.2.1) (hu : u = R.2.2.2.2.2.2.2.2) : mrow (krow Z b d p n u) b R :=
  ⟨fun j hj => (krow_d (by have := hR.1.1; omega)).trans (hd j hj), fun j hj => (krow_p (by have := hR.1.2.1; omega)).trans (hp j hj), krow_n.trans hn, krow_u.trans hu⟩
/-- a change told: what was is kept -/
theorem Rel.push {S : CS} {x x' : Nat → Int32} {F F' : Nat → Nat → Int32} (hR : Rel S x F) (hI : ROK S.2.1) {R' : RT} {u : Nat} (hu : S.2.1.2.2.2.2.2.1 = u) (hlt : u < 20)
    (hx : ∀ k : Nat, k ∉ [23, 36, 62] → x' k = x k) (h36 : x' 36 = nI R'.2.2.2.2.1) (h23 : x' 23 = R'.2.2.2.2.2.2.2.2) (h62 : x' 62 = nI (u + 1))
    (hn : R'.2.2.2.1 = S.2.1.2.2.2.1) (hst : R'.2.2.2.2.2.2.1 = S.2.1.2.2.2.2.2.2.1) (hve : R'.2.2.2.2.2.2.2.1 = S.2.1.2.2.2.2.2.2.2.1) (hu' : R'.2.2.2.2.2.1 = u + 1)
    (hF : ∀ j : Nat, j ∉ [67, 78, 90] → F' j = F j) (h67 : ag (S.2.1.2.2.2.1 * 10) (F' 67) R'.1) (h78 : ag (R'.2.2.2.2.1 * 3) (F' 78) R'.2.1) (h90 : F' 90 = krow (F 90) (132 * u) (F 67) (F 78) (x 36) (x 23))
    (hb : ∃ R2 : RT, rbk R' u R2 ∧ RA u S.2.1 R2) : Rel (S.1, R', S.2.2) x' F' := by
  obtain ⟨R2, hb, ha⟩ := hb
  obtain ⟨⟨h2, h8, h19, h20, h21, h22, h23', h36', h37, h62', h64⟩, hbt, ⟨hd, hc, hp⟩, hl, hy, hr, hm, hi⟩ := hR
  have e := fun k hk => hx k hk
  have f := fun k hk => hF k hk
  unfold Rel
  rw [e 2 (by decide), e 8 (by decide), e 19 (by decide), e 20 (by decide), e 21 (by decide), e 22 (by decide), e 37 (by decide), e 64 (by decide), f 64 (by decide), f 65 (by decide), f 69 (by decide), f 72 (by decide), f 73 (by decide), f 74 (by decide), f 80 (by decide), f 91 (by decide), h23, h36, h62]
  rw [show (S.1, R', S.2.2).2.1 = R' from rfl, show (S.1, R', S.2.2).2.2 = S.2.2 from rfl, show (S.1, R', S.2.2).1 = S.1 from rfl, hn, hst, hve, hu']
  refine ⟨⟨h2, h8, h19, h20, h21, h22, rfl, rfl, h37, rfl, h64⟩, hbt, ⟨h67, hc, h78⟩, hl, hy, hr, ?_, hi⟩
  have hk : mrow (F' 90) (0 + 132 * u) S.2.1 := by
    rw [h90, Nat.zero_add]
    exact krow_m hI hd hp h36' h23'
  refine ⟨R2, hb, hI.c (by rw [(rbk_k hb).1]; omega) ha, mrow_c hk hI (fun _ _ => rfl) ha, ?_⟩
  rw [hu] at hm
  refine mch_c u S.2.1 R2 hI hm (fun j hj => ?_) ha
  rw [h90]
  exact krow_o (by omega)
theorem unote_0 (U : Nat → Int32) (x : Nat) (kd p q r s : Int32) : unote U x kd p q r s (x * 5) = kd := by
  unfold unote
  rw [upd_n (by omega), upd_n (by omega), upd_n (by omega), upd_n (by omega)]
  exact if_pos rfl
theorem unote_1 (U : Nat → Int32) (x : Nat) (kd p q r s : Int32) : unote U x kd p q r s (x * 5 + 1) = p := by
  unfold unote
  rw [upd_n (by omega), upd_n (by omega), upd_n (by omega)]
  exact if_pos rfl
theorem unote_2 (U : Nat → Int32) (x : Nat) (kd p q r s : Int32) : unote U x kd p q r s (x * 5 + 2) = q := by
  unfold unote
  rw [upd_n (by omega), upd_n (by omega)]
  exact if_pos rfl
theorem unote_3 (U : Nat → Int32) (x : Nat) (kd p q r s : Int32) : unote U x kd p q r s (x * 5 + 3) = r := by
  unfold unote
  rw [upd_n (by omega)]
  exact if_pos rfl
theorem unote_4 (U : Nat → Int32) (x : Nat) (kd p q r s : Int32) : unote U x kd p q r s (x * 5 + 4) = s := if_pos rfl
theorem unote_n (U : Nat → Int32) (x : Nat) (kd p q r s : Int32) {j : Nat} (hj : j < 5 * x) : unote U x kd p q r s j = U j := by
  unfold unote
  rw [upd_n (by omega), upd_n (by omega), upd_n (by omega), upd_n (by omega), upd_n (by omega)]
theorem rbk_change {R : RT} (hR : ROK R) {x y : Nat} (hx : x < R.2.2.2.1) (hy : y ≤ 9) (v : Int32) : ∃ R2 : RT, rbk (upd R.1 (x * 10 + y) v, R.2.1, unote R.2.2.1 R.2.2.2.2.2.1 0 (nI x) (nI y) (R.1 (x * 10 + y)) 0, R.2.2.2.1, R.2.2.2.2.1, R.2.2.2.2.2.1 + 1, R.2.2.2.2.2.2) R.2.2.2.2.2.1 R2 ∧ RA R.2.2.2.2.2.1 R R2 := by
  have := hR.1.1
  refine ⟨_, Or.inl ⟨unote_0 _ _ _ _ _ _ _, x, y, by omega, by omega, unote_1 _ _ _ _ _ _ _, unote_2 _ _ _ _ _ _ _, rfl⟩, fun j hj => ?_, fun j hj => rfl, fun j hj => unote_n _ _ _ _ _ _ _ hj, rfl, rfl, rfl⟩
  show upd (upd R.1 (x * 10 + y) v) (x * 10 + y) (unote _ _ _ _ _ _ _ _) j = R.1 j
  rw [unote_3]
  unfold upd
  by_cases c : j = x * 10 + y
  · rw [if_pos c, c]
  · rw [if_neg c, if_neg c]
theorem rbk_sing {R : RT} (hR : ROK R) {x : Nat} (hx : x < R.2.2.2.2.1) (v r : Int32) : ∃ R2 : RT, rbk (R.1, lput R.2.1 x (R.2.1 (x * 3)) v r, unote R.2.2.1 R.2.2.2.2.2.1 1 (nI x) (R.2.1 (x * 3 + 1)) (R.2.1 (x * 3 + 2)) 0, R.2.2.2.1, R.2.2.2.2.1, R.2.2.2.2.2.1 + 1, R.2.2.2.2.2.2) R.2.2.2.2.2.1 R2 ∧ RA R.2.2.2.2.2.1 R R2 := by
  have := hR.1.2.1
  refine ⟨_, Or.inr (Or.inl ⟨unote_0 _ _ _ _ _ _ _, x, by omega, unote_1 _ _ _ _ _ _ _, rfl⟩), fun j hj => rfl, fun j hj => ?_, fun j hj => unote_n _ _ _ _ _ _ _ hj, rfl, rfl, rfl⟩
  show lput (lput R.2.1 x (R.2.1 (x * 3)) v r) x (lput R.2.1 x (R.2.1 (x * 3)) v r (x * 3)) (unote _ _ _ _ _ _ _ _) (unote _ _ _ _ _ _ _ _) j = R.2.1 j
  rw [unote_2, unote_3]
  simp only [lput_e]
  by_cases c2 : j = x * 3 + 2
  · rw [if_pos c2, c2]
  · rw [if_neg c2]
    by_cases c1 : j = x * 3 + 1
    · rw [if_pos c1, c1]
    · rw [if_neg c1]
      by_cases c0 : j = x * 3
      · rw [if_pos c0, c0]; simp
      · rw [if_neg c0, if_neg c2, if_neg c1, if_neg c0]
theorem lxch_e (P : Nat → Int32) {x y : Nat} (hxy : x ≠ y) (j : Nat) : lxch P x y j = if j = x * 3 ∨ j = x * 3 + 1 ∨ j = x * 3 + 2 then P (y * 3 + (j - x * 3)) else if j = y * 3 ∨ j = y * 3 + 1 ∨ j = y * 3 + 2 then P (x * 3 + (j - y * 3)) else P j := by
  unfold lxch
  simp only [lput_e]
  by_cases a2 : j = y * 3 + 2
  · rw [if_pos a2, if_neg (by omega), if_pos (by omega), show j - y * 3 = 2 by omega]
  · rw [if_neg a2]
    by_cases a1 : j = y * 3 + 1
    · rw [if_pos a1, if_neg (by omega), if_pos (by omega), show j - y * 3 = 1 by omega]
    · rw [if_neg a1]
      by_cases a0 : j = y * 3
      · rw [if_pos a0, if_neg (by omega), if_pos (by omega), show j - y * 3 = 0 by omega, Nat.add_zero]
      · rw [if_neg a0]
        by_cases b2 : j = x * 3 + 2
        · rw [if_pos b2, if_pos (by omega), show j - x * 3 = 2 by omega]
        · rw [if_neg b2]
          by_cases b1 : j = x * 3 + 1
          · rw [if_pos b1, if_pos (by omega), show j - x * 3 = 1 by omega]
          · rw [if_neg b1]
            by_cases b0 : j = x * 3
            · rw [if_pos b0, if_pos (by omega), show j - x * 3 = 0 by omega, Nat.add_zero]
            · rw [if_neg b0, if_neg (by omega), if_neg (by omega)]
theorem lxch_2 (P : Nat → Int32) {x y : Nat} (hxy : x ≠ y) : lxch (lxch P x y) x y = P := by
  funext j
  rw [lxch_e _ hxy, lxch_e _ hxy, lxch_e _ hxy, lxch_e _ hxy]
  by_cases a : j = x * 3 ∨ j = x * 3 + 1 ∨ j = x * 3 + 2
  · rw [if_pos a, if_neg (by omega), if_pos (by omega)]
    exact congrArg P (by omega)
  · rw [if_neg a]
    by_cases b : j = y * 3 ∨ j = y * 3 + 1 ∨ j = y * 3 + 2
    · rw [if_pos b, if_pos (by omega)]
      exact congrArg P (by omega)
    · rw [if_neg b, if_neg a, if_neg b]
theorem rbk_swap {R : RT} (hR : ROK R) {x y : Nat} (hx : x < R.2.2.2.2.1) (hy : y < R.2.2.2.2.1) (hxy : x ≠ y) : ∃ R2 : RT, rbk (R.1, lxch R.2.1 x y, unote R.2.2.1 R.2.2.2.2.2.1 2 (nI x) (nI y) 0 0, R.2.2.2.1, R.2.2.2.2.1, R.2.2.2.2.2.1 + 1, R.2.2.2.2.2.2) R.2.2.2.2.2.1 R2 ∧ RA R.2.2.2.2.2.1 R R2 := by
  have := hR.1.2.1
  refine ⟨_, Or.inr (Or.inr (Or.inl ⟨unote_0 _ _ _ _ _ _ _, x, y, by omega, by omega, unote_1 _ _ _ _ _ _ _, unote_2 _ _ _ _ _ _ _, rfl⟩)), fun j hj => rfl, fun j hj => ?_, fun j hj => unote_n _ _ _ _ _ _ _ hj, rfl, rfl, rfl⟩
  exact congrFun (lxch_2 R.2.1 hxy) j
theorem rbk_skip {R : RT} (hR : ROK R) {x : Nat} (hx : x < R.2.2.2.2.1) : ∃ R2 : RT, rbk (R.1, ltake R.2.1 x (R.2.2.2.2.1 - 1 - x), unote R.2.2.1 R.2.2.2.2.2.1 3 (nI x) (R.2.1 (x * 3)) (R.2.1 (x * 3 + 1)) (R.2.1 (x * 3 + 2)), R.2.2.2.1, R.2.2.2.2.1 - 1, R.2.2.2.2.2.1 + 1, R.2.2.2.2.2.2) R.2.2.2.2.2.1 R2 ∧ RA R.2.2.2.2.2.1 R R2 := by
  have := hR.1.2.1
  refine ⟨_, Or.inr (Or.inr (Or.inr (Or.inl ⟨unote_0 _ _ _ _ _ _ _, x, (by show x ≤ R.2.2.2.2.1 - 1; omega), (by show R.2.2.2.2.1 - 1 ≤ 9; omega), unote_1 _ _ _ _ _ _ _, rfl⟩))), fun j hj => rfl, fun j hj => ?_, fun j hj => unote_n _ _ _ _ _ _ _ hj, rfl, (by show R.2.2.2.2.1 - 1 + 1 = R.2.2.2.2.1; omega), rfl⟩
  show lput (lins (ltake R.2.1 x (R.2.2.2.2.1 - 1 - x)) (R.2.2.2.2.1 - 1 - x) (R.2.2.2.2.1 - 1)) x (unote _ _ _ _ _ _ _ _) (unote _ _ _ _ _ _ _ _) (unote _ _ _ _ _ _ _ _) j = R.2.1 j
  rw [unote_2, unote_3, unote_4, lput_e, lins_e _ _ _ _ (by omega), ltake_e, ltake_e]
  by_cases c2 : j = x * 3 + 2
  · rw [if_pos c2, c2]
  · rw [if_neg c2]
    by_cases c1 : j = x * 3 + 1
    · rw [if_pos c1, c1]
    · rw [if_neg c1]
      by_cases c0 : j = x * 3
      · rw [if_pos c0, c0]
      · rw [if_neg c0]
        by_cases d : (R.2.2.2.2.1 - 1 - (R.2.2.2.2.1 - 1 - x) + 1) * 3 ≤ j ∧ j < (R.2.2.2.2.1 - 1 + 1) * 3
        · rw [if_pos d, if_pos (by omega)]
          exact congrArg R.2.1 (by omega)
        · rw [if_neg d, if_neg (by omega)]
theorem rbk_until {R : RT} (w : Int32) : ∃ R2 : RT, rbk (R.1, R.2.1, unote R.2.2.1 R.2.2.2.2.2.1 4 R.2.2.2.2.2.2.2.2 0 0 0, R.2.2.2.1, R.2.2.2.2.1, R.2.2.2.2.2.1 + 1, R.2.2.2.2.2.2.1, R.2.2.2.2.2.2.2.1, w) R.2.2.2.2.2.1 R2 ∧ RA R.2.2.2.2.2.1 R R2 := by
  refine ⟨_, Or.inr (Or.inr (Or.inr (Or.inr ⟨unote_0 _ _ _ _ _ _ _, rfl⟩))), fun j hj => rfl, fun j hj => rfl, fun j hj => unote_n _ _ _ _ _ _ _ hj, rfl, rfl, ?_⟩
  show (R.2.2.2.2.2.2.1, R.2.2.2.2.2.2.2.1, unote _ _ _ _ _ _ _ _) = _
  rw [unote_1]
end Q12L
