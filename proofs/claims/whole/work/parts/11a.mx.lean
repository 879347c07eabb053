section Q11A
def msz (j : Nat) : Nat := if j = 64 then 3 else if j = 65 then 600 else if j = 66 then 100 else if j = 67 then 100 else if j = 68 then 32 else if j = 69 then 32 else if j = 70 then 150 else if j = 71 then 150 else if j = 72 then 300 else if j = 73 then 300 else if j = 74 then 2 else if j = 75 then 150 else if j = 76 then 10 else if j = 77 then 30 else if j = 78 then 30 else if j = 79 then 16 else if j = 80 then 16 else if j = 83 then 95 else if j = 84 then 5 else if j = 85 then 32 else if j = 87 then 10 else if j = 88 then 121 else if j = 89 then 7 else if j = 90 then 2640 else if j = 91 then 8319 else 0
/-- what the model's row at a cell is -/
def mcell (j : Nat) (F : Nat → Nat → Int32) (G : Nat → Nat → Int64) : qE := if j = 81 then .inr (.inr (.inl (92352, G 81))) else if j = 82 then .inr (.inr (.inl (95, G 82))) else if j = 86 then .inr (.inl (.boolean, 32, F 86)) else aI' (msz j) (F j)
/-- the model's cells: its ints, its longs, its rows -/
def MX (h : qH) (x : Nat → Int32) (y : Nat → Int64) (F : Nat → Nat → Int32) (G : Nat → Nat → Int64) : Prop := h.2 63 = some (M63 x y) ∧ ∀ j : Nat, 64 ≤ j → j ≤ 91 → h.2 j = some (mcell j F G)
def fup (F : Nat → Nat → Int32) (k : Nat) (f : Nat → Int32) : Nat → Nat → Int32 := fun j => if j = k then f else F j
def gup (F : Nat → Nat → Int64) (k : Nat) (f : Nat → Int64) : Nat → Nat → Int64 := fun j => if j = k then f else F j
theorem fup_s {F : Nat → Nat → Int32} {k : Nat} {f : Nat → Int32} : fup F k f k = f := if_pos rfl
theorem fup_n {F : Nat → Nat → Int32} {k j : Nat} {f : Nat → Int32} (h : j ≠ k) : fup F k f j = F j := if_neg h
theorem fup_self {F : Nat → Nat → Int32} {k : Nat} : fup F k (F k) = F := by
  funext j
  unfold fup
  split
  · rename_i e; rw [e]
  · rfl
theorem fup_fup {F : Nat → Nat → Int32} {k : Nat} {f f' : Nat → Int32} : fup (fup F k f) k f' = fup F k f' := by
  funext j
  unfold fup
  split <;> rfl
theorem mcell_f {j k : Nat} {F : Nat → Nat → Int32} {f : Nat → Int32} {G : Nat → Nat → Int64} (h : j ≠ k) : mcell j (fup F k f) G = mcell j F G := by
  unfold mcell
  rw [fup_n h]
  by_cases h1 : j = 81
  · rw [if_pos h1, if_pos h1]
  · rw [if_neg h1, if_neg h1]
    by_cases h2 : j = 82
    · rw [if_pos h2, if_pos h2]
    · rw [if_neg h2, if_neg h2]
      by_cases h3 : j = 86
      · rw [if_pos h3, if_pos h3, fup_n (by rw [← h3]; exact h)]
      · rw [if_neg h3, if_neg h3]
theorem mcell_g {j k : Nat} {F : Nat → Nat → Int32} {f : Nat → Int64} {G : Nat → Nat → Int64} (h : j ≠ k) : mcell j F (gup G k f) = mcell j F G := by
  unfold mcell
  by_cases h1 : j = 81
  · rw [if_pos h1, if_pos h1]
    unfold gup
    rw [if_neg (by rw [← h1]; exact h)]
  · rw [if_neg h1, if_neg h1]
    by_cases h2 : j = 82
    · rw [if_pos h2, if_pos h2]
      unfold gup
      rw [if_neg (by rw [← h2]; exact h)]
    · rw [if_neg h2, if_neg h2]
section
variable {h : qH} {x : Nat → Int32} {y : Nat → Int64} {F : Nat → Nat → Int32} {G : Nat → Nat → Int64}
theorem MX.u63 (hM : MX h x y F G) (x' : Nat → Int32) (y' : Nat → Int64) : MX (h.1, qup h.2 63 (M63 x' y')) x' y' F G := ⟨rfl, fun j h1 h2 => (qup_n (by omega)).trans (hM.2 j h1 h2)⟩
theorem MX.u (hM : MX h x y F G) {k : Nat} {f : Nat → Int32} {e : qE} (h1 : 64 ≤ k) (he : e = mcell k (fup F k f) G) : MX (h.1, qup h.2 k e) x y (fup F k f) G := ⟨(qup_n (by omega)).trans hM.1, fun j h2 h3 => by
  by_cases c : j = k
  · subst c
    rw [← he]
    exact qup_s
  · rw [mcell_f c]
    exact (qup_n c).trans (hM.2 j h2 h3)⟩
theorem MX.ug (hM : MX h x y F G) {k : Nat} {f : Nat → Int64} {e : qE} (h1 : 64 ≤ k) (he : e = mcell k F (gup G k f)) : MX (h.1, qup h.2 k e) x y F (gup G k f) := ⟨(qup_n (by omega)).trans hM.1, fun j h2 h3 => by
  by_cases c : j = k
  · subst c
    rw [← he]
    exact qup_s
  · rw [mcell_g c]
    exact (qup_n c).trans (hM.2 j h2 h3)⟩
theorem MX.c64 (hM : MX h x y F G) : h.2 64 = some (aI' 3 (F 64)) := hM.2 64 (by decide) (by decide)
theorem MX.u64 (hM : MX h x y F G) (f : Nat → Int32) : MX (h.1, qup h.2 64 (aI' 3 f)) x y (fup F 64 f) G := hM.u (by decide) rfl
theorem MX.c65 (hM : MX h x y F G) : h.2 65 = some (aI' 600 (F 65)) := hM.2 65 (by decide) (by decide)
theorem MX.u65 (hM : MX h x y F G) (f : Nat → Int32) : MX (h.1, qup h.2 65 (aI' 600 f)) x y (fup F 65 f) G := hM.u (by decide) rfl
theorem MX.c66 (hM : MX h x y F G) : h.2 66 = some (aI' 100 (F 66)) := hM.2 66 (by decide) (by decide)
theorem MX.u66 (hM : MX h x y F G) (f : Nat → Int32) : MX (h.1, qup h.2 66 (aI' 100 f)) x y (fup F 66 f) G := hM.u (by decide) rfl
theorem MX.c67 (hM : MX h x y F G) : h.2 67 = some (aI' 100 (F 67)) := hM.2 67 (by decide) (by decide)
theorem MX.u67 (hM : MX h x y F G) (f : Nat → Int32) : MX (h.1, qup h.2 67 (aI' 100 f)) x y (fup F 67 f) G := hM.u (by decide) rfl
theorem MX.c68 (hM : MX h x y F G) : h.2 68 = some (aI' 32 (F 68)) := hM.2 68 (by decide) (by decide)
theorem MX.u68 (hM : MX h x y F G) (f : Nat → Int32) : MX (h.1, qup h.2 68 (aI' 32 f)) x y (fup F 68 f) G := hM.u (by decide) rfl
theorem MX.c69 (hM : MX h x y F G) : h.2 69 = some (aI' 32 (F 69)) := hM.2 69 (by decide) (by decide)
theorem MX.u69 (hM : MX h x y F G) (f : Nat → Int32) : MX (h.1, qup h.2 69 (aI' 32 f)) x y (fup F 69 f) G := hM.u (by decide) rfl
theorem MX.c70 (hM : MX h x y F G) : h.2 70 = some (aI' 150 (F 70)) := hM.2 70 (by decide) (by decide)
theorem MX.u70 (hM : MX h x y F G) (f : Nat → Int32) : MX (h.1, qup h.2 70 (aI' 150 f)) x y (fup F 70 f) G := hM.u (by decide) rfl
theorem MX.c71 (hM : MX h x y F G) : h.2 71 = some (aI' 150 (F 71)) := hM.2 71 (by decide) (by decide)
theorem MX.u71 (hM : MX h x y F G) (f : Nat → Int32) : MX (h.1, qup h.2 71 (aI' 150 f)) x y (fup F 71 f) G := hM.u (by decide) rfl
theorem MX.c72 (hM : MX h x y F G) : h.2 72 = some (aI' 300 (F 72)) := hM.2 72 (by decide) (by decide)
theorem MX.u72 (hM : MX h x y F G) (f : Nat → Int32) : MX (h.1, qup h.2 72 (aI' 300 f)) x y (fup F 72 f) G := hM.u (by decide) rfl
theorem MX.c73 (hM : MX h x y F G) : h.2 73 = some (aI' 300 (F 73)) := hM.2 73 (by decide) (by decide)
theorem MX.u73 (hM : MX h x y F G) (f : Nat → Int32) : MX (h.1, qup h.2 73 (aI' 300 f)) x y (fup F 73 f) G := hM.u (by decide) rfl
theorem MX.c74 (hM : MX h x y F G) : h.2 74 = some (aI' 2 (F 74)) := hM.2 74 (by decide) (by decide)
theorem MX.u74 (hM : MX h x y F G) (f : Nat → Int32) : MX (h.1, qup h.2 74 (aI' 2 f)) x y (fup F 74 f) G := hM.u (by decide) rfl
theorem MX.c75 (hM : MX h x y F G) : h.2 75 = some (aI' 150 (F 75)) := hM.2 75 (by decide) (by decide)
theorem MX.u75 (hM : MX h x y F G) (f : Nat → Int32) : MX (h.1, qup h.2 75 (aI' 150 f)) x y (fup F 75 f) G := hM.u (by decide) rfl
theorem MX.c76 (hM : MX h x y F G) : h.2 76 = some (aI' 10 (F 76)) := hM.2 76 (by decide) (by decide)
theorem MX.u76 (hM : MX h x y F G) (f : Nat → Int32) : MX (h.1, qup h.2 76 (aI' 10 f)) x y (fup F 76 f) G := hM.u (by decide) rfl
theorem MX.c77 (hM : MX h x y F G) : h.2 77 = some (aI' 30 (F 77)) := hM.2 77 (by decide) (by decide)
theorem MX.u77 (hM : MX h x y F G) (f : Nat → Int32) : MX (h.1, qup h.2 77 (aI' 30 f)) x y (fup F 77 f) G := hM.u (by decide) rfl
theorem MX.c78 (hM : MX h x y F G) : h.2 78 = some (aI' 30 (F 78)) := hM.2 78 (by decide) (by decide)
theorem MX.u78 (hM : MX h x y F G) (f : Nat → Int32) : MX (h.1, qup h.2 78 (aI' 30 f)) x y (fup F 78 f) G := hM.u (by decide) rfl
theorem MX.c79 (hM : MX h x y F G) : h.2 79 = some (aI' 16 (F 79)) := hM.2 79 (by decide) (by decide)
theorem MX.u79 (hM : MX h x y F G) (f : Nat → Int32) : MX (h.1, qup h.2 79 (aI' 16 f)) x y (fup F 79 f) G := hM.u (by decide) rfl
theorem MX.c80 (hM : MX h x y F G) : h.2 80 = some (aI' 16 (F 80)) := hM.2 80 (by decide) (by decide)
theorem MX.u80 (hM : MX h x y F G) (f : Nat → Int32) : MX (h.1, qup h.2 80 (aI' 16 f)) x y (fup F 80 f) G := hM.u (by decide) rfl
theorem MX.c81 (hM : MX h x y F G) : h.2 81 = some (.inr (.inr (.inl (92352, G 81)))) := hM.2 81 (by decide) (by decide)
theorem MX.u81 (hM : MX h x y F G) (f : Nat → Int64) : MX (h.1, qup h.2 81 (.inr (.inr (.inl (92352, f))))) x y F (gup G 81 f) := hM.ug (by decide) rfl
theorem MX.c82 (hM : MX h x y F G) : h.2 82 = some (.inr (.inr (.inl (95, G 82)))) := hM.2 82 (by decide) (by decide)
theorem MX.u82 (hM : MX h x y F G) (f : Nat → Int64) : MX (h.1, qup h.2 82 (.inr (.inr (.inl (95, f))))) x y F (gup G 82 f) := hM.ug (by decide) rfl
theorem MX.c83 (hM : MX h x y F G) : h.2 83 = some (aI' 95 (F 83)) := hM.2 83 (by decide) (by decide)
theorem MX.u83 (hM : MX h x y F G) (f : Nat → Int32) : MX (h.1, qup h.2 83 (aI' 95 f)) x y (fup F 83 f) G := hM.u (by decide) rfl
theorem MX.c84 (hM : MX h x y F G) : h.2 84 = some (aI' 5 (F 84)) := hM.2 84 (by decide) (by decide)
theorem MX.u84 (hM : MX h x y F G) (f : Nat → Int32) : MX (h.1, qup h.2 84 (aI' 5 f)) x y (fup F 84 f) G := hM.u (by decide) rfl
theorem MX.c85 (hM : MX h x y F G) : h.2 85 = some (aI' 32 (F 85)) := hM.2 85 (by decide) (by decide)
theorem MX.u85 (hM : MX h x y F G) (f : Nat → Int32) : MX (h.1, qup h.2 85 (aI' 32 f)) x y (fup F 85 f) G := hM.u (by decide) rfl
theorem MX.c86 (hM : MX h x y F G) : h.2 86 = some (.inr (.inl (.boolean, 32, (F 86)))) := hM.2 86 (by decide) (by decide)
theorem MX.u86 (hM : MX h x y F G) (f : Nat → Int32) : MX (h.1, qup h.2 86 (.inr (.inl (.boolean, 32, f)))) x y (fup F 86 f) G := hM.u (by decide) rfl
theorem MX.c87 (hM : MX h x y F G) : h.2 87 = some (aI' 10 (F 87)) := hM.2 87 (by decide) (by decide)
theorem MX.u87 (hM : MX h x y F G) (f : Nat → Int32) : MX (h.1, qup h.2 87 (aI' 10 f)) x y (fup F 87 f) G := hM.u (by decide) rfl
theorem MX.c88 (hM : MX h x y F G) : h.2 88 = some (aI' 121 (F 88)) := hM.2 88 (by decide) (by decide)
theorem MX.u88 (hM : MX h x y F G) (f : Nat → Int32) : MX (h.1, qup h.2 88 (aI' 121 f)) x y (fup F 88 f) G := hM.u (by decide) rfl
theorem MX.c89 (hM : MX h x y F G) : h.2 89 = some (aI' 7 (F 89)) := hM.2 89 (by decide) (by decide)
theorem MX.u89 (hM : MX h x y F G) (f : Nat → Int32) : MX (h.1, qup h.2 89 (aI' 7 f)) x y (fup F 89 f) G := hM.u (by decide) rfl
theorem MX.c90 (hM : MX h x y F G) : h.2 90 = some (aI' 2640 (F 90)) := hM.2 90 (by decide) (by decide)
theorem MX.u90 (hM : MX h x y F G) (f : Nat → Int32) : MX (h.1, qup h.2 90 (aI' 2640 f)) x y (fup F 90 f) G := hM.u (by decide) rfl
theorem MX.c91 (hM : MX h x y F G) : h.2 91 = some (aI' 8319 (F 91)) := hM.2 91 (by decide) (by decide)
theorem MX.u91 (hM : MX h x y F G) (f : Nat → Int32) : MX (h.1, qup h.2 91 (aI' 8319 f)) x y (fup F 91 f) G := hM.u (by decide) rfl
end
/-- what a question leaves alone -/
def mq (x x' : Nat → Int32) (F F' : Nat → Nat → Int32) : Prop := (∀ k : Nat, k ∉ [42, 50, 53, 57, 59, 60] → x' k = x k) ∧ ∀ j : Nat, j ∉ [75, 76, 83, 84, 85, 86, 87, 88, 89] → F' j = F j
theorem mq.rf {x : Nat → Int32} {F : Nat → Nat → Int32} : mq x x F F := ⟨fun _ _ => rfl, fun _ _ => rfl⟩
theorem mq.tr {x x' x'' : Nat → Int32} {F F' F'' : Nat → Nat → Int32} (a : mq x x' F F') (b : mq x' x'' F' F'') : mq x x'' F F'' := ⟨fun k hk => (b.1 k hk).trans (a.1 k hk), fun k hk => (b.2 k hk).trans (a.2 k hk)⟩
theorem mq.ux {x x' : Nat → Int32} {F F' : Nat → Nat → Int32} (a : mq x x' F F') {k : Nat} {v : Int32} (hk : k ∈ [42, 50, 53, 57, 59, 60]) : mq x (upd x' k v) F F' := ⟨fun j hj => (upd_n (fun e => hj (by rw [e]; exact hk))).trans (a.1 j hj), a.2⟩
theorem mq.uF {x x' : Nat → Int32} {F F' : Nat → Nat → Int32} (a : mq x x' F F') {k : Nat} {f : Nat → Int32} (hk : k ∈ [75, 76, 83, 84, 85, 86, 87, 88, 89]) : mq x x' F (fup F' k f) := ⟨a.1, fun j hj => (fup_n (fun e => hj (by rw [e]; exact hk))).trans (a.2 j hj)⟩
/-- the program's cells, and the law's own, stay -/
def kp (h h' : qH) : Prop := h.1 ≤ h'.1 ∧ ∀ j : Nat, j < 63 ∨ j = 92 → h'.2 j = h.2 j
theorem kp.rf {h : qH} : kp h h := ⟨Nat.le_refl _, fun _ _ => rfl⟩
theorem kp.tr {h h' h'' : qH} (a : kp h h') (b : kp h' h'') : kp h h'' := ⟨Nat.le_trans a.1 b.1, fun j hj => (b.2 j hj).trans (a.2 j hj)⟩
theorem kp.u {h h' : qH} (a : kp h h') {k : Nat} {e : qE} (h1 : 63 ≤ k) (h2 : k ≤ 91) : kp h (h'.1, qup h'.2 k e) := ⟨a.1, fun j hj => (qup_n (by omega)).trans (a.2 j hj)⟩
/-- the end of a step of a question -/
def QP (h h' : qH) (x : Nat → Int32) (F : Nat → Nat → Int32) (E : (Nat → Int32) → (Nat → Int64) → (Nat → Nat → Int32) → (Nat → Nat → Int64) → Prop) : Prop := ∃ (x' : Nat → Int32) (y' : Nat → Int64) (F' : Nat → Nat → Int32) (G' : Nat → Nat → Int64), MX h' x' y' F' G' ∧ mq x x' F F' ∧ kp h h' ∧ E x' y' F' G'
/-- a round in its bounds -/
def ROK (R : RT) : Prop := (R.2.2.2.1 ≤ 10 ∧ R.2.2.2.2.1 ≤ 10 ∧ R.2.2.2.2.2.1 ≤ 20) ∧ (∀ a f : Nat, a < R.2.2.2.1 → f < 10 → ∃ v : Nat, v ≤ fmost f ∧ R.1 (a * 10 + f) = nI v) ∧ (∃ pf vf rf : Nat → Nat, isP R.2.1 R.2.2.2.2.1 pf vf rf ∧ (∀ i : Nat, i < R.2.2.2.2.1 → pf i < R.2.2.2.1) ∧ ∀ i j : Nat, i < R.2.2.2.2.1 → j < R.2.2.2.2.1 → pf i = pf j → i = j) ∧ (∃ v : Nat, v ≤ 99 ∧ R.2.2.2.2.2.2.1 = nI v) ∧ (∃ v : Nat, 1 ≤ v ∧ v ≤ 9 ∧ R.2.2.2.2.2.2.2.1 = nI v) ∧ ∃ v : Nat, v ≤ 480 ∧ R.2.2.2.2.2.2.2.2 = nI v
/-- a row of the model's past, or the head of an image: a round -/
def mrow (Z : Nat → Int32) (b : Nat) (R : RT) : Prop := (∀ j : Nat, j < R.2.2.2.1 * 10 → Z (b + j) = R.1 j) ∧ (∀ j : Nat, j < R.2.2.2.2.1 * 3 → Z (b + 100 + j) = R.2.1 j) ∧ Z (b + 130) = nI R.2.2.2.2.1 ∧ Z (b + 131) = R.2.2.2.2.2.2.2.2
/-- the rows of the past, newest last: what undoing brings back -/
def mch (Z : Nat → Int32) (b : Nat) : Nat → RT → Prop
  | 0, _ => True
  | u + 1, R => ∃ R' : RT, rbk R u R' ∧ ROK R' ∧ mrow Z (b + 132 * u) R' ∧ mch Z b u R'
/-- the model holds what the program was told -/
def Rel (S : CS) (x : Nat → Int32) (F : Nat → Nat → Int32) : Prop :=
  (x 2 = nI S.1.2.1 ∧ x 8 = S.1.2.2 ∧ x 19 = nI S.2.1.2.2.2.1 ∧ x 20 = nI S.2.2.2.1.2 ∧ x 21 = S.2.1.2.2.2.2.2.2.1 ∧ x 22 = S.2.1.2.2.2.2.2.2.2.1 ∧ x 23 = S.2.1.2.2.2.2.2.2.2.2 ∧ x 36 = nI S.2.1.2.2.2.2.1 ∧ x 37 = nI S.2.2.2.2.2.1.2.2 ∧ x 62 = nI S.2.1.2.2.2.2.2.1 ∧ x 64 = nI S.2.2.1.2) ∧
  (∀ j : Nat, j < 600 → F 65 j = S.1.1 j &&& 255) ∧
  (ag (S.2.1.2.2.2.1 * 10) (F 67) S.2.1.1 ∧ ag (S.2.2.2.1.2 * 4) (F 69) S.2.2.2.1.1 ∧ ag (S.2.1.2.2.2.2.1 * 3) (F 78) S.2.1.2.1) ∧
  ((F 74 0 = nI S.2.2.2.2.1.1.2.2 ∧ ag S.2.2.2.2.1.1.2.2 (F 72) S.2.2.2.2.1.1.1 ∧ ag S.2.2.2.2.1.1.2.2 (F 73) S.2.2.2.2.1.1.2.1) ∧ (F 74 1 = nI S.2.2.2.2.1.2.2.2 ∧ ag S.2.2.2.2.1.2.2.2 (fun j => F 72 (150 + j)) S.2.2.2.2.1.2.1 ∧ ag S.2.2.2.2.1.2.2.2 (fun j => F 73 (150 + j)) S.2.2.2.2.1.2.2.1)) ∧
  (∀ j : Nat, j < S.2.2.2.2.2.1.2.2 → F 80 (2 * j) = S.2.2.2.2.2.1.1 j ∧ F 80 (2 * j + 1) = S.2.2.2.2.2.1.2.1 j) ∧
  (F 64 0 = S.2.2.2.2.2.2.1 ∧ F 64 1 = S.2.2.2.2.2.2.2.1 ∧ F 64 2 = S.2.2.2.2.2.2.2.2) ∧
  mch (F 90) 0 S.2.1.2.2.2.2.2.1 S.2.1 ∧
  ∀ q : Nat, q < S.2.2.1.2 → mrow (F 91) (2773 * q) (S.2.2.1.1 q) ∧ F 91 (2773 * q + 132) = nI (S.2.2.1.1 q).2.2.2.2.2.1 ∧ mch (F 91) (2773 * q + 133) (S.2.2.1.1 q).2.2.2.2.2.1 (S.2.2.1.1 q)
theorem Rel.mq {S : CS} {x x' : Nat → Int32} {F F' : Nat → Nat → Int32} (hR : Rel S x F) (a : mq x x' F F') : Rel S x' F' := by
  obtain ⟨⟨h2, h8, h19, h20, h21, h22, h23, h36, h37, h62, h64⟩, hb, hd, hl, hy, hr, hc, hi⟩ := hR
  have e := fun k hk => a.1 k hk
  have f := fun k hk => a.2 k hk
  unfold Rel
  rw [e 2 (by decide), e 8 (by decide), e 19 (by decide), e 20 (by decide), e 21 (by decide), e 22 (by decide), e 23 (by decide), e 36 (by decide), e 37 (by decide), e 62 (by decide), e 64 (by decide), f 64 (by decide), f 65 (by decide), f 67 (by decide), f 69 (by decide), f 72 (by decide), f 73 (by decide), f 74 (by decide), f 78 (by decide), f 80 (by decide), f 90 (by decide), f 91 (by decide)]
  exact ⟨⟨h2, h8, h19, h20, h21, h22, h23, h36, h37, h62, h64⟩, hb, hd, hl, hy, hr, hc, hi⟩
theorem Rel.t {S : CS} {x : Nat → Int32} {F : Nat → Nat → Int32} (hR : Rel S x F) (v : Int32) : Rel S (upd x 0 v) F := hR
/-- what always holds of what was told -/
def INV (S : CS) : Prop := S.1.2.1 ≤ 600 ∧ ROK S.2.1 ∧ (S.2.2.2.1.2 ≤ 8 ∧ ∀ a : Nat, a < S.2.2.2.1.2 → (∃ v : Nat, v ≤ 99 ∧ S.2.2.2.1.1 (a * 4 + 0) = nI v) ∧ (∃ v : Nat, v ≤ 3 ∧ S.2.2.2.1.1 (a * 4 + 1) = nI v) ∧ (S.2.2.2.1.1 (a * 4 + 2) = -1 ∨ ∃ v : Nat, v ≤ 480 ∧ S.2.2.2.1.1 (a * 4 + 2) = nI v) ∧ ∃ v : Nat, v ≤ 9 ∧ S.2.2.2.1.1 (a * 4 + 3) = nI v) ∧ (lwf S.2.2.2.2.1.1 ∧ lwf S.2.2.2.2.1.2) ∧ S.2.2.2.2.2.1.2.2 ≤ 8 ∧ S.2.2.1.2 ≤ 3 ∧ ∀ q : Nat, q < S.2.2.1.2 → ROK (S.2.2.1.1 q) ∧ (S.2.2.1.1 q).2.2.2.1 = S.2.1.2.2.2.1 ∧ (S.2.2.1.1 q).2.2.2.2.2.2.1 = S.2.1.2.2.2.2.2.2.1 ∧ (S.2.2.1.1 q).2.2.2.2.2.2.2.1 = S.2.1.2.2.2.2.2.2.2.1
/-- the fields of the model, as a list -/
def M63l (x : Nat → Int32) (y : Nat → Int64) : List Value := [.int (x 0), .ref 64, .int (x 2), .int (x 3), .int (x 4), .int (x 5), .int (x 6), .int (x 7), .int (x 8), .ref 65, .ref 66, .ref 67, .ref 68, .ref 69, .int (x 14), .int (x 15), .int (x 16), .int (x 17), .int (x 18), .int (x 19), .int (x 20), .int (x 21), .int (x 22), .int (x 23), .ref 70, .ref 71, .ref 72, .ref 73, .ref 74, .ref 75, .int (x 30), .ref 76, .ref 77, .ref 78, .ref 79, .ref 80, .int (x 36), .int (x 37), .long (y 38), .long (y 39), .long (y 40), .long (y 41), .int (x 42), .ref 81, .ref 82, .ref 83, .ref 84, .ref 85, .ref 86, .long (y 49), .int (x 50), .long (y 51), .long (y 52), .int (x 53), .long (y 54), .ref 87, .ref 88, .int (x 57), .ref 89, .int (x 59), .int (x 60), .ref 90, .int (x 62), .ref 91, .int (x 64)]
theorem sI_0 {L : List Value} {x : Nat → Int32} {y : Nat → Int64} {v : Int32} (e : L = M63l x y) : L.set 0 (.int v) = M63l (upd x 0 v) y := by
  rw [e]; rfl
theorem sI_2 {L : List Value} {x : Nat → Int32} {y : Nat → Int64} {v : Int32} (e : L = M63l x y) : L.set 2 (.int v) = M63l (upd x 2 v) y := by
  rw [e]; rfl
theorem sI_3 {L : List Value} {x : Nat → Int32} {y : Nat → Int64} {v : Int32} (e : L = M63l x y) : L.set 3 (.int v) = M63l (upd x 3 v) y := by
  rw [e]; rfl
theorem sI_4 {L : List Value} {x : Nat → Int32} {y : Nat → Int64} {v : Int32} (e : L = M63l x y) : L.set 4 (.int v) = M63l (upd x 4 v) y := by
  rw [e]; rfl
theorem sI_5 {L : List Value} {x : Nat → Int32} {y : Nat → Int64} {v : Int32} (e : L = M63l x y) : L.set 5 (.int v) = M63l (upd x 5 v) y := by
  rw [e]; rfl
theorem sI_6 {L : List Value} {x : Nat → Int32} {y : Nat → Int64} {v : Int32} (e : L = M63l x y) : L.set 6 (.int v) = M63l (upd x 6 v) y := by
  rw [e]; rfl
theorem sI_7 {L : List Value} {x : Nat → Int32} {y : Nat → Int64} {v : Int32} (e : L = M63l x y) : L.set 7 (.int v) = M63l (upd x 7 v) y := by
  rw [e]; rfl
theorem sI_8 {L : List Value} {x : Nat → Int32} {y : Nat → Int64} {v : Int32} (e : L = M63l x y) : L.set 8 (.int v) = M63l (upd x 8 v) y := by
  rw [e]; rfl
theorem sI_14 {L : List Value} {x : Nat → Int32} {y : Nat → Int64} {v : Int32} (e : L = M63l x y) : L.set 14 (.int v) = M63l (upd x 14 v) y := by
  rw [e]; rfl
theorem sI_15 {L : List Value} {x : Nat → Int32} {y : Nat → Int64} {v : Int32} (e : L = M63l x y) : L.set 15 (.int v) = M63l (upd x 15 v) y := by
  rw [e]; rfl
theorem sI_16 {L : List Value} {x : Nat → Int32} {y : Nat → Int64} {v : Int32} (e : L = M63l x y) : L.set 16 (.int v) = M63l (upd x 16 v) y := by
  rw [e]; rfl
theorem sI_17 {L : List Value} {x : Nat → Int32} {y : Nat → Int64} {v : Int32} (e : L = M63l x y) : L.set 17 (.int v) = M63l (upd x 17 v) y := by
  rw [e]; rfl
theorem sI_18 {L : List Value} {x : Nat → Int32} {y : Nat → Int64} {v : Int32} (e : L = M63l x y) : L.set 18 (.int v) = M63l (upd x 18 v) y := by
  rw [e]; rfl
theorem sI_19 {L : List Value} {x : Nat → Int32} {y : Nat → Int64} {v : Int32} (e : L = M63l x y) : L.set 19 (.int v) = M63l (upd x 19 v) y := by
  rw [e]; rfl
theorem sI_20 {L : List Value} {x : Nat → Int32} {y : Nat → Int64} {v : Int32} (e : L = M63l x y) : L.set 20 (.int v) = M63l (upd x 20 v) y := by
  rw [e]; rfl
theorem sI_21 {L : List Value} {x : Nat → Int32} {y : Nat → Int64} {v : Int32} (e : L = M63l x y) : L.set 21 (.int v) = M63l (upd x 21 v) y := by
  rw [e]; rfl
theorem sI_22 {L : List Value} {x : Nat → Int32} {y : Nat → Int64} {v : Int32} (e : L = M63l x y) : L.set 22 (.int v) = M63l (upd x 22 v) y := by
  rw [e]; rfl
theorem sI_23 {L : List Value} {x : Nat → Int32} {y : Nat → Int64} {v : Int32} (e : L = M63l x y) : L.set 23 (.int v) = M63l (upd x 23 v) y := by
  rw [e]; rfl
theorem sI_30 {L : List Value} {x : Nat → Int32} {y : Nat → Int64} {v : Int32} (e : L = M63l x y) : L.set 30 (.int v) = M63l (upd x 30 v) y := by
  rw [e]; rfl
theorem sI_36 {L : List Value} {x : Nat → Int32} {y : Nat → Int64} {v : Int32} (e : L = M63l x y) : L.set 36 (.int v) = M63l (upd x 36 v) y := by
  rw [e]; rfl
theorem sI_37 {L : List Value} {x : Nat → Int32} {y : Nat → Int64} {v : Int32} (e : L = M63l x y) : L.set 37 (.int v) = M63l (upd x 37 v) y := by
  rw [e]; rfl
theorem sL_38 {L : List Value} {x : Nat → Int32} {y : Nat → Int64} {v : Int64} (e : L = M63l x y) : L.set 38 (.long v) = M63l x (updL y 38 v) := by
  rw [e]; rfl
theorem sL_39 {L : List Value} {x : Nat → Int32} {y : Nat → Int64} {v : Int64} (e : L = M63l x y) : L.set 39 (.long v) = M63l x (updL y 39 v) := by
  rw [e]; rfl
theorem sL_40 {L : List Value} {x : Nat → Int32} {y : Nat → Int64} {v : Int64} (e : L = M63l x y) : L.set 40 (.long v) = M63l x (updL y 40 v) := by
  rw [e]; rfl
theorem sL_41 {L : List Value} {x : Nat → Int32} {y : Nat → Int64} {v : Int64} (e : L = M63l x y) : L.set 41 (.long v) = M63l x (updL y 41 v) := by
  rw [e]; rfl
theorem sI_42 {L : List Value} {x : Nat → Int32} {y : Nat → Int64} {v : Int32} (e : L = M63l x y) : L.set 42 (.int v) = M63l (upd x 42 v) y := by
  rw [e]; rfl
theorem sL_49 {L : List Value} {x : Nat → Int32} {y : Nat → Int64} {v : Int64} (e : L = M63l x y) : L.set 49 (.long v) = M63l x (updL y 49 v) := by
  rw [e]; rfl
theorem sI_50 {L : List Value} {x : Nat → Int32} {y : Nat → Int64} {v : Int32} (e : L = M63l x y) : L.set 50 (.int v) = M63l (upd x 50 v) y := by
  rw [e]; rfl
theorem sL_51 {L : List Value} {x : Nat → Int32} {y : Nat → Int64} {v : Int64} (e : L = M63l x y) : L.set 51 (.long v) = M63l x (updL y 51 v) := by
  rw [e]; rfl
theorem sL_52 {L : List Value} {x : Nat → Int32} {y : Nat → Int64} {v : Int64} (e : L = M63l x y) : L.set 52 (.long v) = M63l x (updL y 52 v) := by
  rw [e]; rfl
theorem sI_53 {L : List Value} {x : Nat → Int32} {y : Nat → Int64} {v : Int32} (e : L = M63l x y) : L.set 53 (.int v) = M63l (upd x 53 v) y := by
  rw [e]; rfl
theorem sL_54 {L : List Value} {x : Nat → Int32} {y : Nat → Int64} {v : Int64} (e : L = M63l x y) : L.set 54 (.long v) = M63l x (updL y 54 v) := by
  rw [e]; rfl
theorem sI_57 {L : List Value} {x : Nat → Int32} {y : Nat → Int64} {v : Int32} (e : L = M63l x y) : L.set 57 (.int v) = M63l (upd x 57 v) y := by
  rw [e]; rfl
theorem sI_59 {L : List Value} {x : Nat → Int32} {y : Nat → Int64} {v : Int32} (e : L = M63l x y) : L.set 59 (.int v) = M63l (upd x 59 v) y := by
  rw [e]; rfl
theorem sI_60 {L : List Value} {x : Nat → Int32} {y : Nat → Int64} {v : Int32} (e : L = M63l x y) : L.set 60 (.int v) = M63l (upd x 60 v) y := by
  rw [e]; rfl
theorem sI_62 {L : List Value} {x : Nat → Int32} {y : Nat → Int64} {v : Int32} (e : L = M63l x y) : L.set 62 (.int v) = M63l (upd x 62 v) y := by
  rw [e]; rfl
theorem sI_64 {L : List Value} {x : Nat → Int32} {y : Nat → Int64} {v : Int32} (e : L = M63l x y) : L.set 64 (.int v) = M63l (upd x 64 v) y := by
  rw [e]; rfl
theorem MX.e63 {h : qH} {x : Nat → Int32} {y : Nat → Int64} {F : Nat → Nat → Int32} {G : Nat → Nat → Int64} (hM : MX h x y F G) {n : Nat} {f : Nat → Option qE} {L : List Value} {x' : Nat → Int32} {y' : Nat → Int64} (h1 : f 63 = some (.inl (12, L))) (h2 : ∀ j : Nat, j ≠ 63 → f j = h.2 j) (e : L = M63l x' y') : MX (n, f) x' y' F G := ⟨h1.trans (by rw [e]; rfl), fun j a b => (h2 j (by omega)).trans (hM.2 j a b)⟩
theorem MX.p63 {h : qH} {x : Nat → Int32} {y : Nat → Int64} {F : Nat → Nat → Int32} {G : Nat → Nat → Int64} (hM : MX h x y F G) {L : List Value} {x' : Nat → Int32} {y' : Nat → Int64} (e : L = M63l x' y') : MX (h.1, qup h.2 63 (.inl (12, L))) x' y' F G := hM.e63 rfl (fun j hj => qup_n hj) e
end Q11A
