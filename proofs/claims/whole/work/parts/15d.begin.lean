section Q15D
/-- the model's rows behind its constructor -/
def F0i : Nat → Nat → Int32 := fun j => if j = 67 then cp z0 z0 100 else if j = 69 then cp z0 z0 32 else if j = 74 then upd (upd z0 0 0) 1 0 else z0
def G0i : Nat → Nat → Int64 := fun _ _ => 0
theorem INV0 : INV S0 := ⟨Nat.zero_le _, ⟨⟨Nat.zero_le _, Nat.zero_le _, Nat.zero_le _⟩, fun a f ha => absurd ha (Nat.not_lt_zero a), ⟨fun _ => 0, fun _ => 0, fun _ => 0, fun i hi => absurd hi (Nat.not_lt_zero i), fun i hi => absurd hi (Nat.not_lt_zero i), fun i j hi => absurd hi (Nat.not_lt_zero i)⟩, ⟨0, by decide, rfl⟩, ⟨2, by decide, by decide, rfl⟩, ⟨120, by decide, rfl⟩⟩, ⟨Nat.zero_le _, fun a ha => absurd ha (Nat.not_lt_zero a)⟩, ⟨⟨Nat.zero_le _, fun q => absurd rfl q⟩, Nat.zero_le _, fun q => absurd rfl q⟩, Nat.zero_le _, Nat.zero_le _, fun q hq => absurd hq (Nat.not_lt_zero q)⟩
theorem Rel0 {x : Nat → Int32} (e2 : x 2 = 0) (e8 : x 8 = -1) (e19 : x 19 = 0) (e20 : x 20 = 0) (e21 : x 21 = 0) (e22 : x 22 = 2) (e23 : x 23 = 120) (e36 : x 36 = 0) (e37 : x 37 = 0) (e62 : x 62 = 0) (e64 : x 64 = 0) : Rel S0 x F0i := by
  have ag0 : ∀ f g : Nat → Int32, ag 0 f g := fun f g j hj => absurd hj (Nat.not_lt_zero j)
  exact ⟨⟨e2, e8, e19, e20, e21, e22, e23, e36, e37, e62, e64⟩, fun j _ => (by decide : (0 : Int32) = 0 &&& 255), ⟨ag0 _ _, ag0 _ _, ag0 _ _⟩, ⟨⟨rfl, ag0 _ _, ag0 _ _⟩, ⟨rfl, ag0 _ _, ag0 _ _⟩⟩, fun j hj => absurd hj (Nat.not_lt_zero j), ⟨rfl, rfl, rfl⟩, trivial, fun q hq => absurd hq (Nat.not_lt_zero q)⟩
set_option maxHeartbeats 2000000 in
theorem main_run {g : qG} {run : qK0} (M : mStep g run) (B : mBund g) (hAO : va_AO "CarolDoors$Round" g.2.1) {n : Nat} {xs : Nat → Int32} (hS : qScr g .int 0 n xs) (hn : n ≤ 3072) (hend : ∀ (L : List (Nat × Value)) (h : qH) (cu su : Nat), cu ≤ 60000 → su ≤ 400000 → run 2891 L [.int 1] h cu su) : run 0 [(0, .retAddr 0)] [] (0, fun _ => none) 0 0 := by
  refine M.1 _ _ _ _ _ _ _ sgL_law__0_ok ?_
  refine ⟨by omega, by omega, rfl, ?_⟩
  refine Or.inl ⟨rfl, _, 3, 62, 3671, _, Or.inl qi_13_129, ⟨rfl, rfl⟩, (qnum_rec (by decide) (by omega) (by omega) rfl), rfl, I_all B.1 hAO (f := qup (fun _ => none) 0 (.inl (11, qdef 11 17))) qup_s, fun y1 h1 hy1 => ?_⟩
  obtain ⟨rfl, e1, hC⟩ := hy1
  obtain ⟨n1, f1⟩ := h1
  have e1 : n1 = 63 := e1
  subst e1
  refine ⟨by omega, by omega, rfl, ?_⟩
  refine Or.inl ⟨rfl, _, 3, 28, 105729, _, Or.inl qi_13_132, ⟨rfl, rfl⟩, (qnum_rec (by decide) (by omega) (by omega) rfl), rfl, M_init B.1 (f := qup f1 63 (.inl (12, qdef 12 65))) qup_s, fun y2 h2 hy2 => ?_⟩
  obtain ⟨rfl, e2, x', h63, ⟨hlo, h64, h65, h66, h67, h68, h69, h70, h71, h72, h73, h74, h75, h76, h77, h78, h79, h80, h81, h82, h83, h84, h85, h86, h87, h88, h89, h90, h91⟩, x19, x20, x21, x22, x23, x36, x37, x62, x64, hx⟩ := hy2
  obtain ⟨n2, f2⟩ := h2
  have e2 : n2 = 92 := e2
  subst e2
  refine ⟨.long, 1, rfl, Or.inr (Or.inr (Or.inr rfl)), by decide, rfl, by decide, by omega, by omega, ?_⟩
  have hq : LQ (93, qup f2 92 (qarr .long 1)) := by
    refine ⟨S0, x', fun _ => 0, F0i, G0i, fun _ => 0, hC.cg (fun j hj => ?_), ⟨(qup_n (f := f2) (k := 92) (j := 63) (e := qarr .long 1) (by decide)).trans h63, fun j hj1 hj2 => ?_⟩, ?_, INV0, (show qup f2 92 (aL 1 (fun _ => 0)) 92 = some (aL 1 fun _ => 0) from qup_s), Nat.le_refl _⟩
    · exact ((qup_n (by omega)).trans (hlo j hj)).trans (qup_n (by omega))
    · refine (qup_n (by omega)).trans ?_
      have hj : j = 64 ∨ j = 65 ∨ j = 66 ∨ j = 67 ∨ j = 68 ∨ j = 69 ∨ j = 70 ∨ j = 71 ∨ j = 72 ∨ j = 73 ∨ j = 74 ∨ j = 75 ∨ j = 76 ∨ j = 77 ∨ j = 78 ∨ j = 79 ∨ j = 80 ∨ j = 81 ∨ j = 82 ∨ j = 83 ∨ j = 84 ∨ j = 85 ∨ j = 86 ∨ j = 87 ∨ j = 88 ∨ j = 89 ∨ j = 90 ∨ j = 91 := by omega
      rcases hj with rfl | rfl | rfl | rfl | rfl | rfl | rfl | rfl | rfl | rfl | rfl | rfl | rfl | rfl | rfl | rfl | rfl | rfl | rfl | rfl | rfl | rfl | rfl | rfl | rfl | rfl | rfl | rfl
      · exact h64
      · exact h65
      · exact h66
      · exact h67
      · exact h68
      · exact h69
      · exact h70
      · exact h71
      · exact h72
      · exact h73
      · exact h74
      · exact h75
      · exact h76
      · exact h77
      · exact h78
      · exact h79
      · exact h80
      · exact h81
      · exact h82
      · exact h83
      · exact h84
      · exact h85
      · exact h86
      · exact h87
      · exact h88
      · exact h89
      · exact h90
      · exact h91
    · refine Rel0 ((hx 2 (by decide)).trans rfl) ((hx 8 (by decide)).trans rfl) x19 x20 x21 x22 x23 x36 x37 x62 x64
  exact main_loop M B hS hn hend 512 0 hq (by omega) (Nat.zero_le _) (by omega) (by omega)
end Q15D
