section Q14D
/-- between two calls: both objects hold what was told, and the law's row -/
def LI (h : qH) (S : CS) (x : Nat → Int32) (y : Nat → Int64) (F : Nat → Nat → Int32) (G : Nat → Nat → Int64) (u : Nat → Int64) : Prop := CH h S ∧ MX h x y F G ∧ Rel S x F ∧ INV S ∧ h.2 92 = some (aL 1 u) ∧ 93 ≤ h.1
/-- behind the model's call: what was thrown there; the answers are one -/
def LA (h : qH) (k : Int32) (v : Int64) : Prop := ∃ (S : CS) (x : Nat → Int32) (y : Nat → Int64) (F : Nat → Nat → Int32) (G : Nat → Nat → Int64) (u : Nat → Int64), LI h S x y F G u ∧ x 0 = k ∧ (k = 0 → u 0 = v)
theorem CH.cg {h h' : qH} {S : CS} (hC : CH h S) (hh : ∀ j : Nat, j < 63 → h'.2 j = h.2 j) : CH h' S := fun j hj => by
  obtain ⟨e, h1, h2⟩ := hC j hj
  exact ⟨e, (hh j hj).trans h1, h2⟩
theorem MX.cg {h h' : qH} {x : Nat → Int32} {y : Nat → Int64} {F : Nat → Nat → Int32} {G : Nat → Nat → Int64} (hM : MX h x y F G) (hh : ∀ j : Nat, 63 ≤ j → j ≤ 91 → h'.2 j = h.2 j) : MX h' x y F G := ⟨(hh 63 (by decide) (by decide)).trans hM.1, fun j h1 h2 => (hh j (by omega) h2).trans (hM.2 j h1 h2)⟩
theorem INV.bump {S : CS} (hI : INV S) (k : Nat) : INV (bump S k) := hI
theorem LA.g {h1 h2 : qH} {S' : CS} {u' : Nat → Int64} {v : Int64} (hC : CH h1 S') (hI : INV S') (hu : h1.2 92 = some (aL 1 u')) (h93 : 93 ≤ h1.1) (hG : MG h1 h2 S') (hv : u' 0 = v) : LA h2 0 v := by
  obtain ⟨x, y, F, G, g1, g2, g3, g4⟩ := hG
  exact ⟨S', x, y, F, G, u', ⟨hC.cg (fun j hj => g2.2 j (Or.inl hj)), g1, g3, hI, (g2.2 92 (Or.inr rfl)).trans hu, Nat.le_trans h93 g2.1⟩, g4, fun _ => hv⟩
theorem LA.b {h1 h2 : qH} {S : CS} {u' : Nat → Int64} {j : Nat} {c : Int32} {v : Int64} (hC : CH h1 (bump S j)) (hI : INV S) (hu : h1.2 92 = some (aL 1 u')) (h93 : 93 ≤ h1.1) (hG : mbad h1 h2 S j c) (hc : ¬ c = 0) : LA h2 c v := by
  obtain ⟨x, y, F, G, g1, g2, g3, g4⟩ := hG
  exact ⟨bump S j, x, y, F, G, u', ⟨hC.cg (fun j hj => g2.2 j (Or.inl hj)), g1, g3, hI.bump j, (g2.2 92 (Or.inr rfl)).trans hu, Nat.le_trans h93 g2.1⟩, g4, fun q => absurd q hc⟩
/-- behind a call that was answered, ahead of the model's -/
def MidG (h1 : qH) (x : Nat → Int32) (y : Nat → Int64) (F : Nat → Nat → Int32) (G : Nat → Nat → Int64) (Kg : Value → CS → Prop) (lv : Value → Int64) (k : Int32) : Prop := k = 0 ∧ ∃ (z : Value) (S' : CS) (u' : Nat → Int64), Kg z S' ∧ CH h1 S' ∧ MX h1 x y F G ∧ h1.2 92 = some (aL 1 u') ∧ u' 0 = lv z ∧ 93 ≤ h1.1
/-- behind one that was refused -/
def MidB (h1 : qH) (S : CS) (x : Nat → Int32) (y : Nat → Int64) (F : Nat → Nat → Int32) (G : Nat → Nat → Int64) (Qx : Nat → Prop) (ps : Nat → Int32) (k : Int32) : Prop := ∃ (j : Nat) (u' : Nat → Int64), k = ps j ∧ Qx j ∧ CH h1 (bump S j) ∧ MX h1 x y F G ∧ h1.2 92 = some (aL 1 u') ∧ 93 ≤ h1.1
def lvi (v : Value) : Int64 := match v with
  | .int z => z.toInt64
  | .long z => z
  | _ => 0
theorem exN_inj {j k : Nat} (hj : j < 3) (hk : k < 3) (h : exN j = exN k) : j = k := by
  match j, hj, k, hk with
  | 0, _, 0, _ => rfl
  | 1, _, 1, _ => rfl
  | 2, _, 2, _ => rfl
  | 0, _, 1, _ => exact absurd h (by decide)
  | 0, _, 2, _ => exact absurd h (by decide)
  | 1, _, 0, _ => exact absurd h (by decide)
  | 1, _, 2, _ => exact absurd h (by decide)
  | 2, _, 0, _ => exact absurd h (by decide)
  | 2, _, 1, _ => exact absurd h (by decide)
theorem qSpecW_mono {g : qG} {d mc ms : Nat} {q : qWr} {avs : List Value} {h : qH} {P Q : Option Value → qH → Prop} (hS : qSpecW g d mc ms q avs h P) (hPQ : ∀ v h', P v h' → Q v h') : qSpecW g d mc ms q avs h Q := by
  intro p e ha hc hk s m args below hf happ hP hK
  obtain ⟨n, o, h1, h2, h3, ⟨v, h', hv, hp, hH⟩, h5⟩ := hS p e ha hc hk s m args below hf happ hP hK
  exact ⟨n, o, h1, h2, h3, ⟨v, h', hv, hPQ v h' hp, hH⟩, h5⟩
section
variable {h : qH} {S : CS} {x : Nat → Int32} {y : Nat → Int64} {F : Nat → Nat → Int32} {G : Nat → Nat → Int64} {u : Nat → Int64}
/-- the program's answer, put into the law's row -/
theorem mid_g (hL : LI h S x y F G u) {Kg : Value → CS → Prop} {z : Value} {S' : CS} {h1 : qH} (hk : Kg z S') (hC : CH h1 S') (hg : gro h h1) {w : Int64} (hw : w = lvi z) : MidG (h1.1, qup h1.2 92 (.inr (.inr (.inl (1, vp_updL u 0 w))))) x y F G Kg lvi 0 := by
  obtain ⟨-, hM, -, -, hu, h93⟩ := hL
  exact ⟨rfl, z, S', vp_updL u 0 w, hk, hC.cg (fun j hj => qup_n (by omega)), hM.cg (fun j h2 h3 => (qup_n (by omega)).trans (hg.2 j h2)), (show qup h1.2 92 (aL 1 (vp_updL u 0 w)) 92 = some (aL 1 (vp_updL u 0 w)) from qup_s), (if_pos rfl).trans hw, Nat.le_trans h93 hg.1⟩
theorem mid_b (hL : LI h S x y F G u) {Qx : Nat → Prop} {ps : Nat → Int32} {h1 : qH} {k : Nat} (hk : k < 3) (hq : ∀ j : Nat, Qx j → j < 3) (hx : TX h S Qx (exN k) h1) : MidB h1 S x y F G Qx ps (ps k) := by
  obtain ⟨-, hM, -, -, hu, h93⟩ := hL
  obtain ⟨j, h2, h3, h4, h5⟩ := hx
  obtain rfl := exN_inj hk (hq j h3) h2
  exact ⟨k, u, rfl, h3, h4, hM.cg (fun j h6 _ => h5.2 j h6), (h5.2 92 (by decide)).trans hu, Nat.le_trans h93 h5.1⟩
theorem gro.u92 {h1 : qH} (hu : h.2 92 = some (aL 1 u)) (hg : gro h h1) : h1.2 92 = some (aL 1 u) := (hg.2 92 (by decide)).trans hu
end
theorem wi_dn {N a : Nat} (hN : N ≤ 10) (ha : a < N) : wi 0 (nI N - 1) (nI a) = true := by
  obtain ⟨n, rfl⟩ : ∃ n : Nat, N = n + 1 := ⟨N - 1, by omega⟩
  rw [nI_pred]
  show (decide ((0 : Int32) ≤ nI a) && decide (nI a ≤ nI n)) = true
  rw [decide_eq_true (nI_pos' (by omega)), decide_eq_true (nI_le (by omega) (by omega))]
  rfl
theorem wi_mn {m a : Nat} (hm : m < 2 ^ 20) (ha : a ≤ m) : wi 0 (nI m) (nI a) = true := by
  show (decide ((0 : Int32) ≤ nI a) && decide (nI a ≤ nI m)) = true
  rw [decide_eq_true (nI_pos' (by omega)), decide_eq_true (nI_le (by omega) (by omega))]
  rfl
def isK (t : Option FieldType) (b : Value) : Bool := match t, b with
  | some .long, .long _ => true
  | some .long, _ => false
  | _, .int _ => true
  | _, _ => false
theorem mid63 {h1 : qH} {S : CS} {x : Nat → Int32} {y : Nat → Int64} {F : Nat → Nat → Int32} {G : Nat → Nat → Int64} {Kg : Value → CS → Prop} {lv : Value → Int64} {k k' : Int32} {Qx : Nat → Prop} {ps : Nat → Int32} (hm : MidG h1 x y F G Kg lv k ∨ MidB h1 S x y F G Qx ps k') : ∃ fs : List Value, h1.2 63 = some (.inl (12, fs)) := by
  rcases hm with ⟨-, z, S', u', -, -, hM, -⟩ | ⟨j, u', -, -, -, hM, -⟩
  · exact ⟨_, hM.1⟩
  · exact ⟨_, hM.1⟩
def PR (g : qG) (h : qH) (wq : qWr) (mq : qMr) (ints : List Value) (d d2 mc2 ms2 : Nat) : Prop := ∃ Mid : qH → Int32 → Prop, (∀ (h1 : qH) (k : Int32), Mid h1 k → ∃ fs : List Value, h1.2 63 = some (.inl (12, fs))) ∧ qSpecW g d 4 24 wq (.ref 0 :: (ints ++ [.ref 92])) h (fun r h1 => ∃ k : Int32, r = some (.int k) ∧ Mid h1 k) ∧ ∀ (h1 : qH) (k : Int32), Mid h1 k → qSpec g d2 mc2 ms2 mq (.ref 63 :: ints) h1 (fun r h2 => ∃ b : Value, r = some b ∧ isK mq.2.2.2.1 b = true ∧ LA h2 k (lvi b))
end Q14D
