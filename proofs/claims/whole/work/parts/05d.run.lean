/-! contracts out of an abstract run: 'step' is all that a proof needs of the machine -/
section QRUN
variable {g : qG} {h : qH} {d mc ms : Nat} {P : Option Value → qH → Prop} {PX : String → qH → Prop}
/-- the rules of an abstract run of the method q: a stretch, and fewer locals -/
def qStep (g : qG) (d mc ms ow : Nat) (q : qMr) (ini : Bool) (P : Option Value → qH → Prop) (KX : Nat → List (Nat × Value) → String → qH → Nat → Nat → Prop) (run : qK0) : Prop :=
  (∀ (sg : List qEl) (pc : Nat) (L : List (Nat × Value)) (st : List Value) (h : qH) (cu su : Nat), qsg q.2.1 ow q.2.2.1 ini pc sg = true → wpN g ow d mc ms q.2.2.2.1 P KX run sg pc L st h cu su → run pc L st h cu su) ∧
  ∀ (pc : Nat) (L L' : List (Nat × Value)) (st : List Value) (h : qH) (cu su : Nat), (∀ x ∈ L', x ∈ L) → run pc L' st h cu su → run pc L st h cu su
theorem qSpec_run {q : qMr} {avs : List Value} (ow : Nat) (nm : String) (ini : Bool) (hg : qOK g) (hq : qMg q) (hnm : q.1.name = nm) (hown : q.1.cls = qown ow) (hsl : (lg_sl avs).length ≤ q.2.2.1) (hin : ini = true → nm = "<init>")
    (body : ∀ run : qK0, qStep g d mc ms ow q ini P (fun _ _ _ _ _ _ => False) run → run 0 (lv_args 0 avs) [] h 0 0) : qSpec g d mc ms q avs h P := by
  refine qSpec_of hg hq hnm hown hsl ?_
  intro p e s m args below meth c X
  exact body _ ⟨fun sg pc L st h cu su h1 h2 => wpN_ok X qEnd_m hin (fun _ _ _ _ _ _ z => z.elim) (fun _ _ _ _ _ _ z => z) sg h1 h2, fun pc L L' st h cu su h1 h2 => q_sub h1 h2⟩
theorem qSpecX_run {q : qMr} {avs : List Value} (ow : Nat) (nm : String) (ini : Bool) (hg : qOK g) (hq : qMg q) (hnm : q.1.name = nm) (hown : q.1.cls = qown ow) (hsl : (lg_sl avs).length ≤ q.2.2.1) (hin : ini = true → nm = "<init>")
    (body : ∀ run : qK0, qStep g d mc ms ow q ini P (fun _ _ E h cu su => PX E h ∧ cu ≤ mc ∧ su ≤ ms) run → run 0 (lv_args 0 avs) [] h 0 0) : qSpecX g d mc ms q avs h P PX := by
  refine qSpecX_of hg hq hnm hown hsl ?_
  intro p e s m args below meth c X ht
  exact body _ ⟨fun sg pc L st h cu su h1 h2 => wpN_ok X qEnd_x hin (fun pc L E h cu su z => qr_out X (fun x hx => (ht x hx).elim) z.1 z.2.1 z.2.2) (fun _ _ _ _ _ _ z => z) sg h1 h2, fun pc L L' st h cu su h1 h2 => q_sub h1 h2⟩
theorem qSpecX_mono {q : qMr} {avs : List Value} {Q : Option Value → qH → Prop} {QX : String → qH → Prop} (hS : qSpecX g d mc ms q avs h P PX) (hPQ : ∀ v h', P v h' → Q v h') (hX : ∀ E h', PX E h' → QX E h') : qSpecX g d mc ms q avs h Q QX := by
  intro p e ha hc hk s m args below hf happ hP hK
  obtain ⟨n, o, h1, h2, h3, h4⟩ := hS p e ha hc hk s m args below hf happ hP hK
  refine ⟨n, o, h1, h2, h3, ?_⟩
  rcases h4 with ⟨⟨v, h', hv, hp, hH⟩, h5⟩ | ⟨q0, h5, E, ce, L, ⟨h', hp, hH⟩, h6⟩
  · exact Or.inl ⟨⟨v, h', hv, hPQ v h' hp, hH⟩, h5⟩
  · exact Or.inr ⟨q0, h5, E, ce, L, ⟨h', hX E h' hp, hH⟩, h6⟩
end QRUN
