section QU
variable {g : qG} {p : Program} {e : Env} {s : State} {m : MethodId} {args : Array Value} {below : List Frame} {meth : Method} {c : Code} {nL : Nat} {Z : State → Prop} {nm : String} {cc : ByteArray} {ret : Option FieldType} {ow d mc ms : Nat} {P : Option Value → qH → Prop} {ini : Bool}
/-- a stretch, from its beginning: what is left is its weakest condition -/
theorem q_seg (X : qCtx g p s m meth c (qown ow) nm cc nL ret) (hZ : qEnd g p e (qRoom d mc ms) s m args below meth c mc ms P Z) (hin : ini = true → nm = "<init>") (sg : List qEl) {pc : Nat} {L : List (Nat × Value)} {st : List Value} {h : qH} {cu su : Nat} (hs : qsg cc ow nL ini pc sg = true) (hw : wpN g ow d mc ms ret P (qThr g p e (qRoom d mc ms) s m args below meth c nL Z) (qRun g p e (qRoom d mc ms) s m args below meth c nL Z) sg pc L st h cu su) : qRun g p e (qRoom d mc ms) s m args below meth c nL Z pc L st h cu su :=
  wpN_ok X hZ hin (fun _ _ _ _ _ _ z => z) (fun _ _ _ _ _ _ z => z) sg hs hw
/-- the same point, written otherwise -/
theorem q_go {R : Room} {pc pc' : Nat} {L L' : List (Nat × Value)} {st st' : List Value} {h : qH} {cu su : Nat} (e1 : pc' = pc) (e2 : L' = L) (e3 : st' = st) (k : qRun g p e R s m args below meth c nL Z pc L st h cu su) : qRun g p e R s m args below meth c nL Z pc' L' st' h cu su := by rw [e1, e2, e3]; exact k
/-- fewer locals, in any order -/
theorem q_sub {R : Room} {pc : Nat} {L L' : List (Nat × Value)} {st : List Value} {h : qH} {cu su : Nat} (hL : ∀ q ∈ L', q ∈ L) (k : qRun g p e R s m args below meth c nL Z pc L' st h cu su) : qRun g p e R s m args below meth c nL Z pc L st h cu su := fun H locs ls a1 a2 a3 =>
  k H locs ls a1 a2 ⟨a3.1, a3.2.1, fun q hq => by
    obtain ⟨x, hx, rfl⟩ := List.mem_map.mp hq
    exact a3.2.2 _ (List.mem_map.mpr ⟨x, hL x hx, rfl⟩)⟩
theorem qSpec_mono {mc ms : Nat} {q : qMr} {avs : List Value} {h : qH} {P Q : Option Value → qH → Prop} (hS : qSpec g d mc ms q avs h P) (hPQ : ∀ v h', P v h' → Q v h') : qSpec g d mc ms q avs h Q := by
  intro p e ha hc hk s m args below hf happ hP hK
  obtain ⟨n, o, h1, h2, h3, ⟨v, h', hv, hp, hH⟩, h5⟩ := hS p e ha hc hk s m args below hf happ hP hK
  exact ⟨n, o, h1, h2, h3, ⟨v, h', hv, hPQ v h' hp, hH⟩, h5⟩
end QU
