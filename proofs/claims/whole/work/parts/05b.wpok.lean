section QV
variable {g : qG} {p : Program} {e : Env} {s : State} {m : MethodId} {args : Array Value} {below : List Frame} {meth : Method} {c : Code} {nL : Nat} {Z : State → Prop} {nm : String} {cc : ByteArray} {ret : Option FieldType} {ow d mc ms : Nat} {P : Option Value → qH → Prop} {ini : Bool} {KN : qN0} {KJ : qK0} {KX : Nat → List (Nat × Value) → String → qH → Nat → Nat → Prop}
theorem q_table (X : qCtx g p s m meth c (qown ow) nm cc nL ret) {dflt lo hi : Int} {offs : Array Int} {len pc : Nat} {L : List (Nat × Value)} {r : List Value} {h : qH} {cu su : Nat} {x : Int32} (hd : decode cc pc = .ok (.tableswitch dflt lo hi offs, len)) (hKJ : ∀ pc L st h cu su, KJ pc L st h cu su → qRun g p e (qRoom d mc ms) s m args below meth c nL Z pc L st h cu su)
    (hw : (x.toInt < lo ∨ hi < x.toInt → ∃ t : Nat, (pc : Int) + dflt = (t : Int) ∧ KJ t L r h cu su) ∧ (∀ j : Nat, ¬ x.toInt < lo → ¬ hi < x.toInt → (x.toInt - lo).toNat = j → ∃ (off : Int) (t : Nat), offs[j]? = some off ∧ (pc : Int) + off = (t : Int) ∧ KJ t L r h cu su)) : qRun g p e (qRoom d mc ms) s m args below meth c nL Z pc L (.int x :: r) h cu su := by
  by_cases h1 : x.toInt < lo
  · obtain ⟨t, ht, hk2⟩ := hw.1 (Or.inl h1)
    exact qr_tableOut X (Or.inl h1) ht hd (hKJ _ _ _ _ _ _ hk2)
  · by_cases h2 : hi < x.toInt
    · obtain ⟨t, ht, hk2⟩ := hw.1 (Or.inr h2)
      exact qr_tableOut X (Or.inr h2) ht hd (hKJ _ _ _ _ _ _ hk2)
    · obtain ⟨off, t, ho, ht, hk2⟩ := hw.2 _ h1 h2 rfl
      exact qr_tableIn X h1 h2 ho ht hd (hKJ _ _ _ _ _ _ hk2)
set_option maxHeartbeats 4000000 in
theorem wp1_ok (X : qCtx g p s m meth c (qown ow) nm cc nL ret) (hZ : qEnd g p e (qRoom d mc ms) s m args below meth c mc ms P Z) (hin : ini = true → nm = "<init>") (hKJ : ∀ pc L st h cu su, KJ pc L st h cu su → qRun g p e (qRoom d mc ms) s m args below meth c nL Z pc L st h cu su) (hKX : ∀ pc L E h cu su, KX pc L E h cu su → qThr g p e (qRoom d mc ms) s m args below meth c nL Z pc L E h cu su) (el : qEl) {pc : Nat} (hKN : ∀ L st h cu su, KN L st h cu su → qRun g p e (qRoom d mc ms) s m args below meth c nL Z (pc + el.2.1) L st h cu su) {L : List (Nat × Value)} {st : List Value} {h : qH} {cu su : Nat} (hd : decode cc pc = .ok (el.1, el.2.1)) (hk : qchk ow nL ini pc el = true) (hw : wp1 g ow d mc ms ret P KN KJ KX el pc L st h cu su) : qRun g p e (qRoom d mc ms) s m args below meth c nL Z pc L st h cu su := by
  obtain ⟨i, len, r1, r2, v, w⟩ := el
  unfold qchk at hk
  unfold wp1 at hw
  dsimp only at hd hk hw hKN
  split at hk
  · dsimp only at hd hw
    obtain ⟨hlen, hk1⟩ := (Bool.and_eq_true _ _).mp hk
    clear hk
    obtain rfl : len = 1 := of_decide_eq_true hlen
    have hk := hk1
    exact qr_iconst X (of_decide_eq_true hk) hd (hKN _ _ _ _ _ hw)
  · dsimp only at hd hw
    obtain ⟨hlen, hk1⟩ := (Bool.and_eq_true _ _).mp hk
    clear hk
    obtain rfl : len = 2 := of_decide_eq_true hlen
    have hk := hk1
    exact qr_bipush X (of_decide_eq_true hk) hd (hKN _ _ _ _ _ hw)
  · dsimp only at hd hw
    obtain ⟨hlen, hk1⟩ := (Bool.and_eq_true _ _).mp hk
    clear hk
    obtain rfl : len = 3 := of_decide_eq_true hlen
    have hk := hk1
    exact qr_sipush X (of_decide_eq_true hk) hd (hKN _ _ _ _ _ hw)
  · dsimp only at hd hw
    obtain ⟨hlen, hk1⟩ := (Bool.and_eq_true _ _).mp hk
    clear hk
    obtain rfl : len = 1 := of_decide_eq_true hlen
    have hk := hk1
    exact qr_lconst X (of_decide_eq_true hk) hd (hKN _ _ _ _ _ hw)
  · dsimp only at hd hw
    obtain rfl : len = 1 := of_decide_eq_true hk
    split at hw
    · rename_i x hx; exact qr_iload_n X hx hd (hKN _ _ _ _ _ hw)
    · exact hw.elim
  · dsimp only at hd hw
    obtain rfl : len = 2 := of_decide_eq_true hk
    split at hw
    · rename_i x hx; exact qr_iload X hx hd (hKN _ _ _ _ _ hw)
    · exact hw.elim
  · dsimp only at hd hw
    obtain rfl : len = 1 := of_decide_eq_true hk
    split at hw
    · rename_i x hx; exact qr_lload_n X hx hd (hKN _ _ _ _ _ hw)
    · exact hw.elim
  · dsimp only at hd hw
    obtain rfl : len = 2 := of_decide_eq_true hk
    split at hw
    · rename_i x hx; exact qr_lload X hx hd (hKN _ _ _ _ _ hw)
    · exact hw.elim
  · dsimp only at hd hw
    obtain rfl : len = 1 := of_decide_eq_true hk
    split at hw
    · rename_i x hx; exact qr_aload_n X hx hd (hKN _ _ _ _ _ hw)
    · rename_i x hx; exact qr_zload_n X hx hd (hKN _ _ _ _ _ hw)
    · rename_i hx; exact qr_nload_n X hx hd (hKN _ _ _ _ _ hw)
    · exact hw.elim
  · dsimp only at hd hw
    obtain rfl : len = 2 := of_decide_eq_true hk
    split at hw
    · rename_i x hx; exact qr_aload X hx hd (hKN _ _ _ _ _ hw)
    · rename_i x hx; exact qr_zload X hx hd (hKN _ _ _ _ _ hw)
    · rename_i hx; exact qr_nload X hx hd (hKN _ _ _ _ _ hw)
    · exact hw.elim
  · dsimp only at hd hw
    obtain ⟨hlen, hk1⟩ := (Bool.and_eq_true _ _).mp hk
    clear hk
    obtain rfl : len = 1 := of_decide_eq_true hlen
    have hk := hk1
    split at hw
    · exact qr_istore_n X (of_decide_eq_true hk) hd (hKN _ _ _ _ _ hw)
    · exact hw.elim
  · dsimp only at hd hw
    obtain ⟨hlen, hk1⟩ := (Bool.and_eq_true _ _).mp hk
    clear hk
    obtain rfl : len = 2 := of_decide_eq_true hlen
    have hk := hk1
    split at hw
    · exact qr_istore X (of_decide_eq_true hk) hd (hKN _ _ _ _ _ hw)
    · exact hw.elim
  · dsimp only at hd hw
    obtain ⟨hlen, hk1⟩ := (Bool.and_eq_true _ _).mp hk
    clear hk
    obtain rfl : len = 1 := of_decide_eq_true hlen
    have hk := hk1
    split at hw
    · exact qr_lstore_n X (of_decide_eq_true hk) hd (hKN _ _ _ _ _ hw)
    · exact hw.elim
  · dsimp only at hd hw
    obtain ⟨hlen, hk1⟩ := (Bool.and_eq_true _ _).mp hk
    clear hk
    obtain rfl : len = 2 := of_decide_eq_true hlen
    have hk := hk1
    split at hw
    · exact qr_lstore X (of_decide_eq_true hk) hd (hKN _ _ _ _ _ hw)
    · exact hw.elim
  · dsimp only at hd hw
    obtain ⟨hlen, hk1⟩ := (Bool.and_eq_true _ _).mp hk
    clear hk
    obtain rfl : len = 1 := of_decide_eq_true hlen
    have hk := hk1
    split at hw
    · exact qr_astore_n X (of_decide_eq_true hk) hd (hKN _ _ _ _ _ hw)
    · exact qr_zstore_n X (of_decide_eq_true hk) hd (hKN _ _ _ _ _ hw)
    · exact qr_nstore_n X (of_decide_eq_true hk) hd (hKN _ _ _ _ _ hw)
    · exact hw.elim
  · dsimp only at hd hw
    obtain ⟨hlen, hk1⟩ := (Bool.and_eq_true _ _).mp hk
    clear hk
    obtain rfl : len = 2 := of_decide_eq_true hlen
    have hk := hk1
    split at hw
    · exact qr_astore X (of_decide_eq_true hk) hd (hKN _ _ _ _ _ hw)
    · exact qr_zstore X (of_decide_eq_true hk) hd (hKN _ _ _ _ _ hw)
    · exact qr_nstore X (of_decide_eq_true hk) hd (hKN _ _ _ _ _ hw)
    · exact hw.elim
  · dsimp only at hd hw
    obtain ⟨hlen, hk1⟩ := (Bool.and_eq_true _ _).mp hk
    clear hk
    obtain rfl : len = 3 := of_decide_eq_true hlen
    have hk := hk1
    simp only [Bool.and_eq_true, decide_eq_true_eq] at hk
    split at hw
    · rename_i x hx; exact qr_iinc X hx hk.2 hk.1 hd (hKN _ _ _ _ _ hw)
    · exact hw.elim
  · dsimp only at hd hw
    obtain rfl : len = 1 := of_decide_eq_true hk
    split at hw
    · exact qr_iadd X hd (hKN _ _ _ _ _ hw)
    · exact hw.elim
  · dsimp only at hd hw
    obtain rfl : len = 1 := of_decide_eq_true hk
    split at hw
    · exact qr_isub X hd (hKN _ _ _ _ _ hw)
    · exact hw.elim
  · dsimp only at hd hw
    obtain rfl : len = 1 := of_decide_eq_true hk
    split at hw
    · exact qr_imul X hd (hKN _ _ _ _ _ hw)
    · exact hw.elim
  · dsimp only at hd hw
    obtain rfl : len = 1 := of_decide_eq_true hk
    split at hw
    · exact qr_iand X hd (hKN _ _ _ _ _ hw)
    · exact hw.elim
  · dsimp only at hd hw
    obtain rfl : len = 1 := of_decide_eq_true hk
    split at hw
    · exact qr_ior X hd (hKN _ _ _ _ _ hw)
    · exact hw.elim
  · dsimp only at hd hw
    obtain rfl : len = 1 := of_decide_eq_true hk
    split at hw
    · exact qr_ixor X hd (hKN _ _ _ _ _ hw)
    · exact hw.elim
  · dsimp only at hd hw
    obtain rfl : len = 1 := of_decide_eq_true hk
    split at hw
    · exact qr_ishl X hd (hKN _ _ _ _ _ hw)
    · exact hw.elim
  · dsimp only at hd hw
    obtain rfl : len = 1 := of_decide_eq_true hk
    split at hw
    · exact qr_ishr X hd (hKN _ _ _ _ _ hw)
    · exact hw.elim
  · dsimp only at hd hw
    obtain rfl : len = 1 := of_decide_eq_true hk
    split at hw
    · exact qr_iushr X hd (hKN _ _ _ _ _ hw)
    · exact hw.elim
  · dsimp only at hd hw
    obtain rfl : len = 1 := of_decide_eq_true hk
    split at hw
    · exact qr_idiv X hw.1 hd (hKN _ _ _ _ _ hw.2)
    · exact hw.elim
  · dsimp only at hd hw
    obtain rfl : len = 1 := of_decide_eq_true hk
    split at hw
    · exact qr_irem X hw.1 hd (hKN _ _ _ _ _ hw.2)
    · exact hw.elim
  · dsimp only at hd hw
    obtain rfl : len = 1 := of_decide_eq_true hk
    split at hw
    · exact qr_ladd X hd (hKN _ _ _ _ _ hw)
    · exact hw.elim
  · dsimp only at hd hw
    obtain rfl : len = 1 := of_decide_eq_true hk
    split at hw
    · exact qr_lsub X hd (hKN _ _ _ _ _ hw)
    · exact hw.elim
  · dsimp only at hd hw
    obtain rfl : len = 1 := of_decide_eq_true hk
    split at hw
    · exact qr_lmul X hd (hKN _ _ _ _ _ hw)
    · exact hw.elim
  · dsimp only at hd hw
    obtain rfl : len = 1 := of_decide_eq_true hk
    split at hw
    · exact qr_ldiv X hw.1 hd (hKN _ _ _ _ _ hw.2)
    · exact hw.elim
  · dsimp only at hd hw
    obtain rfl : len = 1 := of_decide_eq_true hk
    split at hw
    · exact qr_lrem X hw.1 hd (hKN _ _ _ _ _ hw.2)
    · exact hw.elim
  · dsimp only at hd hw
    obtain rfl : len = 1 := of_decide_eq_true hk
    split at hw
    · exact qr_lcmp X hd (hKN _ _ _ _ _ hw)
    · exact hw.elim
  · dsimp only at hd hw
    obtain rfl : len = 1 := of_decide_eq_true hk
    split at hw
    · exact qr_i2l X hd (hKN _ _ _ _ _ hw)
    · exact hw.elim
  · dsimp only at hd hw
    obtain rfl : len = 1 := of_decide_eq_true hk
    split at hw
    · exact qr_i2b X hd (hKN _ _ _ _ _ hw)
    · exact hw.elim
  · dsimp only at hd hw
    obtain rfl : len = 1 := of_decide_eq_true hk
    split at hw
    · exact qr_dup X hw.1 hd (hKN _ _ _ _ _ hw.2)
    · exact hw.elim
  · dsimp only at hd hw
    obtain rfl : len = 1 := of_decide_eq_true hk
    split at hw
    · exact qr_pop X hw.1 hd (hKN _ _ _ _ _ hw.2)
    · exact hw.elim
  · dsimp only at hd hw
    obtain rfl : len = 1 := of_decide_eq_true hk
    split at hw
    · exact qr_dup2 X hw.1.1 hw.1.2 hd (hKN _ _ _ _ _ hw.2)
    · exact hw.elim
  · dsimp only at hd hw
    obtain ⟨hlen, hk1⟩ := (Bool.and_eq_true _ _).mp hk
    clear hk
    obtain rfl : len = 3 := of_decide_eq_true hlen
    have hk := hk1
    exact qr_goto X (of_decide_eq_true hk) hd (hKJ _ _ _ _ _ _ hw)
  · dsimp only at hd hw
    obtain ⟨hlen, hk1⟩ := (Bool.and_eq_true _ _).mp hk
    clear hk
    obtain rfl : len = 3 := of_decide_eq_true hlen
    have hk := hk1
    split at hw
    · exact qr_if_eq X (of_decide_eq_true hk) hd (fun z => hKJ _ _ _ _ _ _ (hw.1 z)) (fun z => hKN _ _ _ _ _ (hw.2 z))
    · exact hw.elim
  · dsimp only at hd hw
    obtain ⟨hlen, hk1⟩ := (Bool.and_eq_true _ _).mp hk
    clear hk
    obtain rfl : len = 3 := of_decide_eq_true hlen
    have hk := hk1
    split at hw
    · exact qr_icmp_eq X (of_decide_eq_true hk) hd (fun z => hKJ _ _ _ _ _ _ (hw.1 z)) (fun z => hKN _ _ _ _ _ (hw.2 z))
    · exact hw.elim
  · dsimp only at hd hw
    obtain ⟨hlen, hk1⟩ := (Bool.and_eq_true _ _).mp hk
    clear hk
    obtain rfl : len = 3 := of_decide_eq_true hlen
    have hk := hk1
    split at hw
    · exact qr_if_ne X (of_decide_eq_true hk) hd (fun z => hKJ _ _ _ _ _ _ (hw.1 z)) (fun z => hKN _ _ _ _ _ (hw.2 z))
    · exact hw.elim
  · dsimp only at hd hw
    obtain ⟨hlen, hk1⟩ := (Bool.and_eq_true _ _).mp hk
    clear hk
    obtain rfl : len = 3 := of_decide_eq_true hlen
    have hk := hk1
    split at hw
    · exact qr_icmp_ne X (of_decide_eq_true hk) hd (fun z => hKJ _ _ _ _ _ _ (hw.1 z)) (fun z => hKN _ _ _ _ _ (hw.2 z))
    · exact hw.elim
  · dsimp only at hd hw
    obtain ⟨hlen, hk1⟩ := (Bool.and_eq_true _ _).mp hk
    clear hk
    obtain rfl : len = 3 := of_decide_eq_true hlen
    have hk := hk1
    split at hw
    · exact qr_if_lt X (of_decide_eq_true hk) hd (fun z => hKJ _ _ _ _ _ _ (hw.1 z)) (fun z => hKN _ _ _ _ _ (hw.2 z))
    · exact hw.elim
  · dsimp only at hd hw
    obtain ⟨hlen, hk1⟩ := (Bool.and_eq_true _ _).mp hk
    clear hk
    obtain rfl : len = 3 := of_decide_eq_true hlen
    have hk := hk1
    split at hw
    · exact qr_icmp_lt X (of_decide_eq_true hk) hd (fun z => hKJ _ _ _ _ _ _ (hw.1 z)) (fun z => hKN _ _ _ _ _ (hw.2 z))
    · exact hw.elim
  · dsimp only at hd hw
    obtain ⟨hlen, hk1⟩ := (Bool.and_eq_true _ _).mp hk
    clear hk
    obtain rfl : len = 3 := of_decide_eq_true hlen
    have hk := hk1
    split at hw
    · exact qr_if_ge X (of_decide_eq_true hk) hd (fun z => hKJ _ _ _ _ _ _ (hw.1 z)) (fun z => hKN _ _ _ _ _ (hw.2 z))
    · exact hw.elim
  · dsimp only at hd hw
    obtain ⟨hlen, hk1⟩ := (Bool.and_eq_true _ _).mp hk
    clear hk
    obtain rfl : len = 3 := of_decide_eq_true hlen
    have hk := hk1
    split at hw
    · exact qr_icmp_ge X (of_decide_eq_true hk) hd (fun z => hKJ _ _ _ _ _ _ (hw.1 z)) (fun z => hKN _ _ _ _ _ (hw.2 z))
    · exact hw.elim
  · dsimp only at hd hw
    obtain ⟨hlen, hk1⟩ := (Bool.and_eq_true _ _).mp hk
    clear hk
    obtain rfl : len = 3 := of_decide_eq_true hlen
    have hk := hk1
    split at hw
    · exact qr_if_gt X (of_decide_eq_true hk) hd (fun z => hKJ _ _ _ _ _ _ (hw.1 z)) (fun z => hKN _ _ _ _ _ (hw.2 z))
    · exact hw.elim
  · dsimp only at hd hw
    obtain ⟨hlen, hk1⟩ := (Bool.and_eq_true _ _).mp hk
    clear hk
    obtain rfl : len = 3 := of_decide_eq_true hlen
    have hk := hk1
    split at hw
    · exact qr_icmp_gt X (of_decide_eq_true hk) hd (fun z => hKJ _ _ _ _ _ _ (hw.1 z)) (fun z => hKN _ _ _ _ _ (hw.2 z))
    · exact hw.elim
  · dsimp only at hd hw
    obtain ⟨hlen, hk1⟩ := (Bool.and_eq_true _ _).mp hk
    clear hk
    obtain rfl : len = 3 := of_decide_eq_true hlen
    have hk := hk1
    split at hw
    · exact qr_if_le X (of_decide_eq_true hk) hd (fun z => hKJ _ _ _ _ _ _ (hw.1 z)) (fun z => hKN _ _ _ _ _ (hw.2 z))
    · exact hw.elim
  · dsimp only at hd hw
    obtain ⟨hlen, hk1⟩ := (Bool.and_eq_true _ _).mp hk
    clear hk
    obtain rfl : len = 3 := of_decide_eq_true hlen
    have hk := hk1
    split at hw
    · exact qr_icmp_le X (of_decide_eq_true hk) hd (fun z => hKJ _ _ _ _ _ _ (hw.1 z)) (fun z => hKN _ _ _ _ _ (hw.2 z))
    · exact hw.elim
  · dsimp only at hd hw
    split at hw
    · exact q_table X hd (fun _ _ _ _ _ _ z => hKJ _ _ _ _ _ _ z) hw
    · exact hw.elim
  · dsimp only at hd hw
    obtain ⟨hlen, hk1⟩ := (Bool.and_eq_true _ _).mp hk
    clear hk
    obtain rfl : len = 2 := of_decide_eq_true hlen
    have hk := hk1
    rcases hw with ⟨-, j, tx, hz, hk2⟩ | ⟨hne, hk2⟩
    · exact qr_ldcS X hz hd (hKN _ _ _ _ _ hk2)
    · rcases (Bool.or_eq_true _ _).mp hk with hk | hk
      · exact absurd (of_decide_eq_true hk) hne
      · exact qr_ldc X (qK_in hk) hd (hKN _ _ _ _ _ hk2)
  · dsimp only at hd hw
    obtain ⟨hlen, hk1⟩ := (Bool.and_eq_true _ _).mp hk
    clear hk
    obtain rfl : len = 3 := of_decide_eq_true hlen
    have hk := hk1
    rcases hw with ⟨-, j, tx, hz, hk2⟩ | ⟨hne, hk2⟩
    · exact qr_ldcWS X hz hd (hKN _ _ _ _ _ hk2)
    · rcases (Bool.or_eq_true _ _).mp hk with hk | hk
      · exact absurd (of_decide_eq_true hk) hne
      · exact qr_ldcw X (qK_in hk) hd (hKN _ _ _ _ _ hk2)
  · dsimp only at hd hw
    obtain rfl : len = 3 := of_decide_eq_true hk
    obtain ⟨y, h1, h2⟩ := hw
    exact qr_gets X h1 hd (hKN _ _ _ _ _ h2)
  · dsimp only at hd hw
    obtain rfl : len = 1 := of_decide_eq_true hk
    split at hw
    · exact qr_i2c X hd (hKN _ _ _ _ _ hw)
    · exact hw.elim
  · dsimp only at hd hw
    obtain rfl : len = 3 := of_decide_eq_true hk
    split at hw
    · obtain ⟨C, n, h1, h2, h3, h4, h5, h6, h7, h8, h9⟩ := hw
      exact qr_anew X h1 h2 (fun a => va_AO.use (va_AO.moved X.2.2.2.2.2.2.2.1.alike h3)) h4 h5 h6 h7 h8 hd (hKN _ _ _ _ _ h9)
    · exact hw.elim
  · dsimp only at hd hw
    obtain ⟨hlen, hk1⟩ := (Bool.and_eq_true _ _).mp hk
    clear hk
    obtain rfl : len = 3 := of_decide_eq_true hlen
    have hk := hk1
    exact qr_ldc2 X (qL_in hk) hd (hKN _ _ _ _ _ hw)
  · dsimp only at hd hw
    obtain rfl : len = 1 := of_decide_eq_true hk
    split at hw
    · obtain ⟨n, f, h1, h2, h3⟩ := hw
      exact qr_iald X h1 h2 hd (hKN _ _ _ _ _ h3)
    · obtain ⟨n, f, h1, h2, h3⟩ := hw
      exact qr_sld X h1 h2 hd (hKN _ _ _ _ _ h3)
    · exact hw.elim
  · dsimp only at hd hw
    obtain rfl : len = 1 := of_decide_eq_true hk
    split at hw
    · obtain ⟨ty, n, f, h1, h0, h2, h3⟩ := hw
      rcases h0 with rfl | rfl
      · exact qr_bald X h1 h2 hd (hKN _ _ _ _ _ h3)
      · exact qr_zald X h1 h2 hd (hKN _ _ _ _ _ h3)
    · obtain ⟨n, f, h1, h2, h3⟩ := hw
      exact qr_sbld X h1 h2 hd (hKN _ _ _ _ _ h3)
    · exact hw.elim
  · dsimp only at hd hw
    obtain rfl : len = 1 := of_decide_eq_true hk
    split at hw
    · obtain ⟨n, f, h1, h2, h3⟩ := hw
      exact qr_lald X h1 h2 hd (hKN _ _ _ _ _ h3)
    · exact hw.elim
  · dsimp only at hd hw
    obtain rfl : len = 1 := of_decide_eq_true hk
    split at hw
    · obtain ⟨C, n, f, b, h1, h2, h3, h4⟩ := hw
      exact qr_aald X h1 h2 h3 hd (hKN _ _ _ _ _ h4)
    · exact hw.elim
  · dsimp only at hd hw
    obtain rfl : len = 1 := of_decide_eq_true hk
    split at hw
    · obtain ⟨n, f, h1, h2, h3⟩ := hw
      exact qr_iast X h1 h2 hd (hKN _ _ _ _ _ h3)
    · exact hw.elim
  · dsimp only at hd hw
    obtain rfl : len = 1 := of_decide_eq_true hk
    split at hw
    · obtain ⟨ty, n, f, h1, h0, h2, h3⟩ := hw
      rcases h0 with rfl | rfl
      · exact qr_bast X h1 h2 hd (hKN _ _ _ _ _ h3)
      · exact qr_zast X h1 h2 hd (hKN _ _ _ _ _ h3)
    · exact hw.elim
  · dsimp only at hd hw
    obtain rfl : len = 1 := of_decide_eq_true hk
    split at hw
    · obtain ⟨n, f, h1, h2, h3⟩ := hw
      exact qr_last X h1 h2 hd (hKN _ _ _ _ _ h3)
    · exact hw.elim
  · dsimp only at hd hw
    obtain rfl : len = 1 := of_decide_eq_true hk
    split at hw
    · obtain ⟨C, n, f, ci, fs, z, h1, h2, h3, h4, h5, h6⟩ := hw
      exact qr_aast X h1 h2 h3 h4 h5 hd (hKN _ _ _ _ _ h6)
    · exact hw.elim
  · dsimp only at hd hw
    obtain rfl : len = 1 := of_decide_eq_true hk
    split at hw
    · obtain ⟨e, n, h1, h2, h3⟩ := hw
      rcases e with x | x | x | x
      · cases h2
      · cases h2; exact qr_alenI X h1 hd (hKN _ _ _ _ _ h3)
      · cases h2; exact qr_alenL X h1 hd (hKN _ _ _ _ _ h3)
      · cases h2; exact qr_alenA X h1 hd (hKN _ _ _ _ _ h3)
    · obtain ⟨ty, n, f, h1, h3⟩ := hw
      exact qr_slen X h1 hd (hKN _ _ _ _ _ h3)
    · exact hw.elim
  · dsimp only at hd hw
    obtain ⟨hlen, hk1⟩ := (Bool.and_eq_true _ _).mp hk
    clear hk
    obtain rfl : len = 3 := of_decide_eq_true hlen
    have hk := hk1
    split at hw
    · obtain ⟨h0, fs, y, h1, h2, h3⟩ := hw
      rcases (Bool.or_eq_true _ _).mp hk with hk | hk
      · exact qr_get X (qFk_any hk) h1 h2 hd (hKN _ _ _ _ _ h3)
      · exact absurd (of_decide_eq_true hk) h0
    · obtain ⟨y, h1, h3⟩ := hw
      exact qr_sget X h1 hd (hKN _ _ _ _ _ h3)
    · exact hw.elim
  · dsimp only at hd hw
    obtain ⟨hlen, hk1⟩ := (Bool.and_eq_true _ _).mp hk
    clear hk
    obtain rfl : len = 3 := of_decide_eq_true hlen
    have hk := hk1
    simp only [Bool.and_eq_true] at hk
    split at hw
    · obtain ⟨fs, h1, h2, h3, h4⟩ := hw
      exact qr_put X (qFk_any hk.1) (qfin_ok hin hk.2) h1 h2 h3 hd (hKN _ _ _ _ _ h4)
    · exact hw.elim
  · dsimp only at hd hw
    obtain ⟨hlen, hk1⟩ := (Bool.and_eq_true _ _).mp hk
    clear hk
    obtain rfl : len = 3 := of_decide_eq_true hlen
    have hk := hk1
    simp only [Bool.and_eq_true, decide_eq_true_eq] at hk
    exact qr_new X (qCk_any hk.1 hk.2) hw.1 hw.2.1 hd (hKN _ _ _ _ _ hw.2.2)
  · dsimp only at hd hw
    obtain rfl : len = 2 := of_decide_eq_true hk
    split at hw
    · obtain ⟨ty, n, h1, h2, h3, h4, h5, h6, h7, h8⟩ := hw
      exact qr_newa X h1 h2 (by rcases h2 with z | z | z | z <;> rw [z] <;> first | exact qT_int | exact qT_byte | exact qT_boolean | exact qT_long) h3 h4 h5 h6 h7 hd (hKN _ _ _ _ _ h8)
    · exact hw.elim
  · dsimp only at hd hw
    obtain rfl : len = 1 := of_decide_eq_true hk
    split at hw
    · obtain ⟨ty, h1, h2, h3, h4, h5⟩ := hw
      exact qr_iret X hZ h1 h2 h5 h3 h4 hd
    · exact hw.elim
  · dsimp only at hd hw
    obtain rfl : len = 1 := of_decide_eq_true hk
    split at hw
    · obtain ⟨h1, h3, h4, h5⟩ := hw
      exact qr_lret X hZ h1 h5 h3 h4 hd
    · exact hw.elim
  · dsimp only at hd hw
    obtain rfl : len = 1 := of_decide_eq_true hk
    split at hw
    · obtain ⟨h1, h3, h4, h5⟩ := hw
      exact qr_vret X hZ h1 h5 h3 h4 hd
    · exact hw.elim
  · dsimp only at hd hw
    obtain rfl : len = 1 := of_decide_eq_true hk
    split at hw
    · obtain ⟨rt, h1, h2, h3, h4, h5⟩ := hw
      exact qr_aret X hZ h1 h2 h5 h3 h4 hd
    · obtain ⟨rt, h1, h2, h3, h4, h5⟩ := hw
      exact qr_nret X hZ h1 h2 h5 h3 h4 hd
    · exact hw.elim
  · dsimp only at hd hw
    obtain rfl : len = 1 := of_decide_eq_true hk
    exact qr_null X hd (hKN _ _ _ _ _ hw)
  · dsimp only at hd hw
    obtain ⟨hlen, hk1⟩ := (Bool.and_eq_true _ _).mp hk
    clear hk
    obtain rfl : len = 3 := of_decide_eq_true hlen
    have hk := hk1
    split at hw
    · exact qr_nonnull X (of_decide_eq_true hk) hd (hKJ _ _ _ _ _ _ hw)
    · exact qr_nonnullN X hd (hKN _ _ _ _ _ hw)
    · exact hw.elim
  · dsimp only at hd hw
    obtain rfl : len = 3 := of_decide_eq_true hk
    split at hw
    · rename_i a r hdrop
      have hst : st = (st.take r2).reverse.reverse ++ .ref a :: r := by rw [List.reverse_reverse, ← hdrop, List.take_append_drop]
      rcases hw with ⟨-, q, d2, mc2, ms2, ci, fs, Q, h1, h2, h3, h4, h5, h6, h7⟩ | ⟨-, q, d2, mc2, ms2, ci, fs, Q, QX, h1, h2, h3, h4, h5, h6, h7, h8⟩
      · obtain ⟨n1, n2, n3, n4, n5⟩ := qnum_ok h4
        rw [hst]
        exact qr_callV X h1 h2.1 (by rw [List.length_reverse, h5]; exact h2.2.symm) h6 h3.1 h3.2 n1 n2 n3 n4 n5 hd (fun y h2 hy => hKN _ _ _ _ _ (h7 y h2 hy))
      · obtain ⟨n1, n2, n3, n4, n5⟩ := qnum_ok h4
        rw [hst]
        exact qr_callX X h1 h2.1 (by rw [List.length_reverse, h5]; exact h2.2.symm) h6 h3.1 h3.2 n1 n2 n3 n4 n5 hd (fun y h2 hy => hKN _ _ _ _ _ (h7 y h2 hy)) (fun E h2 hy => hKX _ _ _ _ _ _ (h8 E h2 hy))
    · exact hw.elim
  · dsimp only at hd hw
    obtain ⟨hlen, hk1⟩ := (Bool.and_eq_true _ _).mp hk
    clear hk
    obtain rfl : len = 3 := of_decide_eq_true hlen
    have hk := hk1
    rcases hw with ⟨-, q, d2, mc2, ms2, Q, h1, h2, h4, h5, h6, h7⟩ | ⟨hne, hw⟩
    · obtain ⟨n1, n2, n3, n4, n5⟩ := qnum_ok h4
      have hst : st = (st.take r2).reverse.reverse ++ st.drop r2 := by rw [List.reverse_reverse, List.take_append_drop]
      rw [hst]
      rcases h1 with h1 | h1
      · exact qr_callS X h1 h2.1 (by rw [List.length_reverse, h5]; exact h2.2.symm) h6 n1 n2 n3 n4 n5 hd (fun y h2 hy => hKN _ _ _ _ _ (h7 y h2 hy))
      · exact qr_callSN X h1 h2.1 (by rw [List.length_reverse, h5]; exact h2.2.symm) h6 n1 n2 n3 n4 n5 hd (fun y h2 hy => hKN _ _ _ _ _ (h7 y h2 hy))
    · rcases (Bool.or_eq_true _ _).mp hk with hk | hk
      · exact absurd (of_decide_eq_true hk) hne
      · split at hw
        · obtain ⟨na, nb, f, f2, h1, h2, ⟨h3, h4, h5, h6, h7⟩, ⟨h8, h9⟩, h10⟩ := hw
          exact qr_copy X (qA_in hk) h1 h2 h3 h4 h5 h6 h7 h8 (by have := q_nfw; show _ ≤ 120 * d; unfold qcat at h9; omega) hd (hKN _ _ _ _ _ h10)
        · exact hw.elim
  · dsimp only at hd hw
    obtain ⟨hlen, hk1⟩ := (Bool.and_eq_true _ _).mp hk
    clear hk
    obtain rfl : len = 3 := of_decide_eq_true hlen
    have hk := hk1
    split at hw
    · rename_i a r hdrop
      have hst : st = (st.take r2).reverse.reverse ++ .ref a :: r := by rw [List.reverse_reverse, ← hdrop, List.take_append_drop]
      rcases hw with ⟨-, q, d2, mc2, ms2, Q, h1, h2, h4, h5, h6, h7⟩ | ⟨hne, h0, ⟨h8, h9⟩, h10⟩
      · obtain ⟨n1, n2, n3, n4, n5⟩ := qnum_ok h4
        rw [hst]
        rcases h1 with h1 | h1
        · exact qr_callI X h1 h2.1 (by rw [List.length_reverse, h5]; exact h2.2.symm) h6 n1 n2 n3 n4 n5 hd (fun y h2 hy => hKN _ _ _ _ _ (h7 y h2 hy))
        · exact qr_callIN X h1 h2.1 (by rw [List.length_reverse, h5]; exact h2.2.symm) h6 n1 n2 n3 n4 n5 hd (fun y h2 hy => hKN _ _ _ _ _ (h7 y h2 hy))
      · rcases (Bool.or_eq_true _ _).mp hk with hk | hk
        · exact absurd (of_decide_eq_true hk) hne
        · subst h0
          rw [hst]
          exact qr_obj X (qO_in hk) qO_inst qO_code h8 (by show 42 ≤ 120 * d; omega) h9 hd (hKN _ _ _ _ _ h10)
    · exact hw.elim
  · cases hk
/-- a stretch of code: the instructions, one behind the other -/
def qsg (cc : ByteArray) (ow nL : Nat) (ini : Bool) : Nat → List qEl → Bool
  | _, [] => true
  | pc, el :: t => decide (decode cc pc = .ok (el.1, el.2.1)) && (qchk ow nL ini pc el && qsg cc ow nL ini (pc + el.2.1) t)
/-- the weakest condition of a stretch; KJ: what holds where it jumps, KN: behind it -/
def wpN (g : qG) (ow d mc ms : Nat) (ret : Option FieldType) (P : Option Value → qH → Prop) (KX : Nat → List (Nat × Value) → String → qH → Nat → Nat → Prop) (KJ : qK0) : List qEl → Nat → qN0
  | [], pc => KJ pc
  | el :: t, pc => wp1 g ow d mc ms ret P (wpN g ow d mc ms ret P KX KJ t (pc + el.2.1)) KJ KX el pc
theorem wpN_ok (X : qCtx g p s m meth c (qown ow) nm cc nL ret) (hZ : qEnd g p e (qRoom d mc ms) s m args below meth c mc ms P Z) (hin : ini = true → nm = "<init>") (hKX : ∀ pc L E h cu su, KX pc L E h cu su → qThr g p e (qRoom d mc ms) s m args below meth c nL Z pc L E h cu su) (hKJ : ∀ pc L st h cu su, KJ pc L st h cu su → qRun g p e (qRoom d mc ms) s m args below meth c nL Z pc L st h cu su) : ∀ (sg : List qEl) {pc : Nat} {L : List (Nat × Value)} {st : List Value} {h : qH} {cu su : Nat}, qsg cc ow nL ini pc sg = true → wpN g ow d mc ms ret P KX KJ sg pc L st h cu su → qRun g p e (qRoom d mc ms) s m args below meth c nL Z pc L st h cu su
  | [], pc, L, st, h, cu, su, _, hw => hKJ _ _ _ _ _ _ hw
  | el :: t, pc, L, st, h, cu, su, hs, hw => by
    unfold qsg at hs
    simp only [Bool.and_eq_true, decide_eq_true_eq] at hs
    obtain ⟨h1, h2, h3⟩ := hs
    exact wp1_ok X hZ hin hKJ hKX el (fun L2 st2 h2 cu2 su2 hq => wpN_ok X hZ hin hKX hKJ t h3 hq) h1 h2 hw
end QV
