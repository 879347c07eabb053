/-! rows: qRun at an instruction out of qRun at the next (written by a program) -/
section QR
variable {g : qG} {p : Program} {e : Env} {R : Room} {s : State} {m : MethodId} {args : Array Value} {below : List Frame} {meth : Method} {c : Code} {nL : Nat} {Z : State → Prop} {own nm : String} {cc : ByteArray} {ret : Option FieldType} {pc : Nat} {L : List (Nat × Value)} {st : List Value} {h : qH} {cu su : Nat}
theorem qr_iconst (X : qCtx g p s m meth c own nm cc nL ret) {n : Int} {v : Int32} (hv : Int32.ofInt n = v) (hd : decode cc pc = .ok (.iconst n, 1)) (k : qRun g p e R s m args below meth c nL Z (pc + 1) L (.int v :: st) h cu su) : qRun g p e R s m args below meth c nL Z pc L (st) h cu su := fun H locs ls a1 a2 a3 => lv_iconst X.2.1 X.2.2.1 hd hv (k H locs ls a1 a2 a3)
theorem qr_bipush (X : qCtx g p s m meth c own nm cc nL ret) {n : Int} {v : Int32} (hv : (Int8.ofInt n).toInt32 = v) (hd : decode cc pc = .ok (.bipush n, 2)) (k : qRun g p e R s m args below meth c nL Z (pc + 2) L (.int v :: st) h cu su) : qRun g p e R s m args below meth c nL Z pc L (st) h cu su := fun H locs ls a1 a2 a3 => lv_bipush X.2.1 X.2.2.1 hd hv (k H locs ls a1 a2 a3)
theorem qr_sipush (X : qCtx g p s m meth c own nm cc nL ret) {n : Int} {v : Int32} (hv : (Int16.ofInt n).toInt32 = v) (hd : decode cc pc = .ok (.sipush n, 3)) (k : qRun g p e R s m args below meth c nL Z (pc + 3) L (.int v :: st) h cu su) : qRun g p e R s m args below meth c nL Z pc L (st) h cu su := fun H locs ls a1 a2 a3 => lv_sipush X.2.1 X.2.2.1 hd hv (k H locs ls a1 a2 a3)
theorem qr_lconst (X : qCtx g p s m meth c own nm cc nL ret) {n : Fin 2} {v : Int64} (hv : Int64.ofNat (n : Nat) = v) (hd : decode cc pc = .ok (.lconst n, 1)) (k : qRun g p e R s m args below meth c nL Z (pc + 1) L (.long v :: st) h cu su) : qRun g p e R s m args below meth c nL Z pc L (st) h cu su := fun H locs ls a1 a2 a3 => lv_lconst X.2.1 X.2.2.1 hd hv (k H locs ls a1 a2 a3)
theorem qr_iload_n (X : qCtx g p s m meth c own nm cc nL ret) {n : Fin 4} {x : Int32} (hx : qld L (n : Nat) = some (.int x)) (hd : decode cc pc = .ok (.iload_n n, 1)) (k : qRun g p e R s m args below meth c nL Z (pc + 1) L (.int x :: st) h cu su) : qRun g p e R s m args below meth c nL Z pc L (st) h cu su := fun H locs ls a1 a2 a3 => lv_iload_n X.2.1 X.2.2.1 hd rfl (qld_at a3 hx) (k H locs ls a1 a2 a3)
theorem qr_iload (X : qCtx g p s m meth c own nm cc nL ret) {i : Nat} {x : Int32} (hx : qld L i = some (.int x)) (hd : decode cc pc = .ok (.iload i, 2)) (k : qRun g p e R s m args below meth c nL Z (pc + 2) L (.int x :: st) h cu su) : qRun g p e R s m args below meth c nL Z pc L (st) h cu su := fun H locs ls a1 a2 a3 => lv_iload X.2.1 X.2.2.1 hd (qld_at a3 hx) (k H locs ls a1 a2 a3)
theorem qr_istore_n (X : qCtx g p s m meth c own nm cc nL ret) {n : Fin 4} {x : Int32} (hn : (n : Nat) < nL) (hd : decode cc pc = .ok (.istore_n n, 1)) (k : qRun g p e R s m args below meth c nL Z (pc + 1) (qs1 L n (.int x)) (st) h cu su) : qRun g p e R s m args below meth c nL Z pc L (.int x :: st) h cu su := fun H locs ls a1 a2 a3 => lv_istore_n X.2.1 X.2.2.1 hd rfl a3 hn (qvl_s1 g L _ (.int x)).symm (fun ls a3 => (k H locs ls a1 a2 a3))
theorem qr_istore (X : qCtx g p s m meth c own nm cc nL ret) {i : Nat} {x : Int32} (hn : i < nL) (hd : decode cc pc = .ok (.istore i, 2)) (k : qRun g p e R s m args below meth c nL Z (pc + 2) (qs1 L i (.int x)) (st) h cu su) : qRun g p e R s m args below meth c nL Z pc L (.int x :: st) h cu su := fun H locs ls a1 a2 a3 => lv_istore X.2.1 X.2.2.1 hd a3 hn (qvl_s1 g L _ (.int x)).symm (fun ls a3 => (k H locs ls a1 a2 a3))
theorem qr_lload_n (X : qCtx g p s m meth c own nm cc nL ret) {n : Fin 4} {x : Int64} (hx : qld L (n : Nat) = some (.long x)) (hd : decode cc pc = .ok (.lload_n n, 1)) (k : qRun g p e R s m args below meth c nL Z (pc + 1) L (.long x :: st) h cu su) : qRun g p e R s m args below meth c nL Z pc L (st) h cu su := fun H locs ls a1 a2 a3 => lv_lload_n X.2.1 X.2.2.1 hd rfl (qld_at a3 hx) (k H locs ls a1 a2 a3)
theorem qr_lload (X : qCtx g p s m meth c own nm cc nL ret) {i : Nat} {x : Int64} (hx : qld L i = some (.long x)) (hd : decode cc pc = .ok (.lload i, 2)) (k : qRun g p e R s m args below meth c nL Z (pc + 2) L (.long x :: st) h cu su) : qRun g p e R s m args below meth c nL Z pc L (st) h cu su := fun H locs ls a1 a2 a3 => lv_lload X.2.1 X.2.2.1 hd (qld_at a3 hx) (k H locs ls a1 a2 a3)
theorem qr_lstore_n (X : qCtx g p s m meth c own nm cc nL ret) {n : Fin 4} {x : Int64} (hn : (n : Nat) + 1 < nL) (hd : decode cc pc = .ok (.lstore_n n, 1)) (k : qRun g p e R s m args below meth c nL Z (pc + 1) (qs2 L n (.long x)) (st) h cu su) : qRun g p e R s m args below meth c nL Z pc L (.long x :: st) h cu su := fun H locs ls a1 a2 a3 => lv_lstore_n X.2.1 X.2.2.1 hd rfl a3 hn (qvl_s2 g L _ (.long x)).symm (fun ls a3 => (k H locs ls a1 a2 a3))
theorem qr_lstore (X : qCtx g p s m meth c own nm cc nL ret) {i : Nat} {x : Int64} (hn : i + 1 < nL) (hd : decode cc pc = .ok (.lstore i, 2)) (k : qRun g p e R s m args below meth c nL Z (pc + 2) (qs2 L i (.long x)) (st) h cu su) : qRun g p e R s m args below meth c nL Z pc L (.long x :: st) h cu su := fun H locs ls a1 a2 a3 => lv_lstore X.2.1 X.2.2.1 hd a3 hn (qvl_s2 g L _ (.long x)).symm (fun ls a3 => (k H locs ls a1 a2 a3))
theorem qr_aload_n (X : qCtx g p s m meth c own nm cc nL ret) {n : Fin 4} {x : Nat} (hx : qld L (n : Nat) = some (.ref x)) (hd : decode cc pc = .ok (.aload_n n, 1)) (k : qRun g p e R s m args below meth c nL Z (pc + 1) L (.ref x :: st) h cu su) : qRun g p e R s m args below meth c nL Z pc L (st) h cu su := fun H locs ls a1 a2 a3 => lv_aload_n X.2.1 X.2.2.1 hd rfl (qld_at a3 hx) (k H locs ls a1 a2 a3)
theorem qr_aload (X : qCtx g p s m meth c own nm cc nL ret) {i : Nat} {x : Nat} (hx : qld L i = some (.ref x)) (hd : decode cc pc = .ok (.aload i, 2)) (k : qRun g p e R s m args below meth c nL Z (pc + 2) L (.ref x :: st) h cu su) : qRun g p e R s m args below meth c nL Z pc L (st) h cu su := fun H locs ls a1 a2 a3 => lv_aload X.2.1 X.2.2.1 hd (qld_at a3 hx) (k H locs ls a1 a2 a3)
theorem qr_astore_n (X : qCtx g p s m meth c own nm cc nL ret) {n : Fin 4} {x : Nat} (hn : (n : Nat) < nL) (hd : decode cc pc = .ok (.astore_n n, 1)) (k : qRun g p e R s m args below meth c nL Z (pc + 1) (qs1 L n (.ref x)) (st) h cu su) : qRun g p e R s m args below meth c nL Z pc L (.ref x :: st) h cu su := fun H locs ls a1 a2 a3 => lv_astore_n X.2.1 X.2.2.1 hd rfl a3 hn (qvl_s1 g L _ (.ref x)).symm (fun ls a3 => (k H locs ls a1 a2 a3))
theorem qr_astore (X : qCtx g p s m meth c own nm cc nL ret) {i : Nat} {x : Nat} (hn : i < nL) (hd : decode cc pc = .ok (.astore i, 2)) (k : qRun g p e R s m args below meth c nL Z (pc + 2) (qs1 L i (.ref x)) (st) h cu su) : qRun g p e R s m args below meth c nL Z pc L (.ref x :: st) h cu su := fun H locs ls a1 a2 a3 => lv_astore X.2.1 X.2.2.1 hd a3 hn (qvl_s1 g L _ (.ref x)).symm (fun ls a3 => (k H locs ls a1 a2 a3))
theorem qr_zload_n (X : qCtx g p s m meth c own nm cc nL ret) {n : Fin 4} {x : Nat} (hx : qld L (n : Nat) = some (.retAddr x)) (hd : decode cc pc = .ok (.aload_n n, 1)) (k : qRun g p e R s m args below meth c nL Z (pc + 1) L (.retAddr x :: st) h cu su) : qRun g p e R s m args below meth c nL Z pc L (st) h cu su := fun H locs ls a1 a2 a3 => lv_aload_n X.2.1 X.2.2.1 hd rfl (qld_at a3 hx) (k H locs ls a1 a2 a3)
theorem qr_zload (X : qCtx g p s m meth c own nm cc nL ret) {i : Nat} {x : Nat} (hx : qld L i = some (.retAddr x)) (hd : decode cc pc = .ok (.aload i, 2)) (k : qRun g p e R s m args below meth c nL Z (pc + 2) L (.retAddr x :: st) h cu su) : qRun g p e R s m args below meth c nL Z pc L (st) h cu su := fun H locs ls a1 a2 a3 => lv_aload X.2.1 X.2.2.1 hd (qld_at a3 hx) (k H locs ls a1 a2 a3)
theorem qr_zstore_n (X : qCtx g p s m meth c own nm cc nL ret) {n : Fin 4} {x : Nat} (hn : (n : Nat) < nL) (hd : decode cc pc = .ok (.astore_n n, 1)) (k : qRun g p e R s m args below meth c nL Z (pc + 1) (qs1 L n (.retAddr x)) (st) h cu su) : qRun g p e R s m args below meth c nL Z pc L (.retAddr x :: st) h cu su := fun H locs ls a1 a2 a3 => lv_astore_n X.2.1 X.2.2.1 hd rfl a3 hn (qvl_s1 g L _ (.retAddr x)).symm (fun ls a3 => (k H locs ls a1 a2 a3))
theorem qr_zstore (X : qCtx g p s m meth c own nm cc nL ret) {i : Nat} {x : Nat} (hn : i < nL) (hd : decode cc pc = .ok (.astore i, 2)) (k : qRun g p e R s m args below meth c nL Z (pc + 2) (qs1 L i (.retAddr x)) (st) h cu su) : qRun g p e R s m args below meth c nL Z pc L (.retAddr x :: st) h cu su := fun H locs ls a1 a2 a3 => lv_astore X.2.1 X.2.2.1 hd a3 hn (qvl_s1 g L _ (.retAddr x)).symm (fun ls a3 => (k H locs ls a1 a2 a3))
theorem qr_iinc (X : qCtx g p s m meth c own nm cc nL ret) {i : Nat} {n : Int} {x v : Int32} (hx : qld L i = some (.int x)) (hv : Int32.ofInt n = v) (hn : i < nL) (hd : decode cc pc = .ok (.iinc i n, 3)) (k : qRun g p e R s m args below meth c nL Z (pc + 3) (qs1 L i (.int (x + v))) st h cu su) : qRun g p e R s m args below meth c nL Z pc L st h cu su := by
  intro H locs ls a1 a2 a3
  obtain ⟨q, hq⟩ := List.getElem?_of_mem (List.mem_map.mpr ⟨(i, .int x), qld_mem hx, rfl⟩ : (i, qv g (.int x)) ∈ qvl g L)
  exact lv_iinc X.2.1 X.2.2.1 hd a3 hq (by rw [hv]) hn (qvl_s1 g L i (.int (x + v))).symm (fun ls a3 => k H locs ls a1 a2 a3)
theorem qr_iadd (X : qCtx g p s m meth c own nm cc nL ret) {x y : Int32} (hd : decode cc pc = .ok (.iadd, 1)) (k : qRun g p e R s m args below meth c nL Z (pc + 1) L (.int (x + y) :: st) h cu su) : qRun g p e R s m args below meth c nL Z pc L (.int y :: .int x :: st) h cu su := fun H locs ls a1 a2 a3 => lv_iadd X.2.1 X.2.2.1 hd (k H locs ls a1 a2 a3)
theorem qr_isub (X : qCtx g p s m meth c own nm cc nL ret) {x y : Int32} (hd : decode cc pc = .ok (.isub, 1)) (k : qRun g p e R s m args below meth c nL Z (pc + 1) L (.int (x - y) :: st) h cu su) : qRun g p e R s m args below meth c nL Z pc L (.int y :: .int x :: st) h cu su := fun H locs ls a1 a2 a3 => lv_isub X.2.1 X.2.2.1 hd (k H locs ls a1 a2 a3)
theorem qr_imul (X : qCtx g p s m meth c own nm cc nL ret) {x y : Int32} (hd : decode cc pc = .ok (.imul, 1)) (k : qRun g p e R s m args below meth c nL Z (pc + 1) L (.int (x * y) :: st) h cu su) : qRun g p e R s m args below meth c nL Z pc L (.int y :: .int x :: st) h cu su := fun H locs ls a1 a2 a3 => lv_imul X.2.1 X.2.2.1 hd (k H locs ls a1 a2 a3)
theorem qr_iand (X : qCtx g p s m meth c own nm cc nL ret) {x y : Int32} (hd : decode cc pc = .ok (.iand, 1)) (k : qRun g p e R s m args below meth c nL Z (pc + 1) L (.int (x &&& y) :: st) h cu su) : qRun g p e R s m args below meth c nL Z pc L (.int y :: .int x :: st) h cu su := fun H locs ls a1 a2 a3 => lv_iand X.2.1 X.2.2.1 hd (k H locs ls a1 a2 a3)
theorem qr_ior (X : qCtx g p s m meth c own nm cc nL ret) {x y : Int32} (hd : decode cc pc = .ok (.ior, 1)) (k : qRun g p e R s m args below meth c nL Z (pc + 1) L (.int (x ||| y) :: st) h cu su) : qRun g p e R s m args below meth c nL Z pc L (.int y :: .int x :: st) h cu su := fun H locs ls a1 a2 a3 => lv_ior X.2.1 X.2.2.1 hd (k H locs ls a1 a2 a3)
theorem qr_ixor (X : qCtx g p s m meth c own nm cc nL ret) {x y : Int32} (hd : decode cc pc = .ok (.ixor, 1)) (k : qRun g p e R s m args below meth c nL Z (pc + 1) L (.int (x ^^^ y) :: st) h cu su) : qRun g p e R s m args below meth c nL Z pc L (.int y :: .int x :: st) h cu su := fun H locs ls a1 a2 a3 => lv_ixor X.2.1 X.2.2.1 hd (k H locs ls a1 a2 a3)
theorem qr_ishl (X : qCtx g p s m meth c own nm cc nL ret) {x y : Int32} (hd : decode cc pc = .ok (.ishl, 1)) (k : qRun g p e R s m args below meth c nL Z (pc + 1) L (.int (x <<< (y &&& 31)) :: st) h cu su) : qRun g p e R s m args below meth c nL Z pc L (.int y :: .int x :: st) h cu su := fun H locs ls a1 a2 a3 => lv_ishl X.2.1 X.2.2.1 hd (k H locs ls a1 a2 a3)
theorem qr_ishr (X : qCtx g p s m meth c own nm cc nL ret) {x y : Int32} (hd : decode cc pc = .ok (.ishr, 1)) (k : qRun g p e R s m args below meth c nL Z (pc + 1) L (.int (x >>> (y &&& 31)) :: st) h cu su) : qRun g p e R s m args below meth c nL Z pc L (.int y :: .int x :: st) h cu su := fun H locs ls a1 a2 a3 => lv_ishr X.2.1 X.2.2.1 hd (k H locs ls a1 a2 a3)
theorem qr_iushr (X : qCtx g p s m meth c own nm cc nL ret) {x y : Int32} (hd : decode cc pc = .ok (.iushr, 1)) (k : qRun g p e R s m args below meth c nL Z (pc + 1) L (.int (x.toUInt32 >>> (y.toUInt32 &&& Int32.toUInt32 31)).toInt32 :: st) h cu su) : qRun g p e R s m args below meth c nL Z pc L (.int y :: .int x :: st) h cu su := fun H locs ls a1 a2 a3 => lv_iushr X.2.1 X.2.2.1 hd rfl (k H locs ls a1 a2 a3)
theorem qr_idiv (X : qCtx g p s m meth c own nm cc nL ret) {x y : Int32} (hne : ¬ y = 0) (hd : decode cc pc = .ok (.idiv, 1)) (k : qRun g p e R s m args below meth c nL Z (pc + 1) L (.int (x / y) :: st) h cu su) : qRun g p e R s m args below meth c nL Z pc L (.int y :: .int x :: st) h cu su := fun H locs ls a1 a2 a3 => lv_idiv X.2.1 X.2.2.1 hd hne (k H locs ls a1 a2 a3)
theorem qr_irem (X : qCtx g p s m meth c own nm cc nL ret) {x y : Int32} (hne : ¬ y = 0) (hd : decode cc pc = .ok (.irem, 1)) (k : qRun g p e R s m args below meth c nL Z (pc + 1) L (.int (x - x / y * y) :: st) h cu su) : qRun g p e R s m args below meth c nL Z pc L (.int y :: .int x :: st) h cu su := fun H locs ls a1 a2 a3 => lv_irem X.2.1 X.2.2.1 hd hne (k H locs ls a1 a2 a3)
theorem qr_ladd (X : qCtx g p s m meth c own nm cc nL ret) {x y : Int64} (hd : decode cc pc = .ok (.ladd, 1)) (k : qRun g p e R s m args below meth c nL Z (pc + 1) L (.long (x + y) :: st) h cu su) : qRun g p e R s m args below meth c nL Z pc L (.long y :: .long x :: st) h cu su := fun H locs ls a1 a2 a3 => lv_ladd X.2.1 X.2.2.1 hd (k H locs ls a1 a2 a3)
theorem qr_lsub (X : qCtx g p s m meth c own nm cc nL ret) {x y : Int64} (hd : decode cc pc = .ok (.lsub, 1)) (k : qRun g p e R s m args below meth c nL Z (pc + 1) L (.long (x - y) :: st) h cu su) : qRun g p e R s m args below meth c nL Z pc L (.long y :: .long x :: st) h cu su := fun H locs ls a1 a2 a3 => lv_lsub X.2.1 X.2.2.1 hd (k H locs ls a1 a2 a3)
theorem qr_lmul (X : qCtx g p s m meth c own nm cc nL ret) {x y : Int64} (hd : decode cc pc = .ok (.lmul, 1)) (k : qRun g p e R s m args below meth c nL Z (pc + 1) L (.long (x * y) :: st) h cu su) : qRun g p e R s m args below meth c nL Z pc L (.long y :: .long x :: st) h cu su := fun H locs ls a1 a2 a3 => lv_lmul X.2.1 X.2.2.1 hd (k H locs ls a1 a2 a3)
theorem qr_ldiv (X : qCtx g p s m meth c own nm cc nL ret) {x y : Int64} (hne : ¬ y = 0) (hd : decode cc pc = .ok (.ldiv, 1)) (k : qRun g p e R s m args below meth c nL Z (pc + 1) L (.long (x / y) :: st) h cu su) : qRun g p e R s m args below meth c nL Z pc L (.long y :: .long x :: st) h cu su := fun H locs ls a1 a2 a3 => lv_ldiv X.2.1 X.2.2.1 hd hne (k H locs ls a1 a2 a3)
theorem qr_lrem (X : qCtx g p s m meth c own nm cc nL ret) {x y : Int64} (hne : ¬ y = 0) (hd : decode cc pc = .ok (.lrem, 1)) (k : qRun g p e R s m args below meth c nL Z (pc + 1) L (.long (x - x / y * y) :: st) h cu su) : qRun g p e R s m args below meth c nL Z pc L (.long y :: .long x :: st) h cu su := fun H locs ls a1 a2 a3 => lv_lrem X.2.1 X.2.2.1 hd hne (k H locs ls a1 a2 a3)
theorem qr_lcmp (X : qCtx g p s m meth c own nm cc nL ret) {x y : Int64} (hd : decode cc pc = .ok (.lcmp, 1)) (k : qRun g p e R s m args below meth c nL Z (pc + 1) L (.int (lg_cmp x y) :: st) h cu su) : qRun g p e R s m args below meth c nL Z pc L (.long y :: .long x :: st) h cu su := fun H locs ls a1 a2 a3 => W.lcmp X.2.1 X.2.2.1 hd (k H locs ls a1 a2 a3)
theorem qr_i2l (X : qCtx g p s m meth c own nm cc nL ret) {x : Int32} (hd : decode cc pc = .ok (.i2l, 1)) (k : qRun g p e R s m args below meth c nL Z (pc + 1) L (.long x.toInt64 :: st) h cu su) : qRun g p e R s m args below meth c nL Z pc L (.int x :: st) h cu su := fun H locs ls a1 a2 a3 => lv_i2l X.2.1 X.2.2.1 hd rfl (k H locs ls a1 a2 a3)
theorem qr_i2b (X : qCtx g p s m meth c own nm cc nL ret) {x : Int32} (hd : decode cc pc = .ok (.i2b, 1)) (k : qRun g p e R s m args below meth c nL Z (pc + 1) L (.int x.toInt8.toInt32 :: st) h cu su) : qRun g p e R s m args below meth c nL Z pc L (.int x :: st) h cu su := fun H locs ls a1 a2 a3 => lv_i2b X.2.1 X.2.2.1 hd rfl (k H locs ls a1 a2 a3)
theorem qr_dup (X : qCtx g p s m meth c own nm cc nL ret) {v : Value} (hv : v.category = 1) (hd : decode cc pc = .ok (.dup, 1)) (k : qRun g p e R s m args below meth c nL Z (pc + 1) L (v :: v :: st) h cu su) : qRun g p e R s m args below meth c nL Z pc L (v :: st) h cu su := fun H locs ls a1 a2 a3 => lv_dup X.2.1 X.2.2.1 hd ((qv_cat g v).trans hv) (k H locs ls a1 a2 a3)
theorem qr_pop (X : qCtx g p s m meth c own nm cc nL ret) {v : Value} (hv : v.category = 1) (hd : decode cc pc = .ok (.pop, 1)) (k : qRun g p e R s m args below meth c nL Z (pc + 1) L (st) h cu su) : qRun g p e R s m args below meth c nL Z pc L (v :: st) h cu su := fun H locs ls a1 a2 a3 => lv_pop X.2.1 X.2.2.1 hd ((qv_cat g v).trans hv) (k H locs ls a1 a2 a3)
theorem qr_dup2 (X : qCtx g p s m meth c own nm cc nL ret) {v w : Value} (hv : v.category = 1) (hw : w.category = 1) (hd : decode cc pc = .ok (.dup2, 1)) (k : qRun g p e R s m args below meth c nL Z (pc + 1) L (v :: w :: v :: w :: st) h cu su) : qRun g p e R s m args below meth c nL Z pc L (v :: w :: st) h cu su := fun H locs ls a1 a2 a3 => lv_dup2_11 X.2.1 X.2.2.1 hd ((qv_cat g v).trans hv) ((qv_cat g w).trans hw) (k H locs ls a1 a2 a3)
theorem qr_goto (X : qCtx g p s m meth c own nm cc nL ret) {off : Int} {t : Nat} (ht : (pc : Int) + off = (t : Int)) (hd : decode cc pc = .ok (.goto off, 3)) (k : qRun g p e R s m args below meth c nL Z t L (st) h cu su) : qRun g p e R s m args below meth c nL Z pc L (st) h cu su := fun H locs ls a1 a2 a3 => lv_goto X.2.1 X.2.2.1 hd ht (k H locs ls a1 a2 a3)
theorem qr_if_eq (X : qCtx g p s m meth c own nm cc nL ret) {x : Int32} {off : Int} {t : Nat} (ht : (pc : Int) + off = (t : Int)) (hd : decode cc pc = .ok (.ifCond .eq off, 3)) (kt : x = 0 → qRun g p e R s m args below meth c nL Z t L st h cu su) (kf : ¬ x = 0 → qRun g p e R s m args below meth c nL Z (pc + 3) L st h cu su) : qRun g p e R s m args below meth c nL Z pc L (.int x :: st) h cu su := fun H locs ls a1 a2 a3 => lv_if_eq X.2.1 X.2.2.1 hd ht (fun z => kt z H locs ls a1 a2 a3) (fun z => kf z H locs ls a1 a2 a3)
theorem qr_icmp_eq (X : qCtx g p s m meth c own nm cc nL ret) {x y : Int32} {off : Int} {t : Nat} (ht : (pc : Int) + off = (t : Int)) (hd : decode cc pc = .ok (.if_icmp .eq off, 3)) (kt : x = y → qRun g p e R s m args below meth c nL Z t L st h cu su) (kf : ¬ x = y → qRun g p e R s m args below meth c nL Z (pc + 3) L st h cu su) : qRun g p e R s m args below meth c nL Z pc L (.int y :: .int x :: st) h cu su := fun H locs ls a1 a2 a3 => lv_icmp_eq X.2.1 X.2.2.1 hd ht (fun z => kt z H locs ls a1 a2 a3) (fun z => kf z H locs ls a1 a2 a3)
theorem qr_if_ne (X : qCtx g p s m meth c own nm cc nL ret) {x : Int32} {off : Int} {t : Nat} (ht : (pc : Int) + off = (t : Int)) (hd : decode cc pc = .ok (.ifCond .ne off, 3)) (kt : ¬ x = 0 → qRun g p e R s m args below meth c nL Z t L st h cu su) (kf : x = 0 → qRun g p e R s m args below meth c nL Z (pc + 3) L st h cu su) : qRun g p e R s m args below meth c nL Z pc L (.int x :: st) h cu su := fun H locs ls a1 a2 a3 => lv_if_ne X.2.1 X.2.2.1 hd ht (fun z => kt z H locs ls a1 a2 a3) (fun z => kf z H locs ls a1 a2 a3)
theorem qr_icmp_ne (X : qCtx g p s m meth c own nm cc nL ret) {x y : Int32} {off : Int} {t : Nat} (ht : (pc : Int) + off = (t : Int)) (hd : decode cc pc = .ok (.if_icmp .ne off, 3)) (kt : ¬ x = y → qRun g p e R s m args below meth c nL Z t L st h cu su) (kf : x = y → qRun g p e R s m args below meth c nL Z (pc + 3) L st h cu su) : qRun g p e R s m args below meth c nL Z pc L (.int y :: .int x :: st) h cu su := fun H locs ls a1 a2 a3 => lv_icmp_ne X.2.1 X.2.2.1 hd ht (fun z => kt z H locs ls a1 a2 a3) (fun z => kf z H locs ls a1 a2 a3)
theorem qr_if_lt (X : qCtx g p s m meth c own nm cc nL ret) {x : Int32} {off : Int} {t : Nat} (ht : (pc : Int) + off = (t : Int)) (hd : decode cc pc = .ok (.ifCond .lt off, 3)) (kt : x < 0 → qRun g p e R s m args below meth c nL Z t L st h cu su) (kf : ¬ x < 0 → qRun g p e R s m args below meth c nL Z (pc + 3) L st h cu su) : qRun g p e R s m args below meth c nL Z pc L (.int x :: st) h cu su := fun H locs ls a1 a2 a3 => lv_if_lt X.2.1 X.2.2.1 hd ht (fun z => kt z H locs ls a1 a2 a3) (fun z => kf z H locs ls a1 a2 a3)
theorem qr_icmp_lt (X : qCtx g p s m meth c own nm cc nL ret) {x y : Int32} {off : Int} {t : Nat} (ht : (pc : Int) + off = (t : Int)) (hd : decode cc pc = .ok (.if_icmp .lt off, 3)) (kt : x < y → qRun g p e R s m args below meth c nL Z t L st h cu su) (kf : ¬ x < y → qRun g p e R s m args below meth c nL Z (pc + 3) L st h cu su) : qRun g p e R s m args below meth c nL Z pc L (.int y :: .int x :: st) h cu su := fun H locs ls a1 a2 a3 => lv_icmp_lt X.2.1 X.2.2.1 hd ht (fun z => kt z H locs ls a1 a2 a3) (fun z => kf z H locs ls a1 a2 a3)
theorem qr_if_ge (X : qCtx g p s m meth c own nm cc nL ret) {x : Int32} {off : Int} {t : Nat} (ht : (pc : Int) + off = (t : Int)) (hd : decode cc pc = .ok (.ifCond .ge off, 3)) (kt : 0 ≤ x → qRun g p e R s m args below meth c nL Z t L st h cu su) (kf : ¬ 0 ≤ x → qRun g p e R s m args below meth c nL Z (pc + 3) L st h cu su) : qRun g p e R s m args below meth c nL Z pc L (.int x :: st) h cu su := fun H locs ls a1 a2 a3 => lv_if_ge X.2.1 X.2.2.1 hd ht (fun z => kt z H locs ls a1 a2 a3) (fun z => kf z H locs ls a1 a2 a3)
theorem qr_icmp_ge (X : qCtx g p s m meth c own nm cc nL ret) {x y : Int32} {off : Int} {t : Nat} (ht : (pc : Int) + off = (t : Int)) (hd : decode cc pc = .ok (.if_icmp .ge off, 3)) (kt : y ≤ x → qRun g p e R s m args below meth c nL Z t L st h cu su) (kf : ¬ y ≤ x → qRun g p e R s m args below meth c nL Z (pc + 3) L st h cu su) : qRun g p e R s m args below meth c nL Z pc L (.int y :: .int x :: st) h cu su := fun H locs ls a1 a2 a3 => lv_icmp_ge X.2.1 X.2.2.1 hd ht (fun z => kt z H locs ls a1 a2 a3) (fun z => kf z H locs ls a1 a2 a3)
theorem qr_if_gt (X : qCtx g p s m meth c own nm cc nL ret) {x : Int32} {off : Int} {t : Nat} (ht : (pc : Int) + off = (t : Int)) (hd : decode cc pc = .ok (.ifCond .gt off, 3)) (kt : 0 < x → qRun g p e R s m args below meth c nL Z t L st h cu su) (kf : ¬ 0 < x → qRun g p e R s m args below meth c nL Z (pc + 3) L st h cu su) : qRun g p e R s m args below meth c nL Z pc L (.int x :: st) h cu su := fun H locs ls a1 a2 a3 => lv_if_gt X.2.1 X.2.2.1 hd ht (fun z => kt z H locs ls a1 a2 a3) (fun z => kf z H locs ls a1 a2 a3)
theorem qr_icmp_gt (X : qCtx g p s m meth c own nm cc nL ret) {x y : Int32} {off : Int} {t : Nat} (ht : (pc : Int) + off = (t : Int)) (hd : decode cc pc = .ok (.if_icmp .gt off, 3)) (kt : y < x → qRun g p e R s m args below meth c nL Z t L st h cu su) (kf : ¬ y < x → qRun g p e R s m args below meth c nL Z (pc + 3) L st h cu su) : qRun g p e R s m args below meth c nL Z pc L (.int y :: .int x :: st) h cu su := fun H locs ls a1 a2 a3 => lv_icmp_gt X.2.1 X.2.2.1 hd ht (fun z => kt z H locs ls a1 a2 a3) (fun z => kf z H locs ls a1 a2 a3)
theorem qr_if_le (X : qCtx g p s m meth c own nm cc nL ret) {x : Int32} {off : Int} {t : Nat} (ht : (pc : Int) + off = (t : Int)) (hd : decode cc pc = .ok (.ifCond .le off, 3)) (kt : x ≤ 0 → qRun g p e R s m args below meth c nL Z t L st h cu su) (kf : ¬ x ≤ 0 → qRun g p e R s m args below meth c nL Z (pc + 3) L st h cu su) : qRun g p e R s m args below meth c nL Z pc L (.int x :: st) h cu su := fun H locs ls a1 a2 a3 => lv_if_le X.2.1 X.2.2.1 hd ht (fun z => kt z H locs ls a1 a2 a3) (fun z => kf z H locs ls a1 a2 a3)
theorem qr_icmp_le (X : qCtx g p s m meth c own nm cc nL ret) {x y : Int32} {off : Int} {t : Nat} (ht : (pc : Int) + off = (t : Int)) (hd : decode cc pc = .ok (.if_icmp .le off, 3)) (kt : x ≤ y → qRun g p e R s m args below meth c nL Z t L st h cu su) (kf : ¬ x ≤ y → qRun g p e R s m args below meth c nL Z (pc + 3) L st h cu su) : qRun g p e R s m args below meth c nL Z pc L (.int y :: .int x :: st) h cu su := fun H locs ls a1 a2 a3 => lv_icmp_le X.2.1 X.2.2.1 hd ht (fun z => kt z H locs ls a1 a2 a3) (fun z => kf z H locs ls a1 a2 a3)
theorem qr_tableOut (X : qCtx g p s m meth c own nm cc nL ret) {x : Int32} {dflt lo hi : Int} {offs : Array Int} {t : Nat} {len : Nat} (hx : x.toInt < lo ∨ hi < x.toInt) (ht : (pc : Int) + dflt = (t : Int)) (hd : decode cc pc = .ok (.tableswitch dflt lo hi offs, len)) (k : qRun g p e R s m args below meth c nL Z t L (st) h cu su) : qRun g p e R s m args below meth c nL Z pc L (.int x :: st) h cu su := fun H locs ls a1 a2 a3 => lv_tableOut X.2.1 X.2.2.1 hd hx ht (k H locs ls a1 a2 a3)
theorem qr_tableIn (X : qCtx g p s m meth c own nm cc nL ret) {x : Int32} {dflt lo hi off : Int} {offs : Array Int} {t : Nat} {len : Nat} (h1 : ¬ x.toInt < lo) (h2 : ¬ hi < x.toInt) (ho : offs[(x.toInt - lo).toNat]? = some off) (ht : (pc : Int) + off = (t : Int)) (hd : decode cc pc = .ok (.tableswitch dflt lo hi offs, len)) (k : qRun g p e R s m args below meth c nL Z t L (st) h cu su) : qRun g p e R s m args below meth c nL Z pc L (.int x :: st) h cu su := fun H locs ls a1 a2 a3 => lv_tableIn X.2.1 X.2.2.1 hd h1 h2 ho ht (k H locs ls a1 a2 a3)
theorem qr_ldc (X : qCtx g p s m meth c own nm cc nL ret) {idx : Nat} {v : Int32} (hw : Jvm.Cond.constant own idx v ∈ lw_tbl ∧ q_gd (Jvm.Cond.constant own idx v) = true) (hd : decode cc pc = .ok (.ldc idx, 2)) (k : qRun g p e R s m args below meth c nL Z (pc + 2) L (.int v :: st) h cu su) : qRun g p e R s m args below meth c nL Z pc L (st) h cu su := fun H locs ls a1 a2 a3 => lv_ldc X.2.1 X.2.2.1 X.2.2.2.2.2.2.1 (X.word hw.1 hw.2 args) hd (k H locs ls a1 a2 a3)
theorem qr_ldcw (X : qCtx g p s m meth c own nm cc nL ret) {idx : Nat} {v : Int32} (hw : Jvm.Cond.constant own idx v ∈ lw_tbl ∧ q_gd (Jvm.Cond.constant own idx v) = true) (hd : decode cc pc = .ok (.ldc_w idx, 3)) (k : qRun g p e R s m args below meth c nL Z (pc + 3) L (.int v :: st) h cu su) : qRun g p e R s m args below meth c nL Z pc L (st) h cu su := fun H locs ls a1 a2 a3 => lv_ldcw X.2.1 X.2.2.1 X.2.2.2.2.2.2.1 (X.word hw.1 hw.2 args) hd (k H locs ls a1 a2 a3)
theorem qr_ldc2 (X : qCtx g p s m meth c own nm cc nL ret) {idx : Nat} {v : Int64} (hw : Jvm.Cond.constantLong own idx v ∈ lw_tbl ∧ q_gd (Jvm.Cond.constantLong own idx v) = true) (hd : decode cc pc = .ok (.ldc2_w idx, 3)) (k : qRun g p e R s m args below meth c nL Z (pc + 3) L (.long v :: st) h cu su) : qRun g p e R s m args below meth c nL Z pc L (st) h cu su := fun H locs ls a1 a2 a3 => lv_ldc2 X.2.1 X.2.2.1 X.2.2.2.2.2.2.1 (X.word hw.1 hw.2 args) hd (k H locs ls a1 a2 a3)
theorem qr_iald (X : qCtx g p s m meth c own nm cc nL ret) {a n : Nat} {f : Nat → Int32} {i : Int32} (hc : h.2 a = some (.inr (.inl (.int, n, f)))) (hi : vp_in i n) (hd : decode cc pc = .ok (.iaload, 1)) (k : qRun g p e R s m args below meth c nL Z (pc + 1) L (.int (f i.toNatClampNeg) :: st) h cu su) : qRun g p e R s m args below meth c nL Z pc L (.int i :: .ref a :: st) h cu su := by
  intro H locs ls a1 a2 a3
  have hlt : i.toNatClampNeg < n := Nat.not_le.mp fun q => hi (Or.inr q)
  obtain ⟨-, cA, h1, h2⟩ := a1.2.2 a _ hc
  have h3 := arrOfT_moved X.2.2.2.2.2.2.2.1.alike h2
  exact W.iald (v := .int (f i.toNatClampNeg)) X.2.1 X.2.2.1 h1 (h3 n (fun j => .int (f j))) (fun q => by cases q) (by show ¬ (i < 0 ∨ (arrV _ _ _).slots.size ≤ _); rw [arrV_size]; exact hi) (by show (arrV _ _ _).slots[_]? = _; rw [arrV_read _ _ hlt]) rfl rfl hd (k H locs ls a1 a2 a3)
theorem qr_bald (X : qCtx g p s m meth c own nm cc nL ret) {a n : Nat} {f : Nat → Int32} {i : Int32} (hc : h.2 a = some (.inr (.inl (.byte, n, f)))) (hi : vp_in i n) (hd : decode cc pc = .ok (.baload, 1)) (k : qRun g p e R s m args below meth c nL Z (pc + 1) L (.int (f i.toNatClampNeg) :: st) h cu su) : qRun g p e R s m args below meth c nL Z pc L (.int i :: .ref a :: st) h cu su := by
  intro H locs ls a1 a2 a3
  have hlt : i.toNatClampNeg < n := Nat.not_le.mp fun q => hi (Or.inr q)
  obtain ⟨-, cA, h1, h2⟩ := a1.2.2 a _ hc
  have h3 := arrOfT_moved X.2.2.2.2.2.2.2.1.alike h2
  exact W.bald (v := .int (f i.toNatClampNeg)) X.2.1 X.2.2.1 h1 (h3 n (fun j => .int (f j))) (fun q => by cases q) (by show ¬ (i < 0 ∨ (arrV _ _ _).slots.size ≤ _); rw [arrV_size]; exact hi) (by show (arrV _ _ _).slots[_]? = _; rw [arrV_read _ _ hlt]) rfl rfl hd (k H locs ls a1 a2 a3)
theorem qr_zald (X : qCtx g p s m meth c own nm cc nL ret) {a n : Nat} {f : Nat → Int32} {i : Int32} (hc : h.2 a = some (.inr (.inl (.boolean, n, f)))) (hi : vp_in i n) (hd : decode cc pc = .ok (.baload, 1)) (k : qRun g p e R s m args below meth c nL Z (pc + 1) L (.int (f i.toNatClampNeg) :: st) h cu su) : qRun g p e R s m args below meth c nL Z pc L (.int i :: .ref a :: st) h cu su := by
  intro H locs ls a1 a2 a3
  have hlt : i.toNatClampNeg < n := Nat.not_le.mp fun q => hi (Or.inr q)
  obtain ⟨-, cA, h1, h2⟩ := a1.2.2 a _ hc
  have h3 := arrOfT_moved X.2.2.2.2.2.2.2.1.alike h2
  exact W.zald (v := .int (f i.toNatClampNeg)) X.2.1 X.2.2.1 h1 (h3 n (fun j => .int (f j))) (fun q => by cases q) (by show ¬ (i < 0 ∨ (arrV _ _ _).slots.size ≤ _); rw [arrV_size]; exact hi) (by show (arrV _ _ _).slots[_]? = _; rw [arrV_read _ _ hlt]) rfl rfl hd (k H locs ls a1 a2 a3)
theorem qr_lald (X : qCtx g p s m meth c own nm cc nL ret) {a n : Nat} {f : Nat → Int64} {i : Int32} (hc : h.2 a = some (.inr (.inr (.inl (n, f))))) (hi : vp_in i n) (hd : decode cc pc = .ok (.laload, 1)) (k : qRun g p e R s m args below meth c nL Z (pc + 1) L (.long (f i.toNatClampNeg) :: st) h cu su) : qRun g p e R s m args below meth c nL Z pc L (.int i :: .ref a :: st) h cu su := by
  intro H locs ls a1 a2 a3
  have hlt : i.toNatClampNeg < n := Nat.not_le.mp fun q => hi (Or.inr q)
  obtain ⟨-, cA, h1, h2⟩ := a1.2.2 a _ hc
  have h3 := arrOfT_moved X.2.2.2.2.2.2.2.1.alike h2
  exact W.lald (v := .long (f i.toNatClampNeg)) X.2.1 X.2.2.1 h1 (h3 n (fun j => .long (f j))) (fun q => by cases q) (by show ¬ (i < 0 ∨ (arrV _ _ _).slots.size ≤ _); rw [arrV_size]; exact hi) (by show (arrV _ _ _).slots[_]? = _; rw [arrV_read _ _ hlt]) rfl rfl hd (k H locs ls a1 a2 a3)
theorem qr_aald (X : qCtx g p s m meth c own nm cc nL ret) {a n : Nat} {C : String} {f : Nat → Option Nat} {i : Int32} {b : Nat} (hc : h.2 a = some (.inr (.inr (.inr (C, n, f))))) (hi : vp_in i n) (hb : f i.toNatClampNeg = some b) (hd : decode cc pc = .ok (.aaload, 1)) (k : qRun g p e R s m args below meth c nL Z (pc + 1) L (.ref b :: st) h cu su) : qRun g p e R s m args below meth c nL Z pc L (.int i :: .ref a :: st) h cu su := by
  intro H locs ls a1 a2 a3
  have hlt : i.toNatClampNeg < n := Nat.not_le.mp fun q => hi (Or.inr q)
  obtain ⟨-, cA, h1, h2, -⟩ := a1.2.2 a _ hc
  have h3 := arrOfT_moved X.2.2.2.2.2.2.2.1.alike h2
  exact W.aald (v := .ref (g.2.1.heap.size + b)) (ty := .object C) X.2.1 X.2.2.1 h1 (h3 n (fun j => va_rf ((f j).map (fun k => g.2.1.heap.size + k)))) rfl (fun q => by cases q) (by show ¬ (i < 0 ∨ (arrV _ _ _).slots.size ≤ _); rw [arrV_size]; exact hi) (by show (arrV _ _ _).slots[_]? = _; rw [arrV_read _ _ hlt]; show some (va_rf ((f i.toNatClampNeg).map _)) = _; rw [hb]; rfl) rfl rfl hd (k H locs ls a1 a2 a3)
theorem qr_iast (X : qCtx g p s m meth c own nm cc nL ret) {a n : Nat} {f : Nat → Int32} {i : Int32} {x : Int32} (hc : h.2 a = some (.inr (.inl (.int, n, f)))) (hi : vp_in i n) (hd : decode cc pc = .ok (.iastore, 1)) (k : qRun g p e R s m args below meth c nL Z (pc + 1) L st (h.1, qup h.2 a (.inr (.inl (.int, n, upd f i.toNatClampNeg (x))))) cu su) : qRun g p e R s m args below meth c nL Z pc L (.int x :: .int i :: .ref a :: st) h cu su := by
  intro H locs ls a1 a2 a3
  obtain ⟨-, cA, h1, h2⟩ := a1.2.2 a _ hc
  have h3 := arrOfT_moved X.2.2.2.2.2.2.2.1.alike h2
  refine W.iast X.2.1 X.2.2.1 h1 (h3 n (fun j => .int (f j))) (fun q => by cases q) (by show ¬ (i < 0 ∨ (arrV _ _ _).slots.size ≤ _); rw [arrV_size]; exact hi) rfl rfl hd fun H1 e1 z oq => ?_
  refine k H1 _ ls (a1.set hc ⟨cA, ?_, h2⟩ z oq) (fun z hz => ?_) a3
  · rw [e1]
    rw [vp_cell_i, vp_cell_i, arrV_store]
    congr 2
    funext q
    by_cases hq : q = i.toNatClampNeg
    · subst hq
      simp [updV, upd]
      try rfl
    · simp [updV, upd, hq]
  · rcases List.mem_append.mp hz with h4 | h4
    · exact a2 z h4
    · rw [List.mem_singleton.mp h4]
      exact Nat.le_add_right _ _
theorem qr_bast (X : qCtx g p s m meth c own nm cc nL ret) {a n : Nat} {f : Nat → Int32} {i : Int32} {x : Int32} (hc : h.2 a = some (.inr (.inl (.byte, n, f)))) (hi : vp_in i n) (hd : decode cc pc = .ok (.bastore, 1)) (k : qRun g p e R s m args below meth c nL Z (pc + 1) L st (h.1, qup h.2 a (.inr (.inl (.byte, n, upd f i.toNatClampNeg (vp_nar .byte x))))) cu su) : qRun g p e R s m args below meth c nL Z pc L (.int x :: .int i :: .ref a :: st) h cu su := by
  intro H locs ls a1 a2 a3
  obtain ⟨-, cA, h1, h2⟩ := a1.2.2 a _ hc
  have h3 := arrOfT_moved X.2.2.2.2.2.2.2.1.alike h2
  refine W.bast X.2.1 X.2.2.1 h1 (h3 n (fun j => .int (f j))) (fun q => by cases q) (by show ¬ (i < 0 ∨ (arrV _ _ _).slots.size ≤ _); rw [arrV_size]; exact hi) rfl rfl hd fun H1 e1 z oq => ?_
  refine k H1 _ ls (a1.set hc ⟨cA, ?_, h2⟩ z oq) (fun z hz => ?_) a3
  · rw [e1]
    rw [vp_cell_i, vp_cell_i, arrV_store]
    congr 2
    funext q
    by_cases hq : q = i.toNatClampNeg
    · subst hq
      simp [updV, upd, vp_nar]
      try rfl
    · simp [updV, upd, vp_nar, hq]
  · rcases List.mem_append.mp hz with h4 | h4
    · exact a2 z h4
    · rw [List.mem_singleton.mp h4]
      exact Nat.le_add_right _ _
theorem qr_zast (X : qCtx g p s m meth c own nm cc nL ret) {a n : Nat} {f : Nat → Int32} {i : Int32} {x : Int32} (hc : h.2 a = some (.inr (.inl (.boolean, n, f)))) (hi : vp_in i n) (hd : decode cc pc = .ok (.bastore, 1)) (k : qRun g p e R s m args below meth c nL Z (pc + 1) L st (h.1, qup h.2 a (.inr (.inl (.boolean, n, upd f i.toNatClampNeg (vp_nar .boolean x))))) cu su) : qRun g p e R s m args below meth c nL Z pc L (.int x :: .int i :: .ref a :: st) h cu su := by
  intro H locs ls a1 a2 a3
  obtain ⟨-, cA, h1, h2⟩ := a1.2.2 a _ hc
  have h3 := arrOfT_moved X.2.2.2.2.2.2.2.1.alike h2
  refine W.zast X.2.1 X.2.2.1 h1 (h3 n (fun j => .int (f j))) (fun q => by cases q) (by show ¬ (i < 0 ∨ (arrV _ _ _).slots.size ≤ _); rw [arrV_size]; exact hi) rfl rfl hd fun H1 e1 z oq => ?_
  refine k H1 _ ls (a1.set hc ⟨cA, ?_, h2⟩ z oq) (fun z hz => ?_) a3
  · rw [e1]
    rw [vp_cell_i, vp_cell_i, arrV_store]
    congr 2
    funext q
    by_cases hq : q = i.toNatClampNeg
    · subst hq
      simp [updV, upd, vp_nar]
      try rfl
    · simp [updV, upd, vp_nar, hq]
  · rcases List.mem_append.mp hz with h4 | h4
    · exact a2 z h4
    · rw [List.mem_singleton.mp h4]
      exact Nat.le_add_right _ _
theorem qr_last (X : qCtx g p s m meth c own nm cc nL ret) {a n : Nat} {f : Nat → Int64} {i : Int32} {x : Int64} (hc : h.2 a = some (.inr (.inr (.inl (n, f))))) (hi : vp_in i n) (hd : decode cc pc = .ok (.lastore, 1)) (k : qRun g p e R s m args below meth c nL Z (pc + 1) L st (h.1, qup h.2 a (.inr (.inr (.inl (n, vp_updL f i.toNatClampNeg (x)))))) cu su) : qRun g p e R s m args below meth c nL Z pc L (.long x :: .int i :: .ref a :: st) h cu su := by
  intro H locs ls a1 a2 a3
  obtain ⟨-, cA, h1, h2⟩ := a1.2.2 a _ hc
  have h3 := arrOfT_moved X.2.2.2.2.2.2.2.1.alike h2
  refine W.last X.2.1 X.2.2.1 h1 (h3 n (fun j => .long (f j))) (fun q => by cases q) (by show ¬ (i < 0 ∨ (arrV _ _ _).slots.size ≤ _); rw [arrV_size]; exact hi) rfl rfl hd fun H1 e1 z oq => ?_
  refine k H1 _ ls (a1.set hc ⟨cA, ?_, h2⟩ z oq) (fun z hz => ?_) a3
  · rw [e1]
    rw [vp_cell_l, vp_cell_l, arrV_store]
    congr 2
    funext q
    by_cases hq : q = i.toNatClampNeg
    · subst hq
      simp [updV, vp_updL]
      try rfl
    · simp [updV, vp_updL, hq]
  · rcases List.mem_append.mp hz with h4 | h4
    · exact a2 z h4
    · rw [List.mem_singleton.mp h4]
      exact Nat.le_add_right _ _
theorem qr_aast (X : qCtx g p s m meth c own nm cc nL ret) {a n b ci : Nat} {C : String} {f : Nat → Option Nat} {fs : List Value} {i : Int32} {r : vw_C} (hc : h.2 a = some (.inr (.inr (.inr (C, n, f))))) (hb : h.2 b = some (.inl (ci, fs))) (hr : vwCl[ci]? = some r) (hC : r.1 = C) (hi : vp_in i n) (hd : decode cc pc = .ok (.aastore, 1)) (k : qRun g p e R s m args below meth c nL Z (pc + 1) L st (h.1, qup h.2 a (.inr (.inr (.inr (C, n, va_up f i.toNatClampNeg (some b)))))) cu su) : qRun g p e R s m args below meth c nL Z pc L (.ref b :: .int i :: .ref a :: st) h cu su := by
  intro H locs ls a1 a2 a3
  subst hC
  have hlt : i.toNatClampNeg < n := Nat.not_le.mp fun q => hi (Or.inr q)
  have h0 : ¬ i < 0 := fun q => hi (Or.inl q)
  obtain ⟨-, cA, h1, h2, h2'⟩ := a1.2.2 a _ hc
  obtain ⟨-, r', hr', cellV, g1, g2, g3, -⟩ := a1.2.2 b _ hb
  have hcls := (X.K.1 ci r hr).2
  obtain ⟨kA, comp, k1, k2, k3, -⟩ := va_RA.moved X.2.2.2.2.2.2.2.1.alike h2'
  have hcomp : comp = g.2.2.1.1 ci := Option.some.inj (k3.symm.trans hcls.1)
  subst hcomp
  obtain ⟨kC, hkC, -⟩ := hcls.2
  refine W.aast X.2.1 X.2.2.1 h1 (fun q h => by cases h) (fun h => by cases h) k1 k2 rfl hkC ⟨h0, by show _ < (arrV _ _ _).slots.size; rw [arrV_size]; exact hlt⟩ g1 (fun q h => by rw [g3] at h; cases h) (by rw [g2]; exact hkC) (by rw [g2]; exact va_assign hcls) rfl rfl hd fun H1 e1 z oq => ?_
  refine k H1 _ ls (a1.set hc ⟨cA, ?_, h2, h2'⟩ z oq) (fun z hz => ?_) a3
  · rw [e1]
    rw [vp_cell_q, vp_cell_q, arrV_store]
    congr 2
    funext q
    by_cases hq : q = i.toNatClampNeg
    · subst hq
      simp [updV, va_up, va_rf]
    · simp [updV, va_up, hq]
  · rcases List.mem_append.mp hz with h4 | h4
    · exact a2 z h4
    · rw [List.mem_singleton.mp h4]
      exact Nat.le_add_right _ _
theorem qr_alenI (X : qCtx g p s m meth c own nm cc nL ret) {a n : Nat} {ty : FieldType} {f : Nat → Int32} (hc : h.2 a = some (.inr (.inl (ty, n, f)))) (hd : decode cc pc = .ok (.arraylength, 1)) (k : qRun g p e R s m args below meth c nL Z (pc + 1) L (.int (Int32.ofNat n) :: st) h cu su) : qRun g p e R s m args below meth c nL Z pc L (.ref a :: st) h cu su := by
  intro H locs ls a1 a2 a3
  obtain ⟨-, cA, h1, h2⟩ := a1.2.2 a _ hc
  have h3 := arrOfT_moved X.2.2.2.2.2.2.2.1.alike h2
  exact W.alen (n := Int32.ofNat n) X.2.1 X.2.2.1 h1 (h3 n (fun j => .int (f j))) (by show (arrV _ _ _).slots.size.toInt32 = _; rw [arrV_size] <;> rfl) rfl rfl hd (k H locs ls a1 a2 a3)
theorem qr_alenL (X : qCtx g p s m meth c own nm cc nL ret) {a n : Nat} {f : Nat → Int64} (hc : h.2 a = some (.inr (.inr (.inl (n, f))))) (hd : decode cc pc = .ok (.arraylength, 1)) (k : qRun g p e R s m args below meth c nL Z (pc + 1) L (.int (Int32.ofNat n) :: st) h cu su) : qRun g p e R s m args below meth c nL Z pc L (.ref a :: st) h cu su := by
  intro H locs ls a1 a2 a3
  obtain ⟨-, cA, h1, h2⟩ := a1.2.2 a _ hc
  have h3 := arrOfT_moved X.2.2.2.2.2.2.2.1.alike h2
  exact W.alen (n := Int32.ofNat n) X.2.1 X.2.2.1 h1 (h3 n (fun j => .long (f j))) (by show (arrV _ _ _).slots.size.toInt32 = _; rw [arrV_size] <;> rfl) rfl rfl hd (k H locs ls a1 a2 a3)
theorem qr_alenA (X : qCtx g p s m meth c own nm cc nL ret) {a n : Nat} {C : String} {f : Nat → Option Nat} (hc : h.2 a = some (.inr (.inr (.inr (C, n, f))))) (hd : decode cc pc = .ok (.arraylength, 1)) (k : qRun g p e R s m args below meth c nL Z (pc + 1) L (.int (Int32.ofNat n) :: st) h cu su) : qRun g p e R s m args below meth c nL Z pc L (.ref a :: st) h cu su := by
  intro H locs ls a1 a2 a3
  obtain ⟨-, cA, h1, h2, -⟩ := a1.2.2 a _ hc
  have h3 := arrOfT_moved X.2.2.2.2.2.2.2.1.alike h2
  exact W.alen (n := Int32.ofNat n) X.2.1 X.2.2.1 h1 (h3 n (fun j => va_rf ((f j).map (fun k => g.2.1.heap.size + k)))) (by show (arrV _ _ _).slots.size.toInt32 = _; rw [arrV_size] <;> rfl) rfl rfl hd (k H locs ls a1 a2 a3)
end QR
