/-! the weakest condition of an instruction, computed; and that it is enough (written by a program) -/
section QW
abbrev qEl : Type := Instr × Nat × Nat × Nat × Int32 × Int64
abbrev qK0 : Type := Nat → List (Nat × Value) → List Value → qH → Nat → Nat → Prop
abbrev qN0 : Type := List (Nat × Value) → List Value → qH → Nat → Nat → Prop
def qlenE : qE → Option Nat
  | .inl _ => none
  | .inr (.inl x) => some x.2.1
  | .inr (.inr (.inl x)) => some x.1
  | .inr (.inr (.inr x)) => some x.2.1
def qcat (st : List Value) : Nat := (st.map Value.category).sum
def qnum (d d2 mc mc2 cu ms ms2 su : Nat) (r : List Value) : Bool := Nat.ble (d2 + 1) d && (Nat.ble (cu + mc2) mc && (Nat.ble (su + ms2) ms && Nat.ble (qcat r) 30))
theorem qnum_ok {d d2 mc mc2 cu ms ms2 su : Nat} {r : List Value} (h : qnum d d2 mc mc2 cu ms ms2 su r = true) : d2 + 1 ≤ (qRoom d mc ms).frames ∧ 120 * d2 + 101 ≤ (qRoom d mc ms).locals ∧ cu + mc2 ≤ (qRoom d mc ms).cells ∧ su + ms2 ≤ (qRoom d mc ms).slots ∧ (r.map Value.category).sum ≤ 30 := by
  unfold qnum at h
  simp only [Bool.and_eq_true] at h
  have h1 := Nat.le_of_ble_eq_true h.1
  exact ⟨h1, by show _ ≤ 120 * d; omega, Nat.le_of_ble_eq_true h.2.1, Nat.le_of_ble_eq_true h.2.2.1, Nat.le_of_ble_eq_true h.2.2.2⟩
theorem q_nfw : nativeFrameWords "java/lang/System" "arraycopy" 5 ≤ 60 := by decide +kernel
theorem qK_in {ow idx : Nat} {v : Int32} (h : qK.any (fun q => q.1 == ow && q.2.1 == idx && q.2.2.1 == v) = true) : Jvm.Cond.constant (qown ow) idx v ∈ lw_tbl ∧ q_gd (Jvm.Cond.constant (qown ow) idx v) = true := by
  obtain ⟨⟨a, b, x, ps⟩, hm, hq⟩ := List.any_eq_true.mp h
  simp only [Bool.and_eq_true, beq_iff_eq] at hq
  obtain ⟨⟨rfl, rfl⟩, rfl⟩ := hq
  have h1 := qK_ok _ hm
  unfold qKb at h1
  simp only [Bool.and_eq_true, decide_eq_true_eq] at h1
  exact ⟨qat_in h1.1, h1.2⟩
theorem qL_in {ow idx : Nat} {v : Int64} (h : qL.any (fun q => q.1 == ow && q.2.1 == idx && q.2.2.1 == v) = true) : Jvm.Cond.constantLong (qown ow) idx v ∈ lw_tbl ∧ q_gd (Jvm.Cond.constantLong (qown ow) idx v) = true := by
  obtain ⟨⟨a, b, x, ps⟩, hm, hq⟩ := List.any_eq_true.mp h
  simp only [Bool.and_eq_true, beq_iff_eq] at hq
  obtain ⟨⟨rfl, rfl⟩, rfl⟩ := hq
  have h1 := qL_ok _ hm
  unfold qLb at h1
  simp only [Bool.and_eq_true, decide_eq_true_eq] at h1
  exact ⟨qat_in h1.1, h1.2⟩
theorem qO_in {ow idx : Nat} (h : qO.any (fun q => q.1 == ow && q.2.1 == idx) = true) : Jvm.Cond.methodLink (qown ow) idx Jvm.Lib.objectInit ∈ lw_tbl := by
  obtain ⟨⟨a, b, ps⟩, hm, hq⟩ := List.any_eq_true.mp h
  simp only [Bool.and_eq_true, beq_iff_eq] at hq
  obtain ⟨rfl, rfl⟩ := hq
  exact qat_in (of_decide_eq_true (qO_ok _ hm))
theorem qA_in {ow idx : Nat} (h : qA.any (fun q => q.1 == ow && q.2.1 == idx) = true) : Jvm.Cond.methodLink (qown ow) idx arraycopyName ∈ lw_tbl := by
  obtain ⟨⟨a, b, ps⟩, hm, hq⟩ := List.any_eq_true.mp h
  simp only [Bool.and_eq_true, beq_iff_eq] at hq
  obtain ⟨rfl, rfl⟩ := hq
  exact qat_in (of_decide_eq_true (qA_ok _ hm))
theorem qFk_any {ow idx ci k : Nat} (h : qF.any (fun q => q.1 == ow && q.2.1 == idx && q.2.2.1 == ci && q.2.2.2.1 == k) = true) : qFk (qown ow) idx ci k := by
  obtain ⟨⟨a, b, x, y, z, ps⟩, hm, hq⟩ := List.any_eq_true.mp h
  simp only [Bool.and_eq_true, beq_iff_eq] at hq
  obtain ⟨⟨⟨rfl, rfl⟩, rfl⟩, rfl⟩ := hq
  exact qFk_of hm
theorem qCk_any {ow idx ci n : Nat} (h : qC.any (fun q => q.1 == ow && q.2.1 == idx && q.2.2.1 == ci) = true) (hn : (vwCl[ci]?).map (fun r => r.2.2) = some n) : qCk (qown ow) idx ci n := by
  obtain ⟨⟨a, b, x, p1, p2, p3⟩, hm, hq⟩ := List.any_eq_true.mp h
  simp only [Bool.and_eq_true, beq_iff_eq] at hq
  obtain ⟨⟨rfl, rfl⟩, rfl⟩ := hq
  refine qCk_of hm (fun r hr => ?_)
  rw [hr] at hn
  exact Option.some.inj hn
/-- may the field be written here: it isn't final, or this is its class's constructor -/
def qfin (ow : Nat) (ini : Bool) (ci k : Nat) : Bool := match vwCl[ci]? with
  | some r => !(r.2.1 k).2.2.2 || (ini && decide ((r.2.1 k).1 = qown ow))
  | none => true
theorem qfin_ok {ow : Nat} {ini : Bool} {ci k : Nat} {nm : String} (hin : ini = true → nm = "<init>") (h : qfin ow ini ci k = true) : ∀ r : vw_C, vwCl[ci]? = some r → (r.2.1 k).2.2.2 = false ∨ (nm = "<init>" ∧ (r.2.1 k).1 = qown ow) := by
  intro r hr
  unfold qfin at h
  rw [hr] at h
  rcases (Bool.or_eq_true _ _).mp h with h | h
  · exact Or.inl (by simpa using h)
  · simp only [Bool.and_eq_true, decide_eq_true_eq] at h
    exact Or.inr ⟨hin h.1, h.2⟩
def qchk (ow nL : Nat) (ini : Bool) (pc : Nat) (el : qEl) : Bool := match el with
  | (i, len, r1, r2, v, w) => match i with
    | .iconst n => decide (len = 1) && (decide (Int32.ofInt n = v))
    | .bipush n => decide (len = 2) && (decide ((Int8.ofInt n).toInt32 = v))
    | .sipush n => decide (len = 3) && (decide ((Int16.ofInt n).toInt32 = v))
    | .lconst n => decide (len = 1) && (decide (Int64.ofNat (n : Nat) = w))
    | .iload_n n => decide (len = 1)
    | .iload n => decide (len = 2)
    | .lload_n n => decide (len = 1)
    | .lload n => decide (len = 2)
    | .aload_n n => decide (len = 1)
    | .aload n => decide (len = 2)
    | .istore_n n => decide (len = 1) && (decide ((n : Nat) < nL))
    | .istore n => decide (len = 2) && (decide (n < nL))
    | .lstore_n n => decide (len = 1) && (decide ((n : Nat) + 1 < nL))
    | .lstore n => decide (len = 2) && (decide (n + 1 < nL))
    | .astore_n n => decide (len = 1) && (decide ((n : Nat) < nL))
    | .astore n => decide (len = 2) && (decide (n < nL))
    | .iinc i n => decide (len = 3) && (decide (i < nL) && decide (Int32.ofInt n = v))
    | .iadd => decide (len = 1)
    | .isub => decide (len = 1)
    | .imul => decide (len = 1)
    | .iand => decide (len = 1)
    | .ior => decide (len = 1)
    | .ixor => decide (len = 1)
    | .ishl => decide (len = 1)
    | .ishr => decide (len = 1)
    | .iushr => decide (len = 1)
    | .idiv => decide (len = 1)
    | .irem => decide (len = 1)
    | .ladd => decide (len = 1)
    | .lsub => decide (len = 1)
    | .lmul => decide (len = 1)
    | .ldiv => decide (len = 1)
    | .lrem => decide (len = 1)
    | .lcmp => decide (len = 1)
    | .i2l => decide (len = 1)
    | .i2b => decide (len = 1)
    | .dup => decide (len = 1)
    | .pop => decide (len = 1)
    | .dup2 => decide (len = 1)
    | .goto off => decide (len = 3) && (decide ((pc : Int) + off = (r1 : Int)))
    | .ifCond .eq off => decide (len = 3) && (decide ((pc : Int) + off = (r1 : Int)))
    | .if_icmp .eq off => decide (len = 3) && (decide ((pc : Int) + off = (r1 : Int)))
    | .ifCond .ne off => decide (len = 3) && (decide ((pc : Int) + off = (r1 : Int)))
    | .if_icmp .ne off => decide (len = 3) && (decide ((pc : Int) + off = (r1 : Int)))
    | .ifCond .lt off => decide (len = 3) && (decide ((pc : Int) + off = (r1 : Int)))
    | .if_icmp .lt off => decide (len = 3) && (decide ((pc : Int) + off = (r1 : Int)))
    | .ifCond .ge off => decide (len = 3) && (decide ((pc : Int) + off = (r1 : Int)))
    | .if_icmp .ge off => decide (len = 3) && (decide ((pc : Int) + off = (r1 : Int)))
    | .ifCond .gt off => decide (len = 3) && (decide ((pc : Int) + off = (r1 : Int)))
    | .if_icmp .gt off => decide (len = 3) && (decide ((pc : Int) + off = (r1 : Int)))
    | .ifCond .le off => decide (len = 3) && (decide ((pc : Int) + off = (r1 : Int)))
    | .if_icmp .le off => decide (len = 3) && (decide ((pc : Int) + off = (r1 : Int)))
    | .tableswitch dflt lo hi offs => true
    | .ldc idx => decide (len = 2) && (decide (r1 = 1) || qK.any (fun q => q.1 == ow && q.2.1 == idx && q.2.2.1 == v))
    | .ldc_w idx => decide (len = 3) && (decide (r1 = 1) || qK.any (fun q => q.1 == ow && q.2.1 == idx && q.2.2.1 == v))
    | .getstatic idx => decide (len = 3)
    | .i2c => decide (len = 1)
    | .anewarray idx => decide (len = 3)
    | .ldc2_w idx => decide (len = 3) && (qL.any (fun q => q.1 == ow && q.2.1 == idx && q.2.2.1 == w))
    | .iaload => decide (len = 1)
    | .baload => decide (len = 1)
    | .laload => decide (len = 1)
    | .aaload => decide (len = 1)
    | .iastore => decide (len = 1)
    | .bastore => decide (len = 1)
    | .lastore => decide (len = 1)
    | .aastore => decide (len = 1)
    | .arraylength => decide (len = 1)
    | .getfield idx => decide (len = 3) && (qF.any (fun q => q.1 == ow && q.2.1 == idx && q.2.2.1 == r1 && q.2.2.2.1 == r2) || decide (r1 = 99))
    | .putfield idx => decide (len = 3) && (qF.any (fun q => q.1 == ow && q.2.1 == idx && q.2.2.1 == r1 && q.2.2.2.1 == r2) && qfin ow ini r1 r2)
    | .new idx => decide (len = 3) && (qC.any (fun q => q.1 == ow && q.2.1 == idx && q.2.2.1 == r1) && decide ((vwCl[r1]?).map (fun r => r.2.2) = some r2))
    | .newarray t => decide (len = 2)
    | .ireturn => decide (len = 1)
    | .lreturn => decide (len = 1)
    | .return_ => decide (len = 1)
    | .areturn => decide (len = 1)
    | .aconst_null => decide (len = 1)
    | .ifnonnull off => decide (len = 3) && (decide ((pc : Int) + off = (r1 : Int)))
    | .invokevirtual idx => decide (len = 3)
    | .invokestatic idx => decide (len = 3) && (decide (r1 = 0) || (qA.any (fun q => q.1 == ow && q.2.1 == idx)))
    | .invokespecial idx => decide (len = 3) && (decide (r1 = 0) || (qO.any (fun q => q.1 == ow && q.2.1 == idx)))
    | _ => false
def wp1 (g : qG) (ow d mc ms : Nat) (ret : Option FieldType) (P : Option Value → qH → Prop) (KN : qN0) (KJ : qK0) (KX : Nat → List (Nat × Value) → String → qH → Nat → Nat → Prop) (el : qEl) (pc : Nat) (L : List (Nat × Value)) (st : List Value) (h : qH) (cu su : Nat) : Prop := match el with
  | (i, len, r1, r2, v, w) => match i with
    | .iconst n => (KN L (.int v :: st) h cu su)
    | .bipush n => (KN L (.int v :: st) h cu su)
    | .sipush n => (KN L (.int v :: st) h cu su)
    | .lconst n => (KN L (.long w :: st) h cu su)
    | .iload_n n => (match qld L (n : Nat) with | some (.int x) => KN L (.int x :: st) h cu su | _ => False)
    | .iload n => (match qld L n with | some (.int x) => KN L (.int x :: st) h cu su | _ => False)
    | .lload_n n => (match qld L (n : Nat) with | some (.long x) => KN L (.long x :: st) h cu su | _ => False)
    | .lload n => (match qld L n with | some (.long x) => KN L (.long x :: st) h cu su | _ => False)
    | .aload_n n => (match qld L (n : Nat) with | some (.ref x) => KN L (.ref x :: st) h cu su | some (.retAddr x) => KN L (.retAddr x :: st) h cu su | some .null => KN L (.null :: st) h cu su | _ => False)
    | .aload n => (match qld L n with | some (.ref x) => KN L (.ref x :: st) h cu su | some (.retAddr x) => KN L (.retAddr x :: st) h cu su | some .null => KN L (.null :: st) h cu su | _ => False)
    | .istore_n n => (match st with | .int x :: r => KN (qs1 L (n : Nat) (.int x)) r h cu su | _ => False)
    | .istore n => (match st with | .int x :: r => KN (qs1 L n (.int x)) r h cu su | _ => False)
    | .lstore_n n => (match st with | .long x :: r => KN (qs2 L (n : Nat) (.long x)) r h cu su | _ => False)
    | .lstore n => (match st with | .long x :: r => KN (qs2 L n (.long x)) r h cu su | _ => False)
    | .astore_n n => (match st with | .ref x :: r => KN (qs1 L (n : Nat) (.ref x)) r h cu su | .retAddr x :: r => KN (qs1 L (n : Nat) (.retAddr x)) r h cu su | .null :: r => KN (qs1 L (n : Nat) .null) r h cu su | _ => False)
    | .astore n => (match st with | .ref x :: r => KN (qs1 L n (.ref x)) r h cu su | .retAddr x :: r => KN (qs1 L n (.retAddr x)) r h cu su | .null :: r => KN (qs1 L n .null) r h cu su | _ => False)
    | .iinc i n => (match qld L i with | some (.int x) => KN (qs1 L i (.int (x + v))) st h cu su | _ => False)
    | .iadd => (match st with | .int y :: .int x :: r => KN L (.int (x + y) :: r) h cu su | _ => False)
    | .isub => (match st with | .int y :: .int x :: r => KN L (.int (x - y) :: r) h cu su | _ => False)
    | .imul => (match st with | .int y :: .int x :: r => KN L (.int (x * y) :: r) h cu su | _ => False)
    | .iand => (match st with | .int y :: .int x :: r => KN L (.int (x &&& y) :: r) h cu su | _ => False)
    | .ior => (match st with | .int y :: .int x :: r => KN L (.int (x ||| y) :: r) h cu su | _ => False)
    | .ixor => (match st with | .int y :: .int x :: r => KN L (.int (x ^^^ y) :: r) h cu su | _ => False)
    | .ishl => (match st with | .int y :: .int x :: r => KN L (.int (x <<< (y &&& 31)) :: r) h cu su | _ => False)
    | .ishr => (match st with | .int y :: .int x :: r => KN L (.int (x >>> (y &&& 31)) :: r) h cu su | _ => False)
    | .iushr => (match st with | .int y :: .int x :: r => KN L (.int (x.toUInt32 >>> (y.toUInt32 &&& Int32.toUInt32 31)).toInt32 :: r) h cu su | _ => False)
    | .idiv => (match st with | .int y :: .int x :: r => ¬ y = 0 ∧ KN L (.int (x / y) :: r) h cu su | _ => False)
    | .irem => (match st with | .int y :: .int x :: r => ¬ y = 0 ∧ KN L (.int (x - x / y * y) :: r) h cu su | _ => False)
    | .ladd => (match st with | .long y :: .long x :: r => KN L (.long (x + y) :: r) h cu su | _ => False)
    | .lsub => (match st with | .long y :: .long x :: r => KN L (.long (x - y) :: r) h cu su | _ => False)
    | .lmul => (match st with | .long y :: .long x :: r => KN L (.long (x * y) :: r) h cu su | _ => False)
    | .ldiv => (match st with | .long y :: .long x :: r => ¬ y = 0 ∧ KN L (.long (x / y) :: r) h cu su | _ => False)
    | .lrem => (match st with | .long y :: .long x :: r => ¬ y = 0 ∧ KN L (.long (x - x / y * y) :: r) h cu su | _ => False)
    | .lcmp => (match st with | .long y :: .long x :: r => KN L (.int (lg_cmp x y) :: r) h cu su | _ => False)
    | .i2l => (match st with | .int x :: r => KN L (.long x.toInt64 :: r) h cu su | _ => False)
    | .i2b => (match st with | .int x :: r => KN L (.int x.toInt8.toInt32 :: r) h cu su | _ => False)
    | .dup => (match st with | y :: r => y.category = 1 ∧ KN L (y :: y :: r) h cu su | _ => False)
    | .pop => (match st with | y :: r => y.category = 1 ∧ KN L r h cu su | _ => False)
    | .dup2 => (match st with | y :: z :: r => (y.category = 1 ∧ z.category = 1) ∧ KN L (y :: z :: y :: z :: r) h cu su | _ => False)
    | .goto off => (KJ r1 L st h cu su)
    | .ifCond .eq off => (match st with | .int x :: r => (x = 0 → KJ r1 L r h cu su) ∧ (¬ x = 0 → KN L r h cu su) | _ => False)
    | .if_icmp .eq off => (match st with | .int y :: .int x :: r => (x = y → KJ r1 L r h cu su) ∧ (¬ x = y → KN L r h cu su) | _ => False)
    | .ifCond .ne off => (match st with | .int x :: r => (¬ x = 0 → KJ r1 L r h cu su) ∧ (x = 0 → KN L r h cu su) | _ => False)
    | .if_icmp .ne off => (match st with | .int y :: .int x :: r => (¬ x = y → KJ r1 L r h cu su) ∧ (x = y → KN L r h cu su) | _ => False)
    | .ifCond .lt off => (match st with | .int x :: r => (x < 0 → KJ r1 L r h cu su) ∧ (¬ x < 0 → KN L r h cu su) | _ => False)
    | .if_icmp .lt off => (match st with | .int y :: .int x :: r => (x < y → KJ r1 L r h cu su) ∧ (¬ x < y → KN L r h cu su) | _ => False)
    | .ifCond .ge off => (match st with | .int x :: r => (0 ≤ x → KJ r1 L r h cu su) ∧ (¬ 0 ≤ x → KN L r h cu su) | _ => False)
    | .if_icmp .ge off => (match st with | .int y :: .int x :: r => (y ≤ x → KJ r1 L r h cu su) ∧ (¬ y ≤ x → KN L r h cu su) | _ => False)
    | .ifCond .gt off => (match st with | .int x :: r => (0 < x → KJ r1 L r h cu su) ∧ (¬ 0 < x → KN L r h cu su) | _ => False)
    | .if_icmp .gt off => (match st with | .int y :: .int x :: r => (y < x → KJ r1 L r h cu su) ∧ (¬ y < x → KN L r h cu su) | _ => False)
    | .ifCond .le off => (match st with | .int x :: r => (x ≤ 0 → KJ r1 L r h cu su) ∧ (¬ x ≤ 0 → KN L r h cu su) | _ => False)
    | .if_icmp .le off => (match st with | .int y :: .int x :: r => (x ≤ y → KJ r1 L r h cu su) ∧ (¬ x ≤ y → KN L r h cu su) | _ => False)
    | .tableswitch dflt lo hi offs => (match st with | .int x :: r => (x.toInt < lo ∨ hi < x.toInt → ∃ t : Nat, (pc : Int) + dflt = (t : Int) ∧ KJ t L r h cu su) ∧ (∀ j : Nat, ¬ x.toInt < lo → ¬ hi < x.toInt → (x.toInt - lo).toNat = j → ∃ (off : Int) (t : Nat), offs[j]? = some off ∧ (pc : Int) + off = (t : Int) ∧ KJ t L r h cu su) | _ => False)
    | .ldc idx => ((r1 = 1 ∧ ∃ (j : Nat) (tx : String), vk_R (qown ow) idx tx (g.2.2.2 j) g.2.1 ∧ KN L (.retAddr j :: st) h cu su) ∨ (¬ r1 = 1 ∧ KN L (.int v :: st) h cu su))
    | .ldc_w idx => ((r1 = 1 ∧ ∃ (j : Nat) (tx : String), vk_R (qown ow) idx tx (g.2.2.2 j) g.2.1 ∧ KN L (.retAddr j :: st) h cu su) ∨ (¬ r1 = 1 ∧ KN L (.int v :: st) h cu su))
    | .getstatic idx => (∃ y : Value, qGS g (qown ow) idx y ∧ KN L (y :: st) h cu su)
    | .i2c => (match st with | .int x :: r => KN L (.int (x.toUInt32 % 65536).toInt32 :: r) h cu su | _ => False)
    | .anewarray idx => (match st with | .int x :: r => ∃ (C : String) (n : Nat), Jvm.Cond.classLink (qown ow) idx C ∈ lw_tbl ∧ Jvm.Cond.arrayOver (.object C) ∈ lw_tbl ∧ va_AO C g.2.1 ∧ ¬ x < 0 ∧ x.toNatClampNeg = n ∧ n ≤ 60000000 ∧ cu + 1 ≤ mc ∧ su + n ≤ ms ∧ KN L (.ref h.1 :: r) (h.1 + 1, qup h.2 h.1 (.inr (.inr (.inr (C, n, fun _ => none))))) (cu + 1) (su + n) | _ => False)
    | .ldc2_w idx => (KN L (.long w :: st) h cu su)
    | .iaload => (match st with | .int i :: .ref a :: r => ∃ (n : Nat) (f : Nat → Int32), h.2 a = some (.inr (.inl (.int, n, f))) ∧ vp_in i n ∧ KN L (.int (f i.toNatClampNeg) :: r) h cu su | .int i :: .retAddr j :: r => ∃ (n : Nat) (f : Nat → Int32), qScr g .int j n f ∧ vp_in i n ∧ KN L (.int (f i.toNatClampNeg) :: r) h cu su | _ => False)
    | .baload => (match st with | .int i :: .ref a :: r => ∃ (ty : FieldType) (n : Nat) (f : Nat → Int32), h.2 a = some (.inr (.inl (ty, n, f))) ∧ (ty = .byte ∨ ty = .boolean) ∧ vp_in i n ∧ KN L (.int (f i.toNatClampNeg) :: r) h cu su | .int i :: .retAddr j :: r => ∃ (n : Nat) (f : Nat → Int32), qScr g .byte j n f ∧ vp_in i n ∧ KN L (.int (f i.toNatClampNeg) :: r) h cu su | _ => False)
    | .laload => (match st with | .int i :: .ref a :: r => ∃ (n : Nat) (f : Nat → Int64), h.2 a = some (.inr (.inr (.inl (n, f)))) ∧ vp_in i n ∧ KN L (.long (f i.toNatClampNeg) :: r) h cu su | _ => False)
    | .aaload => (match st with | .int i :: .ref a :: r => ∃ (C : String) (n : Nat) (f : Nat → Option Nat) (b : Nat), h.2 a = some (.inr (.inr (.inr (C, n, f)))) ∧ vp_in i n ∧ f i.toNatClampNeg = some b ∧ KN L (.ref b :: r) h cu su | _ => False)
    | .iastore => (match st with | .int x :: .int i :: .ref a :: r => ∃ (n : Nat) (f : Nat → Int32), h.2 a = some (.inr (.inl (.int, n, f))) ∧ vp_in i n ∧ KN L r (h.1, qup h.2 a (.inr (.inl (.int, n, upd f i.toNatClampNeg x)))) cu su | _ => False)
    | .bastore => (match st with | .int x :: .int i :: .ref a :: r => ∃ (ty : FieldType) (n : Nat) (f : Nat → Int32), h.2 a = some (.inr (.inl (ty, n, f))) ∧ (ty = .byte ∨ ty = .boolean) ∧ vp_in i n ∧ KN L r (h.1, qup h.2 a (.inr (.inl (ty, n, upd f i.toNatClampNeg (vp_nar ty x))))) cu su | _ => False)
    | .lastore => (match st with | .long x :: .int i :: .ref a :: r => ∃ (n : Nat) (f : Nat → Int64), h.2 a = some (.inr (.inr (.inl (n, f)))) ∧ vp_in i n ∧ KN L r (h.1, qup h.2 a (.inr (.inr (.inl (n, vp_updL f i.toNatClampNeg x))))) cu su | _ => False)
    | .aastore => (match st with | .ref b :: .int i :: .ref a :: r => ∃ (C : String) (n : Nat) (f : Nat → Option Nat) (ci : Nat) (fs : List Value) (z : vw_C), h.2 a = some (.inr (.inr (.inr (C, n, f)))) ∧ h.2 b = some (.inl (ci, fs)) ∧ vwCl[ci]? = some z ∧ z.1 = C ∧ vp_in i n ∧ KN L r (h.1, qup h.2 a (.inr (.inr (.inr (C, n, va_up f i.toNatClampNeg (some b)))))) cu su | _ => False)
    | .arraylength => (match st with | .ref a :: r => ∃ (e : qE) (n : Nat), h.2 a = some e ∧ qlenE e = some n ∧ KN L (.int (Int32.ofNat n) :: r) h cu su | .retAddr j :: r => ∃ (ty : FieldType) (n : Nat) (f : Nat → Int32), qScr g ty j n f ∧ KN L (.int (Int32.ofNat n) :: r) h cu su | _ => False)
    | .getfield idx => (match st with | .ref a :: r => ¬ r1 = 99 ∧ ∃ (fs : List Value) (y : Value), h.2 a = some (.inl (r1, fs)) ∧ fs[r2]? = some y ∧ KN L (y :: r) h cu su | .retAddr j :: r => ∃ y : Value, qSF g (qown ow) idx j y ∧ KN L (y :: r) h cu su | _ => False)
    | .putfield idx => (match st with | y :: .ref a :: r => ∃ fs : List Value, h.2 a = some (.inl (r1, fs)) ∧ r2 < fs.length ∧ qok (qty r1 r2) y = true ∧ KN L r (h.1, qup h.2 a (.inl (r1, fs.set r2 y))) cu su | _ => False)
    | .new idx => (cu + 1 ≤ mc ∧ su + r2 ≤ ms ∧ KN L (.ref h.1 :: st) (h.1 + 1, qup h.2 h.1 (.inl (r1, qdef r1 r2))) (cu + 1) (su + r2))
    | .newarray t => (match st with | .int x :: r => ∃ (ty : FieldType) (n : Nat), newarray.typeOf t = ty ∧ (ty = .int ∨ ty = .byte ∨ ty = .boolean ∨ ty = .long) ∧ ¬ x < 0 ∧ x.toNatClampNeg = n ∧ n ≤ 60000000 ∧ cu + 1 ≤ mc ∧ su + n ≤ ms ∧ KN L (.ref h.1 :: r) (h.1 + 1, qup h.2 h.1 (qarr ty n)) (cu + 1) (su + n) | _ => False)
    | .ireturn => (match st with | [.int x] => ∃ ty : FieldType, ret = some ty ∧ narrow ty (.int x) = .int x ∧ cu ≤ mc ∧ su ≤ ms ∧ P (some (.int x)) h | _ => False)
    | .lreturn => (match st with | [.long x] => ret = some .long ∧ cu ≤ mc ∧ su ≤ ms ∧ P (some (.long x)) h | _ => False)
    | .return_ => (match st with | [] => ret = none ∧ cu ≤ mc ∧ su ≤ ms ∧ P none h | _ => False)
    | .areturn => (match st with | [.ref x] => ∃ rt : FieldType, ret = some rt ∧ ((∃ n, rt = .object n) ∨ ∃ t, rt = .array t) ∧ cu ≤ mc ∧ su ≤ ms ∧ P (some (.ref x)) h | [.null] => ∃ rt : FieldType, ret = some rt ∧ ((∃ n, rt = .object n) ∨ ∃ t, rt = .array t) ∧ cu ≤ mc ∧ su ≤ ms ∧ P (some .null) h | _ => False)
    | .aconst_null => (KN L (.null :: st) h cu su)
    | .ifnonnull off => (match st with | .ref x :: r => KJ r1 L r h cu su | .null :: r => KN L r h cu su | _ => False)
    | .invokevirtual idx => (match st.drop r2 with | .ref a :: r => (r1 = 0 ∧ ∃ (q : qMr) (d2 mc2 ms2 ci : Nat) (fs : List Value) (Q : Option Value → qH → Prop), qLk ow idx q ∧ (q.2.2.2.2.2.1 = 0 ∧ q.2.2.2.2.1 = r2) ∧ (h.2 a = some (.inl (ci, fs)) ∧ (vwCl[ci]?).map (fun r => r.1) = some q.1.cls) ∧ qnum d d2 mc mc2 cu ms ms2 su r = true ∧ (st.take r2).length = r2 ∧ qSpec g d2 mc2 ms2 q (.ref a :: (st.take r2).reverse) h Q ∧ ∀ y h2, Q y h2 → KN L (y.toList ++ r) h2 (cu + mc2) (su + ms2)) ∨ (r1 = 1 ∧ ∃ (q : qMr) (d2 mc2 ms2 ci : Nat) (fs : List Value) (Q : Option Value → qH → Prop) (QX : String → qH → Prop), qLk ow idx q ∧ (q.2.2.2.2.2.1 = 0 ∧ q.2.2.2.2.1 = r2) ∧ (h.2 a = some (.inl (ci, fs)) ∧ (vwCl[ci]?).map (fun r => r.1) = some q.1.cls) ∧ qnum d d2 mc mc2 cu ms ms2 su r = true ∧ (st.take r2).length = r2 ∧ qSpecX g d2 mc2 ms2 q (.ref a :: (st.take r2).reverse) h Q QX ∧ (∀ y h2, Q y h2 → KN L (y.toList ++ r) h2 (cu + mc2) (su + ms2)) ∧ ∀ E h2, QX E h2 → KX pc L E h2 (cu + mc2) (su + ms2)) | _ => False)
    | .invokestatic idx => ((r1 = 0 ∧ ∃ (q : qMr) (d2 mc2 ms2 : Nat) (Q : Option Value → qH → Prop), (qLk ow idx q ∨ qLn ow idx q) ∧ (q.2.2.2.2.2.1 = 1 ∧ q.2.2.2.2.1 = r2) ∧ qnum d d2 mc mc2 cu ms ms2 su (st.drop r2) = true ∧ (st.take r2).length = r2 ∧ qSpec g d2 mc2 ms2 q (st.take r2).reverse h Q ∧ ∀ y h2, Q y h2 → KN L (y.toList ++ st.drop r2) h2 (cu + mc2) (su + ms2)) ∨ (¬ r1 = 0 ∧ match st with | .int n :: .int dp :: .ref b :: .int sp :: .ref a :: r => ∃ (na nb : Nat) (f f2 : Nat → Int32), h.2 a = some (.inr (.inl (.int, na, f))) ∧ h.2 b = some (.inr (.inl (.int, nb, f2))) ∧ (¬ sp < 0 ∧ ¬ dp < 0 ∧ ¬ n < 0 ∧ sp.toNatClampNeg + n.toNatClampNeg ≤ na ∧ dp.toNatClampNeg + n.toNatClampNeg ≤ nb) ∧ (1 ≤ d ∧ qcat r ≤ 30) ∧ KN L r (h.1, qup h.2 b (.inr (.inl (.int, nb, va_cpy f f2 sp.toNatClampNeg dp.toNatClampNeg n.toNatClampNeg)))) cu su | _ => False))
    | .invokespecial idx => (match st.drop r2 with | .ref a :: r => (r1 = 0 ∧ ∃ (q : qMr) (d2 mc2 ms2 : Nat) (Q : Option Value → qH → Prop), (qLk ow idx q ∨ qLn ow idx q) ∧ (q.2.2.2.2.2.1 = 2 ∧ q.2.2.2.2.1 = r2) ∧ qnum d d2 mc mc2 cu ms ms2 su r = true ∧ (st.take r2).length = r2 ∧ qSpec g d2 mc2 ms2 q (.ref a :: (st.take r2).reverse) h Q ∧ ∀ y h2, Q y h2 → KN L (y.toList ++ r) h2 (cu + mc2) (su + ms2)) ∨ (¬ r1 = 0 ∧ r2 = 0 ∧ (1 ≤ d ∧ qcat r ≤ 30) ∧ KN L r h cu su) | _ => False)
    | _ => False
end QW
