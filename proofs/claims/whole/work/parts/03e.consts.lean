section QT
abbrev qKr : Type := Nat × Nat × Int32 × Nat × Nat
abbrev qLr : Type := Nat × Nat × Int64 × Nat × Nat
def qK : List qKr := [(2, 64, 1103515245, (6, 182)), (8, 46, 100000, (4, 144)), (12, 68, 92352, (7, 34)), (12, 496, 1103515245, (9, 202))]
def qL : List qLr := [(11, 229, 268435456, (5, 144)), (11, 268, 16, (6, 29)), (7, 57, -1, (5, 210)), (9, 63, 268435456, (5, 162)), (9, 87, -1, (3, 85)), (10, 55, 16777216, (3, 97)), (10, 64, 536870912, (3, 99)), (10, 69, 268435456, (3, 100)), (10, 74, 16, (3, 101)), (12, 362, 16777216, (8, 233)), (12, 376, 16, (8, 237)), (12, 378, 268435456, (8, 238)), (12, 409, -1, (9, 46))]
def qKb (q : qKr) : Bool := decide (qat q.2.2.2 = some (.constant (qown q.1) q.2.1 q.2.2.1)) && q_gd (.constant (qown q.1) q.2.1 q.2.2.1)
def qLb (q : qLr) : Bool := decide (qat q.2.2.2 = some (.constantLong (qown q.1) q.2.1 q.2.2.1)) && q_gd (.constantLong (qown q.1) q.2.1 q.2.2.1)
theorem qK_ok : ∀ q ∈ qK, qKb q = true := List.all_eq_true.mp (by decide +kernel)
theorem qL_ok : ∀ q ∈ qL, qLb q = true := List.all_eq_true.mp (by decide +kernel)
/-- a class link: own class, index, class, places of the link, of instantiable, of initialized -/
abbrev qCr : Type := Nat × Nat × Nat × (Nat × Nat) × (Nat × Nat) × Nat × Nat
def qC : List qCr := [(11, 7, 8, (1, 33), (1, 34), (1, 2)), (11, 16, 6, (1, 69), (1, 70), (1, 3)), (11, 27, 1, (1, 127), (1, 128), (1, 4)), (11, 34, 3, (1, 143), (1, 144), (1, 5)), (11, 44, 0, (1, 162), (1, 163), (1, 6)), (11, 51, 5, (1, 195), (1, 196), (1, 7)), (11, 60, 4, (1, 223), (1, 224), (1, 8)), (11, 67, 10, (1, 239), (2, 0), (1, 9)), (11, 76, 9, (2, 38), (2, 39), (1, 10)), (11, 85, 7, (2, 94), (2, 95), (1, 11)), (11, 94, 2, (2, 139), (2, 140), (1, 12)), (4, 9, 3, (1, 229), (1, 144), (1, 5)), (5, 9, 6, (1, 201), (1, 70), (1, 3)), (5, 18, 1, (1, 203), (1, 128), (1, 4)), (5, 25, 0, (1, 205), (1, 163), (1, 6)), (13, 8, 11, (1, 25), (1, 26), (1, 1)), (13, 130, 12, (7, 28), (7, 29), (1, 13))]
def qCb (q : qCr) : Bool := match vwCl[q.2.2.1]? with
  | some r => decide (qat q.2.2.2.1 = some (.classLink (qown q.1) q.2.1 r.1)) && decide (qat q.2.2.2.2.1 = some (.instantiable r.1 r.2.2)) && decide (qat q.2.2.2.2.2 = some (.initialized r.1)) && q_gd (.classLink (qown q.1) q.2.1 r.1) && q_gd (.instantiable r.1 r.2.2) && q_gd (.initialized r.1)
  | none => false
theorem qC_ok : ∀ q ∈ qC, qCb q = true := List.all_eq_true.mp (by decide +kernel)
abbrev qOr : Type := Nat × Nat × Nat × Nat
def qO : List qOr := [(11, 1, (1, 30)), (0, 3, (1, 167)), (1, 3, (1, 132)), (2, 3, (2, 144)), (3, 3, (1, 148)), (4, 3, (1, 228)), (5, 3, (1, 200)), (6, 3, (1, 74)), (7, 3, (2, 99)), (8, 3, (1, 38)), (9, 3, (2, 43)), (10, 3, (2, 4)), (12, 11, (7, 33))]
def qA : List qOr := [(0, 22, (5, 62)), (1, 19, (4, 183)), (3, 25, (5, 9)), (6, 40, (3, 170)), (7, 97, (5, 220))]
theorem qO_ok : ∀ q ∈ qO, decide (qat q.2.2 = some (.methodLink (qown q.1) q.2.1 Jvm.Lib.objectInit)) = true := List.all_eq_true.mp (by decide +kernel)
theorem qA_ok : ∀ q ∈ qA, decide (qat q.2.2 = some (.methodLink (qown q.1) q.2.1 arraycopyName)) = true := List.all_eq_true.mp (by decide +kernel)
theorem qO_inst : Jvm.Cond.instanceMethod Jvm.Lib.objectInit ∈ lw_tbl := qat_in (p := (1, 31)) (by decide +kernel)
theorem qO_code : Jvm.Cond.code Jvm.Lib.objectInit ⟨#[0xb1]⟩ 1 none ∈ lw_tbl := qat_in (p := (1, 32)) (by decide +kernel)
theorem qA_nat : Jvm.Cond.native arraycopyName ∈ lw_tbl := qat_in (p := (3, 172)) (by decide +kernel)
theorem qA_stat : Jvm.Cond.static arraycopyName ∈ lw_tbl := qat_in (p := (3, 171)) (by decide +kernel)
theorem qA_ini : Jvm.Cond.initialized "java/lang/System" ∈ lw_tbl := qat_in (p := (1, 22)) (by decide +kernel)
theorem qT_int : Jvm.Cond.arrayClass .int ∈ lw_tbl := qat_in (p := (1, 125)) (by decide +kernel)
theorem qT_byte : Jvm.Cond.arrayClass .byte ∈ lw_tbl := qat_in (p := (1, 68)) (by decide +kernel)
theorem qT_long : Jvm.Cond.arrayClass .long ∈ lw_tbl := qat_in (p := (2, 93)) (by decide +kernel)
theorem qT_boolean : Jvm.Cond.arrayClass .boolean ∈ lw_tbl := qat_in (p := (8, 3)) (by decide +kernel)
theorem qT_over : Jvm.Cond.arrayOver (.object "CarolDoors$Round") ∈ lw_tbl := qat_in (p := (1, 126)) (by decide +kernel)
end QT
