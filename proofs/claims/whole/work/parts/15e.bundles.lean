section Q15E
theorem K_of {s : State} {a : Array Value} (hts : ∀ w ∈ lw_tbl, w.before a s = true) : ∃ D : va_G, va_K D vwCl [] s := by
  have h0 : ∀ ci : Nat, ∃ q : ClassId × (Nat → Nat), ∀ r : vw_C, vwCl[ci]? = some r → u_Kn s r.1 r.2.1 r.2.2 q.1 q.2 := by
    intro ci
    have key : ∀ r : vw_C, vwCl[ci]? = some r → Jvm.Cond.instantiable r.1 r.2.2 ∈ lw_tbl → ∃ q : ClassId × (Nat → Nat), ∀ r : vw_C, vwCl[ci]? = some r → u_Kn s r.1 r.2.1 r.2.2 q.1 q.2 := fun r hr hi => by
      obtain ⟨cC, iS, hk⟩ := u_known hts (fun w hw => (q_lays ci r hr w hw).1) (hts _ hi)
      exact ⟨(cC, iS), fun r2 h2 => by rw [hr] at h2; cases h2; exact hk⟩
    match ci with
    | 0 => exact key _ rfl (qat_in (p := (1, 163)) (by decide +kernel))
    | 1 => exact key _ rfl (qat_in (p := (1, 128)) (by decide +kernel))
    | 2 => exact key _ rfl (qat_in (p := (2, 140)) (by decide +kernel))
    | 3 => exact key _ rfl (qat_in (p := (1, 144)) (by decide +kernel))
    | 4 => exact key _ rfl (qat_in (p := (1, 224)) (by decide +kernel))
    | 5 => exact key _ rfl (qat_in (p := (1, 196)) (by decide +kernel))
    | 6 => exact key _ rfl (qat_in (p := (1, 70)) (by decide +kernel))
    | 7 => exact key _ rfl (qat_in (p := (2, 95)) (by decide +kernel))
    | 8 => exact key _ rfl (qat_in (p := (1, 34)) (by decide +kernel))
    | 9 => exact key _ rfl (qat_in (p := (2, 39)) (by decide +kernel))
    | 10 => exact key _ rfl (qat_in (p := (2, 0)) (by decide +kernel))
    | 11 => exact key _ rfl (qat_in (p := (1, 26)) (by decide +kernel))
    | 12 => exact key _ rfl (qat_in (p := (7, 29)) (by decide +kernel))
    | n + 13 => exact ⟨(by first | exact (0 : Nat) | exact default | exact (⟨0⟩), fun _ => 0), fun r hr => by cases hr⟩
  obtain ⟨D, hD⟩ := Classical.axiomOfChoice h0
  exact ⟨(fun c => (D c).1, fun c => (D c).2), fun c q hq => hD c q hq, fun k q hq => by cases hq⟩
theorem qCAT_of {g : qG} {a : Array Value} (h : ∀ j k : Nat, j < 3 → k < 3 → j ≠ k → (Jvm.Cond.not (.castable (exN j) (exN k))).before a g.2.1 = true) : qCAT g := fun j k hj hk hjk => va_Nc.of (h j k hj hk hjk)
end Q15E
