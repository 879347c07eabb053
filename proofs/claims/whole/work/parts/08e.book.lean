section Q08E
theorem R_clear {g : qG} (hg : qOK g) {h : qH} {D P U : Nat → Int32} {n k u st ve cl : Int32} (hR : isR h 34 35 36 37 D P U n k u st ve cl) : qSpec g 1 0 0 mX6_clear [.ref 34] h (fun r h' => r = none ∧ same h h' [34] ∧ isR h' 34 35 36 37 D P U 0 0 0 0 2 120) := by
  refine qSpec_run 6 "clear" false hg mX6_clear_ok rfl rfl (Nat.le_of_ble_eq_true rfl) (by decide) ?_
  intro run step
  refine step.1 _ _ _ _ _ _ _ sgX6_clear_0_ok ?_
  refine ⟨_, hR.1, Nat.le_of_ble_eq_true rfl, rfl, ?_⟩
  refine ⟨_, rfl, Nat.le_of_ble_eq_true rfl, rfl, ?_⟩
  refine ⟨_, rfl, Nat.le_of_ble_eq_true rfl, rfl, ?_⟩
  refine ⟨_, rfl, Nat.le_of_ble_eq_true rfl, rfl, ?_⟩
  refine ⟨_, rfl, Nat.le_of_ble_eq_true rfl, rfl, ?_⟩
  refine ⟨_, rfl, Nat.le_of_ble_eq_true rfl, rfl, ?_⟩
  refine ⟨rfl, Nat.le_refl _, Nat.le_refl _, ?_⟩
  exact ⟨rfl, ⟨rfl, fun j hj => by
      have hj0 : j ≠ 34 := fun q => hj (by rw [q]; simp)
      simp only [qup_n hj0]⟩, rfl, hR.2.1, hR.2.2.1, hR.2.2.2⟩
theorem R_copy_3_34 {g : qG} (hg : qOK g) {h : qH} {D P U : Nat → Int32} {n k u st ve cl : Int32} (hR : isR h 3 4 5 6 D P U n k u st ve cl) {D2 P2 U2 : Nat → Int32} {n2 k2 u2 st2 ve2 cl2 : Int32} (hO : isR h 34 35 36 37 D2 P2 U2 n2 k2 u2 st2 ve2 cl2) : qSpec g 2 0 0 mX6_copy [.ref 3, .ref 34] h (fun r h' => r = none ∧ same h h' [3, 4, 5, 6] ∧ isR h' 3 4 5 6 (va_cpy D2 D 0 0 100) (va_cpy P2 P 0 0 30) (va_cpy U2 U 0 0 100) n2 k2 u2 st2 ve2 cl2) := by
  refine qSpec_run 6 "copy" false hg mX6_copy_ok rfl rfl (Nat.le_of_ble_eq_true rfl) (by decide) ?_
  intro run step
  refine step.1 _ _ _ _ _ _ _ sgX6_copy_0_ok ?_
  refine ⟨by decide, _, _, hO.1, rfl, ?_⟩
  refine ⟨by decide, _, _, hR.1, rfl, ?_⟩
  refine Or.inr ⟨by decide, _, _, _, _, hO.2.1, hR.2.1, ⟨by decide, by decide, by decide, by decide, by decide⟩, ⟨by decide, Nat.le_of_ble_eq_true rfl⟩, ?_⟩
  refine ⟨by decide, _, _, hO.1, rfl, ?_⟩
  refine ⟨by decide, _, _, hR.1, rfl, ?_⟩
  refine Or.inr ⟨by decide, _, _, _, _, hO.2.2.1, hR.2.2.1, ⟨by decide, by decide, by decide, by decide, by decide⟩, ⟨by decide, Nat.le_of_ble_eq_true rfl⟩, ?_⟩
  refine ⟨by decide, _, _, hO.1, rfl, ?_⟩
  refine ⟨by decide, _, _, hR.1, rfl, ?_⟩
  refine Or.inr ⟨by decide, _, _, _, _, hO.2.2.2, hR.2.2.2, ⟨by decide, by decide, by decide, by decide, by decide⟩, ⟨by decide, Nat.le_of_ble_eq_true rfl⟩, ?_⟩
  refine ⟨by decide, _, _, hO.1, rfl, ?_⟩
  refine ⟨_, hR.1, Nat.le_of_ble_eq_true rfl, rfl, ?_⟩
  refine ⟨by decide, _, _, hO.1, rfl, ?_⟩
  refine ⟨_, rfl, Nat.le_of_ble_eq_true rfl, rfl, ?_⟩
  refine ⟨by decide, _, _, hO.1, rfl, ?_⟩
  refine ⟨_, rfl, Nat.le_of_ble_eq_true rfl, rfl, ?_⟩
  refine ⟨by decide, _, _, hO.1, rfl, ?_⟩
  refine ⟨_, rfl, Nat.le_of_ble_eq_true rfl, rfl, ?_⟩
  refine ⟨by decide, _, _, hO.1, rfl, ?_⟩
  refine ⟨_, rfl, Nat.le_of_ble_eq_true rfl, rfl, ?_⟩
  refine ⟨by decide, _, _, hO.1, rfl, ?_⟩
  refine ⟨_, rfl, Nat.le_of_ble_eq_true rfl, rfl, ?_⟩
  refine ⟨rfl, Nat.le_refl _, Nat.le_refl _, ?_⟩
  exact ⟨rfl, ⟨rfl, fun j hj => by
      have hj0 : j ≠ 3 := fun q => hj (by rw [q]; simp)
      have hj1 : j ≠ 4 := fun q => hj (by rw [q]; simp)
      have hj2 : j ≠ 5 := fun q => hj (by rw [q]; simp)
      have hj3 : j ≠ 6 := fun q => hj (by rw [q]; simp)
      simp only [qup_n hj0, qup_n hj1, qup_n hj2, qup_n hj3]⟩, rfl, rfl, rfl, rfl⟩
theorem R_copy_34_3 {g : qG} (hg : qOK g) {h : qH} {D P U : Nat → Int32} {n k u st ve cl : Int32} (hR : isR h 34 35 36 37 D P U n k u st ve cl) {D2 P2 U2 : Nat → Int32} {n2 k2 u2 st2 ve2 cl2 : Int32} (hO : isR h 3 4 5 6 D2 P2 U2 n2 k2 u2 st2 ve2 cl2) : qSpec g 2 0 0 mX6_copy [.ref 34, .ref 3] h (fun r h' => r = none ∧ same h h' [34, 35, 36, 37] ∧ isR h' 34 35 36 37 (va_cpy D2 D 0 0 100) (va_cpy P2 P 0 0 30) (va_cpy U2 U 0 0 100) n2 k2 u2 st2 ve2 cl2) := by
  refine qSpec_run 6 "copy" false hg mX6_copy_ok rfl rfl (Nat.le_of_ble_eq_true rfl) (by decide) ?_
  intro run step
  refine step.1 _ _ _ _ _ _ _ sgX6_copy_0_ok ?_
  refine ⟨by decide, _, _, hO.1, rfl, ?_⟩
  refine ⟨by decide, _, _, hR.1, rfl, ?_⟩
  refine Or.inr ⟨by decide, _, _, _, _, hO.2.1, hR.2.1, ⟨by decide, by decide, by decide, by decide, by decide⟩, ⟨by decide, Nat.le_of_ble_eq_true rfl⟩, ?_⟩
  refine ⟨by decide, _, _, hO.1, rfl, ?_⟩
  refine ⟨by decide, _, _, hR.1, rfl, ?_⟩
  refine Or.inr ⟨by decide, _, _, _, _, hO.2.2.1, hR.2.2.1, ⟨by decide, by decide, by decide, by decide, by decide⟩, ⟨by decide, Nat.le_of_ble_eq_true rfl⟩, ?_⟩
  refine ⟨by decide, _, _, hO.1, rfl, ?_⟩
  refine ⟨by decide, _, _, hR.1, rfl, ?_⟩
  refine Or.inr ⟨by decide, _, _, _, _, hO.2.2.2, hR.2.2.2, ⟨by decide, by decide, by decide, by decide, by decide⟩, ⟨by decide, Nat.le_of_ble_eq_true rfl⟩, ?_⟩
  refine ⟨by decide, _, _, hO.1, rfl, ?_⟩
  refine ⟨_, hR.1, Nat.le_of_ble_eq_true rfl, rfl, ?_⟩
  refine ⟨by decide, _, _, hO.1, rfl, ?_⟩
  refine ⟨_, rfl, Nat.le_of_ble_eq_true rfl, rfl, ?_⟩
  refine ⟨by decide, _, _, hO.1, rfl, ?_⟩
  refine ⟨_, rfl, Nat.le_of_ble_eq_true rfl, rfl, ?_⟩
  refine ⟨by decide, _, _, hO.1, rfl, ?_⟩
  refine ⟨_, rfl, Nat.le_of_ble_eq_true rfl, rfl, ?_⟩
  refine ⟨by decide, _, _, hO.1, rfl, ?_⟩
  refine ⟨_, rfl, Nat.le_of_ble_eq_true rfl, rfl, ?_⟩
  refine ⟨by decide, _, _, hO.1, rfl, ?_⟩
  refine ⟨_, rfl, Nat.le_of_ble_eq_true rfl, rfl, ?_⟩
  refine ⟨rfl, Nat.le_refl _, Nat.le_refl _, ?_⟩
  exact ⟨rfl, ⟨rfl, fun j hj => by
      have hj0 : j ≠ 34 := fun q => hj (by rw [q]; simp)
      have hj1 : j ≠ 35 := fun q => hj (by rw [q]; simp)
      have hj2 : j ≠ 36 := fun q => hj (by rw [q]; simp)
      have hj3 : j ≠ 37 := fun q => hj (by rw [q]; simp)
      simp only [qup_n hj0, qup_n hj1, qup_n hj2, qup_n hj3]⟩, rfl, rfl, rfl, rfl⟩
theorem R_copy_8_3 {g : qG} (hg : qOK g) {h : qH} {D P U : Nat → Int32} {n k u st ve cl : Int32} (hR : isR h 8 9 10 11 D P U n k u st ve cl) {D2 P2 U2 : Nat → Int32} {n2 k2 u2 st2 ve2 cl2 : Int32} (hO : isR h 3 4 5 6 D2 P2 U2 n2 k2 u2 st2 ve2 cl2) : qSpec g 2 0 0 mX6_copy [.ref 8, .ref 3] h (fun r h' => r = none ∧ same h h' [8, 9, 10, 11] ∧ isR h' 8 9 10 11 (va_cpy D2 D 0 0 100) (va_cpy P2 P 0 0 30) (va_cpy U2 U 0 0 100) n2 k2 u2 st2 ve2 cl2) := by
  refine qSpec_run 6 "copy" false hg mX6_copy_ok rfl rfl (Nat.le_of_ble_eq_true rfl) (by decide) ?_
  intro run step
  refine step.1 _ _ _ _ _ _ _ sgX6_copy_0_ok ?_
  refine ⟨by decide, _, _, hO.1, rfl, ?_⟩
  refine ⟨by decide, _, _, hR.1, rfl, ?_⟩
  refine Or.inr ⟨by decide, _, _, _, _, hO.2.1, hR.2.1, ⟨by decide, by decide, by decide, by decide, by decide⟩, ⟨by decide, Nat.le_of_ble_eq_true rfl⟩, ?_⟩
  refine ⟨by decide, _, _, hO.1, rfl, ?_⟩
  refine ⟨by decide, _, _, hR.1, rfl, ?_⟩
  refine Or.inr ⟨by decide, _, _, _, _, hO.2.2.1, hR.2.2.1, ⟨by decide, by decide, by decide, by decide, by decide⟩, ⟨by decide, Nat.le_of_ble_eq_true rfl⟩, ?_⟩
  refine ⟨by decide, _, _, hO.1, rfl, ?_⟩
  refine ⟨by decide, _, _, hR.1, rfl, ?_⟩
  refine Or.inr ⟨by decide, _, _, _, _, hO.2.2.2, hR.2.2.2, ⟨by decide, by decide, by decide, by decide, by decide⟩, ⟨by decide, Nat.le_of_ble_eq_true rfl⟩, ?_⟩
  refine ⟨by decide, _, _, hO.1, rfl, ?_⟩
  refine ⟨_, hR.1, Nat.le_of_ble_eq_true rfl, rfl, ?_⟩
  refine ⟨by decide, _, _, hO.1, rfl, ?_⟩
  refine ⟨_, rfl, Nat.le_of_ble_eq_true rfl, rfl, ?_⟩
  refine ⟨by decide, _, _, hO.1, rfl, ?_⟩
  refine ⟨_, rfl, Nat.le_of_ble_eq_true rfl, rfl, ?_⟩
  refine ⟨by decide, _, _, hO.1, rfl, ?_⟩
  refine ⟨_, rfl, Nat.le_of_ble_eq_true rfl, rfl, ?_⟩
  refine ⟨by decide, _, _, hO.1, rfl, ?_⟩
  refine ⟨_, rfl, Nat.le_of_ble_eq_true rfl, rfl, ?_⟩
  refine ⟨by decide, _, _, hO.1, rfl, ?_⟩
  refine ⟨_, rfl, Nat.le_of_ble_eq_true rfl, rfl, ?_⟩
  refine ⟨rfl, Nat.le_refl _, Nat.le_refl _, ?_⟩
  exact ⟨rfl, ⟨rfl, fun j hj => by
      have hj0 : j ≠ 8 := fun q => hj (by rw [q]; simp)
      have hj1 : j ≠ 9 := fun q => hj (by rw [q]; simp)
      have hj2 : j ≠ 10 := fun q => hj (by rw [q]; simp)
      have hj3 : j ≠ 11 := fun q => hj (by rw [q]; simp)
      simp only [qup_n hj0, qup_n hj1, qup_n hj2, qup_n hj3]⟩, rfl, rfl, rfl, rfl⟩
theorem R_copy_12_3 {g : qG} (hg : qOK g) {h : qH} {D P U : Nat → Int32} {n k u st ve cl : Int32} (hR : isR h 12 13 14 15 D P U n k u st ve cl) {D2 P2 U2 : Nat → Int32} {n2 k2 u2 st2 ve2 cl2 : Int32} (hO : isR h 3 4 5 6 D2 P2 U2 n2 k2 u2 st2 ve2 cl2) : qSpec g 2 0 0 mX6_copy [.ref 12, .ref 3] h (fun r h' => r = none ∧ same h h' [12, 13, 14, 15] ∧ isR h' 12 13 14 15 (va_cpy D2 D 0 0 100) (va_cpy P2 P 0 0 30) (va_cpy U2 U 0 0 100) n2 k2 u2 st2 ve2 cl2) := by
  refine qSpec_run 6 "copy" false hg mX6_copy_ok rfl rfl (Nat.le_of_ble_eq_true rfl) (by decide) ?_
  intro run step
  refine step.1 _ _ _ _ _ _ _ sgX6_copy_0_ok ?_
  refine ⟨by decide, _, _, hO.1, rfl, ?_⟩
  refine ⟨by decide, _, _, hR.1, rfl, ?_⟩
  refine Or.inr ⟨by decide, _, _, _, _, hO.2.1, hR.2.1, ⟨by decide, by decide, by decide, by decide, by decide⟩, ⟨by decide, Nat.le_of_ble_eq_true rfl⟩, ?_⟩
  refine ⟨by decide, _, _, hO.1, rfl, ?_⟩
  refine ⟨by decide, _, _, hR.1, rfl, ?_⟩
  refine Or.inr ⟨by decide, _, _, _, _, hO.2.2.1, hR.2.2.1, ⟨by decide, by decide, by decide, by decide, by decide⟩, ⟨by decide, Nat.le_of_ble_eq_true rfl⟩, ?_⟩
  refine ⟨by decide, _, _, hO.1, rfl, ?_⟩
  refine ⟨by decide, _, _, hR.1, rfl, ?_⟩
  refine Or.inr ⟨by decide, _, _, _, _, hO.2.2.2, hR.2.2.2, ⟨by decide, by decide, by decide, by decide, by decide⟩, ⟨by decide, Nat.le_of_ble_eq_true rfl⟩, ?_⟩
  refine ⟨by decide, _, _, hO.1, rfl, ?_⟩
  refine ⟨_, hR.1, Nat.le_of_ble_eq_true rfl, rfl, ?_⟩
  refine ⟨by decide, _, _, hO.1, rfl, ?_⟩
  refine ⟨_, rfl, Nat.le_of_ble_eq_true rfl, rfl, ?_⟩
  refine ⟨by decide, _, _, hO.1, rfl, ?_⟩
  refine ⟨_, rfl, Nat.le_of_ble_eq_true rfl, rfl, ?_⟩
  refine ⟨by decide, _, _, hO.1, rfl, ?_⟩
  refine ⟨_, rfl, Nat.le_of_ble_eq_true rfl, rfl, ?_⟩
  refine ⟨by decide, _, _, hO.1, rfl, ?_⟩
  refine ⟨_, rfl, Nat.le_of_ble_eq_true rfl, rfl, ?_⟩
  refine ⟨by decide, _, _, hO.1, rfl, ?_⟩
  refine ⟨_, rfl, Nat.le_of_ble_eq_true rfl, rfl, ?_⟩
  refine ⟨rfl, Nat.le_refl _, Nat.le_refl _, ?_⟩
  exact ⟨rfl, ⟨rfl, fun j hj => by
      have hj0 : j ≠ 12 := fun q => hj (by rw [q]; simp)
      have hj1 : j ≠ 13 := fun q => hj (by rw [q]; simp)
      have hj2 : j ≠ 14 := fun q => hj (by rw [q]; simp)
      have hj3 : j ≠ 15 := fun q => hj (by rw [q]; simp)
      simp only [qup_n hj0, qup_n hj1, qup_n hj2, qup_n hj3]⟩, rfl, rfl, rfl, rfl⟩
theorem R_copy_16_3 {g : qG} (hg : qOK g) {h : qH} {D P U : Nat → Int32} {n k u st ve cl : Int32} (hR : isR h 16 17 18 19 D P U n k u st ve cl) {D2 P2 U2 : Nat → Int32} {n2 k2 u2 st2 ve2 cl2 : Int32} (hO : isR h 3 4 5 6 D2 P2 U2 n2 k2 u2 st2 ve2 cl2) : qSpec g 2 0 0 mX6_copy [.ref 16, .ref 3] h (fun r h' => r = none ∧ same h h' [16, 17, 18, 19] ∧ isR h' 16 17 18 19 (va_cpy D2 D 0 0 100) (va_cpy P2 P 0 0 30) (va_cpy U2 U 0 0 100) n2 k2 u2 st2 ve2 cl2) := by
  refine qSpec_run 6 "copy" false hg mX6_copy_ok rfl rfl (Nat.le_of_ble_eq_true rfl) (by decide) ?_
  intro run step
  refine step.1 _ _ _ _ _ _ _ sgX6_copy_0_ok ?_
  refine ⟨by decide, _, _, hO.1, rfl, ?_⟩
  refine ⟨by decide, _, _, hR.1, rfl, ?_⟩
  refine Or.inr ⟨by decide, _, _, _, _, hO.2.1, hR.2.1, ⟨by decide, by decide, by decide, by decide, by decide⟩, ⟨by decide, Nat.le_of_ble_eq_true rfl⟩, ?_⟩
  refine ⟨by decide, _, _, hO.1, rfl, ?_⟩
  refine ⟨by decide, _, _, hR.1, rfl, ?_⟩
  refine Or.inr ⟨by decide, _, _, _, _, hO.2.2.1, hR.2.2.1, ⟨by decide, by decide, by decide, by decide, by decide⟩, ⟨by decide, Nat.le_of_ble_eq_true rfl⟩, ?_⟩
  refine ⟨by decide, _, _, hO.1, rfl, ?_⟩
  refine ⟨by decide, _, _, hR.1, rfl, ?_⟩
  refine Or.inr ⟨by decide, _, _, _, _, hO.2.2.2, hR.2.2.2, ⟨by decide, by decide, by decide, by decide, by decide⟩, ⟨by decide, Nat.le_of_ble_eq_true rfl⟩, ?_⟩
  refine ⟨by decide, _, _, hO.1, rfl, ?_⟩
  refine ⟨_, hR.1, Nat.le_of_ble_eq_true rfl, rfl, ?_⟩
  refine ⟨by decide, _, _, hO.1, rfl, ?_⟩
  refine ⟨_, rfl, Nat.le_of_ble_eq_true rfl, rfl, ?_⟩
  refine ⟨by decide, _, _, hO.1, rfl, ?_⟩
  refine ⟨_, rfl, Nat.le_of_ble_eq_true rfl, rfl, ?_⟩
  refine ⟨by decide, _, _, hO.1, rfl, ?_⟩
  refine ⟨_, rfl, Nat.le_of_ble_eq_true rfl, rfl, ?_⟩
  refine ⟨by decide, _, _, hO.1, rfl, ?_⟩
  refine ⟨_, rfl, Nat.le_of_ble_eq_true rfl, rfl, ?_⟩
  refine ⟨by decide, _, _, hO.1, rfl, ?_⟩
  refine ⟨_, rfl, Nat.le_of_ble_eq_true rfl, rfl, ?_⟩
  refine ⟨rfl, Nat.le_refl _, Nat.le_refl _, ?_⟩
  exact ⟨rfl, ⟨rfl, fun j hj => by
      have hj0 : j ≠ 16 := fun q => hj (by rw [q]; simp)
      have hj1 : j ≠ 17 := fun q => hj (by rw [q]; simp)
      have hj2 : j ≠ 18 := fun q => hj (by rw [q]; simp)
      have hj3 : j ≠ 19 := fun q => hj (by rw [q]; simp)
      simp only [qup_n hj0, qup_n hj1, qup_n hj2, qup_n hj3]⟩, rfl, rfl, rfl, rfl⟩
theorem R_copy_3_8 {g : qG} (hg : qOK g) {h : qH} {D P U : Nat → Int32} {n k u st ve cl : Int32} (hR : isR h 3 4 5 6 D P U n k u st ve cl) {D2 P2 U2 : Nat → Int32} {n2 k2 u2 st2 ve2 cl2 : Int32} (hO : isR h 8 9 10 11 D2 P2 U2 n2 k2 u2 st2 ve2 cl2) : qSpec g 2 0 0 mX6_copy [.ref 3, .ref 8] h (fun r h' => r = none ∧ same h h' [3, 4, 5, 6] ∧ isR h' 3 4 5 6 (va_cpy D2 D 0 0 100) (va_cpy P2 P 0 0 30) (va_cpy U2 U 0 0 100) n2 k2 u2 st2 ve2 cl2) := by
  refine qSpec_run 6 "copy" false hg mX6_copy_ok rfl rfl (Nat.le_of_ble_eq_true rfl) (by decide) ?_
  intro run step
  refine step.1 _ _ _ _ _ _ _ sgX6_copy_0_ok ?_
  refine ⟨by decide, _, _, hO.1, rfl, ?_⟩
  refine ⟨by decide, _, _, hR.1, rfl, ?_⟩
  refine Or.inr ⟨by decide, _, _, _, _, hO.2.1, hR.2.1, ⟨by decide, by decide, by decide, by decide, by decide⟩, ⟨by decide, Nat.le_of_ble_eq_true rfl⟩, ?_⟩
  refine ⟨by decide, _, _, hO.1, rfl, ?_⟩
  refine ⟨by decide, _, _, hR.1, rfl, ?_⟩
  refine Or.inr ⟨by decide, _, _, _, _, hO.2.2.1, hR.2.2.1, ⟨by decide, by decide, by decide, by decide, by decide⟩, ⟨by decide, Nat.le_of_ble_eq_true rfl⟩, ?_⟩
  refine ⟨by decide, _, _, hO.1, rfl, ?_⟩
  refine ⟨by decide, _, _, hR.1, rfl, ?_⟩
  refine Or.inr ⟨by decide, _, _, _, _, hO.2.2.2, hR.2.2.2, ⟨by decide, by decide, by decide, by decide, by decide⟩, ⟨by decide, Nat.le_of_ble_eq_true rfl⟩, ?_⟩
  refine ⟨by decide, _, _, hO.1, rfl, ?_⟩
  refine ⟨_, hR.1, Nat.le_of_ble_eq_true rfl, rfl, ?_⟩
  refine ⟨by decide, _, _, hO.1, rfl, ?_⟩
  refine ⟨_, rfl, Nat.le_of_ble_eq_true rfl, rfl, ?_⟩
  refine ⟨by decide, _, _, hO.1, rfl, ?_⟩
  refine ⟨_, rfl, Nat.le_of_ble_eq_true rfl, rfl, ?_⟩
  refine ⟨by decide, _, _, hO.1, rfl, ?_⟩
  refine ⟨_, rfl, Nat.le_of_ble_eq_true rfl, rfl, ?_⟩
  refine ⟨by decide, _, _, hO.1, rfl, ?_⟩
  refine ⟨_, rfl, Nat.le_of_ble_eq_true rfl, rfl, ?_⟩
  refine ⟨by decide, _, _, hO.1, rfl, ?_⟩
  refine ⟨_, rfl, Nat.le_of_ble_eq_true rfl, rfl, ?_⟩
  refine ⟨rfl, Nat.le_refl _, Nat.le_refl _, ?_⟩
  exact ⟨rfl, ⟨rfl, fun j hj => by
      have hj0 : j ≠ 3 := fun q => hj (by rw [q]; simp)
      have hj1 : j ≠ 4 := fun q => hj (by rw [q]; simp)
      have hj2 : j ≠ 5 := fun q => hj (by rw [q]; simp)
      have hj3 : j ≠ 6 := fun q => hj (by rw [q]; simp)
      simp only [qup_n hj0, qup_n hj1, qup_n hj2, qup_n hj3]⟩, rfl, rfl, rfl, rfl⟩
theorem R_copy_3_12 {g : qG} (hg : qOK g) {h : qH} {D P U : Nat → Int32} {n k u st ve cl : Int32} (hR : isR h 3 4 5 6 D P U n k u st ve cl) {D2 P2 U2 : Nat → Int32} {n2 k2 u2 st2 ve2 cl2 : Int32} (hO : isR h 12 13 14 15 D2 P2 U2 n2 k2 u2 st2 ve2 cl2) : qSpec g 2 0 0 mX6_copy [.ref 3, .ref 12] h (fun r h' => r = none ∧ same h h' [3, 4, 5, 6] ∧ isR h' 3 4 5 6 (va_cpy D2 D 0 0 100) (va_cpy P2 P 0 0 30) (va_cpy U2 U 0 0 100) n2 k2 u2 st2 ve2 cl2) := by
  refine qSpec_run 6 "copy" false hg mX6_copy_ok rfl rfl (Nat.le_of_ble_eq_true rfl) (by decide) ?_
  intro run step
  refine step.1 _ _ _ _ _ _ _ sgX6_copy_0_ok ?_
  refine ⟨by decide, _, _, hO.1, rfl, ?_⟩
  refine ⟨by decide, _, _, hR.1, rfl, ?_⟩
  refine Or.inr ⟨by decide, _, _, _, _, hO.2.1, hR.2.1, ⟨by decide, by decide, by decide, by decide, by decide⟩, ⟨by decide, Nat.le_of_ble_eq_true rfl⟩, ?_⟩
  refine ⟨by decide, _, _, hO.1, rfl, ?_⟩
  refine ⟨by decide, _, _, hR.1, rfl, ?_⟩
  refine Or.inr ⟨by decide, _, _, _, _, hO.2.2.1, hR.2.2.1, ⟨by decide, by decide, by decide, by decide, by decide⟩, ⟨by decide, Nat.le_of_ble_eq_true rfl⟩, ?_⟩
  refine ⟨by decide, _, _, hO.1, rfl, ?_⟩
  refine ⟨by decide, _, _, hR.1, rfl, ?_⟩
  refine Or.inr ⟨by decide, _, _, _, _, hO.2.2.2, hR.2.2.2, ⟨by decide, by decide, by decide, by decide, by decide⟩, ⟨by decide, Nat.le_of_ble_eq_true rfl⟩, ?_⟩
  refine ⟨by decide, _, _, hO.1, rfl, ?_⟩
  refine ⟨_, hR.1, Nat.le_of_ble_eq_true rfl, rfl, ?_⟩
  refine ⟨by decide, _, _, hO.1, rfl, ?_⟩
  refine ⟨_, rfl, Nat.le_of_ble_eq_true rfl, rfl, ?_⟩
  refine ⟨by decide, _, _, hO.1, rfl, ?_⟩
  refine ⟨_, rfl, Nat.le_of_ble_eq_true rfl, rfl, ?_⟩
  refine ⟨by decide, _, _, hO.1, rfl, ?_⟩
  refine ⟨_, rfl, Nat.le_of_ble_eq_true rfl, rfl, ?_⟩
  refine ⟨by decide, _, _, hO.1, rfl, ?_⟩
  refine ⟨_, rfl, Nat.le_of_ble_eq_true rfl, rfl, ?_⟩
  refine ⟨by decide, _, _, hO.1, rfl, ?_⟩
  refine ⟨_, rfl, Nat.le_of_ble_eq_true rfl, rfl, ?_⟩
  refine ⟨rfl, Nat.le_refl _, Nat.le_refl _, ?_⟩
  exact ⟨rfl, ⟨rfl, fun j hj => by
      have hj0 : j ≠ 3 := fun q => hj (by rw [q]; simp)
      have hj1 : j ≠ 4 := fun q => hj (by rw [q]; simp)
      have hj2 : j ≠ 5 := fun q => hj (by rw [q]; simp)
      have hj3 : j ≠ 6 := fun q => hj (by rw [q]; simp)
      simp only [qup_n hj0, qup_n hj1, qup_n hj2, qup_n hj3]⟩, rfl, rfl, rfl, rfl⟩
theorem R_copy_3_16 {g : qG} (hg : qOK g) {h : qH} {D P U : Nat → Int32} {n k u st ve cl : Int32} (hR : isR h 3 4 5 6 D P U n k u st ve cl) {D2 P2 U2 : Nat → Int32} {n2 k2 u2 st2 ve2 cl2 : Int32} (hO : isR h 16 17 18 19 D2 P2 U2 n2 k2 u2 st2 ve2 cl2) : qSpec g 2 0 0 mX6_copy [.ref 3, .ref 16] h (fun r h' => r = none ∧ same h h' [3, 4, 5, 6] ∧ isR h' 3 4 5 6 (va_cpy D2 D 0 0 100) (va_cpy P2 P 0 0 30) (va_cpy U2 U 0 0 100) n2 k2 u2 st2 ve2 cl2) := by
  refine qSpec_run 6 "copy" false hg mX6_copy_ok rfl rfl (Nat.le_of_ble_eq_true rfl) (by decide) ?_
  intro run step
  refine step.1 _ _ _ _ _ _ _ sgX6_copy_0_ok ?_
  refine ⟨by decide, _, _, hO.1, rfl, ?_⟩
  refine ⟨by decide, _, _, hR.1, rfl, ?_⟩
  refine Or.inr ⟨by decide, _, _, _, _, hO.2.1, hR.2.1, ⟨by decide, by decide, by decide, by decide, by decide⟩, ⟨by decide, Nat.le_of_ble_eq_true rfl⟩, ?_⟩
  refine ⟨by decide, _, _, hO.1, rfl, ?_⟩
  refine ⟨by decide, _, _, hR.1, rfl, ?_⟩
  refine Or.inr ⟨by decide, _, _, _, _, hO.2.2.1, hR.2.2.1, ⟨by decide, by decide, by decide, by decide, by decide⟩, ⟨by decide, Nat.le_of_ble_eq_true rfl⟩, ?_⟩
  refine ⟨by decide, _, _, hO.1, rfl, ?_⟩
  refine ⟨by decide, _, _, hR.1, rfl, ?_⟩
  refine Or.inr ⟨by decide, _, _, _, _, hO.2.2.2, hR.2.2.2, ⟨by decide, by decide, by decide, by decide, by decide⟩, ⟨by decide, Nat.le_of_ble_eq_true rfl⟩, ?_⟩
  refine ⟨by decide, _, _, hO.1, rfl, ?_⟩
  refine ⟨_, hR.1, Nat.le_of_ble_eq_true rfl, rfl, ?_⟩
  refine ⟨by decide, _, _, hO.1, rfl, ?_⟩
  refine ⟨_, rfl, Nat.le_of_ble_eq_true rfl, rfl, ?_⟩
  refine ⟨by decide, _, _, hO.1, rfl, ?_⟩
  refine ⟨_, rfl, Nat.le_of_ble_eq_true rfl, rfl, ?_⟩
  refine ⟨by decide, _, _, hO.1, rfl, ?_⟩
  refine ⟨_, rfl, Nat.le_of_ble_eq_true rfl, rfl, ?_⟩
  refine ⟨by decide, _, _, hO.1, rfl, ?_⟩
  refine ⟨_, rfl, Nat.le_of_ble_eq_true rfl, rfl, ?_⟩
  refine ⟨by decide, _, _, hO.1, rfl, ?_⟩
  refine ⟨_, rfl, Nat.le_of_ble_eq_true rfl, rfl, ?_⟩
  refine ⟨rfl, Nat.le_refl _, Nat.le_refl _, ?_⟩
  exact ⟨rfl, ⟨rfl, fun j hj => by
      have hj0 : j ≠ 3 := fun q => hj (by rw [q]; simp)
      have hj1 : j ≠ 4 := fun q => hj (by rw [q]; simp)
      have hj2 : j ≠ 5 := fun q => hj (by rw [q]; simp)
      have hj3 : j ≠ 6 := fun q => hj (by rw [q]; simp)
      simp only [qup_n hj0, qup_n hj1, qup_n hj2, qup_n hj3]⟩, rfl, rfl, rfl, rfl⟩
theorem C_copy {g : qG} (hg : qOK g) {h : qH} {Q Q2 : Nat → Int32} {m m2 : Int32} (hC : isC h 20 21 Q m) (hO : isC h 38 39 Q2 m2) : qSpec g 2 0 0 mX1_copy [.ref 20, .ref 38] h (fun r h' => r = none ∧ same h h' [20, 21] ∧ isC h' 20 21 (va_cpy Q2 Q 0 0 32) m2) := by
  refine qSpec_run 1 "copy" false hg mX1_copy_ok rfl rfl (Nat.le_of_ble_eq_true rfl) (by decide) ?_
  intro run step
  refine step.1 _ _ _ _ _ _ _ sgX1_copy_0_ok ?_
  refine ⟨by decide, _, _, hO.1, rfl, ?_⟩
  refine ⟨by decide, _, _, hC.1, rfl, ?_⟩
  refine Or.inr ⟨by decide, _, _, _, _, hO.2, hC.2, ⟨by decide, by decide, by decide, by decide, by decide⟩, ⟨by decide, Nat.le_of_ble_eq_true rfl⟩, ?_⟩
  refine ⟨by decide, _, _, hO.1, rfl, ?_⟩
  refine ⟨_, hC.1, Nat.le_of_ble_eq_true rfl, rfl, ?_⟩
  refine ⟨rfl, Nat.le_refl _, Nat.le_refl _, ?_⟩
  exact ⟨rfl, ⟨rfl, fun j hj => by
      have hj0 : j ≠ 20 := fun q => hj (by rw [q]; simp)
      have hj1 : j ≠ 21 := fun q => hj (by rw [q]; simp)
      simp only [qup_n hj0, qup_n hj1]⟩, rfl, rfl⟩
theorem L_copy_22 {g : qG} (hg : qOK g) {h : qH} {K V S K2 V2 S2 : Nat → Int32} {z z2 : Int32} (hL : isL h 22 23 24 25 K V S z) (hO : isL h 44 45 46 47 K2 V2 S2 z2) : qSpec g 2 0 0 mX3_copy [.ref 22, .ref 44] h (fun r h' => r = none ∧ same h h' [22, 23, 24] ∧ isL h' 22 23 24 25 (va_cpy K2 K 0 0 150) (va_cpy V2 V 0 0 150) S z2) := by
  refine qSpec_run 3 "copy" false hg mX3_copy_ok rfl rfl (Nat.le_of_ble_eq_true rfl) (by decide) ?_
  intro run step
  refine step.1 _ _ _ _ _ _ _ sgX3_copy_0_ok ?_
  refine ⟨by decide, _, _, hO.1, rfl, ?_⟩
  refine ⟨by decide, _, _, hL.1, rfl, ?_⟩
  refine Or.inr ⟨by decide, _, _, _, _, hO.2.1, hL.2.1, ⟨by decide, by decide, by decide, by decide, by decide⟩, ⟨by decide, Nat.le_of_ble_eq_true rfl⟩, ?_⟩
  refine ⟨by decide, _, _, hO.1, rfl, ?_⟩
  refine ⟨by decide, _, _, hL.1, rfl, ?_⟩
  refine Or.inr ⟨by decide, _, _, _, _, hO.2.2.1, hL.2.2.1, ⟨by decide, by decide, by decide, by decide, by decide⟩, ⟨by decide, Nat.le_of_ble_eq_true rfl⟩, ?_⟩
  refine ⟨by decide, _, _, hO.1, rfl, ?_⟩
  refine ⟨_, hL.1, Nat.le_of_ble_eq_true rfl, rfl, ?_⟩
  refine ⟨rfl, Nat.le_refl _, Nat.le_refl _, ?_⟩
  exact ⟨rfl, ⟨rfl, fun j hj => by
      have hj0 : j ≠ 22 := fun q => hj (by rw [q]; simp)
      have hj1 : j ≠ 23 := fun q => hj (by rw [q]; simp)
      have hj2 : j ≠ 24 := fun q => hj (by rw [q]; simp)
      simp only [qup_n hj0, qup_n hj1, qup_n hj2]⟩, rfl, rfl, rfl, hL.2.2.2⟩
theorem L_copy_26 {g : qG} (hg : qOK g) {h : qH} {K V S K2 V2 S2 : Nat → Int32} {z z2 : Int32} (hL : isL h 26 27 28 29 K V S z) (hO : isL h 44 45 46 47 K2 V2 S2 z2) : qSpec g 2 0 0 mX3_copy [.ref 26, .ref 44] h (fun r h' => r = none ∧ same h h' [26, 27, 28] ∧ isL h' 26 27 28 29 (va_cpy K2 K 0 0 150) (va_cpy V2 V 0 0 150) S z2) := by
  refine qSpec_run 3 "copy" false hg mX3_copy_ok rfl rfl (Nat.le_of_ble_eq_true rfl) (by decide) ?_
  intro run step
  refine step.1 _ _ _ _ _ _ _ sgX3_copy_0_ok ?_
  refine ⟨by decide, _, _, hO.1, rfl, ?_⟩
  refine ⟨by decide, _, _, hL.1, rfl, ?_⟩
  refine Or.inr ⟨by decide, _, _, _, _, hO.2.1, hL.2.1, ⟨by decide, by decide, by decide, by decide, by decide⟩, ⟨by decide, Nat.le_of_ble_eq_true rfl⟩, ?_⟩
  refine ⟨by decide, _, _, hO.1, rfl, ?_⟩
  refine ⟨by decide, _, _, hL.1, rfl, ?_⟩
  refine Or.inr ⟨by decide, _, _, _, _, hO.2.2.1, hL.2.2.1, ⟨by decide, by decide, by decide, by decide, by decide⟩, ⟨by decide, Nat.le_of_ble_eq_true rfl⟩, ?_⟩
  refine ⟨by decide, _, _, hO.1, rfl, ?_⟩
  refine ⟨_, hL.1, Nat.le_of_ble_eq_true rfl, rfl, ?_⟩
  refine ⟨rfl, Nat.le_refl _, Nat.le_refl _, ?_⟩
  exact ⟨rfl, ⟨rfl, fun j hj => by
      have hj0 : j ≠ 26 := fun q => hj (by rw [q]; simp)
      have hj1 : j ≠ 27 := fun q => hj (by rw [q]; simp)
      have hj2 : j ≠ 28 := fun q => hj (by rw [q]; simp)
      simp only [qup_n hj0, qup_n hj1, qup_n hj2]⟩, rfl, rfl, rfl, hL.2.2.2⟩
/-- a Book -/
def Bo (d p : Nat) (cnt sets first ia ino : Int32) : qE := .inl (0, [.ref d, .ref p, .int cnt, .int sets, .int first, .int ia, .int ino])
def isB (h : qH) (a d p : Nat) (B1 B2 : Nat → Int32) (cnt sets first ia ino : Int32) : Prop := h.2 a = some (Bo d p cnt sets first ia ino) ∧ h.2 d = some (.inr (.inl (.int, 8, B1))) ∧ h.2 p = some (.inr (.inl (.int, 8, B2)))
theorem isB.sm {h h' : qH} {a d p : Nat} {B1 B2 : Nat → Int32} {cnt sets first ia ino : Int32} {z : List Nat} (hB : isB h a d p B1 B2 cnt sets first ia ino) (hs : same h h' z) (h1 : a ∉ z) (h2 : d ∉ z) (h3 : p ∉ z) : isB h' a d p B1 B2 cnt sets first ia ino := ⟨(hs.2 _ h1).trans hB.1, (hs.2 _ h2).trans hB.2.1, (hs.2 _ h3).trans hB.2.2⟩
theorem B_clear_30 {g : qG} (hg : qOK g) {h : qH} {B1 B2 : Nat → Int32} {cnt sets first ia ino : Int32} (hB : isB h 30 31 32 B1 B2 cnt sets first ia ino) : qSpec g 1 0 0 mX0_clear [.ref 30] h (fun r h' => r = none ∧ same h h' [30] ∧ isB h' 30 31 32 B1 B2 0 sets first ia ino) := by
  refine qSpec_run 0 "clear" false hg mX0_clear_ok rfl rfl (Nat.le_of_ble_eq_true rfl) (by decide) ?_
  intro run step
  refine step.1 _ _ _ _ _ _ _ sgX0_clear_0_ok ?_
  refine ⟨_, hB.1, Nat.le_of_ble_eq_true rfl, rfl, ?_⟩
  refine ⟨rfl, Nat.le_refl _, Nat.le_refl _, ?_⟩
  exact ⟨rfl, ⟨rfl, fun j hj => by
      have hj0 : j ≠ 30 := fun q => hj (by rw [q]; simp)
      simp only [qup_n hj0]⟩, rfl, hB.2.1, hB.2.2⟩
theorem B_clear_40 {g : qG} (hg : qOK g) {h : qH} {B1 B2 : Nat → Int32} {cnt sets first ia ino : Int32} (hB : isB h 40 41 42 B1 B2 cnt sets first ia ino) : qSpec g 1 0 0 mX0_clear [.ref 40] h (fun r h' => r = none ∧ same h h' [40] ∧ isB h' 40 41 42 B1 B2 0 sets first ia ino) := by
  refine qSpec_run 0 "clear" false hg mX0_clear_ok rfl rfl (Nat.le_of_ble_eq_true rfl) (by decide) ?_
  intro run step
  refine step.1 _ _ _ _ _ _ _ sgX0_clear_0_ok ?_
  refine ⟨_, hB.1, Nat.le_of_ble_eq_true rfl, rfl, ?_⟩
  refine ⟨rfl, Nat.le_refl _, Nat.le_refl _, ?_⟩
  exact ⟨rfl, ⟨rfl, fun j hj => by
      have hj0 : j ≠ 40 := fun q => hj (by rw [q]; simp)
      simp only [qup_n hj0]⟩, rfl, hB.2.1, hB.2.2⟩
theorem B_copy {g : qG} (hg : qOK g) {h : qH} {B1 B2 : Nat → Int32} {cnt sets first ia ino : Int32} (hB : isB h 30 31 32 B1 B2 cnt sets first ia ino) {C1 C2 : Nat → Int32} {cnt2 sets2 first2 ia2 ino2 : Int32} (hO : isB h 40 41 42 C1 C2 cnt2 sets2 first2 ia2 ino2) : qSpec g 2 0 0 mX0_copy [.ref 30, .ref 40] h (fun r h' => r = none ∧ same h h' [30, 31, 32] ∧ isB h' 30 31 32 (va_cpy C1 B1 0 0 8) (va_cpy C2 B2 0 0 8) cnt2 sets first ia ino) := by
  refine qSpec_run 0 "copy" false hg mX0_copy_ok rfl rfl (Nat.le_of_ble_eq_true rfl) (by decide) ?_
  intro run step
  refine step.1 _ _ _ _ _ _ _ sgX0_copy_0_ok ?_
  refine ⟨by decide, _, _, hO.1, rfl, ?_⟩
  refine ⟨by decide, _, _, hB.1, rfl, ?_⟩
  refine Or.inr ⟨by decide, _, _, _, _, hO.2.1, hB.2.1, ⟨by decide, by decide, by decide, by decide, by decide⟩, ⟨by decide, Nat.le_of_ble_eq_true rfl⟩, ?_⟩
  refine ⟨by decide, _, _, hO.1, rfl, ?_⟩
  refine ⟨by decide, _, _, hB.1, rfl, ?_⟩
  refine Or.inr ⟨by decide, _, _, _, _, hO.2.2, hB.2.2, ⟨by decide, by decide, by decide, by decide, by decide⟩, ⟨by decide, Nat.le_of_ble_eq_true rfl⟩, ?_⟩
  refine ⟨by decide, _, _, hO.1, rfl, ?_⟩
  refine ⟨_, hB.1, Nat.le_of_ble_eq_true rfl, rfl, ?_⟩
  refine ⟨rfl, Nat.le_refl _, Nat.le_refl _, ?_⟩
  exact ⟨rfl, ⟨rfl, fun j hj => by
      have hj0 : j ≠ 30 := fun q => hj (by rw [q]; simp)
      have hj1 : j ≠ 31 := fun q => hj (by rw [q]; simp)
      have hj2 : j ≠ 32 := fun q => hj (by rw [q]; simp)
      simp only [qup_n hj0, qup_n hj1, qup_n hj2]⟩, rfl, rfl, rfl⟩
theorem B_add {g : qG} (hg : qOK g) {h : qH} {B1 B2 : Nat → Int32} {x : Nat} {sets first ia ino : Int32} (hB : isB h 40 41 42 B1 B2 (nI x) sets first ia ino) (hx : x < 8) (p q : Int32) : qSpec g 2 0 0 mX0_add [.ref 40, .int p, .int q] h (fun r h' => r = none ∧ same h h' [40, 41, 42] ∧ isB h' 40 41 42 (upd B1 x p) (upd B2 x q) (nI (x + 1)) sets first ia ino) := by
  refine qSpec_run 0 "add" false hg mX0_add_ok rfl rfl (Nat.le_of_ble_eq_true rfl) (by decide) ?_
  intro run step
  have e := h_tn (n := x) (by omega)
  refine step.1 _ _ _ _ _ _ _ sgX0_add_0_ok ?_
  refine ⟨by decide, _, _, hB.1, rfl, ?_⟩
  refine Or.inl ⟨rfl, _, 1, 0, 0, _, Or.inr qi_0_28, ⟨rfl, rfl⟩, rfl, rfl, sp_within hg _ _ _, fun y7 h7 hy7 => ?_⟩
  obtain ⟨rfl, hh⟩ := hy7
  rw [hh]
  clear hh
  refine ⟨fun c10 => absurd ((congrArg qb (within_t (lo := 0) (x := x) (hi := 7) (by omega) (by omega) (by omega))).symm.trans c10) (by decide), fun c10 => ?_⟩
  refine ⟨by decide, _, _, hB.1, rfl, ?_⟩
  refine ⟨by decide, _, _, hB.1, rfl, ?_⟩
  refine ⟨_, _, hB.2.1, vp_in_nI (by omega) (by decide), ?_⟩
  refine ⟨by decide, _, _, hB.1, rfl, ?_⟩
  refine ⟨by decide, _, _, hB.1, rfl, ?_⟩
  refine ⟨_, _, hB.2.2, vp_in_nI (by omega) (by decide), ?_⟩
  refine ⟨rfl, ?_⟩
  refine ⟨by decide, _, _, hB.1, rfl, ?_⟩
  refine ⟨_, hB.1, Nat.le_of_ble_eq_true rfl, rfl, ?_⟩
  refine step.1 _ _ _ _ _ _ _ sgX0_add_43_ok ?_
  refine ⟨rfl, Nat.le_refl _, Nat.le_refl _, ?_⟩
  refine ⟨rfl, ⟨rfl, fun j hj => by
      have hj0 : j ≠ 40 := fun q => hj (by rw [q]; simp)
      have hj1 : j ≠ 41 := fun q => hj (by rw [q]; simp)
      have hj2 : j ≠ 42 := fun q => hj (by rw [q]; simp)
      simp only [qup_n hj0, qup_n hj1, qup_n hj2]⟩, ?_, ?_, ?_⟩
  · rw [← nI_1]; rfl
  · exact congrArg (fun z => some (Sum.inr (Sum.inl (FieldType.int, 8, upd B1 z p)))) e
  · exact congrArg (fun z => some (Sum.inr (Sum.inl (FieldType.int, 8, upd B2 z q)))) e
/-- what the doors of a set gave together -/
def bbox (D : Nat → Int32) : Nat → Nat → Int32 → Int32 → Int32
  | 0, _, _, s => s
  | m + 1, i, l, s => if l = 0 then s else bbox D m (i + 1) (l >>> (1 &&& 31)) (s + (l &&& 1) * D (i * 10 + 1))
def brt (D B1 B2 : Nat → Int32) (g : Int32) : Nat → Nat → Nat
  | 0, i => i
  | m + 1, i => if bbox D 10 0 (g &&& B1 i) 0 = B2 i then brt D B1 B2 g m (i + 1) else i
theorem brt_le (D B1 B2 : Nat → Int32) (g : Int32) : ∀ m i : Nat, i ≤ brt D B1 B2 g m i ∧ brt D B1 B2 g m i ≤ i + m
  | 0, i => ⟨Nat.le_refl _, Nat.le_refl _⟩
  | m + 1, i => by
    unfold brt
    split
    · have := brt_le D B1 B2 g m (i + 1); omega
    · omega
abbrev fS : Type := Int32 × Int32 × Int32 × Int32
def bst (D B1 B2 : Nat → Int32) (N : Nat) (i : Nat) (s : fS) : fS := if brt D B1 B2 (nI i) N 0 = N then (s.1 + 1, if s.1 = 0 then nI i else s.2.1, s.2.2.1 &&& nI i, s.2.2.2 ||| nI i) else s
def bsets (D B1 B2 : Nat → Int32) (N : Nat) : Nat → Nat → fS → fS
  | 0, _, s => s
  | m + 1, i, s => bsets D B1 B2 N m (i + 1) (bst D B1 B2 N i s)
theorem all_nn : ∀ nn : Nat, nn < 11 → ((1 : Int32) <<< (nI nn &&& 31)) - 1 = nI (2 ^ nn - 1) := by decide +kernel
theorem B_boxOf {g : qG} (hg : qOK g) {h : qH} {B1 B2 : Nat → Int32} {cnt sets first ia ino : Int32} (hB : isB h 30 31 32 B1 B2 cnt sets first ia ino) {D P U : Nat → Int32} {n k u st ve cl : Int32} (hR : isR h 3 4 5 6 D P U n k u st ve cl) (x : Int32) : qSpec g 2 0 0 mX0_boxOf [.ref 30, .ref 3, .int x] h (fun r h' => r = some (.int (bbox D 10 0 x 0)) ∧ h' = h) := by
  refine qSpec_run 0 "boxOf" false hg mX0_boxOf_ok rfl rfl (Nat.le_of_ble_eq_true rfl) (by decide) ?_
  intro run step
  have loop : ∀ (m i : Nat) (l s : Int32), i + m = 10 → bbox D m i l s = bbox D 10 0 x 0 → run 8 [(5, .int (nI i)), (4, .int l), (3, .int s), (0, .ref 30), (1, .ref 3), (2, .int x)] [] h 0 0 := by
    intro m
    induction m with
    | zero =>
      intro i l s hi hst
      obtain rfl : i = 10 := by omega
      refine step.1 _ _ _ _ _ _ _ sgX0_boxOf_8_ok ?_
      refine ⟨fun c12 => ?_, fun c12 => absurd (by decide : (10 : Int32) ≤ nI 10) c12⟩
      refine step.1 _ _ _ _ _ _ _ sgX0_boxOf_47_ok ?_
      refine ⟨.int, rfl, rfl, Nat.le_refl _, Nat.le_refl _, ?_⟩
      exact ⟨by rw [← hst]; rfl, rfl⟩
    | succ m ih =>
      intro i l s hi hst
      refine step.1 _ _ _ _ _ _ _ sgX0_boxOf_8_ok ?_
      refine ⟨fun c12 => absurd c12 (h_nle (b := 10) (by omega) (by decide)), fun c12 => ?_⟩
      refine ⟨fun c17 => ?_, fun c17 => ?_⟩
      · have c17 : l = 0 := c17
        refine step.1 _ _ _ _ _ _ _ sgX0_boxOf_47_ok ?_
        refine ⟨.int, rfl, rfl, Nat.le_refl _, Nat.le_refl _, ?_⟩
        exact ⟨by rw [← hst, bbox, if_pos c17], rfl⟩
      · have c17 : ¬ l = 0 := c17
        refine Or.inl ⟨rfl, _, 1, 0, 0, _, _, _, qi_0_36, ⟨rfl, rfl⟩, ⟨hR.1, rfl⟩, rfl, rfl, R_of hg hR i 1 (by omega) (by decide), fun y29 h29 hy29 => ?_⟩
        obtain ⟨rfl, hh⟩ := hy29
        rw [hh]
        clear hh
        have kk2 := ih (i + 1) _ _ (by omega) (by rw [← hst, bbox, if_neg c17])
        rw [← nI_1] at kk2
        exact kk2
  refine step.1 _ _ _ _ _ _ _ sgX0_boxOf_0_ok ?_
  exact loop 10 0 x 0 rfl rfl
theorem B_right {g : qG} (hg : qOK g) {h : qH} {B1 B2 : Nat → Int32} {N : Nat} {sets first ia ino : Int32} (hB : isB h 30 31 32 B1 B2 (nI N) sets first ia ino) (hN : N ≤ 8) {D P U : Nat → Int32} {n k u st ve cl : Int32} (hR : isR h 3 4 5 6 D P U n k u st ve cl) (x : Int32) : qSpec g 3 0 0 mX0_rightLines [.ref 30, .ref 3, .int x] h (fun r h' => r = some (.int (nI (brt D B1 B2 x N 0))) ∧ h' = h) := by
  refine qSpec_run 0 "rightLines" false hg mX0_rightLines_ok rfl rfl (Nat.le_of_ble_eq_true rfl) (by decide) ?_
  intro run step
  have loop : ∀ (m i : Nat), i + m = N → brt D B1 B2 x m i = brt D B1 B2 x N 0 → run 2 [(3, .int (nI i)), (0, .ref 30), (1, .ref 3), (2, .int x)] [] h 0 0 := by
    intro m
    induction m with
    | zero =>
      intro i hi hst
      refine step.1 _ _ _ _ _ _ _ sgX0_rightLines_2_ok ?_
      refine ⟨by decide, _, _, hB.1, rfl, ?_⟩
      refine ⟨fun c7 => ?_, fun c7 => absurd (nI_le (a := N) (b := i) (by omega) (by omega)) c7⟩
      refine step.1 _ _ _ _ _ _ _ sgX0_rightLines_46_ok ?_
      refine ⟨by decide, _, _, hB.1, rfl, ?_⟩
      refine ⟨.int, rfl, rfl, Nat.le_refl _, Nat.le_refl _, ?_⟩
      exact ⟨by rw [← hst, brt]; exact congrArg (fun z => some (Value.int (nI z))) (show N = i by omega), rfl⟩
    | succ m ih =>
      intro i hi hst
      have e := h_tn (n := i) (by omega)
      refine step.1 _ _ _ _ _ _ _ sgX0_rightLines_2_ok ?_
      refine ⟨by decide, _, _, hB.1, rfl, ?_⟩
      refine ⟨fun c7 => absurd c7 (nI_ge (by omega) (by omega)), fun c7 => ?_⟩
      refine ⟨fun c13 => absurd c13 (h_nle (b := 8) (by omega) (by decide)), fun c13 => ?_⟩
      refine ⟨by decide, _, _, hB.1, rfl, ?_⟩
      refine ⟨_, _, hB.2.1, vp_in_nI (by omega) (by decide), ?_⟩
      refine Or.inl ⟨rfl, _, 2, 0, 0, _, _, _, qi_0_32, ⟨rfl, rfl⟩, ⟨hB.1, rfl⟩, rfl, rfl, B_boxOf hg hB hR _, fun y26 h26 hy26 => ?_⟩
      obtain ⟨rfl, hh⟩ := hy26
      rw [hh]
      clear hh
      refine ⟨by decide, _, _, hB.1, rfl, ?_⟩
      refine ⟨_, _, hB.2.2, vp_in_nI (by omega) (by decide), ?_⟩
      refine ⟨fun c35 => ?_, fun c35 => ?_⟩
      · have c35 : bbox D 10 0 (x &&& B1 (nI i).toNatClampNeg) 0 = B2 (nI i).toNatClampNeg := c35
        rw [e] at c35
        refine step.1 _ _ _ _ _ _ _ sgX0_rightLines_40_ok ?_
        have kk2 := ih (i + 1) (by omega) (by rw [← hst, brt, if_pos c35])
        rw [← nI_1] at kk2
        exact kk2
      · have c35 : ¬ bbox D 10 0 (x &&& B1 (nI i).toNatClampNeg) 0 = B2 (nI i).toNatClampNeg := c35
        rw [e] at c35
        refine ⟨.int, rfl, rfl, Nat.le_refl _, Nat.le_refl _, ?_⟩
        exact ⟨by rw [← hst, brt, if_neg c35], rfl⟩
  refine step.1 _ _ _ _ _ _ _ sgX0_rightLines_0_ok ?_
  exact loop N 0 (by omega) rfl
theorem B_findSets {g : qG} (hg : qOK g) {h : qH} {B1 B2 : Nat → Int32} {N : Nat} {sets first ia ino : Int32} (hB : isB h 30 31 32 B1 B2 (nI N) sets first ia ino) (hN : N ≤ 8) {D P U : Nat → Int32} {k u st ve cl : Int32} {nn : Nat} (hR : isR h 3 4 5 6 D P U (nI nn) k u st ve cl) (hnn : nn ≤ 10) : qSpec g 4 0 0 mX0_findSets [.ref 30, .ref 3] h (fun r h' => r = none ∧ same h h' [30] ∧ isB h' 30 31 32 B1 B2 (nI N) (bsets D B1 B2 N (2 ^ nn) 0 (0, -1, nI (2 ^ nn - 1), 0)).1 (bsets D B1 B2 N (2 ^ nn) 0 (0, -1, nI (2 ^ nn - 1), 0)).2.1 (if (bsets D B1 B2 N (2 ^ nn) 0 (0, -1, nI (2 ^ nn - 1), 0)).1 = 0 then 0 else (bsets D B1 B2 N (2 ^ nn) 0 (0, -1, nI (2 ^ nn - 1), 0)).2.2.1) (if (bsets D B1 B2 N (2 ^ nn) 0 (0, -1, nI (2 ^ nn - 1), 0)).1 = 0 then 0 else nI (2 ^ nn - 1) &&& ((bsets D B1 B2 N (2 ^ nn) 0 (0, -1, nI (2 ^ nn - 1), 0)).2.2.2 ^^^ -1))) := by
  refine qSpec_run 0 "findSets" false hg mX0_findSets_ok rfl rfl (Nat.le_of_ble_eq_true rfl) (by decide) ?_
  intro run step
  have h2 : 1 ≤ 2 ^ nn := Nat.one_le_two_pow
  have h3 : 2 ^ nn ≤ 1024 := Nat.pow_le_pow_right (by decide) hnn
  have loop : ∀ (m i : Nat) (s : fS) (hX : qH), i + m = 2 ^ nn → bsets D B1 B2 N m i s = (bsets D B1 B2 N (2 ^ nn) 0 (0, -1, nI (2 ^ nn - 1), 0)) → same h hX [30] → isB hX 30 31 32 B1 B2 (nI N) s.1 s.2.1 s.2.2.1 ino → run 25 [(4, .int (nI i)), (3, .int s.2.2.2), (2, .int (nI (2 ^ nn - 1))), (0, .ref 30), (1, .ref 3)] [] hX 0 0 := by
    intro m
    induction m with
    | zero =>
      intro i s hX hi hst hsX hBX
      have hst : s = (bsets D B1 B2 N (2 ^ nn) 0 (0, -1, nI (2 ^ nn - 1), 0)) := hst
      have hRX := hR.sm hsX (by simp) (by simp) (by simp) (by simp)
      refine step.1 _ _ _ _ _ _ _ sgX0_findSets_25_ok ?_
      refine ⟨fun c28 => ?_, fun c28 => absurd (nI_lt (a := 2 ^ nn - 1) (b := i) (by omega) (by omega)) c28⟩
      refine step.1 _ _ _ _ _ _ _ sgX0_findSets_97_ok ?_
      refine ⟨by decide, _, _, hBX.1, rfl, ?_⟩
      refine ⟨fun c102 => ?_, fun c102 => ?_⟩
      · have c102 : ¬ s.1 = 0 := c102
        refine step.1 _ _ _ _ _ _ _ sgX0_findSets_109_ok ?_
        refine step.1 _ _ _ _ _ _ _ sgX0_findSets_114_ok ?_
        refine ⟨_, hBX.1, Nat.le_of_ble_eq_true rfl, rfl, ?_⟩
        refine ⟨by decide, _, _, rfl, rfl, ?_⟩
        refine ⟨fun c122 => ?_, fun c122 => ?_⟩
        · have c122 : ¬ s.1 = 0 := c122
          refine step.1 _ _ _ _ _ _ _ sgX0_findSets_129_ok ?_
          refine ⟨by decide, _, _, rfl, rfl, ?_⟩
          refine step.1 _ _ _ _ _ _ _ sgX0_findSets_133_ok ?_
          refine ⟨_, rfl, Nat.le_of_ble_eq_true rfl, rfl, ?_⟩
          refine ⟨rfl, Nat.le_refl _, Nat.le_refl _, ?_⟩
          refine ⟨rfl, hsX.t2 (l' := [30]) (⟨rfl, fun j hj => by
            have hj0 : j ≠ 30 := fun q => hj (by rw [q]; simp)
            simp only [qup_n hj0]⟩) (by decide), ?_, hBX.2.1, hBX.2.2⟩
          rw [← hst, if_neg c102, if_neg c102]
          rfl
        · have c122 : s.1 = 0 := c122
          refine step.1 _ _ _ _ _ _ _ sgX0_findSets_133_ok ?_
          refine ⟨_, rfl, Nat.le_of_ble_eq_true rfl, rfl, ?_⟩
          refine ⟨rfl, Nat.le_refl _, Nat.le_refl _, ?_⟩
          exact absurd c122 c102
      · have c102 : s.1 = 0 := c102
        refine step.1 _ _ _ _ _ _ _ sgX0_findSets_114_ok ?_
        refine ⟨_, hBX.1, Nat.le_of_ble_eq_true rfl, rfl, ?_⟩
        refine ⟨by decide, _, _, rfl, rfl, ?_⟩
        refine ⟨fun c122 => ?_, fun c122 => ?_⟩
        · have c122 : ¬ s.1 = 0 := c122
          refine step.1 _ _ _ _ _ _ _ sgX0_findSets_129_ok ?_
          refine ⟨by decide, _, _, rfl, rfl, ?_⟩
          refine step.1 _ _ _ _ _ _ _ sgX0_findSets_133_ok ?_
          refine ⟨_, rfl, Nat.le_of_ble_eq_true rfl, rfl, ?_⟩
          refine ⟨rfl, Nat.le_refl _, Nat.le_refl _, ?_⟩
          exact absurd c102 c122
        · have c122 : s.1 = 0 := c122
          refine step.1 _ _ _ _ _ _ _ sgX0_findSets_133_ok ?_
          refine ⟨_, rfl, Nat.le_of_ble_eq_true rfl, rfl, ?_⟩
          refine ⟨rfl, Nat.le_refl _, Nat.le_refl _, ?_⟩
          refine ⟨rfl, hsX.t2 (l' := [30]) (⟨rfl, fun j hj => by
            have hj0 : j ≠ 30 := fun q => hj (by rw [q]; simp)
            simp only [qup_n hj0]⟩) (by decide), ?_, hBX.2.1, hBX.2.2⟩
          rw [← hst, if_pos c102, if_pos c102]
          rfl
    | succ m ih =>
      intro i s hX hi hst hsX hBX
      have hRX := hR.sm hsX (by simp) (by simp) (by simp) (by simp)
      refine step.1 _ _ _ _ _ _ _ sgX0_findSets_25_ok ?_
      refine ⟨fun c28 => absurd c28 (nI_nlt (by omega) (by omega)), fun c28 => ?_⟩
      refine Or.inl ⟨rfl, _, 3, 0, 0, _, _, _, qi_0_55, ⟨rfl, rfl⟩, ⟨hBX.1, rfl⟩, rfl, rfl, B_right hg hBX hN hRX _, fun y35 h35 hy35 => ?_⟩
      obtain ⟨rfl, hh⟩ := hy35
      rw [hh]
      clear hh
      refine ⟨by decide, _, _, hBX.1, rfl, ?_⟩
      refine ⟨fun c42 => ?_, fun c42 => ?_⟩
      · have hq : ¬ brt D B1 B2 (nI i) N 0 = N := fun z => c42 (congrArg nI z)
        refine step.1 _ _ _ _ _ _ _ sgX0_findSets_91_ok ?_
        have kk2 := ih (i + 1) s hX (by omega) (by rw [← hst, bsets, bst, if_neg hq]) hsX hBX
        rw [← nI_1] at kk2
        exact kk2
      · have hq : brt D B1 B2 (nI i) N 0 = N := (nI_eq (by have := (brt_le D B1 B2 (nI i) N 0).2; omega) (by omega)).mp c42
        refine ⟨by decide, _, _, hBX.1, rfl, ?_⟩
        refine ⟨fun c50 => ?_, fun c50 => ?_⟩
        · have c50 : ¬ s.1 = 0 := c50
          refine step.1 _ _ _ _ _ _ _ sgX0_findSets_58_ok ?_
          refine ⟨by decide, _, _, hBX.1, rfl, ?_⟩
          refine step.1 _ _ _ _ _ _ _ sgX0_findSets_62_ok ?_
          refine ⟨_, hBX.1, Nat.le_of_ble_eq_true rfl, rfl, ?_⟩
          refine ⟨rfl, ?_⟩
          refine ⟨by decide, _, _, rfl, rfl, ?_⟩
          refine ⟨_, rfl, Nat.le_of_ble_eq_true rfl, rfl, ?_⟩
          refine ⟨rfl, ?_⟩
          refine ⟨by decide, _, _, rfl, rfl, ?_⟩
          refine ⟨_, rfl, Nat.le_of_ble_eq_true rfl, rfl, ?_⟩
          refine step.1 _ _ _ _ _ _ _ sgX0_findSets_91_ok ?_
          have kk2 := fun hZ => ih (i + 1) (s.1 + 1, s.2.1, s.2.2.1 &&& nI i, s.2.2.2 ||| nI i) hZ (by omega) (by rw [← hst, bsets, bst, if_pos hq, if_neg c50])
          rw [← nI_1] at kk2
          exact kk2 _ (hsX.t2 (l' := [30]) (⟨rfl, fun j hj => by
            have hj0 : j ≠ 30 := fun q => hj (by rw [q]; simp)
            simp only [qup_n hj0]⟩) (by decide)) ⟨rfl, hBX.2.1, hBX.2.2⟩
        · have c50 : s.1 = 0 := c50
          refine step.1 _ _ _ _ _ _ _ sgX0_findSets_62_ok ?_
          refine ⟨_, hBX.1, Nat.le_of_ble_eq_true rfl, rfl, ?_⟩
          refine ⟨rfl, ?_⟩
          refine ⟨by decide, _, _, rfl, rfl, ?_⟩
          refine ⟨_, rfl, Nat.le_of_ble_eq_true rfl, rfl, ?_⟩
          refine ⟨rfl, ?_⟩
          refine ⟨by decide, _, _, rfl, rfl, ?_⟩
          refine ⟨_, rfl, Nat.le_of_ble_eq_true rfl, rfl, ?_⟩
          refine step.1 _ _ _ _ _ _ _ sgX0_findSets_91_ok ?_
          have kk2 := fun hZ => ih (i + 1) (s.1 + 1, nI i, s.2.2.1 &&& nI i, s.2.2.2 ||| nI i) hZ (by omega) (by rw [← hst, bsets, bst, if_pos hq, if_pos c50])
          rw [← nI_1] at kk2
          exact kk2 _ (hsX.t2 (l' := [30]) (⟨rfl, fun j hj => by
            have hj0 : j ≠ 30 := fun q => hj (by rw [q]; simp)
            simp only [qup_n hj0]⟩) (by decide)) ⟨rfl, hBX.2.1, hBX.2.2⟩
  refine step.1 _ _ _ _ _ _ _ sgX0_findSets_0_ok ?_
  refine Or.inl ⟨rfl, _, 1, 0, 0, _, _, _, qi_0_42, ⟨rfl, rfl⟩, ⟨hR.1, rfl⟩, rfl, rfl, R_allDoors hg hR, fun y1 h1 hy1 => ?_⟩
  obtain ⟨rfl, hh⟩ := hy1
  rw [hh, all_nn nn (by omega)]
  clear hh
  refine ⟨_, hB.1, Nat.le_of_ble_eq_true rfl, rfl, ?_⟩
  refine ⟨_, rfl, Nat.le_of_ble_eq_true rfl, rfl, ?_⟩
  refine ⟨_, rfl, Nat.le_of_ble_eq_true rfl, rfl, ?_⟩
  exact loop (2 ^ nn) 0 (0, -1, nI (2 ^ nn - 1), 0) _ (by omega) rfl (⟨rfl, fun j hj => by
    have hj0 : j ≠ 30 := fun q => hj (by rw [q]; simp)
    simp only [qup_n hj0]⟩) ⟨rfl, hB.2.1, hB.2.2⟩
end Q08E
