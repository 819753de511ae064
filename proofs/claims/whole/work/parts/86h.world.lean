/-! the class: the kind of a line -/
theorem t_Reader_kindOfWord {X : zz_X} {σ : zz_M} {c a p : Nat} {law : Int} {T : List Int} {k : zr_T} (hT : T.length ≤ 600) (hpT : T.length ≤ p) (hac : a + 1 < c ∨ c + 5 < a) (hB : BL σ a T) (hR : CRd σ c k) (ok : zr_ok T k) (hl : σ.1 201 (c + 1) = law) : zz_T X 6 p_Reader_kindOfWord [zP 6 0 0 c, zP 0 p 0 a] σ (fun r σ' => σ = σ' ∧ r = some (zI (zr_kd T law k))) := by
  refine zz_mk k_Reader_kindOfWord o_Reader_kindOfWord rfl rfl (Nat.le_of_ble_eq_true rfl) ?_
  show zz_G X 6 p_Reader_kindOfWord 0 [zP 6 0 0 c, zP 0 p 0 a] [] σ _
  have hac1 : c ≠ a ∧ c ≠ a + 1 := ⟨by omega, by omega⟩
  refine zz_gsn 3 rfl ?_
  refine zz_cv (n := 3) rfl rfl (t_Reader_isWord (w := 3) (T := T) (k := k) hB hT hpT hac1 hR ok (by decide)) (Nat.le_of_ble_eq_true rfl) (Nat.le_of_ble_eq_true rfl) (Nat.le_of_ble_eq_true rfl) (fun r3 σ3 q3 => ?_)
  obtain ⟨rfl, n3, rfl, e3⟩ := q3
  refine zz_br rfl (fun h4 => ?_) (fun h4 => ?_)
  · refine zz_gsn 3 rfl ?_
    refine zz_cv (n := 3) rfl rfl (t_Reader_isWord (w := 4) (T := T) (k := k) hB hT hpT hac1 hR ok (by decide)) (Nat.le_of_ble_eq_true rfl) (Nat.le_of_ble_eq_true rfl) (Nat.le_of_ble_eq_true rfl) (fun r10 σ10 q10 => ?_)
    obtain ⟨rfl, n10, rfl, e10⟩ := q10
    refine zz_br rfl (fun h11 => ?_) (fun h11 => ?_)
    · refine zz_gsn 4 rfl ?_
      refine zz_br rfl (fun h18 => ?_) (fun h18 => ?_)
      · refine zz_gsn 4 rfl ?_
        refine zz_br rfl (fun h30 => ?_) (fun h30 => absurd (by first | exact h30 | exact Decidable.not_not.mp h30) h18)
        refine zz_gsn 1 rfl ?_
        refine zz_ri rfl (Or.inl rfl) ?_
        exact ⟨rfl, congrArg (fun z => some (zI z)) (Eq.symm ((if_neg (by rw [e3.elim (fun z => absurd (z.1.symm.trans h4) (by decide)) (fun z => z.2)]; exact Bool.false_ne_true)).trans ((if_neg (by rw [e10.elim (fun z => absurd (z.1.symm.trans h11) (by decide)) (fun z => z.2)]; exact Bool.false_ne_true)).trans ((if_neg (fun z => h18 (hl.trans z.1))).trans (if_neg (fun z => h18 (hl.trans z.1)))))))⟩
      · refine zz_gsn 3 rfl ?_
        refine zz_cv (n := 3) rfl rfl (t_Reader_isWord (w := 5) (T := T) (k := k) hB hT hpT hac1 hR ok (by decide)) (Nat.le_of_ble_eq_true rfl) (Nat.le_of_ble_eq_true rfl) (Nat.le_of_ble_eq_true rfl) (fun r22 σ22 q22 => ?_)
        obtain ⟨rfl, n22, rfl, e22⟩ := q22
        refine zz_br rfl (fun h23 => ?_) (fun h23 => ?_)
        · refine zz_gsn 4 rfl ?_
          refine zz_br rfl (fun h30 => ?_) (fun h30 => ?_)
          · refine zz_gsn 1 rfl ?_
            refine zz_ri rfl (Or.inl rfl) ?_
            exact ⟨rfl, congrArg (fun z => some (zI z)) (Eq.symm ((if_neg (by rw [e3.elim (fun z => absurd (z.1.symm.trans h4) (by decide)) (fun z => z.2)]; exact Bool.false_ne_true)).trans ((if_neg (by rw [e10.elim (fun z => absurd (z.1.symm.trans h11) (by decide)) (fun z => z.2)]; exact Bool.false_ne_true)).trans ((if_neg (fun z => absurd z.2 (by rw [e22.elim (fun z => absurd (z.1.symm.trans h23) (by decide)) (fun z => z.2)]; exact Bool.false_ne_true))).trans (if_neg (fun z => h30 (hl.trans z.1)))))))⟩
          · refine zz_gsn 3 rfl ?_
            refine zz_cv (n := 3) rfl rfl (t_Reader_isWord (w := 6) (T := T) (k := k) hB hT hpT hac1 hR ok (by decide)) (Nat.le_of_ble_eq_true rfl) (Nat.le_of_ble_eq_true rfl) (Nat.le_of_ble_eq_true rfl) (fun r34 σ34 q34 => ?_)
            obtain ⟨rfl, n34, rfl, e34⟩ := q34
            refine zz_br rfl (fun h35 => ?_) (fun h35 => ?_)
            · refine zz_gsn 1 rfl ?_
              refine zz_ri rfl (Or.inl rfl) ?_
              exact ⟨rfl, congrArg (fun z => some (zI z)) (Eq.symm ((if_neg (by rw [e3.elim (fun z => absurd (z.1.symm.trans h4) (by decide)) (fun z => z.2)]; exact Bool.false_ne_true)).trans ((if_neg (by rw [e10.elim (fun z => absurd (z.1.symm.trans h11) (by decide)) (fun z => z.2)]; exact Bool.false_ne_true)).trans ((if_neg (fun z => absurd z.2 (by rw [e22.elim (fun z => absurd (z.1.symm.trans h23) (by decide)) (fun z => z.2)]; exact Bool.false_ne_true))).trans (if_neg (fun z => absurd z.2 (by rw [e34.elim (fun z => absurd (z.1.symm.trans h35) (by decide)) (fun z => z.2)]; exact Bool.false_ne_true)))))))⟩
            · refine zz_gsn 1 rfl ?_
              refine zz_jp rfl ?_
              refine zz_ri rfl (Or.inl rfl) ?_
              exact ⟨rfl, congrArg (fun z => some (zI z)) (Eq.symm ((if_neg (by rw [e3.elim (fun z => absurd (z.1.symm.trans h4) (by decide)) (fun z => z.2)]; exact Bool.false_ne_true)).trans ((if_neg (by rw [e10.elim (fun z => absurd (z.1.symm.trans h11) (by decide)) (fun z => z.2)]; exact Bool.false_ne_true)).trans ((if_neg (fun z => absurd z.2 (by rw [e22.elim (fun z => absurd (z.1.symm.trans h23) (by decide)) (fun z => z.2)]; exact Bool.false_ne_true))).trans (if_pos ⟨hl.symm.trans (by first | exact h30 | exact Decidable.not_not.mp h30), (e34.elim (fun z => z.2) (fun z => absurd z.1 h35))⟩)))))⟩
        · refine zz_gsn 1 rfl ?_
          refine zz_ri rfl (Or.inl rfl) ?_
          exact ⟨rfl, congrArg (fun z => some (zI z)) (Eq.symm ((if_neg (by rw [e3.elim (fun z => absurd (z.1.symm.trans h4) (by decide)) (fun z => z.2)]; exact Bool.false_ne_true)).trans ((if_neg (by rw [e10.elim (fun z => absurd (z.1.symm.trans h11) (by decide)) (fun z => z.2)]; exact Bool.false_ne_true)).trans (if_pos ⟨hl.symm.trans (by first | exact h18 | exact Decidable.not_not.mp h18), (e22.elim (fun z => z.2) (fun z => absurd z.1 h23))⟩))))⟩
    · refine zz_gsn 1 rfl ?_
      refine zz_ri rfl (Or.inl rfl) ?_
      exact ⟨rfl, congrArg (fun z => some (zI z)) (Eq.symm ((if_neg (by rw [e3.elim (fun z => absurd (z.1.symm.trans h4) (by decide)) (fun z => z.2)]; exact Bool.false_ne_true)).trans (if_pos (e10.elim (fun z => z.2) (fun z => absurd z.1 h11)))))⟩
  · refine zz_gsn 1 rfl ?_
    refine zz_ri rfl (Or.inl rfl) ?_
    exact ⟨rfl, congrArg (fun z => some (zI z)) (Eq.symm (if_pos (e3.elim (fun z => z.2) (fun z => absurd z.1 h4))))⟩
