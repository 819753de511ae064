/-! the class: what the reading expects -/
theorem t_Reader_expectWord {X : zz_X} {σ : zz_M} {c a p w : Nat} {T : List Int} {k : zr_T} (hB : BL σ a T) (hT : T.length ≤ 600) (hpT : T.length ≤ p) (hac : c ≠ a ∧ c ≠ a + 1) (hR : CRd σ c k) (ok : zr_ok T k) (hw : (zz_tx w).length ≤ 20) : zz_T X 6 p_Reader_expectWord [zP 6 0 0 c, zP 0 p 0 a, zO (w + 2)] σ (fun r σ' => r = none ∧ CRd σ' c (zr_wd T w k) ∧ BL σ' a T ∧ zz_F (A_c1 c) σ σ') := by
  refine zz_mk k_Reader_expectWord o_Reader_expectWord rfl rfl (Nat.le_of_ble_eq_true rfl) ?_
  show zz_G X 6 p_Reader_expectWord 0 [zP 6 0 0 c, zP 0 p 0 a, zO (w + 2)] [] σ _
  refine zz_gsn 3 rfl ?_
  refine zz_cv (n := 3) rfl rfl (t_Reader_isWord (w := w) (T := T) (k := k) hB hT hpT hac hR ok hw) (Nat.le_of_ble_eq_true rfl) (Nat.le_of_ble_eq_true rfl) (Nat.le_of_ble_eq_true rfl) (fun r3 σ3 q3 => ?_)
  obtain ⟨rfl, n3, rfl, e3⟩ := q3
  refine zz_br rfl (fun h4 => ?_) (fun h4 => ?_)
  · refine zz_gsn 2 rfl ?_
    refine zz_cv (n := 2) rfl rfl (t_Reader_refuse (x := 1) (k := k) hR) (Nat.le_of_ble_eq_true rfl) (Nat.le_of_ble_eq_true rfl) (Nat.le_of_ble_eq_true rfl) (fun r11 σ11 q11 => ?_)
    obtain ⟨rfl, p11, g11⟩ := q11
    have B11 := hB.f g11 (fun z => hac.1 z.symm) (fun z => hac.2 z.symm)
    refine zz_rv rfl rfl ?_
    rw [show zr_wd T w k = zr_err 1 k from if_neg (by rw [e3.elim (fun z => absurd (z.1.symm.trans h4) (by decide)) (fun z => z.2)]; exact Bool.false_ne_true)]
    exact ⟨rfl, p11, B11, g11⟩
  · refine zz_gsn 2 rfl ?_
    refine zz_cv (n := 2) rfl rfl (t_Reader_step (T := T) (k := k) hB hT hpT hac hR ok) (Nat.le_of_ble_eq_true rfl) (Nat.le_of_ble_eq_true rfl) (Nat.le_of_ble_eq_true rfl) (fun r7 σ7 q7 => ?_)
    obtain ⟨rfl, p7, B7, g7⟩ := q7
    refine zz_jp rfl ?_
    refine zz_rv rfl rfl ?_
    rw [show zr_wd T w k = zr_adv T k from if_pos (e3.elim (fun z => z.2) (fun z => absurd z.1 h4))]
    exact ⟨rfl, p7, B7, g7⟩
theorem t_Reader_expectSign {X : zz_X} {σ : zz_M} {c a p : Nat} {T : List Int} {k : zr_T} (hB : BL σ a T) (hT : T.length ≤ 600) (hpT : T.length ≤ p) (hac : c ≠ a ∧ c ≠ a + 1) (hR : CRd σ c k) (ok : zr_ok T k) : zz_T X 5 p_Reader_expectSign [zP 6 0 0 c, zP 0 p 0 a] σ (fun r σ' => r = none ∧ CRd σ' c (zr_sg T k) ∧ BL σ' a T ∧ zz_F (A_c1 c) σ σ') := by
  refine zz_mk k_Reader_expectSign o_Reader_expectSign rfl rfl (Nat.le_of_ble_eq_true rfl) ?_
  show zz_G X 5 p_Reader_expectSign 0 [zP 6 0 0 c, zP 0 p 0 a] [] σ _
  have r3 := hR.2.2.1
  refine zz_gsn 3 rfl ?_
  refine zz_br rfl (fun h3 => ?_) (fun h3 => ?_)
  · refine zz_gsn 2 rfl ?_
    refine zz_cv (n := 2) rfl rfl (t_Reader_refuse (x := 1) (k := k) hR) (Nat.le_of_ble_eq_true rfl) (Nat.le_of_ble_eq_true rfl) (Nat.le_of_ble_eq_true rfl) (fun r10 σ10 q10 => ?_)
    obtain ⟨rfl, p10, g10⟩ := q10
    have B10 := hB.f g10 (fun z => hac.1 z.symm) (fun z => hac.2 z.symm)
    refine zz_rv rfl rfl ?_
    rw [show zr_sg T k = zr_err 1 k from if_neg (fun z => h3 (r3.trans z))]
    exact ⟨rfl, p10, B10, g10⟩
  · refine zz_gsn 2 rfl ?_
    refine zz_cv (n := 2) rfl rfl (t_Reader_step (T := T) (k := k) hB hT hpT hac hR ok) (Nat.le_of_ble_eq_true rfl) (Nat.le_of_ble_eq_true rfl) (Nat.le_of_ble_eq_true rfl) (fun r6 σ6 q6 => ?_)
    obtain ⟨rfl, p6, B6, g6⟩ := q6
    refine zz_jp rfl ?_
    refine zz_rv rfl rfl ?_
    rw [show zr_sg T k = zr_adv T k from if_pos (r3.symm.trans (by first | exact h3 | exact Decidable.not_not.mp h3))]
    exact ⟨rfl, p6, B6, g6⟩
theorem t_Reader_expectNumber {X : zz_X} {σ : zz_M} {c a p : Nat} {lo hi : Int} {T : List Int} {k : zr_T} (hB : BL σ a T) (hT : T.length ≤ 600) (hpT : T.length ≤ p) (hac : c ≠ a ∧ c ≠ a + 1) (hR : CRd σ c k) (ok : zr_ok T k) (hlo : lo ≤ 100) (hhi : hi ≤ 100) : zz_T X 5 p_Reader_expectNumber [zP 6 0 0 c, zP 0 p 0 a, zI lo, zI hi] σ (fun r σ' => ∃ v : Int, r = some (zI v) ∧ CRd σ' c (zr_nm T lo hi k) ∧ BL σ' a T ∧ zz_F (A_c1 c) σ σ' ∧ ((zr_nm T lo hi k).f = 0 → v = k.v)) := by
  refine zz_mk k_Reader_expectNumber o_Reader_expectNumber rfl rfl (Nat.le_of_ble_eq_true rfl) ?_
  show zz_G X 5 p_Reader_expectNumber 0 [zP 6 0 0 c, zP 0 p 0 a, zI lo, zI hi, zU] [] σ _
  obtain ⟨r1, r2, r3, r4, r5, r6⟩ := id hR
  refine zz_gsn 6 rfl ?_
  refine zz_br rfl (fun h6 => ?_) (fun h6 => ?_)
  · refine zz_gsn 2 rfl ?_
    refine zz_br rfl (fun h13 => ?_) (fun h13 => ?_)
    · refine zz_gsn 2 rfl ?_
      refine zz_cv (n := 2) rfl rfl (t_Reader_refuse (x := 2) (k := k) hR) (Nat.le_of_ble_eq_true rfl) (Nat.le_of_ble_eq_true rfl) (Nat.le_of_ble_eq_true rfl) (fun r19 σ19 q19 => ?_)
      obtain ⟨rfl, p19, g19⟩ := q19
      have B19 := hB.f g19 (fun z => hac.1 z.symm) (fun z => hac.2 z.symm)
      refine zz_jp rfl ?_
      refine zz_gsn 2 rfl ?_
      refine zz_br rfl (fun h26 => ?_) (fun h26 => ?_)
      · refine zz_gsn 1 rfl ?_
        refine zz_ri rfl (Or.inl rfl) ?_
        have t2 : k.t = 2 := r3.symm.trans (by first | exact h6 | exact Decidable.not_not.mp h6)
        have ev : σ.1 607 c = min k.v 990 := r6 t2
        have bad : k.v < lo ∨ hi < k.v := by clear hT hpT; omega
        have e : zr_nm T lo hi k = zr_err 2 k := (if_neg (fun z => z t2)).trans (if_pos bad)
        rw [e]
        exact ⟨_, rfl, p19, B19, g19, fun z => absurd z (zr_err_f (by decide))⟩
      · refine zz_gsn 1 rfl ?_
        refine zz_jp rfl ?_
        refine zz_ri rfl (Or.inl rfl) ?_
        have t2 : k.t = 2 := r3.symm.trans (by first | exact h6 | exact Decidable.not_not.mp h6)
        have ev : σ.1 607 c = min k.v 990 := r6 t2
        have bad : k.v < lo ∨ hi < k.v := by clear hT hpT; omega
        have e : zr_nm T lo hi k = zr_err 2 k := (if_neg (fun z => z t2)).trans (if_pos bad)
        rw [e]
        exact ⟨_, rfl, p19, B19, g19, fun z => absurd z (zr_err_f (by decide))⟩
    · refine zz_gsn 2 rfl ?_
      refine zz_br rfl (fun h16 => ?_) (fun h16 => ?_)
      · refine zz_gsn 2 rfl ?_
        refine zz_cv (n := 2) rfl rfl (t_Reader_step (T := T) (k := k) hB hT hpT hac hR ok) (Nat.le_of_ble_eq_true rfl) (Nat.le_of_ble_eq_true rfl) (Nat.le_of_ble_eq_true rfl) (fun r23 σ23 q23 => ?_)
        obtain ⟨rfl, p23, B23, g23⟩ := q23
        refine zz_gsn 2 rfl ?_
        refine zz_br rfl (fun h26 => ?_) (fun h26 => ?_)
        · refine zz_gsn 1 rfl ?_
          refine zz_ri rfl (Or.inl rfl) ?_
          have t2 : k.t = 2 := r3.symm.trans (by first | exact h6 | exact Decidable.not_not.mp h6)
          have ev : σ.1 607 c = min k.v 990 := r6 t2
          have good : ¬ (k.v < lo ∨ hi < k.v) := by clear hT hpT; omega
          have e : zr_nm T lo hi k = zr_adv T k := (if_neg (fun z => z t2)).trans (if_neg good)
          rw [e]
          exact ⟨_, rfl, p23, B23, g23, fun z => absurd (p23.1.trans z) h26⟩
        · refine zz_gsn 1 rfl ?_
          refine zz_jp rfl ?_
          refine zz_ri rfl (Or.inl rfl) ?_
          have t2 : k.t = 2 := r3.symm.trans (by first | exact h6 | exact Decidable.not_not.mp h6)
          have ev : σ.1 607 c = min k.v 990 := r6 t2
          have good : ¬ (k.v < lo ∨ hi < k.v) := by clear hT hpT; omega
          have e : zr_nm T lo hi k = zr_adv T k := (if_neg (fun z => z t2)).trans (if_neg good)
          rw [e]
          exact ⟨_, rfl, p23, B23, g23, fun z => by clear hT hpT; omega⟩
      · refine zz_gsn 2 rfl ?_
        refine zz_cv (n := 2) rfl rfl (t_Reader_refuse (x := 2) (k := k) hR) (Nat.le_of_ble_eq_true rfl) (Nat.le_of_ble_eq_true rfl) (Nat.le_of_ble_eq_true rfl) (fun r19 σ19 q19 => ?_)
        obtain ⟨rfl, p19, g19⟩ := q19
        have B19 := hB.f g19 (fun z => hac.1 z.symm) (fun z => hac.2 z.symm)
        refine zz_jp rfl ?_
        refine zz_gsn 2 rfl ?_
        refine zz_br rfl (fun h26 => ?_) (fun h26 => ?_)
        · refine zz_gsn 1 rfl ?_
          refine zz_ri rfl (Or.inl rfl) ?_
          have t2 : k.t = 2 := r3.symm.trans (by first | exact h6 | exact Decidable.not_not.mp h6)
          have ev : σ.1 607 c = min k.v 990 := r6 t2
          have bad : k.v < lo ∨ hi < k.v := by clear hT hpT; omega
          have e : zr_nm T lo hi k = zr_err 2 k := (if_neg (fun z => z t2)).trans (if_pos bad)
          rw [e]
          exact ⟨_, rfl, p19, B19, g19, fun z => absurd z (zr_err_f (by decide))⟩
        · refine zz_gsn 1 rfl ?_
          refine zz_jp rfl ?_
          refine zz_ri rfl (Or.inl rfl) ?_
          have t2 : k.t = 2 := r3.symm.trans (by first | exact h6 | exact Decidable.not_not.mp h6)
          have ev : σ.1 607 c = min k.v 990 := r6 t2
          have bad : k.v < lo ∨ hi < k.v := by clear hT hpT; omega
          have e : zr_nm T lo hi k = zr_err 2 k := (if_neg (fun z => z t2)).trans (if_pos bad)
          rw [e]
          exact ⟨_, rfl, p19, B19, g19, fun z => absurd z (zr_err_f (by decide))⟩
  · refine zz_gsn 2 rfl ?_
    refine zz_cv (n := 2) rfl rfl (t_Reader_refuse (x := 1) (k := k) hR) (Nat.le_of_ble_eq_true rfl) (Nat.le_of_ble_eq_true rfl) (Nat.le_of_ble_eq_true rfl) (fun r9 σ9 q9 => ?_)
    obtain ⟨rfl, p9, g9⟩ := q9
    have B9 := hB.f g9 (fun z => hac.1 z.symm) (fun z => hac.2 z.symm)
    refine zz_jp rfl ?_
    refine zz_gsn 2 rfl ?_
    refine zz_br rfl (fun h26 => ?_) (fun h26 => ?_)
    · refine zz_gsn 1 rfl ?_
      refine zz_ri rfl (Or.inl rfl) ?_
      have e : zr_nm T lo hi k = zr_err 1 k := if_pos (fun z => h6 (r3.trans z))
      rw [e]
      exact ⟨_, rfl, p9, B9, g9, fun z => absurd z (zr_err_f (by decide))⟩
    · refine zz_gsn 1 rfl ?_
      refine zz_jp rfl ?_
      refine zz_ri rfl (Or.inl rfl) ?_
      have e : zr_nm T lo hi k = zr_err 1 k := if_pos (fun z => h6 (r3.trans z))
      rw [e]
      exact ⟨_, rfl, p9, B9, g9, fun z => absurd z (zr_err_f (by decide))⟩
