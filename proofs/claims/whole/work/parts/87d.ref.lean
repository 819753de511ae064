/-! the reference: what the reading takes -/
theorem zr_adv_id {T : List Int} {k : zr_T} (h : k.f ≠ 0) : zr_adv T k = k := if_neg h
theorem zr_err_id {x : Int} {k : zr_T} (h : k.f ≠ 0) : zr_err x k = k := if_neg h
theorem zr_nm_id {T : List Int} {lo hi : Int} {k : zr_T} (h : k.f ≠ 0) : zr_nm T lo hi k = k := by
  unfold zr_nm
  split
  · exact zr_err_id h
  · split
    · exact zr_err_id h
    · exact zr_adv_id h
theorem zr_sg_id {T : List Int} {k : zr_T} (h : k.f ≠ 0) : zr_sg T k = k := by
  unfold zr_sg
  split
  · exact zr_adv_id h
  · exact zr_err_id h
theorem zr_wd_0 {T : List Int} {w : Nat} {k : zr_T} (h : ¬ (k.f = 0 ∧ zr_is T w k = true)) : zr_wd T w k = zr_err 1 k := by
  unfold zr_wd
  by_cases hf : k.f = 0
  · exact if_neg (fun z => h ⟨hf, z⟩)
  · rw [zr_adv_id hf, zr_err_id hf]
    split <;> rfl
theorem t_Mo_takes {X : zz_X} {σ : zz_M} {m : Nat} {lo hi : Int} {T : List Int} {k : zr_T} (okT : zb_ok T) (hT : RTp σ m T) (hR : RRd σ m k) (ok : zr_ok T k) : zz_T X 3 p_Mo_takes [zP 12 0 0 m, zI lo, zI hi] σ (fun r σ' => ∃ v : Int, r = some (zI v) ∧ RRd σ' m (zr_nm T lo hi k) ∧ RTp σ' m T ∧ Ft m σ σ' ∧ ((zr_nm T lo hi k).f = 0 → v = k.v)) := by
  refine zz_mk k_Mo_takes o_Mo_takes rfl rfl (Nat.le_of_ble_eq_true rfl) ?_
  show zz_G X 3 p_Mo_takes 0 [zP 12 0 0 m, zI lo, zI hi, zU] [] σ _
  obtain ⟨r1, r2, r3, r4, r5, r6⟩ := id hR
  rcases (show k.f ≠ 0 ∨ (k.f = 0 ∧ k.t ≠ 2) ∨ (k.f = 0 ∧ k.t = 2 ∧ (k.v < lo ∨ hi < k.v)) ∨ (k.f = 0 ∧ k.t = 2 ∧ ¬ (k.v < lo ∨ hi < k.v)) from by omega) with hf | ⟨hf, ht⟩ | ⟨hf, ht, hb⟩ | ⟨hf, ht, hb⟩
  · refine zz_gsn 1 rfl ?_
    refine zz_cv (n := 1) rfl rfl (t_Mo_good) (Nat.le_of_ble_eq_true rfl) (Nat.le_of_ble_eq_true rfl) (Nat.le_of_ble_eq_true rfl) (fun r1 σ1 q1 => ?_)
    obtain ⟨rfl, n1, rfl, e1⟩ := q1
    replace e1 : n1 = 0 := e1.elim (fun z => absurd (hR.2.2.2.2.1.symm.trans z.2) hf) (fun z => z.1)
    refine zz_br rfl (fun h2 => ?_) (fun h2 => absurd e1 h2)
    refine zz_gsn 1 rfl ?_
    refine zz_cv (n := 1) rfl rfl (t_Mo_good) (Nat.le_of_ble_eq_true rfl) (Nat.le_of_ble_eq_true rfl) (Nat.le_of_ble_eq_true rfl) (fun r11 σ11 q11 => ?_)
    obtain ⟨rfl, n11, rfl, e11⟩ := q11
    replace e11 : n11 = 0 := e11.elim (fun z => absurd (hR.2.2.2.2.1.symm.trans z.2) hf) (fun z => z.1)
    refine zz_br rfl (fun h12 => ?_) (fun h12 => absurd e11 h12)
    refine zz_gsn 1 rfl ?_
    refine zz_cv (n := 1) rfl rfl (t_Mo_good) (Nat.le_of_ble_eq_true rfl) (Nat.le_of_ble_eq_true rfl) (Nat.le_of_ble_eq_true rfl) (fun r26 σ26 q26 => ?_)
    obtain ⟨rfl, n26, rfl, e26⟩ := q26
    replace e26 : n26 = 0 := e26.elim (fun z => absurd (hR.2.2.2.2.1.symm.trans z.2) hf) (fun z => z.1)
    refine zz_br rfl (fun h27 => absurd e26 h27) (fun h27 => ?_)
    refine zz_gsn 1 rfl ?_
    refine zz_ri rfl (Or.inl rfl) ?_
    rw [zr_nm_id hf]
    exact ⟨0, rfl, hR, hT, Ft.rf, fun z => absurd z hf⟩
  · refine zz_gsn 1 rfl ?_
    refine zz_cv (n := 1) rfl rfl (t_Mo_good) (Nat.le_of_ble_eq_true rfl) (Nat.le_of_ble_eq_true rfl) (Nat.le_of_ble_eq_true rfl) (fun r1 σ1 q1 => ?_)
    obtain ⟨rfl, n1, rfl, e1⟩ := q1
    replace e1 : n1 = 1 := e1.elim (fun z => z.1) (fun z => absurd (hR.2.2.2.2.1.trans hf) z.2)
    refine zz_br rfl (fun h2 => absurd (e1.symm.trans h2) (by decide)) (fun h2 => ?_)
    refine zz_gsn 3 rfl ?_
    refine zz_br rfl (fun h6 => absurd (rk_2.mp (r3.symm.trans h6)) ht) (fun h6 => ?_)
    refine zz_gsn 2 rfl ?_
    refine zz_cv (n := 2) rfl rfl (t_Mo_errs (x := 1) (k := k) hR hT) (Nat.le_of_ble_eq_true rfl) (Nat.le_of_ble_eq_true rfl) (Nat.le_of_ble_eq_true rfl) (fun r9 σ9 q9 => ?_)
    obtain ⟨rfl, R9, T9, g9⟩ := q9
    refine zz_gsn 1 rfl ?_
    refine zz_cv (n := 1) rfl rfl (t_Mo_good) (Nat.le_of_ble_eq_true rfl) (Nat.le_of_ble_eq_true rfl) (Nat.le_of_ble_eq_true rfl) (fun r11 σ11 q11 => ?_)
    obtain ⟨rfl, n11, rfl, e11⟩ := q11
    replace e11 : n11 = 0 := e11.elim (fun z => absurd (R9.2.2.2.2.1.symm.trans z.2) (zr_err_f (by decide))) (fun z => z.1)
    refine zz_br rfl (fun h12 => ?_) (fun h12 => absurd e11 h12)
    refine zz_gsn 1 rfl ?_
    refine zz_cv (n := 1) rfl rfl (t_Mo_good) (Nat.le_of_ble_eq_true rfl) (Nat.le_of_ble_eq_true rfl) (Nat.le_of_ble_eq_true rfl) (fun r26 σ26 q26 => ?_)
    obtain ⟨rfl, n26, rfl, e26⟩ := q26
    replace e26 : n26 = 0 := e26.elim (fun z => absurd (R9.2.2.2.2.1.symm.trans z.2) (zr_err_f (by decide))) (fun z => z.1)
    refine zz_br rfl (fun h27 => absurd e26 h27) (fun h27 => ?_)
    refine zz_gsn 1 rfl ?_
    refine zz_ri rfl (Or.inl rfl) ?_
    rw [show zr_nm T lo hi k = zr_err 1 k from if_pos ht]
    exact ⟨0, rfl, R9, T9, g9, fun z => absurd z (zr_err_f (by decide))⟩
  · refine zz_gsn 1 rfl ?_
    refine zz_cv (n := 1) rfl rfl (t_Mo_good) (Nat.le_of_ble_eq_true rfl) (Nat.le_of_ble_eq_true rfl) (Nat.le_of_ble_eq_true rfl) (fun r1 σ1 q1 => ?_)
    obtain ⟨rfl, n1, rfl, e1⟩ := q1
    replace e1 : n1 = 1 := e1.elim (fun z => z.1) (fun z => absurd (hR.2.2.2.2.1.trans hf) z.2)
    refine zz_br rfl (fun h2 => absurd (e1.symm.trans h2) (by decide)) (fun h2 => ?_)
    refine zz_gsn 3 rfl ?_
    refine zz_br rfl (fun h6 => ?_) (fun h6 => absurd (r3.trans (rk_2.mpr ht)) h6)
    refine zz_gsn 1 rfl ?_
    refine zz_cv (n := 1) rfl rfl (t_Mo_good) (Nat.le_of_ble_eq_true rfl) (Nat.le_of_ble_eq_true rfl) (Nat.le_of_ble_eq_true rfl) (fun r11 σ11 q11 => ?_)
    obtain ⟨rfl, n11, rfl, e11⟩ := q11
    replace e11 : n11 = 1 := e11.elim (fun z => z.1) (fun z => absurd (hR.2.2.2.2.1.trans hf) z.2)
    refine zz_br rfl (fun h12 => absurd (e11.symm.trans h12) (by decide)) (fun h12 => ?_)
    refine zz_gsn 7 rfl ?_
    refine zz_cs (n := 3) rfl rfl (t_Mo_in) (Nat.le_of_ble_eq_true rfl) (Nat.le_of_ble_eq_true rfl) (Nat.le_of_ble_eq_true rfl) (fun r20 σ20 q20 => ?_)
    obtain ⟨rfl, n20, rfl, e20⟩ := q20
    rw [r4 ht] at e20
    refine zz_br rfl (fun h21 => absurd (e20.elim (fun z => absurd hb (by omega)) (fun z => z.1)) h21) (fun h21 => ?_)
    refine zz_gsn 2 rfl ?_
    refine zz_cv (n := 2) rfl rfl (t_Mo_errs (x := 2) (k := k) hR hT) (Nat.le_of_ble_eq_true rfl) (Nat.le_of_ble_eq_true rfl) (Nat.le_of_ble_eq_true rfl) (fun r24 σ24 q24 => ?_)
    obtain ⟨rfl, R24, T24, g24⟩ := q24
    refine zz_gsn 1 rfl ?_
    refine zz_cv (n := 1) rfl rfl (t_Mo_good) (Nat.le_of_ble_eq_true rfl) (Nat.le_of_ble_eq_true rfl) (Nat.le_of_ble_eq_true rfl) (fun r26 σ26 q26 => ?_)
    obtain ⟨rfl, n26, rfl, e26⟩ := q26
    replace e26 : n26 = 0 := e26.elim (fun z => absurd (R24.2.2.2.2.1.symm.trans z.2) (zr_err_f (by decide))) (fun z => z.1)
    refine zz_br rfl (fun h27 => absurd e26 h27) (fun h27 => ?_)
    refine zz_gsn 1 rfl ?_
    refine zz_ri rfl (Or.inl rfl) ?_
    rw [show zr_nm T lo hi k = zr_err 2 k from (if_neg (fun z => z ht)).trans (if_pos hb)]
    exact ⟨0, rfl, R24, T24, g24, fun z => absurd z (zr_err_f (by decide))⟩
  · refine zz_gsn 1 rfl ?_
    refine zz_cv (n := 1) rfl rfl (t_Mo_good) (Nat.le_of_ble_eq_true rfl) (Nat.le_of_ble_eq_true rfl) (Nat.le_of_ble_eq_true rfl) (fun r1 σ1 q1 => ?_)
    obtain ⟨rfl, n1, rfl, e1⟩ := q1
    replace e1 : n1 = 1 := e1.elim (fun z => z.1) (fun z => absurd (hR.2.2.2.2.1.trans hf) z.2)
    refine zz_br rfl (fun h2 => absurd (e1.symm.trans h2) (by decide)) (fun h2 => ?_)
    refine zz_gsn 3 rfl ?_
    refine zz_br rfl (fun h6 => ?_) (fun h6 => absurd (r3.trans (rk_2.mpr ht)) h6)
    refine zz_gsn 1 rfl ?_
    refine zz_cv (n := 1) rfl rfl (t_Mo_good) (Nat.le_of_ble_eq_true rfl) (Nat.le_of_ble_eq_true rfl) (Nat.le_of_ble_eq_true rfl) (fun r11 σ11 q11 => ?_)
    obtain ⟨rfl, n11, rfl, e11⟩ := q11
    replace e11 : n11 = 1 := e11.elim (fun z => z.1) (fun z => absurd (hR.2.2.2.2.1.trans hf) z.2)
    refine zz_br rfl (fun h12 => absurd (e11.symm.trans h12) (by decide)) (fun h12 => ?_)
    refine zz_gsn 7 rfl ?_
    refine zz_cs (n := 3) rfl rfl (t_Mo_in) (Nat.le_of_ble_eq_true rfl) (Nat.le_of_ble_eq_true rfl) (Nat.le_of_ble_eq_true rfl) (fun r20 σ20 q20 => ?_)
    obtain ⟨rfl, n20, rfl, e20⟩ := q20
    rw [r4 ht] at e20
    refine zz_br rfl (fun h21 => ?_) (fun h21 => absurd (by first | exact h21 | exact Decidable.not_not.mp h21) (by rw [e20.elim (fun z => z.1) (fun z => absurd ⟨by omega, by omega⟩ z.2)]; decide))
    refine zz_gsn 1 rfl ?_
    refine zz_cv (n := 1) rfl rfl (t_Mo_good) (Nat.le_of_ble_eq_true rfl) (Nat.le_of_ble_eq_true rfl) (Nat.le_of_ble_eq_true rfl) (fun r26 σ26 q26 => ?_)
    obtain ⟨rfl, n26, rfl, e26⟩ := q26
    replace e26 : n26 = 1 := e26.elim (fun z => z.1) (fun z => absurd (hR.2.2.2.2.1.trans hf) z.2)
    refine zz_br rfl (fun h27 => ?_) (fun h27 => absurd (by first | exact h27 | exact Decidable.not_not.mp h27) (by rw [e26]; decide))
    refine zz_gsn 4 rfl ?_
    refine zz_cv (n := 1) rfl rfl (t_Mo_advance (T := T) (k := k) hT okT r1 ok.2.1 r5 r6) (Nat.le_of_ble_eq_true rfl) (Nat.le_of_ble_eq_true rfl) (Nat.le_of_ble_eq_true rfl) (fun r34 σ34 q34 => ?_)
    obtain ⟨rfl, R34, T34, g34⟩ := q34
    refine zz_gsn 1 rfl ?_
    refine zz_ri rfl (Or.inl rfl) ?_
    rw [show zr_nm T lo hi k = zr_ad T k from ((if_neg (fun z => z ht)).trans (if_neg hb)).trans (if_pos hf)]
    exact ⟨_, rfl, R34, T34, g34, fun _ => r4 ht⟩
theorem t_Mo_told {X : zz_X} {σ : zz_M} {m w : Nat} {lo hi : Int} {T : List Int} {k : zr_T} (okT : zb_ok T) (hT : RTp σ m T) (hR : RRd σ m k) (ok : zr_ok T k) (hw : w < 37) : zz_T X 6 p_Mo_told [zP 12 0 0 m, zO (w + 2), zI lo, zI hi] σ (fun r σ' => ∃ v : Int, r = some (zI v) ∧ RRd σ' m (zr_nm T lo hi (zr_wd T w k)) ∧ RTp σ' m T ∧ Ft m σ σ' ∧ ((zr_nm T lo hi (zr_wd T w k)).f = 0 → v = (zr_wd T w k).v)) := by
  refine zz_mk k_Mo_told o_Mo_told rfl rfl (Nat.le_of_ble_eq_true rfl) ?_
  show zz_G X 6 p_Mo_told 0 [zP 12 0 0 m, zO (w + 2), zI lo, zI hi] [] σ _
  obtain ⟨r1, r2, r3, r4, r5, r6⟩ := id hR
  have okw : zr_ok T (zr_wd T w k) := zr_wd_ok ok
  refine zz_gsn 2 rfl ?_
  refine zz_cv (n := 2) rfl rfl (t_Mo_is (w := w) (k := k) okT hT hR ok hw) (Nat.le_of_ble_eq_true rfl) (Nat.le_of_ble_eq_true rfl) (Nat.le_of_ble_eq_true rfl) (fun r2 σ2 q2 => ?_)
  obtain ⟨rfl, n2, rfl, e2⟩ := q2
  refine zz_br rfl (fun h3 => ?_) (fun h3 => ?_)
  · refine zz_gsn 2 rfl ?_
    refine zz_cv (n := 2) rfl rfl (t_Mo_errs (x := 1) (k := k) hR hT) (Nat.le_of_ble_eq_true rfl) (Nat.le_of_ble_eq_true rfl) (Nat.le_of_ble_eq_true rfl) (fun r9 σ9 q9 => ?_)
    obtain ⟨rfl, R9, T9, g9⟩ := q9
    rw [← zr_wd_0 (e2.elim (fun z => absurd (z.1.symm.trans h3) (by decide)) (fun z => z.2))] at R9
    refine zz_gsn 3 rfl ?_
    refine zz_cv (n := 3) rfl rfl (t_Mo_takes (k := zr_wd T w k) okT T9 R9 okw) (Nat.le_of_ble_eq_true rfl) (Nat.le_of_ble_eq_true rfl) (Nat.le_of_ble_eq_true rfl) (fun r13 σ13 q13 => ?_)
    obtain ⟨v13, rfl, R13, T13, g13, x13⟩ := q13
    refine zz_ri rfl (Or.inl rfl) ?_
    exact ⟨v13, rfl, R13, T13, g9.tr g13, x13⟩
  · refine zz_gsn 1 rfl ?_
    refine zz_cv (n := 1) rfl rfl (t_Mo_advance (T := T) (k := k) hT okT r1 ok.2.1 r5 r6) (Nat.le_of_ble_eq_true rfl) (Nat.le_of_ble_eq_true rfl) (Nat.le_of_ble_eq_true rfl) (fun r5 σ5 q5 => ?_)
    obtain ⟨rfl, R5, T5, g5⟩ := q5
    have hw1 := e2.elim (fun z => z.2) (fun z => absurd z.1 h3)
    rw [show zr_ad T k = zr_wd T w k from ((if_pos hw1.2).trans (if_pos hw1.1)).symm] at R5
    refine zz_jp rfl ?_
    refine zz_gsn 3 rfl ?_
    refine zz_cv (n := 3) rfl rfl (t_Mo_takes (k := zr_wd T w k) okT T5 R5 okw) (Nat.le_of_ble_eq_true rfl) (Nat.le_of_ble_eq_true rfl) (Nat.le_of_ble_eq_true rfl) (fun r13 σ13 q13 => ?_)
    obtain ⟨v13, rfl, R13, T13, g13, x13⟩ := q13
    refine zz_ri rfl (Or.inl rfl) ?_
    exact ⟨v13, rfl, R13, T13, g5.tr g13, x13⟩
theorem t_Mo_kindHere {X : zz_X} {σ : zz_M} {m : Nat} {law : Int} {T : List Int} {k : zr_T} (okT : zb_ok T) (hT : RTp σ m T) (hR : RRd σ m k) (ok : zr_ok T k) (hf : k.f = 0) (hl : σ.1 1234 m = law) : zz_T X 6 p_Mo_kindHere [zP 12 0 0 m] σ (fun r σ' => σ = σ' ∧ r = some (zI (zr_kd T law k))) := by
  refine zz_mk k_Mo_kindHere o_Mo_kindHere rfl rfl (Nat.le_of_ble_eq_true rfl) ?_
  show zz_G X 6 p_Mo_kindHere 0 [zP 12 0 0 m] [] σ _
  refine zz_gsn 2 rfl ?_
  refine zz_cv (n := 2) rfl rfl (t_Mo_is (w := 21) (k := k) okT hT hR ok (by decide)) (Nat.le_of_ble_eq_true rfl) (Nat.le_of_ble_eq_true rfl) (Nat.le_of_ble_eq_true rfl) (fun r2 σ2 q2 => ?_)
  obtain ⟨rfl, n2, rfl, e2⟩ := q2
  rw [show zr_is T 21 k = zr_is T 3 k from rfl] at e2
  refine zz_br rfl (fun h3 => ?_) (fun h3 => ?_)
  · refine zz_gsn 2 rfl ?_
    refine zz_cv (n := 2) rfl rfl (t_Mo_is (w := 22) (k := k) okT hT hR ok (by decide)) (Nat.le_of_ble_eq_true rfl) (Nat.le_of_ble_eq_true rfl) (Nat.le_of_ble_eq_true rfl) (fun r8 σ8 q8 => ?_)
    obtain ⟨rfl, n8, rfl, e8⟩ := q8
    rw [show zr_is T 22 k = zr_is T 4 k from rfl] at e8
    refine zz_br rfl (fun h9 => ?_) (fun h9 => ?_)
    · refine zz_gsn 3 rfl ?_
      refine zz_br rfl (fun h15 => ?_) (fun h15 => ?_)
      · refine zz_gsn 3 rfl ?_
        refine zz_br rfl (fun h25 => ?_) (fun h25 => absurd (by first | exact h25 | exact Decidable.not_not.mp h25) h15)
        refine zz_gsn 1 rfl ?_
        refine zz_ri rfl (Or.inl rfl) ?_
        exact ⟨rfl, congrArg (fun z => some (zI z)) (Eq.symm ((if_neg (fun y => e2.elim (fun z => absurd (z.1.symm.trans h3) (by decide)) (fun z => z.2 ⟨hf, y⟩))).trans ((if_neg (fun y => e8.elim (fun z => absurd (z.1.symm.trans h9) (by decide)) (fun z => z.2 ⟨hf, y⟩))).trans ((if_neg (fun z => h15 (hl.trans z.1))).trans (if_neg (fun z => h15 (hl.trans z.1)))))))⟩
      · refine zz_gsn 2 rfl ?_
        refine zz_cv (n := 2) rfl rfl (t_Mo_is (w := 23) (k := k) okT hT hR ok (by decide)) (Nat.le_of_ble_eq_true rfl) (Nat.le_of_ble_eq_true rfl) (Nat.le_of_ble_eq_true rfl) (fun r18 σ18 q18 => ?_)
        obtain ⟨rfl, n18, rfl, e18⟩ := q18
        rw [show zr_is T 23 k = zr_is T 5 k from rfl] at e18
        refine zz_br rfl (fun h19 => ?_) (fun h19 => ?_)
        · refine zz_gsn 3 rfl ?_
          refine zz_br rfl (fun h25 => ?_) (fun h25 => ?_)
          · refine zz_gsn 1 rfl ?_
            refine zz_ri rfl (Or.inl rfl) ?_
            exact ⟨rfl, congrArg (fun z => some (zI z)) (Eq.symm ((if_neg (fun y => e2.elim (fun z => absurd (z.1.symm.trans h3) (by decide)) (fun z => z.2 ⟨hf, y⟩))).trans ((if_neg (fun y => e8.elim (fun z => absurd (z.1.symm.trans h9) (by decide)) (fun z => z.2 ⟨hf, y⟩))).trans ((if_neg (fun z => (fun y => e18.elim (fun z => absurd (z.1.symm.trans h19) (by decide)) (fun z => z.2 ⟨hf, y⟩)) z.2)).trans (if_neg (fun z => h25 (hl.trans z.1)))))))⟩
          · refine zz_gsn 2 rfl ?_
            refine zz_cv (n := 2) rfl rfl (t_Mo_is (w := 24) (k := k) okT hT hR ok (by decide)) (Nat.le_of_ble_eq_true rfl) (Nat.le_of_ble_eq_true rfl) (Nat.le_of_ble_eq_true rfl) (fun r28 σ28 q28 => ?_)
            obtain ⟨rfl, n28, rfl, e28⟩ := q28
            rw [show zr_is T 24 k = zr_is T 6 k from rfl] at e28
            refine zz_br rfl (fun h29 => ?_) (fun h29 => ?_)
            · refine zz_gsn 1 rfl ?_
              refine zz_ri rfl (Or.inl rfl) ?_
              exact ⟨rfl, congrArg (fun z => some (zI z)) (Eq.symm ((if_neg (fun y => e2.elim (fun z => absurd (z.1.symm.trans h3) (by decide)) (fun z => z.2 ⟨hf, y⟩))).trans ((if_neg (fun y => e8.elim (fun z => absurd (z.1.symm.trans h9) (by decide)) (fun z => z.2 ⟨hf, y⟩))).trans ((if_neg (fun z => (fun y => e18.elim (fun z => absurd (z.1.symm.trans h19) (by decide)) (fun z => z.2 ⟨hf, y⟩)) z.2)).trans (if_neg (fun z => (fun y => e28.elim (fun z => absurd (z.1.symm.trans h29) (by decide)) (fun z => z.2 ⟨hf, y⟩)) z.2))))))⟩
            · refine zz_gsn 1 rfl ?_
              refine zz_jp rfl ?_
              refine zz_ri rfl (Or.inl rfl) ?_
              exact ⟨rfl, congrArg (fun z => some (zI z)) (Eq.symm ((if_neg (fun y => e2.elim (fun z => absurd (z.1.symm.trans h3) (by decide)) (fun z => z.2 ⟨hf, y⟩))).trans ((if_neg (fun y => e8.elim (fun z => absurd (z.1.symm.trans h9) (by decide)) (fun z => z.2 ⟨hf, y⟩))).trans ((if_neg (fun z => (fun y => e18.elim (fun z => absurd (z.1.symm.trans h19) (by decide)) (fun z => z.2 ⟨hf, y⟩)) z.2)).trans (if_pos ⟨hl.symm.trans (by first | exact h25 | exact Decidable.not_not.mp h25), (e28.elim (fun z => z.2.2) (fun z => absurd z.1 h29))⟩)))))⟩
        · refine zz_gsn 1 rfl ?_
          refine zz_ri rfl (Or.inl rfl) ?_
          exact ⟨rfl, congrArg (fun z => some (zI z)) (Eq.symm ((if_neg (fun y => e2.elim (fun z => absurd (z.1.symm.trans h3) (by decide)) (fun z => z.2 ⟨hf, y⟩))).trans ((if_neg (fun y => e8.elim (fun z => absurd (z.1.symm.trans h9) (by decide)) (fun z => z.2 ⟨hf, y⟩))).trans (if_pos ⟨hl.symm.trans (by first | exact h15 | exact Decidable.not_not.mp h15), (e18.elim (fun z => z.2.2) (fun z => absurd z.1 h19))⟩))))⟩
    · refine zz_gsn 1 rfl ?_
      refine zz_ri rfl (Or.inl rfl) ?_
      exact ⟨rfl, congrArg (fun z => some (zI z)) (Eq.symm ((if_neg (fun y => e2.elim (fun z => absurd (z.1.symm.trans h3) (by decide)) (fun z => z.2 ⟨hf, y⟩))).trans (if_pos (e8.elim (fun z => z.2.2) (fun z => absurd z.1 h9)))))⟩
  · refine zz_gsn 1 rfl ?_
    refine zz_ri rfl (Or.inl rfl) ?_
    exact ⟨rfl, congrArg (fun z => some (zI z)) (Eq.symm (if_pos (e2.elim (fun z => z.2.2) (fun z => absurd z.1 h3))))⟩
