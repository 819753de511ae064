/-! the reference: a step of the reading -/
theorem t_Mo_advance {X : zz_X} {σ : zz_M} {m : Nat} {T : List Int} {k : zr_T} (hT : RTp σ m T) (ok : zb_ok T) (h8 : σ.1 1228 m = (k.n : Nat)) (hn : k.n ≤ T.length) (hf : σ.1 1232 m = k.f) (hp : σ.1 1233 m = k.p) : zz_T X 2 p_Mo_advance [zP 12 0 0 m] σ (fun r σ' => r = none ∧ RRd σ' m (zr_ad T k) ∧ RTp σ' m T ∧ Ft m σ σ') := by
  refine zz_mk k_Mo_advance o_Mo_advance rfl rfl (Nat.le_of_ble_eq_true rfl) ?_
  show zz_G X 2 p_Mo_advance 0 [zP 12 0 0 m, zU] [] σ _
  have sb := (zr_e_b zr_bl T k.n).2 hn
  refine lp_abl (E := zr_e zr_bl T k.n) (σ0 := σ) ok (fun σ1 y1 y2 R1 F1 => ?_) (T.length - k.n) k.n σ (by omega) h8 (fun _ _ => rfl) hT Ft.rf rfl
  refine zz_gsn 4 rfl ?_
  obtain ⟨σ2, hs2⟩ : ∃ s, s = zz_sf σ1 1229 m ((zr_e zr_bl T k.n : Nat) : Int) := ⟨_, rfl⟩
  refine zz_sge (σ' := σ2) (by rw [hs2, y1]) ?_
  have F12 : Ft m σ1 σ2 := by rw [hs2]; exact Ft.sf ⟨by decide, by decide⟩
  have F2 := F1.tr F12
  have R2 := R1.f F12
  have q1 : σ2.1 1232 m = k.f := by rw [hs2, sf_f _ _ (by decide), y2 _ (by decide)]; exact hf
  have q2 : σ2.1 1233 m = k.p := by rw [hs2, sf_f _ _ (by decide), y2 _ (by decide)]; exact hp
  have q5 : σ2.1 1229 m = (zr_e zr_bl T k.n : Nat) := by rw [hs2, sf_h]
  have q6 : σ2.1 1228 m = (zr_e zr_bl T k.n : Nat) := by rw [hs2, sf_f _ _ (by decide)]; exact y1
  clear y1 y2 hs2
  refine zz_gsn 3 rfl ?_
  rw [q6]
  refine zz_cv (n := 2) rfl rfl (t_Mo_see (i := zr_e zr_bl T k.n) R2 ok) (Nat.le_of_ble_eq_true rfl) (Nat.le_of_ble_eq_true rfl) (Nat.le_of_ble_eq_true rfl) (fun r26 σ26 q26 => ?_)
  obtain ⟨rfl, rfl⟩ := q26
  refine zz_gsn 3 rfl ?_
  refine zz_br rfl (fun h30 => ?_) (fun h30 => ?_)
  · refine zz_gsn 4 rfl ?_
    refine zz_cs (n := 3) rfl rfl (t_Mo_in) (Nat.le_of_ble_eq_true rfl) (Nat.le_of_ble_eq_true rfl) (Nat.le_of_ble_eq_true rfl) (fun r39 σ39 q39 => ?_)
    obtain ⟨rfl, n39, rfl, e39⟩ := q39
    refine zz_br rfl (fun h40 => ?_) (fun h40 => ?_)
    · refine zz_gsn 4 rfl ?_
      refine zz_cs (n := 3) rfl rfl (t_Mo_in) (Nat.le_of_ble_eq_true rfl) (Nat.le_of_ble_eq_true rfl) (Nat.le_of_ble_eq_true rfl) (fun r65 σ65 q65 => ?_)
      obtain ⟨rfl, n65, rfl, e65⟩ := q65
      refine zz_br rfl (fun h66 => ?_) (fun h66 => ?_)
      · refine zz_gsn 3 rfl ?_
        refine zz_br rfl (fun h108 => ?_) (fun h108 => ?_)
        · refine zz_gsn 8 rfl ?_
          have n1 : ¬ T.length ≤ zr_e zr_bl T k.n := fun z => h30 (zl_b_o (Nat.not_lt.mpr z))
          have z : zr_le (zl_b T (zr_e zr_bl T k.n : Nat)) = false := decide_eq_false (e39.elim (fun z => absurd (z.1.symm.trans h40) (by decide)) (fun z => z.2))
          have z1 : ¬ zr_le (zl_b T (zr_e zr_bl T k.n : Nat)) = true := by rw [z]; exact Bool.false_ne_true
          have w : zr_dg (zl_b T (zr_e zr_bl T k.n : Nat)) = false := decide_eq_false (e65.elim (fun z => absurd (z.1.symm.trans h66) (by decide)) (fun z => z.2))
          have w1 : ¬ zr_dg (zl_b T (zr_e zr_bl T k.n : Nat)) = true := by rw [w]; exact Bool.false_ne_true
          obtain ⟨σ3, h3⟩ : ∃ s, s = zz_sf σ2 1230 m 4 := ⟨_, rfl⟩
          have hl600 := ok.1
          refine zz_sge (σ' := zz_sf σ3 1228 m ((zr_e zr_bl T k.n + 1 : Nat) : Int)) (by rw [h3, sf_f _ _ (show (1228 : Nat) ≠ 1230 by decide), q6, zw_s (Nat.lt_of_le_of_lt sb (Nat.lt_of_le_of_lt hl600 (by decide)))]) ?_
          refine zz_rv rfl rfl ?_
          have e59 : (if zl_b T (zr_e zr_bl T k.n : Nat) = 59 then (3 : Int) else 0) = 0 := if_neg h108
          have e : zr_ad T k = (zr_e zr_bl T k.n, zr_e zr_bl T k.n + 1, 0, k.v, k.f, k.p) := by
            refine (((if_neg n1).trans (if_neg z1)).trans (if_neg w1)).trans ?_
            rw [e59]
          rw [e]
          have g : ∀ f, f ≠ 1230 → f ≠ 1228 → (zz_sf σ3 1228 m ((zr_e zr_bl T k.n + 1 : Nat) : Int)).1 f m = σ2.1 f m := fun f a1 a2 => (sf_f _ _ a2).trans (by rw [h3, sf_f _ _ a1])
          have G : Ft m σ2 (zz_sf σ3 1228 m ((zr_e zr_bl T k.n + 1 : Nat) : Int)) := (show Ft m σ2 σ3 from by rw [h3]; exact Ft.sf ⟨by decide, by decide⟩).tr (Ft.sf ⟨by decide, by decide⟩)
          exact ⟨rfl, ⟨sf_h _ _ _ _, (g _ (by decide) (by decide)).trans q5, (sf_f _ _ (by decide)).trans (by rw [h3, sf_h]; rfl), fun z => absurd z (by show ¬ (0 : Int) = 2; decide), (g _ (by decide) (by decide)).trans q1, (g _ (by decide) (by decide)).trans q2⟩, R2.f G, F2.tr G⟩
        · refine zz_gsn 1 rfl ?_
          refine zz_jp rfl ?_
          refine zz_gsn 7 rfl ?_
          have n1 : ¬ T.length ≤ zr_e zr_bl T k.n := fun z => h30 (zl_b_o (Nat.not_lt.mpr z))
          have z : zr_le (zl_b T (zr_e zr_bl T k.n : Nat)) = false := decide_eq_false (e39.elim (fun z => absurd (z.1.symm.trans h40) (by decide)) (fun z => z.2))
          have z1 : ¬ zr_le (zl_b T (zr_e zr_bl T k.n : Nat)) = true := by rw [z]; exact Bool.false_ne_true
          have w : zr_dg (zl_b T (zr_e zr_bl T k.n : Nat)) = false := decide_eq_false (e65.elim (fun z => absurd (z.1.symm.trans h66) (by decide)) (fun z => z.2))
          have w1 : ¬ zr_dg (zl_b T (zr_e zr_bl T k.n : Nat)) = true := by rw [w]; exact Bool.false_ne_true
          obtain ⟨σ3, h3⟩ : ∃ s, s = zz_sf σ2 1230 m 3 := ⟨_, rfl⟩
          have hl600 := ok.1
          refine zz_sge (σ' := zz_sf σ3 1228 m ((zr_e zr_bl T k.n + 1 : Nat) : Int)) (by rw [h3, sf_f _ _ (show (1228 : Nat) ≠ 1230 by decide), q6, zw_s (Nat.lt_of_le_of_lt sb (Nat.lt_of_le_of_lt hl600 (by decide)))]) ?_
          refine zz_rv rfl rfl ?_
          have e59 : (if zl_b T (zr_e zr_bl T k.n : Nat) = 59 then (3 : Int) else 0) = 3 := if_pos (by first | exact h108 | exact Decidable.not_not.mp h108)
          have e : zr_ad T k = (zr_e zr_bl T k.n, zr_e zr_bl T k.n + 1, 3, k.v, k.f, k.p) := by
            refine (((if_neg n1).trans (if_neg z1)).trans (if_neg w1)).trans ?_
            rw [e59]
          rw [e]
          have g : ∀ f, f ≠ 1230 → f ≠ 1228 → (zz_sf σ3 1228 m ((zr_e zr_bl T k.n + 1 : Nat) : Int)).1 f m = σ2.1 f m := fun f a1 a2 => (sf_f _ _ a2).trans (by rw [h3, sf_f _ _ a1])
          have G : Ft m σ2 (zz_sf σ3 1228 m ((zr_e zr_bl T k.n + 1 : Nat) : Int)) := (show Ft m σ2 σ3 from by rw [h3]; exact Ft.sf ⟨by decide, by decide⟩).tr (Ft.sf ⟨by decide, by decide⟩)
          exact ⟨rfl, ⟨sf_h _ _ _ _, (g _ (by decide) (by decide)).trans q5, (sf_f _ _ (by decide)).trans (by rw [h3, sf_h]; rfl), fun z => absurd z (by show ¬ (3 : Int) = 2; decide), (g _ (by decide) (by decide)).trans q1, (g _ (by decide) (by decide)).trans q2⟩, R2.f G, F2.tr G⟩
      · refine zz_gsn 3 rfl ?_
        have n1 : ¬ T.length ≤ zr_e zr_bl T k.n := fun z => h30 (zl_b_o (Nat.not_lt.mpr z))
        have z : zr_le (zl_b T (zr_e zr_bl T k.n : Nat)) = false := decide_eq_false (e39.elim (fun z => absurd (z.1.symm.trans h40) (by decide)) (fun z => z.2))
        have z1 : ¬ zr_le (zl_b T (zr_e zr_bl T k.n : Nat)) = true := by rw [z]; exact Bool.false_ne_true
        have w : zr_dg (zl_b T (zr_e zr_bl T k.n : Nat)) = true := decide_eq_true (e65.elim (fun z => z.2) (fun z => absurd z.1 h66))
        have e : zr_ad T k = (zr_e zr_bl T k.n, zr_e zr_dg T (zr_e zr_bl T k.n), 2, zr_v T (zr_e zr_bl T k.n) 0, k.f, k.p) := ((if_neg n1).trans (if_neg z1)).trans (if_pos w)
        rw [e]
        obtain ⟨σ3, h3⟩ : ∃ s, s = zz_sf σ2 1231 m 0 := ⟨_, rfl⟩
        refine zz_sge (σ' := σ3) h3 ?_
        have F23 : Ft m σ2 σ3 := by rw [h3]; exact Ft.sf ⟨by decide, by decide⟩
        refine lp_adg (E := zr_e zr_dg T (zr_e zr_bl T k.n)) (V := zr_v T (zr_e zr_bl T k.n) 0) (σ0 := σ3) ok (fun σ4 y1 y7 y2 R4 F4 => ?_) (T.length - zr_e zr_bl T k.n) (zr_e zr_bl T k.n) 0 σ3 (Nat.add_sub_of_le sb) (by rw [h3, sf_f _ _ (by decide)]; exact q6) (by rw [h3, sf_h]) ⟨by decide, by decide⟩ (fun _ _ _ => rfl) (R2.f F23) Ft.rf rfl rfl
        refine zz_gsn 3 rfl ?_
        refine zz_jp rfl ?_
        refine zz_rv rfl rfl ?_
        have G : Ft m σ4 (zz_sf σ4 1230 m 2) := Ft.sf ⟨by decide, by decide⟩
        have u : ∀ f, f ≠ 1231 → σ3.1 f m = σ2.1 f m := fun f hf => by rw [h3]; exact sf_f _ _ hf
        exact ⟨rfl, ⟨(sf_f _ _ (by decide)).trans y1, (sf_f _ _ (by decide)).trans ((y2 _ (by decide) (by decide)).trans ((u _ (by decide)).trans q5)), sf_h _ _ _ _, fun _ => (sf_f _ _ (by decide)).trans y7, (sf_f _ _ (by decide)).trans ((y2 _ (by decide) (by decide)).trans ((u _ (by decide)).trans q1)), (sf_f _ _ (by decide)).trans ((y2 _ (by decide) (by decide)).trans ((u _ (by decide)).trans q2))⟩, R4.f G, ((F2.tr F23).tr F4).tr G⟩
    · have n1 : ¬ T.length ≤ zr_e zr_bl T k.n := fun z => h30 (zl_b_o (Nat.not_lt.mpr z))
      have z : zr_le (zl_b T (zr_e zr_bl T k.n : Nat)) = true := decide_eq_true (e39.elim (fun z => z.2) (fun z => absurd z.1 h40))
      have e : zr_ad T k = (zr_e zr_bl T k.n, zr_e zr_le T (zr_e zr_bl T k.n), 1, k.v, k.f, k.p) := (if_neg n1).trans (if_pos z)
      rw [e]
      refine lp_ale (E := zr_e zr_le T (zr_e zr_bl T k.n)) (σ0 := σ2) ok (fun σ3 y1 y2 R3 F3 => ?_) (T.length - zr_e zr_bl T k.n) (zr_e zr_bl T k.n) σ2 (Nat.add_sub_of_le sb) q6 (fun _ _ => rfl) R2 Ft.rf rfl
      refine zz_gsn 3 rfl ?_
      refine zz_jp rfl ?_
      refine zz_rv rfl rfl ?_
      have G : Ft m σ3 (zz_sf σ3 1230 m 1) := Ft.sf ⟨by decide, by decide⟩
      exact ⟨rfl, ⟨(sf_f _ _ (by decide)).trans y1, (sf_f _ _ (by decide)).trans ((y2 _ (by decide)).trans q5), sf_h _ _ _ _, fun z => absurd z (by show ¬ (1 : Int) = 2; decide), (sf_f _ _ (by decide)).trans ((y2 _ (by decide)).trans q1), (sf_f _ _ (by decide)).trans ((y2 _ (by decide)).trans q2)⟩, R3.f G, (F2.tr F3).tr G⟩
  · refine zz_gsn 3 rfl ?_
    refine zz_jp rfl ?_
    refine zz_rv rfl rfl ?_
    have n1 : T.length ≤ zr_e zr_bl T k.n := Nat.le_of_not_lt (fun z => absurd ((by first | exact h30 | exact Decidable.not_not.mp h30)) (Int.ne_of_gt (Int.lt_of_lt_of_le (by decide) (zl_b_p ok z))))
    have e : zr_ad T k = (zr_e zr_bl T k.n, zr_e zr_bl T k.n, 4, k.v, k.f, k.p) := if_pos n1
    rw [e]
    have G : Ft m σ2 (zz_sf σ2 1230 m 0) := Ft.sf ⟨by decide, by decide⟩
    exact ⟨rfl, ⟨(sf_f _ _ (by decide)).trans q6, (sf_f _ _ (by decide)).trans q5, sf_h _ _ _ _, fun z => absurd z (by show ¬ (4 : Int) = 2; decide), (sf_f _ _ (by decide)).trans q1, (sf_f _ _ (by decide)).trans q2⟩, R2.f G, F2.tr G⟩
