/-! the class: a step of the reading -/
theorem t_Reader_step0 {X : zz_X} {σ : zz_M} {c a p : Nat} {T : List Int} {k : zr_T} (hB : BL σ a T) (hT : T.length ≤ 600) (hpT : T.length ≤ p) (hac : c ≠ a ∧ c ≠ a + 1) (h1 : σ.1 601 c = 0) (h2 : σ.1 602 c = k.p) (h6 : σ.1 606 c = (k.n : Nat)) (hn : k.n ≤ T.length) (hkf : k.f = 0) : zz_T X 4 p_Reader_step [zP 6 0 0 c, zP 0 p 0 a] σ (fun r σ' => r = none ∧ CRd σ' c (zr_ad T k) ∧ BL σ' a T ∧ zz_F (A_c1 c) σ σ') := by
  refine zz_mk k_Reader_step o_Reader_step rfl rfl (Nat.le_of_ble_eq_true rfl) ?_
  show zz_G X 4 p_Reader_step 0 [zP 6 0 0 c, zP 0 p 0 a, zU] [] σ _
  refine zz_gsn 2 rfl ?_
  refine zz_br rfl (fun h2_ => ?_) (fun h2_ => absurd h1 h2_)
  refine lp_blk (E := zr_e zr_bl T k.n) (σ0 := σ) hT hpT hac (fun σ1 y1 y2 B1 F1 => ?_) (T.length - k.n) k.n σ (by omega) h6 (fun _ _ => rfl) hB zz_F.rf rfl
  refine zz_gsn 4 rfl ?_
  obtain ⟨σ2, hs2⟩ : ∃ s, s = zz_sf σ1 605 c ((zr_e zr_bl T k.n : Nat) : Int) := ⟨_, rfl⟩
  refine zz_sge (σ' := σ2) (by rw [hs2, y1]) ?_
  have F12 : zz_F (A_c1 c) σ1 σ2 := by rw [hs2]; exact zz_F.sf rfl
  have F2 := F1.tr F12
  have B2 := B1.f F12 (fun z => hac.1 z.symm) (fun z => hac.2 z.symm)
  have q1 : σ2.1 601 c = k.f := by rw [hs2, sf_f _ _ (by decide), y2 _ (by decide), h1, hkf]
  have q2 : σ2.1 602 c = k.p := by rw [hs2, sf_f _ _ (by decide), y2 _ (by decide)]; exact h2
  have q5 : σ2.1 605 c = (zr_e zr_bl T k.n : Nat) := by rw [hs2, sf_h]
  have q6 : σ2.1 606 c = (zr_e zr_bl T k.n : Nat) := by rw [hs2, sf_f _ _ (by decide)]; exact y1
  have sb := (zr_e_b zr_bl T k.n).2 hn
  have hl2 := B2.1
  clear y1 y2 hs2
  refine zz_gsn 3 rfl ?_
  rw [q6]
  refine zz_cv (n := 2) rfl rfl (t_Bytes_byteAt) (Nat.le_of_ble_eq_true rfl) (Nat.le_of_ble_eq_true rfl) (Nat.le_of_ble_eq_true rfl) (fun r29 σ29 q29 => ?_)
  obtain ⟨rfl, n29, rfl, e29⟩ := q29
  replace e29 := bl_at B2 hpT e29
  rw [e29]
  clear e29
  refine zz_gsn 5 rfl ?_
  rw [q6, hl2]
  refine zz_br rfl (fun h35 => ?_) (fun h35 => ?_)
  · refine zz_gsn 1 rfl ?_
    refine zz_cs (n := 1) rfl rfl (t_Reader_isLetter) (Nat.le_of_ble_eq_true rfl) (Nat.le_of_ble_eq_true rfl) (Nat.le_of_ble_eq_true rfl) (fun r41 σ41 q41 => ?_)
    obtain ⟨rfl, n41, rfl, e41⟩ := q41
    refine zz_br rfl (fun h42 => ?_) (fun h42 => ?_)
    · refine zz_gsn 1 rfl ?_
      refine zz_cs (n := 1) rfl rfl (t_Reader_isDigit) (Nat.le_of_ble_eq_true rfl) (Nat.le_of_ble_eq_true rfl) (Nat.le_of_ble_eq_true rfl) (fun r48 σ48 q48 => ?_)
      obtain ⟨rfl, n48, rfl, e48⟩ := q48
      refine zz_br rfl (fun h49 => ?_) (fun h49 => ?_)
      · refine zz_gsn 3 rfl ?_
        refine zz_br rfl (fun h57 => ?_) (fun h57 => ?_)
        · refine zz_gsn 8 rfl ?_
          obtain ⟨σ3, h3⟩ : ∃ s, s = zz_sf σ2 604 c 0 := ⟨_, rfl⟩
          refine zz_sge (σ' := zz_sf σ3 606 c ((zr_e zr_bl T k.n + 1 : Nat) : Int)) (by rw [h3, sf_f _ _ (show (606 : Nat) ≠ 604 by decide), q6, zw_s (by omega)]) ?_
          refine zz_rv rfl rfl ?_
          have n1 : ¬ T.length ≤ zr_e zr_bl T k.n := by omega
          have z : zr_le (zl_b T (zr_e zr_bl T k.n : Nat)) = false := e41.elim (fun z => absurd (z.1.symm.trans h42) (by decide)) (fun z => z.2)
          have z1 : ¬ zr_le (zl_b T (zr_e zr_bl T k.n : Nat)) = true := by rw [z]; exact Bool.false_ne_true
          have y : zr_dg (zl_b T (zr_e zr_bl T k.n : Nat)) = false := e48.elim (fun z => absurd (z.1.symm.trans h49) (by decide)) (fun z => z.2)
          have y1 : ¬ zr_dg (zl_b T (zr_e zr_bl T k.n : Nat)) = true := by rw [y]; exact Bool.false_ne_true
          have e59 : (if zl_b T (zr_e zr_bl T k.n : Nat) = 59 then (3 : Int) else 0) = 0 := if_neg h57
          have e : zr_ad T k = (zr_e zr_bl T k.n, zr_e zr_bl T k.n + 1, 0, k.v, k.f, k.p) := by
            refine (((if_neg n1).trans (if_neg z1)).trans (if_neg y1)).trans ?_
            rw [e59]
          have F3 : zz_F (A_c1 c) σ2 (zz_sf σ3 606 c ((zr_e zr_bl T k.n + 1 : Nat) : Int)) := (show zz_F (A_c1 c) σ2 σ3 from by rw [h3]; exact zz_F.sf rfl).tr (zz_F.sf rfl)
          refine ⟨rfl, ?_, B2.f F3 (fun z => hac.1 z.symm) (fun z => hac.2 z.symm), F2.tr F3⟩
          rw [e]
          have g : ∀ f, f ≠ 604 → f ≠ 606 → (zz_sf σ3 606 c ((zr_e zr_bl T k.n + 1 : Nat) : Int)).1 f c = σ2.1 f c := fun f a1 a2 => (sf_f _ _ a2).trans (by rw [h3, sf_f _ _ a1])
          exact ⟨(g _ (by decide) (by decide)).trans q1, (g _ (by decide) (by decide)).trans q2, (sf_f _ _ (by decide)).trans (by rw [h3, sf_h]), (g _ (by decide) (by decide)).trans q5, sf_h _ _ _ _, fun z => absurd z (by show ¬ (0 : Int) = 2; decide)⟩
        · refine zz_gsn 1 rfl ?_
          refine zz_jp rfl ?_
          refine zz_gsn 7 rfl ?_
          obtain ⟨σ3, h3⟩ : ∃ s, s = zz_sf σ2 604 c 3 := ⟨_, rfl⟩
          refine zz_sge (σ' := zz_sf σ3 606 c ((zr_e zr_bl T k.n + 1 : Nat) : Int)) (by rw [h3, sf_f _ _ (show (606 : Nat) ≠ 604 by decide), q6, zw_s (by omega)]) ?_
          refine zz_rv rfl rfl ?_
          have n1 : ¬ T.length ≤ zr_e zr_bl T k.n := by omega
          have z : zr_le (zl_b T (zr_e zr_bl T k.n : Nat)) = false := e41.elim (fun z => absurd (z.1.symm.trans h42) (by decide)) (fun z => z.2)
          have z1 : ¬ zr_le (zl_b T (zr_e zr_bl T k.n : Nat)) = true := by rw [z]; exact Bool.false_ne_true
          have y : zr_dg (zl_b T (zr_e zr_bl T k.n : Nat)) = false := e48.elim (fun z => absurd (z.1.symm.trans h49) (by decide)) (fun z => z.2)
          have y1 : ¬ zr_dg (zl_b T (zr_e zr_bl T k.n : Nat)) = true := by rw [y]; exact Bool.false_ne_true
          have e59 : (if zl_b T (zr_e zr_bl T k.n : Nat) = 59 then (3 : Int) else 0) = 3 := if_pos (by first | exact h57 | exact Decidable.not_not.mp h57)
          have e : zr_ad T k = (zr_e zr_bl T k.n, zr_e zr_bl T k.n + 1, 3, k.v, k.f, k.p) := by
            refine (((if_neg n1).trans (if_neg z1)).trans (if_neg y1)).trans ?_
            rw [e59]
          have F3 : zz_F (A_c1 c) σ2 (zz_sf σ3 606 c ((zr_e zr_bl T k.n + 1 : Nat) : Int)) := (show zz_F (A_c1 c) σ2 σ3 from by rw [h3]; exact zz_F.sf rfl).tr (zz_F.sf rfl)
          refine ⟨rfl, ?_, B2.f F3 (fun z => hac.1 z.symm) (fun z => hac.2 z.symm), F2.tr F3⟩
          rw [e]
          have g : ∀ f, f ≠ 604 → f ≠ 606 → (zz_sf σ3 606 c ((zr_e zr_bl T k.n + 1 : Nat) : Int)).1 f c = σ2.1 f c := fun f a1 a2 => (sf_f _ _ a2).trans (by rw [h3, sf_f _ _ a1])
          exact ⟨(g _ (by decide) (by decide)).trans q1, (g _ (by decide) (by decide)).trans q2, (sf_f _ _ (by decide)).trans (by rw [h3, sf_h]), (g _ (by decide) (by decide)).trans q5, sf_h _ _ _ _, fun z => absurd z (by show ¬ (3 : Int) = 2; decide)⟩
      · refine zz_gsn 2 rfl ?_
        refine zz_cv (n := 2) rfl rfl (t_Reader_readNumber (n := zr_e zr_bl T k.n) B2 q6 sb hT hpT hac) (Nat.le_of_ble_eq_true rfl) (Nat.le_of_ble_eq_true rfl) (Nat.le_of_ble_eq_true rfl) (fun r52 σ52 q52 => ?_)
        obtain ⟨rfl, t52, n52, v52, f52, B52, g52⟩ := q52
        refine zz_jp rfl ?_
        refine zz_rv rfl rfl ?_
        have n1 : ¬ T.length ≤ zr_e zr_bl T k.n := by omega
        have z : zr_le (zl_b T (zr_e zr_bl T k.n : Nat)) = false := e41.elim (fun z => absurd (z.1.symm.trans h42) (by decide)) (fun z => z.2)
        have z1 : ¬ zr_le (zl_b T (zr_e zr_bl T k.n : Nat)) = true := by rw [z]; exact Bool.false_ne_true
        have y : zr_dg (zl_b T (zr_e zr_bl T k.n : Nat)) = true := e48.elim (fun z => z.2) (fun z => absurd z.1 h49)
        have e : zr_ad T k = (zr_e zr_bl T k.n, zr_e zr_dg T (zr_e zr_bl T k.n), 2, zr_v T (zr_e zr_bl T k.n) 0, k.f, k.p) := ((if_neg n1).trans (if_neg z1)).trans (if_pos y)
        refine ⟨rfl, ?_, B52, F2.tr g52⟩
        rw [e]
        exact ⟨(f52 _ (by decide) (by decide) (by decide)).trans q1, (f52 _ (by decide) (by decide) (by decide)).trans q2, t52, (f52 _ (by decide) (by decide) (by decide)).trans q5, n52, fun _ => v52⟩
    · refine zz_gsn 2 rfl ?_
      refine zz_cv (n := 2) rfl rfl (t_Reader_readWord (n := zr_e zr_bl T k.n) B2 q6 sb hT hpT hac) (Nat.le_of_ble_eq_true rfl) (Nat.le_of_ble_eq_true rfl) (Nat.le_of_ble_eq_true rfl) (fun r45 σ45 q45 => ?_)
      obtain ⟨rfl, t45, n45, f45, B45, g45⟩ := q45
      refine zz_jp rfl ?_
      refine zz_rv rfl rfl ?_
      have n1 : ¬ T.length ≤ zr_e zr_bl T k.n := by omega
      have z : zr_le (zl_b T (zr_e zr_bl T k.n : Nat)) = true := e41.elim (fun z => z.2) (fun z => absurd z.1 h42)
      have e : zr_ad T k = (zr_e zr_bl T k.n, zr_e zr_le T (zr_e zr_bl T k.n), 1, k.v, k.f, k.p) := (if_neg n1).trans (if_pos z)
      refine ⟨rfl, ?_, B45, F2.tr g45⟩
      rw [e]
      exact ⟨(f45 _ (by decide) (by decide)).trans q1, (f45 _ (by decide) (by decide)).trans q2, t45, (f45 _ (by decide) (by decide)).trans q5, n45, fun z => absurd z (by show ¬ (1 : Int) = 2; decide)⟩
  · refine zz_gsn 3 rfl ?_
    refine zz_jp rfl ?_
    refine zz_rv rfl rfl ?_
    refine ⟨rfl, ?_, B2.f (A := A_c1 c) (zz_F.sf rfl) (fun z => hac.1 z.symm) (fun z => hac.2 z.symm), F2.tr (zz_F.sf rfl)⟩
    have e : zr_ad T k = (zr_e zr_bl T k.n, zr_e zr_bl T k.n, 4, k.v, k.f, k.p) := if_pos (by omega)
    rw [e]
    exact ⟨(sf_f _ _ (by decide)).trans q1, (sf_f _ _ (by decide)).trans q2, sf_h _ _ _ _, (sf_f _ _ (by decide)).trans q5, (sf_f _ _ (by decide)).trans q6, fun z => absurd z (by show ¬ (4 : Int) = 2; decide)⟩
theorem t_Reader_stepn {X : zz_X} {σ : zz_M} {c a p : Nat} (h1 : σ.1 601 c ≠ 0) : zz_T X 4 p_Reader_step [zP 6 0 0 c, zP 0 p 0 a] σ (fun r σ' => r = none ∧ σ' = σ) := by
  refine zz_mk k_Reader_step o_Reader_step rfl rfl (Nat.le_of_ble_eq_true rfl) ?_
  show zz_G X 4 p_Reader_step 0 [zP 6 0 0 c, zP 0 p 0 a, zU] [] σ _
  refine zz_gsn 2 rfl ?_
  refine zz_br rfl (fun h2 => absurd h2 h1) (fun h2 => ?_)
  refine zz_rv rfl rfl ?_
  exact ⟨rfl, rfl⟩
