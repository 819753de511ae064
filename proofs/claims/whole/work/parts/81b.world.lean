/-! the class: a deed of a graft -/
theorem TT.f {A : Nat → Prop} {σ σ' : zz_M} {t : Nat} {law C : Int} {W : zz_W} (h : TT σ t law C W) (hF : zz_F A σ σ') (hA : ∀ a, t + 3 ≤ a → a ≤ t + 16 → ¬ A a) : TT σ' t law C W := ⟨((hF (t + 3) (hA _ (by omega) (by omega))).1 404).trans h.1, ((hF (t + 3) (hA _ (by omega) (by omega))).1 405).trans h.2.1, h.2.2.f hF (fun a y1 y2 => hA a (by omega) (by omega)) (fun z => absurd z (Nat.lt_irrefl 0))⟩
def g_cl (e : Int × Nat × Int) (q : zq_T) : Prop := (e.1 = 1 ∨ e.1 = 3) ∧ q.1 = 0
def A_gp (t : Nat) : Nat → Prop := fun a => t + 3 ≤ a ∧ a ≤ t + 16
theorem t_Trial_graftDeed {X : zz_X} {σ : zz_M} {t d j k B : Nat} {ho law0 C0 told law C acc : Int} {D : zz_D} {W : zz_W} {q : zq_T} (hD : DF σ d ho law0 C0 told k D) (hj : j < k) (hT : TT σ t law C W) (hQ : QR σ (t + 1) q) (ha : σ.1 1001 t = acc) (hab : 0 ≤ acc ∧ acc ≤ 1000000) (hI : IV law B W) (hB : B ≤ 300) (hC : 2 ≤ C ∧ C ≤ 4) (hkd : 0 ≤ (D j).1 ∧ (D j).1 ≤ 3) (h11 : W.S 11 = (q.1 : Nat)) (hq : q.1 < 120) (hd : d + 3 < t ∨ t + 17 ≤ d) : zz_T X 7 p_Trial_graftDeed [zP 10 0 0 t, zP 2 0 0 d, zI (j : Nat)] σ (fun r σ' => r = none ∧ ((g_cl (D j) q ∧ σ' = zz_sf σ 1002 t (j : Nat)) ∨ (¬ g_cl (D j) q ∧ TT σ' t law C (w_deed law C (-1) (D j).1 0 W) ∧ QR σ' (t + 1) (zq_chg (D j).1 (D j).2.2 q) ∧ σ'.1 1001 t = acc + w_steps law C (-1) (D j).1 0 W ∧ σ'.1 1002 t = σ.1 1002 t ∧ zz_F (A_tr t) σ σ'))) := by
  refine zz_mk k_Trial_graftDeed o_Trial_graftDeed rfl rfl (Nat.le_of_ble_eq_true rfl) ?_
  show zz_G X 7 p_Trial_graftDeed 0 [zP 10 0 0 t, zP 2 0 0 d, zI (j : Nat), zU] [] σ _
  have e906 : σ.1 906 (t + 10) = W.S 11 := hT.2.2.2.2.1
  have hk6 := hD.2.2.2.2.2.1
  obtain ⟨b1, b2, b3⟩ := hD.2.2.2.2.2.2 j hj
  rcases Classical.em (g_cl (D j) q) with hc | hc
  · obtain ⟨c1, c2⟩ := id hc
    refine zz_gsn 2 rfl ?_
    refine zz_cv (n := 2) rfl rfl (t_Deeds_hasDeed) (Nat.le_of_ble_eq_true rfl) (Nat.le_of_ble_eq_true rfl) (Nat.le_of_ble_eq_true rfl) (fun r2 σ2 q2 => ?_)
    obtain ⟨rfl, n2, rfl, e2⟩ := q2
    replace e2 := vd_of hD.2.2.2.2 e2
    replace e2 : n2 = 1 := e2.elim (fun z => z.1) (fun z => absurd ⟨by omega, by omega⟩ z.2)
    refine zz_br rfl (fun h3 => ?_) (fun h3 => absurd (by first | exact h3 | exact Decidable.not_not.mp h3) (show n2 ≠ 0 by omega))
    refine zz_gsn 3 rfl ?_
    refine zz_ald rfl (⟨by omega, by omega⟩) ?_
    rw [show σ.2 (d + 1) ((j : Nat) : Int).toNat = (D j).1 from b1]
    refine zz_gsn 2 rfl ?_
    refine zz_cs (n := 1) rfl rfl (t_TQ_isPutting) (Nat.le_of_ble_eq_true rfl) (Nat.le_of_ble_eq_true rfl) (Nat.le_of_ble_eq_true rfl) (fun r11 σ11 q11 => ?_)
    obtain ⟨rfl, n11, rfl, e11⟩ := q11
    refine zz_br rfl (fun h12 => absurd (show n11 = 0 by omega) h12) (fun h12 => ?_)
    refine zz_gsn 3 rfl ?_
    refine zz_br rfl (fun h16 => absurd (show σ.1 906 (t + 10) = 0 by rw [e906, h11, c2]; rfl) h16) (fun h16 => ?_)
    refine zz_gsn 3 rfl ?_
    refine zz_jp rfl ?_
    refine zz_rv rfl rfl ?_
    exact ⟨rfl, Or.inl ⟨hc, rfl⟩⟩
  · have hpos : (D j).1 = 1 ∨ (D j).1 = 3 → 0 < q.1 := fun z => by
      rcases Nat.eq_zero_or_pos q.1 with y | y
      · exact absurd ⟨z, y⟩ hc
      · exact y
    have su := w_steps_v (C := C) (mk := -1) (kind := (D j).1) (x := 0) hI (by omega) hkd
    have sp := w_steps_p (C := C) (mk := -1) (kind := (D j).1) (x := 0) hI hkd
    obtain ⟨S, hSS⟩ : ∃ S, S = w_steps law C (-1) (D j).1 0 W := ⟨_, rfl⟩
    rw [← hSS] at su sp
    rw [← hSS]
    refine zz_gsn 2 rfl ?_
    refine zz_cv (n := 2) rfl rfl (t_Deeds_hasDeed) (Nat.le_of_ble_eq_true rfl) (Nat.le_of_ble_eq_true rfl) (Nat.le_of_ble_eq_true rfl) (fun r2 σ2 q2 => ?_)
    obtain ⟨rfl, n2, rfl, e2⟩ := q2
    replace e2 := vd_of hD.2.2.2.2 e2
    replace e2 : n2 = 1 := e2.elim (fun z => z.1) (fun z => absurd ⟨by omega, by omega⟩ z.2)
    refine zz_br rfl (fun h3 => ?_) (fun h3 => absurd (by first | exact h3 | exact Decidable.not_not.mp h3) (show n2 ≠ 0 by omega))
    refine zz_gsn 3 rfl ?_
    refine zz_ald rfl (⟨by omega, by omega⟩) ?_
    rw [show σ.2 (d + 1) ((j : Nat) : Int).toNat = (D j).1 from b1]
    refine zz_gsn 2 rfl ?_
    refine zz_cs (n := 1) rfl rfl (t_TQ_isPutting) (Nat.le_of_ble_eq_true rfl) (Nat.le_of_ble_eq_true rfl) (Nat.le_of_ble_eq_true rfl) (fun r11 σ11 q11 => ?_)
    obtain ⟨rfl, n11, rfl, e11⟩ := q11
    refine zz_br rfl (fun h12 => ?_) (fun h12 => ?_)
    · refine zz_gsn 6 rfl ?_
      refine zz_ald rfl (⟨by omega, by omega⟩) ?_
      rw [show σ.2 (d + 3) ((j : Nat) : Int).toNat = (D j).2.2 from b3]
      refine zz_cv (n := 3) rfl rfl (t_Numbers_change (a := t + 1) hQ hkd (fun _ => hq) hpos (by omega) (by decide)) (Nat.le_of_ble_eq_true rfl) (Nat.le_of_ble_eq_true rfl) (Nat.le_of_ble_eq_true rfl) (fun r28 σ28 q28 => ?_)
      obtain ⟨rfl, q28b, f28⟩ := q28
      have T28 : TT σ28 t law C W := hT.f f28 (fun a y1 y2 z => by unfold zz_A2 at z; omega)
      refine zz_gsn 11 rfl ?_
      refine zz_cv (n := 5) rfl rfl (t_Mill_perform (mk := -1) (x := 0) (kind := (D j).1) T28.2.2 T28.1 T28.2.1 (by omega) hkd (fun z => absurd z (Nat.lt_irrefl 0)) (by decide) (by decide) (h_bds hI (by omega)).1 (h_bds hI (by omega)).2.1 (h_bds hI (by omega)).2.2.1 (h_bds hI (by omega)).2.2.2.1 (h_bds hI (by omega)).2.2.2.2.1 (h_bds hI (by omega)).2.2.2.2.2 (fun z => absurd z (Nat.lt_irrefl 0))) (Nat.le_of_ble_eq_true rfl) (Nat.le_of_ble_eq_true rfl) (Nat.le_of_ble_eq_true rfl) (fun r40 σ40 q40 => ?_)
      obtain ⟨rfl, p40, g40, -, -⟩ := q40
      rw [← hSS]
      obtain ⟨T40, -⟩ := T28.step p40 g40
      have F40 : zz_F (A_gp t) σ28 σ40 := g40.F.mono (fun a z => by unfold A_gp; omega)
      refine zz_gsn 2 rfl ?_
      refine zz_rv rfl rfl ?_
      have e41 : zw (σ28.1 1001 t + S) = acc + S := by
        rw [((f28 t (by unfold zz_A2; omega)).1 1001).trans ha]
        exact zw_id (by omega) (by omega)
      rw [e41]
      refine ⟨rfl, Or.inr ⟨hc, T40.sf, ?_, sf_h _ _ _ _, ?_, ?_⟩⟩
      · exact (q28b.f F40 (by unfold A_gp; omega) (by unfold A_gp; omega)).f (A := fun a => a = t) (zz_F.sf rfl) (by omega) (by omega)
      · exact (sf_f _ _ (by decide)).trans (((F40 t (by unfold A_gp; omega)).1 1002).trans ((f28 t (by unfold zz_A2; omega)).1 1002))
      · exact (f28.mono (fun a z => by unfold zz_A2 at z; unfold A_tr; omega)).tr ((F40.mono (fun a z => by unfold A_gp at z; unfold A_tr; omega)).tr (zz_F.sf (by unfold A_tr; omega)))
    · refine zz_gsn 3 rfl ?_
      refine zz_br rfl (fun h16 => ?_) (fun h16 => absurd (show g_cl (D j) q from ⟨by omega, by omega⟩) hc)
      refine zz_gsn 6 rfl ?_
      refine zz_ald rfl (⟨by omega, by omega⟩) ?_
      rw [show σ.2 (d + 3) ((j : Nat) : Int).toNat = (D j).2.2 from b3]
      refine zz_cv (n := 3) rfl rfl (t_Numbers_change (a := t + 1) hQ hkd (fun _ => hq) hpos (by omega) (by decide)) (Nat.le_of_ble_eq_true rfl) (Nat.le_of_ble_eq_true rfl) (Nat.le_of_ble_eq_true rfl) (fun r28 σ28 q28 => ?_)
      obtain ⟨rfl, q28b, f28⟩ := q28
      have T28 : TT σ28 t law C W := hT.f f28 (fun a y1 y2 z => by unfold zz_A2 at z; omega)
      refine zz_gsn 11 rfl ?_
      refine zz_cv (n := 5) rfl rfl (t_Mill_perform (mk := -1) (x := 0) (kind := (D j).1) T28.2.2 T28.1 T28.2.1 (by omega) hkd (fun z => absurd z (Nat.lt_irrefl 0)) (by decide) (by decide) (h_bds hI (by omega)).1 (h_bds hI (by omega)).2.1 (h_bds hI (by omega)).2.2.1 (h_bds hI (by omega)).2.2.2.1 (h_bds hI (by omega)).2.2.2.2.1 (h_bds hI (by omega)).2.2.2.2.2 (fun z => absurd z (Nat.lt_irrefl 0))) (Nat.le_of_ble_eq_true rfl) (Nat.le_of_ble_eq_true rfl) (Nat.le_of_ble_eq_true rfl) (fun r40 σ40 q40 => ?_)
      obtain ⟨rfl, p40, g40, -, -⟩ := q40
      rw [← hSS]
      obtain ⟨T40, -⟩ := T28.step p40 g40
      have F40 : zz_F (A_gp t) σ28 σ40 := g40.F.mono (fun a z => by unfold A_gp; omega)
      refine zz_gsn 2 rfl ?_
      refine zz_rv rfl rfl ?_
      have e41 : zw (σ28.1 1001 t + S) = acc + S := by
        rw [((f28 t (by unfold zz_A2; omega)).1 1001).trans ha]
        exact zw_id (by omega) (by omega)
      rw [e41]
      refine ⟨rfl, Or.inr ⟨hc, T40.sf, ?_, sf_h _ _ _ _, ?_, ?_⟩⟩
      · exact (q28b.f F40 (by unfold A_gp; omega) (by unfold A_gp; omega)).f (A := fun a => a = t) (zz_F.sf rfl) (by omega) (by omega)
      · exact (sf_f _ _ (by decide)).trans (((F40 t (by unfold A_gp; omega)).1 1002).trans ((f28 t (by unfold zz_A2; omega)).1 1002))
      · exact (f28.mono (fun a z => by unfold zz_A2 at z; unfold A_tr; omega)).tr ((F40.mono (fun a z => by unfold A_gp at z; unfold A_tr; omega)).tr (zz_F.sf (by unfold A_tr; omega)))
