/-! the class: a line -/
theorem zr_de_f {T : List Int} {law : Int} {S : zr_S} (h : (zr_ff T law S).f = 0) : (zr_nm T 0 (S.c : Nat) (zr_lc (zr_kd T law S.k) S.c S.z (zr_b T law S))).f = 0 ∧ (zr_pt (zr_kd T law S.k) → (zr_nm T 0 99 (zr_d T law S)).f = 0) := by
  have h1 := zr_sg_f h
  have h3 : (zr_le2 T (zr_kd T law S.k) (zr_d T law S)).f = 0 := h1
  unfold zr_le2 at h3
  by_cases z : zr_pt (zr_kd T law S.k)
  · rw [if_pos z] at h3
    exact ⟨(zr_nm_f h3).1, fun _ => h3⟩
  · rw [if_neg z] at h3
    exact ⟨h3, fun y => absurd y z⟩
theorem zr_la_ok {T : List Int} {kd : Int} {c : Nat} {k : zr_T} (h : zr_ok T k) : zr_ok T (zr_la kd c k) := by
  unfold zr_la
  split
  · exact zr_err_ok h
  · split
    · exact zr_err_ok h
    · exact h
theorem zr_lc_ok {T : List Int} {kd : Int} {c : Nat} {z : Nat → Int} {b : zr_T} (h : zr_ok T b) : zr_ok T (zr_lc kd c z b) := by
  unfold zr_lc
  split
  · exact zr_err_ok h
  · exact h
theorem zr_b_ok {T : List Int} {law : Int} {S : zr_S} (h : zr_ok T S.k) : zr_ok T (zr_b T law S) := zr_adv_ok (zr_la_ok h)
theorem zr_d_ok {T : List Int} {law : Int} {S : zr_S} (h : zr_ok T S.k) : zr_ok T (zr_d T law S) := zr_nm_ok (zr_lc_ok (zr_b_ok h))
theorem zr_ee_ok {T : List Int} {law : Int} {S : zr_S} (h : zr_ok T S.k) : zr_ok T (zr_ee T law S) := by
  unfold zr_ee zr_le2
  split
  · exact zr_nm_ok (zr_d_ok h)
  · exact zr_d_ok h
theorem zr_ff_ok {T : List Int} {law : Int} {S : zr_S} (h : zr_ok T S.k) : zr_ok T (zr_ff T law S) := zr_sg_ok (zr_ee_ok h)
theorem zr_ln_k {T : List Int} {law : Int} {S : zr_S} : (zr_ln T law S).k = zr_ff T law S := by
  unfold zr_ln zr_fin
  split
  · rfl
  · rfl
theorem ln_22 {X : zz_X} {c a p : Nat} {law C pf : Int} {T : List Int} {S : zr_S} {u4 u5 : zz_V} {σ0 σ : zz_M} (h0 : zz_F (A_rd c) σ0 σ) (hT : T.length ≤ 600) (hpT : T.length ≤ p) (hac : a + 1 < c ∨ c + 5 < a) (hA : CRd σ c (zr_la (zr_kd T law S.k) S.c S.k)) (ok : zr_ok T S.k) (hB : BL σ a T) (hD : DF σ (c + 1) 1 law C 0 S.c S.D) (hz : ∀ v, v ≤ S.c → σ.2 (c + 5) v = S.z v) (hc : S.c ≤ 40) (hzb : ∀ v, v ≤ S.c → 0 ≤ S.z v ∧ S.z v ≤ 100) (hpf : (pf = 1 ∧ zr_pt (zr_kd T law S.k)) ∨ (pf = 0 ∧ ¬ zr_pt (zr_kd T law S.k))) : zz_G X 7 p_Reader_readDeedLine 22 [zP 6 0 0 c, zP 0 p 0 a, zI (zr_kd T law S.k), zI pf, u4, u5] [] σ (fun r σ' => r = none ∧ RSt σ' c a T law C (zr_ln T law S) ∧ zz_F (A_rd c) σ0 σ') := by
  have hac1 : c ≠ a ∧ c ≠ a + 1 := ⟨by omega, by omega⟩
  have okA : zr_ok T (zr_la (zr_kd T law S.k) S.c S.k) := zr_la_ok ok
  have okb : zr_ok T (zr_b T law S) := zr_b_ok ok
  have okd : zr_ok T (zr_d T law S) := zr_d_ok ok
  have oke : zr_ok T (zr_ee T law S) := zr_ee_ok ok
  have n1 : ¬ A_c1 c (c + 1) := fun z => absurd z (Nat.succ_ne_self c)
  have n5 : ¬ A_c1 c (c + 5) := fun z => by have z2 : c + 5 = c := z; omega
  have d5 := hD.2.2.2.2.1
  rcases id hpf with ⟨ep, hkp⟩ | ⟨ep, hkp⟩
  · subst ep
    refine zz_gsn 2 rfl ?_
    refine zz_cv (n := 2) rfl rfl (t_Reader_step (T := T) (k := zr_la (zr_kd T law S.k) S.c S.k) hB hT hpT hac1 hA okA) (Nat.le_of_ble_eq_true rfl) (Nat.le_of_ble_eq_true rfl) (Nat.le_of_ble_eq_true rfl) (fun r24 σ24 q24 => ?_)
    obtain ⟨rfl, p24, B24, g24⟩ := q24
    have hb : CRd σ24 c (zr_b T law S) := p24
    refine zz_gsn 3 rfl ?_
    refine zz_cv (n := 3) rfl rfl (t_Reader_expectVersion (T := T) (k := zr_b T law S) (n := S.c) (kd := zr_kd T law S.k) (z := S.z) hT hpT hac B24 hb okb hc (((g24 _ n1).1 204).trans d5) (fun v hv => ((g24 _ n5).2 v).trans (hz v hv)) hpf) (Nat.le_of_ble_eq_true rfl) (Nat.le_of_ble_eq_true rfl) (Nat.le_of_ble_eq_true rfl) (fun r28 σ28 q28 => ?_)
    obtain ⟨v28, rfl, p28, B28, g28, x28⟩ := q28
    have hd : CRd σ28 c (zr_d T law S) := p28
    refine zz_gsn 2 rfl ?_
    refine zz_br rfl (fun h31 => absurd h31 (by decide)) (fun h31 => ?_)
    refine zz_gsn 4 rfl ?_
    refine zz_cv (n := 4) rfl rfl (t_Reader_expectNumber (T := T) (k := zr_d T law S) (lo := 0) (hi := 99) B28 hT hpT hac1 hd okd (by decide) (by decide)) (Nat.le_of_ble_eq_true rfl) (Nat.le_of_ble_eq_true rfl) (Nat.le_of_ble_eq_true rfl) (fun r36 σ36 q36 => ?_)
    obtain ⟨v36, rfl, p36, B36, g36, x36⟩ := q36
    have he : CRd σ36 c (zr_ee T law S) := by rw [show zr_ee T law S = zr_nm T 0 99 (zr_d T law S) from if_pos hkp]; exact p36
    refine zz_jp rfl ?_
    refine zz_gsn 3 rfl ?_
    refine zz_cv (n := 2) rfl rfl (t_Reader_expectSign (T := T) (k := zr_ee T law S) B36 hT hpT hac1 he oke) (Nat.le_of_ble_eq_true rfl) (Nat.le_of_ble_eq_true rfl) (Nat.le_of_ble_eq_true rfl) (fun r42 σ42 q42 => ?_)
    obtain ⟨rfl, p42, B42, g42⟩ := q42
    have hff : CRd σ42 c (zr_ff T law S) := p42
    have G : zz_F (A_c1 c) σ σ42 := ((g24.tr g28).tr g36).tr g42
    have D42 : DF σ42 (c + 1) 1 law C 0 S.c S.D := hD.f G (fun x y1 y2 z => by have z2 : x = c := z; omega)
    have Z42 : ∀ v, v ≤ S.c → σ42.2 (c + 5) v = S.z v := fun v hv => ((G _ n5).2 v).trans (hz v hv)
    have e601 := hff.1
    refine zz_gsn 2 rfl ?_
    refine zz_br rfl (fun h45 => ?_) (fun h45 => ?_)
    · refine zz_rv rfl rfl ?_
      have e : zr_ln T law S = (zr_ff T law S, S.c, S.D, S.z) := if_neg (fun z => h45 (e601.trans z))
      rw [e]
      exact ⟨rfl, ⟨hff, D42, Z42, B42⟩, h0.tr (c1_rd G)⟩
    · have hf : (zr_ff T law S).f = 0 := e601.symm.trans (by first | exact h45 | exact Decidable.not_not.mp h45)
      obtain ⟨k1, k2, k3, k4, k5⟩ := zr_ff_f hf
      obtain ⟨f1, f2⟩ := zr_de_f hf
      obtain ⟨vv, hvv⟩ : ∃ n : Nat, (zr_c T law S).v = (n : Int) := ⟨(zr_c T law S).v.toNat, (Int.toNat_of_nonneg k3.1).symm⟩
      have ec : v28 = (vv : Nat) := (x28 f1).trans hvv
      have vle : vv ≤ S.c := Int.ofNat_le.mp (hvv ▸ k3.2)
      have vle41 : vv < 41 := Nat.lt_of_le_of_lt vle (Nat.lt_succ_of_le hc)
      have k60 : S.c < 60 := Nat.lt_of_lt_of_le k2 (by decide)
      have m4 : σ42.1 204 (c + 1) = (S.c : Nat) := D42.2.2.2.2.1
      have ed : v36 = (zr_d T law S).v := x36 (f2 hkp)
      rw [ec, ed]
      have b50 : ¬ ((S.c : Nat) : Int) ≥ 40 := fun z => absurd (Int.ofNat_le.mp z) (Nat.not_le.mpr k2)
      have b52 : ¬ ((vv : Nat) : Int) < 0 := Int.not_lt.mpr (Int.natCast_nonneg _)
      have b57 : ¬ ((vv : Nat) : Int) > (S.c : Nat) := Int.not_lt.mpr (Int.ofNat_le.mpr vle)
      have o68 : 0 ≤ ((vv : Nat) : Int) ∧ ((vv : Nat) : Int) < 41 := ⟨Int.natCast_nonneg _, Int.ofNat_lt.mpr vle41⟩
      have o75 : 0 ≤ ((S.c + 1 : Nat) : Int) ∧ ((S.c + 1 : Nat) : Int) < 41 := ⟨Int.natCast_nonneg _, Int.ofNat_lt.mpr (Nat.succ_lt_succ k2)⟩
      have zv := hzb vv vle
      have za : zw (S.z vv + 1) = S.z vv + 1 := zw_id (Int.le_trans (by decide) (Int.add_le_add_right zv.1 _)) (Int.lt_of_le_of_lt (Int.add_le_add_right zv.2 _) (by decide))
      have zc : zw (((S.c : Nat) : Int) + 1) = ((S.c + 1 : Nat) : Int) := zw_s (Nat.lt_trans k60 (by decide))
      refine zz_gsn 4 rfl ?_
      rw [m4]
      refine zz_br rfl (fun h50 => absurd h50 b50) (fun h50 => ?_)
      refine zz_gsn 1 rfl ?_
      refine zz_br rfl (fun h52 => absurd h52 b52) (fun h52 => ?_)
      refine zz_gsn 4 rfl ?_
      rw [m4]
      refine zz_br rfl (fun h57 => absurd h57 b57) (fun h57 => ?_)
      refine zz_gsn 7 rfl ?_
      rw [m4, zc]
      refine zz_gsn 3 rfl ?_
      refine zz_ald rfl (o68) ?_
      rw [show σ42.2 (c + 5) ((vv : Nat) : Int).toNat = S.z vv from Z42 vv vle]
      refine zz_gsn 1 rfl ?_
      refine zz_br rfl (fun h70 => absurd h70 (by decide)) (fun h70 => ?_)
      refine zz_gsn 1 rfl ?_
      refine zz_jp rfl ?_
      refine zz_gsn 1 rfl ?_
      rw [za]
      refine zz_ast rfl (o75) ?_
      obtain ⟨σ75, h75⟩ : ∃ s, s = zz_sa σ42 (c + 5) (((S.c + 1 : Nat) : Int)).toNat (S.z vv + 1) := ⟨_, rfl⟩
      refine zz_sge (σ' := σ75) h75 ?_
      rw [Int.toNat_natCast] at h75
      have F75 : zz_F (fun x => x = c + 5) σ42 σ75 := by rw [h75]; exact zz_F.sa rfl
      have D75 : DF σ75 (c + 1) 1 law C 0 S.c S.D := D42.f F75 (fun x y1 y2 z => by omega)
      clear za zc zv m4
      refine zz_gsn 5 rfl ?_
      refine zz_cv (n := 4) rfl rfl (t_Deeds_add (k := S.c) (base := vv) (kind := zr_kd T law S.k) (x := (zr_d T law S).v) (D := S.D) D75.2.2.2.2 k60) (Nat.le_of_ble_eq_true rfl) (Nat.le_of_ble_eq_true rfl) (Nat.le_of_ble_eq_true rfl) (fun r81 σ81 q81 => ?_)
      obtain ⟨rfl, p81, g81, f81⟩ := q81
      refine zz_rv rfl rfl ?_
      have e : zr_ln T law S = (zr_ff T law S, S.c + 1, zu S.D S.c (zr_kd T law S.k, vv, (zr_d T law S).v), zu S.z (S.c + 1) (S.z vv + 1)) := by
        refine (if_pos hf).trans ?_
        rw [hvv, Int.toNat_natCast, if_pos hkp, if_pos hkp]
      rw [e]
      have F81 : zz_F (fun x => c + 1 ≤ x ∧ x ≤ c + 4) σ75 σ81 := g81.mono (fun x z => by omega)
      have P81 : CRd σ81 c (zr_ff T law S) := (hff.f F75 (fun z => by omega)).f F81 (fun z => by omega)
      have B81 : BL σ81 a T := (B42.f F75 (fun z => by omega) (fun z => by omega)).f F81 (fun z => by omega) (fun z => by omega)
      refine ⟨rfl, ⟨P81, ⟨(f81 _ (by decide)).trans D75.1, (f81 _ (by decide)).trans D75.2.1, (f81 _ (by decide)).trans D75.2.2.1, (f81 _ (by decide)).trans D75.2.2.2.1, p81⟩, fun v hv => ?_, B81⟩, h0.tr (((c1_rd G).tr (F75.mono (fun x z => by unfold A_rd; omega))).tr (F81.mono (fun x z => by unfold A_rd; omega)))⟩
      show σ81.2 (c + 5) v = zu S.z (S.c + 1) (S.z vv + 1) v
      rw [(F81 (c + 5) (fun z => by omega)).2, h75]
      by_cases z : v = S.c + 1
      · rw [z, sa_h, zu_s]
      · have hv2 : v ≤ S.c + 1 := hv
        rw [sa_i _ _ z, zu_n _ _ z]
        exact Z42 v (by omega)
  · subst ep
    refine zz_gsn 2 rfl ?_
    refine zz_cv (n := 2) rfl rfl (t_Reader_step (T := T) (k := zr_la (zr_kd T law S.k) S.c S.k) hB hT hpT hac1 hA okA) (Nat.le_of_ble_eq_true rfl) (Nat.le_of_ble_eq_true rfl) (Nat.le_of_ble_eq_true rfl) (fun r24 σ24 q24 => ?_)
    obtain ⟨rfl, p24, B24, g24⟩ := q24
    have hb : CRd σ24 c (zr_b T law S) := p24
    refine zz_gsn 3 rfl ?_
    refine zz_cv (n := 3) rfl rfl (t_Reader_expectVersion (T := T) (k := zr_b T law S) (n := S.c) (kd := zr_kd T law S.k) (z := S.z) hT hpT hac B24 hb okb hc (((g24 _ n1).1 204).trans d5) (fun v hv => ((g24 _ n5).2 v).trans (hz v hv)) hpf) (Nat.le_of_ble_eq_true rfl) (Nat.le_of_ble_eq_true rfl) (Nat.le_of_ble_eq_true rfl) (fun r28 σ28 q28 => ?_)
    obtain ⟨v28, rfl, p28, B28, g28, x28⟩ := q28
    have hd : CRd σ28 c (zr_d T law S) := p28
    refine zz_gsn 2 rfl ?_
    refine zz_br rfl (fun h31 => ?_) (fun h31 => absurd rfl h31)
    refine zz_gsn 2 rfl ?_
    have he : CRd σ28 c (zr_ee T law S) := by rw [show zr_ee T law S = zr_d T law S from if_neg hkp]; exact hd
    refine zz_gsn 2 rfl ?_
    refine zz_cv (n := 2) rfl rfl (t_Reader_expectSign (T := T) (k := zr_ee T law S) B28 hT hpT hac1 he oke) (Nat.le_of_ble_eq_true rfl) (Nat.le_of_ble_eq_true rfl) (Nat.le_of_ble_eq_true rfl) (fun r42 σ42 q42 => ?_)
    obtain ⟨rfl, p42, B42, g42⟩ := q42
    have hff : CRd σ42 c (zr_ff T law S) := p42
    have G : zz_F (A_c1 c) σ σ42 := (g24.tr g28).tr g42
    have D42 : DF σ42 (c + 1) 1 law C 0 S.c S.D := hD.f G (fun x y1 y2 z => by have z2 : x = c := z; omega)
    have Z42 : ∀ v, v ≤ S.c → σ42.2 (c + 5) v = S.z v := fun v hv => ((G _ n5).2 v).trans (hz v hv)
    have e601 := hff.1
    refine zz_gsn 2 rfl ?_
    refine zz_br rfl (fun h45 => ?_) (fun h45 => ?_)
    · refine zz_rv rfl rfl ?_
      have e : zr_ln T law S = (zr_ff T law S, S.c, S.D, S.z) := if_neg (fun z => h45 (e601.trans z))
      rw [e]
      exact ⟨rfl, ⟨hff, D42, Z42, B42⟩, h0.tr (c1_rd G)⟩
    · have hf : (zr_ff T law S).f = 0 := e601.symm.trans (by first | exact h45 | exact Decidable.not_not.mp h45)
      obtain ⟨k1, k2, k3, k4, k5⟩ := zr_ff_f hf
      obtain ⟨f1, f2⟩ := zr_de_f hf
      obtain ⟨vv, hvv⟩ : ∃ n : Nat, (zr_c T law S).v = (n : Int) := ⟨(zr_c T law S).v.toNat, (Int.toNat_of_nonneg k3.1).symm⟩
      have ec : v28 = (vv : Nat) := (x28 f1).trans hvv
      have vle : vv ≤ S.c := Int.ofNat_le.mp (hvv ▸ k3.2)
      have vle41 : vv < 41 := Nat.lt_of_le_of_lt vle (Nat.lt_succ_of_le hc)
      have k60 : S.c < 60 := Nat.lt_of_lt_of_le k2 (by decide)
      have m4 : σ42.1 204 (c + 1) = (S.c : Nat) := D42.2.2.2.2.1
      rw [ec]
      have b50 : ¬ ((S.c : Nat) : Int) ≥ 40 := fun z => absurd (Int.ofNat_le.mp z) (Nat.not_le.mpr k2)
      have b52 : ¬ ((vv : Nat) : Int) < 0 := Int.not_lt.mpr (Int.natCast_nonneg _)
      have b57 : ¬ ((vv : Nat) : Int) > (S.c : Nat) := Int.not_lt.mpr (Int.ofNat_le.mpr vle)
      have o68 : 0 ≤ ((vv : Nat) : Int) ∧ ((vv : Nat) : Int) < 41 := ⟨Int.natCast_nonneg _, Int.ofNat_lt.mpr vle41⟩
      have o75 : 0 ≤ ((S.c + 1 : Nat) : Int) ∧ ((S.c + 1 : Nat) : Int) < 41 := ⟨Int.natCast_nonneg _, Int.ofNat_lt.mpr (Nat.succ_lt_succ k2)⟩
      have zv := hzb vv vle
      have za : zw (S.z vv + -1) = S.z vv + -1 := zw_id (Int.le_trans (by decide) (Int.add_le_add_right zv.1 _)) (Int.lt_of_le_of_lt (Int.add_le_add_right zv.2 _) (by decide))
      have zc : zw (((S.c : Nat) : Int) + 1) = ((S.c + 1 : Nat) : Int) := zw_s (Nat.lt_trans k60 (by decide))
      refine zz_gsn 4 rfl ?_
      rw [m4]
      refine zz_br rfl (fun h50 => absurd h50 b50) (fun h50 => ?_)
      refine zz_gsn 1 rfl ?_
      refine zz_br rfl (fun h52 => absurd h52 b52) (fun h52 => ?_)
      refine zz_gsn 4 rfl ?_
      rw [m4]
      refine zz_br rfl (fun h57 => absurd h57 b57) (fun h57 => ?_)
      refine zz_gsn 7 rfl ?_
      rw [m4, zc]
      refine zz_gsn 3 rfl ?_
      refine zz_ald rfl (o68) ?_
      rw [show σ42.2 (c + 5) ((vv : Nat) : Int).toNat = S.z vv from Z42 vv vle]
      refine zz_gsn 1 rfl ?_
      refine zz_br rfl (fun h70 => ?_) (fun h70 => absurd rfl h70)
      refine zz_gsn 2 rfl ?_
      rw [za]
      refine zz_ast rfl (o75) ?_
      obtain ⟨σ75, h75⟩ : ∃ s, s = zz_sa σ42 (c + 5) (((S.c + 1 : Nat) : Int)).toNat (S.z vv + -1) := ⟨_, rfl⟩
      refine zz_sge (σ' := σ75) h75 ?_
      rw [Int.toNat_natCast] at h75
      have F75 : zz_F (fun x => x = c + 5) σ42 σ75 := by rw [h75]; exact zz_F.sa rfl
      have D75 : DF σ75 (c + 1) 1 law C 0 S.c S.D := D42.f F75 (fun x y1 y2 z => by omega)
      clear za zc zv m4
      refine zz_gsn 5 rfl ?_
      refine zz_cv (n := 4) rfl rfl (t_Deeds_add (k := S.c) (base := vv) (kind := zr_kd T law S.k) (x := -1) (D := S.D) D75.2.2.2.2 k60) (Nat.le_of_ble_eq_true rfl) (Nat.le_of_ble_eq_true rfl) (Nat.le_of_ble_eq_true rfl) (fun r81 σ81 q81 => ?_)
      obtain ⟨rfl, p81, g81, f81⟩ := q81
      refine zz_rv rfl rfl ?_
      have e : zr_ln T law S = (zr_ff T law S, S.c + 1, zu S.D S.c (zr_kd T law S.k, vv, -1), zu S.z (S.c + 1) (S.z vv + -1)) := by
        refine (if_pos hf).trans ?_
        rw [hvv, Int.toNat_natCast, if_neg hkp, if_neg hkp]
      rw [e]
      have F81 : zz_F (fun x => c + 1 ≤ x ∧ x ≤ c + 4) σ75 σ81 := g81.mono (fun x z => by omega)
      have P81 : CRd σ81 c (zr_ff T law S) := (hff.f F75 (fun z => by omega)).f F81 (fun z => by omega)
      have B81 : BL σ81 a T := (B42.f F75 (fun z => by omega) (fun z => by omega)).f F81 (fun z => by omega) (fun z => by omega)
      refine ⟨rfl, ⟨P81, ⟨(f81 _ (by decide)).trans D75.1, (f81 _ (by decide)).trans D75.2.1, (f81 _ (by decide)).trans D75.2.2.1, (f81 _ (by decide)).trans D75.2.2.2.1, p81⟩, fun v hv => ?_, B81⟩, h0.tr (((c1_rd G).tr (F75.mono (fun x z => by unfold A_rd; omega))).tr (F81.mono (fun x z => by unfold A_rd; omega)))⟩
      show σ81.2 (c + 5) v = zu S.z (S.c + 1) (S.z vv + -1) v
      rw [(F81 (c + 5) (fun z => by omega)).2, h75]
      by_cases z : v = S.c + 1
      · rw [z, sa_h, zu_s]
      · have hv2 : v ≤ S.c + 1 := hv
        rw [sa_i _ _ z, zu_n _ _ z]
        exact Z42 v (by omega)
theorem t_Reader_readDeedLine {X : zz_X} {σ : zz_M} {c a p : Nat} {law C : Int} {T : List Int} {S : zr_S} (hT : T.length ≤ 600) (hpT : T.length ≤ p) (hac : a + 1 < c ∨ c + 5 < a) (hS : RSt σ c a T law C S) (ok : zr_ok T S.k) (hf : S.k.f = 0) (hc : S.c ≤ 40) (hzb : ∀ v, v ≤ S.c → 0 ≤ S.z v ∧ S.z v ≤ 100) : zz_T X 7 p_Reader_readDeedLine [zP 6 0 0 c, zP 0 p 0 a] σ (fun r σ' => r = none ∧ RSt σ' c a T law C (zr_ln T law S) ∧ zz_F (A_rd c) σ σ') := by
  refine zz_mk k_Reader_readDeedLine o_Reader_readDeedLine rfl rfl (Nat.le_of_ble_eq_true rfl) ?_
  show zz_G X 7 p_Reader_readDeedLine 0 [zP 6 0 0 c, zP 0 p 0 a, zU, zU, zU, zU] [] σ _
  have hac1 : c ≠ a ∧ c ≠ a + 1 := ⟨by omega, by omega⟩
  obtain ⟨hR, hD, hz, hB⟩ := id hS
  have d5 : σ.1 204 (c + 1) = (S.c : Nat) := hD.2.2.2.2.1
  refine zz_gsn 2 rfl ?_
  refine zz_cv (n := 2) rfl rfl (t_Reader_kindOfWord (T := T) (k := S.k) (law := law) hT hpT hac hB hR ok hD.2.1) (Nat.le_of_ble_eq_true rfl) (Nat.le_of_ble_eq_true rfl) (Nat.le_of_ble_eq_true rfl) (fun r2 σ2 q2 => ?_)
  obtain ⟨rfl, rfl⟩ := q2
  refine zz_gsn 2 rfl ?_
  refine zz_cs (n := 1) rfl rfl (t_TQ_isPutting) (Nat.le_of_ble_eq_true rfl) (Nat.le_of_ble_eq_true rfl) (Nat.le_of_ble_eq_true rfl) (fun r5 σ5 q5 => ?_)
  obtain ⟨rfl, n5, rfl, e5⟩ := q5
  refine zz_gsn 3 rfl ?_
  refine zz_br rfl (fun h9 => ?_) (fun h9 => ?_)
  · refine zz_gsn 4 rfl ?_
    rw [d5]
    refine zz_br rfl (fun h18 => ?_) (fun h18 => ?_)
    · have ea : zr_la (zr_kd T law S.k) S.c S.k = S.k := (if_neg h9).trans (if_neg (fun z => absurd h18 (by omega)))
      exact ln_22 (S := S) (C := C) zz_F.rf hT hpT hac (by rw [ea]; exact hR) ok hB hD hz hc hzb e5
    · refine zz_gsn 2 rfl ?_
      refine zz_cv (n := 2) rfl rfl (t_Reader_refuse (x := 3) (k := S.k) hR) (Nat.le_of_ble_eq_true rfl) (Nat.le_of_ble_eq_true rfl) (Nat.le_of_ble_eq_true rfl) (fun r21 σ21 q21 => ?_)
      obtain ⟨rfl, p21, g21⟩ := q21
      have ea : zr_la (zr_kd T law S.k) S.c S.k = zr_err 3 S.k := (if_neg h9).trans (if_pos (by omega))
      have G : zz_F (A_rd c) σ σ21 := c1_rd g21
      have z1 : ∀ x : Nat, x ≠ c → ¬ A_c1 c x := fun x y z => y z
      exact (ln_22 (S := S) (C := C) G hT hpT hac (by rw [ea]; exact p21) ok (hB.f g21 (z1 _ (fun z => hac1.1 z.symm)) (z1 _ (fun z => hac1.2 z.symm))) (hD.f g21 (fun x y1 y2 => z1 _ (by omega))) (fun v hv => ((g21 _ (z1 _ (by omega))).2 v).trans (hz v hv)) hc hzb e5)
  · refine zz_gsn 2 rfl ?_
    refine zz_cv (n := 2) rfl rfl (t_Reader_refuse (x := 1) (k := S.k) hR) (Nat.le_of_ble_eq_true rfl) (Nat.le_of_ble_eq_true rfl) (Nat.le_of_ble_eq_true rfl) (fun r12 σ12 q12 => ?_)
    obtain ⟨rfl, p12, g12⟩ := q12
    refine zz_jp rfl ?_
    have ea : zr_la (zr_kd T law S.k) S.c S.k = zr_err 1 S.k := if_pos (by first | exact h9 | exact Decidable.not_not.mp h9)
    have G : zz_F (A_rd c) σ σ12 := c1_rd g12
    have z1 : ∀ x : Nat, x ≠ c → ¬ A_c1 c x := fun x y z => y z
    exact (ln_22 (S := S) (C := C) G hT hpT hac (by rw [ea]; exact p12) ok (hB.f g12 (z1 _ (fun z => hac1.1 z.symm)) (z1 _ (fun z => hac1.2 z.symm))) (hD.f g12 (fun x y1 y2 => z1 _ (by omega))) (fun v hv => ((g12 _ (z1 _ (by omega))).2 v).trans (hz v hv)) hc hzb e5)
