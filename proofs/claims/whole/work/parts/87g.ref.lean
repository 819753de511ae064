/-! the reference: all lines -/
theorem tl_63 {X : zz_X} {m y : Nat} {T : List Int} {k : zr_T} {x2 : zz_V} {σ : zz_M} {Post : Option zz_V → zz_M → Prop} (okT : zb_ok T) (hT : RTp σ m T) (hR : RRd σ m k) (ok : zr_ok T k) (hy : y < 1000) (kk : ∀ σ' : zz_M, RRd σ' m (zr_sg T k) → RTp σ' m T → Ft m σ σ' → zz_G X 8 p_Mo_house 28 [zP 12 0 0 m, zI ((y + 1 : Nat) : Int), x2] [] σ' Post) : zz_G X 8 p_Mo_house 63 [zP 12 0 0 m, zI (y : Nat), x2] [] σ Post := by
  have zs : zw ((y : Int) + 1) = ((y + 1 : Nat) : Int) := zw_s (Nat.lt_trans hy (by decide))
  rcases Classical.em (k.f = 0) with hf | hf
  rotate_left
  · refine zz_gsn 1 rfl ?_
    refine zz_cv (n := 1) rfl rfl (t_Mo_good) (Nat.le_of_ble_eq_true rfl) (Nat.le_of_ble_eq_true rfl) (Nat.le_of_ble_eq_true rfl) (fun r64 σ64 q64 => ?_)
    obtain ⟨rfl, n64, rfl, e64⟩ := q64
    replace e64 : n64 = 0 := e64.elim (fun z => absurd (hR.2.2.2.2.1.symm.trans z.2) hf) (fun z => z.1)
    refine zz_br rfl (fun h65 => ?_) (fun h65 => absurd e64 h65)
    refine zz_gsn 1 rfl ?_
    refine zz_cv (n := 1) rfl rfl (t_Mo_good) (Nat.le_of_ble_eq_true rfl) (Nat.le_of_ble_eq_true rfl) (Nat.le_of_ble_eq_true rfl) (fun r74 σ74 q74 => ?_)
    obtain ⟨rfl, n74, rfl, e74⟩ := q74
    replace e74 : n74 = 0 := e74.elim (fun z => absurd (hR.2.2.2.2.1.symm.trans z.2) hf) (fun z => z.1)
    refine zz_br rfl (fun h75 => ?_) (fun h75 => absurd e74 h75)
    refine zz_gsn 1 rfl ?_
    refine zz_jp rfl ?_
    rw [zs]
    exact kk σ (by rw [zr_sg_id hf]; exact hR) hT Ft.rf
  rcases Classical.em (k.t = 3) with ht | ht
  · refine zz_gsn 1 rfl ?_
    refine zz_cv (n := 1) rfl rfl (t_Mo_good) (Nat.le_of_ble_eq_true rfl) (Nat.le_of_ble_eq_true rfl) (Nat.le_of_ble_eq_true rfl) (fun r64 σ64 q64 => ?_)
    obtain ⟨rfl, n64, rfl, e64⟩ := q64
    replace e64 : n64 = 1 := e64.elim (fun z => z.1) (fun z => absurd (hR.2.2.2.2.1.trans hf) z.2)
    refine zz_br rfl (fun h65 => absurd (e64.symm.trans h65) (by decide)) (fun h65 => ?_)
    refine zz_gsn 3 rfl ?_
    refine zz_br rfl (fun h69 => ?_) (fun h69 => absurd (hR.2.2.1.trans (rk_3.mpr ht)) h69)
    refine zz_gsn 1 rfl ?_
    refine zz_cv (n := 1) rfl rfl (t_Mo_good) (Nat.le_of_ble_eq_true rfl) (Nat.le_of_ble_eq_true rfl) (Nat.le_of_ble_eq_true rfl) (fun r74 σ74 q74 => ?_)
    obtain ⟨rfl, n74, rfl, e74⟩ := q74
    replace e74 : n74 = 1 := e74.elim (fun z => z.1) (fun z => absurd (hR.2.2.2.2.1.trans hf) z.2)
    refine zz_br rfl (fun h75 => absurd (e74.symm.trans h75) (by decide)) (fun h75 => ?_)
    refine zz_gsn 1 rfl ?_
    refine zz_cv (n := 1) rfl rfl (t_Mo_advance (T := T) (k := k) hT okT hR.1 ok.2.1 hR.2.2.2.2.1 hR.2.2.2.2.2) (Nat.le_of_ble_eq_true rfl) (Nat.le_of_ble_eq_true rfl) (Nat.le_of_ble_eq_true rfl) (fun r77 σ77 q77 => ?_)
    obtain ⟨rfl, R77, T77, g77⟩ := q77
    refine zz_gsn 1 rfl ?_
    refine zz_jp rfl ?_
    rw [zs]
    exact kk σ77 (by rw [show zr_sg T k = zr_ad T k from (if_pos ht).trans (if_pos hf)]; exact R77) T77 g77
  · refine zz_gsn 1 rfl ?_
    refine zz_cv (n := 1) rfl rfl (t_Mo_good) (Nat.le_of_ble_eq_true rfl) (Nat.le_of_ble_eq_true rfl) (Nat.le_of_ble_eq_true rfl) (fun r64 σ64 q64 => ?_)
    obtain ⟨rfl, n64, rfl, e64⟩ := q64
    replace e64 : n64 = 1 := e64.elim (fun z => z.1) (fun z => absurd (hR.2.2.2.2.1.trans hf) z.2)
    refine zz_br rfl (fun h65 => absurd (e64.symm.trans h65) (by decide)) (fun h65 => ?_)
    refine zz_gsn 3 rfl ?_
    refine zz_br rfl (fun h69 => absurd (rk_3.mp (hR.2.2.1.symm.trans h69)) ht) (fun h69 => ?_)
    refine zz_gsn 2 rfl ?_
    refine zz_cv (n := 2) rfl rfl (t_Mo_errs (x := 1) (k := k) hR hT) (Nat.le_of_ble_eq_true rfl) (Nat.le_of_ble_eq_true rfl) (Nat.le_of_ble_eq_true rfl) (fun r72 σ72 q72 => ?_)
    obtain ⟨rfl, R72, T72, g72⟩ := q72
    refine zz_gsn 1 rfl ?_
    refine zz_cv (n := 1) rfl rfl (t_Mo_good) (Nat.le_of_ble_eq_true rfl) (Nat.le_of_ble_eq_true rfl) (Nat.le_of_ble_eq_true rfl) (fun r74 σ74 q74 => ?_)
    obtain ⟨rfl, n74, rfl, e74⟩ := q74
    replace e74 : n74 = 0 := e74.elim (fun z => absurd (R72.2.2.2.2.1.symm.trans z.2) (zr_err_f (by decide))) (fun z => z.1)
    refine zz_br rfl (fun h75 => ?_) (fun h75 => absurd e74 h75)
    refine zz_gsn 1 rfl ?_
    refine zz_jp rfl ?_
    rw [zs]
    exact kk σ72 (by rw [show zr_sg T k = zr_err 1 k from if_neg ht]; exact R72) T72 g72
/-- all DEEDS read -/
theorem lp_rh {X : zz_X} {m : Nat} {law C : Int} {T : List Int} {E : zr_S} {x2 : zz_V} {σ0 : zz_M} {Post : Option zz_V → zz_M → Prop} (okT : zb_ok T) (hC : 2 ≤ C ∧ C ≤ 4) (kk : ∀ (σ' : zz_M) (y : Nat), RRd σ' m E.k → RTp σ' m T → (E.k.f = 0 → RDd σ' m law C E ∧ y = E.c + 1) → Fq m σ0 σ' → zz_G X 8 p_Mo_house 80 [zP 12 0 0 m, zI (y : Nat), x2] [] σ' Post) :
    ∀ (r y : Nat) (S : zr_S) (σ : zz_M), y + r = 42 → 0 < y → (S.k.f = 0 → RDd σ m law C S ∧ y = S.c + 1) → RRd σ m S.k → RTp σ m T → zr_ok T S.k → zr_i law C S → Fq m σ0 σ → zr_rn T law r S = E → zz_G X 8 p_Mo_house 28 [zP 12 0 0 m, zI (y : Nat), x2] [] σ Post := by
  intro r
  induction r with
  | zero =>
    intro y S σ hy hy0 hS hR hT ok hz hF hE
    have hf : S.k.f ≠ 0 := fun z => by
      have a := (hS z).2
      have b := hz.1
      omega
    have e : S = E := hE
    subst e
    refine zz_gsn 1 rfl ?_
    refine zz_cv (n := 1) rfl rfl (t_Mo_good) (Nat.le_of_ble_eq_true rfl) (Nat.le_of_ble_eq_true rfl) (Nat.le_of_ble_eq_true rfl) (fun r29 σ29 q29 => ?_)
    obtain ⟨rfl, n29, rfl, e29⟩ := q29
    replace e29 : n29 = 0 := e29.elim (fun z => absurd (hR.2.2.2.2.1.symm.trans z.2) hf) (fun z => z.1)
    refine zz_br rfl (fun h30 => ?_) (fun h30 => absurd e29 h30)
    exact kk σ y hR hT hS hF
  | succ r ih =>
    intro y S σ hy hy0 hS hR hT ok hz hF hE
    have hE1 : ¬ (S.k.f = 0 ∧ S.k.t ≠ 4) → S = E := fun z => (if_neg z).symm.trans hE
    have hE2 : (S.k.f = 0 ∧ S.k.t ≠ 4) → zr_rn T law r (zr_ln T law S) = E := fun z => (if_pos z).symm.trans hE
    have y35 : ((y : Nat) : Int) ≠ 0 := by omega
    have y1000 : y < 1000 := by omega
    have y9 : y + 1 + r = 42 := by omega
    clear hE
    rcases Classical.em (S.k.f = 0) with hf | hf
    rotate_left
    · have e := hE1 (fun z => hf z.1)
      subst e
      refine zz_gsn 1 rfl ?_
      refine zz_cv (n := 1) rfl rfl (t_Mo_good) (Nat.le_of_ble_eq_true rfl) (Nat.le_of_ble_eq_true rfl) (Nat.le_of_ble_eq_true rfl) (fun r29 σ29 q29 => ?_)
      obtain ⟨rfl, n29, rfl, e29⟩ := q29
      replace e29 : n29 = 0 := e29.elim (fun z => absurd (hR.2.2.2.2.1.symm.trans z.2) hf) (fun z => z.1)
      refine zz_br rfl (fun h30 => ?_) (fun h30 => absurd e29 h30)
      exact kk σ y hR hT hS hF
    · obtain ⟨hD, hyc⟩ := hS hf
      refine zz_gsn 1 rfl ?_
      refine zz_cv (n := 1) rfl rfl (t_Mo_good) (Nat.le_of_ble_eq_true rfl) (Nat.le_of_ble_eq_true rfl) (Nat.le_of_ble_eq_true rfl) (fun r29 σ29 q29 => ?_)
      obtain ⟨rfl, n29, rfl, e29⟩ := q29
      replace e29 : n29 = 1 := e29.elim (fun z => z.1) (fun z => absurd (hR.2.2.2.2.1.trans hf) z.2)
      refine zz_br rfl (fun h30 => absurd (e29.symm.trans h30) (by decide)) (fun h30 => ?_)
      refine zz_gsn 2 rfl ?_
      refine zz_br rfl (fun h33 => ?_) (fun h33 => ?_)
      · have e := hE1 (fun z => z.2 (rk_0.mp (hR.2.2.1.symm.trans (by first | exact h33 | exact Decidable.not_not.mp h33))))
        subst e
        exact kk σ y hR hT hS hF
      · refine zz_gsn 1 rfl ?_
        refine zz_br rfl (fun h35 => ?_) (fun h35 => absurd (by first | exact h35 | exact Decidable.not_not.mp h35) y35)
        refine zz_gsn 1 rfl ?_
        refine zz_cv (n := 1) rfl rfl (t_Mo_readDeed (S := S) (law := law) (C := C) okT hT hR ok hf hD hz.1 (zr_iz hz)) (Nat.le_of_ble_eq_true rfl) (Nat.le_of_ble_eq_true rfl) (Nat.le_of_ble_eq_true rfl) (fun r62 σ62 q62 => ?_)
        obtain ⟨rfl, R62, T62, g62, x62⟩ := q62
        have t4 : S.k.t ≠ 4 := fun z => h33 (hR.2.2.1.trans (rk_0.mpr z))
        refine tl_63 okT T62 R62 (zr_ee_ok ok) y1000 (fun σ3 R3 T3 g3 => ?_)
        have hk := zr_ln_k (T := T) (law := law) (S := S)
        refine ih (y + 1) (zr_ln T law S) σ3 y9 (Nat.succ_pos _) (fun z => ?_) (by rw [hk]; exact R3) T3 (by rw [hk]; exact zr_ff_ok ok) (zr_ln_i hC hz) (hF.tr (g62.tr g3.q)) (hE2 ⟨hf, t4⟩)
        rw [hk] at z
        have D3 := (x62 (zr_sg_f z)).f g3
        have e : zr_ln T law S = (zr_ff T law S, S.c + 1, zu S.D S.c (zr_kd T law S.k, (zr_c T law S).v.toNat, if zr_pt (zr_kd T law S.k) then (zr_d T law S).v else -1), zu S.z (S.c + 1) (S.z (zr_c T law S).v.toNat + if zr_pt (zr_kd T law S.k) then 1 else -1)) := if_pos z
        rw [e]
        exact ⟨D3, by rw [hyc]⟩
