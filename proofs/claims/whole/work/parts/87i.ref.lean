/-! the reference: house -/
theorem ho_80 {X : zz_X} {m y : Nat} {G : zz_J} {x2 : zz_V} {σ0 σ : zz_M} (hG : RG σ0 m G) (ok : g_ok G) (t4 : ¬ (zr_1 G.t).t = 4) (hR : RRd σ m (zr_end G.t).k) (hx : (zr_end G.t).k.f = 0 → RDd σ m (zr_law G.t) (zr_C G.t) (zr_end G.t) ∧ y = (zr_end G.t).c + 1) (hW : Fw m σ0 σ) (t0 : σ.1 1225 m = 0) : zz_G X 8 p_Mo_house 80 [zP 12 0 0 m, zI (y : Nat), x2] [] σ (fun r σ' => r = some (zI (a_house G).1) ∧ RG σ' m (a_house G).2 ∧ zz_F (A_rf m) σ0 σ') := by
  have GR := hG.rd hW t0 hR.2.2.2.2.1 hR.2.2.2.2.2
  rcases Classical.em ((zr_end G.t).k.f = 0) with hf | hf
  rotate_left
  · have e : a_house G = (-4, (G.I, [], G.o, (zr_end G.t).k.f, (zr_end G.t).k.p, G.m)) := (if_neg t4).trans (if_pos hf)
    rw [e]
    refine zz_gsn 1 rfl ?_
    refine zz_cv (n := 1) rfl rfl (t_Mo_good) (Nat.le_of_ble_eq_true rfl) (Nat.le_of_ble_eq_true rfl) (Nat.le_of_ble_eq_true rfl) (fun r81 σ81 q81 => ?_)
    obtain ⟨rfl, n81, rfl, e81⟩ := q81
    replace e81 : n81 = 0 := e81.elim (fun z => absurd (hR.2.2.2.2.1.symm.trans z.2) hf) (fun z => z.1)
    refine zz_br rfl (fun h82 => absurd e81 h82) (fun h82 => ?_)
    refine zz_gsn 1 rfl ?_
    refine zz_ri rfl (Or.inl rfl) ?_
    exact ⟨rfl, GR, hW.F⟩
  · obtain ⟨⟨d1, d2, d3, d4, d5⟩, hy⟩ := hx hf
    subst hy
    have e : a_house G = (((((zr_end G.t).c + 1 : Nat)) : Int), (i_fix (zr_I G.t), [], G.o, (zr_end G.t).k.f, (zr_end G.t).k.p, G.m)) := (if_neg t4).trans (if_neg (fun z => z hf))
    rw [e]
    have iok := zr_end_ok hf
    have k40 : (zr_end G.t).c ≤ 40 := by
      rcases iok.2 with z | z
      · exact absurd z.1 (by show ¬ (1 : Int) = 0; decide)
      · exact z.2.2.2.2
    refine zz_gsn 1 rfl ?_
    refine zz_cv (n := 1) rfl rfl (t_Mo_good) (Nat.le_of_ble_eq_true rfl) (Nat.le_of_ble_eq_true rfl) (Nat.le_of_ble_eq_true rfl) (fun r81 σ81 q81 => ?_)
    obtain ⟨rfl, n81, rfl, e81⟩ := q81
    replace e81 : n81 = 1 := e81.elim (fun z => z.1) (fun z => absurd (hR.2.2.2.2.1.trans hf) z.2)
    refine zz_br rfl (fun h82 => ?_) (fun h82 => absurd (by first | exact h82 | exact Decidable.not_not.mp h82) (by rw [e81]; decide))
    refine zz_gsn 15 rfl ?_
    obtain ⟨σ99, h99⟩ : ∃ s, s = zz_sf (zz_sf (zz_sf (zz_sf σ 1213 m (((zr_end G.t).c + 1 : Nat) : Int)) 1211 m (zr_law G.t)) 1212 m (zr_C G.t)) 1214 m (((zr_end G.t).c : Nat) : Int) := ⟨_, rfl⟩
    refine zz_sge (σ' := σ99) (by rw [h99]; rw [show (zz_sf σ 1213 m (((zr_end G.t).c + 1 : Nat) : Int)).1 1234 m = zr_law G.t from (sf_f _ _ (by decide)).trans d1, show (zz_sf (zz_sf σ 1213 m (((zr_end G.t).c + 1 : Nat) : Int)) 1211 m (zr_law G.t)).1 1235 m = zr_C G.t from (sf_f _ _ (by decide)).trans ((sf_f _ _ (by decide)).trans d2), show (zz_sf (zz_sf (zz_sf σ 1213 m (((zr_end G.t).c + 1 : Nat) : Int)) 1211 m (zr_law G.t)) 1212 m (zr_C G.t)).1 1236 m = (((zr_end G.t).c : Nat) : Int) from (sf_f _ _ (by decide)).trans ((sf_f _ _ (by decide)).trans ((sf_f _ _ (by decide)).trans d3))]) ?_
    have u99 : ∀ f a, ¬ (a = m ∧ 1211 ≤ f ∧ f ≤ 1214) → σ99.1 f a = (σ).1 f a := fun f a q => by rw [h99, sf_1, if_neg (by omega), sf_1, if_neg (by omega), sf_1, if_neg (by omega), sf_1, if_neg (by omega)]
    have v99 : σ99.2 = (σ).2 := by rw [h99]; rfl
    have w11 : σ99.1 1211 m = (zr_law G.t) := by rw [h99, sf_f _ _ (by decide), sf_f _ _ (by decide), sf_h]
    have w12 : σ99.1 1212 m = (zr_C G.t) := by rw [h99, sf_f _ _ (by decide), sf_h]
    have w13 : σ99.1 1213 m = (((zr_end G.t).c + 1 : Nat) : Int) := by rw [h99, sf_f _ _ (by decide), sf_f _ _ (by decide), sf_f _ _ (by decide), sf_h]
    have w14 : σ99.1 1214 m = (((zr_end G.t).c : Nat) : Int) := by rw [h99, sf_h]
    have z99 : σ99.2 (m + 10) 0 = 0 := by rw [v99]; exact GR.2.2.2.2.2
    have L99 : zz_F (A_rf m) (σ) σ99 := fun a ha => ⟨fun f => u99 f a (fun z => ha (by unfold A_rf; omega)), fun i => by rw [v99]⟩
    refine zz_gsn 1 rfl ?_
    refine zz_cv (n := 1) rfl rfl (t_Mo_beginsHouse (m := m) (law := zr_law G.t) (C := zr_C G.t) (D := (i_fix (zr_I G.t)).D) w11 w12 z99) (Nat.le_of_ble_eq_true rfl) (Nat.le_of_ble_eq_true rfl) (Nat.le_of_ble_eq_true rfl) (fun r101 σ101 q101 => ?_)
    obtain ⟨rfl, p101, f101⟩ := q101
    have m101 : σ101.1 1236 m = ((zr_end G.t).c : Nat) := (f101.1 _ _ (by omega)).trans ((u99 _ _ (by omega)).trans d3)
    refine zz_gsn 2 rfl ?_
    refine lp_rmk (I := zr_I G.t) (σ0 := σ101) iok.1 iok.1.2.1 k40 m101 (fun i hi => ?_) (fun σ5 x V5 F5 => ?_) (zr_end G.t).c 0 σ101 (Nat.zero_add _) p101 ⟨fun _ _ _ => rfl, fun _ _ => rfl⟩
    · have z := d4 i hi
      rw [← v99, ← f101.2 (m + 15) (by omega), ← f101.2 (m + 16) (by omega), ← f101.2 (m + 17) (by omega)] at z
      exact z
    · refine zz_gsn 2 rfl ?_
      refine zz_ri rfl (Or.inl rfl) ?_
      have x5 : σ5.1 1213 m = (((zr_end G.t).c + 1 : Nat) : Int) := (F5.1 _ _ (by omega)).trans ((f101.1 _ _ (by omega)).trans w13)
      rw [x5]
      have FF : Fb m σ99 σ5 := f101.tr F5
      refine ⟨rfl, GR.h (Or.inr ⟨rfl, ⟨(FF.1 _ _ (by omega)).trans w11, (FF.1 _ _ (by omega)).trans w12, x5, (FF.1 _ _ (by omega)).trans w14⟩, ?_⟩) V5.2.2.2.2 (fun f hf => (FF.1 f m (by omega)).trans (u99 f m (by omega))) (fun a i ha => by rw [FF.2 a (by omega), v99]), (hW.F.tr L99).tr FF.F⟩
      rw [IH_fix]
      exact V5
theorem ho_46 {X : zz_X} {m : Nat} {G : zz_J} {x2 : zz_V} {σ0 σ : zz_M} (hG : RG σ0 m G) (ok : g_ok G) (t4 : ¬ (zr_1 G.t).t = 4) (okT : zb_ok G.t) (hR : RRd σ m (zr_wd G.t 0 (zr_1 G.t))) (hT : RTp σ m G.t) (hW : Fw m σ0 σ) (t0 : σ.1 1225 m = 0) (m0 : σ.1 1236 m = 0) (s0 : σ.2 (m + 18) 0 = 0) (ok1 : zr_ok G.t (zr_1 G.t)) : zz_G X 8 p_Mo_house 46 [zP 12 0 0 m, zI (0 : Nat), x2] [] σ (fun r σ' => r = some (zI (a_house G).1) ∧ RG σ' m (a_house G).2 ∧ zz_F (A_rf m) σ0 σ') := by
  have okA : zr_ok G.t (zr_wd G.t 0 (zr_1 G.t)) := zr_wd_ok ok1
  have ok2 : zr_ok G.t (zr_2 G.t) := zr_wd_ok okA
  have ok5 : zr_ok G.t (zr_nm G.t 0 2 (zr_2 G.t)) := zr_nm_ok ok2
  have ok6 : zr_ok G.t (zr_3 G.t) := zr_wd_ok ok5
  have ok7 : zr_ok G.t (zr_nm G.t 2 4 (zr_3 G.t)) := zr_nm_ok ok6
  refine zz_gsn 5 rfl ?_
  refine zz_cv (n := 4) rfl rfl (t_Mo_told (w := 19) (lo := 0) (hi := 2) (k := zr_wd G.t 0 (zr_1 G.t)) okT hT hR okA (by decide)) (Nat.le_of_ble_eq_true rfl) (Nat.le_of_ble_eq_true rfl) (Nat.le_of_ble_eq_true rfl) (fun r51 σ51 q51 => ?_)
  obtain ⟨v51, rfl, R51, T51, g51, x51⟩ := q51
  rw [show zr_wd G.t 19 (zr_wd G.t 0 (zr_1 G.t)) = zr_2 G.t from rfl] at R51 x51
  refine zz_gsn 1 rfl ?_
  obtain ⟨σ52, h52⟩ : ∃ s, s = zz_sf σ51 1234 m v51 := ⟨_, rfl⟩
  refine zz_sge (σ' := σ52) h52 ?_
  have Q52 : Fq m σ51 σ52 := by rw [h52]; exact Fq.sf ⟨by decide, by decide⟩
  have T52 := T51.q Q52
  have R52 : RRd σ52 m (zr_nm G.t 0 2 (zr_2 G.t)) := by
    rw [h52]
    obtain ⟨r1, r2, r3, r4, r5, r6⟩ := R51
    exact ⟨(sf_f _ _ (by decide)).trans r1, (sf_f _ _ (by decide)).trans r2, (sf_f _ _ (by decide)).trans r3, fun z => (sf_f _ _ (by decide)).trans (r4 z), (sf_f _ _ (by decide)).trans r5, (sf_f _ _ (by decide)).trans r6⟩
  refine zz_gsn 5 rfl ?_
  refine zz_cv (n := 4) rfl rfl (t_Mo_told (w := 20) (lo := 2) (hi := 4) (k := zr_nm G.t 0 2 (zr_2 G.t)) okT T52 R52 ok5 (by decide)) (Nat.le_of_ble_eq_true rfl) (Nat.le_of_ble_eq_true rfl) (Nat.le_of_ble_eq_true rfl) (fun r58 σ58 q58 => ?_)
  obtain ⟨v58, rfl, R58, T58, g58, x58⟩ := q58
  rw [show zr_wd G.t 20 (zr_nm G.t 0 2 (zr_2 G.t)) = zr_3 G.t from rfl] at R58 x58
  refine zz_gsn 1 rfl ?_
  obtain ⟨σ59, h59⟩ : ∃ s, s = zz_sf σ58 1235 m v58 := ⟨_, rfl⟩
  refine zz_sge (σ' := σ59) h59 ?_
  have Q59 : Fq m σ58 σ59 := by rw [h59]; exact Fq.sf ⟨by decide, by decide⟩
  have T59 := T58.q Q59
  have R59 : RRd σ59 m (zr_nm G.t 2 4 (zr_3 G.t)) := by
    rw [h59]
    obtain ⟨r1, r2, r3, r4, r5, r6⟩ := R58
    exact ⟨(sf_f _ _ (by decide)).trans r1, (sf_f _ _ (by decide)).trans r2, (sf_f _ _ (by decide)).trans r3, fun z => (sf_f _ _ (by decide)).trans (r4 z), (sf_f _ _ (by decide)).trans r5, (sf_f _ _ (by decide)).trans r6⟩
  have Q : Fq m σ σ59 := ((g51.q.tr Q52).tr g58.q).tr Q59
  refine zz_jp rfl ?_
  refine tl_63 (y := 0) okT T59 R59 ok7 (by decide) (fun σ3 R3 T3 g3 => ?_)
  have R3' : RRd σ3 m (zr_4 G.t) := R3
  have ok4 : zr_ok G.t (zr_4 G.t) := zr_sg_ok ok7
  have Q3 : Fq m σ σ3 := Q.tr g3.q
  have W3 : Fw m σ0 σ3 := hW.tr Q3.w
  have t3 : σ3.1 1225 m = 0 := (Q3.1 _ _ (by omega)).trans t0
  rcases Classical.em ((zr_4 G.t).f = 0) with hf4 | hf4
  · obtain ⟨a1, a2, a3, a4, -⟩ := zr_nm_f (zr_2_f hf4).2
    obtain ⟨b1, b2, b3, b4, -⟩ := zr_nm_f (zr_2_f hf4).1
    have hC : 2 ≤ zr_C G.t ∧ zr_C G.t ≤ 4 := ⟨a3, a4⟩
    have hi0 : zr_i (zr_law G.t) (zr_C G.t) (zr_4 G.t, 0, zr_D0, fun _ => 0) := ⟨Nat.zero_le _, ⟨⟨b3, b4⟩, fun _ => hC, Nat.zero_le _, fun j hj => absurd hj (Nat.not_lt_zero j)⟩, fun v hv => by
      obtain rfl : v = 0 := Nat.le_zero.mp hv
      rfl⟩
    have e51 := x51 (zr_2_f hf4).1
    have e58 := x58 (zr_2_f hf4).2
    have D0 : RDd σ3 m (zr_law G.t) (zr_C G.t) (zr_4 G.t, 0, zr_D0, fun _ => 0) := by
      refine ⟨?_, ?_, ?_, fun i hi => absurd hi (Nat.not_lt_zero i), fun v hv => ?_⟩
      · rw [g3.1 _ _ (by omega), h59, sf_f _ _ (by decide), g58.1 _ _ (by omega), h52, sf_h]
        exact e51
      · rw [g3.1 _ _ (by omega), h59, sf_h]
        exact e58
      · rw [g3.1 _ _ (by omega), h59, sf_f _ _ (by decide), g58.1 _ _ (by omega), h52, sf_f _ _ (by decide), g51.1 _ _ (by omega)]
        exact m0
      · obtain rfl : v = 0 := Nat.le_zero.mp hv
        rw [g3.2, h59]
        show σ58.2 (m + 18) 0 = 0
        rw [g58.2, h52]
        show σ51.2 (m + 18) 0 = 0
        rw [g51.2]
        exact s0
    exact lp_rh (E := zr_end G.t) (σ0 := σ3) okT hC (fun σ4 y R4 T4 x4 F4 => ho_80 hG ok t4 R4 x4 (W3.tr F4.w) ((F4.1 _ _ (by omega)).trans t3)) 41 1 (zr_4 G.t, 0, zr_D0, fun _ => 0) σ3 rfl (by decide) (fun _ => ⟨D0, rfl⟩) R3' T3 ok4 hi0 Fq.rf rfl
  · have ee : zr_end G.t = (zr_4 G.t, 0, zr_D0, fun _ => 0) := zr_rn_f 41 _ hf4
    have x4 : (zr_end G.t).k.f = 0 → RDd σ3 m (zr_law G.t) (zr_C G.t) (zr_end G.t) ∧ 1 = (zr_end G.t).c + 1 := fun z => absurd (by rw [ee] at z; exact z) hf4
    have R5 : RRd σ3 m (zr_end G.t).k := by rw [ee]; exact R3'
    refine zz_gsn 1 rfl ?_
    refine zz_cv (n := 1) rfl rfl (t_Mo_good) (Nat.le_of_ble_eq_true rfl) (Nat.le_of_ble_eq_true rfl) (Nat.le_of_ble_eq_true rfl) (fun r29 σ29 q29 => ?_)
    obtain ⟨rfl, n29, rfl, e29⟩ := q29
    replace e29 : n29 = 0 := e29.elim (fun z => absurd (R3'.2.2.2.2.1.symm.trans z.2) hf4) (fun z => z.1)
    refine zz_br rfl (fun h30 => ?_) (fun h30 => absurd e29 h30)
    exact ho_80 (y := 1) hG ok t4 R5 x4 W3 t3
theorem t_Mo_house {X : zz_X} {σ : zz_M} {m : Nat} {G : zz_J} (hG : RG σ m G) (ok : g_ok G) : zz_T X 8 p_Mo_house [zP 12 0 0 m] σ (fun r σ' => r = some (zI (a_house G).1) ∧ RG σ' m (a_house G).2 ∧ zz_F (A_rf m) σ σ') := by
  refine zz_mk k_Mo_house o_Mo_house rfl rfl (Nat.le_of_ble_eq_true rfl) ?_
  show zz_G X 8 p_Mo_house 0 [zP 12 0 0 m, zU, zU] [] σ _
  obtain ⟨hI, hT, hO, hF, hM, h10⟩ := id hG
  obtain ⟨⟨ho, hfx⟩, okt, oko, okm⟩ := id ok
  have hk6 := ho.1.2.2.1
  refine zz_gsn 23 rfl ?_
  refine zz_ast rfl (⟨by decide, by decide⟩) ?_
  obtain ⟨σ24, h24⟩ : ∃ s, s = zz_sa (zz_sf (zz_sf (zz_sf (zz_sf (zz_sf (zz_sf σ 1227 m (σ.1 1225 m)) 1225 m 0) 1228 m 0) 1232 m 0) 1233 m (-1)) 1236 m 0) (m + 18) 0 0 := ⟨_, rfl⟩
  refine zz_sge (σ' := σ24) h24 ?_
  have hl6 := okt.1
  have okT : zb_ok G.t := okt
  have T24 : RTp σ24 m G.t := by
    rw [h24]
    refine ⟨?_, fun i hi => ?_⟩
    · show (zz_sf (zz_sf (zz_sf (zz_sf (zz_sf (zz_sf σ 1227 m (σ.1 1225 m)) 1225 m 0) 1228 m 0) 1232 m 0) 1233 m (-1)) 1236 m 0).1 1227 m = _
      rw [sf_f _ _ (by decide), sf_f _ _ (by decide), sf_f _ _ (by decide), sf_f _ _ (by decide), sf_f _ _ (by decide), sf_h]
      exact hT.1
    · rw [sa_a _ _ (by omega)]
      exact hT.2 i hi
  have W24 : Fw m σ σ24 := by
    rw [h24]
    refine ⟨fun f a q => ?_, fun a q => funext (fun i => sa_a _ _ (by omega))⟩
    show (zz_sf (zz_sf (zz_sf (zz_sf (zz_sf (zz_sf σ 1227 m (σ.1 1225 m)) 1225 m 0) 1228 m 0) 1232 m 0) 1233 m (-1)) 1236 m 0).1 f a = _
    rw [sf_1, if_neg (by omega), sf_1, if_neg (by omega), sf_1, if_neg (by omega), sf_1, if_neg (by omega), sf_1, if_neg (by omega), sf_1, if_neg (by omega)]
  have n24 : σ24.1 1228 m = 0 := by rw [h24]; show (zz_sf (zz_sf (zz_sf (zz_sf (zz_sf (zz_sf σ 1227 m (σ.1 1225 m)) 1225 m 0) 1228 m 0) 1232 m 0) 1233 m (-1)) 1236 m 0).1 1228 m = 0; rw [sf_f _ _ (by decide), sf_f _ _ (by decide), sf_f _ _ (by decide), sf_h]
  have f24 : σ24.1 1232 m = 0 := by rw [h24]; show (zz_sf (zz_sf (zz_sf (zz_sf (zz_sf (zz_sf σ 1227 m (σ.1 1225 m)) 1225 m 0) 1228 m 0) 1232 m 0) 1233 m (-1)) 1236 m 0).1 1232 m = 0; rw [sf_f _ _ (by decide), sf_f _ _ (by decide), sf_h]
  have p24 : σ24.1 1233 m = -1 := by rw [h24]; show (zz_sf (zz_sf (zz_sf (zz_sf (zz_sf (zz_sf σ 1227 m (σ.1 1225 m)) 1225 m 0) 1228 m 0) 1232 m 0) 1233 m (-1)) 1236 m 0).1 1233 m = -1; rw [sf_f _ _ (by decide), sf_h]
  have m24 : σ24.1 1236 m = 0 := by rw [h24]; show (zz_sf (zz_sf (zz_sf (zz_sf (zz_sf (zz_sf σ 1227 m (σ.1 1225 m)) 1225 m 0) 1228 m 0) 1232 m 0) 1233 m (-1)) 1236 m 0).1 1236 m = 0; rw [sf_h]
  have t24 : σ24.1 1225 m = 0 := by rw [h24]; show (zz_sf (zz_sf (zz_sf (zz_sf (zz_sf (zz_sf σ 1227 m (σ.1 1225 m)) 1225 m 0) 1228 m 0) 1232 m 0) 1233 m (-1)) 1236 m 0).1 1225 m = 0; rw [sf_f _ _ (by decide), sf_f _ _ (by decide), sf_f _ _ (by decide), sf_f _ _ (by decide), sf_h]
  have s24 : σ24.2 (m + 18) 0 = 0 := by rw [h24, sa_h]
  refine zz_gsn 3 rfl ?_
  refine zz_cv (n := 1) rfl rfl (t_Mo_advance (T := G.t) (k := zr_k0) T24 okT n24 (Nat.zero_le _) f24 p24) (Nat.le_of_ble_eq_true rfl) (Nat.le_of_ble_eq_true rfl) (Nat.le_of_ble_eq_true rfl) (fun r27 σ27 q27 => ?_)
  obtain ⟨rfl, R27, T27, g27⟩ := q27
  have h1e : zr_1 G.t = zr_ad G.t zr_k0 := by
    unfold zr_1 zr_adv
    exact if_pos (show zr_k0.f = 0 from rfl)
  rw [← h1e] at R27
  have ok1 : zr_ok G.t (zr_1 G.t) := by rw [h1e]; exact zr_ad_ok (Nat.zero_le _)
  have f1 : (zr_1 G.t).f = 0 := by rw [h1e]; exact (zr_ad_f G.t zr_k0).1
  have p1 : (zr_1 G.t).p = -1 := by rw [h1e]; exact (zr_ad_f G.t zr_k0).2
  have W27 := W24.tr g27.q.w
  have t27 : σ27.1 1225 m = 0 := (g27.1 _ _ (by omega)).trans t24
  have m27 : σ27.1 1236 m = 0 := (g27.1 _ _ (by omega)).trans m24
  have s27 : σ27.2 (m + 18) 0 = 0 := by rw [g27.2]; exact s24
  rcases Classical.em ((zr_1 G.t).t = 4) with t4 | t4
  · refine zz_gsn 1 rfl ?_
    refine zz_cv (n := 1) rfl rfl (t_Mo_good) (Nat.le_of_ble_eq_true rfl) (Nat.le_of_ble_eq_true rfl) (Nat.le_of_ble_eq_true rfl) (fun r29 σ29 q29 => ?_)
    obtain ⟨rfl, n29, rfl, e29⟩ := q29
    replace e29 : n29 = 1 := e29.elim (fun z => z.1) (fun z => absurd (R27.2.2.2.2.1.trans f1) z.2)
    refine zz_br rfl (fun h30 => absurd (e29.symm.trans h30) (by decide)) (fun h30 => ?_)
    refine zz_gsn 2 rfl ?_
    refine zz_br rfl (fun h33 => ?_) (fun h33 => absurd (R27.2.2.1.trans (rk_0.mpr t4)) h33)
    refine zz_gsn 1 rfl ?_
    refine zz_cv (n := 1) rfl rfl (t_Mo_good) (Nat.le_of_ble_eq_true rfl) (Nat.le_of_ble_eq_true rfl) (Nat.le_of_ble_eq_true rfl) (fun r81 σ81 q81 => ?_)
    obtain ⟨rfl, n81, rfl, e81⟩ := q81
    replace e81 : n81 = 1 := e81.elim (fun z => z.1) (fun z => absurd (R27.2.2.2.2.1.trans f1) z.2)
    refine zz_br rfl (fun h82 => ?_) (fun h82 => absurd (by first | exact h82 | exact Decidable.not_not.mp h82) (by rw [e81]; decide))
    refine zz_gsn 1 rfl ?_
    have GR := hG.rd (f := 0) (p := -1) W27 t27 (R27.2.2.2.2.1.trans f1) (R27.2.2.2.2.2.trans p1)
    refine zz_gsn 14 rfl ?_
    obtain ⟨σ99, h99⟩ : ∃ s, s = zz_sf (zz_sf (zz_sf (zz_sf σ27 1213 m 0) 1211 m (σ27.1 1234 m)) 1212 m (σ27.1 1235 m)) 1214 m (σ27.1 1236 m) := ⟨_, rfl⟩
    refine zz_sge (σ' := σ99) (by rw [h99]; rfl) ?_
    have u99 : ∀ f a, ¬ (a = m ∧ 1211 ≤ f ∧ f ≤ 1214) → σ99.1 f a = (σ27).1 f a := fun f a q => by rw [h99, sf_1, if_neg (by omega), sf_1, if_neg (by omega), sf_1, if_neg (by omega), sf_1, if_neg (by omega)]
    have v99 : σ99.2 = (σ27).2 := by rw [h99]; rfl
    have w11 : σ99.1 1211 m = (σ27.1 1234 m) := by rw [h99, sf_f _ _ (by decide), sf_f _ _ (by decide), sf_h]
    have w12 : σ99.1 1212 m = (σ27.1 1235 m) := by rw [h99, sf_f _ _ (by decide), sf_h]
    have w13 : σ99.1 1213 m = 0 := by rw [h99, sf_f _ _ (by decide), sf_f _ _ (by decide), sf_f _ _ (by decide), sf_h]
    have w14 : σ99.1 1214 m = (σ27.1 1236 m) := by rw [h99, sf_h]
    have z99 : σ99.2 (m + 10) 0 = 0 := by rw [v99]; exact GR.2.2.2.2.2
    have L99 : zz_F (A_rf m) (σ27) σ99 := fun a ha => ⟨fun f => u99 f a (fun z => ha (by unfold A_rf; omega)), fun i => by rw [v99]⟩
    refine zz_gsn 1 rfl ?_
    refine zz_cv (n := 1) rfl rfl (t_Mo_beginsHouse (m := m) (law := σ99.1 1211 m) (C := σ99.1 1212 m) (D := zr_D0) rfl rfl z99) (Nat.le_of_ble_eq_true rfl) (Nat.le_of_ble_eq_true rfl) (Nat.le_of_ble_eq_true rfl) (fun r101 σ101 q101 => ?_)
    obtain ⟨rfl, p101, f101⟩ := q101
    have m101 : σ101.1 1236 m = 0 := (f101.1 _ _ (by omega)).trans ((u99 _ _ (by omega)).trans m27)
    have x101 : σ101.1 1213 m = 0 := (f101.1 _ _ (by omega)).trans w13
    refine zz_gsn 5 rfl ?_
    rw [m101]
    refine zz_br rfl (fun h107 => ?_) (fun h107 => absurd h107 (by decide))
    refine zz_gsn 2 rfl ?_
    rw [x101]
    refine zz_ri rfl (Or.inl rfl) ?_
    have e : a_house G = (0, (zr_I0, [], G.o, 0, -1, G.m)) := if_pos t4
    rw [e]
    exact ⟨rfl, GR.h (Or.inl ⟨rfl, x101⟩) p101.2.2.2.2 (fun f hf => (f101.1 f m (by omega)).trans (u99 f m (by omega))) (fun a i ha => by rw [f101.2 a (by omega), v99]), (W27.F.tr L99).tr f101.F⟩
  · refine zz_gsn 1 rfl ?_
    refine zz_cv (n := 1) rfl rfl (t_Mo_good) (Nat.le_of_ble_eq_true rfl) (Nat.le_of_ble_eq_true rfl) (Nat.le_of_ble_eq_true rfl) (fun r29 σ29 q29 => ?_)
    obtain ⟨rfl, n29, rfl, e29⟩ := q29
    replace e29 : n29 = 1 := e29.elim (fun z => z.1) (fun z => absurd (R27.2.2.2.2.1.trans f1) z.2)
    refine zz_br rfl (fun h30 => absurd (e29.symm.trans h30) (by decide)) (fun h30 => ?_)
    refine zz_gsn 2 rfl ?_
    refine zz_br rfl (fun h33 => absurd (rk_0.mp (R27.2.2.1.symm.trans h33)) t4) (fun h33 => ?_)
    refine zz_gsn 1 rfl ?_
    refine zz_br rfl (fun h35 => absurd rfl h35) (fun h35 => ?_)
    refine zz_gsn 2 rfl ?_
    refine zz_cv (n := 2) rfl rfl (t_Mo_is (w := 18) (k := zr_1 G.t) okT T27 R27 ok1 (by decide)) (Nat.le_of_ble_eq_true rfl) (Nat.le_of_ble_eq_true rfl) (Nat.le_of_ble_eq_true rfl) (fun r38 σ38 q38 => ?_)
    obtain ⟨rfl, n38, rfl, e38⟩ := q38
    rw [show zr_is G.t 18 (zr_1 G.t) = zr_is G.t 0 (zr_1 G.t) from rfl] at e38
    refine zz_br rfl (fun h39 => ?_) (fun h39 => ?_)
    · refine zz_gsn 2 rfl ?_
      refine zz_cv (n := 2) rfl rfl (t_Mo_errs (x := 1) (k := zr_1 G.t) R27 T27) (Nat.le_of_ble_eq_true rfl) (Nat.le_of_ble_eq_true rfl) (Nat.le_of_ble_eq_true rfl) (fun r45 σ45 q45 => ?_)
      obtain ⟨rfl, R45, T45, g45⟩ := q45
      rw [← zr_wd_0 (w := 0) (e38.elim (fun z => absurd (z.1.symm.trans h39) (by decide)) (fun z => z.2))] at R45
      exact ho_46 hG ok t4 okT R45 T45 (W27.tr g45.q.w) ((g45.1 _ _ (by omega)).trans t27) ((g45.1 _ _ (by omega)).trans m27) (by rw [g45.2]; exact s27) ok1
    · refine zz_gsn 1 rfl ?_
      refine zz_cv (n := 1) rfl rfl (t_Mo_advance (T := G.t) (k := zr_1 G.t) T27 okT R27.1 ok1.2.1 R27.2.2.2.2.1 R27.2.2.2.2.2) (Nat.le_of_ble_eq_true rfl) (Nat.le_of_ble_eq_true rfl) (Nat.le_of_ble_eq_true rfl) (fun r41 σ41 q41 => ?_)
      obtain ⟨rfl, R41, T41, g41⟩ := q41
      have hw1 := e38.elim (fun z => z.2) (fun z => absurd z.1 h39)
      rw [show zr_ad G.t (zr_1 G.t) = zr_wd G.t 0 (zr_1 G.t) from ((if_pos hw1.2).trans (if_pos hw1.1)).symm] at R41
      refine zz_jp rfl ?_
      exact ho_46 hG ok t4 okT R41 T41 (W27.tr g41.q.w) ((g41.1 _ _ (by omega)).trans t27) ((g41.1 _ _ (by omega)).trans m27) (by rw [g41.2]; exact s27) ok1
