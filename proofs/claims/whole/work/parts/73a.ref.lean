/-! the reference: back to an image -/
theorem RV.cg {σ : zz_M} {m j : Nat} {law C : Int} {H : zz_H} {D D' : zz_D} (h : RV σ m law C j H D) (e : ∀ i, i < j → D' i = D i) : RV σ m law C j H D' := ⟨h.1, h.2.1, fun i hi => by rw [e i hi]; exact h.2.2.1 i hi, h.2.2.2⟩
/-- what the beginning of a HOUSE may change -/
def Fb (m : Nat) (σ σ' : zz_M) : Prop := (∀ f a, ¬ (a = m ∧ (f = 1203 ∨ f = 1205 ∨ f = 1206 ∨ f = 1207 ∨ f = 1208 ∨ f = 1209 ∨ f = 1215)) → σ'.1 f a = σ.1 f a) ∧ ∀ a, ¬ (m + 1 ≤ a ∧ a ≤ m + 12) → σ'.2 a = σ.2 a
theorem Fb.tr {m : Nat} {σ σ1 σ2 : zz_M} (h : Fb m σ σ1) (h2 : Fb m σ1 σ2) : Fb m σ σ2 := ⟨fun f a q => (h2.1 f a q).trans (h.1 f a q), fun a q => (h2.2 a q).trans (h.2 a q)⟩
theorem Fm.b {m : Nat} {σ σ' : zz_M} (h : Fm m σ σ') : Fb m σ σ' := ⟨fun f a q => h.1 f a (fun z => q (by omega)), h.2⟩
theorem Fb.F {m : Nat} {σ σ' : zz_M} (h : Fb m σ σ') : zz_F (A_rf m) σ σ' := fun a ha => ⟨fun f => h.1 f a (fun z => ha (by unfold A_rf; omega)), fun i => by rw [h.2 a (fun z => ha (by unfold A_rf; omega))]⟩
theorem t_Mo_beginsHouse {X : zz_X} {σ : zz_M} {m : Nat} {law C : Int} {D : zz_D} (hl : σ.1 1211 m = law) (hC : σ.1 1212 m = C) (h10 : σ.2 (m + 10) 0 = 0) : zz_T X 3 p_Mo_beginsHouse [zP 12 0 0 m] σ (fun r σ' => r = none ∧ RV σ' m law C 0 h0 D ∧ Fb m σ σ') := by
  refine zz_mk k_Mo_beginsHouse o_Mo_beginsHouse rfl rfl (Nat.le_of_ble_eq_true rfl) ?_
  show zz_G X 3 p_Mo_beginsHouse 0 [zP 12 0 0 m] [] σ _
  refine zz_gsn 8 rfl ?_
  refine zz_cv (n := 2) rfl rfl (t_Mo_empties (t := 0) (by decide)) (Nat.le_of_ble_eq_true rfl) (Nat.le_of_ble_eq_true rfl) (Nat.le_of_ble_eq_true rfl) (fun r8 σ8 q8 => ?_)
  obtain ⟨rfl, c8, d8, e8⟩ := q8
  refine zz_gsn 4 rfl ?_
  refine zz_ast rfl (⟨by decide, by decide⟩) ?_
  refine zz_gsn 4 rfl ?_
  refine zz_ast rfl (⟨by decide, by decide⟩) ?_
  refine zz_gsn 8 rfl ?_
  refine zz_rv rfl rfl ?_
  have f1 : ∀ f, f ≠ 1203 → f ≠ 1215 → σ8.1 f m = σ.1 f m := fun f n1 n2 => by rw [d8, sf_f _ _ n2, sf_f _ _ n1]
  have a1 : σ8.1 1211 m = law := (f1 _ (by decide) (by decide)).trans hl
  have a2 : σ8.1 1212 m = C := (f1 _ (by decide) (by decide)).trans hC
  have a3 : σ8.1 1203 m = 0 := by rw [d8, sf_f _ _ (by decide), sf_h]
  have a4 : σ8.1 1215 m = 1 := by rw [d8, sf_h]
  have a5 : ∀ a, a ≠ m + 3 → σ8.2 a = σ.2 a := fun a ha => funext (fun i => e8 a i (fun z => ha z.1))
  obtain ⟨σZ, hZ⟩ : ∃ s, s = zz_sf (zz_sf (zz_sa (zz_sa σ8 (m + 12) 0 0) (m + 5) 0 (-1)) 1205 m law) 1206 m C := ⟨_, rfl⟩
  have eZ : zz_sf (zz_sf (zz_sa (zz_sa σ8 (m + 12) 0 0) (m + 5) 0 (-1)) 1205 m (σ8.1 1211 m)) 1206 m (σ8.1 1212 m) = σZ := by rw [a1, a2, hZ]
  have goal : RV σZ m law C 0 h0 D ∧ Fb m σ σZ := by
    have z2 : ∀ a, a ≠ m + 12 → a ≠ m + 5 → σZ.2 a = σ8.2 a := fun a n1 n2 => by rw [hZ]; exact funext (fun i => (sa_a _ _ n2).trans (sa_a _ _ n1))
    refine ⟨⟨⟨?_, ?_, ?_⟩, fun v hv => ?_, fun i hi => absurd hi (Nat.not_lt_zero i), ?_, ?_⟩, fun f a q => ?_, fun a q => ?_⟩
    · rw [hZ, sf_f _ _ (by decide), sf_h]
    · rw [hZ, sf_h]
    · rw [hZ, sf_f _ _ (by decide), sf_f _ _ (by decide)]; exact a4
    · have e : v = 0 := by omega
      subst e
      refine ⟨⟨fun k hk => ?_, fun j a b => ?_, ⟨?_, fun i hi => absurd hi (Nat.not_lt_zero i)⟩, fun k hk c hc => absurd hc List.not_mem_nil⟩, ?_, fun i hi => absurd hi (Nat.not_lt_zero i)⟩
      · rw [z2 (m + 3) (by omega) (by omega)]
        have := c8 k (by omega)
        rw [if_pos hk] at this
        exact this
      · rw [z2 (m + 3) (by omega) (by omega)]
        have := c8 j b
        rw [if_neg (by omega)] at this
        exact this
      · rw [hZ, sf_f _ _ (by decide), sf_f _ _ (by decide)]; exact a3
      · rw [hZ]; exact (sa_a _ _ (by omega)).trans (sa_h _ _ _ _)
    · rw [hZ]; exact sa_h _ _ _ _
    · rw [z2 _ (by omega) (by omega), a5 _ (by omega)]; exact h10
    · rw [hZ, sf_1, if_neg (by omega), sf_1, if_neg (by omega)]
      show σ8.1 f a = σ.1 f a
      rw [d8, sf_1, if_neg (by omega), sf_1, if_neg (by omega)]
    · rw [z2 a (by omega) (by omega), a5 a (by omega)]
  rw [← eZ] at goal
  exact ⟨rfl, goal.1, goal.2⟩
theorem zw_im {k v : Nat} (hk : k < 3) (hv : v < 61) : zw (zw (((188 * k : Nat) : Int) + 5) + zw (3 * (v : Int))) = ((188 * k + 5 + 3 * v : Nat) : Int) := by
  rw [zw_id (x := ((188 * k : Nat) : Int) + 5) (by omega) (by omega), zw_id (x := 3 * (v : Int)) (by omega) (by omega), zw_id (by omega) (by omega)]
  omega
theorem zw_c1 {k : Nat} (hk : k < 1000) : zw ((k : Int) + 1) = ((k + 1 : Nat) : Int) := by
  rw [zw_id (by omega) (by omega)]
  omega
theorem zw_c2 {k : Nat} (hk : k < 1000) : zw ((k : Int) + 2) = ((k + 2 : Nat) : Int) := by
  rw [zw_id (by omega) (by omega)]
  omega
theorem zw_c3 {k : Nat} (hk : k < 1000) : zw ((k : Int) + 3) = ((k + 3 : Nat) : Int) := by
  rw [zw_id (by omega) (by omega)]
  omega
theorem zw_c4 {k : Nat} (hk : k < 1000) : zw ((k : Int) + 4) = ((k + 4 : Nat) : Int) := by
  rw [zw_id (by omega) (by omega)]
  omega
theorem zw_188 {k : Nat} (hk : k < 3) : zw (188 * (k : Int)) = ((188 * k : Nat) : Int) := by
  rw [zw_id (by omega) (by omega)]
  omega
theorem i_fx_D {I : zz_I} (h : i_fx I) {j : Nat} (hj : j < I.k) : ((I.D j).1, (I.D j).2.1, h_x (I.D j) (hh I.law I.C I.D j)) = I.D j := by
  rw [← h j hj]
theorem lp_rback {X : zz_X} {m q : Nat} {J : zz_I} {u : Int} {σ0 : zz_M} {Post : Option zz_V → zz_M → Prop} (hq : q < 3) (ho : i_ok J) (hfx : i_fx J) (h1 : J.ho = 1) (hM : RMg σ0 m q J) (kk : ∀ σ', RV σ' m J.law J.C J.k (IH J) J.D → Fb m σ0 σ' → Post (some (zI 0)) σ') :
    ∀ (r j : Nat) (σ : zz_M), j + r = J.k → RV σ m J.law J.C j (hh J.law J.C J.D j) J.D → Fb m σ0 σ → zz_G X 7 p_Mo_back 55 [zP 12 0 0 m, zI u, zI ((188 * q : Nat) : Int), zI ((j + 1 : Nat) : Int)] [] σ Post := by
  have hk6 := ho.1.2.2.1
  have hC := (i_ho ho (by omega)).2
  have hM2 : (σ0.2 (m + 25) (188 * q + 4) = ((J.k + 1 : Nat) : Int)) ∧ ∀ j, j < J.k → σ0.2 (m + 25) (188 * q + 5 + 3 * (j + 1)) = ((J.D j).2.1 : Nat) ∧ σ0.2 (m + 25) (188 * q + 5 + 3 * (j + 1) + 1) = (J.D j).1 ∧ σ0.2 (m + 25) (188 * q + 5 + 3 * (j + 1) + 2) = (J.D j).2.2 := by
    rcases hM with ⟨a, -⟩ | ⟨-, a, b⟩
    · omega
    · exact ⟨a.2.2.2.2, b⟩
  obtain ⟨hM3, hM4⟩ := hM2
  intro r
  induction r with
  | zero =>
    intro j σ hj hV hF
    have e : j = J.k := hj
    subst e
    have e4 : σ.2 (m + 25) (188 * q + 4) = ((J.k + 1 : Nat) : Int) := by rw [hF.2 _ (by omega)]; exact hM3
    refine zz_gsn 6 rfl ?_
    rw [zw_c4 (by omega)]
    refine zz_ald rfl (⟨by omega, by omega⟩) ?_
    rw [Int.toNat_natCast, e4]
    refine zz_br rfl (fun h62 => ?_) (fun h62 => absurd h62 (by omega))
    refine zz_gsn 1 rfl ?_
    refine zz_ri rfl (Or.inl rfl) ?_
    exact kk σ hV hF
  | succ r ih =>
    intro j σ hj hV hF
    have e4 : σ.2 (m + 25) (188 * q + 4) = ((J.k + 1 : Nat) : Int) := by rw [hF.2 _ (by omega)]; exact hM3
    obtain ⟨m1, m2, m3⟩ := hM4 j (by omega)
    rw [← hF.2 (m + 25) (by omega)] at m1 m2 m3
    have hst := ho.1.2.2.2 j (by omega)
    have hin := h_inv (ho.1.le (show j ≤ J.k by omega))
    have hlt : ((j + 1 : Nat) : Int) < ((J.k + 1 : Nat) : Int) := by omega
    have hj1 : j + 1 < 61 := by omega
    clear hC
    refine zz_gsn 6 rfl ?_
    rw [zw_c4 (by omega)]
    refine zz_ald rfl (⟨by omega, by omega⟩) ?_
    rw [Int.toNat_natCast, e4]
    refine zz_br rfl (fun h62 => absurd h62 (by omega)) (fun h62 => ?_)
    refine zz_gsn 10 rfl ?_
    rw [zw_im hq hj1]
    refine zz_ald rfl (⟨by omega, by omega⟩) ?_
    rw [Int.toNat_natCast, m1]
    refine zz_gsn 11 rfl ?_
    rw [zw_im hq hj1, zw_c1 (by omega)]
    refine zz_ald rfl (⟨by omega, by omega⟩) ?_
    rw [Int.toNat_natCast, m2]
    refine zz_gsn 11 rfl ?_
    rw [zw_im hq hj1, zw_c2 (by omega)]
    refine zz_ald rfl (⟨by omega, by omega⟩) ?_
    rw [Int.toNat_natCast, m3]
    refine zz_cv (n := 4) rfl rfl (t_Mo_makes (v := (J.D j).2.1) (kind := (J.D j).1) (x := (J.D j).2.2) hV (by omega) hin (by have := (i_ho ho (by omega)).2; exact ⟨this.1, this.2.1⟩) hst) (Nat.le_of_ble_eq_true rfl) (Nat.le_of_ble_eq_true rfl) (Nat.le_of_ble_eq_true rfl) (fun r98 σ98 q98 => ?_)
    obtain ⟨rfl, p98, f98⟩ := q98
    refine zz_gsn 2 rfl ?_
    refine zz_jp rfl ?_
    rw [zw_s (by omega)]
    refine ih (j + 1) σ98 (by omega) (RV.cg p98 (fun i hi => ?_)) (hF.tr f98.b)
    by_cases e : i = j
    · subst e
      rw [zu_s]
      exact (i_fx_D hfx (by omega)).symm
    · rw [zu_n _ _ e]
theorem t_Mo_back {X : zz_X} {σ : zz_M} {m : Nat} {G : zz_J} {k : Int} (hG : RG σ m G) (ok : g_ok G) : zz_T X 7 p_Mo_back [zP 12 0 0 m, zI k] σ (fun r σ' => r = some (zI (a_back G k).1) ∧ RG σ' m (a_back G k).2 ∧ zz_F (A_rf m) σ σ') := by
  refine zz_mk k_Mo_back o_Mo_back rfl rfl (Nat.le_of_ble_eq_true rfl) ?_
  show zz_G X 7 p_Mo_back 0 [zP 12 0 0 m, zI k, zU, zU] [] σ _
  obtain ⟨hI, hT, hO, hF, hM, h10⟩ := id hG
  obtain ⟨⟨ho, hfx⟩, okt, oko, okm⟩ := id ok
  have hk6 := ho.1.2.2.1
  rcases zz_c3 (0 ≤ k ∧ k ≤ 2) ((G.m k.toNat).ho = 0) with hk | ⟨hk, hm0⟩ | ⟨hk, hm0⟩
  · refine zz_gsn 4 rfl ?_
    refine zz_cs (n := 3) rfl rfl (t_Mo_in) (Nat.le_of_ble_eq_true rfl) (Nat.le_of_ble_eq_true rfl) (Nat.le_of_ble_eq_true rfl) (fun r4 σ4 q4 => ?_)
    obtain ⟨rfl, n4, rfl, e4⟩ := q4
    refine zz_br rfl (fun h5 => absurd (show n4 = 0 by omega) h5) (fun h5 => ?_)
    refine zz_gsn 1 rfl ?_
    refine zz_ri rfl (Or.inl rfl) ?_
    rw [show a_back G k = (-2, G) from if_neg hk]
    exact ⟨rfl, hG, zz_F.rf⟩
  · obtain ⟨k, rfl⟩ : ∃ k' : Nat, k = (k' : Nat) := ⟨k.toNat, by omega⟩
    rw [Int.toNat_natCast] at hm0
    have hk3 : k < 3 := by omega
    have h4 : σ.2 (m + 25) (188 * k + 4) = 0 := by
      rcases hM k hk3 with ⟨-, z⟩ | ⟨z, -⟩
      · exact z
      · exact absurd (z.symm.trans hm0) (by decide)
    refine zz_gsn 4 rfl ?_
    refine zz_cs (n := 3) rfl rfl (t_Mo_in) (Nat.le_of_ble_eq_true rfl) (Nat.le_of_ble_eq_true rfl) (Nat.le_of_ble_eq_true rfl) (fun r4 σ4 q4 => ?_)
    obtain ⟨rfl, n4, rfl, e4⟩ := q4
    refine zz_br rfl (fun h5 => ?_) (fun h5 => absurd (by first | exact h5 | exact Decidable.not_not.mp h5) (show n4 ≠ 0 by omega))
    refine zz_gsn 3 rfl ?_
    rw [zw_188 hk3]
    refine zz_gsn 6 rfl ?_
    rw [zw_c4 (by omega)]
    refine zz_ald rfl (⟨by omega, by omega⟩) ?_
    rw [Int.toNat_natCast, h4]
    refine zz_br rfl (fun h18 => absurd rfl h18) (fun h18 => ?_)
    refine zz_gsn 1 rfl ?_
    refine zz_ri rfl (Or.inl rfl) ?_
    rw [show a_back G (k : Nat) = (-6, G) from (if_pos hk).trans (if_pos hm0)]
    exact ⟨rfl, hG, zz_F.rf⟩
  · obtain ⟨k, rfl⟩ : ∃ k' : Nat, k = (k' : Nat) := ⟨k.toNat, by omega⟩
    rw [Int.toNat_natCast] at hm0
    have hk3 : k < 3 := by omega
    obtain ⟨jo, jf⟩ := okm k hk3
    have hm1 : (G.m k).ho = 1 := (i_ho jo hm0).1
    have hMk := hM k hk3
    obtain ⟨-, ⟨g0, g1, g2, g3, g4⟩, g5⟩ := hMk.elim (fun z => absurd z.1 hm0) id
    refine zz_gsn 4 rfl ?_
    refine zz_cs (n := 3) rfl rfl (t_Mo_in) (Nat.le_of_ble_eq_true rfl) (Nat.le_of_ble_eq_true rfl) (Nat.le_of_ble_eq_true rfl) (fun r4 σ4 q4 => ?_)
    obtain ⟨rfl, n4, rfl, e4⟩ := q4
    refine zz_br rfl (fun h5 => ?_) (fun h5 => absurd (by first | exact h5 | exact Decidable.not_not.mp h5) (show n4 ≠ 0 by omega))
    refine zz_gsn 3 rfl ?_
    rw [zw_188 hk3]
    refine zz_gsn 6 rfl ?_
    rw [zw_c4 (by omega)]
    refine zz_ald rfl (⟨by omega, by omega⟩) ?_
    rw [Int.toNat_natCast, g4]
    refine zz_br rfl (fun h18 => ?_) (fun h18 => absurd (by first | exact h18 | exact Decidable.not_not.mp h18) (show (((G.m k).k + 1 : Nat) : Int) ≠ 0 by omega))
    refine zz_gsn 4 rfl ?_
    refine zz_ald rfl (⟨by omega, by omega⟩) ?_
    rw [Int.toNat_natCast, g0]
    refine zz_gsn 7 rfl ?_
    rw [zw_c1 (by omega)]
    refine zz_ald rfl (⟨by omega, by omega⟩) ?_
    rw [Int.toNat_natCast, sf_2, g1]
    refine zz_gsn 7 rfl ?_
    rw [zw_c2 (by omega)]
    refine zz_ald rfl (⟨by omega, by omega⟩) ?_
    rw [Int.toNat_natCast, sf_2, sf_2, g2]
    refine zz_gsn 7 rfl ?_
    rw [zw_c3 (by omega)]
    refine zz_ald rfl (⟨by omega, by omega⟩) ?_
    rw [Int.toNat_natCast, sf_2, sf_2, sf_2, g3]
    refine zz_gsn 1 rfl ?_
    obtain ⟨σ50, h50⟩ : ∃ s, s = zz_sf (zz_sf (zz_sf (zz_sf σ 1211 m (G.m k).law) 1212 m (G.m k).C) 1213 m (((G.m k).told + 1 : Nat) : Int)) 1214 m ((G.m k).told : Nat) := ⟨_, rfl⟩
    refine zz_sge (σ' := σ50) h50 ?_
    have l50 : σ50.1 1211 m = (G.m k).law := by rw [h50, sf_f _ _ (by decide), sf_f _ _ (by decide), sf_f _ _ (by decide), sf_h]
    have c50 : σ50.1 1212 m = (G.m k).C := by rw [h50, sf_f _ _ (by decide), sf_f _ _ (by decide), sf_h]
    have t50 : σ50.1 1213 m = (((G.m k).told + 1 : Nat) : Int) := by rw [h50, sf_f _ _ (by decide), sf_h]
    have u50 : σ50.1 1214 m = ((G.m k).told : Nat) := by rw [h50, sf_h]
    have s50 : σ50.2 = σ.2 := by rw [h50]; rfl
    have z50 : σ50.2 (m + 10) 0 = 0 := by rw [s50]; exact h10
    have o50 : ∀ f, ¬ (1211 ≤ f ∧ f ≤ 1214) → σ50.1 f m = σ.1 f m := fun f hf => by rw [h50, sf_f _ _ (by omega), sf_f _ _ (by omega), sf_f _ _ (by omega), sf_f _ _ (by omega)]
    have F50 : zz_F (A_rf m) σ σ50 := by
      rw [h50]
      have hm : A_rf m m := ⟨Nat.le_refl _, Nat.le_add_right _ _⟩
      exact (((zz_F.sf hm).tr (zz_F.sf hm)).tr (zz_F.sf hm)).tr (zz_F.sf hm)
    have M50 : RMg σ50 m k (G.m k) := (hM k hk3).e (fun i => by rw [s50])
    refine zz_gsn 1 rfl ?_
    refine zz_cv (n := 1) rfl rfl (t_Mo_beginsHouse (law := (G.m k).law) (C := (G.m k).C) (D := (G.m k).D) l50 c50 z50) (Nat.le_of_ble_eq_true rfl) (Nat.le_of_ble_eq_true rfl) (Nat.le_of_ble_eq_true rfl) (fun r52 σ52 q52 => ?_)
    obtain ⟨rfl, p52, f52⟩ := q52
    refine zz_gsn 2 rfl ?_
    rw [show a_back G (k : Nat) = (0, (i_fix (G.m k), G.2)) from (if_pos hk).trans (if_neg hm0)]
    have e0 : ∀ i, i < (G.m k).k → (i_fix (G.m k)).D i = (G.m k).D i := fun i hi => i_fx_D jf hi
    refine lp_rback (q := k) (J := G.m k) (σ0 := σ50) hk3 jo jf hm1 M50 (fun σ' V F => ?_) (G.m k).k 0 σ52 (Nat.zero_add _) p52 f52
    refine ⟨rfl, hG.h (Or.inr ⟨hm1, ⟨?_, ?_, ?_, ?_⟩, ?_⟩) V.2.2.2.2 (fun f hf => (F.1 f m (by omega)).trans (o50 f (by omega))) (fun a i ha => by rw [F.2 a (by omega), s50]), F50.tr F.F⟩
    · exact (F.1 _ _ (by omega)).trans l50
    · exact (F.1 _ _ (by omega)).trans c50
    · exact (F.1 _ _ (by omega)).trans t50
    · exact (F.1 _ _ (by omega)).trans u50
    · rw [IH_fix]
      exact V.cg e0
