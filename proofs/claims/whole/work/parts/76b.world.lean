/-! the class: all deeds anew -/
def A_ta (t : Nat) : Nat → Prop := fun a => (t ≤ a ∧ a ≤ t + 16) ∨ (t + 25 ≤ a ∧ a < t + 445)
def zd_tw (D : zz_D) : Nat → Bool
  | 0 => false
  | j + 1 => zd_tw D j || decide ((D j).1 = 2 ∨ (D j).1 = 3)
theorem zd_tw_t {D : zz_D} : ∀ {k : Nat}, zd_two k D → zd_tw D k = true
  | 0, ⟨j, hj, _⟩ => absurd hj (Nat.not_lt_zero j)
  | k + 1, ⟨j, hj, h⟩ => by
    show (zd_tw D k || decide ((D k).1 = 2 ∨ (D k).1 = 3)) = true
    by_cases e : j = k
    · subst e
      rw [decide_eq_true h, Bool.or_true]
    · rw [zd_tw_t ⟨j, by omega, h⟩, Bool.true_or]
theorem zd_tw_f {D : zz_D} : ∀ {k : Nat}, ¬ zd_two k D → zd_tw D k = false
  | 0, _ => rfl
  | k + 1, h => by
    show (zd_tw D k || decide ((D k).1 = 2 ∨ (D k).1 = 3)) = false
    rw [zd_tw_f (fun ⟨j, hj, z⟩ => h ⟨j, by omega, z⟩), decide_eq_false (fun z => h ⟨k, by omega, z⟩), Bool.or_false]
theorem g_st {I : zz_I} (ok : i_ok I) {law : Int} (H0 : zz_H) (C : Int) (h : law = 2 ∨ ¬ zd_two I.k I.D) : hg_st law I.k I.D (fun j v => (hg H0 law C I.D j).Q v) := fun j hj => by
  obtain ⟨s1, s2, s3, s4, s5⟩ := ok.1.2.2.2 j hj
  refine ⟨s1, s2, fun z => ?_, fun z => ?_, s5⟩
  · rcases h with h | h
    · exact absurd h z
    · have z2 : ¬ ((I.D j).1 = 2 ∨ (I.D j).1 = 3) := fun y => h ⟨j, hj, y⟩
      omega
  · show 0 < ((hg H0 law C I.D j).Q (I.D j).2.1).1
    rw [hg_Q H0 law C I.law I.C I.D j]
    exact s4 z
theorem lp_csteps {X : zz_X} {t d k : Nat} {ho law0 C0 told law C : Int} {H0 : zz_H} {D : zz_D} {σ0 : zz_M} {Post : Option zz_V → zz_M → Prop} (hl : 0 ≤ law ∧ law ≤ 2) (hC : 2 ≤ C ∧ C ≤ 4) (hD : DF σ0 d ho law0 C0 told k D) (hho : ho ≠ 0) (hd : d + 3 < t ∨ t + 445 ≤ d) (hs : hg_st law k D (fun j v => (hg H0 law C D j).Q v))
    (kk : ∀ σ', zz_F (A_ta t) σ0 σ' → σ'.1 1000 t = mx (g_sp H0 law C D) k → Post (some (zI (zz_sum (g_sp H0 law C D) k))) σ') :
    ∀ (r j : Nat) (acc : Int) (u6 u7 u8 : zz_V) (σ : zz_M), j + r = k → acc = zz_sum (g_sp H0 law C D) j → σ.1 1000 t = mx (g_sp H0 law C D) j → 0 ≤ acc ∧ acc ≤ 200 * (j : Int) → σ.1 404 (t + 3) = law → σ.1 405 (t + 3) = C → (∀ v, v ≤ j → SP σ 0 0 (t + 18 + 7 * v) (hw (hg H0 law C D j) v)) → zz_F (A_ta t) σ0 σ → zz_G X 7 p_Trial_stepsOfAll 12 [zP 10 0 0 t, zP 2 0 0 d, zI law, zI C, zI acc, zI (j : Nat), u6, u7, u8] [] σ Post := by
  intro r
  induction r with
  | zero =>
    intro j acc u6 u7 u8 σ hj ha hm hb c4 c5 hS hF
    have e : j = k := hj
    subst e
    have hD1 : DF σ d ho law0 C0 told j D := hD.f hF (fun c y1 y2 z => by unfold A_ta at z; omega)
    refine zz_gsn 2 rfl ?_
    refine zz_br rfl (fun h14 => ?_) (fun h14 => ?_)
    · refine zz_gsn 1 rfl ?_
      refine zz_ri rfl (Or.inl rfl) ?_
      rw [ha]
      exact kk σ hF hm
    · refine zz_gsn 2 rfl ?_
      refine zz_cv (n := 2) rfl rfl (t_Deeds_hasDeed) (Nat.le_of_ble_eq_true rfl) (Nat.le_of_ble_eq_true rfl) (Nat.le_of_ble_eq_true rfl) (fun r17 σ17 q17 => ?_)
      obtain ⟨rfl, n17, rfl, e17⟩ := q17
      replace e17 := vd_of hD1.2.2.2.2 e17
      replace e17 : n17 = 0 := e17.elim (fun z => absurd z.2.2 (by omega)) (fun z => z.1)
      refine zz_br rfl (fun h18 => ?_) (fun h18 => absurd e17 h18)
      refine zz_gsn 1 rfl ?_
      refine zz_ri rfl (Or.inl rfl) ?_
      rw [ha]
      exact kk σ hF hm
  | succ r ih =>
    intro j acc u6 u7 u8 σ hj ha hm hb c4 c5 hS hF
    have hjk : j < k := by omega
    have hj60 : ¬ (60 : Int) ≤ ((j : Nat) : Int) := by have := hD.2.2.2.2.2.1; omega
    have hD1 : DF σ d ho law0 C0 told k D := hD.f hF (fun c y1 y2 z => by unfold A_ta at z; omega)
    obtain ⟨d5, d6, d7⟩ := id hD1.2.2.2.2
    obtain ⟨b1, b2, b3⟩ := d7 j hjk
    obtain ⟨s1, s2, s3, s4, s5⟩ := hs j hjk
    have hI := hg_inv hl hC d6 hs j (by omega)
    obtain ⟨i1, i2⟩ := hI.1 (D j).2.1 s1
    have i0 := i1.up s1
    have gs : g_sp H0 law C D j = w_steps law C (j : Nat) (D j).1 (h_x (D j) (hg H0 law C D j)) (hw (hg H0 law C D j) (D j).2.1) := rfl
    have g1 : hg H0 law C D (j + 1) = h_one law C j (D j) (hg H0 law C D j) := rfl
    have hv : vz ho k ((D j).2.1 : Nat) := ⟨hho, by omega, by omega⟩
    obtain ⟨H, hH⟩ : ∃ H, H = hg H0 law C D j := ⟨_, rfl⟩
    obtain ⟨e, he⟩ : ∃ e, e = D j := ⟨_, rfl⟩
    rw [← hH] at hS i0 gs g1
    rw [← he] at b1 b2 s1 s2 i0 gs g1 hv
    clear s3 s4 s5 i1 i2 hI b3 d7
    obtain ⟨q1, q2, -, -⟩ := q_deed (law := law) (C := C) (mk := -1) (mk' := (j : Nat)) (kind := e.1) (x := 0) (x' := h_x e H) s2 (w_eq.rf (W := hw H e.2.1))
    have su := w_steps_u (C := C) (mk := -1) (kind := e.1) (x := 0) i0 (by omega) s2
    have sp := w_steps_p (C := C) (mk := -1) (kind := e.1) (x := 0) i0 s2
    rw [← gs] at q2
    obtain ⟨S, hSS⟩ : ∃ S, S = w_steps law C (-1) e.1 0 (hw H e.2.1) := ⟨_, rfl⟩
    rw [← hSS] at su sp q2
    have xe : H.n ≤ (h_w law C j e H).n := (x_deed law C (j : Nat) e.1 (h_x e H) (hw H e.2.1) s2).1
    refine zz_gsn 2 rfl ?_
    refine zz_br rfl (fun h14 => absurd h14 hj60) (fun h14 => ?_)
    refine zz_gsn 2 rfl ?_
    refine zz_cv (n := 2) rfl rfl (t_Deeds_hasDeed) (Nat.le_of_ble_eq_true rfl) (Nat.le_of_ble_eq_true rfl) (Nat.le_of_ble_eq_true rfl) (fun r17 σ17 q17 => ?_)
    obtain ⟨rfl, n17, rfl, e17⟩ := q17
    replace e17 := vd_of hD1.2.2.2.2 e17
    replace e17 : n17 = 1 := e17.elim (fun z => z.1) (fun z => absurd ⟨by omega, by omega⟩ z.2)
    refine zz_br rfl (fun h18 => absurd (e17.symm.trans h18) (by decide)) (fun h18 => ?_)
    refine zz_gsn 3 rfl ?_
    refine zz_ald rfl (⟨by omega, by omega⟩) ?_
    refine zz_ste (st' := [zI (e.2.1 : Nat)]) (congrArg (fun z : Int => ([zI z] : List zz_V)) b2) ?_
    refine zz_gsn 6 rfl ?_
    rw [zw_s (n := j) (by omega)]
    refine zz_aad rfl (⟨by omega, by omega⟩) ?_
    refine zz_gsn 6 rfl ?_
    refine zz_cv (n := 2) rfl rfl (t_Deeds_hasVersion) (Nat.le_of_ble_eq_true rfl) (Nat.le_of_ble_eq_true rfl) (Nat.le_of_ble_eq_true rfl) (fun r36 σ36 q36 => ?_)
    obtain ⟨rfl, n36, rfl, e36⟩ := q36
    replace e36 := vz_of hD1 e36
    replace e36 : n36 = 1 := e36.elim (fun z => z.1) (fun z => absurd hv z.2)
    refine zz_br rfl (fun h37 => absurd (e36.symm.trans h37) (by decide)) (fun h37 => ?_)
    refine zz_gsn 1 rfl ?_
    refine zz_jp rfl ?_
    refine zz_aad rfl (⟨by omega, by omega⟩) ?_
    refine zz_cv (n := 2) rfl rfl (t_State_become (s := t + 18 + 7 * (j + 1)) (t := t + 18 + 7 * e.2.1) (Or.inr (by omega))) (Nat.le_of_ble_eq_true rfl) (Nat.le_of_ble_eq_true rfl) (Nat.le_of_ble_eq_true rfl) (fun r42 σ42 q42 => ?_)
    obtain ⟨rfl, p42, g42⟩ := q42
    have P42 : SP σ42 0 (t + 3) (t + 18 + 7 * (j + 1)) (hw H e.2.1) := p42 0 (t + 3) _ (fun z => absurd z (Nat.lt_irrefl 0)) (hS e.2.1 s1).z
    have b1' : σ42.2 (d + 1) j = e.1 := ((g42.F (d + 1) (by omega)).2 j).trans b1
    have m1 : σ42.1 404 (t + 3) = law := ((g42.F (t + 3) (by omega)).1 404).trans c4
    have m2 : σ42.1 405 (t + 3) = C := ((g42.F (t + 3) (by omega)).1 405).trans c5
    refine zz_gsn 6 rfl ?_
    refine zz_ald rfl (by omega) ?_
    refine zz_gsn 2 rfl ?_
    rw [show σ42.2 (d + 1) ((j : Nat) : Int).toNat = e.1 from b1']
    refine zz_cv (n := 5) rfl rfl (t_Mill_perform (mk := -1) (x := 0) (kind := e.1) P42 m1 m2 (by omega) s2 (fun z => absurd z (Nat.lt_irrefl 0)) (by decide) (by decide) (h_bds i0 (by omega)).1 (h_bds i0 (by omega)).2.1 (h_bds i0 (by omega)).2.2.1 (h_bds i0 (by omega)).2.2.2.1 (h_bds i0 (by omega)).2.2.2.2.1 (h_bds i0 (by omega)).2.2.2.2.2 (fun z => absurd z (Nat.lt_irrefl 0))) (Nat.le_of_ble_eq_true rfl) (Nat.le_of_ble_eq_true rfl) (Nat.le_of_ble_eq_true rfl) (fun r52 σ52 q52 => ?_)
    obtain ⟨rfl, p52, g52, -, -⟩ := q52
    have F52 : zz_F (fun a => (t + 18 + 7 * (j + 1) ≤ a ∧ a ≤ t + 18 + 7 * (j + 1) + 6) ∨ (t + 3 ≤ a ∧ a ≤ t + 9)) σ σ52 := (g42.F.mono (fun a z => Or.inl z)).tr (g52.F.mono (fun a z => z.elim Or.inl (fun z => Or.inr (by omega))))
    have n4 : σ52.1 404 (t + 3) = law := (g52.1 _ _ (by unfold zz_c1m; omega)).trans m1
    have n5 : σ52.1 405 (t + 3) = C := (g52.1 _ _ (by unfold zz_c1m; omega)).trans m2
    have nm : σ52.1 1000 t = mx (g_sp H0 law C D) j := ((F52 t (by omega)).1 1000).trans hm
    refine zz_gsn 5 rfl ?_
    refine zz_mth rfl (Nat.le_of_ble_eq_true rfl) (Nat.le_of_ble_eq_true rfl) ?_
    refine zz_gsn 6 rfl ?_
    refine zz_jp rfl ?_
    rw [← hSS, nm, zw_s (by omega), show zw (acc + S) = acc + S from zw_id (by omega) (by omega)]
    refine ih (j + 1) (acc + S) _ _ _ _ (by omega) ?_ ?_ (by clear ha hSS q2; omega) ((sf_f _ _ (by decide)).trans n4) ((sf_f _ _ (by decide)).trans n5) (fun v hv => ?_) ((hF.tr (F52.mono (fun a z => by unfold A_ta; omega))).tr (zz_F.sf (by unfold A_ta; omega)))
    · rw [ha, q2]
      rfl
    · rw [sf_h, q2]
      rfl
    · rw [g1]
      by_cases ev : v = j + 1
      · subst ev
        rw [hw_s]
        exact ((p52.q q1).z).f (A := fun a => a = t) (zz_F.sf rfl) (fun a y1 y2 z => by omega) (fun z => absurd z (Nat.lt_irrefl 0))
      · rw [hw_o _ _ _ _ _ ev]
        exact SP.up (W := hw H v) (((hS v (by omega)).f F52 (fun a y1 y2 z => by omega) (fun z => absurd z (Nat.lt_irrefl 0))).f (A := fun a => a = t) (zz_F.sf rfl) (fun a y1 y2 z => by omega) (fun z => absurd z (Nat.lt_irrefl 0))) rfl rfl xe
theorem t_Trial_stepsOfAll {X : zz_X} {σ : zz_M} {t d k : Nat} {ho law0 C0 told law C : Int} {H0 : zz_H} {D : zz_D} (hl : 0 ≤ law ∧ law ≤ 2) (hC : 2 ≤ C ∧ C ≤ 4) (hD : DF σ d ho law0 C0 told k D) (hho : ho ≠ 0) (hd : d + 3 < t ∨ t + 445 ≤ d) (hs : hg_st law k D (fun j v => (hg H0 law C D j).Q v)) (hS : SP σ 0 0 (t + 18) (hw h0 0)) : zz_T X 7 p_Trial_stepsOfAll [zP 10 0 0 t, zP 2 0 0 d, zI law, zI C] σ (fun r σ' => r = some (zI (zz_sum (g_sp H0 law C D) k)) ∧ σ'.1 1000 t = mx (g_sp H0 law C D) k ∧ zz_F (A_ta t) σ σ') := by
  refine zz_mk k_Trial_stepsOfAll o_Trial_stepsOfAll rfl rfl (Nat.le_of_ble_eq_true rfl) ?_
  show zz_G X 7 p_Trial_stepsOfAll 0 [zP 10 0 0 t, zP 2 0 0 d, zI law, zI C, zU, zU, zU, zU, zU] [] σ _
  refine zz_gsn 4 rfl ?_
  refine zz_cv (n := 3) rfl rfl (t_Mill_obey) (Nat.le_of_ble_eq_true rfl) (Nat.le_of_ble_eq_true rfl) (Nat.le_of_ble_eq_true rfl) (fun r4 σ4 q4 => ?_)
  obtain ⟨rfl, h4⟩ := q4
  refine zz_gsn 7 rfl ?_
  obtain ⟨σ5, h5⟩ : ∃ s, s = zz_sf σ4 1000 t 0 := ⟨_, rfl⟩
  refine zz_sge (σ' := σ5) h5 ?_
  have F5 : zz_F (fun a => a = t ∨ a = t + 3) σ σ5 := by
    rw [h5, h4]
    exact ((zz_F.sf (Or.inr rfl)).tr (zz_F.sf (Or.inr rfl))).tr (zz_F.sf (Or.inl rfl))
  have c4 : σ5.1 404 (t + 3) = law := by rw [h5, h4, sf_f _ _ (by decide), sf_f _ _ (by decide), sf_h]
  have c5 : σ5.1 405 (t + 3) = C := by rw [h5, h4, sf_f _ _ (by decide), sf_h]
  refine lp_csteps hl hC (hD.f F5 (fun c y1 y2 z => by omega)) hho hd hs (fun σ' a b => ⟨rfl, b, (F5.mono (fun a z => by unfold A_ta; omega)).tr a⟩) k 0 0 _ _ _ σ5 (Nat.zero_add k) rfl (by rw [h5]; exact sf_h _ _ _ _) ⟨Int.le_refl _, Int.le_refl _⟩ c4 c5 (fun v hv => ?_) zz_F.rf
  obtain rfl : v = 0 := by omega
  exact (hS.f F5 (fun a y1 y2 z => by omega) (fun z => absurd z (Nat.lt_irrefl 0))).up rfl rfl (Nat.zero_le _)
