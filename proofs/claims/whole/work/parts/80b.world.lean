/-! the class: ways, path -/
theorem lp_find {X : zz_X} {h k u v n : Nat} {ho law C told : Int} {D : zz_D} {σ0 : zz_M} {Post : Option zz_V → zz_M → Prop} (hD : DF σ0 (h + 1) ho law C told k D) (hok : zd_ok k D) (hv : v ≤ k) (hn : n ≤ dpp D v) (kk : ∀ (σ' : zz_M) (y : Int), (∀ s, s < n → σ'.2 (h + 17) (n - 1 - s) = ((zd_up D s v - 1 : Nat) : Int)) → zz_F (fun a => a = h + 17) σ0 σ' → zz_G X 4 p_History_findWay 35 [zP 3 0 0 h, zI (u : Nat), zI (v : Nat), zI (n : Nat), zI (zd_up D n v : Nat), zI y] [] σ' Post) :
    ∀ (r t : Nat) (σ : zz_M), t + r = n → (∀ s, s < t → σ.2 (h + 17) (n - 1 - s) = ((zd_up D s v - 1 : Nat) : Int)) → zz_F (fun a => a = h + 17) σ0 σ → zz_G X 4 p_History_findWay 16 [zP 3 0 0 h, zI (u : Nat), zI (v : Nat), zI (n : Nat), zI (zd_up D t v : Nat), zI (((n : Nat) : Int) - 1 - (t : Nat))] [] σ Post := by
  intro r
  have hk6 := hD.2.2.2.2.2.1
  have hdl : dpp D v ≤ v := zd_dep_le hok v v hv
  induction r with
  | zero =>
    intro t σ ht hw hF
    obtain rfl : t = n := ht
    refine zz_gsn 1 rfl ?_
    refine zz_br rfl (fun h17 => ?_) (fun h17 => absurd h17 (by omega))
    exact kk σ _ hw hF
  | succ r ih =>
    intro t σ ht hw hF
    have htn : t < n := by omega
    obtain ⟨q, hq⟩ : ∃ q : Nat, q = zd_up D t v := ⟨_, rfl⟩
    have q0 : 0 < q := by rw [hq]; exact zd_up_p hok hv (by omega)
    have q1 : q ≤ v := by rw [hq]; exact (zd_up_d hok hv t (by omega)).1
    have qs : zd_up D (t + 1) v = zd_B D (q - 1) := by rw [zd_up_s, hq]
    rw [← hq]
    have ei : ((n : Nat) : Int) - 1 - (t : Nat) = ((n - 1 - t : Nat) : Int) := by omega
    rw [ei]
    have hD1 := hD.f hF (fun c y1 y2 z => by omega)
    refine zz_gsn 1 rfl ?_
    refine zz_br rfl (fun h17 => absurd h17 (by omega)) (fun h17 => ?_)
    refine zz_gsn 2 rfl ?_
    refine zz_br rfl (fun h20 => absurd h20 (by omega)) (fun h20 => ?_)
    refine zz_gsn 6 rfl ?_
    rw [zw_p q0 (by omega)]
    refine zz_ast rfl (⟨by omega, by omega⟩) ?_
    refine zz_gsn 3 rfl ?_
    refine zz_cv (n := 2) rfl rfl (t_Deeds_baseOf ⟨by omega, by omega⟩) (Nat.le_of_ble_eq_true rfl) (Nat.le_of_ble_eq_true rfl) (Nat.le_of_ble_eq_true rfl) (fun r31 σ31 q31 => ?_)
    obtain ⟨rfl, n31, rfl, e31⟩ := q31
    replace e31 := dr_b (D := D) (u := q) (hD.f (hF.tr (zz_F.sa rfl)) (fun c y1 y2 z => by omega)).2.2.2.2 (by omega) e31
    rw [zd_bp D q0, ← qs] at e31
    rw [e31]
    refine zz_gsn 2 rfl ?_
    refine zz_jp rfl ?_
    rw [show zw (((n - 1 - t : Nat) : Int) + -1) = ((n : Nat) : Int) - 1 - ((t + 1 : Nat) : Int) from by rw [zw_id (by omega) (by omega)]; omega]
    refine ih (t + 1) _ (by omega) (fun s hs => ?_) (hF.tr (zz_F.sa rfl))
    by_cases es : s = t
    · subst es
      rw [← hq]
      exact sa_h _ _ _ _
    · exact (sa_i _ _ (by rw [Int.toNat_natCast]; omega)).trans (hw s (by omega))
theorem t_History_findWay {X : zz_X} {σ : zz_M} {h k u v : Nat} {ho law C told : Int} {D : zz_D} (hD : DF σ (h + 1) ho law C told k D) (hok : zd_ok k D) (hu : u ≤ k) (hv : v ≤ k) : zz_T X 4 p_History_findWay [zP 3 0 0 h, zI (u : Nat), zI (v : Nat)] σ (fun r σ' => r = some (zI (zd_wn D u v)) ∧ (∀ n : Nat, zd_wn D u v = (n : Nat) → ∀ i, i < n → σ'.2 (h + 17) i = (zd_w D v n i : Nat)) ∧ zz_F (fun a => a = h + 17) σ σ') := by
  refine zz_mk k_History_findWay o_History_findWay rfl rfl (Nat.le_of_ble_eq_true rfl) ?_
  show zz_G X 4 p_History_findWay 0 [zP 3 0 0 h, zI (u : Nat), zI (v : Nat), zU, zU, zU] [] σ _
  have hk6 := hD.2.2.2.2.2.1
  have hdv : dpp D v ≤ v := zd_dep_le hok v v hv
  have hdu : dpp D u ≤ u := zd_dep_le hok u u hu
  refine zz_gsn 3 rfl ?_
  refine zz_cv (n := 2) rfl rfl (t_Deeds_depth hD.2.2.2.2 hok hv) (Nat.le_of_ble_eq_true rfl) (Nat.le_of_ble_eq_true rfl) (Nat.le_of_ble_eq_true rfl) (fun r3 σ3 q3 => ?_)
  obtain ⟨rfl, rfl⟩ := q3
  refine zz_gsn 3 rfl ?_
  refine zz_cv (n := 2) rfl rfl (t_Deeds_depth hD.2.2.2.2 hok hu) (Nat.le_of_ble_eq_true rfl) (Nat.le_of_ble_eq_true rfl) (Nat.le_of_ble_eq_true rfl) (fun r7 σ7 q7 => ?_)
  obtain ⟨rfl, rfl⟩ := q7
  refine zz_gsn 8 rfl ?_
  rw [show zw (((zd_dep D v v : Nat) : Int) - ((zd_dep D u u : Nat) : Int)) = ((dpp D v : Nat) : Int) - ((dpp D u : Nat) : Int) from (show zw (((dpp D v : Nat) : Int) - ((dpp D u : Nat) : Int)) = ((dpp D v : Nat) : Int) - ((dpp D u : Nat) : Int) from zw_id (by omega) (by omega))]
  rcases Nat.lt_or_ge (dpp D v) (dpp D u) with hlt | hge
  · rw [show zw (((dpp D v : Nat) : Int) - ((dpp D u : Nat) : Int) - 1) = ((dpp D v : Nat) : Int) - ((dpp D u : Nat) : Int) - 1 from zw_id (by omega) (by omega)]
    have e : zd_wn D u v = -1 := if_neg (fun z => by omega)
    have ne : v ≠ u := fun z => by subst z; exact Nat.lt_irrefl _ hlt
    refine zz_gsn 1 rfl ?_
    refine zz_br rfl (fun h17 => ?_) (fun h17 => absurd h17 (by omega))
    refine zz_gsn 2 rfl ?_
    refine zz_br rfl (fun h37 => ?_) (fun h37 => absurd (by first | exact h37 | exact Decidable.not_not.mp h37) (fun z => ne (Int.ofNat_inj.mp z)))
    refine zz_gsn 1 rfl ?_
    refine zz_ri rfl (Or.inl rfl) ?_
    exact ⟨congrArg (fun z => some (zI z)) e.symm, fun n z => absurd (e.symm.trans z) (by omega), zz_F.rf⟩
  · have e0 : ((dpp D v : Nat) : Int) - ((dpp D u : Nat) : Int) = ((dpp D v - dpp D u : Nat) : Int) := by omega
    have e1 : zw (((dpp D v - dpp D u : Nat) : Int) - 1) = ((dpp D v - dpp D u : Nat) : Int) - 1 - ((0 : Nat) : Int) := by rw [zw_id (by omega) (by omega)]; omega
    rw [e0, e1]
    refine lp_find (n := dpp D v - dpp D u) hD hok hv (by omega) (fun σ' y w F => ?_) (dpp D v - dpp D u) 0 σ (Nat.zero_add _) (fun s hs => absurd hs (Nat.not_lt_zero s)) zz_F.rf
    refine zz_gsn 2 rfl ?_
    refine zz_br rfl (fun h37 => ?_) (fun h37 => ?_)
    · refine zz_gsn 1 rfl ?_
      refine zz_ri rfl (Or.inl rfl) ?_
      have e : zd_wn D u v = -1 := if_neg (fun z => h37 (congrArg (fun z : Nat => (z : Int)) z.2))
      exact ⟨congrArg (fun z => some (zI z)) e.symm, fun n z => absurd (e.symm.trans z) (by omega), F⟩
    · refine zz_gsn 1 rfl ?_
      refine zz_jp rfl ?_
      refine zz_ri rfl (Or.inl rfl) ?_
      have e : zd_wn D u v = ((dpp D v - dpp D u : Nat) : Int) := if_pos ⟨hge, Int.ofNat_inj.mp (by first | exact h37 | exact Decidable.not_not.mp h37)⟩
      refine ⟨congrArg (fun z => some (zI z)) e.symm, fun n z i hi => ?_, F⟩
      have z2 : n = dpp D v - dpp D u := Int.ofNat_inj.mp (z.symm.trans e)
      subst z2
      have w2 := w (dpp D v - dpp D u - 1 - i) (by omega)
      rw [show dpp D v - dpp D u - 1 - (dpp D v - dpp D u - 1 - i) = i from by omega] at w2
      exact w2
theorem t_History_wayDeed {X : zz_X} {σ : zz_M} {h i : Nat} (hi : i < 60) : zz_T X 1 p_History_wayDeed [zP 3 0 0 h, zI (i : Nat)] σ (fun r σ' => σ = σ' ∧ r = some (zI (σ.2 (h + 17) i))) := by
  refine zz_mk k_History_wayDeed o_History_wayDeed rfl rfl (Nat.le_of_ble_eq_true rfl) ?_
  show zz_G X 1 p_History_wayDeed 0 [zP 3 0 0 h, zI (i : Nat)] [] σ _
  refine zz_gsn 1 rfl ?_
  refine zz_br rfl (fun h1 => absurd h1 (by omega)) (fun h1 => ?_)
  refine zz_gsn 2 rfl ?_
  refine zz_br rfl (fun h4 => absurd h4 (by omega)) (fun h4 => ?_)
  refine zz_gsn 3 rfl ?_
  refine zz_ald rfl (⟨by omega, by omega⟩) ?_
  refine zz_jp rfl ?_
  refine zz_ri rfl (Or.inl rfl) ?_
  exact ⟨rfl, rfl⟩
def a_path (G : zz_J) (v i : Int) : Int := if vz G.I.ho G.I.k v ∧ 0 ≤ i then (if i ≤ (dpp G.I.D v.toNat : Nat) then ((zd_up G.I.D (dpp G.I.D v.toNat - i.toNat) v.toNat : Nat) : Int) else -1) else -2
def g_ws (G : zz_J) (v : Nat) (j : Nat) : Int := (gW G).sp (zd_up G.I.D j v - 1)
def a_along (G : zz_J) (v w : Int) : Int := if vz G.I.ho G.I.k v ∧ 0 ≤ w ∧ w ≤ 2 then (if w = 0 then (dpp G.I.D v.toNat : Nat) else if w = 1 then zz_sum (g_ws G v.toNat) (dpp G.I.D v.toNat) else mx (g_ws G v.toNat) (dpp G.I.D v.toNat)) else -2
theorem i_zd {I : zz_I} (ho : i_ok I) : zd_ok I.k I.D := h_ok.zd ho.1
theorem t_TQ_path {X : zz_X} {σ : zz_M} {b : Nat} {B : Int} {G : zz_J} {v i : Int} (hG : CG σ b B G) (ok : g_ok G) : zz_T X 5 p_TQ_path [zP 11 0 0 b, zI v, zI i] σ (fun r σ' => r = some (zI (a_path G v i)) ∧ CG σ' b B G ∧ zz_F (A_cl b) σ σ') := by
  refine zz_mk k_TQ_path o_TQ_path rfl rfl (Nat.le_of_ble_eq_true rfl) ?_
  show zz_G X 5 p_TQ_path 0 [zP 11 0 0 b, zI v, zI i, zU] [] σ _
  obtain ⟨hH, hBt, hBo, hft, him, hmk, htr⟩ := id hG
  obtain ⟨⟨ho, hfx⟩, okt, oko, okm⟩ := id ok
  obtain ⟨hD, hV⟩ := id hH
  obtain ⟨d1, d2, d3, d4, dR⟩ := id hD
  obtain ⟨d5, d6, d7⟩ := id dR
  rcases (show (vz G.I.ho G.I.k v ∧ 0 ≤ i) ∨ (¬ vz G.I.ho G.I.k v ∧ ¬ (vz G.I.ho G.I.k v ∧ 0 ≤ i)) ∨ (vz G.I.ho G.I.k v ∧ ¬ (vz G.I.ho G.I.k v ∧ 0 ≤ i)) from by rcases Classical.em (vz G.I.ho G.I.k v) with h | h <;> rcases Classical.em (vz G.I.ho G.I.k v ∧ 0 ≤ i) with h2 | h2 <;> first | exact Or.inl h2 | exact Or.inr (Or.inl ⟨h, h2⟩) | exact Or.inr (Or.inr ⟨h, h2⟩)) with hv | ⟨hvv, hv⟩ | ⟨hvv, hv⟩
  · obtain ⟨hvv, hi0⟩ := id hv
    obtain ⟨w, rfl⟩ : ∃ w : Nat, v = (w : Nat) := ⟨v.toNat, by omega⟩
    obtain ⟨z0, w1, w2⟩ := id hvv
    have hw1 : w ≤ G.I.k := by omega
    obtain ⟨hS, -⟩ := hV.2.2.1 w hw1
    have hCC := (i_ho ho z0).2
    have hI0 := ((h_inv ho.1).1 w hw1).1
    have zok := i_zd ho
    have hdl : dpp G.I.D w ≤ w := zd_dep_le zok w w hw1
    refine zz_gsn 4 rfl ?_
    refine zz_cv (n := 2) rfl rfl (t_Deeds_hasVersion) (Nat.le_of_ble_eq_true rfl) (Nat.le_of_ble_eq_true rfl) (Nat.le_of_ble_eq_true rfl) (fun r4 σ4 q4 => ?_)
    obtain ⟨rfl, n4, rfl, e4⟩ := q4
    replace e4 := vz_of hD e4
    replace e4 : n4 = 1 := e4.elim (fun z => z.1) (fun z => absurd hvv z.2)
    refine zz_br rfl (fun h5 => absurd (e4.symm.trans h5) (by decide)) (fun h5 => ?_)
    refine zz_gsn 1 rfl ?_
    refine zz_br rfl (fun h7 => ?_) (fun h7 => absurd h7 (by omega))
    refine zz_gsn 4 rfl ?_
    refine zz_cv (n := 3) rfl rfl (t_History_findWay (h := b + 11) (u := 0) (v := w) hD zok (Nat.zero_le _) hw1) (Nat.le_of_ble_eq_true rfl) (Nat.le_of_ble_eq_true rfl) (Nat.le_of_ble_eq_true rfl) (fun r14 σ14 q14 => ?_)
    obtain ⟨rfl, p14, g14⟩ := q14
    rw [zd_wn_0 zok hw1] at p14
    replace p14 := p14 (dpp G.I.D w) rfl
    rw [zd_wn_0 zok hw1]
    refine zz_gsn 2 rfl ?_
    refine zz_br rfl (fun h17 => ?_) (fun h17 => ?_)
    · refine zz_gsn 2 rfl ?_
      refine zz_br rfl (fun h22 => ?_) (fun h22 => ?_)
      · refine zz_gsn 1 rfl ?_
        refine zz_ri rfl (Or.inl rfl) ?_
        refine ⟨congrArg (fun z => some (zI z)) (Eq.trans ?_ (if_pos hv).symm), hG.s (g14.mono (fun a z => by unfold A_cs; omega)), g14.mono (fun a z => by unfold A_cl; omega)⟩
        show _ = if i ≤ ((dpp G.I.D w : Nat) : Int) then ((zd_up G.I.D (dpp G.I.D w - i.toNat) w : Nat) : Int) else -1
        rw [if_neg (by omega)]
      · refine zz_gsn 5 rfl ?_
        rw [show zw (i - 1) = ((i.toNat - 1 : Nat) : Int) from by rw [zw_id (by omega) (by omega)]; omega]
        refine zz_cv (n := 2) rfl rfl (t_History_wayDeed (i := i.toNat - 1) (by omega)) (Nat.le_of_ble_eq_true rfl) (Nat.le_of_ble_eq_true rfl) (Nat.le_of_ble_eq_true rfl) (fun r28 σ28 q28 => ?_)
        obtain ⟨rfl, rfl⟩ := q28
        rw [p14 (i.toNat - 1) (by omega)]
        refine zz_gsn 2 rfl ?_
        refine zz_jp rfl ?_
        refine zz_ri rfl (Or.inl rfl) ?_
        refine ⟨congrArg (fun z => some (zI z)) (Eq.trans ?_ (if_pos hv).symm), hG.s (g14.mono (fun a z => by unfold A_cs; omega)), g14.mono (fun a z => by unfold A_cl; omega)⟩
        show _ = if i ≤ ((dpp G.I.D w : Nat) : Int) then ((zd_up G.I.D (dpp G.I.D w - i.toNat) w : Nat) : Int) else -1
        rw [if_pos (by omega)]
        have e : zd_w G.I.D w (dpp G.I.D w) (i.toNat - 1) = zd_up G.I.D (dpp G.I.D w - i.toNat) w - 1 := by
          unfold zd_w
          rw [show dpp G.I.D w - 1 - (i.toNat - 1) = dpp G.I.D w - i.toNat from by omega]
        have hp := zd_up_p zok hw1 (t := dpp G.I.D w - i.toNat) (by omega)
        have hl := (zd_up_d zok hw1 (dpp G.I.D w - i.toNat) (by omega)).1
        rw [e, zw_id (by omega) (by omega)]
        omega
    · refine zz_gsn 1 rfl ?_
      refine zz_ri rfl (Or.inl rfl) ?_
      refine ⟨congrArg (fun z => some (zI z)) (Eq.trans ?_ (if_pos hv).symm), hG.s (g14.mono (fun a z => by unfold A_cs; omega)), g14.mono (fun a z => by unfold A_cl; omega)⟩
      show _ = if i ≤ ((dpp G.I.D w : Nat) : Int) then ((zd_up G.I.D (dpp G.I.D w - i.toNat) w : Nat) : Int) else -1
      rw [if_pos (by omega), show dpp G.I.D w - i.toNat = dpp G.I.D w from by omega, zd_up_z zok hw1]
      rfl
  · refine zz_gsn 4 rfl ?_
    refine zz_cv (n := 2) rfl rfl (t_Deeds_hasVersion) (Nat.le_of_ble_eq_true rfl) (Nat.le_of_ble_eq_true rfl) (Nat.le_of_ble_eq_true rfl) (fun r4 σ4 q4 => ?_)
    obtain ⟨rfl, n4, rfl, e4⟩ := q4
    replace e4 := vz_of hD e4
    replace e4 : n4 = 0 := e4.elim (fun z => absurd z.2 hvv) (fun z => z.1)
    refine zz_br rfl (fun h5 => ?_) (fun h5 => absurd e4 h5)
    refine zz_gsn 1 rfl ?_
    refine zz_ri rfl (Or.inl rfl) ?_
    exact ⟨congrArg (fun z => some (zI z)) (if_neg hv).symm, hG, zz_F.rf⟩
  · refine zz_gsn 4 rfl ?_
    refine zz_cv (n := 2) rfl rfl (t_Deeds_hasVersion) (Nat.le_of_ble_eq_true rfl) (Nat.le_of_ble_eq_true rfl) (Nat.le_of_ble_eq_true rfl) (fun r4 σ4 q4 => ?_)
    obtain ⟨rfl, n4, rfl, e4⟩ := q4
    replace e4 := vz_of hD e4
    replace e4 : n4 = 1 := e4.elim (fun z => z.1) (fun z => absurd hvv z.2)
    refine zz_br rfl (fun h5 => absurd (e4.symm.trans h5) (by decide)) (fun h5 => ?_)
    refine zz_gsn 1 rfl ?_
    refine zz_br rfl (fun h7 => absurd ⟨hvv, by omega⟩ hv) (fun h7 => ?_)
    refine zz_gsn 1 rfl ?_
    refine zz_ri rfl (Or.inl rfl) ?_
    exact ⟨congrArg (fun z => some (zI z)) (if_neg hv).symm, hG, zz_F.rf⟩
