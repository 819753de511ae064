/-! the reference: path, along -/
theorem lp_deep {X : zz_X} {m k v : Nat} {D : zz_D} {σ : zz_M} {Post : Option zz_V → zz_M → Prop} (hok : zd_ok k D) (hv : v ≤ k) (hk : k ≤ 60) (hB : ∀ u, 0 < u → u ≤ k → σ.2 (m + 5) u = ((zd_B D (u - 1) : Nat) : Int)) (kk : Post (some (zI (dpp D v : Nat))) σ) :
    ∀ (r t : Nat), t + r = dpp D v → zz_G X 1 p_Mo_deepOf 4 [zP 12 0 0 m, zI (v : Nat), zI (t : Nat), zI (zd_up D t v : Nat)] [] σ Post := by
  intro r
  induction r with
  | zero =>
    intro t ht
    obtain rfl : t = dpp D v := ht
    rw [zd_up_z hok hv]
    refine zz_gsn 1 rfl ?_
    refine zz_br rfl (fun h5 => ?_) (fun h5 => absurd h5 (by decide))
    refine zz_gsn 1 rfl ?_
    refine zz_ri rfl (Or.inl rfl) ?_
    exact kk
  | succ r ih =>
    intro t ht
    have htn : t < dpp D v := by omega
    have hdl : dpp D v ≤ v := zd_dep_le hok v v hv
    obtain ⟨q, hq⟩ : ∃ q : Nat, q = zd_up D t v := ⟨_, rfl⟩
    have q0 : 0 < q := by rw [hq]; exact zd_up_p hok hv (by omega)
    have q1 : q ≤ v := by rw [hq]; exact (zd_up_d hok hv t (by omega)).1
    have qs : zd_up D (t + 1) v = zd_B D (q - 1) := by rw [zd_up_s, hq]
    have qb : σ.2 (m + 5) q = ((zd_up D (t + 1) v : Nat) : Int) := (hB q q0 (by omega)).trans (by rw [qs])
    rw [← hq]
    refine zz_gsn 1 rfl ?_
    refine zz_br rfl (fun h5 => absurd h5 (by omega)) (fun h5 => ?_)
    refine zz_gsn 4 rfl ?_
    refine zz_ald rfl (⟨by omega, by omega⟩) ?_
    refine zz_gsn 1 rfl ?_
    refine zz_jp rfl ?_
    rw [zw_s (by omega), show σ.2 (m + 5) ((q : Nat) : Int).toNat = ((zd_up D (t + 1) v : Nat) : Int) from qb]
    exact ih (t + 1) (by omega)
theorem t_Mo_deepOf {X : zz_X} {σ : zz_M} {m k v : Nat} {D : zz_D} (hok : zd_ok k D) (hv : v ≤ k) (hk : k ≤ 60) (hB : ∀ u, 0 < u → u ≤ k → σ.2 (m + 5) u = ((zd_B D (u - 1) : Nat) : Int)) : zz_T X 1 p_Mo_deepOf [zP 12 0 0 m, zI (v : Nat)] σ (fun r σ' => σ = σ' ∧ r = some (zI (dpp D v : Nat))) := by
  refine zz_mk k_Mo_deepOf o_Mo_deepOf rfl rfl (Nat.le_of_ble_eq_true rfl) ?_
  show zz_G X 1 p_Mo_deepOf 0 [zP 12 0 0 m, zI (v : Nat), zU, zU] [] σ _
  refine zz_gsn 4 rfl ?_
  exact lp_deep hok hv hk hB ⟨rfl, rfl⟩ (dpp D v) 0 (Nat.zero_add _)
theorem lp_rpath {X : zz_X} {m k v n : Nat} {i : Int} {D : zz_D} {σ : zz_M} {Post : Option zz_V → zz_M → Prop} (hok : zd_ok k D) (hv : v ≤ k) (hk : k ≤ 60) (hB : ∀ u, 0 < u → u ≤ k → σ.2 (m + 5) u = ((zd_B D (u - 1) : Nat) : Int)) (hn : n ≤ dpp D v) (kk : Post (some (zI (zd_up D n v : Nat))) σ) :
    ∀ (r t : Nat), t + r = n → zz_G X 3 p_Mo_path 22 [zP 12 0 0 m, zI (v : Nat), zI i, zI (n : Nat), zI (zd_up D t v : Nat), zI (t : Nat)] [] σ Post := by
  intro r
  induction r with
  | zero =>
    intro t ht
    obtain rfl : t = n := ht
    refine zz_gsn 2 rfl ?_
    refine zz_br rfl (fun h24 => ?_) (fun h24 => absurd h24 (by omega))
    refine zz_gsn 1 rfl ?_
    refine zz_ri rfl (Or.inl rfl) ?_
    exact kk
  | succ r ih =>
    intro t ht
    have htn : t < dpp D v := by omega
    have hdl : dpp D v ≤ v := zd_dep_le hok v v hv
    obtain ⟨q, hq⟩ : ∃ q : Nat, q = zd_up D t v := ⟨_, rfl⟩
    have q0 : 0 < q := by rw [hq]; exact zd_up_p hok hv (by omega)
    have q1 : q ≤ v := by rw [hq]; exact (zd_up_d hok hv t (by omega)).1
    have qs : zd_up D (t + 1) v = zd_B D (q - 1) := by rw [zd_up_s, hq]
    have qb : σ.2 (m + 5) q = ((zd_up D (t + 1) v : Nat) : Int) := (hB q q0 (by omega)).trans (by rw [qs])
    rw [← hq]
    refine zz_gsn 2 rfl ?_
    refine zz_br rfl (fun h24 => absurd h24 (by omega)) (fun h24 => ?_)
    refine zz_gsn 3 rfl ?_
    refine zz_ald rfl (⟨by omega, by omega⟩) ?_
    refine zz_gsn 2 rfl ?_
    refine zz_jp rfl ?_
    rw [zw_s (by omega), show σ.2 (m + 5) ((q : Nat) : Int).toNat = ((zd_up D (t + 1) v : Nat) : Int) from qb]
    exact ih (t + 1) (by omega)
theorem t_Mo_path {X : zz_X} {σ : zz_M} {m : Nat} {G : zz_J} {v i : Int} (hG : RG σ m G) (ok : g_ok G) (hi : i ≤ 2147483647) : zz_T X 3 p_Mo_path [zP 12 0 0 m, zI v, zI i] σ (fun r σ' => σ = σ' ∧ r = some (zI (a_path G v i))) := by
  refine zz_mk k_Mo_path o_Mo_path rfl rfl (Nat.le_of_ble_eq_true rfl) ?_
  show zz_G X 3 p_Mo_path 0 [zP 12 0 0 m, zI v, zI i, zU, zU, zU] [] σ _
  obtain ⟨hI, hT, hO, hF, hM, h10⟩ := id hG
  obtain ⟨⟨ho, hfx⟩, okt, oko, okm⟩ := id ok
  have hk6 := ho.1.2.2.1
  rcases Classical.em (vz G.I.ho G.I.k v ∧ 0 ≤ i) with hv | hv
  · obtain ⟨hvv, hi0⟩ := id hv
    obtain ⟨w, rfl⟩ : ∃ w : Nat, v = (w : Nat) := ⟨v.toNat, by omega⟩
    obtain ⟨z0, w1, w2⟩ := id hvv
    obtain ⟨hone, ⟨q1, q2, q3, q4⟩, hV⟩ := ri_y hI z0
    obtain ⟨⟨r1, r2, r3⟩, r4, r5, r6, r7⟩ := id hV
    have hw1 : w ≤ G.I.k := by omega
    obtain ⟨hS, hq1, hq2⟩ := r4 w hw1
    have zok := i_zd ho
    have hdl : dpp G.I.D w ≤ w := zd_dep_le zok w w hw1
    have hB : ∀ u, 0 < u → u ≤ G.I.k → σ.2 (m + 5) u = ((zd_B G.I.D (u - 1) : Nat) : Int) := fun u u0 u1 => by
      have z := (r5 (u - 1) (by omega)).2.1
      rw [show u - 1 + 1 = u from by omega] at z
      exact z
    have hSp : ∀ u, 0 < u → u ≤ G.I.k → σ.2 (m + 8) u = (gW G).sp (u - 1) := fun u u0 u1 => by
      have z := (r5 (u - 1) (by omega)).1.1
      rw [show u - 1 + 1 = u from by omega] at z
      exact z
    refine zz_gsn 2 rfl ?_
    refine zz_cv (n := 2) rfl rfl (t_Mo_isVersion) (Nat.le_of_ble_eq_true rfl) (Nat.le_of_ble_eq_true rfl) (Nat.le_of_ble_eq_true rfl) (fun r2 σ2 q2 => ?_)
    obtain ⟨rfl, n2, rfl, e2⟩ := q2
    replace e2 := rv_of hI ho e2
    replace e2 : n2 = 1 := e2.elim (fun z => z.1) (fun z => absurd hvv z.2)
    refine zz_br rfl (fun h3 => absurd h3 (show n2 ≠ 0 by omega)) (fun h3 => ?_)
    refine zz_gsn 1 rfl ?_
    refine zz_br rfl (fun h5 => ?_) (fun h5 => absurd h5 (by omega))
    refine zz_gsn 2 rfl ?_
    refine zz_cv (n := 2) rfl rfl (t_Mo_deepOf zok hw1 hk6 hB) (Nat.le_of_ble_eq_true rfl) (Nat.le_of_ble_eq_true rfl) (Nat.le_of_ble_eq_true rfl) (fun r10 σ10 q10 => ?_)
    obtain ⟨rfl, rfl⟩ := q10
    refine zz_gsn 2 rfl ?_
    rw [show zw (((dpp G.I.D w : Nat) : Int) - i) = ((dpp G.I.D w : Nat) : Int) - i from zw_id (by omega) (by omega)]
    refine zz_gsn 2 rfl ?_
    refine zz_br rfl (fun h15 => ?_) (fun h15 => ?_)
    · have en : ((dpp G.I.D w : Nat) : Int) - i = ((dpp G.I.D w - i.toNat : Nat) : Int) := by omega
      rw [en]
      refine zz_gsn 4 rfl ?_
      exact lp_rpath zok hw1 hk6 hB (by omega) ⟨rfl, congrArg (fun z => some (zI z)) (Eq.trans (if_pos (show i ≤ ((dpp G.I.D w : Nat) : Int) by omega)).symm (if_pos hv).symm)⟩ (dpp G.I.D w - i.toNat) 0 (Nat.zero_add _)
    · refine zz_gsn 1 rfl ?_
      refine zz_ri rfl (Or.inl rfl) ?_
      exact ⟨rfl, congrArg (fun z => some (zI z)) (Eq.trans (if_neg (show ¬ i ≤ ((dpp G.I.D w : Nat) : Int) by omega)).symm (if_pos hv).symm)⟩
  · refine zz_gsn 2 rfl ?_
    refine zz_cv (n := 2) rfl rfl (t_Mo_isVersion) (Nat.le_of_ble_eq_true rfl) (Nat.le_of_ble_eq_true rfl) (Nat.le_of_ble_eq_true rfl) (fun r2 σ2 q2 => ?_)
    obtain ⟨rfl, n2, rfl, e2⟩ := q2
    replace e2 := rv_of hI ho e2
    refine zz_br rfl (fun h3 => ?_) (fun h3 => ?_)
    · refine zz_gsn 1 rfl ?_
      refine zz_ri rfl (Or.inl rfl) ?_
      exact ⟨rfl, congrArg (fun z => some (zI z)) (if_neg hv).symm⟩
    · refine zz_gsn 1 rfl ?_
      refine zz_br rfl (fun h5 => absurd ⟨e2.elim (fun z => z.2) (fun z => absurd z.1 h3), by omega⟩ hv) (fun h5 => ?_)
      refine zz_gsn 1 rfl ?_
      refine zz_ri rfl (Or.inl rfl) ?_
      exact ⟨rfl, congrArg (fun z => some (zI z)) (if_neg hv).symm⟩
theorem lp_ralong {X : zz_X} {m k v : Nat} {x : Int} {D : zz_D} {f : Nat → Int} {σ : zz_M} {Post : Option zz_V → zz_M → Prop} (hok : zd_ok k D) (hv : v ≤ k) (hk : k ≤ 60) (hB : ∀ u, 0 < u → u ≤ k → σ.2 (m + 5) u = ((zd_B D (u - 1) : Nat) : Int)) (hSp : ∀ u, 0 < u → u ≤ k → σ.2 (m + 8) u = f (u - 1)) (hf : ∀ i, i < k → 0 ≤ f i ∧ f i ≤ 200) (kk : ∀ y, zz_G X 3 p_Mo_along 40 [zP 12 0 0 m, zI (v : Nat), zI x, zI (zz_sum (fun j => f (zd_up D j v - 1)) (dpp D v)), zI (mx (fun j => f (zd_up D j v - 1)) (dpp D v)), zI y] [] σ Post) :
    ∀ (r t : Nat), t + r = dpp D v → zz_G X 3 p_Mo_along 18 [zP 12 0 0 m, zI (v : Nat), zI x, zI (zz_sum (fun j => f (zd_up D j v - 1)) t), zI (mx (fun j => f (zd_up D j v - 1)) t), zI (zd_up D t v : Nat)] [] σ Post := by
  intro r
  induction r with
  | zero =>
    intro t ht
    obtain rfl : t = dpp D v := ht
    rw [zd_up_z hok hv]
    refine zz_gsn 1 rfl ?_
    refine zz_br rfl (fun h19 => ?_) (fun h19 => absurd h19 (by decide))
    exact kk _
  | succ r ih =>
    intro t ht
    have htn : t < dpp D v := by omega
    have hdl : dpp D v ≤ v := zd_dep_le hok v v hv
    obtain ⟨q, hq⟩ : ∃ q : Nat, q = zd_up D t v := ⟨_, rfl⟩
    have q0 : 0 < q := by rw [hq]; exact zd_up_p hok hv (by omega)
    have q1 : q ≤ v := by rw [hq]; exact (zd_up_d hok hv t (by omega)).1
    have qs : zd_up D (t + 1) v = zd_B D (q - 1) := by rw [zd_up_s, hq]
    have qb : σ.2 (m + 5) q = ((zd_up D (t + 1) v : Nat) : Int) := (hB q q0 (by omega)).trans (by rw [qs])
    have hb : ∀ i, i < dpp D v → 0 ≤ (fun j => f (zd_up D j v - 1)) i ∧ (fun j => f (zd_up D j v - 1)) i ≤ 200 := fun i hi => by
      have a := (zd_up_d hok hv i (by omega)).1
      have c := zd_up_p hok hv hi
      exact hf (zd_up D i v - 1) (by omega)
    have zb := sum_bd hb (j := t) (by omega)
    have zc := hb t htn
    have ih2 := ih (t + 1) (by omega)
    have es : zz_sum (fun j => f (zd_up D j v - 1)) (t + 1) = zz_sum (fun j => f (zd_up D j v - 1)) t + f (q - 1) := by rw [hq]; rfl
    have em : mx (fun j => f (zd_up D j v - 1)) (t + 1) = max (mx (fun j => f (zd_up D j v - 1)) t) (f (q - 1)) := by rw [hq]; rfl
    have zc2 : 0 ≤ f (q - 1) ∧ f (q - 1) ≤ 200 := by rw [hq]; exact zc
    rw [es, em] at ih2
    have qp : σ.2 (m + 8) q = f (q - 1) := hSp q q0 (by omega)
    have ez : zw (zz_sum (fun j => f (zd_up D j v - 1)) t + f (q - 1)) = zz_sum (fun j => f (zd_up D j v - 1)) t + f (q - 1) := zw_id (by clear ih2 es em; omega) (by clear ih2 es em; omega)
    rw [← hq]
    clear zc es em
    refine zz_gsn 1 rfl ?_
    refine zz_br rfl (fun h19 => absurd h19 (by clear ih2 ih; omega)) (fun h19 => ?_)
    refine zz_gsn 4 rfl ?_
    refine zz_ald rfl (⟨by clear ih2 ih; omega, by clear ih2 ih; omega⟩) ?_
    refine zz_gsn 6 rfl ?_
    refine zz_ald rfl (⟨by clear ih2 ih; omega, by clear ih2 ih; omega⟩) ?_
    refine zz_mth rfl (Nat.le_of_ble_eq_true rfl) (Nat.le_of_ble_eq_true rfl) ?_
    refine zz_gsn 4 rfl ?_
    refine zz_ald rfl (⟨by clear ih2 ih; omega, by clear ih2 ih; omega⟩) ?_
    refine zz_gsn 1 rfl ?_
    refine zz_jp rfl ?_
    rw [show σ.2 (m + 8) ((q : Nat) : Int).toNat = f (q - 1) from qp, show σ.2 (m + 5) ((q : Nat) : Int).toNat = ((zd_up D (t + 1) v : Nat) : Int) from qb, ez]
    exact ih2
theorem t_Mo_along {X : zz_X} {σ : zz_M} {m : Nat} {G : zz_J} {v x_ : Int} (hG : RG σ m G) (ok : g_ok G) : zz_T X 3 p_Mo_along [zP 12 0 0 m, zI v, zI x_] σ (fun r σ' => σ = σ' ∧ r = some (zI (a_along G v x_))) := by
  refine zz_mk k_Mo_along o_Mo_along rfl rfl (Nat.le_of_ble_eq_true rfl) ?_
  show zz_G X 3 p_Mo_along 0 [zP 12 0 0 m, zI v, zI x_, zU, zU, zU] [] σ _
  obtain ⟨hI, hT, hO, hF, hM, h10⟩ := id hG
  obtain ⟨⟨ho, hfx⟩, okt, oko, okm⟩ := id ok
  have hk6 := ho.1.2.2.1
  rcases Classical.em (vz G.I.ho G.I.k v ∧ 0 ≤ x_ ∧ x_ ≤ 2) with hv | hv
  · obtain ⟨hvv, hx0⟩ := id hv
    obtain ⟨w, rfl⟩ : ∃ w : Nat, v = (w : Nat) := ⟨v.toNat, by omega⟩
    obtain ⟨z0, w1, w2⟩ := id hvv
    obtain ⟨hone, ⟨q1, q2, q3, q4⟩, hV⟩ := ri_y hI z0
    obtain ⟨⟨r1, r2, r3⟩, r4, r5, r6, r7⟩ := id hV
    have hw1 : w ≤ G.I.k := by omega
    obtain ⟨hS, hq1, hq2⟩ := r4 w hw1
    have zok := i_zd ho
    have hdl : dpp G.I.D w ≤ w := zd_dep_le zok w w hw1
    have hB : ∀ u, 0 < u → u ≤ G.I.k → σ.2 (m + 5) u = ((zd_B G.I.D (u - 1) : Nat) : Int) := fun u u0 u1 => by
      have z := (r5 (u - 1) (by omega)).2.1
      rw [show u - 1 + 1 = u from by omega] at z
      exact z
    have hSp : ∀ u, 0 < u → u ≤ G.I.k → σ.2 (m + 8) u = (gW G).sp (u - 1) := fun u u0 u1 => by
      have z := (r5 (u - 1) (by omega)).1.1
      rw [show u - 1 + 1 = u from by omega] at z
      exact z
    refine zz_gsn 2 rfl ?_
    refine zz_cv (n := 2) rfl rfl (t_Mo_isVersion) (Nat.le_of_ble_eq_true rfl) (Nat.le_of_ble_eq_true rfl) (Nat.le_of_ble_eq_true rfl) (fun r2 σ2 q2 => ?_)
    obtain ⟨rfl, n2, rfl, e2⟩ := q2
    replace e2 := rv_of hI ho e2
    replace e2 : n2 = 1 := e2.elim (fun z => z.1) (fun z => absurd hvv z.2)
    refine zz_br rfl (fun h3 => absurd h3 (show n2 ≠ 0 by omega)) (fun h3 => ?_)
    refine zz_gsn 4 rfl ?_
    refine zz_cs (n := 3) rfl rfl (t_Mo_in) (Nat.le_of_ble_eq_true rfl) (Nat.le_of_ble_eq_true rfl) (Nat.le_of_ble_eq_true rfl) (fun r8 σ8 q8 => ?_)
    obtain ⟨rfl, n8, rfl, e8⟩ := q8
    refine zz_br rfl (fun h9 => ?_) (fun h9 => absurd (by first | exact h9 | exact Decidable.not_not.mp h9) (show n8 ≠ 0 by omega))
    refine zz_gsn 6 rfl ?_
    refine lp_ralong (f := (gW G).sp) zok hw1 hk6 hB hSp (fun i hi => ⟨Int.le_of_lt ((h_inv ho.1).2.2.2.2.1 i hi).2.2.1, h_spu ho.1 i hi⟩) (fun y => ?_) (dpp G.I.D w) 0 (Nat.zero_add _)
    have ea : a_along G (w : Nat) x_ = if x_ = 0 then ((dpp G.I.D w : Nat) : Int) else if x_ = 1 then zz_sum (g_ws G w) (dpp G.I.D w) else mx (g_ws G w) (dpp G.I.D w) := if_pos hv
    refine zz_gsn 1 rfl ?_
    refine zz_br rfl (fun h41 => ?_) (fun h41 => ?_)
    · refine zz_gsn 2 rfl ?_
      refine zz_br rfl (fun h48 => ?_) (fun h48 => ?_)
      · refine zz_gsn 1 rfl ?_
        refine zz_ri rfl (Or.inl rfl) ?_
        refine ⟨rfl, congrArg (fun z => some (zI z)) ?_⟩
        rw [ea]
        rw [if_neg h41, if_neg h48]
        rfl
      · refine zz_gsn 1 rfl ?_
        refine zz_jp rfl ?_
        refine zz_ri rfl (Or.inl rfl) ?_
        refine ⟨rfl, congrArg (fun z => some (zI z)) ?_⟩
        rw [ea]
        rw [if_neg h41, if_pos (by first | exact h48 | exact Decidable.not_not.mp h48)]
        rfl
    · refine zz_gsn 2 rfl ?_
      refine zz_cv (n := 2) rfl rfl (t_Mo_deepOf zok hw1 hk6 hB) (Nat.le_of_ble_eq_true rfl) (Nat.le_of_ble_eq_true rfl) (Nat.le_of_ble_eq_true rfl) (fun r44 σ44 q44 => ?_)
      obtain ⟨rfl, rfl⟩ := q44
      refine zz_jp rfl ?_
      refine zz_ri rfl (Or.inl rfl) ?_
      refine ⟨rfl, congrArg (fun z => some (zI z)) ?_⟩
      rw [ea]
      rw [if_pos (by first | exact h41 | exact Decidable.not_not.mp h41)]
  · refine zz_gsn 2 rfl ?_
    refine zz_cv (n := 2) rfl rfl (t_Mo_isVersion) (Nat.le_of_ble_eq_true rfl) (Nat.le_of_ble_eq_true rfl) (Nat.le_of_ble_eq_true rfl) (fun r2 σ2 q2 => ?_)
    obtain ⟨rfl, n2, rfl, e2⟩ := q2
    replace e2 := rv_of hI ho e2
    refine zz_br rfl (fun h3 => ?_) (fun h3 => ?_)
    · refine zz_gsn 1 rfl ?_
      refine zz_ri rfl (Or.inl rfl) ?_
      exact ⟨rfl, congrArg (fun z => some (zI z)) (if_neg hv).symm⟩
    · refine zz_gsn 4 rfl ?_
      refine zz_cs (n := 3) rfl rfl (t_Mo_in) (Nat.le_of_ble_eq_true rfl) (Nat.le_of_ble_eq_true rfl) (Nat.le_of_ble_eq_true rfl) (fun r8 σ8 q8 => ?_)
      obtain ⟨rfl, n8, rfl, e8⟩ := q8
      refine zz_br rfl (fun h9 => absurd ⟨e2.elim (fun z => z.2) (fun z => absurd z.1 h3), by omega, by omega⟩ hv) (fun h9 => ?_)
      refine zz_gsn 1 rfl ?_
      refine zz_ri rfl (Or.inl rfl) ?_
      exact ⟨rfl, congrArg (fun z => some (zI z)) (if_neg hv).symm⟩
