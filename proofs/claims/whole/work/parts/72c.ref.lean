/-! the reference: a state, forks, where two meet, how far apart -/
theorem t_Mo_state {X : zz_X} {σ : zz_M} {m : Nat} {G : zz_J} {v x : Int} (hG : RG σ m G) (ok : g_ok G) : zz_T X 3 p_Mo_state [zP 12 0 0 m, zI v, zI x] σ (fun r σ' => σ = σ' ∧ r = some (zI (a_state G v x))) := by
  refine zz_mk k_Mo_state o_Mo_state rfl rfl (Nat.le_of_ble_eq_true rfl) ?_
  show zz_G X 3 p_Mo_state 0 [zP 12 0 0 m, zI v, zI x] [] σ _
  obtain ⟨hI, hT, hO, hF, hM, h10⟩ := id hG
  obtain ⟨⟨ho, hfx⟩, okt, oko, okm⟩ := id ok
  have hk6 := ho.1.2.2.1
  rcases Classical.em (vz G.I.ho G.I.k v ∧ 0 ≤ x ∧ x ≤ 4) with hc | hc
  · obtain ⟨hv, hx0, hx4⟩ := id hc
    obtain ⟨w, rfl⟩ : ∃ w : Nat, v = (w : Nat) := ⟨v.toNat, by omega⟩
    obtain ⟨z0, w1, w2⟩ := id hv
    obtain ⟨hone, ⟨q1, q2, q3, q4⟩, hV⟩ := ri_y hI z0
    obtain ⟨⟨r1, r2, r3⟩, r4, r5, r6, r7⟩ := id hV
    have hw1 : w ≤ G.I.k := by omega
    obtain ⟨hS, hq1, hq2⟩ := r4 w hw1
    have hn9 : (hw (IH G.I) w).n ≤ 1890 := h_nb (h_inv ho.1) hk6
    have hll : ((hw (IH G.I) w).R 0).length ≤ 200 := by
      have z := (IV_bd ((h_inv ho.1).1 w hw1).1).1 0 (by decide)
      have z2 : ((hw (IH G.I) w).R 0).length ≤ 2 * w + 1 := z
      omega
    refine zz_gsn 2 rfl ?_
    refine zz_cv (n := 2) rfl rfl (t_Mo_isVersion) (Nat.le_of_ble_eq_true rfl) (Nat.le_of_ble_eq_true rfl) (Nat.le_of_ble_eq_true rfl) (fun r2 σ2 q2 => ?_)
    obtain ⟨rfl, n2, rfl, e2⟩ := q2
    replace e2 := rv_of hI ho e2
    replace e2 : n2 = 1 := e2.elim (fun z => z.1) (fun z => absurd hv z.2)
    refine zz_br rfl (fun h3 => absurd h3 (by omega)) (fun h3 => ?_)
    refine zz_gsn 4 rfl ?_
    refine zz_cs (n := 3) rfl rfl (t_Mo_in) (Nat.le_of_ble_eq_true rfl) (Nat.le_of_ble_eq_true rfl) (Nat.le_of_ble_eq_true rfl) (fun r8 σ8 q8 => ?_)
    obtain ⟨rfl, n8, rfl, e8⟩ := q8
    refine zz_br rfl (fun h9 => ?_) (fun h9 => absurd h9 (by omega))
    refine zz_gsn 1 rfl ?_
    rcases (show x = 0 ∨ x = 1 ∨ x = 2 ∨ x = 3 ∨ x = 4 by omega) with hx | hx | hx | hx | hx
    · refine zz_swI 0 14 rfl hx rfl ?_
      refine zz_gsn 3 rfl ?_
      refine zz_cv (n := 3) rfl rfl (t_Mo_of (s := w) (k := 7) (by omega) (by decide)) (Nat.le_of_ble_eq_true rfl) (Nat.le_of_ble_eq_true rfl) (Nat.le_of_ble_eq_true rfl) (fun r17 σ17 q17 => ?_)
      obtain ⟨rfl, rfl⟩ := q17
      refine zz_ri rfl (Or.inl rfl) ?_
      refine ⟨rfl, congrArg (fun z => some (zI z)) (Eq.trans ?_ (if_pos hc).symm)⟩
      subst hx
      exact hS.2.1 7 (by decide) (by decide)
    · refine zz_swI 1 19 rfl hx rfl ?_
      refine zz_gsn 3 rfl ?_
      refine zz_cv (n := 3) rfl rfl (t_Mo_of (s := w) (k := 8) (by omega) (by decide)) (Nat.le_of_ble_eq_true rfl) (Nat.le_of_ble_eq_true rfl) (Nat.le_of_ble_eq_true rfl) (fun r22 σ22 q22 => ?_)
      obtain ⟨rfl, rfl⟩ := q22
      refine zz_ri rfl (Or.inl rfl) ?_
      refine ⟨rfl, congrArg (fun z => some (zI z)) (Eq.trans ?_ (if_pos hc).symm)⟩
      subst hx
      exact hS.2.1 8 (by decide) (by decide)
    · refine zz_swI 2 24 rfl hx rfl ?_
      refine zz_gsn 3 rfl ?_
      refine zz_br rfl (fun h27 => ?_) (fun h27 => ?_)
      · refine zz_gsn 4 rfl ?_
        refine zz_cv (n := 3) rfl rfl (t_Mo_of (s := w) (k := 0) (by omega) (by decide)) (Nat.le_of_ble_eq_true rfl) (Nat.le_of_ble_eq_true rfl) (Nat.le_of_ble_eq_true rfl) (fun r37 σ37 q37 => ?_)
        obtain ⟨rfl, rfl⟩ := q37
        refine zz_cv (n := 2) rfl rfl (t_Mo_lengthOf (l := (hw (IH G.I) w).R 0) (hS.1 0 (by decide)) (fun c hc => Nat.lt_of_lt_of_le (hS.2.2.2 0 (by decide) c hc) (by omega)) (by omega)) (Nat.le_of_ble_eq_true rfl) (Nat.le_of_ble_eq_true rfl) (Nat.le_of_ble_eq_true rfl) (fun r38 σ38 q38 => ?_)
        obtain ⟨rfl, rfl⟩ := q38
        refine zz_ri rfl (Or.inl rfl) ?_
        refine ⟨rfl, congrArg (fun z => some (zI z)) (Eq.trans ?_ (if_pos hc).symm)⟩
        subst hx
        exact (if_neg (fun z => h27 (q1.trans z))).symm
      · refine zz_gsn 3 rfl ?_
        refine zz_cv (n := 3) rfl rfl (t_Mo_of (s := w) (k := 6) (by omega) (by decide)) (Nat.le_of_ble_eq_true rfl) (Nat.le_of_ble_eq_true rfl) (Nat.le_of_ble_eq_true rfl) (fun r31 σ31 q31 => ?_)
        obtain ⟨rfl, rfl⟩ := q31
        refine zz_jp rfl ?_
        refine zz_ri rfl (Or.inl rfl) ?_
        refine ⟨rfl, congrArg (fun z => some (zI z)) (Eq.trans ?_ (if_pos hc).symm)⟩
        subst hx
        exact (hS.2.1 6 (by decide) (by decide)).trans (if_pos (q1.symm.trans (by first | exact h27 | exact Decidable.not_not.mp h27))).symm
    · refine zz_swO 40 rfl (Or.inr (by simp only [List.length_cons, List.length_nil]; omega)) rfl ?_
      refine zz_gsn 7 rfl ?_
      subst hx
      rw [show zw (zw (9 + 3) - 3) = 9 by decide]
      refine zz_cv (n := 3) rfl rfl (t_Mo_of (s := w) (k := 9) (by omega) (by decide)) (Nat.le_of_ble_eq_true rfl) (Nat.le_of_ble_eq_true rfl) (Nat.le_of_ble_eq_true rfl) (fun r47 σ47 q47 => ?_)
      obtain ⟨rfl, rfl⟩ := q47
      refine zz_ri rfl (Or.inl rfl) ?_
      refine ⟨rfl, congrArg (fun z => some (zI z)) (Eq.trans ?_ (if_pos hc).symm)⟩
      exact hS.2.1 9 (by decide) (by decide)
    · refine zz_swO 40 rfl (Or.inr (by simp only [List.length_cons, List.length_nil]; omega)) rfl ?_
      refine zz_gsn 7 rfl ?_
      subst hx
      rw [show zw (zw (9 + 4) - 3) = 10 by decide]
      refine zz_cv (n := 3) rfl rfl (t_Mo_of (s := w) (k := 10) (by omega) (by decide)) (Nat.le_of_ble_eq_true rfl) (Nat.le_of_ble_eq_true rfl) (Nat.le_of_ble_eq_true rfl) (fun r47 σ47 q47 => ?_)
      obtain ⟨rfl, rfl⟩ := q47
      refine zz_ri rfl (Or.inl rfl) ?_
      refine ⟨rfl, congrArg (fun z => some (zI z)) (Eq.trans ?_ (if_pos hc).symm)⟩
      exact hS.2.1 10 (by decide) (by decide)
  · refine zz_gsn 2 rfl ?_
    refine zz_cv (n := 2) rfl rfl (t_Mo_isVersion) (Nat.le_of_ble_eq_true rfl) (Nat.le_of_ble_eq_true rfl) (Nat.le_of_ble_eq_true rfl) (fun r2 σ2 q2 => ?_)
    obtain ⟨rfl, n2, rfl, e2⟩ := q2
    replace e2 := rv_of hI ho e2
    refine zz_br rfl (fun h3 => ?_) (fun h3 => ?_)
    · refine zz_gsn 1 rfl ?_
      refine zz_ri rfl (Or.inl rfl) ?_
      exact ⟨rfl, congrArg (fun z => some (zI z)) (if_neg hc).symm⟩
    · refine zz_gsn 4 rfl ?_
      refine zz_cs (n := 3) rfl rfl (t_Mo_in) (Nat.le_of_ble_eq_true rfl) (Nat.le_of_ble_eq_true rfl) (Nat.le_of_ble_eq_true rfl) (fun r8 σ8 q8 => ?_)
      obtain ⟨rfl, n8, rfl, e8⟩ := q8
      refine zz_br rfl (fun h9 => absurd ⟨e2.elim (fun z => z.2) (fun z => absurd z.1 h3), e8.elim (fun z => ⟨z.2.1, z.2.2⟩) (fun z => absurd z.1 h9)⟩ hc) (fun h9 => ?_)
      refine zz_gsn 1 rfl ?_
      refine zz_ri rfl (Or.inl rfl) ?_
      exact ⟨rfl, congrArg (fun z => some (zI z)) (if_neg hc).symm⟩
theorem lp_rfk {X : zz_X} {m k : Nat} {v : Int} {D : zz_D} {σ : zz_M} {Post : Option zz_V → zz_M → Prop} (hk : k ≤ 60) (r3 : σ.1 1215 m = ((k + 1 : Nat) : Int)) (hf : ∀ i, i < k → σ.2 (m + 5) (i + 1) = (zd_B D i : Nat)) (kk : Post (some (zI (zz_sum (zd_is D v) k))) σ) :
    ∀ (r j : Nat), j + r = k → zz_G X 3 p_Mo_forks 10 [zP 12 0 0 m, zI v, zI (zz_sum (zd_is D v) j), zI ((j + 1 : Nat) : Int)] [] σ Post := by
  intro r
  induction r with
  | zero =>
    intro j hj
    have e : j = k := hj
    subst e
    refine zz_gsn 3 rfl ?_
    refine zz_br rfl (fun h13 => ?_) (fun h13 => absurd h13 (by omega))
    refine zz_gsn 1 rfl ?_
    refine zz_ri rfl (Or.inl rfl) ?_
    exact kk
  | succ r ih =>
    intro j hj
    have bd := sum_bd (f := zd_is D v) (k := k) (j := j) (fun i _ => by have := zd_is_b D v i; omega) (by omega)
    have en : ∀ x : Int, x = zd_is D v j → zw (zz_sum (zd_is D v) j + x) = zz_sum (zd_is D v) (j + 1) := fun x e => by
      have b1 := zd_is_b D v j
      rw [e]
      exact zw_id (x := zz_sum (zd_is D v) j + zd_is D v j) (by omega) (by omega)
    refine zz_gsn 3 rfl ?_
    refine zz_br rfl (fun h13 => absurd h13 (by omega)) (fun h13 => ?_)
    refine zz_gsn 4 rfl ?_
    refine zz_ald rfl (⟨by omega, by omega⟩) ?_
    rw [Int.toNat_natCast, hf j (by omega)]
    refine zz_gsn 1 rfl ?_
    refine zz_br rfl (fun h20 => ?_) (fun h20 => ?_)
    · refine zz_gsn 4 rfl ?_
      refine zz_jp rfl ?_
      rw [en _ ((if_neg h20).symm), zw_s (by omega)]
      exact ih (j + 1) (by omega)
    · refine zz_gsn 1 rfl ?_
      refine zz_jp rfl ?_
      refine zz_gsn 3 rfl ?_
      refine zz_jp rfl ?_
      rw [en _ ((if_pos h20).symm), zw_s (by omega)]
      exact ih (j + 1) (by omega)
theorem t_Mo_forks {X : zz_X} {σ : zz_M} {m : Nat} {G : zz_J} {v : Int} (hG : RG σ m G) (ok : g_ok G) : zz_T X 3 p_Mo_forks [zP 12 0 0 m, zI v] σ (fun r σ' => σ = σ' ∧ r = some (zI (a_forks G v))) := by
  refine zz_mk k_Mo_forks o_Mo_forks rfl rfl (Nat.le_of_ble_eq_true rfl) ?_
  show zz_G X 3 p_Mo_forks 0 [zP 12 0 0 m, zI v, zU, zU] [] σ _
  obtain ⟨hI, hT, hO, hF, hM, h10⟩ := id hG
  obtain ⟨⟨ho, hfx⟩, okt, oko, okm⟩ := id ok
  have hk6 := ho.1.2.2.1
  rcases Classical.em (vz G.I.ho G.I.k v) with hv | hv
  · obtain ⟨w, rfl⟩ : ∃ w : Nat, v = (w : Nat) := ⟨v.toNat, by omega⟩
    obtain ⟨z0, w1, w2⟩ := id hv
    obtain ⟨hone, ⟨q1, q2, q3, q4⟩, hV⟩ := ri_y hI z0
    obtain ⟨⟨r1, r2, r3⟩, r4, r5, r6, r7⟩ := id hV
    have hw1 : w ≤ G.I.k := by omega
    obtain ⟨hS, hq1, hq2⟩ := r4 w hw1
    refine zz_gsn 2 rfl ?_
    refine zz_cv (n := 2) rfl rfl (t_Mo_isVersion) (Nat.le_of_ble_eq_true rfl) (Nat.le_of_ble_eq_true rfl) (Nat.le_of_ble_eq_true rfl) (fun r2 σ2 q2 => ?_)
    obtain ⟨rfl, n2, rfl, e2⟩ := q2
    replace e2 := rv_of hI ho e2
    replace e2 : n2 = 1 := e2.elim (fun z => z.1) (fun z => absurd hv z.2)
    refine zz_br rfl (fun h3 => ?_) (fun h3 => absurd (by first | exact h3 | exact Decidable.not_not.mp h3) (show n2 ≠ 0 by omega))
    refine zz_gsn 4 rfl ?_
    refine lp_rfk (D := G.I.D) (v := (w : Nat)) hk6 r3 (fun i hi => (r5 i hi).2.1) ?_ G.I.k 0 (Nat.zero_add _)
    exact ⟨rfl, congrArg (fun z => some (zI z)) ((rfl).trans (if_pos hv).symm)⟩
  · refine zz_gsn 2 rfl ?_
    refine zz_cv (n := 2) rfl rfl (t_Mo_isVersion) (Nat.le_of_ble_eq_true rfl) (Nat.le_of_ble_eq_true rfl) (Nat.le_of_ble_eq_true rfl) (fun r2 σ2 q2 => ?_)
    obtain ⟨rfl, n2, rfl, e2⟩ := q2
    replace e2 := rv_of hI ho e2
    replace e2 : n2 = 0 := e2.elim (fun z => absurd z.2 hv) (fun z => z.1)
    refine zz_br rfl (fun h3 => absurd e2 h3) (fun h3 => ?_)
    refine zz_gsn 1 rfl ?_
    refine zz_ri rfl (Or.inl rfl) ?_
    exact ⟨rfl, congrArg (fun z => some (zI z)) (if_neg hv).symm⟩
theorem lp_rmt {X : zz_X} {m k : Nat} {x0 y0 : Int} {D : zz_D} {σ : zz_M} {Post : Option zz_V → zz_M → Prop} (hk : k ≤ 60) (hok : zd_ok k D) (hf : ∀ i, i < k → σ.2 (m + 5) (i + 1) = (zd_B D i : Nat)) :
    ∀ (f v w : Nat), v ≤ k → w ≤ k → v + w ≤ f → Post (some (zI (zd_meet D f v w : Nat))) σ → zz_G X 1 p_Mo_meetOf 4 [zP 12 0 0 m, zI x0, zI y0, zI (v : Nat), zI (w : Nat)] [] σ Post := by
  intro f
  induction f with
  | zero =>
    intro v w hv hw hvw kk
    have e1 : v = 0 := by omega
    have e2 : w = 0 := by omega
    subst e1
    subst e2
    refine zz_gsn 2 rfl ?_
    refine zz_br rfl (fun h6 => ?_) (fun h6 => absurd rfl h6)
    refine zz_gsn 1 rfl ?_
    refine zz_ri rfl (Or.inl rfl) ?_
    exact kk
  | succ f ih =>
    intro v w hv hw hvw kk
    by_cases e : v = w
    · have kk : Post (some (zI (v : Nat))) σ := by
        rw [show zd_meet D (f + 1) v w = v from if_pos e] at kk
        exact kk
      refine zz_gsn 2 rfl ?_
      refine zz_br rfl (fun h6 => ?_) (fun h6 => absurd (show (v : Int) = (w : Nat) by omega) h6)
      refine zz_gsn 1 rfl ?_
      refine zz_ri rfl (Or.inl rfl) ?_
      exact kk
    · by_cases e2 : w < v
      · rw [show zd_meet D (f + 1) v w = zd_meet D f (zd_B D (v - 1)) w from (if_neg e).trans (if_pos e2)] at kk
        obtain ⟨u, rfl⟩ : ∃ u, v = u + 1 := ⟨v - 1, by omega⟩
        have hu := hok u (by omega)
        refine zz_gsn 2 rfl ?_
        refine zz_br rfl (fun h6 => absurd h6 (by omega)) (fun h6 => ?_)
        refine zz_gsn 2 rfl ?_
        refine zz_br rfl (fun h9 => absurd h9 (by omega)) (fun h9 => ?_)
        refine zz_gsn 3 rfl ?_
        refine zz_ald rfl (⟨by omega, by omega⟩) ?_
        rw [Int.toNat_natCast, hf u (by omega)]
        refine zz_gsn 1 rfl ?_
        refine zz_jp rfl ?_
        exact ih (zd_B D u) w (by omega) hw (by omega) kk
      · rw [show zd_meet D (f + 1) v w = zd_meet D f v (zd_B D (w - 1)) from (if_neg e).trans (if_neg e2)] at kk
        obtain ⟨u, rfl⟩ : ∃ u, w = u + 1 := ⟨w - 1, by omega⟩
        have hu := hok u (by omega)
        refine zz_gsn 2 rfl ?_
        refine zz_br rfl (fun h6 => absurd h6 (by omega)) (fun h6 => ?_)
        refine zz_gsn 2 rfl ?_
        refine zz_br rfl (fun h9 => ?_) (fun h9 => absurd h9 (by omega))
        refine zz_gsn 3 rfl ?_
        refine zz_ald rfl (⟨by omega, by omega⟩) ?_
        rw [Int.toNat_natCast, hf u (by omega)]
        refine zz_gsn 1 rfl ?_
        refine zz_jp rfl ?_
        exact ih v (zd_B D u) hv (by omega) (by omega) kk
theorem t_Mo_meetOf {X : zz_X} {σ : zz_M} {m k v w : Nat} {D : zz_D} (hk : k ≤ 60) (hok : zd_ok k D) (hf : ∀ i, i < k → σ.2 (m + 5) (i + 1) = (zd_B D i : Nat)) (hv : v ≤ k) (hw0 : w ≤ k) : zz_T X 1 p_Mo_meetOf [zP 12 0 0 m, zI (v : Nat), zI (w : Nat)] σ (fun r σ' => σ = σ' ∧ r = some (zI (zd_meet D 122 v w : Nat))) := by
  refine zz_mk k_Mo_meetOf o_Mo_meetOf rfl rfl (Nat.le_of_ble_eq_true rfl) ?_
  show zz_G X 1 p_Mo_meetOf 0 [zP 12 0 0 m, zI (v : Nat), zI (w : Nat), zU, zU] [] σ _
  refine zz_gsn 4 rfl ?_
  exact lp_rmt hk hok hf 122 v w hv hw0 (by omega) ⟨rfl, rfl⟩
theorem t_Mo_meet {X : zz_X} {σ : zz_M} {m : Nat} {G : zz_J} {v w : Int} (hG : RG σ m G) (ok : g_ok G) : zz_T X 3 p_Mo_meet [zP 12 0 0 m, zI v, zI w] σ (fun r σ' => σ = σ' ∧ r = some (zI (a_meet G v w))) := by
  refine zz_mk k_Mo_meet o_Mo_meet rfl rfl (Nat.le_of_ble_eq_true rfl) ?_
  show zz_G X 3 p_Mo_meet 0 [zP 12 0 0 m, zI v, zI w] [] σ _
  obtain ⟨hI, hT, hO, hF, hM, h10⟩ := id hG
  obtain ⟨⟨ho, hfx⟩, okt, oko, okm⟩ := id ok
  have hk6 := ho.1.2.2.1
  rcases zz_c3 (vz G.I.ho G.I.k v) (vz G.I.ho G.I.k w) with hv | ⟨hv, hv2⟩ | ⟨hv, hv2⟩
  · refine zz_gsn 2 rfl ?_
    refine zz_cv (n := 2) rfl rfl (t_Mo_isVersion) (Nat.le_of_ble_eq_true rfl) (Nat.le_of_ble_eq_true rfl) (Nat.le_of_ble_eq_true rfl) (fun r2 σ2 q2 => ?_)
    obtain ⟨rfl, n2, rfl, e2⟩ := q2
    replace e2 := rv_of hI ho e2
    replace e2 : n2 = 0 := e2.elim (fun z => absurd z.2 hv) (fun z => z.1)
    refine zz_br rfl (fun h3 => ?_) (fun h3 => absurd e2 h3)
    refine zz_gsn 1 rfl ?_
    refine zz_ri rfl (Or.inl rfl) ?_
    exact ⟨rfl, congrArg (fun z => some (zI z)) (if_neg (fun z => hv z.1)).symm⟩
  · obtain ⟨v, rfl⟩ : ∃ v' : Nat, v = (v' : Nat) := ⟨v.toNat, by omega⟩
    obtain ⟨w, rfl⟩ : ∃ w' : Nat, w = (w' : Nat) := ⟨w.toNat, by omega⟩
    have zok := ho.1.zd
    have hv3 : v ≤ G.I.k := by omega
    have hv4 : w ≤ G.I.k := by omega
    obtain ⟨hone, -, hV⟩ := ri_y hI hv.1
    have hf : ∀ i, i < G.I.k → σ.2 (m + 5) (i + 1) = (zd_B G.I.D i : Nat) := fun i hi => (hV.2.2.1 i hi).2.1
    refine zz_gsn 2 rfl ?_
    refine zz_cv (n := 2) rfl rfl (t_Mo_isVersion) (Nat.le_of_ble_eq_true rfl) (Nat.le_of_ble_eq_true rfl) (Nat.le_of_ble_eq_true rfl) (fun r2 σ2 q2 => ?_)
    obtain ⟨rfl, n2, rfl, e2⟩ := q2
    replace e2 := rv_of hI ho e2
    replace e2 : n2 = 1 := e2.elim (fun z => z.1) (fun z => absurd hv z.2)
    refine zz_br rfl (fun h3 => absurd h3 (by omega)) (fun h3 => ?_)
    refine zz_gsn 2 rfl ?_
    refine zz_cv (n := 2) rfl rfl (t_Mo_isVersion) (Nat.le_of_ble_eq_true rfl) (Nat.le_of_ble_eq_true rfl) (Nat.le_of_ble_eq_true rfl) (fun r6 σ6 q6 => ?_)
    obtain ⟨rfl, n6, rfl, e6⟩ := q6
    replace e6 := rv_of hI ho e6
    replace e6 : n6 = 1 := e6.elim (fun z => z.1) (fun z => absurd hv2 z.2)
    refine zz_br rfl (fun h7 => absurd h7 (by omega)) (fun h7 => ?_)
    refine zz_gsn 3 rfl ?_
    refine zz_cv (n := 3) rfl rfl (t_Mo_meetOf (v := v) (w := w) hk6 zok hf hv3 hv4) (Nat.le_of_ble_eq_true rfl) (Nat.le_of_ble_eq_true rfl) (Nat.le_of_ble_eq_true rfl) (fun r11 σ11 q11 => ?_)
    obtain ⟨rfl, rfl⟩ := q11
    refine zz_jp rfl ?_
    refine zz_ri rfl (Or.inl rfl) ?_
    exact ⟨rfl, congrArg (fun z => some (zI z)) (if_pos ⟨hv, hv2⟩).symm⟩
  · refine zz_gsn 2 rfl ?_
    refine zz_cv (n := 2) rfl rfl (t_Mo_isVersion) (Nat.le_of_ble_eq_true rfl) (Nat.le_of_ble_eq_true rfl) (Nat.le_of_ble_eq_true rfl) (fun r2 σ2 q2 => ?_)
    obtain ⟨rfl, n2, rfl, e2⟩ := q2
    replace e2 := rv_of hI ho e2
    replace e2 : n2 = 1 := e2.elim (fun z => z.1) (fun z => absurd hv z.2)
    refine zz_br rfl (fun h3 => absurd h3 (by omega)) (fun h3 => ?_)
    refine zz_gsn 2 rfl ?_
    refine zz_cv (n := 2) rfl rfl (t_Mo_isVersion) (Nat.le_of_ble_eq_true rfl) (Nat.le_of_ble_eq_true rfl) (Nat.le_of_ble_eq_true rfl) (fun r6 σ6 q6 => ?_)
    obtain ⟨rfl, n6, rfl, e6⟩ := q6
    replace e6 := rv_of hI ho e6
    replace e6 : n6 = 0 := e6.elim (fun z => absurd z.2 hv2) (fun z => z.1)
    refine zz_br rfl (fun h7 => ?_) (fun h7 => absurd e6 h7)
    refine zz_gsn 1 rfl ?_
    refine zz_ri rfl (Or.inl rfl) ?_
    exact ⟨rfl, congrArg (fun z => some (zI z)) (if_neg (fun z => hv2 z.2)).symm⟩
def zd_anc (D : zz_D) (m : Nat) : Nat → Nat → Prop
  | 0, v => v = m
  | f + 1, v => v = m ∨ (m < v ∧ zd_anc D m f (zd_B D (v - 1)))
theorem anc_le {D : zz_D} {m : Nat} : ∀ {f v : Nat}, zd_anc D m f v → m ≤ v
  | 0, _, h => Nat.le_of_eq h.symm
  | _ + 1, _, h => h.elim (fun z => Nat.le_of_eq z.symm) (fun z => Nat.le_of_lt z.1)
theorem anc_up {D : zz_D} {m : Nat} : ∀ {f v : Nat}, zd_anc D m f v → zd_anc D m (f + 1) v
  | 0, _, h => Or.inl h
  | f + 1, _, h => h.elim Or.inl (fun z => Or.inr ⟨z.1, anc_up (f := f) z.2⟩)
theorem anc_meet {D : zz_D} {k : Nat} (hok : zd_ok k D) : ∀ (f v w : Nat), v ≤ k → w ≤ k → v + w ≤ f → zd_anc D (zd_meet D f v w) f v ∧ zd_anc D (zd_meet D f v w) f w
  | 0, v, w, _, _, h => ⟨rfl, by show w = v; omega⟩
  | f + 1, v, w, hv, hw, h => by
    by_cases e : v = w
    · rw [show zd_meet D (f + 1) v w = v from if_pos e]
      exact ⟨Or.inl rfl, Or.inl e.symm⟩
    · by_cases e2 : w < v
      · rw [show zd_meet D (f + 1) v w = zd_meet D f (zd_B D (v - 1)) w from (if_neg e).trans (if_pos e2)]
        have hu := hok (v - 1) (by omega)
        obtain ⟨a, b⟩ := anc_meet hok f (zd_B D (v - 1)) w (by omega) hw (by omega)
        exact ⟨Or.inr ⟨Nat.lt_of_le_of_lt (anc_le b) e2, a⟩, anc_up b⟩
      · rw [show zd_meet D (f + 1) v w = zd_meet D f v (zd_B D (w - 1)) from (if_neg e).trans (if_neg e2)]
        have hu := hok (w - 1) (by omega)
        obtain ⟨a, b⟩ := anc_meet hok f v (zd_B D (w - 1)) hv (by omega) (by omega)
        exact ⟨anc_up a, Or.inr ⟨Nat.lt_of_le_of_lt (anc_le a) (by omega), b⟩⟩
theorem dep_s {D : zz_D} {k u : Nat} (hok : zd_ok k D) (hu : u < k) : zd_dep D (u + 1) (u + 1) = zd_dep D (zd_B D u) (zd_B D u) + 1 := by
  show zd_dep D u (zd_B D u) + 1 = _
  have h1 := hok u hu
  rw [zd_dep_f hok u (zd_B D u) (zd_B D u) (by omega) h1 (Nat.le_refl _)]
theorem lp_apA {X : zz_X} {m k mm : Nat} {x0 y0 N : Int} {D : zz_D} {σ : zz_M} {Post : Option zz_V → zz_M → Prop} (hk : k ≤ 60) (hok : zd_ok k D) (hf : ∀ i, i < k → σ.2 (m + 5) (i + 1) = (zd_B D i : Nat)) (hN : N < 1000) (kk : ∀ y : Int, zz_G X 3 p_Mo_apart 29 [zP 12 0 0 m, zI x0, zI y0, zI (mm : Nat), zI N, zI y] [] σ Post) :
    ∀ (f v : Nat) (n : Int), v ≤ k → zd_anc D mm f v → 0 ≤ n → n + (zd_dep D v v : Nat) = N + (zd_dep D mm mm : Nat) → zz_G X 3 p_Mo_apart 19 [zP 12 0 0 m, zI x0, zI y0, zI (mm : Nat), zI n, zI (v : Nat)] [] σ Post := by
  intro f
  induction f with
  | zero =>
    intro v n hv ha hn e
    have e1 : v = mm := ha
    subst e1
    have e2 : n = N := by omega
    subst e2
    refine zz_gsn 2 rfl ?_
    refine zz_br rfl (fun h21 => ?_) (fun h21 => absurd rfl h21)
    exact kk _
  | succ f ih =>
    intro v n hv ha hn e
    rcases ha with e1 | ⟨e1, ha⟩
    · subst e1
      have e2 : n = N := by omega
      subst e2
      refine zz_gsn 2 rfl ?_
      refine zz_br rfl (fun h21 => ?_) (fun h21 => absurd rfl h21)
      exact kk _
    · obtain ⟨u, rfl⟩ : ∃ u, v = u + 1 := ⟨v - 1, by omega⟩
      have hu := hok u (by omega)
      have hd := dep_s hok (show u < k by omega)
      have ha2 : zd_anc D mm f (zd_B D u) := ha
      have hl := zd_dep_le hok mm mm (by have := anc_le ha2; omega)
      have en : zw (n + 1) = n + 1 := zw_id (by omega) (by omega)
      refine zz_gsn 2 rfl ?_
      refine zz_br rfl (fun h21 => absurd h21 (by clear en; omega)) (fun h21 => ?_)
      refine zz_gsn 4 rfl ?_
      refine zz_ald rfl (⟨by clear en; omega, by clear en; omega⟩) ?_
      rw [Int.toNat_natCast, hf u (by clear en; omega)]
      refine zz_gsn 1 rfl ?_
      refine zz_jp rfl ?_
      rw [en]
      clear en
      exact ih (zd_B D u) (n + 1) (by omega) ha2 (by omega) (by omega)
theorem lp_apB {X : zz_X} {m k mm : Nat} {x0 y0 N : Int} {D : zz_D} {σ : zz_M} {Post : Option zz_V → zz_M → Prop} (hk : k ≤ 60) (hok : zd_ok k D) (hf : ∀ i, i < k → σ.2 (m + 5) (i + 1) = (zd_B D i : Nat)) (hN : N < 1000) (kk : ∀ y : Int, zz_G X 3 p_Mo_apart 41 [zP 12 0 0 m, zI x0, zI y0, zI (mm : Nat), zI N, zI y] [] σ Post) :
    ∀ (f v : Nat) (n : Int), v ≤ k → zd_anc D mm f v → 0 ≤ n → n + (zd_dep D v v : Nat) = N + (zd_dep D mm mm : Nat) → zz_G X 3 p_Mo_apart 31 [zP 12 0 0 m, zI x0, zI y0, zI (mm : Nat), zI n, zI (v : Nat)] [] σ Post := by
  intro f
  induction f with
  | zero =>
    intro v n hv ha hn e
    have e1 : v = mm := ha
    subst e1
    have e2 : n = N := by omega
    subst e2
    refine zz_gsn 2 rfl ?_
    refine zz_br rfl (fun h33 => ?_) (fun h33 => absurd rfl h33)
    exact kk _
  | succ f ih =>
    intro v n hv ha hn e
    rcases ha with e1 | ⟨e1, ha⟩
    · subst e1
      have e2 : n = N := by omega
      subst e2
      refine zz_gsn 2 rfl ?_
      refine zz_br rfl (fun h33 => ?_) (fun h33 => absurd rfl h33)
      exact kk _
    · obtain ⟨u, rfl⟩ : ∃ u, v = u + 1 := ⟨v - 1, by omega⟩
      have hu := hok u (by omega)
      have hd := dep_s hok (show u < k by omega)
      have ha2 : zd_anc D mm f (zd_B D u) := ha
      have hl := zd_dep_le hok mm mm (by have := anc_le ha2; omega)
      have en : zw (n + 1) = n + 1 := zw_id (by omega) (by omega)
      refine zz_gsn 2 rfl ?_
      refine zz_br rfl (fun h33 => absurd h33 (by clear en; omega)) (fun h33 => ?_)
      refine zz_gsn 4 rfl ?_
      refine zz_ald rfl (⟨by clear en; omega, by clear en; omega⟩) ?_
      rw [Int.toNat_natCast, hf u (by clear en; omega)]
      refine zz_gsn 1 rfl ?_
      refine zz_jp rfl ?_
      rw [en]
      clear en
      exact ih (zd_B D u) (n + 1) (by omega) ha2 (by omega) (by omega)
theorem anc_dep {D : zz_D} {k m : Nat} (hok : zd_ok k D) : ∀ {f v : Nat}, v ≤ k → zd_anc D m f v → (zd_dep D m m : Int) ≤ (zd_dep D v v : Nat)
  | 0, v, _, h => by
    have e : v = m := h
    rw [e]
    exact Int.le_refl _
  | f + 1, v, hv, h => by
    rcases h with e | ⟨e, h⟩
    · rw [e]
      exact Int.le_refl _
    · obtain ⟨u, rfl⟩ : ∃ u, v = u + 1 := ⟨v - 1, by omega⟩
      have hu := hok u (by omega)
      have h2 : zd_anc D m f (zd_B D u) := h
      have := anc_dep hok (f := f) (show zd_B D u ≤ k by omega) h2
      have hd := dep_s hok (show u < k by omega)
      omega
theorem t_Mo_apart {X : zz_X} {σ : zz_M} {m : Nat} {G : zz_J} {v w : Int} (hG : RG σ m G) (ok : g_ok G) : zz_T X 3 p_Mo_apart [zP 12 0 0 m, zI v, zI w] σ (fun r σ' => σ = σ' ∧ r = some (zI (a_apart G v w))) := by
  refine zz_mk k_Mo_apart o_Mo_apart rfl rfl (Nat.le_of_ble_eq_true rfl) ?_
  show zz_G X 3 p_Mo_apart 0 [zP 12 0 0 m, zI v, zI w, zU, zU, zU] [] σ _
  obtain ⟨hI, hT, hO, hF, hM, h10⟩ := id hG
  obtain ⟨⟨ho, hfx⟩, okt, oko, okm⟩ := id ok
  have hk6 := ho.1.2.2.1
  rcases zz_c3 (vz G.I.ho G.I.k v) (vz G.I.ho G.I.k w) with hv | ⟨hv, hv2⟩ | ⟨hv, hv2⟩
  · refine zz_gsn 2 rfl ?_
    refine zz_cv (n := 2) rfl rfl (t_Mo_isVersion) (Nat.le_of_ble_eq_true rfl) (Nat.le_of_ble_eq_true rfl) (Nat.le_of_ble_eq_true rfl) (fun r2 σ2 q2 => ?_)
    obtain ⟨rfl, n2, rfl, e2⟩ := q2
    replace e2 := rv_of hI ho e2
    replace e2 : n2 = 0 := e2.elim (fun z => absurd z.2 hv) (fun z => z.1)
    refine zz_br rfl (fun h3 => ?_) (fun h3 => absurd e2 h3)
    refine zz_gsn 1 rfl ?_
    refine zz_ri rfl (Or.inl rfl) ?_
    exact ⟨rfl, congrArg (fun z => some (zI z)) (if_neg (fun z => hv z.1)).symm⟩
  · obtain ⟨v, rfl⟩ : ∃ v' : Nat, v = (v' : Nat) := ⟨v.toNat, by omega⟩
    obtain ⟨w, rfl⟩ : ∃ w' : Nat, w = (w' : Nat) := ⟨w.toNat, by omega⟩
    have zok := ho.1.zd
    have hv3 : v ≤ G.I.k := by omega
    have hv4 : w ≤ G.I.k := by omega
    obtain ⟨hone, -, hV⟩ := ri_y hI hv.1
    have hf : ∀ i, i < G.I.k → σ.2 (m + 5) (i + 1) = (zd_B G.I.D i : Nat) := fun i hi => (hV.2.2.1 i hi).2.1
    obtain ⟨a1, a2⟩ := anc_meet zok 122 v w hv3 hv4 (by omega)
    obtain ⟨mm, hmm⟩ : ∃ mm, mm = zd_meet G.I.D 122 v w := ⟨_, rfl⟩
    have l0 := zd_dep_le zok v v hv3
    have l1 := zd_dep_le zok w w hv4
    rw [← hmm] at a1 a2
    have b1 := anc_le a1
    refine zz_gsn 2 rfl ?_
    refine zz_cv (n := 2) rfl rfl (t_Mo_isVersion) (Nat.le_of_ble_eq_true rfl) (Nat.le_of_ble_eq_true rfl) (Nat.le_of_ble_eq_true rfl) (fun r2 σ2 q2 => ?_)
    obtain ⟨rfl, n2, rfl, e2⟩ := q2
    replace e2 := rv_of hI ho e2
    replace e2 : n2 = 1 := e2.elim (fun z => z.1) (fun z => absurd hv z.2)
    refine zz_br rfl (fun h3 => absurd h3 (by omega)) (fun h3 => ?_)
    refine zz_gsn 2 rfl ?_
    refine zz_cv (n := 2) rfl rfl (t_Mo_isVersion) (Nat.le_of_ble_eq_true rfl) (Nat.le_of_ble_eq_true rfl) (Nat.le_of_ble_eq_true rfl) (fun r6 σ6 q6 => ?_)
    obtain ⟨rfl, n6, rfl, e6⟩ := q6
    replace e6 := rv_of hI ho e6
    replace e6 : n6 = 1 := e6.elim (fun z => z.1) (fun z => absurd hv2 z.2)
    refine zz_br rfl (fun h7 => ?_) (fun h7 => absurd (by first | exact h7 | exact Decidable.not_not.mp h7) (show n6 ≠ 0 by omega))
    refine zz_gsn 3 rfl ?_
    refine zz_cv (n := 3) rfl rfl (t_Mo_meetOf (v := v) (w := w) hk6 zok hf hv3 hv4) (Nat.le_of_ble_eq_true rfl) (Nat.le_of_ble_eq_true rfl) (Nat.le_of_ble_eq_true rfl) (fun r13 σ13 q13 => ?_)
    obtain ⟨rfl, rfl⟩ := q13
    rw [← hmm]
    refine zz_gsn 5 rfl ?_
    obtain ⟨N1, hN1⟩ : ∃ N1 : Int, N1 = (zd_dep G.I.D v v : Nat) - (zd_dep G.I.D mm mm : Nat) := ⟨_, rfl⟩
    obtain ⟨N2, hN2⟩ : ∃ N2 : Int, N2 = N1 + ((zd_dep G.I.D w w : Nat) - (zd_dep G.I.D mm mm : Nat)) := ⟨_, rfl⟩
    have l2 := zd_dep_le zok mm mm (by omega)
    have d1 : (zd_dep G.I.D mm mm : Int) ≤ (zd_dep G.I.D v v : Nat) := anc_dep zok hv3 a1
    refine lp_apA (N := N1) hk6 zok hf (by omega) (fun y => ?_) 122 v 0 hv3 a1 (Int.le_refl _) (by omega)
    refine zz_gsn 2 rfl ?_
    refine lp_apB (N := N2) hk6 zok hf (by omega) (fun y => ?_) 122 w N1 hv4 a2 (by omega) (by omega)
    refine zz_gsn 1 rfl ?_
    refine zz_ri rfl (Or.inl rfl) ?_
    refine ⟨rfl, congrArg (fun z => some (zI z)) (Eq.trans ?_ (if_pos ⟨hv, hv2⟩).symm)⟩
    rw [Int.toNat_natCast, Int.toNat_natCast, ← hmm]
    omega
  · refine zz_gsn 2 rfl ?_
    refine zz_cv (n := 2) rfl rfl (t_Mo_isVersion) (Nat.le_of_ble_eq_true rfl) (Nat.le_of_ble_eq_true rfl) (Nat.le_of_ble_eq_true rfl) (fun r2 σ2 q2 => ?_)
    obtain ⟨rfl, n2, rfl, e2⟩ := q2
    replace e2 := rv_of hI ho e2
    replace e2 : n2 = 1 := e2.elim (fun z => z.1) (fun z => absurd hv z.2)
    refine zz_br rfl (fun h3 => absurd h3 (by omega)) (fun h3 => ?_)
    refine zz_gsn 2 rfl ?_
    refine zz_cv (n := 2) rfl rfl (t_Mo_isVersion) (Nat.le_of_ble_eq_true rfl) (Nat.le_of_ble_eq_true rfl) (Nat.le_of_ble_eq_true rfl) (fun r6 σ6 q6 => ?_)
    obtain ⟨rfl, n6, rfl, e6⟩ := q6
    replace e6 := rv_of hI ho e6
    replace e6 : n6 = 0 := e6.elim (fun z => absurd z.2 hv2) (fun z => z.1)
    refine zz_br rfl (fun h7 => absurd e6 h7) (fun h7 => ?_)
    refine zz_gsn 1 rfl ?_
    refine zz_ri rfl (Or.inl rfl) ?_
    exact ⟨rfl, congrArg (fun z => some (zI z)) (if_neg (fun z => hv2 z.2)).symm⟩
