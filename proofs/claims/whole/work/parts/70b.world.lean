/-! the class: counts, images -/
theorem lp_late {X : zz_X} {h : Nat} {I : zz_I} {f : Nat → Int} {σ : zz_M} {Post : Option zz_V → zz_M → Prop} (dR : DR σ (h + 1) I.k I.D) (hf : ∀ i, i < I.k → σ.2 (h + 15) i = f i) (hb : ∀ i, i < I.k → f i = 0 ∨ f i = 1) (kk : Post (some (zI (zz_sum f I.k))) σ) :
    ∀ (r j : Nat), j + r = I.k → zz_G X 2 p_History_overdueDeeds 4 [zP 3 0 0 h, zI (zz_sum f j), zI (j : Nat)] [] σ Post := by
  have hk6 := dR.2.1
  have hb2 : ∀ i, i < I.k → 0 ≤ f i ∧ f i ≤ 200 := fun i hi => by have := hb i hi; omega
  intro r
  induction r with
  | zero =>
    intro j hj
    have e : j = I.k := hj
    subst e
    refine zz_gsn 2 rfl ?_
    refine zz_br rfl (fun h6 => ?_) (fun h6 => ?_)
    · refine zz_gsn 1 rfl ?_
      refine zz_ri rfl (Or.inl rfl) ?_
      exact kk
    · refine zz_gsn 3 rfl ?_
      refine zz_cv (n := 2) rfl rfl (t_Deeds_hasDeed) (Nat.le_of_ble_eq_true rfl) (Nat.le_of_ble_eq_true rfl) (Nat.le_of_ble_eq_true rfl) (fun r10 σ10 q10 => ?_)
      obtain ⟨rfl, n10, rfl, e10⟩ := q10
      replace e10 := vd_of dR e10
      replace e10 : n10 = 0 := e10.elim (fun z => absurd z.2 (fun z => absurd z.2 (by omega))) (fun z => z.1)
      refine zz_br rfl (fun h11 => ?_) (fun h11 => absurd e10 h11)
      refine zz_gsn 1 rfl ?_
      refine zz_ri rfl (Or.inl rfl) ?_
      exact kk
  | succ r ih =>
    intro j hj
    have bd := sum_bd hb2 (show j ≤ I.k by omega)
    have b1 := hb j (by omega)
    have en : ∀ x : Int, x = f j → zw (zz_sum f j + x) = zz_sum f (j + 1) := fun x e => by
      rw [e]
      exact zw_id (x := zz_sum f j + f j) (by omega) (by omega)
    refine zz_gsn 2 rfl ?_
    refine zz_br rfl (fun h6 => absurd h6 (by omega)) (fun h6 => ?_)
    refine zz_gsn 3 rfl ?_
    refine zz_cv (n := 2) rfl rfl (t_Deeds_hasDeed) (Nat.le_of_ble_eq_true rfl) (Nat.le_of_ble_eq_true rfl) (Nat.le_of_ble_eq_true rfl) (fun r10 σ10 q10 => ?_)
    obtain ⟨rfl, n10, rfl, e10⟩ := q10
    replace e10 := vd_of dR e10
    replace e10 : n10 = 1 := e10.elim (fun z => z.1) (fun z => absurd ⟨by omega, by omega⟩ z.2)
    refine zz_br rfl (fun h11 => absurd h11 (by omega)) (fun h11 => ?_)
    refine zz_gsn 4 rfl ?_
    refine zz_ald rfl (⟨by omega, by omega⟩) ?_
    rw [Int.toNat_natCast, hf j (by omega)]
    refine zz_br rfl (fun h17 => ?_) (fun h17 => ?_)
    · refine zz_gsn 4 rfl ?_
      refine zz_jp rfl ?_
      rw [en _ (by omega), zw_s (by omega)]
      exact ih (j + 1) (by omega)
    · refine zz_gsn 1 rfl ?_
      refine zz_jp rfl ?_
      refine zz_gsn 3 rfl ?_
      refine zz_jp rfl ?_
      rw [en _ (by omega), zw_s (by omega)]
      exact ih (j + 1) (by omega)
theorem t_History_overdueDeeds {X : zz_X} {σ : zz_M} {h : Nat} {I : zz_I} (hH : CH σ h I) (ho : i_ok I) : zz_T X 2 p_History_overdueDeeds [zP 3 0 0 h] σ (fun r σ' => σ = σ' ∧ r = some (zI (zz_sum (IH I).lt I.k))) := by
  refine zz_mk k_History_overdueDeeds o_History_overdueDeeds rfl rfl (Nat.le_of_ble_eq_true rfl) ?_
  show zz_G X 2 p_History_overdueDeeds 0 [zP 3 0 0 h, zU, zU] [] σ _
  refine zz_gsn 4 rfl ?_
  have hin := h_inv ho.1
  exact lp_late (f := (IH I).lt) hH.1.2.2.2.2 (fun i hi => (hH.2.2.2.2 i hi).2.1) (fun i hi => (hin.2.2.2.2.1 i hi).2.2.2) ⟨rfl, rfl⟩ I.k 0 (Nat.zero_add _)
theorem t_TQ_overdue {X : zz_X} {σ : zz_M} {b : Nat} {B : Int} {G : zz_J} (hG : CG σ b B G) (ok : g_ok G) : zz_T X 3 p_TQ_overdue [zP 11 0 0 b] σ (fun r σ' => σ = σ' ∧ r = some (zI (a_overdue G))) := by
  refine zz_mk k_TQ_overdue o_TQ_overdue rfl rfl (Nat.le_of_ble_eq_true rfl) ?_
  show zz_G X 3 p_TQ_overdue 0 [zP 11 0 0 b] [] σ _
  obtain ⟨hH, hBt, hBo, hft, him, hmk, htr⟩ := id hG
  obtain ⟨⟨ho, hfx⟩, okt, oko, okm⟩ := id ok
  obtain ⟨hD, hV⟩ := id hH
  obtain ⟨d1, d2, d3, d4, dR⟩ := id hD
  obtain ⟨d5, d6, d7⟩ := id dR
  rcases Classical.em (G.I.ho = 1) with h1 | h1
  · refine zz_gsn 4 rfl ?_
    refine zz_br rfl (fun h4 => absurd (d1.symm.trans h4) (by omega)) (fun h4 => ?_)
    refine zz_gsn 2 rfl ?_
    refine zz_cv (n := 1) rfl rfl (t_History_overdueDeeds hH ho) (Nat.le_of_ble_eq_true rfl) (Nat.le_of_ble_eq_true rfl) (Nat.le_of_ble_eq_true rfl) (fun r7 σ7 q7 => ?_)
    obtain ⟨rfl, rfl⟩ := q7
    refine zz_jp rfl ?_
    refine zz_ri rfl (Or.inl rfl) ?_
    exact ⟨rfl, congrArg (fun z => some (zI z)) ((rfl).trans (if_pos h1).symm)⟩
  · have h0 : G.I.ho = 0 := by rcases ho.2 with z | z <;> omega
    refine zz_gsn 4 rfl ?_
    refine zz_br rfl (fun h4 => ?_) (fun h4 => absurd (d1.trans h0) h4)
    refine zz_gsn 1 rfl ?_
    refine zz_ri rfl (Or.inl rfl) ?_
    exact ⟨rfl, congrArg (fun z => some (zI z)) (if_neg h1).symm⟩
/-- the dearest of the first j, and its steps -/
def dst (f : Nat → Int) : Nat → Int × Int
  | 0 => (-1, 0)
  | j + 1 => if (dst f j).2 < f j then ((j : Nat), f j) else dst f j
def a_dearest (G : zz_J) : Int := if G.I.ho = 1 then (dst (gW G).sp G.I.k).1 else -2
theorem lp_dear {X : zz_X} {h : Nat} {I : zz_I} {f : Nat → Int} {σ : zz_M} {Post : Option zz_V → zz_M → Prop} (dR : DR σ (h + 1) I.k I.D) (hf : ∀ i, i < I.k → σ.2 (h + 14) i = f i) (kk : Post (some (zI (dst f I.k).1)) σ) :
    ∀ (r j : Nat), j + r = I.k → zz_G X 2 p_History_dearestDeed 6 [zP 3 0 0 h, zI (dst f j).1, zI (dst f j).2, zI (j : Nat)] [] σ Post := by
  have hk6 := dR.2.1
  intro r
  induction r with
  | zero =>
    intro j hj
    have e : j = I.k := hj
    subst e
    refine zz_gsn 2 rfl ?_
    refine zz_br rfl (fun h8 => ?_) (fun h8 => ?_)
    · refine zz_gsn 1 rfl ?_
      refine zz_ri rfl (Or.inl rfl) ?_
      exact kk
    · refine zz_gsn 3 rfl ?_
      refine zz_cv (n := 2) rfl rfl (t_Deeds_hasDeed) (Nat.le_of_ble_eq_true rfl) (Nat.le_of_ble_eq_true rfl) (Nat.le_of_ble_eq_true rfl) (fun r12 σ12 q12 => ?_)
      obtain ⟨rfl, n12, rfl, e12⟩ := q12
      replace e12 := vd_of dR e12
      replace e12 : n12 = 0 := e12.elim (fun z => absurd z.2 (fun z => absurd z.2 (by omega))) (fun z => z.1)
      refine zz_br rfl (fun h13 => ?_) (fun h13 => absurd e12 h13)
      refine zz_gsn 1 rfl ?_
      refine zz_ri rfl (Or.inl rfl) ?_
      exact kk
  | succ r ih =>
    intro j hj
    have hs : ∀ (c : Prop) [Decidable c], (c ↔ (dst f j).2 < f j) → dst f (j + 1) = if c then (((j : Nat) : Int), f j) else dst f j := fun c _ hc => by
      show (if (dst f j).2 < f j then (((j : Nat) : Int), f j) else dst f j) = _
      by_cases z : c
      · rw [if_pos z, if_pos (hc.mp z)]
      · rw [if_neg z, if_neg (fun y => z (hc.mpr y))]
    have hy : (dst f j).2 < f j → dst f (j + 1) = (((j : Nat) : Int), f j) := fun z => if_pos z
    have hn : ¬ (dst f j).2 < f j → dst f (j + 1) = dst f j := fun z => if_neg z
    have ih2 := ih (j + 1) (by omega)
    refine zz_gsn 2 rfl ?_
    refine zz_br rfl (fun h8 => absurd h8 (by omega)) (fun h8 => ?_)
    refine zz_gsn 3 rfl ?_
    refine zz_cv (n := 2) rfl rfl (t_Deeds_hasDeed) (Nat.le_of_ble_eq_true rfl) (Nat.le_of_ble_eq_true rfl) (Nat.le_of_ble_eq_true rfl) (fun r12 σ12 q12 => ?_)
    obtain ⟨rfl, n12, rfl, e12⟩ := q12
    replace e12 := vd_of dR e12
    replace e12 : n12 = 1 := e12.elim (fun z => z.1) (fun z => absurd ⟨by omega, by omega⟩ z.2)
    refine zz_br rfl (fun h13 => absurd h13 (by omega)) (fun h13 => ?_)
    refine zz_gsn 3 rfl ?_
    refine zz_ald rfl (⟨by omega, by omega⟩) ?_
    rw [Int.toNat_natCast, hf j (by omega)]
    refine zz_gsn 1 rfl ?_
    refine zz_br rfl (fun h19 => ?_) (fun h19 => ?_)
    · refine zz_gsn 1 rfl ?_
      refine zz_jp rfl ?_
      rw [zw_s (by omega)]
      rw [hn (fun z => absurd h19 (by omega))] at ih2
      exact ih2
    · refine zz_gsn 3 rfl ?_
      refine zz_ald rfl (⟨by omega, by omega⟩) ?_
      rw [Int.toNat_natCast, hf j (by omega)]
      refine zz_gsn 4 rfl ?_
      refine zz_jp rfl ?_
      rw [zw_s (by omega)]
      rw [hy h19] at ih2
      exact ih2
theorem t_History_dearestDeed {X : zz_X} {σ : zz_M} {h : Nat} {I : zz_I} (hH : CH σ h I) : zz_T X 2 p_History_dearestDeed [zP 3 0 0 h] σ (fun r σ' => σ = σ' ∧ r = some (zI (dst (IH I).sp I.k).1)) := by
  refine zz_mk k_History_dearestDeed o_History_dearestDeed rfl rfl (Nat.le_of_ble_eq_true rfl) ?_
  show zz_G X 2 p_History_dearestDeed 0 [zP 3 0 0 h, zU, zU, zU] [] σ _
  refine zz_gsn 6 rfl ?_
  exact lp_dear (f := (IH I).sp) hH.1.2.2.2.2 (fun i hi => (hH.2.2.2.2 i hi).1) ⟨rfl, rfl⟩ I.k 0 (Nat.zero_add _)
theorem t_TQ_dearest {X : zz_X} {σ : zz_M} {b : Nat} {B : Int} {G : zz_J} (hG : CG σ b B G) (ok : g_ok G) : zz_T X 3 p_TQ_dearest [zP 11 0 0 b] σ (fun r σ' => σ = σ' ∧ r = some (zI (a_dearest G))) := by
  refine zz_mk k_TQ_dearest o_TQ_dearest rfl rfl (Nat.le_of_ble_eq_true rfl) ?_
  show zz_G X 3 p_TQ_dearest 0 [zP 11 0 0 b] [] σ _
  obtain ⟨hH, hBt, hBo, hft, him, hmk, htr⟩ := id hG
  obtain ⟨⟨ho, hfx⟩, okt, oko, okm⟩ := id ok
  obtain ⟨hD, hV⟩ := id hH
  obtain ⟨d1, d2, d3, d4, dR⟩ := id hD
  obtain ⟨d5, d6, d7⟩ := id dR
  rcases Classical.em (G.I.ho = 1) with h1 | h1
  · refine zz_gsn 4 rfl ?_
    refine zz_br rfl (fun h4 => absurd (d1.symm.trans h4) (by omega)) (fun h4 => ?_)
    refine zz_gsn 2 rfl ?_
    refine zz_cv (n := 1) rfl rfl (t_History_dearestDeed hH) (Nat.le_of_ble_eq_true rfl) (Nat.le_of_ble_eq_true rfl) (Nat.le_of_ble_eq_true rfl) (fun r7 σ7 q7 => ?_)
    obtain ⟨rfl, rfl⟩ := q7
    refine zz_jp rfl ?_
    refine zz_ri rfl (Or.inl rfl) ?_
    exact ⟨rfl, congrArg (fun z => some (zI z)) ((rfl).trans (if_pos h1).symm)⟩
  · have h0 : G.I.ho = 0 := by rcases ho.2 with z | z <;> omega
    refine zz_gsn 4 rfl ?_
    refine zz_br rfl (fun h4 => ?_) (fun h4 => absurd (d1.trans h0) h4)
    refine zz_gsn 1 rfl ?_
    refine zz_ri rfl (Or.inl rfl) ?_
    exact ⟨rfl, congrArg (fun z => some (zI z)) (if_neg h1).symm⟩
def a_count (G : zz_J) (w : Int) : Int := if w = 0 then G.I.law else if w = 1 then G.I.C else if w = 2 then (if G.I.ho = 0 then 0 else ((G.I.k + 1 : Nat) : Int)) else if w = 3 then (G.I.k : Nat) else if w = 4 then (G.I.k : Int) - (G.I.told : Nat) else if w = 5 then (if G.I.ho = 0 then 0 else ((G.I.told + 1 : Nat) : Int)) else if w = 6 then (G.t.length : Nat) else if w = 7 then (G.o.length : Nat) else -1
theorem i_tk {I : zz_I} (ho : i_ok I) : I.told ≤ I.k ∧ I.told ≤ 40 ∧ (I.ho = 0 ∨ I.ho = 1) := by
  rcases ho.2 with ⟨a, b, c, d, e⟩ | ⟨a, b, c, d, e⟩
  · exact ⟨by omega, by omega, Or.inl a⟩
  · exact ⟨d, e, Or.inr a⟩
theorem t_TQ_count {X : zz_X} {σ : zz_M} {b : Nat} {B : Int} {G : zz_J} {w : Int} (hG : CG σ b B G) (ok : g_ok G) : zz_T X 2 p_TQ_count [zP 11 0 0 b, zI w] σ (fun r σ' => σ = σ' ∧ r = some (zI (a_count G w))) := by
  refine zz_mk k_TQ_count o_TQ_count rfl rfl (Nat.le_of_ble_eq_true rfl) ?_
  show zz_G X 2 p_TQ_count 0 [zP 11 0 0 b, zI w, zU] [] σ _
  obtain ⟨hH, hBt, hBo, hft, him, hmk, htr⟩ := id hG
  obtain ⟨⟨ho, hfx⟩, okt, oko, okm⟩ := id ok
  obtain ⟨hD, hV⟩ := id hH
  obtain ⟨d1, d2, d3, d4, dR⟩ := id hD
  obtain ⟨d5, d6, d7⟩ := id dR
  obtain ⟨t1, t2, t3⟩ := i_tk ho
  refine zz_gsn 5 rfl ?_
  rcases (show w = 0 ∨ w = 1 ∨ w = 2 ∨ w = 3 ∨ w = 4 ∨ w = 5 ∨ w = 6 ∨ w = 7 ∨ (w < 0 ∨ 7 < w) by omega) with hx | hx | hx | hx | hx | hx | hx | hx | hx
  · refine zz_swI 0 6 rfl hx rfl ?_
    refine zz_gsn 2 rfl ?_
    refine zz_ri rfl (Or.inl rfl) ?_
    refine ⟨rfl, congrArg (fun z => some (zI z)) ?_⟩
    subst hx
    exact d2
  · refine zz_swI 1 9 rfl hx rfl ?_
    refine zz_gsn 2 rfl ?_
    refine zz_ri rfl (Or.inl rfl) ?_
    refine ⟨rfl, congrArg (fun z => some (zI z)) ?_⟩
    subst hx
    exact d3
  · refine zz_swI 2 12 rfl hx rfl ?_
    refine zz_gsn 1 rfl ?_
    refine zz_cv (n := 1) rfl rfl (t_Deeds_versions) (Nat.le_of_ble_eq_true rfl) (Nat.le_of_ble_eq_true rfl) (Nat.le_of_ble_eq_true rfl) (fun r13 σ13 q13 => ?_)
    obtain ⟨rfl, n13, rfl, e13⟩ := q13
    have e13 : n13 = if G.I.ho = 0 then 0 else ((G.I.k + 1 : Nat) : Int) := by
      rcases e13 with ⟨z1, z2⟩ | ⟨z1, z2⟩
      · rw [if_neg (fun z => z1 (d1.trans z)), z2, d5]; exact zw_s (by omega)
      · rw [if_pos (d1.symm.trans z1), z2]
    refine zz_ri rfl (Or.inl rfl) ?_
    refine ⟨rfl, congrArg (fun z => some (zI z)) ?_⟩
    subst hx
    exact e13
  · refine zz_swI 3 15 rfl hx rfl ?_
    refine zz_gsn 2 rfl ?_
    refine zz_ri rfl (Or.inl rfl) ?_
    refine ⟨rfl, congrArg (fun z => some (zI z)) ?_⟩
    subst hx
    exact d5
  · refine zz_swI 4 18 rfl hx rfl ?_
    refine zz_gsn 1 rfl ?_
    refine zz_cv (n := 1) rfl rfl (t_Deeds_acts) (Nat.le_of_ble_eq_true rfl) (Nat.le_of_ble_eq_true rfl) (Nat.le_of_ble_eq_true rfl) (fun r19 σ19 q19 => ?_)
    obtain ⟨rfl, rfl⟩ := q19
    refine zz_ri rfl (Or.inl rfl) ?_
    refine ⟨rfl, congrArg (fun z => some (zI z)) ?_⟩
    subst hx
    rw [d5, d4]
    exact zw_id (by omega) (by omega)
  · refine zz_swI 5 21 rfl hx rfl ?_
    refine zz_gsn 1 rfl ?_
    refine zz_cv (n := 1) rfl rfl (t_Deeds_lines) (Nat.le_of_ble_eq_true rfl) (Nat.le_of_ble_eq_true rfl) (Nat.le_of_ble_eq_true rfl) (fun r22 σ22 q22 => ?_)
    obtain ⟨rfl, n22, rfl, e22⟩ := q22
    have e22 : n22 = if G.I.ho = 0 then 0 else ((G.I.told + 1 : Nat) : Int) := by
      rcases e22 with ⟨z1, z2⟩ | ⟨z1, z2⟩
      · rw [if_neg (fun z => z1 (d1.trans z)), z2, d4]; exact zw_s (by omega)
      · rw [if_pos (d1.symm.trans z1), z2]
    refine zz_ri rfl (Or.inl rfl) ?_
    refine ⟨rfl, congrArg (fun z => some (zI z)) ?_⟩
    subst hx
    exact e22
  · refine zz_swI 6 24 rfl hx rfl ?_
    refine zz_gsn 3 rfl ?_
    refine zz_ri rfl (Or.inl rfl) ?_
    refine ⟨rfl, congrArg (fun z => some (zI z)) ?_⟩
    subst hx
    exact hBt.1
  · refine zz_swI 7 28 rfl hx rfl ?_
    refine zz_gsn 3 rfl ?_
    refine zz_ri rfl (Or.inl rfl) ?_
    refine ⟨rfl, congrArg (fun z => some (zI z)) ?_⟩
    subst hx
    exact hBo.1
  · refine zz_swO 32 rfl (by first | exact hx | (simp only [List.length_cons, List.length_nil]; omega)) rfl ?_
    refine zz_gsn 1 rfl ?_
    refine zz_ri rfl (Or.inl rfl) ?_
    refine ⟨rfl, congrArg (fun z => some (zI z)) ?_⟩
    unfold a_count
    rw [if_neg (by omega), if_neg (by omega), if_neg (by omega), if_neg (by omega), if_neg (by omega), if_neg (by omega), if_neg (by omega), if_neg (by omega)]
def a_image (G : zz_J) (k : Int) : Int × zz_J := if (0 ≤ k ∧ k ≤ 2) ∧ G.I.ho = 1 then (0, (G.I, G.t, G.o, G.f, G.p, zu G.m k.toNat G.I)) else (-2, G)
def a_back (G : zz_J) (k : Int) : Int × zz_J := if 0 ≤ k ∧ k ≤ 2 then (if (G.m k.toNat).ho = 0 then (-6, G) else (0, (i_fix (G.m k.toNat), G.2))) else (-2, G)
theorem t_TQ_image {X : zz_X} {σ : zz_M} {b : Nat} {B : Int} {G : zz_J} {k : Int} (hG : CG σ b B G) (ok : g_ok G) : zz_T X 2 p_TQ_image [zP 11 0 0 b, zI k] σ (fun r σ' => r = some (zI (a_image G k).1) ∧ CG σ' b B (a_image G k).2 ∧ zz_F (A_cl b) σ σ') := by
  refine zz_mk k_TQ_image o_TQ_image rfl rfl (Nat.le_of_ble_eq_true rfl) ?_
  show zz_G X 2 p_TQ_image 0 [zP 11 0 0 b, zI k] [] σ _
  obtain ⟨hH, hBt, hBo, hft, him, hmk, htr⟩ := id hG
  obtain ⟨⟨ho, hfx⟩, okt, oko, okm⟩ := id ok
  obtain ⟨hD, hV⟩ := id hH
  obtain ⟨d1, d2, d3, d4, dR⟩ := id hD
  obtain ⟨d5, d6, d7⟩ := id dR
  rcases zz_c3 (0 ≤ k ∧ k ≤ 2) (G.I.ho = 1) with hk | ⟨hk, h1⟩ | ⟨hk, h1⟩
  · refine zz_gsn 1 rfl ?_
    refine zz_br rfl (fun h1 => ?_) (fun h1 => ?_)
    · refine zz_gsn 1 rfl ?_
      refine zz_ri rfl (Or.inl rfl) ?_
      rw [show a_image G k = (-2, G) from if_neg (fun z => hk z.1)]
      exact ⟨rfl, hG, zz_F.rf⟩
    · refine zz_gsn 2 rfl ?_
      refine zz_br rfl (fun h4 => ?_) (fun h4 => absurd ⟨by omega, by omega⟩ hk)
      refine zz_gsn 1 rfl ?_
      refine zz_ri rfl (Or.inl rfl) ?_
      rw [show a_image G k = (-2, G) from if_neg (fun z => hk z.1)]
      exact ⟨rfl, hG, zz_F.rf⟩
  · obtain ⟨k, rfl⟩ : ∃ k' : Nat, k = (k' : Nat) := ⟨k.toNat, by omega⟩
    refine zz_gsn 1 rfl ?_
    refine zz_br rfl (fun h1z => absurd h1z (by omega)) (fun h1z => ?_)
    refine zz_gsn 2 rfl ?_
    refine zz_br rfl (fun h4 => absurd h4 (by omega)) (fun h4 => ?_)
    refine zz_gsn 4 rfl ?_
    refine zz_br rfl (fun h9 => ?_) (fun h9 => absurd (d1.symm.trans (by first | exact h9 | exact Decidable.not_not.mp h9)) (by omega))
    refine zz_gsn 3 rfl ?_
    refine zz_aad rfl (⟨by omega, by omega⟩) ?_
    refine zz_gsn 3 rfl ?_
    refine zz_cv (n := 2) rfl rfl (t_Deeds_become (a := b + 1089 + 4 * k) (b := b + 11 + 1) (by omega) hD (Or.inr h1)) (Nat.le_of_ble_eq_true rfl) (Nat.le_of_ble_eq_true rfl) (Nat.le_of_ble_eq_true rfl) (fun r19 σ19 q19 => ?_)
    obtain ⟨rfl, p19, g19⟩ := q19
    refine zz_gsn 1 rfl ?_
    refine zz_ri rfl (Or.inl rfl) ?_
    rw [show a_image G (k : Nat) = (0, (G.I, G.t, G.o, G.f, G.p, zu G.m k G.I)) from if_pos ⟨hk, h1⟩]
    have F : zz_F (fun a => b + 1089 + 4 * k ≤ a ∧ a ≤ b + 1089 + 4 * k + 3) σ σ19 := g19
    refine ⟨rfl, ⟨hH.f F (fun a z => by omega), hBt.f F (by omega) (by omega), hBo.f F (by omega) (by omega), ?_, fun i hi => ?_, ?_, htr.f F (fun a y1 y2 z => by omega) (fun z => absurd z (Nat.lt_irrefl 0))⟩, F.mono (fun a z => by unfold A_cl; omega)⟩
    · rw [(F (b + 5) (by omega)).1, (F (b + 5) (by omega)).1]; exact hft
    · by_cases e : i = k
      · subst e
        have em : zu G.m i G.I i = G.I := zu_s _ _ _
        show DF σ19 (b + 1089 + 4 * i) (zu G.m i G.I i).ho (zu G.m i G.I i).law (zu G.m i G.I i).C ((zu G.m i G.I i).told : Nat) (zu G.m i G.I i).k (zu G.m i G.I i).D
        rw [em]
        exact p19
      · have em : zu G.m k G.I i = G.m i := zu_n _ _ e
        show DF σ19 (b + 1089 + 4 * i) (zu G.m k G.I i).ho (zu G.m k G.I i).law (zu G.m k G.I i).C ((zu G.m k G.I i).told : Nat) (zu G.m k G.I i).k (zu G.m k G.I i).D
        rw [em]
        exact (him i hi).f F (fun c y1 y2 z => by omega)
    · rw [(F (b + 17) (by omega)).1]; exact ⟨fun i hi => by rw [(F (b + 21) (by omega)).2]; exact hmk.1 i hi, hmk.2⟩
  · have h0 : G.I.ho = 0 := by rcases ho.2 with z | z <;> omega
    refine zz_gsn 1 rfl ?_
    refine zz_br rfl (fun h1z => absurd h1z (by omega)) (fun h1z => ?_)
    refine zz_gsn 2 rfl ?_
    refine zz_br rfl (fun h4 => absurd h4 (by omega)) (fun h4 => ?_)
    refine zz_gsn 4 rfl ?_
    refine zz_br rfl (fun h9 => absurd (d1.trans h0) h9) (fun h9 => ?_)
    refine zz_gsn 1 rfl ?_
    refine zz_ri rfl (Or.inl rfl) ?_
    rw [show a_image G k = (-2, G) from if_neg (fun z => h1 z.2)]
    exact ⟨rfl, hG, zz_F.rf⟩
theorem t_TQ_back {X : zz_X} {σ : zz_M} {b : Nat} {B : Int} {G : zz_J} {k : Int} (hG : CG σ b B G) (ok : g_ok G) : zz_T X 9 p_TQ_back [zP 11 0 0 b, zI k] σ (fun r σ' => r = some (zI (a_back G k).1) ∧ CG σ' b B (a_back G k).2 ∧ zz_F (A_cl b) σ σ') := by
  refine zz_mk k_TQ_back o_TQ_back rfl rfl (Nat.le_of_ble_eq_true rfl) ?_
  show zz_G X 9 p_TQ_back 0 [zP 11 0 0 b, zI k] [] σ _
  obtain ⟨hH, hBt, hBo, hft, him, hmk, htr⟩ := id hG
  obtain ⟨⟨ho, hfx⟩, okt, oko, okm⟩ := id ok
  obtain ⟨hD, hV⟩ := id hH
  obtain ⟨d1, d2, d3, d4, dR⟩ := id hD
  obtain ⟨d5, d6, d7⟩ := id dR
  rcases zz_c3 (0 ≤ k ∧ k ≤ 2) ((G.m k.toNat).ho = 0) with hk | ⟨hk, hm0⟩ | ⟨hk, hm0⟩
  · refine zz_gsn 1 rfl ?_
    refine zz_br rfl (fun h1 => ?_) (fun h1 => ?_)
    · refine zz_gsn 1 rfl ?_
      refine zz_ri rfl (Or.inl rfl) ?_
      rw [show a_back G k = (-2, G) from if_neg hk]
      exact ⟨rfl, hG, zz_F.rf⟩
    · refine zz_gsn 2 rfl ?_
      refine zz_br rfl (fun h4 => absurd ⟨by omega, by omega⟩ hk) (fun h4 => ?_)
      refine zz_gsn 1 rfl ?_
      refine zz_ri rfl (Or.inl rfl) ?_
      rw [show a_back G k = (-2, G) from if_neg hk]
      exact ⟨rfl, hG, zz_F.rf⟩
  · obtain ⟨k, rfl⟩ : ∃ k' : Nat, k = (k' : Nat) := ⟨k.toNat, by omega⟩
    rw [Int.toNat_natCast] at hm0
    have hik := him k (by omega)
    refine zz_gsn 1 rfl ?_
    refine zz_br rfl (fun h1 => absurd h1 (by omega)) (fun h1 => ?_)
    refine zz_gsn 2 rfl ?_
    refine zz_br rfl (fun h4 => ?_) (fun h4 => absurd h4 (by omega))
    refine zz_gsn 3 rfl ?_
    refine zz_aad rfl (⟨by omega, by omega⟩) ?_
    refine zz_gsn 1 rfl ?_
    refine zz_br rfl (fun h12 => absurd (hik.1.trans hm0) h12) (fun h12 => ?_)
    refine zz_gsn 1 rfl ?_
    refine zz_ri rfl (Or.inl rfl) ?_
    rw [show a_back G (k : Nat) = (-6, G) from (if_pos hk).trans (if_pos hm0)]
    exact ⟨rfl, hG, zz_F.rf⟩
  · obtain ⟨k, rfl⟩ : ∃ k' : Nat, k = (k' : Nat) := ⟨k.toNat, by omega⟩
    rw [Int.toNat_natCast] at hm0
    have hik := him k (by omega)
    have hm1 : (G.m k).ho = 1 := (i_ho (okm k (by omega)).1 hm0).1
    refine zz_gsn 1 rfl ?_
    refine zz_br rfl (fun h1 => absurd h1 (by omega)) (fun h1 => ?_)
    refine zz_gsn 2 rfl ?_
    refine zz_br rfl (fun h4 => ?_) (fun h4 => absurd h4 (by omega))
    refine zz_gsn 3 rfl ?_
    refine zz_aad rfl (⟨by omega, by omega⟩) ?_
    refine zz_gsn 1 rfl ?_
    refine zz_br rfl (fun h12 => ?_) (fun h12 => absurd (hik.1.symm.trans (by first | exact h12 | exact Decidable.not_not.mp h12)) hm0)
    refine zz_gsn 5 rfl ?_
    refine zz_aad rfl (⟨by omega, by omega⟩) ?_
    refine zz_cv (n := 2) rfl rfl (t_History_become (h := b + 11) (c := b + 1089 + 4 * k) hH hik (okm k (by omega)).1 hm1 (Or.inr (by omega))) (Nat.le_of_ble_eq_true rfl) (Nat.le_of_ble_eq_true rfl) (Nat.le_of_ble_eq_true rfl) (fun r21 σ21 q21 => ?_)
    obtain ⟨rfl, p21, g21, k21⟩ := q21
    refine zz_gsn 1 rfl ?_
    refine zz_ri rfl (Or.inl rfl) ?_
    rw [show a_back G (k : Nat) = (0, (i_fix (G.m k), G.2)) from (if_pos hk).trans (if_neg hm0)]
    exact ⟨rfl, hG.h p21 g21 k21, clH g21⟩
