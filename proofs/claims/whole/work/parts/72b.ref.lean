/-! the reference: rows and cells -/
theorem t_Mo_row {X : zz_X} {σ : zz_M} {m : Nat} {G : zz_J} {v w : Int} (hG : RG σ m G) (ok : g_ok G) : zz_T X 3 p_Mo_row [zP 12 0 0 m, zI v, zI w] σ (fun r σ' => σ = σ' ∧ r = some (zI (a_row G v w))) := by
  refine zz_mk k_Mo_row o_Mo_row rfl rfl (Nat.le_of_ble_eq_true rfl) ?_
  show zz_G X 3 p_Mo_row 0 [zP 12 0 0 m, zI v, zI w] [] σ _
  obtain ⟨hI, hT, hO, hF, hM, h10⟩ := id hG
  obtain ⟨⟨ho, hfx⟩, okt, oko, okm⟩ := id ok
  have hk6 := ho.1.2.2.1
  rcases Classical.em (vz G.I.ho G.I.k v ∧ 0 ≤ w ∧ w ≤ 5) with hc | hc
  · obtain ⟨hv, hw0⟩ := id hc
    obtain ⟨v, rfl⟩ : ∃ w' : Nat, v = (w' : Nat) := ⟨v.toNat, by omega⟩
    obtain ⟨z0, w1, w2⟩ := id hv
    obtain ⟨hone, ⟨q1, q2, q3, q4⟩, hV⟩ := ri_y hI z0
    obtain ⟨⟨r1, r2, r3⟩, r4, r5, r6, r7⟩ := id hV
    have hw1 : v ≤ G.I.k := by omega
    obtain ⟨hS, hq1, hq2⟩ := r4 v hw1
    obtain ⟨w, rfl⟩ : ∃ w' : Nat, w = (w' : Nat) := ⟨w.toNat, by omega⟩
    have hw6 : w < 6 := by omega
    have hch := hS.1 w hw6
    have hcl := hS.2.2.2 w hw6
    have hn9 : (hw (IH G.I) v).n ≤ 1890 := h_nb (h_inv ho.1) hk6
    have hll : ((hw (IH G.I) v).R w).length ≤ 200 := by
      have z := (IV_bd ((h_inv ho.1).1 v hw1).1).1 w hw6
      have z2 : ((hw (IH G.I) v).R w).length ≤ 2 * v + 1 := z
      omega
    refine zz_gsn 2 rfl ?_
    refine zz_cv (n := 2) rfl rfl (t_Mo_isVersion) (Nat.le_of_ble_eq_true rfl) (Nat.le_of_ble_eq_true rfl) (Nat.le_of_ble_eq_true rfl) (fun r2 σ2 q2 => ?_)
    obtain ⟨rfl, n2, rfl, e2⟩ := q2
    replace e2 := rv_of hI ho e2
    replace e2 : n2 = 1 := e2.elim (fun z => z.1) (fun z => absurd hv z.2)
    refine zz_br rfl (fun h3 => absurd h3 (by omega)) (fun h3 => ?_)
    refine zz_gsn 4 rfl ?_
    refine zz_cs (n := 3) rfl rfl (t_Mo_in) (Nat.le_of_ble_eq_true rfl) (Nat.le_of_ble_eq_true rfl) (Nat.le_of_ble_eq_true rfl) (fun r8 σ8 q8 => ?_)
    obtain ⟨rfl, n8, rfl, e8⟩ := q8
    refine zz_br rfl (fun h9 => absurd h9 (by omega)) (fun h9 => ?_)
    refine zz_gsn 4 rfl ?_
    refine zz_cv (n := 3) rfl rfl (t_Mo_of (s := v) (k := w) (by omega) (by omega)) (Nat.le_of_ble_eq_true rfl) (Nat.le_of_ble_eq_true rfl) (Nat.le_of_ble_eq_true rfl) (fun r14 σ14 q14 => ?_)
    obtain ⟨rfl, rfl⟩ := q14
    refine zz_cv (n := 2) rfl rfl (t_Mo_lengthOf (l := (hw (IH G.I) v).R w) hch (fun c hc => Nat.lt_of_lt_of_le (hcl c hc) (by omega)) (by omega)) (Nat.le_of_ble_eq_true rfl) (Nat.le_of_ble_eq_true rfl) (Nat.le_of_ble_eq_true rfl) (fun r15 σ15 q15 => ?_)
    obtain ⟨rfl, rfl⟩ := q15
    refine zz_jp rfl ?_
    refine zz_ri rfl (Or.inl rfl) ?_
    exact ⟨rfl, congrArg (fun z => some (zI z)) ((rfl).trans (if_pos hc).symm)⟩
  · refine zz_gsn 2 rfl ?_
    refine zz_cv (n := 2) rfl rfl (t_Mo_isVersion) (Nat.le_of_ble_eq_true rfl) (Nat.le_of_ble_eq_true rfl) (Nat.le_of_ble_eq_true rfl) (fun r2 σ2 q2 => ?_)
    obtain ⟨rfl, n2, rfl, e2⟩ := q2
    replace e2 := rv_of hI ho e2
    refine zz_br rfl (fun h3 => ?_) (fun h3 => ?_)
    · refine zz_gsn 1 rfl ?_
      refine zz_ri rfl (Or.inl rfl) ?_
      exact ⟨rfl, congrArg (fun z => some (zI z)) (if_neg hc).symm⟩
    · refine zz_gsn 4 rfl ?_
      refine zz_cs (n := 3) rfl rfl (t_Mo_in) (Nat.le_of_ble_eq_true rfl) (Nat.le_of_ble_eq_true rfl) (Nat.le_of_ble_eq_true rfl) (fun r8 σ8 q8 => ?_)
      obtain ⟨rfl, n8, rfl, e8⟩ := q8
      refine zz_br rfl (fun h9 => ?_) (fun h9 => absurd ⟨e2.elim (fun z => z.2) (fun z => absurd z.1 h3), e8.elim (fun z => ⟨z.2.1, z.2.2⟩) (fun z => absurd z.1 h9)⟩ hc)
      refine zz_gsn 1 rfl ?_
      refine zz_ri rfl (Or.inl rfl) ?_
      exact ⟨rfl, congrArg (fun z => some (zI z)) (if_neg hc).symm⟩
theorem lp_cellR {X : zz_X} {m n : Nat} {v w : Int} {σ : zz_M} {Post : Option zz_V → zz_M → Prop} (hn : n ≤ 20000) (l0 : List Nat) (i : Nat) (hl : ∀ c ∈ l0, c < n) (hi : l0.length < 1000000) (kk : ∀ y : Int, zz_G X 3 p_Mo_cell 34 [zP 12 0 0 m, zI v, zI w, zI (i : Nat), zI (zl_at l0 i), zI y] [] σ Post) :
    ∀ (r j : Nat) (cell : Int), j + r = i → zz_ch (σ.2 (m + 2)) cell (l0.drop j) → zz_G X 3 p_Mo_cell 21 [zP 12 0 0 m, zI v, zI w, zI (i : Nat), zI cell, zI (j : Nat)] [] σ Post := by
  intro r
  induction r with
  | zero =>
    intro j cell hj hc
    have e : j = i := hj
    subst e
    have ec : cell = zl_at l0 j := by
      cases h : l0.drop j with
      | nil =>
        rw [h] at hc
        unfold zl_at
        rw [List.getElem?_eq_none (List.drop_eq_nil_iff.mp h)]
        exact hc
      | cons x t =>
        rw [h] at hc
        unfold zl_at
        rw [(zl_at_s h).1]
        exact hc.1
    rw [ec]
    refine zz_gsn 2 rfl ?_
    refine zz_br rfl (fun h23 => ?_) (fun h23 => absurd h23 (by omega))
    exact kk _
  | succ r ih =>
    intro j cell hj hc
    cases h : l0.drop j with
    | nil =>
      rw [h] at hc
      have e1 : cell = -1 := hc
      have e2 : zl_at l0 i = -1 := by
        unfold zl_at
        rw [List.getElem?_eq_none (by have := List.drop_eq_nil_iff.mp h; omega)]
      rw [e1]
      rw [e2] at kk
      refine zz_gsn 2 rfl ?_
      refine zz_br rfl (fun h23 => absurd h23 (by omega)) (fun h23 => ?_)
      refine zz_gsn 2 rfl ?_
      refine zz_br rfl (fun h26 => ?_) (fun h26 => absurd rfl h26)
      exact kk _
    | cons x t =>
      rw [h] at hc
      obtain ⟨c1, c2⟩ := hc
      subst c1
      obtain ⟨g1, g2⟩ := zl_at_s h
      have hx : x < n := hl x (List.mem_of_getElem? g1)
      refine zz_gsn 2 rfl ?_
      refine zz_br rfl (fun h23 => absurd h23 (by omega)) (fun h23 => ?_)
      refine zz_gsn 2 rfl ?_
      refine zz_br rfl (fun h26 => absurd h26 (by omega)) (fun h26 => ?_)
      refine zz_gsn 3 rfl ?_
      refine zz_ald rfl (⟨by omega, by omega⟩) ?_
      refine zz_gsn 2 rfl ?_
      refine zz_jp rfl ?_
      rw [zw_s (by have := (List.getElem?_eq_some_iff.mp g1).1; omega), Int.toNat_natCast]
      exact ih (j + 1) _ (by omega) (by rw [g2]; exact c2)
theorem lp_originR {X : zz_X} {m n : Nat} {v w : Int} {σ : zz_M} {Post : Option zz_V → zz_M → Prop} (hn : n ≤ 20000) (l0 : List Nat) (i : Nat) (hl : ∀ c ∈ l0, c < n) (hi : l0.length < 1000000) (kk : ∀ y : Int, zz_G X 3 p_Mo_origin 34 [zP 12 0 0 m, zI v, zI w, zI (i : Nat), zI (zl_at l0 i), zI y] [] σ Post) :
    ∀ (r j : Nat) (cell : Int), j + r = i → zz_ch (σ.2 (m + 2)) cell (l0.drop j) → zz_G X 3 p_Mo_origin 21 [zP 12 0 0 m, zI v, zI w, zI (i : Nat), zI cell, zI (j : Nat)] [] σ Post := by
  intro r
  induction r with
  | zero =>
    intro j cell hj hc
    have e : j = i := hj
    subst e
    have ec : cell = zl_at l0 j := by
      cases h : l0.drop j with
      | nil =>
        rw [h] at hc
        unfold zl_at
        rw [List.getElem?_eq_none (List.drop_eq_nil_iff.mp h)]
        exact hc
      | cons x t =>
        rw [h] at hc
        unfold zl_at
        rw [(zl_at_s h).1]
        exact hc.1
    rw [ec]
    refine zz_gsn 2 rfl ?_
    refine zz_br rfl (fun h23 => ?_) (fun h23 => absurd h23 (by omega))
    exact kk _
  | succ r ih =>
    intro j cell hj hc
    cases h : l0.drop j with
    | nil =>
      rw [h] at hc
      have e1 : cell = -1 := hc
      have e2 : zl_at l0 i = -1 := by
        unfold zl_at
        rw [List.getElem?_eq_none (by have := List.drop_eq_nil_iff.mp h; omega)]
      rw [e1]
      rw [e2] at kk
      refine zz_gsn 2 rfl ?_
      refine zz_br rfl (fun h23 => absurd h23 (by omega)) (fun h23 => ?_)
      refine zz_gsn 2 rfl ?_
      refine zz_br rfl (fun h26 => ?_) (fun h26 => absurd rfl h26)
      exact kk _
    | cons x t =>
      rw [h] at hc
      obtain ⟨c1, c2⟩ := hc
      subst c1
      obtain ⟨g1, g2⟩ := zl_at_s h
      have hx : x < n := hl x (List.mem_of_getElem? g1)
      refine zz_gsn 2 rfl ?_
      refine zz_br rfl (fun h23 => absurd h23 (by omega)) (fun h23 => ?_)
      refine zz_gsn 2 rfl ?_
      refine zz_br rfl (fun h26 => absurd h26 (by omega)) (fun h26 => ?_)
      refine zz_gsn 3 rfl ?_
      refine zz_ald rfl (⟨by omega, by omega⟩) ?_
      refine zz_gsn 2 rfl ?_
      refine zz_jp rfl ?_
      rw [zw_s (by have := (List.getElem?_eq_some_iff.mp g1).1; omega), Int.toNat_natCast]
      exact ih (j + 1) _ (by omega) (by rw [g2]; exact c2)
theorem mkr_of {law : Int} {j c : Nat} {H : zz_H} (h : h_in law j H) (hc : c < H.n) : ∃ i, i < j ∧ H.mkr c = (i : Nat) ∧ H.bf i ≤ c ∧ ∀ i', i < i' → i' < j → c < H.bf i' := h.2.2.2.2.2 c hc
theorem lp_dof {X : zz_X} {m k i c : Nat} {f : Nat → Nat} {σ : zz_M} {Post : Option zz_V → zz_M → Prop} (hk : k ≤ 60) (hik : i < k) (hf : ∀ i, i < k → σ.2 (m + 10) (i + 1) = (f i : Nat)) (h1 : f i ≤ c) (h2 : ∀ i', i < i' → i' < k → c < f i') (kk : Post (some (zI (i : Nat))) σ) :
    ∀ (r v : Nat), i + 1 + r = v → v ≤ k → zz_G X 1 p_Mo_deedOf 5 [zP 12 0 0 m, zI (c : Nat), zI (v : Nat)] [] σ Post := by
  intro r
  induction r with
  | zero =>
    intro v hv hvk
    have e : i + 1 = v := hv
    subst e
    have ez : zw (((i + 1 : Nat) : Int) - 1) = ((i : Nat) : Int) := zw_p (n := i + 1) (Nat.succ_pos _) (by omega)
    refine zz_gsn 3 rfl ?_
    refine zz_ald rfl (⟨by clear ez; omega, by clear ez; omega⟩) ?_
    rw [Int.toNat_natCast, hf i hik]
    refine zz_gsn 1 rfl ?_
    refine zz_br rfl (fun h10 => ?_) (fun h10 => absurd h10 (by clear ez; omega))
    refine zz_gsn 3 rfl ?_
    refine zz_ri rfl (Or.inl rfl) ?_
    rw [ez]
    exact kk
  | succ r ih =>
    intro v hv hvk
    obtain ⟨u, rfl⟩ : ∃ u, v = u + 1 := ⟨v - 1, by omega⟩
    have hu := h2 u (by omega) (by omega)
    have ez : zw (((u + 1 : Nat) : Int) + -1) = ((u : Nat) : Int) := zw_p (n := u + 1) (Nat.succ_pos _) (by omega)
    refine zz_gsn 3 rfl ?_
    refine zz_ald rfl (⟨by clear ez; omega, by clear ez; omega⟩) ?_
    rw [Int.toNat_natCast, hf u (by clear ez; omega)]
    refine zz_gsn 1 rfl ?_
    refine zz_br rfl (fun h10 => absurd h10 (by clear ez; omega)) (fun h10 => ?_)
    refine zz_gsn 1 rfl ?_
    refine zz_jp rfl ?_
    rw [ez]
    clear ez
    exact ih u (by omega) (by omega)
theorem t_Mo_deedOf {X : zz_X} {σ : zz_M} {m c : Nat} {I : zz_I} (hV : RV σ m I.law I.C I.k (IH I) I.D) (ho : i_ok I) (hc : c < (IH I).n) : zz_T X 1 p_Mo_deedOf [zP 12 0 0 m, zI (c : Nat)] σ (fun r σ' => σ = σ' ∧ r = some (zI ((IH I).mkr c))) := by
  refine zz_mk k_Mo_deedOf o_Mo_deedOf rfl rfl (Nat.le_of_ble_eq_true rfl) ?_
  show zz_G X 1 p_Mo_deedOf 0 [zP 12 0 0 m, zI (c : Nat), zU] [] σ _
  refine zz_gsn 5 rfl ?_
  obtain ⟨i, i1, i2, i3, i4⟩ := mkr_of (h_inv ho.1) hc
  have i2 : (IH I).mkr c = (i : Nat) := i2
  rw [hV.1.2.2, zw_p (n := I.k + 1) (Nat.succ_pos _) (by have := ho.1.2.2.1; omega), i2]
  exact lp_dof (f := (IH I).bf) ho.1.2.2.1 i1 (fun j hj => (hV.2.2.1 j hj).1.2.2) i3 i4 ⟨rfl, rfl⟩ (I.k - (i + 1)) I.k (by omega) (Nat.le_refl _)
theorem lp_cellE {X : zz_X} {m : Nat} {v w : Int} {i : Nat} {G : zz_J} {l : List Nat} {σ : zz_M} {Post : Option zz_V → zz_M → Prop} (hV : RV σ m G.I.law G.I.C G.I.k (IH G.I) G.I.D) (ho : i_ok G.I) (hl : ∀ c ∈ l, c < (IH G.I).n) (kk : Post (some (zI (c_of (gW G).num (zl_at l i)))) σ) (y : Int) : zz_G X 3 p_Mo_cell 34 [zP 12 0 0 m, zI v, zI w, zI (i : Nat), zI (zl_at l i), zI y] [] σ Post := by
  have hn := h_nb (h_inv ho.1) ho.1.2.2.1
  have hn2 : (IH G.I).n ≤ 1890 := hn
  rcases zl_at_b (i := i) hl with z | ⟨c, c1, c2, z⟩
  · rw [z] at kk ⊢
    refine zz_gsn 2 rfl ?_
    refine zz_br rfl (fun h36 => absurd rfl h36) (fun h36 => ?_)
    refine zz_gsn 1 rfl ?_
    refine zz_jp rfl ?_
    refine zz_ri rfl (Or.inl rfl) ?_
    exact kk
  · rw [z] at kk ⊢
    have e : c_of (gW G).num ((c : Nat) : Int) = (gW G).num c := if_pos (by omega)
    rw [e] at kk
    refine zz_gsn 2 rfl ?_
    refine zz_br rfl (fun h36 => ?_) (fun h36 => absurd h36 (by omega))
    refine zz_gsn 3 rfl ?_
    refine zz_ald rfl (⟨by omega, by omega⟩) ?_
    refine zz_ri rfl (Or.inl rfl) ?_
    rw [Int.toNat_natCast, (hV.2.1 0 (Nat.zero_le _)).1.2.2.1.2 c c1]
    exact kk
theorem t_Mo_cell {X : zz_X} {σ : zz_M} {m : Nat} {G : zz_J} {v w i : Int} (hG : RG σ m G) (ok : g_ok G) : zz_T X 3 p_Mo_cell [zP 12 0 0 m, zI v, zI w, zI i] σ (fun r σ' => σ = σ' ∧ r = some (zI (a_cell G v w i))) := by
  refine zz_mk k_Mo_cell o_Mo_cell rfl rfl (Nat.le_of_ble_eq_true rfl) ?_
  show zz_G X 3 p_Mo_cell 0 [zP 12 0 0 m, zI v, zI w, zI i, zU, zU] [] σ _
  obtain ⟨hI, hT, hO, hF, hM, h10⟩ := id hG
  obtain ⟨⟨ho, hfx⟩, okt, oko, okm⟩ := id ok
  have hk6 := ho.1.2.2.1
  rcases Classical.em (vz G.I.ho G.I.k v ∧ 0 ≤ w ∧ w ≤ 5) with hc | hc
  · obtain ⟨hv, hw0⟩ := id hc
    obtain ⟨v, rfl⟩ : ∃ w' : Nat, v = (w' : Nat) := ⟨v.toNat, by omega⟩
    obtain ⟨z0, w1, w2⟩ := id hv
    obtain ⟨hone, ⟨q1, q2, q3, q4⟩, hV⟩ := ri_y hI z0
    obtain ⟨⟨r1, r2, r3⟩, r4, r5, r6, r7⟩ := id hV
    have hw1 : v ≤ G.I.k := by omega
    obtain ⟨hS, hq1, hq2⟩ := r4 v hw1
    obtain ⟨w, rfl⟩ : ∃ w' : Nat, w = (w' : Nat) := ⟨w.toNat, by omega⟩
    have hw6 : w < 6 := by omega
    have hch := hS.1 w hw6
    have hcl := hS.2.2.2 w hw6
    have hn9 : (hw (IH G.I) v).n ≤ 1890 := h_nb (h_inv ho.1) hk6
    have hll : ((hw (IH G.I) v).R w).length ≤ 200 := by
      have z := (IV_bd ((h_inv ho.1).1 v hw1).1).1 w hw6
      have z2 : ((hw (IH G.I) v).R w).length ≤ 2 * v + 1 := z
      omega
    refine zz_gsn 2 rfl ?_
    refine zz_cv (n := 2) rfl rfl (t_Mo_isVersion) (Nat.le_of_ble_eq_true rfl) (Nat.le_of_ble_eq_true rfl) (Nat.le_of_ble_eq_true rfl) (fun r2 σ2 q2 => ?_)
    obtain ⟨rfl, n2, rfl, e2⟩ := q2
    replace e2 := rv_of hI ho e2
    replace e2 : n2 = 1 := e2.elim (fun z => z.1) (fun z => absurd hv z.2)
    refine zz_br rfl (fun h3 => absurd h3 (by omega)) (fun h3 => ?_)
    refine zz_gsn 4 rfl ?_
    refine zz_cs (n := 3) rfl rfl (t_Mo_in) (Nat.le_of_ble_eq_true rfl) (Nat.le_of_ble_eq_true rfl) (Nat.le_of_ble_eq_true rfl) (fun r8 σ8 q8 => ?_)
    obtain ⟨rfl, n8, rfl, e8⟩ := q8
    refine zz_br rfl (fun h9 => absurd h9 (by omega)) (fun h9 => ?_)
    refine zz_gsn 1 rfl ?_
    refine zz_br rfl (fun h11 => ?_) (fun h11 => ?_)
    · refine zz_gsn 3 rfl ?_
      refine zz_cv (n := 3) rfl rfl (t_Mo_of (s := v) (k := w) (by omega) (by omega)) (Nat.le_of_ble_eq_true rfl) (Nat.le_of_ble_eq_true rfl) (Nat.le_of_ble_eq_true rfl) (fun r17 σ17 q17 => ?_)
      obtain ⟨rfl, rfl⟩ := q17
      refine zz_gsn 3 rfl ?_
      obtain ⟨i, rfl⟩ : ∃ i' : Nat, i = (i' : Nat) := ⟨i.toNat, by omega⟩
      refine lp_cellR (n := (IH G.I).n) (Nat.le_trans hn9 (by decide)) ((hw (IH G.I) v).R w) i hcl (by omega) (fun y => lp_cellE hV ho hcl ?_ y) i 0 _ (Nat.zero_add _) hch
      exact ⟨rfl, congrArg (fun z => some (zI z)) (if_pos ⟨hc, by omega⟩).symm⟩
    · refine zz_gsn 1 rfl ?_
      refine zz_ri rfl (Or.inl rfl) ?_
      exact ⟨rfl, congrArg (fun z => some (zI z)) (if_neg (fun z => absurd z.2 (by omega))).symm⟩
  · refine zz_gsn 2 rfl ?_
    refine zz_cv (n := 2) rfl rfl (t_Mo_isVersion) (Nat.le_of_ble_eq_true rfl) (Nat.le_of_ble_eq_true rfl) (Nat.le_of_ble_eq_true rfl) (fun r2 σ2 q2 => ?_)
    obtain ⟨rfl, n2, rfl, e2⟩ := q2
    replace e2 := rv_of hI ho e2
    refine zz_br rfl (fun h3 => ?_) (fun h3 => ?_)
    · refine zz_gsn 1 rfl ?_
      refine zz_ri rfl (Or.inl rfl) ?_
      exact ⟨rfl, congrArg (fun z => some (zI z)) (if_neg (fun z => hc z.1)).symm⟩
    · refine zz_gsn 4 rfl ?_
      refine zz_cs (n := 3) rfl rfl (t_Mo_in) (Nat.le_of_ble_eq_true rfl) (Nat.le_of_ble_eq_true rfl) (Nat.le_of_ble_eq_true rfl) (fun r8 σ8 q8 => ?_)
      obtain ⟨rfl, n8, rfl, e8⟩ := q8
      refine zz_br rfl (fun h9 => ?_) (fun h9 => absurd ⟨e2.elim (fun z => z.2) (fun z => absurd z.1 h3), e8.elim (fun z => ⟨z.2.1, z.2.2⟩) (fun z => absurd z.1 h9)⟩ hc)
      refine zz_gsn 1 rfl ?_
      refine zz_ri rfl (Or.inl rfl) ?_
      exact ⟨rfl, congrArg (fun z => some (zI z)) (if_neg (fun z => hc z.1)).symm⟩
theorem lp_originE {X : zz_X} {m : Nat} {v w : Int} {i : Nat} {G : zz_J} {l : List Nat} {σ : zz_M} {Post : Option zz_V → zz_M → Prop} (hV : RV σ m G.I.law G.I.C G.I.k (IH G.I) G.I.D) (ho : i_ok G.I) (hl : ∀ c ∈ l, c < (IH G.I).n) (kk : Post (some (zI (c_of (gW G).mkr (zl_at l i)))) σ) (y : Int) : zz_G X 3 p_Mo_origin 34 [zP 12 0 0 m, zI v, zI w, zI (i : Nat), zI (zl_at l i), zI y] [] σ Post := by
  have hn := h_nb (h_inv ho.1) ho.1.2.2.1
  have hn2 : (IH G.I).n ≤ 1890 := hn
  rcases zl_at_b (i := i) hl with z | ⟨c, c1, c2, z⟩
  · rw [z] at kk ⊢
    refine zz_gsn 2 rfl ?_
    refine zz_br rfl (fun h36 => absurd rfl h36) (fun h36 => ?_)
    refine zz_gsn 1 rfl ?_
    refine zz_jp rfl ?_
    refine zz_ri rfl (Or.inl rfl) ?_
    exact kk
  · rw [z] at kk ⊢
    have e : c_of (gW G).mkr ((c : Nat) : Int) = (gW G).mkr c := if_pos (by omega)
    rw [e] at kk
    refine zz_gsn 2 rfl ?_
    refine zz_br rfl (fun h36 => ?_) (fun h36 => absurd h36 (by omega))
    refine zz_gsn 2 rfl ?_
    refine zz_cv (n := 2) rfl rfl (t_Mo_deedOf hV ho c1) (Nat.le_of_ble_eq_true rfl) (Nat.le_of_ble_eq_true rfl) (Nat.le_of_ble_eq_true rfl) (fun r41 σ41 q41 => ?_)
    obtain ⟨rfl, rfl⟩ := q41
    refine zz_ri rfl (Or.inl rfl) ?_
    exact kk
theorem t_Mo_origin {X : zz_X} {σ : zz_M} {m : Nat} {G : zz_J} {v w i : Int} (hG : RG σ m G) (ok : g_ok G) : zz_T X 3 p_Mo_origin [zP 12 0 0 m, zI v, zI w, zI i] σ (fun r σ' => σ = σ' ∧ r = some (zI (a_origin G v w i))) := by
  refine zz_mk k_Mo_origin o_Mo_origin rfl rfl (Nat.le_of_ble_eq_true rfl) ?_
  show zz_G X 3 p_Mo_origin 0 [zP 12 0 0 m, zI v, zI w, zI i, zU, zU] [] σ _
  obtain ⟨hI, hT, hO, hF, hM, h10⟩ := id hG
  obtain ⟨⟨ho, hfx⟩, okt, oko, okm⟩ := id ok
  have hk6 := ho.1.2.2.1
  rcases Classical.em (vz G.I.ho G.I.k v ∧ 0 ≤ w ∧ w ≤ 5) with hc | hc
  · obtain ⟨hv, hw0⟩ := id hc
    obtain ⟨v, rfl⟩ : ∃ w' : Nat, v = (w' : Nat) := ⟨v.toNat, by omega⟩
    obtain ⟨z0, w1, w2⟩ := id hv
    obtain ⟨hone, ⟨q1, q2, q3, q4⟩, hV⟩ := ri_y hI z0
    obtain ⟨⟨r1, r2, r3⟩, r4, r5, r6, r7⟩ := id hV
    have hw1 : v ≤ G.I.k := by omega
    obtain ⟨hS, hq1, hq2⟩ := r4 v hw1
    obtain ⟨w, rfl⟩ : ∃ w' : Nat, w = (w' : Nat) := ⟨w.toNat, by omega⟩
    have hw6 : w < 6 := by omega
    have hch := hS.1 w hw6
    have hcl := hS.2.2.2 w hw6
    have hn9 : (hw (IH G.I) v).n ≤ 1890 := h_nb (h_inv ho.1) hk6
    have hll : ((hw (IH G.I) v).R w).length ≤ 200 := by
      have z := (IV_bd ((h_inv ho.1).1 v hw1).1).1 w hw6
      have z2 : ((hw (IH G.I) v).R w).length ≤ 2 * v + 1 := z
      omega
    refine zz_gsn 2 rfl ?_
    refine zz_cv (n := 2) rfl rfl (t_Mo_isVersion) (Nat.le_of_ble_eq_true rfl) (Nat.le_of_ble_eq_true rfl) (Nat.le_of_ble_eq_true rfl) (fun r2 σ2 q2 => ?_)
    obtain ⟨rfl, n2, rfl, e2⟩ := q2
    replace e2 := rv_of hI ho e2
    replace e2 : n2 = 1 := e2.elim (fun z => z.1) (fun z => absurd hv z.2)
    refine zz_br rfl (fun h3 => absurd h3 (by omega)) (fun h3 => ?_)
    refine zz_gsn 4 rfl ?_
    refine zz_cs (n := 3) rfl rfl (t_Mo_in) (Nat.le_of_ble_eq_true rfl) (Nat.le_of_ble_eq_true rfl) (Nat.le_of_ble_eq_true rfl) (fun r8 σ8 q8 => ?_)
    obtain ⟨rfl, n8, rfl, e8⟩ := q8
    refine zz_br rfl (fun h9 => absurd h9 (by omega)) (fun h9 => ?_)
    refine zz_gsn 1 rfl ?_
    refine zz_br rfl (fun h11 => ?_) (fun h11 => ?_)
    · refine zz_gsn 3 rfl ?_
      refine zz_cv (n := 3) rfl rfl (t_Mo_of (s := v) (k := w) (by omega) (by omega)) (Nat.le_of_ble_eq_true rfl) (Nat.le_of_ble_eq_true rfl) (Nat.le_of_ble_eq_true rfl) (fun r17 σ17 q17 => ?_)
      obtain ⟨rfl, rfl⟩ := q17
      refine zz_gsn 3 rfl ?_
      obtain ⟨i, rfl⟩ : ∃ i' : Nat, i = (i' : Nat) := ⟨i.toNat, by omega⟩
      refine lp_originR (n := (IH G.I).n) (Nat.le_trans hn9 (by decide)) ((hw (IH G.I) v).R w) i hcl (by omega) (fun y => lp_originE hV ho hcl ?_ y) i 0 _ (Nat.zero_add _) hch
      exact ⟨rfl, congrArg (fun z => some (zI z)) (if_pos ⟨hc, by omega⟩).symm⟩
    · refine zz_gsn 1 rfl ?_
      refine zz_ri rfl (Or.inl rfl) ?_
      exact ⟨rfl, congrArg (fun z => some (zI z)) (if_neg (fun z => absurd z.2 (by omega))).symm⟩
  · refine zz_gsn 2 rfl ?_
    refine zz_cv (n := 2) rfl rfl (t_Mo_isVersion) (Nat.le_of_ble_eq_true rfl) (Nat.le_of_ble_eq_true rfl) (Nat.le_of_ble_eq_true rfl) (fun r2 σ2 q2 => ?_)
    obtain ⟨rfl, n2, rfl, e2⟩ := q2
    replace e2 := rv_of hI ho e2
    refine zz_br rfl (fun h3 => ?_) (fun h3 => ?_)
    · refine zz_gsn 1 rfl ?_
      refine zz_ri rfl (Or.inl rfl) ?_
      exact ⟨rfl, congrArg (fun z => some (zI z)) (if_neg (fun z => hc z.1)).symm⟩
    · refine zz_gsn 4 rfl ?_
      refine zz_cs (n := 3) rfl rfl (t_Mo_in) (Nat.le_of_ble_eq_true rfl) (Nat.le_of_ble_eq_true rfl) (Nat.le_of_ble_eq_true rfl) (fun r8 σ8 q8 => ?_)
      obtain ⟨rfl, n8, rfl, e8⟩ := q8
      refine zz_br rfl (fun h9 => ?_) (fun h9 => absurd ⟨e2.elim (fun z => z.2) (fun z => absurd z.1 h3), e8.elim (fun z => ⟨z.2.1, z.2.2⟩) (fun z => absurd z.1 h9)⟩ hc)
      refine zz_gsn 1 rfl ?_
      refine zz_ri rfl (Or.inl rfl) ?_
      exact ⟨rfl, congrArg (fun z => some (zI z)) (if_neg (fun z => hc z.1)).symm⟩
