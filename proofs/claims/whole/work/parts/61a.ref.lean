/-! the reference: lengths, copies -/
theorem HM_putp {mk x : Int} {W : zz_W} (h : HM W) : (IM (w_chg 1 mk 0 x W) ∧ w_len 1 (w_chg 1 mk 0 x W) ≤ (w_chg 1 mk 0 x W).S 6 + 1) ∨ (∃ s N t, OM (w_chg 1 mk 0 x W) s N t ∧ w_len 1 (w_chg 1 mk 0 x W) ≤ (w_chg 1 mk 0 x W).S 6 ∧ s + 2 = 2 * (t + w_l 1 (w_chg 1 mk 0 x W) + 1)) := by
  obtain ⟨h9, h10, h11, h⟩ := h
  obtain ⟨W1, hW1⟩ : ∃ W1, W1 = w_chg 1 mk 0 x W := ⟨_, rfl⟩
  have hl : w_l 1 W1 = w_l 1 W + 1 := by rw [hW1]; rfl
  have hl' : w_len 1 W1 = w_len 1 W + 1 := by show (w_l 1 W1 : Int) = (w_l 1 W : Int) + 1; omega
  have hn : W1.n = W.n + 1 := by rw [hW1]; rfl
  have hz : w_len 1 W = (w_l 1 W : Nat) := rfl
  rw [← hW1]
  have k6 : W1.S 6 = W.S 6 := by rw [hW1]; rfl
  exact (by
    rcases h with ⟨h, hb⟩ | ⟨N, t, h⟩ | ⟨N, t, h⟩
    · exact Or.inl ⟨by rw [hW1]; exact h, by rw [hl', k6]; omega⟩
    · refine Or.inr ⟨_, N, t, Or.inl (by rw [hW1]; exact h), ?_, by rw [hl]; omega⟩
      obtain ⟨a7, a3, a5, a2, a4, a0, a8, a6⟩ := h
      rw [hl', k6]
      omega
    · refine Or.inr ⟨_, N, t, Or.inr (Or.inl (by rw [hW1]; exact h)), ?_, by rw [hl]; omega⟩
      obtain ⟨a7, a2, a4, a5, a3, a0, a8, ag, a6⟩ := h
      rw [hl', k6]
      omega)
theorem HM_takep {mk x : Int} {W : zz_W} (h : HM W) (hpos : 0 < W.S 11) : (IM (w_chg 1 mk 1 x W) ∧ w_len 1 (w_chg 1 mk 1 x W) ≤ (w_chg 1 mk 1 x W).S 6 + 1) ∨ (∃ s N t, OM (w_chg 1 mk 1 x W) s N t ∧ w_len 1 (w_chg 1 mk 1 x W) ≤ (w_chg 1 mk 1 x W).S 6 ∧ s + 2 = 2 * (t + w_l 1 (w_chg 1 mk 1 x W) + 1)) := by
  obtain ⟨h9, h10, h11, h⟩ := h
  have hz : w_len 1 W = (w_l 1 W : Nat) := rfl
  have h0 : 0 < w_l 0 W := by
    rcases h with ⟨h, hb⟩ | ⟨N, t, h⟩ | ⟨N, t, h⟩
    · obtain ⟨i7, i2, i3, i4, i5, i8, i0⟩ := h
      omega
    · obtain ⟨a7, a3, a5, a2, a4, a0, a8, a6⟩ := h
      omega
    · obtain ⟨a7, a2, a4, a5, a3, a0, a8, ag, a6⟩ := h
      omega
  have hne : W.R 0 ≠ [] := fun z => by have := w_nil' z; omega
  obtain ⟨W0, hW0⟩ : ∃ W0, W0 = w_S 11 (W.S 11 - 1) W := ⟨_, rfl⟩
  obtain ⟨W1, hW1⟩ : ∃ W1, W1 = w_chg 1 mk 1 x W := ⟨_, rfl⟩
  have hc : W1 = w_pop 0 (w_dis W0) := by
    rw [hW1, w_chg1 mk x W rfl, ← hW0, if_neg (by rw [w_dis_R W0 (by decide), hW0]; exact hne)]
  rw [← hW1]
  have ds := w_dis_S W0
  have s6 : W1.S 6 = W.S 6 - 1 := by rw [hc]; show (w_dis W0).S 6 = _; rw [ds.1, hW0]; rfl
  have s9 : W1.S 9 = 0 := by rw [hc]; show (w_dis W0).S 9 = _; rw [ds.2.2.1, hW0]; exact h9
  have s10 : W1.S 10 = 0 := by rw [hc]; show (w_dis W0).S 10 = _; rw [ds.2.2.2.1, hW0]; exact h10
  have s11 : W1.S 11 = W.S 11 - 1 := by rw [hc]; show (w_dis W0).S 11 = _; rw [ds.2.2.2.2, hW0]; rfl
  have l1 : w_l 1 W1 = w_l 1 W := by rw [hc]; show ((w_dis W0).R 1).length = _; rw [w_dis_R W0 (by decide), hW0]; rfl
  have l0 : w_l 0 W1 = w_l 0 W - 1 := by
    rw [hc, w_tl]
    show ((w_dis W0).R 0).length - 1 = _
    rw [w_dis_R W0 (by decide), hW0]
    rfl
  have lk : ∀ k, k ≠ 0 → k ≠ 5 → w_l k W1 = w_l k W := fun k k0 k5 => by
    rw [hc]
    show ((zu (w_dis W0).R 0 _) k).length = _
    rw [zu_n _ _ k0, w_dis_R W0 k5, hW0]
    rfl
  have l2 := lk 2 (by decide) (by decide)
  have l3 := lk 3 (by decide) (by decide)
  have l4 := lk 4 (by decide) (by decide)
  have hn : W1.n = W.n := by rw [hc]; show (w_dis W0).n = _; rw [w_dis_n, hW0]; rfl
  have hl' : w_len 1 W1 = w_len 1 W := by show (w_l 1 W1 : Int) = (w_l 1 W : Int); omega
  exact (by
    rcases h with ⟨h, hb⟩ | ⟨N, t, h⟩ | ⟨N, t, h⟩
    · obtain ⟨i7, i2, i3, i4, i5, i8, i0⟩ := h
      have e : w_dis W0 = w_S 6 (W0.S 6 - 1) W0 := by
        unfold w_dis
        have z : W0.S 7 = 0 := by rw [hW0]; exact i7
        rw [if_neg (fun y => by rw [z] at y; exact absurd y.1 (by decide)), if_neg (fun y => by rw [z] at y; exact y.elim (by decide) (by decide))]
      have z5 : w_l 5 W1 = w_l 5 W := by rw [hc, e, hW0]; rfl
      have z7 : W1.S 7 = W.S 7 := by rw [hc, e, hW0]; rfl
      have z8 : W1.S 8 = W.S 8 := by rw [hc, e, hW0]; rfl
      exact Or.inl ⟨⟨by omega, by omega, by omega, by omega, by omega, by omega, by omega⟩, by omega⟩
    · obtain ⟨a7, a3, a5, a2, a4, a0, a8, a6⟩ := h
      have e : w_dis W0 = w_S 8 (W0.S 8 - 1) (w_S 6 (W0.S 6 - 1) W0) := by
        unfold w_dis
        have z : W0.S 7 = 1 := by rw [hW0]; exact a7
        rw [if_neg (fun y => by rw [z] at y; exact absurd y.1 (by decide)), if_pos (Or.inl z)]
      have z5 : w_l 5 W1 = w_l 5 W := by rw [hc, e, hW0]; rfl
      have z7 : W1.S 7 = W.S 7 := by rw [hc, e, hW0]; rfl
      have z8 : W1.S 8 = W.S 8 - 1 := by rw [hc, e, hW0]; rfl
      exact Or.inr ⟨2 * (t + w_l 1 W + 1), N, t + 1, Or.inl ⟨by omega, by omega, by omega, by omega, by omega, by omega, by omega, by omega⟩, by omega, by omega⟩
    · obtain ⟨a7, a2, a4, a5, a3, a0, a8, ag, a6⟩ := h
      by_cases g : W.S 8 = 0
      · have e : w_dis W0 = w_S 7 3 (w_pop 5 (w_S 6 (W0.S 6 - 1) W0)) := by
          have z : W0.S 7 = 2 := by rw [hW0]; exact a7
          have z2 : W0.S 8 = 0 := by rw [hW0]; exact g
          exact if_pos ⟨z, z2⟩
        have z5 : w_l 5 W1 = w_l 5 W - 1 := by
          rw [hc, e]
          show ((zu W0.R 5 (W0.R 5).tail) 5).length = _
          rw [zu_s, List.length_tail, hW0]
          rfl
        have z7 : W1.S 7 = 3 := by rw [hc, e, hW0]; rfl
        exact Or.inr ⟨2 * (t + w_l 1 W + 1), N, t + 1, Or.inr (Or.inr ⟨z7, by omega, by omega, by omega⟩), by omega, by omega⟩
      · have e : w_dis W0 = w_S 8 (W0.S 8 - 1) (w_S 6 (W0.S 6 - 1) W0) := by
          unfold w_dis
          have z : W0.S 7 = 2 := by rw [hW0]; exact a7
          have z2 : W0.S 8 ≠ 0 := by rw [hW0]; exact g
          rw [if_neg (fun y => z2 y.2), if_pos (Or.inr z)]
        have z5 : w_l 5 W1 = w_l 5 W := by rw [hc, e, hW0]; rfl
        have z7 : W1.S 7 = W.S 7 := by rw [hc, e, hW0]; rfl
        have z8 : W1.S 8 = W.S 8 - 1 := by rw [hc, e, hW0]; rfl
        exact Or.inr ⟨2 * (t + w_l 1 W + 1), N, t + 1, Or.inr (Or.inl ⟨by omega, by omega, by omega, by omega, by omega, by omega, by omega, by omega, by omega⟩), by omega, by omega⟩)
theorem zz_ch_n {nx : Nat → Int} {v : Int} {l : List Nat} (h : zz_ch nx v l) : v = -1 ↔ l = [] := by
  cases l with
  | nil => exact ⟨fun _ => rfl, fun _ => h⟩
  | cons c t => exact ⟨fun z => absurd (h.1.symm.trans z) (by omega), fun z => absurd z (List.cons_ne_nil _ _)⟩
theorem lp_rlen {X : zz_X} {m : Nat} {rw N : Int} {σ : zz_M} {Post : Option zz_V → zz_M → Prop} (hN : 0 ≤ N ∧ N < 100000) (kk : Post (some (zI N)) σ) :
    ∀ (l : List Nat) (v n : Int), zz_ch (σ.2 (m + 2)) v l → (∀ c ∈ l, c < 20000) → n + l.length = N → 0 ≤ n → zz_G X 1 p_Mo_lengthOf 4 [zP 12 0 0 m, zI rw, zI n, zI v] [] σ Post := by
  intro l
  induction l with
  | nil =>
    intro v n hc _ hn _
    have e : n = N := by have z : n + ((0 : Nat) : Int) = N := hn; omega
    subst e
    refine zz_gsn 2 rfl ?_
    refine zz_br rfl (fun h6 => ?_) (fun h6 => absurd hc h6)
    refine zz_gsn 1 rfl ?_
    refine zz_ri rfl (Or.inl rfl) ?_
    exact kk
  | cons c t ih =>
    intro v n hc hl hn hn0
    obtain ⟨c1, c2⟩ := hc
    subst c1
    have hcl : c < 20000 := hl c List.mem_cons_self
    have hn2 : n + ((t.length + 1 : Nat) : Int) = N := hn
    have en : zw (n + 1) = n + 1 := zw_id (by omega) (by omega)
    refine zz_gsn 2 rfl ?_
    refine zz_br rfl (fun h6 => absurd h6 (by omega)) (fun h6 => ?_)
    refine zz_gsn 4 rfl ?_
    refine zz_ald rfl (⟨by omega, by omega⟩) ?_
    refine zz_gsn 1 rfl ?_
    refine zz_jp rfl ?_
    rw [en]
    exact ih _ (n + 1) (by rw [Int.toNat_natCast]; exact c2) (fun y hy => hl y (List.mem_cons_of_mem _ hy)) (by omega) (by omega)
theorem t_Mo_lengthOf {X : zz_X} {σ : zz_M} {m : Nat} {v : Int} {l : List Nat} (hc : zz_ch (σ.2 (m + 2)) v l) (hl : ∀ c ∈ l, c < 20000) (hb : l.length < 100000) : zz_T X 1 p_Mo_lengthOf [zP 12 0 0 m, zI v] σ (fun r σ' => σ = σ' ∧ r = some (zI (l.length : Nat))) := by
  refine zz_mk k_Mo_lengthOf o_Mo_lengthOf rfl rfl (Nat.le_of_ble_eq_true rfl) ?_
  show zz_G X 1 p_Mo_lengthOf 0 [zP 12 0 0 m, zI v, zU, zU] [] σ _
  refine zz_gsn 4 rfl ?_
  exact lp_rlen ⟨by omega, by omega⟩ ⟨rfl, rfl⟩ l v 0 hc hl (Int.zero_add _) (Int.le_refl _)
theorem lp_rcop {X : zz_X} {m s t : Nat} {σ0 : zz_M} {Post : Option zz_V → zz_M → Prop} (hs : s < 182) (ht : t < 182) (hst : s ≠ t) (kk : ∀ σ', (∀ j, j < 12 → σ'.2 (m + 3) (12 * t + j) = σ0.2 (m + 3) (12 * s + j)) → σ'.1 = σ0.1 → (∀ a i, ¬ (a = m + 3 ∧ 12 * t ≤ i ∧ i < 12 * t + 12) → σ'.2 a i = σ0.2 a i) → Post none σ') :
    ∀ (r k : Nat) (σ : zz_M), k + r = 12 → (∀ j, j < k → σ.2 (m + 3) (12 * t + j) = σ0.2 (m + 3) (12 * s + j)) → σ.1 = σ0.1 → (∀ a i, ¬ (a = m + 3 ∧ 12 * t ≤ i ∧ i < 12 * t + 12) → σ.2 a i = σ0.2 a i) → zz_G X 2 p_Mo_copies 2 [zP 12 0 0 m, zI (s : Nat), zI (t : Nat), zI (k : Nat)] [] σ Post := by
  intro r
  induction r with
  | zero =>
    intro k σ hk h1 h2 h3
    have e : k = 12 := by omega
    subst e
    refine zz_gsn 2 rfl ?_
    refine zz_br rfl (fun h4 => ?_) (fun h4 => absurd h4 (by decide))
    refine zz_rv rfl rfl ?_
    exact kk σ h1 h2 h3
  | succ r ih =>
    intro k σ hk h1 h2 h3
    have ek : zw ((k : Int) + 1) = ((k + 1 : Nat) : Int) := by rw [zw_id (by omega) (by omega)]; omega
    refine zz_gsn 2 rfl ?_
    refine zz_br rfl (fun h4 => absurd h4 (by omega)) (fun h4 => ?_)
    refine zz_gsn 6 rfl ?_
    refine zz_cv (n := 3) rfl rfl (t_Mo_of (s := s) (k := k) hs (by omega)) (Nat.le_of_ble_eq_true rfl) (Nat.le_of_ble_eq_true rfl) (Nat.le_of_ble_eq_true rfl) (fun r11 σ11 q11 => ?_)
    obtain ⟨rfl, rfl⟩ := q11
    refine zz_cv (n := 4) rfl rfl (t_Mo_sets (s := t) (k := k) ht (by omega)) (Nat.le_of_ble_eq_true rfl) (Nat.le_of_ble_eq_true rfl) (Nat.le_of_ble_eq_true rfl) (fun r12 σ12 q12 => ?_)
    obtain ⟨rfl, h12⟩ := q12
    refine zz_gsn 1 rfl ?_
    refine zz_jp rfl ?_
    rw [ek]
    refine ih (k + 1) _ (by omega) (fun j hj => ?_) ?_ (fun a i hai => ?_)
    · rw [h12]
      by_cases e : j = k
      · subst e
        rw [sa_h]
        exact h3 _ _ (by omega)
      · rw [sa_i _ _ (by omega)]
        exact h1 j (by omega)
    · rw [h12]; exact h2
    · rw [h12, sa_2, if_neg (by omega)]
      exact h3 a i hai
theorem t_Mo_copies {X : zz_X} {σ : zz_M} {m s t : Nat} (hs : s < 182) (ht : t < 182) (hst : s ≠ t) : zz_T X 2 p_Mo_copies [zP 12 0 0 m, zI (s : Nat), zI (t : Nat)] σ (fun r σ' => r = none ∧ (∀ j, j < 12 → σ'.2 (m + 3) (12 * t + j) = σ.2 (m + 3) (12 * s + j)) ∧ σ'.1 = σ.1 ∧ (∀ a i, ¬ (a = m + 3 ∧ 12 * t ≤ i ∧ i < 12 * t + 12) → σ'.2 a i = σ.2 a i)) := by
  refine zz_mk k_Mo_copies o_Mo_copies rfl rfl (Nat.le_of_ble_eq_true rfl) ?_
  show zz_G X 2 p_Mo_copies 0 [zP 12 0 0 m, zI (s : Nat), zI (t : Nat), zU] [] σ _
  refine zz_gsn 2 rfl ?_
  exact lp_rcop hs ht hst (fun σ' a b c => ⟨rfl, a, b, c⟩) 12 0 σ rfl (fun j hj => absurd hj (Nat.not_lt_zero j)) rfl (fun _ _ _ => rfl)
theorem MP.copy {σ σ' : zz_M} {m s t : Nat} {W : zz_W} (h : MP σ m s W) (h1 : ∀ j, j < 12 → σ'.2 (m + 3) (12 * t + j) = σ.2 (m + 3) (12 * s + j)) (h2 : σ'.1 = σ.1) (h3 : ∀ a i, ¬ (a = m + 3 ∧ 12 * t ≤ i ∧ i < 12 * t + 12) → σ'.2 a i = σ.2 a i) : MP σ' m t W ∧ Rc m t W.n σ σ' := by
  obtain ⟨a1, a2, a3, a4⟩ := h
  have e2 : σ'.2 (m + 2) = σ.2 (m + 2) := funext (fun i => h3 _ _ (by omega))
  refine ⟨⟨fun k hk => ?_, fun j x y => ?_, ⟨by rw [h2]; exact a3.1, fun i hi => ?_⟩, a4⟩, ⟨fun f a _ => by rw [h2], fun a i q => h3 a i (fun z => q (Or.inr z))⟩⟩
  · rw [e2, h1 k (by omega)]; exact a1 k hk
  · rw [h1 j y]; exact a2 j x y
  · rw [h3 _ _ (by omega)]; exact a3.2 i hi
theorem lp_rmty {X : zz_X} {m t : Nat} {σ0 : zz_M} {Post : Option zz_V → zz_M → Prop} (ht : t < 182) (kk : ∀ σ', (∀ j, j < 12 → σ'.2 (m + 3) (12 * t + j) = if j < 6 then -1 else 0) → σ'.1 = σ0.1 → (∀ a i, ¬ (a = m + 3 ∧ 12 * t ≤ i ∧ i < 12 * t + 12) → σ'.2 a i = σ0.2 a i) → Post none σ') :
    ∀ (r k : Nat) (σ : zz_M), k + r = 12 → (∀ j, j < k → σ.2 (m + 3) (12 * t + j) = if j < 6 then -1 else 0) → σ.1 = σ0.1 → (∀ a i, ¬ (a = m + 3 ∧ 12 * t ≤ i ∧ i < 12 * t + 12) → σ.2 a i = σ0.2 a i) → zz_G X 2 p_Mo_empties 2 [zP 12 0 0 m, zI (t : Nat), zI (k : Nat)] [] σ Post := by
  intro r
  induction r with
  | zero =>
    intro k σ hk h1 h2 h3
    have e : k = 12 := by omega
    subst e
    refine zz_gsn 2 rfl ?_
    refine zz_br rfl (fun h4 => ?_) (fun h4 => absurd h4 (by decide))
    refine zz_rv rfl rfl ?_
    exact kk σ h1 h2 h3
  | succ r ih =>
    intro k σ hk h1 h2 h3
    have ek : zw ((k : Int) + 1) = ((k + 1 : Nat) : Int) := by rw [zw_id (by omega) (by omega)]; omega
    refine zz_gsn 2 rfl ?_
    refine zz_br rfl (fun h4 => absurd h4 (by omega)) (fun h4 => ?_)
    refine zz_gsn 5 rfl ?_
    refine zz_br rfl (fun h10 => ?_) (fun h10 => ?_)
    · refine zz_gsn 1 rfl ?_
      refine zz_cv (n := 4) rfl rfl (t_Mo_sets (s := t) (k := k) ht (by omega)) (Nat.le_of_ble_eq_true rfl) (Nat.le_of_ble_eq_true rfl) (Nat.le_of_ble_eq_true rfl) (fun r14 σ14 q14 => ?_)
      obtain ⟨rfl, h14⟩ := q14
      refine zz_gsn 1 rfl ?_
      refine zz_jp rfl ?_
      rw [ek]
      refine ih (k + 1) _ (by omega) (fun j hj => ?_) ?_ (fun a i hai => ?_)
      · rw [h14]
        by_cases e : j = k
        · subst e
          rw [sa_h, if_neg (by omega)]
        · rw [sa_i _ _ (by omega)]
          exact h1 j (by omega)
      · rw [h14]; exact h2
      · rw [h14, sa_2, if_neg (by omega)]
        exact h3 a i hai
    · refine zz_gsn 1 rfl ?_
      refine zz_jp rfl ?_
      refine zz_cv (n := 4) rfl rfl (t_Mo_sets (s := t) (k := k) ht (by omega)) (Nat.le_of_ble_eq_true rfl) (Nat.le_of_ble_eq_true rfl) (Nat.le_of_ble_eq_true rfl) (fun r14 σ14 q14 => ?_)
      obtain ⟨rfl, h14⟩ := q14
      refine zz_gsn 1 rfl ?_
      refine zz_jp rfl ?_
      rw [ek]
      refine ih (k + 1) _ (by omega) (fun j hj => ?_) ?_ (fun a i hai => ?_)
      · rw [h14]
        by_cases e : j = k
        · subst e
          rw [sa_h, if_pos (by omega)]
        · rw [sa_i _ _ (by omega)]
          exact h1 j (by omega)
      · rw [h14]; exact h2
      · rw [h14, sa_2, if_neg (by omega)]
        exact h3 a i hai
theorem t_Mo_empties {X : zz_X} {σ : zz_M} {m t : Nat} (ht : t < 182) : zz_T X 2 p_Mo_empties [zP 12 0 0 m, zI (t : Nat)] σ (fun r σ' => r = none ∧ (∀ j, j < 12 → σ'.2 (m + 3) (12 * t + j) = if j < 6 then -1 else 0) ∧ σ'.1 = σ.1 ∧ (∀ a i, ¬ (a = m + 3 ∧ 12 * t ≤ i ∧ i < 12 * t + 12) → σ'.2 a i = σ.2 a i)) := by
  refine zz_mk k_Mo_empties o_Mo_empties rfl rfl (Nat.le_of_ble_eq_true rfl) ?_
  show zz_G X 2 p_Mo_empties 0 [zP 12 0 0 m, zI (t : Nat), zU] [] σ _
  refine zz_gsn 2 rfl ?_
  exact lp_rmty ht (fun σ' a b c => ⟨rfl, a, b, c⟩) 12 0 σ rfl (fun j hj => absurd hj (Nat.not_lt_zero j)) rfl (fun _ _ _ => rfl)
