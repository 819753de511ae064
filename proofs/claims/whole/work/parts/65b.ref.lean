/-! the reference: a deed -/
theorem zu_com {α : Type} (f : Nat → α) {a b : Nat} (h : a ≠ b) (x y : α) : zu (zu f a x) b y = zu (zu f b y) a x := funext (fun k => by
  by_cases z : k = b
  · subst z
    rw [zu_s, zu_n _ _ (fun y => h y.symm), zu_s]
  · rw [zu_n _ _ z]
    by_cases z2 : k = a
    · subst z2
      rw [zu_s, zu_s]
    · rw [zu_n _ _ z2, zu_n _ _ z2, zu_n _ _ z])
theorem dis_pop {W : zz_W} {k : Nat} (hk : k ≠ 5) : w_dis (w_pop k W) = w_pop k (w_dis W) := by
  unfold w_dis
  show (if W.S 7 = 2 ∧ W.S 8 = 0 then w_S 7 3 (w_pop 5 (w_S 6 (W.S 6 - 1) (w_pop k W))) else if W.S 7 = 1 ∨ W.S 7 = 2 then w_S 8 (W.S 8 - 1) (w_S 6 (W.S 6 - 1) (w_pop k W)) else w_S 6 (W.S 6 - 1) (w_pop k W)) = _
  by_cases h : W.S 7 = 2 ∧ W.S 8 = 0
  · rw [if_pos h, if_pos h]
    have e1 : (zu W.R k (W.R k).tail) 5 = W.R 5 := zu_n _ _ (fun z => hk z.symm)
    have e2 : (zu W.R 5 (W.R 5).tail) k = W.R k := zu_n _ _ hk
    show (W.n, W.num, W.mkr, zu (zu W.R k (W.R k).tail) 5 ((zu W.R k (W.R k).tail) 5).tail, zu (zu W.S 6 (W.S 6 - 1)) 7 3) = (W.n, W.num, W.mkr, zu (zu W.R 5 (W.R 5).tail) k ((zu W.R 5 (W.R 5).tail) k).tail, zu (zu W.S 6 (W.S 6 - 1)) 7 3)
    rw [e1, e2, zu_com _ hk]
  · rw [if_neg h, if_neg h]
    by_cases h2 : W.S 7 = 1 ∨ W.S 7 = 2
    · rw [if_pos h2, if_pos h2]; rfl
    · rw [if_neg h2, if_neg h2]; rfl
theorem HM_tk {W : zz_W} (h : HM W) (hpos : 0 < W.S 11) : W.R 0 ≠ [] ∧ (W.S 7 = 0 ∨ W.S 7 = 1 ∨ (W.S 7 = 2 ∧ W.S 8 = 0 ∧ W.R 5 ≠ []) ∨ (W.S 7 = 2 ∧ W.S 8 ≠ 0)) := by
  have h0 := (HM_take (mk := 0) (C := 0) (x := 0) h hpos).1
  refine ⟨fun z => by have := w_nil' z; omega, ?_⟩
  obtain ⟨h9, h10, h11, h⟩ := h
  rcases h with ⟨h, hb⟩ | ⟨N, t, h⟩ | ⟨N, t, h⟩
  · exact Or.inl h.1
  · exact Or.inr (Or.inl h.1)
  · obtain ⟨a7, a2, a4, a5, a3, a0, a8, ag, a6⟩ := h
    by_cases g : W.S 8 = 0
    · exact Or.inr (Or.inr (Or.inl ⟨a7, g, fun z => by have := w_nil' z; omega⟩))
    · exact Or.inr (Or.inr (Or.inr ⟨a7, g⟩))
theorem HM_n3 {W : zz_W} (h : HM W) : W.S 7 ≠ 3 := by
  obtain ⟨h9, h10, h11, h⟩ := h
  rcases h with ⟨h, hb⟩ | ⟨N, t, h⟩ | ⟨N, t, h⟩
  · rw [h.1]; decide
  · rw [h.1]; decide
  · rw [h.1]; decide
theorem IV_law {law : Int} {B : Nat} {W : zz_W} (h : IV law B W) : law = 0 ∨ law = 1 ∨ law = 2 := by
  rcases h.1 with h | h | h
  · exact Or.inl h.1
  · exact Or.inr (Or.inl h.1)
  · exact Or.inr (Or.inr h.1)
theorem IV_HM {B : Nat} {W : zz_W} (h : IV 1 B W) : HM W := by
  rcases h.1 with h | h | h
  · exact absurd h.1 (by decide)
  · exact h.2
  · exact absurd h.1 (by decide)
theorem IV_rows {law : Int} {B : Nat} {W : zz_W} (h : IV law B W) : (W.R 0).length + (W.R 1).length ≤ B := by
  have hs : (((W.R 0).length : Nat) : Int) + ((W.R 1).length : Nat) ≤ W.S 11 := IV_sum h
  have := h.2.2
  omega
theorem kl_c {law kind : Int} {B : Nat} {W : zz_W} (h : IV law B W) (hk : 0 ≤ kind ∧ kind ≤ 3) (hkl : law ≠ 2 → kind ≤ 1) : (kind = 0 ∧ law = 0) ∨ (kind = 1 ∧ law = 0) ∨ (kind = 0 ∧ law = 1) ∨ (kind = 1 ∧ law = 1) ∨ (kind = 0 ∧ law = 2) ∨ (kind = 1 ∧ law = 2) ∨ (kind = 2 ∧ law = 2) ∨ (kind = 3 ∧ law = 2) := by
  have hl := IV_law h
  omega
theorem t_Mo_deeds {X : zz_X} {σ : zz_M} {m s t B : Nat} {law C mk kind x : Int} {W : zz_W} (hP : MP σ m s W) (hs : s < 182) (ht : t < 182) (hst : s ≠ t) (hlaw : σ.1 1205 m = law) (hC0 : σ.1 1206 m = C) (hI : IV law B W) (hB : B ≤ 700) (hC : 2 ≤ C ∧ C ≤ 4) (hk : 0 ≤ kind ∧ kind ≤ 3) (hkl : law ≠ 2 → kind ≤ 1) (hpos : kind = 1 ∨ kind = 3 → 0 < W.S 11) (hn : W.n + B + 10 ≤ 20000) : zz_T X 5 p_Mo_deeds [zP 12 0 0 m, zI (s : Nat), zI (t : Nat), zI kind, zI x] σ (fun r σ' => r = some (zI (w_steps law C mk kind x W)) ∧ MP σ' m t (w_deed law C mk kind x W) ∧ Rg m t W.n σ σ' ∧ σ'.1 1208 m = w_begun law C mk kind x W ∧ σ'.1 1209 m = w_over law C mk kind x W) := by
  refine zz_mk k_Mo_deeds o_Mo_deeds rfl rfl (Nat.le_of_ble_eq_true rfl) ?_
  show zz_G X 5 p_Mo_deeds 0 [zP 12 0 0 m, zI (s : Nat), zI (t : Nat), zI kind, zI x, zU] [] σ _
  obtain ⟨hbl, hb6, hb8, hb9', hb10', hb11⟩ := h_bds hI (by omega)
  have hsum := IV_rows hI
  rcases kl_c hI hk hkl with ⟨ek, el⟩ | ⟨ek, el⟩ | ⟨ek, el⟩ | ⟨ek, el⟩ | ⟨ek, el⟩ | ⟨ek, el⟩ | ⟨ek, el⟩ | ⟨ek, el⟩
  · subst ek
    subst el
    refine zz_gsn 3 rfl ?_
    refine zz_cv (n := 3) rfl rfl (t_Mo_copies (s := s) (t := t) hs ht hst) (Nat.le_of_ble_eq_true rfl) (Nat.le_of_ble_eq_true rfl) (Nat.le_of_ble_eq_true rfl) (fun r3 σ3 q3 => ?_)
    obtain ⟨rfl, u3, v3, w3⟩ := q3
    obtain ⟨P3, G3⟩ := hP.copy u3 v3 w3
    refine zz_gsn 5 rfl ?_
    refine zz_ptz rfl (by first | exact Or.inl rfl | exact Or.inr rfl | omega) ?_
    refine zz_gsn 2 rfl ?_
    refine zz_ptz rfl (by first | exact Or.inl rfl | exact Or.inr rfl | omega) ?_
    obtain ⟨σ1, h1⟩ : ∃ x, x = zz_sf (zz_sf (zz_sf σ3 1207 m 1) 1208 m 0) 1209 m 0 := ⟨_, rfl⟩
    refine zz_sge (σ' := σ1) h1 ?_
    have P1 : MP σ1 m t W := by rw [h1]; exact ((P3.fd (by decide)).fd (by decide)).fd (by decide)
    have G1 : Rg m t W.n σ σ1 := by rw [h1]; exact (((G3.g.tr (Rg.sf (Or.inr (Or.inl rfl))) (Nat.le_refl _)).tr (Rg.sf (Or.inr (Or.inr (Or.inl rfl)))) (Nat.le_refl _)).tr (Rg.sf (Or.inr (Or.inr (Or.inr rfl)))) (Nat.le_refl _))
    have x7 : σ1.1 1207 m = 1 := by rw [h1, sf_f _ _ (by decide), sf_f _ _ (by decide), sf_h]
    have x8 : σ1.1 1208 m = 0 := by rw [h1, sf_f _ _ (by decide), sf_h]
    have x9 : σ1.1 1209 m = 0 := by rw [h1, sf_h]
    have x5 : σ1.1 1205 m = 0 := (G1.fl (by decide)).trans hlaw
    have x6 : σ1.1 1206 m = C := (G1.fl (by decide)).trans hC0
    clear h1
    have e0 := zz_ch_n (P1.1 0 (by decide))
    have e1 := zz_ch_n (P1.1 1 (by decide))
    refine zz_gsn 1 rfl ?_
    refine zz_br rfl (fun h14 => absurd rfl h14) (fun h14 => ?_)
    refine zz_gsn 4 rfl ?_
    refine zz_cv (n := 4) rfl rfl (t_Mo_pushes (s := t) (k := 1) (mk := mk) P1 ht (by decide) (by omega)) (Nat.le_of_ble_eq_true rfl) (Nat.le_of_ble_eq_true rfl) (Nat.le_of_ble_eq_true rfl) (fun r19 σ19 q19 => ?_)
    obtain ⟨rfl, p19, g19⟩ := q19
    refine zz_gsn 2 rfl ?_
    refine zz_br rfl (fun h22 => ?_) (fun h22 => absurd h22 (by decide))
    refine zz_gsn 2 rfl ?_
    refine zz_br rfl (fun h30 => ?_) (fun h30 => absurd h30 (by decide))
    refine zz_gsn 2 rfl ?_
    refine zz_br rfl (fun h46 => ?_) (fun h46 => absurd h46 (by decide))
    refine zz_gsn 2 rfl ?_
    refine zz_br rfl (fun h62 => absurd h62 (by decide)) (fun h62 => ?_)
    refine zz_gsn 2 rfl ?_
    refine zz_br rfl (fun h65 => ?_) (fun h65 => absurd h65 (by decide))
    refine zz_gsn 8 rfl ?_
    refine zz_cv (n := 3) rfl rfl (t_Mo_of (s := t) (k := 11) ht (by decide)) (Nat.le_of_ble_eq_true rfl) (Nat.le_of_ble_eq_true rfl) (Nat.le_of_ble_eq_true rfl) (fun r76 σ76 q76 => ?_)
    obtain ⟨rfl, rfl⟩ := q76
    refine zz_gsn 1 rfl ?_
    refine zz_br rfl (fun h78 => ?_) (fun h78 => absurd rfl h78)
    refine zz_gsn 2 rfl ?_
    refine zz_cv (n := 4) rfl rfl (t_Mo_sets (s := t) (k := 11) ht (by decide)) (Nat.le_of_ble_eq_true rfl) (Nat.le_of_ble_eq_true rfl) (Nat.le_of_ble_eq_true rfl) (fun r83 σ83 q83 => ?_)
    obtain ⟨rfl, h83⟩ := q83
    have s11 : zw (σ19.2 (m + 3) (12 * t + 11) + 1) = W.S 11 + 1 := by
      rw [p19.2.1 11 (by decide) (by decide)]
      exact zw_id (x := W.S 11 + 1) (by omega) (by omega)
    have P83 := p19.S' (j := 11) (by decide) s11
    rw [← h83] at P83
    clear s11
    have G83 : Rc m t W.n σ1 σ83 := g19.tr (by rw [h83]; exact Rc.st (by decide)) (Nat.le_refl _)
    have ech : w_chg 0 mk 0 x W = w_S 11 (W.S 11 + 1) (w_push mk 1 x W) := rfl
    have f7 : σ83.1 1207 m = 1 := (G83.fl (by decide)).trans x7
    have f8 : σ83.1 1208 m = 0 := (G83.fl (by decide)).trans x8
    have f9 : σ83.1 1209 m = 0 := (G83.fl (by decide)).trans x9
    have f5 : σ83.1 1205 m = 0 := (G83.fl (by decide)).trans x5
    have f6 : σ83.1 1206 m = C := (G83.fl (by decide)).trans x6
    have GG : Rg m t W.n σ σ83 := G1.tr G83.g (Nat.le_refl _)
    obtain ⟨bl, b6, b8, b9, b10, -, hnc⟩ := w_chg_B 0 mk 0 x W (by decide)
    have hqq := w_q (law := 0) (mk := mk) (kind := 0) (x := x) hI (by decide)
    obtain ⟨W1, hW1⟩ : ∃ W1, W1 = w_chg 0 mk 0 x W := ⟨_, rfl⟩
    rw [← hW1] at bl b6 b8 b9 b10 hnc hqq ech
    rw [← ech] at P83
    have hn1 : W1.n ≤ W.n + 1 := by rw [ech]; exact Nat.le_refl _
    clear ech
    have nb : ∀ V : zz_W, V = W1 → V.n + w_l 1 V ≤ 20000 := fun V e => by
      subst e
      have z : w_l 1 V = (V.R 1).length := rfl
      omega
    refine zz_gsn 2 rfl ?_
    refine zz_br rfl (fun h86 => absurd f5 h86) (fun h86 => ?_)
    refine zz_gsn 2 rfl ?_
    refine zz_cv (n := 2) rfl rfl (t_Mo_turnsAll (mk := mk) P83 ht (nb _ rfl) (by rw [f7]; decide) f8) (Nat.le_of_ble_eq_true rfl) (Nat.le_of_ble_eq_true rfl) (Nat.le_of_ble_eq_true rfl) (fun r89 σ89 q89 => ?_)
    obtain ⟨rfl, p89, y89, a89, b89, c89⟩ := q89
    refine zz_gsn 3 rfl ?_
    refine zz_br rfl (fun h93 => ?_) (fun h93 => absurd (((y89.fl (by decide)).trans f5).symm.trans (by first | exact h93 | exact Decidable.not_not.mp h93)) (by decide))
    refine zz_gsn 3 rfl ?_
    refine zz_br rfl (fun h101 => ?_) (fun h101 => absurd (((y89.fl (by decide)).trans f5).symm.trans (by first | exact h101 | exact Decidable.not_not.mp h101)) (by decide))
    refine zz_gsn 2 rfl ?_
    refine zz_ri rfl (Or.inl rfl) ?_
    obtain ⟨d1, d2, d3, d4⟩ := w_deed_0 (law := 0) (C := C) (mk := mk) (kind := 0) (x := x) (W := W) rfl
    rw [d1, d2, d3, d4, ← hW1]
    refine ⟨congrArg (fun z => some (zI z)) ?_, p89, GG.tr y89 hnc, b89, c89.trans f9⟩
    rw [a89, f7]
  · subst ek
    subst el
    have hpp := hpos (Or.inl rfl)
    refine zz_gsn 3 rfl ?_
    refine zz_cv (n := 3) rfl rfl (t_Mo_copies (s := s) (t := t) hs ht hst) (Nat.le_of_ble_eq_true rfl) (Nat.le_of_ble_eq_true rfl) (Nat.le_of_ble_eq_true rfl) (fun r3 σ3 q3 => ?_)
    obtain ⟨rfl, u3, v3, w3⟩ := q3
    obtain ⟨P3, G3⟩ := hP.copy u3 v3 w3
    refine zz_gsn 5 rfl ?_
    refine zz_ptz rfl (by first | exact Or.inl rfl | exact Or.inr rfl | omega) ?_
    refine zz_gsn 2 rfl ?_
    refine zz_ptz rfl (by first | exact Or.inl rfl | exact Or.inr rfl | omega) ?_
    obtain ⟨σ1, h1⟩ : ∃ x, x = zz_sf (zz_sf (zz_sf σ3 1207 m 1) 1208 m 0) 1209 m 0 := ⟨_, rfl⟩
    refine zz_sge (σ' := σ1) h1 ?_
    have P1 : MP σ1 m t W := by rw [h1]; exact ((P3.fd (by decide)).fd (by decide)).fd (by decide)
    have G1 : Rg m t W.n σ σ1 := by rw [h1]; exact (((G3.g.tr (Rg.sf (Or.inr (Or.inl rfl))) (Nat.le_refl _)).tr (Rg.sf (Or.inr (Or.inr (Or.inl rfl)))) (Nat.le_refl _)).tr (Rg.sf (Or.inr (Or.inr (Or.inr rfl)))) (Nat.le_refl _))
    have x7 : σ1.1 1207 m = 1 := by rw [h1, sf_f _ _ (by decide), sf_f _ _ (by decide), sf_h]
    have x8 : σ1.1 1208 m = 0 := by rw [h1, sf_f _ _ (by decide), sf_h]
    have x9 : σ1.1 1209 m = 0 := by rw [h1, sf_h]
    have x5 : σ1.1 1205 m = 0 := (G1.fl (by decide)).trans hlaw
    have x6 : σ1.1 1206 m = C := (G1.fl (by decide)).trans hC0
    clear h1
    have e0 := zz_ch_n (P1.1 0 (by decide))
    have e1 := zz_ch_n (P1.1 1 (by decide))
    refine zz_gsn 1 rfl ?_
    refine zz_br rfl (fun h14 => ?_) (fun h14 => absurd h14 (by decide))
    refine zz_gsn 2 rfl ?_
    refine zz_br rfl (fun h22 => ?_) (fun h22 => absurd h22 (by decide))
    refine zz_gsn 2 rfl ?_
    refine zz_br rfl (fun h30 => absurd rfl h30) (fun h30 => ?_)
    refine zz_gsn 5 rfl ?_
    refine zz_cv (n := 3) rfl rfl (t_Mo_of (s := t) (k := 0) ht (by decide)) (Nat.le_of_ble_eq_true rfl) (Nat.le_of_ble_eq_true rfl) (Nat.le_of_ble_eq_true rfl) (fun r36 σ36 q36 => ?_)
    obtain ⟨rfl, rfl⟩ := q36
    refine zz_gsn 1 rfl ?_
    refine zz_br rfl (fun h38 => ?_) (fun h38 => ?_)
    · have hr0 : W.R 0 ≠ [] := fun z => h38 (e0.mpr z)
      have hz := hr0
      refine zz_gsn 1 rfl ?_
      obtain ⟨c1, l1, ec⟩ := l_cons (l := W.R 0) (hr0)
      refine zz_cv (n := 3) rfl rfl (t_Mo_pops (s := t) (k := 0) P1 ht (by decide) (by omega) ec) (Nat.le_of_ble_eq_true rfl) (Nat.le_of_ble_eq_true rfl) (Nat.le_of_ble_eq_true rfl) (fun r42 σ42 q42 => ?_)
      obtain ⟨rfl, p42, g42⟩ := q42
      refine zz_gsn 3 rfl ?_
      refine zz_br rfl (fun h46 => ?_) (fun h46 => absurd h46 (by decide))
      refine zz_gsn 2 rfl ?_
      refine zz_br rfl (fun h62 => ?_) (fun h62 => absurd rfl h62)
      refine zz_gsn 1 rfl ?_
      refine zz_jp rfl ?_
      refine zz_gsn 7 rfl ?_
      refine zz_cv (n := 3) rfl rfl (t_Mo_of (s := t) (k := 11) ht (by decide)) (Nat.le_of_ble_eq_true rfl) (Nat.le_of_ble_eq_true rfl) (Nat.le_of_ble_eq_true rfl) (fun r76 σ76 q76 => ?_)
      obtain ⟨rfl, rfl⟩ := q76
      refine zz_gsn 1 rfl ?_
      refine zz_br rfl (fun h78 => absurd h78 (by decide)) (fun h78 => ?_)
      refine zz_gsn 1 rfl ?_
      refine zz_jp rfl ?_
      refine zz_gsn 1 rfl ?_
      refine zz_cv (n := 4) rfl rfl (t_Mo_sets (s := t) (k := 11) ht (by decide)) (Nat.le_of_ble_eq_true rfl) (Nat.le_of_ble_eq_true rfl) (Nat.le_of_ble_eq_true rfl) (fun r83 σ83 q83 => ?_)
      obtain ⟨rfl, h83⟩ := q83
      have s11 : zw (σ42.2 (m + 3) (12 * t + 11) + -1) = W.S 11 + -1 := by
        rw [p42.2.1 11 (by decide) (by decide)]
        exact zw_id (x := W.S 11 + -1) (by omega) (by omega)
      have P83 := p42.S' (j := 11) (by decide) s11
      rw [← h83] at P83
      clear s11
      have G83 : Rc m t W.n σ1 σ83 := g42.tr (by rw [h83]; exact Rc.st (by decide)) (Nat.le_refl _)
      have ech : w_chg 0 mk 1 x W = w_S 11 (W.S 11 + -1) (w_pop 0 W) := by
        rw [w_chg1n mk x W (by decide), if_neg hz]
        rfl
      have f7 : σ83.1 1207 m = 1 := (G83.fl (by decide)).trans x7
      have f8 : σ83.1 1208 m = 0 := (G83.fl (by decide)).trans x8
      have f9 : σ83.1 1209 m = 0 := (G83.fl (by decide)).trans x9
      have f5 : σ83.1 1205 m = 0 := (G83.fl (by decide)).trans x5
      have f6 : σ83.1 1206 m = C := (G83.fl (by decide)).trans x6
      have GG : Rg m t W.n σ σ83 := G1.tr G83.g (Nat.le_refl _)
      obtain ⟨bl, b6, b8, b9, b10, -, hnc⟩ := w_chg_B 0 mk 1 x W (by decide)
      have hqq := w_q (law := 0) (mk := mk) (kind := 1) (x := x) hI (by decide)
      obtain ⟨W1, hW1⟩ : ∃ W1, W1 = w_chg 0 mk 1 x W := ⟨_, rfl⟩
      rw [← hW1] at bl b6 b8 b9 b10 hnc hqq ech
      rw [← ech] at P83
      have hn1 : W1.n ≤ W.n + 1 := by rw [ech]; exact Nat.le_succ _
      clear ech
      have nb : ∀ V : zz_W, V = W1 → V.n + w_l 1 V ≤ 20000 := fun V e => by
        subst e
        have z : w_l 1 V = (V.R 1).length := rfl
        omega
      refine zz_gsn 2 rfl ?_
      refine zz_br rfl (fun h86 => absurd f5 h86) (fun h86 => ?_)
      refine zz_gsn 2 rfl ?_
      refine zz_cv (n := 2) rfl rfl (t_Mo_turnsAll (mk := mk) P83 ht (nb _ rfl) (by rw [f7]; decide) f8) (Nat.le_of_ble_eq_true rfl) (Nat.le_of_ble_eq_true rfl) (Nat.le_of_ble_eq_true rfl) (fun r89 σ89 q89 => ?_)
      obtain ⟨rfl, p89, y89, a89, b89, c89⟩ := q89
      refine zz_gsn 3 rfl ?_
      refine zz_br rfl (fun h93 => ?_) (fun h93 => absurd (((y89.fl (by decide)).trans f5).symm.trans (by first | exact h93 | exact Decidable.not_not.mp h93)) (by decide))
      refine zz_gsn 3 rfl ?_
      refine zz_br rfl (fun h101 => ?_) (fun h101 => absurd (((y89.fl (by decide)).trans f5).symm.trans (by first | exact h101 | exact Decidable.not_not.mp h101)) (by decide))
      refine zz_gsn 2 rfl ?_
      refine zz_ri rfl (Or.inl rfl) ?_
      obtain ⟨d1, d2, d3, d4⟩ := w_deed_0 (law := 0) (C := C) (mk := mk) (kind := 1) (x := x) (W := W) rfl
      rw [d1, d2, d3, d4, ← hW1]
      refine ⟨congrArg (fun z => some (zI z)) ?_, p89, GG.tr y89 hnc, b89, c89.trans f9⟩
      rw [a89, f7]
    · have hz : W.R 0 = [] := e0.mp h38
      have hr1 : W.R 1 ≠ [] := fun z => by have y := (IV_bd hI).2.2 hpp; rw [w_nil' hz, w_nil' z] at y; omega
      refine zz_gsn 1 rfl ?_
      refine zz_jp rfl ?_
      obtain ⟨c1, l1, ec⟩ := l_cons (l := W.R 1) (hr1)
      refine zz_cv (n := 3) rfl rfl (t_Mo_pops (s := t) (k := 1) P1 ht (by decide) (by omega) ec) (Nat.le_of_ble_eq_true rfl) (Nat.le_of_ble_eq_true rfl) (Nat.le_of_ble_eq_true rfl) (fun r42 σ42 q42 => ?_)
      obtain ⟨rfl, p42, g42⟩ := q42
      refine zz_gsn 3 rfl ?_
      refine zz_br rfl (fun h46 => ?_) (fun h46 => absurd h46 (by decide))
      refine zz_gsn 2 rfl ?_
      refine zz_br rfl (fun h62 => ?_) (fun h62 => absurd rfl h62)
      refine zz_gsn 1 rfl ?_
      refine zz_jp rfl ?_
      refine zz_gsn 7 rfl ?_
      refine zz_cv (n := 3) rfl rfl (t_Mo_of (s := t) (k := 11) ht (by decide)) (Nat.le_of_ble_eq_true rfl) (Nat.le_of_ble_eq_true rfl) (Nat.le_of_ble_eq_true rfl) (fun r76 σ76 q76 => ?_)
      obtain ⟨rfl, rfl⟩ := q76
      refine zz_gsn 1 rfl ?_
      refine zz_br rfl (fun h78 => absurd h78 (by decide)) (fun h78 => ?_)
      refine zz_gsn 1 rfl ?_
      refine zz_jp rfl ?_
      refine zz_gsn 1 rfl ?_
      refine zz_cv (n := 4) rfl rfl (t_Mo_sets (s := t) (k := 11) ht (by decide)) (Nat.le_of_ble_eq_true rfl) (Nat.le_of_ble_eq_true rfl) (Nat.le_of_ble_eq_true rfl) (fun r83 σ83 q83 => ?_)
      obtain ⟨rfl, h83⟩ := q83
      have s11 : zw (σ42.2 (m + 3) (12 * t + 11) + -1) = W.S 11 + -1 := by
        rw [p42.2.1 11 (by decide) (by decide)]
        exact zw_id (x := W.S 11 + -1) (by omega) (by omega)
      have P83 := p42.S' (j := 11) (by decide) s11
      rw [← h83] at P83
      clear s11
      have G83 : Rc m t W.n σ1 σ83 := g42.tr (by rw [h83]; exact Rc.st (by decide)) (Nat.le_refl _)
      have ech : w_chg 0 mk 1 x W = w_S 11 (W.S 11 + -1) (w_pop 1 W) := by
        rw [w_chg1n mk x W (by decide), if_pos hz]
        rfl
      have f7 : σ83.1 1207 m = 1 := (G83.fl (by decide)).trans x7
      have f8 : σ83.1 1208 m = 0 := (G83.fl (by decide)).trans x8
      have f9 : σ83.1 1209 m = 0 := (G83.fl (by decide)).trans x9
      have f5 : σ83.1 1205 m = 0 := (G83.fl (by decide)).trans x5
      have f6 : σ83.1 1206 m = C := (G83.fl (by decide)).trans x6
      have GG : Rg m t W.n σ σ83 := G1.tr G83.g (Nat.le_refl _)
      obtain ⟨bl, b6, b8, b9, b10, -, hnc⟩ := w_chg_B 0 mk 1 x W (by decide)
      have hqq := w_q (law := 0) (mk := mk) (kind := 1) (x := x) hI (by decide)
      obtain ⟨W1, hW1⟩ : ∃ W1, W1 = w_chg 0 mk 1 x W := ⟨_, rfl⟩
      rw [← hW1] at bl b6 b8 b9 b10 hnc hqq ech
      rw [← ech] at P83
      have hn1 : W1.n ≤ W.n + 1 := by rw [ech]; exact Nat.le_succ _
      clear ech
      have nb : ∀ V : zz_W, V = W1 → V.n + w_l 1 V ≤ 20000 := fun V e => by
        subst e
        have z : w_l 1 V = (V.R 1).length := rfl
        omega
      refine zz_gsn 2 rfl ?_
      refine zz_br rfl (fun h86 => absurd f5 h86) (fun h86 => ?_)
      refine zz_gsn 2 rfl ?_
      refine zz_cv (n := 2) rfl rfl (t_Mo_turnsAll (mk := mk) P83 ht (nb _ rfl) (by rw [f7]; decide) f8) (Nat.le_of_ble_eq_true rfl) (Nat.le_of_ble_eq_true rfl) (Nat.le_of_ble_eq_true rfl) (fun r89 σ89 q89 => ?_)
      obtain ⟨rfl, p89, y89, a89, b89, c89⟩ := q89
      refine zz_gsn 3 rfl ?_
      refine zz_br rfl (fun h93 => ?_) (fun h93 => absurd (((y89.fl (by decide)).trans f5).symm.trans (by first | exact h93 | exact Decidable.not_not.mp h93)) (by decide))
      refine zz_gsn 3 rfl ?_
      refine zz_br rfl (fun h101 => ?_) (fun h101 => absurd (((y89.fl (by decide)).trans f5).symm.trans (by first | exact h101 | exact Decidable.not_not.mp h101)) (by decide))
      refine zz_gsn 2 rfl ?_
      refine zz_ri rfl (Or.inl rfl) ?_
      obtain ⟨d1, d2, d3, d4⟩ := w_deed_0 (law := 0) (C := C) (mk := mk) (kind := 1) (x := x) (W := W) rfl
      rw [d1, d2, d3, d4, ← hW1]
      refine ⟨congrArg (fun z => some (zI z)) ?_, p89, GG.tr y89 hnc, b89, c89.trans f9⟩
      rw [a89, f7]
  · subst ek
    subst el
    refine zz_gsn 3 rfl ?_
    refine zz_cv (n := 3) rfl rfl (t_Mo_copies (s := s) (t := t) hs ht hst) (Nat.le_of_ble_eq_true rfl) (Nat.le_of_ble_eq_true rfl) (Nat.le_of_ble_eq_true rfl) (fun r3 σ3 q3 => ?_)
    obtain ⟨rfl, u3, v3, w3⟩ := q3
    obtain ⟨P3, G3⟩ := hP.copy u3 v3 w3
    refine zz_gsn 5 rfl ?_
    refine zz_ptz rfl (by first | exact Or.inl rfl | exact Or.inr rfl | omega) ?_
    refine zz_gsn 2 rfl ?_
    refine zz_ptz rfl (by first | exact Or.inl rfl | exact Or.inr rfl | omega) ?_
    obtain ⟨σ1, h1⟩ : ∃ x, x = zz_sf (zz_sf (zz_sf σ3 1207 m 1) 1208 m 0) 1209 m 0 := ⟨_, rfl⟩
    refine zz_sge (σ' := σ1) h1 ?_
    have P1 : MP σ1 m t W := by rw [h1]; exact ((P3.fd (by decide)).fd (by decide)).fd (by decide)
    have G1 : Rg m t W.n σ σ1 := by rw [h1]; exact (((G3.g.tr (Rg.sf (Or.inr (Or.inl rfl))) (Nat.le_refl _)).tr (Rg.sf (Or.inr (Or.inr (Or.inl rfl)))) (Nat.le_refl _)).tr (Rg.sf (Or.inr (Or.inr (Or.inr rfl)))) (Nat.le_refl _))
    have x7 : σ1.1 1207 m = 1 := by rw [h1, sf_f _ _ (by decide), sf_f _ _ (by decide), sf_h]
    have x8 : σ1.1 1208 m = 0 := by rw [h1, sf_f _ _ (by decide), sf_h]
    have x9 : σ1.1 1209 m = 0 := by rw [h1, sf_h]
    have x5 : σ1.1 1205 m = 1 := (G1.fl (by decide)).trans hlaw
    have x6 : σ1.1 1206 m = C := (G1.fl (by decide)).trans hC0
    clear h1
    have e0 := zz_ch_n (P1.1 0 (by decide))
    have e1 := zz_ch_n (P1.1 1 (by decide))
    refine zz_gsn 1 rfl ?_
    refine zz_br rfl (fun h14 => absurd rfl h14) (fun h14 => ?_)
    refine zz_gsn 4 rfl ?_
    refine zz_cv (n := 4) rfl rfl (t_Mo_pushes (s := t) (k := 1) (mk := mk) P1 ht (by decide) (by omega)) (Nat.le_of_ble_eq_true rfl) (Nat.le_of_ble_eq_true rfl) (Nat.le_of_ble_eq_true rfl) (fun r19 σ19 q19 => ?_)
    obtain ⟨rfl, p19, g19⟩ := q19
    refine zz_gsn 2 rfl ?_
    refine zz_br rfl (fun h22 => ?_) (fun h22 => absurd h22 (by decide))
    refine zz_gsn 2 rfl ?_
    refine zz_br rfl (fun h30 => ?_) (fun h30 => absurd h30 (by decide))
    refine zz_gsn 2 rfl ?_
    refine zz_br rfl (fun h46 => ?_) (fun h46 => absurd h46 (by decide))
    refine zz_gsn 2 rfl ?_
    refine zz_br rfl (fun h62 => absurd h62 (by decide)) (fun h62 => ?_)
    refine zz_gsn 2 rfl ?_
    refine zz_br rfl (fun h65 => ?_) (fun h65 => absurd h65 (by decide))
    refine zz_gsn 8 rfl ?_
    refine zz_cv (n := 3) rfl rfl (t_Mo_of (s := t) (k := 11) ht (by decide)) (Nat.le_of_ble_eq_true rfl) (Nat.le_of_ble_eq_true rfl) (Nat.le_of_ble_eq_true rfl) (fun r76 σ76 q76 => ?_)
    obtain ⟨rfl, rfl⟩ := q76
    refine zz_gsn 1 rfl ?_
    refine zz_br rfl (fun h78 => ?_) (fun h78 => absurd rfl h78)
    refine zz_gsn 2 rfl ?_
    refine zz_cv (n := 4) rfl rfl (t_Mo_sets (s := t) (k := 11) ht (by decide)) (Nat.le_of_ble_eq_true rfl) (Nat.le_of_ble_eq_true rfl) (Nat.le_of_ble_eq_true rfl) (fun r83 σ83 q83 => ?_)
    obtain ⟨rfl, h83⟩ := q83
    have s11 : zw (σ19.2 (m + 3) (12 * t + 11) + 1) = W.S 11 + 1 := by
      rw [p19.2.1 11 (by decide) (by decide)]
      exact zw_id (x := W.S 11 + 1) (by omega) (by omega)
    have P83 := p19.S' (j := 11) (by decide) s11
    rw [← h83] at P83
    clear s11
    have G83 : Rc m t W.n σ1 σ83 := g19.tr (by rw [h83]; exact Rc.st (by decide)) (Nat.le_refl _)
    have ech : w_chg 1 mk 0 x W = w_S 11 (W.S 11 + 1) (w_push mk 1 x W) := rfl
    have f7 : σ83.1 1207 m = 1 := (G83.fl (by decide)).trans x7
    have f8 : σ83.1 1208 m = 0 := (G83.fl (by decide)).trans x8
    have f9 : σ83.1 1209 m = 0 := (G83.fl (by decide)).trans x9
    have f5 : σ83.1 1205 m = 1 := (G83.fl (by decide)).trans x5
    have f6 : σ83.1 1206 m = C := (G83.fl (by decide)).trans x6
    have GG : Rg m t W.n σ σ83 := G1.tr G83.g (Nat.le_refl _)
    obtain ⟨bl, b6, b8, b9, b10, -, hnc⟩ := w_chg_B 1 mk 0 x W (by decide)
    have hqq := w_q (law := 1) (mk := mk) (kind := 0) (x := x) hI (by decide)
    obtain ⟨W1, hW1⟩ : ∃ W1, W1 = w_chg 1 mk 0 x W := ⟨_, rfl⟩
    have hg : g_pre (w_chg 1 mk 0 x W) := HM_putp (IV_HM hI)
    have hvl : ((w_chg 1 mk 0 x W).R 1).length < 100000 := by have := bl 1; rw [← hW1] at this ⊢; omega
    have hv6 : -800000 < (w_chg 1 mk 0 x W).S 6 ∧ (w_chg 1 mk 0 x W).S 6 < 800000 := by rw [← hW1] at b6 ⊢; omega
    have hv8 : -800000 < (w_chg 1 mk 0 x W).S 8 ∧ (w_chg 1 mk 0 x W).S 8 < 800000 := by rw [← hW1] at b8 ⊢; omega
    have hn3 : (w_S 11 (W.S 11 + 1) (w_push mk 1 x W)).S 7 ≠ 3 := by
      show W.S 7 ≠ 3
      exact HM_n3 (IV_HM hI)
    refine zz_gsn 2 rfl ?_
    refine zz_br rfl (fun h86 => ?_) (fun h86 => absurd (f5.symm.trans (by first | exact h86 | exact Decidable.not_not.mp h86)) (by decide))
    refine zz_gsn 3 rfl ?_
    refine zz_br rfl (fun h93 => absurd f5 h93) (fun h93 => ?_)
    refine zz_gsn 3 rfl ?_
    refine zz_cv (n := 3) rfl rfl (t_Mo_goesOn (mk := mk) (o := 0) (V := w_chg 1 mk 0 x W) P83 ht (Or.inl ⟨rfl, ech, hn3⟩) hg rfl (by show W.n + 1 + 4 ≤ 20000; omega) hvl (by show -700000 < W.S 6 ∧ W.S 6 < 700000; exact hb6) (by show -700000 < W.S 8 ∧ W.S 8 < 700000; exact hb8) hv6 hv8 (by rw [f7]; decide) f8 f9) (Nat.le_of_ble_eq_true rfl) (Nat.le_of_ble_eq_true rfl) (Nat.le_of_ble_eq_true rfl) (fun r97 σ97 q97 => ?_)
    obtain ⟨rfl, p97, y97, a97, b97, c97⟩ := q97
    refine zz_gsn 3 rfl ?_
    refine zz_br rfl (fun h101 => ?_) (fun h101 => absurd (((y97.fl (by decide)).trans f5).symm.trans (by first | exact h101 | exact Decidable.not_not.mp h101)) (by decide))
    refine zz_gsn 2 rfl ?_
    refine zz_ri rfl (Or.inl rfl) ?_
    obtain ⟨d1, d2, d3, d4⟩ := w_deed_1 (law := 1) (C := C) (mk := mk) (kind := 0) (x := x) (W := W) rfl
    rw [d1, d2, d3, d4]
    refine ⟨congrArg (fun z => some (zI z)) ?_, p97, GG.tr y97 (by show W.n ≤ W.n + 1; omega), b97, c97⟩
    rw [a97, f7]
  · subst ek
    subst el
    have hr0 : W.R 0 ≠ [] := (HM_tk (IV_HM hI) (hpos (Or.inl rfl))).1
    have hpp := hpos (Or.inl rfl)
    refine zz_gsn 3 rfl ?_
    refine zz_cv (n := 3) rfl rfl (t_Mo_copies (s := s) (t := t) hs ht hst) (Nat.le_of_ble_eq_true rfl) (Nat.le_of_ble_eq_true rfl) (Nat.le_of_ble_eq_true rfl) (fun r3 σ3 q3 => ?_)
    obtain ⟨rfl, u3, v3, w3⟩ := q3
    obtain ⟨P3, G3⟩ := hP.copy u3 v3 w3
    refine zz_gsn 5 rfl ?_
    refine zz_ptz rfl (by first | exact Or.inl rfl | exact Or.inr rfl | omega) ?_
    refine zz_gsn 2 rfl ?_
    refine zz_ptz rfl (by first | exact Or.inl rfl | exact Or.inr rfl | omega) ?_
    obtain ⟨σ1, h1⟩ : ∃ x, x = zz_sf (zz_sf (zz_sf σ3 1207 m 1) 1208 m 0) 1209 m 0 := ⟨_, rfl⟩
    refine zz_sge (σ' := σ1) h1 ?_
    have P1 : MP σ1 m t W := by rw [h1]; exact ((P3.fd (by decide)).fd (by decide)).fd (by decide)
    have G1 : Rg m t W.n σ σ1 := by rw [h1]; exact (((G3.g.tr (Rg.sf (Or.inr (Or.inl rfl))) (Nat.le_refl _)).tr (Rg.sf (Or.inr (Or.inr (Or.inl rfl)))) (Nat.le_refl _)).tr (Rg.sf (Or.inr (Or.inr (Or.inr rfl)))) (Nat.le_refl _))
    have x7 : σ1.1 1207 m = 1 := by rw [h1, sf_f _ _ (by decide), sf_f _ _ (by decide), sf_h]
    have x8 : σ1.1 1208 m = 0 := by rw [h1, sf_f _ _ (by decide), sf_h]
    have x9 : σ1.1 1209 m = 0 := by rw [h1, sf_h]
    have x5 : σ1.1 1205 m = 1 := (G1.fl (by decide)).trans hlaw
    have x6 : σ1.1 1206 m = C := (G1.fl (by decide)).trans hC0
    clear h1
    have e0 := zz_ch_n (P1.1 0 (by decide))
    have e1 := zz_ch_n (P1.1 1 (by decide))
    refine zz_gsn 1 rfl ?_
    refine zz_br rfl (fun h14 => ?_) (fun h14 => absurd h14 (by decide))
    refine zz_gsn 2 rfl ?_
    refine zz_br rfl (fun h22 => ?_) (fun h22 => absurd h22 (by decide))
    refine zz_gsn 2 rfl ?_
    refine zz_br rfl (fun h30 => absurd rfl h30) (fun h30 => ?_)
    refine zz_gsn 5 rfl ?_
    refine zz_cv (n := 3) rfl rfl (t_Mo_of (s := t) (k := 0) ht (by decide)) (Nat.le_of_ble_eq_true rfl) (Nat.le_of_ble_eq_true rfl) (Nat.le_of_ble_eq_true rfl) (fun r36 σ36 q36 => ?_)
    obtain ⟨rfl, rfl⟩ := q36
    refine zz_gsn 1 rfl ?_
    refine zz_br rfl (fun h38 => ?_) (fun h38 => hr0 (e0.mp h38) |>.elim)
    have hr0 : W.R 0 ≠ [] := fun z => h38 (e0.mpr z)
    have hz := hr0
    refine zz_gsn 1 rfl ?_
    obtain ⟨c1, l1, ec⟩ := l_cons (l := W.R 0) (hr0)
    refine zz_cv (n := 3) rfl rfl (t_Mo_pops (s := t) (k := 0) P1 ht (by decide) (by omega) ec) (Nat.le_of_ble_eq_true rfl) (Nat.le_of_ble_eq_true rfl) (Nat.le_of_ble_eq_true rfl) (fun r42 σ42 q42 => ?_)
    obtain ⟨rfl, p42, g42⟩ := q42
    refine zz_gsn 3 rfl ?_
    refine zz_br rfl (fun h46 => ?_) (fun h46 => absurd h46 (by decide))
    refine zz_gsn 2 rfl ?_
    refine zz_br rfl (fun h62 => ?_) (fun h62 => absurd rfl h62)
    refine zz_gsn 1 rfl ?_
    refine zz_jp rfl ?_
    refine zz_gsn 7 rfl ?_
    refine zz_cv (n := 3) rfl rfl (t_Mo_of (s := t) (k := 11) ht (by decide)) (Nat.le_of_ble_eq_true rfl) (Nat.le_of_ble_eq_true rfl) (Nat.le_of_ble_eq_true rfl) (fun r76 σ76 q76 => ?_)
    obtain ⟨rfl, rfl⟩ := q76
    refine zz_gsn 1 rfl ?_
    refine zz_br rfl (fun h78 => absurd h78 (by decide)) (fun h78 => ?_)
    refine zz_gsn 1 rfl ?_
    refine zz_jp rfl ?_
    refine zz_gsn 1 rfl ?_
    refine zz_cv (n := 4) rfl rfl (t_Mo_sets (s := t) (k := 11) ht (by decide)) (Nat.le_of_ble_eq_true rfl) (Nat.le_of_ble_eq_true rfl) (Nat.le_of_ble_eq_true rfl) (fun r83 σ83 q83 => ?_)
    obtain ⟨rfl, h83⟩ := q83
    have s11 : zw (σ42.2 (m + 3) (12 * t + 11) + -1) = W.S 11 + -1 := by
      rw [p42.2.1 11 (by decide) (by decide)]
      exact zw_id (x := W.S 11 + -1) (by omega) (by omega)
    have P83 := p42.S' (j := 11) (by decide) s11
    rw [← h83] at P83
    clear s11
    have G83 : Rc m t W.n σ1 σ83 := g42.tr (by rw [h83]; exact Rc.st (by decide)) (Nat.le_refl _)
    have ech : w_chg 1 mk 1 x W = w_dis (w_S 11 (W.S 11 + -1) (w_pop 0 W)) := by
      rw [w_chg1 mk x W rfl, if_neg (by rw [w_dis_R _ (by decide)]; exact hr0)]
      exact (dis_pop (W := w_S 11 (W.S 11 - 1) W) (k := 0) (by decide)).symm
    have f7 : σ83.1 1207 m = 1 := (G83.fl (by decide)).trans x7
    have f8 : σ83.1 1208 m = 0 := (G83.fl (by decide)).trans x8
    have f9 : σ83.1 1209 m = 0 := (G83.fl (by decide)).trans x9
    have f5 : σ83.1 1205 m = 1 := (G83.fl (by decide)).trans x5
    have f6 : σ83.1 1206 m = C := (G83.fl (by decide)).trans x6
    have GG : Rg m t W.n σ σ83 := G1.tr G83.g (Nat.le_refl _)
    obtain ⟨bl, b6, b8, b9, b10, -, hnc⟩ := w_chg_B 1 mk 1 x W (by decide)
    have hqq := w_q (law := 1) (mk := mk) (kind := 1) (x := x) hI (by decide)
    obtain ⟨W1, hW1⟩ : ∃ W1, W1 = w_chg 1 mk 1 x W := ⟨_, rfl⟩
    have hg : g_pre (w_chg 1 mk 1 x W) := HM_takep (IV_HM hI) hpp
    have hvl : ((w_chg 1 mk 1 x W).R 1).length < 100000 := by have := bl 1; rw [← hW1] at this ⊢; omega
    have hv6 : -800000 < (w_chg 1 mk 1 x W).S 6 ∧ (w_chg 1 mk 1 x W).S 6 < 800000 := by rw [← hW1] at b6 ⊢; omega
    have hv8 : -800000 < (w_chg 1 mk 1 x W).S 8 ∧ (w_chg 1 mk 1 x W).S 8 < 800000 := by rw [← hW1] at b8 ⊢; omega
    have htk : (w_S 11 (W.S 11 + -1) (w_pop 0 W)).S 7 = 0 ∨ (w_S 11 (W.S 11 + -1) (w_pop 0 W)).S 7 = 1 ∨ ((w_S 11 (W.S 11 + -1) (w_pop 0 W)).S 7 = 2 ∧ (w_S 11 (W.S 11 + -1) (w_pop 0 W)).S 8 = 0 ∧ (w_S 11 (W.S 11 + -1) (w_pop 0 W)).R 5 ≠ []) ∨ ((w_S 11 (W.S 11 + -1) (w_pop 0 W)).S 7 = 2 ∧ (w_S 11 (W.S 11 + -1) (w_pop 0 W)).S 8 ≠ 0) := (HM_tk (IV_HM hI) hpp).2
    refine zz_gsn 2 rfl ?_
    refine zz_br rfl (fun h86 => ?_) (fun h86 => absurd (f5.symm.trans (by first | exact h86 | exact Decidable.not_not.mp h86)) (by decide))
    refine zz_gsn 3 rfl ?_
    refine zz_br rfl (fun h93 => absurd f5 h93) (fun h93 => ?_)
    refine zz_gsn 3 rfl ?_
    refine zz_cv (n := 3) rfl rfl (t_Mo_goesOn (mk := mk) (o := 1) (V := w_chg 1 mk 1 x W) P83 ht (Or.inr ⟨rfl, ech, htk⟩) hg (by rw [ech, w_dis_n]) (by show W.n + 4 ≤ 20000; omega) hvl (by show -700000 < W.S 6 ∧ W.S 6 < 700000; exact hb6) (by show -700000 < W.S 8 ∧ W.S 8 < 700000; exact hb8) hv6 hv8 (by rw [f7]; decide) f8 f9) (Nat.le_of_ble_eq_true rfl) (Nat.le_of_ble_eq_true rfl) (Nat.le_of_ble_eq_true rfl) (fun r97 σ97 q97 => ?_)
    obtain ⟨rfl, p97, y97, a97, b97, c97⟩ := q97
    refine zz_gsn 3 rfl ?_
    refine zz_br rfl (fun h101 => ?_) (fun h101 => absurd (((y97.fl (by decide)).trans f5).symm.trans (by first | exact h101 | exact Decidable.not_not.mp h101)) (by decide))
    refine zz_gsn 2 rfl ?_
    refine zz_ri rfl (Or.inl rfl) ?_
    obtain ⟨d1, d2, d3, d4⟩ := w_deed_1 (law := 1) (C := C) (mk := mk) (kind := 1) (x := x) (W := W) rfl
    rw [d1, d2, d3, d4]
    refine ⟨congrArg (fun z => some (zI z)) ?_, p97, GG.tr y97 (by show W.n ≤ W.n; omega), b97, c97⟩
    rw [a97, f7]
  · subst ek
    subst el
    refine zz_gsn 3 rfl ?_
    refine zz_cv (n := 3) rfl rfl (t_Mo_copies (s := s) (t := t) hs ht hst) (Nat.le_of_ble_eq_true rfl) (Nat.le_of_ble_eq_true rfl) (Nat.le_of_ble_eq_true rfl) (fun r3 σ3 q3 => ?_)
    obtain ⟨rfl, u3, v3, w3⟩ := q3
    obtain ⟨P3, G3⟩ := hP.copy u3 v3 w3
    refine zz_gsn 5 rfl ?_
    refine zz_ptz rfl (by first | exact Or.inl rfl | exact Or.inr rfl | omega) ?_
    refine zz_gsn 2 rfl ?_
    refine zz_ptz rfl (by first | exact Or.inl rfl | exact Or.inr rfl | omega) ?_
    obtain ⟨σ1, h1⟩ : ∃ x, x = zz_sf (zz_sf (zz_sf σ3 1207 m 1) 1208 m 0) 1209 m 0 := ⟨_, rfl⟩
    refine zz_sge (σ' := σ1) h1 ?_
    have P1 : MP σ1 m t W := by rw [h1]; exact ((P3.fd (by decide)).fd (by decide)).fd (by decide)
    have G1 : Rg m t W.n σ σ1 := by rw [h1]; exact (((G3.g.tr (Rg.sf (Or.inr (Or.inl rfl))) (Nat.le_refl _)).tr (Rg.sf (Or.inr (Or.inr (Or.inl rfl)))) (Nat.le_refl _)).tr (Rg.sf (Or.inr (Or.inr (Or.inr rfl)))) (Nat.le_refl _))
    have x7 : σ1.1 1207 m = 1 := by rw [h1, sf_f _ _ (by decide), sf_f _ _ (by decide), sf_h]
    have x8 : σ1.1 1208 m = 0 := by rw [h1, sf_f _ _ (by decide), sf_h]
    have x9 : σ1.1 1209 m = 0 := by rw [h1, sf_h]
    have x5 : σ1.1 1205 m = 2 := (G1.fl (by decide)).trans hlaw
    have x6 : σ1.1 1206 m = C := (G1.fl (by decide)).trans hC0
    clear h1
    have e0 := zz_ch_n (P1.1 0 (by decide))
    have e1 := zz_ch_n (P1.1 1 (by decide))
    refine zz_gsn 1 rfl ?_
    refine zz_br rfl (fun h14 => absurd rfl h14) (fun h14 => ?_)
    refine zz_gsn 4 rfl ?_
    refine zz_cv (n := 4) rfl rfl (t_Mo_pushes (s := t) (k := 1) (mk := mk) P1 ht (by decide) (by omega)) (Nat.le_of_ble_eq_true rfl) (Nat.le_of_ble_eq_true rfl) (Nat.le_of_ble_eq_true rfl) (fun r19 σ19 q19 => ?_)
    obtain ⟨rfl, p19, g19⟩ := q19
    refine zz_gsn 2 rfl ?_
    refine zz_br rfl (fun h22 => ?_) (fun h22 => absurd h22 (by decide))
    refine zz_gsn 2 rfl ?_
    refine zz_br rfl (fun h30 => ?_) (fun h30 => absurd h30 (by decide))
    refine zz_gsn 2 rfl ?_
    refine zz_br rfl (fun h46 => ?_) (fun h46 => absurd h46 (by decide))
    refine zz_gsn 2 rfl ?_
    refine zz_br rfl (fun h62 => absurd h62 (by decide)) (fun h62 => ?_)
    refine zz_gsn 2 rfl ?_
    refine zz_br rfl (fun h65 => ?_) (fun h65 => absurd h65 (by decide))
    refine zz_gsn 8 rfl ?_
    refine zz_cv (n := 3) rfl rfl (t_Mo_of (s := t) (k := 11) ht (by decide)) (Nat.le_of_ble_eq_true rfl) (Nat.le_of_ble_eq_true rfl) (Nat.le_of_ble_eq_true rfl) (fun r76 σ76 q76 => ?_)
    obtain ⟨rfl, rfl⟩ := q76
    refine zz_gsn 1 rfl ?_
    refine zz_br rfl (fun h78 => ?_) (fun h78 => absurd rfl h78)
    refine zz_gsn 2 rfl ?_
    refine zz_cv (n := 4) rfl rfl (t_Mo_sets (s := t) (k := 11) ht (by decide)) (Nat.le_of_ble_eq_true rfl) (Nat.le_of_ble_eq_true rfl) (Nat.le_of_ble_eq_true rfl) (fun r83 σ83 q83 => ?_)
    obtain ⟨rfl, h83⟩ := q83
    have s11 : zw (σ19.2 (m + 3) (12 * t + 11) + 1) = W.S 11 + 1 := by
      rw [p19.2.1 11 (by decide) (by decide)]
      exact zw_id (x := W.S 11 + 1) (by omega) (by omega)
    have P83 := p19.S' (j := 11) (by decide) s11
    rw [← h83] at P83
    clear s11
    have G83 : Rc m t W.n σ1 σ83 := g19.tr (by rw [h83]; exact Rc.st (by decide)) (Nat.le_refl _)
    have ech : w_chg 2 mk 0 x W = w_S 11 (W.S 11 + 1) (w_push mk 1 x W) := rfl
    have f7 : σ83.1 1207 m = 1 := (G83.fl (by decide)).trans x7
    have f8 : σ83.1 1208 m = 0 := (G83.fl (by decide)).trans x8
    have f9 : σ83.1 1209 m = 0 := (G83.fl (by decide)).trans x9
    have f5 : σ83.1 1205 m = 2 := (G83.fl (by decide)).trans x5
    have f6 : σ83.1 1206 m = C := (G83.fl (by decide)).trans x6
    have GG : Rg m t W.n σ σ83 := G1.tr G83.g (Nat.le_refl _)
    obtain ⟨bl, b6, b8, b9, b10, -, hnc⟩ := w_chg_B 2 mk 0 x W (by decide)
    have hqq := w_q (law := 2) (mk := mk) (kind := 0) (x := x) hI (by decide)
    obtain ⟨W1, hW1⟩ : ∃ W1, W1 = w_chg 2 mk 0 x W := ⟨_, rfl⟩
    rw [← hW1] at bl b6 b8 b9 b10 hnc hqq ech
    rw [← ech] at P83
    have hn1 : W1.n ≤ W.n + 1 := by rw [ech]; exact Nat.le_refl _
    clear ech
    have hb9 : 0 ≤ W1.S 9 ∧ W1.S 9 < 900000 := by rw [b9]; omega
    have hb10 : 0 ≤ W1.S 10 ∧ W1.S 10 < 900000 := by rw [b10]; omega
    have hq0 : (W1.R 0).length ≤ 790 := by omega
    have hq1 : (W1.R 1).length ≤ 790 := by omega
    have hqn : W1.n + (W1.R 0).length + (W1.R 1).length ≤ 20000 := by omega
    refine zz_gsn 2 rfl ?_
    refine zz_br rfl (fun h86 => ?_) (fun h86 => absurd (f5.symm.trans (by first | exact h86 | exact Decidable.not_not.mp h86)) (by decide))
    refine zz_gsn 3 rfl ?_
    refine zz_br rfl (fun h93 => ?_) (fun h93 => absurd (f5.symm.trans (by first | exact h93 | exact Decidable.not_not.mp h93)) (by decide))
    refine zz_gsn 3 rfl ?_
    refine zz_br rfl (fun h101 => absurd f5 h101) (fun h101 => ?_)
    refine zz_gsn 3 rfl ?_
    refine zz_br rfl (fun h105 => ?_) (fun h105 => absurd rfl h105)
    refine zz_gsn 1 rfl ?_
    refine zz_cv (n := 3) rfl rfl (t_Mo_evens (mk := mk) (pay := 1) P83 ht (f6.trans rfl) hC (by decide) hb9 hb10 hq0 hq1 hqn (by rw [f7]; decide) f8 f9) (Nat.le_of_ble_eq_true rfl) (Nat.le_of_ble_eq_true rfl) (Nat.le_of_ble_eq_true rfl) (fun r109 σ109 q109 => ?_)
    obtain ⟨rfl, p109, y109, a109, b109, c109⟩ := q109
    refine zz_gsn 2 rfl ?_
    refine zz_ri rfl (Or.inl rfl) ?_
    obtain ⟨d1, d2, d3, d4⟩ := w_deed_2 (law := 2) (C := C) (mk := mk) (kind := 0) (x := x) (W := W) (by decide) (by decide)
    rw [d1, d2, d3, d4, ← hW1]
    refine ⟨congrArg (fun z => some (zI z)) ?_, p109, GG.tr y109 hnc, b109, c109⟩
    rw [a109, f7]
    rfl
  · subst ek
    subst el
    have hpp := hpos (Or.inl rfl)
    refine zz_gsn 3 rfl ?_
    refine zz_cv (n := 3) rfl rfl (t_Mo_copies (s := s) (t := t) hs ht hst) (Nat.le_of_ble_eq_true rfl) (Nat.le_of_ble_eq_true rfl) (Nat.le_of_ble_eq_true rfl) (fun r3 σ3 q3 => ?_)
    obtain ⟨rfl, u3, v3, w3⟩ := q3
    obtain ⟨P3, G3⟩ := hP.copy u3 v3 w3
    refine zz_gsn 5 rfl ?_
    refine zz_ptz rfl (by first | exact Or.inl rfl | exact Or.inr rfl | omega) ?_
    refine zz_gsn 2 rfl ?_
    refine zz_ptz rfl (by first | exact Or.inl rfl | exact Or.inr rfl | omega) ?_
    obtain ⟨σ1, h1⟩ : ∃ x, x = zz_sf (zz_sf (zz_sf σ3 1207 m 1) 1208 m 0) 1209 m 0 := ⟨_, rfl⟩
    refine zz_sge (σ' := σ1) h1 ?_
    have P1 : MP σ1 m t W := by rw [h1]; exact ((P3.fd (by decide)).fd (by decide)).fd (by decide)
    have G1 : Rg m t W.n σ σ1 := by rw [h1]; exact (((G3.g.tr (Rg.sf (Or.inr (Or.inl rfl))) (Nat.le_refl _)).tr (Rg.sf (Or.inr (Or.inr (Or.inl rfl)))) (Nat.le_refl _)).tr (Rg.sf (Or.inr (Or.inr (Or.inr rfl)))) (Nat.le_refl _))
    have x7 : σ1.1 1207 m = 1 := by rw [h1, sf_f _ _ (by decide), sf_f _ _ (by decide), sf_h]
    have x8 : σ1.1 1208 m = 0 := by rw [h1, sf_f _ _ (by decide), sf_h]
    have x9 : σ1.1 1209 m = 0 := by rw [h1, sf_h]
    have x5 : σ1.1 1205 m = 2 := (G1.fl (by decide)).trans hlaw
    have x6 : σ1.1 1206 m = C := (G1.fl (by decide)).trans hC0
    clear h1
    have e0 := zz_ch_n (P1.1 0 (by decide))
    have e1 := zz_ch_n (P1.1 1 (by decide))
    refine zz_gsn 1 rfl ?_
    refine zz_br rfl (fun h14 => ?_) (fun h14 => absurd h14 (by decide))
    refine zz_gsn 2 rfl ?_
    refine zz_br rfl (fun h22 => ?_) (fun h22 => absurd h22 (by decide))
    refine zz_gsn 2 rfl ?_
    refine zz_br rfl (fun h30 => absurd rfl h30) (fun h30 => ?_)
    refine zz_gsn 5 rfl ?_
    refine zz_cv (n := 3) rfl rfl (t_Mo_of (s := t) (k := 0) ht (by decide)) (Nat.le_of_ble_eq_true rfl) (Nat.le_of_ble_eq_true rfl) (Nat.le_of_ble_eq_true rfl) (fun r36 σ36 q36 => ?_)
    obtain ⟨rfl, rfl⟩ := q36
    refine zz_gsn 1 rfl ?_
    refine zz_br rfl (fun h38 => ?_) (fun h38 => ?_)
    · have hr0 : W.R 0 ≠ [] := fun z => h38 (e0.mpr z)
      have hz := hr0
      refine zz_gsn 1 rfl ?_
      obtain ⟨c1, l1, ec⟩ := l_cons (l := W.R 0) (hr0)
      refine zz_cv (n := 3) rfl rfl (t_Mo_pops (s := t) (k := 0) P1 ht (by decide) (by omega) ec) (Nat.le_of_ble_eq_true rfl) (Nat.le_of_ble_eq_true rfl) (Nat.le_of_ble_eq_true rfl) (fun r42 σ42 q42 => ?_)
      obtain ⟨rfl, p42, g42⟩ := q42
      refine zz_gsn 3 rfl ?_
      refine zz_br rfl (fun h46 => ?_) (fun h46 => absurd h46 (by decide))
      refine zz_gsn 2 rfl ?_
      refine zz_br rfl (fun h62 => ?_) (fun h62 => absurd rfl h62)
      refine zz_gsn 1 rfl ?_
      refine zz_jp rfl ?_
      refine zz_gsn 7 rfl ?_
      refine zz_cv (n := 3) rfl rfl (t_Mo_of (s := t) (k := 11) ht (by decide)) (Nat.le_of_ble_eq_true rfl) (Nat.le_of_ble_eq_true rfl) (Nat.le_of_ble_eq_true rfl) (fun r76 σ76 q76 => ?_)
      obtain ⟨rfl, rfl⟩ := q76
      refine zz_gsn 1 rfl ?_
      refine zz_br rfl (fun h78 => absurd h78 (by decide)) (fun h78 => ?_)
      refine zz_gsn 1 rfl ?_
      refine zz_jp rfl ?_
      refine zz_gsn 1 rfl ?_
      refine zz_cv (n := 4) rfl rfl (t_Mo_sets (s := t) (k := 11) ht (by decide)) (Nat.le_of_ble_eq_true rfl) (Nat.le_of_ble_eq_true rfl) (Nat.le_of_ble_eq_true rfl) (fun r83 σ83 q83 => ?_)
      obtain ⟨rfl, h83⟩ := q83
      have s11 : zw (σ42.2 (m + 3) (12 * t + 11) + -1) = W.S 11 + -1 := by
        rw [p42.2.1 11 (by decide) (by decide)]
        exact zw_id (x := W.S 11 + -1) (by omega) (by omega)
      have P83 := p42.S' (j := 11) (by decide) s11
      rw [← h83] at P83
      clear s11
      have G83 : Rc m t W.n σ1 σ83 := g42.tr (by rw [h83]; exact Rc.st (by decide)) (Nat.le_refl _)
      have ech : w_chg 2 mk 1 x W = w_S 11 (W.S 11 + -1) (w_pop 0 W) := by
        rw [w_chg1n mk x W (by decide), if_neg hz]
        rfl
      have f7 : σ83.1 1207 m = 1 := (G83.fl (by decide)).trans x7
      have f8 : σ83.1 1208 m = 0 := (G83.fl (by decide)).trans x8
      have f9 : σ83.1 1209 m = 0 := (G83.fl (by decide)).trans x9
      have f5 : σ83.1 1205 m = 2 := (G83.fl (by decide)).trans x5
      have f6 : σ83.1 1206 m = C := (G83.fl (by decide)).trans x6
      have GG : Rg m t W.n σ σ83 := G1.tr G83.g (Nat.le_refl _)
      obtain ⟨bl, b6, b8, b9, b10, -, hnc⟩ := w_chg_B 2 mk 1 x W (by decide)
      have hqq := w_q (law := 2) (mk := mk) (kind := 1) (x := x) hI (by decide)
      obtain ⟨W1, hW1⟩ : ∃ W1, W1 = w_chg 2 mk 1 x W := ⟨_, rfl⟩
      rw [← hW1] at bl b6 b8 b9 b10 hnc hqq ech
      rw [← ech] at P83
      have hn1 : W1.n ≤ W.n + 1 := by rw [ech]; exact Nat.le_succ _
      clear ech
      have hb9 : 0 ≤ W1.S 9 ∧ W1.S 9 < 900000 := by rw [b9]; omega
      have hb10 : 0 ≤ W1.S 10 ∧ W1.S 10 < 900000 := by rw [b10]; omega
      have hq0 : (W1.R 0).length ≤ 790 := by omega
      have hq1 : (W1.R 1).length ≤ 790 := by omega
      have hqn : W1.n + (W1.R 0).length + (W1.R 1).length ≤ 20000 := by omega
      refine zz_gsn 2 rfl ?_
      refine zz_br rfl (fun h86 => ?_) (fun h86 => absurd (f5.symm.trans (by first | exact h86 | exact Decidable.not_not.mp h86)) (by decide))
      refine zz_gsn 3 rfl ?_
      refine zz_br rfl (fun h93 => ?_) (fun h93 => absurd (f5.symm.trans (by first | exact h93 | exact Decidable.not_not.mp h93)) (by decide))
      refine zz_gsn 3 rfl ?_
      refine zz_br rfl (fun h101 => absurd f5 h101) (fun h101 => ?_)
      refine zz_gsn 3 rfl ?_
      refine zz_br rfl (fun h105 => absurd h105 (by decide)) (fun h105 => ?_)
      refine zz_gsn 1 rfl ?_
      refine zz_jp rfl ?_
      refine zz_cv (n := 3) rfl rfl (t_Mo_evens (mk := mk) (pay := 2) P83 ht (f6.trans rfl) hC (by decide) hb9 hb10 hq0 hq1 hqn (by rw [f7]; decide) f8 f9) (Nat.le_of_ble_eq_true rfl) (Nat.le_of_ble_eq_true rfl) (Nat.le_of_ble_eq_true rfl) (fun r109 σ109 q109 => ?_)
      obtain ⟨rfl, p109, y109, a109, b109, c109⟩ := q109
      refine zz_gsn 2 rfl ?_
      refine zz_ri rfl (Or.inl rfl) ?_
      obtain ⟨d1, d2, d3, d4⟩ := w_deed_2 (law := 2) (C := C) (mk := mk) (kind := 1) (x := x) (W := W) (by decide) (by decide)
      rw [d1, d2, d3, d4, ← hW1]
      refine ⟨congrArg (fun z => some (zI z)) ?_, p109, GG.tr y109 hnc, b109, c109⟩
      rw [a109, f7]
      rfl
    · have hz : W.R 0 = [] := e0.mp h38
      have hr1 : W.R 1 ≠ [] := fun z => by have y := (IV_bd hI).2.2 hpp; rw [w_nil' hz, w_nil' z] at y; omega
      refine zz_gsn 1 rfl ?_
      refine zz_jp rfl ?_
      obtain ⟨c1, l1, ec⟩ := l_cons (l := W.R 1) (hr1)
      refine zz_cv (n := 3) rfl rfl (t_Mo_pops (s := t) (k := 1) P1 ht (by decide) (by omega) ec) (Nat.le_of_ble_eq_true rfl) (Nat.le_of_ble_eq_true rfl) (Nat.le_of_ble_eq_true rfl) (fun r42 σ42 q42 => ?_)
      obtain ⟨rfl, p42, g42⟩ := q42
      refine zz_gsn 3 rfl ?_
      refine zz_br rfl (fun h46 => ?_) (fun h46 => absurd h46 (by decide))
      refine zz_gsn 2 rfl ?_
      refine zz_br rfl (fun h62 => ?_) (fun h62 => absurd rfl h62)
      refine zz_gsn 1 rfl ?_
      refine zz_jp rfl ?_
      refine zz_gsn 7 rfl ?_
      refine zz_cv (n := 3) rfl rfl (t_Mo_of (s := t) (k := 11) ht (by decide)) (Nat.le_of_ble_eq_true rfl) (Nat.le_of_ble_eq_true rfl) (Nat.le_of_ble_eq_true rfl) (fun r76 σ76 q76 => ?_)
      obtain ⟨rfl, rfl⟩ := q76
      refine zz_gsn 1 rfl ?_
      refine zz_br rfl (fun h78 => absurd h78 (by decide)) (fun h78 => ?_)
      refine zz_gsn 1 rfl ?_
      refine zz_jp rfl ?_
      refine zz_gsn 1 rfl ?_
      refine zz_cv (n := 4) rfl rfl (t_Mo_sets (s := t) (k := 11) ht (by decide)) (Nat.le_of_ble_eq_true rfl) (Nat.le_of_ble_eq_true rfl) (Nat.le_of_ble_eq_true rfl) (fun r83 σ83 q83 => ?_)
      obtain ⟨rfl, h83⟩ := q83
      have s11 : zw (σ42.2 (m + 3) (12 * t + 11) + -1) = W.S 11 + -1 := by
        rw [p42.2.1 11 (by decide) (by decide)]
        exact zw_id (x := W.S 11 + -1) (by omega) (by omega)
      have P83 := p42.S' (j := 11) (by decide) s11
      rw [← h83] at P83
      clear s11
      have G83 : Rc m t W.n σ1 σ83 := g42.tr (by rw [h83]; exact Rc.st (by decide)) (Nat.le_refl _)
      have ech : w_chg 2 mk 1 x W = w_S 11 (W.S 11 + -1) (w_pop 1 W) := by
        rw [w_chg1n mk x W (by decide), if_pos hz]
        rfl
      have f7 : σ83.1 1207 m = 1 := (G83.fl (by decide)).trans x7
      have f8 : σ83.1 1208 m = 0 := (G83.fl (by decide)).trans x8
      have f9 : σ83.1 1209 m = 0 := (G83.fl (by decide)).trans x9
      have f5 : σ83.1 1205 m = 2 := (G83.fl (by decide)).trans x5
      have f6 : σ83.1 1206 m = C := (G83.fl (by decide)).trans x6
      have GG : Rg m t W.n σ σ83 := G1.tr G83.g (Nat.le_refl _)
      obtain ⟨bl, b6, b8, b9, b10, -, hnc⟩ := w_chg_B 2 mk 1 x W (by decide)
      have hqq := w_q (law := 2) (mk := mk) (kind := 1) (x := x) hI (by decide)
      obtain ⟨W1, hW1⟩ : ∃ W1, W1 = w_chg 2 mk 1 x W := ⟨_, rfl⟩
      rw [← hW1] at bl b6 b8 b9 b10 hnc hqq ech
      rw [← ech] at P83
      have hn1 : W1.n ≤ W.n + 1 := by rw [ech]; exact Nat.le_succ _
      clear ech
      have hb9 : 0 ≤ W1.S 9 ∧ W1.S 9 < 900000 := by rw [b9]; omega
      have hb10 : 0 ≤ W1.S 10 ∧ W1.S 10 < 900000 := by rw [b10]; omega
      have hq0 : (W1.R 0).length ≤ 790 := by omega
      have hq1 : (W1.R 1).length ≤ 790 := by omega
      have hqn : W1.n + (W1.R 0).length + (W1.R 1).length ≤ 20000 := by omega
      refine zz_gsn 2 rfl ?_
      refine zz_br rfl (fun h86 => ?_) (fun h86 => absurd (f5.symm.trans (by first | exact h86 | exact Decidable.not_not.mp h86)) (by decide))
      refine zz_gsn 3 rfl ?_
      refine zz_br rfl (fun h93 => ?_) (fun h93 => absurd (f5.symm.trans (by first | exact h93 | exact Decidable.not_not.mp h93)) (by decide))
      refine zz_gsn 3 rfl ?_
      refine zz_br rfl (fun h101 => absurd f5 h101) (fun h101 => ?_)
      refine zz_gsn 3 rfl ?_
      refine zz_br rfl (fun h105 => absurd h105 (by decide)) (fun h105 => ?_)
      refine zz_gsn 1 rfl ?_
      refine zz_jp rfl ?_
      refine zz_cv (n := 3) rfl rfl (t_Mo_evens (mk := mk) (pay := 2) P83 ht (f6.trans rfl) hC (by decide) hb9 hb10 hq0 hq1 hqn (by rw [f7]; decide) f8 f9) (Nat.le_of_ble_eq_true rfl) (Nat.le_of_ble_eq_true rfl) (Nat.le_of_ble_eq_true rfl) (fun r109 σ109 q109 => ?_)
      obtain ⟨rfl, p109, y109, a109, b109, c109⟩ := q109
      refine zz_gsn 2 rfl ?_
      refine zz_ri rfl (Or.inl rfl) ?_
      obtain ⟨d1, d2, d3, d4⟩ := w_deed_2 (law := 2) (C := C) (mk := mk) (kind := 1) (x := x) (W := W) (by decide) (by decide)
      rw [d1, d2, d3, d4, ← hW1]
      refine ⟨congrArg (fun z => some (zI z)) ?_, p109, GG.tr y109 hnc, b109, c109⟩
      rw [a109, f7]
      rfl
  · subst ek
    subst el
    refine zz_gsn 3 rfl ?_
    refine zz_cv (n := 3) rfl rfl (t_Mo_copies (s := s) (t := t) hs ht hst) (Nat.le_of_ble_eq_true rfl) (Nat.le_of_ble_eq_true rfl) (Nat.le_of_ble_eq_true rfl) (fun r3 σ3 q3 => ?_)
    obtain ⟨rfl, u3, v3, w3⟩ := q3
    obtain ⟨P3, G3⟩ := hP.copy u3 v3 w3
    refine zz_gsn 5 rfl ?_
    refine zz_ptz rfl (by first | exact Or.inl rfl | exact Or.inr rfl | omega) ?_
    refine zz_gsn 2 rfl ?_
    refine zz_ptz rfl (by first | exact Or.inl rfl | exact Or.inr rfl | omega) ?_
    obtain ⟨σ1, h1⟩ : ∃ x, x = zz_sf (zz_sf (zz_sf σ3 1207 m 1) 1208 m 0) 1209 m 0 := ⟨_, rfl⟩
    refine zz_sge (σ' := σ1) h1 ?_
    have P1 : MP σ1 m t W := by rw [h1]; exact ((P3.fd (by decide)).fd (by decide)).fd (by decide)
    have G1 : Rg m t W.n σ σ1 := by rw [h1]; exact (((G3.g.tr (Rg.sf (Or.inr (Or.inl rfl))) (Nat.le_refl _)).tr (Rg.sf (Or.inr (Or.inr (Or.inl rfl)))) (Nat.le_refl _)).tr (Rg.sf (Or.inr (Or.inr (Or.inr rfl)))) (Nat.le_refl _))
    have x7 : σ1.1 1207 m = 1 := by rw [h1, sf_f _ _ (by decide), sf_f _ _ (by decide), sf_h]
    have x8 : σ1.1 1208 m = 0 := by rw [h1, sf_f _ _ (by decide), sf_h]
    have x9 : σ1.1 1209 m = 0 := by rw [h1, sf_h]
    have x5 : σ1.1 1205 m = 2 := (G1.fl (by decide)).trans hlaw
    have x6 : σ1.1 1206 m = C := (G1.fl (by decide)).trans hC0
    clear h1
    have e0 := zz_ch_n (P1.1 0 (by decide))
    have e1 := zz_ch_n (P1.1 1 (by decide))
    refine zz_gsn 1 rfl ?_
    refine zz_br rfl (fun h14 => ?_) (fun h14 => absurd h14 (by decide))
    refine zz_gsn 2 rfl ?_
    refine zz_br rfl (fun h22 => absurd rfl h22) (fun h22 => ?_)
    refine zz_gsn 4 rfl ?_
    refine zz_cv (n := 4) rfl rfl (t_Mo_pushes (s := t) (k := 0) (mk := mk) P1 ht (by decide) (by omega)) (Nat.le_of_ble_eq_true rfl) (Nat.le_of_ble_eq_true rfl) (Nat.le_of_ble_eq_true rfl) (fun r27 σ27 q27 => ?_)
    obtain ⟨rfl, p27, g27⟩ := q27
    refine zz_gsn 2 rfl ?_
    refine zz_br rfl (fun h30 => ?_) (fun h30 => absurd h30 (by decide))
    refine zz_gsn 2 rfl ?_
    refine zz_br rfl (fun h46 => ?_) (fun h46 => absurd h46 (by decide))
    refine zz_gsn 2 rfl ?_
    refine zz_br rfl (fun h62 => absurd h62 (by decide)) (fun h62 => ?_)
    refine zz_gsn 2 rfl ?_
    refine zz_br rfl (fun h65 => ?_) (fun h65 => absurd h65 (by decide))
    refine zz_gsn 8 rfl ?_
    refine zz_cv (n := 3) rfl rfl (t_Mo_of (s := t) (k := 11) ht (by decide)) (Nat.le_of_ble_eq_true rfl) (Nat.le_of_ble_eq_true rfl) (Nat.le_of_ble_eq_true rfl) (fun r76 σ76 q76 => ?_)
    obtain ⟨rfl, rfl⟩ := q76
    refine zz_gsn 1 rfl ?_
    refine zz_br rfl (fun h78 => ?_) (fun h78 => absurd rfl h78)
    refine zz_gsn 2 rfl ?_
    refine zz_cv (n := 4) rfl rfl (t_Mo_sets (s := t) (k := 11) ht (by decide)) (Nat.le_of_ble_eq_true rfl) (Nat.le_of_ble_eq_true rfl) (Nat.le_of_ble_eq_true rfl) (fun r83 σ83 q83 => ?_)
    obtain ⟨rfl, h83⟩ := q83
    have s11 : zw (σ27.2 (m + 3) (12 * t + 11) + 1) = W.S 11 + 1 := by
      rw [p27.2.1 11 (by decide) (by decide)]
      exact zw_id (x := W.S 11 + 1) (by omega) (by omega)
    have P83 := p27.S' (j := 11) (by decide) s11
    rw [← h83] at P83
    clear s11
    have G83 : Rc m t W.n σ1 σ83 := g27.tr (by rw [h83]; exact Rc.st (by decide)) (Nat.le_refl _)
    have ech : w_chg 2 mk 2 x W = w_S 11 (W.S 11 + 1) (w_push mk 0 x W) := rfl
    have f7 : σ83.1 1207 m = 1 := (G83.fl (by decide)).trans x7
    have f8 : σ83.1 1208 m = 0 := (G83.fl (by decide)).trans x8
    have f9 : σ83.1 1209 m = 0 := (G83.fl (by decide)).trans x9
    have f5 : σ83.1 1205 m = 2 := (G83.fl (by decide)).trans x5
    have f6 : σ83.1 1206 m = C := (G83.fl (by decide)).trans x6
    have GG : Rg m t W.n σ σ83 := G1.tr G83.g (Nat.le_refl _)
    obtain ⟨bl, b6, b8, b9, b10, -, hnc⟩ := w_chg_B 2 mk 2 x W (by decide)
    have hqq := w_q (law := 2) (mk := mk) (kind := 2) (x := x) hI (by decide)
    obtain ⟨W1, hW1⟩ : ∃ W1, W1 = w_chg 2 mk 2 x W := ⟨_, rfl⟩
    rw [← hW1] at bl b6 b8 b9 b10 hnc hqq ech
    rw [← ech] at P83
    have hn1 : W1.n ≤ W.n + 1 := by rw [ech]; exact Nat.le_refl _
    clear ech
    have hb9 : 0 ≤ W1.S 9 ∧ W1.S 9 < 900000 := by rw [b9]; omega
    have hb10 : 0 ≤ W1.S 10 ∧ W1.S 10 < 900000 := by rw [b10]; omega
    have hq0 : (W1.R 0).length ≤ 790 := by omega
    have hq1 : (W1.R 1).length ≤ 790 := by omega
    have hqn : W1.n + (W1.R 0).length + (W1.R 1).length ≤ 20000 := by omega
    refine zz_gsn 2 rfl ?_
    refine zz_br rfl (fun h86 => ?_) (fun h86 => absurd (f5.symm.trans (by first | exact h86 | exact Decidable.not_not.mp h86)) (by decide))
    refine zz_gsn 3 rfl ?_
    refine zz_br rfl (fun h93 => ?_) (fun h93 => absurd (f5.symm.trans (by first | exact h93 | exact Decidable.not_not.mp h93)) (by decide))
    refine zz_gsn 3 rfl ?_
    refine zz_br rfl (fun h101 => absurd f5 h101) (fun h101 => ?_)
    refine zz_gsn 3 rfl ?_
    refine zz_br rfl (fun h105 => ?_) (fun h105 => absurd rfl h105)
    refine zz_gsn 1 rfl ?_
    refine zz_cv (n := 3) rfl rfl (t_Mo_evens (mk := mk) (pay := 1) P83 ht (f6.trans rfl) hC (by decide) hb9 hb10 hq0 hq1 hqn (by rw [f7]; decide) f8 f9) (Nat.le_of_ble_eq_true rfl) (Nat.le_of_ble_eq_true rfl) (Nat.le_of_ble_eq_true rfl) (fun r109 σ109 q109 => ?_)
    obtain ⟨rfl, p109, y109, a109, b109, c109⟩ := q109
    refine zz_gsn 2 rfl ?_
    refine zz_ri rfl (Or.inl rfl) ?_
    obtain ⟨d1, d2, d3, d4⟩ := w_deed_2 (law := 2) (C := C) (mk := mk) (kind := 2) (x := x) (W := W) (by decide) (by decide)
    rw [d1, d2, d3, d4, ← hW1]
    refine ⟨congrArg (fun z => some (zI z)) ?_, p109, GG.tr y109 hnc, b109, c109⟩
    rw [a109, f7]
    rfl
  · subst ek
    subst el
    have hpp := hpos (Or.inr rfl)
    refine zz_gsn 3 rfl ?_
    refine zz_cv (n := 3) rfl rfl (t_Mo_copies (s := s) (t := t) hs ht hst) (Nat.le_of_ble_eq_true rfl) (Nat.le_of_ble_eq_true rfl) (Nat.le_of_ble_eq_true rfl) (fun r3 σ3 q3 => ?_)
    obtain ⟨rfl, u3, v3, w3⟩ := q3
    obtain ⟨P3, G3⟩ := hP.copy u3 v3 w3
    refine zz_gsn 5 rfl ?_
    refine zz_ptz rfl (by first | exact Or.inl rfl | exact Or.inr rfl | omega) ?_
    refine zz_gsn 2 rfl ?_
    refine zz_ptz rfl (by first | exact Or.inl rfl | exact Or.inr rfl | omega) ?_
    obtain ⟨σ1, h1⟩ : ∃ x, x = zz_sf (zz_sf (zz_sf σ3 1207 m 1) 1208 m 0) 1209 m 0 := ⟨_, rfl⟩
    refine zz_sge (σ' := σ1) h1 ?_
    have P1 : MP σ1 m t W := by rw [h1]; exact ((P3.fd (by decide)).fd (by decide)).fd (by decide)
    have G1 : Rg m t W.n σ σ1 := by rw [h1]; exact (((G3.g.tr (Rg.sf (Or.inr (Or.inl rfl))) (Nat.le_refl _)).tr (Rg.sf (Or.inr (Or.inr (Or.inl rfl)))) (Nat.le_refl _)).tr (Rg.sf (Or.inr (Or.inr (Or.inr rfl)))) (Nat.le_refl _))
    have x7 : σ1.1 1207 m = 1 := by rw [h1, sf_f _ _ (by decide), sf_f _ _ (by decide), sf_h]
    have x8 : σ1.1 1208 m = 0 := by rw [h1, sf_f _ _ (by decide), sf_h]
    have x9 : σ1.1 1209 m = 0 := by rw [h1, sf_h]
    have x5 : σ1.1 1205 m = 2 := (G1.fl (by decide)).trans hlaw
    have x6 : σ1.1 1206 m = C := (G1.fl (by decide)).trans hC0
    clear h1
    have e0 := zz_ch_n (P1.1 0 (by decide))
    have e1 := zz_ch_n (P1.1 1 (by decide))
    refine zz_gsn 1 rfl ?_
    refine zz_br rfl (fun h14 => ?_) (fun h14 => absurd h14 (by decide))
    refine zz_gsn 2 rfl ?_
    refine zz_br rfl (fun h22 => ?_) (fun h22 => absurd h22 (by decide))
    refine zz_gsn 2 rfl ?_
    refine zz_br rfl (fun h30 => ?_) (fun h30 => absurd h30 (by decide))
    refine zz_gsn 2 rfl ?_
    refine zz_br rfl (fun h46 => absurd rfl h46) (fun h46 => ?_)
    refine zz_gsn 5 rfl ?_
    refine zz_cv (n := 3) rfl rfl (t_Mo_of (s := t) (k := 1) ht (by decide)) (Nat.le_of_ble_eq_true rfl) (Nat.le_of_ble_eq_true rfl) (Nat.le_of_ble_eq_true rfl) (fun r52 σ52 q52 => ?_)
    obtain ⟨rfl, rfl⟩ := q52
    refine zz_gsn 1 rfl ?_
    refine zz_br rfl (fun h54 => ?_) (fun h54 => ?_)
    · have hr1 : W.R 1 ≠ [] := fun z => h54 (e1.mpr z)
      have hz := hr1
      refine zz_gsn 1 rfl ?_
      obtain ⟨c1, l1, ec⟩ := l_cons (l := W.R 1) (hr1)
      refine zz_cv (n := 3) rfl rfl (t_Mo_pops (s := t) (k := 1) P1 ht (by decide) (by omega) ec) (Nat.le_of_ble_eq_true rfl) (Nat.le_of_ble_eq_true rfl) (Nat.le_of_ble_eq_true rfl) (fun r58 σ58 q58 => ?_)
      obtain ⟨rfl, p58, g58⟩ := q58
      refine zz_gsn 3 rfl ?_
      refine zz_br rfl (fun h62 => absurd h62 (by decide)) (fun h62 => ?_)
      refine zz_gsn 2 rfl ?_
      refine zz_br rfl (fun h65 => absurd rfl h65) (fun h65 => ?_)
      refine zz_gsn 1 rfl ?_
      refine zz_jp rfl ?_
      refine zz_gsn 7 rfl ?_
      refine zz_cv (n := 3) rfl rfl (t_Mo_of (s := t) (k := 11) ht (by decide)) (Nat.le_of_ble_eq_true rfl) (Nat.le_of_ble_eq_true rfl) (Nat.le_of_ble_eq_true rfl) (fun r76 σ76 q76 => ?_)
      obtain ⟨rfl, rfl⟩ := q76
      refine zz_gsn 1 rfl ?_
      refine zz_br rfl (fun h78 => absurd h78 (by decide)) (fun h78 => ?_)
      refine zz_gsn 1 rfl ?_
      refine zz_jp rfl ?_
      refine zz_gsn 1 rfl ?_
      refine zz_cv (n := 4) rfl rfl (t_Mo_sets (s := t) (k := 11) ht (by decide)) (Nat.le_of_ble_eq_true rfl) (Nat.le_of_ble_eq_true rfl) (Nat.le_of_ble_eq_true rfl) (fun r83 σ83 q83 => ?_)
      obtain ⟨rfl, h83⟩ := q83
      have s11 : zw (σ58.2 (m + 3) (12 * t + 11) + -1) = W.S 11 + -1 := by
        rw [p58.2.1 11 (by decide) (by decide)]
        exact zw_id (x := W.S 11 + -1) (by omega) (by omega)
      have P83 := p58.S' (j := 11) (by decide) s11
      rw [← h83] at P83
      clear s11
      have G83 : Rc m t W.n σ1 σ83 := g58.tr (by rw [h83]; exact Rc.st (by decide)) (Nat.le_refl _)
      have ech : w_chg 2 mk 3 x W = w_S 11 (W.S 11 + -1) (w_pop 1 W) := by
        rw [w_chg3, if_neg hz]
        rfl
      have f7 : σ83.1 1207 m = 1 := (G83.fl (by decide)).trans x7
      have f8 : σ83.1 1208 m = 0 := (G83.fl (by decide)).trans x8
      have f9 : σ83.1 1209 m = 0 := (G83.fl (by decide)).trans x9
      have f5 : σ83.1 1205 m = 2 := (G83.fl (by decide)).trans x5
      have f6 : σ83.1 1206 m = C := (G83.fl (by decide)).trans x6
      have GG : Rg m t W.n σ σ83 := G1.tr G83.g (Nat.le_refl _)
      obtain ⟨bl, b6, b8, b9, b10, -, hnc⟩ := w_chg_B 2 mk 3 x W (by decide)
      have hqq := w_q (law := 2) (mk := mk) (kind := 3) (x := x) hI (by decide)
      obtain ⟨W1, hW1⟩ : ∃ W1, W1 = w_chg 2 mk 3 x W := ⟨_, rfl⟩
      rw [← hW1] at bl b6 b8 b9 b10 hnc hqq ech
      rw [← ech] at P83
      have hn1 : W1.n ≤ W.n + 1 := by rw [ech]; exact Nat.le_succ _
      clear ech
      have hb9 : 0 ≤ W1.S 9 ∧ W1.S 9 < 900000 := by rw [b9]; omega
      have hb10 : 0 ≤ W1.S 10 ∧ W1.S 10 < 900000 := by rw [b10]; omega
      have hq0 : (W1.R 0).length ≤ 790 := by omega
      have hq1 : (W1.R 1).length ≤ 790 := by omega
      have hqn : W1.n + (W1.R 0).length + (W1.R 1).length ≤ 20000 := by omega
      refine zz_gsn 2 rfl ?_
      refine zz_br rfl (fun h86 => ?_) (fun h86 => absurd (f5.symm.trans (by first | exact h86 | exact Decidable.not_not.mp h86)) (by decide))
      refine zz_gsn 3 rfl ?_
      refine zz_br rfl (fun h93 => ?_) (fun h93 => absurd (f5.symm.trans (by first | exact h93 | exact Decidable.not_not.mp h93)) (by decide))
      refine zz_gsn 3 rfl ?_
      refine zz_br rfl (fun h101 => absurd f5 h101) (fun h101 => ?_)
      refine zz_gsn 3 rfl ?_
      refine zz_br rfl (fun h105 => absurd h105 (by decide)) (fun h105 => ?_)
      refine zz_gsn 1 rfl ?_
      refine zz_jp rfl ?_
      refine zz_cv (n := 3) rfl rfl (t_Mo_evens (mk := mk) (pay := 2) P83 ht (f6.trans rfl) hC (by decide) hb9 hb10 hq0 hq1 hqn (by rw [f7]; decide) f8 f9) (Nat.le_of_ble_eq_true rfl) (Nat.le_of_ble_eq_true rfl) (Nat.le_of_ble_eq_true rfl) (fun r109 σ109 q109 => ?_)
      obtain ⟨rfl, p109, y109, a109, b109, c109⟩ := q109
      refine zz_gsn 2 rfl ?_
      refine zz_ri rfl (Or.inl rfl) ?_
      obtain ⟨d1, d2, d3, d4⟩ := w_deed_2 (law := 2) (C := C) (mk := mk) (kind := 3) (x := x) (W := W) (by decide) (by decide)
      rw [d1, d2, d3, d4, ← hW1]
      refine ⟨congrArg (fun z => some (zI z)) ?_, p109, GG.tr y109 hnc, b109, c109⟩
      rw [a109, f7]
      rfl
    · have hz : W.R 1 = [] := e1.mp h54
      have hr0 : W.R 0 ≠ [] := fun z => by have y := (IV_bd hI).2.2 hpp; rw [w_nil' hz, w_nil' z] at y; omega
      refine zz_gsn 1 rfl ?_
      refine zz_jp rfl ?_
      obtain ⟨c1, l1, ec⟩ := l_cons (l := W.R 0) (hr0)
      refine zz_cv (n := 3) rfl rfl (t_Mo_pops (s := t) (k := 0) P1 ht (by decide) (by omega) ec) (Nat.le_of_ble_eq_true rfl) (Nat.le_of_ble_eq_true rfl) (Nat.le_of_ble_eq_true rfl) (fun r58 σ58 q58 => ?_)
      obtain ⟨rfl, p58, g58⟩ := q58
      refine zz_gsn 3 rfl ?_
      refine zz_br rfl (fun h62 => absurd h62 (by decide)) (fun h62 => ?_)
      refine zz_gsn 2 rfl ?_
      refine zz_br rfl (fun h65 => absurd rfl h65) (fun h65 => ?_)
      refine zz_gsn 1 rfl ?_
      refine zz_jp rfl ?_
      refine zz_gsn 7 rfl ?_
      refine zz_cv (n := 3) rfl rfl (t_Mo_of (s := t) (k := 11) ht (by decide)) (Nat.le_of_ble_eq_true rfl) (Nat.le_of_ble_eq_true rfl) (Nat.le_of_ble_eq_true rfl) (fun r76 σ76 q76 => ?_)
      obtain ⟨rfl, rfl⟩ := q76
      refine zz_gsn 1 rfl ?_
      refine zz_br rfl (fun h78 => absurd h78 (by decide)) (fun h78 => ?_)
      refine zz_gsn 1 rfl ?_
      refine zz_jp rfl ?_
      refine zz_gsn 1 rfl ?_
      refine zz_cv (n := 4) rfl rfl (t_Mo_sets (s := t) (k := 11) ht (by decide)) (Nat.le_of_ble_eq_true rfl) (Nat.le_of_ble_eq_true rfl) (Nat.le_of_ble_eq_true rfl) (fun r83 σ83 q83 => ?_)
      obtain ⟨rfl, h83⟩ := q83
      have s11 : zw (σ58.2 (m + 3) (12 * t + 11) + -1) = W.S 11 + -1 := by
        rw [p58.2.1 11 (by decide) (by decide)]
        exact zw_id (x := W.S 11 + -1) (by omega) (by omega)
      have P83 := p58.S' (j := 11) (by decide) s11
      rw [← h83] at P83
      clear s11
      have G83 : Rc m t W.n σ1 σ83 := g58.tr (by rw [h83]; exact Rc.st (by decide)) (Nat.le_refl _)
      have ech : w_chg 2 mk 3 x W = w_S 11 (W.S 11 + -1) (w_pop 0 W) := by
        rw [w_chg3, if_pos hz]
        rfl
      have f7 : σ83.1 1207 m = 1 := (G83.fl (by decide)).trans x7
      have f8 : σ83.1 1208 m = 0 := (G83.fl (by decide)).trans x8
      have f9 : σ83.1 1209 m = 0 := (G83.fl (by decide)).trans x9
      have f5 : σ83.1 1205 m = 2 := (G83.fl (by decide)).trans x5
      have f6 : σ83.1 1206 m = C := (G83.fl (by decide)).trans x6
      have GG : Rg m t W.n σ σ83 := G1.tr G83.g (Nat.le_refl _)
      obtain ⟨bl, b6, b8, b9, b10, -, hnc⟩ := w_chg_B 2 mk 3 x W (by decide)
      have hqq := w_q (law := 2) (mk := mk) (kind := 3) (x := x) hI (by decide)
      obtain ⟨W1, hW1⟩ : ∃ W1, W1 = w_chg 2 mk 3 x W := ⟨_, rfl⟩
      rw [← hW1] at bl b6 b8 b9 b10 hnc hqq ech
      rw [← ech] at P83
      have hn1 : W1.n ≤ W.n + 1 := by rw [ech]; exact Nat.le_succ _
      clear ech
      have hb9 : 0 ≤ W1.S 9 ∧ W1.S 9 < 900000 := by rw [b9]; omega
      have hb10 : 0 ≤ W1.S 10 ∧ W1.S 10 < 900000 := by rw [b10]; omega
      have hq0 : (W1.R 0).length ≤ 790 := by omega
      have hq1 : (W1.R 1).length ≤ 790 := by omega
      have hqn : W1.n + (W1.R 0).length + (W1.R 1).length ≤ 20000 := by omega
      refine zz_gsn 2 rfl ?_
      refine zz_br rfl (fun h86 => ?_) (fun h86 => absurd (f5.symm.trans (by first | exact h86 | exact Decidable.not_not.mp h86)) (by decide))
      refine zz_gsn 3 rfl ?_
      refine zz_br rfl (fun h93 => ?_) (fun h93 => absurd (f5.symm.trans (by first | exact h93 | exact Decidable.not_not.mp h93)) (by decide))
      refine zz_gsn 3 rfl ?_
      refine zz_br rfl (fun h101 => absurd f5 h101) (fun h101 => ?_)
      refine zz_gsn 3 rfl ?_
      refine zz_br rfl (fun h105 => absurd h105 (by decide)) (fun h105 => ?_)
      refine zz_gsn 1 rfl ?_
      refine zz_jp rfl ?_
      refine zz_cv (n := 3) rfl rfl (t_Mo_evens (mk := mk) (pay := 2) P83 ht (f6.trans rfl) hC (by decide) hb9 hb10 hq0 hq1 hqn (by rw [f7]; decide) f8 f9) (Nat.le_of_ble_eq_true rfl) (Nat.le_of_ble_eq_true rfl) (Nat.le_of_ble_eq_true rfl) (fun r109 σ109 q109 => ?_)
      obtain ⟨rfl, p109, y109, a109, b109, c109⟩ := q109
      refine zz_gsn 2 rfl ?_
      refine zz_ri rfl (Or.inl rfl) ?_
      obtain ⟨d1, d2, d3, d4⟩ := w_deed_2 (law := 2) (C := C) (mk := mk) (kind := 3) (x := x) (W := W) (by decide) (by decide)
      rw [d1, d2, d3, d4, ← hW1]
      refine ⟨congrArg (fun z => some (zI z)) ?_, p109, GG.tr y109 hnc, b109, c109⟩
      rw [a109, f7]
      rfl
