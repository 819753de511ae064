/-! the class: all rows of puts and takes -/
def A_sj (s j : Nat) : Nat → Prop := fun a => (s ≤ a ∧ a ≤ s + 11) ∨ (s + 12 + 7 * (j + 1) ≤ a ∧ a ≤ s + 60)
/-- ahead of the rows from a level on -/
def PS (σ : zz_M) (s n : Nat) (law C : Int) (B0 r j : Nat) (W : zz_W) (T : Int) (tr : Nat → Int) (R : zc_R) : Prop := σ.1 404 (s + 4) = law ∧ σ.1 405 (s + 4) = C ∧ SP σ 0 (s + 4) (s + 12 + 7 * j) W ∧ IV law (B0 + j) W ∧ (0 ≤ T ∧ T ≤ 300 * (j : Int)) ∧ (0 ≤ R.c ∧ R.c + ((2 ^ r : Nat) : Int) ≤ 1000) ∧ SN σ s n R ∧ ∀ i, i < j → σ.2 (s + 1) i = tr i
/-- behind them -/
def QS (σ σ' : zz_M) (s n : Nat) (law C : Int) (j : Nat) (R : zc_R) : Prop := σ'.1 404 (s + 4) = law ∧ σ'.1 405 (s + 4) = C ∧ SN σ' s n R ∧ (∀ i, i < j → σ'.2 (s + 1) i = σ.2 (s + 1) i) ∧ zz_F (A_sj s j) σ σ'
theorem s_p2 (r : Nat) : ((2 ^ (r + 1) : Nat) : Int) = ((2 ^ r : Nat) : Int) + ((2 ^ r : Nat) : Int) := by
  have e : (2 ^ (r + 1) : Nat) = 2 ^ r * 2 := Nat.pow_succ _ _
  rw [e]
  omega
theorem PS.dn {σ : zz_M} {s n B0 r j : Nat} {law C T : Int} {W : zz_W} {tr : Nat → Int} {R : zc_R} (h : PS σ s n law C B0 (r + 1) j W T tr R) : PS σ s n law C B0 r j W T tr R := by
  obtain ⟨c4, c5, hS, hI, hT, hc, hN, ht⟩ := h
  rw [s_p2] at hc
  have hp : 0 ≤ ((2 ^ r : Nat) : Int) := Int.natCast_nonneg _
  exact ⟨c4, c5, hS, hI, hT, ⟨hc.1, by omega⟩, hN, ht⟩
theorem PS.nx {σ σ1 : zz_M} {s n B0 r j : Nat} {law C T kd : Int} {W : zz_W} {tr : Nat → Int} {R : zc_R} (h : PS σ s n law C B0 (r + 1) j W T tr R) (q : QS σ σ1 s n law C j (s_one law C r j kd W T tr R)) : PS σ1 s n law C B0 r j W T tr (s_one law C r j kd W T tr R) := by
  obtain ⟨c4, c5, hS, hI, hT, hc, hN, ht⟩ := h
  obtain ⟨q4, q5, qN, qt, qF⟩ := q
  have z := s_go_c law C r (j + 1) (w_deed law C (-1) kd 0 W) (T + w_steps law C (-1) kd 0 W) (zu tr j kd) (s_deed j (w_steps law C (-1) kd 0 W) R)
  have z0 : (s_deed j (w_steps law C (-1) kd 0 W) R).c = R.c := rfl
  rw [z0] at z
  have z1 : R.c ≤ (s_one law C r j kd W T tr R).c ∧ (s_one law C r j kd W T tr R).c ≤ R.c + ((2 ^ r : Nat) : Int) := z
  rw [s_p2] at hc
  refine ⟨q4, q5, hS.f qF (fun a y1 y2 z => ?_) (fun z => absurd z (Nat.lt_irrefl 0)), hI, hT, ⟨by omega, by omega⟩, qN, fun i hi => (qt i hi).trans (ht i hi)⟩
  unfold A_sj at z
  omega
theorem QS.tr {σ σ1 σ2 : zz_M} {s n j : Nat} {law C : Int} {R R' : zc_R} (h : QS σ σ1 s n law C j R) (h2 : QS σ1 σ2 s n law C j R') : QS σ σ2 s n law C j R' := ⟨h2.1, h2.2.1, h2.2.2.1, fun i hi => (h2.2.2.2.1 i hi).trans (h.2.2.2.1 i hi), h.2.2.2.2.tr h2.2.2.2.2⟩
theorem lp_tryx {X : zz_X} {d s j : Nat} {T ks : Int} {u : zz_V} {σ : zz_M} {Post : Option zz_V → zz_M → Prop} (hk : 0 ≤ ks ∧ ks ≤ 2) (kk : Post none σ) : zz_G X d p_Scout_tryFrom 34 [zP 8 0 0 s, zI (j : Nat), zI T, zP 9 0 0 (s + 12 + 7 * j), zP 9 0 0 (s + 12 + 7 * (j + 1)), zI ks, zI ks, u] [] σ Post := by
  refine zz_gsn 4 rfl ?_
  rw [show zw (0 + ks) = ks from (zw_id (by omega) (by omega)).trans (Int.zero_add ks)]
  refine zz_br rfl (fun h38 => ?_) (fun h38 => absurd h38 (Int.lt_irrefl ks))
  refine zz_rv rfl rfl ?_
  exact kk
theorem SN.deed {σ σ1 σ2 : zz_M} {s n j : Nat} {kd S : Int} {R : zc_R} (h : SN σ s n R) (hj : j < 6) (hF : zz_F (fun a => s + 4 ≤ a) σ σ1) (e : σ2 = zz_sa (zz_sa (zz_sf σ1 800 s (max (σ1.1 800 s) S)) (s + 1) j kd) (s + 3) j (max (σ1.2 (s + 3) j) S)) : SN σ2 s n (s_deed j S R) := by
  obtain ⟨⟨a0, a1, a2, a3⟩, aw, al⟩ := h
  have f0 := hF s (by omega)
  have f2 := hF (s + 2) (by omega)
  have f3 := hF (s + 3) (by omega)
  rw [e]
  refine ⟨⟨?_, ?_, ?_, ?_⟩, fun z i hi => ?_, fun i hi => ?_⟩
  · rw [sa_1, sa_1, sf_h, f0.1, a0]
    rfl
  · rw [sa_1, sa_1, sf_f _ _ (by decide), f0.1]
    exact a1
  · rw [sa_1, sa_1, sf_f _ _ (by decide), f0.1]
    exact a2
  · rw [sa_1, sa_1, sf_f _ _ (by decide), f0.1]
    exact a3
  · rw [sa_a _ _ (by omega), sa_a _ _ (by omega), sf_2, f2.2]
    exact aw z i hi
  · have e2 : (s_deed j S R).l = zu R.l j (max (R.l j) S) := rfl
    rw [e2]
    by_cases ei : i = j
    · subst ei
      rw [sa_h, zu_s, f3.2, al _ hi]
    · rw [sa_i _ _ ei, sa_a _ _ (by omega), sf_2, f3.2, zu_n _ _ ei]
      exact al i hi
theorem lp_try {X : zz_X} {s n r j B0 : Nat} {law C T kd ks : Int} {W : zz_W} {tr : Nat → Int} {R : zc_R} {u : zz_V} {σ : zz_M} {Post : Option zz_V → zz_M → Prop} (hC : 2 ≤ C ∧ C ≤ 4) (hB : B0 ≤ 60) (hj6 : j < 6) (hk : kd = 0 ∨ (kd = 1 ∧ 0 < W.S 11)) (hks : kd < ks ∧ ks ≤ 2)
    (ih : ∀ (W' : zz_W) (T' : Int) (tr' : Nat → Int) (R' : zc_R) (σ' : zz_M), PS σ' s n law C B0 r (j + 1) W' T' tr' R' → zz_T X (7 + r) p_Scout_tryFrom [zP 8 0 0 s, zI ((j + 1 : Nat) : Int), zI T'] σ' (fun ro σ'' => ro = none ∧ QS σ' σ'' s n law C (j + 1) (s_go law C r (j + 1) W' T' tr' R')))
    (h : PS σ s n law C B0 r j W T tr R) (kk : ∀ (σ' : zz_M) (u : zz_V), QS σ σ' s n law C j (s_one law C r j kd W T tr R) → zz_G X (7 + r + 1) p_Scout_tryFrom 34 [zP 8 0 0 s, zI (j : Nat), zI T, zP 9 0 0 (s + 12 + 7 * j), zP 9 0 0 (s + 12 + 7 * (j + 1)), zI ks, zI (kd + 1), u] [] σ' Post) : zz_G X (7 + r + 1) p_Scout_tryFrom 34 [zP 8 0 0 s, zI (j : Nat), zI T, zP 9 0 0 (s + 12 + 7 * j), zP 9 0 0 (s + 12 + 7 * (j + 1)), zI ks, zI kd, u] [] σ Post := by
  obtain ⟨c4, c5, hS, hI, hT, hc, hN, ht⟩ := h
  have hkd : 0 ≤ kd ∧ kd ≤ 3 := by omega
  have hI2 := (IV_deed (C := C) (mk := -1) (kind := kd) (x := 0) hI hC hkd (fun _ => by omega) (fun z => by omega)).1
  have su := w_steps_v (C := C) (mk := -1) (kind := kd) (x := 0) hI (by omega) hkd
  have sp := w_steps_p (C := C) (mk := -1) (kind := kd) (x := 0) hI hkd
  have hone : s_one law C r j kd W T tr R = s_go law C r (j + 1) (w_deed law C (-1) kd 0 W) (T + w_steps law C (-1) kd 0 W) (zu tr j kd) (s_deed j (w_steps law C (-1) kd 0 W) R) := rfl
  obtain ⟨S, hSS⟩ : ∃ S, S = w_steps law C (-1) kd 0 W := ⟨_, rfl⟩
  obtain ⟨W', hW'⟩ : ∃ W', W' = w_deed law C (-1) kd 0 W := ⟨_, rfl⟩
  rw [← hSS] at su sp
  rw [← hW'] at hI2
  rw [← hSS, ← hW'] at hone
  rw [hone] at kk
  clear hone
  have hTS : 0 ≤ T + S ∧ T + S ≤ 300 * ((j + 1 : Nat) : Int) := by omega
  refine zz_gsn 4 rfl ?_
  rw [show zw (0 + ks) = ks from (zw_id (by omega) (by omega)).trans (Int.zero_add ks)]
  refine zz_br rfl (fun h38 => absurd h38 (Int.not_le.mpr hks.1)) (fun h38 => ?_)
  refine zz_gsn 2 rfl ?_
  refine zz_cv (n := 2) rfl rfl (t_State_become (s := s + 12 + 7 * (j + 1)) (t := s + 12 + 7 * j) (Or.inr (by omega))) (by omega) (Nat.le_of_ble_eq_true rfl) (Nat.le_of_ble_eq_true rfl) (fun r41 σ41 q41 => ?_)
  obtain ⟨rfl, p41, g41⟩ := q41
  have P41 : SP σ41 0 (s + 4) (s + 12 + 7 * (j + 1)) W := p41 0 (s + 4) _ (fun z => absurd z (Nat.lt_irrefl 0)) hS
  have m1 : σ41.1 404 (s + 4) = law := ((g41.F (s + 4) (by omega)).1 404).trans c4
  have m2 : σ41.1 405 (s + 4) = C := ((g41.F (s + 4) (by omega)).1 405).trans c5
  refine zz_gsn 6 rfl ?_
  refine zz_cv (n := 5) rfl rfl (t_Mill_perform (mk := -1) (x := 0) (kind := kd) P41 m1 m2 (by omega) hkd (fun z => absurd z (Nat.lt_irrefl 0)) (by decide) (by decide) (h_bds hI (by omega)).1 (h_bds hI (by omega)).2.1 (h_bds hI (by omega)).2.2.1 (h_bds hI (by omega)).2.2.2.1 (h_bds hI (by omega)).2.2.2.2.1 (h_bds hI (by omega)).2.2.2.2.2 (fun z => absurd z (Nat.lt_irrefl 0))) (by omega) (Nat.le_of_ble_eq_true rfl) (Nat.le_of_ble_eq_true rfl) (fun r48 σ48 q48 => ?_)
  obtain ⟨rfl, p48, g48, -, -⟩ := q48
  rw [← hSS]
  rw [← hW'] at p48
  have F48 : zz_F (fun a => (s + 12 + 7 * (j + 1) ≤ a ∧ a ≤ s + 12 + 7 * (j + 1) + 6) ∨ (s + 4 ≤ a ∧ a ≤ s + 10)) σ σ48 := (g41.F.mono (fun a z => Or.inl z)).tr (g48.F.mono (fun a z => z.elim Or.inl (fun z => Or.inr (by omega))))
  have n4 : σ48.1 404 (s + 4) = law := (g48.1 _ _ (by unfold zz_c1m; omega)).trans m1
  have n5 : σ48.1 405 (s + 4) = C := (g48.1 _ _ (by unfold zz_c1m; omega)).trans m2
  refine zz_gsn 5 rfl ?_
  refine zz_cv (n := 4) rfl rfl (t_Scout_noteDeed (j := j) hj6) (by omega) (Nat.le_of_ble_eq_true rfl) (Nat.le_of_ble_eq_true rfl) (fun r54 σ54 q54 => ?_)
  obtain ⟨rfl, h54⟩ := q54
  have N54 : SN σ54 s n (s_deed j S R) := hN.deed hj6 (F48.mono (fun a z => by omega)) h54
  have F54 : zz_F (fun a => s ≤ a ∧ a ≤ s + 3) σ48 σ54 := by
    rw [h54]
    exact ((zz_F.sf (by omega)).tr (zz_F.sa (by omega))).tr (zz_F.sa (by omega))
  have t54 : ∀ i, i < j + 1 → σ54.2 (s + 1) i = zu tr j kd i := fun i hi => by
    rw [h54, sa_a _ _ (by omega)]
    by_cases ei : i = j
    · subst ei
      rw [sa_h, zu_s]
    · rw [sa_i _ _ ei, sf_2, zu_n _ _ ei, (F48 (s + 1) (by omega)).2]
      exact ht i (by omega)
  have P54 : PS σ54 s n law C B0 r (j + 1) W' (T + S) (zu tr j kd) (s_deed j S R) := ⟨((F54 (s + 4) (by omega)).1 404).trans n4, ((F54 (s + 4) (by omega)).1 405).trans n5, p48.f F54 (fun a y1 y2 z => by omega) (fun z => absurd z (Nat.lt_irrefl 0)), hI2, hTS, hc, N54, t54⟩
  refine zz_gsn 7 rfl ?_
  rw [zw_s (by omega), show zw (T + S) = T + S from zw_id (by omega) (by omega)]
  refine zz_cs (n := 3) rfl rfl (ih W' (T + S) (zu tr j kd) (s_deed j S R) σ54 P54) (by omega) (Nat.le_of_ble_eq_true rfl) (Nat.le_of_ble_eq_true rfl) (fun r62 σ62 q62 => ?_)
  obtain ⟨rfl, w4, w5, wN, wt, wF⟩ := q62
  refine zz_gsn 1 rfl ?_
  refine zz_jp rfl ?_
  rw [show zw (kd + 1) = kd + 1 from zw_id (by omega) (by omega)]
  refine kk σ62 _ ⟨w4, w5, wN, fun i hi => (wt i (by omega)).trans ?_, (F48.mono (fun a z => by unfold A_sj; omega)).tr ((F54.mono (fun a z => by unfold A_sj; omega)).tr (wF.mono (fun a z => by unfold A_sj at z ⊢; omega)))⟩
  rw [t54 i (by omega), zu_n _ _ (by omega)]
  exact (ht i hi).symm
theorem t_Scout_tryFrom {X : zz_X} {s n B0 : Nat} {law C : Int} (hC : 2 ≤ C ∧ C ≤ 4) (hB : B0 ≤ 60) (hn : n ≤ 6) : ∀ (r j : Nat) (W : zz_W) (T : Int) (tr : Nat → Int) (R : zc_R) (σ : zz_M), j + r = n → PS σ s n law C B0 r j W T tr R → zz_T X (7 + r) p_Scout_tryFrom [zP 8 0 0 s, zI (j : Nat), zI T] σ (fun ro σ' => ro = none ∧ QS σ σ' s n law C j (s_go law C r j W T tr R)) := by
  intro r
  induction r with
  | zero =>
    intro j W T tr R σ hj h
    obtain ⟨c4, c5, hS, hI, hT, hc, hN, ht⟩ := h
    have e3 := hN.1.2.2.2
    obtain rfl : j = n := hj
    refine zz_mk k_Scout_tryFrom o_Scout_tryFrom rfl rfl (Nat.le_of_ble_eq_true rfl) ?_
    show zz_G X (7 + 0) p_Scout_tryFrom 0 [zP 8 0 0 s, zI (j : Nat), zI T, zU, zU, zU, zU, zU] [] σ _
    refine zz_gsn 1 rfl ?_
    refine zz_br rfl (fun h1 => absurd h1 (by omega)) (fun h1 => ?_)
    refine zz_gsn 3 rfl ?_
    refine zz_br rfl (fun h5 => ?_) (fun h5 => absurd h5 (by rw [e3]; omega))
    refine zz_gsn 2 rfl ?_
    refine zz_cv (n := 2) rfl rfl (t_Scout_noteRow (n := j) (R := R) (tr := tr) hn hN ⟨hc.1, by omega⟩ ht) (Nat.le_of_ble_eq_true rfl) (Nat.le_of_ble_eq_true rfl) (Nat.le_of_ble_eq_true rfl) (fun r11 σ11 q11 => ?_)
    obtain ⟨rfl, p11, g11⟩ := q11
    refine zz_rv rfl rfl ?_
    exact ⟨rfl, ((g11 (s + 4) (by omega)).1 404).trans c4, ((g11 (s + 4) (by omega)).1 405).trans c5, p11, fun i hi => (g11 (s + 1) (by omega)).2 i, g11.mono (fun a z => by unfold A_sj; omega)⟩
  | succ r ih =>
    intro j W T tr R σ hj h
    have ih2 : ∀ (W' : zz_W) (T' : Int) (tr' : Nat → Int) (R' : zc_R) (σ' : zz_M), PS σ' s n law C B0 r (j + 1) W' T' tr' R' → zz_T X (7 + r) p_Scout_tryFrom [zP 8 0 0 s, zI ((j + 1 : Nat) : Int), zI T'] σ' (fun ro σ'' => ro = none ∧ QS σ' σ'' s n law C (j + 1) (s_go law C r (j + 1) W' T' tr' R')) := fun W' T' tr' R' σ' z => ih (j + 1) W' T' tr' R' σ' (by omega) z
    clear ih
    have e3 : σ.1 803 s = (n : Nat) := h.2.2.2.2.2.2.1.1.2.2.2
    have e11 : σ.1 906 (s + 12 + 7 * j) = W.S 11 := h.2.2.1.2.2.1
    have hj6 : j < 6 := by omega
    refine zz_mk k_Scout_tryFrom o_Scout_tryFrom rfl rfl (Nat.le_of_ble_eq_true rfl) ?_
    show zz_G X (7 + r + 1) p_Scout_tryFrom 0 [zP 8 0 0 s, zI (j : Nat), zI T, zU, zU, zU, zU, zU] [] σ _
    refine zz_gsn 1 rfl ?_
    refine zz_br rfl (fun h1 => absurd h1 (by omega)) (fun h1 => ?_)
    refine zz_gsn 3 rfl ?_
    refine zz_br rfl (fun h5 => absurd h5 (by rw [e3]; omega)) (fun h5 => ?_)
    refine zz_gsn 2 rfl ?_
    refine zz_br rfl (fun h8 => ?_) (fun h8 => absurd h8 (by omega))
    refine zz_gsn 3 rfl ?_
    refine zz_aad rfl (⟨by omega, by omega⟩) ?_
    refine zz_gsn 6 rfl ?_
    rw [zw_s (by omega)]
    refine zz_aad rfl (⟨by omega, by omega⟩) ?_
    refine zz_gsn 3 rfl ?_
    refine zz_br rfl (fun h27 => ?_) (fun h27 => ?_)
    · refine zz_gsn 4 rfl ?_
      have hW : ¬ 0 < W.S 11 := by rw [← e11]; exact Int.not_lt.mpr h27
      refine lp_try (ks := 1) (kd := 0) hC hB hj6 (Or.inl rfl) (by decide) ih2 h.dn (fun σ1 u q1 => ?_)
      refine lp_tryx (ks := 1) (by decide) ⟨rfl, ?_⟩
      rw [s_go_n hW]
      exact q1
    · refine zz_gsn 1 rfl ?_
      refine zz_jp rfl ?_
      refine zz_gsn 3 rfl ?_
      have hW : 0 < W.S 11 := by rw [← e11]; first | exact h27 | exact Int.not_le.mp h27
      refine lp_try (ks := 2) (kd := 0) hC hB hj6 (Or.inl rfl) (by decide) ih2 h.dn (fun σ1 u q1 => ?_)
      refine lp_try (ks := 2) (kd := 0 + 1) hC hB hj6 (Or.inr ⟨rfl, hW⟩) (by decide) ih2 (h.nx q1) (fun σ2 u q2 => ?_)
      refine lp_tryx (ks := 2) (by decide) ⟨rfl, ?_⟩
      rw [s_go_y hW]
      exact q1.tr q2
