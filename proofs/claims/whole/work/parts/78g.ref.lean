/-! the reference: all rows of puts and takes -/
def pq (m n q a i : Nat) : Prop := ((a = m + 1 ∨ a = m + 2) ∧ i < n) ∨ (a = m + 3 ∧ i < 12 * q) ∨ (m + 5 ≤ a ∧ a ≤ m + 13) ∨ a = m + 24 ∨ a = m + 25
/-- what rows of deeds tried leave, cells aside -/
def Gh (m n q : Nat) (σ σ' : zz_M) : Prop := (∀ f, pf f ∨ f = 1247 → f ≠ 1203 → σ'.1 f m = σ.1 f m) ∧ (∀ a i, pq m n q a i → σ'.2 a i = σ.2 a i) ∧ zz_F (A_rf m) σ σ'
def Gf (m n q : Nat) (σ σ' : zz_M) : Prop := Gh m n q σ σ' ∧ σ'.1 1203 m = σ.1 1203 m
theorem Gh.rf {m n q : Nat} {σ : zz_M} : Gh m n q σ σ := ⟨fun _ _ _ => rfl, fun _ _ _ => rfl, zz_F.rf⟩
theorem Gh.tr {m n q : Nat} {σ σ1 σ2 : zz_M} (h : Gh m n q σ σ1) (h2 : Gh m n q σ1 σ2) : Gh m n q σ σ2 := ⟨fun f z y => (h2.1 f z y).trans (h.1 f z y), fun a i z => (h2.2.1 a i z).trans (h.2.1 a i z), h.2.2.tr h2.2.2⟩
theorem Gf.tr {m n q : Nat} {σ σ1 σ2 : zz_M} (h : Gf m n q σ σ1) (h2 : Gf m n q σ1 σ2) : Gf m n q σ σ2 := ⟨h.1.tr h2.1, h2.2.trans h.2⟩
theorem Gh.le {m n q n' q' : Nat} {σ σ' : zz_M} (h : Gh m n q σ σ') (hn : n' ≤ n) (hq : q' ≤ q) : Gh m n' q' σ σ' := ⟨h.1, fun a i z => h.2.1 a i (by unfold pq at z ⊢; omega), h.2.2⟩
theorem Gh.sf {m n q f : Nat} {σ : zz_M} {v : Int} (hf : f = 1203 ∨ ¬ (pf f ∨ f = 1247)) : Gh m n q σ (zz_sf σ f m v) := ⟨fun g z y => sf_f _ _ (fun e => by
  subst e
  rcases hf with e | e
  · exact y e
  · exact e z), fun _ _ _ => rfl, zz_F.sf ⟨Nat.le_refl _, Nat.le_add_right _ _⟩⟩
theorem Gh.tri {m n q i : Nat} {σ : zz_M} {v : Int} : Gh m n q σ (zz_sa σ (m + 20) i v) := ⟨fun _ _ _ => rfl, fun a k z => sa_a _ _ (fun e => by
  subst e
  unfold pq at z
  omega), zz_F.sa (by unfold A_rf; omega)⟩
theorem Rg.gh {m t n : Nat} {σ σ' : zz_M} (h : Rg m t n σ σ') : Gh m n t σ σ' := ⟨fun f z y => h.1 f m (fun e => by unfold pf at z; unfold rg1 at e; omega), fun a i z => h.2 a i (fun e => by unfold pq at z; unfold rg2 rc2 at e; omega), fun a ha => ⟨fun f => h.1 f a (fun e => by unfold A_rf at ha; unfold rg1 at e; omega), fun i => h.2 a i (fun e => by unfold A_rf at ha; unfold rg2 rc2 at e; omega)⟩⟩
theorem Gf.MP {σ σ' : zz_M} {m v n q : Nat} {W : zz_W} (h : MP σ m v W) (hF : Gf m n q σ σ') (hn : W.n ≤ n) (hv : v < q) : MP σ' m v W := by
  obtain ⟨h1, h2, h3, h4⟩ := h
  have e := hF.1.2.1
  refine ⟨fun k hk => ?_, fun j a b => ?_, ⟨hF.2.trans h3.1, fun i hi => ?_⟩, h4⟩
  · rw [e _ _ (by unfold pq; omega)]
    refine zz_ch_cong (fun c hc => ?_) (h1 k hk)
    have := h4 k hk c hc
    exact e _ _ (by unfold pq; omega)
  · rw [e _ _ (by unfold pq; omega)]
    exact h2 j a b
  · rw [e _ _ (by unfold pq; omega)]
    exact h3.2 i hi
theorem Gf.fr {m n q n0 : Nat} {σ σ' : zz_M} (h : Gf m n q σ σ') (hn : n0 ≤ n) (hq : 61 ≤ q) : Fr m n0 σ σ' := ⟨fun f z => by
  by_cases e : f = 1203
  · rw [e]; exact h.2
  · exact h.1.1 f (Or.inl z) e, fun a i z => h.1.2.1 a i (by unfold pa at z; unfold pq; omega)⟩
/-- what the reference notes -/
def RN (σ : zz_M) (m n : Nat) (R : zc_R) : Prop := (σ.1 1243 m = R.a ∧ σ.1 1244 m = R.b ∧ σ.1 1245 m = R.c ∧ σ.1 1246 m = R.l (n - 1) ∧ σ.1 1247 m = (n : Nat)) ∧ (0 < R.b → ∀ i, i < n → σ.2 (m + 21) i = R.w i)
def PR (σ : zz_M) (m s n : Nat) (law C : Int) (B0 n0 r j : Nat) (W : zz_W) (T : Int) (tr : Nat → Int) (R : zc_R) : Prop := MP σ m s W ∧ s < 132 - r ∧ (σ.1 1205 m = law ∧ σ.1 1206 m = C) ∧ r_bd law B0 n0 j W ∧ (0 ≤ T ∧ T ≤ 300 * (j : Int)) ∧ (0 ≤ R.c ∧ R.c + ((2 ^ r : Nat) : Int) ≤ 1000) ∧ RN σ m n R ∧ ∀ i, i < j → σ.2 (m + 20) i = tr i
def QN (σ σ' : zz_M) (m n j k q : Nat) (R : zc_R) : Prop := RN σ' m n R ∧ (∀ i, i < j → σ'.2 (m + 20) i = σ.2 (m + 20) i) ∧ Gf m k q σ σ'
theorem PR.dn {σ : zz_M} {m s n B0 n0 r j : Nat} {law C T : Int} {W : zz_W} {tr : Nat → Int} {R : zc_R} (h : PR σ m s n law C B0 n0 (r + 1) j W T tr R) : 0 ≤ R.c ∧ R.c + ((2 ^ r : Nat) : Int) ≤ 1000 := by
  have hc := h.2.2.2.2.2.1
  rw [s_p2] at hc
  have hp : 0 ≤ ((2 ^ r : Nat) : Int) := Int.natCast_nonneg _
  omega
theorem PR.nx {σ σ1 : zz_M} {m s n B0 n0 r j : Nat} {law C T kd : Int} {W : zz_W} {tr : Nat → Int} {R : zc_R} (h : PR σ m s n law C B0 n0 (r + 1) j W T tr R) (hr : r < 100) (q : QN σ σ1 m n j W.n (131 - r) (s_one law C r j kd W T tr R)) : (MP σ1 m s W ∧ s < 131 - r ∧ (σ1.1 1205 m = law ∧ σ1.1 1206 m = C) ∧ r_bd law B0 n0 j W ∧ (0 ≤ T ∧ T ≤ 300 * (j : Int)) ∧ (0 ≤ (s_one law C r j kd W T tr R).c ∧ (s_one law C r j kd W T tr R).c + ((2 ^ r : Nat) : Int) ≤ 1000) ∧ RN σ1 m n (s_one law C r j kd W T tr R) ∧ ∀ i, i < j → σ1.2 (m + 20) i = tr i) := by
  obtain ⟨hP, hs, hl, hI, hT, hc, hN, ht⟩ := h
  obtain ⟨qN, qt, qF⟩ := q
  have z := s_go_c law C r (j + 1) (w_deed law C (-1) kd 0 W) (T + w_steps law C (-1) kd 0 W) (zu tr j kd) (s_deed j (w_steps law C (-1) kd 0 W) R)
  have z0 : (s_deed j (w_steps law C (-1) kd 0 W) R).c = R.c := rfl
  rw [z0] at z
  have z1 : R.c ≤ (s_one law C r j kd W T tr R).c ∧ (s_one law C r j kd W T tr R).c ≤ R.c + ((2 ^ r : Nat) : Int) := z
  rw [s_p2] at hc
  exact ⟨qF.MP hP (Nat.le_refl _) (by omega), by omega, ⟨(qF.1.1 1205 (Or.inl (Or.inr (Or.inl rfl))) (by decide)).trans hl.1, (qF.1.1 1206 (Or.inl (Or.inr (Or.inr (Or.inl rfl)))) (by decide)).trans hl.2⟩, hI, hT, ⟨by omega, by omega⟩, qN, fun i hi => (qt i hi).trans (ht i hi)⟩
theorem QN.tr {σ σ1 σ2 : zz_M} {m n j k q : Nat} {R R' : zc_R} (h : QN σ σ1 m n j k q R) (h2 : QN σ1 σ2 m n j k q R') : QN σ σ2 m n j k q R' := ⟨h2.1, fun i hi => (h2.2.1 i hi).trans (h.2.1 i hi), h.2.2.tr h2.2.2⟩
theorem lp_gcp {X : zz_X} {d m s : Nat} {T : Int} {l : Int} {u5 u6 u7 : zz_V} {σ0 : zz_M} {Post : Option zz_V → zz_M → Prop} (kk : ∀ σ', (∀ i, i < 6 → σ'.2 (m + 21) i = σ0.2 (m + 20) i) → zz_F (fun a => a = m + 21) σ0 σ' → Post none σ') :
    ∀ (r k : Nat) (σ : zz_M), k + r = 6 → (∀ i, i < k → σ.2 (m + 21) i = σ0.2 (m + 20) i) → zz_F (fun a => a = m + 21) σ0 σ → zz_G X d p_Mo_goes 18 [zP 12 0 0 m, zI (s : Nat), zI l, zI T, zI (k : Nat), u5, u6, u7] [] σ Post := by
  intro r
  induction r with
  | zero =>
    intro k σ hk hw hF
    obtain rfl : k = 6 := hk
    refine zz_gsn 2 rfl ?_
    refine zz_br rfl (fun h20 => ?_) (fun h20 => absurd h20 (by decide))
    refine zz_rv rfl rfl ?_
    exact kk σ hw hF
  | succ r ih =>
    intro k σ hk hw hF
    have hk6 : k < 6 := by omega
    refine zz_gsn 2 rfl ?_
    refine zz_br rfl (fun h20 => absurd h20 (by omega)) (fun h20 => ?_)
    refine zz_gsn 6 rfl ?_
    refine zz_ald rfl (⟨by omega, by omega⟩) ?_
    refine zz_ast rfl (⟨by omega, by omega⟩) ?_
    refine zz_gsn 1 rfl ?_
    refine zz_jp rfl ?_
    rw [zw_s (by omega)]
    refine ih (k + 1) _ (by omega) (fun i hi => ?_) (hF.tr (zz_F.sa rfl))
    by_cases ei : i = k
    · subst ei
      exact (sa_h _ _ _ _).trans ((hF (m + 20) (by omega)).2 _)
    · exact (sa_i _ _ (fun z => ei z)).trans (hw i (by omega))
theorem lp_gx {X : zz_X} {d m s r : Nat} {T : Int} {u6 u7 : zz_V} {σ : zz_M} {Post : Option zz_V → zz_M → Prop} (kk : Post none σ) : zz_G X d p_Mo_goes 38 [zP 12 0 0 m, zI (s : Nat), zI ((r + 1 : Nat) : Int), zI T, zI ((131 - r : Nat) : Int), zI (0 + 1 + 1), u6, u7] [] σ Post := by
  refine zz_gsn 2 rfl ?_
  refine zz_br rfl (fun h40 => ?_) (fun h40 => absurd h40 (by decide))
  refine zz_rv rfl rfl ?_
  exact kk
theorem RN.deed {σ σ1 σ2 : zz_M} {m n j r : Nat} {S kd : Int} {R : zc_R} (h : RN σ m n R) (hj : j + (r + 1) = n) (h43 : ∀ f, (1243 ≤ f ∧ f ≤ 1247) → σ1.1 f m = σ.1 f m) (h21 : ∀ i, σ1.2 (m + 21) i = σ.2 (m + 21) i)
    (e : (r = 0 ∧ σ2 = zz_sf (zz_sf (zz_sa σ1 (m + 20) j kd) 1246 m (max (σ1.1 1246 m) S)) 1243 m (max (σ1.1 1243 m) S)) ∨ (r ≠ 0 ∧ σ2 = zz_sf (zz_sa σ1 (m + 20) j kd) 1243 m (max (σ1.1 1243 m) S))) : RN σ2 m n (s_deed j S R) := by
  obtain ⟨⟨a0, a1, a2, a3, a4⟩, aw⟩ := h
  have e0 := h43 1243 (by decide)
  have e1 := h43 1244 (by decide)
  have e2 := h43 1245 (by decide)
  have e3 := h43 1246 (by decide)
  have e4 := h43 1247 (by decide)
  have el : (s_deed j S R).l = zu R.l j (max (R.l j) S) := rfl
  rcases e with ⟨er, e⟩ | ⟨er, e⟩
  · have ej : n - 1 = j := by omega
    rw [e]
    refine ⟨⟨?_, ?_, ?_, ?_, ?_⟩, fun z i hi => ?_⟩
    · rw [sf_h, e0, a0]; rfl
    · rw [sf_f _ _ (by decide), sf_f _ _ (by decide), sa_1, e1]; exact a1
    · rw [sf_f _ _ (by decide), sf_f _ _ (by decide), sa_1, e2]; exact a2
    · rw [sf_f _ _ (by decide), sf_h, e3, a3, el, ej, zu_s]
    · rw [sf_f _ _ (by decide), sf_f _ _ (by decide), sa_1, e4]; exact a4
    · rw [sf_2, sf_2, sa_a _ _ (by omega), h21]; exact aw z i hi
  · have ej : n - 1 ≠ j := by omega
    rw [e]
    refine ⟨⟨?_, ?_, ?_, ?_, ?_⟩, fun z i hi => ?_⟩
    · rw [sf_h, e0, a0]; rfl
    · rw [sf_f _ _ (by decide), sa_1, e1]; exact a1
    · rw [sf_f _ _ (by decide), sa_1, e2]; exact a2
    · rw [sf_f _ _ (by decide), sa_1, e3, a3, el, zu_n _ _ ej]
    · rw [sf_f _ _ (by decide), sa_1, e4]; exact a4
    · rw [sf_2, sa_a _ _ (by omega), h21]; exact aw z i hi
theorem lp_g50 {X : zz_X} {m s n r j B0 n0 : Nat} {law C T kd : Int} {W : zz_W} {tr : Nat → Int} {R : zc_R} {u6 u7 : zz_V} {σ : zz_M} {Post : Option zz_V → zz_M → Prop} (hC : 2 ≤ C ∧ C ≤ 4) (hB : B0 ≤ 60) (hn : n ≤ 6) (hj : j + (r + 1) = n) (hk : kd = 0 ∨ (kd = 1 ∧ 0 < W.S 11))
    (ih : ∀ (s' : Nat) (W' : zz_W) (T' : Int) (tr' : Nat → Int) (R' : zc_R) (σ' : zz_M), PR σ' m s' n law C B0 n0 r (j + 1) W' T' tr' R' → zz_T X (6 + r) p_Mo_goes [zP 12 0 0 m, zI (s' : Nat), zI (r : Nat), zI T'] σ' (fun ro σ'' => ro = none ∧ QN σ' σ'' m n (j + 1) W'.n (132 - r) (s_go law C r (j + 1) W' T' tr' R')))
    (h : MP σ m s W ∧ s < 131 - r ∧ (σ.1 1205 m = law ∧ σ.1 1206 m = C) ∧ r_bd law B0 n0 j W ∧ (0 ≤ T ∧ T ≤ 300 * (j : Int)) ∧ (0 ≤ R.c ∧ R.c + ((2 ^ r : Nat) : Int) ≤ 1000) ∧ RN σ m n R ∧ ∀ i, i < j → σ.2 (m + 20) i = tr i)
    (kk : ∀ (σ' : zz_M) (u6 u7 : zz_V), QN σ σ' m n j W.n (131 - r) (s_one law C r j kd W T tr R) → zz_G X (6 + r + 1) p_Mo_goes 38 [zP 12 0 0 m, zI (s : Nat), zI ((r + 1 : Nat) : Int), zI T, zI ((131 - r : Nat) : Int), zI (kd + 1), u6, u7] [] σ' Post) : zz_G X (6 + r + 1) p_Mo_goes 50 [zP 12 0 0 m, zI (s : Nat), zI ((r + 1 : Nat) : Int), zI T, zI ((131 - r : Nat) : Int), zI kd, u6, u7] [] σ Post := by
  obtain ⟨hP, hs, ⟨l5, l6⟩, hI, hT, hc, hN, ht⟩ := h
  have hkd : 0 ≤ kd ∧ kd ≤ 3 := by omega
  have hI2 := hI.s (C := C) (kind := kd) hC hkd (fun _ => by omega) (fun z => by omega)
  have su := w_steps_v (C := C) (mk := -1) (kind := kd) (x := 0) hI.1 (by omega) hkd
  have sp := w_steps_p (C := C) (mk := -1) (kind := kd) (x := 0) hI.1 hkd
  have xe := (x_deed law C (-1) kd 0 W hkd).1
  have hn0 := hP.2.2.1.1
  have a4 : σ.1 1247 m = (n : Nat) := hN.1.2.2.2.2
  have hI700 : W.n + (B0 + j) + 10 ≤ 20000 := by have := hI.2.2; omega
  have hone : s_one law C r j kd W T tr R = s_go law C r (j + 1) (w_deed law C (-1) kd 0 W) (T + w_steps law C (-1) kd 0 W) (zu tr j kd) (s_deed j (w_steps law C (-1) kd 0 W) R) := rfl
  obtain ⟨S, hSS⟩ : ∃ S, S = w_steps law C (-1) kd 0 W := ⟨_, rfl⟩
  obtain ⟨W', hW'⟩ : ∃ W', W' = w_deed law C (-1) kd 0 W := ⟨_, rfl⟩
  rw [← hSS] at su sp
  rw [← hW'] at hI2 xe
  rw [← hSS, ← hW'] at hone
  rw [hone] at kk
  clear hone
  have hTS : 0 ≤ T + S ∧ T + S ≤ 300 * ((j + 1 : Nat) : Int) := by omega
  refine zz_gsn 8 rfl ?_
  refine zz_cv (n := 5) rfl rfl (t_Mo_deeds (s := s) (t := 131 - r) (mk := -1) (kind := kd) (x := 0) hP (by omega) (by omega) (by omega) l5 l6 hI.1 (by omega) hC hkd (fun _ => by omega) (fun z => by omega) hI700) (by omega) (Nat.le_of_ble_eq_true rfl) (Nat.le_of_ble_eq_true rfl) (fun r58 σ58 q58 => ?_)
  obtain ⟨rfl, p58, g58, -, -⟩ := q58
  rw [← hSS]
  rw [← hW'] at p58
  have G58 : Gh m W.n (131 - r) σ σ58 := g58.gh
  have b7 : σ58.1 1247 m = (n : Nat) := (g58.1 1247 m (by unfold rg1; omega)).trans a4
  refine zz_gsn 8 rfl ?_
  rw [show zw (σ58.1 1247 m - ((r + 1 : Nat) : Int)) = ((j : Nat) : Int) from by rw [b7, zw_id (by omega) (by omega)]; omega]
  refine zz_ast rfl (⟨by omega, by omega⟩) ?_
  refine zz_gsn 2 rfl ?_
  refine zz_br rfl (fun h70 => ?_) (fun h70 => ?_)
  · refine zz_gsn 4 rfl ?_
    refine zz_mth rfl (Nat.le_of_ble_eq_true rfl) (Nat.le_of_ble_eq_true rfl) ?_
    refine zz_gsn 1 rfl ?_
    have hr : r ≠ 0 := by omega
    obtain ⟨σY, hY⟩ : ∃ x, x = zz_sf (zz_sa σ58 (m + 20) j kd) 1243 m (max (σ58.1 1243 m) S) := ⟨_, rfl⟩
    refine zz_sge (σ' := σY) hY ?_
    have NY : RN σY m n (s_deed j S R) := hN.deed (kd := kd) hj (σ1 := σ58) (fun f hf => g58.1 f m (by unfold rg1; omega)) (fun i => g58.2 _ _ (by unfold rg2 rc2; omega)) (Or.inr ⟨hr, hY⟩)
    have GY : Gh m W.n (131 - r) σ58 σY := by
      rw [hY]
      exact Gh.tri.tr (Gh.sf (Or.inr (by unfold pf; omega)))
    have fY : ∀ f, f < 1243 → σY.1 f m = σ58.1 f m := fun f hf => by
      rw [hY]
      exact sf_f _ _ (by omega)
    have mY : ∀ a, a ≠ m + 20 → σY.2 a = σ58.2 a := fun a ha => by
      rw [hY]
      exact funext (fun i => sa_a _ _ ha)
    have tY : ∀ i, i < j + 1 → σY.2 (m + 20) i = zu tr j kd i := fun i hi => by
      rw [hY]
      show (zz_sa σ58 (m + 20) j kd).2 (m + 20) i = _
      by_cases ei : i = j
      · subst ei
        rw [sa_h, zu_s]
      · rw [sa_i _ _ ei, zu_n _ _ ei, g58.2 _ _ (by unfold rg2 rc2; omega)]
        exact ht i (by omega)
    have PY : PR σY m (131 - r) n law C B0 n0 r (j + 1) W' (T + S) (zu tr j kd) (s_deed j S R) := ⟨p58.ff (fY 1203 (by decide)) (fun a z1 z2 => mY a (by omega)), by omega, ⟨(fY 1205 (by decide)).trans ((g58.1 1205 m (by unfold rg1; omega)).trans l5), (fY 1206 (by decide)).trans ((g58.1 1206 m (by unfold rg1; omega)).trans l6)⟩, hI2, hTS, hc, NY, tY⟩
    clear hY
    refine zz_gsn 8 rfl ?_
    rw [show zw (((r + 1 : Nat) : Int) - 1) = ((r : Nat) : Int) from by rw [zw_id (by omega) (by omega)]; omega, show zw (T + S) = T + S from zw_id (by omega) (by omega)]
    refine zz_cv (n := 4) rfl rfl (ih (131 - r) W' (T + S) (zu tr j kd) (s_deed j S R) σY PY) (by omega) (Nat.le_of_ble_eq_true rfl) (Nat.le_of_ble_eq_true rfl) (fun r91 σ91 q91 => ?_)
    obtain ⟨rfl, wN, wt, wF⟩ := q91
    refine zz_gsn 4 rfl ?_
    refine zz_jp rfl ?_
    rw [show zw (kd + 1) = kd + 1 from zw_id (by omega) (by omega)]
    refine kk _ _ _ ⟨⟨⟨(sf_f _ _ (by decide)).trans wN.1.1, (sf_f _ _ (by decide)).trans wN.1.2.1, (sf_f _ _ (by decide)).trans wN.1.2.2.1, (sf_f _ _ (by decide)).trans wN.1.2.2.2.1, (sf_f _ _ (by decide)).trans wN.1.2.2.2.2⟩, wN.2⟩, fun i hi => (wt i (by omega)).trans ((tY i (by omega)).trans ((zu_n _ _ (by omega)).trans (ht i hi).symm)), ⟨(G58.tr GY).tr ((wF.1.le xe (by omega)).tr (Gh.sf (Or.inl rfl))), sf_h _ _ _ _⟩⟩
  · refine zz_gsn 4 rfl ?_
    refine zz_mth rfl (Nat.le_of_ble_eq_true rfl) (Nat.le_of_ble_eq_true rfl) ?_
    refine zz_gsn 5 rfl ?_
    refine zz_mth rfl (Nat.le_of_ble_eq_true rfl) (Nat.le_of_ble_eq_true rfl) ?_
    refine zz_gsn 1 rfl ?_
    have hr : r = 0 := by omega
    obtain ⟨σY, hY⟩ : ∃ x, x = zz_sf (zz_sf (zz_sa σ58 (m + 20) j kd) 1246 m (max (σ58.1 1246 m) S)) 1243 m (max (σ58.1 1243 m) S) := ⟨_, rfl⟩
    refine zz_sge (σ' := σY) hY ?_
    have NY : RN σY m n (s_deed j S R) := hN.deed (kd := kd) hj (σ1 := σ58) (fun f hf => g58.1 f m (by unfold rg1; omega)) (fun i => g58.2 _ _ (by unfold rg2 rc2; omega)) (Or.inl ⟨hr, hY⟩)
    have GY : Gh m W.n (131 - r) σ58 σY := by
      rw [hY]
      exact (Gh.tri.tr (Gh.sf (Or.inr (by unfold pf; omega)))).tr (Gh.sf (Or.inr (by unfold pf; omega)))
    have fY : ∀ f, f < 1243 → σY.1 f m = σ58.1 f m := fun f hf => by
      rw [hY]
      refine (sf_f _ _ (by omega)).trans ?_
      exact sf_f _ _ (by omega)
    have mY : ∀ a, a ≠ m + 20 → σY.2 a = σ58.2 a := fun a ha => by
      rw [hY]
      exact funext (fun i => sa_a _ _ ha)
    have tY : ∀ i, i < j + 1 → σY.2 (m + 20) i = zu tr j kd i := fun i hi => by
      rw [hY]
      show (zz_sa σ58 (m + 20) j kd).2 (m + 20) i = _
      by_cases ei : i = j
      · subst ei
        rw [sa_h, zu_s]
      · rw [sa_i _ _ ei, zu_n _ _ ei, g58.2 _ _ (by unfold rg2 rc2; omega)]
        exact ht i (by omega)
    have PY : PR σY m (131 - r) n law C B0 n0 r (j + 1) W' (T + S) (zu tr j kd) (s_deed j S R) := ⟨p58.ff (fY 1203 (by decide)) (fun a z1 z2 => mY a (by omega)), by omega, ⟨(fY 1205 (by decide)).trans ((g58.1 1205 m (by unfold rg1; omega)).trans l5), (fY 1206 (by decide)).trans ((g58.1 1206 m (by unfold rg1; omega)).trans l6)⟩, hI2, hTS, hc, NY, tY⟩
    clear hY
    refine zz_gsn 8 rfl ?_
    rw [show zw (((r + 1 : Nat) : Int) - 1) = ((r : Nat) : Int) from by rw [zw_id (by omega) (by omega)]; omega, show zw (T + S) = T + S from zw_id (by omega) (by omega)]
    refine zz_cv (n := 4) rfl rfl (ih (131 - r) W' (T + S) (zu tr j kd) (s_deed j S R) σY PY) (by omega) (Nat.le_of_ble_eq_true rfl) (Nat.le_of_ble_eq_true rfl) (fun r91 σ91 q91 => ?_)
    obtain ⟨rfl, wN, wt, wF⟩ := q91
    refine zz_gsn 4 rfl ?_
    refine zz_jp rfl ?_
    rw [show zw (kd + 1) = kd + 1 from zw_id (by omega) (by omega)]
    refine kk _ _ _ ⟨⟨⟨(sf_f _ _ (by decide)).trans wN.1.1, (sf_f _ _ (by decide)).trans wN.1.2.1, (sf_f _ _ (by decide)).trans wN.1.2.2.1, (sf_f _ _ (by decide)).trans wN.1.2.2.2.1, (sf_f _ _ (by decide)).trans wN.1.2.2.2.2⟩, wN.2⟩, fun i hi => (wt i (by omega)).trans ((tY i (by omega)).trans ((zu_n _ _ (by omega)).trans (ht i hi).symm)), ⟨(G58.tr GY).tr ((wF.1.le xe (by omega)).tr (Gh.sf (Or.inl rfl))), sf_h _ _ _ _⟩⟩
theorem t_Mo_goes {X : zz_X} {m n B0 n0 : Nat} {law C : Int} (hC : 2 ≤ C ∧ C ≤ 4) (hB : B0 ≤ 60) (hn : n ≤ 6) : ∀ (r j s : Nat) (W : zz_W) (T : Int) (tr : Nat → Int) (R : zc_R) (σ : zz_M), j + r = n → PR σ m s n law C B0 n0 r j W T tr R → zz_T X (6 + r) p_Mo_goes [zP 12 0 0 m, zI (s : Nat), zI (r : Nat), zI T] σ (fun ro σ' => ro = none ∧ QN σ σ' m n j W.n (132 - r) (s_go law C r j W T tr R)) := by
  intro r
  induction r with
  | zero =>
    intro j s W T tr R σ hj h
    obtain ⟨hP, hs, ⟨l5, l6⟩, hI, hT, hc, hN, ht⟩ := h
    obtain ⟨⟨a0, a1, a2, a3, a4⟩, aw⟩ := id hN
    obtain rfl : j = n := hj
    have hc2 : 0 ≤ R.c ∧ R.c ≤ 1000 := ⟨hc.1, by omega⟩
    refine zz_mk k_Mo_goes o_Mo_goes rfl rfl (Nat.le_of_ble_eq_true rfl) ?_
    show zz_G X (6 + 0) p_Mo_goes 0 [zP 12 0 0 m, zI (s : Nat), zI (0 : Nat), zI T, zU, zU, zU, zU] [] σ _
    refine zz_gsn 1 rfl ?_
    refine zz_br rfl (fun h1 => absurd rfl h1) (fun h1 => ?_)
    refine zz_gsn 6 rfl ?_
    obtain ⟨σ6, h6⟩ : ∃ x, x = zz_sf σ 1245 m (R.c + 1) := ⟨_, rfl⟩
    refine zz_sge (σ' := σ6) (by rw [h6, a2, zw_id (by omega) (by omega)]) ?_
    have b0 : σ6.1 1243 m = R.a := by rw [h6, sf_f _ _ (by decide)]; exact a0
    have b1 : σ6.1 1244 m = R.b := by rw [h6, sf_f _ _ (by decide)]; exact a1
    have b2 : σ6.1 1245 m = R.c + 1 := by rw [h6, sf_h]
    have b3 : σ6.1 1246 m = R.l (j - 1) := by rw [h6, sf_f _ _ (by decide)]; exact a3
    have b4 : σ6.1 1247 m = (j : Nat) := by rw [h6, sf_f _ _ (by decide)]; exact a4
    have m6 : σ6.2 = σ.2 := by rw [h6]; rfl
    have F6 : Gf m W.n (132 - 0) σ σ6 := by rw [h6]; exact ⟨Gh.sf (Or.inr (by unfold pf; omega)), sf_f _ _ (by decide)⟩
    refine zz_gsn 3 rfl ?_
    refine zz_br rfl (fun h11 => ?_) (fun h11 => ?_)
    · refine zz_gsn 5 rfl ?_
      have e : R.b < T := by rw [← b1]; omega
      refine lp_gcp (σ0 := zz_sf σ6 1244 m T) (fun σ' w F => ?_) 6 0 (zz_sf σ6 1244 m T) rfl (fun i hi => absurd hi (Nat.not_lt_zero i)) zz_F.rf
      have f0 := F m (by omega)
      refine ⟨rfl, ?_, fun i hi => ((F (m + 20) (by omega)).2 i).trans (by show σ6.2 (m + 20) i = _; rw [m6]), F6.tr ⟨(Gh.sf (Or.inr (by unfold pf; omega))).tr ⟨fun f _ _ => f0.1 f, fun a i z => (F a (by unfold pq at z; omega)).2 i, F.mono (fun a z => by unfold A_rf; omega)⟩, (f0.1 1203).trans (sf_f _ _ (by decide))⟩⟩
      show RN σ' m j (s_row T tr R)
      unfold s_row
      rw [if_pos e]
      refine ⟨⟨(f0.1 1243).trans ((sf_f _ _ (by decide)).trans b0), (f0.1 1244).trans (sf_h _ _ _ _), (f0.1 1245).trans ((sf_f _ _ (by decide)).trans b2), (f0.1 1246).trans ((sf_f _ _ (by decide)).trans b3), (f0.1 1247).trans ((sf_f _ _ (by decide)).trans b4)⟩, fun _ i hi => (w i (by omega)).trans ?_⟩
      show σ6.2 (m + 20) i = tr i
      rw [m6]
      exact ht i hi
    · refine zz_rv rfl rfl ?_
      have e : ¬ R.b < T := by rw [← b1]; omega
      refine ⟨rfl, ?_, fun i _ => by rw [m6], F6⟩
      show RN σ6 m j (s_row T tr R)
      unfold s_row
      rw [if_neg e]
      exact ⟨⟨b0, b1, b2, b3, b4⟩, fun z i hi => by rw [m6]; exact aw z i hi⟩
  | succ r ih =>
    intro j s W T tr R σ hj h
    have ih2 : ∀ (s' : Nat) (W' : zz_W) (T' : Int) (tr' : Nat → Int) (R' : zc_R) (σ' : zz_M), PR σ' m s' n law C B0 n0 r (j + 1) W' T' tr' R' → zz_T X (6 + r) p_Mo_goes [zP 12 0 0 m, zI (s' : Nat), zI (r : Nat), zI T'] σ' (fun ro σ'' => ro = none ∧ QN σ' σ'' m n (j + 1) W'.n (132 - r) (s_go law C r (j + 1) W' T' tr' R')) := fun s' W' T' tr' R' σ' z => ih (j + 1) s' W' T' tr' R' σ' (by omega) z
    clear ih
    have hs2 : s < 182 := by have := h.2.1; omega
    have h1 : MP σ m s W ∧ s < 131 - r ∧ (σ.1 1205 m = law ∧ σ.1 1206 m = C) ∧ r_bd law B0 n0 j W ∧ (0 ≤ T ∧ T ≤ 300 * (j : Int)) ∧ (0 ≤ R.c ∧ R.c + ((2 ^ r : Nat) : Int) ≤ 1000) ∧ RN σ m n R ∧ ∀ i, i < j → σ.2 (m + 20) i = tr i := ⟨h.1, by have := h.2.1; omega, h.2.2.1, h.2.2.2.1, h.2.2.2.2.1, h.dn, h.2.2.2.2.2.2⟩
    refine zz_mk k_Mo_goes o_Mo_goes rfl rfl (Nat.le_of_ble_eq_true rfl) ?_
    show zz_G X (6 + r + 1) p_Mo_goes 0 [zP 12 0 0 m, zI (s : Nat), zI ((r + 1 : Nat) : Int), zI T, zU, zU, zU, zU] [] σ _
    refine zz_gsn 1 rfl ?_
    refine zz_br rfl (fun h1_ => ?_) (fun h1_ => absurd (by first | exact h1_ | exact Decidable.not_not.mp h1_) (show ((r + 1 : Nat) : Int) ≠ 0 by omega))
    refine zz_gsn 6 rfl ?_
    rw [show zw (132 - ((r + 1 : Nat) : Int)) = ((131 - r : Nat) : Int) from by rw [zw_id (by omega) (by omega)]; omega]
    refine zz_gsn 2 rfl ?_
    refine zz_br rfl (fun h40 => absurd h40 (by decide)) (fun h40 => ?_)
    refine zz_gsn 2 rfl ?_
    refine zz_br rfl (fun h43 => ?_) (fun h43 => absurd (by first | exact h43 | exact Decidable.not_not.mp h43) (show ¬ (0 : Int) = 1 by decide))
    refine lp_g50 hC hB hn hj (Or.inl rfl) ih2 h1 (fun σ1 u1 u2 q1 => ?_)
    have n1 := h.nx (by omega) q1
    refine zz_gsn 2 rfl ?_
    refine zz_br rfl (fun h40b => absurd h40b (by decide)) (fun h40b => ?_)
    refine zz_gsn 2 rfl ?_
    refine zz_br rfl (fun h43b => absurd rfl h43b) (fun h43b => ?_)
    refine zz_gsn 3 rfl ?_
    refine zz_cv (n := 3) rfl rfl (t_Mo_of (σ := σ1) (m := m) (s := s) (k := 11) hs2 (by decide)) (by omega) (Nat.le_of_ble_eq_true rfl) (Nat.le_of_ble_eq_true rfl) (fun r47b σ47b q47b => ?_)
    obtain ⟨rfl, rfl⟩ := q47b
    rw [n1.1.2.1 11 (by decide) (by decide)]
    refine zz_br rfl (fun h48b => ?_) (fun h48b => ?_)
    · have hW : 0 < W.S 11 := by
        have := h.2.2.2.1.1.2.1
        omega
      refine lp_g50 hC hB hn hj (Or.inr ⟨rfl, hW⟩) ih2 n1 (fun σ2 u3 u4 q2 => ?_)
      refine lp_gx ⟨rfl, ?_⟩
      rw [s_go_y hW]
      have z : 132 - (r + 1) = 131 - r := by omega
      rw [z]
      exact q1.tr q2
    · refine zz_jp rfl ?_
      refine zz_gsn 1 rfl ?_
      refine zz_jp rfl ?_
      have hW : ¬ 0 < W.S 11 := by omega
      rw [show zw (0 + 1 + 1) = 0 + 1 + 1 from rfl]
      refine lp_gx ⟨rfl, ?_⟩
      rw [s_go_n hW]
      have z : 132 - (r + 1) = 131 - r := by omega
      rw [z]
      exact q1
