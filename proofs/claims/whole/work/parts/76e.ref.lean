/-! the reference: all deeds anew -/
/-- as Fx, the LAW in force aside -/
def Fy (m n : Nat) (σ σ' : zz_M) : Prop := (∀ f, pf f → f ≠ 1203 → f ≠ 1205 → f ≠ 1206 → σ'.1 f m = σ.1 f m) ∧ (∀ a i, pa m n a i → σ'.2 a i = σ.2 a i) ∧ zz_F (A_rf m) σ σ'
theorem Fy.rf {m n : Nat} {σ : zz_M} : Fy m n σ σ := ⟨fun _ _ _ _ _ => rfl, fun _ _ _ => rfl, zz_F.rf⟩
theorem Fy.tr {m n : Nat} {σ σ1 σ2 : zz_M} (h : Fy m n σ σ1) (h2 : Fy m n σ1 σ2) : Fy m n σ σ2 := ⟨fun f q y1 y2 y3 => (h2.1 f q y1 y2 y3).trans (h.1 f q y1 y2 y3), fun a i q => (h2.2.1 a i q).trans (h.2.1 a i q), h.2.2.tr h2.2.2⟩
theorem Fx.y {m n : Nat} {σ σ' : zz_M} (h : Fx m n σ σ') : Fy m n σ σ' := ⟨fun f q y1 _ _ => h.1 f q y1, h.2.1, h.2.2⟩
theorem Fy.sf {m n f : Nat} {σ : zz_M} {v : Int} (hf : ¬ pf f ∨ f = 1205 ∨ f = 1206) : Fy m n σ (zz_sf σ f m v) := ⟨fun g q y1 y2 y3 => sf_f _ _ (fun z => by
  subst z
  rcases hf with z | z | z
  · exact z q
  · exact y2 z
  · exact y3 z), fun _ _ _ => rfl, zz_F.sf ⟨Nat.le_refl _, Nat.le_add_right _ _⟩⟩
theorem Fy.cl {m n : Nat} {σ σ' σZ : zz_M} {a b c : Int} (h : Fy m n σ σ') (hZ : σZ = zz_sf (zz_sf (zz_sf σ' 1205 m a) 1206 m b) 1203 m c) (ha : a = σ.1 1205 m) (hb : b = σ.1 1206 m) (hc : c = σ.1 1203 m) : Fr m n σ σZ ∧ zz_F (A_rf m) σ σZ := by
  subst ha
  subst hb
  subst hc
  rw [hZ]
  refine ⟨⟨fun f q => ?_, fun a i q => h.2.1 a i q⟩, ((h.2.2.tr (zz_F.sf ⟨Nat.le_refl _, Nat.le_add_right _ _⟩)).tr (zz_F.sf ⟨Nat.le_refl _, Nat.le_add_right _ _⟩)).tr (zz_F.sf ⟨Nat.le_refl _, Nat.le_add_right _ _⟩)⟩
  by_cases e : f = 1203
  · rw [e, sf_h]
  · rw [sf_f _ _ e]
    by_cases e2 : f = 1206
    · rw [e2, sf_h]
    · rw [sf_f _ _ e2]
      by_cases e3 : f = 1205
      · rw [e3, sf_h]
      · rw [sf_f _ _ e3]
        exact h.1 f q e e3 e2
theorem zw_61 {v : Nat} (h : v < 100) : zw (61 + (v : Int)) = ((61 + v : Nat) : Int) := by
  rw [zw_id (by omega) (by omega)]
  omega
theorem lp_rsteps {X : zz_X} {m k : Nat} {law C was : Int} {H0 : zz_H} {D : zz_D} {σ0 : zz_M} {Post : Option zz_V → zz_M → Prop} (hl : 0 ≤ law ∧ law ≤ 2) (hC : 2 ≤ C ∧ C ≤ 4) (hk : k ≤ 60) (hn0 : H0.n ≤ 1890) (r3 : σ0.1 1215 m = ((k + 1 : Nat) : Int)) (hD : ∀ i, i < k → σ0.2 (m + 5) (i + 1) = ((D i).2.1 : Nat) ∧ σ0.2 (m + 6) (i + 1) = (D i).1 ∧ σ0.2 (m + 7) (i + 1) = (D i).2.2) (hs : hg_st law k D (fun j v => (hg H0 law C D j).Q v))
    (kk : ∀ (σ' : zz_M) (u5 u6 : zz_V), Fy m H0.n σ0 σ' → σ'.1 1242 m = mx (g_sp H0 law C D) k → zz_G X 6 p_Mo_replays 55 [zP 12 0 0 m, zI law, zI C, zI was, zI (zz_sum (g_sp H0 law C D) k), u5, u6] [] σ' Post) :
    ∀ (r j : Nat) (acc : Int) (u6 : zz_V) (σ : zz_M), j + r = k → acc = zz_sum (g_sp H0 law C D) j → σ.1 1242 m = mx (g_sp H0 law C D) j → 0 ≤ acc ∧ acc ≤ 200 * (j : Int) → σ.1 1205 m = law → σ.1 1206 m = C → (∀ v, v ≤ j → MP σ m (61 + v) (hw (hg H0 law C D j) v)) → Fy m H0.n σ0 σ → zz_G X 6 p_Mo_replays 19 [zP 12 0 0 m, zI law, zI C, zI was, zI acc, zI ((j + 1 : Nat) : Int), u6] [] σ Post := by
  intro r
  induction r with
  | zero =>
    intro j acc u6 σ hj ha hm hb c5 c6 hS hF
    have e : j = k := hj
    subst e
    have r3' : σ.1 1215 m = ((j + 1 : Nat) : Int) := (hF.1 1215 (by unfold pf; omega) (by decide) (by decide) (by decide)).trans r3
    rw [← ha] at kk
    refine zz_gsn 3 rfl ?_
    refine zz_br rfl (fun h22 => ?_) (fun h22 => absurd h22 (by omega))
    exact kk σ _ _ hF hm
  | succ r ih =>
    intro j acc u6 σ hj ha hm hb c5 c6 hS hF
    have hjk : j < k := by omega
    have r3' : σ.1 1215 m = ((k + 1 : Nat) : Int) := (hF.1 1215 (by unfold pf; omega) (by decide) (by decide) (by decide)).trans r3
    obtain ⟨m1, m2, m3⟩ := hD j hjk
    rw [← hF.2.1 (m + 5) _ (by unfold pa; omega)] at m1
    rw [← hF.2.1 (m + 6) _ (by unfold pa; omega)] at m2
    rw [← hF.2.1 (m + 7) _ (by unfold pa; omega)] at m3
    obtain ⟨s1, s2, s3, s4, s5⟩ := hs j hjk
    have hI := hg_inv hl hC hk hs j (by omega)
    obtain ⟨i1, i2⟩ := hI.1 (D j).2.1 s1
    obtain ⟨-, n1, n2⟩ := hI
    have i0 := i1.up s1
    have ip : (D j).1 = 1 ∨ (D j).1 = 3 → 0 < (hw (hg H0 law C D j) (D j).2.1).S 11 := fun z => by
      rw [i2]
      exact Int.ofNat_lt.mpr (s4 z)
    have gs : g_sp H0 law C D j = w_steps law C (j : Nat) (D j).1 (h_x (D j) (hg H0 law C D j)) (hw (hg H0 law C D j) (D j).2.1) := rfl
    have g1 : hg H0 law C D (j + 1) = h_one law C j (D j) (hg H0 law C D j) := rfl
    obtain ⟨H, hH⟩ : ∃ H, H = hg H0 law C D j := ⟨_, rfl⟩
    obtain ⟨e, he⟩ : ∃ e, e = D j := ⟨_, rfl⟩
    rw [← hH] at hS i0 gs g1 n1 n2 ip
    rw [← he] at m1 m2 m3 s1 s2 s3 i0 gs g1 ip
    clear s4 s5 i1 i2
    obtain ⟨wx1, wx2, -⟩ := w_hx (law := law) (C := C) (mk := (j : Nat)) (e := e) (H := H) (W := hw H e.2.1) s2
    have su := w_steps_u (C := C) (mk := (j : Nat)) (kind := e.1) (x := h_x e H) i0 (by omega) s2
    have sp := w_steps_p (C := C) (mk := (j : Nat)) (kind := e.1) (x := h_x e H) i0 s2
    rw [← gs] at su sp wx2
    obtain ⟨S, hSS⟩ : ∃ S, S = g_sp H0 law C D j := ⟨_, rfl⟩
    rw [← hSS] at su sp wx2
    have xe : H.n ≤ (h_w law C j e H).n := (x_deed law C (j : Nat) e.1 (h_x e H) (hw H e.2.1) s2).1
    have hwn : ∀ v, (hw H v).n = H.n := fun _ => rfl
    have hj1 : ¬ ((j + 1 : Nat) : Int) ≥ σ.1 1215 m := by
      rw [r3']
      omega
    clear gs
    refine zz_gsn 3 rfl ?_
    refine zz_br rfl (fun h22 => absurd h22 hj1) (fun h22 => ?_)
    refine zz_gsn 5 rfl ?_
    refine zz_ald rfl (by omega) ?_
    refine zz_gsn 7 rfl ?_
    refine zz_ald rfl (by omega) ?_
    refine zz_gsn 3 rfl ?_
    refine zz_ald rfl (by omega) ?_
    rw [show σ.2 (m + 5) ((j + 1 : Nat) : Int).toNat = ((e.2.1 : Nat) : Int) from m1, show σ.2 (m + 6) ((j + 1 : Nat) : Int).toNat = e.1 from m2, show σ.2 (m + 7) ((j + 1 : Nat) : Int).toNat = e.2.2 from m3, zw_61 (v := e.2.1) (by omega), zw_61 (v := j + 1) (by omega)]
    refine zz_cv (n := 5) rfl rfl (t_Mo_deeds (s := 61 + e.2.1) (t := 61 + (j + 1)) (B := j) (mk := (j : Nat)) (kind := e.1) (x := e.2.2) (hS e.2.1 s1) (by omega) (by omega) (by omega) c5 c6 i0 (by omega) hC s2 s3 ip (by rw [hwn]; omega)) (Nat.le_of_ble_eq_true rfl) (Nat.le_of_ble_eq_true rfl) (Nat.le_of_ble_eq_true rfl) (fun r41 σ41 q41 => ?_)
    obtain ⟨rfl, p41, g41, -, -⟩ := q41
    rw [wx1] at p41
    rw [hwn] at g41
    rw [wx2]
    have F41 : Fy m H0.n σ0 σ41 := hF.tr (g41.x n1 (by omega)).y
    have f5 : σ41.1 1205 m = law := (g41.1 _ _ (by unfold rg1; omega)).trans c5
    have f6 : σ41.1 1206 m = C := (g41.1 _ _ (by unfold rg1; omega)).trans c6
    have fm : σ41.1 1242 m = mx (g_sp H0 law C D) j := (g41.1 _ _ (by unfold rg1; omega)).trans hm
    refine zz_gsn 9 rfl ?_
    refine zz_mth rfl (Nat.le_of_ble_eq_true rfl) (Nat.le_of_ble_eq_true rfl) ?_
    refine zz_gsn 2 rfl ?_
    refine zz_jp rfl ?_
    rw [fm, zw_s (by omega), show zw (acc + S) = acc + S from zw_id (by omega) (by omega)]
    refine ih (j + 1) (acc + S) _ _ (by omega) ?_ ?_ (by clear ha hSS wx2; omega) ((sf_f _ _ (by decide)).trans f5) ((sf_f _ _ (by decide)).trans f6) (fun v hv => ?_) (F41.tr (Fy.sf (Or.inl (by unfold pf; omega))))
    · rw [ha, hSS]
      rfl
    · rw [sf_h, hSS]
      rfl
    · rw [g1]
      by_cases ev : v = j + 1
      · subst ev
        rw [hw_s]
        exact MP.fd p41 (by decide)
      · rw [hw_o _ _ _ _ _ ev]
        exact MP.fd (MP.oth (W' := h_w law C j e H) (hS v (by omega)) (by rw [hwn]; exact g41) p41 xe (by omega)) (by decide)
theorem t_Mo_replays {X : zz_X} {σ : zz_M} {m : Nat} {G : zz_J} {law C : Int} (hG : RG σ m G) (ok : g_ok G) (hh0 : G.I.ho ≠ 0) (hl : 0 ≤ law ∧ law ≤ 2) (hC : 2 ≤ C ∧ C ≤ 4) (h2 : law = 2 ∨ ¬ zd_two G.I.k G.I.D) : zz_T X 6 p_Mo_replays [zP 12 0 0 m, zI law, zI C] σ (fun r σ' => r = some (zI (zz_sum (g_s G law C) G.I.k)) ∧ σ'.1 1242 m = mx (g_s G law C) G.I.k ∧ RG σ' m G ∧ zz_F (A_rf m) σ σ') := by
  refine zz_mk k_Mo_replays o_Mo_replays rfl rfl (Nat.le_of_ble_eq_true rfl) ?_
  show zz_G X 6 p_Mo_replays 0 [zP 12 0 0 m, zI law, zI C, zU, zU, zU, zU] [] σ _
  obtain ⟨hI, hT, hO, hF, hM, h10⟩ := id hG
  obtain ⟨⟨ho, hfx⟩, okt, oko, okm⟩ := id ok
  have hk6 := ho.1.2.2.1
  obtain ⟨hone, ⟨q1, q2, q3, q4⟩, hV⟩ := ri_y hI hh0
  obtain ⟨⟨r1, r2, r3⟩, r4, r5, r6, r7⟩ := id hV
  have hS0 := (r4 0 (Nat.zero_le _)).1
  have hn0 : (gW G).n ≤ 1890 := h_nb (h_inv ho.1) hk6
  have rn : σ.1 1203 m = ((gW G).n : Nat) := hS0.2.2.1.1
  refine zz_gsn 3 rfl ?_
  rw [rn]
  refine zz_gsn 8 rfl ?_
  refine zz_cv (n := 2) rfl rfl (t_Mo_empties (t := 61) (by decide)) (Nat.le_of_ble_eq_true rfl) (Nat.le_of_ble_eq_true rfl) (Nat.le_of_ble_eq_true rfl) (fun r11 σ11 q11 => ?_)
  obtain ⟨rfl, e11, d11, f11⟩ := q11
  refine zz_gsn 7 rfl ?_
  obtain ⟨σ5, h5⟩ : ∃ s, s = zz_sf σ11 1242 m 0 := ⟨_, rfl⟩
  refine zz_sge (σ' := σ5) h5 ?_
  have F5 : Fy m (gW G).n σ σ5 := by
    rw [h5]
    exact (((Fy.sf (Or.inr (Or.inl rfl))).tr (Fy.sf (Or.inr (Or.inr rfl)))).tr (cp_x d11 f11 (by decide)).y).tr (Fy.sf (Or.inl (by unfold pf; omega)))
  have c5 : σ5.1 1205 m = law := by rw [h5, sf_f _ _ (by decide), d11, sf_f _ _ (by decide), sf_h]
  have c6 : σ5.1 1206 m = C := by rw [h5, sf_f _ _ (by decide), d11, sf_h]
  refine lp_rsteps (H0 := gW G) (D := G.I.D) (k := G.I.k) (σ0 := σ) (was := ((gW G).n : Nat)) hl hC hk6 hn0 r3 (fun i hi => (r5 i hi).2) (g_st ho (gW G) C h2) (fun σ' u5 u6 F M => ?_) G.I.k 0 0 _ σ5 (Nat.zero_add _) rfl (by rw [h5]; exact sf_h _ _ _ _) ⟨Int.le_refl _, Int.le_refl _⟩ c5 c6 (fun v hv => ?_) F5
  · refine zz_gsn 11 rfl ?_
    obtain ⟨σZ, hZ⟩ : ∃ s, s = zz_sf (zz_sf (zz_sf σ' 1205 m (σ'.1 1211 m)) 1206 m (σ'.1 1212 m)) 1203 m ((gW G).n : Nat) := ⟨_, rfl⟩
    refine zz_sge (σ' := σZ) (by rw [hZ]; rfl) ?_
    have Z := F.cl hZ ((F.1 1211 (by unfold pf; omega) (by decide) (by decide) (by decide)).trans (q1.trans r1.symm)) ((F.1 1212 (by unfold pf; omega) (by decide) (by decide) (by decide)).trans (q2.trans r2.symm)) rn.symm
    refine zz_gsn 1 rfl ?_
    refine zz_ri rfl (Or.inl rfl) ?_
    exact ⟨rfl, (by rw [hZ, sf_f _ _ (by decide), sf_f _ _ (by decide), sf_f _ _ (by decide)]; exact M), Fr.RG hG ok Z.1, Z.2⟩
  · obtain rfl : v = 0 := by omega
    refine ⟨fun i hi => ?_, fun i y1 y2 => ?_, ⟨?_, fun i hi => ?_⟩, fun i hi c hc => absurd hc (List.not_mem_nil)⟩
    · show σ5.2 (m + 3) (12 * 61 + i) = -1
      rw [h5, sf_2, e11 i (by omega), if_pos hi]
    · show σ5.2 (m + 3) (12 * 61 + i) = 0
      rw [h5, sf_2, e11 i y2, if_neg (by omega)]
    · rw [h5, sf_f _ _ (by decide), d11, sf_f _ _ (by decide), sf_f _ _ (by decide)]
      exact rn
    · rw [h5, sf_2, f11 _ _ (by omega)]
      exact hS0.2.2.1.2 i hi
