/-! the reference: until -/
/-- what a trial of the reference leaves while it runs -/
def Fx (m n : Nat) (σ σ' : zz_M) : Prop := (∀ f, pf f → f ≠ 1203 → σ'.1 f m = σ.1 f m) ∧ (∀ a i, pa m n a i → σ'.2 a i = σ.2 a i) ∧ zz_F (A_rf m) σ σ'
theorem Fx.rf {m n : Nat} {σ : zz_M} : Fx m n σ σ := ⟨fun _ _ _ => rfl, fun _ _ _ => rfl, zz_F.rf⟩
theorem Fx.tr {m n : Nat} {σ σ1 σ2 : zz_M} (h : Fx m n σ σ1) (h2 : Fx m n σ1 σ2) : Fx m n σ σ2 := ⟨fun f q y => (h2.1 f q y).trans (h.1 f q y), fun a i q => (h2.2.1 a i q).trans (h.2.1 a i q), h.2.2.tr h2.2.2⟩
theorem Fx.cl {m n : Nat} {σ σ' : zz_M} (h : Fx m n σ σ') : Fr m n σ (zz_sf σ' 1203 m (σ.1 1203 m)) ∧ zz_F (A_rf m) σ (zz_sf σ' 1203 m (σ.1 1203 m)) := ⟨⟨fun f q => by
  by_cases e : f = 1203
  · rw [e, sf_h]
  · rw [sf_f _ _ e]; exact h.1 f q e, fun a i q => h.2.1 a i q⟩, h.2.2.tr (zz_F.sf ⟨Nat.le_refl _, Nat.le_add_right _ _⟩)⟩
theorem Rg.x {m t n n0 : Nat} {σ σ' : zz_M} (h : Rg m t n σ σ') (hn : n0 ≤ n) (ht : 61 ≤ t) : Fx m n0 σ σ' := ⟨fun f q y => h.1 f m (by unfold pf at q; unfold rg1; omega), fun a i q => h.2 a i (by unfold pa at q; unfold rg2 rc2; omega), fun a ha => ⟨fun f => h.1 f a (by unfold A_rf at ha; unfold rg1; omega), fun i => h.2 a i (by unfold A_rf at ha; unfold rg2 rc2; omega)⟩⟩
theorem cp_x {m t n0 : Nat} {σ σ' : zz_M} (h2 : σ'.1 = σ.1) (h3 : ∀ a i, ¬ (a = m + 3 ∧ 12 * t ≤ i ∧ i < 12 * t + 12) → σ'.2 a i = σ.2 a i) (ht : 61 ≤ t) : Fx m n0 σ σ' := ⟨fun f _ _ => by rw [h2], fun a i q => h3 a i (by unfold pa at q; omega), fun a ha => ⟨fun f => by rw [h2], fun i => h3 a i (by unfold A_rf at ha; omega)⟩⟩
/-- bounds of a trial -/
def r_bd (law : Int) (B0 n0 i : Nat) (W : zz_W) : Prop := IV law (B0 + i) W ∧ n0 ≤ W.n ∧ W.n + w_phi law W ≤ 2500 + 7 * i
theorem r_bd.s {law C kind : Int} {B0 n0 i : Nat} {W : zz_W} (h : r_bd law B0 n0 i W) (hC : 2 ≤ C ∧ C ≤ 4) (hk : 0 ≤ kind ∧ kind ≤ 3) (hkl : law ≠ 2 → kind ≤ 1) (hp : kind = 1 ∨ kind = 3 → 0 < W.S 11) : r_bd law B0 n0 (i + 1) (w_deed law C (-1) kind 0 W) := by
  obtain ⟨a, b, c⟩ := h
  obtain ⟨d1, d2, d3, -⟩ := IV_deed (C := C) (mk := -1) (kind := kind) (x := 0) a hC hk hkl hp
  have e := (x_deed law C (-1) kind 0 W hk).1
  exact ⟨d1, Nat.le_trans b e, by omega⟩
theorem r_bd.z {law C : Int} {k v : Nat} {D : zz_D} (h : h_ok law C k D) (hv : v ≤ k) : r_bd law v (hh law C D k).n 0 (hw (hh law C D k) v) := by
  have hi := h_inv h
  have i1 := (hi.1 v hv).1
  have hn := h_nb hi h.2.2.1
  have hk6 := h.2.2.1
  refine ⟨i1, Nat.le_refl _, ?_⟩
  have b0 : ((hw (hh law C D k) v).R 0).length + ((hw (hh law C D k) v).R 1).length ≤ v := IV_rows i1
  have hp : w_phi law (hw (hh law C D k) v) ≤ 200 := by
    obtain ⟨L0, hL0⟩ : ∃ L0, L0 = w_l 0 (hw (hh law C D k) v) := ⟨_, rfl⟩
    obtain ⟨L1, hL1⟩ : ∃ L1, L1 = w_l 1 (hw (hh law C D k) v) := ⟨_, rfl⟩
    have b1 : L0 + L1 ≤ v := by rw [hL0, hL1]; exact b0
    unfold w_phi w_gap
    rw [← hL0, ← hL1]
    split
    · omega
    · split <;> omega
  have e : (hw (hh law C D k) v).n = (hh law C D k).n := rfl
  omega
theorem lp_run {X : zz_X} {m n0 B0 : Nat} {law C v was : Int} {W0 : zz_W} {σ0 : zz_M} {Post : Option zz_V → zz_M → Prop} (hC : 2 ≤ C ∧ C ≤ 4) (hB : B0 ≤ 60) (hl5 : σ0.1 1205 m = law) (hl6 : σ0.1 1206 m = C) (kk : ∀ (σ' : zz_M) (y : Int), Fx m n0 σ0 σ' → zz_G X 6 p_Mo_until 41 [zP 12 0 0 m, zI v, zI was, zI (r_ft (fun i => w_begun law C (-1) 0 0 (r_dd law C 0 i W0)) 40 0), zI y] [] σ' Post) :
    ∀ (r i : Nat) (σ : zz_M), i + r = 40 → r_ft (fun i => w_begun law C (-1) 0 0 (r_dd law C 0 i W0)) r i = r_ft (fun i => w_begun law C (-1) 0 0 (r_dd law C 0 i W0)) 40 0 → r_bd law B0 n0 i (r_dd law C 0 i W0) → MP σ m 122 (r_dd law C 0 i W0) → Fx m n0 σ0 σ → zz_G X 6 p_Mo_until 17 [zP 12 0 0 m, zI v, zI was, zI (-1), zI ((i + 1 : Nat) : Int)] [] σ Post := by
  intro r
  induction r with
  | zero =>
    intro i σ hi hr hI hP hF
    rw [← hr] at kk
    refine zz_gsn 2 rfl ?_
    refine zz_br rfl (fun h19 => ?_) (fun h19 => absurd h19 (by omega))
    exact kk σ _ hF
  | succ r ih =>
    intro i σ hi hr hI hP hF
    have hI2 := hI.s (C := C) (kind := 0) hC (by decide) (fun _ => by decide) (fun z => z.elim (fun z => absurd z (by decide)) (fun z => absurd z (by decide)))
    have hy : w_begun law C (-1) 0 0 (r_dd law C 0 i W0) ≠ 0 → r_ft (fun i => w_begun law C (-1) 0 0 (r_dd law C 0 i W0)) (r + 1) i = ((i + 1 : Nat) : Int) := fun z => if_pos z
    have hn : ¬ w_begun law C (-1) 0 0 (r_dd law C 0 i W0) ≠ 0 → r_ft (fun i => w_begun law C (-1) 0 0 (r_dd law C 0 i W0)) (r + 1) i = r_ft (fun i => w_begun law C (-1) 0 0 (r_dd law C 0 i W0)) r (i + 1) := fun z => if_neg z
    have i40 : i < 40 := by omega
    have hlt : ¬ (40 : Int) < ((i + 1 : Nat) : Int) := by omega
    have hi1 : ((i + 1 : Nat) : Int) ≠ -1 := by omega
    refine zz_gsn 2 rfl ?_
    refine zz_br rfl (fun h19 => absurd h19 hlt) (fun h19 => ?_)
    refine zz_gsn 2 rfl ?_
    refine zz_br rfl (fun h22 => absurd rfl h22) (fun h22 => ?_)
    refine zz_gsn 5 rfl ?_
    refine zz_cv (n := 5) rfl rfl (t_Mo_deeds (s := 122) (t := 123) (mk := -1) (kind := 0) (x := 0) hP (by decide) (by decide) (by decide) ((hF.1 1205 (Or.inr (Or.inl rfl)) (by decide)).trans hl5) ((hF.1 1206 (Or.inr (Or.inr (Or.inl rfl))) (by decide)).trans hl6) hI.1 (by omega) hC (by decide) (fun _ => by decide) ((fun z => z.elim (fun z => absurd z (by decide)) (fun z => absurd z (by decide)))) (by have := hI.2.2; omega)) (Nat.le_of_ble_eq_true rfl) (Nat.le_of_ble_eq_true rfl) (Nat.le_of_ble_eq_true rfl) (fun r28 σ28 q28 => ?_)
    obtain ⟨rfl, p28, g28, b1_28, b2_28⟩ := q28
    refine zz_gsn 4 rfl ?_
    refine zz_cv (n := 3) rfl rfl (t_Mo_copies (s := 123) (t := 122) (by decide) (by decide) (by decide)) (Nat.le_of_ble_eq_true rfl) (Nat.le_of_ble_eq_true rfl) (Nat.le_of_ble_eq_true rfl) (fun r33 σ33 q33 => ?_)
    obtain ⟨rfl, u33, v33, w33⟩ := q33
    obtain ⟨P33, -⟩ := p28.copy u33 v33 w33
    have F33 : Fx m n0 σ0 σ33 := (hF.tr (g28.x hI.2.1 (by decide))).tr (cp_x v33 w33 (by decide))
    refine zz_gsn 2 rfl ?_
    refine zz_br rfl (fun h36 => ?_) (fun h36 => ?_)
    · refine zz_gsn 1 rfl ?_
      refine zz_jp rfl ?_
      rw [zw_s (by omega)]
      have hb : w_begun law C (-1) 0 0 (r_dd law C 0 i W0) = 0 := b1_28.symm.trans ((congrFun (congrFun v33 1208) m).symm.trans h36)
      exact ih (i + 1) σ33 (by omega) ((hn (fun y => y hb)).symm.trans hr) hI2 P33 F33
    · refine zz_gsn 3 rfl ?_
      refine zz_jp rfl ?_
      have hb : w_begun law C (-1) 0 0 (r_dd law C 0 i W0) ≠ 0 := fun y => h36 ((congrFun (congrFun v33 1208) m).trans (b1_28.trans y))
      have z := hy hb
      rw [← hr, z] at kk
      refine zz_gsn 2 rfl ?_
      refine zz_br rfl (fun h19 => ?_) (fun h19 => ?_)
      · exact kk _ _ F33
      · refine zz_gsn 2 rfl ?_
        refine zz_br rfl (fun h22 => ?_) (fun h22 => absurd (by first | exact h22 | exact Decidable.not_not.mp h22) hi1)
        exact kk _ _ F33
theorem t_Mo_until {X : zz_X} {σ : zz_M} {m : Nat} {G : zz_J} {v : Int} (hG : RG σ m G) (ok : g_ok G) : zz_T X 6 p_Mo_until [zP 12 0 0 m, zI v] σ (fun r σ' => r = some (zI (a_until G v)) ∧ RG σ' m G ∧ zz_F (A_rf m) σ σ') := by
  refine zz_mk k_Mo_until o_Mo_until rfl rfl (Nat.le_of_ble_eq_true rfl) ?_
  show zz_G X 6 p_Mo_until 0 [zP 12 0 0 m, zI v, zU, zU, zU] [] σ _
  obtain ⟨hI, hT, hO, hF, hM, h10⟩ := id hG
  obtain ⟨⟨ho, hfx⟩, okt, oko, okm⟩ := id ok
  have hk6 := ho.1.2.2.1
  rcases Classical.em (vz G.I.ho G.I.k v) with hv | hv
  · obtain ⟨w, rfl⟩ : ∃ w : Nat, v = (w : Nat) := ⟨v.toNat, by omega⟩
    obtain ⟨z0, w1, w2⟩ := id hv
    obtain ⟨hone, ⟨q1, q2, q3, q4⟩, hV⟩ := ri_y hI z0
    obtain ⟨⟨r1, r2, r3⟩, r4, r5, r6, r7⟩ := id hV
    have hw1 : w ≤ G.I.k := by omega
    obtain ⟨hS, hq1, hq2⟩ := r4 w hw1
    have hCC := (i_ho ho z0).2
    have hbz : r_bd G.I.law w (IH G.I).n 0 (hw (IH G.I) w) := r_bd.z ho.1 hw1
    refine zz_gsn 2 rfl ?_
    refine zz_cv (n := 2) rfl rfl (t_Mo_isVersion) (Nat.le_of_ble_eq_true rfl) (Nat.le_of_ble_eq_true rfl) (Nat.le_of_ble_eq_true rfl) (fun r2 σ2 q2 => ?_)
    obtain ⟨rfl, n2, rfl, e2⟩ := q2
    replace e2 := rv_of hI ho e2
    replace e2 : n2 = 1 := e2.elim (fun z => z.1) (fun z => absurd hv z.2)
    refine zz_br rfl (fun h3 => ?_) (fun h3 => absurd (by first | exact h3 | exact Decidable.not_not.mp h3) (show n2 ≠ 0 by omega))
    refine zz_gsn 8 rfl ?_
    refine zz_cv (n := 3) rfl rfl (t_Mo_copies (s := w) (t := 122) (by omega) (by decide) (by omega)) (Nat.le_of_ble_eq_true rfl) (Nat.le_of_ble_eq_true rfl) (Nat.le_of_ble_eq_true rfl) (fun r14 σ14 q14 => ?_)
    obtain ⟨rfl, u14, v14, w14⟩ := q14
    obtain ⟨P14, -⟩ := hS.copy u14 v14 w14
    have F14 : Fx m (IH G.I).n σ σ14 := cp_x v14 w14 (by decide)
    refine zz_gsn 2 rfl ?_
    refine lp_run (n0 := (IH G.I).n) (B0 := w) (law := G.I.law) (C := G.I.C) (W0 := hw (IH G.I) w) (σ0 := σ) ⟨hCC.1, hCC.2.1⟩ (by omega) r1 r2 (fun σ' y F => ?_) 40 0 σ14 rfl rfl hbz P14 F14
    obtain ⟨R, Z⟩ := F.cl
    refine zz_gsn 4 rfl ?_
    refine zz_ri rfl (Or.inl rfl) ?_
    exact ⟨congrArg (fun z => some (zI z)) (if_pos hv).symm, Fr.RG hG ok R, Z⟩
  · refine zz_gsn 2 rfl ?_
    refine zz_cv (n := 2) rfl rfl (t_Mo_isVersion) (Nat.le_of_ble_eq_true rfl) (Nat.le_of_ble_eq_true rfl) (Nat.le_of_ble_eq_true rfl) (fun r2 σ2 q2 => ?_)
    obtain ⟨rfl, n2, rfl, e2⟩ := q2
    replace e2 := rv_of hI ho e2
    replace e2 : n2 = 0 := e2.elim (fun z => absurd z.2 hv) (fun z => z.1)
    refine zz_br rfl (fun h3 => absurd e2 h3) (fun h3 => ?_)
    refine zz_gsn 1 rfl ?_
    refine zz_ri rfl (Or.inl rfl) ?_
    exact ⟨congrArg (fun z => some (zI z)) (if_neg hv).symm, hG, zz_F.rf⟩
