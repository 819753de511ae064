/-! the class: deeds done again -/
/-- VERSION 0 is empty, whatever was done -/
theorem CV.zero {σ σ' : zz_M} {h j : Nat} {law C law' C' : Int} {H : zz_H} (hV : CV σ h law C j H) (hz : H.V 0 = h0.V 0 ∧ H.Q 0 = h0.Q 0) (e4 : σ'.1 404 (h + 5) = law') (e5 : σ'.1 405 (h + 5) = C') (e1 : σ'.1 100 (h + 6) = 0) (hF : zz_F (fun a => h + 1 ≤ a ∧ a ≤ h + 6) σ σ') : CV σ' h law' C' 0 h0 := by
  obtain ⟨-, -, c3, -⟩ := hV
  obtain ⟨⟨s1, s2, s3, s4, s5⟩, q1, q2⟩ := c3 0 (Nat.zero_le _)
  have eR : (hw H 0).R = (hw h0 0).R := by show (H.V 0).1 = _; rw [hz.1]; rfl
  have eS : (hw H 0).S = (hw h0 0).S := by show (H.V 0).2 = _; rw [hz.1]; rfl
  refine ⟨e4, e5, fun v hv => ?_, fun i hi => absurd hi (Nat.not_lt_zero i)⟩
  have ev : v = 0 := by omega
  subst ev
  rw [eR] at s1
  rw [eS] at s2 s3
  refine ⟨⟨fun k hk => ?_, fun i a1 a2 => ?_, ?_, fun _ => ⟨e1, Nat.zero_le _, fun c hc => absurd hc (Nat.not_lt_zero c)⟩, fun k hk c hc => absurd hc List.not_mem_nil⟩, ?_, fun i hi => absurd hi (Nat.not_lt_zero i)⟩
  · obtain ⟨f1, f2⟩ := hF (h + 22 + 9 * 0 + 1 + k) (by omega)
    rw [f1, f1]
    obtain ⟨z1, z2⟩ := s1 k hk
    have el : w_len k (hw H 0) = w_len k (hw h0 0) := by show (((hw H 0).R k).length : Int) = _; rw [eR]
    refine ⟨z1.trans el, fun hp => ?_⟩
    have z3 : σ.1 700 (h + 22 + 9 * 0 + 1 + k) = -1 := z2 hp
    exact z3
  · rw [(hF (h + 22 + 9 * 0) (by omega)).1]
    exact s2 i a1 a2
  · rw [(hF (h + 22 + 9 * 0) (by omega)).1]
    exact s3
  · rw [(hF (h + 29 + 9 * 0) (by omega)).1, q1, hz.2]
def d_to (law C : Int) (D : zz_D) (j : Nat) : zz_D := fun i => if i < j then ((D i).1, (D i).2.1, h_x (D i) (hh law C D i)) else D i
theorem d_to_j (law C : Int) (D : zz_D) (j : Nat) : d_to law C D j j = D j := if_neg (Nat.lt_irrefl j)
theorem d_to_s (law C : Int) (D : zz_D) (j : Nat) : zu (d_to law C D j) j ((D j).1, (D j).2.1, h_x (D j) (hh law C D j)) = d_to law C D (j + 1) := funext (fun i => by
  unfold d_to
  by_cases e : i = j
  · subst e
    rw [zu_s, if_pos (Nat.lt_succ_self i)]
  · rw [zu_n _ _ e]
    by_cases e2 : i < j
    · rw [if_pos e2, if_pos (Nat.lt_succ_of_lt e2)]
    · rw [if_neg e2, if_neg (fun z => by omega)])
theorem DF.cg {σ : zz_M} {a k : Nat} {ho law C told : Int} {D D' : zz_D} (h : DF σ a ho law C told k D) (hD : ∀ j, j < k → D j = D' j) : DF σ a ho law C told k D' := by
  obtain ⟨d1, d2, d3, d4, d5, d6, d7⟩ := h
  exact ⟨d1, d2, d3, d4, d5, d6, fun j hj => by rw [← hD j hj]; exact d7 j hj⟩
theorem lp_hbec {X : zz_X} {h c : Nat} {I : zz_I} {σ0 : zz_M} {Post : Option zz_V → zz_M → Prop} (ho : i_ok I) (h1 : I.ho = 1) (kk : ∀ σ', CH σ' h (i_fix I) → zz_F (A_hc h) σ0 σ' → σ'.1 105 (h + 6) = σ0.1 105 (h + 6) → Post none σ') :
    ∀ (r j : Nat) (σ : zz_M), j + r = I.k → DF σ (h + 1) I.ho I.law I.C (I.told : Nat) I.k (d_to I.law I.C I.D j) → CV σ h I.law I.C j (hh I.law I.C I.D j) → zz_F (A_hc h) σ0 σ → σ.1 105 (h + 6) = σ0.1 105 (h + 6) → zz_G X 8 p_History_become 19 [zP 3 0 0 h, zP 2 0 0 c, zI (j : Nat)] [] σ Post := by
  have hk6 := ho.1.2.2.1
  have hC := (i_ho ho (by omega)).2
  intro r
  induction r with
  | zero =>
    intro j σ hj hD hV hF h5
    have e : j = I.k := by omega
    subst e
    have D2 := hD.cg (D' := (i_fix I).D) (fun i hi => if_pos hi)
    have V2 : CV σ h I.law I.C I.k (IH (i_fix I)) := by rw [IH_fix]; exact hV
    refine zz_gsn 2 rfl ?_
    refine zz_br rfl (fun h21 => ?_) (fun h21 => ?_)
    · refine zz_rv rfl rfl ?_
      exact kk σ ⟨D2, V2⟩ hF h5
    · refine zz_gsn 3 rfl ?_
      refine zz_cv (n := 2) rfl rfl (t_Deeds_hasDeed) (Nat.le_of_ble_eq_true rfl) (Nat.le_of_ble_eq_true rfl) (Nat.le_of_ble_eq_true rfl) (fun r25 σ25 q25 => ?_)
      obtain ⟨rfl, n25, rfl, e25⟩ := q25
      have e25 := vd_of hD.2.2.2.2 e25
      have e25 : n25 = 0 := e25.elim (fun z => absurd z.2.2 (by omega)) (fun z => z.1)
      refine zz_br rfl (fun h26 => ?_) (fun h26 => absurd e25 h26)
      refine zz_rv rfl rfl ?_
      exact kk σ ⟨D2, V2⟩ hF h5
  | succ r ih =>
    intro j σ hj hD hV hF h5
    have hst := ho.1.2.2.2 j (by omega)
    have hin := h_inv (ho.1.le (show j ≤ I.k by omega))
    refine zz_gsn 2 rfl ?_
    refine zz_br rfl (fun h21 => absurd h21 (by omega)) (fun h21 => ?_)
    refine zz_gsn 3 rfl ?_
    refine zz_cv (n := 2) rfl rfl (t_Deeds_hasDeed) (Nat.le_of_ble_eq_true rfl) (Nat.le_of_ble_eq_true rfl) (Nat.le_of_ble_eq_true rfl) (fun r25 σ25 q25 => ?_)
    obtain ⟨rfl, n25, rfl, e25⟩ := q25
    have e25 := vd_of hD.2.2.2.2 e25
    have e25 : n25 = 1 := e25.elim (fun z => z.1) (fun z => absurd ⟨by omega, by omega⟩ z.2)
    refine zz_br rfl (fun h26 => absurd h26 (by omega)) (fun h26 => ?_)
    refine zz_gsn 2 rfl ?_
    refine zz_cv (n := 2) rfl rfl (t_History_enact (σ := σ) (D := d_to I.law I.C I.D j) (H := hh I.law I.C I.D j) hD (by omega) (by omega) hV hin ⟨hC.1, hC.2.1⟩ (by rw [d_to_j]; exact hst)) (Nat.le_of_ble_eq_true rfl) (Nat.le_of_ble_eq_true rfl) (Nat.le_of_ble_eq_true rfl) (fun r29 σ29 q29 => ?_)
    obtain ⟨rfl, p29, f29, g29, k29⟩ := q29
    rw [d_to_j] at p29 f29
    rw [d_to_s] at f29
    refine zz_gsn 1 rfl ?_
    refine zz_jp rfl ?_
    rw [zw_s (by omega)]
    exact ih (j + 1) _ (by omega) f29 p29 (hF.tr (g29.mono (fun a z => Or.inl z))) (k29.trans h5)
theorem t_History_become {X : zz_X} {σ : zz_M} {h c : Nat} {I I' : zz_I} (hH : CH σ h I) (hI : DF σ c I'.ho I'.law I'.C (I'.told : Nat) I'.k I'.D) (ho : i_ok I') (h1 : I'.ho = 1) (hc : c + 3 < h ∨ h + 571 ≤ c) : zz_T X 8 p_History_become [zP 3 0 0 h, zP 2 0 0 c] σ (fun r σ' => r = none ∧ CH σ' h (i_fix I') ∧ zz_F (A_hc h) σ σ' ∧ σ'.1 105 (h + 6) = σ.1 105 (h + 6)) := by
  refine zz_mk k_History_become o_History_become rfl rfl (Nat.le_of_ble_eq_true rfl) ?_
  show zz_G X 8 p_History_become 0 [zP 3 0 0 h, zP 2 0 0 c, zU] [] σ _
  refine zz_gsn 3 rfl ?_
  refine zz_cv (n := 2) rfl rfl (t_Deeds_become (a := h + 1) (b := c) (by omega) hI (Or.inr h1)) (Nat.le_of_ble_eq_true rfl) (Nat.le_of_ble_eq_true rfl) (Nat.le_of_ble_eq_true rfl) (fun r3 σ3 q3 => ?_)
  obtain ⟨rfl, p3, g3⟩ := q3
  refine zz_gsn 12 rfl ?_
  refine zz_cv (n := 3) rfl rfl (t_Mill_obey) (Nat.le_of_ble_eq_true rfl) (Nat.le_of_ble_eq_true rfl) (Nat.le_of_ble_eq_true rfl) (fun r16 σ16 q16 => ?_)
  obtain ⟨rfl, h16⟩ := q16
  refine zz_gsn 2 rfl ?_
  have dl := p3.2.1
  have dC := p3.2.2.1
  have F16 : zz_F (fun a => a = h + 5 ∨ a = h + 6) σ3 σ16 := by
    rw [h16]
    exact ((zz_F.sf (Or.inr rfl)).tr (zz_F.sf (Or.inl rfl))).tr (zz_F.sf (Or.inl rfl))
  have F1 : zz_F (fun a => h + 1 ≤ a ∧ a ≤ h + 6) σ σ16 := (g3.mono (fun a z => by have z2 : h + 1 ≤ a ∧ a ≤ h + 1 + 3 := z; omega)).tr (F16.mono (fun a z => by omega))
  have e5 : σ16.1 105 (h + 6) = σ.1 105 (h + 6) := by
    rw [h16, sf_f _ _ (by decide), sf_f _ _ (by decide), sf_f _ _ (by decide)]
    exact (g3 (h + 6) (fun z => by have z2 : h + 1 ≤ h + 6 ∧ h + 6 ≤ h + 1 + 3 := z; omega)).1 105
  have V0 : CV σ16 h I'.law I'.C 0 (hh I'.law I'.C I'.D 0) := by
    refine hH.2.zero (hh_v0 _ _ _ _) ?_ ?_ ?_ F1
    · rw [h16, sf_f _ _ (by decide), sf_h]
      exact (sf_a _ _ (by omega)).trans dl
    · rw [h16, sf_h]
      exact (sf_a _ _ (by omega)).trans dC
    · rw [h16, sf_f _ _ (by decide), sf_f _ _ (by decide), sf_h]
  have D0 : DF σ16 (h + 1) I'.ho I'.law I'.C (I'.told : Nat) I'.k (d_to I'.law I'.C I'.D 0) := (p3.f F16 (fun a y1 y2 z => by omega)).cg (fun i _ => (if_neg (Nat.not_lt_zero i)).symm)
  exact lp_hbec ho h1 (fun σ' a b c => ⟨rfl, a, b, c⟩) I'.k 0 σ16 (Nat.zero_add _) D0 V0 (F1.mono (fun a z => by unfold A_hc A_hi; omega)) e5
