/-! the class: house -/
def zr_I0 : zz_I := (0, 0, 0, 0, 0, zr_D0)
theorem zr_I0_ok : i_ok zr_I0 ∧ i_fx zr_I0 := ⟨⟨⟨⟨by decide, by decide⟩, fun z => absurd z (Nat.lt_irrefl 0), Nat.zero_le _, fun j hj => absurd hj (Nat.not_lt_zero j)⟩, Or.inl ⟨rfl, rfl, rfl, rfl, rfl⟩⟩, fun j hj => absurd hj (Nat.not_lt_zero j)⟩
theorem t_History_become0 {X : zz_X} {σ : zz_M} {h c : Nat} {I : zz_I} (hH : CH σ h I) (hI : DF σ c 0 0 0 0 0 zr_D0) (hc : c + 3 < h ∨ h + 571 ≤ c) : zz_T X 8 p_History_become [zP 3 0 0 h, zP 2 0 0 c] σ (fun r σ' => r = none ∧ CH σ' h zr_I0 ∧ zz_F (A_hc h) σ σ' ∧ σ'.1 105 (h + 6) = σ.1 105 (h + 6)) := by
  refine zz_mk k_History_become o_History_become rfl rfl (Nat.le_of_ble_eq_true rfl) ?_
  show zz_G X 8 p_History_become 0 [zP 3 0 0 h, zP 2 0 0 c, zU] [] σ _
  refine zz_gsn 3 rfl ?_
  refine zz_cv (n := 2) rfl rfl (t_Deeds_become (a := h + 1) (b := c) (by omega) hI (Or.inl rfl)) (Nat.le_of_ble_eq_true rfl) (Nat.le_of_ble_eq_true rfl) (Nat.le_of_ble_eq_true rfl) (fun r3 σ3 q3 => ?_)
  obtain ⟨rfl, p3, g3⟩ := q3
  refine zz_gsn 12 rfl ?_
  refine zz_cv (n := 3) rfl rfl (t_Mill_obey) (Nat.le_of_ble_eq_true rfl) (Nat.le_of_ble_eq_true rfl) (Nat.le_of_ble_eq_true rfl) (fun r16 σ16 q16 => ?_)
  obtain ⟨rfl, h16⟩ := q16
  have dl := p3.2.1
  have dC := p3.2.2.1
  have F16 : zz_F (fun a => a = h + 5 ∨ a = h + 6) σ3 σ16 := by
    rw [h16]
    exact ((zz_F.sf (Or.inr rfl)).tr (zz_F.sf (Or.inl rfl))).tr (zz_F.sf (Or.inl rfl))
  have F1 : zz_F (fun a => h + 1 ≤ a ∧ a ≤ h + 6) σ σ16 := (g3.mono (fun a z => by have z2 : h + 1 ≤ a ∧ a ≤ h + 1 + 3 := z; omega)).tr (F16.mono (fun a z => by omega))
  have e5 : σ16.1 105 (h + 6) = σ.1 105 (h + 6) := by
    rw [h16, sf_f _ _ (by decide), sf_f _ _ (by decide), sf_f _ _ (by decide)]
    exact (g3 (h + 6) (fun z => by have z2 : h + 1 ≤ h + 6 ∧ h + 6 ≤ h + 1 + 3 := z; omega)).1 105
  have V0 : CV σ16 h 0 0 0 (hh 0 0 zr_D0 0) := by
    refine hH.2.zero (hh_v0 _ _ _ _) ?_ ?_ ?_ F1
    · rw [h16, sf_f _ _ (by decide), sf_h]
      exact (sf_a _ _ (by omega)).trans dl
    · rw [h16, sf_h]
      exact (sf_a _ _ (by omega)).trans dC
    · rw [h16, sf_f _ _ (by decide), sf_f _ _ (by decide), sf_h]
  have D0 : DF σ16 (h + 1) 0 0 0 0 0 zr_D0 := p3.f F16 (fun a y1 y2 z => by omega)
  have dR := D0.2.2.2.2
  refine zz_gsn 4 rfl ?_
  refine zz_br rfl (fun h21 => absurd h21 (by decide)) (fun h21 => ?_)
  refine zz_gsn 3 rfl ?_
  refine zz_cv (n := 2) rfl rfl (t_Deeds_hasDeed) (Nat.le_of_ble_eq_true rfl) (Nat.le_of_ble_eq_true rfl) (Nat.le_of_ble_eq_true rfl) (fun r25 σ25 q25 => ?_)
  obtain ⟨rfl, n25, rfl, e25⟩ := q25
  have e25 := vd_of dR e25
  have e25 : n25 = 0 := e25.elim (fun z => absurd z.2.2 (by decide)) (fun z => z.1)
  refine zz_br rfl (fun h26 => ?_) (fun h26 => absurd e25 h26)
  refine zz_rv rfl rfl ?_
  exact ⟨rfl, ⟨D0, V0⟩, F1.mono (fun a z => by unfold A_hc A_hi; omega), e5⟩
theorem CG.rd {σ σ' : zz_M} {b : Nat} {B f p : Int} {G : zz_J} (h : CG σ b B G) (hF : zz_F (fun a => (b + 5 ≤ a ∧ a ≤ b + 10) ∨ a = b + 1) σ σ') (h0 : σ'.1 0 (b + 1) = 0) (e1 : σ'.1 601 (b + 5) = f) (e2 : σ'.1 602 (b + 5) = p) : CG σ' b B (G.I, [], G.o, f, p, G.m) := by
  obtain ⟨h1, h2, h3, h4, h5', h6, h7⟩ := h
  refine ⟨h1.f hF (fun a z y => by omega), ⟨h0, fun i hi => absurd hi (Nat.not_lt_zero i)⟩, h3.f hF (fun z => by omega) (fun z => by omega), ⟨e1, e2⟩, fun i hi => (h5' i hi).f hF (fun c y1 y2 z => by omega), ?_, h7.f hF (fun a y1 y2 z => by omega) (fun z => absurd z (Nat.lt_irrefl 0))⟩
  rw [(hF (b + 17) (fun z => by omega)).1]
  exact ⟨fun i hi => by rw [(hF (b + 21) (fun z => by omega)).2]; exact h6.1 i hi, h6.2⟩
theorem zr_ok_h {G : zz_J} {f p : Int} {I : zz_I} (ok : g_ok G) (hI : i_ok I ∧ i_fx I) : g_ok (I, [], G.o, f, p, G.m) := ⟨hI, ⟨Nat.zero_le _, fun x hx => absurd hx List.not_mem_nil⟩, ok.2.2⟩
theorem t_TQ_house {X : zz_X} {σ : zz_M} {b : Nat} {B : Int} {G : zz_J} (hG : CG σ b B G) (ok : g_ok G) : zz_T X 9 p_TQ_house [zP 11 0 0 b] σ (fun r σ' => r = some (zI (a_house G).1) ∧ CG σ' b B (a_house G).2 ∧ zz_F (A_cl b) σ σ') := by
  refine zz_mk k_TQ_house o_TQ_house rfl rfl (Nat.le_of_ble_eq_true rfl) ?_
  show zz_G X 9 p_TQ_house 0 [zP 11 0 0 b, zU] [] σ _
  obtain ⟨hH, hBt, hBo, hft, him, hmk, htr⟩ := id hG
  obtain ⟨⟨ho, hfx⟩, okt, oko, okm⟩ := id ok
  obtain ⟨hD, hV⟩ := id hH
  obtain ⟨d1, d2, d3, d4, dR⟩ := id hD
  obtain ⟨d5, d6, d7⟩ := id dR
  refine zz_gsn 4 rfl ?_
  refine zz_cv (n := 2) rfl rfl (t_Reader_readText (c := b + 5) (a := b + 1) (p := 600) (T := G.t) okt.1 okt.1 (Or.inl (by omega)) hBt) (Nat.le_of_ble_eq_true rfl) (Nat.le_of_ble_eq_true rfl) (Nat.le_of_ble_eq_true rfl) (fun r4 σ4 q4 => ?_)
  obtain ⟨n4, rfl, B4, g4, x4⟩ := q4
  rcases x4 with ⟨y1, rfl, ⟨x1, x2⟩, x3⟩ | ⟨y1, y2, rfl, x1, x2⟩ | ⟨y1, y2, rfl, ⟨x1, x2⟩, x3⟩
  · refine zz_gsn 5 rfl ?_
    obtain ⟨σ9, h9⟩ : ∃ s, s = zz_sf σ4 0 (b + 1) 0 := ⟨_, rfl⟩
    refine zz_sge (σ' := σ9) h9 ?_
    have F49 : zz_F (fun a => a = b + 1) σ4 σ9 := by rw [h9]; exact zz_F.sf rfl
    have F9 : zz_F (fun a => (b + 5 ≤ a ∧ a ≤ b + 10) ∨ a = b + 1) σ σ9 := (g4.mono (fun a z => by unfold A_rd at z; omega)).tr (F49.mono (fun a z => Or.inr z))
    have z9 : σ9.1 0 (b + 1) = 0 := by rw [h9, sf_h]
    have C9 := hG.rd (f := 0) (p := -1) F9 z9 (((F49 (b + 5) (by omega)).1 601).trans x1) (((F49 (b + 5) (by omega)).1 602).trans x2)
    have L9 : zz_F (A_cl b) σ σ9 := F9.mono (fun a z => by unfold A_cl; omega)
    have D9 : DF σ9 (b + 6) 0 0 0 0 0 zr_D0 := x3.f F49 (fun a y1 y2 z => by omega)
    refine zz_gsn 1 rfl ?_
    refine zz_br rfl (fun h11 => ?_) (fun h11 => absurd (by first | exact h11 | exact Decidable.not_not.mp h11) (by decide))
    refine zz_gsn 5 rfl ?_
    refine zz_cv (n := 2) rfl rfl (t_History_become0 (h := b + 11) (c := b + 6) C9.1 D9 (Or.inl (by omega))) (Nat.le_of_ble_eq_true rfl) (Nat.le_of_ble_eq_true rfl) (Nat.le_of_ble_eq_true rfl) (fun r19 σ19 q19 => ?_)
    obtain ⟨rfl, p19, g19, k19⟩ := q19
    have u19 := p19.1.1
    refine zz_gsn 3 rfl ?_
    refine zz_cv (n := 1) rfl rfl (t_Deeds_lines) (Nat.le_of_ble_eq_true rfl) (Nat.le_of_ble_eq_true rfl) (Nat.le_of_ble_eq_true rfl) (fun r23 σ23 q23 => ?_)
    obtain ⟨rfl, n23, rfl, e23⟩ := q23
    refine zz_ri rfl (Or.inl rfl) ?_
    have e : a_house G = (0, (zr_I0, [], G.o, 0, -1, G.m)) := if_pos y1
    rw [e]
    have en : n23 = 0 := e23.elim (fun z => absurd u19 z.1) (fun z => z.2)
    exact ⟨congrArg (fun z => some (zI z)) en, C9.h p19 g19 k19, L9.tr (clH g19)⟩
  · refine zz_gsn 5 rfl ?_
    obtain ⟨σ9, h9⟩ : ∃ s, s = zz_sf σ4 0 (b + 1) 0 := ⟨_, rfl⟩
    refine zz_sge (σ' := σ9) h9 ?_
    have F49 : zz_F (fun a => a = b + 1) σ4 σ9 := by rw [h9]; exact zz_F.sf rfl
    have F9 : zz_F (fun a => (b + 5 ≤ a ∧ a ≤ b + 10) ∨ a = b + 1) σ σ9 := (g4.mono (fun a z => by unfold A_rd at z; omega)).tr (F49.mono (fun a z => Or.inr z))
    have z9 : σ9.1 0 (b + 1) = 0 := by rw [h9, sf_h]
    have C9 := hG.rd (f := (zr_end G.t).k.f) (p := (zr_end G.t).k.p) F9 z9 (((F49 (b + 5) (by omega)).1 601).trans x1) (((F49 (b + 5) (by omega)).1 602).trans x2)
    have L9 : zz_F (A_cl b) σ σ9 := F9.mono (fun a z => by unfold A_cl; omega)
    refine zz_gsn 1 rfl ?_
    refine zz_br rfl (fun h11 => absurd rfl h11) (fun h11 => ?_)
    refine zz_gsn 1 rfl ?_
    refine zz_ri rfl (Or.inl rfl) ?_
    have e : a_house G = (-4, (G.I, [], G.o, (zr_end G.t).k.f, (zr_end G.t).k.p, G.m)) := (if_neg y1).trans (if_pos y2)
    rw [e]
    exact ⟨rfl, C9, L9⟩
  · refine zz_gsn 5 rfl ?_
    obtain ⟨σ9, h9⟩ : ∃ s, s = zz_sf σ4 0 (b + 1) 0 := ⟨_, rfl⟩
    refine zz_sge (σ' := σ9) h9 ?_
    have F49 : zz_F (fun a => a = b + 1) σ4 σ9 := by rw [h9]; exact zz_F.sf rfl
    have F9 : zz_F (fun a => (b + 5 ≤ a ∧ a ≤ b + 10) ∨ a = b + 1) σ σ9 := (g4.mono (fun a z => by unfold A_rd at z; omega)).tr (F49.mono (fun a z => Or.inr z))
    have z9 : σ9.1 0 (b + 1) = 0 := by rw [h9, sf_h]
    have C9 := hG.rd (f := (zr_end G.t).k.f) (p := (zr_end G.t).k.p) F9 z9 (((F49 (b + 5) (by omega)).1 601).trans x1) (((F49 (b + 5) (by omega)).1 602).trans x2)
    have L9 : zz_F (A_cl b) σ σ9 := F9.mono (fun a z => by unfold A_cl; omega)
    have D9 : DF σ9 (b + 6) (zr_I G.t).ho (zr_I G.t).law (zr_I G.t).C ((zr_I G.t).told : Nat) (zr_I G.t).k (zr_I G.t).D := x3.f F49 (fun a y1 y2 z => by omega)
    have iok := zr_end_ok y2
    have hc60 : (zr_end G.t).c < 2147483647 := Nat.lt_of_le_of_lt iok.1.2.2.1 (by decide)
    refine zz_gsn 1 rfl ?_
    refine zz_br rfl (fun h11 => ?_) (fun h11 => absurd (by first | exact h11 | exact Decidable.not_not.mp h11) (by decide))
    refine zz_gsn 5 rfl ?_
    refine zz_cv (n := 2) rfl rfl (t_History_become (h := b + 11) (c := b + 6) (I' := zr_I G.t) C9.1 D9 iok rfl (Or.inl (by omega))) (Nat.le_of_ble_eq_true rfl) (Nat.le_of_ble_eq_true rfl) (Nat.le_of_ble_eq_true rfl) (fun r19 σ19 q19 => ?_)
    obtain ⟨rfl, p19, g19, k19⟩ := q19
    have u19 := p19.1.1
    have t19 := p19.1.2.2.2.1
    refine zz_gsn 3 rfl ?_
    refine zz_cv (n := 1) rfl rfl (t_Deeds_lines) (Nat.le_of_ble_eq_true rfl) (Nat.le_of_ble_eq_true rfl) (Nat.le_of_ble_eq_true rfl) (fun r23 σ23 q23 => ?_)
    obtain ⟨rfl, n23, rfl, e23⟩ := q23
    refine zz_ri rfl (Or.inl rfl) ?_
    have e : a_house G = (((((zr_end G.t).c + 1 : Nat)) : Int), (i_fix (zr_I G.t), [], G.o, (zr_end G.t).k.f, (zr_end G.t).k.p, G.m)) := (if_neg y1).trans (if_neg (fun z => z y2))
    rw [e]
    have en : n23 = (((zr_end G.t).c + 1 : Nat) : Int) := e23.elim (fun z => by
      rw [z.2, show σ19.1 203 (b + 11 + 1) = (((zr_end G.t).c : Nat) : Int) from t19]
      exact zw_s hc60) (fun z => absurd (u19.symm.trans z.1) (by show ¬ (1 : Int) = 0; decide))
    exact ⟨congrArg (fun z => some (zI z)) en, C9.h p19 g19 k19, L9.tr (clH g19)⟩
