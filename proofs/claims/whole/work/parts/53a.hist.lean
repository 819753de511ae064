/-! the class: a deed put -/
theorem zu_zu {α : Type} (f : Nat → α) (k : Nat) (a b : α) : zu (zu f k a) k b = zu f k b := funext (fun i => by
  by_cases e : i = k
  · subst e
    rw [zu_s, zu_s]
  · rw [zu_n _ _ e, zu_n _ _ e, zu_n _ _ e])
/-- a put, a fore; a take, a last -/
def ap (I : zz_I) (kind v x : Int) : Int × zz_I := if vz I.ho I.k v ∧ 0 ≤ x ∧ x ≤ 99 then (if I.k = 60 then (-5, I) else (((I.k + 1 : Nat) : Int), i_act I kind v.toNat x)) else (-2, I)
def aq (I : zz_I) (kind v : Int) : Int × zz_I := if vz I.ho I.k v then (if ((IH I).Q v.toNat).1 = 0 ∨ I.k = 60 then (-5, I) else (zq_num kind 0 ((IH I).Q v.toNat), i_act I kind v.toNat 0)) else (-2, I)
theorem ap_n {I : zz_I} {kind v x : Int} (h : ¬ (vz I.ho I.k v ∧ 0 ≤ x ∧ x ≤ 99)) : ap I kind v x = (-2, I) := if_neg h
theorem ap_f {I : zz_I} {kind v x : Int} (h : vz I.ho I.k v ∧ 0 ≤ x ∧ x ≤ 99) (hk : I.k = 60) : ap I kind v x = (-5, I) := (if_pos h).trans (if_pos hk)
theorem ap_y {I : zz_I} {kind v x : Int} (h : vz I.ho I.k v ∧ 0 ≤ x ∧ x ≤ 99) (hk : I.k ≠ 60) : ap I kind v x = (((I.k + 1 : Nat) : Int), i_act I kind v.toNat x) := (if_pos h).trans (if_neg hk)
theorem aq_n {I : zz_I} {kind v : Int} (h : ¬ vz I.ho I.k v) : aq I kind v = (-2, I) := if_neg h
theorem aq_f {I : zz_I} {kind v : Int} (h : vz I.ho I.k v) (hk : ((IH I).Q v.toNat).1 = 0 ∨ I.k = 60) : aq I kind v = (-5, I) := (if_pos h).trans (if_pos hk)
theorem aq_y {I : zz_I} {kind v : Int} (h : vz I.ho I.k v) (hk : ¬ (((IH I).Q v.toNat).1 = 0 ∨ I.k = 60)) : aq I kind v = (zq_num kind 0 ((IH I).Q v.toNat), i_act I kind v.toNat 0) := (if_pos h).trans (if_neg hk)
theorem i_ho {I : zz_I} (h : i_ok I) (h1 : I.ho ≠ 0) : I.ho = 1 ∧ 2 ≤ I.C ∧ I.C ≤ 4 ∧ I.told ≤ I.k ∧ I.told ≤ 40 := by
  rcases h.2 with z | z
  · exact absurd z.1 h1
  · exact z
theorem ap_st {I : zz_I} {kind x : Int} {w : Nat} (hw : w ≤ I.k) (hx : 0 ≤ x ∧ x ≤ 99) (hk : kind = 0 ∨ (kind = 2 ∧ I.law = 2)) : h_st I.law I.k (kind, w, x) (IH I) := ⟨hw, by show 0 ≤ kind ∧ kind ≤ 3; omega, fun z => by show kind ≤ 1; omega, fun z => by have z2 : kind = 1 ∨ kind = 3 := z; omega, fun _ => hx⟩
theorem aq_st {I : zz_I} {kind : Int} {w : Nat} (hw : w ≤ I.k) (hq : ((IH I).Q w).1 ≠ 0) (hk : kind = 1 ∨ (kind = 3 ∧ I.law = 2)) : h_st I.law I.k (kind, w, 0) (IH I) := ⟨hw, by show 0 ≤ kind ∧ kind ≤ 3; omega, fun z => by show kind ≤ 1; omega, fun _ => Nat.pos_of_ne_zero hq, fun z => by have z2 : kind = 0 ∨ kind = 2 := z; omega⟩
theorem ap_ok {I : zz_I} {kind v x : Int} (h : i_ok I) (hf : i_fx I) (hk : kind = 0 ∨ (kind = 2 ∧ I.law = 2)) : i_ok (ap I kind v x).2 ∧ i_fx (ap I kind v x).2 := by
  by_cases c : vz I.ho I.k v ∧ 0 ≤ x ∧ x ≤ 99
  · by_cases c2 : I.k = 60
    · rw [ap_f c c2]; exact ⟨h, hf⟩
    · rw [ap_y c c2]
      obtain ⟨⟨z1, z2, z3⟩, z4⟩ := c
      have := h.1.2.2.1
      exact i_act_ok h hf (i_ho h z1).1 (by omega) (ap_st (by omega) z4 hk)
  · rw [ap_n c]; exact ⟨h, hf⟩
theorem aq_ok {I : zz_I} {kind v : Int} (h : i_ok I) (hf : i_fx I) (hk : kind = 1 ∨ (kind = 3 ∧ I.law = 2)) : i_ok (aq I kind v).2 ∧ i_fx (aq I kind v).2 := by
  by_cases c : vz I.ho I.k v
  · by_cases c2 : ((IH I).Q v.toNat).1 = 0 ∨ I.k = 60
    · rw [aq_f c c2]; exact ⟨h, hf⟩
    · rw [aq_y c c2]
      obtain ⟨z1, z2, z3⟩ := c
      have := h.1.2.2.1
      exact i_act_ok h hf (i_ho h z1).1 (by omega) (aq_st (by omega) (fun z => c2 (Or.inl z)) hk)
  · rw [aq_n c]; exact ⟨h, hf⟩
theorem CH.rf {h : Nat} {σ : zz_M} : zz_F (A_hc h) σ σ ∧ σ.1 105 (h + 6) = σ.1 105 (h + 6) := ⟨zz_F.rf, rfl⟩
/-- behind Deeds.add and enact: one deed more -/
theorem CH.act {σ σ1 σ2 : zz_M} {h : Nat} {I : zz_I} {kind x : Int} {w : Nat} (hf2 : DF σ2 (h + 1) I.ho I.law I.C (I.told : Nat) (I.k + 1) (zu (zu I.D I.k (kind, w, x)) I.k ((zu I.D I.k (kind, w, x) I.k).1, (zu I.D I.k (kind, w, x) I.k).2.1, h_x (zu I.D I.k (kind, w, x) I.k) (IH I)))) (hV : CV σ2 h I.law I.C (I.k + 1) (h_one I.law I.C I.k (zu I.D I.k (kind, w, x) I.k) (IH I))) : CH σ2 h (i_act I kind w x) := by
  rw [zu_s, zu_zu] at hf2
  rw [zu_s] at hV
  refine ⟨hf2, ?_⟩
  rw [IH_act]
  exact hV
theorem zz_c3 (A B : Prop) : ¬ A ∨ (A ∧ B) ∨ (A ∧ ¬ B) := by
  by_cases a : A
  · by_cases b : B
    · exact Or.inr (Or.inl ⟨a, b⟩)
    · exact Or.inr (Or.inr ⟨a, b⟩)
  · exact Or.inl a
theorem zz_c4 (A B C : Prop) : ¬ A ∨ (A ∧ ¬ B) ∨ (A ∧ B ∧ C) ∨ (A ∧ B ∧ ¬ C) := by
  by_cases a : A
  · by_cases b : B
    · by_cases c : C
      · exact Or.inr (Or.inr (Or.inl ⟨a, b, c⟩))
      · exact Or.inr (Or.inr (Or.inr ⟨a, b, c⟩))
    · exact Or.inr (Or.inl ⟨a, b⟩)
  · exact Or.inl a
theorem t_History_actPutting {X : zz_X} {σ : zz_M} {h : Nat} {I : zz_I} {kind v x : Int} (hH : CH σ h I) (ho : i_ok I) (hkd : kind = 0 ∨ (kind = 2 ∧ I.law = 2)) : zz_T X 8 p_History_actPutting [zP 3 0 0 h, zI kind, zI v, zI x] σ (fun r σ' => r = some (zI (ap I kind v x).1) ∧ CH σ' h (ap I kind v x).2 ∧ zz_F (A_hc h) σ σ' ∧ σ'.1 105 (h + 6) = σ.1 105 (h + 6)) := by
  refine zz_mk k_History_actPutting o_History_actPutting rfl rfl (Nat.le_of_ble_eq_true rfl) ?_
  show zz_G X 8 p_History_actPutting 0 [zP 3 0 0 h, zI kind, zI v, zI x] [] σ _
  obtain ⟨hD, hV⟩ := id hH
  obtain ⟨d1, d2, d3, d4, dR⟩ := id hD
  obtain ⟨d5, d6, d7⟩ := id dR
  rcases zz_c4 (vz I.ho I.k v) (0 ≤ x ∧ x ≤ 99) (I.k = 60) with hv | ⟨hv, hx⟩ | ⟨hv, hx, hk⟩ | ⟨hv, hx, hk⟩
  · refine zz_gsn 3 rfl ?_
    refine zz_cv (n := 2) rfl rfl (t_Deeds_hasVersion) (Nat.le_of_ble_eq_true rfl) (Nat.le_of_ble_eq_true rfl) (Nat.le_of_ble_eq_true rfl) (fun r3 σ3 q3 => ?_)
    obtain ⟨rfl, n3, rfl, e3⟩ := q3
    have e3 := vz_of hD e3
    have e3 : n3 = 0 := e3.elim (fun z => absurd z.2 hv) (fun z => z.1)
    refine zz_br rfl (fun h4 => ?_) (fun h4 => absurd e3 h4)
    refine zz_gsn 1 rfl ?_
    refine zz_ri rfl (Or.inl rfl) ?_
    rw [ap_n (fun z => hv z.1)]
    exact ⟨rfl, hH, CH.rf⟩
  · refine zz_gsn 3 rfl ?_
    refine zz_cv (n := 2) rfl rfl (t_Deeds_hasVersion) (Nat.le_of_ble_eq_true rfl) (Nat.le_of_ble_eq_true rfl) (Nat.le_of_ble_eq_true rfl) (fun r3 σ3 q3 => ?_)
    obtain ⟨rfl, n3, rfl, e3⟩ := q3
    have e3 := vz_of hD e3
    have e3 : n3 = 1 := e3.elim (fun z => z.1) (fun z => absurd hv z.2)
    refine zz_br rfl (fun h4 => absurd h4 (by omega)) (fun h4 => ?_)
    refine zz_gsn 1 rfl ?_
    refine zz_br rfl (fun h6 => ?_) (fun h6 => ?_)
    · refine zz_gsn 1 rfl ?_
      refine zz_ri rfl (Or.inl rfl) ?_
      rw [ap_n (fun z => hx z.2)]
      exact ⟨rfl, hH, CH.rf⟩
    · refine zz_gsn 2 rfl ?_
      refine zz_br rfl (fun h9 => absurd ⟨by omega, by omega⟩ hx) (fun h9 => ?_)
      refine zz_gsn 1 rfl ?_
      refine zz_ri rfl (Or.inl rfl) ?_
      rw [ap_n (fun z => hx z.2)]
      exact ⟨rfl, hH, CH.rf⟩
  · refine zz_gsn 3 rfl ?_
    refine zz_cv (n := 2) rfl rfl (t_Deeds_hasVersion) (Nat.le_of_ble_eq_true rfl) (Nat.le_of_ble_eq_true rfl) (Nat.le_of_ble_eq_true rfl) (fun r3 σ3 q3 => ?_)
    obtain ⟨rfl, n3, rfl, e3⟩ := q3
    have e3 := vz_of hD e3
    have e3 : n3 = 1 := e3.elim (fun z => z.1) (fun z => absurd hv z.2)
    refine zz_br rfl (fun h4 => absurd h4 (by omega)) (fun h4 => ?_)
    refine zz_gsn 1 rfl ?_
    refine zz_br rfl (fun h6 => absurd h6 (by omega)) (fun h6 => ?_)
    refine zz_gsn 2 rfl ?_
    refine zz_br rfl (fun h9 => ?_) (fun h9 => absurd h9 (by omega))
    refine zz_gsn 2 rfl ?_
    refine zz_cv (n := 1) rfl rfl (t_Deeds_versions) (Nat.le_of_ble_eq_true rfl) (Nat.le_of_ble_eq_true rfl) (Nat.le_of_ble_eq_true rfl) (fun r14 σ14 q14 => ?_)
    obtain ⟨rfl, n14, rfl, e14⟩ := q14
    have e14 : n14 = (I.k : Int) + 1 := by
      rcases e14 with ⟨z1, z2⟩ | ⟨z1, z2⟩
      · rw [z2, d5]
        exact zw_id (by omega) (by omega)
      · exact absurd (d1.symm.trans z1) hv.1
    refine zz_gsn 1 rfl ?_
    refine zz_br rfl (fun h16 => absurd h16 (by omega)) (fun h16 => ?_)
    refine zz_gsn 1 rfl ?_
    refine zz_ri rfl (Or.inl rfl) ?_
    rw [ap_f ⟨hv, hx⟩ hk]
    exact ⟨rfl, hH, CH.rf⟩
  · obtain ⟨w, rfl⟩ : ∃ w : Nat, v = (w : Nat) := ⟨v.toNat, by omega⟩
    have hho := hv.1
    have hC := (i_ho ho hho).2
    have hC : 2 ≤ I.C ∧ I.C ≤ 4 := ⟨hC.1, hC.2.1⟩
    have hk : I.k < 60 := by omega
    have hin : h_in I.law I.k (IH I) := h_inv ho.1
    obtain ⟨-, w1, w2⟩ := id hv
    refine zz_gsn 3 rfl ?_
    refine zz_cv (n := 2) rfl rfl (t_Deeds_hasVersion) (Nat.le_of_ble_eq_true rfl) (Nat.le_of_ble_eq_true rfl) (Nat.le_of_ble_eq_true rfl) (fun r3 σ3 q3 => ?_)
    obtain ⟨rfl, n3, rfl, e3⟩ := q3
    have e3 := vz_of hD e3
    have e3 : n3 = 1 := e3.elim (fun z => z.1) (fun z => absurd hv z.2)
    refine zz_br rfl (fun h4 => absurd h4 (by omega)) (fun h4 => ?_)
    refine zz_gsn 1 rfl ?_
    refine zz_br rfl (fun h6 => absurd h6 (by omega)) (fun h6 => ?_)
    refine zz_gsn 2 rfl ?_
    refine zz_br rfl (fun h9 => ?_) (fun h9 => absurd h9 (by omega))
    refine zz_gsn 2 rfl ?_
    refine zz_cv (n := 1) rfl rfl (t_Deeds_versions) (Nat.le_of_ble_eq_true rfl) (Nat.le_of_ble_eq_true rfl) (Nat.le_of_ble_eq_true rfl) (fun r14 σ14 q14 => ?_)
    obtain ⟨rfl, n14, rfl, e14⟩ := q14
    have e14 : n14 = (I.k : Int) + 1 := by
      rcases e14 with ⟨z1, z2⟩ | ⟨z1, z2⟩
      · rw [z2, d5]
        exact zw_id (by omega) (by omega)
      · exact absurd (d1.symm.trans z1) hv.1
    refine zz_gsn 1 rfl ?_
    refine zz_br rfl (fun h16 => ?_) (fun h16 => absurd h16 (by omega))
    refine zz_gsn 5 rfl ?_
    refine zz_cv (n := 4) rfl rfl (t_Deeds_add (base := w) dR hk) (Nat.le_of_ble_eq_true rfl) (Nat.le_of_ble_eq_true rfl) (Nat.le_of_ble_eq_true rfl) (fun r24 σ24 q24 => ?_)
    obtain ⟨rfl, p24, g24, b24⟩ := q24
    have D1 : DF σ24 (h + 1) I.ho I.law I.C (I.told : Nat) (I.k + 1) (zu I.D I.k (kind, w, x)) := ⟨(b24 200 (by decide)).trans d1, (b24 201 (by decide)).trans d2, (b24 202 (by decide)).trans d3, (b24 203 (by decide)).trans d4, p24⟩
    have V1 : CV σ24 h I.law I.C I.k (IH I) := hV.f d6 g24 (fun a z y => by have z2 : h + 1 ≤ a ∧ a ≤ h + 1 + 3 := z; omega)
    
    refine zz_gsn 6 rfl ?_
    refine zz_ste (st' := [zI (I.k : Nat), zP 3 0 0 h]) (congrArg (fun z : Int => ([zI z, zP 3 0 0 h] : List zz_V)) ((congrArg (fun z : Int => zw (z - 1)) p24.1).trans (zw_p (n := I.k + 1) (Nat.succ_pos _) (by omega)))) ?_
    refine zz_cv (n := 2) rfl rfl (t_History_enact (σ := σ24) (D := zu I.D I.k (kind, w, x)) (H := IH I) D1 hho (Nat.lt_succ_self I.k) V1 hin hC (by rw [zu_s]; exact ap_st (by omega) hx hkd)) (Nat.le_of_ble_eq_true rfl) (Nat.le_of_ble_eq_true rfl) (Nat.le_of_ble_eq_true rfl) (fun r31 σ31 q31 => ?_)
    obtain ⟨rfl, p31, f31, g31, k31⟩ := q31
    refine zz_gsn 3 rfl ?_
    refine zz_ri rfl (Or.inl rfl) ?_
    have GF : zz_F (A_hc h) σ σ31 := (g24.mono (fun a z => by have z2 : h + 1 ≤ a ∧ a ≤ h + 1 + 3 := z; unfold A_hc A_hi; omega)).tr (g31.mono (fun a z => Or.inl z))
    have G5 : σ31.1 105 (h + 6) = σ.1 105 (h + 6) := k31.trans ((g24 (h + 6) (fun z => by have z2 : h + 1 ≤ h + 6 ∧ h + 6 ≤ h + 1 + 3 := z; omega)).1 105)
    rw [ap_y ⟨hv, hx⟩ (by omega), Int.toNat_natCast]
    exact ⟨congrArg (fun z : Int => some (zI z)) f31.2.2.2.2.1, CH.act (σ := σ31) (σ1 := σ31) f31 p31, GF, G5⟩
