/-! the class: like -/
noncomputable def z_B (p : Prop) : Bool := @decide p (Classical.propDecidable p)
theorem z_B_t {p : Prop} (h : p) : z_B p = true := by
  unfold z_B
  exact @decide_eq_true _ (Classical.propDecidable p) h
theorem z_B_f {p : Prop} (h : ¬ p) : z_B p = false := by
  unfold z_B
  exact @decide_eq_false _ (Classical.propDecidable p) h
theorem z_B_p {p : Prop} (h : z_B p = true) : p := by
  unfold z_B at h
  exact @of_decide_eq_true _ (Classical.propDecidable p) h
theorem z_B_n {p : Prop} (h : z_B p = false) : ¬ p := fun z => by
  rw [z_B_t z] at h
  cases h
theorem zq_eq.rf {q : zq_T} : zq_eq q q := ⟨rfl, fun _ _ => rfl⟩
noncomputable def g_lk (I : zz_I) (v : Nat) (u : Nat) : Bool := z_B (zq_eq ((IH I).Q u) ((IH I).Q v))
noncomputable def a_like (G : zz_J) (v : Int) : Int := if vz G.I.ho G.I.k v then (g_c (g_lk G.I v.toNat) v.toNat 0 : Nat) else -2
theorem lp_clike {X : zz_X} {h v : Nat} {I : zz_I} {σ : zz_M} {Post : Option zz_V → zz_M → Prop} (hH : CH σ h I) (ok : i_ok I) (hv : vz I.ho I.k (v : Nat)) (kk : Post (some (zI (g_c (g_lk I v) v 0 : Nat))) σ) :
    ∀ (r i : Nat), i + r = v → g_c (g_lk I v) r i = g_c (g_lk I v) v 0 → zz_G X 3 p_History_leastEqual 2 [zP 3 0 0 h, zI (v : Nat), zI (i : Nat)] [] σ Post := by
  obtain ⟨hD, hV⟩ := id hH
  have hk6 := ok.1.2.2.1
  have hvk : v ≤ I.k := by have := hv.2.2; omega
  intro r
  induction r with
  | zero =>
    intro i hi hc
    obtain rfl : i = v := hi
    have e : i = g_c (g_lk I i) i 0 := hc
    refine zz_gsn 2 rfl ?_
    refine zz_br rfl (fun h4 => ?_) (fun h4 => absurd h4 (by omega))
    refine zz_gsn 1 rfl ?_
    refine zz_ri rfl (Or.inl rfl) ?_
    rw [← e] at kk
    exact kk
  | succ r ih =>
    intro i hi hc
    have hiv : i < v := by omega
    have zs : zw ((i : Int) + 1) = ((i + 1 : Nat) : Int) := zw_s (by omega)
    have h4n : ¬ ((i : Nat) : Int) ≥ (v : Nat) := by omega
    have q1 : QR σ (h + 13 + (16 + 9 * i)) ((IH I).Q i) := by
      rw [show h + 13 + (16 + 9 * i) = h + 29 + 9 * i from by omega]
      exact (hV.2.2.1 i (by omega)).2
    have q2 : QR σ (h + 13 + (16 + 9 * v)) ((IH I).Q v) := by
      rw [show h + 13 + (16 + 9 * v) = h + 29 + 9 * v from by omega]
      exact (hV.2.2.1 v hvk).2
    have b1 := h_ql ok (show i ≤ I.k by omega)
    have b2 := h_ql ok hvk
    have hy : g_lk I v i = true → g_c (g_lk I v) (r + 1) i = i := fun z => if_pos z
    have hn : g_lk I v i = false → g_c (g_lk I v) (r + 1) i = g_c (g_lk I v) r (i + 1) := fun z => if_neg (by rw [z]; exact Bool.false_ne_true)
    have o1 : 0 ≤ (i : Int) ∧ (i : Int) < 61 := ⟨by omega, by omega⟩
    have o2 : 0 ≤ (v : Int) ∧ (v : Int) < 61 := ⟨by omega, by omega⟩
    have i9 : i + 1 + r = v := by omega
    have p1 : ((IH I).Q i).1 ≤ 60 := by omega
    have p2 : ((IH I).Q v).1 ≤ 60 := by omega
    clear hy hn
    have hy : g_lk I v i = true → g_c (g_lk I v) (r + 1) i = i := fun z => if_pos z
    have hn : g_lk I v i = false → g_c (g_lk I v) (r + 1) i = g_c (g_lk I v) r (i + 1) := fun z => if_neg (by rw [z]; exact Bool.false_ne_true)
    refine zz_gsn 2 rfl ?_
    refine zz_br rfl (fun h4 => absurd h4 h4n) (fun h4 => ?_)
    refine zz_gsn 3 rfl ?_
    refine zz_cv (n := 2) rfl rfl (t_Deeds_hasVersion) (Nat.le_of_ble_eq_true rfl) (Nat.le_of_ble_eq_true rfl) (Nat.le_of_ble_eq_true rfl) (fun r8 σ8 q8 => ?_)
    obtain ⟨rfl, n8, rfl, e8⟩ := q8
    replace e8 := vz_of hD e8
    replace e8 : n8 = 1 := e8.elim (fun z => z.1) (fun z => absurd hv z.2)
    refine zz_br rfl (fun h9 => absurd (e8.symm.trans h9) (by decide)) (fun h9 => ?_)
    refine zz_gsn 3 rfl ?_
    refine zz_aad rfl (o1) ?_
    refine zz_gsn 3 rfl ?_
    refine zz_aad rfl (o2) ?_
    refine zz_cv (n := 2) rfl rfl (t_Numbers_equalTo (q := (IH I).Q i) (q' := (IH I).Q v) (a := h + 29 + 9 * i) (b := h + 29 + 9 * v) (hV.2.2.1 i (by omega)).2 (hV.2.2.1 v hvk).2 p1 p2 (by decide)) (Nat.le_of_ble_eq_true rfl) (Nat.le_of_ble_eq_true rfl) (Nat.le_of_ble_eq_true rfl) (fun r18 σ18 q18 => ?_)
    obtain ⟨rfl, n18, rfl, e18⟩ := q18
    refine zz_br rfl (fun h19 => ?_) (fun h19 => ?_)
    · refine zz_gsn 1 rfl ?_
      refine zz_jp rfl ?_
      rw [zs]
      have z : g_lk I v i = false := z_B_f (e18.elim (fun z => absurd (z.1.symm.trans (by first | exact h19 | exact Decidable.not_not.mp h19)) (by decide)) (fun z => z.2))
      exact ih (i + 1) i9 ((hn z).symm.trans hc)
    · refine zz_gsn 1 rfl ?_
      refine zz_ri rfl (Or.inl rfl) ?_
      have z : g_lk I v i = true := z_B_t (e18.elim (fun z => z.2) (fun z => absurd z.1 h19))
      rw [← hc, hy z] at kk
      exact kk
theorem t_History_leastEqual {X : zz_X} {σ : zz_M} {h v : Nat} {I : zz_I} (hH : CH σ h I) (ok : i_ok I) (hv : vz I.ho I.k (v : Nat)) : zz_T X 3 p_History_leastEqual [zP 3 0 0 h, zI (v : Nat)] σ (fun r σ' => σ = σ' ∧ r = some (zI (g_c (g_lk I v) v 0 : Nat))) := by
  refine zz_mk k_History_leastEqual o_History_leastEqual rfl rfl (Nat.le_of_ble_eq_true rfl) ?_
  show zz_G X 3 p_History_leastEqual 0 [zP 3 0 0 h, zI (v : Nat), zU] [] σ _
  refine zz_gsn 2 rfl ?_
  exact lp_clike hH ok hv ⟨rfl, rfl⟩ v 0 (Nat.zero_add v) rfl
theorem t_TQ_like {X : zz_X} {σ : zz_M} {b : Nat} {B : Int} {G : zz_J} {v : Int} (hG : CG σ b B G) (ok : g_ok G) : zz_T X 4 p_TQ_like [zP 11 0 0 b, zI v] σ (fun r σ' => σ = σ' ∧ r = some (zI (a_like G v))) := by
  refine zz_mk k_TQ_like o_TQ_like rfl rfl (Nat.le_of_ble_eq_true rfl) ?_
  show zz_G X 4 p_TQ_like 0 [zP 11 0 0 b, zI v] [] σ _
  obtain ⟨hH, hBt, hBo, hft, him, hmk, htr⟩ := id hG
  obtain ⟨⟨ho, hfx⟩, okt, oko, okm⟩ := id ok
  obtain ⟨hD, hV⟩ := id hH
  obtain ⟨d1, d2, d3, d4, dR⟩ := id hD
  obtain ⟨d5, d6, d7⟩ := id dR
  rcases Classical.em (vz G.I.ho G.I.k v) with hv | hv
  · obtain ⟨w, rfl⟩ : ∃ w : Nat, v = (w : Nat) := ⟨v.toNat, by have := hv.2.1; omega⟩
    refine zz_gsn 4 rfl ?_
    refine zz_cv (n := 2) rfl rfl (t_Deeds_hasVersion) (Nat.le_of_ble_eq_true rfl) (Nat.le_of_ble_eq_true rfl) (Nat.le_of_ble_eq_true rfl) (fun r4 σ4 q4 => ?_)
    obtain ⟨rfl, n4, rfl, e4⟩ := q4
    replace e4 := vz_of hD e4
    replace e4 : n4 = 1 := e4.elim (fun z => z.1) (fun z => absurd hv z.2)
    refine zz_br rfl (fun h5 => absurd (e4.symm.trans h5) (by decide)) (fun h5 => ?_)
    refine zz_gsn 3 rfl ?_
    refine zz_cv (n := 2) rfl rfl (t_History_leastEqual hH ho hv) (Nat.le_of_ble_eq_true rfl) (Nat.le_of_ble_eq_true rfl) (Nat.le_of_ble_eq_true rfl) (fun r9 σ9 q9 => ?_)
    obtain ⟨rfl, rfl⟩ := q9
    refine zz_jp rfl ?_
    refine zz_ri rfl (Or.inl rfl) ?_
    exact ⟨rfl, congrArg (fun z => some (zI z)) (if_pos hv).symm⟩
  · refine zz_gsn 4 rfl ?_
    refine zz_cv (n := 2) rfl rfl (t_Deeds_hasVersion) (Nat.le_of_ble_eq_true rfl) (Nat.le_of_ble_eq_true rfl) (Nat.le_of_ble_eq_true rfl) (fun r4 σ4 q4 => ?_)
    obtain ⟨rfl, n4, rfl, e4⟩ := q4
    replace e4 := vz_of hD e4
    replace e4 : n4 = 0 := e4.elim (fun z => absurd z.2 hv) (fun z => z.1)
    refine zz_br rfl (fun h5 => ?_) (fun h5 => absurd e4 h5)
    refine zz_gsn 1 rfl ?_
    refine zz_ri rfl (Or.inl rfl) ?_
    exact ⟨rfl, congrArg (fun z => some (zI z)) (if_neg hv).symm⟩
