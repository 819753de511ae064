/-! the reference: like -/
theorem lp_rlike {X : zz_X} {m v w : Nat} {q q' : zq_T} {σ : zz_M} {Post : Option zz_V → zz_M → Prop} (hv : v < 61) (hw : w < 61) (hq : QM σ m v q) (hq' : QM σ m w q') (hb : q.1 ≤ 60) (hn : q.1 = q'.1) (k1 : zq_eq q q' → Post (some (zI 1)) σ) (k0 : ¬ zq_eq q q' → Post (some (zI 0)) σ) :
    ∀ (r i : Nat), i + r = q.1 → (∀ j, j < i → q.2 j = q'.2 j) → zz_G X 2 p_Mo_areLike 15 [zP 12 0 0 m, zI (v : Nat), zI (w : Nat), zI 1, zI (i : Nat)] [] σ Post := by
  have hq1 : σ.2 (m + 12) v = (q.1 : Nat) := hq.1
  have o1 : 0 ≤ (v : Int) ∧ (v : Int) < 61 := ⟨by omega, by omega⟩
  intro r
  induction r with
  | zero =>
    intro i hi h
    have he : zq_eq q q' := ⟨hn, fun j hj => h j (by omega)⟩
    refine zz_gsn 4 rfl ?_
    refine zz_ald rfl (o1) ?_
    rw [show σ.2 (m + 12) ((v : Nat) : Int).toNat = (q.1 : Nat) from hq1]
    refine zz_br rfl (fun h20 => ?_) (fun h20 => absurd h20 (by omega))
    refine zz_gsn 1 rfl ?_
    refine zz_ri rfl (Or.inr ⟨rfl, by first | exact Or.inl rfl | exact Or.inr rfl | omega⟩) ?_
    exact k1 he
  | succ r ih =>
    intro i hi h
    have zs : zw ((i : Int) + 1) = ((i + 1 : Nat) : Int) := zw_s (by omega)
    have a1 : σ.2 (m + 11) (64 * v + i) = q.2 i := hq.2 i (by omega)
    have a2 : σ.2 (m + 11) (64 * w + i) = q'.2 i := hq'.2 i (by omega)
    refine zz_gsn 4 rfl ?_
    refine zz_ald rfl (o1) ?_
    rw [show σ.2 (m + 12) ((v : Nat) : Int).toNat = (q.1 : Nat) from hq1]
    refine zz_br rfl (fun h20 => absurd h20 (by omega)) (fun h20 => ?_)
    refine zz_gsn 1 rfl ?_
    refine zz_br rfl (fun h22 => absurd h22 (by decide)) (fun h22 => ?_)
    refine zz_gsn 3 rfl ?_
    refine zz_cv (n := 3) rfl rfl (t_Mo_asked (v := v) (k := i) hv (by omega)) (Nat.le_of_ble_eq_true rfl) (Nat.le_of_ble_eq_true rfl) (Nat.le_of_ble_eq_true rfl) (fun r26 σ26 q26 => ?_)
    obtain ⟨rfl, rfl⟩ := q26
    refine zz_gsn 3 rfl ?_
    refine zz_cv (n := 3) rfl rfl (t_Mo_asked (v := w) (k := i) hw (by omega)) (Nat.le_of_ble_eq_true rfl) (Nat.le_of_ble_eq_true rfl) (Nat.le_of_ble_eq_true rfl) (fun r30 σ30 q30 => ?_)
    obtain ⟨rfl, rfl⟩ := q30
    rw [a1, a2]
    refine zz_br rfl (fun h31 => ?_) (fun h31 => ?_)
    · have hne : ¬ zq_eq q q' := fun z => h31 (z.2 i (by omega))
      refine zz_gsn 3 rfl ?_
      refine zz_jp rfl ?_
      refine zz_gsn 4 rfl ?_
      refine zz_ald rfl (o1) ?_
      rw [show σ.2 (m + 12) ((v : Nat) : Int).toNat = (q.1 : Nat) from hq1]
      refine zz_br rfl (fun h20 => ?_) (fun h20 => ?_)
      · refine zz_gsn 1 rfl ?_
        refine zz_ri rfl (Or.inr ⟨rfl, by first | exact Or.inl rfl | exact Or.inr rfl | omega⟩) ?_
        exact k0 hne
      · refine zz_gsn 1 rfl ?_
        refine zz_br rfl (fun h22 => ?_) (fun h22 => absurd rfl h22)
        refine zz_gsn 1 rfl ?_
        refine zz_ri rfl (Or.inr ⟨rfl, by first | exact Or.inl rfl | exact Or.inr rfl | omega⟩) ?_
        exact k0 hne
    · refine zz_gsn 1 rfl ?_
      refine zz_jp rfl ?_
      refine zz_gsn 2 rfl ?_
      refine zz_jp rfl ?_
      rw [zs]
      refine ih (i + 1) (by omega) (fun j hj => ?_)
      by_cases z : j = i
      · rw [z]
        exact (by first | exact h31 | exact Decidable.not_not.mp h31)
      · exact h j (by omega)
theorem t_Mo_areLike {X : zz_X} {σ : zz_M} {m v w : Nat} {q q' : zq_T} (hv : v < 61) (hw : w < 61) (hq : QM σ m v q) (hq' : QM σ m w q') (hb : q.1 ≤ 60) : zz_T X 2 p_Mo_areLike [zP 12 0 0 m, zI (v : Nat), zI (w : Nat)] σ (fun r σ' => σ = σ' ∧ ∃ n : Int, r = some (zI n) ∧ ((n = 1 ∧ zq_eq q q') ∨ (n = 0 ∧ ¬ zq_eq q q'))) := by
  refine zz_mk k_Mo_areLike o_Mo_areLike rfl rfl (Nat.le_of_ble_eq_true rfl) ?_
  show zz_G X 2 p_Mo_areLike 0 [zP 12 0 0 m, zI (v : Nat), zI (w : Nat), zU, zU] [] σ _
  have hq1 : σ.2 (m + 12) v = (q.1 : Nat) := hq.1
  have hq2 : σ.2 (m + 12) w = (q'.1 : Nat) := hq'.1
  have o1 : 0 ≤ (v : Int) ∧ (v : Int) < 61 := ⟨by omega, by omega⟩
  have o2 : 0 ≤ (w : Int) ∧ (w : Int) < 61 := ⟨by omega, by omega⟩
  have k1 : zq_eq q q' → σ = σ ∧ ∃ n : Int, some (zI 1) = some (zI n) ∧ ((n = 1 ∧ zq_eq q q') ∨ (n = 0 ∧ ¬ zq_eq q q')) := fun z => ⟨rfl, 1, rfl, Or.inl ⟨rfl, z⟩⟩
  have k0 : ¬ zq_eq q q' → σ = σ ∧ ∃ n : Int, some (zI 0) = some (zI n) ∧ ((n = 1 ∧ zq_eq q q') ∨ (n = 0 ∧ ¬ zq_eq q q')) := fun z => ⟨rfl, 0, rfl, Or.inr ⟨rfl, z⟩⟩
  refine zz_gsn 3 rfl ?_
  refine zz_ald rfl (o1) ?_
  rw [show σ.2 (m + 12) ((v : Nat) : Int).toNat = (q.1 : Nat) from hq1]
  refine zz_gsn 3 rfl ?_
  refine zz_ald rfl (o2) ?_
  rw [show σ.2 (m + 12) ((w : Nat) : Int).toNat = (q'.1 : Nat) from hq2]
  refine zz_br rfl (fun h8 => ?_) (fun h8 => ?_)
  · refine zz_gsn 4 rfl ?_
    have hne : ¬ zq_eq q q' := fun z => h8 (congrArg (fun z : Nat => (z : Int)) z.1)
    refine zz_gsn 4 rfl ?_
    refine zz_ald rfl (o1) ?_
    rw [show σ.2 (m + 12) ((v : Nat) : Int).toNat = (q.1 : Nat) from hq1]
    refine zz_br rfl (fun h20 => ?_) (fun h20 => ?_)
    · refine zz_gsn 1 rfl ?_
      refine zz_ri rfl (Or.inr ⟨rfl, by first | exact Or.inl rfl | exact Or.inr rfl | omega⟩) ?_
      exact k0 hne
    · refine zz_gsn 1 rfl ?_
      refine zz_br rfl (fun h22 => ?_) (fun h22 => absurd rfl h22)
      refine zz_gsn 1 rfl ?_
      refine zz_ri rfl (Or.inr ⟨rfl, by first | exact Or.inl rfl | exact Or.inr rfl | omega⟩) ?_
      exact k0 hne
  · refine zz_gsn 1 rfl ?_
    refine zz_jp rfl ?_
    refine zz_gsn 3 rfl ?_
    exact lp_rlike hv hw hq hq' hb (Int.ofNat_inj.mp (by first | exact h8 | exact Decidable.not_not.mp h8)) k1 k0 q.1 0 (Nat.zero_add _) (fun j hj => absurd hj (Nat.not_lt_zero j))
theorem lp_rlk {X : zz_X} {m v : Nat} {I : zz_I} {σ : zz_M} {Post : Option zz_V → zz_M → Prop} (hR : RV σ m I.law I.C I.k (IH I) I.D) (ok : i_ok I) (hv : v ≤ I.k) (kk : Post (some (zI (g_c (g_lk I v) v 0 : Nat))) σ) :
    ∀ (r i : Nat), i + r = v → g_c (g_lk I v) r i = g_c (g_lk I v) v 0 → zz_G X 3 p_Mo_like 8 [zP 12 0 0 m, zI (v : Nat), zI (i : Nat)] [] σ Post := by
  obtain ⟨-, r4, -⟩ := id hR
  have hk6 := ok.1.2.2.1
  have hql := h_ql ok hv
  intro r
  induction r with
  | zero =>
    intro i hi hc
    obtain rfl : i = v := hi
    have e : i = g_c (g_lk I i) i 0 := hc
    rw [← e] at kk
    have b1 : i < 61 := by omega
    have b2 : ((IH I).Q i).1 ≤ 60 := by omega
    refine zz_gsn 3 rfl ?_
    refine zz_cv (n := 3) rfl rfl (t_Mo_areLike (v := i) (w := i) b1 b1 (r4 i hv).2 (r4 i hv).2 b2) (Nat.le_of_ble_eq_true rfl) (Nat.le_of_ble_eq_true rfl) (Nat.le_of_ble_eq_true rfl) (fun r11 σ11 q11 => ?_)
    obtain ⟨rfl, n11, rfl, e11⟩ := q11
    replace e11 : n11 = 1 := e11.elim (fun z => z.1) (fun z => absurd zq_eq.rf z.2)
    refine zz_br rfl (fun h12 => ?_) (fun h12 => absurd (e11.symm.trans (by first | exact h12 | exact Decidable.not_not.mp h12)) (by decide))
    refine zz_gsn 1 rfl ?_
    refine zz_ri rfl (Or.inl rfl) ?_
    exact kk
  | succ r ih =>
    intro i hi hc
    have zs : zw ((i : Int) + 1) = ((i + 1 : Nat) : Int) := zw_s (by omega)
    have i9 : i + 1 + r = v := by omega
    have b0 : v < 61 := by omega
    have b1 : i < 61 := by omega
    have b2 : ((IH I).Q v).1 ≤ 60 := by omega
    have b3 : i ≤ I.k := by omega
    have hsy : zq_eq ((IH I).Q v) ((IH I).Q i) → zq_eq ((IH I).Q i) ((IH I).Q v) := fun z => ⟨z.1.symm, fun j hj => (z.2 j (by rw [z.1]; exact hj)).symm⟩
    have hsy2 : zq_eq ((IH I).Q i) ((IH I).Q v) → zq_eq ((IH I).Q v) ((IH I).Q i) := fun z => ⟨z.1.symm, fun j hj => (z.2 j (by rw [z.1]; exact hj)).symm⟩
    have hy : g_lk I v i = true → g_c (g_lk I v) (r + 1) i = i := fun z => if_pos z
    have hn : g_lk I v i = false → g_c (g_lk I v) (r + 1) i = g_c (g_lk I v) r (i + 1) := fun z => if_neg (by rw [z]; exact Bool.false_ne_true)
    refine zz_gsn 3 rfl ?_
    refine zz_cv (n := 3) rfl rfl (t_Mo_areLike (v := v) (w := i) b0 b1 (r4 v hv).2 (r4 i b3).2 b2) (Nat.le_of_ble_eq_true rfl) (Nat.le_of_ble_eq_true rfl) (Nat.le_of_ble_eq_true rfl) (fun r11 σ11 q11 => ?_)
    obtain ⟨rfl, n11, rfl, e11⟩ := q11
    refine zz_br rfl (fun h12 => ?_) (fun h12 => ?_)
    · refine zz_gsn 1 rfl ?_
      refine zz_ri rfl (Or.inl rfl) ?_
      have z : g_lk I v i = true := z_B_t (hsy (e11.elim (fun z => z.2) (fun z => absurd z.1 h12)))
      rw [← hc, hy z] at kk
      exact kk
    · refine zz_gsn 1 rfl ?_
      refine zz_jp rfl ?_
      rw [zs]
      have z : g_lk I v i = false := z_B_f (fun y => e11.elim (fun z => absurd (z.1.symm.trans (by first | exact h12 | exact Decidable.not_not.mp h12)) (by decide)) (fun z => z.2 (hsy2 y)))
      exact ih (i + 1) i9 ((hn z).symm.trans hc)
theorem t_Mo_like {X : zz_X} {σ : zz_M} {m : Nat} {G : zz_J} {v : Int} (hG : RG σ m G) (ok : g_ok G) : zz_T X 3 p_Mo_like [zP 12 0 0 m, zI v] σ (fun r σ' => σ = σ' ∧ r = some (zI (a_like G v))) := by
  refine zz_mk k_Mo_like o_Mo_like rfl rfl (Nat.le_of_ble_eq_true rfl) ?_
  show zz_G X 3 p_Mo_like 0 [zP 12 0 0 m, zI v, zU] [] σ _
  obtain ⟨hI, hT, hO, hF, hM, h10⟩ := id hG
  obtain ⟨⟨ho, hfx⟩, okt, oko, okm⟩ := id ok
  have hk6 := ho.1.2.2.1
  rcases Classical.em (vz G.I.ho G.I.k v) with hv | hv
  · obtain ⟨w, rfl⟩ : ∃ w : Nat, v = (w : Nat) := ⟨v.toNat, by omega⟩
    obtain ⟨z0, w1, w2⟩ := id hv
    obtain ⟨hone, ⟨q1, q2, q3, q4⟩, hV⟩ := ri_y hI z0
    obtain ⟨⟨r1, r2, r3⟩, r4, r5, r6, r7⟩ := id hV
    have hw1 : w ≤ G.I.k := by omega
    obtain ⟨hS, hq1, hq2⟩ := r4 w hw1
    refine zz_gsn 2 rfl ?_
    refine zz_cv (n := 2) rfl rfl (t_Mo_isVersion) (Nat.le_of_ble_eq_true rfl) (Nat.le_of_ble_eq_true rfl) (Nat.le_of_ble_eq_true rfl) (fun r2 σ2 q2 => ?_)
    obtain ⟨rfl, n2, rfl, e2⟩ := q2
    replace e2 := rv_of hI ho e2
    replace e2 : n2 = 1 := e2.elim (fun z => z.1) (fun z => absurd hv z.2)
    refine zz_br rfl (fun h3 => ?_) (fun h3 => absurd (by first | exact h3 | exact Decidable.not_not.mp h3) (show n2 ≠ 0 by omega))
    refine zz_gsn 2 rfl ?_
    exact lp_rlk hV ho hw1 ⟨rfl, congrArg (fun z => some (zI z)) (if_pos hv).symm⟩ w 0 (Nat.zero_add w) rfl
  · refine zz_gsn 2 rfl ?_
    refine zz_cv (n := 2) rfl rfl (t_Mo_isVersion) (Nat.le_of_ble_eq_true rfl) (Nat.le_of_ble_eq_true rfl) (Nat.le_of_ble_eq_true rfl) (fun r2 σ2 q2 => ?_)
    obtain ⟨rfl, n2, rfl, e2⟩ := q2
    replace e2 := rv_of hI ho e2
    replace e2 : n2 = 0 := e2.elim (fun z => absurd z.2 hv) (fun z => z.1)
    refine zz_br rfl (fun h3 => absurd e2 h3) (fun h3 => ?_)
    refine zz_gsn 1 rfl ?_
    refine zz_ri rfl (Or.inl rfl) ?_
    exact ⟨rfl, congrArg (fun z => some (zI z)) (if_neg hv).symm⟩
