/-! the reference: the deeds of a graft, one by one -/
theorem lp_rgraft {X : zz_X} {m k n v on B0 n0 : Nat} {law C was : Int} {D : zz_D} {W0 : zz_W} {q0 : zq_T} {σ0 : zz_M} {Post : Option zz_V → zz_M → Prop} (hk60 : k ≤ 60) (hD : ∀ i, i < k → σ0.2 (m + 6) (i + 1) = (D i).1 ∧ σ0.2 (m + 7) (i + 1) = (D i).2.2) (hwm : σ0.1 1251 m = (n : Nat)) (hW : ∀ i, i < n → σ0.2 (m + 22) i = ((zd_w D v n i + 1 : Nat) : Int) ∧ zd_w D v n i < k) (hn : n ≤ 60) (hI0 : IV law B0 W0) (hB : B0 ≤ 60) (hl5 : σ0.1 1205 m = law) (hl6 : σ0.1 1206 m = C) (hC : 2 ≤ C ∧ C ≤ 4) (h11 : W0.S 11 = (q0.1 : Nat)) (hq : q0.1 ≤ 60) (hk : g_kd law (g_e D v n) n)
    (kk : ∀ (σ' : zz_M) (y : Int) (y5 y6 : zz_V), NQ σ' m (gq (g_e D v n) q0 (g_c (g_ct (g_e D v n) q0) n 0)) → σ'.1 1254 m = (if g_c (g_ct (g_e D v n) q0) n 0 < n then ((zd_w D v n (g_c (g_ct (g_e D v n) q0) n 0) : Nat) : Int) else -1) → Fz m n0 σ0 σ' → zz_G X 6 p_Mo_grafts 122 [zP 12 0 0 m, zI (on : Nat), zI was, zI (zz_sum (gS law C (g_e D v n) (fun j => (g_e D v n j).2.2) W0) (g_c (g_ct (g_e D v n) q0) n 0)), zI y, y5, y6] [] σ' Post) :
    ∀ (r i : Nat) (acc : Int) (σ : zz_M) (u5 u6 : zz_V), i + r = n → g_c (g_ct (g_e D v n) q0) r i = g_c (g_ct (g_e D v n) q0) n 0 → (∀ x, x < i → g_ct (g_e D v n) q0 x = false) → MP σ m 122 (gw law C (g_e D v n) (fun j => (g_e D v n j).2.2) W0 i) → NQ σ m (gq (g_e D v n) q0 i) → r_bd law B0 n0 i (gw law C (g_e D v n) (fun j => (g_e D v n j).2.2) W0 i) → acc = zz_sum (gS law C (g_e D v n) (fun j => (g_e D v n j).2.2) W0) i → 0 ≤ acc ∧ acc ≤ 300 * (i : Int) → σ.1 1254 m = -1 → Fz m n0 σ0 σ → zz_G X 6 p_Mo_grafts 36 [zP 12 0 0 m, zI (on : Nat), zI was, zI acc, zI (i : Nat), u5, u6] [] σ Post := by
  intro r
  induction r with
  | zero =>
    intro i acc σ u5 u6 hi
    obtain rfl : i = n := hi
    have i39 : ((i : Nat) : Int) ≥ (i : Nat) := Int.le_refl _
    intro hc hx hP hQ hI hs hb hcl hF
    have hc2 : i = g_c (g_ct (g_e D v i) q0) i 0 := hc
    rw [← hc2, ← hs] at kk
    have hcl2 : σ.1 1254 m = if i < i then ((zd_w D v i i : Nat) : Int) else -1 := by rw [if_neg (Nat.lt_irrefl i)]; exact hcl
    have wm : σ.1 1251 m = (i : Nat) := hF.2.1.trans hwm
    clear hc2 hc hs
    refine zz_gsn 3 rfl ?_
    rw [wm]
    refine zz_br rfl (fun h39 => ?_) (fun h39 => absurd i39 (by first | exact h39 | exact Int.not_le.mpr h39))
    exact kk σ _ _ _ hQ hcl2 hF
  | succ r ih =>
    intro i acc σ u5 u6 hi
    have hin : i < n := by omega
    have i39 : ¬ ((i : Nat) : Int) ≥ (n : Nat) := by omega
    have i9 : i + 1 + r = n := by omega
    have i60 : i < 60 := by omega
    have hi1 : i ≤ 100 := by omega
    have q60 : q0.1 + i < 800 := by omega
    have hB7 : B0 + i ≤ 700 := by omega
    have hB4 : B0 + i ≤ 1000 := by omega
    have hin0 : i ≤ n := by omega
    have o1 : 0 ≤ (i : Int) ∧ (i : Int) < 61 := ⟨by omega, by omega⟩
    have o2g : ∀ Z : Nat, Z + 1 < 61 → 0 ≤ ((Z + 1 : Nat) : Int) ∧ ((Z + 1 : Nat) : Int) < 61 := fun Z z => ⟨by omega, by omega⟩
    have ezg : ∀ Z : Nat, Z + 1 < 61 → zw (((Z + 1 : Nat) : Int) - 1) = (Z : Nat) := fun Z z => zw_p (n := Z + 1) (Nat.succ_pos _) (by omega)
    have pa6 : ∀ i, pa m n0 (m + 6) i := fun i => by unfold pa; omega
    have pa7 : ∀ i, pa m n0 (m + 7) i := fun i => by unfold pa; omega
    have key : ∀ S : Int, 0 < S → S ≤ 2 * ((B0 + i : Nat) : Int) + 10 → 0 ≤ acc ∧ acc ≤ 300 * (i : Int) → (0 ≤ acc + S ∧ acc + S ≤ 300 * ((i + 1 : Nat) : Int)) ∧ zw (acc + S) = acc + S := fun S z1 z2 z3 => ⟨by omega, zw_id (by omega) (by omega)⟩
    have hw1 : zw ((i : Int) + 1) = ((i + 1 : Nat) : Int) := zw_s (by omega)
    intro hc hx hP hQ hI hs hb hcl hF
    obtain ⟨a1, a2, a3⟩ := g_inv (C := C) (xs := (fun j => (g_e D v n j).2.2)) hI0 hC h11 hk i hin0 hx
    obtain ⟨k1, k2⟩ := hk i hin
    obtain ⟨w1, w2⟩ := hW i hin
    have w1' : σ.2 (m + 22) i = ((zd_w D v n i + 1 : Nat) : Int) := (hF.2.2 i).trans w1
    have wm : σ.1 1251 m = (n : Nat) := hF.2.1.trans hwm
    have f5 : σ.1 1205 m = law := (hF.1.1 1205 (Or.inr (Or.inl rfl)) (by decide)).trans hl5
    have f6 : σ.1 1206 m = C := (hF.1.1 1206 (Or.inr (Or.inr (Or.inl rfl))) (by decide)).trans hl6
    have d6 : σ.2 (m + 6) (zd_w D v n i + 1) = (g_e D v n i).1 := (hF.1.2.1 _ _ (pa6 _)).trans (hD _ w2).1
    have d7 : σ.2 (m + 7) (zd_w D v n i + 1) = (g_e D v n i).2.2 := (hF.1.2.1 _ _ (pa7 _)).trans (hD _ w2).2
    have su := w_steps_v (C := C) (mk := -1) (kind := (g_e D v n i).1) (x := (g_e D v n i).2.2) a1 hB4 k1
    have sp := w_steps_p (C := C) (mk := -1) (kind := (g_e D v n i).1) (x := (g_e D v n i).2.2) a1 k1
    have es : zz_sum (gS law C (g_e D v n) (fun j => (g_e D v n j).2.2) W0) (i + 1) = zz_sum (gS law C (g_e D v n) (fun j => (g_e D v n j).2.2) W0) i + w_steps law C (-1) (g_e D v n i).1 (g_e D v n i).2.2 (gw law C (g_e D v n) (fun j => (g_e D v n j).2.2) W0 i) := rfl
    have hy : g_ct (g_e D v n) q0 i = true → g_c (g_ct (g_e D v n) q0) (r + 1) i = i := fun z => if_pos z
    have hny : g_ct (g_e D v n) q0 i = false → g_c (g_ct (g_e D v n) q0) (r + 1) i = g_c (g_ct (g_e D v n) q0) r (i + 1) := fun z => if_neg (by rw [z]; exact Bool.false_ne_true)
    obtain ⟨hb2, q1⟩ := key _ sp su hb
    have hq8 : (gq (g_e D v n) q0 i).1 < 800 := Nat.lt_of_le_of_lt a3 q60
    have z61 : zd_w D v n i + 1 < 61 := Nat.lt_of_le_of_lt w2 (Nat.lt_succ_of_le hk60)
    have eN := hQ.1
    clear key su sp
    obtain ⟨Z, hZ⟩ : ∃ Z, Z = zd_w D v n i := ⟨_, rfl⟩
    rw [← hZ] at w1' d6 d7 z61
    have o2 := o2g Z z61
    have ez := ezg Z z61
    clear o2g ezg pa6 pa7
    rcases Bool.eq_false_or_eq_true (g_ct (g_e D v n) q0 i) with hct | hct
    · obtain ⟨c1, c2⟩ : ((g_e D v n i).1 = 1 ∨ (g_e D v n i).1 = 3) ∧ (gq (g_e D v n) q0 i).1 = 0 := of_decide_eq_true hct
      have z : i = g_c (g_ct (g_e D v n) q0) n 0 := (hy hct).symm.trans hc
      rw [← z, ← hs] at kk
      have eN0 : σ.1 1253 m = 0 := by rw [eN, c2]; rfl
      have y1 : (zz_sf σ 1254 m (Z : Nat)).1 1254 m = if i < n then ((zd_w D v n i : Nat) : Int) else -1 := by rw [if_pos hin, sf_h, hZ]
      have y2 : (zz_sf σ 1254 m (Z : Nat)).1 1254 m ≠ -1 := by
        rw [sf_h]
        exact Int.ne_of_gt (Int.lt_of_lt_of_le (by decide) (Int.natCast_nonneg _))
      have y5 : NQ (zz_sf σ 1254 m (Z : Nat)) m (gq (g_e D v n) q0 i) := ⟨(sf_f _ _ (by decide)).trans eN, hQ.2⟩
      have y4 : Fz m n0 σ0 (zz_sf σ 1254 m (Z : Nat)) := hF.tr Fz.c
      clear hs hc es hy hny z
      refine zz_gsn 3 rfl ?_
      rw [wm]
      refine zz_br rfl (fun h39 => absurd h39 i39) (fun h39 => ?_)
      refine zz_gsn 3 rfl ?_
      refine zz_br rfl (fun h43 => absurd hcl h43) (fun h43 => ?_)
      refine zz_gsn 5 rfl ?_
      refine zz_ald rfl (o1) ?_
      rw [show σ.2 (m + 22) ((i : Nat) : Int).toNat = ((Z + 1 : Nat) : Int) from w1']
      refine zz_ald rfl (o2) ?_
      rw [show σ.2 (m + 6) ((Z + 1 : Nat) : Int).toNat = (g_e D v n i).1 from d6]
      refine zz_gsn 6 rfl ?_
      refine zz_ald rfl (o1) ?_
      rw [show σ.2 (m + 22) ((i : Nat) : Int).toNat = ((Z + 1 : Nat) : Int) from w1']
      refine zz_ald rfl (o2) ?_
      rw [show σ.2 (m + 7) ((Z + 1 : Nat) : Int).toNat = (g_e D v n i).2.2 from d7]
      refine zz_gsn 3 rfl ?_
      refine zz_br rfl (fun h62 => ?_) (fun h62 => ?_)
      · refine zz_gsn 2 rfl ?_
        refine zz_br rfl (fun h68 => absurd eN0 h68) (fun h68 => ?_)
        refine zz_gsn 4 rfl ?_
        refine zz_ald rfl (o1) ?_
        rw [show σ.2 (m + 22) ((i : Nat) : Int).toNat = ((Z + 1 : Nat) : Int) from w1']
        refine zz_gsn 2 rfl ?_
        rw [ez]
        refine zz_gsn 1 rfl ?_
        refine zz_jp rfl ?_
        refine zz_gsn 1 rfl ?_
        refine zz_jp rfl ?_
        refine zz_gsn 3 rfl ?_
        refine zz_br rfl (fun h39 => ?_) (fun h39 => ?_)
        · exact kk _ _ _ _ y5 y1 y4
        · refine zz_gsn 3 rfl ?_
          refine zz_br rfl (fun h43 => ?_) (fun h43 => absurd (by first | exact h43 | exact Decidable.not_not.mp h43) y2)
          exact kk _ _ _ _ y5 y1 y4
      · refine zz_gsn 2 rfl ?_
        refine zz_br rfl (fun h65 => absurd (c1.resolve_left h62) h65) (fun h65 => ?_)
        refine zz_gsn 2 rfl ?_
        refine zz_br rfl (fun h68 => absurd eN0 h68) (fun h68 => ?_)
        refine zz_gsn 4 rfl ?_
        refine zz_ald rfl (o1) ?_
        rw [show σ.2 (m + 22) ((i : Nat) : Int).toNat = ((Z + 1 : Nat) : Int) from w1']
        refine zz_gsn 2 rfl ?_
        rw [ez]
        refine zz_gsn 1 rfl ?_
        refine zz_jp rfl ?_
        refine zz_gsn 1 rfl ?_
        refine zz_jp rfl ?_
        refine zz_gsn 3 rfl ?_
        refine zz_br rfl (fun h39 => ?_) (fun h39 => ?_)
        · exact kk _ _ _ _ y5 y1 y4
        · refine zz_gsn 3 rfl ?_
          refine zz_br rfl (fun h43 => ?_) (fun h43 => absurd (by first | exact h43 | exact Decidable.not_not.mp h43) y2)
          exact kk _ _ _ _ y5 y1 y4
    · have z := hny hct
      have hpos := g_ct_p hct
      have hp1 : (g_e D v n i).1 = 1 ∨ (g_e D v n i).1 = 3 → 0 < (gw law C (g_e D v n) (fun j => (g_e D v n j).2.2) W0 i).S 11 := fun z => by rw [a2]; exact Int.ofNat_lt.mpr (hpos z)
      have eN0 : (g_e D v n i).1 = 1 ∨ (g_e D v n i).1 = 3 → σ.1 1253 m ≠ 0 := fun z y => absurd (Int.ofNat_inj.mp (eN.symm.trans y)) (Nat.ne_of_gt (hpos z))
      refine zz_gsn 3 rfl ?_
      rw [wm]
      refine zz_br rfl (fun h39 => absurd h39 i39) (fun h39 => ?_)
      refine zz_gsn 3 rfl ?_
      refine zz_br rfl (fun h43 => absurd hcl h43) (fun h43 => ?_)
      refine zz_gsn 5 rfl ?_
      refine zz_ald rfl (o1) ?_
      rw [show σ.2 (m + 22) ((i : Nat) : Int).toNat = ((Z + 1 : Nat) : Int) from w1']
      refine zz_ald rfl (o2) ?_
      rw [show σ.2 (m + 6) ((Z + 1 : Nat) : Int).toNat = (g_e D v n i).1 from d6]
      refine zz_gsn 6 rfl ?_
      refine zz_ald rfl (o1) ?_
      rw [show σ.2 (m + 22) ((i : Nat) : Int).toNat = ((Z + 1 : Nat) : Int) from w1']
      refine zz_ald rfl (o2) ?_
      rw [show σ.2 (m + 7) ((Z + 1 : Nat) : Int).toNat = (g_e D v n i).2.2 from d7]
      refine zz_gsn 3 rfl ?_
      refine zz_br rfl (fun h62 => ?_) (fun h62 => ?_)
      · refine zz_gsn 2 rfl ?_
        refine zz_br rfl (fun h68 => ?_) (fun h68 => absurd (by first | exact h68 | exact Decidable.not_not.mp h68) (eN0 (Or.inl (by first | exact h62 | exact Decidable.not_not.mp h62))))
        refine lp_rgs (on := on) (i := i) (was := was) (acc := acc) (K := (g_e D v n i).1) (x := (g_e D v n i).2.2) hP hQ hC hB7 f5 f6 hI hi1 k1 k2 hpos a2 hq8 q1 (fun σ2 P2 Q2 F2 c2 => ?_)
        refine zz_gsn 1 rfl ?_
        refine zz_jp rfl ?_
        rw [hw1]
        refine ih (i + 1) _ σ2 _ _ i9 (z.symm.trans hc) (fun x hx2 => ?_) P2 Q2 (hI.x hC k1 k2 hp1) (by rw [es, hs]) hb2 (c2.trans hcl) (hF.tr F2)
        by_cases ex : x = i
        · rw [ex]
          exact hct
        · exact hx x (Nat.lt_of_le_of_ne (Nat.le_of_lt_succ hx2) ex)
      · refine zz_gsn 2 rfl ?_
        refine zz_br rfl (fun h65 => ?_) (fun h65 => ?_)
        · refine lp_rgs (on := on) (i := i) (was := was) (acc := acc) (K := (g_e D v n i).1) (x := (g_e D v n i).2.2) hP hQ hC hB7 f5 f6 hI hi1 k1 k2 hpos a2 hq8 q1 (fun σ2 P2 Q2 F2 c2 => ?_)
          refine zz_gsn 1 rfl ?_
          refine zz_jp rfl ?_
          rw [hw1]
          refine ih (i + 1) _ σ2 _ _ i9 (z.symm.trans hc) (fun x hx2 => ?_) P2 Q2 (hI.x hC k1 k2 hp1) (by rw [es, hs]) hb2 (c2.trans hcl) (hF.tr F2)
          by_cases ex : x = i
          · rw [ex]
            exact hct
          · exact hx x (Nat.lt_of_le_of_ne (Nat.le_of_lt_succ hx2) ex)
        · refine zz_gsn 2 rfl ?_
          refine zz_br rfl (fun h68 => ?_) (fun h68 => absurd (by first | exact h68 | exact Decidable.not_not.mp h68) (eN0 (Or.inr (by first | exact h65 | exact Decidable.not_not.mp h65))))
          refine lp_rgs (on := on) (i := i) (was := was) (acc := acc) (K := (g_e D v n i).1) (x := (g_e D v n i).2.2) hP hQ hC hB7 f5 f6 hI hi1 k1 k2 hpos a2 hq8 q1 (fun σ2 P2 Q2 F2 c2 => ?_)
          refine zz_gsn 1 rfl ?_
          refine zz_jp rfl ?_
          rw [hw1]
          refine ih (i + 1) _ σ2 _ _ i9 (z.symm.trans hc) (fun x hx2 => ?_) P2 Q2 (hI.x hC k1 k2 hp1) (by rw [es, hs]) hb2 (c2.trans hcl) (hF.tr F2)
          by_cases ex : x = i
          · rw [ex]
            exact hct
          · exact hx x (Nat.lt_of_le_of_ne (Nat.le_of_lt_succ hx2) ex)
