/-! the reference: holds, shares, from -/
theorem MT.tr {σ0 σ1 σ2 : zz_M} {m n : Nat} {f g : Nat → Int} (h : MT σ0 σ1 m n f) (h2 : MT σ1 σ2 m n g) : MT σ0 σ2 m n g := ⟨h.1.tr h2.1, h2.2⟩
theorem MT.mp {σ0 σ : zz_M} {m n s : Nat} {f : Nat → Int} {W : zz_W} (h : MT σ0 σ m n f) (hP : MP σ0 m s W) : MP σ m s W := hP.ff ((h.1 m (by omega)).1 1203) (fun a y1 y2 => funext (h.1 a (by omega)).2)
def z_no : Nat → Bool := fun _ => false
theorem z_ab_0 (c : Nat) : z_ab z_no z_no c = 0 := rfl
theorem z_ab_t {A : Nat → Bool} {c : Nat} : z_ab A z_no c = 1 ↔ A c = true := by
  unfold z_ab z_no
  cases A c <;> decide
theorem h_n2 {I : zz_I} (ho : i_ok I) : (IH I).n ≤ 20000 := Nat.le_trans (h_nn ho) (by decide)
theorem t_Mo_holds {X : zz_X} {σ : zz_M} {m : Nat} {G : zz_J} {v : Int} (hG : RG σ m G) (ok : g_ok G) : zz_T X 3 p_Mo_holds [zP 12 0 0 m, zI v] σ (fun r σ' => r = some (zI (a_holds G v)) ∧ RG σ' m G ∧ zz_F (A_rf m) σ σ') := by
  refine zz_mk k_Mo_holds o_Mo_holds rfl rfl (Nat.le_of_ble_eq_true rfl) ?_
  show zz_G X 3 p_Mo_holds 0 [zP 12 0 0 m, zI v] [] σ _
  obtain ⟨hI, hT, hO, hF, hM, h10⟩ := id hG
  obtain ⟨⟨ho, hfx⟩, okt, oko, okm⟩ := id ok
  have hk6 := ho.1.2.2.1
  rcases Classical.em (vz G.I.ho G.I.k v) with hv | hv
  · obtain ⟨w, rfl⟩ : ∃ w : Nat, v = (w : Nat) := ⟨v.toNat, by omega⟩
    obtain ⟨z0, w1, w2⟩ := id hv
    obtain ⟨hone, ⟨q1, q2, q3, q4⟩, hV⟩ := ri_y hI z0
    obtain ⟨⟨r1, r2, r3⟩, r4, r5, r6, r7⟩ := id hV
    have hw1 : w ≤ G.I.k := by omega
    obtain ⟨hS, hq1, hq2⟩ := r4 w hw1
    have hc0 : σ.1 1203 m = ((IH G.I).n : Nat) := hS.2.2.1.1
    have hn0 : (IH G.I).n ≤ 20000 := h_n2 ho
    refine zz_gsn 2 rfl ?_
    refine zz_cv (n := 2) rfl rfl (t_Mo_isVersion) (Nat.le_of_ble_eq_true rfl) (Nat.le_of_ble_eq_true rfl) (Nat.le_of_ble_eq_true rfl) (fun r2 σ2 q2 => ?_)
    obtain ⟨rfl, n2, rfl, e2⟩ := q2
    replace e2 := rv_of hI ho e2
    replace e2 : n2 = 1 := e2.elim (fun z => z.1) (fun z => absurd hv z.2)
    refine zz_br rfl (fun h3 => ?_) (fun h3 => absurd (by first | exact h3 | exact Decidable.not_not.mp h3) (show n2 ≠ 0 by omega))
    refine zz_gsn 1 rfl ?_
    refine zz_cv (n := 1) rfl rfl (t_Mo_forgets (n := (IH G.I).n) hc0 hn0) (Nat.le_of_ble_eq_true rfl) (Nat.le_of_ble_eq_true rfl) (Nat.le_of_ble_eq_true rfl) (fun r7 σ7 q7 => ?_)
    obtain ⟨rfl, M7⟩ := q7
    refine zz_gsn 3 rfl ?_
    refine zz_cv (n := 3) rfl rfl (t_Mo_marks (w := w) (mk := 1) (W := hw (IH G.I) w) (g := fun A => z_ab A z_no) (A0 := z_no) (fun A c => z_ab_1 A _ c) (fun A c x h => z_ab_n1 A _ h) (M7.mp hS) (by omega) hn0 (fun c hc => M7.2 c hc)) (Nat.le_of_ble_eq_true rfl) (Nat.le_of_ble_eq_true rfl) (Nat.le_of_ble_eq_true rfl) (fun r11 σ11 q11 => ?_)
    obtain ⟨rfl, N11⟩ := q11
    have M11 : MT σ σ11 m (IH G.I).n (z_ab (zm_st (z_no) (hw (IH G.I) w) 6) z_no) := M7.tr N11
    refine zz_gsn 2 rfl ?_
    refine zz_cv (n := 2) rfl rfl (t_Mo_marked (n := (IH G.I).n) (f := z_ab (zm_st z_no (hw (IH G.I) w) 6) z_no) (((M11.1 m (by omega)).1 1203).trans hc0) hn0 M11.2) (Nat.le_of_ble_eq_true rfl) (Nat.le_of_ble_eq_true rfl) (Nat.le_of_ble_eq_true rfl) (fun r14 σ14 q14 => ?_)
    obtain ⟨rfl, rfl⟩ := q14
    refine zz_ri rfl (Or.inl rfl) ?_
    exact ⟨congrArg (fun z => some (zI z)) ((z_eq_1 _ _).trans (if_pos hv).symm), M11.rg hG ok⟩
  · refine zz_gsn 2 rfl ?_
    refine zz_cv (n := 2) rfl rfl (t_Mo_isVersion) (Nat.le_of_ble_eq_true rfl) (Nat.le_of_ble_eq_true rfl) (Nat.le_of_ble_eq_true rfl) (fun r2 σ2 q2 => ?_)
    obtain ⟨rfl, n2, rfl, e2⟩ := q2
    replace e2 := rv_of hI ho e2
    replace e2 : n2 = 0 := e2.elim (fun z => absurd z.2 hv) (fun z => z.1)
    refine zz_br rfl (fun h3 => absurd e2 h3) (fun h3 => ?_)
    refine zz_gsn 1 rfl ?_
    refine zz_ri rfl (Or.inl rfl) ?_
    exact ⟨congrArg (fun z => some (zI z)) (if_neg hv).symm, hG, zz_F.rf⟩
theorem t_Mo_shares {X : zz_X} {σ : zz_M} {m : Nat} {G : zz_J} {v w : Int} (hG : RG σ m G) (ok : g_ok G) : zz_T X 3 p_Mo_shares [zP 12 0 0 m, zI v, zI w] σ (fun r σ' => r = some (zI (a_shares G v w)) ∧ RG σ' m G ∧ zz_F (A_rf m) σ σ') := by
  refine zz_mk k_Mo_shares o_Mo_shares rfl rfl (Nat.le_of_ble_eq_true rfl) ?_
  show zz_G X 3 p_Mo_shares 0 [zP 12 0 0 m, zI v, zI w] [] σ _
  obtain ⟨hI, hT, hO, hF, hM, h10⟩ := id hG
  obtain ⟨⟨ho, hfx⟩, okt, oko, okm⟩ := id ok
  have hk6 := ho.1.2.2.1
  rcases Classical.em (vz G.I.ho G.I.k v ∧ vz G.I.ho G.I.k w) with hv | hv
  · obtain ⟨hv1, hv2⟩ := id hv
    obtain ⟨v1, rfl⟩ : ∃ z : Nat, v = (z : Nat) := ⟨v.toNat, by have := hv1.2.1; omega⟩
    obtain ⟨w1, rfl⟩ : ∃ z : Nat, w = (z : Nat) := ⟨w.toNat, by have := hv2.2.1; omega⟩
    have hvl : v1 ≤ G.I.k := by have := hv1.2.2; omega
    have hwl : w1 ≤ G.I.k := by have := hv2.2.2; omega
    obtain ⟨hone, ⟨q1, q2, q3, q4⟩, hV⟩ := ri_y hI hv1.1
    obtain ⟨⟨r1, r2, r3⟩, r4, r5, r6, r7⟩ := id hV
    obtain ⟨hS, -⟩ := r4 v1 hvl
    obtain ⟨hS2, -⟩ := r4 w1 hwl
    have hc0 : σ.1 1203 m = ((IH G.I).n : Nat) := hS.2.2.1.1
    have hn0 : (IH G.I).n ≤ 20000 := h_n2 ho
    refine zz_gsn 2 rfl ?_
    refine zz_cv (n := 2) rfl rfl (t_Mo_isVersion) (Nat.le_of_ble_eq_true rfl) (Nat.le_of_ble_eq_true rfl) (Nat.le_of_ble_eq_true rfl) (fun r2 σ2 q2 => ?_)
    obtain ⟨rfl, n2, rfl, e2⟩ := q2
    replace e2 := rv_of hI ho e2
    replace e2 : n2 = 1 := e2.elim (fun z => z.1) (fun z => absurd hv1 z.2)
    refine zz_br rfl (fun h3 => absurd h3 (show n2 ≠ 0 by omega)) (fun h3 => ?_)
    refine zz_gsn 2 rfl ?_
    refine zz_cv (n := 2) rfl rfl (t_Mo_isVersion) (Nat.le_of_ble_eq_true rfl) (Nat.le_of_ble_eq_true rfl) (Nat.le_of_ble_eq_true rfl) (fun r6 σ6 q6 => ?_)
    obtain ⟨rfl, n6, rfl, e6⟩ := q6
    replace e6 := rv_of hI ho e6
    replace e6 : n6 = 1 := e6.elim (fun z => z.1) (fun z => absurd hv2 z.2)
    refine zz_br rfl (fun h7 => ?_) (fun h7 => absurd (by first | exact h7 | exact Decidable.not_not.mp h7) (show n6 ≠ 0 by omega))
    refine zz_gsn 1 rfl ?_
    refine zz_cv (n := 1) rfl rfl (t_Mo_forgets (n := (IH G.I).n) hc0 hn0) (Nat.le_of_ble_eq_true rfl) (Nat.le_of_ble_eq_true rfl) (Nat.le_of_ble_eq_true rfl) (fun r11 σ11 q11 => ?_)
    obtain ⟨rfl, M11⟩ := q11
    refine zz_gsn 3 rfl ?_
    refine zz_cv (n := 3) rfl rfl (t_Mo_marks (w := v1) (mk := 1) (W := hw (IH G.I) v1) (g := fun A => z_ab A z_no) (A0 := z_no) (fun A c => z_ab_1 A _ c) (fun A c x h => z_ab_n1 A _ h) (M11.mp hS) (by omega) hn0 (fun c hc => M11.2 c hc)) (Nat.le_of_ble_eq_true rfl) (Nat.le_of_ble_eq_true rfl) (Nat.le_of_ble_eq_true rfl) (fun r15 σ15 q15 => ?_)
    obtain ⟨rfl, N15⟩ := q15
    have M15 : MT σ σ15 m (IH G.I).n (z_ab (zm_st (z_no) (hw (IH G.I) v1) 6) z_no) := M11.tr N15
    refine zz_gsn 3 rfl ?_
    refine zz_cv (n := 3) rfl rfl (t_Mo_marks (w := w1) (mk := 2) (W := hw (IH G.I) w1) (g := fun B => z_ab (g_hb G v1) B) (A0 := z_no) (fun A c => z_ab_2 _ A c) (fun A c x h => z_ab_n2 _ A h) (M15.mp hS2) (by omega) hn0 (fun c hc => M15.2 c hc)) (Nat.le_of_ble_eq_true rfl) (Nat.le_of_ble_eq_true rfl) (Nat.le_of_ble_eq_true rfl) (fun r19 σ19 q19 => ?_)
    obtain ⟨rfl, N19⟩ := q19
    have M19 : MT σ σ19 m (IH G.I).n (z_ab (g_hb G v1) (g_hb G w1)) := M15.tr N19
    refine zz_gsn 2 rfl ?_
    refine zz_cv (n := 2) rfl rfl (t_Mo_marked (n := (IH G.I).n) (f := z_ab (g_hb G v1) (g_hb G w1)) (((M19.1 m (by omega)).1 1203).trans hc0) hn0 M19.2) (Nat.le_of_ble_eq_true rfl) (Nat.le_of_ble_eq_true rfl) (Nat.le_of_ble_eq_true rfl) (fun r22 σ22 q22 => ?_)
    obtain ⟨rfl, rfl⟩ := q22
    refine zz_ri rfl (Or.inl rfl) ?_
    exact ⟨congrArg (fun z => some (zI z)) ((z_eq_3 _ _ _).trans (if_pos hv).symm), M19.rg hG ok⟩
  · refine zz_gsn 2 rfl ?_
    refine zz_cv (n := 2) rfl rfl (t_Mo_isVersion) (Nat.le_of_ble_eq_true rfl) (Nat.le_of_ble_eq_true rfl) (Nat.le_of_ble_eq_true rfl) (fun r2 σ2 q2 => ?_)
    obtain ⟨rfl, n2, rfl, e2⟩ := q2
    replace e2 := rv_of hI ho e2
    refine zz_br rfl (fun h3 => ?_) (fun h3 => ?_)
    · refine zz_gsn 1 rfl ?_
      refine zz_ri rfl (Or.inl rfl) ?_
      exact ⟨congrArg (fun z => some (zI z)) (if_neg hv).symm, hG, zz_F.rf⟩
    · refine zz_gsn 2 rfl ?_
      refine zz_cv (n := 2) rfl rfl (t_Mo_isVersion) (Nat.le_of_ble_eq_true rfl) (Nat.le_of_ble_eq_true rfl) (Nat.le_of_ble_eq_true rfl) (fun r6 σ6 q6 => ?_)
      obtain ⟨rfl, n6, rfl, e6⟩ := q6
      replace e6 := rv_of hI ho e6
      refine zz_br rfl (fun h7 => absurd ⟨e2.elim (fun z => z.2) (fun z => absurd z.1 h3), e6.elim (fun z => z.2) (fun z => absurd z.1 h7)⟩ hv) (fun h7 => ?_)
      refine zz_gsn 1 rfl ?_
      refine zz_ri rfl (Or.inl rfl) ?_
      exact ⟨congrArg (fun z => some (zI z)) (if_neg hv).symm, hG, zz_F.rf⟩
theorem lp_rfrom {X : zz_X} {m : Nat} {v d : Int} {G : zz_J} {A : Nat → Bool} {σ : zz_M} {Post : Option zz_V → zz_M → Prop} (hG : RG σ m G) (ok : g_ok G) (hh0 : G.I.ho ≠ 0) (hd : 0 ≤ d) (hf : ∀ c, c < (gW G).n → σ.2 (m + 19) c = z_ab A z_no c) (hc : σ.1 1203 m = ((gW G).n : Nat)) (kk : Post (some (zI (zm_N (gW G).mkr d (gW G).n A))) σ) :
    ∀ (r j : Nat), j + r = (gW G).n → zz_G X 3 p_Mo_from 26 [zP 12 0 0 m, zI v, zI d, zI (zm_N (gW G).mkr d j A), zI (j : Nat)] [] σ Post := by
  intro r
  have hn : (gW G).n ≤ 1890 := h_nn ok.1.1
  have hV := (ri_y hG.1 hh0).2.2
  induction r with
  | zero =>
    intro j hj
    have ej : j = (gW G).n := hj
    rw [← ej] at kk
    refine zz_gsn 3 rfl ?_
    refine zz_br rfl (fun h29 => ?_) (fun h29 => absurd h29 (by rw [hc]; omega))
    refine zz_gsn 1 rfl ?_
    refine zz_ri rfl (Or.inl rfl) ?_
    exact kk
  | succ r ih =>
    intro j hj
    have hjn : j < (gW G).n := by omega
    have hfj := hf j hjn
    have zb := zm_N_b (mkr := (gW G).mkr) (mk := d) (n := j) (A := A)
    have es : zm_N (gW G).mkr d (j + 1) A = zm_N (gW G).mkr d j A + zm_f (zm_P (gW G).mkr d) A j := rfl
    have ey : A j = true → (gW G).mkr j = d → zm_f (zm_P (gW G).mkr d) A j = 1 := fun z1 z2 => by
      unfold zm_f zm_P
      rw [z1, decide_eq_true z2, Bool.or_true]
      rfl
    have en1 : ¬ A j = true → zm_f (zm_P (gW G).mkr d) A j = 0 := fun z1 => by
      unfold zm_f
      cases h : A j
      · rfl
      · exact absurd h z1
    have en2 : ¬ (gW G).mkr j = d → zm_f (zm_P (gW G).mkr d) A j = 0 := fun z2 => by
      unfold zm_f zm_P
      rw [decide_eq_false z2, decide_eq_false (show ¬ d = -1 by omega), Bool.or_false, Bool.and_false]
      rfl
    have e29 : ¬ ((j : Nat) : Int) ≥ σ.1 1203 m := by rw [hc]; omega
    obtain ⟨S, hS⟩ : ∃ S, S = zm_N (gW G).mkr d j A := ⟨_, rfl⟩
    obtain ⟨e, he⟩ : ∃ e, e = zm_f (zm_P (gW G).mkr d) A j := ⟨_, rfl⟩
    rw [← hS] at zb es
    rw [← he] at es ey en1 en2
    rw [← hS]
    have ih2 := ih (j + 1) (by omega)
    rw [es] at ih2
    have hj2 : j < 2000 := by omega
    have hjn0 : j < (IH G.I).n := hjn
    clear ih es hS he hj hjn
    refine zz_gsn 3 rfl ?_
    refine zz_br rfl (fun h29 => absurd h29 e29) (fun h29 => ?_)
    refine zz_gsn 4 rfl ?_
    refine zz_ald rfl (⟨by omega, by omega⟩) ?_
    refine zz_gsn 1 rfl ?_
    refine zz_br rfl (fun h36 => ?_) (fun h36 => ?_)
    · refine zz_gsn 4 rfl ?_
      refine zz_jp rfl ?_
      rw [zw_s (by omega), show zw (S + 0) = S + e from by rw [en1 (fun z => h36 (hfj.trans (z_ab_t.mpr z))), zw_id (by omega) (by omega)]]
      exact ih2
    · refine zz_gsn 2 rfl ?_
      refine zz_cv (n := 2) rfl rfl (t_Mo_deedOf (I := G.I) (c := j) hV ok.1.1 hjn0) (Nat.le_of_ble_eq_true rfl) (Nat.le_of_ble_eq_true rfl) (Nat.le_of_ble_eq_true rfl) (fun r39 σ39 q39 => ?_)
      obtain ⟨rfl, rfl⟩ := q39
      refine zz_gsn 1 rfl ?_
      refine zz_br rfl (fun h41 => ?_) (fun h41 => ?_)
      · refine zz_gsn 4 rfl ?_
        refine zz_jp rfl ?_
        rw [zw_s (by omega), show zw (S + 0) = S + e from by rw [en2 h41, zw_id (by omega) (by omega)]]
        exact ih2
      · refine zz_gsn 1 rfl ?_
        refine zz_jp rfl ?_
        refine zz_gsn 3 rfl ?_
        refine zz_jp rfl ?_
        rw [zw_s (by omega), show zw (S + 1) = S + e from by rw [ey (z_ab_t.mp (hfj.symm.trans (by first | exact h36 | exact Decidable.not_not.mp h36))) (by first | exact h41 | exact Decidable.not_not.mp h41), zw_id (by omega) (by omega)]]
        exact ih2
theorem t_Mo_from {X : zz_X} {σ : zz_M} {m : Nat} {G : zz_J} {v d : Int} (hG : RG σ m G) (ok : g_ok G) : zz_T X 3 p_Mo_from [zP 12 0 0 m, zI v, zI d] σ (fun r σ' => r = some (zI (a_from G v d)) ∧ RG σ' m G ∧ zz_F (A_rf m) σ σ') := by
  refine zz_mk k_Mo_from o_Mo_from rfl rfl (Nat.le_of_ble_eq_true rfl) ?_
  show zz_G X 3 p_Mo_from 0 [zP 12 0 0 m, zI v, zI d, zU, zU] [] σ _
  obtain ⟨hI, hT, hO, hF, hM, h10⟩ := id hG
  obtain ⟨⟨ho, hfx⟩, okt, oko, okm⟩ := id ok
  have hk6 := ho.1.2.2.1
  rcases Classical.em (vz G.I.ho G.I.k v ∧ 0 ≤ d ∧ d < (G.I.k : Nat)) with hv | hv
  · obtain ⟨hv0, hd1⟩ := id hv
    obtain ⟨w, rfl⟩ : ∃ w : Nat, v = (w : Nat) := ⟨v.toNat, by omega⟩
    obtain ⟨z0, w1, w2⟩ := id hv0
    obtain ⟨hone, ⟨q1, q2, q3, q4⟩, hV⟩ := ri_y hI z0
    obtain ⟨⟨r1, r2, r3⟩, r4, r5, r6, r7⟩ := id hV
    have hw1 : w ≤ G.I.k := by omega
    obtain ⟨hS, hq1, hq2⟩ := r4 w hw1
    have hc0 : σ.1 1203 m = ((IH G.I).n : Nat) := hS.2.2.1.1
    have hn0 : (IH G.I).n ≤ 20000 := h_n2 ho
    refine zz_gsn 2 rfl ?_
    refine zz_cv (n := 2) rfl rfl (t_Mo_isVersion) (Nat.le_of_ble_eq_true rfl) (Nat.le_of_ble_eq_true rfl) (Nat.le_of_ble_eq_true rfl) (fun r2 σ2 q2 => ?_)
    obtain ⟨rfl, n2, rfl, e2⟩ := q2
    replace e2 := rv_of hI ho e2
    replace e2 : n2 = 1 := e2.elim (fun z => z.1) (fun z => absurd hv0 z.2)
    refine zz_br rfl (fun h3 => absurd h3 (show n2 ≠ 0 by omega)) (fun h3 => ?_)
    refine zz_gsn 4 rfl ?_
    refine zz_cv (n := 1) rfl rfl (t_Mo_deedMany) (Nat.le_of_ble_eq_true rfl) (Nat.le_of_ble_eq_true rfl) (Nat.le_of_ble_eq_true rfl) (fun r8 σ8 q8 => ?_)
    obtain ⟨rfl, rfl⟩ := q8
    rw [r3]
    refine zz_gsn 3 rfl ?_
    rw [show zw (zw (((G.I.k + 1 : Nat) : Int) - 1) - 1) = ((G.I.k : Nat) : Int) - 1 from by rw [zw_p (by omega) (by omega), zw_id (by omega) (by omega)]; rfl]
    refine zz_cs (n := 3) rfl rfl (t_Mo_in) (Nat.le_of_ble_eq_true rfl) (Nat.le_of_ble_eq_true rfl) (Nat.le_of_ble_eq_true rfl) (fun r12 σ12 q12 => ?_)
    obtain ⟨rfl, n12, rfl, e12⟩ := q12
    refine zz_br rfl (fun h13 => ?_) (fun h13 => absurd (by first | exact h13 | exact Decidable.not_not.mp h13) (show n12 ≠ 0 by omega))
    refine zz_gsn 1 rfl ?_
    refine zz_cv (n := 1) rfl rfl (t_Mo_forgets (n := (IH G.I).n) hc0 hn0) (Nat.le_of_ble_eq_true rfl) (Nat.le_of_ble_eq_true rfl) (Nat.le_of_ble_eq_true rfl) (fun r17 σ17 q17 => ?_)
    obtain ⟨rfl, M17⟩ := q17
    refine zz_gsn 3 rfl ?_
    refine zz_cv (n := 3) rfl rfl (t_Mo_marks (w := w) (mk := 1) (W := hw (IH G.I) w) (g := fun A => z_ab A z_no) (A0 := z_no) (fun A c => z_ab_1 A _ c) (fun A c x h => z_ab_n1 A _ h) (M17.mp hS) (by omega) hn0 (fun c hc => M17.2 c hc)) (Nat.le_of_ble_eq_true rfl) (Nat.le_of_ble_eq_true rfl) (Nat.le_of_ble_eq_true rfl) (fun r21 σ21 q21 => ?_)
    obtain ⟨rfl, N21⟩ := q21
    have M21 : MT σ σ21 m (IH G.I).n (z_ab (zm_st (z_no) (hw (IH G.I) w) 6) z_no) := M17.tr N21
    refine zz_gsn 4 rfl ?_
    have RG2 := M21.rg hG ok
    have z0' := zm_N0 (mkr := (gW G).mkr) (mk := d) 0
    have z1 := lp_rfrom (X := X) (v := (w : Nat)) (d := d) (A := g_hb G w) (Post := fun r σ' => r = some (zI (a_from G (w : Nat) d)) ∧ RG σ' m G ∧ zz_F (A_rf m) σ σ') RG2.1 ok hv0.1 hd1.1 M21.2 (((M21.1 m (by omega)).1 1203).trans hc0) ⟨congrArg (fun z => some (zI z)) (if_pos hv).symm, RG2⟩ (gW G).n 0 (Nat.zero_add _)
    exact z1
  · refine zz_gsn 2 rfl ?_
    refine zz_cv (n := 2) rfl rfl (t_Mo_isVersion) (Nat.le_of_ble_eq_true rfl) (Nat.le_of_ble_eq_true rfl) (Nat.le_of_ble_eq_true rfl) (fun r2 σ2 q2 => ?_)
    obtain ⟨rfl, n2, rfl, e2⟩ := q2
    replace e2 := rv_of hI ho e2
    refine zz_br rfl (fun h3 => ?_) (fun h3 => ?_)
    · refine zz_gsn 1 rfl ?_
      refine zz_ri rfl (Or.inl rfl) ?_
      exact ⟨congrArg (fun z => some (zI z)) (if_neg hv).symm, hG, zz_F.rf⟩
    · refine zz_gsn 4 rfl ?_
      refine zz_cv (n := 1) rfl rfl (t_Mo_deedMany) (Nat.le_of_ble_eq_true rfl) (Nat.le_of_ble_eq_true rfl) (Nat.le_of_ble_eq_true rfl) (fun r8 σ8 q8 => ?_)
      obtain ⟨rfl, rfl⟩ := q8
      have hv0 : vz G.I.ho G.I.k v := e2.elim (fun z => z.2) (fun z => absurd z.1 h3)
      obtain ⟨⟨-, -, r3⟩, -⟩ := (ri_y hI hv0.1).2.2
      rw [r3]
      refine zz_gsn 3 rfl ?_
      rw [show zw (zw (((G.I.k + 1 : Nat) : Int) - 1) - 1) = ((G.I.k : Nat) : Int) - 1 from by rw [zw_p (by omega) (by omega), zw_id (by omega) (by omega)]; rfl]
      refine zz_cs (n := 3) rfl rfl (t_Mo_in) (Nat.le_of_ble_eq_true rfl) (Nat.le_of_ble_eq_true rfl) (Nat.le_of_ble_eq_true rfl) (fun r12 σ12 q12 => ?_)
      obtain ⟨rfl, n12, rfl, e12⟩ := q12
      refine zz_br rfl (fun h13 => absurd ⟨hv0, by omega⟩ hv) (fun h13 => ?_)
      refine zz_gsn 1 rfl ?_
      refine zz_ri rfl (Or.inl rfl) ?_
      exact ⟨congrArg (fun z => some (zI z)) (if_neg hv).symm, hG, zz_F.rf⟩
