/-! the reference: a turning told -/
theorem MP.fo {m s : Nat} {σ σ' : zz_M} {W : zz_W} (h : MP σ m s W) (hF : FO m σ σ') : MP σ' m s W := h.ff (hF.1 _ _ (by omega)) (fun a y1 y2 => hF.2 a (by omega))
theorem t_rR {X : zz_X} {σ : zz_M} {m k v j n0 : Nat} {mk : Int} {l : List Int} {W : zz_W} (hB : RO σ m l) (hlen : (l ++ g_rw k W j).length + 2 ≤ 1400) (hP : MP σ m v W) (ok : w_ok n0 mk W) (hn : W.n ≤ 20000) (hj : j < 6) : zz_T X 6 p_Mo_tellsRow [zP 12 0 0 m, zO (k + 2), zI (σ.2 (m + 3) (12 * v + j))] σ (fun r σ' => r = none ∧ RO σ' m (l ++ g_rw k W j) ∧ FO m σ σ' ∧ MP σ' m v W) := by
  refine zz_mk k_Mo_tellsRow o_Mo_tellsRow rfl rfl (Nat.le_of_ble_eq_true rfl) ?_
  show zz_G X 6 p_Mo_tellsRow 0 [zP 12 0 0 m, zO (k + 2), zI (σ.2 (m + 3) (12 * v + j)), zU] [] σ _
  have hw : l.length + (zz_tx k).length ≤ 1400 := by
    unfold g_rw at hlen
    rw [List.length_append, List.length_append, zt_w_len] at hlen
    omega
  have hch := hP.1 j hj
  have hR : ∀ c ∈ W.R j, c < 20000 ∧ σ.2 (m + 1) c = W.num c ∧ 0 ≤ W.num c ∧ W.num c ≤ 99 := fun c hc => by
    have z := ok.1 j c hc
    exact ⟨Nat.lt_of_lt_of_le z hn, hP.2.2.1.2 c z, ok.2.1 c z⟩
  refine zz_gsn 2 rfl ?_
  refine zz_cv (n := 2) rfl rfl (t_Mo_tells (k := k) hB hw) (Nat.le_of_ble_eq_true rfl) (Nat.le_of_ble_eq_true rfl) (Nat.le_of_ble_eq_true rfl) (fun r2 σ2 q2 => ?_)
  obtain ⟨rfl, p2, g2⟩ := q2
  refine zz_gsn 2 rfl ?_
  exact lp_rtrow (σ0 := σ) (lf := l ++ g_rw k W j) hlen (fun σ' y F => ⟨rfl, y, F, hP.fo F⟩) (W.R j) _ (l ++ zt_w k) σ2 hch hR (List.append_assoc _ _ _) p2 g2
theorem t_Mo_tellsState {X : zz_X} {σ : zz_M} {m v n0 : Nat} {mk : Int} {l : List Int} {W : zz_W} (hB : RO σ m l) (hlen : l.length + 60 + 3 * (w_l 2 W + w_l 3 W + w_l 4 W + w_l 5 W) + 2 ≤ 1400) (hP : MP σ m v W) (ok : w_ok n0 mk W) (hn : W.n ≤ 20000) (hv : v < 182) (h7 : W.S 7 = 0 ∨ W.S 7 = 1 ∨ W.S 7 = 2) (h8 : 0 ≤ W.S 8 ∧ W.S 8 ≤ 99) : zz_T X 7 p_Mo_tellsState [zP 12 0 0 m, zI (v : Nat)] σ (fun r σ' => r = none ∧ RO σ' m (l ++ g_tu W) ∧ FO m σ σ') := by
  refine zz_mk k_Mo_tellsState o_Mo_tellsState rfl rfl (Nat.le_of_ble_eq_true rfl) ?_
  show zz_G X 7 p_Mo_tellsState 0 [zP 12 0 0 m, zI (v : Nat), zU] [] σ _
  have n8 := zt_n_len (W.S 8).toNat
  have w10 := g_rw_len (k := 10) (r := 2) (W := W) (by decide)
  have w11 := g_rw_len (k := 11) (r := 3) (W := W) (by decide)
  have w12 := g_rw_len (k := 12) (r := 4) (W := W) (by decide)
  have w13 := g_rw_len (k := 13) (r := 5) (W := W) (by decide)
  have e32 : g_rw 32 W 2 = g_rw 10 W 2 := rfl
  have e33 : g_rw 33 W 3 = g_rw 11 W 3 := rfl
  have e34 : g_rw 34 W 4 = g_rw 12 W 4 := rfl
  have e35 : g_rw 35 W 5 = g_rw 13 W 5 := rfl
  have v9 := zt_w_l 9 (by decide)
  have v14 := zt_w_l 14 (by decide)
  have y30 : zt_w 30 = zt_w 9 := rfl
  have y31 : zt_w 31 = zt_w 14 := rfl
  have y29 : zt_w 29 = zt_w 15 := rfl
  have x29 : l.length + (zz_tx 29).length ≤ 1400 := by show l.length + 5 ≤ 1400; omega
  have x30 : l.length + (zz_tx 30).length ≤ 1400 := by show l.length + 9 ≤ 1400; omega
  have x31 : l.length + (zz_tx 31).length ≤ 1400 := by show l.length + 9 ≤ 1400; omega
  have e8 : ((W.S 8).toNat : Int) = W.S 8 := Int.toNat_of_nonneg h8.1
  have n100 : (W.S 8).toNat < 100 := by omega
  have i1 : (l ++ zt_w 30).length + 2 ≤ 1400 := by rw [y30, List.length_append]; omega
  have i2 : (l ++ zt_w 31).length + 2 ≤ 1400 := by rw [y31, List.length_append]; omega
  have j1 : (l ++ zt_w 30 ++ zt_n (W.S 8).toNat ++ g_rw 32 W 2).length + 2 ≤ 1400 := by rw [y30, e32]; simp only [List.length_append]; omega
  have j2 : (l ++ zt_w 30 ++ zt_n (W.S 8).toNat ++ g_rw 32 W 2 ++ g_rw 33 W 3).length + 2 ≤ 1400 := by rw [y30, e32, e33]; simp only [List.length_append]; omega
  have j3 : (l ++ zt_w 30 ++ zt_n (W.S 8).toNat ++ g_rw 32 W 2 ++ g_rw 33 W 3 ++ g_rw 34 W 4).length + 2 ≤ 1400 := by rw [y30, e32, e33, e34]; simp only [List.length_append]; omega
  have j4 : (l ++ zt_w 30 ++ zt_n (W.S 8).toNat ++ g_rw 32 W 2 ++ g_rw 33 W 3 ++ g_rw 34 W 4 ++ g_rw 35 W 5).length + 2 ≤ 1400 := by rw [y30, e32, e33, e34, e35]; simp only [List.length_append]; omega
  have k1 : (l ++ zt_w 31 ++ zt_n (W.S 8).toNat ++ g_rw 33 W 3).length + 2 ≤ 1400 := by rw [y31, e33]; simp only [List.length_append]; omega
  have k2 : (l ++ zt_w 31 ++ zt_n (W.S 8).toNat ++ g_rw 33 W 3 ++ g_rw 35 W 5).length + 2 ≤ 1400 := by rw [y31, e33, e35]; simp only [List.length_append]; omega
  have m7 : σ.2 (m + 3) (12 * v + 7) = W.S 7 := hP.2.1 7 (by decide) (by decide)
  rcases h7 with h7 | h7 | h7
  · have eg : g_tu W = zt_w 15 := (if_neg (by omega)).trans (if_neg (by omega))
    refine zz_gsn 3 rfl ?_
    refine zz_cv (n := 3) rfl rfl (t_Mo_of (s := v) (k := 7) hv (by decide)) (Nat.le_of_ble_eq_true rfl) (Nat.le_of_ble_eq_true rfl) (Nat.le_of_ble_eq_true rfl) (fun r3 σ3 q3 => ?_)
    obtain ⟨rfl, rfl⟩ := q3
    rw [m7, h7]
    refine zz_gsn 3 rfl ?_
    refine zz_br rfl (fun h7_ => absurd rfl h7_) (fun h7_ => ?_)
    refine zz_gsn 1 rfl ?_
    refine zz_jp rfl ?_
    refine zz_cv (n := 2) rfl rfl (t_Mo_tells (k := 29) hB x29) (Nat.le_of_ble_eq_true rfl) (Nat.le_of_ble_eq_true rfl) (Nat.le_of_ble_eq_true rfl) (fun r16 σ16 q16 => ?_)
    obtain ⟨rfl, p16, g16⟩ := q16
    refine zz_gsn 1 rfl ?_
    refine zz_br rfl (fun h18 => absurd rfl h18) (fun h18 => ?_)
    refine zz_rv rfl rfl ?_
    rw [eg, ← y29]
    exact ⟨rfl, p16, g16⟩
  · have eg : g_tu W = zt_w 9 ++ zt_n (W.S 8).toNat ++ g_rw 10 W 2 ++ g_rw 11 W 3 ++ g_rw 12 W 4 ++ g_rw 13 W 5 := if_pos h7
    refine zz_gsn 3 rfl ?_
    refine zz_cv (n := 3) rfl rfl (t_Mo_of (s := v) (k := 7) hv (by decide)) (Nat.le_of_ble_eq_true rfl) (Nat.le_of_ble_eq_true rfl) (Nat.le_of_ble_eq_true rfl) (fun r3 σ3 q3 => ?_)
    obtain ⟨rfl, rfl⟩ := q3
    rw [m7, h7]
    refine zz_gsn 3 rfl ?_
    refine zz_br rfl (fun h7_ => ?_) (fun h7_ => absurd (by first | exact h7_ | exact Decidable.not_not.mp h7_) (by decide))
    refine zz_gsn 2 rfl ?_
    refine zz_br rfl (fun h12 => absurd rfl h12) (fun h12 => ?_)
    refine zz_gsn 1 rfl ?_
    refine zz_jp rfl ?_
    refine zz_cv (n := 2) rfl rfl (t_Mo_tells (k := 30) hB x30) (Nat.le_of_ble_eq_true rfl) (Nat.le_of_ble_eq_true rfl) (Nat.le_of_ble_eq_true rfl) (fun r16 σ16 q16 => ?_)
    obtain ⟨rfl, p16, g16⟩ := q16
    have P16 := hP.fo g16
    refine zz_gsn 1 rfl ?_
    refine zz_br rfl (fun h18 => ?_) (fun h18 => absurd (by first | exact h18 | exact Decidable.not_not.mp h18) (by decide))
    refine zz_gsn 4 rfl ?_
    refine zz_cv (n := 3) rfl rfl (t_Mo_of (s := v) (k := 8) hv (by decide)) (Nat.le_of_ble_eq_true rfl) (Nat.le_of_ble_eq_true rfl) (Nat.le_of_ble_eq_true rfl) (fun r24 σ24 q24 => ?_)
    obtain ⟨rfl, rfl⟩ := q24
    rw [show σ16.2 (m + 3) (12 * v + 8) = ((W.S 8).toNat : Nat) from (P16.2.1 8 (by decide) (by decide)).trans e8.symm]
    refine zz_cv (n := 2) rfl rfl (t_Mo_tellsNumber (n := (W.S 8).toNat) p16 i1 n100) (Nat.le_of_ble_eq_true rfl) (Nat.le_of_ble_eq_true rfl) (Nat.le_of_ble_eq_true rfl) (fun r25 σ25 q25 => ?_)
    obtain ⟨rfl, p25, g25⟩ := q25
    have P25 := P16.fo g25
    refine zz_gsn 2 rfl ?_
    refine zz_br rfl (fun h28 => absurd rfl h28) (fun h28 => ?_)
    refine zz_gsn 5 rfl ?_
    refine zz_cv (n := 3) rfl rfl (t_Mo_of (s := v) (k := 2) hv (by decide)) (Nat.le_of_ble_eq_true rfl) (Nat.le_of_ble_eq_true rfl) (Nat.le_of_ble_eq_true rfl) (fun r34 σ34 q34 => ?_)
    obtain ⟨rfl, rfl⟩ := q34
    refine zz_cv (n := 3) rfl rfl (t_rR (k := 32) (j := 2) (v := v) (W := W) p25 j1 P25 ok hn (by decide)) (Nat.le_of_ble_eq_true rfl) (Nat.le_of_ble_eq_true rfl) (Nat.le_of_ble_eq_true rfl) (fun r35 σ35 q35 => ?_)
    obtain ⟨rfl, p35, g35, P35⟩ := q35
    refine zz_gsn 5 rfl ?_
    refine zz_cv (n := 3) rfl rfl (t_Mo_of (s := v) (k := 3) hv (by decide)) (Nat.le_of_ble_eq_true rfl) (Nat.le_of_ble_eq_true rfl) (Nat.le_of_ble_eq_true rfl) (fun r41 σ41 q41 => ?_)
    obtain ⟨rfl, rfl⟩ := q41
    refine zz_cv (n := 3) rfl rfl (t_rR (k := 33) (j := 3) (v := v) (W := W) p35 j2 P35 ok hn (by decide)) (Nat.le_of_ble_eq_true rfl) (Nat.le_of_ble_eq_true rfl) (Nat.le_of_ble_eq_true rfl) (fun r42 σ42 q42 => ?_)
    obtain ⟨rfl, p42, g42, P42⟩ := q42
    refine zz_gsn 2 rfl ?_
    refine zz_br rfl (fun h45 => absurd rfl h45) (fun h45 => ?_)
    refine zz_gsn 5 rfl ?_
    refine zz_cv (n := 3) rfl rfl (t_Mo_of (s := v) (k := 4) hv (by decide)) (Nat.le_of_ble_eq_true rfl) (Nat.le_of_ble_eq_true rfl) (Nat.le_of_ble_eq_true rfl) (fun r51 σ51 q51 => ?_)
    obtain ⟨rfl, rfl⟩ := q51
    refine zz_cv (n := 3) rfl rfl (t_rR (k := 34) (j := 4) (v := v) (W := W) p42 j3 P42 ok hn (by decide)) (Nat.le_of_ble_eq_true rfl) (Nat.le_of_ble_eq_true rfl) (Nat.le_of_ble_eq_true rfl) (fun r52 σ52 q52 => ?_)
    obtain ⟨rfl, p52, g52, P52⟩ := q52
    refine zz_gsn 5 rfl ?_
    refine zz_cv (n := 3) rfl rfl (t_Mo_of (s := v) (k := 5) hv (by decide)) (Nat.le_of_ble_eq_true rfl) (Nat.le_of_ble_eq_true rfl) (Nat.le_of_ble_eq_true rfl) (fun r58 σ58 q58 => ?_)
    obtain ⟨rfl, rfl⟩ := q58
    refine zz_cv (n := 3) rfl rfl (t_rR (k := 35) (j := 5) (v := v) (W := W) p52 j4 P52 ok hn (by decide)) (Nat.le_of_ble_eq_true rfl) (Nat.le_of_ble_eq_true rfl) (Nat.le_of_ble_eq_true rfl) (fun r59 σ59 q59 => ?_)
    obtain ⟨rfl, p59, g59, P59⟩ := q59
    refine zz_rv rfl rfl ?_
    rw [eg]
    refine ⟨rfl, ?_, ((((g16.tr g25).tr g35).tr g42).tr g52).tr g59⟩
    rw [y30, e32, e33, e34, e35] at p59
    simp only [List.append_assoc] at p59 ⊢
    exact p59
  · have eg : g_tu W = zt_w 14 ++ zt_n (W.S 8).toNat ++ g_rw 11 W 3 ++ g_rw 13 W 5 := (if_neg (by omega)).trans (if_pos h7)
    refine zz_gsn 3 rfl ?_
    refine zz_cv (n := 3) rfl rfl (t_Mo_of (s := v) (k := 7) hv (by decide)) (Nat.le_of_ble_eq_true rfl) (Nat.le_of_ble_eq_true rfl) (Nat.le_of_ble_eq_true rfl) (fun r3 σ3 q3 => ?_)
    obtain ⟨rfl, rfl⟩ := q3
    rw [m7, h7]
    refine zz_gsn 3 rfl ?_
    refine zz_br rfl (fun h7_ => ?_) (fun h7_ => absurd (by first | exact h7_ | exact Decidable.not_not.mp h7_) (by decide))
    refine zz_gsn 2 rfl ?_
    refine zz_br rfl (fun h12 => ?_) (fun h12 => absurd (by first | exact h12 | exact Decidable.not_not.mp h12) (by decide))
    refine zz_gsn 1 rfl ?_
    refine zz_cv (n := 2) rfl rfl (t_Mo_tells (k := 31) hB x31) (Nat.le_of_ble_eq_true rfl) (Nat.le_of_ble_eq_true rfl) (Nat.le_of_ble_eq_true rfl) (fun r16 σ16 q16 => ?_)
    obtain ⟨rfl, p16, g16⟩ := q16
    have P16 := hP.fo g16
    refine zz_gsn 1 rfl ?_
    refine zz_br rfl (fun h18 => ?_) (fun h18 => absurd (by first | exact h18 | exact Decidable.not_not.mp h18) (by decide))
    refine zz_gsn 4 rfl ?_
    refine zz_cv (n := 3) rfl rfl (t_Mo_of (s := v) (k := 8) hv (by decide)) (Nat.le_of_ble_eq_true rfl) (Nat.le_of_ble_eq_true rfl) (Nat.le_of_ble_eq_true rfl) (fun r24 σ24 q24 => ?_)
    obtain ⟨rfl, rfl⟩ := q24
    rw [show σ16.2 (m + 3) (12 * v + 8) = ((W.S 8).toNat : Nat) from (P16.2.1 8 (by decide) (by decide)).trans e8.symm]
    refine zz_cv (n := 2) rfl rfl (t_Mo_tellsNumber (n := (W.S 8).toNat) p16 i2 n100) (Nat.le_of_ble_eq_true rfl) (Nat.le_of_ble_eq_true rfl) (Nat.le_of_ble_eq_true rfl) (fun r25 σ25 q25 => ?_)
    obtain ⟨rfl, p25, g25⟩ := q25
    have P25 := P16.fo g25
    refine zz_gsn 2 rfl ?_
    refine zz_br rfl (fun h28 => ?_) (fun h28 => absurd (by first | exact h28 | exact Decidable.not_not.mp h28) (by decide))
    refine zz_gsn 5 rfl ?_
    refine zz_cv (n := 3) rfl rfl (t_Mo_of (s := v) (k := 3) hv (by decide)) (Nat.le_of_ble_eq_true rfl) (Nat.le_of_ble_eq_true rfl) (Nat.le_of_ble_eq_true rfl) (fun r41 σ41 q41 => ?_)
    obtain ⟨rfl, rfl⟩ := q41
    refine zz_cv (n := 3) rfl rfl (t_rR (k := 33) (j := 3) (v := v) (W := W) p25 k1 P25 ok hn (by decide)) (Nat.le_of_ble_eq_true rfl) (Nat.le_of_ble_eq_true rfl) (Nat.le_of_ble_eq_true rfl) (fun r42 σ42 q42 => ?_)
    obtain ⟨rfl, p42, g42, P42⟩ := q42
    refine zz_gsn 2 rfl ?_
    refine zz_br rfl (fun h45 => ?_) (fun h45 => absurd (by first | exact h45 | exact Decidable.not_not.mp h45) (by decide))
    refine zz_gsn 5 rfl ?_
    refine zz_cv (n := 3) rfl rfl (t_Mo_of (s := v) (k := 5) hv (by decide)) (Nat.le_of_ble_eq_true rfl) (Nat.le_of_ble_eq_true rfl) (Nat.le_of_ble_eq_true rfl) (fun r58 σ58 q58 => ?_)
    obtain ⟨rfl, rfl⟩ := q58
    refine zz_cv (n := 3) rfl rfl (t_rR (k := 35) (j := 5) (v := v) (W := W) p42 k2 P42 ok hn (by decide)) (Nat.le_of_ble_eq_true rfl) (Nat.le_of_ble_eq_true rfl) (Nat.le_of_ble_eq_true rfl) (fun r59 σ59 q59 => ?_)
    obtain ⟨rfl, p59, g59, P59⟩ := q59
    refine zz_rv rfl rfl ?_
    rw [eg]
    refine ⟨rfl, ?_, ((g16.tr g25).tr g42).tr g59⟩
    rw [y31, e33, e35] at p59
    simp only [List.append_assoc] at p59 ⊢
    exact p59
