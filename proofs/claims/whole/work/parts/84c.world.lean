/-! the class: a turning told -/
/-- one that writes at a, a + 1 -/
abbrev w_sep (h s a : Nat) : Prop := (a + 1 < s ∨ s + 6 < a) ∧ (a + 1 < h + 6 ∨ h + 9 < a)
theorem SP.w {σ σ' : zz_M} {h s a : Nat} {W : zz_W} (hS : SP σ 1890 (h + 5) s W) (hF : zz_F (zz_A2 a) σ σ') (ha : w_sep h s a) : SP σ' 1890 (h + 5) s W := hS.f hF (fun c y1 y2 z => by rcases z with z | z <;> omega) (fun _ c y1 y2 z => by rcases z with z | z <;> omega)
theorem t_wRw {X : zz_X} {σ : zz_M} {h a p k s j B : Nat} {m : Nat} {mk law : Int} {l : List Int} {W : zz_W} (hB : BL σ a l) (hp : p < 100000) (hlen : (l ++ g_rw k W j).length + 2 ≤ p) (hS : SP σ 1890 (h + 5) s W) (ok : w_ok m mk W) (hI : IV law B W) (hB6 : B ≤ 60) (hr : j < 6) (ha : w_sep h s a) : zz_T X 6 p_History_writeRow [zP 3 0 0 h, zP 0 p 0 a, zO (k + 2), zP 7 0 0 (s + 1 + j)] σ (fun r σ' => r = none ∧ BL σ' a (l ++ g_rw k W j) ∧ zz_F (zz_A2 a) σ σ' ∧ SP σ' 1890 (h + 5) s W) := by
  refine zz_mk k_History_writeRow o_History_writeRow rfl rfl (Nat.le_of_ble_eq_true rfl) ?_
  show zz_G X 6 p_History_writeRow 0 [zP 3 0 0 h, zP 0 p 0 a, zO (k + 2), zP 7 0 0 (s + 1 + j), zU, zU] [] σ _
  obtain ⟨s1, s2, s3, s4, s5⟩ := id hS
  obtain ⟨k1, k2⟩ := s1 j hr
  obtain ⟨n1, n2, n3⟩ := s4 (by decide)
  have hl := (IV_bd hI).1 j hr
  have hl2 : (W.R j).length < 100000 := Nat.lt_of_le_of_lt hl (by omega)
  have hR : ∀ c ∈ W.R j, c < 1890 ∧ σ.2 (h + 7) c = W.num c ∧ 0 ≤ W.num c ∧ W.num c ≤ 99 := fun c hc => by
    have z := s5 j hr c hc
    exact ⟨Nat.lt_of_lt_of_le z n2, (n3 c z).1, ok.2.1 c z⟩
  have hra : s + 1 + j ≠ a ∧ s + 1 + j ≠ a + 1 := by
    have := ha.1
    exact ⟨by omega, by omega⟩
  have ha7 : a + 1 < h + 7 ∨ h + 8 < a := by
    have := ha.2
    omega
  have hch := k2 (by decide)
  have hw : l.length + (zz_tx k).length ≤ p := by
    rw [List.length_append] at hlen
    unfold g_rw at hlen
    rw [List.length_append, zt_w_len] at hlen
    omega
  refine zz_gsn 2 rfl ?_
  refine zz_cv (n := 2) rfl rfl (t_Bytes_addWord (k := k) hB hw hp) (Nat.le_of_ble_eq_true rfl) (Nat.le_of_ble_eq_true rfl) (Nat.le_of_ble_eq_true rfl) (fun r2 σ2 q2 => ?_)
  obtain ⟨rfl, p2, g2⟩ := q2
  have e0 : σ2.1 700 (s + 1 + j) = σ.1 700 (s + 1 + j) := (g2 (s + 1 + j) (fun z => z.elim hra.1 hra.2)).1 700
  refine zz_gsn 2 rfl ?_
  rw [e0]
  refine zz_gsn 3 rfl ?_
  exact lp_wrow (σ0 := σ) (n := (W.R j).length) (lf := l ++ g_rw k W j) hp hlen hl2 k1 hra ha7 (fun σ' y F => ⟨rfl, y, F, hS.w F ha⟩) (W.R j) 0 _ (l ++ zt_w k) σ2 (Nat.zero_add _) hch hR (List.append_assoc _ _ _) p2 g2
theorem t_History_writeTurn {X : zz_X} {σ : zz_M} {h a p s B m : Nat} {mk law : Int} {l : List Int} {W : zz_W} (hB : BL σ a l) (hp : p < 100000) (hlen : l.length + 60 + 3 * (w_l 2 W + w_l 3 W + w_l 4 W + w_l 5 W) + 2 ≤ p) (hS : SP σ 1890 (h + 5) s W) (ok : w_ok m mk W) (hI : IV law B W) (hB6 : B ≤ 60) (ha : w_sep h s a) : zz_T X 7 p_History_writeTurn [zP 3 0 0 h, zP 0 p 0 a, zP 9 0 0 s] σ (fun r σ' => r = none ∧ BL σ' a (l ++ g_tu W) ∧ zz_F (zz_A2 a) σ σ') := by
  refine zz_mk k_History_writeTurn o_History_writeTurn rfl rfl (Nat.le_of_ble_eq_true rfl) ?_
  show zz_G X 7 p_History_writeTurn 0 [zP 3 0 0 h, zP 0 p 0 a, zP 9 0 0 s] [] σ _
  have n8 := zt_n_len (W.S 8).toNat
  have n9 := zt_n_len (W.S 9).toNat
  have n10 := zt_n_len (W.S 10).toNat
  have w7 := g_rw_len (k := 7) (r := 0) (W := W) (by decide)
  have w8 := g_rw_len (k := 8) (r := 1) (W := W) (by decide)
  have w10 := g_rw_len (k := 10) (r := 2) (W := W) (by decide)
  have w11 := g_rw_len (k := 11) (r := 3) (W := W) (by decide)
  have w12 := g_rw_len (k := 12) (r := 4) (W := W) (by decide)
  have w13 := g_rw_len (k := 13) (r := 5) (W := W) (by decide)
  have v9 := zt_w_l 9 (by decide)
  have v14 := zt_w_l 14 (by decide)
  have v15 := zt_w_l 15 (by decide)
  have x9 : (zz_tx 9).length = 9 := rfl
  have x14 : (zz_tx 14).length = 9 := rfl
  have x15 : (zz_tx 15).length = 5 := rfl
  have hs := (IV_tell hI hB6).1
  have h8 := (IV_tell hI hB6).2.1
  have e8 : ((W.S 8).toNat : Int) = W.S 8 := Int.toNat_of_nonneg h8.1
  have m7 : σ.1 908 s = W.S 7 := hS.2.1 7 (by decide) (by decide)
  rcases (show W.S 7 = 1 ∨ W.S 7 = 2 ∨ (W.S 7 ≠ 1 ∧ W.S 7 ≠ 2) by omega) with h7 | h7 | h7
  · have eg : g_tu W = zt_w 9 ++ zt_n (W.S 8).toNat ++ g_rw 10 W 2 ++ g_rw 11 W 3 ++ g_rw 12 W 4 ++ g_rw 13 W 5 := if_pos h7
    refine zz_gsn 3 rfl ?_
    refine zz_br rfl (fun h3 => absurd (m7.trans h7) h3) (fun h3 => ?_)
    refine zz_gsn 5 rfl ?_
    rw [show σ.1 909 s = ((W.S 8).toNat : Nat) from (hS.2.1 8 (by decide) (by decide)).trans e8.symm]
    refine zz_cv (n := 4) rfl rfl (t_History_writeCount (k := 9) (n := (W.S 8).toNat) hB hp (by omega) (by omega)) (Nat.le_of_ble_eq_true rfl) (Nat.le_of_ble_eq_true rfl) (Nat.le_of_ble_eq_true rfl) (fun r9 σ9 q9 => ?_)
    obtain ⟨rfl, p9, g9⟩ := q9
    have S9 := hS.w g9 ha
    refine zz_gsn 5 rfl ?_
    refine zz_cv (n := 4) rfl rfl (t_wRw (k := 10) (j := 2) (s := s) (W := W) p9 hp (by simp only [List.length_append]; omega) S9 ok hI hB6 (by decide) ha) (Nat.le_of_ble_eq_true rfl) (Nat.le_of_ble_eq_true rfl) (Nat.le_of_ble_eq_true rfl) (fun r15 σ15 q15 => ?_)
    obtain ⟨rfl, p15, g15, S15⟩ := q15
    refine zz_gsn 5 rfl ?_
    refine zz_cv (n := 4) rfl rfl (t_wRw (k := 11) (j := 3) (s := s) (W := W) p15 hp (by simp only [List.length_append]; omega) S15 ok hI hB6 (by decide) ha) (Nat.le_of_ble_eq_true rfl) (Nat.le_of_ble_eq_true rfl) (Nat.le_of_ble_eq_true rfl) (fun r21 σ21 q21 => ?_)
    obtain ⟨rfl, p21, g21, S21⟩ := q21
    refine zz_gsn 5 rfl ?_
    refine zz_cv (n := 4) rfl rfl (t_wRw (k := 12) (j := 4) (s := s) (W := W) p21 hp (by simp only [List.length_append]; omega) S21 ok hI hB6 (by decide) ha) (Nat.le_of_ble_eq_true rfl) (Nat.le_of_ble_eq_true rfl) (Nat.le_of_ble_eq_true rfl) (fun r27 σ27 q27 => ?_)
    obtain ⟨rfl, p27, g27, S27⟩ := q27
    refine zz_gsn 5 rfl ?_
    refine zz_cv (n := 4) rfl rfl (t_wRw (k := 13) (j := 5) (s := s) (W := W) p27 hp (by simp only [List.length_append]; omega) S27 ok hI hB6 (by decide) ha) (Nat.le_of_ble_eq_true rfl) (Nat.le_of_ble_eq_true rfl) (Nat.le_of_ble_eq_true rfl) (fun r33 σ33 q33 => ?_)
    obtain ⟨rfl, p33, g33, S33⟩ := q33
    refine zz_jp rfl ?_
    refine zz_rv rfl rfl ?_
    rw [eg]
    refine ⟨rfl, ?_, (((g9.tr g15).tr g21).tr g27).tr g33⟩
    simp only [List.append_assoc] at p33 ⊢
    exact p33
  · have eg : g_tu W = zt_w 14 ++ zt_n (W.S 8).toNat ++ g_rw 11 W 3 ++ g_rw 13 W 5 := (if_neg (by omega)).trans (if_pos h7)
    refine zz_gsn 3 rfl ?_
    refine zz_br rfl (fun h3 => ?_) (fun h3 => absurd (m7.symm.trans (by first | exact h3 | exact Decidable.not_not.mp h3)) (by omega))
    refine zz_gsn 3 rfl ?_
    refine zz_br rfl (fun h38 => absurd (m7.trans h7) h38) (fun h38 => ?_)
    refine zz_gsn 5 rfl ?_
    rw [show σ.1 909 s = ((W.S 8).toNat : Nat) from (hS.2.1 8 (by decide) (by decide)).trans e8.symm]
    refine zz_cv (n := 4) rfl rfl (t_History_writeCount (k := 14) (n := (W.S 8).toNat) hB hp (by omega) (by omega)) (Nat.le_of_ble_eq_true rfl) (Nat.le_of_ble_eq_true rfl) (Nat.le_of_ble_eq_true rfl) (fun r44 σ44 q44 => ?_)
    obtain ⟨rfl, p44, g44⟩ := q44
    have S44 := hS.w g44 ha
    refine zz_gsn 5 rfl ?_
    refine zz_cv (n := 4) rfl rfl (t_wRw (k := 11) (j := 3) (s := s) (W := W) p44 hp (by simp only [List.length_append]; omega) S44 ok hI hB6 (by decide) ha) (Nat.le_of_ble_eq_true rfl) (Nat.le_of_ble_eq_true rfl) (Nat.le_of_ble_eq_true rfl) (fun r50 σ50 q50 => ?_)
    obtain ⟨rfl, p50, g50, S50⟩ := q50
    refine zz_gsn 5 rfl ?_
    refine zz_cv (n := 4) rfl rfl (t_wRw (k := 13) (j := 5) (s := s) (W := W) p50 hp (by simp only [List.length_append]; omega) S50 ok hI hB6 (by decide) ha) (Nat.le_of_ble_eq_true rfl) (Nat.le_of_ble_eq_true rfl) (Nat.le_of_ble_eq_true rfl) (fun r56 σ56 q56 => ?_)
    obtain ⟨rfl, p56, g56, S56⟩ := q56
    refine zz_jp rfl ?_
    refine zz_rv rfl rfl ?_
    rw [eg]
    refine ⟨rfl, ?_, (g44.tr g50).tr g56⟩
    simp only [List.append_assoc] at p56 ⊢
    exact p56
  · have eg : g_tu W = zt_w 15 := (if_neg h7.1).trans (if_neg h7.2)
    refine zz_gsn 3 rfl ?_
    refine zz_br rfl (fun h3 => ?_) (fun h3 => absurd (m7.symm.trans (by first | exact h3 | exact Decidable.not_not.mp h3)) (by omega))
    refine zz_gsn 3 rfl ?_
    refine zz_br rfl (fun h38 => ?_) (fun h38 => absurd (m7.symm.trans (by first | exact h38 | exact Decidable.not_not.mp h38)) h7.2)
    refine zz_gsn 2 rfl ?_
    refine zz_cv (n := 2) rfl rfl (t_Bytes_addWord (k := 15) hB (by omega) hp) (Nat.le_of_ble_eq_true rfl) (Nat.le_of_ble_eq_true rfl) (Nat.le_of_ble_eq_true rfl) (fun r60 σ60 q60 => ?_)
    obtain ⟨rfl, p60, g60⟩ := q60
    refine zz_rv rfl rfl ?_
    rw [eg]
    exact ⟨rfl, p60, g60⟩
