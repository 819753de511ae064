/-! the mill: splitting -/
theorem zz_div_n {a d : Nat} (ha : a < 2147483648) (h0 : 0 < d) (hd : d < 2147483648) : zz_div (a : Int) (d : Int) = ((a / d : Nat) : Int) := by
  unfold zz_div zz_b
  have e1 : Int32.ofInt (a : Int) = nI a := (zz_ofN ha).symm
  have e2 : Int32.ofInt (d : Int) = nI d := (zz_ofN hd).symm
  rw [e1, e2]
  show (nI a / nI d).toInt = _
  rw [pk_div (by omega) h0 (by omega), nI_toInt]
  have := Nat.div_le_self a d
  omega
theorem SP.lay {σ σ' : zz_M} {p m s q : Nat} {W : zz_W} {l : List Int} {a b : Int} (h : SP σ p m s W) (hL : Lay m l a b p q σ σ') : SP σ' p m s W := by
  obtain ⟨h1, h2, h3, h4, h5⟩ := h
  obtain ⟨m1, m2, -⟩ := hL
  refine ⟨fun k hk => ?_, fun j a1 a2 => ?_, ?_, fun hp => ?_, h5⟩
  · rw [m1, m2 (m + 3) (by omega)]
    exact h1 k hk
  · rw [m1]
    exact h2 j a1 a2
  · rw [m1]
    exact h3
  · rw [m1, m2 (m + 2) (by omega), m2 (m + 4) (by omega)]
    exact h4 hp
theorem Lay.g {σ σ' : zz_M} {p m s q n : Nat} {l : List Int} {a b : Int} (hL : Lay m l a b p q σ σ') : Mg s m n σ σ' := by
  obtain ⟨m1, m2, -⟩ := hL
  refine ⟨fun f a _ => by rw [m1], fun a i h => ?_⟩
  by_cases e : a = m + 6
  · exact absurd (Or.inr e) h
  · rw [m2 a e]
theorem Hd.eq {m p q : Nat} {L : List Int} {σ σ' : zz_M} (h : Hd m p q L σ) (e : σ'.2 = σ.2) : Hd m p q L σ' := fun hp => ⟨(h hp).1, fun i x hx => by rw [e]; exact (h hp).2 i x hx⟩
/-- both rows are laid -/
theorem Hd.of {m p q : Nat} {A B : List Int} {σ σ1 σ2 : zz_M} (h1 : Lay m A 0 1 p q σ σ1) (h2 : Lay m B ((A.length : Int) + B.length - 1) (-1) p q σ1 σ2) (hq : 0 < p → (A ++ B.reverse).length ≤ q) : Hd m p q (A ++ B.reverse) σ2 := by
  intro hp
  refine ⟨hq hp, fun h x hx => ?_⟩
  have hl : h < (A ++ B.reverse).length := (List.getElem?_eq_some_iff.mp hx).1
  have hlen : (A ++ B.reverse).length = A.length + B.length := by rw [List.length_append, List.length_reverse]
  have hhq : h < q := Nat.lt_of_lt_of_le hl (hq hp)
  obtain ⟨a1, a2⟩ := h1.2.2 hp h hhq
  obtain ⟨b1, b2⟩ := h2.2.2 hp h hhq
  have e1 : ((h : Int) - 0) * 1 = h := by omega
  have e2 : ((h : Int) - ((A.length : Int) + B.length - 1)) * (-1) = (A.length : Int) + B.length - 1 - h := by omega
  have n1 : 0 ≤ (A.length : Int) + B.length - 1 - h := by omega
  by_cases hA : h < A.length
  · have w1 : w_at A 0 1 h = some x := by
      unfold w_at
      rw [e1, if_pos (by omega), Int.toNat_natCast]
      rw [List.getElem?_append_left hA] at hx
      exact hx
    have w2 : w_at B ((A.length : Int) + B.length - 1) (-1) h = none := by
      unfold w_at
      rw [e2, if_pos n1]
      have : B.length ≤ ((A.length : Int) + B.length - 1 - h).toNat := by omega
      exact List.getElem?_eq_none this
    rw [b2 w2]
    exact a1 x w1
  · have hA2 : A.length ≤ h := by omega
    have w2 : w_at B ((A.length : Int) + B.length - 1) (-1) h = some x := by
      unfold w_at
      rw [e2, if_pos n1]
      rw [List.getElem?_append_right hA2, List.getElem?_reverse (by omega)] at hx
      rw [← hx]
      congr 1
      omega
    exact b1 x w2
theorem w_laid_len (i j : Nat) (W : zz_W) : (w_laid i j W).length = (W.R i).length + (W.R j).length := by
  unfold w_laid
  rw [List.length_append, List.length_reverse, List.length_map, List.length_map]
theorem t_Mill_split {X : zz_X} {σ : zz_M} {p q m s i j : Nat} {W : zz_W} {mk : Int} (hSP : SP σ p m s W) (hij : (i = 0 ∧ j = 1) ∨ (i = 1 ∧ j = 0)) (hmk : σ.1 406 m = mk) (hp : 0 < p → (w_spl mk i j W).n ≤ p) (hpb : p < 100000) (hqb : q < 100000) (hl : ∀ k, k < 6 → (W.R k).length < 40000) (hq : 0 < p → (w_laid i j W).length ≤ q) : zz_T X 4 p_Mill_split [zP 4 p q m, zP 9 0 0 s, zP 7 0 0 (s + 1 + i), zP 7 0 0 (s + 1 + j)] σ (fun r σ' => r = none ∧ SP σ' p m s (w_spl mk i j W) ∧ Mg s m W.n σ σ' ∧ σ'.1 401 m = 1 ∧ σ'.1 402 m = (if 0 < W.S 9 ∨ 0 < W.S 10 then 1 else 0) ∧ σ'.1 406 m = mk ∧ σ'.1 407 m = σ.1 407 m) := by
  refine zz_mk k_Mill_split o_Mill_split rfl rfl (Nat.le_of_ble_eq_true rfl) ?_
  show zz_G X 4 p_Mill_split 0 [zP 4 p q m, zP 9 0 0 s, zP 7 0 0 (s + 1 + i), zP 7 0 0 (s + 1 + j), zU, zU, zU] [] σ _
  have hi : i < 6 := by omega
  have hj : j < 6 := by omega
  have hne : i ≠ j := by omega
  have ei : σ.1 701 (s + 1 + i) = ((W.R i).length : Nat) := (hSP.1 i hi).1
  have ej : σ.1 701 (s + 1 + j) = ((W.R j).length : Nat) := (hSP.1 j hj).1
  have e9 : σ.1 910 s = W.S 9 := hSP.2.1 9 (by decide) (by decide)
  have e10 : σ.1 911 s = W.S 10 := hSP.2.1 10 (by decide) (by decide)
  have hli := hl i hi
  have hlj := hl j hj
  have hLl := w_laid_len i j W
  obtain ⟨L, hLdef⟩ : ∃ L, L = w_laid i j W := ⟨_, rfl⟩
  rw [← hLdef] at hLl hq
  have hdv : L.length / 2 ≤ L.length := Nat.div_le_self _ _
  refine zz_gsn 2 rfl ?_
  refine zz_ptz rfl (by first | exact Or.inl rfl | exact Or.inr rfl | omega) ?_
  refine zz_gsn 3 rfl ?_
  refine zz_br rfl (fun h6 => ?_) (fun h6 => ?_)
  · refine zz_gsn 1 rfl ?_
    refine zz_jp rfl ?_
    refine zz_ptz rfl (by first | exact Or.inl rfl | exact Or.inr rfl | omega) ?_
    refine zz_gsn 8 rfl ?_
    refine zz_dv rfl (by decide) ?_
    refine zz_gsn 5 rfl ?_
    refine zz_cv (n := 4) rfl rfl (t_Mill_lay (s := s) (j := i) (W := W) (SP.mf (SP.mf hSP (by omega)) (by omega)) hi (Or.inl rfl) (by omega) (by omega) hqb) (Nat.le_of_ble_eq_true rfl) (Nat.le_of_ble_eq_true rfl) (Nat.le_of_ble_eq_true rfl) (fun r28 σ28 q28 => ?_)
    obtain ⟨rfl, y28⟩ := q28
    have hov : (1 : Int) = if 0 < W.S 9 ∨ 0 < W.S 10 then 1 else 0 := by rw [if_pos (Or.inl (by rw [← e9]; exact h6))]
    have ea : zw (σ.1 701 (s + 1 + i) + σ.1 701 (s + 1 + j)) = ((L.length : Nat) : Int) := by rw [ei, ej, zw_id (by omega) (by omega)]; omega
    have ek : zz_div (zw (σ.1 701 (s + 1 + i) + σ.1 701 (s + 1 + j))) 2 = ((L.length / 2 : Nat) : Int) := by rw [ea]; exact zz_div_n (d := 2) (by omega) (by decide) (by decide)
    have p28 := (SP.mf (SP.mf hSP (f := 401) (a := m) (v := 1) (by omega)) (f := 402) (a := m) (v := 1) (by omega)).lay y28
    have v1 : σ28.1 401 m = 1 := by rw [y28.1, sf_f _ _ (by omega), sf_h]
    have v2 : σ28.1 402 m = if 0 < W.S 9 ∨ 0 < W.S 10 then 1 else 0 := by rw [y28.1, sf_h]; exact hov
    have v3 : σ28.1 406 m = mk := by rw [y28.1, sf_f _ _ (by omega), sf_f _ _ (by omega)]; exact hmk
    have v4 : σ28.1 407 m = σ.1 407 m := by rw [y28.1, sf_f _ _ (by omega), sf_f _ _ (by omega)]
    have g28 : Mg s m W.n σ σ28 := ((Mg.mi (Or.inl rfl)).tr (Mg.mi (Or.inr (Or.inl rfl))) (Nat.le_refl _)).tr y28.g (Nat.le_refl _)
    have er1 : zw (((L.length : Nat) : Int) - 1) = ((L.length : Nat) : Int) - 1 := by rw [zw_id (by omega) (by omega)]
    have er2 : zw (((L.length / 2 : Nat) : Int) - 1) = ((L.length / 2 : Nat) : Int) - 1 := by rw [zw_id (by omega) (by omega)]
    refine zz_gsn 6 rfl ?_
    refine zz_cv (n := 4) rfl rfl (t_Mill_lay (s := s) (j := j) (W := W) p28 hj (Or.inr rfl) (by show -100000 < zw (zw (σ.1 701 (s + 1 + i) + σ.1 701 (s + 1 + j)) - 1) ∧ zw (zw (σ.1 701 (s + 1 + i) + σ.1 701 (s + 1 + j)) - 1) < 100000; rw [ea, er1]; omega) (by omega) hqb) (Nat.le_of_ble_eq_true rfl) (Nat.le_of_ble_eq_true rfl) (Nat.le_of_ble_eq_true rfl) (fun r35 σ35 q35 => ?_)
    obtain ⟨rfl, y35⟩ := q35
    have p35 := p28.lay y35
    have hA : ((W.R i).map W.num).length = (W.R i).length := List.length_map ..
    have hB : ((W.R j).map W.num).length = (W.R j).length := List.length_map ..
    have H35 : Hd m p q L σ35 := by
      rw [hLdef]
      refine Hd.of y28 ?_ (fun z => by have := hq z; rw [hLdef] at this; exact this)
      have e : (((W.R i).map W.num).length : Int) + ((W.R j).map W.num).length - 1 = zw (zw (σ.1 701 (s + 1 + i) + σ.1 701 (s + 1 + j)) - 1) := by rw [ea, er1, hA, hB]; omega
      rw [e]
      exact y35
    have g35 : Mg s m W.n σ σ35 := g28.tr y35.g (Nat.le_refl _)
    have v1 : σ35.1 401 m = 1 := by rw [y35.1]; exact v1
    have v2 : σ35.1 402 m = if 0 < W.S 9 ∨ 0 < W.S 10 then 1 else 0 := by rw [y35.1]; exact v2
    have v3 : σ35.1 406 m = mk := by rw [y35.1]; exact v3
    have v4 : σ35.1 407 m = σ.1 407 m := by rw [y35.1]; exact v4
    refine zz_gsn 1 rfl ?_
    refine zz_cv (n := 1) rfl rfl (t_Row_clear) (Nat.le_of_ble_eq_true rfl) (Nat.le_of_ble_eq_true rfl) (Nat.le_of_ble_eq_true rfl) (fun r37 σ37 q37 => ?_)
    obtain ⟨rfl, q37⟩ := q37
    have p37 : SP σ37 p m s (w_R i [] W) := by rw [q37]; exact p35.clr hi
    have g37 : Mc s m W.n σ35 σ37 := by rw [q37]; exact Mc.row hi
    clear q37
    refine zz_gsn 1 rfl ?_
    refine zz_cv (n := 1) rfl rfl (t_Row_clear) (Nat.le_of_ble_eq_true rfl) (Nat.le_of_ble_eq_true rfl) (Nat.le_of_ble_eq_true rfl) (fun r39 σ39 q39 => ?_)
    obtain ⟨rfl, q39⟩ := q39
    have p39 : SP σ39 p m s (w_R j [] (w_R i [] W)) := by rw [q39]; exact p37.clr hj
    have g39 : Mc s m W.n σ37 σ39 := by rw [q39]; exact Mc.row hj
    clear q39
    have gc := g37.tr g39 (Nat.le_refl _)
    have H39 := H35.mc gc
    refine zz_gsn 4 rfl ?_
    have hT : (L.take (L.length / 2)).length = L.length / 2 := by rw [List.length_take]; exact Nat.min_eq_left hdv
    have HT : Hd m p q (L.take (L.length / 2)) σ39 := fun hp => ⟨by rw [hT]; have := (H39 hp).1; omega, fun h x hx => (H39 hp).2 h x (by
      rw [List.getElem?_take] at hx
      split at hx
      · exact hx
      · cases hx)⟩
    obtain ⟨s1, s2, s3, s4⟩ := w_pus_R (mk := mk) (k := i) (L.take (L.length / 2)) (w_R j [] (w_R i [] W))
    obtain ⟨t1, t2, t3, t4⟩ := w_pus_R (mk := mk) (k := j) (L.drop (L.length / 2)).reverse (w_pus mk i (L.take (L.length / 2)) (w_R j [] (w_R i [] W)))
    have hspl : w_spl mk i j W = w_S 10 (w_len 1 (w_pus mk j (L.drop (L.length / 2)).reverse (w_pus mk i (L.take (L.length / 2)) (w_R j [] (w_R i [] W))))) (w_S 9 (w_len 0 (w_pus mk j (L.drop (L.length / 2)).reverse (w_pus mk i (L.take (L.length / 2)) (w_R j [] (w_R i [] W))))) (w_pus mk j (L.drop (L.length / 2)).reverse (w_pus mk i (L.take (L.length / 2)) (w_R j [] (w_R i [] W))))) := by rw [hLdef]; rfl
    have hn2 : 0 < p → (w_pus mk j (L.drop (L.length / 2)).reverse (w_pus mk i (L.take (L.length / 2)) (w_R j [] (w_R i [] W)))).n ≤ p := fun z => by have := hp z; rw [hspl] at this; exact this
    have hRi : (w_R j [] (w_R i [] W)).R i = [] := by
      show (zu (zu W.R i []) j []) i = []
      rw [zu_n _ _ hne, zu_s]
    have hRj : (w_pus mk i (L.take (L.length / 2)) (w_R j [] (w_R i [] W))).R j = [] := by
      rw [s2 j (Ne.symm hne)]
      show (zu (zu W.R i []) j []) j = []
      rw [zu_s]
    refine zz_lse (ls' := [zP 4 p q m, zP 9 0 0 s, zP 7 0 0 (s + 1 + i), zP 7 0 0 (s + 1 + j), zI ((L.length : Nat) : Int), zI ((L.length / 2 : Nat) : Int), zI (((L.length / 2 : Nat) : Int) - 1)]) (by
      rw [← er2, ← ek, ← ea]
      rfl) ?_
    refine lp_spl1 (mk := mk) (W0 := w_R j [] (w_R i [] W)) (L := L.take (L.length / 2)) hi hpb hqb (by omega) _ (L.length / 2) _ σ39 (by omega) p39 (by rw [List.drop_of_length_le (by omega)]; rfl) hRi HT (by rw [gc.m (by omega)]; exact v3) (fun z => Nat.le_trans (by rw [t3]; omega) (hn2 z)) (fun σ4 p4 g4 => ?_)
    refine zz_gsn 2 rfl ?_
    refine zz_lse (ls' := [zP 4 p q m, zP 9 0 0 s, zP 7 0 0 (s + 1 + i), zP 7 0 0 (s + 1 + j), zI ((L.length : Nat) : Int), zI ((L.length / 2 : Nat) : Int), zI ((L.length - (L.length - L.length / 2) : Nat) : Int)]) (by
      have e : L.length - (L.length - L.length / 2) = L.length / 2 := by omega
      rw [e]
      rfl) ?_
    refine lp_spl2 (mk := mk) (W0 := w_pus mk i (L.take (L.length / 2)) (w_R j [] (w_R i [] W))) hj hpb hqb (by omega) _ (L.length - L.length / 2) _ σ4 (by omega) p4 (by rw [Nat.sub_self, List.take_zero]; rfl) hRj (H39.mc g4) (by rw [g4.m (by omega), gc.m (by omega)]; exact v3) hn2 (fun σ5 p5 g5 => ?_)
    have gm : Mc s m W.n σ35 σ5 := (gc.tr g4 (Nat.le_refl _)).tr g5 (by rw [s3]; show W.n ≤ W.n + _; omega)
    have f0 : σ5.1 701 (s + 1) = w_len 0 (w_pus mk j (L.drop (L.length / 2)).reverse (w_pus mk i (L.take (L.length / 2)) (w_R j [] (w_R i [] W)))) := (p5.1 0 (by decide)).1
    have f1 : σ5.1 701 (s + 2) = w_len 1 (w_pus mk j (L.drop (L.length / 2)).reverse (w_pus mk i (L.take (L.length / 2)) (w_R j [] (w_R i [] W)))) := (p5.1 1 (by decide)).1
    refine zz_gsn 10 rfl ?_
    refine zz_rv rfl rfl ?_
    rw [hspl]
    have p6 := (p5.st (j := 9) (v := σ5.1 701 (s + 1)) (by decide)).st (j := 10) (v := σ5.1 701 (s + 2)) (by decide)
    rw [f0, f1] at p6
    have g6 : Mc s m W.n σ35 (zz_sf (zz_sf σ5 910 s (σ5.1 701 (s + 1))) 911 s (σ5.1 701 (s + 2))) := gm.tr ((Mc.st (by decide)).tr (Mc.st (by decide)) (Nat.le_refl _)) (Nat.le_refl _)
    refine ⟨rfl, ?_, g35.tr g6.g (Nat.le_refl _), (g6.m (by omega)).trans v1, (g6.m (by omega)).trans v2, (g6.m (by omega)).trans v3, (g6.m (by omega)).trans v4⟩
    show SP (zz_sf (zz_sf σ5 910 s (σ5.1 701 (s + 1))) 911 s (σ5.1 701 (s + 2))) p m s _
    rw [f0, f1]
    exact p6
  · refine zz_gsn 2 rfl ?_
    refine zz_br rfl (fun h9 => ?_) (fun h9 => ?_)
    · refine zz_gsn 1 rfl ?_
      refine zz_ptz rfl (by first | exact Or.inl rfl | exact Or.inr rfl | omega) ?_
      refine zz_gsn 8 rfl ?_
      refine zz_dv rfl (by decide) ?_
      refine zz_gsn 5 rfl ?_
      refine zz_cv (n := 4) rfl rfl (t_Mill_lay (s := s) (j := i) (W := W) (SP.mf (SP.mf hSP (by omega)) (by omega)) hi (Or.inl rfl) (by omega) (by omega) hqb) (Nat.le_of_ble_eq_true rfl) (Nat.le_of_ble_eq_true rfl) (Nat.le_of_ble_eq_true rfl) (fun r28 σ28 q28 => ?_)
      obtain ⟨rfl, y28⟩ := q28
      have hov : (0 : Int) = if 0 < W.S 9 ∨ 0 < W.S 10 then 1 else 0 := by rw [if_neg (fun z => z.elim (fun z => by rw [← e9] at z; exact absurd z (Int.not_lt.mpr h6)) (fun z => by rw [← e10] at z; exact absurd z (Int.not_lt.mpr h9)))]
      have ea : zw (σ.1 701 (s + 1 + i) + σ.1 701 (s + 1 + j)) = ((L.length : Nat) : Int) := by rw [ei, ej, zw_id (by omega) (by omega)]; omega
      have ek : zz_div (zw (σ.1 701 (s + 1 + i) + σ.1 701 (s + 1 + j))) 2 = ((L.length / 2 : Nat) : Int) := by rw [ea]; exact zz_div_n (d := 2) (by omega) (by decide) (by decide)
      have p28 := (SP.mf (SP.mf hSP (f := 401) (a := m) (v := 1) (by omega)) (f := 402) (a := m) (v := 0) (by omega)).lay y28
      have v1 : σ28.1 401 m = 1 := by rw [y28.1, sf_f _ _ (by omega), sf_h]
      have v2 : σ28.1 402 m = if 0 < W.S 9 ∨ 0 < W.S 10 then 1 else 0 := by rw [y28.1, sf_h]; exact hov
      have v3 : σ28.1 406 m = mk := by rw [y28.1, sf_f _ _ (by omega), sf_f _ _ (by omega)]; exact hmk
      have v4 : σ28.1 407 m = σ.1 407 m := by rw [y28.1, sf_f _ _ (by omega), sf_f _ _ (by omega)]
      have g28 : Mg s m W.n σ σ28 := ((Mg.mi (Or.inl rfl)).tr (Mg.mi (Or.inr (Or.inl rfl))) (Nat.le_refl _)).tr y28.g (Nat.le_refl _)
      have er1 : zw (((L.length : Nat) : Int) - 1) = ((L.length : Nat) : Int) - 1 := by rw [zw_id (by omega) (by omega)]
      have er2 : zw (((L.length / 2 : Nat) : Int) - 1) = ((L.length / 2 : Nat) : Int) - 1 := by rw [zw_id (by omega) (by omega)]
      refine zz_gsn 6 rfl ?_
      refine zz_cv (n := 4) rfl rfl (t_Mill_lay (s := s) (j := j) (W := W) p28 hj (Or.inr rfl) (by show -100000 < zw (zw (σ.1 701 (s + 1 + i) + σ.1 701 (s + 1 + j)) - 1) ∧ zw (zw (σ.1 701 (s + 1 + i) + σ.1 701 (s + 1 + j)) - 1) < 100000; rw [ea, er1]; omega) (by omega) hqb) (Nat.le_of_ble_eq_true rfl) (Nat.le_of_ble_eq_true rfl) (Nat.le_of_ble_eq_true rfl) (fun r35 σ35 q35 => ?_)
      obtain ⟨rfl, y35⟩ := q35
      have p35 := p28.lay y35
      have hA : ((W.R i).map W.num).length = (W.R i).length := List.length_map ..
      have hB : ((W.R j).map W.num).length = (W.R j).length := List.length_map ..
      have H35 : Hd m p q L σ35 := by
        rw [hLdef]
        refine Hd.of y28 ?_ (fun z => by have := hq z; rw [hLdef] at this; exact this)
        have e : (((W.R i).map W.num).length : Int) + ((W.R j).map W.num).length - 1 = zw (zw (σ.1 701 (s + 1 + i) + σ.1 701 (s + 1 + j)) - 1) := by rw [ea, er1, hA, hB]; omega
        rw [e]
        exact y35
      have g35 : Mg s m W.n σ σ35 := g28.tr y35.g (Nat.le_refl _)
      have v1 : σ35.1 401 m = 1 := by rw [y35.1]; exact v1
      have v2 : σ35.1 402 m = if 0 < W.S 9 ∨ 0 < W.S 10 then 1 else 0 := by rw [y35.1]; exact v2
      have v3 : σ35.1 406 m = mk := by rw [y35.1]; exact v3
      have v4 : σ35.1 407 m = σ.1 407 m := by rw [y35.1]; exact v4
      refine zz_gsn 1 rfl ?_
      refine zz_cv (n := 1) rfl rfl (t_Row_clear) (Nat.le_of_ble_eq_true rfl) (Nat.le_of_ble_eq_true rfl) (Nat.le_of_ble_eq_true rfl) (fun r37 σ37 q37 => ?_)
      obtain ⟨rfl, q37⟩ := q37
      have p37 : SP σ37 p m s (w_R i [] W) := by rw [q37]; exact p35.clr hi
      have g37 : Mc s m W.n σ35 σ37 := by rw [q37]; exact Mc.row hi
      clear q37
      refine zz_gsn 1 rfl ?_
      refine zz_cv (n := 1) rfl rfl (t_Row_clear) (Nat.le_of_ble_eq_true rfl) (Nat.le_of_ble_eq_true rfl) (Nat.le_of_ble_eq_true rfl) (fun r39 σ39 q39 => ?_)
      obtain ⟨rfl, q39⟩ := q39
      have p39 : SP σ39 p m s (w_R j [] (w_R i [] W)) := by rw [q39]; exact p37.clr hj
      have g39 : Mc s m W.n σ37 σ39 := by rw [q39]; exact Mc.row hj
      clear q39
      have gc := g37.tr g39 (Nat.le_refl _)
      have H39 := H35.mc gc
      refine zz_gsn 4 rfl ?_
      have hT : (L.take (L.length / 2)).length = L.length / 2 := by rw [List.length_take]; exact Nat.min_eq_left hdv
      have HT : Hd m p q (L.take (L.length / 2)) σ39 := fun hp => ⟨by rw [hT]; have := (H39 hp).1; omega, fun h x hx => (H39 hp).2 h x (by
        rw [List.getElem?_take] at hx
        split at hx
        · exact hx
        · cases hx)⟩
      obtain ⟨s1, s2, s3, s4⟩ := w_pus_R (mk := mk) (k := i) (L.take (L.length / 2)) (w_R j [] (w_R i [] W))
      obtain ⟨t1, t2, t3, t4⟩ := w_pus_R (mk := mk) (k := j) (L.drop (L.length / 2)).reverse (w_pus mk i (L.take (L.length / 2)) (w_R j [] (w_R i [] W)))
      have hspl : w_spl mk i j W = w_S 10 (w_len 1 (w_pus mk j (L.drop (L.length / 2)).reverse (w_pus mk i (L.take (L.length / 2)) (w_R j [] (w_R i [] W))))) (w_S 9 (w_len 0 (w_pus mk j (L.drop (L.length / 2)).reverse (w_pus mk i (L.take (L.length / 2)) (w_R j [] (w_R i [] W))))) (w_pus mk j (L.drop (L.length / 2)).reverse (w_pus mk i (L.take (L.length / 2)) (w_R j [] (w_R i [] W))))) := by rw [hLdef]; rfl
      have hn2 : 0 < p → (w_pus mk j (L.drop (L.length / 2)).reverse (w_pus mk i (L.take (L.length / 2)) (w_R j [] (w_R i [] W)))).n ≤ p := fun z => by have := hp z; rw [hspl] at this; exact this
      have hRi : (w_R j [] (w_R i [] W)).R i = [] := by
        show (zu (zu W.R i []) j []) i = []
        rw [zu_n _ _ hne, zu_s]
      have hRj : (w_pus mk i (L.take (L.length / 2)) (w_R j [] (w_R i [] W))).R j = [] := by
        rw [s2 j (Ne.symm hne)]
        show (zu (zu W.R i []) j []) j = []
        rw [zu_s]
      refine zz_lse (ls' := [zP 4 p q m, zP 9 0 0 s, zP 7 0 0 (s + 1 + i), zP 7 0 0 (s + 1 + j), zI ((L.length : Nat) : Int), zI ((L.length / 2 : Nat) : Int), zI (((L.length / 2 : Nat) : Int) - 1)]) (by
        rw [← er2, ← ek, ← ea]
        rfl) ?_
      refine lp_spl1 (mk := mk) (W0 := w_R j [] (w_R i [] W)) (L := L.take (L.length / 2)) hi hpb hqb (by omega) _ (L.length / 2) _ σ39 (by omega) p39 (by rw [List.drop_of_length_le (by omega)]; rfl) hRi HT (by rw [gc.m (by omega)]; exact v3) (fun z => Nat.le_trans (by rw [t3]; omega) (hn2 z)) (fun σ4 p4 g4 => ?_)
      refine zz_gsn 2 rfl ?_
      refine zz_lse (ls' := [zP 4 p q m, zP 9 0 0 s, zP 7 0 0 (s + 1 + i), zP 7 0 0 (s + 1 + j), zI ((L.length : Nat) : Int), zI ((L.length / 2 : Nat) : Int), zI ((L.length - (L.length - L.length / 2) : Nat) : Int)]) (by
        have e : L.length - (L.length - L.length / 2) = L.length / 2 := by omega
        rw [e]
        rfl) ?_
      refine lp_spl2 (mk := mk) (W0 := w_pus mk i (L.take (L.length / 2)) (w_R j [] (w_R i [] W))) hj hpb hqb (by omega) _ (L.length - L.length / 2) _ σ4 (by omega) p4 (by rw [Nat.sub_self, List.take_zero]; rfl) hRj (H39.mc g4) (by rw [g4.m (by omega), gc.m (by omega)]; exact v3) hn2 (fun σ5 p5 g5 => ?_)
      have gm : Mc s m W.n σ35 σ5 := (gc.tr g4 (Nat.le_refl _)).tr g5 (by rw [s3]; show W.n ≤ W.n + _; omega)
      have f0 : σ5.1 701 (s + 1) = w_len 0 (w_pus mk j (L.drop (L.length / 2)).reverse (w_pus mk i (L.take (L.length / 2)) (w_R j [] (w_R i [] W)))) := (p5.1 0 (by decide)).1
      have f1 : σ5.1 701 (s + 2) = w_len 1 (w_pus mk j (L.drop (L.length / 2)).reverse (w_pus mk i (L.take (L.length / 2)) (w_R j [] (w_R i [] W)))) := (p5.1 1 (by decide)).1
      refine zz_gsn 10 rfl ?_
      refine zz_rv rfl rfl ?_
      rw [hspl]
      have p6 := (p5.st (j := 9) (v := σ5.1 701 (s + 1)) (by decide)).st (j := 10) (v := σ5.1 701 (s + 2)) (by decide)
      rw [f0, f1] at p6
      have g6 : Mc s m W.n σ35 (zz_sf (zz_sf σ5 910 s (σ5.1 701 (s + 1))) 911 s (σ5.1 701 (s + 2))) := gm.tr ((Mc.st (by decide)).tr (Mc.st (by decide)) (Nat.le_refl _)) (Nat.le_refl _)
      refine ⟨rfl, ?_, g35.tr g6.g (Nat.le_refl _), (g6.m (by omega)).trans v1, (g6.m (by omega)).trans v2, (g6.m (by omega)).trans v3, (g6.m (by omega)).trans v4⟩
      show SP (zz_sf (zz_sf σ5 910 s (σ5.1 701 (s + 1))) 911 s (σ5.1 701 (s + 2))) p m s _
      rw [f0, f1]
      exact p6
    · refine zz_gsn 1 rfl ?_
      refine zz_jp rfl ?_
      refine zz_ptz rfl (by first | exact Or.inl rfl | exact Or.inr rfl | omega) ?_
      refine zz_gsn 8 rfl ?_
      refine zz_dv rfl (by decide) ?_
      refine zz_gsn 5 rfl ?_
      refine zz_cv (n := 4) rfl rfl (t_Mill_lay (s := s) (j := i) (W := W) (SP.mf (SP.mf hSP (by omega)) (by omega)) hi (Or.inl rfl) (by omega) (by omega) hqb) (Nat.le_of_ble_eq_true rfl) (Nat.le_of_ble_eq_true rfl) (Nat.le_of_ble_eq_true rfl) (fun r28 σ28 q28 => ?_)
      obtain ⟨rfl, y28⟩ := q28
      have hov : (1 : Int) = if 0 < W.S 9 ∨ 0 < W.S 10 then 1 else 0 := by rw [if_pos (Or.inr (by rw [← e10]; exact h9))]
      have ea : zw (σ.1 701 (s + 1 + i) + σ.1 701 (s + 1 + j)) = ((L.length : Nat) : Int) := by rw [ei, ej, zw_id (by omega) (by omega)]; omega
      have ek : zz_div (zw (σ.1 701 (s + 1 + i) + σ.1 701 (s + 1 + j))) 2 = ((L.length / 2 : Nat) : Int) := by rw [ea]; exact zz_div_n (d := 2) (by omega) (by decide) (by decide)
      have p28 := (SP.mf (SP.mf hSP (f := 401) (a := m) (v := 1) (by omega)) (f := 402) (a := m) (v := 1) (by omega)).lay y28
      have v1 : σ28.1 401 m = 1 := by rw [y28.1, sf_f _ _ (by omega), sf_h]
      have v2 : σ28.1 402 m = if 0 < W.S 9 ∨ 0 < W.S 10 then 1 else 0 := by rw [y28.1, sf_h]; exact hov
      have v3 : σ28.1 406 m = mk := by rw [y28.1, sf_f _ _ (by omega), sf_f _ _ (by omega)]; exact hmk
      have v4 : σ28.1 407 m = σ.1 407 m := by rw [y28.1, sf_f _ _ (by omega), sf_f _ _ (by omega)]
      have g28 : Mg s m W.n σ σ28 := ((Mg.mi (Or.inl rfl)).tr (Mg.mi (Or.inr (Or.inl rfl))) (Nat.le_refl _)).tr y28.g (Nat.le_refl _)
      have er1 : zw (((L.length : Nat) : Int) - 1) = ((L.length : Nat) : Int) - 1 := by rw [zw_id (by omega) (by omega)]
      have er2 : zw (((L.length / 2 : Nat) : Int) - 1) = ((L.length / 2 : Nat) : Int) - 1 := by rw [zw_id (by omega) (by omega)]
      refine zz_gsn 6 rfl ?_
      refine zz_cv (n := 4) rfl rfl (t_Mill_lay (s := s) (j := j) (W := W) p28 hj (Or.inr rfl) (by show -100000 < zw (zw (σ.1 701 (s + 1 + i) + σ.1 701 (s + 1 + j)) - 1) ∧ zw (zw (σ.1 701 (s + 1 + i) + σ.1 701 (s + 1 + j)) - 1) < 100000; rw [ea, er1]; omega) (by omega) hqb) (Nat.le_of_ble_eq_true rfl) (Nat.le_of_ble_eq_true rfl) (Nat.le_of_ble_eq_true rfl) (fun r35 σ35 q35 => ?_)
      obtain ⟨rfl, y35⟩ := q35
      have p35 := p28.lay y35
      have hA : ((W.R i).map W.num).length = (W.R i).length := List.length_map ..
      have hB : ((W.R j).map W.num).length = (W.R j).length := List.length_map ..
      have H35 : Hd m p q L σ35 := by
        rw [hLdef]
        refine Hd.of y28 ?_ (fun z => by have := hq z; rw [hLdef] at this; exact this)
        have e : (((W.R i).map W.num).length : Int) + ((W.R j).map W.num).length - 1 = zw (zw (σ.1 701 (s + 1 + i) + σ.1 701 (s + 1 + j)) - 1) := by rw [ea, er1, hA, hB]; omega
        rw [e]
        exact y35
      have g35 : Mg s m W.n σ σ35 := g28.tr y35.g (Nat.le_refl _)
      have v1 : σ35.1 401 m = 1 := by rw [y35.1]; exact v1
      have v2 : σ35.1 402 m = if 0 < W.S 9 ∨ 0 < W.S 10 then 1 else 0 := by rw [y35.1]; exact v2
      have v3 : σ35.1 406 m = mk := by rw [y35.1]; exact v3
      have v4 : σ35.1 407 m = σ.1 407 m := by rw [y35.1]; exact v4
      refine zz_gsn 1 rfl ?_
      refine zz_cv (n := 1) rfl rfl (t_Row_clear) (Nat.le_of_ble_eq_true rfl) (Nat.le_of_ble_eq_true rfl) (Nat.le_of_ble_eq_true rfl) (fun r37 σ37 q37 => ?_)
      obtain ⟨rfl, q37⟩ := q37
      have p37 : SP σ37 p m s (w_R i [] W) := by rw [q37]; exact p35.clr hi
      have g37 : Mc s m W.n σ35 σ37 := by rw [q37]; exact Mc.row hi
      clear q37
      refine zz_gsn 1 rfl ?_
      refine zz_cv (n := 1) rfl rfl (t_Row_clear) (Nat.le_of_ble_eq_true rfl) (Nat.le_of_ble_eq_true rfl) (Nat.le_of_ble_eq_true rfl) (fun r39 σ39 q39 => ?_)
      obtain ⟨rfl, q39⟩ := q39
      have p39 : SP σ39 p m s (w_R j [] (w_R i [] W)) := by rw [q39]; exact p37.clr hj
      have g39 : Mc s m W.n σ37 σ39 := by rw [q39]; exact Mc.row hj
      clear q39
      have gc := g37.tr g39 (Nat.le_refl _)
      have H39 := H35.mc gc
      refine zz_gsn 4 rfl ?_
      have hT : (L.take (L.length / 2)).length = L.length / 2 := by rw [List.length_take]; exact Nat.min_eq_left hdv
      have HT : Hd m p q (L.take (L.length / 2)) σ39 := fun hp => ⟨by rw [hT]; have := (H39 hp).1; omega, fun h x hx => (H39 hp).2 h x (by
        rw [List.getElem?_take] at hx
        split at hx
        · exact hx
        · cases hx)⟩
      obtain ⟨s1, s2, s3, s4⟩ := w_pus_R (mk := mk) (k := i) (L.take (L.length / 2)) (w_R j [] (w_R i [] W))
      obtain ⟨t1, t2, t3, t4⟩ := w_pus_R (mk := mk) (k := j) (L.drop (L.length / 2)).reverse (w_pus mk i (L.take (L.length / 2)) (w_R j [] (w_R i [] W)))
      have hspl : w_spl mk i j W = w_S 10 (w_len 1 (w_pus mk j (L.drop (L.length / 2)).reverse (w_pus mk i (L.take (L.length / 2)) (w_R j [] (w_R i [] W))))) (w_S 9 (w_len 0 (w_pus mk j (L.drop (L.length / 2)).reverse (w_pus mk i (L.take (L.length / 2)) (w_R j [] (w_R i [] W))))) (w_pus mk j (L.drop (L.length / 2)).reverse (w_pus mk i (L.take (L.length / 2)) (w_R j [] (w_R i [] W))))) := by rw [hLdef]; rfl
      have hn2 : 0 < p → (w_pus mk j (L.drop (L.length / 2)).reverse (w_pus mk i (L.take (L.length / 2)) (w_R j [] (w_R i [] W)))).n ≤ p := fun z => by have := hp z; rw [hspl] at this; exact this
      have hRi : (w_R j [] (w_R i [] W)).R i = [] := by
        show (zu (zu W.R i []) j []) i = []
        rw [zu_n _ _ hne, zu_s]
      have hRj : (w_pus mk i (L.take (L.length / 2)) (w_R j [] (w_R i [] W))).R j = [] := by
        rw [s2 j (Ne.symm hne)]
        show (zu (zu W.R i []) j []) j = []
        rw [zu_s]
      refine zz_lse (ls' := [zP 4 p q m, zP 9 0 0 s, zP 7 0 0 (s + 1 + i), zP 7 0 0 (s + 1 + j), zI ((L.length : Nat) : Int), zI ((L.length / 2 : Nat) : Int), zI (((L.length / 2 : Nat) : Int) - 1)]) (by
        rw [← er2, ← ek, ← ea]
        rfl) ?_
      refine lp_spl1 (mk := mk) (W0 := w_R j [] (w_R i [] W)) (L := L.take (L.length / 2)) hi hpb hqb (by omega) _ (L.length / 2) _ σ39 (by omega) p39 (by rw [List.drop_of_length_le (by omega)]; rfl) hRi HT (by rw [gc.m (by omega)]; exact v3) (fun z => Nat.le_trans (by rw [t3]; omega) (hn2 z)) (fun σ4 p4 g4 => ?_)
      refine zz_gsn 2 rfl ?_
      refine zz_lse (ls' := [zP 4 p q m, zP 9 0 0 s, zP 7 0 0 (s + 1 + i), zP 7 0 0 (s + 1 + j), zI ((L.length : Nat) : Int), zI ((L.length / 2 : Nat) : Int), zI ((L.length - (L.length - L.length / 2) : Nat) : Int)]) (by
        have e : L.length - (L.length - L.length / 2) = L.length / 2 := by omega
        rw [e]
        rfl) ?_
      refine lp_spl2 (mk := mk) (W0 := w_pus mk i (L.take (L.length / 2)) (w_R j [] (w_R i [] W))) hj hpb hqb (by omega) _ (L.length - L.length / 2) _ σ4 (by omega) p4 (by rw [Nat.sub_self, List.take_zero]; rfl) hRj (H39.mc g4) (by rw [g4.m (by omega), gc.m (by omega)]; exact v3) hn2 (fun σ5 p5 g5 => ?_)
      have gm : Mc s m W.n σ35 σ5 := (gc.tr g4 (Nat.le_refl _)).tr g5 (by rw [s3]; show W.n ≤ W.n + _; omega)
      have f0 : σ5.1 701 (s + 1) = w_len 0 (w_pus mk j (L.drop (L.length / 2)).reverse (w_pus mk i (L.take (L.length / 2)) (w_R j [] (w_R i [] W)))) := (p5.1 0 (by decide)).1
      have f1 : σ5.1 701 (s + 2) = w_len 1 (w_pus mk j (L.drop (L.length / 2)).reverse (w_pus mk i (L.take (L.length / 2)) (w_R j [] (w_R i [] W)))) := (p5.1 1 (by decide)).1
      refine zz_gsn 10 rfl ?_
      refine zz_rv rfl rfl ?_
      rw [hspl]
      have p6 := (p5.st (j := 9) (v := σ5.1 701 (s + 1)) (by decide)).st (j := 10) (v := σ5.1 701 (s + 2)) (by decide)
      rw [f0, f1] at p6
      have g6 : Mc s m W.n σ35 (zz_sf (zz_sf σ5 910 s (σ5.1 701 (s + 1))) 911 s (σ5.1 701 (s + 2))) := gm.tr ((Mc.st (by decide)).tr (Mc.st (by decide)) (Nat.le_refl _)) (Nat.le_refl _)
      refine ⟨rfl, ?_, g35.tr g6.g (Nat.le_refl _), (g6.m (by omega)).trans v1, (g6.m (by omega)).trans v2, (g6.m (by omega)).trans v3, (g6.m (by omega)).trans v4⟩
      show SP (zz_sf (zz_sf σ5 910 s (σ5.1 701 (s + 1))) 911 s (σ5.1 701 (s + 2))) p m s _
      rw [f0, f1]
      exact p6
