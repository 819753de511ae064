/-! the reference: LAW 1 -/
def tc (W : zz_W) : Prop := W.S 7 = 0 ∨ W.S 7 = 3 ∨ (W.S 7 = 1 ∧ W.R 4 ≠ [] ∧ W.R 2 = []) ∨ (W.S 7 = 1 ∧ W.R 4 ≠ [] ∧ W.R 2 ≠ []) ∨ (W.S 7 = 2 ∧ W.S 8 = 0) ∨ (W.S 7 = 2 ∧ 0 < W.S 8 ∧ W.R 3 ≠ [])
theorem tc_OM {W : zz_W} {s N t : Nat} (h : OM W s N t) : tc W ∧ (W.S 7 = 3 → W.R 2 = [] ∧ W.R 4 = []) := by
  rcases h with h | h | h
  · obtain ⟨a7, a3, a5, a2, a4, a0, a8, a6⟩ := h
    have h4 : W.R 4 ≠ [] := fun z => by have := w_nil' z; omega
    refine ⟨?_, fun z => absurd (a7.symm.trans z) (by decide)⟩
    by_cases h2 : W.R 2 = []
    · exact Or.inr (Or.inr (Or.inl ⟨a7, h4, h2⟩))
    · exact Or.inr (Or.inr (Or.inr (Or.inl ⟨a7, h4, h2⟩)))
  · obtain ⟨a7, a2, a4, a5, a3, a0, a8, ag, a6⟩ := h
    refine ⟨?_, fun z => absurd (a7.symm.trans z) (by decide)⟩
    by_cases h8 : W.S 8 = 0
    · exact Or.inr (Or.inr (Or.inr (Or.inr (Or.inl ⟨a7, h8⟩))))
    · exact Or.inr (Or.inr (Or.inr (Or.inr (Or.inr ⟨a7, by omega, fun z => by have := w_nil' z; omega⟩))))
  · obtain ⟨a7, a2, a4, a5⟩ := h
    exact ⟨Or.inr (Or.inl a7), fun _ => ⟨w_nil a2, w_nil a4⟩⟩
def g_pre (W : zz_W) : Prop := (IM W ∧ w_len 1 W ≤ W.S 6 + 1) ∨ (∃ s N t, OM W s N t ∧ w_len 1 W ≤ W.S 6 ∧ s + 2 = 2 * (t + w_l 1 W + 1))
theorem g_run {mk : Int} {W : zz_W} (h : g_pre W) : (W.S 6 < w_len 1 W → W.S 7 = 0) ∧ tc (w_b W) ∧ tc (w_trn mk (w_b W)) ∧ (w_trn mk (w_b W)).n ≤ W.n + 2 ∧ ((w_trn mk (w_trn mk (w_b W))).S 7 = 3 → (w_trn mk (w_trn mk (w_b W))).R 2 = [] ∧ (w_trn mk (w_trn mk (w_b W))).R 4 = []) := by
  have go : ∀ {V : zz_W} {s N t : Nat}, OM V s N t → tc V ∧ tc (w_trn mk V) ∧ (w_trn mk V).n ≤ V.n + 2 ∧ ((w_trn mk (w_trn mk V)).S 7 = 3 → (w_trn mk (w_trn mk V)).R 2 = [] ∧ (w_trn mk (w_trn mk V)).R 4 = []) := fun {V s N t} o => by
    obtain ⟨k1, n1, o1⟩ := t_OM (mk := mk) o
    obtain ⟨k2, n2, o2⟩ := t_OM (mk := mk) o1
    exact ⟨(tc_OM o).1, (tc_OM o1).1, n1, (tc_OM o2).2⟩
  rcases h with ⟨h, hb⟩ | ⟨s, N, t, h, hl, -⟩
  · by_cases hb2 : W.S 6 < w_len 1 W
    · have e : w_b W = w_beg W := if_pos hb2
      obtain ⟨i7, i2, i3, i4, i5, i8, i0⟩ := h
      have hlen : w_len 1 W = (w_l 1 W : Nat) := rfl
      have hT : TM (w_beg W) 0 (w_l 0 W) 0 := by
        refine ⟨rfl, rfl, rfl, Nat.add_zero _, ?_, Nat.add_zero _, rfl, ?_⟩
        · show w_l 1 W = w_l 0 W + 1
          omega
        · show W.S 6 + w_len 1 W = 2 * (w_l 0 W : Int) + 1 - (0 : Nat)
          omega
      obtain ⟨a, b, c, d⟩ := go (Or.inl hT)
      rw [e]
      exact ⟨fun _ => i7, a, b, c, d⟩
    · have e : w_b W = W := if_neg hb2
      have e2 : w_trn mk W = W := t_idle (by rw [h.1]; decide) (by rw [h.1]; decide)
      rw [e, e2, e2]
      exact ⟨fun _ => h.1, Or.inl h.1, Or.inl h.1, Nat.le_add_right _ _, fun z => absurd (h.1.symm.trans z) (by decide)⟩
  · have e : w_b W = W := if_neg (by omega)
    obtain ⟨a, b, c, d⟩ := go h
    rw [e]
    exact ⟨fun z => absurd z (by omega), a, b, c, d⟩
theorem z3_R (W : zz_W) {k : Nat} (hk : k ≠ 3) : (z3 W).R k = W.R k := by
  unfold z3
  split
  · exact zu_n _ _ hk
  · rfl
theorem fin_R {W : zz_W} (h7 : W.S 7 = 3) (h2 : W.R 2 = []) (h4 : W.R 4 = []) : ∀ k, k < 6 → (w_fin W).R k = (w_S 8 0 (w_S 7 0 (w_R 5 [] (w_R 0 (W.R 5) (z3 W))))).R k := by
  rw [z3_y h7, show w_fin W = w_clr (w_R 0 (W.R 5) W) from if_pos h7]
  exact c6 rfl rfl h2.symm rfl h4.symm rfl
theorem fin_S {W : zz_W} (h7 : W.S 7 = 3) : ∀ k, 6 ≤ k → k < 12 → (w_fin W).S k = (w_S 8 0 (w_S 7 0 (w_R 5 [] (w_R 0 (W.R 5) (z3 W))))).S k := by
  rw [z3_y h7, show w_fin W = w_clr (w_R 0 (W.R 5) W) from if_pos h7]
  exact c6s rfl rfl rfl rfl rfl rfl
theorem fin_n {W : zz_W} (h7 : W.S 7 = 3) : (w_fin W).n = (w_S 8 0 (w_S 7 0 (w_R 5 [] (w_R 0 (W.R 5) (z3 W))))).n ∧ (w_fin W).num = (w_S 8 0 (w_S 7 0 (w_R 5 [] (w_R 0 (W.R 5) (z3 W))))).num := by
  rw [z3_y h7, show w_fin W = w_clr (w_R 0 (W.R 5) W) from if_pos h7]
  exact ⟨rfl, rfl⟩
theorem lp_goes {X : zz_X} {m s : Nat} {mk o : Int} {v : zz_V} {W : zz_W} {σ0 σ : zz_M} {Post : Option zz_V → zz_M → Prop} (hs : s < 182) (hP : MP σ m s (z3 W)) (hg : g_pre W) (hn : W.n + 4 ≤ 20000) (hl : (W.R 1).length < 100000) (hS6 : -800000 < W.S 6 ∧ W.S 6 < 800000) (hS8 : -800000 < W.S 8 ∧ W.S 8 < 800000) (h17 : 0 ≤ σ.1 1207 m ∧ σ.1 1207 m < 800000) (h18 : σ.1 1208 m = 0) (h19 : σ.1 1209 m = 0) (hF : Rg m s W.n σ0 σ)
    (kk : ∀ σ', MP σ' m s (w_one mk W) → Rg m s W.n σ0 σ' → σ'.1 1207 m = σ.1 1207 m + w_oneS mk W → σ'.1 1208 m = w_oneB W → σ'.1 1209 m = w_oneO W → Post none σ') :
    zz_G X 4 p_Mo_goesOn 5 [zP 12 0 0 m, zI (s : Nat), zI o, v] [] σ Post := by
  obtain ⟨g1, g2, g3, g4, g5⟩ := g_run (mk := mk) hg
  have hc1 : zz_ch (σ.2 (m + 2)) (σ.2 (m + 3) (12 * s + 1)) (W.R 1) := by
    have z := hP.1 1 (by decide)
    rw [z3_R W (by decide)] at z
    exact z
  have hlt1 : ∀ c ∈ W.R 1, c < 20000 := fun c hc => by
    have z := hP.2.2.2 1 (by decide) c (by rw [z3_R W (by decide)]; exact hc)
    rw [z3_nn] at z
    omega
  have e6 : σ.2 (m + 3) (12 * s + 6) = W.S 6 := by
    have z := hP.2.1 6 (by decide) (by decide)
    rw [z3_S] at z
    exact z
  have run : ∀ (σ1 : zz_M) (B O : Int) (v : Int), MP σ1 m s (z3 (w_b W)) → Rg m s W.n σ0 σ1 → σ1.1 1207 m = σ.1 1207 m → σ1.1 1208 m = B → σ1.1 1209 m = O → B = w_oneB W → O = w_oneO W → zz_G X 4 p_Mo_goesOn 22 [zP 12 0 0 m, zI (s : Nat), zI o, zI v] [] σ1 Post := fun σ1 B O v P1 F1 x7 x8 x9 eB eO => by
    have b8 := w_b_S8 W
    have bn := w_b_n W
    have tS := w_trn_S8 mk (w_b W)
    have tb := w_trnS_b (w_b W)
    have hb8 : -900000 < (w_b W).S 8 ∧ (w_b W).S 8 < 800001 := by omega
    refine zz_gsn 2 rfl ?_
    refine zz_cv (n := 2) rfl rfl (t_Mo_turns (mk := mk) (W := w_b W) P1 hs (by rw [bn]; omega) (by omega) (by omega) g2) (Nat.le_of_ble_eq_true rfl) (Nat.le_of_ble_eq_true rfl) (Nat.le_of_ble_eq_true rfl) (fun r24 σ24 q24 => ?_)
    obtain ⟨rfl, p24, y24, a24, b24, c24⟩ := q24
    rw [bn] at y24
    refine zz_gsn 2 rfl ?_
    refine zz_cv (n := 2) rfl rfl (t_Mo_turns (mk := mk) (W := w_trn mk (w_b W)) p24 hs (by omega) (by omega) (by omega) g3) (Nat.le_of_ble_eq_true rfl) (Nat.le_of_ble_eq_true rfl) (Nat.le_of_ble_eq_true rfl) (fun r27 σ27 q27 => ?_)
    obtain ⟨rfl, p27, y27, a27, b27, c27⟩ := q27
    have F27 := (F1.tr y24 (Nat.le_refl _)).tr y27 (by have := w_trn_le mk (w_b W); omega)
    have e27 := p27.2.1 7 (by decide) (by decide)
    rw [z3_S] at e27
    obtain ⟨W2, hW2⟩ : ∃ W2, W2 = w_trn mk (w_trn mk (w_b W)) := ⟨_, rfl⟩
    have eone : w_one mk W = w_fin W2 := by rw [hW2]; rfl
    have eS : w_oneS mk W = w_trnS (w_b W) + w_trnS (w_trn mk (w_b W)) := rfl
    rw [← hW2] at p27 e27 g5
    refine zz_gsn 3 rfl ?_
    refine zz_cv (n := 3) rfl rfl (t_Mo_of (s := s) (k := 7) hs (by decide)) (Nat.le_of_ble_eq_true rfl) (Nat.le_of_ble_eq_true rfl) (Nat.le_of_ble_eq_true rfl) (fun r31 σ31 q31 => ?_)
    obtain ⟨rfl, rfl⟩ := q31
    refine zz_gsn 1 rfl ?_
    refine zz_br rfl (fun h33 => ?_) (fun h33 => ?_)
    · refine zz_gsn 6 rfl ?_
      refine zz_cv (n := 3) rfl rfl (t_Mo_of (s := s) (k := 5) hs (by decide)) (Nat.le_of_ble_eq_true rfl) (Nat.le_of_ble_eq_true rfl) (Nat.le_of_ble_eq_true rfl) (fun r41 σ41 q41 => ?_)
      obtain ⟨rfl, rfl⟩ := q41
      refine zz_cv (n := 4) rfl rfl (t_Mo_sets (s := s) (k := 0) hs (by decide)) (Nat.le_of_ble_eq_true rfl) (Nat.le_of_ble_eq_true rfl) (Nat.le_of_ble_eq_true rfl) (fun r42 σ42 q42 => ?_)
      obtain ⟨rfl, h42⟩ := q42
      have P42 := p27.R (k := 0) (by decide) (p27.1 5 (by decide)) (p27.2.2.2 5 (by decide))
      rw [← h42] at P42
      refine zz_gsn 4 rfl ?_
      refine zz_cv (n := 4) rfl rfl (t_Mo_sets (s := s) (k := 5) hs (by decide)) (Nat.le_of_ble_eq_true rfl) (Nat.le_of_ble_eq_true rfl) (Nat.le_of_ble_eq_true rfl) (fun r47 σ47 q47 => ?_)
      obtain ⟨rfl, h47⟩ := q47
      have P47 := P42.R (k := 5) (v := -1) (l := []) (by decide) rfl nil_lt
      rw [← h47] at P47
      refine zz_gsn 4 rfl ?_
      refine zz_cv (n := 4) rfl rfl (t_Mo_sets (s := s) (k := 7) hs (by decide)) (Nat.le_of_ble_eq_true rfl) (Nat.le_of_ble_eq_true rfl) (Nat.le_of_ble_eq_true rfl) (fun r52 σ52 q52 => ?_)
      obtain ⟨rfl, h52⟩ := q52
      have P52 := P47.S (j := 7) (v := 0) (by decide)
      rw [← h52] at P52
      refine zz_gsn 4 rfl ?_
      refine zz_cv (n := 4) rfl rfl (t_Mo_sets (s := s) (k := 8) hs (by decide)) (Nat.le_of_ble_eq_true rfl) (Nat.le_of_ble_eq_true rfl) (Nat.le_of_ble_eq_true rfl) (fun r57 σ57 q57 => ?_)
      obtain ⟨rfl, h57⟩ := q57
      have P57 := P52.S (j := 8) (v := 0) (by decide)
      rw [← h57] at P57
      refine zz_rv rfl rfl ?_
      have h73 : W2.S 7 = 3 := e27.symm.trans h33
      obtain ⟨r2, r4⟩ := g5 h73
      rw [z3_R W2 (by decide)] at P57
      obtain ⟨en, ex⟩ := fin_n h73
      have P := P57.cg (fin_R h73 r2 r4) (fin_S h73) en ex
      have G : Rc m s W.n σ27 σ57 := (((show Rc m s W.n σ27 σ42 by rw [h42]; exact Rc.st (by decide)).tr (show Rc m s W.n σ42 σ47 by rw [h47]; exact Rc.st (by decide)) (Nat.le_refl _)).tr (show Rc m s W.n σ47 σ52 by rw [h52]; exact Rc.st (by decide)) (Nat.le_refl _)).tr (show Rc m s W.n σ52 σ57 by rw [h57]; exact Rc.st (by decide)) (Nat.le_refl _)
      refine kk σ57 (by rw [eone]; exact P) (F27.tr G.g (Nat.le_refl _)) (by rw [G.fl (by decide), a27, a24, x7, eS]; omega) ?_ ?_
      · rw [G.fl (by decide), b27, b24, x8, eB]
      · rw [G.fl (by decide), c27, c24, x9, eO]
    · refine zz_rv rfl rfl ?_
      have P := p27
      rw [z3_n (fun z => h33 (e27.trans z))] at P
      have ef : w_fin W2 = W2 := if_neg (fun z => h33 (e27.trans z))
      refine kk σ27 (by rw [eone, ef]; exact P) F27 (by rw [a27, a24, x7, eS]; omega) ?_ ?_
      · rw [b27, b24, x8, eB]
      · rw [c27, c24, x9, eO]
  refine zz_gsn 4 rfl ?_
  refine zz_cv (n := 3) rfl rfl (t_Mo_of (s := s) (k := 1) hs (by decide)) (Nat.le_of_ble_eq_true rfl) (Nat.le_of_ble_eq_true rfl) (Nat.le_of_ble_eq_true rfl) (fun r9 σ9 q9 => ?_)
  obtain ⟨rfl, rfl⟩ := q9
  refine zz_cv (n := 2) rfl rfl (t_Mo_lengthOf (l := W.R 1) hc1 hlt1 hl) (Nat.le_of_ble_eq_true rfl) (Nat.le_of_ble_eq_true rfl) (Nat.le_of_ble_eq_true rfl) (fun r10 σ10 q10 => ?_)
  obtain ⟨rfl, rfl⟩ := q10
  refine zz_gsn 5 rfl ?_
  refine zz_cv (n := 3) rfl rfl (t_Mo_of (s := s) (k := 6) hs (by decide)) (Nat.le_of_ble_eq_true rfl) (Nat.le_of_ble_eq_true rfl) (Nat.le_of_ble_eq_true rfl) (fun r16 σ16 q16 => ?_)
  obtain ⟨rfl, rfl⟩ := q16
  rw [e6]
  refine zz_br rfl (fun h17 => ?_) (fun h17 => ?_)
  · have eb : w_b W = W := if_neg (show ¬ W.S 6 < (((W.R 1).length : Nat) : Int) by omega)
    refine run σ 0 0 _ (by rw [eb]; exact hP) hF rfl h18 h19 ?_ ?_
    · exact (if_neg (show ¬ W.S 6 < (((W.R 1).length : Nat) : Int) by omega)).symm
    · exact (if_neg (fun z => absurd (show W.S 6 < (((W.R 1).length : Nat) : Int) from z.1) (by omega))).symm
  · have h170 : W.S 6 < w_len 1 W := by
      show W.S 6 < (((W.R 1).length : Nat) : Int)
      omega
    have h70 := g1 h170
    have Pn := hP
    rw [z3_n (by rw [h70]; decide)] at Pn
    refine zz_gsn 3 rfl ?_
    refine zz_cv (n := 3) rfl rfl (t_Mo_begins (W := W) Pn hs hl (by omega)) (Nat.le_of_ble_eq_true rfl) (Nat.le_of_ble_eq_true rfl) (Nat.le_of_ble_eq_true rfl) (fun r21 σ21 q21 => ?_)
    obtain ⟨rfl, p21, y21, a21, b21, c21⟩ := q21
    have eb : w_b W = w_beg W := if_pos h170
    refine run σ21 1 0 _ (by rw [eb, z3_n (by show (1 : Int) ≠ 3; decide)]; exact p21) (hF.tr y21 (Nat.le_refl _)) a21 b21 (by rw [c21, if_neg (fun z => z h70)]) ?_ ?_
    · exact (if_pos h170).symm
    · exact (if_neg (fun z => z.2 h70)).symm
theorem t_Mo_goesOn {X : zz_X} {σ : zz_M} {m s : Nat} {mk o : Int} {W V : zz_W} (hP : MP σ m s W) (hs : s < 182) (hc : (o = 0 ∧ V = W ∧ W.S 7 ≠ 3) ∨ (o = 1 ∧ V = w_dis W ∧ (W.S 7 = 0 ∨ W.S 7 = 1 ∨ (W.S 7 = 2 ∧ W.S 8 = 0 ∧ W.R 5 ≠ []) ∨ (W.S 7 = 2 ∧ W.S 8 ≠ 0)))) (hg : g_pre V) (hn : V.n = W.n) (hn4 : W.n + 4 ≤ 20000) (hl : (V.R 1).length < 100000) (hS6 : -700000 < W.S 6 ∧ W.S 6 < 700000) (hS8 : -700000 < W.S 8 ∧ W.S 8 < 700000) (hV6 : -800000 < V.S 6 ∧ V.S 6 < 800000) (hV8 : -800000 < V.S 8 ∧ V.S 8 < 800000) (h17 : 0 ≤ σ.1 1207 m ∧ σ.1 1207 m < 800000) (h18 : σ.1 1208 m = 0) (h19 : σ.1 1209 m = 0) : zz_T X 4 p_Mo_goesOn [zP 12 0 0 m, zI (s : Nat), zI o] σ (fun r σ' => r = none ∧ MP σ' m s (w_one mk V) ∧ Rg m s W.n σ σ' ∧ σ'.1 1207 m = σ.1 1207 m + w_oneS mk V ∧ σ'.1 1208 m = w_oneB V ∧ σ'.1 1209 m = w_oneO V) := by
  refine zz_mk k_Mo_goesOn o_Mo_goesOn rfl rfl (Nat.le_of_ble_eq_true rfl) ?_
  show zz_G X 4 p_Mo_goesOn 0 [zP 12 0 0 m, zI (s : Nat), zI o, zU] [] σ _
  rcases hc with ⟨ho, hV, h7⟩ | ⟨ho, hV, hc⟩
  · subst hV
    refine zz_gsn 1 rfl ?_
    refine zz_br rfl (fun h1 => ?_) (fun h1 => absurd ho h1)
    refine lp_goes (mk := mk) (W := V) (σ0 := σ) hs (by rw [z3_n h7]; exact hP) hg (by omega) hl (by omega) (by omega) h17 h18 h19 Rg.rf (fun σ' a b c d e => ⟨rfl, a, b, c, d, e⟩)
  · refine zz_gsn 1 rfl ?_
    refine zz_br rfl (fun h1 => absurd h1 (by omega)) (fun h1 => ?_)
    refine zz_gsn 2 rfl ?_
    refine zz_cv (n := 2) rfl rfl (t_Mo_takenBy (W := W) hP hs (by omega) (by omega) (by omega) hc) (Nat.le_of_ble_eq_true rfl) (Nat.le_of_ble_eq_true rfl) (Nat.le_of_ble_eq_true rfl) (fun r4 σ4 q4 => ?_)
    obtain ⟨rfl, p4, g4⟩ := q4
    rw [← hV] at p4
    refine lp_goes (mk := mk) (W := V) (σ0 := σ) hs p4 hg (by omega) hl (by omega) (by omega) (by rw [g4.fl (by decide)]; exact h17) ((g4.fl (by decide)).trans h18) ((g4.fl (by decide)).trans h19) (by rw [hn]; exact g4.g) (fun σ' a b c d e => ⟨rfl, a, by rw [hn] at b; exact b, by rw [g4.fl (by decide)] at c; exact c, d, e⟩)
