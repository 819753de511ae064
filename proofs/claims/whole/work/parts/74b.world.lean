/-! the class: rest, drain -/
def r_f0 (f : Nat → Int) : Nat → Nat → Int
  | 0, _ => -1
  | r + 1, i => if f i ≠ 0 then ((i : Nat) : Int) else r_f0 f r (i + 1)
def w_ri (W : zz_W) : Int := if W.S 7 = 0 ∧ W.S 9 = 0 ∧ W.S 10 = 0 then 1 else 0
def r_sum (law C : Int) : Nat → zz_W → Int
  | 0, _ => 0
  | r + 1, W => if 0 < W.S 11 then w_steps law C (-1) 1 0 W + r_sum law C r (w_deed law C (-1) 1 0 W) else 0
theorem w_ri_of {σ : zz_M} {p m s : Nat} {W : zz_W} {n : Int} (h : SP σ p m s W) (e : (n = 1 ∧ σ.1 908 s = 0 ∧ σ.1 910 s = 0 ∧ σ.1 911 s = 0) ∨ (n = 0 ∧ ¬ (σ.1 908 s = 0 ∧ σ.1 910 s = 0 ∧ σ.1 911 s = 0))) : n = w_ri W := by
  have e7 : σ.1 908 s = W.S 7 := h.2.1 7 (by decide) (by decide)
  have e9 : σ.1 910 s = W.S 9 := h.2.1 9 (by decide) (by decide)
  have e10 : σ.1 911 s = W.S 10 := h.2.1 10 (by decide) (by decide)
  rw [e7, e9, e10] at e
  unfold w_ri
  rcases e with ⟨a, b⟩ | ⟨a, b⟩
  · rw [if_pos b, a]
  · rw [if_neg b, a]
theorem w_steps_v {law C mk kind x : Int} {B : Nat} {W : zz_W} (h : IV law B W) (hB : B ≤ 1000) (hk : 0 ≤ kind ∧ kind ≤ 3) : w_steps law C mk kind x W ≤ 2 * (B : Int) + 10 := by
  obtain ⟨hbl, -, -, h9, h10, -⟩ := h_bds h (by omega)
  have hb := (IV_bd h).1 1 (by decide)
  obtain ⟨cl, -, -, c9, c10, -, -⟩ := w_chg_B law mk kind x W hk
  have c1 := cl 1
  obtain ⟨W1, hW1⟩ : ∃ W1, W1 = w_chg law mk kind x W := ⟨_, rfl⟩
  have hb2 : (W.R 1).length ≤ 2 * B + 1 := hb
  by_cases h0 : law = 0
  · rw [(w_deed_0 h0).2.1, ← hW1]
    rw [← hW1] at c1
    have : w_allS W1 ≤ 2 * (B : Int) + 5 := by
      unfold w_allS
      split
      · show (((W1.R 1).length : Nat) : Int) ≤ _
        omega
      · omega
    omega
  · by_cases h1 : law = 1
    · rw [(w_deed_1 h1).2.1]
      have a := w_trnS_b (w_b (w_chg law mk kind x W))
      have b := w_trnS_b (w_trn mk (w_b (w_chg law mk kind x W)))
      unfold w_oneS
      omega
    · rw [(w_deed_2 h0 h1).2.1, ← hW1]
      have hsh : w_sh kind ≤ 2 := by
        unfold w_sh
        split <;> decide
      have : w_payS (w_sh kind) W1 ≤ 4 := by
        unfold w_payS
        omega
      omega
theorem lp_crest {X : zz_X} {t d s B0 : Nat} {law C : Int} {W0 : zz_W} {σ0 : zz_M} {Post : Option zz_V → zz_M → Prop} (hC : 2 ≤ C ∧ C ≤ 4) (hB : B0 ≤ 60) (kk : ∀ σ', zz_F (A_tr t) σ0 σ' → Post (some (zI (r_f0 (fun i => w_ri (r_dd law C 0 i W0)) 41 0))) σ') :
    ∀ (r i : Nat) (σ : zz_M), i + r = 41 → r_f0 (fun i => w_ri (r_dd law C 0 i W0)) r i = r_f0 (fun i => w_ri (r_dd law C 0 i W0)) 41 0 → IV law (B0 + i) (r_dd law C 0 i W0) → TT σ t law C (r_dd law C 0 i W0) → zz_F (A_tr t) σ0 σ → zz_G X 7 p_Trial_putsTillAtRest 6 [zP 10 0 0 t, zP 2 0 0 d, zP 9 0 0 s, zI (i : Nat)] [] σ Post := by
  intro r
  induction r with
  | zero =>
    intro i σ hi hr hI hT hF
    rw [← hr] at kk
    refine zz_gsn 2 rfl ?_
    refine zz_br rfl (fun h8 => ?_) (fun h8 => absurd h8 (by omega))
    refine zz_gsn 1 rfl ?_
    refine zz_ri rfl (Or.inl rfl) ?_
    exact kk σ hF
  | succ r ih =>
    intro i σ hi hr hI hT hF
    have hI2 := (IV_deed (C := C) (mk := -1) (kind := 0) (x := 0) hI hC (by decide) (fun _ => by decide) (fun z => z.elim (fun z => absurd z (by decide)) (fun z => absurd z (by decide)))).1
    have hy : w_ri (r_dd law C 0 i W0) ≠ 0 → r_f0 (fun i => w_ri (r_dd law C 0 i W0)) (r + 1) i = ((i : Nat) : Int) := fun z => if_pos z
    have hn : ¬ w_ri (r_dd law C 0 i W0) ≠ 0 → r_f0 (fun i => w_ri (r_dd law C 0 i W0)) (r + 1) i = r_f0 (fun i => w_ri (r_dd law C 0 i W0)) r (i + 1) := fun z => if_neg z
    refine zz_gsn 2 rfl ?_
    refine zz_br rfl (fun h8 => absurd h8 (by clear hy hn hr; omega)) (fun h8 => ?_)
    refine zz_gsn 2 rfl ?_
    refine zz_cv (n := 1) rfl rfl (t_State_isAtRest) (Nat.le_of_ble_eq_true rfl) (Nat.le_of_ble_eq_true rfl) (Nat.le_of_ble_eq_true rfl) (fun r11 σ11 q11 => ?_)
    obtain ⟨rfl, n11, rfl, e11⟩ := q11
    replace e11 := w_ri_of hT.2.2 e11
    refine zz_br rfl (fun h12 => ?_) (fun h12 => ?_)
    · clear hy
      have hn := hn (fun y => y (e11.symm.trans h12))
      refine zz_gsn 7 rfl ?_
      refine zz_cv (n := 5) rfl rfl (t_Mill_perform (mk := -1) (x := 0) (kind := 0) hT.2.2 hT.1 hT.2.1 (by omega) (by decide) (fun z => absurd z (Nat.lt_irrefl 0)) (by decide) (by decide) (h_bds hI (by omega)).1 (h_bds hI (by omega)).2.1 (h_bds hI (by omega)).2.2.1 (h_bds hI (by omega)).2.2.2.1 (h_bds hI (by omega)).2.2.2.2.1 (h_bds hI (by omega)).2.2.2.2.2 (fun z => absurd z (Nat.lt_irrefl 0))) (Nat.le_of_ble_eq_true rfl) (Nat.le_of_ble_eq_true rfl) (Nat.le_of_ble_eq_true rfl) (fun r22 σ22 q22 => ?_)
      obtain ⟨rfl, p22, g22, b1_22, b2_22⟩ := q22
      obtain ⟨T22, F22⟩ := hT.step p22 g22
      refine zz_gsn 2 rfl ?_
      refine zz_jp rfl ?_
      rw [zw_s (by clear hn hr; omega)]
      exact ih (i + 1) σ22 (by clear hn hr; omega) (hn.symm.trans hr) hI2 T22 (hF.tr F22)
    · refine zz_gsn 1 rfl ?_
      refine zz_ri rfl (Or.inl rfl) ?_
      have z := hy (fun y => h12 (e11.trans y))
      rw [← hr, z] at kk
      exact kk σ hF
theorem t_Trial_putsTillAtRest {X : zz_X} {σ : zz_M} {t d s m p B0 : Nat} {W : zz_W} (hS : SP σ p m s W) (hs : s + 7 ≤ t ∨ t + 17 ≤ s) (hd : d < t ∨ t + 17 ≤ d) (hI : IV (σ.1 201 d) B0 W) (hB : B0 ≤ 60) (hC : 2 ≤ σ.1 202 d ∧ σ.1 202 d ≤ 4) : zz_T X 7 p_Trial_putsTillAtRest [zP 10 0 0 t, zP 2 0 0 d, zP 9 0 0 s] σ (fun r σ' => r = some (zI (r_f0 (fun i => w_ri (r_dd (σ.1 201 d) (σ.1 202 d) 0 i W)) 41 0)) ∧ zz_F (A_tr t) σ σ') := by
  refine zz_mk k_Trial_putsTillAtRest o_Trial_putsTillAtRest rfl rfl (Nat.le_of_ble_eq_true rfl) ?_
  show zz_G X 7 p_Trial_putsTillAtRest 0 [zP 10 0 0 t, zP 2 0 0 d, zP 9 0 0 s, zU] [] σ _
  refine zz_gsn 3 rfl ?_
  refine zz_cv (n := 3) rfl rfl (t_Trial_begin hS hs hd) (Nat.le_of_ble_eq_true rfl) (Nat.le_of_ble_eq_true rfl) (Nat.le_of_ble_eq_true rfl) (fun r3 σ3 q3 => ?_)
  obtain ⟨rfl, p3, z3, g3⟩ := q3
  refine zz_gsn 2 rfl ?_
  exact lp_crest hC hB (fun σ' a => ⟨rfl, a⟩) 41 0 σ3 rfl rfl hI p3 g3
def a_rest (G : zz_J) (v : Int) : Int := if vz G.I.ho G.I.k v then r_f0 (fun i => w_ri (r_dd G.I.law G.I.C 0 i (hw (gW G) v.toNat))) 41 0 else -2
def a_drain (G : zz_J) (v : Int) : Int := if vz G.I.ho G.I.k v then r_sum G.I.law G.I.C 60 (hw (gW G) v.toNat) else -2
theorem lp_cdrain {X : zz_X} {t d s B0 : Nat} {law C N : Int} {σ0 : zz_M} {Post : Option zz_V → zz_M → Prop} (hC : 2 ≤ C ∧ C ≤ 4) (hB : B0 ≤ 60) (kk : ∀ σ', zz_F (A_tr t) σ0 σ' → Post (some (zI N)) σ') :
    ∀ (r i : Nat) (W : zz_W) (acc : Int) (σ : zz_M), i + r = 60 → acc + r_sum law C r W = N → 0 ≤ acc → acc ≤ 300 * (i : Int) → σ.1 1001 t = acc → IV law (B0 + i) W → TT σ t law C W → zz_F (A_tr t) σ0 σ → zz_G X 7 p_Trial_stepsToDrain 6 [zP 10 0 0 t, zP 2 0 0 d, zP 9 0 0 s, zI (i : Nat)] [] σ Post := by
  intro r
  induction r with
  | zero =>
    intro i W acc σ hi hN ha0 ha1 hs hI hT hF
    have e : acc = N := by have z : acc + 0 = N := hN; omega
    rw [← e] at kk
    refine zz_gsn 2 rfl ?_
    refine zz_br rfl (fun h8 => ?_) (fun h8 => absurd h8 (by omega))
    refine zz_gsn 2 rfl ?_
    refine zz_ri rfl (Or.inl rfl) ?_
    rw [hs]
    exact kk σ hF
  | succ r ih =>
    intro i W acc σ hi hN ha0 ha1 hs hI hT hF
    have e11 : σ.1 906 (t + 10) = W.S 11 := hT.2.2.2.2.1
    by_cases hp : 0 < W.S 11
    · have hN2 : acc + (w_steps law C (-1) 1 0 W + r_sum law C r (w_deed law C (-1) 1 0 W)) = N := by rw [← hN, show r_sum law C (r + 1) W = w_steps law C (-1) 1 0 W + r_sum law C r (w_deed law C (-1) 1 0 W) from if_pos hp]
      have hI2 := (IV_deed (C := C) (mk := -1) (kind := 1) (x := 0) hI hC (by decide) (fun _ => by decide) (fun _ => hp)).1
      have su := w_steps_v (C := C) (mk := -1) (kind := 1) (x := 0) hI (by omega) (by decide)
      have sp := w_steps_p (C := C) (mk := -1) (kind := 1) (x := 0) hI (by decide)
      obtain ⟨S, hS⟩ : ∃ S, S = w_steps law C (-1) 1 0 W := ⟨_, rfl⟩
      rw [← hS] at hN2 su sp
      clear hN
      refine zz_gsn 2 rfl ?_
      refine zz_br rfl (fun h8 => absurd h8 (by clear hN2; omega)) (fun h8 => ?_)
      refine zz_gsn 3 rfl ?_
      refine zz_br rfl (fun h12 => absurd h12 (by clear hN2; omega)) (fun h12 => ?_)
      refine zz_gsn 10 rfl ?_
      refine zz_cv (n := 5) rfl rfl (t_Mill_perform (mk := -1) (x := 0) (kind := 1) hT.2.2 hT.1 hT.2.1 (by omega) (by decide) (fun z => absurd z (Nat.lt_irrefl 0)) (by decide) (by decide) (h_bds hI (by omega)).1 (h_bds hI (by omega)).2.1 (h_bds hI (by omega)).2.2.1 (h_bds hI (by omega)).2.2.2.1 (h_bds hI (by omega)).2.2.2.2.1 (h_bds hI (by omega)).2.2.2.2.2 (fun z => absurd z (Nat.lt_irrefl 0))) (Nat.le_of_ble_eq_true rfl) (Nat.le_of_ble_eq_true rfl) (Nat.le_of_ble_eq_true rfl) (fun r23 σ23 q23 => ?_)
      obtain ⟨rfl, p23, g23, b1_23, b2_23⟩ := q23
      obtain ⟨T23, F23⟩ := hT.step p23 g23
      rw [← hS, hs]
      refine zz_gsn 3 rfl ?_
      refine zz_jp rfl ?_
      rw [show zw (acc + S) = acc + S from zw_id (by clear hN2; omega) (by clear hN2; omega), zw_s (by clear hN2; omega)]
      exact ih (i + 1) _ (acc + S) _ (by clear hN2; omega) (by rw [← hN2, Int.add_assoc]) (by clear hN2; omega) (by clear hN2; omega) (sf_h _ _ _ _) hI2 T23.sf ((hF.tr F23).tr (zz_F.sf (by unfold A_tr; omega)))
    · have e : acc = N := by rw [← hN, show r_sum law C (r + 1) W = 0 from if_neg hp, Int.add_zero]
      rw [← e] at kk
      refine zz_gsn 2 rfl ?_
      refine zz_br rfl (fun h8 => absurd h8 (by clear hN; omega)) (fun h8 => ?_)
      refine zz_gsn 3 rfl ?_
      refine zz_br rfl (fun h12 => ?_) (fun h12 => absurd h12 (by clear hN; omega))
      refine zz_gsn 2 rfl ?_
      refine zz_ri rfl (Or.inl rfl) ?_
      rw [hs]
      exact kk σ hF
theorem t_Trial_stepsToDrain {X : zz_X} {σ : zz_M} {t d s m p B0 : Nat} {W : zz_W} (hS : SP σ p m s W) (hs : s + 7 ≤ t ∨ t + 17 ≤ s) (hd : d < t ∨ t + 17 ≤ d) (hI : IV (σ.1 201 d) B0 W) (hB : B0 ≤ 60) (hC : 2 ≤ σ.1 202 d ∧ σ.1 202 d ≤ 4) : zz_T X 7 p_Trial_stepsToDrain [zP 10 0 0 t, zP 2 0 0 d, zP 9 0 0 s] σ (fun r σ' => r = some (zI (r_sum (σ.1 201 d) (σ.1 202 d) 60 W)) ∧ zz_F (A_tr t) σ σ') := by
  refine zz_mk k_Trial_stepsToDrain o_Trial_stepsToDrain rfl rfl (Nat.le_of_ble_eq_true rfl) ?_
  show zz_G X 7 p_Trial_stepsToDrain 0 [zP 10 0 0 t, zP 2 0 0 d, zP 9 0 0 s, zU] [] σ _
  refine zz_gsn 3 rfl ?_
  refine zz_cv (n := 3) rfl rfl (t_Trial_begin hS hs hd) (Nat.le_of_ble_eq_true rfl) (Nat.le_of_ble_eq_true rfl) (Nat.le_of_ble_eq_true rfl) (fun r3 σ3 q3 => ?_)
  obtain ⟨rfl, p3, z3, g3⟩ := q3
  refine zz_gsn 2 rfl ?_
  exact lp_cdrain hC hB (fun σ' a => ⟨rfl, a⟩) 60 0 W 0 σ3 rfl (Int.zero_add _) (Int.le_refl _) (Int.le_refl _) z3 hI p3 g3
theorem t_TQ_rest {X : zz_X} {σ : zz_M} {b : Nat} {B : Int} {G : zz_J} {v : Int} (hG : CG σ b B G) (ok : g_ok G) : zz_T X 8 p_TQ_rest [zP 11 0 0 b, zI v] σ (fun r σ' => r = some (zI (a_rest G v)) ∧ CG σ' b B G ∧ zz_F (A_cl b) σ σ') := by
  refine zz_mk k_TQ_rest o_TQ_rest rfl rfl (Nat.le_of_ble_eq_true rfl) ?_
  show zz_G X 8 p_TQ_rest 0 [zP 11 0 0 b, zI v, zU] [] σ _
  obtain ⟨hH, hBt, hBo, hft, him, hmk, htr⟩ := id hG
  obtain ⟨⟨ho, hfx⟩, okt, oko, okm⟩ := id ok
  obtain ⟨hD, hV⟩ := id hH
  obtain ⟨d1, d2, d3, d4, dR⟩ := id hD
  obtain ⟨d5, d6, d7⟩ := id dR
  rcases Classical.em (vz G.I.ho G.I.k v) with hv | hv
  · obtain ⟨w, rfl⟩ : ∃ w : Nat, v = (w : Nat) := ⟨v.toNat, by omega⟩
    obtain ⟨z0, w1, w2⟩ := id hv
    have hw1 : w ≤ G.I.k := by omega
    obtain ⟨hS, -⟩ := hV.2.2.1 w hw1
    have hCC := (i_ho ho z0).2
    have hI0 := ((h_inv ho.1).1 w hw1).1
    refine zz_gsn 3 rfl ?_
    refine zz_cv (n := 2) rfl rfl (t_History_stateOf_y (v := w) hD hv) (Nat.le_of_ble_eq_true rfl) (Nat.le_of_ble_eq_true rfl) (Nat.le_of_ble_eq_true rfl) (fun r3 σ3 q3 => ?_)
    obtain ⟨rfl, rfl⟩ := q3
    refine zz_gsn 2 rfl ?_
    refine zz_jp rfl ?_
    refine zz_gsn 6 rfl ?_
    refine zz_cv (n := 3) rfl rfl (t_Trial_putsTillAtRest (t := b + 582) (d := b + 11 + 1) (B0 := w) hS (by omega) (by omega) (by rw [d2]; exact hI0) (by omega) (by rw [d3]; exact ⟨hCC.1, hCC.2.1⟩)) (Nat.le_of_ble_eq_true rfl) (Nat.le_of_ble_eq_true rfl) (Nat.le_of_ble_eq_true rfl) (fun r15 σ15 q15 => ?_)
    obtain ⟨rfl, g15⟩ := q15
    rw [d2, d3]
    refine zz_ri rfl (Or.inl rfl) ?_
    exact ⟨congrArg (fun z => some (zI z)) (if_pos hv).symm, hG.s (g15.mono (fun a z => by unfold A_tr at z; unfold A_cs; omega)), g15.mono (fun a z => by unfold A_tr at z; unfold A_cl; omega)⟩
  · refine zz_gsn 3 rfl ?_
    refine zz_cv (n := 2) rfl rfl (t_History_stateOf_n hD hv) (Nat.le_of_ble_eq_true rfl) (Nat.le_of_ble_eq_true rfl) (Nat.le_of_ble_eq_true rfl) (fun r3 σ3 q3 => ?_)
    obtain ⟨rfl, rfl⟩ := q3
    refine zz_gsn 2 rfl ?_
    refine zz_jp rfl ?_
    refine zz_gsn 1 rfl ?_
    refine zz_jp rfl ?_
    refine zz_ri rfl (Or.inl rfl) ?_
    exact ⟨congrArg (fun z => some (zI z)) (if_neg hv).symm, hG, zz_F.rf⟩
theorem t_TQ_drain {X : zz_X} {σ : zz_M} {b : Nat} {B : Int} {G : zz_J} {v : Int} (hG : CG σ b B G) (ok : g_ok G) : zz_T X 8 p_TQ_drain [zP 11 0 0 b, zI v] σ (fun r σ' => r = some (zI (a_drain G v)) ∧ CG σ' b B G ∧ zz_F (A_cl b) σ σ') := by
  refine zz_mk k_TQ_drain o_TQ_drain rfl rfl (Nat.le_of_ble_eq_true rfl) ?_
  show zz_G X 8 p_TQ_drain 0 [zP 11 0 0 b, zI v, zU] [] σ _
  obtain ⟨hH, hBt, hBo, hft, him, hmk, htr⟩ := id hG
  obtain ⟨⟨ho, hfx⟩, okt, oko, okm⟩ := id ok
  obtain ⟨hD, hV⟩ := id hH
  obtain ⟨d1, d2, d3, d4, dR⟩ := id hD
  obtain ⟨d5, d6, d7⟩ := id dR
  rcases Classical.em (vz G.I.ho G.I.k v) with hv | hv
  · obtain ⟨w, rfl⟩ : ∃ w : Nat, v = (w : Nat) := ⟨v.toNat, by omega⟩
    obtain ⟨z0, w1, w2⟩ := id hv
    have hw1 : w ≤ G.I.k := by omega
    obtain ⟨hS, -⟩ := hV.2.2.1 w hw1
    have hCC := (i_ho ho z0).2
    have hI0 := ((h_inv ho.1).1 w hw1).1
    refine zz_gsn 3 rfl ?_
    refine zz_cv (n := 2) rfl rfl (t_History_stateOf_y (v := w) hD hv) (Nat.le_of_ble_eq_true rfl) (Nat.le_of_ble_eq_true rfl) (Nat.le_of_ble_eq_true rfl) (fun r3 σ3 q3 => ?_)
    obtain ⟨rfl, rfl⟩ := q3
    refine zz_gsn 2 rfl ?_
    refine zz_jp rfl ?_
    refine zz_gsn 6 rfl ?_
    refine zz_cv (n := 3) rfl rfl (t_Trial_stepsToDrain (t := b + 582) (d := b + 11 + 1) (B0 := w) hS (by omega) (by omega) (by rw [d2]; exact hI0) (by omega) (by rw [d3]; exact ⟨hCC.1, hCC.2.1⟩)) (Nat.le_of_ble_eq_true rfl) (Nat.le_of_ble_eq_true rfl) (Nat.le_of_ble_eq_true rfl) (fun r15 σ15 q15 => ?_)
    obtain ⟨rfl, g15⟩ := q15
    rw [d2, d3]
    refine zz_ri rfl (Or.inl rfl) ?_
    exact ⟨congrArg (fun z => some (zI z)) (if_pos hv).symm, hG.s (g15.mono (fun a z => by unfold A_tr at z; unfold A_cs; omega)), g15.mono (fun a z => by unfold A_tr at z; unfold A_cl; omega)⟩
  · refine zz_gsn 3 rfl ?_
    refine zz_cv (n := 2) rfl rfl (t_History_stateOf_n hD hv) (Nat.le_of_ble_eq_true rfl) (Nat.le_of_ble_eq_true rfl) (Nat.le_of_ble_eq_true rfl) (fun r3 σ3 q3 => ?_)
    obtain ⟨rfl, rfl⟩ := q3
    refine zz_gsn 2 rfl ?_
    refine zz_jp rfl ?_
    refine zz_gsn 1 rfl ?_
    refine zz_jp rfl ?_
    refine zz_ri rfl (Or.inl rfl) ?_
    exact ⟨congrArg (fun z => some (zI z)) (if_neg hv).symm, hG, zz_F.rf⟩
