/-! the class: until -/
def r_dd (law C kind : Int) : Nat → zz_W → zz_W
  | 0, W => W
  | i + 1, W => w_deed law C (-1) kind 0 (r_dd law C kind i W)
def r_ft (f : Nat → Int) : Nat → Nat → Int
  | 0, _ => -1
  | r + 1, i => if f i ≠ 0 then ((i + 1 : Nat) : Int) else r_ft f r (i + 1)
def w_rest (W : zz_W) : Prop := W.S 7 = 0 ∧ W.S 9 = 0 ∧ W.S 10 = 0
/-- the trial at t: its mill, the state now -/
def TT (σ : zz_M) (t : Nat) (law C : Int) (W : zz_W) : Prop := σ.1 404 (t + 3) = law ∧ σ.1 405 (t + 3) = C ∧ SP σ 0 (t + 3) (t + 10) W
def A_tr (t : Nat) : Nat → Prop := fun a => t ≤ a ∧ a ≤ t + 16
theorem TT.step {σ σ' : zz_M} {t : Nat} {law C : Int} {W W' : zz_W} (h : TT σ t law C W) (hS : SP σ' 0 (t + 3) (t + 10) W') (hM : Mg (t + 10) (t + 3) W.n σ σ') : TT σ' t law C W' ∧ zz_F (A_tr t) σ σ' := ⟨⟨(hM.1 _ _ (by unfold zz_c1m; omega)).trans h.1, (hM.1 _ _ (by unfold zz_c1m; omega)).trans h.2.1, hS⟩, hM.F.mono (fun a z => by unfold A_tr; omega)⟩
theorem TT.sf {σ : zz_M} {t f : Nat} {v law C : Int} {W : zz_W} (h : TT σ t law C W) : TT (zz_sf σ f t v) t law C W := ⟨(sf_a _ _ (by omega)).trans h.1, (sf_a _ _ (by omega)).trans h.2.1, h.2.2.f (A := fun a => a = t) (zz_F.sf rfl) (fun a y1 y2 z => by omega) (fun z => absurd z (Nat.lt_irrefl 0))⟩
theorem t_Trial_begin {X : zz_X} {σ : zz_M} {t d s m p : Nat} {W : zz_W} (hS : SP σ p m s W) (hs : s + 7 ≤ t ∨ t + 17 ≤ s) (hd : d < t ∨ t + 17 ≤ d) : zz_T X 3 p_Trial_begin [zP 10 0 0 t, zP 2 0 0 d, zP 9 0 0 s] σ (fun r σ' => r = none ∧ TT σ' t (σ.1 201 d) (σ.1 202 d) W ∧ σ'.1 1001 t = 0 ∧ zz_F (A_tr t) σ σ') := by
  refine zz_mk k_Trial_begin o_Trial_begin rfl rfl (Nat.le_of_ble_eq_true rfl) ?_
  show zz_G X 3 p_Trial_begin 0 [zP 10 0 0 t, zP 2 0 0 d, zP 9 0 0 s] [] σ _
  refine zz_gsn 6 rfl ?_
  refine zz_cv (n := 3) rfl rfl (t_Mill_obey) (Nat.le_of_ble_eq_true rfl) (Nat.le_of_ble_eq_true rfl) (Nat.le_of_ble_eq_true rfl) (fun r6 σ6 q6 => ?_)
  obtain ⟨rfl, h6⟩ := q6
  refine zz_gsn 3 rfl ?_
  refine zz_cv (n := 2) rfl rfl (t_State_become (s := t + 10) (t := s) (by unfold zz_dj; omega)) (Nat.le_of_ble_eq_true rfl) (Nat.le_of_ble_eq_true rfl) (Nat.le_of_ble_eq_true rfl) (fun r10 σ10 q10 => ?_)
  obtain ⟨rfl, p10, g10⟩ := q10
  refine zz_gsn 3 rfl ?_
  refine zz_rv rfl rfl ?_
  have S6 : SP σ6 0 0 s W := (hS.z (m' := 0)).f (A := fun a => a = t + 3) (by rw [h6]; exact (zz_F.sf (A := fun a => a = t + 3) rfl).tr (zz_F.sf rfl)) (fun a y1 y2 z => by omega) (fun z => absurd z (Nat.lt_irrefl 0))
  have S10 := p10 0 (t + 3) W (fun z => absurd z (Nat.lt_irrefl 0)) (S6.z (m' := t + 3))
  have a4 : σ10.1 404 (t + 3) = σ.1 201 d := by rw [(g10.F (t + 3) (by omega)).1, h6, sf_f _ _ (by decide), sf_h]
  have a5 : σ10.1 405 (t + 3) = σ.1 202 d := by rw [(g10.F (t + 3) (by omega)).1, h6, sf_h]
  have T10 : TT σ10 t (σ.1 201 d) (σ.1 202 d) W := ⟨a4, a5, S10⟩
  refine ⟨rfl, T10.sf, sf_h _ _ _ _, ?_⟩
  refine zz_F.tr (σ1 := σ6) ?_ ((g10.F.mono (fun a z => by unfold A_tr; omega)).tr (zz_F.sf (by unfold A_tr; omega)))
  rw [h6]
  exact (zz_F.sf (by unfold A_tr; omega)).tr (zz_F.sf (by unfold A_tr; omega))
theorem lp_until {X : zz_X} {t d s B0 : Nat} {law C : Int} {W0 : zz_W} {σ0 : zz_M} {Post : Option zz_V → zz_M → Prop} (hC : 2 ≤ C ∧ C ≤ 4) (hB : B0 ≤ 60) (kk : ∀ σ', zz_F (A_tr t) σ0 σ' → Post (some (zI (r_ft (fun i => w_begun law C (-1) 0 0 (r_dd law C 0 i W0)) 40 0))) σ') :
    ∀ (r i : Nat) (σ : zz_M), i + r = 40 → r_ft (fun i => w_begun law C (-1) 0 0 (r_dd law C 0 i W0)) r i = r_ft (fun i => w_begun law C (-1) 0 0 (r_dd law C 0 i W0)) 40 0 → IV law (B0 + i) (r_dd law C 0 i W0) → TT σ t law C (r_dd law C 0 i W0) → zz_F (A_tr t) σ0 σ → zz_G X 7 p_Trial_putsTillTurned 6 [zP 10 0 0 t, zP 2 0 0 d, zP 9 0 0 s, zI ((i + 1 : Nat) : Int)] [] σ Post := by
  intro r
  induction r with
  | zero =>
    intro i σ hi hr hI hT hF
    rw [← hr] at kk
    refine zz_gsn 2 rfl ?_
    refine zz_br rfl (fun h8 => ?_) (fun h8 => absurd h8 (by omega))
    refine zz_gsn 1 rfl ?_
    refine zz_ri rfl (Or.inl rfl) ?_
    exact kk σ hF
  | succ r ih =>
    intro i σ hi hr hI hT hF
    have hI2 := (IV_deed (C := C) (mk := -1) (kind := 0) (x := 0) hI hC (by decide) (fun _ => by decide) (fun z => z.elim (fun z => absurd z (by decide)) (fun z => absurd z (by decide)))).1
    have hy : w_begun law C (-1) 0 0 (r_dd law C 0 i W0) ≠ 0 → r_ft (fun i => w_begun law C (-1) 0 0 (r_dd law C 0 i W0)) (r + 1) i = ((i + 1 : Nat) : Int) := fun z => if_pos z
    have hn : ¬ w_begun law C (-1) 0 0 (r_dd law C 0 i W0) ≠ 0 → r_ft (fun i => w_begun law C (-1) 0 0 (r_dd law C 0 i W0)) (r + 1) i = r_ft (fun i => w_begun law C (-1) 0 0 (r_dd law C 0 i W0)) r (i + 1) := fun z => if_neg z
    refine zz_gsn 2 rfl ?_
    refine zz_br rfl (fun h8 => absurd h8 (by clear hy hn hr; omega)) (fun h8 => ?_)
    refine zz_gsn 7 rfl ?_
    refine zz_cv (n := 5) rfl rfl (t_Mill_perform (mk := -1) (x := 0) (kind := 0) hT.2.2 hT.1 hT.2.1 (by omega) (by decide) (fun z => absurd z (Nat.lt_irrefl 0)) (by decide) (by decide) (h_bds hI (by omega)).1 (h_bds hI (by omega)).2.1 (h_bds hI (by omega)).2.2.1 (h_bds hI (by omega)).2.2.2.1 (h_bds hI (by omega)).2.2.2.2.1 (h_bds hI (by omega)).2.2.2.2.2 (fun z => absurd z (Nat.lt_irrefl 0))) (Nat.le_of_ble_eq_true rfl) (Nat.le_of_ble_eq_true rfl) (Nat.le_of_ble_eq_true rfl) (fun r16 σ16 q16 => ?_)
    obtain ⟨rfl, p16, g16, b1_16, b2_16⟩ := q16
    obtain ⟨T16, F16⟩ := hT.step p16 g16
    refine zz_gsn 4 rfl ?_
    refine zz_br rfl (fun h21 => ?_) (fun h21 => ?_)
    · refine zz_gsn 1 rfl ?_
      refine zz_jp rfl ?_
      rw [zw_s (by clear hy hn hr; omega)]
      exact ih (i + 1) σ16 (by clear hy hn hr; omega) ((hn (fun y => y (b1_16.symm.trans h21))).symm.trans hr) hI2 T16 (hF.tr F16)
    · refine zz_gsn 1 rfl ?_
      refine zz_ri rfl (Or.inl rfl) ?_
      have z := hy (fun y => h21 (b1_16.trans y))
      rw [← hr, z] at kk
      exact kk σ16 (hF.tr F16)
theorem t_Trial_putsTillTurned {X : zz_X} {σ : zz_M} {t d s m p B0 : Nat} {W : zz_W} (hS : SP σ p m s W) (hs : s + 7 ≤ t ∨ t + 17 ≤ s) (hd : d < t ∨ t + 17 ≤ d) (hI : IV (σ.1 201 d) B0 W) (hB : B0 ≤ 60) (hC : 2 ≤ σ.1 202 d ∧ σ.1 202 d ≤ 4) : zz_T X 7 p_Trial_putsTillTurned [zP 10 0 0 t, zP 2 0 0 d, zP 9 0 0 s] σ (fun r σ' => r = some (zI (r_ft (fun i => w_begun (σ.1 201 d) (σ.1 202 d) (-1) 0 0 (r_dd (σ.1 201 d) (σ.1 202 d) 0 i W)) 40 0)) ∧ zz_F (A_tr t) σ σ') := by
  refine zz_mk k_Trial_putsTillTurned o_Trial_putsTillTurned rfl rfl (Nat.le_of_ble_eq_true rfl) ?_
  show zz_G X 7 p_Trial_putsTillTurned 0 [zP 10 0 0 t, zP 2 0 0 d, zP 9 0 0 s, zU] [] σ _
  refine zz_gsn 3 rfl ?_
  refine zz_cv (n := 3) rfl rfl (t_Trial_begin hS hs hd) (Nat.le_of_ble_eq_true rfl) (Nat.le_of_ble_eq_true rfl) (Nat.le_of_ble_eq_true rfl) (fun r3 σ3 q3 => ?_)
  obtain ⟨rfl, p3, z3, g3⟩ := q3
  refine zz_gsn 2 rfl ?_
  exact lp_until hC hB (fun σ' a => ⟨rfl, a⟩) 40 0 σ3 rfl rfl hI p3 g3
def a_until (G : zz_J) (v : Int) : Int := if vz G.I.ho G.I.k v then r_ft (fun i => w_begun G.I.law G.I.C (-1) 0 0 (r_dd G.I.law G.I.C 0 i (hw (gW G) v.toNat))) 40 0 else -2
theorem t_TQ_until {X : zz_X} {σ : zz_M} {b : Nat} {B : Int} {G : zz_J} {v : Int} (hG : CG σ b B G) (ok : g_ok G) : zz_T X 8 p_TQ_until [zP 11 0 0 b, zI v] σ (fun r σ' => r = some (zI (a_until G v)) ∧ CG σ' b B G ∧ zz_F (A_cl b) σ σ') := by
  refine zz_mk k_TQ_until o_TQ_until rfl rfl (Nat.le_of_ble_eq_true rfl) ?_
  show zz_G X 8 p_TQ_until 0 [zP 11 0 0 b, zI v, zU] [] σ _
  obtain ⟨hH, hBt, hBo, hft, him, hmk, htr⟩ := id hG
  obtain ⟨⟨ho, hfx⟩, okt, oko, okm⟩ := id ok
  obtain ⟨hD, hV⟩ := id hH
  obtain ⟨d1, d2, d3, d4, dR⟩ := id hD
  obtain ⟨d5, d6, d7⟩ := id dR
  rcases Classical.em (vz G.I.ho G.I.k v) with hv | hv
  · obtain ⟨w, rfl⟩ : ∃ w : Nat, v = (w : Nat) := ⟨v.toNat, by omega⟩
    obtain ⟨z0, w1, w2⟩ := id hv
    have hw1 : w ≤ G.I.k := by omega
    obtain ⟨hS, -⟩ := hV.2.2.1 w hw1
    have hCC := (i_ho ho z0).2
    have hI0 := ((h_inv ho.1).1 w hw1).1
    refine zz_gsn 3 rfl ?_
    refine zz_cv (n := 2) rfl rfl (t_History_stateOf_y (v := w) hD hv) (Nat.le_of_ble_eq_true rfl) (Nat.le_of_ble_eq_true rfl) (Nat.le_of_ble_eq_true rfl) (fun r3 σ3 q3 => ?_)
    obtain ⟨rfl, rfl⟩ := q3
    refine zz_gsn 2 rfl ?_
    refine zz_jp rfl ?_
    refine zz_gsn 6 rfl ?_
    refine zz_cv (n := 3) rfl rfl (t_Trial_putsTillTurned (t := b + 582) (d := b + 11 + 1) (B0 := w) hS (by omega) (by omega) (by rw [d2]; exact hI0) (by omega) (by rw [d3]; exact ⟨hCC.1, hCC.2.1⟩)) (Nat.le_of_ble_eq_true rfl) (Nat.le_of_ble_eq_true rfl) (Nat.le_of_ble_eq_true rfl) (fun r15 σ15 q15 => ?_)
    obtain ⟨rfl, g15⟩ := q15
    rw [d2, d3]
    refine zz_ri rfl (Or.inl rfl) ?_
    exact ⟨congrArg (fun z => some (zI z)) (if_pos hv).symm, hG.s (g15.mono (fun a z => by unfold A_tr at z; unfold A_cs; omega)), g15.mono (fun a z => by unfold A_tr at z; unfold A_cl; omega)⟩
  · refine zz_gsn 3 rfl ?_
    refine zz_cv (n := 2) rfl rfl (t_History_stateOf_n hD hv) (Nat.le_of_ble_eq_true rfl) (Nat.le_of_ble_eq_true rfl) (Nat.le_of_ble_eq_true rfl) (fun r3 σ3 q3 => ?_)
    obtain ⟨rfl, rfl⟩ := q3
    refine zz_gsn 2 rfl ?_
    refine zz_jp rfl ?_
    refine zz_gsn 1 rfl ?_
    refine zz_jp rfl ?_
    refine zz_ri rfl (Or.inl rfl) ?_
    exact ⟨congrArg (fun z => some (zI z)) (if_neg hv).symm, hG, zz_F.rf⟩
