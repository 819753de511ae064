/-! the reference: feed -/
def g_fv (a b c d e : Int) : Nat → Int
  | 0 => a
  | 1 => b
  | 2 => c
  | 3 => d
  | _ => e
theorem g_fb (a b c d e : Int) {k : Nat} (h : k < 20) : zz_i2b (zz_shr (g_fv a b c d e (k / 4)) (24 - 8 * ((k % 4 : Nat) : Int))) = (g_fd a b c d e).getD k 0 := by
  rcases (show k = 0 ∨ k = 1 ∨ k = 2 ∨ k = 3 ∨ k = 4 ∨ k = 5 ∨ k = 6 ∨ k = 7 ∨ k = 8 ∨ k = 9 ∨ k = 10 ∨ k = 11 ∨ k = 12 ∨ k = 13 ∨ k = 14 ∨ k = 15 ∨ k = 16 ∨ k = 17 ∨ k = 18 ∨ k = 19 by omega) with rfl | rfl | rfl | rfl | rfl | rfl | rfl | rfl | rfl | rfl | rfl | rfl | rfl | rfl | rfl | rfl | rfl | rfl | rfl | rfl
  · exact b_sh24 a
  · exact b_sh16 a
  · exact b_sh8 a
  · exact b_sh0 a
  · exact b_sh24 b
  · exact b_sh16 b
  · exact b_sh8 b
  · exact b_sh0 b
  · exact b_sh24 c
  · exact b_sh16 c
  · exact b_sh8 c
  · exact b_sh0 c
  · exact b_sh24 d
  · exact b_sh16 d
  · exact b_sh8 d
  · exact b_sh0 d
  · exact b_sh24 e
  · exact b_sh16 e
  · exact b_sh8 e
  · exact b_sh0 e
/-- what feeding may change -/
def Ff (m n : Nat) (σ σ' : zz_M) : Prop := (∀ f a, σ'.1 f a = σ.1 f a) ∧ ∀ a i, ¬ ((a = m + 13 ∧ n ≤ i) ∨ a = m + 14) → σ'.2 a i = σ.2 a i
theorem Ff.rf {m n : Nat} {σ : zz_M} : Ff m n σ σ := ⟨fun _ _ => rfl, fun _ _ _ => rfl⟩
theorem Ff.tr {m n : Nat} {σ σ1 σ2 : zz_M} (h : Ff m n σ σ1) (h2 : Ff m n σ1 σ2) : Ff m n σ σ2 := ⟨fun f a => (h2.1 f a).trans (h.1 f a), fun a i q => (h2.2 a i q).trans (h.2 a i q)⟩
theorem Ff.s5 {m n i : Nat} {σ : zz_M} {x : Int} : Ff m n σ (zz_sa σ (m + 14) i x) := ⟨fun _ _ => rfl, fun a j q => sa_a _ _ (fun z => q (Or.inr z))⟩
theorem Ff.st {m n i : Nat} {σ : zz_M} {x : Int} (h : n ≤ i) : Ff m n σ (zz_sa σ (m + 13) i x) := ⟨fun _ _ => rfl, fun a j q => by
  by_cases e : a = m + 13
  · rw [e]
    exact sa_i _ _ (fun z => q (Or.inl ⟨e, by omega⟩))
  · exact sa_a _ _ e⟩
theorem lp_rfeed {X : zz_X} {m n : Nat} {a b c d e : Int} {σ0 : zz_M} {Post : Option zz_V → zz_M → Prop} (hn : n ≤ 580) (ht : σ0.1 1225 m = (n : Nat)) (hw : ∀ q, q < 5 → σ0.2 (m + 14) q = g_fv a b c d e q) (kk : ∀ (σ' : zz_M) (y : Int), (∀ j, j < 20 → σ'.2 (m + 13) (n + j) = (g_fd a b c d e).getD j 0) → Ff m n σ0 σ' → zz_G X 1 p_Mo_feed 62 [zP 12 0 0 m, zI a, zI b, zI c, zI d, zI e, zI y] [] σ' Post) :
    ∀ (r i : Nat) (σ : zz_M), i + r = 20 → (∀ j, j < i → σ.2 (m + 13) (n + j) = (g_fd a b c d e).getD j 0) → (∀ q, q < 5 → σ.2 (m + 14) q = g_fv a b c d e q) → Ff m n σ0 σ → zz_G X 1 p_Mo_feed 35 [zP 12 0 0 m, zI a, zI b, zI c, zI d, zI e, zI (i : Nat)] [] σ Post := by
  intro r
  induction r with
  | zero =>
    intro i σ hi hb h5 hF
    have e : i = 20 := hi
    subst e
    refine zz_gsn 2 rfl ?_
    refine zz_br rfl (fun h37 => ?_) (fun h37 => absurd h37 (by decide))
    exact kk σ _ hb hF
  | succ r ih =>
    intro i σ hi hb h5 hF
    have hi20 : i < 20 := by omega
    have h37n : ¬ ((i : Nat) : Int) ≥ 20 := by omega
    have i9 : i + 1 + r = 20 := by omega
    have q5 : i / 4 < 5 := by omega
    have o1 : 0 ≤ ((i / 4 : Nat) : Int) ∧ ((i / 4 : Nat) : Int) < 5 := ⟨by omega, by omega⟩
    have o2 : 0 ≤ ((n + i : Nat) : Int) ∧ ((n + i : Nat) : Int) < 600 := ⟨by omega, by omega⟩
    have nX : i < 2147483648 := by omega
    have t1 : σ.1 1225 m = (n : Nat) := (hF.1 _ _).trans ht
    have w1 := h5 (i / 4) q5
    have z1 : zw (((n : Nat) : Int) + (i : Nat)) = ((n + i : Nat) : Int) := by rw [zw_id (by omega) (by omega)]; omega
    have z2 : zw (24 - zw (8 * ((i % 4 : Nat) : Int))) = 24 - 8 * ((i % 4 : Nat) : Int) := by
      clear z1 w1 t1
      rw [zw_id (x := 8 * ((i % 4 : Nat) : Int)) (by omega) (by omega), zw_id (by omega) (by omega)]
    have zs : zw ((i : Int) + 1) = ((i + 1 : Nat) : Int) := zw_s (Nat.lt_trans hi20 (by decide))
    have v1 : zz_div (i : Int) 4 = ((i / 4 : Nat) : Int) := zz_div_n (d := 4) nX (by decide) (by decide)
    have v2 : zz_rem (i : Int) 4 = ((i % 4 : Nat) : Int) := zz_rem_n (d := 4) nX (by decide) (by decide)
    have fb := g_fb a b c d e hi20
    refine zz_gsn 2 rfl ?_
    refine zz_br rfl (fun h37 => absurd h37 h37n) (fun h37 => ?_)
    refine zz_gsn 6 rfl ?_
    rw [t1, z1]
    refine zz_gsn 4 rfl ?_
    refine zz_dv rfl (by decide) ?_
    rw [v1]
    refine zz_ald rfl (o1) ?_
    rw [show σ.2 (m + 14) ((i / 4 : Nat) : Int).toNat = g_fv a b c d e (i / 4) from w1]
    refine zz_gsn 4 rfl ?_
    refine zz_dv rfl (by decide) ?_
    rw [v2]
    refine zz_gsn 2 rfl ?_
    rw [z2]
    refine zz_gsn 1 rfl ?_
    clear z1 z2 v1 v2 t1 w1
    refine zz_gsn 1 rfl ?_
    refine zz_ast rfl (o2) ?_
    refine zz_gsn 1 rfl ?_
    refine zz_jp rfl ?_
    rw [zs]
    refine ih (i + 1) _ i9 (fun j hj => ?_) (fun q hq => (sa_a _ _ (by omega)).trans (h5 q hq)) (hF.tr (Ff.st (by rw [Int.toNat_natCast]; exact Nat.le_add_right _ _)))
    rw [Int.toNat_natCast]
    by_cases z : j = i
    · rw [z, sa_h, zz_i2b_i]
      exact fb
    · rw [sa_i _ _ (by omega)]
      exact hb j (by omega)
theorem RV.e {σ σ' : zz_M} {m k : Nat} {law C : Int} {H : zz_H} {D : zz_D} (h : RV σ m law C k H D) (f1 : ∀ f, f ≠ 1225 → σ'.1 f m = σ.1 f m) (f2 : ∀ a i, m + 1 ≤ a → a ≤ m + 12 → σ'.2 a i = σ.2 a i) : RV σ' m law C k H D := by
  obtain ⟨⟨r1, r2, r3⟩, r4, r5, r6, r7⟩ := h
  refine ⟨⟨(f1 _ (by decide)).trans r1, (f1 _ (by decide)).trans r2, (f1 _ (by decide)).trans r3⟩, fun v hv => ⟨(r4 v hv).1.ff (f1 _ (by decide)) (fun a y1 y2 => funext (fun i => f2 a i y1 (by omega))), (f2 _ _ (by omega) (by omega)).trans (r4 v hv).2.1, fun i hi => (f2 _ _ (by omega) (by omega)).trans ((r4 v hv).2.2 i hi)⟩, fun i hi => ?_, (f2 _ _ (by omega) (by omega)).trans r6, (f2 _ _ (by omega) (by omega)).trans r7⟩
  rw [f2 (m + 8) _ (by omega) (by omega), f2 (m + 9) _ (by omega) (by omega), f2 (m + 10) _ (by omega) (by omega), f2 (m + 5) _ (by omega) (by omega), f2 (m + 6) _ (by omega) (by omega), f2 (m + 7) _ (by omega) (by omega)]
  exact r5 i hi
theorem t_Mo_feed {X : zz_X} {σ : zz_M} {m : Nat} {G : zz_J} {x y z v w : Int} (hG : RG σ m G) (ok : g_ok G) : zz_T X 1 p_Mo_feed [zP 12 0 0 m, zI x, zI y, zI z, zI v, zI w] σ (fun r σ' => r = some (zI (a_feed G x y z v w).1) ∧ RG σ' m (a_feed G x y z v w).2 ∧ zz_F (A_rf m) σ σ') := by
  refine zz_mk k_Mo_feed o_Mo_feed rfl rfl (Nat.le_of_ble_eq_true rfl) ?_
  show zz_G X 1 p_Mo_feed 0 [zP 12 0 0 m, zI x, zI y, zI z, zI v, zI w, zU] [] σ _
  obtain ⟨hI, hT, hO, hF, hM, h10⟩ := id hG
  obtain ⟨⟨ho, hfx⟩, okt, oko, okm⟩ := id ok
  have hk6 := ho.1.2.2.1
  have ht1 := hT.1
  have ht2 := okt.1
  rcases Classical.em (580 < G.t.length) with hn | hn
  · have zt : zw (((G.t.length : Nat) : Int) + 20) = ((G.t.length + 20 : Nat) : Int) := by rw [zw_id (by omega) (by omega)]; omega
    refine zz_gsn 4 rfl ?_
    rw [ht1, zt]
    refine zz_gsn 1 rfl ?_
    refine zz_br rfl (fun h5 => absurd h5 (by clear zt; omega)) (fun h5 => ?_)
    refine zz_gsn 1 rfl ?_
    refine zz_ri rfl (Or.inl rfl) ?_
    rw [show a_feed G x y z v w = (-1, G) from if_pos hn]
    exact ⟨rfl, hG, zz_F.rf⟩
  · have hn2 : G.t.length ≤ 580 := by omega
    have n5 : ¬ ((G.t.length + 20 : Nat) : Int) > 600 := by omega
    have zt : zw (((G.t.length : Nat) : Int) + 20) = ((G.t.length + 20 : Nat) : Int) := by rw [zw_id (by omega) (by omega)]; omega
    refine zz_gsn 4 rfl ?_
    rw [ht1, zt]
    refine zz_gsn 1 rfl ?_
    refine zz_br rfl (fun h5 => ?_) (fun h5 => absurd h5 n5)
    refine zz_gsn 4 rfl ?_
    refine zz_ast rfl (⟨by decide, by decide⟩) ?_
    refine zz_gsn 4 rfl ?_
    refine zz_ast rfl (⟨by decide, by decide⟩) ?_
    refine zz_gsn 4 rfl ?_
    refine zz_ast rfl (⟨by decide, by decide⟩) ?_
    refine zz_gsn 4 rfl ?_
    refine zz_ast rfl (⟨by decide, by decide⟩) ?_
    refine zz_gsn 4 rfl ?_
    refine zz_ast rfl (⟨by decide, by decide⟩) ?_
    refine zz_gsn 2 rfl ?_
    obtain ⟨σ5, h5⟩ : ∃ s, s = zz_sa (zz_sa (zz_sa (zz_sa (zz_sa σ (m + 14) 0 x) (m + 14) 1 y) (m + 14) 2 z) (m + 14) 3 v) (m + 14) 4 w := ⟨_, rfl⟩
    refine zz_sge (σ' := σ5) h5 ?_
    have F5 : Ff m G.t.length σ σ5 := by
      rw [h5]
      exact (((Ff.s5.tr Ff.s5).tr Ff.s5).tr Ff.s5).tr Ff.s5
    have w5 : ∀ q, q < 5 → σ5.2 (m + 14) q = g_fv x y z v w q := fun q hq => by
      rw [h5]
      rcases (show q = 0 ∨ q = 1 ∨ q = 2 ∨ q = 3 ∨ q = 4 by clear zt; omega) with rfl | rfl | rfl | rfl | rfl
      · rw [sa_i _ _ (by decide), sa_i _ _ (by decide), sa_i _ _ (by decide), sa_i _ _ (by decide), sa_h]; rfl
      · rw [sa_i _ _ (by decide), sa_i _ _ (by decide), sa_i _ _ (by decide), sa_h]; rfl
      · rw [sa_i _ _ (by decide), sa_i _ _ (by decide), sa_h]; rfl
      · rw [sa_i _ _ (by decide), sa_h]; rfl
      · rw [sa_h]; rfl
    refine lp_rfeed (σ0 := σ5) hn2 ((F5.1 _ _).trans ht1) w5 (fun σ' y2 hb F => ?_) 20 0 σ5 rfl (fun j hj => absurd hj (Nat.not_lt_zero j)) w5 Ff.rf
    refine zz_gsn 5 rfl ?_
    rw [show σ'.1 1225 m = ((G.t.length : Nat) : Int) from ((F5.tr F).1 _ _).trans ht1, zt]
    refine zz_gsn 3 rfl ?_
    refine zz_ri rfl (Or.inl rfl) ?_
    have FF := F5.tr F
    obtain ⟨σ6, h6⟩ : ∃ s, s = zz_sf σ' 1225 m ((G.t.length + 20 : Nat) : Int) := ⟨_, rfl⟩
    rw [← h6]
    rw [show a_feed G x y z v w = (((G.t.length + 20 : Nat) : Int), (G.I, G.t ++ g_fd x y z v w, G.o, G.f, G.p, G.m)) from if_neg hn]
    have f1 : ∀ f, f ≠ 1225 → σ6.1 f m = σ.1 f m := fun f hf => by rw [h6, sf_f _ _ hf]; exact FF.1 f m
    have f2 : ∀ a i, ¬ ((a = m + 13 ∧ G.t.length ≤ i) ∨ a = m + 14) → σ6.2 a i = σ.2 a i := fun a i q => by rw [h6]; exact FF.2 a i q
    clear zt
    refine ⟨congrArg (fun z => some (zI z)) ?_, ⟨?_, ⟨?_, fun i hi => ?_⟩, ⟨(f1 _ (by decide)).trans hO.1, fun i hi => (f2 _ _ (by omega)).trans (hO.2 i hi)⟩, ⟨(f1 _ (by decide)).trans hF.1, (f1 _ (by decide)).trans hF.2⟩, fun i hi => (hM i hi).e (fun j => f2 _ _ (by omega)), (f2 _ _ (by omega)).trans h10⟩, fun a ha => ⟨fun f => ?_, fun i => ?_⟩⟩
    · rw [h6, sf_h]
    · rcases hI with ⟨a, b⟩ | ⟨a, ⟨b1, b2, b3, b4⟩, c⟩
      · exact Or.inl ⟨a, (f1 _ (by decide)).trans b⟩
      · exact Or.inr ⟨a, ⟨(f1 _ (by decide)).trans b1, (f1 _ (by decide)).trans b2, (f1 _ (by decide)).trans b3, (f1 _ (by decide)).trans b4⟩, RV.e c f1 (fun a i y1 y2 => f2 a i (by omega))⟩
    · rw [h6, sf_h]
      show _ = (((G.t ++ g_fd x y z v w).length : Nat) : Int)
      rw [List.length_append, g_fd_len]
    · have hi2 : i < (G.t ++ g_fd x y z v w).length := hi
      rw [List.length_append, g_fd_len] at hi2
      show σ6.2 (m + 13) i = (G.t ++ g_fd x y z v w).getD i 0
      by_cases z2 : i < G.t.length
      · rw [zl_gL z2]
        exact (f2 _ _ (by omega)).trans (hT.2 i z2)
      · have e : i = G.t.length + (i - G.t.length) := by omega
        have y3 := hb (i - G.t.length) (by omega)
        rw [← e] at y3
        rw [List.getD_eq_getElem?_getD, List.getElem?_append_right (by omega), ← List.getD_eq_getElem?_getD, ← y3, h6]
        rfl
    · rw [h6, sf_1, if_neg (fun z => ha (by unfold A_rf; omega))]
      exact FF.1 f a
    · exact f2 a i (fun z => ha (by unfold A_rf; omega))
