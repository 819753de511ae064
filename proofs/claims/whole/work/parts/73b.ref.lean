/-! the reference: an image -/
/-- only an IMAGE's room has changed -/
def Fi (m q : Nat) (σ σ' : zz_M) : Prop := σ'.1 = σ.1 ∧ ∀ a i, ¬ (a = m + 25 ∧ 188 * q ≤ i ∧ i < 188 * q + 188) → σ'.2 a i = σ.2 a i
theorem Fi.rf {m q : Nat} {σ : zz_M} : Fi m q σ σ := ⟨rfl, fun _ _ _ => rfl⟩
theorem Fi.sa {m q i : Nat} {σ σ0 : zz_M} {v : Int} (h : Fi m q σ0 σ) (hi : 188 * q ≤ i ∧ i < 188 * q + 188) : Fi m q σ0 (zz_sa σ (m + 25) i v) := ⟨h.1, fun a j hj => by
  rw [sa_2, if_neg (fun z => hj ⟨z.1, by omega⟩)]
  exact h.2 a j hj⟩
def Ie (σ : zz_M) (m q j : Nat) (D : zz_D) : Prop := ∀ i, i < j → σ.2 (m + 25) (188 * q + 5 + 3 * (i + 1)) = ((D i).2.1 : Nat) ∧ σ.2 (m + 25) (188 * q + 5 + 3 * (i + 1) + 1) = (D i).1 ∧ σ.2 (m + 25) (188 * q + 5 + 3 * (i + 1) + 2) = (D i).2.2
theorem lp_rimg {X : zz_X} {m q k : Nat} {D : zz_D} {u h0 h1 h2 h3 h4 : Int} {σ0 : zz_M} {Post : Option zz_V → zz_M → Prop} (hq : q < 3) (hk : k ≤ 60) (r3 : σ0.1 1215 m = ((k + 1 : Nat) : Int)) (hD : ∀ i, i < k → σ0.2 (m + 5) (i + 1) = ((D i).2.1 : Nat) ∧ σ0.2 (m + 6) (i + 1) = (D i).1 ∧ σ0.2 (m + 7) (i + 1) = (D i).2.2)
    (kk : ∀ σ', Fi m q σ0 σ' → Ie σ' m q k D → (σ'.2 (m + 25) (188 * q) = h0 ∧ σ'.2 (m + 25) (188 * q + 1) = h1 ∧ σ'.2 (m + 25) (188 * q + 2) = h2 ∧ σ'.2 (m + 25) (188 * q + 3) = h3 ∧ σ'.2 (m + 25) (188 * q + 4) = h4) → Post (some (zI 0)) σ') :
    ∀ (r j : Nat) (σ : zz_M), j + r = k → Fi m q σ0 σ → Ie σ m q j D → (σ.2 (m + 25) (188 * q) = h0 ∧ σ.2 (m + 25) (188 * q + 1) = h1 ∧ σ.2 (m + 25) (188 * q + 2) = h2 ∧ σ.2 (m + 25) (188 * q + 3) = h3 ∧ σ.2 (m + 25) (188 * q + 4) = h4) → zz_G X 2 p_Mo_image 55 [zP 12 0 0 m, zI u, zI ((188 * q : Nat) : Int), zI ((j + 1 : Nat) : Int)] [] σ Post := by
  intro r
  induction r with
  | zero =>
    intro j σ hj hF hE hH
    have e : j = k := hj
    subst e
    have r3' : σ.1 1215 m = ((j + 1 : Nat) : Int) := by rw [hF.1]; exact r3
    refine zz_gsn 3 rfl ?_
    refine zz_br rfl (fun h58 => ?_) (fun h58 => absurd h58 (by omega))
    refine zz_gsn 1 rfl ?_
    refine zz_ri rfl (Or.inl rfl) ?_
    exact kk σ hF hE hH
  | succ r ih =>
    intro j σ hj hF hE hH
    have r3' : σ.1 1215 m = ((k + 1 : Nat) : Int) := by rw [hF.1]; exact r3
    obtain ⟨m1, m2, m3⟩ := hD j (by omega)
    rw [← hF.2 (m + 5) _ (by omega)] at m1
    rw [← hF.2 (m + 6) _ (by omega)] at m2
    rw [← hF.2 (m + 7) _ (by omega)] at m3
    have hj1 : j + 1 < 61 := by omega
    refine zz_gsn 3 rfl ?_
    refine zz_br rfl (fun h58 => absurd h58 (by omega)) (fun h58 => ?_)
    refine zz_gsn 12 rfl ?_
    refine zz_ald rfl (⟨by omega, by omega⟩) ?_
    rw [zw_im hq hj1]
    rw [Int.toNat_natCast, m1]
    refine zz_ast rfl (⟨by omega, by omega⟩) ?_
    refine zz_gsn 14 rfl ?_
    refine zz_ald rfl (⟨by omega, by omega⟩) ?_
    rw [zw_im hq hj1, zw_c1 (by omega)]
    rw [Int.toNat_natCast, Int.toNat_natCast, sa_a _ _ (by omega), m2]
    refine zz_ast rfl (⟨by omega, by omega⟩) ?_
    refine zz_gsn 14 rfl ?_
    refine zz_ald rfl (⟨by omega, by omega⟩) ?_
    rw [zw_im hq hj1, zw_c2 (by omega)]
    rw [Int.toNat_natCast, Int.toNat_natCast, sa_a _ _ (by omega), sa_a _ _ (by omega), m3]
    refine zz_ast rfl (⟨by omega, by omega⟩) ?_
    refine zz_gsn 1 rfl ?_
    refine zz_jp rfl ?_
    rw [zw_s (by omega), Int.toNat_natCast]
    refine ih (j + 1) _ (by omega) (((hF.sa (by omega)).sa (by omega)).sa (by omega)) (fun i hi => ?_) ?_
    · by_cases e : i = j
      · subst e
        refine ⟨?_, ?_, sa_h _ _ _ _⟩
        · rw [sa_i _ _ (by omega), sa_i _ _ (by omega), sa_h]
        · rw [sa_i _ _ (by omega), sa_h]
      · rw [sa_i _ _ (by omega), sa_i _ _ (by omega), sa_i _ _ (by omega), sa_i _ _ (by omega), sa_i _ _ (by omega), sa_i _ _ (by omega), sa_i _ _ (by omega), sa_i _ _ (by omega), sa_i _ _ (by omega)]
        exact hE i (by omega)
    · rw [sa_i _ _ (by omega), sa_i _ _ (by omega), sa_i _ _ (by omega), sa_i _ _ (by omega), sa_i _ _ (by omega), sa_i _ _ (by omega), sa_i _ _ (by omega), sa_i _ _ (by omega), sa_i _ _ (by omega), sa_i _ _ (by omega), sa_i _ _ (by omega), sa_i _ _ (by omega), sa_i _ _ (by omega), sa_i _ _ (by omega), sa_i _ _ (by omega)]
      exact hH
theorem t_Mo_image {X : zz_X} {σ : zz_M} {m : Nat} {G : zz_J} {k : Int} (hG : RG σ m G) (ok : g_ok G) : zz_T X 2 p_Mo_image [zP 12 0 0 m, zI k] σ (fun r σ' => r = some (zI (a_image G k).1) ∧ RG σ' m (a_image G k).2 ∧ zz_F (A_rf m) σ σ') := by
  refine zz_mk k_Mo_image o_Mo_image rfl rfl (Nat.le_of_ble_eq_true rfl) ?_
  show zz_G X 2 p_Mo_image 0 [zP 12 0 0 m, zI k, zU, zU] [] σ _
  obtain ⟨hI, hT, hO, hF, hM, h10⟩ := id hG
  obtain ⟨⟨ho, hfx⟩, okt, oko, okm⟩ := id ok
  have hk6 := ho.1.2.2.1
  rcases zz_c3 (0 ≤ k ∧ k ≤ 2) (G.I.ho = 1) with hk | ⟨hk, h1⟩ | ⟨hk, h1⟩
  · refine zz_gsn 4 rfl ?_
    refine zz_cs (n := 3) rfl rfl (t_Mo_in) (Nat.le_of_ble_eq_true rfl) (Nat.le_of_ble_eq_true rfl) (Nat.le_of_ble_eq_true rfl) (fun r4 σ4 q4 => ?_)
    obtain ⟨rfl, n4, rfl, e4⟩ := q4
    refine zz_br rfl (fun h5 => ?_) (fun h5 => absurd (show n4 = 0 by omega) h5)
    refine zz_gsn 1 rfl ?_
    refine zz_ri rfl (Or.inl rfl) ?_
    rw [show a_image G k = (-2, G) from if_neg (fun z => hk z.1)]
    exact ⟨rfl, hG, zz_F.rf⟩
  · obtain ⟨k, rfl⟩ : ∃ k' : Nat, k = (k' : Nat) := ⟨k.toNat, by omega⟩
    have hk3 : k < 3 := by omega
    obtain ⟨-, ⟨q1, q2, q3, q4⟩, hV⟩ := ri_y hI (by omega)
    obtain ⟨⟨r1, r2, r3⟩, r4, r5, r6, r7⟩ := id hV
    refine zz_gsn 4 rfl ?_
    refine zz_cs (n := 3) rfl rfl (t_Mo_in) (Nat.le_of_ble_eq_true rfl) (Nat.le_of_ble_eq_true rfl) (Nat.le_of_ble_eq_true rfl) (fun r4 σ4 q4 => ?_)
    obtain ⟨rfl, n4, rfl, e4⟩ := q4
    refine zz_br rfl (fun h5 => absurd h5 (by omega)) (fun h5 => ?_)
    refine zz_gsn 1 rfl ?_
    refine zz_cv (n := 1) rfl rfl (t_Mo_isHouse) (Nat.le_of_ble_eq_true rfl) (Nat.le_of_ble_eq_true rfl) (Nat.le_of_ble_eq_true rfl) (fun r7 σ7 q7 => ?_)
    obtain ⟨rfl, n7, rfl, e7⟩ := q7
    replace e7 := rh_of hI e7
    refine zz_br rfl (fun h8 => ?_) (fun h8 => absurd (by first | exact h8 | exact Decidable.not_not.mp h8) (show n7 ≠ 0 by omega))
    refine zz_gsn 3 rfl ?_
    rw [zw_188 hk3]
    refine zz_gsn 6 rfl ?_
    rw [q1]
    refine zz_ast rfl (⟨by omega, by omega⟩) ?_
    refine zz_gsn 7 rfl ?_
    rw [zw_c1 (by omega)]
    rw [show (zz_sa σ (m + 25) (((188 * k : Nat) : Int)).toNat G.I.law).1 1212 m = G.I.C from q2]
    refine zz_ast rfl (⟨by omega, by omega⟩) ?_
    refine zz_gsn 7 rfl ?_
    rw [zw_c2 (by omega)]
    refine zz_ast rfl (⟨by omega, by omega⟩) ?_
    refine zz_gsn 7 rfl ?_
    rw [zw_c3 (by omega)]
    refine zz_ast rfl (⟨by omega, by omega⟩) ?_
    refine zz_gsn 7 rfl ?_
    rw [zw_c4 (by omega)]
    refine zz_ast rfl (⟨by omega, by omega⟩) ?_
    obtain ⟨σ5, h5z⟩ : ∃ s, s = zz_sa (zz_sa (zz_sa (zz_sa (zz_sa σ (m + 25) (188 * k) G.I.law) (m + 25) (188 * k + 1) G.I.C) (m + 25) (188 * k + 2) ((G.I.told + 1 : Nat) : Int)) (m + 25) (188 * k + 3) (G.I.told : Nat)) (m + 25) (188 * k + 4) ((G.I.k + 1 : Nat) : Int) := ⟨_, rfl⟩
    refine zz_sge (σ' := σ5) (by rw [h5z, ← q3, ← q4, ← r3]; rfl) ?_
    refine zz_gsn 2 rfl ?_
    have F5 : Fi m k σ σ5 := by
      rw [h5z]
      exact (((((Fi.rf (m := m) (q := k) (σ := σ)).sa (by omega)).sa (by omega)).sa (by omega)).sa (by omega)).sa (by omega)
    have H5 : σ5.2 (m + 25) (188 * k) = G.I.law ∧ σ5.2 (m + 25) (188 * k + 1) = G.I.C ∧ σ5.2 (m + 25) (188 * k + 2) = ((G.I.told + 1 : Nat) : Int) ∧ σ5.2 (m + 25) (188 * k + 3) = (G.I.told : Nat) ∧ σ5.2 (m + 25) (188 * k + 4) = ((G.I.k + 1 : Nat) : Int) := by
      rw [h5z]
      refine ⟨?_, ?_, ?_, ?_, sa_h _ _ _ _⟩
      · rw [sa_i _ _ (by omega), sa_i _ _ (by omega), sa_i _ _ (by omega), sa_i _ _ (by omega), sa_h]
      · rw [sa_i _ _ (by omega), sa_i _ _ (by omega), sa_i _ _ (by omega), sa_h]
      · rw [sa_i _ _ (by omega), sa_i _ _ (by omega), sa_h]
      · rw [sa_i _ _ (by omega), sa_h]
    rw [show a_image G (k : Nat) = (0, (G.I, G.t, G.o, G.f, G.p, zu G.m k G.I)) from if_pos ⟨hk, h1⟩]
    refine lp_rimg (q := k) (k := G.I.k) (D := G.I.D) (σ0 := σ5) hk3 hk6 (by rw [F5.1]; exact r3) (fun i hi => by rw [F5.2 _ _ (by omega), F5.2 _ _ (by omega), F5.2 _ _ (by omega)]; exact (r5 i hi).2) (fun σ' F E H => ?_) G.I.k 0 σ5 (Nat.zero_add _) ⟨rfl, fun _ _ _ => rfl⟩ (fun i hi => absurd hi (Nat.not_lt_zero i)) H5
    have e1 : σ'.1 = σ.1 := F.1.trans F5.1
    have e2 : ∀ a i, ¬ (a = m + 25 ∧ 188 * k ≤ i ∧ i < 188 * k + 188) → σ'.2 a i = σ.2 a i := fun a i q => (F.2 a i q).trans (F5.2 a i q)
    have e3 : ∀ a, a ≠ m + 25 → σ'.2 a = σ.2 a := fun a ha => funext (fun i => e2 a i (fun z => ha z.1))
    refine ⟨rfl, ⟨?_, ⟨by rw [e1]; exact hT.1, fun i hi => by rw [e3 _ (by omega)]; exact hT.2 i hi⟩, ⟨by rw [e1]; exact hO.1, fun i hi => by rw [e3 _ (by omega)]; exact hO.2 i hi⟩, by rw [e1]; exact hF, fun i hi => ?_, by rw [e3 _ (by omega)]; exact h10⟩, fun a ha => ⟨fun f => by rw [e1], fun i => by rw [e3 a (fun z => ha (by unfold A_rf; omega))]⟩⟩
    · refine Or.inr ⟨h1, by rw [e1]; exact ⟨q1, q2, q3, q4⟩, by rw [e1]; exact ⟨r1, r2, r3⟩, fun v hv => ⟨(r4 v hv).1.ff (by rw [e1]) (fun a y1 y2 => e3 a (by omega)), ?_⟩, fun i hi => ?_, ?_⟩
      · obtain ⟨-, y1, y2⟩ := r4 v hv
        exact ⟨by rw [e3 _ (by omega)]; exact y1, fun i hi => by rw [e3 _ (by omega)]; exact y2 i hi⟩
      · rw [e3 _ (by omega), e3 _ (by omega), e3 _ (by omega), e3 _ (by omega), e3 _ (by omega), e3 _ (by omega)]
        exact r5 i hi
      · rw [e3 _ (by omega), e3 _ (by omega)]
        exact ⟨r6, r7⟩
    · by_cases e : i = k
      · subst e
        have em : zu G.m i G.I i = G.I := zu_s _ _ _
        show RMg σ' m i (zu G.m i G.I i)
        rw [em]
        exact Or.inr ⟨h1, H, E⟩
      · have em : zu G.m k G.I i = G.m i := zu_n _ _ e
        show RMg σ' m i (zu G.m k G.I i)
        rw [em]
        have z := hM i hi
        rcases z with ⟨a, b⟩ | ⟨a, ⟨b0, b1, b2, b3, b4⟩, c⟩
        · exact Or.inl ⟨a, by rw [e2 _ _ (by omega)]; exact b⟩
        · refine Or.inr ⟨a, ⟨?_, ?_, ?_, ?_, ?_⟩, fun j hj => ?_⟩
          · rw [e2 _ _ (by omega)]; exact b0
          · rw [e2 _ _ (by omega)]; exact b1
          · rw [e2 _ _ (by omega)]; exact b2
          · rw [e2 _ _ (by omega)]; exact b3
          · rw [e2 _ _ (by omega)]; exact b4
          · have hj6 := (okm i hi).1.1.2.2.1
            rw [e2 _ _ (by omega), e2 _ _ (by omega), e2 _ _ (by omega)]
            exact c j hj
  · have h0 : G.I.ho = 0 := by rcases ho.2 with z | z <;> omega
    refine zz_gsn 4 rfl ?_
    refine zz_cs (n := 3) rfl rfl (t_Mo_in) (Nat.le_of_ble_eq_true rfl) (Nat.le_of_ble_eq_true rfl) (Nat.le_of_ble_eq_true rfl) (fun r4 σ4 q4 => ?_)
    obtain ⟨rfl, n4, rfl, e4⟩ := q4
    refine zz_br rfl (fun h5 => absurd h5 (by omega)) (fun h5 => ?_)
    refine zz_gsn 1 rfl ?_
    refine zz_cv (n := 1) rfl rfl (t_Mo_isHouse) (Nat.le_of_ble_eq_true rfl) (Nat.le_of_ble_eq_true rfl) (Nat.le_of_ble_eq_true rfl) (fun r7 σ7 q7 => ?_)
    obtain ⟨rfl, n7, rfl, e7⟩ := q7
    replace e7 := rh_of hI e7
    refine zz_br rfl (fun h8 => absurd (show n7 = 0 by omega) h8) (fun h8 => ?_)
    refine zz_gsn 1 rfl ?_
    refine zz_ri rfl (Or.inl rfl) ?_
    rw [show a_image G k = (-2, G) from if_neg (fun z => h1 z.2)]
    exact ⟨rfl, hG, zz_F.rf⟩
