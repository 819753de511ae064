/-! the reference: bytes told, steps, counts -/
theorem t_Mo_fault {X : zz_X} {σ : zz_M} {m : Nat} {G : zz_J} {w : Int} (hG : RG σ m G) (ok : g_ok G) : zz_T X 1 p_Mo_fault [zP 12 0 0 m, zI w] σ (fun r σ' => σ = σ' ∧ r = some (zI (a_fault G w))) := by
  refine zz_mk k_Mo_fault o_Mo_fault rfl rfl (Nat.le_of_ble_eq_true rfl) ?_
  show zz_G X 1 p_Mo_fault 0 [zP 12 0 0 m, zI w] [] σ _
  obtain ⟨hI, hT, hO, hF, hM, h10⟩ := id hG
  obtain ⟨⟨ho, hfx⟩, okt, oko, okm⟩ := id ok
  have hk6 := ho.1.2.2.1
  refine zz_gsn 1 rfl ?_
  refine zz_br rfl (fun h1 => ?_) (fun h1 => ?_)
  · refine zz_gsn 2 rfl ?_
    refine zz_br rfl (fun h7 => ?_) (fun h7 => ?_)
    · refine zz_gsn 1 rfl ?_
      refine zz_ri rfl (Or.inl rfl) ?_
      exact ⟨rfl, congrArg (fun z => some (zI z)) ((if_neg h1).trans (if_neg h7)).symm⟩
    · refine zz_gsn 2 rfl ?_
      refine zz_jp rfl ?_
      refine zz_ri rfl (Or.inl rfl) ?_
      exact ⟨rfl, congrArg (fun z => some (zI z)) (hF.2.trans ((if_neg h1).trans (if_pos (by omega))).symm)⟩
  · refine zz_gsn 2 rfl ?_
    refine zz_jp rfl ?_
    refine zz_ri rfl (Or.inl rfl) ?_
    exact ⟨rfl, congrArg (fun z => some (zI z)) (hF.1.trans (if_pos (by omega)).symm)⟩
theorem t_Mo_octet {X : zz_X} {σ : zz_M} {m : Nat} {G : zz_J} {i : Int} (hG : RG σ m G) (ok : g_ok G) : zz_T X 2 p_Mo_octet [zP 12 0 0 m, zI i] σ (fun r σ' => σ = σ' ∧ r = some (zI (a_octet G i))) := by
  refine zz_mk k_Mo_octet o_Mo_octet rfl rfl (Nat.le_of_ble_eq_true rfl) ?_
  show zz_G X 2 p_Mo_octet 0 [zP 12 0 0 m, zI i] [] σ _
  obtain ⟨hI, hT, hO, hF, hM, h10⟩ := id hG
  obtain ⟨⟨ho, hfx⟩, okt, oko, okm⟩ := id ok
  have hk6 := ho.1.2.2.1
  have ho1 := hO.1
  have em : zw (σ.1 1256 m - 1) = (G.o.length : Int) - 1 := by rw [ho1]; exact zw_id (by omega) (by omega)
  rcases Classical.em (0 ≤ i ∧ i < (G.o.length : Nat)) with hi | hi
  · refine zz_gsn 8 rfl ?_
    refine zz_cs (n := 3) rfl rfl (t_Mo_in) (Nat.le_of_ble_eq_true rfl) (Nat.le_of_ble_eq_true rfl) (Nat.le_of_ble_eq_true rfl) (fun r8 σ8 q8 => ?_)
    obtain ⟨rfl, n8, rfl, e8⟩ := q8
    rw [em] at e8
    clear em
    refine zz_br rfl (fun h9 => absurd (show n8 = 1 by omega) (by omega)) (fun h9 => ?_)
    refine zz_gsn 3 rfl ?_
    refine zz_ald rfl (⟨by omega, by omega⟩) ?_
    refine zz_jp rfl ?_
    refine zz_ri rfl (Or.inl rfl) ?_
    exact ⟨rfl, congrArg (fun z => some (zI z)) ((hO.2 i.toNat (by omega)).trans (if_pos hi).symm)⟩
  · refine zz_gsn 8 rfl ?_
    refine zz_cs (n := 3) rfl rfl (t_Mo_in) (Nat.le_of_ble_eq_true rfl) (Nat.le_of_ble_eq_true rfl) (Nat.le_of_ble_eq_true rfl) (fun r8 σ8 q8 => ?_)
    obtain ⟨rfl, n8, rfl, e8⟩ := q8
    rw [em] at e8
    clear em
    refine zz_br rfl (fun h9 => ?_) (fun h9 => absurd (show n8 = 0 by omega) h9)
    refine zz_gsn 1 rfl ?_
    refine zz_ri rfl (Or.inl rfl) ?_
    exact ⟨rfl, congrArg (fun z => some (zI z)) (if_neg hi).symm⟩
theorem t_Mo_end {X : zz_X} {σ : zz_M} {m : Nat} {G : zz_J} {n : Int} (hG : RG σ m G) (ok : g_ok G) : zz_T X 2 p_Mo_end [zP 12 0 0 m, zI n] σ (fun r σ' => r = some (zI (a_end G n).1) ∧ RG σ' m (a_end G n).2 ∧ zz_F (A_rf m) σ σ') := by
  refine zz_mk k_Mo_end o_Mo_end rfl rfl (Nat.le_of_ble_eq_true rfl) ?_
  show zz_G X 2 p_Mo_end 0 [zP 12 0 0 m, zI n] [] σ _
  obtain ⟨hI, hT, hO, hF, hM, h10⟩ := id hG
  obtain ⟨⟨ho, hfx⟩, okt, oko, okm⟩ := id ok
  have hk6 := ho.1.2.2.1
  have ht1 := hT.1
  rcases Classical.em (0 ≤ n ∧ n ≤ (G.t.length : Nat)) with hn | hn
  · refine zz_gsn 6 rfl ?_
    refine zz_cs (n := 3) rfl rfl (t_Mo_in) (Nat.le_of_ble_eq_true rfl) (Nat.le_of_ble_eq_true rfl) (Nat.le_of_ble_eq_true rfl) (fun r6 σ6 q6 => ?_)
    obtain ⟨rfl, n6, rfl, e6⟩ := q6
    refine zz_br rfl (fun h7 => ?_) (fun h7 => absurd (by first | exact h7 | exact Decidable.not_not.mp h7) (show n6 ≠ 0 by omega))
    refine zz_gsn 4 rfl ?_
    refine zz_ri rfl (Or.inl rfl) ?_
    rw [show a_end G n = (n, (G.I, G.t.take n.toNat, G.o, G.f, G.p, G.m)) from if_pos hn]
    have el : (G.t.take n.toNat).length = n.toNat := by rw [List.length_take]; omega
    have f1 : ∀ f, f ≠ 1225 → (zz_sf σ 1225 m n).1 f m = σ.1 f m := fun f hf => sf_f _ _ hf
    refine ⟨rfl, ⟨?_, ⟨?_, fun i hi => ?_⟩, ⟨(f1 _ (by decide)).trans hO.1, hO.2⟩, ⟨(f1 _ (by decide)).trans hF.1, (f1 _ (by decide)).trans hF.2⟩, hM, h10⟩, zz_F.sf (by unfold A_rf; omega)⟩
    · rcases hI with ⟨a, b⟩ | ⟨a, ⟨b1, b2, b3, b4⟩, c⟩
      · exact Or.inl ⟨a, (f1 _ (by decide)).trans b⟩
      · refine Or.inr ⟨a, ⟨(f1 _ (by decide)).trans b1, (f1 _ (by decide)).trans b2, (f1 _ (by decide)).trans b3, (f1 _ (by decide)).trans b4⟩, ?_⟩
        obtain ⟨⟨r1, r2, r3⟩, r4, r5, r6⟩ := c
        exact ⟨⟨(f1 _ (by decide)).trans r1, (f1 _ (by decide)).trans r2, (f1 _ (by decide)).trans r3⟩, fun v hv => ⟨(r4 v hv).1.fd (by decide), (r4 v hv).2⟩, r5, r6⟩
    · rw [sf_h, el]; omega
    · rw [el] at hi
      rw [sf_2, hT.2 i (by omega), List.getD_eq_getElem?_getD, List.getD_eq_getElem?_getD, List.getElem?_take, if_pos hi]
  · refine zz_gsn 6 rfl ?_
    refine zz_cs (n := 3) rfl rfl (t_Mo_in) (Nat.le_of_ble_eq_true rfl) (Nat.le_of_ble_eq_true rfl) (Nat.le_of_ble_eq_true rfl) (fun r6 σ6 q6 => ?_)
    obtain ⟨rfl, n6, rfl, e6⟩ := q6
    refine zz_br rfl (fun h7 => absurd (show n6 = 0 by omega) h7) (fun h7 => ?_)
    refine zz_gsn 1 rfl ?_
    refine zz_ri rfl (Or.inl rfl) ?_
    rw [show a_end G n = (-1, G) from if_neg hn]
    exact ⟨rfl, hG, zz_F.rf⟩
theorem t_Mo_made {X : zz_X} {σ : zz_M} {m : Nat} {G : zz_J} (hG : RG σ m G) (ok : g_ok G) : zz_T X 2 p_Mo_made [zP 12 0 0 m] σ (fun r σ' => σ = σ' ∧ r = some (zI (a_made G))) := by
  refine zz_mk k_Mo_made o_Mo_made rfl rfl (Nat.le_of_ble_eq_true rfl) ?_
  show zz_G X 2 p_Mo_made 0 [zP 12 0 0 m] [] σ _
  obtain ⟨hI, hT, hO, hF, hM, h10⟩ := id hG
  obtain ⟨⟨ho, hfx⟩, okt, oko, okm⟩ := id ok
  have hk6 := ho.1.2.2.1
  rcases Classical.em (G.I.ho = 1) with h1 | h1
  · obtain ⟨-, ⟨q1, q2, q3, q4⟩, hV⟩ := ri_y hI (by omega)
    obtain ⟨⟨r1, r2, r3⟩, r4, r5, r6, r7⟩ := id hV
    refine zz_gsn 1 rfl ?_
    refine zz_cv (n := 1) rfl rfl (t_Mo_isHouse) (Nat.le_of_ble_eq_true rfl) (Nat.le_of_ble_eq_true rfl) (Nat.le_of_ble_eq_true rfl) (fun r1 σ1 q1 => ?_)
    obtain ⟨rfl, n1, rfl, e1⟩ := q1
    replace e1 := rh_of hI e1
    refine zz_br rfl (fun h2 => absurd h2 (by omega)) (fun h2 => ?_)
    refine zz_gsn 2 rfl ?_
    refine zz_jp rfl ?_
    refine zz_ri rfl (Or.inl rfl) ?_
    exact ⟨rfl, congrArg (fun z => some (zI z)) (((r4 0 (Nat.zero_le _)).1.2.2.1.1).trans (if_pos h1).symm)⟩
  · have h0 : G.I.ho = 0 := by rcases ho.2 with z | z <;> omega
    refine zz_gsn 1 rfl ?_
    refine zz_cv (n := 1) rfl rfl (t_Mo_isHouse) (Nat.le_of_ble_eq_true rfl) (Nat.le_of_ble_eq_true rfl) (Nat.le_of_ble_eq_true rfl) (fun r1 σ1 q1 => ?_)
    obtain ⟨rfl, n1, rfl, e1⟩ := q1
    replace e1 := rh_of hI e1
    refine zz_br rfl (fun h2 => ?_) (fun h2 => absurd (show n1 = 0 by omega) h2)
    refine zz_gsn 1 rfl ?_
    refine zz_ri rfl (Or.inl rfl) ?_
    exact ⟨rfl, congrArg (fun z => some (zI z)) (if_neg h1).symm⟩
theorem t_Mo_spent {X : zz_X} {σ : zz_M} {m : Nat} {G : zz_J} {d : Int} (hG : RG σ m G) (ok : g_ok G) : zz_T X 2 p_Mo_spent [zP 12 0 0 m, zI d] σ (fun r σ' => σ = σ' ∧ r = some (zI (a_spent G d))) := by
  refine zz_mk k_Mo_spent o_Mo_spent rfl rfl (Nat.le_of_ble_eq_true rfl) ?_
  show zz_G X 2 p_Mo_spent 0 [zP 12 0 0 m, zI d] [] σ _
  obtain ⟨hI, hT, hO, hF, hM, h10⟩ := id hG
  obtain ⟨⟨ho, hfx⟩, okt, oko, okm⟩ := id ok
  have hk6 := ho.1.2.2.1
  rcases (show (0 ≤ d ∧ d < (G.I.k : Nat)) ∨ (¬ (0 ≤ d ∧ d < (G.I.k : Nat)) ∧ G.I.ho = 1) ∨ (¬ (0 ≤ d ∧ d < (G.I.k : Nat)) ∧ G.I.ho ≠ 1) by omega) with hd | ⟨hd, h1⟩ | ⟨hd, h1⟩
  · have h1 : G.I.ho = 1 := by rcases ho.2 with z | z <;> omega
    obtain ⟨-, ⟨q1, q2, q3, q4⟩, hV⟩ := ri_y hI (by omega)
    obtain ⟨⟨r1, r2, r3⟩, r4, r5, r6, r7⟩ := id hV
    refine zz_gsn 1 rfl ?_
    refine zz_cv (n := 1) rfl rfl (t_Mo_isHouse) (Nat.le_of_ble_eq_true rfl) (Nat.le_of_ble_eq_true rfl) (Nat.le_of_ble_eq_true rfl) (fun r1 σ1 q1 => ?_)
    obtain ⟨rfl, n1, rfl, e1⟩ := q1
    replace e1 := rh_of hI e1
    refine zz_br rfl (fun h2 => absurd h2 (by omega)) (fun h2 => ?_)
    refine zz_gsn 4 rfl ?_
    refine zz_cv (n := 1) rfl rfl (t_Mo_deedMany) (Nat.le_of_ble_eq_true rfl) (Nat.le_of_ble_eq_true rfl) (Nat.le_of_ble_eq_true rfl) (fun r7 σ7 q7 => ?_)
    obtain ⟨rfl, rfl⟩ := q7
    rw [r3, zw_p (n := G.I.k + 1) (Nat.succ_pos _) (by omega), show (((G.I.k + 1 - 1 : Nat)) : Int) = (G.I.k : Nat) from rfl]
    refine zz_gsn 3 rfl ?_
    refine zz_cs (n := 3) rfl rfl (t_Mo_in) (Nat.le_of_ble_eq_true rfl) (Nat.le_of_ble_eq_true rfl) (Nat.le_of_ble_eq_true rfl) (fun r11 σ11 q11 => ?_)
    obtain ⟨rfl, n11, rfl, e11⟩ := q11
    rw [show zw (((G.I.k : Nat) : Int) - 1) = ((G.I.k : Nat) : Int) - 1 from zw_id (by omega) (by omega)] at e11
    refine zz_br rfl (fun h12 => absurd h12 (by omega)) (fun h12 => ?_)
    refine zz_gsn 5 rfl ?_
    rw [show zw (d + 1) = d + 1 from zw_id (by omega) (by omega)]
    refine zz_ald rfl (⟨by omega, by omega⟩) ?_
    refine zz_jp rfl ?_
    refine zz_ri rfl (Or.inl rfl) ?_
    have z := (r5 d.toNat (by omega)).1.1
    rw [show (d + 1).toNat = d.toNat + 1 by omega]
    exact ⟨rfl, congrArg (fun z => some (zI z)) ((z).trans (if_pos hd).symm)⟩
  · obtain ⟨-, ⟨q1, q2, q3, q4⟩, hV⟩ := ri_y hI (by omega)
    obtain ⟨⟨r1, r2, r3⟩, r4, r5, r6, r7⟩ := id hV
    refine zz_gsn 1 rfl ?_
    refine zz_cv (n := 1) rfl rfl (t_Mo_isHouse) (Nat.le_of_ble_eq_true rfl) (Nat.le_of_ble_eq_true rfl) (Nat.le_of_ble_eq_true rfl) (fun r1 σ1 q1 => ?_)
    obtain ⟨rfl, n1, rfl, e1⟩ := q1
    replace e1 := rh_of hI e1
    refine zz_br rfl (fun h2 => absurd h2 (by omega)) (fun h2 => ?_)
    refine zz_gsn 4 rfl ?_
    refine zz_cv (n := 1) rfl rfl (t_Mo_deedMany) (Nat.le_of_ble_eq_true rfl) (Nat.le_of_ble_eq_true rfl) (Nat.le_of_ble_eq_true rfl) (fun r7 σ7 q7 => ?_)
    obtain ⟨rfl, rfl⟩ := q7
    rw [r3, zw_p (n := G.I.k + 1) (Nat.succ_pos _) (by omega), show (((G.I.k + 1 - 1 : Nat)) : Int) = (G.I.k : Nat) from rfl]
    refine zz_gsn 3 rfl ?_
    refine zz_cs (n := 3) rfl rfl (t_Mo_in) (Nat.le_of_ble_eq_true rfl) (Nat.le_of_ble_eq_true rfl) (Nat.le_of_ble_eq_true rfl) (fun r11 σ11 q11 => ?_)
    obtain ⟨rfl, n11, rfl, e11⟩ := q11
    rw [show zw (((G.I.k : Nat) : Int) - 1) = ((G.I.k : Nat) : Int) - 1 from zw_id (by omega) (by omega)] at e11
    refine zz_br rfl (fun h12 => ?_) (fun h12 => absurd (show n11 = 0 by omega) h12)
    refine zz_gsn 1 rfl ?_
    refine zz_ri rfl (Or.inl rfl) ?_
    exact ⟨rfl, congrArg (fun z => some (zI z)) (if_neg hd).symm⟩
  · have h0 : G.I.ho = 0 := by rcases ho.2 with z | z <;> omega
    refine zz_gsn 1 rfl ?_
    refine zz_cv (n := 1) rfl rfl (t_Mo_isHouse) (Nat.le_of_ble_eq_true rfl) (Nat.le_of_ble_eq_true rfl) (Nat.le_of_ble_eq_true rfl) (fun r1 σ1 q1 => ?_)
    obtain ⟨rfl, n1, rfl, e1⟩ := q1
    replace e1 := rh_of hI e1
    refine zz_br rfl (fun h2 => ?_) (fun h2 => absurd (show n1 = 0 by omega) h2)
    refine zz_gsn 1 rfl ?_
    refine zz_ri rfl (Or.inl rfl) ?_
    exact ⟨rfl, congrArg (fun z => some (zI z)) (if_neg hd).symm⟩
theorem lp_rled {X : zz_X} {m k : Nat} {f : Nat → Int} {σ : zz_M} {Post : Option zz_V → zz_M → Prop} (hk : k ≤ 60) (r3 : σ.1 1215 m = ((k + 1 : Nat) : Int)) (hf : ∀ i, i < k → σ.2 (m + 8) (i + 1) = f i) (hb : ∀ i, i < k → 0 ≤ f i ∧ f i ≤ 200) (kk : Post (some (zI (zz_sum f k))) σ) :
    ∀ (r j : Nat), j + r = k → zz_G X 2 p_Mo_ledger 9 [zP 12 0 0 m, zI (zz_sum f j), zI ((j + 1 : Nat) : Int)] [] σ Post := by
  have hb2 : ∀ i, i < k → 0 ≤ f i ∧ f i ≤ 200 := fun i hi => by have := hb i hi; omega
  intro r
  induction r with
  | zero =>
    intro j hj
    have e : j = k := hj
    subst e
    refine zz_gsn 3 rfl ?_
    refine zz_br rfl (fun h12 => ?_) (fun h12 => absurd h12 (by omega))
    refine zz_gsn 1 rfl ?_
    refine zz_ri rfl (Or.inl rfl) ?_
    exact kk
  | succ r ih =>
    intro j hj
    have bd := sum_bd hb2 (show j ≤ k by omega)
    have b1 := hb j (by omega)
    have en : ∀ x : Int, x = f j → zw (zz_sum f j + x) = zz_sum f (j + 1) := fun x e => by
      rw [e]
      exact zw_id (x := zz_sum f j + f j) (by omega) (by omega)
    refine zz_gsn 3 rfl ?_
    refine zz_br rfl (fun h12 => absurd h12 (by omega)) (fun h12 => ?_)
    refine zz_gsn 4 rfl ?_
    refine zz_ald rfl (⟨by omega, by omega⟩) ?_
    rw [Int.toNat_natCast, hf j (by omega)]
    refine zz_gsn 3 rfl ?_
    refine zz_jp rfl ?_
    rw [en _ (by omega), zw_s (by omega)]
    exact ih (j + 1) (by omega)
theorem lp_rovd {X : zz_X} {m k : Nat} {f : Nat → Int} {σ : zz_M} {Post : Option zz_V → zz_M → Prop} (hk : k ≤ 60) (r3 : σ.1 1215 m = ((k + 1 : Nat) : Int)) (hf : ∀ i, i < k → σ.2 (m + 9) (i + 1) = f i) (hb : ∀ i, i < k → f i = 0 ∨ f i = 1) (kk : Post (some (zI (zz_sum f k))) σ) :
    ∀ (r j : Nat), j + r = k → zz_G X 2 p_Mo_overdue 9 [zP 12 0 0 m, zI (zz_sum f j), zI ((j + 1 : Nat) : Int)] [] σ Post := by
  have hb2 : ∀ i, i < k → 0 ≤ f i ∧ f i ≤ 200 := fun i hi => by have := hb i hi; omega
  intro r
  induction r with
  | zero =>
    intro j hj
    have e : j = k := hj
    subst e
    refine zz_gsn 3 rfl ?_
    refine zz_br rfl (fun h12 => ?_) (fun h12 => absurd h12 (by omega))
    refine zz_gsn 1 rfl ?_
    refine zz_ri rfl (Or.inl rfl) ?_
    exact kk
  | succ r ih =>
    intro j hj
    have bd := sum_bd hb2 (show j ≤ k by omega)
    have b1 := hb j (by omega)
    have en : ∀ x : Int, x = f j → zw (zz_sum f j + x) = zz_sum f (j + 1) := fun x e => by
      rw [e]
      exact zw_id (x := zz_sum f j + f j) (by omega) (by omega)
    refine zz_gsn 3 rfl ?_
    refine zz_br rfl (fun h12 => absurd h12 (by omega)) (fun h12 => ?_)
    refine zz_gsn 4 rfl ?_
    refine zz_ald rfl (⟨by omega, by omega⟩) ?_
    rw [Int.toNat_natCast, hf j (by omega)]
    refine zz_br rfl (fun h18 => ?_) (fun h18 => ?_)
    · refine zz_gsn 4 rfl ?_
      refine zz_jp rfl ?_
      rw [en _ (by omega), zw_s (by omega)]
      exact ih (j + 1) (by omega)
    · refine zz_gsn 1 rfl ?_
      refine zz_jp rfl ?_
      refine zz_gsn 3 rfl ?_
      refine zz_jp rfl ?_
      rw [en _ (by omega), zw_s (by omega)]
      exact ih (j + 1) (by omega)
theorem t_Mo_ledger {X : zz_X} {σ : zz_M} {m : Nat} {G : zz_J} (hG : RG σ m G) (ok : g_ok G) : zz_T X 2 p_Mo_ledger [zP 12 0 0 m] σ (fun r σ' => σ = σ' ∧ r = some (zI (a_ledger G))) := by
  refine zz_mk k_Mo_ledger o_Mo_ledger rfl rfl (Nat.le_of_ble_eq_true rfl) ?_
  show zz_G X 2 p_Mo_ledger 0 [zP 12 0 0 m, zU, zU] [] σ _
  obtain ⟨hI, hT, hO, hF, hM, h10⟩ := id hG
  obtain ⟨⟨ho, hfx⟩, okt, oko, okm⟩ := id ok
  have hk6 := ho.1.2.2.1
  rcases Classical.em (G.I.ho = 1) with h1 | h1
  · obtain ⟨-, ⟨q1, q2, q3, q4⟩, hV⟩ := ri_y hI (by omega)
    obtain ⟨⟨r1, r2, r3⟩, r4, r5, r6, r7⟩ := id hV
    refine zz_gsn 1 rfl ?_
    refine zz_cv (n := 1) rfl rfl (t_Mo_isHouse) (Nat.le_of_ble_eq_true rfl) (Nat.le_of_ble_eq_true rfl) (Nat.le_of_ble_eq_true rfl) (fun r1 σ1 q1 => ?_)
    obtain ⟨rfl, n1, rfl, e1⟩ := q1
    replace e1 := rh_of hI e1
    refine zz_br rfl (fun h2 => ?_) (fun h2 => absurd (by first | exact h2 | exact Decidable.not_not.mp h2) (show n1 ≠ 0 by omega))
    refine zz_gsn 4 rfl ?_
    have hin := h_inv ho.1
    refine lp_rled (f := (gW G).sp) hk6 r3 (fun i hi => (r5 i hi).1.1) (fun i hi => ⟨Int.le_of_lt (hin.2.2.2.2.1 i hi).2.2.1, h_spu ho.1 i hi⟩) ?_ G.I.k 0 (Nat.zero_add _)
    exact ⟨rfl, congrArg (fun z => some (zI z)) ((rfl).trans (if_pos h1).symm)⟩
  · have h0 : G.I.ho = 0 := by rcases ho.2 with z | z <;> omega
    refine zz_gsn 1 rfl ?_
    refine zz_cv (n := 1) rfl rfl (t_Mo_isHouse) (Nat.le_of_ble_eq_true rfl) (Nat.le_of_ble_eq_true rfl) (Nat.le_of_ble_eq_true rfl) (fun r1 σ1 q1 => ?_)
    obtain ⟨rfl, n1, rfl, e1⟩ := q1
    replace e1 := rh_of hI e1
    refine zz_br rfl (fun h2 => absurd (show n1 = 0 by omega) h2) (fun h2 => ?_)
    refine zz_gsn 1 rfl ?_
    refine zz_ri rfl (Or.inl rfl) ?_
    exact ⟨rfl, congrArg (fun z => some (zI z)) (if_neg h1).symm⟩
theorem t_Mo_overdue {X : zz_X} {σ : zz_M} {m : Nat} {G : zz_J} (hG : RG σ m G) (ok : g_ok G) : zz_T X 2 p_Mo_overdue [zP 12 0 0 m] σ (fun r σ' => σ = σ' ∧ r = some (zI (a_overdue G))) := by
  refine zz_mk k_Mo_overdue o_Mo_overdue rfl rfl (Nat.le_of_ble_eq_true rfl) ?_
  show zz_G X 2 p_Mo_overdue 0 [zP 12 0 0 m, zU, zU] [] σ _
  obtain ⟨hI, hT, hO, hF, hM, h10⟩ := id hG
  obtain ⟨⟨ho, hfx⟩, okt, oko, okm⟩ := id ok
  have hk6 := ho.1.2.2.1
  rcases Classical.em (G.I.ho = 1) with h1 | h1
  · obtain ⟨-, ⟨q1, q2, q3, q4⟩, hV⟩ := ri_y hI (by omega)
    obtain ⟨⟨r1, r2, r3⟩, r4, r5, r6, r7⟩ := id hV
    refine zz_gsn 1 rfl ?_
    refine zz_cv (n := 1) rfl rfl (t_Mo_isHouse) (Nat.le_of_ble_eq_true rfl) (Nat.le_of_ble_eq_true rfl) (Nat.le_of_ble_eq_true rfl) (fun r1 σ1 q1 => ?_)
    obtain ⟨rfl, n1, rfl, e1⟩ := q1
    replace e1 := rh_of hI e1
    refine zz_br rfl (fun h2 => ?_) (fun h2 => absurd (by first | exact h2 | exact Decidable.not_not.mp h2) (show n1 ≠ 0 by omega))
    refine zz_gsn 4 rfl ?_
    have hin := h_inv ho.1
    refine lp_rovd (f := (gW G).lt) hk6 r3 (fun i hi => (r5 i hi).1.2.1) (fun i hi => (hin.2.2.2.2.1 i hi).2.2.2) ?_ G.I.k 0 (Nat.zero_add _)
    exact ⟨rfl, congrArg (fun z => some (zI z)) ((rfl).trans (if_pos h1).symm)⟩
  · have h0 : G.I.ho = 0 := by rcases ho.2 with z | z <;> omega
    refine zz_gsn 1 rfl ?_
    refine zz_cv (n := 1) rfl rfl (t_Mo_isHouse) (Nat.le_of_ble_eq_true rfl) (Nat.le_of_ble_eq_true rfl) (Nat.le_of_ble_eq_true rfl) (fun r1 σ1 q1 => ?_)
    obtain ⟨rfl, n1, rfl, e1⟩ := q1
    replace e1 := rh_of hI e1
    refine zz_br rfl (fun h2 => absurd (show n1 = 0 by omega) h2) (fun h2 => ?_)
    refine zz_gsn 1 rfl ?_
    refine zz_ri rfl (Or.inl rfl) ?_
    exact ⟨rfl, congrArg (fun z => some (zI z)) (if_neg h1).symm⟩
theorem dst_s {f : Nat → Int} {k : Nat} (hp : ∀ i, i < k → 0 < f i) : ∀ j, j ≤ k → ((dst f j).1 = -1 ∧ (dst f j).2 = 0 ∧ j = 0) ∨ (∃ i : Nat, i < j ∧ (dst f j).1 = (i : Nat) ∧ (dst f j).2 = f i)
  | 0, _ => Or.inl ⟨rfl, rfl, rfl⟩
  | j + 1, hj => by
    have ih := dst_s hp j (by omega)
    by_cases h : (dst f j).2 < f j
    · have e : dst f (j + 1) = (((j : Nat) : Int), f j) := if_pos h
      rw [e]
      exact Or.inr ⟨j, Nat.lt_succ_self j, rfl, rfl⟩
    · have e : dst f (j + 1) = dst f j := if_neg h
      rw [e]
      rcases ih with ⟨a, b, c⟩ | ⟨i, a, b, c⟩
      · have := hp j (by omega)
        omega
      · exact Or.inr ⟨i, by omega, b, c⟩
theorem lp_rdear {X : zz_X} {m k : Nat} {f : Nat → Int} {σ : zz_M} {Post : Option zz_V → zz_M → Prop} (hk : k ≤ 60) (r3 : σ.1 1215 m = ((k + 1 : Nat) : Int)) (hf : ∀ i, i < k → σ.2 (m + 8) (i + 1) = f i) (hp : ∀ i, i < k → 0 < f i) (kk : Post (some (zI (dst f k).1)) σ) :
    ∀ (r j : Nat), j + r = k → zz_G X 2 p_Mo_dearest 9 [zP 12 0 0 m, zI (dst f j).1, zI ((j + 1 : Nat) : Int)] [] σ Post := by
  intro r
  induction r with
  | zero =>
    intro j hj
    have e : j = k := hj
    subst e
    refine zz_gsn 3 rfl ?_
    refine zz_br rfl (fun h12 => ?_) (fun h12 => absurd h12 (by omega))
    refine zz_gsn 1 rfl ?_
    refine zz_ri rfl (Or.inl rfl) ?_
    exact kk
  | succ r ih =>
    intro j hj
    have ih2 := ih (j + 1) (by omega)
    have hy : (dst f j).2 < f j → dst f (j + 1) = (((j : Nat) : Int), f j) := fun z => if_pos z
    have hn : ¬ (dst f j).2 < f j → dst f (j + 1) = dst f j := fun z => if_neg z
    have p1 := hp j (by omega)
    have ez : zw (((j + 1 : Nat) : Int) - 1) = ((j : Nat) : Int) := zw_p (n := j + 1) (Nat.succ_pos _) (by omega)
    rcases dst_s hp j (by omega) with ⟨a, b, c⟩ | ⟨i, a, b, c⟩
    · have e2 := hy (by omega)
      rw [e2] at ih2
      rw [a]
      refine zz_gsn 3 rfl ?_
      refine zz_br rfl (fun h12 => absurd h12 (by clear ez; omega)) (fun h12 => ?_)
      refine zz_gsn 2 rfl ?_
      refine zz_br rfl (fun h15 => ?_) (fun h15 => absurd rfl h15)
      refine zz_gsn 5 rfl ?_
      refine zz_jp rfl ?_
      rw [ez, zw_s (by clear ez; omega)]
      exact ih2
    · rw [b]
      refine zz_gsn 3 rfl ?_
      refine zz_br rfl (fun h12 => absurd h12 (by clear ez; omega)) (fun h12 => ?_)
      refine zz_gsn 2 rfl ?_
      refine zz_br rfl (fun h15 => absurd h15 (by clear ez; omega)) (fun h15 => ?_)
      refine zz_gsn 3 rfl ?_
      refine zz_ald rfl (⟨by clear ez; omega, by clear ez; omega⟩) ?_
      rw [Int.toNat_natCast, hf j (by clear ez; omega)]
      refine zz_gsn 5 rfl ?_
      rw [zw_s (by clear ez; omega)]
      refine zz_ald rfl (⟨by clear ez; omega, by clear ez; omega⟩) ?_
      rw [Int.toNat_natCast, hf i (by clear ez; omega)]
      refine zz_br rfl (fun h26 => ?_) (fun h26 => ?_)
      · refine zz_gsn 1 rfl ?_
        refine zz_jp rfl ?_
        rw [zw_s (by clear ez; omega)]
        rw [hn (fun z => by clear ez; omega), b] at ih2
        exact ih2
      · refine zz_gsn 5 rfl ?_
        refine zz_jp rfl ?_
        rw [ez, zw_s (by clear ez; omega)]
        rw [hy (by clear ez; omega)] at ih2
        exact ih2
theorem t_Mo_dearest {X : zz_X} {σ : zz_M} {m : Nat} {G : zz_J} (hG : RG σ m G) (ok : g_ok G) : zz_T X 2 p_Mo_dearest [zP 12 0 0 m] σ (fun r σ' => σ = σ' ∧ r = some (zI (a_dearest G))) := by
  refine zz_mk k_Mo_dearest o_Mo_dearest rfl rfl (Nat.le_of_ble_eq_true rfl) ?_
  show zz_G X 2 p_Mo_dearest 0 [zP 12 0 0 m, zU, zU] [] σ _
  obtain ⟨hI, hT, hO, hF, hM, h10⟩ := id hG
  obtain ⟨⟨ho, hfx⟩, okt, oko, okm⟩ := id ok
  have hk6 := ho.1.2.2.1
  rcases Classical.em (G.I.ho = 1) with h1 | h1
  · obtain ⟨-, ⟨q1, q2, q3, q4⟩, hV⟩ := ri_y hI (by omega)
    obtain ⟨⟨r1, r2, r3⟩, r4, r5, r6, r7⟩ := id hV
    refine zz_gsn 1 rfl ?_
    refine zz_cv (n := 1) rfl rfl (t_Mo_isHouse) (Nat.le_of_ble_eq_true rfl) (Nat.le_of_ble_eq_true rfl) (Nat.le_of_ble_eq_true rfl) (fun r1 σ1 q1 => ?_)
    obtain ⟨rfl, n1, rfl, e1⟩ := q1
    replace e1 := rh_of hI e1
    refine zz_br rfl (fun h2 => ?_) (fun h2 => absurd (by first | exact h2 | exact Decidable.not_not.mp h2) (show n1 ≠ 0 by omega))
    refine zz_gsn 4 rfl ?_
    have hin := h_inv ho.1
    refine lp_rdear (f := (gW G).sp) hk6 r3 (fun i hi => (r5 i hi).1.1) (fun i hi => (hin.2.2.2.2.1 i hi).2.2.1) ?_ G.I.k 0 (Nat.zero_add _)
    exact ⟨rfl, congrArg (fun z => some (zI z)) ((rfl).trans (if_pos h1).symm)⟩
  · have h0 : G.I.ho = 0 := by rcases ho.2 with z | z <;> omega
    refine zz_gsn 1 rfl ?_
    refine zz_cv (n := 1) rfl rfl (t_Mo_isHouse) (Nat.le_of_ble_eq_true rfl) (Nat.le_of_ble_eq_true rfl) (Nat.le_of_ble_eq_true rfl) (fun r1 σ1 q1 => ?_)
    obtain ⟨rfl, n1, rfl, e1⟩ := q1
    replace e1 := rh_of hI e1
    refine zz_br rfl (fun h2 => absurd (show n1 = 0 by omega) h2) (fun h2 => ?_)
    refine zz_gsn 1 rfl ?_
    refine zz_ri rfl (Or.inl rfl) ?_
    exact ⟨rfl, congrArg (fun z => some (zI z)) (if_neg h1).symm⟩
theorem t_Mo_count {X : zz_X} {σ : zz_M} {m : Nat} {G : zz_J} {w : Int} (hG : RG σ m G) (ok : g_ok G) : zz_T X 2 p_Mo_count [zP 12 0 0 m, zI w] σ (fun r σ' => σ = σ' ∧ r = some (zI (a_count G w))) := by
  refine zz_mk k_Mo_count o_Mo_count rfl rfl (Nat.le_of_ble_eq_true rfl) ?_
  show zz_G X 2 p_Mo_count 0 [zP 12 0 0 m, zI w] [] σ _
  obtain ⟨hI, hT, hO, hF, hM, h10⟩ := id hG
  obtain ⟨⟨ho, hfx⟩, okt, oko, okm⟩ := id ok
  have hk6 := ho.1.2.2.1
  obtain ⟨t1, t2, t3⟩ := i_tk ho
  rcases (show w = 6 ∨ w = 7 ∨ ((0 ≤ w ∧ w ≤ 5) ∧ G.I.ho = 1) ∨ ((0 ≤ w ∧ w ≤ 5) ∧ G.I.ho ≠ 1) ∨ (w < 0 ∨ 7 < w) by omega) with hx | hx | ⟨hw, h1⟩ | ⟨hw, h1⟩ | hw
  · refine zz_gsn 2 rfl ?_
    refine zz_br rfl (fun h2 => absurd hx h2) (fun h2 => ?_)
    refine zz_gsn 2 rfl ?_
    refine zz_ri rfl (Or.inl rfl) ?_
    refine ⟨rfl, congrArg (fun z => some (zI z)) ?_⟩
    subst hx
    exact hT.1
  · refine zz_gsn 2 rfl ?_
    refine zz_br rfl (fun h2 => ?_) (fun h2 => absurd (by first | exact h2 | exact Decidable.not_not.mp h2) (show w ≠ 6 by omega))
    refine zz_gsn 2 rfl ?_
    refine zz_br rfl (fun h8 => absurd hx h8) (fun h8 => ?_)
    refine zz_gsn 2 rfl ?_
    refine zz_ri rfl (Or.inl rfl) ?_
    refine ⟨rfl, congrArg (fun z => some (zI z)) ?_⟩
    subst hx
    exact hO.1
  · obtain ⟨-, ⟨q1, q2, q3, q4⟩, hV⟩ := ri_y hI (by omega)
    obtain ⟨⟨r1, r2, r3⟩, r4, r5, r6, r7⟩ := id hV
    refine zz_gsn 2 rfl ?_
    refine zz_br rfl (fun h2 => ?_) (fun h2 => absurd (by first | exact h2 | exact Decidable.not_not.mp h2) (show w ≠ 6 by omega))
    refine zz_gsn 2 rfl ?_
    refine zz_br rfl (fun h8 => ?_) (fun h8 => absurd (by first | exact h8 | exact Decidable.not_not.mp h8) (show w ≠ 7 by omega))
    refine zz_gsn 4 rfl ?_
    refine zz_cs (n := 3) rfl rfl (t_Mo_in) (Nat.le_of_ble_eq_true rfl) (Nat.le_of_ble_eq_true rfl) (Nat.le_of_ble_eq_true rfl) (fun r16 σ16 q16 => ?_)
    obtain ⟨rfl, n16, rfl, e16⟩ := q16
    refine zz_br rfl (fun h17 => ?_) (fun h17 => absurd (by first | exact h17 | exact Decidable.not_not.mp h17) (show n16 ≠ 0 by omega))
    refine zz_gsn 1 rfl ?_
    refine zz_cv (n := 1) rfl rfl (t_Mo_isHouse) (Nat.le_of_ble_eq_true rfl) (Nat.le_of_ble_eq_true rfl) (Nat.le_of_ble_eq_true rfl) (fun r21 σ21 q21 => ?_)
    obtain ⟨rfl, n21, rfl, e21⟩ := q21
    replace e21 := rh_of hI e21
    refine zz_br rfl (fun h22 => ?_) (fun h22 => absurd (by first | exact h22 | exact Decidable.not_not.mp h22) (show n21 ≠ 0 by omega))
    refine zz_gsn 1 rfl ?_
    rcases (show w = 0 ∨ w = 1 ∨ w = 2 ∨ w = 3 ∨ w = 4 ∨ w = 5 by omega) with hx | hx | hx | hx | hx | hx
    · refine zz_swI 0 27 rfl hx rfl ?_
      refine zz_gsn 2 rfl ?_
      refine zz_ri rfl (Or.inl rfl) ?_
      refine ⟨rfl, congrArg (fun z => some (zI z)) ?_⟩
      subst hx
      exact q1
    · refine zz_swI 1 30 rfl hx rfl ?_
      refine zz_gsn 2 rfl ?_
      refine zz_ri rfl (Or.inl rfl) ?_
      refine ⟨rfl, congrArg (fun z => some (zI z)) ?_⟩
      subst hx
      exact q2
    · refine zz_swI 2 33 rfl hx rfl ?_
      refine zz_gsn 2 rfl ?_
      refine zz_ri rfl (Or.inl rfl) ?_
      refine ⟨rfl, congrArg (fun z => some (zI z)) ?_⟩
      subst hx
      exact r3.trans (if_neg (by omega)).symm
    · refine zz_swI 3 36 rfl hx rfl ?_
      refine zz_gsn 1 rfl ?_
      refine zz_cv (n := 1) rfl rfl (t_Mo_deedMany) (Nat.le_of_ble_eq_true rfl) (Nat.le_of_ble_eq_true rfl) (Nat.le_of_ble_eq_true rfl) (fun r37 σ37 q37 => ?_)
      obtain ⟨rfl, rfl⟩ := q37
      rw [r3, zw_p (n := G.I.k + 1) (Nat.succ_pos _) (by omega)]
      refine zz_ri rfl (Or.inl rfl) ?_
      refine ⟨rfl, congrArg (fun z => some (zI z)) ?_⟩
      subst hx
      rfl
    · refine zz_swI 4 39 rfl hx rfl ?_
      refine zz_gsn 1 rfl ?_
      refine zz_cv (n := 1) rfl rfl (t_Mo_deedMany) (Nat.le_of_ble_eq_true rfl) (Nat.le_of_ble_eq_true rfl) (Nat.le_of_ble_eq_true rfl) (fun r40 σ40 q40 => ?_)
      obtain ⟨rfl, rfl⟩ := q40
      rw [r3, zw_p (n := G.I.k + 1) (Nat.succ_pos _) (by omega)]
      refine zz_gsn 3 rfl ?_
      refine zz_ri rfl (Or.inl rfl) ?_
      refine ⟨rfl, congrArg (fun z => some (zI z)) ?_⟩
      subst hx
      rw [q4]
      show zw (((G.I.k + 1 - 1 : Nat) : Int) - (G.I.told : Nat)) = (G.I.k : Int) - (G.I.told : Nat)
      rw [zw_id (by omega) (by omega)]
      omega
    · refine zz_swO 45 rfl (Or.inr (by simp only [List.length_cons, List.length_nil]; omega)) rfl ?_
      refine zz_gsn 2 rfl ?_
      refine zz_ri rfl (Or.inl rfl) ?_
      refine ⟨rfl, congrArg (fun z => some (zI z)) ?_⟩
      subst hx
      exact q3.trans (if_neg (by omega)).symm
  · have hz : G.I.ho = 0 ∧ G.I.law = 0 ∧ G.I.C = 0 ∧ G.I.told = 0 ∧ G.I.k = 0 := by
      rcases ho.2 with z | z
      · exact z
      · exact absurd z.1 h1
    refine zz_gsn 2 rfl ?_
    refine zz_br rfl (fun h2 => ?_) (fun h2 => absurd (by first | exact h2 | exact Decidable.not_not.mp h2) (show w ≠ 6 by omega))
    refine zz_gsn 2 rfl ?_
    refine zz_br rfl (fun h8 => ?_) (fun h8 => absurd (by first | exact h8 | exact Decidable.not_not.mp h8) (show w ≠ 7 by omega))
    refine zz_gsn 4 rfl ?_
    refine zz_cs (n := 3) rfl rfl (t_Mo_in) (Nat.le_of_ble_eq_true rfl) (Nat.le_of_ble_eq_true rfl) (Nat.le_of_ble_eq_true rfl) (fun r16 σ16 q16 => ?_)
    obtain ⟨rfl, n16, rfl, e16⟩ := q16
    refine zz_br rfl (fun h17 => ?_) (fun h17 => absurd (by first | exact h17 | exact Decidable.not_not.mp h17) (show n16 ≠ 0 by omega))
    refine zz_gsn 1 rfl ?_
    refine zz_cv (n := 1) rfl rfl (t_Mo_isHouse) (Nat.le_of_ble_eq_true rfl) (Nat.le_of_ble_eq_true rfl) (Nat.le_of_ble_eq_true rfl) (fun r21 σ21 q21 => ?_)
    obtain ⟨rfl, n21, rfl, e21⟩ := q21
    replace e21 := rh_of hI e21
    refine zz_br rfl (fun h22 => absurd (show n21 = 0 by omega) h22) (fun h22 => ?_)
    refine zz_gsn 1 rfl ?_
    refine zz_ri rfl (Or.inl rfl) ?_
    refine ⟨rfl, congrArg (fun z => some (zI z)) ?_⟩
    obtain ⟨z1, z2, z3, z4, z5⟩ := hz
    unfold a_count
    rw [z1, z2, z3, z4, z5]
    rcases (show w = 0 ∨ w = 1 ∨ w = 2 ∨ w = 3 ∨ w = 4 ∨ w = 5 by omega) with e | e | e | e | e | e <;> subst e <;> rfl
  · refine zz_gsn 2 rfl ?_
    refine zz_br rfl (fun h2 => ?_) (fun h2 => absurd (by first | exact h2 | exact Decidable.not_not.mp h2) (show w ≠ 6 by omega))
    refine zz_gsn 2 rfl ?_
    refine zz_br rfl (fun h8 => ?_) (fun h8 => absurd (by first | exact h8 | exact Decidable.not_not.mp h8) (show w ≠ 7 by omega))
    refine zz_gsn 4 rfl ?_
    refine zz_cs (n := 3) rfl rfl (t_Mo_in) (Nat.le_of_ble_eq_true rfl) (Nat.le_of_ble_eq_true rfl) (Nat.le_of_ble_eq_true rfl) (fun r16 σ16 q16 => ?_)
    obtain ⟨rfl, n16, rfl, e16⟩ := q16
    refine zz_br rfl (fun h17 => absurd (show n16 = 0 by omega) h17) (fun h17 => ?_)
    refine zz_gsn 1 rfl ?_
    refine zz_ri rfl (Or.inl rfl) ?_
    refine ⟨rfl, congrArg (fun z => some (zI z)) ?_⟩
    unfold a_count
    rw [if_neg (by omega), if_neg (by omega), if_neg (by omega), if_neg (by omega), if_neg (by omega), if_neg (by omega), if_neg (by omega), if_neg (by omega)]
