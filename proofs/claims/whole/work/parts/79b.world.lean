/-! the class: what a version holds -/
/-- what a VERSION HOLDS, what some do -/
def g_hb (G : zz_J) (w : Nat) : Nat → Bool := zm_st (fun _ => false) (hw (gW G) w) 6
def g_hs (G : zz_J) (N : Nat) : Nat → (Nat → Bool)
  | 0 => fun _ => false
  | j + 1 => if N / 2 ^ j % 2 = 1 then zm_st (g_hs G N j) (hw (gW G) j) 6 else g_hs G N j
def g_N (G : zz_J) (A : Nat → Bool) : Int := zm_N (gW G).mkr (-1) (gW G).n A
def a_holds (G : zz_J) (v : Int) : Int := if vz G.I.ho G.I.k v then g_N G (g_hb G v.toNat) else -2
def a_from (G : zz_J) (v d : Int) : Int := if vz G.I.ho G.I.k v ∧ 0 ≤ d ∧ d < (G.I.k : Nat) then zm_N (gW G).mkr d (gW G).n (g_hb G v.toNat) else -2
def a_shares (G : zz_J) (v w : Int) : Int := if vz G.I.ho G.I.k v ∧ vz G.I.ho G.I.k w then g_N G (fun c => g_hb G v.toNat c && g_hb G w.toNat c) else -2
def a_held (G : zz_J) (s : Int) : Int := if G.I.ho = 1 ∧ 0 ≤ s ∧ s < ((2 ^ (G.I.k + 1) : Nat) : Int) then g_N G (g_hs G s.toNat (G.I.k + 1)) else -2
def a_lost (G : zz_J) : Int := if G.I.ho = 1 then ((gW G).n : Nat) - g_N G (g_hs G (2 ^ (G.I.k + 1) - 1) (G.I.k + 1)) else -2
theorem zm_N0 {mkr : Nat → Int} {mk : Int} : ∀ n : Nat, zm_N mkr mk n (fun _ => false) = 0
  | 0 => rfl
  | n + 1 => by
    show zm_N mkr mk n (fun _ => false) + 0 = 0
    rw [zm_N0 n]
    rfl
theorem zm_ie {P A B U I : Nat → Bool} (hU : ∀ c, U c = (A c || B c)) (hI : ∀ c, I c = (A c && B c)) : ∀ n : Nat, zz_sum (zm_f P A) n + zz_sum (zm_f P B) n = zz_sum (zm_f P U) n + zz_sum (zm_f P I) n
  | 0 => rfl
  | n + 1 => by
    show zz_sum (zm_f P A) n + zm_f P A n + (zz_sum (zm_f P B) n + zm_f P B n) = zz_sum (zm_f P U) n + zm_f P U n + (zz_sum (zm_f P I) n + zm_f P I n)
    have ih := zm_ie (P := P) hU hI n
    have e : zm_f P A n + zm_f P B n = zm_f P U n + zm_f P I n := by
      unfold zm_f
      rw [hU n, hI n]
      cases A n <;> cases B n <;> cases P n <;> rfl
    omega
theorem zm_Nc {mkr : Nat → Int} {mk : Int} {n : Nat} {A B : Nat → Bool} (h : ∀ c, A c = B c) : zm_N mkr mk n A = zm_N mkr mk n B := by
  rw [funext h]
theorem zm_or {A : Nat → Bool} {W : zz_W} (k : Nat) (c : Nat) : zm_st A W k c = (A c || zm_st (fun _ => false) W k c) := by
  have h1 := zm_st_t (A := A) (W := W) (y := c) k
  have h2 := zm_st_t (A := fun _ => false) (W := W) (y := c) k
  cases e1 : zm_st A W k c <;> cases e2 : A c <;> cases e3 : zm_st (fun _ => false) W k c <;> rw [e1, e2] at h1 <;> rw [e3] at h2 <;> simp at h1 h2 ⊢ <;> first | exact absurd h1 (by simpa using h2) | (obtain ⟨i, a, b⟩ := h2; exact h1 i a b) | (obtain ⟨i, a, b⟩ := h1; exact h2 i a b)
theorem SP.c5 {σ σ' : zz_M} {p m s : Nat} {W : zz_W} (h : SP σ p m s W) (hd : m + 6 < s ∨ s + 6 < m) (hF : zz_F (fun a => a = m + 1 ∨ a = m + 1 + 4) σ σ') (hx : ∀ f, f ≠ 105 → σ'.1 f (m + 1) = σ.1 f (m + 1)) (hy : ∀ i, σ'.2 (m + 1) i = σ.2 (m + 1) i) : SP σ' p m s W := by
  obtain ⟨h1, h2, h3, h4, h5⟩ := h
  have f1 : ∀ a, a ≠ m + 1 → a ≠ m + 1 + 4 → ∀ f, σ'.1 f a = σ.1 f a := fun a ha hb => (hF a (fun z => z.elim ha hb)).1
  have f2 : ∀ a, a ≠ m + 1 + 4 → σ'.2 a = σ.2 a := fun a ha => by
    by_cases e : a = m + 1
    · subst e
      exact funext hy
    · exact funext (hF a (fun z => z.elim e ha)).2
  refine ⟨fun k hk => ?_, fun j a1 a2 => ?_, ?_, fun hp => ?_, h5⟩
  · rw [f1 _ (by omega) (by omega), f1 _ (by omega) (by omega), f2 _ (by omega)]
    exact h1 k hk
  · rw [f1 _ (by omega) (by omega)]
    exact h2 j a1 a2
  · rw [f1 _ (by omega) (by omega)]
    exact h3
  · rw [hx 100 (by decide), f2 _ (by omega), f2 _ (by omega)]
    exact h4 hp
/-- the class's marks: behind σ0, those of A -/
def MKs (σ0 σ : zz_M) (b : Nat) (A : Nat → Bool) : Prop := zz_F (fun a => a = b + 17 ∨ a = b + 21) σ0 σ ∧ (∀ f, f ≠ 105 → σ.1 f (b + 17) = σ0.1 f (b + 17)) ∧ (∀ i, σ.2 (b + 17) i = σ0.2 (b + 17) i) ∧ σ.1 105 (b + 17) = σ0.1 105 (b + 17) + 1 ∧ MKR σ (b + 17) 1890 A
theorem MKs.add {σ0 σ σ' : zz_M} {b : Nat} {A A' : Nat → Bool} (h : MKs σ0 σ b A) (hM : MKR σ' (b + 17) 1890 A') (hF : zz_F (fun a => a = b + 17 + 4) σ σ') : MKs σ0 σ' b A' := ⟨h.1.tr (hF.mono (fun a z => Or.inr (by omega))), fun f hf => ((hF (b + 17) (by omega)).1 f).trans (h.2.1 f hf), fun i => ((hF (b + 17) (by omega)).2 i).trans (h.2.2.1 i), ((hF (b + 17) (by omega)).1 105).trans h.2.2.2.1, hM⟩
theorem MKs.sp {σ0 σ : zz_M} {b s : Nat} {A : Nat → Bool} {W : zz_W} (h : MKs σ0 σ b A) (hS : SP σ0 1890 (b + 16) s W) (hd : b + 16 + 6 < s ∨ s + 6 < b + 16) : SP σ 1890 (b + 16) s W := hS.c5 hd h.1 h.2.1 h.2.2.1
theorem CG.mk {σ0 σ : zz_M} {b : Nat} {B : Int} {G : zz_J} {A : Nat → Bool} (h : CG σ0 b B G) (hM : MKs σ0 σ b A) : CG σ b (B + 1) G := by
  obtain ⟨h1, h2, h3, h4, h5, h6, h7⟩ := h
  obtain ⟨hF, m2, m3, m4, m5⟩ := id hM
  obtain ⟨hD, c1, c2, c3, c4⟩ := h1
  have d6 := hD.2.2.2.2.2.1
  refine ⟨⟨hD.f hF (fun c y1 y2 z => by omega), ((hF (b + 11 + 5) (by omega)).1 404).trans c1, ((hF (b + 11 + 5) (by omega)).1 405).trans c2, fun v hv => ⟨hM.sp (s := b + 11 + 22 + 9 * v) (c3 v hv).1 (Or.inl (by omega)), (c3 v hv).2.f hF (by omega) (by omega)⟩, fun i hi => ?_⟩, h2.f hF (by omega) (by omega), h3.f hF (by omega) (by omega), ?_, fun i hi => (h5 i hi).f hF (fun c y1 y2 z => by omega), ⟨fun i hi => (m5 i hi).2, by omega, by omega⟩, h7.f hF (fun a y1 y2 z => by omega) (fun z => absurd z (Nat.lt_irrefl 0))⟩
  · rw [(hF (b + 11 + 14) (by omega)).2, (hF (b + 11 + 15) (by omega)).2, (hF (b + 11 + 16) (by omega)).2]
    exact c4 i hi
  · rw [(hF (b + 5) (by omega)).1, (hF (b + 5) (by omega)).1]
    exact h4
theorem MKs.z {σ0 σ : zz_M} {b : Nat} {B : Int} {G : zz_J} (h : CG σ0 b B G) (hB : B ≤ 1000000) (e : σ = zz_sf σ0 105 (b + 17) (zw (σ0.1 105 (b + 17) + 1))) : MKs σ0 σ b (fun _ => false) := by
  have h6 := h.2.2.2.2.2.1
  rw [zw_id (by omega) (by omega)] at e
  rw [e]
  refine ⟨zz_F.sf (Or.inl rfl), fun f hf => sf_f _ _ hf, fun _ => rfl, sf_h _ _ _ _, fun i hi => ?_⟩
  have z := h6.1 i hi
  have e1 : (zz_sf σ0 105 (b + 17) (σ0.1 105 (b + 17) + 1)).1 105 (b + 17) = σ0.1 105 (b + 17) + 1 := sf_h _ _ _ _
  have e2 : (zz_sf σ0 105 (b + 17) (σ0.1 105 (b + 17) + 1)).2 (b + 17 + 4) i = σ0.2 (b + 21) i := rfl
  rw [e1, e2]
  exact ⟨⟨fun y => absurd y (by omega), fun y => absurd y Bool.false_ne_true⟩, by omega⟩
theorem MKs.cl {σ0 σ : zz_M} {b : Nat} {A : Nat → Bool} (h : MKs σ0 σ b A) : zz_F (A_cl b) σ0 σ := h.1.mono (fun a z => by unfold A_cl; omega)
theorem h_ml {I : zz_I} (ho : i_ok I) {w : Nat} (hw1 : w ≤ I.k) : ∀ k, k < 6 → ((hw (IH I) w).R k).length < 100000 := fun k hk => by
  have z := (h_bds ((h_inv ho.1).1 w hw1).1 (Nat.le_trans hw1 (Nat.le_trans ho.1.2.2.1 (by decide)))).1 k hk
  exact Nat.lt_trans z (by decide)
theorem t_TQ_holds {X : zz_X} {σ : zz_M} {b : Nat} {B : Int} {G : zz_J} {v : Int} (hG : CG σ b B G) (ok : g_ok G) (hB : B ≤ 1000000) : zz_T X 4 p_TQ_holds [zP 11 0 0 b, zI v] σ (fun r σ' => r = some (zI (a_holds G v)) ∧ CG σ' b (B + 1) G ∧ zz_F (A_cl b) σ σ') := by
  refine zz_mk k_TQ_holds o_TQ_holds rfl rfl (Nat.le_of_ble_eq_true rfl) ?_
  show zz_G X 4 p_TQ_holds 0 [zP 11 0 0 b, zI v, zU] [] σ _
  obtain ⟨hH, hBt, hBo, hft, him, hmk, htr⟩ := id hG
  obtain ⟨⟨ho, hfx⟩, okt, oko, okm⟩ := id ok
  obtain ⟨hD, hV⟩ := id hH
  obtain ⟨d1, d2, d3, d4, dR⟩ := id hD
  obtain ⟨d5, d6, d7⟩ := id dR
  rcases Classical.em (vz G.I.ho G.I.k v) with hv | hv
  · obtain ⟨w, rfl⟩ : ∃ w : Nat, v = (w : Nat) := ⟨v.toNat, by omega⟩
    obtain ⟨z0, w1, w2⟩ := id hv
    have hw1 : w ≤ G.I.k := by omega
    obtain ⟨hS, -⟩ := hV.2.2.1 w hw1
    have hCC := (i_ho ho z0).2
    have hI0 := ((h_inv ho.1).1 w hw1).1
    refine zz_gsn 3 rfl ?_
    refine zz_cv (n := 2) rfl rfl (t_History_stateOf_y (v := w) hD hv) (Nat.le_of_ble_eq_true rfl) (Nat.le_of_ble_eq_true rfl) (Nat.le_of_ble_eq_true rfl) (fun r3 σ3 q3 => ?_)
    obtain ⟨rfl, rfl⟩ := q3
    refine zz_gsn 2 rfl ?_
    refine zz_jp rfl ?_
    refine zz_gsn 3 rfl ?_
    refine zz_cv (n := 1) rfl rfl (t_Cells_unmarkAll) (Nat.le_of_ble_eq_true rfl) (Nat.le_of_ble_eq_true rfl) (Nat.le_of_ble_eq_true rfl) (fun r12 σ12 q12 => ?_)
    obtain ⟨rfl, h12⟩ := q12
    have M12 : MKs σ σ12 b (fun _ => false) := MKs.z hG hB h12
    refine zz_gsn 5 rfl ?_
    refine zz_cv (n := 3) rfl rfl (t_Cells_markState (p := 1890) (m := b + 16) (s := b + 11 + 22 + 9 * w) (mk := -1) (W := hw (IH G.I) w) (A := fun _ => false) (M12.sp (s := b + 11 + 22 + 9 * w) hS (Or.inl (by omega))) (by decide) (by decide) (Or.inl (by omega)) (h_ml ho (by omega)) M12.2.2.2.2) (Nat.le_of_ble_eq_true rfl) (Nat.le_of_ble_eq_true rfl) (Nat.le_of_ble_eq_true rfl) (fun r18 σ18 q18 => ?_)
    obtain ⟨rfl, m18, g18⟩ := q18
    replace m18 : MKR σ18 (b + 17) 1890 (zm_st (fun _ => false) (hw (IH G.I) w) 6) := m18
    have M18 := M12.add m18 g18
    refine zz_ri rfl (Or.inl rfl) ?_
    refine ⟨congrArg (fun z => some (zI z)) (Eq.trans ?_ (if_pos hv).symm), hG.mk M18, M18.cl⟩
    rw [zm_N0]
    exact Int.sub_zero _
  · refine zz_gsn 3 rfl ?_
    refine zz_cv (n := 2) rfl rfl (t_History_stateOf_n hD hv) (Nat.le_of_ble_eq_true rfl) (Nat.le_of_ble_eq_true rfl) (Nat.le_of_ble_eq_true rfl) (fun r3 σ3 q3 => ?_)
    obtain ⟨rfl, rfl⟩ := q3
    refine zz_gsn 2 rfl ?_
    refine zz_jp rfl ?_
    refine zz_gsn 1 rfl ?_
    refine zz_ri rfl (Or.inl rfl) ?_
    exact ⟨congrArg (fun z => some (zI z)) (if_neg hv).symm, hG.up (by omega), zz_F.rf⟩
theorem t_TQ_from {X : zz_X} {σ : zz_M} {b : Nat} {B : Int} {G : zz_J} {v d : Int} (hG : CG σ b B G) (ok : g_ok G) (hB : B ≤ 1000000) : zz_T X 4 p_TQ_from [zP 11 0 0 b, zI v, zI d] σ (fun r σ' => r = some (zI (a_from G v d)) ∧ CG σ' b (B + 1) G ∧ zz_F (A_cl b) σ σ') := by
  refine zz_mk k_TQ_from o_TQ_from rfl rfl (Nat.le_of_ble_eq_true rfl) ?_
  show zz_G X 4 p_TQ_from 0 [zP 11 0 0 b, zI v, zI d, zU] [] σ _
  obtain ⟨hH, hBt, hBo, hft, him, hmk, htr⟩ := id hG
  obtain ⟨⟨ho, hfx⟩, okt, oko, okm⟩ := id ok
  obtain ⟨hD, hV⟩ := id hH
  obtain ⟨d1, d2, d3, d4, dR⟩ := id hD
  obtain ⟨d5, d6, d7⟩ := id dR
  rcases (show (vz G.I.ho G.I.k v ∧ 0 ≤ d ∧ d < (G.I.k : Nat)) ∨ (¬ vz G.I.ho G.I.k v ∧ ¬ (vz G.I.ho G.I.k v ∧ 0 ≤ d ∧ d < (G.I.k : Nat))) ∨ (vz G.I.ho G.I.k v ∧ ¬ (vz G.I.ho G.I.k v ∧ 0 ≤ d ∧ d < (G.I.k : Nat))) from by rcases Classical.em (vz G.I.ho G.I.k v) with h | h <;> rcases Classical.em (vz G.I.ho G.I.k v ∧ 0 ≤ d ∧ d < (G.I.k : Nat)) with h2 | h2 <;> first | exact Or.inl h2 | exact Or.inr (Or.inl ⟨h, h2⟩) | exact Or.inr (Or.inr ⟨h, h2⟩)) with hv | ⟨hvv, hv⟩ | ⟨hvv, hv⟩
  · obtain ⟨hvv, hd1⟩ := id hv
    obtain ⟨w, rfl⟩ : ∃ w : Nat, v = (w : Nat) := ⟨v.toNat, by omega⟩
    obtain ⟨z0, w1, w2⟩ := id hvv
    have hw1 : w ≤ G.I.k := by omega
    obtain ⟨hS, -⟩ := hV.2.2.1 w hw1
    have hCC := (i_ho ho z0).2
    have hI0 := ((h_inv ho.1).1 w hw1).1
    refine zz_gsn 3 rfl ?_
    refine zz_cv (n := 2) rfl rfl (t_History_stateOf_y (v := w) hD hvv) (Nat.le_of_ble_eq_true rfl) (Nat.le_of_ble_eq_true rfl) (Nat.le_of_ble_eq_true rfl) (fun r3 σ3 q3 => ?_)
    obtain ⟨rfl, rfl⟩ := q3
    refine zz_gsn 2 rfl ?_
    refine zz_jp rfl ?_
    refine zz_gsn 4 rfl ?_
    refine zz_cv (n := 2) rfl rfl (t_Deeds_hasDeed) (Nat.le_of_ble_eq_true rfl) (Nat.le_of_ble_eq_true rfl) (Nat.le_of_ble_eq_true rfl) (fun r11 σ11 q11 => ?_)
    obtain ⟨rfl, n11, rfl, e11⟩ := q11
    replace e11 := vd_of dR e11
    replace e11 : n11 = 1 := e11.elim (fun z => z.1) (fun z => absurd hd1 z.2)
    refine zz_br rfl (fun h12 => ?_) (fun h12 => absurd (by first | exact h12 | exact Decidable.not_not.mp h12) (show n11 ≠ 0 by omega))
    refine zz_gsn 3 rfl ?_
    refine zz_cv (n := 1) rfl rfl (t_Cells_unmarkAll) (Nat.le_of_ble_eq_true rfl) (Nat.le_of_ble_eq_true rfl) (Nat.le_of_ble_eq_true rfl) (fun r18 σ18 q18 => ?_)
    obtain ⟨rfl, h18⟩ := q18
    have M18 : MKs σ σ18 b (fun _ => false) := MKs.z hG hB h18
    refine zz_gsn 5 rfl ?_
    refine zz_cv (n := 3) rfl rfl (t_Cells_markState (p := 1890) (m := b + 16) (s := b + 11 + 22 + 9 * w) (mk := d) (W := hw (IH G.I) w) (A := fun _ => false) (M18.sp (s := b + 11 + 22 + 9 * w) hS (Or.inl (by omega))) (by decide) (by decide) (Or.inl (by omega)) (h_ml ho (by omega)) M18.2.2.2.2) (Nat.le_of_ble_eq_true rfl) (Nat.le_of_ble_eq_true rfl) (Nat.le_of_ble_eq_true rfl) (fun r24 σ24 q24 => ?_)
    obtain ⟨rfl, m24, g24⟩ := q24
    replace m24 : MKR σ24 (b + 17) 1890 (zm_st (fun _ => false) (hw (IH G.I) w) 6) := m24
    have M24 := M18.add m24 g24
    refine zz_ri rfl (Or.inl rfl) ?_
    refine ⟨congrArg (fun z => some (zI z)) (Eq.trans ?_ (if_pos hv).symm), hG.mk M24, M24.cl⟩
    rw [zm_N0]
    exact Int.sub_zero _
  · refine zz_gsn 3 rfl ?_
    refine zz_cv (n := 2) rfl rfl (t_History_stateOf_n hD hvv) (Nat.le_of_ble_eq_true rfl) (Nat.le_of_ble_eq_true rfl) (Nat.le_of_ble_eq_true rfl) (fun r3 σ3 q3 => ?_)
    obtain ⟨rfl, rfl⟩ := q3
    refine zz_gsn 2 rfl ?_
    refine zz_jp rfl ?_
    refine zz_gsn 1 rfl ?_
    refine zz_ri rfl (Or.inl rfl) ?_
    exact ⟨congrArg (fun z => some (zI z)) (if_neg hv).symm, hG.up (by omega), zz_F.rf⟩
  · obtain ⟨w, rfl⟩ : ∃ w : Nat, v = (w : Nat) := ⟨v.toNat, by have := hvv.2.1; omega⟩
    refine zz_gsn 3 rfl ?_
    refine zz_cv (n := 2) rfl rfl (t_History_stateOf_y (v := w) hD hvv) (Nat.le_of_ble_eq_true rfl) (Nat.le_of_ble_eq_true rfl) (Nat.le_of_ble_eq_true rfl) (fun r3 σ3 q3 => ?_)
    obtain ⟨rfl, rfl⟩ := q3
    refine zz_gsn 2 rfl ?_
    refine zz_jp rfl ?_
    refine zz_gsn 4 rfl ?_
    refine zz_cv (n := 2) rfl rfl (t_Deeds_hasDeed) (Nat.le_of_ble_eq_true rfl) (Nat.le_of_ble_eq_true rfl) (Nat.le_of_ble_eq_true rfl) (fun r11 σ11 q11 => ?_)
    obtain ⟨rfl, n11, rfl, e11⟩ := q11
    replace e11 := vd_of dR e11
    replace e11 : n11 = 0 := e11.elim (fun z => absurd ⟨hvv, z.2⟩ hv) (fun z => z.1)
    refine zz_br rfl (fun h12 => absurd e11 h12) (fun h12 => ?_)
    refine zz_gsn 1 rfl ?_
    refine zz_ri rfl (Or.inl rfl) ?_
    exact ⟨congrArg (fun z => some (zI z)) (if_neg hv).symm, hG.up (by omega), zz_F.rf⟩
