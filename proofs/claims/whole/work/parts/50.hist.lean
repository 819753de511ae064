/-! the class: VERSIONS -/
theorem SP.f {A : Nat → Prop} {σ σ' : zz_M} {p m s : Nat} {W : zz_W} (h : SP σ p m s W) (hF : zz_F A σ σ') (hs : ∀ a, s ≤ a → a ≤ s + 6 → ¬ A a) (hm : 0 < p → ∀ a, m + 1 ≤ a → a ≤ m + 4 → ¬ A a) : SP σ' p m s W := by
  obtain ⟨h1, h2, h3, h4, h5⟩ := h
  refine ⟨fun k hk => ?_, fun j a1 a2 => ?_, ?_, fun hp => ?_, h5⟩
  · obtain ⟨f1, f2⟩ := hF (s + 1 + k) (hs _ (by omega) (by omega))
    rw [f1, f1]
    refine ⟨(h1 k hk).1, fun hp => ?_⟩
    have f3 : σ'.2 (m + 3) = σ.2 (m + 3) := funext (hF (m + 3) (hm hp _ (by omega) (by omega))).2
    rw [f3]
    exact (h1 k hk).2 hp
  · rw [(hF s (hs _ (by omega) (by omega))).1]
    exact h2 j a1 a2
  · rw [(hF s (hs _ (by omega) (by omega))).1]
    exact h3
  · have f1 := (hF (m + 1) (hm hp _ (by omega) (by omega))).1 100
    have f2 := (hF (m + 2) (hm hp _ (by omega) (by omega))).2
    have f4 := (hF (m + 4) (hm hp _ (by omega) (by omega))).2
    obtain ⟨g1, g2, g3⟩ := h4 hp
    exact ⟨f1.trans g1, g2, fun i hi => ⟨(f2 i).trans (g3 i hi).1, (f4 i).trans (g3 i hi).2⟩⟩
theorem SP.oth {σ σ' : zz_M} {p m s s2 : Nat} {W W' : zz_W} (h : SP σ p m s2 W) (hM : Mg s m W.n σ σ') (hS : SP σ' p m s W') (he : W.n ≤ W'.n) (hd : s + 6 < s2 ∨ s2 + 6 < s) (hm : m + 6 < s2 ∨ s2 + 6 < m) : SP σ' p m s2 (W'.n, W'.num, W'.mkr, W.R, W.S) := by
  obtain ⟨h1, h2, h3, h4, h5⟩ := h
  refine ⟨fun k hk => ?_, fun j a1 a2 => ?_, ?_, hS.2.2.2.1, fun k hk c hc => Nat.lt_of_lt_of_le (h5 k hk c hc) he⟩
  · rw [hM.1 701 _ (by unfold zz_c1m; omega), hM.1 700 _ (by unfold zz_c1m; omega)]
    refine ⟨(h1 k hk).1, fun hp => zz_ch_cong (fun c hc => ?_) ((h1 k hk).2 hp)⟩
    have hcn := h5 k hk c hc
    exact hM.2 _ _ (by unfold zz_c2m; omega)
  · rw [hM.1 _ s2 (by unfold zz_c1m; omega)]
    exact h2 j a1 a2
  · rw [hM.1 _ s2 (by unfold zz_c1m; omega)]
    exact h3
theorem Mg.F {s m n : Nat} {σ σ' : zz_M} (h : Mg s m n σ σ') : zz_F (fun a => (s ≤ a ∧ a ≤ s + 6) ∨ (m ≤ a ∧ a ≤ m + 6)) σ σ' := fun a ha => ⟨fun f => h.1 f a (by unfold zz_c1m; omega), fun i => h.2 a i (by unfold zz_c2m; omega)⟩
theorem Ms.F {s : Nat} {σ σ' : zz_M} (h : Ms s σ σ') : zz_F (fun a => s ≤ a ∧ a ≤ s + 6) σ σ' := fun a ha => ⟨fun f => h.1 f a (by unfold zz_c1s; omega), fun i => by rw [h.2]⟩
theorem IV_sum {law : Int} {B : Nat} {W : zz_W} (h : IV law B W) : (w_l 0 W : Int) + (w_l 1 W : Nat) ≤ W.S 11 := by
  obtain ⟨h, hp, hb⟩ := h
  have hz : w_len 1 W = (w_l 1 W : Nat) := rfl
  rcases h with ⟨hl, h⟩ | ⟨hl, h⟩ | ⟨hl, h⟩
  · obtain ⟨z1, z2, z3⟩ := h
    omega
  · obtain ⟨h9, h10, h11, h⟩ := h
    rcases h with ⟨h, hb⟩ | ⟨N, t, h⟩ | ⟨N, t, h⟩
    · obtain ⟨i7, i2, i3, i4, i5, i8, i0⟩ := h
      omega
    · obtain ⟨a7, a3, a5, a2, a4, a0, a8, a6⟩ := h
      omega
    · obtain ⟨a7, a2, a4, a5, a3, a0, a8, ag, a6⟩ := h
      omega
  · obtain ⟨z1, z2, z3, z4, z5, z6, z7⟩ := h
    omega
theorem w_q {law mk kind x : Int} {B : Nat} {W : zz_W} (h : IV law B W) (hk : 0 ≤ kind ∧ kind ≤ 3) : ((w_chg law mk kind x W).R 0).length + ((w_chg law mk kind x W).R 1).length ≤ B + 1 := by
  have hs : (((W.R 0).length : Nat) : Int) + ((W.R 1).length : Nat) ≤ W.S 11 := IV_sum h
  have hb := h.2.2
  have h4 : kind = 0 ∨ kind = 1 ∨ kind = 2 ∨ kind = 3 := by omega
  have pop : ∀ (j : Nat) (W2 : zz_W), W2.R 0 = W.R 0 → W2.R 1 = W.R 1 → ((w_pop j W2).R 0).length + ((w_pop j W2).R 1).length ≤ B + 1 := fun j W2 e0 e1 => by
    have p0 := w_pop_l (j := j) (k := 0) (W := W2)
    have p1 := w_pop_l (j := j) (k := 1) (W := W2)
    rw [e0] at p0
    rw [e1] at p1
    omega
  rcases h4 with e | e | e | e <;> subst e
  · show (W.R 0).length + ((W.R 1).length + 1) ≤ B + 1
    omega
  · by_cases hl : law = 1
    · rw [w_chg1 mk x W hl]
      exact pop _ _ (by rw [w_dis_R _ (by decide)]; rfl) (by rw [w_dis_R _ (by decide)]; rfl)
    · rw [w_chg1n mk x W hl]
      exact pop _ _ rfl rfl
  · show ((W.R 0).length + 1) + (W.R 1).length ≤ B + 1
    omega
  · exact pop _ _ rfl rfl
/-- the class's VERSIONS up to the j-th, as H has them -/
def CV (σ : zz_M) (h : Nat) (law C : Int) (j : Nat) (H : zz_H) : Prop :=
  σ.1 404 (h + 5) = law ∧ σ.1 405 (h + 5) = C
  ∧ (∀ v, v ≤ j → SP σ 1890 (h + 5) (h + 22 + 9 * v) (hw H v) ∧ QR σ (h + 29 + 9 * v) (H.Q v))
  ∧ (∀ i, i < j → σ.2 (h + 14) i = H.sp i ∧ σ.2 (h + 15) i = H.lt i ∧ σ.2 (h + 16) i = (H.bf i : Nat))
def A_hi (h : Nat) : Nat → Prop := fun a => a = h + 4 ∨ (h + 5 ≤ a ∧ a ≤ h + 9) ∨ a = h + 11 ∨ (h + 14 ≤ a ∧ a ≤ h + 16) ∨ (h + 22 ≤ a ∧ a < h + 571)
/-- what a VERSION is -/
abbrev vz (ho : Int) (k : Nat) (v : Int) : Prop := ho ≠ 0 ∧ 0 ≤ v ∧ v ≤ (k : Nat)
theorem vz_of {σ : zz_M} {a k : Nat} {ho law C told v n : Int} {D : zz_D} (h : DF σ a ho law C told k D) (e : (n = 1 ∧ 0 ≤ v ∧ v < 61 ∧ σ.1 200 a ≠ 0 ∧ v < zw (σ.1 204 a + 1)) ∨ (n = 0 ∧ ¬ (0 ≤ v ∧ v < 61 ∧ σ.1 200 a ≠ 0 ∧ v < zw (σ.1 204 a + 1)))) : (n = 1 ∧ vz ho k v) ∨ (n = 0 ∧ ¬ vz ho k v) := by
  obtain ⟨d1, -, -, -, d5, d6, -⟩ := h
  have ez : zw (σ.1 204 a + 1) = (k : Int) + 1 := by rw [d5]; exact zw_id (by omega) (by omega)
  rw [ez, d1] at e
  show (n = 1 ∧ (ho ≠ 0 ∧ 0 ≤ v ∧ v ≤ (k : Nat))) ∨ (n = 0 ∧ ¬ (ho ≠ 0 ∧ 0 ≤ v ∧ v ≤ (k : Nat)))
  rcases e with ⟨e1, e2, e3, e4, e5⟩ | ⟨e1, e2⟩
  · exact Or.inl ⟨e1, e4, e2, by omega⟩
  · exact Or.inr ⟨e1, fun ⟨z1, z2, z3⟩ => e2 ⟨z2, by omega, z1, by omega⟩⟩
theorem vd_of {σ : zz_M} {a k : Nat} {v n : Int} {D : zz_D} (h : DR σ a k D) (e : (n = 1 ∧ 0 ≤ v ∧ v < σ.1 204 a ∧ v < 60) ∨ (n = 0 ∧ ¬ (0 ≤ v ∧ v < σ.1 204 a ∧ v < 60))) : (n = 1 ∧ 0 ≤ v ∧ v < (k : Nat)) ∨ (n = 0 ∧ ¬ (0 ≤ v ∧ v < (k : Nat))) := by
  obtain ⟨d5, d6, -⟩ := h
  rw [d5] at e
  rcases e with ⟨e1, e2, e3, e4⟩ | ⟨e1, e2⟩
  · exact Or.inl ⟨e1, e2, e3⟩
  · exact Or.inr ⟨e1, fun ⟨z1, z2⟩ => e2 ⟨z1, z2, by omega⟩⟩
theorem t_History_stateOf_y {X : zz_X} {σ : zz_M} {h k : Nat} {ho law C told : Int} {D : zz_D} {v : Nat} (hD : DF σ (h + 1) ho law C told k D) (hv : vz ho k (v : Nat)) : zz_T X 3 p_History_stateOf [zP 3 0 0 h, zI (v : Nat)] σ (fun r σ' => σ = σ' ∧ r = some (zP 9 0 0 (h + 22 + 9 * v))) := by
  refine zz_mk k_History_stateOf o_History_stateOf rfl rfl (Nat.le_of_ble_eq_true rfl) ?_
  show zz_G X 3 p_History_stateOf 0 [zP 3 0 0 h, zI (v : Nat)] [] σ _
  obtain ⟨z1, z2, z3⟩ := id hv
  have hk6 := hD.2.2.2.2.2.1
  refine zz_gsn 3 rfl ?_
  refine zz_cv (n := 2) rfl rfl (t_Deeds_hasVersion) (Nat.le_of_ble_eq_true rfl) (Nat.le_of_ble_eq_true rfl) (Nat.le_of_ble_eq_true rfl) (fun r3 σ3 q3 => ?_)
  obtain ⟨rfl, n3, rfl, e3⟩ := q3
  have e3 := vz_of hD e3
  have e3 : n3 = 1 := e3.elim (fun z => z.1) (fun z => absurd hv z.2)
  refine zz_br rfl (fun h4 => absurd h4 (by omega)) (fun h4 => ?_)
  refine zz_gsn 3 rfl ?_
  refine zz_aad rfl (⟨by omega, by omega⟩) ?_
  refine zz_jp rfl ?_
  refine zz_ra rfl rfl ?_
  exact ⟨rfl, rfl⟩
theorem t_History_stateOf_n {X : zz_X} {σ : zz_M} {h k : Nat} {ho law C told : Int} {D : zz_D} {v : Int} (hD : DF σ (h + 1) ho law C told k D) (hv : ¬ vz ho k v) : zz_T X 3 p_History_stateOf [zP 3 0 0 h, zI v] σ (fun r σ' => σ = σ' ∧ r = some zN) := by
  refine zz_mk k_History_stateOf o_History_stateOf rfl rfl (Nat.le_of_ble_eq_true rfl) ?_
  show zz_G X 3 p_History_stateOf 0 [zP 3 0 0 h, zI v] [] σ _
  refine zz_gsn 3 rfl ?_
  refine zz_cv (n := 2) rfl rfl (t_Deeds_hasVersion) (Nat.le_of_ble_eq_true rfl) (Nat.le_of_ble_eq_true rfl) (Nat.le_of_ble_eq_true rfl) (fun r3 σ3 q3 => ?_)
  obtain ⟨rfl, n3, rfl, e3⟩ := q3
  have e3 := vz_of hD e3
  have e3 : n3 = 0 := e3.elim (fun z => absurd z.2 hv) (fun z => z.1)
  refine zz_br rfl (fun h4 => ?_) (fun h4 => absurd e3 h4)
  refine zz_gsn 1 rfl ?_
  refine zz_ra rfl rfl ?_
  exact ⟨rfl, rfl⟩
theorem t_History_queueOf_y {X : zz_X} {σ : zz_M} {h k : Nat} {ho law C told : Int} {D : zz_D} {v : Nat} (hD : DF σ (h + 1) ho law C told k D) (hv : vz ho k (v : Nat)) : zz_T X 3 p_History_queueOf [zP 3 0 0 h, zI (v : Nat)] σ (fun r σ' => σ = σ' ∧ r = some (zP 5 60 0 (h + 29 + 9 * v))) := by
  refine zz_mk k_History_queueOf o_History_queueOf rfl rfl (Nat.le_of_ble_eq_true rfl) ?_
  show zz_G X 3 p_History_queueOf 0 [zP 3 0 0 h, zI (v : Nat)] [] σ _
  obtain ⟨z1, z2, z3⟩ := id hv
  have hk6 := hD.2.2.2.2.2.1
  refine zz_gsn 3 rfl ?_
  refine zz_cv (n := 2) rfl rfl (t_Deeds_hasVersion) (Nat.le_of_ble_eq_true rfl) (Nat.le_of_ble_eq_true rfl) (Nat.le_of_ble_eq_true rfl) (fun r3 σ3 q3 => ?_)
  obtain ⟨rfl, n3, rfl, e3⟩ := q3
  have e3 := vz_of hD e3
  have e3 : n3 = 1 := e3.elim (fun z => z.1) (fun z => absurd hv z.2)
  refine zz_br rfl (fun h4 => absurd h4 (by omega)) (fun h4 => ?_)
  refine zz_gsn 3 rfl ?_
  refine zz_aad rfl (⟨by omega, by omega⟩) ?_
  refine zz_jp rfl ?_
  refine zz_ra rfl rfl ?_
  exact ⟨rfl, rfl⟩
theorem t_History_queueOf_n {X : zz_X} {σ : zz_M} {h k : Nat} {ho law C told : Int} {D : zz_D} {v : Int} (hD : DF σ (h + 1) ho law C told k D) (hv : ¬ vz ho k v) : zz_T X 3 p_History_queueOf [zP 3 0 0 h, zI v] σ (fun r σ' => σ = σ' ∧ r = some zN) := by
  refine zz_mk k_History_queueOf o_History_queueOf rfl rfl (Nat.le_of_ble_eq_true rfl) ?_
  show zz_G X 3 p_History_queueOf 0 [zP 3 0 0 h, zI v] [] σ _
  refine zz_gsn 3 rfl ?_
  refine zz_cv (n := 2) rfl rfl (t_Deeds_hasVersion) (Nat.le_of_ble_eq_true rfl) (Nat.le_of_ble_eq_true rfl) (Nat.le_of_ble_eq_true rfl) (fun r3 σ3 q3 => ?_)
  obtain ⟨rfl, n3, rfl, e3⟩ := q3
  have e3 := vz_of hD e3
  have e3 : n3 = 0 := e3.elim (fun z => absurd z.2 hv) (fun z => z.1)
  refine zz_br rfl (fun h4 => ?_) (fun h4 => absurd e3 h4)
  refine zz_gsn 1 rfl ?_
  refine zz_ra rfl rfl ?_
  exact ⟨rfl, rfl⟩
