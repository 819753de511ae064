/-! the class whole; its queues -/
/-- what both sides are about: HOUSE and DEEDS, TAPE, OUT, FAULT and its place, IMAGES -/
abbrev zz_J : Type := zz_I × List Int × List Int × Int × Int × (Nat → zz_I)
abbrev zz_J.I (G : zz_J) : zz_I := G.1
abbrev zz_J.t (G : zz_J) : List Int := G.2.1
abbrev zz_J.o (G : zz_J) : List Int := G.2.2.1
abbrev zz_J.f (G : zz_J) : Int := G.2.2.2.1
abbrev zz_J.p (G : zz_J) : Int := G.2.2.2.2.1
abbrev zz_J.m (G : zz_J) : Nat → zz_I := G.2.2.2.2.2
def g_ok (G : zz_J) : Prop := (i_ok G.I ∧ i_fx G.I) ∧ (G.t.length ≤ 600 ∧ ∀ x ∈ G.t, -128 ≤ x ∧ x ≤ 127) ∧ (G.o.length ≤ 1200 ∧ ∀ x ∈ G.o, 0 ≤ x ∧ x ≤ 127) ∧ ∀ i, i < 3 → i_ok (G.m i) ∧ i_fx (G.m i)
/-- the class at b -/
def CG (σ : zz_M) (b : Nat) (B : Int) (G : zz_J) : Prop := CH σ (b + 11) G.I ∧ BL σ (b + 1) G.t ∧ BL σ (b + 3) G.o ∧ (σ.1 601 (b + 5) = G.f ∧ σ.1 602 (b + 5) = G.p) ∧ (∀ i, i < 3 → DF σ (b + 1089 + 4 * i) (G.m i).ho (G.m i).law (G.m i).C ((G.m i).told : Nat) (G.m i).k (G.m i).D) ∧ ((∀ i, i < 1890 → σ.2 (b + 21) i ≤ σ.1 105 (b + 17)) ∧ 0 ≤ σ.1 105 (b + 17) ∧ σ.1 105 (b + 17) ≤ B) ∧ SP σ 0 0 (b + 600) (hw h0 0)
/-- cells of the class that may change at any call -/
def A_cs (b : Nat) : Nat → Prop := fun a => (b + 6 ≤ a ∧ a ≤ b + 10) ∨ (b + 28 ≤ a ∧ a ≤ b + 32) ∨ (b + 582 ≤ a ∧ a < b + 600) ∨ (b + 607 ≤ a ∧ a < b + 1088)
theorem CG.up {σ : zz_M} {b : Nat} {B B' : Int} {G : zz_J} (h : CG σ b B G) (hB : B ≤ B') : CG σ b B' G := ⟨h.1, h.2.1, h.2.2.1, h.2.2.2.1, h.2.2.2.2.1, ⟨h.2.2.2.2.2.1.1, h.2.2.2.2.2.1.2.1, Int.le_trans h.2.2.2.2.2.1.2.2 hB⟩, h.2.2.2.2.2.2⟩
theorem CG.f {A : Nat → Prop} {σ σ' : zz_M} {b : Nat} {B : Int} {G : zz_J} (h : CG σ b B G) (hF : zz_F A σ σ') (hA : ∀ a, A a → ¬ ((b + 1 ≤ a ∧ a ≤ b + 5) ∨ (b + 12 ≤ a ∧ a ≤ b + 27) ∨ (b + 33 ≤ a ∧ a < b + 582) ∨ (b + 600 ≤ a ∧ a ≤ b + 606) ∨ (b + 1089 ≤ a ∧ a < b + 1101))) : CG σ' b B G := by
  obtain ⟨h1, h2, h3, h4, h5, h6, h7⟩ := h
  refine ⟨h1.f hF (fun a z y => hA a z (by omega)), h2.f hF (fun z => hA _ z (by omega)) (fun z => hA _ z (by omega)), h3.f hF (fun z => hA _ z (by omega)) (fun z => hA _ z (by omega)), ?_, fun i hi => (h5 i hi).f hF (fun c y1 y2 z => hA _ z (by omega)), ?_, h7.f hF (fun a y1 y2 z => hA _ z (by omega)) (fun z => absurd z (Nat.lt_irrefl 0))⟩
  · rw [(hF (b + 5) (fun z => hA _ z (by omega))).1, (hF (b + 5) (fun z => hA _ z (by omega))).1]
    exact h4
  · rw [(hF (b + 17) (fun z => hA _ z (by omega))).1]
    exact ⟨fun i hi => by rw [(hF (b + 21) (fun z => hA _ z (by omega))).2]; exact h6.1 i hi, h6.2⟩
theorem CG.s {σ σ' : zz_M} {b : Nat} {B : Int} {G : zz_J} (h : CG σ b B G) (hF : zz_F (A_cs b) σ σ') : CG σ' b B G := h.f hF (fun a z => by unfold A_cs at z; omega)
/-- behind a change of the HISTORY alone -/
theorem CG.h {σ σ' : zz_M} {b : Nat} {B : Int} {G : zz_J} {I' : zz_I} (h : CG σ b B G) (hH : CH σ' (b + 11) I') (hF : zz_F (A_hc (b + 11)) σ σ') (h5 : σ'.1 105 (b + 11 + 6) = σ.1 105 (b + 11 + 6)) : CG σ' b B (I', G.2) := by
  obtain ⟨h1, h2, h3, h4, h5', h6, h7⟩ := h
  have e5 : σ'.1 105 (b + 17) = σ.1 105 (b + 17) := h5
  refine ⟨hH, h2.f hF (fun z => by unfold A_hc A_hi at z; omega) (fun z => by unfold A_hc A_hi at z; omega), h3.f hF (fun z => by unfold A_hc A_hi at z; omega) (fun z => by unfold A_hc A_hi at z; omega), ?_, fun i hi => (h5' i hi).f hF (fun c y1 y2 z => by unfold A_hc A_hi at z; omega), ?_, h7.f hF (fun a y1 y2 z => by unfold A_hc A_hi at z; omega) (fun z => absurd z (Nat.lt_irrefl 0))⟩
  · rw [(hF (b + 5) (fun z => by unfold A_hc A_hi at z; omega)).1, (hF (b + 5) (fun z => by unfold A_hc A_hi at z; omega)).1]
    exact h4
  · rw [e5]
    exact ⟨fun i hi => by rw [(hF (b + 21) (fun z => by unfold A_hc A_hi at z; omega)).2]; exact h6.1 i hi, h6.2⟩
def A_cl (b : Nat) : Nat → Prop := fun a => b ≤ a ∧ a < b + 1101
def gW (G : zz_J) : zz_H := IH G.I
def a_size (G : zz_J) (v : Int) : Int := if vz G.I.ho G.I.k v then (((gW G).Q v.toNat).1 : Nat) else -2
def q_at (q : zq_T) (i : Int) : Int := if 0 ≤ i ∧ i < (q.1 : Nat) then q.2 i.toNat else -1
theorem q_at_of {σ : zz_M} {p a : Nat} {v n : Int} {q : zq_T} (h : QR σ a q) (hp : q.1 ≤ p) (e : (0 ≤ v ∧ v < σ.1 500 a ∧ v < p ∧ n = σ.2 (a + 1) v.toNat) ∨ (¬ (0 ≤ v ∧ v < σ.1 500 a ∧ v < p) ∧ n = -1)) : n = q_at q v := by
  have h1 := h.1
  unfold q_at
  rcases e with ⟨e1, e2, e3, e4⟩ | ⟨e1, e2⟩
  · rw [if_pos ⟨e1, by omega⟩, e4, h.2 v.toNat (by omega)]
  · rw [if_neg (fun z => e1 ⟨z.1, by omega, by omega⟩), e2]
def a_at (G : zz_J) (v i : Int) : Int := if vz G.I.ho G.I.k v ∧ 0 ≤ i then q_at ((gW G).Q v.toNat) i else -2
def a_first (G : zz_J) (v : Int) : Int := if vz G.I.ho G.I.k v then q_at ((gW G).Q v.toNat) 0 else -2
def a_tail (G : zz_J) (v : Int) : Int := if vz G.I.ho G.I.k v then q_at ((gW G).Q v.toNat) ((((gW G).Q v.toNat).1 : Nat) - 1) else -2
theorem h_ql {I : zz_I} (ho : i_ok I) {w : Nat} (hw : w ≤ I.k) : ((IH I).Q w).1 ≤ w ∧ w ≤ 60 := by
  obtain ⟨a1, a2, -⟩ := (h_inv ho.1).1 w hw
  have := a1.2.2
  exact ⟨by unfold IH; omega, Nat.le_trans hw ho.1.2.2.1⟩
theorem t_TQ_size {X : zz_X} {σ : zz_M} {b : Nat} {B : Int} {G : zz_J} {v : Int} (hG : CG σ b B G) (ok : g_ok G) : zz_T X 4 p_TQ_size [zP 11 0 0 b, zI v] σ (fun r σ' => σ = σ' ∧ r = some (zI (a_size G v))) := by
  refine zz_mk k_TQ_size o_TQ_size rfl rfl (Nat.le_of_ble_eq_true rfl) ?_
  show zz_G X 4 p_TQ_size 0 [zP 11 0 0 b, zI v, zU] [] σ _
  obtain ⟨hH, hBt, hBo, hft, him, hmk, htr⟩ := id hG
  obtain ⟨⟨ho, hfx⟩, okt, oko, okm⟩ := id ok
  obtain ⟨hD, hV⟩ := id hH
  obtain ⟨d1, d2, d3, d4, dR⟩ := id hD
  obtain ⟨d5, d6, d7⟩ := id dR
  rcases Classical.em (vz G.I.ho G.I.k v) with hv | hv
  · obtain ⟨w, rfl⟩ : ∃ w : Nat, v = (w : Nat) := ⟨v.toNat, by omega⟩
    obtain ⟨-, w1, w2⟩ := id hv
    have hw1 : w ≤ G.I.k := by omega
    obtain ⟨hS, hq1, hq2⟩ := hV.2.2.1 w hw1
    refine zz_gsn 3 rfl ?_
    refine zz_cv (n := 2) rfl rfl (t_History_queueOf_y (v := w) hD hv) (Nat.le_of_ble_eq_true rfl) (Nat.le_of_ble_eq_true rfl) (Nat.le_of_ble_eq_true rfl) (fun r3 σ3 q3 => ?_)
    obtain ⟨rfl, rfl⟩ := q3
    refine zz_gsn 2 rfl ?_
    refine zz_jp rfl ?_
    refine zz_gsn 2 rfl ?_
    refine zz_ri rfl (Or.inl rfl) ?_
    exact ⟨rfl, congrArg (fun z => some (zI z)) (hq1.trans (if_pos hv).symm)⟩
  · refine zz_gsn 3 rfl ?_
    refine zz_cv (n := 2) rfl rfl (t_History_queueOf_n hD hv) (Nat.le_of_ble_eq_true rfl) (Nat.le_of_ble_eq_true rfl) (Nat.le_of_ble_eq_true rfl) (fun r3 σ3 q3 => ?_)
    obtain ⟨rfl, rfl⟩ := q3
    refine zz_gsn 2 rfl ?_
    refine zz_jp rfl ?_
    refine zz_gsn 1 rfl ?_
    refine zz_jp rfl ?_
    refine zz_ri rfl (Or.inl rfl) ?_
    exact ⟨rfl, congrArg (fun z => some (zI z)) (if_neg hv).symm⟩
theorem t_TQ_at {X : zz_X} {σ : zz_M} {b : Nat} {B : Int} {G : zz_J} {v i : Int} (hG : CG σ b B G) (ok : g_ok G) : zz_T X 4 p_TQ_at [zP 11 0 0 b, zI v, zI i] σ (fun r σ' => σ = σ' ∧ r = some (zI (a_at G v i))) := by
  refine zz_mk k_TQ_at o_TQ_at rfl rfl (Nat.le_of_ble_eq_true rfl) ?_
  show zz_G X 4 p_TQ_at 0 [zP 11 0 0 b, zI v, zI i, zU] [] σ _
  obtain ⟨hH, hBt, hBo, hft, him, hmk, htr⟩ := id hG
  obtain ⟨⟨ho, hfx⟩, okt, oko, okm⟩ := id ok
  obtain ⟨hD, hV⟩ := id hH
  obtain ⟨d1, d2, d3, d4, dR⟩ := id hD
  obtain ⟨d5, d6, d7⟩ := id dR
  rcases Classical.em (vz G.I.ho G.I.k v) with hv | hv
  · obtain ⟨w, rfl⟩ : ∃ w : Nat, v = (w : Nat) := ⟨v.toNat, by omega⟩
    obtain ⟨-, w1, w2⟩ := id hv
    have hw1 : w ≤ G.I.k := by omega
    obtain ⟨hS, hq1, hq2⟩ := hV.2.2.1 w hw1
    refine zz_gsn 3 rfl ?_
    refine zz_cv (n := 2) rfl rfl (t_History_queueOf_y (v := w) hD hv) (Nat.le_of_ble_eq_true rfl) (Nat.le_of_ble_eq_true rfl) (Nat.le_of_ble_eq_true rfl) (fun r3 σ3 q3 => ?_)
    obtain ⟨rfl, rfl⟩ := q3
    refine zz_gsn 2 rfl ?_
    refine zz_jp rfl ?_
    refine zz_gsn 1 rfl ?_
    refine zz_br rfl (fun h8 => ?_) (fun h8 => ?_)
    · refine zz_gsn 2 rfl ?_
      refine zz_cv (n := 2) rfl rfl (t_Numbers_numberAt) (Nat.le_of_ble_eq_true rfl) (Nat.le_of_ble_eq_true rfl) (Nat.le_of_ble_eq_true rfl) (fun r13 σ13 q13 => ?_)
      obtain ⟨rfl, n13, rfl, e13⟩ := q13
      refine zz_ri rfl (Or.inl rfl) ?_
      have e13 := q_at_of ⟨hq1, hq2⟩ (by have := h_ql ho hw1; omega) e13
      exact ⟨rfl, congrArg (fun z => some (zI z)) (e13.trans (if_pos ⟨hv, by omega⟩).symm)⟩
    · refine zz_gsn 1 rfl ?_
      refine zz_jp rfl ?_
      refine zz_ri rfl (Or.inl rfl) ?_
      exact ⟨rfl, congrArg (fun z => some (zI z)) (if_neg (fun z => absurd z.2 (by omega))).symm⟩
  · refine zz_gsn 3 rfl ?_
    refine zz_cv (n := 2) rfl rfl (t_History_queueOf_n hD hv) (Nat.le_of_ble_eq_true rfl) (Nat.le_of_ble_eq_true rfl) (Nat.le_of_ble_eq_true rfl) (fun r3 σ3 q3 => ?_)
    obtain ⟨rfl, rfl⟩ := q3
    refine zz_gsn 2 rfl ?_
    refine zz_jp rfl ?_
    refine zz_gsn 1 rfl ?_
    refine zz_jp rfl ?_
    refine zz_ri rfl (Or.inl rfl) ?_
    exact ⟨rfl, congrArg (fun z => some (zI z)) (if_neg (fun z => hv z.1)).symm⟩
theorem t_TQ_first {X : zz_X} {σ : zz_M} {b : Nat} {B : Int} {G : zz_J} {v : Int} (hG : CG σ b B G) (ok : g_ok G) : zz_T X 4 p_TQ_first [zP 11 0 0 b, zI v] σ (fun r σ' => σ = σ' ∧ r = some (zI (a_first G v))) := by
  refine zz_mk k_TQ_first o_TQ_first rfl rfl (Nat.le_of_ble_eq_true rfl) ?_
  show zz_G X 4 p_TQ_first 0 [zP 11 0 0 b, zI v, zU] [] σ _
  obtain ⟨hH, hBt, hBo, hft, him, hmk, htr⟩ := id hG
  obtain ⟨⟨ho, hfx⟩, okt, oko, okm⟩ := id ok
  obtain ⟨hD, hV⟩ := id hH
  obtain ⟨d1, d2, d3, d4, dR⟩ := id hD
  obtain ⟨d5, d6, d7⟩ := id dR
  rcases Classical.em (vz G.I.ho G.I.k v) with hv | hv
  · obtain ⟨w, rfl⟩ : ∃ w : Nat, v = (w : Nat) := ⟨v.toNat, by omega⟩
    obtain ⟨-, w1, w2⟩ := id hv
    have hw1 : w ≤ G.I.k := by omega
    obtain ⟨hS, hq1, hq2⟩ := hV.2.2.1 w hw1
    refine zz_gsn 3 rfl ?_
    refine zz_cv (n := 2) rfl rfl (t_History_queueOf_y (v := w) hD hv) (Nat.le_of_ble_eq_true rfl) (Nat.le_of_ble_eq_true rfl) (Nat.le_of_ble_eq_true rfl) (fun r3 σ3 q3 => ?_)
    obtain ⟨rfl, rfl⟩ := q3
    refine zz_gsn 2 rfl ?_
    refine zz_jp rfl ?_
    refine zz_gsn 2 rfl ?_
    refine zz_cv (n := 2) rfl rfl (t_Numbers_numberAt) (Nat.le_of_ble_eq_true rfl) (Nat.le_of_ble_eq_true rfl) (Nat.le_of_ble_eq_true rfl) (fun r11 σ11 q11 => ?_)
    obtain ⟨rfl, n11, rfl, e11⟩ := q11
    refine zz_ri rfl (Or.inl rfl) ?_
    have e11 := q_at_of ⟨hq1, hq2⟩ (by have := h_ql ho hw1; omega) e11
    exact ⟨rfl, congrArg (fun z => some (zI z)) (e11.trans (if_pos hv).symm)⟩
  · refine zz_gsn 3 rfl ?_
    refine zz_cv (n := 2) rfl rfl (t_History_queueOf_n hD hv) (Nat.le_of_ble_eq_true rfl) (Nat.le_of_ble_eq_true rfl) (Nat.le_of_ble_eq_true rfl) (fun r3 σ3 q3 => ?_)
    obtain ⟨rfl, rfl⟩ := q3
    refine zz_gsn 2 rfl ?_
    refine zz_jp rfl ?_
    refine zz_gsn 1 rfl ?_
    refine zz_jp rfl ?_
    refine zz_ri rfl (Or.inl rfl) ?_
    exact ⟨rfl, congrArg (fun z => some (zI z)) (if_neg hv).symm⟩
theorem t_TQ_tail {X : zz_X} {σ : zz_M} {b : Nat} {B : Int} {G : zz_J} {v : Int} (hG : CG σ b B G) (ok : g_ok G) : zz_T X 4 p_TQ_tail [zP 11 0 0 b, zI v] σ (fun r σ' => σ = σ' ∧ r = some (zI (a_tail G v))) := by
  refine zz_mk k_TQ_tail o_TQ_tail rfl rfl (Nat.le_of_ble_eq_true rfl) ?_
  show zz_G X 4 p_TQ_tail 0 [zP 11 0 0 b, zI v, zU] [] σ _
  obtain ⟨hH, hBt, hBo, hft, him, hmk, htr⟩ := id hG
  obtain ⟨⟨ho, hfx⟩, okt, oko, okm⟩ := id ok
  obtain ⟨hD, hV⟩ := id hH
  obtain ⟨d1, d2, d3, d4, dR⟩ := id hD
  obtain ⟨d5, d6, d7⟩ := id dR
  rcases Classical.em (vz G.I.ho G.I.k v) with hv | hv
  · obtain ⟨w, rfl⟩ : ∃ w : Nat, v = (w : Nat) := ⟨v.toNat, by omega⟩
    obtain ⟨-, w1, w2⟩ := id hv
    have hw1 : w ≤ G.I.k := by omega
    obtain ⟨hS, hq1, hq2⟩ := hV.2.2.1 w hw1
    refine zz_gsn 3 rfl ?_
    refine zz_cv (n := 2) rfl rfl (t_History_queueOf_y (v := w) hD hv) (Nat.le_of_ble_eq_true rfl) (Nat.le_of_ble_eq_true rfl) (Nat.le_of_ble_eq_true rfl) (fun r3 σ3 q3 => ?_)
    obtain ⟨rfl, rfl⟩ := q3
    refine zz_gsn 2 rfl ?_
    refine zz_jp rfl ?_
    refine zz_gsn 5 rfl ?_
    refine zz_cv (n := 2) rfl rfl (t_Numbers_numberAt) (Nat.le_of_ble_eq_true rfl) (Nat.le_of_ble_eq_true rfl) (Nat.le_of_ble_eq_true rfl) (fun r14 σ14 q14 => ?_)
    obtain ⟨rfl, n14, rfl, e14⟩ := q14
    refine zz_ri rfl (Or.inl rfl) ?_
    have hl := h_ql ho hw1
    have e14 := q_at_of ⟨hq1, hq2⟩ (by omega) e14
    rw [hq1, zw_id (by omega) (by omega)] at e14
    exact ⟨rfl, congrArg (fun z => some (zI z)) (e14.trans (if_pos hv).symm)⟩
  · refine zz_gsn 3 rfl ?_
    refine zz_cv (n := 2) rfl rfl (t_History_queueOf_n hD hv) (Nat.le_of_ble_eq_true rfl) (Nat.le_of_ble_eq_true rfl) (Nat.le_of_ble_eq_true rfl) (fun r3 σ3 q3 => ?_)
    obtain ⟨rfl, rfl⟩ := q3
    refine zz_gsn 2 rfl ?_
    refine zz_jp rfl ?_
    refine zz_gsn 1 rfl ?_
    refine zz_jp rfl ?_
    refine zz_ri rfl (Or.inl rfl) ?_
    exact ⟨rfl, congrArg (fun z => some (zI z)) (if_neg hv).symm⟩
