/-! the class: bytes told, steps -/
theorem zz_a255 : ∀ n : Fin 256, zz_and ((n.val : Nat) : Int) 255 = ((n.val : Nat) : Int) := by decide +kernel
theorem zz_a2 {x : Int} (h : 0 ≤ x ∧ x ≤ 127) : zz_and x 255 = x := by
  have z := zz_a255 ⟨x.toNat, by omega⟩
  have e : ((x.toNat : Nat) : Int) = x := Int.toNat_of_nonneg h.1
  show zz_and x 255 = x
  rw [← e]
  exact z
def a_fault (G : zz_J) (w : Int) : Int := if w = 0 then G.f else if w = 1 then G.p else -1
def a_octet (G : zz_J) (i : Int) : Int := if 0 ≤ i ∧ i < (G.o.length : Nat) then G.o.getD i.toNat 0 else -1
def a_end (G : zz_J) (n : Int) : Int × zz_J := if 0 ≤ n ∧ n ≤ (G.t.length : Nat) then (n, (G.I, G.t.take n.toNat, G.o, G.f, G.p, G.m)) else (-1, G)
def a_made (G : zz_J) : Int := if G.I.ho = 1 then ((gW G).n : Nat) else -2
def a_spent (G : zz_J) (d : Int) : Int := if 0 ≤ d ∧ d < (G.I.k : Nat) then (gW G).sp d.toNat else -2
def a_ledger (G : zz_J) : Int := if G.I.ho = 1 then zz_sum (gW G).sp G.I.k else -2
def a_overdue (G : zz_J) : Int := if G.I.ho = 1 then zz_sum (gW G).lt G.I.k else -2
theorem octet_e {G : zz_J} (ok : g_ok G) (i : Int) : zl_b G.o i = a_octet G i := by
  unfold zl_b a_octet
  by_cases h : 0 ≤ i ∧ i < (G.o.length : Nat)
  · rw [if_pos h, if_pos h]
    refine zz_a2 (ok.2.2.1.2 _ ?_)
    have hl : i.toNat < G.o.length := by omega
    rw [List.getD_eq_getElem?_getD, List.getElem?_eq_getElem hl]
    exact List.getElem_mem hl
  · rw [if_neg h, if_neg h]
theorem t_TQ_octet {X : zz_X} {σ : zz_M} {b : Nat} {B : Int} {G : zz_J} {i : Int} (hG : CG σ b B G) (ok : g_ok G) : zz_T X 2 p_TQ_octet [zP 11 0 0 b, zI i] σ (fun r σ' => σ = σ' ∧ r = some (zI (a_octet G i))) := by
  refine zz_mk k_TQ_octet o_TQ_octet rfl rfl (Nat.le_of_ble_eq_true rfl) ?_
  show zz_G X 2 p_TQ_octet 0 [zP 11 0 0 b, zI i] [] σ _
  refine zz_gsn 3 rfl ?_
  refine zz_cv (n := 2) rfl rfl (t_Bytes_byteAt) (Nat.le_of_ble_eq_true rfl) (Nat.le_of_ble_eq_true rfl) (Nat.le_of_ble_eq_true rfl) (fun r3 σ3 q3 => ?_)
  obtain ⟨rfl, n3, rfl, e3⟩ := q3
  refine zz_ri rfl (Or.inl rfl) ?_
  exact ⟨rfl, congrArg (fun z => some (zI z)) ((bl_at hG.2.2.1 ok.2.2.1.1 e3).trans (octet_e ok i))⟩
theorem t_TQ_fault {X : zz_X} {σ : zz_M} {b : Nat} {B : Int} {G : zz_J} {w : Int} (hG : CG σ b B G) (ok : g_ok G) : zz_T X 1 p_TQ_fault [zP 11 0 0 b, zI w] σ (fun r σ' => σ = σ' ∧ r = some (zI (a_fault G w))) := by
  refine zz_mk k_TQ_fault o_TQ_fault rfl rfl (Nat.le_of_ble_eq_true rfl) ?_
  show zz_G X 1 p_TQ_fault 0 [zP 11 0 0 b, zI w] [] σ _
  have hft := hG.2.2.2.1
  refine zz_gsn 1 rfl ?_
  rcases (show w = 0 ∨ w = 1 ∨ (w ≠ 0 ∧ w ≠ 1) by omega) with hx | hx | hx
  · refine zz_lu 27 2 rfl (by subst hx; rfl) rfl ?_
    refine zz_gsn 3 rfl ?_
    refine zz_ri rfl (Or.inl rfl) ?_
    exact ⟨rfl, congrArg (fun z => some (zI z)) (hft.1.trans (if_pos hx).symm)⟩
  · refine zz_lu 35 6 rfl (by subst hx; rfl) rfl ?_
    refine zz_gsn 3 rfl ?_
    refine zz_ri rfl (Or.inl rfl) ?_
    exact ⟨rfl, congrArg (fun z => some (zI z)) (hft.2.trans ((if_neg (by omega)).trans (if_pos hx)).symm)⟩
  · refine zz_lu 43 10 rfl (by show (if (0 : Int) = w then (27 : Int) else if (1 : Int) = w then 35 else 43) = 43; rw [if_neg (fun z => hx.1 z.symm), if_neg (fun z => hx.2 z.symm)]) rfl ?_
    refine zz_gsn 1 rfl ?_
    refine zz_ri rfl (Or.inl rfl) ?_
    exact ⟨rfl, congrArg (fun z => some (zI z)) ((if_neg hx.1).trans (if_neg hx.2)).symm⟩
theorem t_TQ_end {X : zz_X} {σ : zz_M} {b : Nat} {B : Int} {G : zz_J} {n : Int} (hG : CG σ b B G) (ok : g_ok G) : zz_T X 1 p_TQ_end [zP 11 0 0 b, zI n] σ (fun r σ' => r = some (zI (a_end G n).1) ∧ CG σ' b B (a_end G n).2 ∧ zz_F (A_cl b) σ σ') := by
  refine zz_mk k_TQ_end o_TQ_end rfl rfl (Nat.le_of_ble_eq_true rfl) ?_
  show zz_G X 1 p_TQ_end 0 [zP 11 0 0 b, zI n] [] σ _
  obtain ⟨hH, hBt, hBo, hft, him, hmk, htr⟩ := id hG
  obtain ⟨⟨ho, hfx⟩, okt, oko, okm⟩ := id ok
  obtain ⟨hD, hV⟩ := id hH
  obtain ⟨d1, d2, d3, d4, dR⟩ := id hD
  obtain ⟨d5, d6, d7⟩ := id dR
  have ht1 := hBt.1
  rcases Classical.em (0 ≤ n ∧ n ≤ (G.t.length : Nat)) with hn | hn
  · refine zz_gsn 1 rfl ?_
    refine zz_br rfl (fun h1 => absurd h1 (by omega)) (fun h1 => ?_)
    refine zz_gsn 4 rfl ?_
    refine zz_br rfl (fun h6 => ?_) (fun h6 => absurd h6 (by omega))
    refine zz_gsn 5 rfl ?_
    refine zz_ri rfl (Or.inl rfl) ?_
    rw [show a_end G n = (n, (G.I, G.t.take n.toNat, G.o, G.f, G.p, G.m)) from if_pos hn]
    have F : zz_F (fun a => a = b + 1) σ (zz_sf σ 0 (b + 1) n) := zz_F.sf rfl
    have ht : BL (zz_sf σ 0 (b + 1) n) (b + 1) (G.t.take n.toNat) := by
      have el : (G.t.take n.toNat).length = n.toNat := by rw [List.length_take]; omega
      refine ⟨?_, fun i hi => ?_⟩
      · rw [sf_h, el]; omega
      · rw [el] at hi
        rw [sf_2, hBt.2 i (by omega), List.getD_eq_getElem?_getD, List.getD_eq_getElem?_getD, List.getElem?_take, if_pos hi]
    refine ⟨rfl, ⟨hH.f F (fun a z => by omega), ht, hBo.f F (by omega) (by omega), ?_, fun i hi => (him i hi).f F (fun c y1 y2 z => by omega), ?_, htr.f F (fun a y1 y2 z => by omega) (fun z => absurd z (Nat.lt_irrefl 0))⟩, F.mono (fun a z => by unfold A_cl; omega)⟩
    · rw [(F (b + 5) (by omega)).1, (F (b + 5) (by omega)).1]; exact hft
    · rw [(F (b + 17) (by omega)).1]; exact ⟨fun i hi => by rw [(F (b + 21) (by omega)).2]; exact hmk.1 i hi, hmk.2⟩
  · refine zz_gsn 1 rfl ?_
    refine zz_br rfl (fun h1 => ?_) (fun h1 => ?_)
    · refine zz_gsn 1 rfl ?_
      refine zz_ri rfl (Or.inl rfl) ?_
      rw [show a_end G n = (-1, G) from if_neg hn]
      exact ⟨rfl, hG, zz_F.rf⟩
    · refine zz_gsn 4 rfl ?_
      refine zz_br rfl (fun h6 => absurd ⟨by omega, by omega⟩ hn) (fun h6 => ?_)
      refine zz_gsn 1 rfl ?_
      refine zz_ri rfl (Or.inl rfl) ?_
      rw [show a_end G n = (-1, G) from if_neg hn]
      exact ⟨rfl, hG, zz_F.rf⟩
theorem t_TQ_made {X : zz_X} {σ : zz_M} {b : Nat} {B : Int} {G : zz_J} (hG : CG σ b B G) (ok : g_ok G) : zz_T X 1 p_TQ_made [zP 11 0 0 b] σ (fun r σ' => σ = σ' ∧ r = some (zI (a_made G))) := by
  refine zz_mk k_TQ_made o_TQ_made rfl rfl (Nat.le_of_ble_eq_true rfl) ?_
  show zz_G X 1 p_TQ_made 0 [zP 11 0 0 b] [] σ _
  obtain ⟨hH, hBt, hBo, hft, him, hmk, htr⟩ := id hG
  obtain ⟨⟨ho, hfx⟩, okt, oko, okm⟩ := id ok
  obtain ⟨hD, hV⟩ := id hH
  obtain ⟨d1, d2, d3, d4, dR⟩ := id hD
  obtain ⟨d5, d6, d7⟩ := id dR
  rcases Classical.em (G.I.ho = 1) with h1 | h1
  · refine zz_gsn 4 rfl ?_
    refine zz_br rfl (fun h4 => absurd (d1.symm.trans h4) (by omega)) (fun h4 => ?_)
    refine zz_gsn 4 rfl ?_
    refine zz_jp rfl ?_
    refine zz_ri rfl (Or.inl rfl) ?_
    exact ⟨rfl, congrArg (fun z => some (zI z)) (((hV.2.2.1 0 (Nat.zero_le _)).1.2.2.2.1 (by decide)).1.trans (if_pos h1).symm)⟩
  · have h0 : G.I.ho = 0 := by rcases ho.2 with z | z <;> omega
    refine zz_gsn 4 rfl ?_
    refine zz_br rfl (fun h4 => ?_) (fun h4 => absurd (d1.trans h0) h4)
    refine zz_gsn 1 rfl ?_
    refine zz_ri rfl (Or.inl rfl) ?_
    exact ⟨rfl, congrArg (fun z => some (zI z)) (if_neg h1).symm⟩
theorem t_History_stepsOf {X : zz_X} {σ : zz_M} {h : Nat} {d : Int} {I : zz_I} (hH : CH σ h I) : zz_T X 2 p_History_stepsOf [zP 3 0 0 h, zI d] σ (fun r σ' => σ = σ' ∧ r = some (zI (if 0 ≤ d ∧ d < (I.k : Nat) then (IH I).sp d.toNat else 0))) := by
  refine zz_mk k_History_stepsOf o_History_stepsOf rfl rfl (Nat.le_of_ble_eq_true rfl) ?_
  show zz_G X 2 p_History_stepsOf 0 [zP 3 0 0 h, zI d] [] σ _
  have dR := hH.1.2.2.2.2
  have hk6 := dR.2.1
  rcases Classical.em (0 ≤ d ∧ d < (I.k : Nat)) with hd | hd
  · refine zz_gsn 3 rfl ?_
    refine zz_cv (n := 2) rfl rfl (t_Deeds_hasDeed) (Nat.le_of_ble_eq_true rfl) (Nat.le_of_ble_eq_true rfl) (Nat.le_of_ble_eq_true rfl) (fun r3 σ3 q3 => ?_)
    obtain ⟨rfl, n3, rfl, e3⟩ := q3
    replace e3 := vd_of dR e3
    replace e3 : n3 = 1 := e3.elim (fun z => z.1) (fun z => absurd hd z.2)
    refine zz_br rfl (fun h4 => absurd h4 (by omega)) (fun h4 => ?_)
    refine zz_gsn 3 rfl ?_
    refine zz_ald rfl (⟨by omega, by omega⟩) ?_
    refine zz_jp rfl ?_
    refine zz_ri rfl (Or.inl rfl) ?_
    rw [if_pos hd]
    exact ⟨rfl, congrArg (fun z => some (zI z)) (hH.2.2.2.2 d.toNat (by omega)).1⟩
  · refine zz_gsn 3 rfl ?_
    refine zz_cv (n := 2) rfl rfl (t_Deeds_hasDeed) (Nat.le_of_ble_eq_true rfl) (Nat.le_of_ble_eq_true rfl) (Nat.le_of_ble_eq_true rfl) (fun r3 σ3 q3 => ?_)
    obtain ⟨rfl, n3, rfl, e3⟩ := q3
    replace e3 := vd_of dR e3
    replace e3 : n3 = 0 := e3.elim (fun z => absurd z.2 hd) (fun z => z.1)
    refine zz_br rfl (fun h4 => ?_) (fun h4 => absurd e3 h4)
    refine zz_gsn 1 rfl ?_
    refine zz_ri rfl (Or.inl rfl) ?_
    rw [if_neg hd]
    exact ⟨rfl, rfl⟩
theorem t_TQ_spent {X : zz_X} {σ : zz_M} {b : Nat} {B : Int} {G : zz_J} {d : Int} (hG : CG σ b B G) (ok : g_ok G) : zz_T X 3 p_TQ_spent [zP 11 0 0 b, zI d] σ (fun r σ' => σ = σ' ∧ r = some (zI (a_spent G d))) := by
  refine zz_mk k_TQ_spent o_TQ_spent rfl rfl (Nat.le_of_ble_eq_true rfl) ?_
  show zz_G X 3 p_TQ_spent 0 [zP 11 0 0 b, zI d] [] σ _
  obtain ⟨hH, hBt, hBo, hft, him, hmk, htr⟩ := id hG
  obtain ⟨⟨ho, hfx⟩, okt, oko, okm⟩ := id ok
  obtain ⟨hD, hV⟩ := id hH
  obtain ⟨d1, d2, d3, d4, dR⟩ := id hD
  obtain ⟨d5, d6, d7⟩ := id dR
  rcases Classical.em (0 ≤ d ∧ d < (G.I.k : Nat)) with hd | hd
  · refine zz_gsn 4 rfl ?_
    refine zz_cv (n := 2) rfl rfl (t_Deeds_hasDeed) (Nat.le_of_ble_eq_true rfl) (Nat.le_of_ble_eq_true rfl) (Nat.le_of_ble_eq_true rfl) (fun r4 σ4 q4 => ?_)
    obtain ⟨rfl, n4, rfl, e4⟩ := q4
    replace e4 := vd_of dR e4
    replace e4 : n4 = 1 := e4.elim (fun z => z.1) (fun z => absurd hd z.2)
    refine zz_br rfl (fun h5 => absurd h5 (by omega)) (fun h5 => ?_)
    refine zz_gsn 3 rfl ?_
    refine zz_cv (n := 2) rfl rfl (t_History_stepsOf (d := d) hH) (Nat.le_of_ble_eq_true rfl) (Nat.le_of_ble_eq_true rfl) (Nat.le_of_ble_eq_true rfl) (fun r9 σ9 q9 => ?_)
    obtain ⟨rfl, rfl⟩ := q9
    rw [if_pos hd]
    refine zz_jp rfl ?_
    refine zz_ri rfl (Or.inl rfl) ?_
    exact ⟨rfl, congrArg (fun z => some (zI z)) ((rfl).trans (if_pos hd).symm)⟩
  · refine zz_gsn 4 rfl ?_
    refine zz_cv (n := 2) rfl rfl (t_Deeds_hasDeed) (Nat.le_of_ble_eq_true rfl) (Nat.le_of_ble_eq_true rfl) (Nat.le_of_ble_eq_true rfl) (fun r4 σ4 q4 => ?_)
    obtain ⟨rfl, n4, rfl, e4⟩ := q4
    replace e4 := vd_of dR e4
    replace e4 : n4 = 0 := e4.elim (fun z => absurd z.2 hd) (fun z => z.1)
    refine zz_br rfl (fun h5 => ?_) (fun h5 => absurd e4 h5)
    refine zz_gsn 1 rfl ?_
    refine zz_ri rfl (Or.inl rfl) ?_
    exact ⟨rfl, congrArg (fun z => some (zI z)) (if_neg hd).symm⟩
theorem w_steps_u {law C mk kind x : Int} {B : Nat} {W : zz_W} (h : IV law B W) (hB : B ≤ 60) (hk : 0 ≤ kind ∧ kind ≤ 3) : w_steps law C mk kind x W ≤ 200 := by
  obtain ⟨hbl, -, -, h9, h10, -⟩ := h_bds h (by omega)
  have hb := (IV_bd h).1 1 (by decide)
  obtain ⟨cl, -, -, c9, c10, -, -⟩ := w_chg_B law mk kind x W hk
  have c1 := cl 1
  obtain ⟨W1, hW1⟩ : ∃ W1, W1 = w_chg law mk kind x W := ⟨_, rfl⟩
  have hb2 : (W.R 1).length ≤ 2 * B + 1 := hb
  by_cases h0 : law = 0
  · rw [(w_deed_0 h0).2.1, ← hW1]
    rw [← hW1] at c1
    have : w_allS W1 ≤ 150 := by
      unfold w_allS
      split
      · show (((W1.R 1).length : Nat) : Int) ≤ 150
        omega
      · omega
    omega
  · by_cases h1 : law = 1
    · rw [(w_deed_1 h1).2.1]
      have a := w_trnS_b (w_b (w_chg law mk kind x W))
      have b := w_trnS_b (w_trn mk (w_b (w_chg law mk kind x W)))
      unfold w_oneS
      omega
    · rw [(w_deed_2 h0 h1).2.1, ← hW1]
      have hsh : w_sh kind ≤ 2 := by
        unfold w_sh
        split <;> decide
      have : w_payS (w_sh kind) W1 ≤ 4 := by
        unfold w_payS
        omega
      omega
theorem h_spu {law C : Int} {D : zz_D} : ∀ {k : Nat}, h_ok law C k D → ∀ i, i < k → (hh law C D k).sp i ≤ 200
  | 0, _, i, hi => absurd hi (Nat.not_lt_zero i)
  | k + 1, h, i, hi => by
    have h' := h.le (Nat.le_succ k)
    have ih := h_spu h'
    obtain ⟨s1, s2, -⟩ := h.2.2.2 k (Nat.lt_succ_self k)
    have hk6 := h.2.2.1
    by_cases e : i = k
    · subst e
      have i1 := ((h_inv h').1 (D i).2.1 s1).1.up s1
      have z : (hh law C D (i + 1)).sp i = w_steps law C (i : Nat) (D i).1 (h_x (D i) (hh law C D i)) (hw (hh law C D i) (D i).2.1) := zu_s _ _ _
      rw [z]
      exact w_steps_u i1 (by omega) s2
    · have z : ∀ j, j ≠ k → (hh law C D (k + 1)).sp j = (hh law C D k).sp j := fun j hj => zu_n _ _ hj
      rw [z i e]
      exact ih i (by omega)
theorem sum_bd {f : Nat → Int} {k j : Nat} (h : ∀ i, i < k → 0 ≤ f i ∧ f i ≤ 200) (hj : j ≤ k) : 0 ≤ zz_sum f j ∧ zz_sum f j ≤ 200 * (j : Int) := by
  induction j with
  | zero => exact ⟨Int.le_refl _, Int.le_refl _⟩
  | succ j ih =>
    obtain ⟨a, b⟩ := ih (by omega)
    obtain ⟨c, d⟩ := h j (by omega)
    show 0 ≤ zz_sum f j + f j ∧ zz_sum f j + f j ≤ _
    omega
theorem lp_sall {X : zz_X} {h : Nat} {I : zz_I} {f : Nat → Int} {σ : zz_M} {Post : Option zz_V → zz_M → Prop} (dR : DR σ (h + 1) I.k I.D) (hf : ∀ i, i < I.k → σ.2 (h + 14) i = f i) (hb : ∀ i, i < I.k → 0 ≤ f i ∧ f i ≤ 200) (kk : Post (some (zI (zz_sum f I.k))) σ) :
    ∀ (r j : Nat), j + r = I.k → zz_G X 2 p_History_stepsOfAll 4 [zP 3 0 0 h, zI (zz_sum f j), zI (j : Nat)] [] σ Post := by
  have hk6 := dR.2.1
  intro r
  induction r with
  | zero =>
    intro j hj
    have e : j = I.k := hj
    subst e
    refine zz_gsn 2 rfl ?_
    refine zz_br rfl (fun h6 => ?_) (fun h6 => ?_)
    · refine zz_gsn 1 rfl ?_
      refine zz_ri rfl (Or.inl rfl) ?_
      exact kk
    · refine zz_gsn 3 rfl ?_
      refine zz_cv (n := 2) rfl rfl (t_Deeds_hasDeed) (Nat.le_of_ble_eq_true rfl) (Nat.le_of_ble_eq_true rfl) (Nat.le_of_ble_eq_true rfl) (fun r10 σ10 q10 => ?_)
      obtain ⟨rfl, n10, rfl, e10⟩ := q10
      replace e10 := vd_of dR e10
      replace e10 : n10 = 0 := e10.elim (fun z => absurd z.2 (fun z => absurd z.2 (by omega))) (fun z => z.1)
      refine zz_br rfl (fun h11 => ?_) (fun h11 => absurd e10 h11)
      refine zz_gsn 1 rfl ?_
      refine zz_ri rfl (Or.inl rfl) ?_
      exact kk
  | succ r ih =>
    intro j hj
    have bd := sum_bd hb (show j ≤ I.k by omega)
    have b1 := hb j (by omega)
    have es : zw (zz_sum f j + f j) = zz_sum f (j + 1) := zw_id (x := zz_sum f j + f j) (by omega) (by omega)
    refine zz_gsn 2 rfl ?_
    refine zz_br rfl (fun h6 => absurd h6 (by clear es; omega)) (fun h6 => ?_)
    refine zz_gsn 3 rfl ?_
    refine zz_cv (n := 2) rfl rfl (t_Deeds_hasDeed) (Nat.le_of_ble_eq_true rfl) (Nat.le_of_ble_eq_true rfl) (Nat.le_of_ble_eq_true rfl) (fun r10 σ10 q10 => ?_)
    obtain ⟨rfl, n10, rfl, e10⟩ := q10
    replace e10 := vd_of dR e10
    replace e10 : n10 = 1 := e10.elim (fun z => z.1) (fun z => absurd ⟨by clear es; omega, by clear es; omega⟩ z.2)
    refine zz_br rfl (fun h11 => absurd h11 (by clear es; omega)) (fun h11 => ?_)
    refine zz_gsn 4 rfl ?_
    refine zz_ald rfl (⟨by clear es; omega, by clear es; omega⟩) ?_
    rw [Int.toNat_natCast, hf j (by clear es; omega)]
    refine zz_gsn 3 rfl ?_
    refine zz_jp rfl ?_
    rw [es, zw_s (by clear es; omega)]
    clear es
    exact ih (j + 1) (by omega)
theorem t_History_stepsOfAll {X : zz_X} {σ : zz_M} {h : Nat} {I : zz_I} (hH : CH σ h I) (ho : i_ok I) : zz_T X 2 p_History_stepsOfAll [zP 3 0 0 h] σ (fun r σ' => σ = σ' ∧ r = some (zI (zz_sum (IH I).sp I.k))) := by
  refine zz_mk k_History_stepsOfAll o_History_stepsOfAll rfl rfl (Nat.le_of_ble_eq_true rfl) ?_
  show zz_G X 2 p_History_stepsOfAll 0 [zP 3 0 0 h, zU, zU] [] σ _
  refine zz_gsn 4 rfl ?_
  have hin := h_inv ho.1
  exact lp_sall (f := (IH I).sp) hH.1.2.2.2.2 (fun i hi => (hH.2.2.2.2 i hi).1) (fun i hi => ⟨Int.le_of_lt (hin.2.2.2.2.1 i hi).2.2.1, h_spu ho.1 i hi⟩) ⟨rfl, rfl⟩ I.k 0 (Nat.zero_add _)
theorem t_TQ_ledger {X : zz_X} {σ : zz_M} {b : Nat} {B : Int} {G : zz_J} (hG : CG σ b B G) (ok : g_ok G) : zz_T X 3 p_TQ_ledger [zP 11 0 0 b] σ (fun r σ' => σ = σ' ∧ r = some (zI (a_ledger G))) := by
  refine zz_mk k_TQ_ledger o_TQ_ledger rfl rfl (Nat.le_of_ble_eq_true rfl) ?_
  show zz_G X 3 p_TQ_ledger 0 [zP 11 0 0 b] [] σ _
  obtain ⟨hH, hBt, hBo, hft, him, hmk, htr⟩ := id hG
  obtain ⟨⟨ho, hfx⟩, okt, oko, okm⟩ := id ok
  obtain ⟨hD, hV⟩ := id hH
  obtain ⟨d1, d2, d3, d4, dR⟩ := id hD
  obtain ⟨d5, d6, d7⟩ := id dR
  rcases Classical.em (G.I.ho = 1) with h1 | h1
  · refine zz_gsn 4 rfl ?_
    refine zz_br rfl (fun h4 => absurd (d1.symm.trans h4) (by omega)) (fun h4 => ?_)
    refine zz_gsn 2 rfl ?_
    refine zz_cv (n := 1) rfl rfl (t_History_stepsOfAll hH ho) (Nat.le_of_ble_eq_true rfl) (Nat.le_of_ble_eq_true rfl) (Nat.le_of_ble_eq_true rfl) (fun r7 σ7 q7 => ?_)
    obtain ⟨rfl, rfl⟩ := q7
    refine zz_jp rfl ?_
    refine zz_ri rfl (Or.inl rfl) ?_
    exact ⟨rfl, congrArg (fun z => some (zI z)) ((rfl).trans (if_pos h1).symm)⟩
  · have h0 : G.I.ho = 0 := by rcases ho.2 with z | z <;> omega
    refine zz_gsn 4 rfl ?_
    refine zz_br rfl (fun h4 => ?_) (fun h4 => absurd (d1.trans h0) h4)
    refine zz_gsn 1 rfl ?_
    refine zz_ri rfl (Or.inl rfl) ?_
    exact ⟨rfl, congrArg (fun z => some (zI z)) (if_neg h1).symm⟩
