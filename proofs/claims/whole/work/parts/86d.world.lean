/-! the class: words, numbers, blanks -/
def zr_ok (T : List Int) (k : zr_T) : Prop := k.s ≤ k.n ∧ k.n ≤ T.length ∧ (k.t = 2 → 0 ≤ k.v ∧ k.v ≤ 99999)
theorem zr_ad_ok {T : List Int} {k : zr_T} (h : k.n ≤ T.length) : zr_ok T (zr_ad T k) := by
  have b1 := (zr_e_b zr_bl T k.n).2 h
  have b2 := zr_e_b zr_le T (zr_e zr_bl T k.n)
  have b3 := zr_e_b zr_dg T (zr_e zr_bl T k.n)
  unfold zr_ad
  by_cases h1 : T.length ≤ zr_e zr_bl T k.n
  · rw [if_pos h1]
    exact ⟨Nat.le_refl _, b1, fun z => absurd z (by show ¬ (4 : Int) = 2; decide)⟩
  · rw [if_neg h1]
    split
    · exact ⟨b2.1, b2.2 b1, fun z => absurd z (by show ¬ (1 : Int) = 2; decide)⟩
    · split
      · exact ⟨b3.1, b3.2 b1, fun _ => zr_vl_b T _ _ _ ⟨by decide, by decide⟩⟩
      · refine ⟨Nat.le_succ _, by show zr_e zr_bl T k.n + 1 ≤ _; omega, fun z => ?_⟩
        have z2 : (if zl_b T (zr_e zr_bl T k.n : Nat) = 59 then (3 : Int) else 0) = 2 := z
        split at z2
        · exact absurd z2 (by decide)
        · exact absurd z2 (by decide)
theorem zr_adv_ok {T : List Int} {k : zr_T} (h : zr_ok T k) : zr_ok T (zr_adv T k) := by
  unfold zr_adv
  split
  · exact zr_ad_ok h.2.1
  · exact h
theorem zr_err_ok {T : List Int} {x : Int} {k : zr_T} (h : zr_ok T k) : zr_ok T (zr_err x k) := by
  unfold zr_err
  split
  · exact h
  · exact h
theorem zr_nm_ok {T : List Int} {lo hi : Int} {k : zr_T} (h : zr_ok T k) : zr_ok T (zr_nm T lo hi k) := by
  unfold zr_nm
  split
  · exact zr_err_ok h
  · split
    · exact zr_err_ok h
    · exact zr_adv_ok h
theorem zr_sg_ok {T : List Int} {k : zr_T} (h : zr_ok T k) : zr_ok T (zr_sg T k) := by
  unfold zr_sg
  split
  · exact zr_adv_ok h
  · exact zr_err_ok h
theorem zr_wd_ok {T : List Int} {w : Nat} {k : zr_T} (h : zr_ok T k) : zr_ok T (zr_wd T w k) := by
  unfold zr_wd
  split
  · exact zr_adv_ok h
  · exact zr_err_ok h
/-- the class's reader at c -/
def CRd (σ : zz_M) (c : Nat) (k : zr_T) : Prop := σ.1 601 c = k.f ∧ σ.1 602 c = k.p ∧ σ.1 604 c = k.t ∧ σ.1 605 c = (k.s : Nat) ∧ σ.1 606 c = (k.n : Nat) ∧ (k.t = 2 → σ.1 607 c = min k.v 990)
abbrev A_c1 (c : Nat) : Nat → Prop := fun a => a = c
theorem CRd.f {A : Nat → Prop} {σ σ' : zz_M} {c : Nat} {k : zr_T} (h : CRd σ c k) (hF : zz_F A σ σ') (hc : ¬ A c) : CRd σ' c k := by
  obtain ⟨h1, h2, h3, h4, h5, h6⟩ := h
  have f := (hF c hc).1
  exact ⟨(f _).trans h1, (f _).trans h2, (f _).trans h3, (f _).trans h4, (f _).trans h5, fun z => (f _).trans (h6 z)⟩
theorem t_Reader_isBlank {X : zz_X} {σ : zz_M} {v : Int}  : zz_T X 1 p_Reader_isBlank [zI v] σ (fun r σ' => σ = σ' ∧ ∃ n : Int, r = some (zI n) ∧ ((n = 1 ∧ zr_bl v = true) ∨ (n = 0 ∧ zr_bl v = false))) := by
  refine zz_mk k_Reader_isBlank o_Reader_isBlank rfl rfl (Nat.le_of_ble_eq_true rfl) ?_
  show zz_G X 1 p_Reader_isBlank 0 [zI v] [] σ _
  refine zz_gsn 2 rfl ?_
  refine zz_br rfl (fun h2 => ?_) (fun h2 => ?_)
  · refine zz_gsn 1 rfl ?_
    refine zz_jp rfl ?_
    refine zz_ri rfl (Or.inr ⟨rfl, by first | exact Or.inl rfl | exact Or.inr rfl | omega⟩) ?_
    exact ⟨rfl, 1, rfl, Or.inl ⟨rfl, decide_eq_true (by omega)⟩⟩
  · refine zz_gsn 2 rfl ?_
    refine zz_br rfl (fun h5 => ?_) (fun h5 => ?_)
    · refine zz_gsn 1 rfl ?_
      refine zz_ri rfl (Or.inr ⟨rfl, by first | exact Or.inl rfl | exact Or.inr rfl | omega⟩) ?_
      exact ⟨rfl, 0, rfl, Or.inr ⟨rfl, decide_eq_false (by omega)⟩⟩
    · refine zz_gsn 1 rfl ?_
      refine zz_jp rfl ?_
      refine zz_ri rfl (Or.inr ⟨rfl, by first | exact Or.inl rfl | exact Or.inr rfl | omega⟩) ?_
      exact ⟨rfl, 1, rfl, Or.inl ⟨rfl, decide_eq_true (by omega)⟩⟩
theorem t_Reader_isLetter {X : zz_X} {σ : zz_M} {v : Int}  : zz_T X 1 p_Reader_isLetter [zI v] σ (fun r σ' => σ = σ' ∧ ∃ n : Int, r = some (zI n) ∧ ((n = 1 ∧ zr_le v = true) ∨ (n = 0 ∧ zr_le v = false))) := by
  refine zz_mk k_Reader_isLetter o_Reader_isLetter rfl rfl (Nat.le_of_ble_eq_true rfl) ?_
  show zz_G X 1 p_Reader_isLetter 0 [zI v] [] σ _
  refine zz_gsn 2 rfl ?_
  refine zz_br rfl (fun h2 => ?_) (fun h2 => ?_)
  · refine zz_gsn 1 rfl ?_
    refine zz_ri rfl (Or.inr ⟨rfl, by first | exact Or.inl rfl | exact Or.inr rfl | omega⟩) ?_
    exact ⟨rfl, 0, rfl, Or.inr ⟨rfl, decide_eq_false (by omega)⟩⟩
  · refine zz_gsn 2 rfl ?_
    refine zz_br rfl (fun h5 => ?_) (fun h5 => ?_)
    · refine zz_gsn 1 rfl ?_
      refine zz_ri rfl (Or.inr ⟨rfl, by first | exact Or.inl rfl | exact Or.inr rfl | omega⟩) ?_
      exact ⟨rfl, 0, rfl, Or.inr ⟨rfl, decide_eq_false (by omega)⟩⟩
    · refine zz_gsn 1 rfl ?_
      refine zz_jp rfl ?_
      refine zz_ri rfl (Or.inr ⟨rfl, by first | exact Or.inl rfl | exact Or.inr rfl | omega⟩) ?_
      exact ⟨rfl, 1, rfl, Or.inl ⟨rfl, decide_eq_true (by omega)⟩⟩
theorem t_Reader_isDigit {X : zz_X} {σ : zz_M} {v : Int}  : zz_T X 1 p_Reader_isDigit [zI v] σ (fun r σ' => σ = σ' ∧ ∃ n : Int, r = some (zI n) ∧ ((n = 1 ∧ zr_dg v = true) ∨ (n = 0 ∧ zr_dg v = false))) := by
  refine zz_mk k_Reader_isDigit o_Reader_isDigit rfl rfl (Nat.le_of_ble_eq_true rfl) ?_
  show zz_G X 1 p_Reader_isDigit 0 [zI v] [] σ _
  refine zz_gsn 2 rfl ?_
  refine zz_br rfl (fun h2 => ?_) (fun h2 => ?_)
  · refine zz_gsn 1 rfl ?_
    refine zz_ri rfl (Or.inr ⟨rfl, by first | exact Or.inl rfl | exact Or.inr rfl | omega⟩) ?_
    exact ⟨rfl, 0, rfl, Or.inr ⟨rfl, decide_eq_false (by omega)⟩⟩
  · refine zz_gsn 2 rfl ?_
    refine zz_br rfl (fun h5 => ?_) (fun h5 => ?_)
    · refine zz_gsn 1 rfl ?_
      refine zz_ri rfl (Or.inr ⟨rfl, by first | exact Or.inl rfl | exact Or.inr rfl | omega⟩) ?_
      exact ⟨rfl, 0, rfl, Or.inr ⟨rfl, decide_eq_false (by omega)⟩⟩
    · refine zz_gsn 1 rfl ?_
      refine zz_jp rfl ?_
      refine zz_ri rfl (Or.inr ⟨rfl, by first | exact Or.inl rfl | exact Or.inr rfl | omega⟩) ?_
      exact ⟨rfl, 1, rfl, Or.inl ⟨rfl, decide_eq_true (by omega)⟩⟩
theorem lp_wrd {X : zz_X} {c a p E : Nat} {T : List Int} {u2 : zz_V} {σ0 : zz_M} {Post : Option zz_V → zz_M → Prop} (hT : T.length ≤ 600) (hpT : T.length ≤ p) (hac : c ≠ a ∧ c ≠ a + 1) (kk : ∀ σ' : zz_M, σ'.1 606 c = (E : Nat) → (∀ f, f ≠ 606 → σ'.1 f c = σ0.1 f c) → BL σ' a T → zz_F (A_c1 c) σ0 σ' → zz_G X 3 p_Reader_readWord 21 [zP 6 0 0 c, zP 0 p 0 a] [] σ' Post) :
    ∀ (r i : Nat) (σ : zz_M), i + r = T.length → σ.1 606 c = (i : Nat) → (∀ f, f ≠ 606 → σ.1 f c = σ0.1 f c) → BL σ a T → zz_F (A_c1 c) σ0 σ → zr_e zr_le T i = E → zz_G X 3 p_Reader_readWord 3 [zP 6 0 0 c, zP 0 p 0 a] [] σ Post := by
  intro r
  induction r with
  | zero =>
    intro i σ hi h6 hf hB hF hE
    have hb1 := hB.1
    have i7 : ((i : Nat) : Int) ≥ (T.length : Nat) := by omega
    have e : zr_e zr_le T i = i := zr_e_n (fun z => by omega)
    rw [e] at hE
    subst hE
    refine zz_gsn 4 rfl ?_
    rw [h6, hb1]
    refine zz_br rfl (fun h7 => ?_) (fun h7 => absurd i7 (by first | exact h7 | exact Int.not_le.mpr h7))
    exact kk σ h6 hf hB hF
  | succ r ih =>
    intro i σ hi h6 hf hB hF hE
    have hb1 := hB.1
    have hil : i < T.length := by omega
    have i7 : ¬ ((i : Nat) : Int) ≥ (T.length : Nat) := by omega
    have i9 : i + 1 + r = T.length := by omega
    have zs : zw ((i : Int) + 1) = ((i + 1 : Nat) : Int) := zw_s (Nat.lt_of_lt_of_le hil (Nat.le_trans hT (by decide)))
    refine zz_gsn 4 rfl ?_
    rw [h6, hb1]
    refine zz_br rfl (fun h7 => absurd h7 i7) (fun h7 => ?_)
    refine zz_gsn 3 rfl ?_
    rw [h6]
    refine zz_cv (n := 2) rfl rfl (t_Bytes_byteAt) (Nat.le_of_ble_eq_true rfl) (Nat.le_of_ble_eq_true rfl) (Nat.le_of_ble_eq_true rfl) (fun r11 σ11 q11 => ?_)
    obtain ⟨rfl, n11, rfl, e11⟩ := q11
    replace e11 := bl_at hB hpT e11
    rw [e11]
    refine zz_cs (n := 1) rfl rfl (t_Reader_isLetter) (Nat.le_of_ble_eq_true rfl) (Nat.le_of_ble_eq_true rfl) (Nat.le_of_ble_eq_true rfl) (fun r12 σ12 q12 => ?_)
    obtain ⟨rfl, n12, rfl, e12⟩ := q12
    refine zz_br rfl (fun h13 => ?_) (fun h13 => ?_)
    · have z : zr_le (zl_b T (i : Nat)) = false := e12.elim (fun z => absurd (z.1.symm.trans h13) (by decide)) (fun z => z.2)
      have e : zr_e zr_le T i = i := zr_e_n (fun _ => z)
      rw [e] at hE
      subst hE
      exact kk σ h6 hf hB hF
    · refine zz_gsn 6 rfl ?_
      refine zz_jp rfl ?_
      have z : zr_le (zl_b T (i : Nat)) = true := e12.elim (fun z => z.2) (fun z => absurd z.1 h13)
      rw [h6, zs]
      have F1 : zz_F (A_c1 c) σ (zz_sf σ 606 c ((i + 1 : Nat) : Int)) := zz_F.sf rfl
      exact ih (i + 1) _ i9 (sf_h _ _ _ _) (fun f hf2 => (sf_f _ _ hf2).trans (hf f hf2)) (hB.f F1 (fun z => hac.1 z.symm) (fun z => hac.2 z.symm)) (hF.tr F1) ((zr_e_y hil z).symm.trans hE)
theorem lp_blk {X : zz_X} {c a p E : Nat} {T : List Int} {u2 : zz_V} {σ0 : zz_M} {Post : Option zz_V → zz_M → Prop} (hT : T.length ≤ 600) (hpT : T.length ≤ p) (hac : c ≠ a ∧ c ≠ a + 1) (kk : ∀ σ' : zz_M, σ'.1 606 c = (E : Nat) → (∀ f, f ≠ 606 → σ'.1 f c = σ0.1 f c) → BL σ' a T → zz_F (A_c1 c) σ0 σ' → zz_G X 4 p_Reader_step 22 [zP 6 0 0 c, zP 0 p 0 a, u2] [] σ' Post) :
    ∀ (r i : Nat) (σ : zz_M), i + r = T.length → σ.1 606 c = (i : Nat) → (∀ f, f ≠ 606 → σ.1 f c = σ0.1 f c) → BL σ a T → zz_F (A_c1 c) σ0 σ → zr_e zr_bl T i = E → zz_G X 4 p_Reader_step 4 [zP 6 0 0 c, zP 0 p 0 a, u2] [] σ Post := by
  intro r
  induction r with
  | zero =>
    intro i σ hi h6 hf hB hF hE
    have hb1 := hB.1
    have i7 : ((i : Nat) : Int) ≥ (T.length : Nat) := by omega
    have e : zr_e zr_bl T i = i := zr_e_n (fun z => by omega)
    rw [e] at hE
    subst hE
    refine zz_gsn 4 rfl ?_
    rw [h6, hb1]
    refine zz_br rfl (fun h8 => ?_) (fun h8 => absurd i7 (by first | exact h8 | exact Int.not_le.mpr h8))
    exact kk σ h6 hf hB hF
  | succ r ih =>
    intro i σ hi h6 hf hB hF hE
    have hb1 := hB.1
    have hil : i < T.length := by omega
    have i7 : ¬ ((i : Nat) : Int) ≥ (T.length : Nat) := by omega
    have i9 : i + 1 + r = T.length := by omega
    have zs : zw ((i : Int) + 1) = ((i + 1 : Nat) : Int) := zw_s (Nat.lt_of_lt_of_le hil (Nat.le_trans hT (by decide)))
    refine zz_gsn 4 rfl ?_
    rw [h6, hb1]
    refine zz_br rfl (fun h8 => absurd h8 i7) (fun h8 => ?_)
    refine zz_gsn 3 rfl ?_
    rw [h6]
    refine zz_cv (n := 2) rfl rfl (t_Bytes_byteAt) (Nat.le_of_ble_eq_true rfl) (Nat.le_of_ble_eq_true rfl) (Nat.le_of_ble_eq_true rfl) (fun r12 σ12 q12 => ?_)
    obtain ⟨rfl, n12, rfl, e12⟩ := q12
    replace e12 := bl_at hB hpT e12
    rw [e12]
    refine zz_cs (n := 1) rfl rfl (t_Reader_isBlank) (Nat.le_of_ble_eq_true rfl) (Nat.le_of_ble_eq_true rfl) (Nat.le_of_ble_eq_true rfl) (fun r13 σ13 q13 => ?_)
    obtain ⟨rfl, n13, rfl, e13⟩ := q13
    refine zz_br rfl (fun h14 => ?_) (fun h14 => ?_)
    · have z : zr_bl (zl_b T (i : Nat)) = false := e13.elim (fun z => absurd (z.1.symm.trans h14) (by decide)) (fun z => z.2)
      have e : zr_e zr_bl T i = i := zr_e_n (fun _ => z)
      rw [e] at hE
      subst hE
      exact kk σ h6 hf hB hF
    · refine zz_gsn 6 rfl ?_
      refine zz_jp rfl ?_
      have z : zr_bl (zl_b T (i : Nat)) = true := e13.elim (fun z => z.2) (fun z => absurd z.1 h14)
      rw [h6, zs]
      have F1 : zz_F (A_c1 c) σ (zz_sf σ 606 c ((i + 1 : Nat) : Int)) := zz_F.sf rfl
      exact ih (i + 1) _ i9 (sf_h _ _ _ _) (fun f hf2 => (sf_f _ _ hf2).trans (hf f hf2)) (hB.f F1 (fun z => hac.1 z.symm) (fun z => hac.2 z.symm)) (hF.tr F1) ((zr_e_y hil z).symm.trans hE)
theorem t_Reader_readWord {X : zz_X} {σ : zz_M} {c a p n : Nat} {T : List Int} (hB : BL σ a T) (h6 : σ.1 606 c = (n : Nat)) (hn : n ≤ T.length) (hT : T.length ≤ 600) (hpT : T.length ≤ p) (hac : c ≠ a ∧ c ≠ a + 1) : zz_T X 3 p_Reader_readWord [zP 6 0 0 c, zP 0 p 0 a] σ (fun r σ' => r = none ∧ σ'.1 604 c = 1 ∧ σ'.1 606 c = (zr_e zr_le T n : Nat) ∧ (∀ f, f ≠ 604 → f ≠ 606 → σ'.1 f c = σ.1 f c) ∧ BL σ' a T ∧ zz_F (A_c1 c) σ σ') := by
  refine zz_mk k_Reader_readWord o_Reader_readWord rfl rfl (Nat.le_of_ble_eq_true rfl) ?_
  show zz_G X 3 p_Reader_readWord 0 [zP 6 0 0 c, zP 0 p 0 a] [] σ _
  refine zz_gsn 3 rfl ?_
  obtain ⟨σ1, h1⟩ : ∃ s, s = zz_sf σ 604 c 1 := ⟨_, rfl⟩
  refine zz_sge (σ' := σ1) h1 ?_
  have F1 : zz_F (A_c1 c) σ σ1 := by rw [h1]; exact zz_F.sf rfl
  have f1 : ∀ f, f ≠ 604 → σ1.1 f c = σ.1 f c := fun f hf => by rw [h1]; exact sf_f _ _ hf
  refine lp_wrd (u2 := zU) (E := zr_e zr_le T n) (σ0 := σ1) hT hpT hac (fun σ' y1 y2 y3 F => ?_) (T.length - n) n σ1 (by omega) ((f1 _ (by decide)).trans h6) (fun _ _ => rfl) (hB.f F1 (fun z => hac.1 z.symm) (fun z => hac.2 z.symm)) zz_F.rf rfl
  refine zz_rv rfl rfl ?_
  exact ⟨rfl, (y2 _ (by decide)).trans (by rw [h1, sf_h]), y1, fun f h4 h6 => (y2 f h6).trans (f1 f h4), y3, F1.tr F⟩
theorem zr_cap {v b : Int} (hv : 0 ≤ v ∧ v ≤ 99999) (hb : zr_dg b = true) : min (zw (zw (zw (min v 990 * 10) + b) - 48)) 990 = min (min 99999 (10 * v + b - 48)) 990 ∧ 0 ≤ min 99999 (10 * v + b - 48) ∧ min 99999 (10 * v + b - 48) ≤ 99999 := by
  have z : 48 ≤ b ∧ b ≤ 57 := of_decide_eq_true hb
  rw [zw_id (x := min v 990 * 10) (by omega) (by omega), zw_id (x := min v 990 * 10 + b) (by omega) (by omega), zw_id (by omega) (by omega)]
  omega
theorem lp_num {X : zz_X} {c a p E : Nat} {V : Int} {T : List Int} {σ0 : zz_M} {Post : Option zz_V → zz_M → Prop} (hT : T.length ≤ 600) (hpT : T.length ≤ p) (hac : c ≠ a ∧ c ≠ a + 1) (kk : ∀ σ' : zz_M, σ'.1 606 c = (E : Nat) → σ'.1 607 c = min V 990 → (∀ f, f ≠ 606 → f ≠ 607 → σ'.1 f c = σ0.1 f c) → BL σ' a T → zz_F (A_c1 c) σ0 σ' → Post none σ') :
    ∀ (r i : Nat) (v : Int) (σ : zz_M), i + r = T.length → σ.1 606 c = (i : Nat) → σ.1 607 c = min v 990 → 0 ≤ v ∧ v ≤ 99999 → (∀ f, f ≠ 606 → f ≠ 607 → σ.1 f c = σ0.1 f c) → BL σ a T → zz_F (A_c1 c) σ0 σ → zr_e zr_dg T i = E → zr_v T i v = V → zz_G X 3 p_Reader_readNumber 6 [zP 6 0 0 c, zP 0 p 0 a] [] σ Post := by
  intro r
  induction r with
  | zero =>
    intro i v σ hi h6 h7 hv hf hB hF hE hV
    have hb1 := hB.1
    have i10 : ((i : Nat) : Int) ≥ (T.length : Nat) := by omega
    have e : zr_e zr_dg T i = i := zr_e_n (fun z => by omega)
    have e2 : zr_v T i v = v := zr_v_n (fun z => by omega)
    rw [e] at hE
    rw [e2] at hV
    subst hE
    subst hV
    refine zz_gsn 4 rfl ?_
    rw [h6, hb1]
    refine zz_br rfl (fun h10 => ?_) (fun h10 => absurd i10 (by first | exact h10 | exact Int.not_le.mpr h10))
    refine zz_rv rfl rfl ?_
    exact kk σ h6 h7 hf hB hF
  | succ r ih =>
    intro i v σ hi h6 h7 hv hf hB hF hE hV
    have hb1 := hB.1
    have hil : i < T.length := by omega
    have i10 : ¬ ((i : Nat) : Int) ≥ (T.length : Nat) := by omega
    have i9 : i + 1 + r = T.length := by omega
    have zs : zw ((i : Int) + 1) = ((i + 1 : Nat) : Int) := zw_s (Nat.lt_of_lt_of_le hil (Nat.le_trans hT (by decide)))
    refine zz_gsn 4 rfl ?_
    rw [h6, hb1]
    refine zz_br rfl (fun h10 => absurd h10 i10) (fun h10 => ?_)
    refine zz_gsn 3 rfl ?_
    rw [h6]
    refine zz_cv (n := 2) rfl rfl (t_Bytes_byteAt) (Nat.le_of_ble_eq_true rfl) (Nat.le_of_ble_eq_true rfl) (Nat.le_of_ble_eq_true rfl) (fun r14 σ14 q14 => ?_)
    obtain ⟨rfl, n14, rfl, e14⟩ := q14
    replace e14 := bl_at hB hpT e14
    rw [e14]
    refine zz_cs (n := 1) rfl rfl (t_Reader_isDigit) (Nat.le_of_ble_eq_true rfl) (Nat.le_of_ble_eq_true rfl) (Nat.le_of_ble_eq_true rfl) (fun r15 σ15 q15 => ?_)
    obtain ⟨rfl, n15, rfl, e15⟩ := q15
    refine zz_br rfl (fun h16 => ?_) (fun h16 => ?_)
    · refine zz_rv rfl rfl ?_
      have z : zr_dg (zl_b T (i : Nat)) = false := e15.elim (fun z => absurd (z.1.symm.trans h16) (by decide)) (fun z => z.2)
      have e : zr_e zr_dg T i = i := zr_e_n (fun _ => z)
      have e2 : zr_v T i v = v := zr_v_n (fun _ => z)
      rw [e] at hE
      rw [e2] at hV
      subst hE
      subst hV
      exact kk σ h6 h7 hf hB hF
    · refine zz_gsn 8 rfl ?_
      rw [h6]
      refine zz_cv (n := 2) rfl rfl (t_Bytes_byteAt) (Nat.le_of_ble_eq_true rfl) (Nat.le_of_ble_eq_true rfl) (Nat.le_of_ble_eq_true rfl) (fun r25 σ25 q25 => ?_)
      obtain ⟨rfl, n25, rfl, e25⟩ := q25
      replace e25 := bl_at hB hpT e25
      rw [e25, h7]
      refine zz_gsn 4 rfl ?_
      refine zz_mth rfl (Nat.le_of_ble_eq_true rfl) (Nat.le_of_ble_eq_true rfl) ?_
      refine zz_gsn 7 rfl ?_
      refine zz_jp rfl ?_
      have z : zr_dg (zl_b T (i : Nat)) = true := e15.elim (fun z => z.2) (fun z => absurd z.1 h16)
      obtain ⟨c1, c2, c3⟩ := zr_cap hv z
      obtain ⟨w, hw⟩ : ∃ w, w = min 99999 (10 * v + zl_b T (i : Nat) - 48) := ⟨_, rfl⟩
      rw [c1, ← hw]
      rw [← hw] at c2 c3
      obtain ⟨σ1, h1⟩ : ∃ s, s = zz_sf σ 607 c (min w 990) := ⟨_, rfl⟩
      refine zz_sge (σ' := zz_sf σ1 606 c ((i + 1 : Nat) : Int)) (by rw [h1, sf_f _ _ (show (606 : Nat) ≠ 607 by decide), h6, zs]) ?_
      have F1 : zz_F (A_c1 c) σ σ1 := by rw [h1]; exact zz_F.sf rfl
      have F2 : zz_F (A_c1 c) σ (zz_sf σ1 606 c ((i + 1 : Nat) : Int)) := F1.tr (zz_F.sf rfl)
      exact ih (i + 1) w _ i9 (sf_h _ _ _ _) ((sf_f _ _ (by decide)).trans (by rw [h1, sf_h])) ⟨c2, c3⟩ (fun f hf2 hf3 => (sf_f _ _ hf2).trans (by rw [h1, sf_f _ _ hf3]; exact hf f hf2 hf3)) (hB.f F2 (fun z => hac.1 z.symm) (fun z => hac.2 z.symm)) (hF.tr F2) ((zr_e_y hil z).symm.trans hE) ((by rw [hw]; exact (zr_v_y hil z).symm.trans hV))
theorem t_Reader_readNumber {X : zz_X} {σ : zz_M} {c a p n : Nat} {T : List Int} (hB : BL σ a T) (h6 : σ.1 606 c = (n : Nat)) (hn : n ≤ T.length) (hT : T.length ≤ 600) (hpT : T.length ≤ p) (hac : c ≠ a ∧ c ≠ a + 1) : zz_T X 3 p_Reader_readNumber [zP 6 0 0 c, zP 0 p 0 a] σ (fun r σ' => r = none ∧ σ'.1 604 c = 2 ∧ σ'.1 606 c = (zr_e zr_dg T n : Nat) ∧ σ'.1 607 c = min (zr_v T n 0) 990 ∧ (∀ f, f ≠ 604 → f ≠ 606 → f ≠ 607 → σ'.1 f c = σ.1 f c) ∧ BL σ' a T ∧ zz_F (A_c1 c) σ σ') := by
  refine zz_mk k_Reader_readNumber o_Reader_readNumber rfl rfl (Nat.le_of_ble_eq_true rfl) ?_
  show zz_G X 3 p_Reader_readNumber 0 [zP 6 0 0 c, zP 0 p 0 a] [] σ _
  refine zz_gsn 6 rfl ?_
  obtain ⟨σ1, h1⟩ : ∃ s, s = zz_sf (zz_sf σ 604 c 2) 607 c 0 := ⟨_, rfl⟩
  refine zz_sge (σ' := σ1) h1 ?_
  have F1 : zz_F (A_c1 c) σ σ1 := by rw [h1]; exact (show zz_F (A_c1 c) σ (zz_sf σ 604 c 2) from zz_F.sf rfl).tr (zz_F.sf rfl)
  have f1 : ∀ f, f ≠ 604 → f ≠ 607 → σ1.1 f c = σ.1 f c := fun f hf hf2 => by rw [h1, sf_f _ _ hf2]; exact sf_f _ _ hf
  exact lp_num (E := zr_e zr_dg T n) (V := zr_v T n 0) (σ0 := σ1) hT hpT hac (fun σ' y1 y7 y2 y3 F => ⟨rfl, (y2 _ (by decide) (by decide)).trans (by rw [h1, sf_f _ _ (by decide), sf_h]), y1, y7, fun f h4 h6 h7 => (y2 f h6 h7).trans (f1 f h4 h7), y3, F1.tr F⟩) (T.length - n) n 0 σ1 (by omega) ((f1 _ (by decide) (by decide)).trans h6) (by rw [h1, sf_h]; rfl) ⟨by decide, by decide⟩ (fun _ _ _ => rfl) (hB.f F1 (fun z => hac.1 z.symm) (fun z => hac.2 z.symm)) zz_F.rf rfl rfl
