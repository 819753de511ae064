/-! the mill: splitting, its loops -/
theorem w_pus_R {mk : Int} {k : Nat} : ∀ (xs : List Int) (W : zz_W), ((w_pus mk k xs W).R k).length = xs.length + (W.R k).length ∧ (∀ j, j ≠ k → (w_pus mk k xs W).R j = W.R j) ∧ (w_pus mk k xs W).n = W.n + xs.length ∧ (w_pus mk k xs W).S = W.S
  | [], W => ⟨by simp [w_pus], fun _ _ => rfl, rfl, rfl⟩
  | x :: xs, W => by
    obtain ⟨h1, h2, h3, h4⟩ := w_pus_R (mk := mk) (k := k) xs W
    refine ⟨?_, fun j hj => ?_, ?_, h4⟩
    · show ((zu (w_pus mk k xs W).R k ((w_pus mk k xs W).n :: (w_pus mk k xs W).R k)) k).length = _
      rw [zu_s, List.length_cons, h1, List.length_cons]
      omega
    · show (zu (w_pus mk k xs W).R k _) j = _
      rw [zu_n _ _ hj]
      exact h2 j hj
    · show (w_pus mk k xs W).n + 1 = _
      rw [h3, List.length_cons]
      omega
/-- a memory in which the mill's room holds a list -/
def Hd (m : Nat) (p q : Nat) (L : List Int) (σ : zz_M) : Prop := 0 < p → L.length ≤ q ∧ ∀ (h : Nat) (x : Int), L[h]? = some x → σ.2 (m + 6) h = x
theorem Hd.mc {s m n p q : Nat} {L : List Int} {σ σ' : zz_M} (h : Hd m p q L σ) (hM : Mc s m n σ σ') : Hd m p q L σ' := fun hp => ⟨(h hp).1, fun i x hx => by rw [hM.2 _ _ (by unfold zz_c2c; omega)]; exact (h hp).2 i x hx⟩
theorem lp_spl1 {X : zz_X} {p q m s i : Nat} {mk : Int} {L : List Int} {all kept : Int} {Post : Option zz_V → zz_M → Prop} (hi : i < 6) (hpb : p < 100000) (hqb : q < 100000) (hL : L.length < 80000) (u1 : zz_V) :
    ∀ (r : Nat) (W W0 : zz_W) (σ : zz_M), r ≤ L.length → SP σ p m s W → W = w_pus mk i (L.drop r) W0 → W0.R i = [] → Hd m p q L σ → σ.1 406 m = mk → (0 < p → (w_pus mk i L W0).n ≤ p) →
      (∀ σ', SP σ' p m s (w_pus mk i L W0) → Mc s m W.n σ σ' → zz_G X 4 p_Mill_split 57 [zP 4 p q m, zP 9 0 0 s, zP 7 0 0 (s + 1 + i), u1, zI all, zI kept, zI (-1)] [] σ' Post) →
      zz_G X 4 p_Mill_split 44 [zP 4 p q m, zP 9 0 0 s, zP 7 0 0 (s + 1 + i), u1, zI all, zI kept, zI ((r : Int) - 1)] [] σ Post := by
  intro r
  induction r with
  | zero =>
    intro W W0 σ hr hSP hW h0 hH hmk hp k
    refine zz_gsn 1 rfl ?_
    refine zz_br rfl (fun h45 => ?_) (fun h45 => absurd h45 (by omega))
    have e : W = w_pus mk i L W0 := hW
    rw [e] at hSP
    exact k σ hSP Mc.rf
  | succ r ih =>
    intro W W0 σ hr hSP hW h0 hH hmk hp k
    have hrl : r < L.length := by omega
    have hdr : L.drop r = L[r] :: L.drop (r + 1) := List.drop_eq_getElem_cons hrl
    have hget : L[r]? = some L[r] := List.getElem?_eq_getElem hrl
    obtain ⟨b1, b2, b3, b4⟩ := w_pus_R (mk := mk) (k := i) (L.drop (r + 1)) W0
    obtain ⟨c1, c2, c3, c4⟩ := w_pus_R (mk := mk) (k := i) L W0
    have hdl : (L.drop (r + 1)).length = L.length - (r + 1) := List.length_drop
    have hn : 0 < p → W.n < p := fun z => by have := hp z; rw [c3] at this; rw [hW, b3, hdl]; omega
    have hlen : (W.R i).length < 100000 := by rw [hW, b1, hdl, h0]; show L.length - (r + 1) + 0 < _; omega
    have ez : ((r + 1 : Nat) : Int) - 1 = (r : Int) := by omega
    rw [ez]
    refine zz_gsn 1 rfl ?_
    refine zz_br rfl (fun h45 => absurd h45 (by omega)) (fun h45 => ?_)
    refine zz_gsn 5 rfl ?_
    refine zz_cv (n := 2) rfl rfl (t_Mill_laidAt) (Nat.le_of_ble_eq_true rfl) (Nat.le_of_ble_eq_true rfl) (Nat.le_of_ble_eq_true rfl) (fun r51 σ51 q51 => ?_)
    obtain ⟨rfl, n51, rfl, e51⟩ := q51
    refine zz_gsn 2 rfl ?_
    refine zz_cv (n := 4) rfl rfl (t_Cells_add) (Nat.le_of_ble_eq_true rfl) (Nat.le_of_ble_eq_true rfl) (Nat.le_of_ble_eq_true rfl) (fun r54 σ54 q54 => ?_)
    obtain ⟨rfl, q54⟩ := q54
    have hx : 0 < p → n51 = L[r] := fun z => by
      obtain ⟨y1, y2⟩ := hH z
      rcases e51 with ⟨-, -, e51⟩ | ⟨e51, -⟩
      · rw [e51, Int.toNat_natCast]
        exact y2 r _ hget
      · exact absurd ⟨by omega, by omega⟩ e51
    obtain ⟨p54, g54⟩ := sp_add (y := L[r]) hSP hi hn hpb hlen hx q54
    rw [hmk] at p54
    refine zz_gsn 1 rfl ?_
    refine zz_jp rfl ?_
    have ew : zw ((r : Int) + -1) = (r : Int) - 1 := by rw [zw_id (by omega) (by omega)]; omega
    rw [ew]
    refine ih (w_push mk i L[r] W) W0 _ (by omega) p54 (by rw [hdr, hW]; rfl) h0 (hH.mc g54) (by rw [g54.m (by omega)]; exact hmk) hp (fun σ' hS hM => k σ' hS (g54.tr hM (by rw [w_push_n]; omega)))
theorem lp_spl2 {X : zz_X} {p q m s i : Nat} {mk : Int} {L : List Int} {kept : Nat} {Post : Option zz_V → zz_M → Prop} (hi : i < 6) (hpb : p < 100000) (hqb : q < 100000) (hL : L.length < 80000) (u1 : zz_V) :
    ∀ (r : Nat) (W W0 : zz_W) (σ : zz_M), kept + r ≤ L.length → SP σ p m s W → W = w_pus mk i ((L.drop kept).take (L.length - kept - r)).reverse W0 → W0.R i = [] → Hd m p q L σ → σ.1 406 m = mk → (0 < p → (w_pus mk i (L.drop kept).reverse W0).n ≤ p) →
      (∀ σ', SP σ' p m s (w_pus mk i (L.drop kept).reverse W0) → Mc s m W.n σ σ' → zz_G X 4 p_Mill_split 73 [zP 4 p q m, zP 9 0 0 s, u1, zP 7 0 0 (s + 1 + i), zI (L.length : Nat), zI (kept : Nat), zI (L.length : Nat)] [] σ' Post) →
      zz_G X 4 p_Mill_split 59 [zP 4 p q m, zP 9 0 0 s, u1, zP 7 0 0 (s + 1 + i), zI (L.length : Nat), zI (kept : Nat), zI ((L.length - r : Nat) : Int)] [] σ Post := by
  intro r
  induction r with
  | zero =>
    intro W W0 σ hr hSP hW h0 hH hmk hp k
    refine zz_gsn 2 rfl ?_
    refine zz_br rfl (fun h61 => ?_) (fun h61 => absurd h61 (by omega))
    have e0 : (L.drop kept).take (L.length - kept - 0) = L.drop kept := List.take_of_length_le (by rw [List.length_drop]; exact Nat.le_refl _)
    rw [e0] at hW
    rw [hW] at hSP
    exact k σ hSP Mc.rf
  | succ r ih =>
    intro W W0 σ hr hSP hW h0 hH hmk hp k
    have hrl : L.length - (r + 1) < L.length := by omega
    have hget : L[L.length - (r + 1)]? = some L[L.length - (r + 1)] := List.getElem?_eq_getElem hrl
    have e1 : L.length - kept - r = (L.length - kept - (r + 1)) + 1 := by omega
    have hget2 : (L.drop kept)[L.length - kept - (r + 1)]? = some L[L.length - (r + 1)] := by
      rw [List.getElem?_drop, show kept + (L.length - kept - (r + 1)) = L.length - (r + 1) by omega]
      exact hget
    have htk : ((L.drop kept).take (L.length - kept - r)).reverse = L[L.length - (r + 1)] :: ((L.drop kept).take (L.length - kept - (r + 1))).reverse := by
      rw [e1, List.take_add_one, hget2]
      simp
    obtain ⟨b1, b2, b3, b4⟩ := w_pus_R (mk := mk) (k := i) ((L.drop kept).take (L.length - kept - (r + 1))).reverse W0
    obtain ⟨c1, c2, c3, c4⟩ := w_pus_R (mk := mk) (k := i) (L.drop kept).reverse W0
    have hdl : (((L.drop kept).take (L.length - kept - (r + 1))).reverse).length = L.length - kept - (r + 1) := by
      rw [List.length_reverse, List.length_take, List.length_drop]
      exact Nat.min_eq_left (by omega)
    have hdl2 : ((L.drop kept).reverse).length = L.length - kept := by rw [List.length_reverse, List.length_drop]
    have hn : 0 < p → W.n < p := fun z => by have := hp z; rw [c3, hdl2] at this; rw [hW, b3, hdl]; omega
    have hlen : (W.R i).length < 100000 := by rw [hW, b1, hdl, h0]; show L.length - kept - (r + 1) + 0 < _; omega
    refine zz_gsn 2 rfl ?_
    refine zz_br rfl (fun h61 => absurd h61 (by omega)) (fun h61 => ?_)
    refine zz_gsn 5 rfl ?_
    refine zz_cv (n := 2) rfl rfl (t_Mill_laidAt) (Nat.le_of_ble_eq_true rfl) (Nat.le_of_ble_eq_true rfl) (Nat.le_of_ble_eq_true rfl) (fun r67 σ67 q67 => ?_)
    obtain ⟨rfl, n67, rfl, e67⟩ := q67
    refine zz_gsn 2 rfl ?_
    refine zz_cv (n := 4) rfl rfl (t_Cells_add) (Nat.le_of_ble_eq_true rfl) (Nat.le_of_ble_eq_true rfl) (Nat.le_of_ble_eq_true rfl) (fun r70 σ70 q70 => ?_)
    obtain ⟨rfl, q70⟩ := q70
    have hx : 0 < p → n67 = L[L.length - (r + 1)] := fun z => by
      obtain ⟨y1, y2⟩ := hH z
      rcases e67 with ⟨-, -, e67⟩ | ⟨e67, -⟩
      · rw [e67, Int.toNat_natCast]
        exact y2 _ _ hget
      · exact absurd ⟨by omega, by omega⟩ e67
    obtain ⟨p70, g70⟩ := sp_add (y := L[L.length - (r + 1)]) hSP hi hn hpb hlen hx q70
    rw [hmk] at p70
    refine zz_gsn 1 rfl ?_
    refine zz_jp rfl ?_
    have ew : zw (((L.length - (r + 1) : Nat) : Int) + 1) = ((L.length - r : Nat) : Int) := by rw [zw_id (by omega) (by omega)]; omega
    rw [ew]
    refine ih (w_push mk i L[L.length - (r + 1)] W) W0 _ (by omega) p70 (by rw [htk, hW]; rfl) h0 (hH.mc g70) (by rw [g70.m (by omega)]; exact hmk) hp (fun σ' hS hM => k σ' hS (g70.tr hM (by rw [w_push_n]; omega)))
