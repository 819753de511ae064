/-! the class: all rows of some deeds -/
def s_r0 : zc_R := (0, 0, 0, fun _ => 0, fun _ => 0)
theorem s_few_c {f g : Nat → Int} {v : Int} : ∀ (r j : Nat), (∀ i, i < j + r → f i = g i) → s_few f v r j = s_few g v r j
  | 0, _, _ => rfl
  | r + 1, j, h => by
    show (if v ≤ f j then _ else s_few f v r (j + 1)) = if v ≤ g j then _ else s_few g v r (j + 1)
    rw [h j (by omega), s_few_c r (j + 1) (fun i hi => h i (by omega))]
theorem lp_lv0 {X : zz_X} {s d s2 : Nat} {nn : Int} {σ0 : zz_M} {Post : Option zz_V → zz_M → Prop} (kk : ∀ (σ' : zz_M) (u : zz_V), (∀ i, i < 6 → σ'.2 (s + 3) i = 0) → zz_F (fun a => a = s + 3) σ0 σ' → zz_G X 14 p_Scout_tryAll 39 [zP 8 0 0 s, zP 2 0 0 d, zP 9 0 0 s2, zI nn, u] [] σ' Post) :
    ∀ (r k : Nat) (σ : zz_M), k + r = 6 → (∀ i, i < k → σ.2 (s + 3) i = 0) → zz_F (fun a => a = s + 3) σ0 σ → zz_G X 14 p_Scout_tryAll 29 [zP 8 0 0 s, zP 2 0 0 d, zP 9 0 0 s2, zI nn, zI (k : Nat)] [] σ Post := by
  intro r
  induction r with
  | zero =>
    intro k σ hk hw hF
    obtain rfl : k = 6 := hk
    refine zz_gsn 2 rfl ?_
    refine zz_br rfl (fun h31 => ?_) (fun h31 => absurd h31 (by decide))
    exact kk σ _ hw hF
  | succ r ih =>
    intro k σ hk hw hF
    have hk6 : k < 6 := by omega
    refine zz_gsn 2 rfl ?_
    refine zz_br rfl (fun h31 => absurd h31 (by omega)) (fun h31 => ?_)
    refine zz_gsn 4 rfl ?_
    refine zz_ast rfl (⟨by omega, by omega⟩) ?_
    refine zz_gsn 1 rfl ?_
    refine zz_jp rfl ?_
    rw [zw_s (by omega)]
    refine ih (k + 1) _ (by omega) (fun i hi => ?_) (hF.tr (zz_F.sa rfl))
    by_cases ei : i = k
    · subst ei
      exact sa_h _ _ _ _
    · exact (sa_i _ _ (fun z => ei z)).trans (hw i (by omega))
theorem t_Scout_tryAll {X : zz_X} {σ : zz_M} {s d s2 n m p B0 : Nat} {W : zz_W} (hn : n ≤ 6) (hS : SP σ p m s2 W) (hs : s2 + 7 ≤ s ∨ s + 61 ≤ s2) (hd : d < s ∨ s + 61 ≤ d) (hI : IV (σ.1 201 d) B0 W) (hB : B0 ≤ 60) (hC : 2 ≤ σ.1 202 d ∧ σ.1 202 d ≤ 4) : zz_T X 14 p_Scout_tryAll [zP 8 0 0 s, zP 2 0 0 d, zP 9 0 0 s2, zI (n : Nat)] σ (fun r σ' => r = none ∧ SN σ' s n (s_go (σ.1 201 d) (σ.1 202 d) n 0 W 0 (fun _ => 0) s_r0) ∧ zz_F (fun a => s ≤ a ∧ a ≤ s + 60) σ σ') := by
  refine zz_mk k_Scout_tryAll o_Scout_tryAll rfl rfl (Nat.le_of_ble_eq_true rfl) ?_
  show zz_G X 14 p_Scout_tryAll 0 [zP 8 0 0 s, zP 2 0 0 d, zP 9 0 0 s2, zI (n : Nat), zU] [] σ _
  refine zz_gsn 6 rfl ?_
  refine zz_cv (n := 3) rfl rfl (t_Mill_obey) (Nat.le_of_ble_eq_true rfl) (Nat.le_of_ble_eq_true rfl) (Nat.le_of_ble_eq_true rfl) (fun r6 σ6 q6 => ?_)
  obtain ⟨rfl, h6⟩ := q6
  refine zz_gsn 3 rfl ?_
  refine zz_aad rfl (⟨by omega, by omega⟩) ?_
  refine zz_gsn 1 rfl ?_
  refine zz_cv (n := 2) rfl rfl (t_State_become (s := s + 12 + 7 * 0) (t := s2) (by unfold zz_dj; omega)) (Nat.le_of_ble_eq_true rfl) (Nat.le_of_ble_eq_true rfl) (Nat.le_of_ble_eq_true rfl) (fun r12 σ12 q12 => ?_)
  obtain ⟨rfl, p12, g12⟩ := q12
  refine zz_gsn 3 rfl ?_
  refine zz_mth rfl (Nat.le_of_ble_eq_true rfl) (Nat.le_of_ble_eq_true rfl) ?_
  refine zz_gsn 12 rfl ?_
  obtain ⟨law, hlaw⟩ : ∃ l, l = σ.1 201 d := ⟨_, rfl⟩
  obtain ⟨C, hCe⟩ : ∃ l, l = σ.1 202 d := ⟨_, rfl⟩
  rw [← hlaw] at hI
  rw [← hCe] at hC
  rw [← hlaw, ← hCe]
  have S6 : SP σ6 0 0 s2 W := (hS.z (m' := 0)).f (A := fun a => a = s + 4) (by rw [h6]; exact (zz_F.sf (A := fun a => a = s + 4) rfl).tr (zz_F.sf rfl)) (fun a y1 y2 z => by omega) (fun z => absurd z (Nat.lt_irrefl 0))
  have S12 : SP σ12 0 (s + 4) (s + 12 + 7 * 0) W := p12 0 (s + 4) W (fun z => absurd z (Nat.lt_irrefl 0)) (S6.z (m' := s + 4))
  have a4 : σ12.1 404 (s + 4) = law := by rw [(g12.F (s + 4) (by omega)).1, h6, sf_f _ _ (by decide), sf_h, hlaw]
  have a5 : σ12.1 405 (s + 4) = C := by rw [(g12.F (s + 4) (by omega)).1, h6, sf_h, hCe]
  obtain ⟨σ7, h7⟩ : ∃ x, x = zz_sf (zz_sf (zz_sf (zz_sf σ12 803 s (n : Nat)) 800 s 0) 801 s 0) 802 s 0 := ⟨_, rfl⟩
  refine zz_sge (σ' := σ7) (by rw [h7, show min ((n : Nat) : Int) 6 = ((n : Nat) : Int) from by omega]) ?_
  have F7 : zz_F (fun a => a = s) σ12 σ7 := by
    rw [h7]
    exact (((zz_F.sf (A := fun a => a = s) rfl).tr (zz_F.sf rfl)).tr (zz_F.sf rfl)).tr (zz_F.sf rfl)
  have b0 : σ7.1 800 s = 0 := by rw [h7, sf_f _ _ (by decide), sf_f _ _ (by decide), sf_h]
  have b1 : σ7.1 801 s = 0 := by rw [h7, sf_f _ _ (by decide), sf_h]
  have b2 : σ7.1 802 s = 0 := by rw [h7, sf_h]
  have b3 : σ7.1 803 s = (n : Nat) := by rw [h7, sf_f _ _ (by decide), sf_f _ _ (by decide), sf_f _ _ (by decide), sf_h]
  have F6 : zz_F (fun a => s ≤ a ∧ a ≤ s + 60) σ σ7 := by
    refine zz_F.tr (σ1 := σ6) ?_ ((g12.F.mono (fun a z => by omega)).tr (F7.mono (fun a z => by omega)))
    rw [h6]
    exact (zz_F.sf (by omega)).tr (zz_F.sf (by omega))
  refine lp_lv0 (σ0 := σ7) (fun σL u hl F => ?_) 6 0 σ7 rfl (fun i hi => absurd hi (Nat.not_lt_zero i)) zz_F.rf
  have hpow : ((2 ^ n : Nat) : Int) ≤ 64 := by
    have z : n = 0 ∨ n = 1 ∨ n = 2 ∨ n = 3 ∨ n = 4 ∨ n = 5 ∨ n = 6 := by omega
    rcases z with z | z | z | z | z | z | z <;> subst z <;> decide
  have N0 : SN σL s n s_r0 := ⟨⟨((F s (by omega)).1 800).trans b0, ((F s (by omega)).1 801).trans b1, ((F s (by omega)).1 802).trans b2, ((F s (by omega)).1 803).trans b3⟩, fun z => absurd z (Int.lt_irrefl 0), fun i hi => hl i hi⟩
  have PL : PS σL s n law C B0 n 0 W 0 (fun _ => 0) s_r0 := ⟨((F (s + 4) (by omega)).1 404).trans (((F7 (s + 4) (by omega)).1 404).trans a4), ((F (s + 4) (by omega)).1 405).trans (((F7 (s + 4) (by omega)).1 405).trans a5), (S12.f F7 (fun a y1 y2 z => by omega) (fun z => absurd z (Nat.lt_irrefl 0))).f F (fun a y1 y2 z => by omega) (fun z => absurd z (Nat.lt_irrefl 0)), hI, ⟨Int.le_refl _, by omega⟩, ⟨Int.le_refl _, by show (0 : Int) + _ ≤ 1000; omega⟩, N0, fun i hi => absurd hi (Nat.not_lt_zero i)⟩
  refine zz_gsn 3 rfl ?_
  refine zz_cs (n := 3) rfl rfl (t_Scout_tryFrom (n := n) (B0 := B0) hC hB hn n 0 W 0 (fun _ => 0) s_r0 σL (Nat.zero_add n) PL) (by omega) (Nat.le_of_ble_eq_true rfl) (Nat.le_of_ble_eq_true rfl) (fun r42 σ42 q42 => ?_)
  obtain ⟨rfl, w4, w5, wN, wt, wF⟩ := q42
  refine zz_rv rfl rfl ?_
  exact ⟨rfl, wN, F6.tr ((F.mono (fun a z => by omega)).tr (wF.mono (fun a z => by unfold A_sj at z; omega)))⟩
