/-! the reference: marks -/
def z_ab (A B : Nat → Bool) (c : Nat) : Int := (if A c = true then 1 else 0) + (if B c = true then 2 else 0)
theorem z_ab_1 (A B : Nat → Bool) (c : Nat) : zz_or (z_ab A B c) 1 = z_ab (zm_set A c) B c := by
  unfold z_ab
  rw [zm_set_s]
  cases A c <;> cases B c <;> decide
theorem z_ab_2 (A B : Nat → Bool) (c : Nat) : zz_or (z_ab A B c) 2 = z_ab A (zm_set B c) c := by
  unfold z_ab
  rw [zm_set_s]
  cases A c <;> cases B c <;> decide
theorem z_ab_n1 (A B : Nat → Bool) {c x : Nat} (h : x ≠ c) : z_ab (zm_set A c) B x = z_ab A B x := by
  unfold z_ab
  rw [zm_set_n A h]
theorem z_ab_n2 (A B : Nat → Bool) {c x : Nat} (h : x ≠ c) : z_ab A (zm_set B c) x = z_ab A B x := by
  unfold z_ab
  rw [zm_set_n B h]
def z_eq (f : Nat → Int) (mk : Int) (c : Nat) : Int := if f c = mk then 1 else 0
theorem z_eq_1 {mkr : Nat → Int} (A : Nat → Bool) : ∀ n : Nat, zz_sum (z_eq (z_ab A (fun _ => false)) 1) n = zm_N mkr (-1) n A
  | 0 => rfl
  | n + 1 => by
    show zz_sum (z_eq (z_ab A (fun _ => false)) 1) n + z_eq (z_ab A (fun _ => false)) 1 n = zm_N mkr (-1) n A + zm_f (zm_P mkr (-1)) A n
    rw [z_eq_1 A n]
    congr 1
    show (if z_ab A (fun _ => false) n = 1 then (1 : Int) else 0) = if (A n && (true || decide (mkr n = -1))) = true then 1 else 0
    unfold z_ab
    cases A n <;> rfl
theorem z_eq_3 {mkr : Nat → Int} (A B : Nat → Bool) : ∀ n : Nat, zz_sum (z_eq (z_ab A B) 3) n = zm_N mkr (-1) n (fun c => A c && B c)
  | 0 => rfl
  | n + 1 => by
    show zz_sum (z_eq (z_ab A B) 3) n + z_eq (z_ab A B) 3 n = zm_N mkr (-1) n (fun c => A c && B c) + zm_f (zm_P mkr (-1)) (fun c => A c && B c) n
    rw [z_eq_3 A B n]
    congr 1
    show (if z_ab A B n = 3 then (1 : Int) else 0) = if ((A n && B n) && (true || decide (mkr n = -1))) = true then 1 else 0
    unfold z_ab
    cases A n <;> cases B n <;> rfl
theorem z_eq_b (f : Nat → Int) (mk : Int) : ∀ n : Nat, 0 ≤ zz_sum (z_eq f mk) n ∧ zz_sum (z_eq f mk) n ≤ (n : Int)
  | 0 => ⟨Int.le_refl _, Int.le_refl _⟩
  | n + 1 => by
    have ih := z_eq_b f mk n
    have e : z_eq f mk n = 0 ∨ z_eq f mk n = 1 := by
      unfold z_eq
      split
      · exact Or.inr rfl
      · exact Or.inl rfl
    show 0 ≤ zz_sum (z_eq f mk) n + z_eq f mk n ∧ zz_sum (z_eq f mk) n + z_eq f mk n ≤ _
    omega
/-- the reference's marks -/
def MT (σ0 σ : zz_M) (m n : Nat) (f : Nat → Int) : Prop := zz_F (fun a => a = m + 19) σ0 σ ∧ ∀ c, c < n → σ.2 (m + 19) c = f c
theorem MT.rg {σ0 σ : zz_M} {m n : Nat} {f : Nat → Int} {G : zz_J} (h : MT σ0 σ m n f) (hG : RG σ0 m G) (ok : g_ok G) : RG σ m G ∧ zz_F (A_rf m) σ0 σ := ⟨Fr.RG hG ok ⟨fun f _ => (h.1 m (by omega)).1 f, fun a i z => (h.1 a (by unfold pa at z; omega)).2 i⟩, h.1.mono (fun a z => by unfold A_rf; omega)⟩
theorem lp_fgt {X : zz_X} {m n : Nat} {σ0 : zz_M} {Post : Option zz_V → zz_M → Prop} (hc : σ0.1 1203 m = (n : Nat)) (hn : n ≤ 20000) (kk : ∀ σ', MT σ0 σ' m n (fun _ => 0) → Post none σ') :
    ∀ (r j : Nat) (σ : zz_M), j + r = n → MT σ0 σ m j (fun _ => 0) → zz_G X 1 p_Mo_forgets 2 [zP 12 0 0 m, zI (j : Nat)] [] σ Post := by
  intro r
  induction r with
  | zero =>
    intro j σ hj hM
    obtain rfl : j = n := hj
    have c3 : σ.1 1203 m = (j : Nat) := ((hM.1 m (by omega)).1 1203).trans hc
    refine zz_gsn 3 rfl ?_
    refine zz_br rfl (fun h5 => ?_) (fun h5 => absurd h5 (by rw [c3]; omega))
    refine zz_rv rfl rfl ?_
    exact kk σ hM
  | succ r ih =>
    intro j σ hj hM
    have c3 : σ.1 1203 m = (n : Nat) := ((hM.1 m (by omega)).1 1203).trans hc
    refine zz_gsn 3 rfl ?_
    refine zz_br rfl (fun h5 => absurd h5 (by rw [c3]; omega)) (fun h5 => ?_)
    refine zz_gsn 4 rfl ?_
    refine zz_ast rfl (⟨by omega, by omega⟩) ?_
    refine zz_gsn 1 rfl ?_
    refine zz_jp rfl ?_
    rw [zw_s (by omega)]
    refine ih (j + 1) _ (by omega) ⟨hM.1.tr (zz_F.sa rfl), fun c hc2 => ?_⟩
    by_cases e : c = j
    · subst e
      exact sa_h _ _ _ _
    · exact (sa_i _ _ e).trans (hM.2 c (by omega))
theorem t_Mo_forgets {X : zz_X} {σ : zz_M} {m n : Nat} (hc : σ.1 1203 m = (n : Nat)) (hn : n ≤ 20000) : zz_T X 1 p_Mo_forgets [zP 12 0 0 m] σ (fun r σ' => r = none ∧ MT σ σ' m n (fun _ => 0)) := by
  refine zz_mk k_Mo_forgets o_Mo_forgets rfl rfl (Nat.le_of_ble_eq_true rfl) ?_
  show zz_G X 1 p_Mo_forgets 0 [zP 12 0 0 m, zU] [] σ _
  refine zz_gsn 2 rfl ?_
  exact lp_fgt hc hn (fun σ' M => ⟨rfl, M⟩) n 0 σ (Nat.zero_add n) ⟨zz_F.rf, fun c h => absurd h (Nat.not_lt_zero c)⟩
theorem lp_mk1 {X : zz_X} {m n w k : Nat} {mk : Int} {g : (Nat → Bool) → Nat → Int} {σ0 : zz_M} {A' : Nat → Bool} {Post : Option zz_V → zz_M → Prop} (hg1 : ∀ (A : Nat → Bool) (c : Nat), zz_or (g A c) mk = g (zm_set A c) c) (hg2 : ∀ (A : Nat → Bool) (c x : Nat), x ≠ c → g (zm_set A c) x = g A x) (hn : n ≤ 20000) (kk : ∀ σ', MT σ0 σ' m n (g A') → zz_G X 2 p_Mo_marks 27 [zP 12 0 0 m, zI (w : Nat), zI mk, zI (k : Nat), zI (-1)] [] σ' Post) :
    ∀ (l : List Nat) (A : Nat → Bool) (cell : Int) (σ : zz_M), (∀ x ∈ l, x < n) → zz_ch (σ0.2 (m + 2)) cell l → MT σ0 σ m n (g A) → zm_add A l = A' → zz_G X 2 p_Mo_marks 10 [zP 12 0 0 m, zI (w : Nat), zI mk, zI (k : Nat), zI cell] [] σ Post := by
  intro l
  induction l with
  | nil =>
    intro A cell σ hl hc hM hA
    have hc2 : cell = -1 := hc
    subst hc2
    have hA2 : A = A' := hA
    subst hA2
    refine zz_gsn 2 rfl ?_
    refine zz_br rfl (fun h12 => ?_) (fun h12 => absurd rfl h12)
    exact kk σ hM
  | cons c l ih =>
    intro A cell σ hl hc hM hA
    obtain ⟨hc1, hc2⟩ := hc
    subst hc1
    have hcn : c < n := hl c List.mem_cons_self
    have e2 : σ.2 (m + 2) c = σ0.2 (m + 2) c := (hM.1 (m + 2) (by omega)).2 c
    have e19 : σ.2 (m + 19) c = g A c := hM.2 c hcn
    refine zz_gsn 2 rfl ?_
    refine zz_br rfl (fun h12 => absurd h12 (by omega)) (fun h12 => ?_)
    refine zz_gsn 4 rfl ?_
    refine zz_ald rfl (⟨by omega, by omega⟩) ?_
    refine zz_gsn 2 rfl ?_
    refine zz_ast rfl (⟨by omega, by omega⟩) ?_
    refine zz_gsn 3 rfl ?_
    refine zz_ald rfl (⟨by omega, by omega⟩) ?_
    refine zz_gsn 1 rfl ?_
    refine zz_jp rfl ?_
    have ec : (zz_sa σ (m + 19) c (zz_or (σ.2 (m + 19) c) mk)).2 (m + 2) c = σ0.2 (m + 2) c := (sa_a _ _ (by omega)).trans e2
    show zz_G X 2 p_Mo_marks 10 [zP 12 0 0 m, zI (w : Nat), zI mk, zI (k : Nat), zI ((zz_sa σ (m + 19) c (zz_or (σ.2 (m + 19) c) mk)).2 (m + 2) c)] [] (zz_sa σ (m + 19) c (zz_or (σ.2 (m + 19) c) mk)) Post
    rw [ec]
    refine ih (zm_set A c) _ _ (fun x hx => hl x (List.mem_cons_of_mem _ hx)) hc2 ⟨hM.1.tr (zz_F.sa rfl), fun x hx => ?_⟩ hA
    by_cases ex : x = c
    · subst ex
      rw [sa_h, e19]
      exact hg1 A x
    · rw [sa_i _ _ ex, hM.2 x hx, hg2 A c x ex]
theorem lp_mk2 {X : zz_X} {m w : Nat} {mk : Int} {g : (Nat → Bool) → Nat → Int} {σ0 : zz_M} {W : zz_W} {A0 : Nat → Bool} {Post : Option zz_V → zz_M → Prop} (hg1 : ∀ (A : Nat → Bool) (c : Nat), zz_or (g A c) mk = g (zm_set A c) c) (hg2 : ∀ (A : Nat → Bool) (c x : Nat), x ≠ c → g (zm_set A c) x = g A x) (hP : MP σ0 m w W) (hw : w < 182) (hn : W.n ≤ 20000) (kk : ∀ σ', MT σ0 σ' m W.n (g (zm_st A0 W 6)) → Post none σ') :
    ∀ (r k : Nat) (u4 : zz_V) (σ : zz_M), k + r = 6 → MT σ0 σ m W.n (g (zm_st A0 W k)) → zz_G X 2 p_Mo_marks 2 [zP 12 0 0 m, zI (w : Nat), zI mk, zI (k : Nat), u4] [] σ Post := by
  intro r
  induction r with
  | zero =>
    intro k u4 σ hk hM
    obtain rfl : k = 6 := hk
    refine zz_gsn 2 rfl ?_
    refine zz_br rfl (fun h4 => ?_) (fun h4 => absurd h4 (by decide))
    refine zz_rv rfl rfl ?_
    exact kk σ hM
  | succ r ih =>
    intro k u4 σ hk hM
    have hk6 : k < 6 := by omega
    have e3 : σ.2 (m + 3) (12 * w + k) = σ0.2 (m + 3) (12 * w + k) := (hM.1 (m + 3) (by omega)).2 _
    refine zz_gsn 2 rfl ?_
    refine zz_br rfl (fun h4 => absurd h4 (by omega)) (fun h4 => ?_)
    refine zz_gsn 3 rfl ?_
    refine zz_cv (n := 3) rfl rfl (t_Mo_of (m := m) (s := w) (k := k) hw (by omega)) (Nat.le_of_ble_eq_true rfl) (Nat.le_of_ble_eq_true rfl) (Nat.le_of_ble_eq_true rfl) (fun r8 σ8 q8 => ?_)
    obtain ⟨rfl, rfl⟩ := q8
    rw [e3]
    refine zz_gsn 1 rfl ?_
    refine lp_mk1 (A' := zm_st A0 W (k + 1)) hg1 hg2 hn (fun σ' M => ?_) (W.R k) (zm_st A0 W k) _ σ (fun x hx => hP.2.2.2 k hk6 x hx) (hP.1 k hk6) hM rfl
    refine zz_gsn 1 rfl ?_
    refine zz_jp rfl ?_
    rw [zw_s (by omega)]
    exact ih (k + 1) _ σ' (by omega) M
theorem t_Mo_marks {X : zz_X} {σ : zz_M} {m w : Nat} {mk : Int} {g : (Nat → Bool) → Nat → Int} {W : zz_W} {A0 : Nat → Bool} (hg1 : ∀ (A : Nat → Bool) (c : Nat), zz_or (g A c) mk = g (zm_set A c) c) (hg2 : ∀ (A : Nat → Bool) (c x : Nat), x ≠ c → g (zm_set A c) x = g A x) (hP : MP σ m w W) (hw : w < 182) (hn : W.n ≤ 20000) (h0 : ∀ c, c < W.n → σ.2 (m + 19) c = g A0 c) : zz_T X 2 p_Mo_marks [zP 12 0 0 m, zI (w : Nat), zI mk] σ (fun r σ' => r = none ∧ MT σ σ' m W.n (g (zm_st A0 W 6))) := by
  refine zz_mk k_Mo_marks o_Mo_marks rfl rfl (Nat.le_of_ble_eq_true rfl) ?_
  show zz_G X 2 p_Mo_marks 0 [zP 12 0 0 m, zI (w : Nat), zI mk, zU, zU] [] σ _
  refine zz_gsn 2 rfl ?_
  exact lp_mk2 hg1 hg2 hP hw hn (fun σ' M => ⟨rfl, M⟩) 6 0 _ σ rfl ⟨zz_F.rf, h0⟩
theorem lp_mkd {X : zz_X} {m n : Nat} {mk : Int} {f : Nat → Int} {σ : zz_M} {Post : Option zz_V → zz_M → Prop} (hc : σ.1 1203 m = (n : Nat)) (hn : n ≤ 20000) (hf : ∀ c, c < n → σ.2 (m + 19) c = f c) (kk : Post (some (zI (zz_sum (z_eq f mk) n))) σ) :
    ∀ (r j : Nat), j + r = n → zz_G X 1 p_Mo_marked 4 [zP 12 0 0 m, zI mk, zI (zz_sum (z_eq f mk) j), zI (j : Nat)] [] σ Post := by
  intro r
  induction r with
  | zero =>
    intro j hj
    obtain rfl : j = n := hj
    refine zz_gsn 3 rfl ?_
    refine zz_br rfl (fun h7 => ?_) (fun h7 => absurd h7 (by rw [hc]; omega))
    refine zz_gsn 1 rfl ?_
    refine zz_ri rfl (Or.inl rfl) ?_
    exact kk
  | succ r ih =>
    intro j hj
    have hfj := hf j (by omega)
    have zb := z_eq_b f mk j
    have es : zz_sum (z_eq f mk) (j + 1) = zz_sum (z_eq f mk) j + z_eq f mk j := rfl
    have ey : f j = mk → z_eq f mk j = 1 := fun z => if_pos z
    have en : ¬ f j = mk → z_eq f mk j = 0 := fun z => if_neg z
    obtain ⟨S, hS⟩ : ∃ S, S = zz_sum (z_eq f mk) j := ⟨_, rfl⟩
    obtain ⟨e, he⟩ : ∃ e, e = z_eq f mk j := ⟨_, rfl⟩
    rw [← hS] at zb es
    rw [← he] at es ey en
    rw [← hS]
    have ih2 := ih (j + 1) (by omega)
    rw [es] at ih2
    clear ih es hS he
    refine zz_gsn 3 rfl ?_
    refine zz_br rfl (fun h7 => absurd h7 (by rw [hc]; omega)) (fun h7 => ?_)
    refine zz_gsn 4 rfl ?_
    refine zz_ald rfl (⟨by omega, by omega⟩) ?_
    refine zz_gsn 1 rfl ?_
    refine zz_br rfl (fun h14 => ?_) (fun h14 => ?_)
    · refine zz_gsn 4 rfl ?_
      refine zz_jp rfl ?_
      rw [zw_s (by omega), show zw (S + 0) = S + e from by rw [en (fun z => h14 (hfj.trans z)), zw_id (by omega) (by omega)]]
      exact ih2
    · refine zz_gsn 1 rfl ?_
      refine zz_jp rfl ?_
      refine zz_gsn 3 rfl ?_
      refine zz_jp rfl ?_
      rw [zw_s (by omega), show zw (S + 1) = S + e from by rw [ey (hfj.symm.trans (by first | exact h14 | exact Decidable.not_not.mp h14)), zw_id (by omega) (by omega)]]
      exact ih2
theorem t_Mo_marked {X : zz_X} {σ : zz_M} {m n : Nat} {mk : Int} {f : Nat → Int} (hc : σ.1 1203 m = (n : Nat)) (hn : n ≤ 20000) (hf : ∀ c, c < n → σ.2 (m + 19) c = f c) : zz_T X 1 p_Mo_marked [zP 12 0 0 m, zI mk] σ (fun r σ' => σ = σ' ∧ r = some (zI (zz_sum (z_eq f mk) n))) := by
  refine zz_mk k_Mo_marked o_Mo_marked rfl rfl (Nat.le_of_ble_eq_true rfl) ?_
  show zz_G X 1 p_Mo_marked 0 [zP 12 0 0 m, zI mk, zU, zU] [] σ _
  refine zz_gsn 4 rfl ?_
  exact lp_mkd hc hn hf ⟨rfl, rfl⟩ n 0 (Nat.zero_add n)
