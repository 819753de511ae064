/-! the reference: twin -/
theorem lp_rrows {X : zz_X} {m : Nat} {u1 u2 u3 : Int} {num num' : Nat → Int} {σ : zz_M} {Post : Option zz_V → zz_M → Prop} :
    ∀ (R R' : List Nat) (a b : Int), zz_ch (σ.2 (m + 2)) a R → zz_ch (σ.2 (m + 2)) b R' → (∀ c ∈ R, c < 20000 ∧ σ.2 (m + 1) c = num c) → (∀ c ∈ R', c < 20000 ∧ σ.2 (m + 1) c = num' c) → (R.map num = R'.map num' → Post (some (zI 1)) σ) → (R.map num ≠ R'.map num' → Post (some (zI 0)) σ) → zz_G X 2 p_Mo_areLikeRows 10 [zP 12 0 0 m, zI u1, zI u2, zI u3, zI a, zI b] [] σ Post := by
  intro R
  induction R with
  | nil =>
    intro R' a b ha hb hR hR' k1 k0
    have ha1 : a = -1 := ha
    cases R' with
    | nil =>
      have hb1 : b = -1 := hb
      refine zz_gsn 2 rfl ?_
      refine zz_br rfl (fun h12 => ?_) (fun h12 => absurd ha1 h12)
      refine zz_gsn 2 rfl ?_
      refine zz_br rfl (fun h38 => absurd ha1 h38) (fun h38 => ?_)
      refine zz_gsn 2 rfl ?_
      refine zz_br rfl (fun h41 => absurd hb1 h41) (fun h41 => ?_)
      refine zz_gsn 1 rfl ?_
      refine zz_jp rfl ?_
      refine zz_ri rfl (Or.inr ⟨rfl, by first | exact Or.inl rfl | exact Or.inr rfl | omega⟩) ?_
      exact k1 rfl
    | cons d R' =>
      have hb1 : b ≠ -1 := by
        rw [hb.1]
        omega
      refine zz_gsn 2 rfl ?_
      refine zz_br rfl (fun h12 => ?_) (fun h12 => absurd ha1 h12)
      refine zz_gsn 2 rfl ?_
      refine zz_br rfl (fun h38 => absurd ha1 h38) (fun h38 => ?_)
      refine zz_gsn 2 rfl ?_
      refine zz_br rfl (fun h41 => ?_) (fun h41 => absurd (by first | exact h41 | exact Decidable.not_not.mp h41) hb1)
      refine zz_gsn 1 rfl ?_
      refine zz_ri rfl (Or.inr ⟨rfl, by first | exact Or.inl rfl | exact Or.inr rfl | omega⟩) ?_
      exact k0 (fun z => absurd z.symm (List.cons_ne_nil _ _))
  | cons c R ih =>
    intro R' a b ha hb hR hR' k1 k0
    obtain ⟨a1, a2⟩ := ha
    have ha1 : a ≠ -1 := by
      rw [a1]
      omega
    cases R' with
    | nil =>
      have hb1 : b = -1 := hb
      refine zz_gsn 2 rfl ?_
      refine zz_br rfl (fun h12 => absurd h12 ha1) (fun h12 => ?_)
      refine zz_gsn 2 rfl ?_
      refine zz_br rfl (fun h15 => ?_) (fun h15 => absurd hb1 h15)
      refine zz_gsn 2 rfl ?_
      refine zz_br rfl (fun h38 => ?_) (fun h38 => absurd (by first | exact h38 | exact Decidable.not_not.mp h38) ha1)
      refine zz_gsn 1 rfl ?_
      refine zz_ri rfl (Or.inr ⟨rfl, by first | exact Or.inl rfl | exact Or.inr rfl | omega⟩) ?_
      exact k0 (fun z => absurd z (List.cons_ne_nil _ _))
    | cons d R' =>
      obtain ⟨b1, b2⟩ := hb
      have hb1 : b ≠ -1 := by
        rw [b1]
        omega
      obtain ⟨c1, c2⟩ := hR c List.mem_cons_self
      obtain ⟨d1, d2⟩ := hR' d List.mem_cons_self
      subst a1
      subst b1
      have o1 : 0 ≤ ((c : Nat) : Int) ∧ ((c : Nat) : Int) < 20000 := ⟨by omega, by omega⟩
      have o2 : 0 ≤ ((d : Nat) : Int) ∧ ((d : Nat) : Int) < 20000 := ⟨by omega, by omega⟩
      refine zz_gsn 2 rfl ?_
      refine zz_br rfl (fun h12 => absurd h12 ha1) (fun h12 => ?_)
      refine zz_gsn 2 rfl ?_
      refine zz_br rfl (fun h15 => absurd h15 hb1) (fun h15 => ?_)
      refine zz_gsn 3 rfl ?_
      refine zz_ald rfl (o1) ?_
      rw [show σ.2 (m + 1) ((c : Nat) : Int).toNat = num c from c2]
      refine zz_gsn 3 rfl ?_
      refine zz_ald rfl (o2) ?_
      rw [show σ.2 (m + 1) ((d : Nat) : Int).toNat = num' d from d2]
      refine zz_br rfl (fun h24 => ?_) (fun h24 => ?_)
      · refine zz_gsn 2 rfl ?_
        refine zz_br rfl (fun h38 => ?_) (fun h38 => absurd (by first | exact h38 | exact Decidable.not_not.mp h38) ha1)
        refine zz_gsn 1 rfl ?_
        refine zz_ri rfl (Or.inr ⟨rfl, by first | exact Or.inl rfl | exact Or.inr rfl | omega⟩) ?_
        refine k0 (fun z => h24 ?_)
        have z2 : num c :: R.map num = num' d :: R'.map num' := z
        injection z2
      · refine zz_gsn 3 rfl ?_
        refine zz_ald rfl (o1) ?_
        refine zz_gsn 4 rfl ?_
        refine zz_ald rfl (o2) ?_
        refine zz_gsn 1 rfl ?_
        refine zz_jp rfl ?_
        refine ih R' _ _ a2 b2 (fun x hx => hR x (List.mem_cons_of_mem _ hx)) (fun x hx => hR' x (List.mem_cons_of_mem _ hx)) (fun z => k1 ?_) (fun z => k0 (fun y => z ?_))
        · show num c :: R.map num = num' d :: R'.map num'
          rw [z, show num c = num' d from (by first | exact h24 | exact Decidable.not_not.mp h24)]
        · have y2 : num c :: R.map num = num' d :: R'.map num' := y
          injection y2
theorem t_Mo_areLikeRows {X : zz_X} {σ : zz_M} {m v w k : Nat} {W W' : zz_W} (hP : MP σ m v W) (hP' : MP σ m w W') (hv : v < 182) (hw : w < 182) (hk : k < 6) (hn : W.n ≤ 20000) (hn' : W'.n ≤ 20000) : zz_T X 2 p_Mo_areLikeRows [zP 12 0 0 m, zI (v : Nat), zI (w : Nat), zI (k : Nat)] σ (fun r σ' => σ = σ' ∧ ∃ n : Int, r = some (zI n) ∧ ((n = 1 ∧ rl W k = rl W' k) ∨ (n = 0 ∧ rl W k ≠ rl W' k))) := by
  refine zz_mk k_Mo_areLikeRows o_Mo_areLikeRows rfl rfl (Nat.le_of_ble_eq_true rfl) ?_
  show zz_G X 2 p_Mo_areLikeRows 0 [zP 12 0 0 m, zI (v : Nat), zI (w : Nat), zI (k : Nat), zU, zU] [] σ _
  refine zz_gsn 3 rfl ?_
  refine zz_cv (n := 3) rfl rfl (t_Mo_of (s := v) (k := k) hv (Nat.lt_trans hk (by decide))) (Nat.le_of_ble_eq_true rfl) (Nat.le_of_ble_eq_true rfl) (Nat.le_of_ble_eq_true rfl) (fun r3 σ3 q3 => ?_)
  obtain ⟨rfl, rfl⟩ := q3
  refine zz_gsn 4 rfl ?_
  refine zz_cv (n := 3) rfl rfl (t_Mo_of (s := w) (k := k) hw (Nat.lt_trans hk (by decide))) (Nat.le_of_ble_eq_true rfl) (Nat.le_of_ble_eq_true rfl) (Nat.le_of_ble_eq_true rfl) (fun r8 σ8 q8 => ?_)
  obtain ⟨rfl, rfl⟩ := q8
  refine zz_gsn 1 rfl ?_
  have hR : ∀ c ∈ W.R k, c < 20000 ∧ σ.2 (m + 1) c = W.num c := fun c hc => ⟨Nat.lt_of_lt_of_le (hP.2.2.2 k hk c hc) hn, hP.2.2.1.2 c (hP.2.2.2 k hk c hc)⟩
  have hR' : ∀ c ∈ W'.R k, c < 20000 ∧ σ.2 (m + 1) c = W'.num c := fun c hc => ⟨Nat.lt_of_lt_of_le (hP'.2.2.2 k hk c hc) hn', hP'.2.2.1.2 c (hP'.2.2.2 k hk c hc)⟩
  exact lp_rrows (W.R k) (W'.R k) _ _ (hP.1 k hk) (hP'.1 k hk) hR hR' (fun z => ⟨rfl, 1, rfl, Or.inl ⟨rfl, z⟩⟩) (fun z => ⟨rfl, 0, rfl, Or.inr ⟨rfl, z⟩⟩)
theorem t_Mo_areTwins {X : zz_X} {σ : zz_M} {m v w : Nat} {W W' : zz_W} (hP : MP σ m v W) (hP' : MP σ m w W') (hv : v < 182) (hw : w < 182) (hn : W.n ≤ 20000) (hn' : W'.n ≤ 20000) : zz_T X 3 p_Mo_areTwins [zP 12 0 0 m, zI (v : Nat), zI (w : Nat)] σ (fun r σ' => σ = σ' ∧ ∃ n : Int, r = some (zI n) ∧ ((n = 1 ∧ TWN W W') ∨ (n = 0 ∧ ¬ TWN W W'))) := by
  refine zz_mk k_Mo_areTwins o_Mo_areTwins rfl rfl (Nat.le_of_ble_eq_true rfl) ?_
  show zz_G X 3 p_Mo_areTwins 0 [zP 12 0 0 m, zI (v : Nat), zI (w : Nat), zU, zU] [] σ _
  refine zz_gsn 3 rfl ?_
  refine zz_cv (n := 3) rfl rfl (t_Mo_of (s := v) (k := 7) hv (by decide)) (Nat.le_of_ble_eq_true rfl) (Nat.le_of_ble_eq_true rfl) (Nat.le_of_ble_eq_true rfl) (fun r3 σ3 q3 => ?_)
  obtain ⟨rfl, rfl⟩ := q3
  rw [show σ.2 (m + 3) (12 * v + 7) = W.S 7 from hP.2.1 7 (by decide) (by decide)]
  refine zz_gsn 5 rfl ?_
  refine zz_cv (n := 4) rfl rfl (t_Mo_areLikeRows (v := v) (w := w) (k := 0) hP hP' hv hw (by decide) hn hn') (Nat.le_of_ble_eq_true rfl) (Nat.le_of_ble_eq_true rfl) (Nat.le_of_ble_eq_true rfl) (fun r9 σ9 q9 => ?_)
  obtain ⟨rfl, n9, rfl, e9⟩ := q9
  refine zz_br rfl (fun h10 => ?_) (fun h10 => ?_)
  · refine zz_gsn 3 rfl ?_
    refine zz_br rfl (fun h46 => ?_) (fun h46 => absurd rfl h46)
    refine zz_gsn 1 rfl ?_
    refine zz_ri rfl (Or.inr ⟨rfl, by first | exact Or.inl rfl | exact Or.inr rfl | omega⟩) ?_
    exact ⟨rfl, 0, rfl, Or.inr ⟨rfl, fun t => (e9.elim (fun z => absurd (z.1.symm.trans h10) (by decide)) (fun z => z.2)) t.1⟩⟩
  · refine zz_gsn 4 rfl ?_
    refine zz_cv (n := 4) rfl rfl (t_Mo_areLikeRows (v := v) (w := w) (k := 1) hP hP' hv hw (by decide) hn hn') (Nat.le_of_ble_eq_true rfl) (Nat.le_of_ble_eq_true rfl) (Nat.le_of_ble_eq_true rfl) (fun r15 σ15 q15 => ?_)
    obtain ⟨rfl, n15, rfl, e15⟩ := q15
    refine zz_br rfl (fun h16 => ?_) (fun h16 => ?_)
    · refine zz_gsn 3 rfl ?_
      refine zz_br rfl (fun h46 => ?_) (fun h46 => absurd rfl h46)
      refine zz_gsn 1 rfl ?_
      refine zz_ri rfl (Or.inr ⟨rfl, by first | exact Or.inl rfl | exact Or.inr rfl | omega⟩) ?_
      exact ⟨rfl, 0, rfl, Or.inr ⟨rfl, fun t => (e15.elim (fun z => absurd (z.1.symm.trans h16) (by decide)) (fun z => z.2)) t.2.1⟩⟩
    · refine zz_gsn 4 rfl ?_
      refine zz_cv (n := 3) rfl rfl (t_Mo_of (s := w) (k := 7) hw (by decide)) (Nat.le_of_ble_eq_true rfl) (Nat.le_of_ble_eq_true rfl) (Nat.le_of_ble_eq_true rfl) (fun r21 σ21 q21 => ?_)
      obtain ⟨rfl, rfl⟩ := q21
      rw [show σ.2 (m + 3) (12 * w + 7) = W'.S 7 from hP'.2.1 7 (by decide) (by decide)]
      refine zz_br rfl (fun h22 => ?_) (fun h22 => ?_)
      · refine zz_gsn 3 rfl ?_
        refine zz_br rfl (fun h46 => ?_) (fun h46 => absurd rfl h46)
        refine zz_gsn 1 rfl ?_
        refine zz_ri rfl (Or.inr ⟨rfl, by first | exact Or.inl rfl | exact Or.inr rfl | omega⟩) ?_
        exact ⟨rfl, 0, rfl, Or.inr ⟨rfl, fun t => h22 t.2.2.1⟩⟩
      · refine zz_gsn 3 rfl ?_
        refine zz_cv (n := 3) rfl rfl (t_Mo_of (s := v) (k := 9) hv (by decide)) (Nat.le_of_ble_eq_true rfl) (Nat.le_of_ble_eq_true rfl) (Nat.le_of_ble_eq_true rfl) (fun r26 σ26 q26 => ?_)
        obtain ⟨rfl, rfl⟩ := q26
        rw [show σ.2 (m + 3) (12 * v + 9) = W.S 9 from hP.2.1 9 (by decide) (by decide)]
        refine zz_gsn 3 rfl ?_
        refine zz_cv (n := 3) rfl rfl (t_Mo_of (s := w) (k := 9) hw (by decide)) (Nat.le_of_ble_eq_true rfl) (Nat.le_of_ble_eq_true rfl) (Nat.le_of_ble_eq_true rfl) (fun r30 σ30 q30 => ?_)
        obtain ⟨rfl, rfl⟩ := q30
        rw [show σ.2 (m + 3) (12 * w + 9) = W'.S 9 from hP'.2.1 9 (by decide) (by decide)]
        refine zz_br rfl (fun h31 => ?_) (fun h31 => ?_)
        · refine zz_gsn 3 rfl ?_
          refine zz_br rfl (fun h46 => ?_) (fun h46 => absurd rfl h46)
          refine zz_gsn 1 rfl ?_
          refine zz_ri rfl (Or.inr ⟨rfl, by first | exact Or.inl rfl | exact Or.inr rfl | omega⟩) ?_
          exact ⟨rfl, 0, rfl, Or.inr ⟨rfl, fun t => h31 t.2.2.2.1⟩⟩
        · refine zz_gsn 3 rfl ?_
          refine zz_cv (n := 3) rfl rfl (t_Mo_of (s := v) (k := 10) hv (by decide)) (Nat.le_of_ble_eq_true rfl) (Nat.le_of_ble_eq_true rfl) (Nat.le_of_ble_eq_true rfl) (fun r35 σ35 q35 => ?_)
          obtain ⟨rfl, rfl⟩ := q35
          rw [show σ.2 (m + 3) (12 * v + 10) = W.S 10 from hP.2.1 10 (by decide) (by decide)]
          refine zz_gsn 3 rfl ?_
          refine zz_cv (n := 3) rfl rfl (t_Mo_of (s := w) (k := 10) hw (by decide)) (Nat.le_of_ble_eq_true rfl) (Nat.le_of_ble_eq_true rfl) (Nat.le_of_ble_eq_true rfl) (fun r39 σ39 q39 => ?_)
          obtain ⟨rfl, rfl⟩ := q39
          rw [show σ.2 (m + 3) (12 * w + 10) = W'.S 10 from hP'.2.1 10 (by decide) (by decide)]
          refine zz_br rfl (fun h40 => ?_) (fun h40 => ?_)
          · refine zz_gsn 3 rfl ?_
            refine zz_br rfl (fun h46 => ?_) (fun h46 => absurd rfl h46)
            refine zz_gsn 1 rfl ?_
            refine zz_ri rfl (Or.inr ⟨rfl, by first | exact Or.inl rfl | exact Or.inr rfl | omega⟩) ?_
            exact ⟨rfl, 0, rfl, Or.inr ⟨rfl, fun t => h40 t.2.2.2.2.1⟩⟩
          · refine zz_gsn 1 rfl ?_
            refine zz_jp rfl ?_
            refine zz_gsn 2 rfl ?_
            refine zz_br rfl (fun h46 => absurd h46 (by decide)) (fun h46 => ?_)
            refine zz_gsn 1 rfl ?_
            refine zz_br rfl (fun h48 => ?_) (fun h48 => ?_)
            · refine zz_gsn 3 rfl ?_
              refine zz_cv (n := 3) rfl rfl (t_Mo_of (s := v) (k := 8) hv (by decide)) (Nat.le_of_ble_eq_true rfl) (Nat.le_of_ble_eq_true rfl) (Nat.le_of_ble_eq_true rfl) (fun r54 σ54 q54 => ?_)
              obtain ⟨rfl, rfl⟩ := q54
              rw [show σ.2 (m + 3) (12 * v + 8) = W.S 8 from hP.2.1 8 (by decide) (by decide)]
              refine zz_gsn 3 rfl ?_
              refine zz_cv (n := 3) rfl rfl (t_Mo_of (s := w) (k := 8) hw (by decide)) (Nat.le_of_ble_eq_true rfl) (Nat.le_of_ble_eq_true rfl) (Nat.le_of_ble_eq_true rfl) (fun r58 σ58 q58 => ?_)
              obtain ⟨rfl, rfl⟩ := q58
              rw [show σ.2 (m + 3) (12 * w + 8) = W'.S 8 from hP'.2.1 8 (by decide) (by decide)]
              refine zz_br rfl (fun h59 => ?_) (fun h59 => ?_)
              · refine zz_gsn 3 rfl ?_
                refine zz_br rfl (fun h77 => ?_) (fun h77 => absurd rfl h77)
                refine zz_gsn 1 rfl ?_
                refine zz_ri rfl (Or.inr ⟨rfl, by first | exact Or.inl rfl | exact Or.inr rfl | omega⟩) ?_
                exact ⟨rfl, 0, rfl, Or.inr ⟨rfl, fun t => t.2.2.2.2.2.elim (fun z => h48 z) (fun z => h59 z.1)⟩⟩
              · refine zz_gsn 4 rfl ?_
                refine zz_cv (n := 4) rfl rfl (t_Mo_areLikeRows (v := v) (w := w) (k := 3) hP hP' hv hw (by decide) hn hn') (Nat.le_of_ble_eq_true rfl) (Nat.le_of_ble_eq_true rfl) (Nat.le_of_ble_eq_true rfl) (fun r64 σ64 q64 => ?_)
                obtain ⟨rfl, n64, rfl, e64⟩ := q64
                refine zz_br rfl (fun h65 => ?_) (fun h65 => ?_)
                · refine zz_gsn 3 rfl ?_
                  refine zz_br rfl (fun h77 => ?_) (fun h77 => absurd rfl h77)
                  refine zz_gsn 1 rfl ?_
                  refine zz_ri rfl (Or.inr ⟨rfl, by first | exact Or.inl rfl | exact Or.inr rfl | omega⟩) ?_
                  exact ⟨rfl, 0, rfl, Or.inr ⟨rfl, fun t => t.2.2.2.2.2.elim (fun z => h48 z) (fun z => (e64.elim (fun z => absurd (z.1.symm.trans h65) (by decide)) (fun z => z.2)) z.2.1)⟩⟩
                · refine zz_gsn 4 rfl ?_
                  refine zz_cv (n := 4) rfl rfl (t_Mo_areLikeRows (v := v) (w := w) (k := 5) hP hP' hv hw (by decide) hn hn') (Nat.le_of_ble_eq_true rfl) (Nat.le_of_ble_eq_true rfl) (Nat.le_of_ble_eq_true rfl) (fun r70 σ70 q70 => ?_)
                  obtain ⟨rfl, n70, rfl, e70⟩ := q70
                  refine zz_br rfl (fun h71 => ?_) (fun h71 => ?_)
                  · refine zz_gsn 3 rfl ?_
                    refine zz_br rfl (fun h77 => ?_) (fun h77 => absurd rfl h77)
                    refine zz_gsn 1 rfl ?_
                    refine zz_ri rfl (Or.inr ⟨rfl, by first | exact Or.inl rfl | exact Or.inr rfl | omega⟩) ?_
                    exact ⟨rfl, 0, rfl, Or.inr ⟨rfl, fun t => t.2.2.2.2.2.elim (fun z => h48 z) (fun z => (e70.elim (fun z => absurd (z.1.symm.trans h71) (by decide)) (fun z => z.2)) z.2.2.1)⟩⟩
                  · refine zz_gsn 1 rfl ?_
                    refine zz_jp rfl ?_
                    refine zz_gsn 2 rfl ?_
                    refine zz_br rfl (fun h77 => absurd h77 (by decide)) (fun h77 => ?_)
                    refine zz_gsn 2 rfl ?_
                    refine zz_br rfl (fun h80 => ?_) (fun h80 => ?_)
                    · refine zz_gsn 1 rfl ?_
                      refine zz_jp rfl ?_
                      refine zz_ri rfl (Or.inr ⟨rfl, by first | exact Or.inl rfl | exact Or.inr rfl | omega⟩) ?_
                      exact ⟨rfl, 1, rfl, Or.inl ⟨rfl, ⟨(e9.elim (fun z => z.2) (fun z => absurd z.1 h10)), (e15.elim (fun z => z.2) (fun z => absurd z.1 h16)), (by first | exact h22 | exact Decidable.not_not.mp h22), (by first | exact h31 | exact Decidable.not_not.mp h31), (by first | exact h40 | exact Decidable.not_not.mp h40), Or.inr ⟨(by first | exact h59 | exact Decidable.not_not.mp h59), (e64.elim (fun z => z.2) (fun z => absurd z.1 h65)), (e70.elim (fun z => z.2) (fun z => absurd z.1 h71)), Or.inl (by first | exact h80 | exact Decidable.not_not.mp h80)⟩⟩⟩⟩
                    · refine zz_gsn 4 rfl ?_
                      refine zz_cv (n := 4) rfl rfl (t_Mo_areLikeRows (v := v) (w := w) (k := 2) hP hP' hv hw (by decide) hn hn') (Nat.le_of_ble_eq_true rfl) (Nat.le_of_ble_eq_true rfl) (Nat.le_of_ble_eq_true rfl) (fun r85 σ85 q85 => ?_)
                      obtain ⟨rfl, n85, rfl, e85⟩ := q85
                      refine zz_br rfl (fun h86 => ?_) (fun h86 => ?_)
                      · refine zz_gsn 1 rfl ?_
                        refine zz_ri rfl (Or.inr ⟨rfl, by first | exact Or.inl rfl | exact Or.inr rfl | omega⟩) ?_
                        exact ⟨rfl, 0, rfl, Or.inr ⟨rfl, fun t => t.2.2.2.2.2.elim (fun z => h48 z) (fun z => z.2.2.2.elim (fun y => h80 y) (fun y => (e85.elim (fun z => absurd (z.1.symm.trans h86) (by decide)) (fun z => z.2)) y.1))⟩⟩
                      · refine zz_gsn 4 rfl ?_
                        refine zz_cv (n := 4) rfl rfl (t_Mo_areLikeRows (v := v) (w := w) (k := 4) hP hP' hv hw (by decide) hn hn') (Nat.le_of_ble_eq_true rfl) (Nat.le_of_ble_eq_true rfl) (Nat.le_of_ble_eq_true rfl) (fun r91 σ91 q91 => ?_)
                        obtain ⟨rfl, n91, rfl, e91⟩ := q91
                        refine zz_br rfl (fun h92 => ?_) (fun h92 => ?_)
                        · refine zz_gsn 1 rfl ?_
                          refine zz_ri rfl (Or.inr ⟨rfl, by first | exact Or.inl rfl | exact Or.inr rfl | omega⟩) ?_
                          exact ⟨rfl, 0, rfl, Or.inr ⟨rfl, fun t => t.2.2.2.2.2.elim (fun z => h48 z) (fun z => z.2.2.2.elim (fun y => h80 y) (fun y => (e91.elim (fun z => absurd (z.1.symm.trans h92) (by decide)) (fun z => z.2)) y.2))⟩⟩
                        · refine zz_gsn 1 rfl ?_
                          refine zz_jp rfl ?_
                          refine zz_ri rfl (Or.inr ⟨rfl, by first | exact Or.inl rfl | exact Or.inr rfl | omega⟩) ?_
                          exact ⟨rfl, 1, rfl, Or.inl ⟨rfl, ⟨(e9.elim (fun z => z.2) (fun z => absurd z.1 h10)), (e15.elim (fun z => z.2) (fun z => absurd z.1 h16)), (by first | exact h22 | exact Decidable.not_not.mp h22), (by first | exact h31 | exact Decidable.not_not.mp h31), (by first | exact h40 | exact Decidable.not_not.mp h40), Or.inr ⟨(by first | exact h59 | exact Decidable.not_not.mp h59), (e64.elim (fun z => z.2) (fun z => absurd z.1 h65)), (e70.elim (fun z => z.2) (fun z => absurd z.1 h71)), Or.inr ⟨(e85.elim (fun z => z.2) (fun z => absurd z.1 h86)), (e91.elim (fun z => z.2) (fun z => absurd z.1 h92))⟩⟩⟩⟩⟩
            · refine zz_gsn 1 rfl ?_
              refine zz_ri rfl (Or.inr ⟨rfl, by first | exact Or.inl rfl | exact Or.inr rfl | omega⟩) ?_
              exact ⟨rfl, 1, rfl, Or.inl ⟨rfl, ⟨(e9.elim (fun z => z.2) (fun z => absurd z.1 h10)), (e15.elim (fun z => z.2) (fun z => absurd z.1 h16)), (by first | exact h22 | exact Decidable.not_not.mp h22), (by first | exact h31 | exact Decidable.not_not.mp h31), (by first | exact h40 | exact Decidable.not_not.mp h40), Or.inl (by first | exact h48 | exact Decidable.not_not.mp h48)⟩⟩⟩
theorem lp_rtw {X : zz_X} {m v : Nat} {I : zz_I} {σ : zz_M} {Post : Option zz_V → zz_M → Prop} (hR : RV σ m I.law I.C I.k (IH I) I.D) (ok : i_ok I) (hv : v ≤ I.k) (kk : Post (some (zI (g_c (g_tk I v) v 0 : Nat))) σ) :
    ∀ (r i : Nat), i + r = v → g_c (g_tk I v) r i = g_c (g_tk I v) v 0 → zz_G X 4 p_Mo_twin 8 [zP 12 0 0 m, zI (v : Nat), zI (i : Nat)] [] σ Post := by
  obtain ⟨-, r4, -⟩ := id hR
  have hk6 := ok.1.2.2.1
  have hv182 : v < 182 := by omega
  have nb := h_nb (h_inv ok.1) hk6
  have hn : ∀ u, (hw (IH I) u).n ≤ 20000 := fun u => Nat.le_trans nb (by decide)
  intro r
  induction r with
  | zero =>
    intro i hi hc
    obtain rfl : i = v := hi
    have e : i = g_c (g_tk I i) i 0 := hc
    rw [← e] at kk
    have hT := IV_tell ((h_inv ok.1).1 i hv).1 (Nat.le_trans hv hk6)
    have h7 : (hw (IH I) i).S 7 = 0 ∨ (hw (IH I) i).S 7 = 1 ∨ (hw (IH I) i).S 7 = 2 := hT.2.2.2.2.1.elim Or.inl (fun z => Or.inr z.2)
    refine zz_gsn 3 rfl ?_
    refine zz_cv (n := 3) rfl rfl (t_Mo_areTwins (v := i) (w := i) (r4 i hv).1 (r4 i hv).1 hv182 hv182 (hn i) (hn i)) (Nat.le_of_ble_eq_true rfl) (Nat.le_of_ble_eq_true rfl) (Nat.le_of_ble_eq_true rfl) (fun r11 σ11 q11 => ?_)
    obtain ⟨rfl, n11, rfl, e11⟩ := q11
    replace e11 : n11 = 1 := e11.elim (fun z => z.1) (fun z => absurd (TWN.rf h7) z.2)
    refine zz_br rfl (fun h12 => ?_) (fun h12 => absurd (e11.symm.trans (by first | exact h12 | exact Decidable.not_not.mp h12)) (by decide))
    refine zz_gsn 1 rfl ?_
    refine zz_ri rfl (Or.inl rfl) ?_
    exact kk
  | succ r ih =>
    intro i hi hc
    have i9 : i + 1 + r = v := by omega
    have b1 : i < 182 := by omega
    have b3 : i ≤ I.k := by omega
    have zs : zw ((i : Int) + 1) = ((i + 1 : Nat) : Int) := zw_s (by omega)
    have hy : g_tk I v i = true → g_c (g_tk I v) (r + 1) i = i := fun z => if_pos z
    have hn2 : g_tk I v i = false → g_c (g_tk I v) (r + 1) i = g_c (g_tk I v) r (i + 1) := fun z => if_neg (by rw [z]; exact Bool.false_ne_true)
    refine zz_gsn 3 rfl ?_
    refine zz_cv (n := 3) rfl rfl (t_Mo_areTwins (v := v) (w := i) (r4 v hv).1 (r4 i b3).1 hv182 b1 (hn v) (hn i)) (Nat.le_of_ble_eq_true rfl) (Nat.le_of_ble_eq_true rfl) (Nat.le_of_ble_eq_true rfl) (fun r11 σ11 q11 => ?_)
    obtain ⟨rfl, n11, rfl, e11⟩ := q11
    refine zz_br rfl (fun h12 => ?_) (fun h12 => ?_)
    · refine zz_gsn 1 rfl ?_
      refine zz_ri rfl (Or.inl rfl) ?_
      have z : g_tk I v i = true := z_B_t (e11.elim (fun z => z.2) (fun z => absurd z.1 h12))
      rw [← hc, hy z] at kk
      exact kk
    · refine zz_gsn 1 rfl ?_
      refine zz_jp rfl ?_
      rw [zs]
      have z : g_tk I v i = false := z_B_f (e11.elim (fun z => absurd (z.1.symm.trans (by first | exact h12 | exact Decidable.not_not.mp h12)) (by decide)) (fun z => z.2))
      exact ih (i + 1) i9 ((hn2 z).symm.trans hc)
theorem t_Mo_twin {X : zz_X} {σ : zz_M} {m : Nat} {G : zz_J} {v : Int} (hG : RG σ m G) (ok : g_ok G) : zz_T X 4 p_Mo_twin [zP 12 0 0 m, zI v] σ (fun r σ' => σ = σ' ∧ r = some (zI (a_twin G v))) := by
  refine zz_mk k_Mo_twin o_Mo_twin rfl rfl (Nat.le_of_ble_eq_true rfl) ?_
  show zz_G X 4 p_Mo_twin 0 [zP 12 0 0 m, zI v, zU] [] σ _
  obtain ⟨hI, hT, hO, hF, hM, h10⟩ := id hG
  obtain ⟨⟨ho, hfx⟩, okt, oko, okm⟩ := id ok
  have hk6 := ho.1.2.2.1
  rcases Classical.em (vz G.I.ho G.I.k v) with hv | hv
  · obtain ⟨w, rfl⟩ : ∃ w : Nat, v = (w : Nat) := ⟨v.toNat, by omega⟩
    obtain ⟨z0, w1, w2⟩ := id hv
    obtain ⟨hone, ⟨q1, q2, q3, q4⟩, hV⟩ := ri_y hI z0
    obtain ⟨⟨r1, r2, r3⟩, r4, r5, r6, r7⟩ := id hV
    have hw1 : w ≤ G.I.k := by omega
    obtain ⟨hS, hq1, hq2⟩ := r4 w hw1
    refine zz_gsn 2 rfl ?_
    refine zz_cv (n := 2) rfl rfl (t_Mo_isVersion) (Nat.le_of_ble_eq_true rfl) (Nat.le_of_ble_eq_true rfl) (Nat.le_of_ble_eq_true rfl) (fun r2 σ2 q2 => ?_)
    obtain ⟨rfl, n2, rfl, e2⟩ := q2
    replace e2 := rv_of hI ho e2
    replace e2 : n2 = 1 := e2.elim (fun z => z.1) (fun z => absurd hv z.2)
    refine zz_br rfl (fun h3 => ?_) (fun h3 => absurd (by first | exact h3 | exact Decidable.not_not.mp h3) (show n2 ≠ 0 by omega))
    refine zz_gsn 2 rfl ?_
    exact lp_rtw hV ho hw1 ⟨rfl, congrArg (fun z => some (zI z)) (if_pos hv).symm⟩ w 0 (Nat.zero_add w) rfl
  · refine zz_gsn 2 rfl ?_
    refine zz_cv (n := 2) rfl rfl (t_Mo_isVersion) (Nat.le_of_ble_eq_true rfl) (Nat.le_of_ble_eq_true rfl) (Nat.le_of_ble_eq_true rfl) (fun r2 σ2 q2 => ?_)
    obtain ⟨rfl, n2, rfl, e2⟩ := q2
    replace e2 := rv_of hI ho e2
    replace e2 : n2 = 0 := e2.elim (fun z => absurd z.2 hv) (fun z => z.1)
    refine zz_br rfl (fun h3 => absurd e2 h3) (fun h3 => ?_)
    refine zz_gsn 1 rfl ?_
    refine zz_ri rfl (Or.inl rfl) ?_
    exact ⟨rfl, congrArg (fun z => some (zI z)) (if_neg hv).symm⟩
