/-! marks -/
/-- marks: what is marked, and how many of n ones that a test lets pass -/
def zm_set (A : Nat → Bool) (x : Nat) : Nat → Bool := fun y => A y || y == x
theorem zm_set_s (A : Nat → Bool) (x : Nat) : zm_set A x x = true := by
  show (A x || x == x) = true
  rw [beq_self_eq_true, Bool.or_true]
theorem zm_set_n (A : Nat → Bool) {x y : Nat} (h : y ≠ x) : zm_set A x y = A y := by
  show (A y || y == x) = A y
  rw [beq_false_of_ne h, Bool.or_false]
def zm_add : (Nat → Bool) → List Nat → (Nat → Bool)
  | A, [] => A
  | A, x :: l => zm_add (zm_set A x) l
theorem zm_add_t : ∀ {l : List Nat} {A : Nat → Bool} {y : Nat}, zm_add A l y = true ↔ A y = true ∨ y ∈ l
  | [], A, y => by simp [zm_add]
  | x :: l, A, y => by
    show zm_add (zm_set A x) l y = true ↔ _
    rw [zm_add_t, List.mem_cons]
    show (A y || y == x) = true ∨ _ ↔ _
    rw [Bool.or_eq_true, beq_iff_eq]
    exact or_assoc
def zm_f (P : Nat → Bool) (A : Nat → Bool) (c : Nat) : Int := if (A c && P c) = true then 1 else 0
theorem zz_sum_c {f g : Nat → Int} : ∀ {n : Nat}, (∀ j, j < n → f j = g j) → zz_sum f n = zz_sum g n
  | 0, _ => rfl
  | n + 1, h => by
    show zz_sum f n + f n = zz_sum g n + g n
    rw [zz_sum_c (fun j hj => h j (by omega)), h n (by omega)]
theorem zz_sum_1 {f g : Nat → Int} {x : Nat} : ∀ {n : Nat}, x < n → (∀ j, j ≠ x → g j = f j) → zz_sum g n = zz_sum f n + (g x - f x)
  | 0, hx, _ => absurd hx (Nat.not_lt_zero _)
  | n + 1, hx, h => by
    show zz_sum g n + g n = zz_sum f n + f n + (g x - f x)
    by_cases e : x = n
    · subst e
      rw [zz_sum_c (f := g) (g := f) (fun j hj => h j (by omega))]
      omega
    · rw [zz_sum_1 (x := x) (by omega) h, h n (fun z => e z.symm)]
      omega
theorem zm_f_b (P A : Nat → Bool) (j : Nat) : 0 ≤ zm_f P A j ∧ zm_f P A j ≤ 1 := by
  unfold zm_f
  split <;> omega
theorem zm_one {P A : Nat → Bool} {x n : Nat} (hx : x < n) : zz_sum (zm_f P (zm_set A x)) n = zz_sum (zm_f P A) n + (if A x = false ∧ P x = true then 1 else 0) := by
  have h1 := zz_sum_1 (f := zm_f P A) (g := zm_f P (zm_set A x)) (x := x) hx (fun j hj => by unfold zm_f; rw [zm_set_n A hj])
  have h2 : zm_f P (zm_set A x) x - zm_f P A x = (if A x = false ∧ P x = true then 1 else 0) := by
    unfold zm_f
    rw [zm_set_s]
    cases A x <;> cases P x <;> rfl
  rw [h1, h2]
/-- the class's marks -/
def MKR (σ : zz_M) (c p : Nat) (A : Nat → Bool) : Prop := ∀ i, i < p → (σ.2 (c + 4) i = σ.1 105 c ↔ A i = true) ∧ σ.2 (c + 4) i ≤ σ.1 105 c
theorem MKR.add {σ : zz_M} {c p x : Nat} {A : Nat → Bool} (h : MKR σ c p A) : MKR (zz_sa σ (c + 4) x (σ.1 105 c)) c p (zm_set A x) := fun i hi => by
  obtain ⟨h1, h2⟩ := h i hi
  by_cases e : i = x
  · subst e
    rw [sa_h]
    exact ⟨⟨fun _ => zm_set_s A i, fun _ => rfl⟩, Int.le_refl _⟩
  · rw [sa_i _ _ e, zm_set_n A e]
    exact ⟨h1, h2⟩
def zm_P (mkr : Nat → Int) (mk : Int) (x : Nat) : Bool := decide (mk = -1) || decide (mkr x = mk)
theorem zm_bd {P A : Nat → Bool} {n : Nat} : 0 ≤ zz_sum (zm_f P A) n ∧ zz_sum (zm_f P A) n ≤ (n : Int) := by
  have h := zz_sum_b (f := zm_f P A) (B := 1) (by decide) (zm_f_b P A) n
  rw [Int.one_mul] at h
  exact h
theorem lp_markRow {X : zz_X} {p c r n ln : Nat} {mk N0 : Int} {mkr : Nat → Int} {σ0 : zz_M} {A' : Nat → Bool} {Post : Option zz_V → zz_M → Prop} (hrc : r ≠ c + 4) (hn : n ≤ p) (hb : ln < 100000) (hpb : p < 100000) (hN0 : 0 ≤ N0 ∧ N0 ≤ n)
    (hmkr : ∀ i, i < n → σ0.2 (c + 3) i = mkr i) (hlen : σ0.1 701 r = (ln : Nat)) (kk : ∀ σ', MKR σ' c p A' → zz_F (fun a => a = c + 4) σ0 σ' → Post (some (zI (zz_sum (zm_f (zm_P mkr mk) A') n - N0))) σ') :
    ∀ (l : List Nat) (i : Nat) (A : Nat → Bool) (cell : Int) (σ : zz_M), i + l.length = ln → (∀ x ∈ l, x < n) → zz_ch (σ0.2 (c + 2)) cell l → MKR σ c p A → zm_add A l = A' → zz_F (fun a => a = c + 4) σ0 σ →
      zz_G X 1 p_Cells_markRow 7 [zP 1 p 0 c, zP 7 0 0 r, zI mk, zI (zz_sum (zm_f (zm_P mkr mk) A) n - N0), zI cell, zI (i : Nat)] [] σ Post := by
  intro l
  induction l with
  | nil =>
    intro i A cell σ hi hlt hch hM hA hF
    have e : i = ln := hi
    have e2 : A = A' := hA
    subst e2
    have el : σ.1 701 r = (ln : Nat) := by rw [(hF r hrc).1]; exact hlen
    refine zz_gsn 3 rfl ?_
    refine zz_br rfl (fun h10 => ?_) (fun h10 => absurd h10 (by omega))
    refine zz_gsn 1 rfl ?_
    refine zz_ri rfl (Or.inl rfl) ?_
    exact kk σ hM hF
  | cons x t ih =>
    intro i A cell σ hi hlt hch hM hA hF
    have hi2 : i + (t.length + 1) = ln := hi
    have el : σ.1 701 r = (ln : Nat) := by rw [(hF r hrc).1]; exact hlen
    have hx : x < n := hlt x List.mem_cons_self
    obtain ⟨c1, c2⟩ := hch
    subst c1
    have no10 : ¬ σ.1 701 r ≤ (i : Int) := by rw [el]; omega
    have no12 : ¬ (x : Int) < 0 := by omega
    have no17 : ¬ (p : Int) ≤ (x : Int) := by omega
    have hob : 0 ≤ (x : Int) ∧ (x : Int) < (p : Int) := ⟨by omega, by omega⟩
    have ei : zw ((i : Int) + 1) = ((i + 1 : Nat) : Int) := by rw [zw_id (by omega) (by omega)]; omega
    have bd := zm_bd (P := zm_P mkr mk) (A := A) (n := n)
    have hm1 := (hM x (by omega)).1
    have e3 : σ.2 (c + 3) x = mkr x := by rw [(hF (c + 3) (by omega)).2]; exact hmkr x hx
    have e2 : σ.2 (c + 2) = σ0.2 (c + 2) := funext ((hF (c + 2) (by omega)).2)
    have one := zm_one (P := zm_P mkr mk) (A := A) hx
    have nx : ∀ cell2 : Int, cell2 = σ0.2 (c + 2) x → zz_ch (σ0.2 (c + 2)) cell2 t := fun cell2 h => by rw [h]; exact c2
    have fin : ∀ (fr cell2 : Int) (σ' : zz_M), σ' = zz_sa σ (c + 4) x (σ.1 105 c) → cell2 = σ0.2 (c + 2) x → fr = zz_sum (zm_f (zm_P mkr mk) (zm_set A x)) n - N0 → zz_G X 1 p_Cells_markRow 7 [zP 1 p 0 c, zP 7 0 0 r, zI mk, zI fr, zI cell2, zI (zw ((i : Int) + 1))] [] σ' Post := fun fr cell2 σ' h1 h2 h3 => by
      rw [ei, h3, h1]
      exact ih (i + 1) _ cell2 _ (by omega) (fun y hy => hlt y (List.mem_cons_of_mem _ hy)) (nx cell2 h2) hM.add hA (hF.tr (zz_F.sa rfl))
    refine zz_gsn 3 rfl ?_
    refine zz_br rfl (fun h10 => absurd h10 no10) (fun h10 => ?_)
    refine zz_gsn 1 rfl ?_
    refine zz_br rfl (fun h12 => absurd h12 no12) (fun h12 => ?_)
    refine zz_gsn 4 rfl ?_
    refine zz_br rfl (fun h17 => absurd h17 no17) (fun h17 => ?_)
    refine zz_gsn 3 rfl ?_
    refine zz_ald rfl (hob) ?_
    refine zz_gsn 2 rfl ?_
    refine zz_br rfl (fun h24 => ?_) (fun h24 => ?_)
    · refine zz_gsn 5 rfl ?_
      refine zz_ast rfl (hob) ?_
      refine zz_gsn 3 rfl ?_
      refine zz_ald rfl (hob) ?_
      refine zz_gsn 2 rfl ?_
      refine zz_jp rfl ?_
      have hA1 : A x = true := hm1.mp (by rw [Int.toNat_natCast] at h24; exact h24)
      refine fin _ _ _ (by rw [Int.toNat_natCast]) (by rw [sa_a _ _ (by omega), Int.toNat_natCast, e2]) ?_
      rw [one, if_neg (fun z => by rw [hA1] at z; exact absurd z.1 (by decide)), Int.add_zero]
    · refine zz_gsn 2 rfl ?_
      refine zz_br rfl (fun h27 => ?_) (fun h27 => ?_)
      · refine zz_gsn 6 rfl ?_
        refine zz_ast rfl (hob) ?_
        refine zz_gsn 3 rfl ?_
        refine zz_ald rfl (hob) ?_
        refine zz_gsn 2 rfl ?_
        refine zz_jp rfl ?_
        have hA1 : A x = false := by
          rw [Int.toNat_natCast] at h24
          cases h : A x
          · rfl
          · exact absurd (hm1.mpr h) h24
        have hP : zm_P mkr mk x = true := by
          unfold zm_P
          rw [h27]; rfl
        refine fin _ _ _ (by rw [Int.toNat_natCast]) (by rw [sa_a _ _ (by omega), Int.toNat_natCast, e2]) ?_
        rw [one, if_pos ⟨hA1, hP⟩, zw_id (by omega) (by omega)]
        omega
      · refine zz_gsn 3 rfl ?_
        refine zz_ald rfl (hob) ?_
        refine zz_gsn 1 rfl ?_
        refine zz_br rfl (fun h33 => ?_) (fun h33 => ?_)
        · refine zz_gsn 5 rfl ?_
          refine zz_ast rfl (hob) ?_
          refine zz_gsn 3 rfl ?_
          refine zz_ald rfl (hob) ?_
          refine zz_gsn 2 rfl ?_
          refine zz_jp rfl ?_
          have hA1 : A x = false := by
            rw [Int.toNat_natCast] at h24
            cases h : A x
            · rfl
            · exact absurd (hm1.mpr h) h24
          have hP : zm_P mkr mk x = false := by
            unfold zm_P
            rw [Int.toNat_natCast, e3] at h33
            rw [decide_eq_false h33, decide_eq_false h27]; rfl
          refine fin _ _ _ (by rw [Int.toNat_natCast]) (by rw [sa_a _ _ (by omega), Int.toNat_natCast, e2]) ?_
          rw [one, if_neg (fun z => by rw [hP] at z; exact absurd z.2 (by decide)), Int.add_zero]
        · refine zz_gsn 6 rfl ?_
          refine zz_ast rfl (hob) ?_
          refine zz_gsn 3 rfl ?_
          refine zz_ald rfl (hob) ?_
          refine zz_gsn 2 rfl ?_
          refine zz_jp rfl ?_
          have hA1 : A x = false := by
            rw [Int.toNat_natCast] at h24
            cases h : A x
            · rfl
            · exact absurd (hm1.mpr h) h24
          have hP : zm_P mkr mk x = true := by
            unfold zm_P
            rw [Int.toNat_natCast, e3] at h33; rw [decide_eq_true h33, Bool.or_true]
          refine fin _ _ _ (by rw [Int.toNat_natCast]) (by rw [sa_a _ _ (by omega), Int.toNat_natCast, e2]) ?_
          rw [one, if_pos ⟨hA1, hP⟩, zw_id (by omega) (by omega)]
          omega
theorem t_Cells_markRow {X : zz_X} {σ : zz_M} {p c r n : Nat} {mk : Int} {mkr : Nat → Int} {A : Nat → Bool} {l : List Nat} (hrc : r ≠ c + 4) (hn : n ≤ p) (hb : l.length < 100000) (hpb : p < 100000) (hmkr : ∀ i, i < n → σ.2 (c + 3) i = mkr i) (hlen : σ.1 701 r = (l.length : Nat)) (hlt : ∀ x ∈ l, x < n) (hch : zz_ch (σ.2 (c + 2)) (σ.1 700 r) l) (hM : MKR σ c p A) : zz_T X 1 p_Cells_markRow [zP 1 p 0 c, zP 7 0 0 r, zI mk] σ (fun r σ' => r = some (zI (zz_sum (zm_f (zm_P mkr mk) (zm_add A l)) n - zz_sum (zm_f (zm_P mkr mk) A) n)) ∧ MKR σ' c p (zm_add A l) ∧ zz_F (fun a => a = c + 4) σ σ') := by
  refine zz_mk k_Cells_markRow o_Cells_markRow rfl rfl (Nat.le_of_ble_eq_true rfl) ?_
  show zz_G X 1 p_Cells_markRow 0 [zP 1 p 0 c, zP 7 0 0 r, zI mk, zU, zU, zU] [] σ _
  refine zz_gsn 7 rfl ?_
  refine zz_lse (ls' := [zP 1 p 0 c, zP 7 0 0 r, zI mk, zI (zz_sum (zm_f (zm_P mkr mk) A) n - zz_sum (zm_f (zm_P mkr mk) A) n), zI (σ.1 700 r), zI (0 : Nat)]) (by rw [Int.sub_self]; rfl) ?_
  exact lp_markRow (ln := l.length) hrc hn hb hpb zm_bd hmkr hlen (fun σ' h1 h2 => ⟨rfl, h1, h2⟩) l 0 A _ σ (Nat.zero_add _) hlt hch hM rfl zz_F.rf
