/-! rows of numbers -/
/-- a queue: how many, its numbers by their places -/
abbrev zq_T : Type := Nat × (Nat → Int)
def zq_ins (pl : Nat) (x : Int) (q : zq_T) : zq_T := (q.1 + 1, fun i => if i < pl then q.2 i else if i = pl then x else q.2 (i - 1))
def zq_rem (pl : Nat) (q : zq_T) : zq_T := (q.1 - 1, fun i => if i < pl then q.2 i else q.2 (i + 1))
def zq_chg (kind x : Int) (q : zq_T) : zq_T := if kind = 0 then zq_ins q.1 x q else if kind = 2 then zq_ins 0 x q else if kind = 1 then zq_rem 0 q else zq_rem (q.1 - 1) q
def zq_num (kind x : Int) (q : zq_T) : Int := if kind = 0 ∨ kind = 2 then x else if kind = 1 then q.2 0 else q.2 (q.1 - 1)
def zq_eq (q q' : zq_T) : Prop := q.1 = q'.1 ∧ ∀ i, i < q.1 → q.2 i = q'.2 i
/-- the class's numbers at a are a queue -/
def QR (σ : zz_M) (a : Nat) (q : zq_T) : Prop := σ.1 500 a = (q.1 : Nat) ∧ ∀ i, i < q.1 → σ.2 (a + 1) i = q.2 i
abbrev zz_A2 (a : Nat) : Nat → Prop := fun c => c = a ∨ c = a + 1
theorem QR.f {A : Nat → Prop} {σ σ' : zz_M} {a : Nat} {q : zq_T} (h : QR σ a q) (hF : zz_F A σ σ') (h0 : ¬ A a) (h1 : ¬ A (a + 1)) : QR σ' a q := ⟨((hF a h0).1 500).trans h.1, fun i hi => ((hF (a + 1) h1).2 i).trans (h.2 i hi)⟩
theorem lp_nbec {X : zz_X} {p p' a b n : Nat} {f : Nat → Int} {σ0 : zz_M} {Post : Option zz_V → zz_M → Prop} (hab : a + 1 < b ∨ b + 1 < a) (hn : n ≤ p) (hn' : n ≤ p') (hb : n < 100000) (k : ∀ σ' : zz_M, σ'.1 500 a = ((n : Nat) : Int) → (∀ j, j < n → σ'.2 (a + 1) j = f j) → zz_F (zz_A2 a) σ0 σ' → Post none σ') :
    ∀ (r i : Nat) (σ : zz_M), i + r = n → σ.1 500 a = (n : Nat) → σ.1 500 b = (n : Nat) → (∀ j, j < n → σ.2 (b + 1) j = f j) → (∀ j, j < i → σ.2 (a + 1) j = f j) → zz_F (zz_A2 a) σ0 σ → zz_G X 2 p_Numbers_become 10 [zP 5 p 0 a, zP 5 p' 0 b, zI (i : Nat)] [] σ Post := by
  intro r
  induction r with
  | zero =>
    intro i σ hi h1 h2 h3 h4 hF
    refine zz_gsn 3 rfl ?_
    refine zz_br rfl (fun h13 => ?_) (fun h13 => absurd h13 (by omega))
    refine zz_rv rfl rfl ?_
    exact k σ h1 (fun j hj => h4 j (by omega)) hF
  | succ r ih =>
    intro i σ hi h1 h2 h3 h4 hF
    refine zz_gsn 3 rfl ?_
    refine zz_br rfl (fun h13 => absurd h13 (by omega)) (fun h13 => ?_)
    refine zz_gsn 5 rfl ?_
    refine zz_cv (n := 2) rfl rfl (t_Numbers_numberAt) (Nat.le_of_ble_eq_true rfl) (Nat.le_of_ble_eq_true rfl) (Nat.le_of_ble_eq_true rfl) (fun r19 σ19 q19 => ?_)
    obtain ⟨rfl, n19, rfl, e19⟩ := q19
    refine zz_ast rfl (by omega) ?_
    refine zz_gsn 1 rfl ?_
    refine zz_jp rfl ?_
    have ei : zw ((i : Int) + 1) = ((i + 1 : Nat) : Int) := by rw [zw_id (by omega) (by omega)]; omega
    rw [ei]
    refine ih (i + 1) _ (by omega) h1 h2 (fun j hj => by rw [sa_a _ _ (by omega)]; exact h3 j hj) (fun j hj => ?_) (hF.tr (zz_F.sa (Or.inr rfl)))
    rw [Int.toNat_natCast]
    by_cases e : j = i
    · subst e
      rw [sa_h]
      rcases e19 with ⟨-, -, -, e19⟩ | ⟨e19, -⟩
      · rw [e19, Int.toNat_natCast]
        exact h3 j (by omega)
      · exact absurd ⟨by omega, by omega, by omega⟩ e19
    · rw [sa_i _ _ e]
      exact h4 j (by omega)
theorem t_Numbers_become {X : zz_X} {σ : zz_M} {p p' a b : Nat} {q : zq_T} (hq : QR σ b q) (hab : a + 1 < b ∨ b + 1 < a) (hp : q.1 ≤ p) (hp' : q.1 ≤ p') (hb : q.1 < 100000) (hpb : p < 100000) : zz_T X 2 p_Numbers_become [zP 5 p 0 a, zP 5 p' 0 b] σ (fun r σ' => r = none ∧ QR σ' a q ∧ zz_F (zz_A2 a) σ σ') := by
  refine zz_mk k_Numbers_become o_Numbers_become rfl rfl (Nat.le_of_ble_eq_true rfl) ?_
  show zz_G X 2 p_Numbers_become 0 [zP 5 p 0 a, zP 5 p' 0 b, zU] [] σ _
  refine zz_gsn 6 rfl ?_
  refine zz_mth rfl (Nat.le_of_ble_eq_true rfl) (Nat.le_of_ble_eq_true rfl) ?_
  refine zz_gsn 3 rfl ?_
  have em : min (σ.1 500 b) (p : Int) = (q.1 : Nat) := by rw [hq.1]; omega
  refine zz_sge (σ' := zz_sf σ 500 a (q.1 : Nat)) (by rw [← em]) ?_
  exact lp_nbec (f := q.2) (σ0 := σ) hab hp hp' hb (fun σ' x1 x2 x3 => ⟨rfl, ⟨x1, x2⟩, x3⟩) q.1 0 _ (by omega) (sf_h _ _ _ _) (by rw [sf_a _ _ (by omega)]; exact hq.1) hq.2 (fun j hj => absurd hj (Nat.not_lt_zero j)) (zz_F.sf (Or.inl rfl))
