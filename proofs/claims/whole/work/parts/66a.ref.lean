/-! the reference: queues -/
theorem lc_lt (x y : Int) : zz_lcmp x y < 0 ↔ x < y := by
  unfold zz_lcmp
  by_cases h : x < y
  · rw [if_pos h]; omega
  · rw [if_neg h]
    by_cases h2 : x = y
    · rw [if_pos h2]; omega
    · rw [if_neg h2]; omega
theorem lc_gt (x y : Int) : 0 < zz_lcmp x y ↔ y < x := by
  unfold zz_lcmp
  by_cases h : x < y
  · rw [if_pos h]; omega
  · rw [if_neg h]
    by_cases h2 : x = y
    · rw [if_pos h2]; omega
    · rw [if_neg h2]; omega
theorem t_Mo_in {X : zz_X} {σ : zz_M} {v lo hi : Int}  : zz_T X 1 p_Mo_in [zL v, zL lo, zL hi] σ (fun r σ' => σ = σ' ∧ ∃ n : Int, r = some (zI n) ∧ ((n = 1 ∧ lo ≤ v ∧ v ≤ hi) ∨ (n = 0 ∧ ¬ (lo ≤ v ∧ v ≤ hi)))) := by
  refine zz_mk k_Mo_in o_Mo_in rfl rfl (Nat.le_of_ble_eq_true rfl) ?_
  show zz_G X 1 p_Mo_in 0 [zL v, zU, zL lo, zU, zL hi, zU] [] σ _
  refine zz_gsn 3 rfl ?_
  refine zz_br rfl (fun h3 => ?_) (fun h3 => ?_)
  · refine zz_gsn 1 rfl ?_
    refine zz_ri rfl (Or.inr ⟨rfl, by first | exact Or.inl rfl | exact Or.inr rfl | omega⟩) ?_
    have y3 := (lc_lt v lo).mp h3
    exact ⟨rfl, _, rfl, Or.inr ⟨rfl, fun z => by omega⟩⟩
  · refine zz_gsn 3 rfl ?_
    refine zz_br rfl (fun h7 => ?_) (fun h7 => ?_)
    · refine zz_gsn 1 rfl ?_
      refine zz_ri rfl (Or.inr ⟨rfl, by first | exact Or.inl rfl | exact Or.inr rfl | omega⟩) ?_
      have y7 := (lc_gt v hi).mp h7
      exact ⟨rfl, _, rfl, Or.inr ⟨rfl, fun z => by omega⟩⟩
    · refine zz_gsn 1 rfl ?_
      refine zz_jp rfl ?_
      refine zz_ri rfl (Or.inr ⟨rfl, by first | exact Or.inl rfl | exact Or.inr rfl | omega⟩) ?_
      have y3 : ¬ v < lo := fun z => absurd ((lc_lt v lo).mpr z) (by omega)
      have y7 : ¬ hi < v := fun z => absurd ((lc_gt v hi).mpr z) (by omega)
      exact ⟨rfl, _, rfl, Or.inl ⟨rfl, by omega, by omega⟩⟩
theorem t_Mo_isHouse {X : zz_X} {σ : zz_M} {m : Nat}  : zz_T X 1 p_Mo_isHouse [zP 12 0 0 m] σ (fun r σ' => σ = σ' ∧ ∃ n : Int, r = some (zI n) ∧ ((n = 1 ∧ 0 < σ.1 1213 m) ∨ (n = 0 ∧ ¬ 0 < σ.1 1213 m))) := by
  refine zz_mk k_Mo_isHouse o_Mo_isHouse rfl rfl (Nat.le_of_ble_eq_true rfl) ?_
  show zz_G X 1 p_Mo_isHouse 0 [zP 12 0 0 m] [] σ _
  refine zz_gsn 2 rfl ?_
  refine zz_br rfl (fun h2 => ?_) (fun h2 => ?_)
  · refine zz_gsn 1 rfl ?_
    refine zz_ri rfl (Or.inr ⟨rfl, by first | exact Or.inl rfl | exact Or.inr rfl | omega⟩) ?_
    exact ⟨rfl, _, rfl, Or.inr ⟨rfl, by omega⟩⟩
  · refine zz_gsn 1 rfl ?_
    refine zz_jp rfl ?_
    refine zz_ri rfl (Or.inr ⟨rfl, by first | exact Or.inl rfl | exact Or.inr rfl | omega⟩) ?_
    exact ⟨rfl, _, rfl, Or.inl ⟨rfl, by omega⟩⟩
theorem t_Mo_isVersion {X : zz_X} {σ : zz_M} {m : Nat} {v : Int}  : zz_T X 2 p_Mo_isVersion [zP 12 0 0 m, zI v] σ (fun r σ' => σ = σ' ∧ ∃ n : Int, r = some (zI n) ∧ ((n = 1 ∧ 0 < σ.1 1213 m ∧ 0 ≤ v ∧ v ≤ zw (σ.1 1215 m - 1)) ∨ (n = 0 ∧ ¬ (0 < σ.1 1213 m ∧ 0 ≤ v ∧ v ≤ zw (σ.1 1215 m - 1))))) := by
  refine zz_mk k_Mo_isVersion o_Mo_isVersion rfl rfl (Nat.le_of_ble_eq_true rfl) ?_
  show zz_G X 2 p_Mo_isVersion 0 [zP 12 0 0 m, zI v] [] σ _
  refine zz_gsn 1 rfl ?_
  refine zz_cv (n := 1) rfl rfl (t_Mo_isHouse) (Nat.le_of_ble_eq_true rfl) (Nat.le_of_ble_eq_true rfl) (Nat.le_of_ble_eq_true rfl) (fun r1 σ1 q1 => ?_)
  obtain ⟨rfl, n1, rfl, e1⟩ := q1
  refine zz_br rfl (fun h2 => ?_) (fun h2 => ?_)
  · refine zz_gsn 1 rfl ?_
    refine zz_ri rfl (Or.inr ⟨rfl, by first | exact Or.inl rfl | exact Or.inr rfl | omega⟩) ?_
    exact ⟨rfl, _, rfl, Or.inr ⟨rfl, fun z => by omega⟩⟩
  · refine zz_gsn 8 rfl ?_
    refine zz_cs (n := 3) rfl rfl (t_Mo_in) (Nat.le_of_ble_eq_true rfl) (Nat.le_of_ble_eq_true rfl) (Nat.le_of_ble_eq_true rfl) (fun r11 σ11 q11 => ?_)
    obtain ⟨rfl, n11, rfl, e11⟩ := q11
    refine zz_br rfl (fun h12 => ?_) (fun h12 => ?_)
    · refine zz_gsn 1 rfl ?_
      refine zz_ri rfl (Or.inr ⟨rfl, by first | exact Or.inl rfl | exact Or.inr rfl | omega⟩) ?_
      exact ⟨rfl, _, rfl, Or.inr ⟨rfl, fun z => by omega⟩⟩
    · refine zz_gsn 1 rfl ?_
      refine zz_jp rfl ?_
      refine zz_ri rfl (Or.inr ⟨rfl, by first | exact Or.inl rfl | exact Or.inr rfl | omega⟩) ?_
      exact ⟨rfl, _, rfl, Or.inl ⟨rfl, by omega, by omega, by omega⟩⟩
theorem t_Mo_deedMany {X : zz_X} {σ : zz_M} {m : Nat}  : zz_T X 1 p_Mo_deedMany [zP 12 0 0 m] σ (fun r σ' => σ = σ' ∧ r = some (zI (zw (σ.1 1215 m - 1)))) := by
  refine zz_mk k_Mo_deedMany o_Mo_deedMany rfl rfl (Nat.le_of_ble_eq_true rfl) ?_
  show zz_G X 1 p_Mo_deedMany 0 [zP 12 0 0 m] [] σ _
  refine zz_gsn 4 rfl ?_
  refine zz_ri rfl (Or.inl rfl) ?_
  exact ⟨rfl, rfl⟩
theorem t_Mo_isFull {X : zz_X} {σ : zz_M} {m : Nat}  : zz_T X 1 p_Mo_isFull [zP 12 0 0 m] σ (fun r σ' => σ = σ' ∧ ∃ n : Int, r = some (zI n) ∧ ((n = 1 ∧ σ.1 1215 m = 61) ∨ (n = 0 ∧ σ.1 1215 m ≠ 61))) := by
  refine zz_mk k_Mo_isFull o_Mo_isFull rfl rfl (Nat.le_of_ble_eq_true rfl) ?_
  show zz_G X 1 p_Mo_isFull 0 [zP 12 0 0 m] [] σ _
  refine zz_gsn 3 rfl ?_
  refine zz_br rfl (fun h3 => ?_) (fun h3 => ?_)
  · refine zz_gsn 1 rfl ?_
    refine zz_ri rfl (Or.inr ⟨rfl, by first | exact Or.inl rfl | exact Or.inr rfl | omega⟩) ?_
    exact ⟨rfl, _, rfl, Or.inr ⟨rfl, by omega⟩⟩
  · refine zz_gsn 1 rfl ?_
    refine zz_jp rfl ?_
    refine zz_ri rfl (Or.inr ⟨rfl, by first | exact Or.inl rfl | exact Or.inr rfl | omega⟩) ?_
    exact ⟨rfl, _, rfl, Or.inl ⟨rfl, by omega⟩⟩
/-- a QUEUE of the reference -/
def QM (σ : zz_M) (m v : Nat) (q : zq_T) : Prop := σ.2 (m + 12) v = (q.1 : Nat) ∧ ∀ i, i < q.1 → σ.2 (m + 11) (64 * v + i) = q.2 i
theorem zw_64 {v k : Nat} (hv : v < 61) (hk : k < 64) : zw (zw (64 * (v : Int)) + (k : Int)) = ((64 * v + k : Nat) : Int) := by
  rw [zw_id (x := 64 * (v : Int)) (by omega) (by omega), zw_id (by omega) (by omega)]
  omega
theorem zw_64' {v : Nat} (hv : v < 61) : zw (64 * (v : Int)) = ((64 * v : Nat) : Int) := by
  rw [zw_id (by omega) (by omega)]
  omega
theorem t_Mo_asked {X : zz_X} {σ : zz_M} {m v k : Nat} (hv : v < 61) (hk : k < 64) : zz_T X 1 p_Mo_asked [zP 12 0 0 m, zI (v : Nat), zI (k : Nat)] σ (fun r σ' => σ = σ' ∧ r = some (zI (σ.2 (m + 11) (64 * v + k)))) := by
  refine zz_mk k_Mo_asked o_Mo_asked rfl rfl (Nat.le_of_ble_eq_true rfl) ?_
  show zz_G X 1 p_Mo_asked 0 [zP 12 0 0 m, zI (v : Nat), zI (k : Nat)] [] σ _
  refine zz_gsn 7 rfl ?_
  rw [zw_64 hv hk]
  refine zz_ald rfl (⟨by omega, by omega⟩) ?_
  refine zz_ri rfl (Or.inl rfl) ?_
  exact ⟨rfl, by rw [Int.toNat_natCast]⟩
/-- only the room of one QUEUE has changed -/
def Lq (m t : Nat) (σ σ' : zz_M) : Prop := σ'.1 = σ.1 ∧ ∀ a i, ¬ (a = m + 11 ∧ 64 * t ≤ i ∧ i < 64 * t + 64) → σ'.2 a i = σ.2 a i
theorem Lq.rf {m t : Nat} {σ : zz_M} : Lq m t σ σ := ⟨rfl, fun _ _ _ => rfl⟩
theorem Lq.sa {m t i : Nat} {σ σ0 : zz_M} {v : Int} (h : Lq m t σ0 σ) (hi : 64 * t ≤ i ∧ i < 64 * t + 64) : Lq m t σ0 (zz_sa σ (m + 11) i v) := ⟨h.1, fun a j hj => by
  rw [sa_2, if_neg (fun z => hj ⟨z.1, by omega⟩)]
  exact h.2 a j hj⟩
theorem lp_rlay {X : zz_X} {m v t fr len mn : Nat} {kind x n fr0 : Int} {q : zq_T} {σ0 : zz_M} {Post : Option zz_V → zz_M → Prop} (hv : v < 61) (ht : t < 61) (hvt : v ≠ t) (hq : ∀ i, i < q.1 → σ0.2 (m + 11) (64 * v + i) = q.2 i) (hl : fr + len ≤ q.1) (hq60 : q.1 ≤ 61) (hmn : mn + len < 64)
    (kk : ∀ σ' w, (∀ u, u < len → σ'.2 (m + 11) (64 * t + (mn + u)) = q.2 (fr + u)) → (∀ u, u < mn → σ'.2 (m + 11) (64 * t + u) = σ0.2 (m + 11) (64 * t + u)) → Lq m t σ0 σ' → zz_G X 2 p_Mo_laysQueue 55 [zP 12 0 0 m, zI (v : Nat), zI (t : Nat), zI kind, zI x, zI n, zI fr0, zI ((fr + len : Nat) : Int), zI ((mn + len : Nat) : Int), w] [] σ' Post) :
    ∀ (r u : Nat) (σ : zz_M), u + r = len → (∀ u', u' < u → σ.2 (m + 11) (64 * t + (mn + u')) = q.2 (fr + u')) → (∀ u, u < mn → σ.2 (m + 11) (64 * t + u) = σ0.2 (m + 11) (64 * t + u)) → Lq m t σ0 σ → zz_G X 2 p_Mo_laysQueue 37 [zP 12 0 0 m, zI (v : Nat), zI (t : Nat), zI kind, zI x, zI n, zI fr0, zI ((fr + len : Nat) : Int), zI ((mn + u : Nat) : Int), zI ((fr + u : Nat) : Int)] [] σ Post := by
  intro r
  induction r with
  | zero =>
    intro u σ hu h1 h2 h3
    have e : u = len := hu
    subst e
    refine zz_gsn 2 rfl ?_
    refine zz_br rfl (fun h39 => ?_) (fun h39 => absurd h39 (by omega))
    exact kk σ _ h1 h2 h3
  | succ r ih =>
    intro u σ hu h1 h2 h3
    have hx : σ.2 (m + 11) (64 * v + (fr + u)) = q.2 (fr + u) := by
      rw [h3.2 _ _ (by omega)]
      exact hq _ (by omega)
    refine zz_gsn 2 rfl ?_
    refine zz_br rfl (fun h39 => absurd h39 (by omega)) (fun h39 => ?_)
    refine zz_gsn 10 rfl ?_
    refine zz_cv (n := 3) rfl rfl (t_Mo_asked (v := v) (k := fr + u) hv (by omega)) (Nat.le_of_ble_eq_true rfl) (Nat.le_of_ble_eq_true rfl) (Nat.le_of_ble_eq_true rfl) (fun r50 σ50 q50 => ?_)
    obtain ⟨rfl, rfl⟩ := q50
    rw [hx]
    rw [zw_64 ht (by omega)]
    refine zz_ast rfl (⟨by omega, by omega⟩) ?_
    refine zz_gsn 2 rfl ?_
    refine zz_jp rfl ?_
    rw [zw_s (by omega), zw_s (by omega), Int.toNat_natCast]
    refine ih (u + 1) _ (by omega) (fun u' hu' => ?_) (fun u' hu' => ?_) (h3.sa (by omega))
    · by_cases e : u' = u
      · subst e
        exact sa_h _ _ _ _
      · rw [sa_i _ _ (by omega)]
        exact h1 u' (by omega)
    · rw [sa_i _ _ (by omega)]
      exact h2 u' hu'
theorem t_Mo_laysQueue {X : zz_X} {σ : zz_M} {m v t : Nat} {kind x : Int} {q : zq_T} (hq : QM σ m v q) (hv : v < 61) (ht : t < 61) (hvt : v ≠ t) (hk : 0 ≤ kind ∧ kind ≤ 3) (hq60 : q.1 ≤ 60) (hpos : kind = 1 ∨ kind = 3 → 0 < q.1) : zz_T X 2 p_Mo_laysQueue [zP 12 0 0 m, zI (v : Nat), zI (t : Nat), zI kind, zI x] σ (fun r σ' => r = none ∧ QM σ' m t (zq_chg kind x q) ∧ σ'.1 = σ.1 ∧ (∀ a i, ¬ (a = m + 11 ∧ 64 * t ≤ i ∧ i < 64 * t + 64) → ¬ (a = m + 12 ∧ i = t) → σ'.2 a i = σ.2 a i)) := by
  refine zz_mk k_Mo_laysQueue o_Mo_laysQueue rfl rfl (Nat.le_of_ble_eq_true rfl) ?_
  show zz_G X 2 p_Mo_laysQueue 0 [zP 12 0 0 m, zI (v : Nat), zI (t : Nat), zI kind, zI x, zU, zU, zU, zU, zU] [] σ _
  have hq1 := hq.1
  rcases (show kind = 0 ∨ kind = 1 ∨ kind = 2 ∨ kind = 3 by omega) with ek | ek | ek | ek
  · subst ek
    refine zz_gsn 3 rfl ?_
    refine zz_ald rfl (⟨by omega, by omega⟩) ?_
    rw [show σ.2 (m + 12) (Int.toNat (v : Int)) = (q.1 : Nat) from hq1]
    refine zz_gsn 3 rfl ?_
    refine zz_br rfl (fun h7 => ?_) (fun h7 => absurd h7 (by decide))
    refine zz_gsn 4 rfl ?_
    refine zz_br rfl (fun h14 => ?_) (fun h14 => absurd h14 (by decide))
    refine zz_gsn 6 rfl ?_
    refine zz_br rfl (fun h25 => ?_) (fun h25 => absurd h25 (by decide))
    refine zz_gsn 2 rfl ?_
    refine zz_lse (ls' := [zP 12 0 0 m, zI (v : Nat), zI (t : Nat), zI 0, zI x, zI (q.1 : Nat), zI 0, zI ((0 + (q.1) : Nat) : Int), zI ((0 + 0 : Nat) : Int), zI ((0 + 0 : Nat) : Int)]) (by rw [show (0 + (q.1) : Nat) = q.1 by omega]; rfl) ?_
    refine lp_rlay (q := q) (fr := 0) (len := q.1) (mn := 0) (σ0 := σ) hv ht hvt hq.2 (by omega) (by omega) (by omega) (fun σ1 w1 u1 u2 L1 => ?_) (q.1) 0 σ (Nat.zero_add _) (fun u hu => absurd hu (Nat.not_lt_zero u)) (fun _ _ => rfl) Lq.rf
    refine zz_gsn 1 rfl ?_
    refine zz_br rfl (fun h56 => absurd rfl h56) (fun h56 => ?_)
    refine zz_gsn 8 rfl ?_
    rw [show (0 + q.1 : Nat) = q.1 by omega, zw_64 ht (by omega)]
    refine zz_ast rfl (⟨by omega, by omega⟩) ?_
    refine zz_gsn 1 rfl ?_
    rw [zw_s (by omega)]
    refine zz_gsn 4 rfl ?_
    refine zz_ast rfl (⟨by omega, by omega⟩) ?_
    refine zz_rv rfl rfl ?_
    rw [Int.toNat_natCast, Int.toNat_natCast]
    have z1 : zq_chg 0 x q = zq_ins q.1 x q := rfl
    rw [z1]
    refine ⟨rfl, ⟨?_, fun i hi => ?_⟩, L1.1, fun a i h1 h2 => ?_⟩
    · rw [sa_h]; rfl
    · have hi2 : i < q.1 + 1 := hi
      show _ = if i < q.1 then q.2 i else if i = q.1 then x else q.2 (i - 1)
      rw [sa_a _ _ (by omega)]
      by_cases e : i = q.1
      · rw [if_neg (by omega), if_pos e, e, sa_h]
      · rw [if_pos (by omega), sa_i _ _ (by omega)]
        have y := u1 i (by omega)
        rw [Nat.zero_add] at y
        exact y
    · rw [sa_2, if_neg h2, sa_2, if_neg (fun z => h1 ⟨z.1, by omega, by omega⟩)]
      exact L1.2 a i h1
  · subst ek
    have hp := hpos (Or.inl rfl)
    refine zz_gsn 3 rfl ?_
    refine zz_ald rfl (⟨by omega, by omega⟩) ?_
    rw [show σ.2 (m + 12) (Int.toNat (v : Int)) = (q.1 : Nat) from hq1]
    refine zz_gsn 3 rfl ?_
    refine zz_br rfl (fun h7 => absurd rfl h7) (fun h7 => ?_)
    refine zz_gsn 1 rfl ?_
    refine zz_jp rfl ?_
    refine zz_gsn 3 rfl ?_
    refine zz_br rfl (fun h14 => ?_) (fun h14 => absurd h14 (by decide))
    refine zz_gsn 6 rfl ?_
    refine zz_br rfl (fun h25 => ?_) (fun h25 => absurd h25 (by decide))
    refine zz_gsn 2 rfl ?_
    refine zz_lse (ls' := [zP 12 0 0 m, zI (v : Nat), zI (t : Nat), zI 1, zI x, zI (q.1 : Nat), zI 1, zI ((1 + (q.1 - 1) : Nat) : Int), zI ((0 + 0 : Nat) : Int), zI ((1 + 0 : Nat) : Int)]) (by rw [show (1 + (q.1 - 1) : Nat) = q.1 by omega]; rfl) ?_
    refine lp_rlay (q := q) (fr := 1) (len := q.1 - 1) (mn := 0) (σ0 := σ) hv ht hvt hq.2 (by omega) (by omega) (by omega) (fun σ1 w1 u1 u2 L1 => ?_) (q.1 - 1) 0 σ (Nat.zero_add _) (fun u hu => absurd hu (Nat.not_lt_zero u)) (fun _ _ => rfl) Lq.rf
    refine zz_gsn 1 rfl ?_
    refine zz_br rfl (fun h56 => ?_) (fun h56 => absurd h56 (by decide))
    refine zz_gsn 4 rfl ?_
    refine zz_ast rfl (⟨by omega, by omega⟩) ?_
    refine zz_rv rfl rfl ?_
    rw [Int.toNat_natCast]
    have z1 : zq_chg 1 x q = zq_rem 0 q := rfl
    rw [z1]
    refine ⟨rfl, ⟨?_, fun i hi => ?_⟩, L1.1, fun a i h1 h2 => ?_⟩
    · rw [sa_h, Nat.zero_add]; rfl
    · have hi2 : i < q.1 - 1 := hi
      show _ = if i < 0 then q.2 i else q.2 (i + 1)
      rw [sa_a _ _ (by omega), if_neg (by omega)]
      have y := u1 i hi2
      rw [Nat.zero_add, Nat.add_comm 1 i] at y
      exact y
    · rw [sa_2, if_neg h2]
      exact L1.2 a i h1
  · subst ek
    refine zz_gsn 3 rfl ?_
    refine zz_ald rfl (⟨by omega, by omega⟩) ?_
    rw [show σ.2 (m + 12) (Int.toNat (v : Int)) = (q.1 : Nat) from hq1]
    refine zz_gsn 3 rfl ?_
    refine zz_br rfl (fun h7 => ?_) (fun h7 => absurd h7 (by decide))
    refine zz_gsn 4 rfl ?_
    refine zz_br rfl (fun h14 => ?_) (fun h14 => absurd h14 (by decide))
    refine zz_gsn 6 rfl ?_
    refine zz_br rfl (fun h25 => absurd rfl h25) (fun h25 => ?_)
    refine zz_gsn 6 rfl ?_
    refine zz_ast rfl (by rw [zw_64' ht]; exact ⟨by omega, by omega⟩) ?_
    refine zz_gsn 4 rfl ?_
    refine zz_sge (σ' := zz_sa σ (m + 11) (64 * t) x) (by rw [zw_64' ht, Int.toNat_natCast]) ?_
    refine zz_lse (ls' := [zP 12 0 0 m, zI (v : Nat), zI (t : Nat), zI 2, zI x, zI (q.1 : Nat), zI 0, zI ((0 + (q.1) : Nat) : Int), zI ((1 + 0 : Nat) : Int), zI ((0 + 0 : Nat) : Int)]) (by rw [show (0 + (q.1) : Nat) = q.1 by omega]; rfl) ?_
    refine lp_rlay (q := q) (fr := 0) (len := q.1) (mn := 1) (σ0 := (zz_sa σ (m + 11) (64 * t) x)) hv ht hvt (fun i hi => by rw [sa_i _ _ (by omega)]; exact hq.2 i hi) (by omega) (by omega) (by omega) (fun σ1 w1 u1 u2 L1 => ?_) (q.1) 0 (zz_sa σ (m + 11) (64 * t) x) (Nat.zero_add _) (fun u hu => absurd hu (Nat.not_lt_zero u)) (fun _ _ => rfl) Lq.rf
    refine zz_gsn 1 rfl ?_
    refine zz_br rfl (fun h56 => ?_) (fun h56 => absurd h56 (by decide))
    refine zz_gsn 4 rfl ?_
    refine zz_ast rfl (⟨by omega, by omega⟩) ?_
    refine zz_rv rfl rfl ?_
    rw [Int.toNat_natCast]
    have z1 : zq_chg 2 x q = zq_ins 0 x q := rfl
    rw [z1]
    refine ⟨rfl, ⟨?_, fun i hi => ?_⟩, L1.1, fun a i h1 h2 => ?_⟩
    · rw [sa_h]
      show ((1 + q.1 : Nat) : Int) = ((q.1 + 1 : Nat) : Int)
      omega
    · have hi2 : i < q.1 + 1 := hi
      show _ = if i < 0 then q.2 i else if i = 0 then x else q.2 (i - 1)
      rw [sa_a _ _ (by omega), if_neg (by omega)]
      by_cases e : i = 0
      · rw [if_pos e, e]
        have y := u2 0 (by omega)
        rw [y]
        exact sa_h _ _ _ _
      · rw [if_neg e]
        have y := u1 (i - 1) (by omega)
        rw [show 1 + (i - 1) = i by omega, Nat.zero_add] at y
        exact y
    · rw [sa_2, if_neg h2, L1.2 a i h1]
      rw [sa_2, if_neg (fun z => h1 ⟨z.1, by omega, by omega⟩)]
  · subst ek
    have hp := hpos (Or.inr rfl)
    refine zz_gsn 3 rfl ?_
    refine zz_ald rfl (⟨by omega, by omega⟩) ?_
    rw [show σ.2 (m + 12) (Int.toNat (v : Int)) = (q.1 : Nat) from hq1]
    refine zz_gsn 3 rfl ?_
    refine zz_br rfl (fun h7 => ?_) (fun h7 => absurd h7 (by decide))
    refine zz_gsn 4 rfl ?_
    refine zz_br rfl (fun h14 => absurd rfl h14) (fun h14 => ?_)
    refine zz_gsn 3 rfl ?_
    refine zz_jp rfl ?_
    refine zz_gsn 5 rfl ?_
    refine zz_br rfl (fun h25 => ?_) (fun h25 => absurd h25 (by decide))
    refine zz_gsn 2 rfl ?_
    refine zz_lse (ls' := [zP 12 0 0 m, zI (v : Nat), zI (t : Nat), zI 3, zI x, zI (q.1 : Nat), zI 0, zI ((0 + (q.1 - 1) : Nat) : Int), zI ((0 + 0 : Nat) : Int), zI ((0 + 0 : Nat) : Int)]) (by rw [zw_p (by omega) (by omega), show (0 + (q.1 - 1) : Nat) = q.1 - 1 by omega]; rfl) ?_
    refine lp_rlay (q := q) (fr := 0) (len := q.1 - 1) (mn := 0) (σ0 := σ) hv ht hvt hq.2 (by omega) (by omega) (by omega) (fun σ1 w1 u1 u2 L1 => ?_) (q.1 - 1) 0 σ (Nat.zero_add _) (fun u hu => absurd hu (Nat.not_lt_zero u)) (fun _ _ => rfl) Lq.rf
    refine zz_gsn 1 rfl ?_
    refine zz_br rfl (fun h56 => ?_) (fun h56 => absurd h56 (by decide))
    refine zz_gsn 4 rfl ?_
    refine zz_ast rfl (⟨by omega, by omega⟩) ?_
    refine zz_rv rfl rfl ?_
    rw [Int.toNat_natCast]
    have z1 : zq_chg 3 x q = zq_rem (q.1 - 1) q := rfl
    rw [z1]
    refine ⟨rfl, ⟨?_, fun i hi => ?_⟩, L1.1, fun a i h1 h2 => ?_⟩
    · rw [sa_h, Nat.zero_add]; rfl
    · have hi2 : i < q.1 - 1 := hi
      show _ = if i < q.1 - 1 then q.2 i else q.2 (i + 1)
      rw [sa_a _ _ (by omega), if_pos hi2]
      have y := u1 i hi2
      rw [Nat.zero_add] at y
      exact y
    · rw [sa_2, if_neg h2]
      exact L1.2 a i h1
