/-! ways -/
/-- so many steps up from a VERSION, by what it was made of -/
def zd_up (D : zz_D) : Nat → Nat → Nat
  | 0, u => u
  | n + 1, u => zd_up D n (zd_B D (u - 1))
theorem zd_up_s (D : zz_D) : ∀ (n u : Nat), zd_up D (n + 1) u = zd_B D (zd_up D n u - 1)
  | 0, _ => rfl
  | n + 1, u => zd_up_s D n (zd_B D (u - 1))
abbrev dpp (D : zz_D) (u : Nat) : Nat := zd_dep D u u
theorem dpp_0 (D : zz_D) : dpp D 0 = 0 := rfl
theorem dpp_p {D : zz_D} {k u : Nat} (h : zd_ok k D) (h0 : 0 < u) (hu : u ≤ k) : dpp D u = dpp D (zd_B D (u - 1)) + 1 := by
  obtain ⟨w, rfl⟩ : ∃ w, u = w + 1 := ⟨u - 1, by omega⟩
  exact dep_s h (by omega)
theorem dpp_z {D : zz_D} {k u : Nat} (h : zd_ok k D) (hu : u ≤ k) (e : dpp D u = 0) : u = 0 := by
  rcases Nat.eq_zero_or_pos u with z | z
  · exact z
  · have := dpp_p h z hu
    omega
theorem zd_upB {D : zz_D} {k u : Nat} (h : zd_ok k D) (h0 : 0 < u) (hu : u ≤ k) : zd_B D (u - 1) < u := by
  have := h (u - 1) (by omega)
  omega
/-- steps up from u, as long as there are some -/
theorem zd_up_d {D : zz_D} {k v : Nat} (h : zd_ok k D) (hv : v ≤ k) : ∀ t, t ≤ dpp D v → zd_up D t v ≤ v ∧ dpp D (zd_up D t v) + t = dpp D v
  | 0, _ => ⟨Nat.le_refl _, rfl⟩
  | t + 1, ht => by
    obtain ⟨h1, h2⟩ := zd_up_d h hv t (by omega)
    have hp : 0 < zd_up D t v := by
      rcases Nat.eq_zero_or_pos (zd_up D t v) with z | z
      · rw [z, dpp_0] at h2
        omega
      · exact z
    have h3 := dpp_p h hp (by omega)
    have h4 := zd_upB h hp (by omega)
    rw [zd_up_s]
    exact ⟨by omega, by omega⟩
theorem zd_up_p {D : zz_D} {k v t : Nat} (h : zd_ok k D) (hv : v ≤ k) (ht : t < dpp D v) : 0 < zd_up D t v := by
  obtain ⟨h1, h2⟩ := zd_up_d h hv t (by omega)
  rcases Nat.eq_zero_or_pos (zd_up D t v) with z | z
  · rw [z, dpp_0] at h2
    omega
  · exact z
theorem zd_up_z {D : zz_D} {k v : Nat} (h : zd_ok k D) (hv : v ≤ k) : zd_up D (dpp D v) v = 0 := by
  obtain ⟨h1, h2⟩ := zd_up_d h hv (dpp D v) (Nat.le_refl _)
  exact dpp_z h (by omega) (by omega)
/-- it gets less at each step -/
theorem zd_up_l {D : zz_D} {k v : Nat} (h : zd_ok k D) (hv : v ≤ k) {t : Nat} : ∀ s, t + (s + 1) ≤ dpp D v → zd_up D (t + (s + 1)) v < zd_up D t v
  | 0, hs => by
    rw [zd_up_s]
    exact zd_upB h (zd_up_p h hv (by omega)) (Nat.le_trans (zd_up_d h hv t (by omega)).1 hv)
  | s + 1, hs => by
    have ih := zd_up_l h hv (t := t) s (by omega)
    have e : t + (s + 1 + 1) = (t + (s + 1)) + 1 := rfl
    rw [e, zd_up_s]
    exact Nat.lt_trans (zd_upB h (zd_up_p h hv (by omega)) (Nat.le_trans (zd_up_d h hv (t + (s + 1)) (by omega)).1 hv)) ih
/-- how many DEEDS lie on the way from u to v; -1: there is none -/
def zd_wn (D : zz_D) (u v : Nat) : Int := if dpp D u ≤ dpp D v ∧ zd_up D (dpp D v - dpp D u) v = u then ((dpp D v - dpp D u : Nat) : Int) else -1
/-- the i-th DEED of a way of n ones to v -/
def zd_w (D : zz_D) (v n i : Nat) : Nat := zd_up D (n - 1 - i) v - 1
theorem zd_wn_b {D : zz_D} {k u v : Nat} (h : zd_ok k D) (hv : v ≤ k) (hk : k ≤ 60) : -1 ≤ zd_wn D u v ∧ zd_wn D u v ≤ 60 := by
  have hd : dpp D v ≤ v := zd_dep_le h v v hv
  unfold zd_wn
  split <;> omega
theorem zd_wn_0 {D : zz_D} {k v : Nat} (h : zd_ok k D) (hv : v ≤ k) : zd_wn D 0 v = (dpp D v : Nat) := by
  unfold zd_wn
  rw [dpp_0, Nat.sub_zero]
  exact if_pos ⟨Nat.zero_le _, zd_up_z h hv⟩
/-- the first step up at which it is u or less tells whether there is a way -/
theorem zd_wn_t {D : zz_D} {k u v n : Nat} (h : zd_ok k D) (hv : v ≤ k) (h1 : ∀ s, s < n → u < zd_up D s v) (h2 : zd_up D n v ≤ u) : n ≤ dpp D v ∧ ((zd_up D n v = u ∧ zd_wn D u v = (n : Nat)) ∨ (zd_up D n v ≠ u ∧ zd_wn D u v = -1)) := by
  have hn : n ≤ dpp D v := by
    rcases Nat.lt_or_ge (dpp D v) n with z | z
    · have := h1 (dpp D v) z
      rw [zd_up_z h hv] at this
      omega
    · exact z
  refine ⟨hn, ?_⟩
  obtain ⟨d1, d2⟩ := zd_up_d h hv n hn
  by_cases e : zd_up D n v = u
  · refine Or.inl ⟨e, ?_⟩
    rw [e] at d2
    have e2 : dpp D v - dpp D u = n := by omega
    unfold zd_wn
    rw [e2]
    exact if_pos ⟨by omega, e⟩
  · refine Or.inr ⟨e, if_neg (fun z => ?_)⟩
    obtain ⟨z1, z2⟩ := z
    obtain ⟨N, hN⟩ : ∃ N, N = dpp D v - dpp D u := ⟨_, rfl⟩
    rw [← hN] at z2
    rcases Nat.lt_trichotomy n N with q | q | q
    · obtain ⟨s, rfl⟩ : ∃ s, N = n + (s + 1) := ⟨N - n - 1, by omega⟩
      have := zd_up_l h hv (t := n) s (by omega)
      omega
    · subst q
      exact e z2
    · have := h1 N q
      omega
theorem zz_sum_sh (f : Nat → Int) : ∀ n, zz_sum f (n + 1) = f 0 + zz_sum (fun i => f (i + 1)) n
  | 0 => by
    show (0 : Int) + f 0 = f 0 + 0
    omega
  | n + 1 => by
    show zz_sum f (n + 1) + f (n + 1) = f 0 + (zz_sum (fun i => f (i + 1)) n + f (n + 1))
    rw [zz_sum_sh f n]
    omega
theorem zz_sum_rv (f : Nat → Int) : ∀ n, zz_sum (fun i => f (n - 1 - i)) n = zz_sum f n
  | 0 => rfl
  | n + 1 => by
    rw [zz_sum_sh]
    show f (n + 1 - 1 - 0) + zz_sum (fun i => f (n + 1 - 1 - (i + 1))) n = zz_sum f n + f n
    have e : zz_sum (fun i => f (n + 1 - 1 - (i + 1))) n = zz_sum (fun i => f (n - 1 - i)) n := zz_sum_c (fun j hj => by
      show f (n + 1 - 1 - (j + 1)) = f (n - 1 - j)
      congr 1
      omega)
    rw [e, zz_sum_rv f n]
    show f n + zz_sum f n = _
    omega
theorem mx_sh (f : Nat → Int) : ∀ n, mx f (n + 1) = max (f 0) (mx (fun i => f (i + 1)) n)
  | 0 => by
    show max 0 (f 0) = max (f 0) 0
    omega
  | n + 1 => by
    show max (mx f (n + 1)) (f (n + 1)) = max (f 0) (max (mx (fun i => f (i + 1)) n) (f (n + 1)))
    rw [mx_sh f n]
    omega
theorem mx_c {f g : Nat → Int} : ∀ {n : Nat}, (∀ j, j < n → f j = g j) → mx f n = mx g n
  | 0, _ => rfl
  | n + 1, h => by
    show max (mx f n) (f n) = max (mx g n) (g n)
    rw [mx_c (fun j hj => h j (by omega)), h n (by omega)]
theorem mx_rv (f : Nat → Int) : ∀ n, mx (fun i => f (n - 1 - i)) n = mx f n
  | 0 => rfl
  | n + 1 => by
    rw [mx_sh]
    show max (f (n + 1 - 1 - 0)) (mx (fun i => f (n + 1 - 1 - (i + 1))) n) = max (mx f n) (f n)
    have e : mx (fun i => f (n + 1 - 1 - (i + 1))) n = mx (fun i => f (n - 1 - i)) n := mx_c (fun j hj => by
      show f (n + 1 - 1 - (j + 1)) = f (n - 1 - j)
      congr 1
      omega)
    rw [e, mx_rv f n]
    show max (f n) (mx f n) = _
    omega
theorem mx_b {f : Nat → Int} {k j : Nat} (h : ∀ i, i < k → 0 ≤ f i ∧ f i ≤ 200) (hj : j ≤ k) : 0 ≤ mx f j ∧ mx f j ≤ 200 := by
  induction j with
  | zero =>
    show (0 : Int) ≤ 0 ∧ (0 : Int) ≤ 200
    decide
  | succ j ih =>
    have h1 := ih (by omega)
    have h2 := h j (by omega)
    show 0 ≤ max (mx f j) (f j) ∧ max (mx f j) (f j) ≤ 200
    omega
