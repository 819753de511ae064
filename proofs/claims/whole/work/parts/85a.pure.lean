/-! told alike -/
/-- the numbers in a row -/
def rl (W : zz_W) (r : Nat) : List Int := (W.R r).map W.num
def g_ns : List Int → List Int
  | [] => []
  | x :: l => 32 :: (zt_n x.toNat ++ g_ns l)
theorem g_cs_ns (num : Nat → Int) : ∀ l : List Nat, g_cs num l = g_ns (l.map num)
  | [] => rfl
  | c :: l => by
    show 32 :: (zt_n (num c).toNat ++ g_cs num l) = 32 :: (zt_n (num c).toNat ++ g_ns (l.map num))
    rw [g_cs_ns num l]
theorem g_rw_ns (k : Nat) (W : zz_W) (r : Nat) : g_rw k W r = zt_w k ++ g_ns (rl W r) := by
  unfold g_rw rl
  rw [g_cs_ns]
def z_nd (l : List Int) : Prop := ∀ x, l.head? = some x → x < 48 ∨ 57 < x
def z_nb (l : List Int) : Prop := ∀ x, l.head? = some x → x = 124
def z_ok (l : List Int) : Prop := ∀ x ∈ l, 0 ≤ x ∧ x ≤ 99
theorem nb_c {X : List Int} : z_nb (124 :: X) := fun x h => by
  injection h with h
  exact h.symm
theorem nb_n : z_nb [] := fun x h => by cases h
theorem nd_ns {l T : List Int} (h : z_nb T) : z_nd (g_ns l ++ T) := fun x hx => by
  cases l with
  | nil =>
    have := h x hx
    omega
  | cons y l =>
    injection hx with hx
    omega
theorem nd_nb {T : List Int} (h : z_nb T) : z_nd T := nd_ns (l := []) h
theorem zt_n2 {n : Nat} (h : 10 ≤ n) : zt_n n = [((48 + n / 10 % 10 : Nat) : Int), ((48 + n % 10 : Nat) : Int)] := if_pos h
theorem zt_n1 {n : Nat} (h : ¬ 10 ≤ n) : zt_n n = [((48 + n % 10 : Nat) : Int)] := if_neg h
theorem zt_n_inj {x y : Nat} {r r' : List Int} (hx : x < 100) (hy : y < 100) (h1 : z_nd r) (h2 : z_nd r') (h : zt_n x ++ r = zt_n y ++ r') : x = y ∧ r = r' := by
  by_cases a : 10 ≤ x <;> by_cases b : 10 ≤ y
  · rw [zt_n2 a, zt_n2 b] at h
    injection h with e1 h
    injection h with e2 h
    exact ⟨by omega, h⟩
  · rw [zt_n2 a, zt_n1 b] at h
    injection h with e1 h
    have z := h2 ((48 + x % 10 : Nat) : Int) (by
      have h3 : ((48 + x % 10 : Nat) : Int) :: r = r' := h
      rw [← h3]
      rfl)
    omega
  · rw [zt_n1 a, zt_n2 b] at h
    injection h with e1 h
    have z := h1 ((48 + y % 10 : Nat) : Int) (by
      have h3 : r = ((48 + y % 10 : Nat) : Int) :: r' := h
      rw [h3]
      rfl)
    omega
  · rw [zt_n1 a, zt_n1 b] at h
    injection h with e1 h
    exact ⟨by omega, h⟩
theorem g_ns_inj : ∀ {l l' T T' : List Int}, z_ok l → z_ok l' → z_nb T → z_nb T' → g_ns l ++ T = g_ns l' ++ T' → l = l' ∧ T = T'
  | [], [], T, T', _, _, _, _, h => ⟨rfl, h⟩
  | [], y :: l', T, T', _, _, h1, _, h => by
    have h3 : T = 32 :: (zt_n y.toNat ++ g_ns l' ++ T') := h
    have z := h1 32 (by rw [h3]; rfl)
    exact absurd z (by decide)
  | x :: l, [], T, T', _, _, _, h2, h => by
    have h3 : 32 :: (zt_n x.toNat ++ g_ns l ++ T) = T' := h
    have z := h2 32 (by rw [← h3]; rfl)
    exact absurd z (by decide)
  | x :: l, y :: l', T, T', k1, k2, h1, h2, h => by
    have h3 : 32 :: (zt_n x.toNat ++ g_ns l ++ T) = 32 :: (zt_n y.toNat ++ g_ns l' ++ T') := h
    injection h3 with _ h3
    rw [List.append_assoc, List.append_assoc] at h3
    have b1 := k1 x List.mem_cons_self
    have b2 := k2 y List.mem_cons_self
    obtain ⟨e1, e2⟩ := zt_n_inj (by omega) (by omega) (nd_ns h1) (nd_ns h2) h3
    obtain ⟨e3, e4⟩ := g_ns_inj (fun z hz => k1 z (List.mem_cons_of_mem _ hz)) (fun z hz => k2 z (List.mem_cons_of_mem _ hz)) h1 h2 e2
    have e5 : x = y := by omega
    rw [e5, e3]
    exact ⟨rfl, e4⟩
/-- told alike -/
def TWN (W W' : zz_W) : Prop := rl W 0 = rl W' 0 ∧ rl W 1 = rl W' 1 ∧ W.S 7 = W'.S 7 ∧ W.S 9 = W'.S 9 ∧ W.S 10 = W'.S 10 ∧ (W.S 7 = 0 ∨ (W.S 8 = W'.S 8 ∧ rl W 3 = rl W' 3 ∧ rl W 5 = rl W' 5 ∧ (W.S 7 = 2 ∨ (rl W 2 = rl W' 2 ∧ rl W 4 = rl W' 4))))
theorem lt7 : zt_w 7 = [102] := by decide
theorem lt8 : zt_w 8 = [124, 98] := by decide
theorem lt9 : zt_w 9 = [124, 116, 117, 114, 110, 105, 110, 103, 32] := by decide
theorem lt10 : zt_w 10 = [124, 97] := by decide
theorem lt11 : zt_w 11 = [124, 99] := by decide
theorem lt12 : zt_w 12 = [124, 100] := by decide
theorem lt13 : zt_w 13 = [124, 101] := by decide
theorem lt14 : zt_w 14 = [124, 106, 111, 105, 110, 105, 110, 103, 32] := by decide
theorem lt15 : zt_w 15 = [124, 105, 100, 108, 101] := by decide
theorem lt16 : zt_w 16 = [124, 111, 119, 101, 115, 32] := by decide
theorem lt17 : zt_w 17 = [32] := by decide
theorem tu1 {W : zz_W} (h : W.S 7 = 1) : g_tu W = 124 :: 116 :: ([117, 114, 110, 105, 110, 103, 32] ++ (zt_n (W.S 8).toNat ++ (124 :: 97 :: (g_ns (rl W 2) ++ (124 :: 99 :: (g_ns (rl W 3) ++ (124 :: 100 :: (g_ns (rl W 4) ++ (124 :: 101 :: (g_ns (rl W 5) ++ []))))))))) ) := by
  have e : g_tu W = zt_w 9 ++ zt_n (W.S 8).toNat ++ g_rw 10 W 2 ++ g_rw 11 W 3 ++ g_rw 12 W 4 ++ g_rw 13 W 5 := if_pos h
  rw [e, g_rw_ns, g_rw_ns, g_rw_ns, g_rw_ns, lt9, lt10, lt11, lt12, lt13]
  simp only [List.append_assoc, List.cons_append, List.nil_append, List.append_nil]
theorem tu2 {W : zz_W} (h : W.S 7 = 2) : g_tu W = 124 :: 106 :: ([111, 105, 110, 105, 110, 103, 32] ++ (zt_n (W.S 8).toNat ++ (124 :: 99 :: (g_ns (rl W 3) ++ (124 :: 101 :: (g_ns (rl W 5) ++ [])))))) := by
  have e : g_tu W = zt_w 14 ++ zt_n (W.S 8).toNat ++ g_rw 11 W 3 ++ g_rw 13 W 5 := (if_neg (by omega)).trans (if_pos h)
  rw [e, g_rw_ns, g_rw_ns, lt14, lt11, lt13]
  simp only [List.append_assoc, List.cons_append, List.nil_append, List.append_nil]
theorem tu0 {W : zz_W} (h : W.S 7 = 0) : g_tu W = 124 :: 105 :: [100, 108, 101] := ((if_neg (by omega)).trans (if_neg (by omega))).trans lt15
theorem ow_e (W : zz_W) : g_ow W = 124 :: ([111, 119, 101, 115, 32] ++ (zt_n (W.S 9).toNat ++ (32 :: (zt_n (W.S 10).toNat ++ [])))) := by
  unfold g_ow
  rw [lt16, lt17]
  simp only [List.append_assoc, List.cons_append, List.nil_append, List.append_nil]
def g_ta (law : Int) (W : zz_W) : List Int := if law = 1 then g_tu W else if law = 2 then g_ow W else []
theorem tx_e (law : Int) (W : zz_W) : g_tx law W = 102 :: (g_ns (rl W 0) ++ (124 :: 98 :: (g_ns (rl W 1) ++ g_ta law W))) := by
  unfold g_tx g_ta
  rw [g_rw_ns, g_rw_ns, lt7, lt8]
  simp only [List.append_assoc, List.cons_append, List.nil_append]
theorem ta_nb {law : Int} {W : zz_W} (h : W.S 7 = 0 ∨ W.S 7 = 1 ∨ W.S 7 = 2) : z_nb (g_ta law W) := by
  unfold g_ta
  split
  · rcases h with h | h | h
    · rw [tu0 h]
      exact nb_c
    · rw [tu1 h]
      exact nb_c
    · rw [tu2 h]
      exact nb_c
  · split
    · rw [ow_e]
      exact nb_c
    · exact nb_n
