/-! how a VERSION is told -/
/-- how a row of cells is told -/
def g_cs (num : Nat → Int) : List Nat → List Int
  | [] => []
  | c :: l => 32 :: (zt_n (num c).toNat ++ g_cs num l)
def g_rw (k : Nat) (W : zz_W) (r : Nat) : List Int := zt_w k ++ g_cs W.num (W.R r)
def g_tu (W : zz_W) : List Int := if W.S 7 = 1 then zt_w 9 ++ zt_n (W.S 8).toNat ++ g_rw 10 W 2 ++ g_rw 11 W 3 ++ g_rw 12 W 4 ++ g_rw 13 W 5 else if W.S 7 = 2 then zt_w 14 ++ zt_n (W.S 8).toNat ++ g_rw 11 W 3 ++ g_rw 13 W 5 else zt_w 15
def g_ow (W : zz_W) : List Int := zt_w 16 ++ zt_n (W.S 9).toNat ++ zt_w 17 ++ zt_n (W.S 10).toNat
def g_tx (law : Int) (W : zz_W) : List Int := g_rw 7 W 0 ++ g_rw 8 W 1 ++ (if law = 1 then g_tu W else if law = 2 then g_ow W else [])
theorem g_cs_a (num : Nat → Int) (l r : List Nat) : g_cs num (l ++ r) = g_cs num l ++ g_cs num r := by
  induction l with
  | nil => rfl
  | cons c l ih =>
    show 32 :: (zt_n (num c).toNat ++ g_cs num (l ++ r)) = 32 :: (zt_n (num c).toNat ++ g_cs num l) ++ g_cs num r
    rw [ih, List.cons_append, List.append_assoc]
theorem g_cs_len (num : Nat → Int) : ∀ l : List Nat, (g_cs num l).length ≤ 3 * l.length
  | [] => Nat.le_refl _
  | c :: l => by
    have ih := g_cs_len num l
    have h := zt_n_len (num c).toNat
    show (zt_n (num c).toNat ++ g_cs num l).length + 1 ≤ 3 * (l.length + 1)
    rw [List.length_append]
    omega
theorem g_cs_c {num num' : Nat → Int} : ∀ {l : List Nat}, (∀ c ∈ l, num c = num' c) → g_cs num l = g_cs num' l
  | [], _ => rfl
  | c :: l, h => by
    show 32 :: (zt_n (num c).toNat ++ g_cs num l) = 32 :: (zt_n (num' c).toNat ++ g_cs num' l)
    rw [h c List.mem_cons_self, g_cs_c (fun d hd => h d (List.mem_cons_of_mem _ hd))]
theorem zt_n_b {n : Nat} : ∀ x ∈ zt_n n, 48 ≤ x ∧ x ≤ 57 := by
  intro x hx
  unfold zt_n at hx
  split at hx
  · rcases List.mem_cons.mp hx with h | h
    · omega
    · have := List.mem_singleton.mp h
      omega
  · have := List.mem_singleton.mp hx
    omega
theorem g_cs_b {num : Nat → Int} : ∀ {l : List Nat}, ∀ x ∈ g_cs num l, 0 ≤ x ∧ x ≤ 127
  | [], x, hx => absurd hx List.not_mem_nil
  | c :: l, x, hx => by
    have h2 : x ∈ 32 :: (zt_n (num c).toNat ++ g_cs num l) := hx
    rcases List.mem_cons.mp h2 with h | h
    · omega
    · rcases List.mem_append.mp h with h | h
      · have := zt_n_b x h
        omega
      · exact g_cs_b x h
theorem zt_w_b : ∀ k, k < 37 → ∀ x ∈ zt_w k, 0 ≤ x ∧ x ≤ 127 := by decide +kernel
theorem g_rw_b {k r : Nat} {W : zz_W} (hk : k < 37) : ∀ x ∈ g_rw k W r, 0 ≤ x ∧ x ≤ 127 := fun x hx => by
  rcases List.mem_append.mp hx with h | h
  · exact zt_w_b k hk x h
  · exact g_cs_b x h
theorem zt_n_b2 {n : Nat} : ∀ x ∈ zt_n n, 0 ≤ x ∧ x ≤ 127 := fun x hx => by
  have := zt_n_b x hx
  omega
theorem l_app {P : Int → Prop} {l r : List Int} (h1 : ∀ x ∈ l, P x) (h2 : ∀ x ∈ r, P x) : ∀ x ∈ l ++ r, P x := fun x hx => (List.mem_append.mp hx).elim (h1 x) (h2 x)
theorem g_tx_b {law : Int} {W : zz_W} : ∀ x ∈ g_tx law W, 0 ≤ x ∧ x ≤ 127 := by
  unfold g_tx
  refine l_app (l_app (g_rw_b (by decide)) (g_rw_b (by decide))) ?_
  split
  · unfold g_tu
    split
    · exact l_app (l_app (l_app (l_app (l_app (zt_w_b 9 (by decide)) zt_n_b2) (g_rw_b (by decide))) (g_rw_b (by decide))) (g_rw_b (by decide))) (g_rw_b (by decide))
    · split
      · exact l_app (l_app (l_app (zt_w_b 14 (by decide)) zt_n_b2) (g_rw_b (by decide))) (g_rw_b (by decide))
      · exact zt_w_b 15 (by decide)
  · split
    · unfold g_ow
      exact l_app (l_app (l_app (zt_w_b 16 (by decide)) zt_n_b2) (zt_w_b 17 (by decide))) zt_n_b2
    · exact fun x hx => absurd hx List.not_mem_nil
theorem zt_w_l : ∀ k, k < 37 → (zt_w k).length ≤ 9 := by decide +kernel
theorem g_rw_len {k r : Nat} {W : zz_W} (hk : k < 37) : (g_rw k W r).length ≤ 9 + 3 * w_l r W := by
  unfold g_rw
  rw [List.length_append]
  have := zt_w_l k hk
  have h2 : (g_cs W.num (W.R r)).length ≤ 3 * w_l r W := g_cs_len W.num (W.R r)
  omega
/-- what is told stays small -/
theorem IV_tell {law : Int} {B : Nat} {W : zz_W} (h : IV law B W) (hB : B ≤ 60) : (w_l 0 W + w_l 1 W + w_l 2 W + w_l 3 W + w_l 4 W + w_l 5 W ≤ 200) ∧ (0 ≤ W.S 8 ∧ W.S 8 ≤ 99) ∧ (0 ≤ W.S 9 ∧ W.S 9 ≤ 99) ∧ (0 ≤ W.S 10 ∧ W.S 10 ≤ 99) ∧ (W.S 7 = 0 ∨ (law = 1 ∧ (W.S 7 = 1 ∨ W.S 7 = 2))) ∧ (law ≠ 2 → W.S 9 = 0 ∧ W.S 10 = 0) := by
  obtain ⟨h, hp, hb⟩ := h
  have hz : w_len 1 W = (w_l 1 W : Nat) := rfl
  rcases h with ⟨hl, h⟩ | ⟨hl, h⟩ | ⟨hl, h⟩
  · obtain ⟨z1, z2, z3⟩ := h
    have r2 := w_nil' (z2 2 (by decide) (by decide))
    have r3 := w_nil' (z2 3 (by decide) (by decide))
    have r4 := w_nil' (z2 4 (by decide) (by decide))
    have r5 := w_nil' (z2 5 (by decide) (by decide))
    have s7 := z1 7 (by decide) (by decide)
    have s8 := z1 8 (by decide) (by decide)
    have s9 := z1 9 (by decide) (by decide)
    have s10 := z1 10 (by decide) (by decide)
    exact ⟨by omega, by omega, by omega, by omega, Or.inl s7, fun _ => ⟨s9, s10⟩⟩
  · obtain ⟨h9, h10, h11, h⟩ := h
    rcases h with ⟨h, hb⟩ | ⟨N, t, h⟩ | ⟨N, t, h⟩
    · obtain ⟨i7, i2, i3, i4, i5, i8, i0⟩ := h
      exact ⟨by omega, by omega, by omega, by omega, Or.inl i7, fun _ => ⟨h9, h10⟩⟩
    · obtain ⟨a7, a3, a5, a2, a4, a0, a8, a6⟩ := h
      exact ⟨by omega, by omega, by omega, by omega, Or.inr ⟨hl, Or.inl a7⟩, fun _ => ⟨h9, h10⟩⟩
    · obtain ⟨a7, a2, a4, a5, a3, a0, a8, ag, a6⟩ := h
      exact ⟨by omega, by omega, by omega, by omega, Or.inr ⟨hl, Or.inr a7⟩, fun _ => ⟨h9, h10⟩⟩
  · obtain ⟨z1, z2, z3, z4, z5, z6, z7⟩ := h
    have r2 := w_nil' (z2 2 (by decide) (by decide))
    have r3 := w_nil' (z2 3 (by decide) (by decide))
    have r4 := w_nil' (z2 4 (by decide) (by decide))
    have r5 := w_nil' (z2 5 (by decide) (by decide))
    have s7 := z1 7 (by decide) (by decide)
    have s8 := z1 8 (by decide) (by decide)
    exact ⟨by omega, by omega, by omega, by omega, Or.inl s7, fun z => absurd hl z⟩
theorem g_tx_len {law : Int} {B : Nat} {W : zz_W} (h : IV law B W) (hB : B ≤ 60) : (g_tx law W).length ≤ 1000 := by
  have hs := (IV_tell h hB).1
  have n8 := zt_n_len (W.S 8).toNat
  have n9 := zt_n_len (W.S 9).toNat
  have n10 := zt_n_len (W.S 10).toNat
  have w7 := g_rw_len (k := 7) (r := 0) (W := W) (by decide)
  have w8 := g_rw_len (k := 8) (r := 1) (W := W) (by decide)
  have w10 := g_rw_len (k := 10) (r := 2) (W := W) (by decide)
  have w11 := g_rw_len (k := 11) (r := 3) (W := W) (by decide)
  have w12 := g_rw_len (k := 12) (r := 4) (W := W) (by decide)
  have w13 := g_rw_len (k := 13) (r := 5) (W := W) (by decide)
  have v9 := zt_w_l 9 (by decide)
  have v14 := zt_w_l 14 (by decide)
  have v15 := zt_w_l 15 (by decide)
  have v16 := zt_w_l 16 (by decide)
  have v17 := zt_w_l 17 (by decide)
  unfold g_tx
  rw [List.length_append, List.length_append]
  have ht : (if law = 1 then g_tu W else if law = 2 then g_ow W else []).length ≤ 60 + 3 * (w_l 2 W + w_l 3 W + w_l 4 W + w_l 5 W) := by
    split
    · unfold g_tu
      split
      · simp only [List.length_append]
        omega
      · split
        · simp only [List.length_append]
          omega
        · omega
    · split
      · unfold g_ow
        simp only [List.length_append]
        omega
      · exact Nat.zero_le _
  omega
def a_tell (G : zz_J) (v : Int) : Int × zz_J := if vz G.I.ho G.I.k v then (((g_tx G.I.law (hw (gW G) v.toNat)).length : Nat), (G.I, G.t, g_tx G.I.law (hw (gW G) v.toNat), G.f, G.p, G.m)) else (-2, G)
