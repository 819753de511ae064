/-! CONSTRUCTORS: arrays of objects that a loop fills. -/
/-- the first k places hold the cells base, base + step, .. -/
def zk_pg (base step k : Nat) : Nat → Option Nat := fun q => if q < k then some (base + step * q) else none
def zk_pe (X : zz_X) (j N base step k : Nat) : va_E := .inl (X.dA j, N, .inr (.inr (.inr (.inr (zk_pg base step k)))))
theorem zk_pg0 (base step : Nat) : zk_pg base step 0 = fun _ => none := by
  funext q
  unfold zk_pg
  rw [if_neg (Nat.not_lt_zero _)]
theorem zk_pgS (base step k : Nat) {v : Nat} (h : v = base + step * k) : va_up (zk_pg base step k) k (some v) = zk_pg base step (k + 1) := by
  subst h
  funext q
  unfold va_up zk_pg
  by_cases e : q = k
  · subst e
    rw [if_pos rfl, if_pos (by omega)]
  · rw [if_neg e]
    by_cases e2 : q < k
    · rw [if_pos e2, if_pos (by omega)]
    · rw [if_neg e2, if_neg (by omega)]
theorem zk_up_up (ov : Nat → Option va_E) (n : Nat) (e e' : va_E) : zk_up (zk_up ov n e) n e' = zk_up ov n e' := by
  funext r
  unfold zk_up
  by_cases h : r = n
  · rw [if_pos h, if_pos h]
  · rw [if_neg h, if_neg h, if_neg h]
theorem zk_up_sw (ov : Nat → Option va_E) {n n' : Nat} (h : n ≠ n') (e e' : va_E) : zk_up (zk_up ov n e) n' e' = zk_up (zk_up ov n' e') n e := by
  funext r
  unfold zk_up
  by_cases h1 : r = n'
  · by_cases h2 : r = n
    · omega
    · rw [if_pos h1, if_neg h2, if_pos h1]
  · by_cases h2 : r = n
    · rw [if_neg h1, if_pos h2, if_pos h2]
    · rw [if_neg h1, if_neg h2, if_neg h2, if_neg h1]
theorem zk_up_at (ov : Nat → Option va_E) (n : Nat) (e : va_E) : zk_up ov n e n = some e := if_pos rfl
theorem zk_up_ne (ov : Nat → Option va_E) {n r : Nat} (e : va_E) (h : r ≠ n) : zk_up ov n e r = ov r := if_neg h
theorem zk_up_hi {ov : Nat → Option va_E} {n m : Nat} {e : va_E} (h : n < m) (ho : ∀ r, m ≤ r → ov r = none) : ∀ r, m ≤ r → zk_up ov n e r = none := fun r hr => by
  rw [zk_up_ne _ _ (by omega)]
  exact ho r hr
theorem zk_arrV (cA : ClassId) (N : Nat) {f g : Nat → Value} (h : ∀ i, i < N → f i = g i) : arrV cA N f = arrV cA N g := by
  unfold arrV
  congr 2
  funext i
  exact h i.val i.isLt
section ZK
variable {X : zz_X} {R : Room} {P P' : zz_P} {L0 : List va_E} {t : Nat} {B1 : List va_E} {pc : Nat} {ls st : List zz_V} {fs : List Value} {M : List va_E} {cells slots : Nat} {ov : Nat → Option va_E} {Ks : List (Nat × Nat × Nat)}
theorem zk_get0 {k idx p1 p2 : Nat} {v : zz_V} (hd : decode P.bytes pc = .ok (.getfield idx, 3)) (ht : t < 13) (hk : k < zz_nf t) (hw : Cond.fieldLink P.y.cls idx (zz_fT (100 * t + k)).1 (zz_fT (100 * t + k)).2.1 (zz_fT (100 * t + k)).2.2.1 ∈ zz_tb) (hv : fs[k]? = some (zz_toV X v)) (kk : zk_G X R P L0 t B1 (pc + 3) ls (v :: st) fs M cells slots) : zk_G X R P L0 t B1 pc ls (zP t p1 p2 (X.b + L0.length) :: st) fs M cells slots := zk_get (r := 0) hd ht hk hw rfl hv kk
theorem zk_aastx {j N q r r' t' p1 p2 base step : Nat} {C : String} {k : Nat} {K : Nat × Nat × Nat} (hd : decode P.bytes pc = .ok (.aastore, 1)) (hty : (zz_tys X)[j]? = some (X.dA j, .object C)) (ht : t' < 13) (hC : zk_R t' = C) (hr : ∃ K0, Ks[r]? = some K0) (hK : Ks[r']? = some K) (hK1 : K.1 = t') (ho' : zk_up ov r (zk_pe X j N base step k) r' = none) (hi : k < N) (hN : N < 100000) (hb : X.b + L0.length + (r' + 1) = base + step * k) (kk : zk_G X R P L0 t B1 (pc + 1) ls st fs (zk_x X (X.b + L0.length + 1) (zk_up ov r (zk_pe X j N base step (k + 1))) Ks) cells slots) : zk_G X R P L0 t B1 pc ls (zP t' p1 p2 (X.b + L0.length + (r' + 1)) :: .inl (k : Int) :: zP (50 + j) N q (X.b + L0.length + (r + 1)) :: st) fs (zk_x X (X.b + L0.length + 1) (zk_up ov r (zk_pe X j N base step k)) Ks) cells slots := by
  obtain ⟨K0, hr⟩ := hr
  refine zk_aast (g := zk_pg base step k) (fs' := zz_fs t' K.2.1 K.2.2 zs0 (X.b + L0.length + 1 + r')) hd hty ht hC (by rw [zk_x_at X _ _ hr, zk_up_at]; rfl) ?_ hi hN ?_
  · rw [zk_x_at X _ _ hK, ho']
    obtain ⟨K1, K2, K3⟩ := K
    dsimp only at hK1
    subst hK1
    show some (zz_ce X zs0 _ (K1, K2, K3)) = _
    rw [zz_ce_o ht]
  · rw [zk_pgS base step k hb, zk_x_set, zk_up_up]
    exact kk
/-- a filled array is finished -/
theorem zk_done {j N q r base step : Nat} (hK : Ks[r]? = some (53 + j, N, q)) (hj : j < 3) (h1 : q % 100 = step) (h2 : X.b + L0.length + 1 + r + q / 100 = base) (ho : ov r = none) (kk : zk_G X R P L0 t B1 pc ls st fs (zk_x X (X.b + L0.length + 1) ov Ks) cells slots) : zk_G X R P L0 t B1 pc ls st fs (zk_x X (X.b + L0.length + 1) (zk_up ov r (zk_pe X (3 + j) N base step N)) Ks) cells slots := by
  intro p e s m args below meth c H locs lm hx hb hml hrt hlk hin hown hts hE hs0 hS hH hl hlen
  refine kk p e s m args below meth c H locs lm hx hb hml hrt hlk hin hown hts hE hs0 hS ?_ hl hlen
  have el : ∀ o : Nat → Option va_E, (L0 ++ .inr (t, fs) :: zk_x X (X.b + L0.length + 1) o Ks).length = L0.length + 1 + Ks.length := by
    intro o
    rw [List.length_append, List.length_cons, zk_x_len]
    omega
  refine ⟨fun i x hx => ?_, by rw [hH.2, el, el]⟩
  obtain ⟨e1, he, rfl⟩ := zk_w_of X hx
  by_cases hi : i = L0.length + (r + 1)
  · subst hi
    have a1 : (L0 ++ .inr (t, fs) :: zk_x X (X.b + L0.length + 1) (zk_up ov r (zk_pe X (3 + j) N base step N)) Ks)[L0.length + (r + 1)]? = some (zk_pe X (3 + j) N base step N) := by
      rw [List.getElem?_append_right (by omega), Nat.add_sub_cancel_left, List.getElem?_cons_succ, zk_x_at X _ _ hK, zk_up_at]
      rfl
    have a2 := hH.at a1
    rw [List.getElem?_append_right (by omega), Nat.add_sub_cancel_left, List.getElem?_cons_succ, zk_x_at X _ _ hK, ho] at he
    have he : some (zz_ce X zs0 (X.b + L0.length + 1 + r) (53 + j, N, q)) = some e1 := he
    have he := Option.some.inj he
    subst he
    unfold zz_ce
    rw [if_neg (by dsimp only; omega), if_neg (by dsimp only; omega)]
    have ed : 53 + j - 50 = 3 + j := by omega
    have a2 : H[X.b + (L0.length + (r + 1))]? = some (vp_cell (X.dA (3 + j)) (N, .inr (.inr (.inr (.inr (zk_pg base step N)))))) := a2
    show H[X.b + (L0.length + (r + 1))]? = some (vp_cell (X.dA (53 + j - 50)) _)
    rw [a2, ed, vp_cell_q, vp_cell_q]
    congr 1
    refine zk_arrV _ _ fun i hi => ?_
    dsimp only
    rw [h2, h1]
    unfold zk_pg
    rw [if_pos hi]
  · refine hH.at (e := e1) ?_
    rw [← he]
    by_cases hl : i < L0.length
    · rw [List.getElem?_append_left hl, List.getElem?_append_left hl]
    · rw [List.getElem?_append_right (by omega), List.getElem?_append_right (by omega)]
      cases hn : i - L0.length with
      | zero => rfl
      | succ n =>
        rw [List.getElem?_cons_succ, List.getElem?_cons_succ]
        unfold zk_x
        rw [List.getElem?_mapIdx, List.getElem?_mapIdx, zk_up_ne _ _ (by omega)]
theorem zk_flat {α : Type} (b : List α) (k : Nat) : (List.replicate (k + 1) b).flatten = (List.replicate k b).flatten ++ b := by
  rw [List.replicate_succ', List.flatten_append]
  simp
theorem zk_flen {α : Type} (b : List α) (k : Nat) : (List.replicate k b).flatten.length = k * b.length := by
  induction k with
  | zero => simp
  | succ k ih => rw [zk_flat, List.length_append, ih, Nat.succ_mul]
theorem zk_apl {α : Type} {l l' : List α} {i : Nat} {x : α} (h : l[i]? = some x) : (l ++ l')[i]? = some x := by
  rw [List.getElem?_append_left (List.getElem?_eq_some_iff.mp h).1]
  exact h
theorem zk_apr {α : Type} {l l' : List α} {n : Nat} {x : α} (h : l.length = n) : (l ++ x :: l')[n]? = some x := by
  subst h
  rw [List.getElem?_append_right (Nat.le_refl _), Nat.sub_self]
  rfl
theorem zk_newqp {k N n idx : Nat} {C : String} (K : Nat × Nat × Nat) (q base step : Nat) (hd : decode P.bytes pc = .ok (.anewarray idx, 3)) (hw : Cond.classLink P.y.cls idx C ∈ zz_tb) (hC : C ∈ ["TurnQueues$State", "TurnQueues$Numbers", "TurnQueues$Deeds"]) (hty : (zz_tys X)[k]? = some (X.dA k, .object C)) (hN : N < 100000) (hn : Ks.length = n) (hc : cells + 1 ≤ R.cells) (hs : slots + N ≤ R.slots) (kk : zk_G X R P L0 t B1 (pc + 3) ls (zP (50 + k) N q (X.b + L0.length + (n + 1)) :: st) fs (zk_x X (X.b + L0.length + 1) (zk_up ov n (zk_pe X k N base step 0)) (Ks ++ [K])) (cells + 1) (slots + N)) : zk_G X R P L0 t B1 pc ls (.inl (N : Int) :: st) fs (zk_x X (X.b + L0.length + 1) ov Ks) cells slots := by
  subst hn
  refine zk_newqx (r := Ks.length + 1) K q hd hw hC hty hN rfl hc hs ?_
  unfold zk_pe at kk
  rw [zk_pg0] at kk
  exact kk
theorem zw_S {k : Nat} (h : k < 100000) : zw ((k : Int) + 1) = ((k + 1 : Nat) : Int) := by
  rw [zw_id (by omega) (by omega)]
  rfl
theorem zk_nin {k : Nat} (h : k < 100000) : zz_in (k : Int) := by unfold zz_in; omega
end ZK
