/-! the reference: READY -/
/-- READY: the reference empties C at once -/
def z3 (W : zz_W) : zz_W := if W.S 7 = 3 then w_R 3 [] W else W
theorem z3_y {W : zz_W} (h : W.S 7 = 3) : z3 W = w_R 3 [] W := if_pos h
theorem z3_n {W : zz_W} (h : W.S 7 ≠ 3) : z3 W = W := if_neg h
theorem w_mv_S (mk : Int) (i j a : Nat) (v : Int) (W : zz_W) : w_move mk i j (w_S a v W) = w_S a v (w_move mk i j W) := by
  unfold w_move
  show (match W.R i with | [] => w_S a v W | c :: _ => w_pop i (w_push mk j (W.num c) (w_S a v W))) = _
  cases W.R i <;> rfl
theorem MP.S' {σ : zz_M} {m s j : Nat} {v w : Int} {W : zz_W} (h : MP σ m s W) (hj : 6 ≤ j ∧ j < 12) (e : v = w) : MP (zz_sa σ (m + 3) (12 * s + j) v) m s (w_S j w W) := by
  subst e
  exact h.S hj
theorem MP.same {σ : zz_M} {m s j : Nat} {v : Int} {W : zz_W} (h : MP σ m s (w_S j v W)) (e : v = W.S j) : MP σ m s W := h.cg (fun _ _ => rfl) (fun i _ _ => by
  show W.S i = zu W.S j v i
  by_cases z : i = j
  · subst z
    rw [zu_s, e]
  · rw [zu_n _ _ z]) rfl rfl
theorem MP.sw {σ : zz_M} {m s i j : Nat} {v w : Int} {W : zz_W} (h : MP σ m s (w_S i v (w_S j w W))) (hij : i ≠ j) : MP σ m s (w_S j w (w_S i v W)) := h.cg (fun _ _ => rfl) (fun k _ _ => by
  show zu (zu W.S i v) j w k = zu (zu W.S j w) i v k
  by_cases z : k = j
  · subst z
    rw [zu_s, zu_n _ _ (fun y => hij y.symm), zu_s]
  · rw [zu_n _ _ z]
    by_cases z2 : k = i
    · subst z2
      rw [zu_s, zu_s]
    · rw [zu_n _ _ z2, zu_n _ _ z2, zu_n _ _ z]) rfl rfl
theorem t_Mo_becomesReady {X : zz_X} {σ : zz_M} {m s : Nat} {W : zz_W} (hP : MP σ m s W) (hs : s < 182) : zz_T X 2 p_Mo_becomesReady [zP 12 0 0 m, zI (s : Nat)] σ (fun r σ' => r = none ∧ MP σ' m s (w_R 3 [] (w_S 7 3 W)) ∧ Rc m s W.n σ σ') := by
  refine zz_mk k_Mo_becomesReady o_Mo_becomesReady rfl rfl (Nat.le_of_ble_eq_true rfl) ?_
  show zz_G X 2 p_Mo_becomesReady 0 [zP 12 0 0 m, zI (s : Nat)] [] σ _
  refine zz_gsn 4 rfl ?_
  refine zz_cv (n := 4) rfl rfl (t_Mo_sets (s := s) (k := 7) hs (by decide)) (Nat.le_of_ble_eq_true rfl) (Nat.le_of_ble_eq_true rfl) (Nat.le_of_ble_eq_true rfl) (fun r4 σ4 q4 => ?_)
  obtain ⟨rfl, h4⟩ := q4
  refine zz_gsn 4 rfl ?_
  refine zz_cv (n := 4) rfl rfl (t_Mo_sets (s := s) (k := 3) hs (by decide)) (Nat.le_of_ble_eq_true rfl) (Nat.le_of_ble_eq_true rfl) (Nat.le_of_ble_eq_true rfl) (fun r9 σ9 q9 => ?_)
  obtain ⟨rfl, h9⟩ := q9
  refine zz_rv rfl rfl ?_
  have P := (hP.S (j := 7) (v := 3) (by decide)).R (k := 3) (v := -1) (l := []) (by decide) rfl (fun c hc => absurd hc List.not_mem_nil)
  refine ⟨rfl, by rw [h9, h4]; exact P, by rw [h9, h4]; exact (Rc.st (by decide)).tr (Rc.st (by decide)) (Nat.le_refl _)⟩
