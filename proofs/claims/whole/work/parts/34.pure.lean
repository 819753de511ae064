/-! what a deed leaves; what it does not depend on -/
/-- cells stay as they are, more are made -/
def w_ext (W W' : zz_W) : Prop := W.n ≤ W'.n ∧ ∀ i, i < W.n → W'.num i = W.num i ∧ W'.mkr i = W.mkr i
theorem w_ext.rf {W : zz_W} : w_ext W W := ⟨Nat.le_refl _, fun _ _ => ⟨rfl, rfl⟩⟩
theorem w_ext.tr {W W1 W2 : zz_W} (h : w_ext W W1) (h2 : w_ext W1 W2) : w_ext W W2 := ⟨Nat.le_trans h.1 h2.1, fun i hi => ⟨((h2.2 i (Nat.lt_of_lt_of_le hi h.1)).1).trans (h.2 i hi).1, ((h2.2 i (Nat.lt_of_lt_of_le hi h.1)).2).trans (h.2 i hi).2⟩⟩
theorem x_push (mk : Int) (k : Nat) (x : Int) (W : zz_W) : w_ext W (w_push mk k x W) := ⟨Nat.le_succ _, fun i hi => ⟨zu_n _ _ (Nat.ne_of_lt hi), zu_n _ _ (Nat.ne_of_lt hi)⟩⟩
theorem x_R (k : Nat) (l : List Nat) (W : zz_W) : w_ext W (w_R k l W) := w_ext.rf
theorem x_S (j : Nat) (v : Int) (W : zz_W) : w_ext W (w_S j v W) := w_ext.rf
theorem x_pop (k : Nat) (W : zz_W) : w_ext W (w_pop k W) := w_ext.rf
theorem x_move (mk : Int) (i j : Nat) (W : zz_W) : w_ext W (w_move mk i j W) := by
  unfold w_move
  split
  · exact w_ext.rf
  · exact (x_push _ _ _ _).tr (x_pop _ _)
theorem x_mvs (mk : Int) (i j : Nat) : ∀ (r : Nat) (W : zz_W), w_ext W (w_mvs mk i j r W)
  | 0, W => w_ext.rf
  | r + 1, W => (x_move mk i j W).tr (x_mvs mk i j r _)
theorem x_pus (mk : Int) (k : Nat) : ∀ (xs : List Int) (W : zz_W), w_ext W (w_pus mk k xs W)
  | [], W => w_ext.rf
  | x :: xs, W => (x_pus mk k xs W).tr (x_push _ _ _ _)
theorem x_all (mk : Int) (W : zz_W) : w_ext W (w_all mk W) := by
  unfold w_all
  split
  · exact x_mvs _ _ _ _ _
  · exact w_ext.rf
theorem x_dis (W : zz_W) : w_ext W (w_dis W) := by
  unfold w_dis
  split
  · exact w_ext.rf
  · split <;> exact w_ext.rf
theorem x_b (W : zz_W) : w_ext W (w_b W) := by
  unfold w_b
  split <;> exact w_ext.rf
theorem x_trn (mk : Int) (W : zz_W) : w_ext W (w_trn mk W) := by
  unfold w_trn
  split
  · split
    · exact (x_S 7 2 W).tr (x_move _ _ _ _)
    · exact ((x_move mk 2 3 W).tr (x_S _ _ _)).tr (x_move _ _ _ _)
  · split
    · split
      · exact (x_move mk 3 5 W).tr (x_S _ _ _)
      · exact w_ext.rf
    · exact w_ext.rf
theorem x_fin (W : zz_W) : w_ext W (w_fin W) := by
  unfold w_fin
  split <;> exact w_ext.rf
theorem x_one (mk : Int) (W : zz_W) : w_ext W (w_one mk W) := (((x_b W).tr (x_trn mk _)).tr (x_trn mk _)).tr (x_fin _)
theorem x_spl (mk : Int) (i j : Nat) (W : zz_W) : w_ext W (w_spl mk i j W) := by
  have h : w_ext W (w_R j [] (w_R i [] W)) := w_ext.rf
  exact (((h.tr (x_pus mk i _ _)).tr (x_pus mk j _ _)).tr (x_S _ _ _)).tr (x_S _ _ _)
theorem x_evn (mk C sh : Int) (W : zz_W) : w_ext W (w_evn mk C (w_pay sh W)) := by
  have h : w_ext W (w_pay sh W) := w_ext.rf
  unfold w_evn
  split
  · exact h.tr (x_spl _ _ _ _)
  · split
    · exact h.tr (x_spl _ _ _ _)
    · exact h
theorem x_chg (law mk kind x : Int) (W : zz_W) (hk : 0 ≤ kind ∧ kind ≤ 3) : w_ext W (w_chg law mk kind x W) := by
  have h : kind = 0 ∨ kind = 1 ∨ kind = 2 ∨ kind = 3 := by omega
  rcases h with h | h | h | h <;> subst h
  · exact (x_S 11 _ W).tr (x_push _ _ _ _)
  · by_cases hl : law = 1
    · rw [w_chg1 mk x W hl]
      exact ((x_S 11 _ W).tr (x_dis _)).tr (x_pop _ _)
    · rw [w_chg1n mk x W hl]
      exact w_ext.rf
  · exact (x_S 11 _ W).tr (x_push _ _ _ _)
  · exact w_ext.rf
theorem x_deed (law C mk kind x : Int) (W : zz_W) (hk : 0 ≤ kind ∧ kind ≤ 3) : w_ext W (w_deed law C mk kind x W) := by
  refine (x_chg law mk kind x W hk).tr ?_
  by_cases h : law = 0
  · rw [(w_deed_0 h).1]
    exact x_all mk _
  · by_cases h1 : law = 1
    · rw [(w_deed_1 h1).1]
      exact x_one mk _
    · rw [(w_deed_2 h h1).1]
      exact x_evn mk C _ _
/-- alike but for the cells' numbers and makers -/
def w_eq (W W' : zz_W) : Prop := W.n = W'.n ∧ W.R = W'.R ∧ W.S = W'.S
theorem w_eq.rf {W : zz_W} : w_eq W W := ⟨rfl, rfl, rfl⟩
theorem q_push {mk mk' : Int} {k : Nat} {x x' : Int} {W W' : zz_W} (h : w_eq W W') : w_eq (w_push mk k x W) (w_push mk' k x' W') := by
  obtain ⟨h1, h2, h3⟩ := h
  refine ⟨?_, ?_, h3⟩
  · show W.n + 1 = W'.n + 1
    rw [h1]
  · show zu W.R k (W.n :: W.R k) = zu W'.R k (W'.n :: W'.R k)
    rw [h1, h2]
theorem q_R {k : Nat} {l l' : List Nat} {W W' : zz_W} (h : w_eq W W') (hl : l = l') : w_eq (w_R k l W) (w_R k l' W') := by
  obtain ⟨h1, h2, h3⟩ := h
  subst hl
  refine ⟨h1, ?_, h3⟩
  show zu W.R k l = zu W'.R k l
  rw [h2]
theorem q_S {j : Nat} {v v' : Int} {W W' : zz_W} (h : w_eq W W') (hv : v = v') : w_eq (w_S j v W) (w_S j v' W') := by
  obtain ⟨h1, h2, h3⟩ := h
  subst hv
  refine ⟨h1, h2, ?_⟩
  show zu W.S j v = zu W'.S j v
  rw [h3]
theorem q_pop {k : Nat} {W W' : zz_W} (h : w_eq W W') : w_eq (w_pop k W) (w_pop k W') := q_R h (by rw [h.2.1])
theorem q_move {mk mk' : Int} {i j : Nat} {W W' : zz_W} (h : w_eq W W') : w_eq (w_move mk i j W) (w_move mk' i j W') := by
  unfold w_move
  rw [h.2.1]
  cases W'.R i with
  | nil => exact h
  | cons c l => exact q_pop (q_push h)
theorem q_mvs {mk mk' : Int} {i j : Nat} : ∀ {r : Nat} {W W' : zz_W}, w_eq W W' → w_eq (w_mvs mk i j r W) (w_mvs mk' i j r W')
  | 0, _, _, h => h
  | r + 1, W, W', h => q_mvs (r := r) (W := w_move mk i j W) (W' := w_move mk' i j W') (q_move h)
theorem q_pus {mk mk' : Int} {k : Nat} : ∀ {xs ys : List Int} {W W' : zz_W}, xs.length = ys.length → w_eq W W' → w_eq (w_pus mk k xs W) (w_pus mk' k ys W')
  | [], [], _, _, _, h => h
  | _ :: _, _ :: _, _, _, hl, h => q_push (q_pus (Nat.succ.inj hl) h)
theorem q_len {k : Nat} {W W' : zz_W} (h : w_eq W W') : w_len k W = w_len k W' := by
  show (((W.R k).length : Nat) : Int) = ((W'.R k).length : Nat)
  rw [h.2.1]
theorem q_if {c : Prop} {c' : Prop} [Decidable c] [Decidable c'] {A B A' B' : zz_W} (hc : c ↔ c') (h1 : w_eq A A') (h2 : w_eq B B') : w_eq (if c then A else B) (if c' then A' else B') := by
  by_cases h : c
  · rw [if_pos h, if_pos (hc.mp h)]
    exact h1
  · rw [if_neg h, if_neg (fun z => h (hc.mpr z))]
    exact h2
theorem q_ii {c : Prop} {c' : Prop} [Decidable c] [Decidable c'] {a b a' b' : Int} (hc : c ↔ c') (h1 : a = a') (h2 : b = b') : (if c then a else b) = (if c' then a' else b') := by
  by_cases h : c
  · rw [if_pos h, if_pos (hc.mp h)]
    exact h1
  · rw [if_neg h, if_neg (fun z => h (hc.mpr z))]
    exact h2
theorem q_all {mk mk' : Int} {W W' : zz_W} (h : w_eq W W') : w_eq (w_all mk W) (w_all mk' W') := by
  unfold w_all
  refine q_if (by rw [h.2.1]) ?_ h
  rw [h.2.1]
  exact q_mvs h
theorem q_dis {W W' : zz_W} (h : w_eq W W') : w_eq (w_dis W) (w_dis W') := by
  unfold w_dis
  rw [h.2.2]
  refine q_if Iff.rfl (q_S (q_pop (q_S h rfl)) rfl) (q_if Iff.rfl (q_S (q_S h rfl) rfl) (q_S h rfl))
theorem q_clr {W W' : zz_W} (h : w_eq W W') : w_eq (w_clr W) (w_clr W') := q_S (q_S (q_R (q_R (q_R (q_R h rfl) rfl) rfl) rfl) rfl) rfl
theorem q_b {W W' : zz_W} (h : w_eq W W') : w_eq (w_b W) (w_b W') := by
  unfold w_b
  refine q_if (by rw [h.2.2, q_len h]) ?_ h
  exact q_R (q_S (q_R (q_R (q_S (q_clr h) rfl) (by rw [h.2.1])) (by rw [h.2.1])) (by rw [h.2.2, q_len h])) rfl
theorem q_trn {mk mk' : Int} {W W' : zz_W} (h : w_eq W W') : w_eq (w_trn mk W) (w_trn mk' W') := by
  unfold w_trn
  rw [h.2.2, h.2.1]
  refine q_if Iff.rfl (q_if Iff.rfl (q_move (q_S h rfl)) (q_move (q_S (q_move h) rfl))) (q_if Iff.rfl (q_if Iff.rfl (q_S (q_move h) rfl) (q_S h rfl)) h)
theorem q_fin {W W' : zz_W} (h : w_eq W W') : w_eq (w_fin W) (w_fin W') := by
  unfold w_fin
  rw [h.2.2]
  exact q_if Iff.rfl (q_clr (q_R h (by rw [h.2.1]))) h
theorem q_one {mk mk' : Int} {W W' : zz_W} (h : w_eq W W') : w_eq (w_one mk W) (w_one mk' W') := q_fin (q_trn (q_trn (q_b h)))
theorem q_trnS {W W' : zz_W} (h : w_eq W W') : w_trnS W = w_trnS W' := by
  unfold w_trnS
  rw [h.2.2]
theorem q_oneS {mk mk' : Int} {W W' : zz_W} (h : w_eq W W') : w_oneS mk W = w_oneS mk' W' := by
  unfold w_oneS
  rw [q_trnS (q_b h), q_trnS (q_trn (mk := mk) (mk' := mk') (q_b h))]
theorem q_spl {mk mk' : Int} {i j : Nat} {W W' : zz_W} (h : w_eq W W') : w_eq (w_spl mk i j W) (w_spl mk' i j W') := by
  have hl : (w_laid i j W).length = (w_laid i j W').length := by rw [w_laid_len, w_laid_len, h.2.1]
  have h1 : w_eq (w_pus mk j ((w_laid i j W).drop ((w_laid i j W).length / 2)).reverse (w_pus mk i ((w_laid i j W).take ((w_laid i j W).length / 2)) (w_R j [] (w_R i [] W)))) (w_pus mk' j ((w_laid i j W').drop ((w_laid i j W').length / 2)).reverse (w_pus mk' i ((w_laid i j W').take ((w_laid i j W').length / 2)) (w_R j [] (w_R i [] W')))) := by
    refine q_pus ?_ (q_pus ?_ (q_R (q_R h rfl) rfl))
    · rw [List.length_reverse, List.length_reverse, List.length_drop, List.length_drop, hl]
    · rw [List.length_take, List.length_take, hl]
  exact q_S (q_S h1 (q_len h1)) (q_len h1)
theorem q_pay {sh : Int} {W W' : zz_W} (h : w_eq W W') : w_eq (w_pay sh W) (w_pay sh W') := q_S (q_S h (by rw [h.2.2])) (by rw [h.2.2])
theorem q_evn {mk mk' C : Int} {W W' : zz_W} (h : w_eq W W') : w_eq (w_evn mk C W) (w_evn mk' C W') := by
  unfold w_evn
  exact q_if (by rw [q_len h, q_len h]) (q_spl h) (q_if (by rw [q_len h, q_len h]) (q_spl h) h)
theorem q_chg {law mk mk' kind x x' : Int} {W W' : zz_W} (hk : 0 ≤ kind ∧ kind ≤ 3) (h : w_eq W W') : w_eq (w_chg law mk kind x W) (w_chg law mk' kind x' W') := by
  have hk4 : kind = 0 ∨ kind = 1 ∨ kind = 2 ∨ kind = 3 := by omega
  rcases hk4 with e | e | e | e <;> subst e
  · exact q_push (q_S h (by rw [h.2.2]))
  · by_cases hl : law = 1
    · rw [w_chg1 mk x W hl, w_chg1 mk' x' W' hl]
      have hd := q_dis (q_S (j := 11) (v := W.S 11 - 1) (v' := W'.S 11 - 1) h (by rw [h.2.2]))
      rw [hd.2.1]
      exact q_pop hd
    · rw [w_chg1n mk x W hl, w_chg1n mk' x' W' hl, h.2.1]
      exact q_pop (q_S h (by rw [h.2.2]))
  · exact q_push (q_S h (by rw [h.2.2]))
  · rw [w_chg3, w_chg3, h.2.1]
    exact q_pop (q_S h (by rw [h.2.2]))
theorem q_deed {law C mk mk' kind x x' : Int} {W W' : zz_W} (hk : 0 ≤ kind ∧ kind ≤ 3) (h : w_eq W W') : w_eq (w_deed law C mk kind x W) (w_deed law C mk' kind x' W') ∧ w_steps law C mk kind x W = w_steps law C mk' kind x' W' ∧ w_begun law C mk kind x W = w_begun law C mk' kind x' W' ∧ w_over law C mk kind x W = w_over law C mk' kind x' W' := by
  have h1 : w_eq (w_chg law mk kind x W) (w_chg law mk' kind x' W') := q_chg hk h
  by_cases hl : law = 0
  · obtain ⟨a1, a2, a3, a4⟩ := w_deed_0 (C := C) (mk := mk) (kind := kind) (x := x) (W := W) hl
    obtain ⟨b1, b2, b3, b4⟩ := w_deed_0 (C := C) (mk := mk') (kind := kind) (x := x') (W := W') hl
    rw [a1, a2, a3, a4, b1, b2, b3, b4]
    refine ⟨q_all h1, ?_, ?_, rfl⟩
    · unfold w_allS
      rw [h1.2.1, q_len h1]
    · unfold w_allB
      rw [h1.2.1]
  · by_cases hl1 : law = 1
    · obtain ⟨a1, a2, a3, a4⟩ := w_deed_1 (C := C) (mk := mk) (kind := kind) (x := x) (W := W) hl1
      obtain ⟨b1, b2, b3, b4⟩ := w_deed_1 (C := C) (mk := mk') (kind := kind) (x := x') (W := W') hl1
      rw [a1, a2, a3, a4, b1, b2, b3, b4]
      refine ⟨q_one h1, ?_, ?_, ?_⟩
      · rw [q_oneS (mk := mk) (mk' := mk') h1]
      · unfold w_oneB
        rw [h1.2.2, q_len h1]
      · unfold w_oneO
        rw [h1.2.2, q_len h1]
    · obtain ⟨a1, a2, a3, a4⟩ := w_deed_2 (C := C) (mk := mk) (kind := kind) (x := x) (W := W) hl hl1
      obtain ⟨b1, b2, b3, b4⟩ := w_deed_2 (C := C) (mk := mk') (kind := kind) (x := x') (W := W') hl hl1
      rw [a1, a2, a3, a4, b1, b2, b3, b4]
      have h2 := q_pay (sh := w_sh kind) h1
      refine ⟨q_evn h2, ?_, ?_, ?_⟩
      · unfold w_payS
        rw [h1.2.2]
      · unfold w_evnB
        rw [q_len h2, q_len h2]
      · unfold w_evnO
        rw [q_len h2, q_len h2, h2.2.2]
theorem SP.q {σ : zz_M} {m s : Nat} {W W' : zz_W} (h : SP σ 0 m s W) (e : w_eq W W') : SP σ 0 m s W' := by
  obtain ⟨h1, h2, h3, h4, h5⟩ := h
  obtain ⟨e1, e2, e3⟩ := e
  refine ⟨fun k hk => ⟨?_, fun z => absurd z (Nat.lt_irrefl 0)⟩, fun j a b => ?_, ?_, fun z => absurd z (Nat.lt_irrefl 0), fun k hk c hc => ?_⟩
  · rw [(h1 k hk).1]
    show (((W.R k).length : Nat) : Int) = ((W'.R k).length : Nat)
    rw [e2]
  · rw [h2 j a b, e3]
  · rw [h3, e3]
  · rw [← e1]
    exact h5 k hk c (by rw [e2]; exact hc)
