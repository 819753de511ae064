/-! rows, numbers and makers that a deed leaves -/
/-- rows hold cells that are made, numbers are 0 .. 99, what was made from m on has the maker mk -/
def w_ok (m : Nat) (mk : Int) (W : zz_W) : Prop := (∀ k, ∀ c ∈ W.R k, c < W.n) ∧ (∀ c, c < W.n → 0 ≤ W.num c ∧ W.num c ≤ 99) ∧ (∀ c, m ≤ c → c < W.n → W.mkr c = mk)
theorem o_push {m : Nat} {mk : Int} {k : Nat} {x : Int} {W : zz_W} (h : w_ok m mk W) (hx : 0 ≤ x ∧ x ≤ 99) : w_ok m mk (w_push mk k x W) := by
  obtain ⟨h1, h2, h3⟩ := h
  refine ⟨fun j c hc => ?_, fun c hc => ?_, fun c hm hc => ?_⟩
  · show c < W.n + 1
    have hc2 : c ∈ zu W.R k (W.n :: W.R k) j := hc
    by_cases e : j = k
    · subst e
      rw [zu_s] at hc2
      rcases List.mem_cons.mp hc2 with e | e
      · omega
      · have := h1 j c e
        omega
    · rw [zu_n _ _ e] at hc2
      have := h1 j c hc2
      omega
  · have hc2 : c < W.n + 1 := hc
    show 0 ≤ zu W.num W.n x c ∧ zu W.num W.n x c ≤ 99
    by_cases e : c = W.n
    · rw [e, zu_s]; exact hx
    · rw [zu_n _ _ e]; exact h2 c (by omega)
  · have hc2 : c < W.n + 1 := hc
    show zu W.mkr W.n mk c = mk
    by_cases e : c = W.n
    · rw [e, zu_s]
    · rw [zu_n _ _ e]; exact h3 c hm (by omega)
theorem o_R {m : Nat} {mk : Int} {k : Nat} {l : List Nat} {W : zz_W} (h : w_ok m mk W) (hl : ∀ c ∈ l, c < W.n) : w_ok m mk (w_R k l W) := ⟨fun j c hc => by
  have hc2 : c ∈ zu W.R k l j := hc
  by_cases e : j = k
  · subst e
    rw [zu_s] at hc2
    exact hl c hc2
  · rw [zu_n _ _ e] at hc2
    exact h.1 j c hc2, h.2.1, h.2.2⟩
theorem o_S {m : Nat} {mk : Int} {j : Nat} {v : Int} {W : zz_W} (h : w_ok m mk W) : w_ok m mk (w_S j v W) := h
theorem o_pop {m : Nat} {mk : Int} {k : Nat} {W : zz_W} (h : w_ok m mk W) : w_ok m mk (w_pop k W) := o_R h (fun c hc => h.1 k c (List.mem_of_mem_tail hc))
theorem o_move {m : Nat} {mk : Int} {i j : Nat} {W : zz_W} (h : w_ok m mk W) : w_ok m mk (w_move mk i j W) := by
  unfold w_move
  split
  · exact h
  · rename_i c t e
    exact o_pop (o_push h (h.2.1 c (h.1 i c (by rw [e]; exact List.mem_cons_self))))
theorem o_mvs {m : Nat} {mk : Int} {i j : Nat} : ∀ {r : Nat} {W : zz_W}, w_ok m mk W → w_ok m mk (w_mvs mk i j r W)
  | 0, _, h => h
  | r + 1, W, h => o_mvs (r := r) (o_move h)
theorem o_pus {m : Nat} {mk : Int} {k : Nat} : ∀ {xs : List Int} {W : zz_W}, w_ok m mk W → (∀ x ∈ xs, 0 ≤ x ∧ x ≤ 99) → w_ok m mk (w_pus mk k xs W)
  | [], _, h, _ => h
  | x :: xs, W, h, hx => o_push (o_pus (xs := xs) h (fun y hy => hx y (List.mem_cons_of_mem _ hy))) (hx x List.mem_cons_self)
theorem o_all {m : Nat} {mk : Int} {W : zz_W} (h : w_ok m mk W) : w_ok m mk (w_all mk W) := by
  unfold w_all
  split
  · exact o_mvs h
  · exact h
theorem o_dis {m : Nat} {mk : Int} {W : zz_W} (h : w_ok m mk W) : w_ok m mk (w_dis W) := by
  unfold w_dis
  split
  · exact o_S (o_pop (o_S h))
  · split
    · exact h
    · exact h
theorem o_nil {W : zz_W} : ∀ c ∈ ([] : List Nat), c < W.n := fun c hc => absurd hc List.not_mem_nil
theorem o_clr {m : Nat} {mk : Int} {W : zz_W} (h : w_ok m mk W) : w_ok m mk (w_clr W) := o_S (o_S (o_R (o_R (o_R (o_R h o_nil) o_nil) o_nil) o_nil))
theorem o_b {m : Nat} {mk : Int} {W : zz_W} (h : w_ok m mk W) : w_ok m mk (w_b W) := by
  unfold w_b
  split
  · exact o_R (o_S (o_R (o_R (o_S (o_clr h)) (h.1 0)) (h.1 1))) o_nil
  · exact h
theorem o_trn {m : Nat} {mk : Int} {W : zz_W} (h : w_ok m mk W) : w_ok m mk (w_trn mk W) := by
  unfold w_trn
  split
  · split
    · exact o_move (o_S h)
    · exact o_move (o_S (o_move h))
  · split
    · split
      · exact o_S (o_move h)
      · exact h
    · exact h
theorem o_fin {m : Nat} {mk : Int} {W : zz_W} (h : w_ok m mk W) : w_ok m mk (w_fin W) := by
  unfold w_fin
  split
  · exact o_clr (o_R h (h.1 5))
  · exact h
theorem o_spl {m : Nat} {mk : Int} {i j : Nat} {W : zz_W} (h : w_ok m mk W) : w_ok m mk (w_spl mk i j W) := by
  have hL : ∀ x ∈ w_laid i j W, 0 ≤ x ∧ x ≤ 99 := by
    intro x hx
    unfold w_laid at hx
    rcases List.mem_append.mp hx with hx | hx
    · obtain ⟨c, hc, rfl⟩ := List.mem_map.mp hx
      exact h.2.1 c (h.1 i c hc)
    · obtain ⟨c, hc, rfl⟩ := List.mem_map.mp (List.mem_reverse.mp hx)
      exact h.2.1 c (h.1 j c hc)
  exact o_S (o_S (o_pus (o_pus (o_R (o_R h o_nil) o_nil) (fun x hx => hL x (List.mem_of_mem_take hx))) (fun x hx => hL x (List.mem_of_mem_drop (List.mem_reverse.mp hx)))))
theorem o_evn {m : Nat} {mk C : Int} {W : zz_W} (h : w_ok m mk W) : w_ok m mk (w_evn mk C W) := by
  unfold w_evn
  split
  · exact o_spl h
  · split
    · exact o_spl h
    · exact h
theorem o_chg {m : Nat} {law mk kind x : Int} {W : zz_W} (hk : 0 ≤ kind ∧ kind ≤ 3) (h : w_ok m mk W) (hx : kind = 0 ∨ kind = 2 → 0 ≤ x ∧ x ≤ 99) : w_ok m mk (w_chg law mk kind x W) := by
  have h4 : kind = 0 ∨ kind = 1 ∨ kind = 2 ∨ kind = 3 := by omega
  rcases h4 with e | e | e | e <;> subst e
  · exact o_push (o_S h) (hx (Or.inl rfl))
  · by_cases hl : law = 1
    · rw [w_chg1 mk x W hl]
      exact o_pop (o_dis (o_S h))
    · rw [w_chg1n mk x W hl]
      exact o_pop (o_S h)
  · exact o_push (o_S h) (hx (Or.inr rfl))
  · exact o_pop (o_S h)
theorem o_deed {m : Nat} {law C mk kind x : Int} {W : zz_W} (hk : 0 ≤ kind ∧ kind ≤ 3) (h : w_ok m mk W) (hx : kind = 0 ∨ kind = 2 → 0 ≤ x ∧ x ≤ 99) : w_ok m mk (w_deed law C mk kind x W) := by
  have h1 := o_chg (law := law) hk h hx
  by_cases e : law = 0
  · rw [(w_deed_0 e).1]
    exact o_all h1
  · by_cases e1 : law = 1
    · rw [(w_deed_1 e1).1]
      exact o_fin (o_trn (o_trn (o_b h1)))
    · rw [(w_deed_2 e e1).1]
      exact o_evn h1
