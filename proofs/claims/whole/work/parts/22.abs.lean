/-! THE ABSTRACT DEED: rows are lists of cells, by their numbers. -/
def zu {α : Type} (f : Nat → α) (k : Nat) (v : α) : Nat → α := fun j => if j = k then v else f j
theorem zu_s {α : Type} (f : Nat → α) (k : Nat) (v : α) : zu f k v k = v := if_pos rfl
theorem zu_n {α : Type} (f : Nat → α) {k j : Nat} (v : α) (h : j ≠ k) : zu f k v j = f j := if_neg h
/-- cells made, their numbers, their makers; rows; COUNT 6, STATE 7, GOOD 8, OWE 9 10, MANY 11 -/
abbrev zz_W : Type := Nat × (Nat → Int) × (Nat → Int) × (Nat → List Nat) × (Nat → Int)
abbrev zz_W.n (W : zz_W) : Nat := W.1
abbrev zz_W.num (W : zz_W) : Nat → Int := W.2.1
abbrev zz_W.mkr (W : zz_W) : Nat → Int := W.2.2.1
abbrev zz_W.R (W : zz_W) : Nat → List Nat := W.2.2.2.1
abbrev zz_W.S (W : zz_W) : Nat → Int := W.2.2.2.2
def w_push (mk : Int) (k : Nat) (x : Int) (W : zz_W) : zz_W := (W.n + 1, zu W.num W.n x, zu W.mkr W.n mk, zu W.R k (W.n :: W.R k), W.S)
def w_R (k : Nat) (l : List Nat) (W : zz_W) : zz_W := (W.n, W.num, W.mkr, zu W.R k l, W.S)
def w_S (j : Nat) (v : Int) (W : zz_W) : zz_W := (W.n, W.num, W.mkr, W.R, zu W.S j v)
def w_pop (k : Nat) (W : zz_W) : zz_W := w_R k (W.R k).tail W
def w_move (mk : Int) (i j : Nat) (W : zz_W) : zz_W := match W.R i with
  | [] => W
  | c :: _ => w_pop i (w_push mk j (W.num c) W)
def w_mvs (mk : Int) (i j : Nat) : Nat → zz_W → zz_W
  | 0, W => W
  | n + 1, W => w_mvs mk i j n (w_move mk i j W)
/-- pushes a list of numbers, the last one first -/
def w_pus (mk : Int) (k : Nat) : List Int → zz_W → zz_W
  | [], W => W
  | x :: xs, W => w_push mk k x (w_pus mk k xs W)
abbrev w_len (k : Nat) (W : zz_W) : Int := ((W.R k).length : Int)
/-- LAW 0: the row behind, and its STEPS, whether it was turned -/
def w_all (mk : Int) (W : zz_W) : zz_W := if W.R 0 = [] then w_mvs mk 1 0 (W.R 1).length W else W
def w_allS (W : zz_W) : Int := if W.R 0 = [] then w_len 1 W else 0
def w_allB (W : zz_W) : Int := if W.R 0 = [] ∧ W.R 1 ≠ [] then 1 else 0
/-- LAW 1 -/
def w_dis (W : zz_W) : zz_W :=
  if W.S 7 = 2 ∧ W.S 8 = 0 then w_S 7 3 (w_pop 5 (w_S 6 (W.S 6 - 1) W))
  else if W.S 7 = 1 ∨ W.S 7 = 2 then w_S 8 (W.S 8 - 1) (w_S 6 (W.S 6 - 1) W)
  else w_S 6 (W.S 6 - 1) W
def w_clr (W : zz_W) : zz_W := w_S 8 0 (w_S 7 0 (w_R 5 [] (w_R 4 [] (w_R 3 [] (w_R 2 [] W)))))
def w_beg (W : zz_W) : zz_W :=
  w_R 1 [] (w_S 6 (W.S 6 + w_len 1 W) (w_R 4 (W.R 1) (w_R 2 (W.R 0) (w_S 7 1 (w_clr W)))))
def w_trn (mk : Int) (W : zz_W) : zz_W :=
  if W.S 7 = 1 then
    (if W.R 2 = [] then w_move mk 4 5 (w_S 7 2 W)
     else w_move mk 4 5 (w_S 8 (W.S 8 + 1) (w_move mk 2 3 W)))
  else if W.S 7 = 2 then (if 0 < W.S 8 then w_S 8 (W.S 8 - 1) (w_move mk 3 5 W) else w_S 7 3 W)
  else W
def w_trnS (W : zz_W) : Int := if W.S 7 = 1 ∨ W.S 7 = 2 then 1 else 0
def w_bg (W : zz_W) : Prop := W.S 6 < w_len 1 W
def w_b (W : zz_W) : zz_W := if W.S 6 < w_len 1 W then w_beg W else W
def w_fin (W : zz_W) : zz_W := if W.S 7 = 3 then w_clr (w_R 0 (W.R 5) W) else W
def w_one (mk : Int) (W : zz_W) : zz_W := w_fin (w_trn mk (w_trn mk (w_b W)))
def w_oneS (mk : Int) (W : zz_W) : Int := w_trnS (w_b W) + w_trnS (w_trn mk (w_b W))
def w_oneB (W : zz_W) : Int := if W.S 6 < w_len 1 W then 1 else 0
def w_oneO (W : zz_W) : Int := if W.S 6 < w_len 1 W ∧ W.S 7 ≠ 0 then 1 else 0
/-- LAW 2 -/
def w_pay (sh : Int) (W : zz_W) : zz_W := w_S 10 (W.S 10 - min (W.S 10) sh) (w_S 9 (W.S 9 - min (W.S 9) sh) W)
def w_payS (sh : Int) (W : zz_W) : Int := min (W.S 9) sh + min (W.S 10) sh
def w_laid (i j : Nat) (W : zz_W) : List Int := (W.R i).map W.num ++ ((W.R j).map W.num).reverse
def w_spl (mk : Int) (i j : Nat) (W : zz_W) : zz_W :=
  let L := w_laid i j W
  let W1 := w_pus mk j (L.drop (L.length / 2)).reverse (w_pus mk i (L.take (L.length / 2)) (w_R j [] (w_R i [] W)))
  w_S 10 (w_len 1 W1) (w_S 9 (w_len 0 W1) W1)
def w_evn (mk C : Int) (W : zz_W) : zz_W :=
  if C * w_len 1 W + 1 < w_len 0 W then w_spl mk 0 1 W
  else if C * w_len 0 W + 1 < w_len 1 W then w_spl mk 1 0 W
  else W
def w_evnB (C : Int) (W : zz_W) : Int := if C * w_len 1 W + 1 < w_len 0 W ∨ C * w_len 0 W + 1 < w_len 1 W then 1 else 0
def w_evnO (C : Int) (W : zz_W) : Int := if (C * w_len 1 W + 1 < w_len 0 W ∨ C * w_len 0 W + 1 < w_len 1 W) ∧ (0 < W.S 9 ∨ 0 < W.S 10) then 1 else 0
/-- what the DEED itself does -/
def w_chg (law mk kind x : Int) (W : zz_W) : zz_W :=
  let W1 := w_S 11 (W.S 11 + (if kind = 0 ∨ kind = 2 then 1 else -1)) W
  if kind = 0 then w_push mk 1 x W1
  else if kind = 2 then w_push mk 0 x W1
  else if kind = 1 then (let W2 := if law = 1 then w_dis W1 else W1
    w_pop (if W2.R 0 = [] then 1 else 0) W2)
  else w_pop (if W1.R 1 = [] then 0 else 1) W1
def w_sh (kind : Int) : Int := if kind = 0 ∨ kind = 2 then 1 else 2
/-- a DEED -/
def w_deed (law C mk kind x : Int) (W : zz_W) : zz_W :=
  let W1 := w_chg law mk kind x W
  if law = 0 then w_all mk W1 else if law = 1 then w_one mk W1 else w_evn mk C (w_pay (w_sh kind) W1)
def w_steps (law C mk kind x : Int) (W : zz_W) : Int :=
  let W1 := w_chg law mk kind x W
  1 + (if law = 0 then w_allS W1 else if law = 1 then w_oneS mk W1 else w_payS (w_sh kind) W1)
def w_begun (law C mk kind x : Int) (W : zz_W) : Int :=
  let W1 := w_chg law mk kind x W
  if law = 0 then w_allB W1 else if law = 1 then w_oneB W1 else w_evnB C (w_pay (w_sh kind) W1)
def w_over (law C mk kind x : Int) (W : zz_W) : Int :=
  let W1 := w_chg law mk kind x W
  if law = 0 then 0 else if law = 1 then w_oneO W1 else w_evnO C (w_pay (w_sh kind) W1)
/-- a chain of cells from one on -/
def zz_ch (nx : Nat → Int) : Int → List Nat → Prop
  | h, [] => h = -1
  | h, c :: l => h = (c : Nat) ∧ zz_ch nx (nx c) l
theorem zz_ch_cong {nx nx' : Nat → Int} : ∀ {l : List Nat} {h : Int}, (∀ c ∈ l, nx' c = nx c) → zz_ch nx h l → zz_ch nx' h l
  | [], _, _, h => h
  | c :: l, h, hc, hh => ⟨hh.1, by
    rw [hc c List.mem_cons_self]
    exact zz_ch_cong (fun c' h' => hc c' (List.mem_cons_of_mem _ h')) hh.2⟩
/-- a STATE of the class at s, its cells those of the mill at m with room p (0: lengths alone) -/
def SP (σ : zz_M) (p m s : Nat) (W : zz_W) : Prop :=
  (∀ k, k < 6 → σ.1 701 (s + 1 + k) = w_len k W ∧ (0 < p → zz_ch (σ.2 (m + 3)) (σ.1 700 (s + 1 + k)) (W.R k)))
  ∧ (∀ j, 6 ≤ j → j < 11 → σ.1 (901 + j) s = W.S j) ∧ σ.1 906 s = W.S 11
  ∧ (0 < p → σ.1 100 (m + 1) = (W.n : Nat) ∧ W.n ≤ p ∧ ∀ i, i < W.n → σ.2 (m + 2) i = W.num i ∧ σ.2 (m + 4) i = W.mkr i)
  ∧ (∀ k, k < 6 → ∀ c ∈ W.R k, c < W.n)
def zz_c1c (s m f a : Nat) : Prop := (s < a ∧ a < s + 7 ∧ (f = 700 ∨ f = 701)) ∨ (a = s ∧ 906 ≤ f ∧ f ≤ 911) ∨ (a = m + 1 ∧ f = 100)
def zz_c1m (s m f a : Nat) : Prop := (s < a ∧ a < s + 7 ∧ (f = 700 ∨ f = 701)) ∨ (a = s ∧ 906 ≤ f ∧ f ≤ 911) ∨ (a = m + 1 ∧ f = 100) ∨ (a = m ∧ (f = 401 ∨ f = 402 ∨ f = 406 ∨ f = 407))
def zz_c2m (m n a i : Nat) : Prop := ((a = m + 2 ∨ a = m + 3 ∨ a = m + 4) ∧ n ≤ i) ∨ a = m + 6
/-- what a mill changes at most, n cells being made -/
def Mg (s m n : Nat) (σ σ' : zz_M) : Prop := (∀ f a, ¬ zz_c1m s m f a → σ'.1 f a = σ.1 f a) ∧ (∀ a i, ¬ zz_c2m m n a i → σ'.2 a i = σ.2 a i)
theorem Mg.rf {s m n : Nat} {σ : zz_M} : Mg s m n σ σ := ⟨fun _ _ _ => rfl, fun _ _ _ => rfl⟩
theorem Mg.tr {s m n n2 : Nat} {σ σ1 σ2 : zz_M} (h : Mg s m n σ σ1) (h2 : Mg s m n2 σ1 σ2) (hn : n ≤ n2) : Mg s m n σ σ2 :=
  ⟨fun f a q => (h2.1 f a q).trans (h.1 f a q), fun a i q => (h2.2 a i (fun z => q (by unfold zz_c2m at z ⊢; omega))).trans (h.2 a i q)⟩
theorem Mg.sf {s m n f a : Nat} {σ : zz_M} {v : Int} (h : zz_c1m s m f a) : Mg s m n σ (zz_sf σ f a v) := ⟨fun f' a' q => by
  have e : ¬ (f' = f ∧ a' = a) := fun z => q (by rw [z.1, z.2]; exact h)
  rw [sf_1, if_neg e], fun _ _ _ => rfl⟩
theorem Mg.sa {s m n a i : Nat} {σ : zz_M} {v : Int} (h : zz_c2m m n a i) : Mg s m n σ (zz_sa σ a i v) := ⟨fun _ _ _ => rfl, fun a' i' q => by
  have e : ¬ (a' = a ∧ i' = i) := fun z => q (by rw [z.1, z.2]; exact h)
  rw [sa_2, if_neg e]⟩
def zz_c2c (m n a i : Nat) : Prop := (a = m + 2 ∨ a = m + 3 ∨ a = m + 4) ∧ n ≤ i
/-- what is changed at most, n cells being made, the mill's own numbers apart -/
def Mc (s m n : Nat) (σ σ' : zz_M) : Prop := (∀ f a, ¬ zz_c1c s m f a → σ'.1 f a = σ.1 f a) ∧ (∀ a i, ¬ zz_c2c m n a i → σ'.2 a i = σ.2 a i)
theorem Mc.rf {s m n : Nat} {σ : zz_M} : Mc s m n σ σ := ⟨fun _ _ _ => rfl, fun _ _ _ => rfl⟩
theorem Mc.tr {s m n n2 : Nat} {σ σ1 σ2 : zz_M} (h : Mc s m n σ σ1) (h2 : Mc s m n2 σ1 σ2) (hn : n ≤ n2) : Mc s m n σ σ2 :=
  ⟨fun f a q => (h2.1 f a q).trans (h.1 f a q), fun a i q => (h2.2 a i (fun z => q (by unfold zz_c2c at z ⊢; omega))).trans (h.2 a i q)⟩
theorem Mc.sf {s m n f a : Nat} {σ : zz_M} {v : Int} (h : zz_c1c s m f a) : Mc s m n σ (zz_sf σ f a v) := ⟨fun f' a' q => by
  have e : ¬ (f' = f ∧ a' = a) := fun z => q (by rw [z.1, z.2]; exact h)
  rw [sf_1, if_neg e], fun _ _ _ => rfl⟩
theorem Mc.sa {s m n a i : Nat} {σ : zz_M} {v : Int} (h : zz_c2c m n a i) : Mc s m n σ (zz_sa σ a i v) := ⟨fun _ _ _ => rfl, fun a' i' q => by
  have e : ¬ (a' = a ∧ i' = i) := fun z => q (by rw [z.1, z.2]; exact h)
  rw [sa_2, if_neg e]⟩
theorem Mc.g {s m n : Nat} {σ σ' : zz_M} (h : Mc s m n σ σ') : Mg s m n σ σ' := ⟨fun f a q => h.1 f a (fun z => q (by unfold zz_c1c at z; unfold zz_c1m; omega)), fun a i q => h.2 a i (fun z => q (by unfold zz_c2c at z; unfold zz_c2m; omega))⟩
theorem Mc.m {s m n : Nat} {σ σ' : zz_M} (h : Mc s m n σ σ') {f : Nat} (hf : 400 ≤ f ∧ f < 500) : σ'.1 f m = σ.1 f m := h.1 f m (by unfold zz_c1c; omega)
theorem sf_h (σ : zz_M) (f a : Nat) (v : Int) : (zz_sf σ f a v).1 f a = v := if_pos ⟨rfl, rfl⟩
theorem sf_f (σ : zz_M) {f f' a a' : Nat} (v : Int) (h : f' ≠ f) : (zz_sf σ f a v).1 f' a' = σ.1 f' a' := if_neg (fun z => h z.1)
theorem sf_a (σ : zz_M) {f f' a a' : Nat} (v : Int) (h : a' ≠ a) : (zz_sf σ f a v).1 f' a' = σ.1 f' a' := if_neg (fun z => h z.2)
theorem sa_h (σ : zz_M) (a i : Nat) (v : Int) : (zz_sa σ a i v).2 a i = v := if_pos ⟨rfl, rfl⟩
theorem sa_a (σ : zz_M) {a a' i i' : Nat} (v : Int) (h : a' ≠ a) : (zz_sa σ a i v).2 a' i' = σ.2 a' i' := if_neg (fun z => h z.1)
theorem sa_i (σ : zz_M) {a a' i i' : Nat} (v : Int) (h : i' ≠ i) : (zz_sa σ a i v).2 a' i' = σ.2 a' i' := if_neg (fun z => h z.2)
/-- a number of the mill's own -/
theorem SP.mf {σ : zz_M} {p m s : Nat} {W : zz_W} (h : SP σ p m s W) {f a : Nat} {v : Int} (hf : 400 ≤ f ∧ f < 500) : SP (zz_sf σ f a v) p m s W := by
  obtain ⟨h1, h2, h3, h4, h5⟩ := h
  refine ⟨fun k hk => ?_, fun j a1 a2 => ?_, ?_, fun hp => ?_, h5⟩
  · rw [sf_f _ _ (by omega), sf_f _ _ (by omega)]
    exact h1 k hk
  · rw [sf_f _ _ (by omega)]
    exact h2 j a1 a2
  · rw [sf_f _ _ (by omega)]
    exact h3
  · rw [sf_f _ _ (by omega)]
    exact h4 hp
theorem SP.st {σ : zz_M} {p m s : Nat} {W : zz_W} (h : SP σ p m s W) {j : Nat} {v : Int} (hj : 6 ≤ j ∧ j < 11) : SP (zz_sf σ (901 + j) s v) p m s (w_S j v W) := by
  obtain ⟨h1, h2, h3, h4, h5⟩ := h
  refine ⟨fun k hk => ?_, fun i a1 a2 => ?_, ?_, fun hp => ?_, h5⟩
  · rw [sf_f _ _ (by omega), sf_f _ _ (by omega)]
    exact h1 k hk
  · by_cases e : i = j
    · subst e
      rw [sf_h]
      exact (zu_s _ _ _).symm
    · rw [sf_f _ _ (by omega), h2 i a1 a2]
      exact (zu_n _ _ e).symm
  · rw [sf_f _ _ (by omega), h3]
    exact (zu_n _ _ (by omega)).symm
  · rw [sf_f _ _ (by omega)]
    exact h4 hp
theorem SP.tot {σ : zz_M} {p m s : Nat} {W : zz_W} (h : SP σ p m s W) {v : Int} : SP (zz_sf σ 906 s v) p m s (w_S 11 v W) := by
  obtain ⟨h1, h2, h3, h4, h5⟩ := h
  refine ⟨fun k hk => ?_, fun i a1 a2 => ?_, ?_, fun hp => ?_, h5⟩
  · rw [sf_f _ _ (by omega), sf_f _ _ (by omega)]
    exact h1 k hk
  · rw [sf_f _ _ (by omega), h2 i a1 a2]
    exact (zu_n _ _ (by omega)).symm
  · rw [sf_h]
    exact (zu_s W.S 11 v).symm
  · rw [sf_f _ _ (by omega)]
    exact h4 hp
/-- a row is written anew, of cells that are there -/
theorem SP.row {σ : zz_M} {p m s : Nat} {W : zz_W} (h : SP σ p m s W) {k : Nat} {hd ln : Int} {l : List Nat} (hk : k < 6) (hln : ln = (l.length : Nat)) (hch : 0 < p → zz_ch (σ.2 (m + 3)) hd l) (hl : ∀ c ∈ l, c < W.n) : SP (zz_sf (zz_sf σ 700 (s + 1 + k) hd) 701 (s + 1 + k) ln) p m s (w_R k l W) := by
  obtain ⟨h1, h2, h3, h4, h5⟩ := h
  refine ⟨fun i hi => ?_, fun i a1 a2 => ?_, ?_, fun hp => ?_, fun i hi c hc => ?_⟩
  · by_cases e : i = k
    · subst e
      rw [sf_h, sf_f _ _ (by omega), sf_h]
      show ln = (((zu W.R i l) i).length : Int) ∧ (0 < p → zz_ch _ hd ((zu W.R i l) i))
      rw [zu_s]
      exact ⟨hln, hch⟩
    · rw [sf_a _ _ (by omega), sf_a _ _ (by omega), sf_a _ _ (by omega), sf_a _ _ (by omega)]
      show σ.1 701 (s + 1 + i) = (((zu W.R k l) i).length : Int) ∧ (0 < p → zz_ch _ _ ((zu W.R k l) i))
      rw [zu_n _ _ e]
      exact h1 i hi
  · rw [sf_f _ _ (by omega), sf_f _ _ (by omega)]
    exact h2 i a1 a2
  · rw [sf_f _ _ (by omega), sf_f _ _ (by omega)]
    exact h3
  · rw [sf_f _ _ (by omega), sf_f _ _ (by omega)]
    exact h4 hp
  · have hc' : c ∈ (zu W.R k l) i := hc
    by_cases e : i = k
    · subst e
      rw [zu_s] at hc'
      exact hl c hc'
    · rw [zu_n _ _ e] at hc'
      exact h5 i hi c hc'
