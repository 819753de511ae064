/-! the reference: stands, cells -/
/-- a stand of the reference at m -/
def MP (σ : zz_M) (m s : Nat) (W : zz_W) : Prop :=
  (∀ k, k < 6 → zz_ch (σ.2 (m + 2)) (σ.2 (m + 3) (12 * s + k)) (W.R k)) ∧ (∀ j, 6 ≤ j → j < 12 → σ.2 (m + 3) (12 * s + j) = W.S j)
  ∧ (σ.1 1203 m = (W.n : Nat) ∧ ∀ i, i < W.n → σ.2 (m + 1) i = W.num i) ∧ ∀ k, k < 6 → ∀ c ∈ W.R k, c < W.n
def rc1 (m f a : Nat) : Prop := a = m ∧ f = 1203
def rg1 (m f a : Nat) : Prop := a = m ∧ (f = 1203 ∨ f = 1207 ∨ f = 1208 ∨ f = 1209)
def rc2 (m s n a i : Nat) : Prop := ((a = m + 1 ∨ a = m + 2) ∧ n ≤ i) ∨ (a = m + 3 ∧ 12 * s ≤ i ∧ i < 12 * s + 12)
def rg2 (m s n a i : Nat) : Prop := rc2 m s n a i ∨ a = m + 4
/-- cells ahead of n, other stands, other fields stay -/
def Rc (m s n : Nat) (σ σ' : zz_M) : Prop := (∀ f a, ¬ rc1 m f a → σ'.1 f a = σ.1 f a) ∧ (∀ a i, ¬ rc2 m s n a i → σ'.2 a i = σ.2 a i)
def Rg (m s n : Nat) (σ σ' : zz_M) : Prop := (∀ f a, ¬ rg1 m f a → σ'.1 f a = σ.1 f a) ∧ (∀ a i, ¬ rg2 m s n a i → σ'.2 a i = σ.2 a i)
theorem Rc.rf {m s n : Nat} {σ : zz_M} : Rc m s n σ σ := ⟨fun _ _ _ => rfl, fun _ _ _ => rfl⟩
theorem Rg.rf {m s n : Nat} {σ : zz_M} : Rg m s n σ σ := ⟨fun _ _ _ => rfl, fun _ _ _ => rfl⟩
theorem Rc.tr {m s n n2 : Nat} {σ σ1 σ2 : zz_M} (h : Rc m s n σ σ1) (h2 : Rc m s n2 σ1 σ2) (hn : n ≤ n2) : Rc m s n σ σ2 := ⟨fun f a q => (h2.1 f a q).trans (h.1 f a q), fun a i q => (h2.2 a i (fun z => q (by unfold rc2 at z ⊢; omega))).trans (h.2 a i q)⟩
theorem Rg.tr {m s n n2 : Nat} {σ σ1 σ2 : zz_M} (h : Rg m s n σ σ1) (h2 : Rg m s n2 σ1 σ2) (hn : n ≤ n2) : Rg m s n σ σ2 := ⟨fun f a q => (h2.1 f a q).trans (h.1 f a q), fun a i q => (h2.2 a i (fun z => q (by unfold rg2 rc2 at z ⊢; omega))).trans (h.2 a i q)⟩
theorem Rc.g {m s n : Nat} {σ σ' : zz_M} (h : Rc m s n σ σ') : Rg m s n σ σ' := ⟨fun f a q => h.1 f a (fun z => q (by unfold rc1 at z; unfold rg1; omega)), fun a i q => h.2 a i (fun z => q (Or.inl z))⟩
theorem Rc.st {m s n j : Nat} {σ : zz_M} {v : Int} (hj : j < 12) : Rc m s n σ (zz_sa σ (m + 3) (12 * s + j) v) := ⟨fun _ _ _ => rfl, fun a i q => by
  rw [sa_2, if_neg]
  rintro ⟨rfl, rfl⟩
  exact q (Or.inr ⟨rfl, by omega, by omega⟩)⟩
theorem Rg.sf {m s n f : Nat} {σ : zz_M} {v : Int} (hf : f = 1203 ∨ f = 1207 ∨ f = 1208 ∨ f = 1209) : Rg m s n σ (zz_sf σ f m v) := ⟨fun f' a' q => by
  rw [sf_1, if_neg]
  rintro ⟨rfl, rfl⟩
  exact q ⟨rfl, hf⟩, fun _ _ _ => rfl⟩
theorem Rg.ln {m s n i : Nat} {σ : zz_M} {v : Int} : Rg m s n σ (zz_sa σ (m + 4) i v) := ⟨fun _ _ _ => rfl, fun a i' q => by
  rw [sa_2, if_neg]
  rintro ⟨rfl, rfl⟩
  exact q (Or.inr rfl)⟩
theorem Rc.fl {m s n : Nat} {σ σ' : zz_M} (h : Rc m s n σ σ') {f : Nat} (hf : f ≠ 1203) : σ'.1 f m = σ.1 f m := h.1 f m (fun z => hf z.2)
theorem Rg.fl {m s n : Nat} {σ σ' : zz_M} (h : Rg m s n σ σ') {f : Nat} (hf : f ≠ 1203 ∧ f ≠ 1207 ∧ f ≠ 1208 ∧ f ≠ 1209) : σ'.1 f m = σ.1 f m := h.1 f m (fun z => by unfold rg1 at z; omega)
theorem MP.S {σ : zz_M} {m s j : Nat} {v : Int} {W : zz_W} (h : MP σ m s W) (hj : 6 ≤ j ∧ j < 12) : MP (zz_sa σ (m + 3) (12 * s + j) v) m s (w_S j v W) := by
  obtain ⟨h1, h2, h3, h4⟩ := h
  refine ⟨fun k hk => ?_, fun i a1 a2 => ?_, ⟨h3.1, fun i hi => ?_⟩, h4⟩
  · have e2 : (zz_sa σ (m + 3) (12 * s + j) v).2 (m + 2) = σ.2 (m + 2) := funext (fun i => sa_a _ _ (by omega))
    rw [e2, sa_i _ _ (by omega)]
    exact h1 k hk
  · show _ = zu W.S j v i
    by_cases e : i = j
    · subst e
      rw [sa_h, zu_s]
    · rw [sa_i _ _ (by omega), zu_n _ _ e]
      exact h2 i a1 a2
  · rw [sa_a _ _ (by omega)]
    exact h3.2 i hi
theorem MP.R {σ : zz_M} {m s k : Nat} {v : Int} {l : List Nat} {W : zz_W} (h : MP σ m s W) (hk : k < 6) (hl : zz_ch (σ.2 (m + 2)) v l) (hc : ∀ c ∈ l, c < W.n) : MP (zz_sa σ (m + 3) (12 * s + k) v) m s (w_R k l W) := by
  obtain ⟨h1, h2, h3, h4⟩ := h
  have e2 : (zz_sa σ (m + 3) (12 * s + k) v).2 (m + 2) = σ.2 (m + 2) := funext (fun i => sa_a _ _ (by omega))
  refine ⟨fun i hi => ?_, fun i a1 a2 => ?_, ⟨h3.1, fun i hi => ?_⟩, fun i hi => ?_⟩
  · rw [e2]
    show zz_ch _ _ (zu W.R k l i)
    by_cases e : i = k
    · subst e
      rw [sa_h, zu_s]
      exact hl
    · rw [sa_i _ _ (by omega), zu_n _ _ e]
      exact h1 i hi
  · rw [sa_i _ _ (by omega)]
    exact h2 i a1 a2
  · rw [sa_a _ _ (by omega)]
    exact h3.2 i hi
  · show ∀ c ∈ zu W.R k l i, c < W.n
    by_cases e : i = k
    · subst e
      rw [zu_s]
      exact hc
    · rw [zu_n _ _ e]
      exact h4 i hi
theorem MP.fd {σ : zz_M} {m s f : Nat} {v : Int} {W : zz_W} (h : MP σ m s W) (hf : f ≠ 1203) : MP (zz_sf σ f m v) m s W := ⟨h.1, h.2.1, ⟨(sf_f _ _ (fun z => hf z.symm)).trans h.2.2.1.1, h.2.2.1.2⟩, h.2.2.2⟩
theorem MP.ln {σ : zz_M} {m s i : Nat} {v : Int} {W : zz_W} (h : MP σ m s W) : MP (zz_sa σ (m + 4) i v) m s W := by
  obtain ⟨h1, h2, h3, h4⟩ := h
  have e2 : (zz_sa σ (m + 4) i v).2 (m + 2) = σ.2 (m + 2) := funext (fun i => sa_a _ _ (by omega))
  refine ⟨fun k hk => ?_, fun j a1 a2 => ?_, ⟨h3.1, fun j hj => ?_⟩, h4⟩
  · rw [e2, sa_a _ _ (by omega)]; exact h1 k hk
  · rw [sa_a _ _ (by omega)]; exact h2 j a1 a2
  · rw [sa_a _ _ (by omega)]; exact h3.2 j hj
theorem MP.cg {σ : zz_M} {m s : Nat} {W W' : zz_W} (h : MP σ m s W) (hR : ∀ k, k < 6 → W'.R k = W.R k) (hS : ∀ j, 6 ≤ j → j < 12 → W'.S j = W.S j) (hn : W'.n = W.n) (hx : W'.num = W.num) : MP σ m s W' := by
  obtain ⟨h1, h2, h3, h4⟩ := h
  refine ⟨fun k hk => by rw [hR k hk]; exact h1 k hk, fun j a b => by rw [hS j a b]; exact h2 j a b, by rw [hn, hx]; exact h3, fun k hk => by rw [hR k hk, hn]; exact h4 k hk⟩
theorem zw_12 {s k : Nat} (hs : s < 200) (hk : k < 12) : zw (zw (12 * (s : Int)) + (k : Int)) = ((12 * s + k : Nat) : Int) := by
  rw [zw_id (x := 12 * (s : Int)) (by omega) (by omega), zw_id (by omega) (by omega)]
  omega
theorem t_Mo_of {X : zz_X} {σ : zz_M} {m s k : Nat} (hs : s < 182) (hk : k < 12) : zz_T X 1 p_Mo_of [zP 12 0 0 m, zI (s : Nat), zI (k : Nat)] σ (fun r σ' => σ = σ' ∧ r = some (zI (σ.2 (m + 3) (12 * s + k)))) := by
  refine zz_mk k_Mo_of o_Mo_of rfl rfl (Nat.le_of_ble_eq_true rfl) ?_
  show zz_G X 1 p_Mo_of 0 [zP 12 0 0 m, zI (s : Nat), zI (k : Nat)] [] σ _
  have ez := zw_12 (s := s) (k := k) (by omega) hk
  refine zz_gsn 7 rfl ?_
  refine zz_ste (st' := [zI ((12 * s + k : Nat) : Int), zP 50 2184 0 (m + 3)]) (congrArg (fun z : Int => ([zI z, zP 50 2184 0 (m + 3)] : List zz_V)) ez) ?_
  refine zz_ald rfl (⟨by omega, by omega⟩) ?_
  refine zz_ri rfl (Or.inl rfl) ?_
  exact ⟨rfl, rfl⟩
theorem t_Mo_sets {X : zz_X} {σ : zz_M} {m s k : Nat} {v : Int} (hs : s < 182) (hk : k < 12) : zz_T X 1 p_Mo_sets [zP 12 0 0 m, zI (s : Nat), zI (k : Nat), zI v] σ (fun r σ' => r = none ∧ σ' = zz_sa σ (m + 3) (12 * s + k) v) := by
  refine zz_mk k_Mo_sets o_Mo_sets rfl rfl (Nat.le_of_ble_eq_true rfl) ?_
  show zz_G X 1 p_Mo_sets 0 [zP 12 0 0 m, zI (s : Nat), zI (k : Nat), zI v] [] σ _
  have ez := zw_12 (s := s) (k := k) (by omega) hk
  refine zz_gsn 7 rfl ?_
  refine zz_ste (st' := [zI ((12 * s + k : Nat) : Int), zP 50 2184 0 (m + 3)]) (congrArg (fun z : Int => ([zI z, zP 50 2184 0 (m + 3)] : List zz_V)) ez) ?_
  refine zz_gsn 1 rfl ?_
  refine zz_ast rfl (⟨by omega, by omega⟩) ?_
  refine zz_rv rfl rfl ?_
  exact ⟨rfl, rfl⟩
theorem t_Mo_ahead {X : zz_X} {σ : zz_M} {m n : Nat} {x rw : Int} (hn : σ.1 1203 m = (n : Nat)) (hb : n < 20000) : zz_T X 1 p_Mo_ahead [zP 12 0 0 m, zI x, zI rw] σ (fun r σ' => r = some (zI (n : Nat)) ∧ σ' = zz_sf (zz_sa (zz_sa σ (m + 1) n x) (m + 2) n rw) 1203 m ((n + 1 : Nat) : Int)) := by
  refine zz_mk k_Mo_ahead o_Mo_ahead rfl rfl (Nat.le_of_ble_eq_true rfl) ?_
  show zz_G X 1 p_Mo_ahead 0 [zP 12 0 0 m, zI x, zI rw] [] σ _
  have e1 : (σ.1 1203 m).toNat = n := by rw [hn, Int.toNat_natCast]
  have e2 : zw (σ.1 1203 m + 1) = ((n + 1 : Nat) : Int) := by rw [hn, zw_id (by omega) (by omega)]; omega
  have hob : 0 ≤ σ.1 1203 m ∧ σ.1 1203 m < 20000 := ⟨by omega, by omega⟩
  refine zz_gsn 5 rfl ?_
  refine zz_ast rfl (hob) ?_
  refine zz_gsn 5 rfl ?_
  refine zz_ast rfl (hob) ?_
  refine zz_gsn 6 rfl ?_
  refine zz_sge (σ' := zz_sf (zz_sa (zz_sa σ (m + 1) n x) (m + 2) n rw) 1203 m ((n + 1 : Nat) : Int)) (by rw [← e2, ← e1]; rfl) ?_
  refine zz_gsn 4 rfl ?_
  refine zz_ri rfl (Or.inl rfl) ?_
  refine ⟨congrArg (fun z => some (zI z)) ?_, rfl⟩
  show zw ((zz_sf (zz_sa (zz_sa σ (m + 1) n x) (m + 2) n rw) 1203 m ((n + 1 : Nat) : Int)).1 1203 m - 1) = _
  rw [sf_h, zw_id (by omega) (by omega)]
  omega
theorem MP.push {σ σ' : zz_M} {m s k : Nat} {x mk : Int} {W : zz_W} (h : MP σ m s W) (hk : k < 6) (e : σ' = zz_sa (zz_sf (zz_sa (zz_sa σ (m + 1) W.n x) (m + 2) W.n (σ.2 (m + 3) (12 * s + k))) 1203 m ((W.n + 1 : Nat) : Int)) (m + 3) (12 * s + k) (W.n : Nat)) : MP σ' m s (w_push mk k x W) ∧ Rc m s W.n σ σ' := by
  obtain ⟨h1, h2, h3, h4⟩ := h
  have f1 : ∀ i, σ'.2 (m + 1) i = if i = W.n then x else σ.2 (m + 1) i := fun i => by
    rw [e, sa_a _ _ (by omega), sf_2, sa_a _ _ (by omega)]
    by_cases z : i = W.n
    · rw [z, sa_h, if_pos rfl]
    · rw [sa_i _ _ z, if_neg z]
  have f2 : ∀ i, σ'.2 (m + 2) i = if i = W.n then σ.2 (m + 3) (12 * s + k) else σ.2 (m + 2) i := fun i => by
    rw [e, sa_a _ _ (by omega), sf_2]
    by_cases z : i = W.n
    · rw [z, sa_h, if_pos rfl]
    · rw [sa_i _ _ z, sa_a _ _ (by omega), if_neg z]
  have f3 : ∀ i, σ'.2 (m + 3) i = if i = 12 * s + k then ((W.n : Nat) : Int) else σ.2 (m + 3) i := fun i => by
    rw [e]
    by_cases z : i = 12 * s + k
    · rw [z, sa_h, if_pos rfl]
    · rw [sa_i _ _ z, sf_2, sa_a _ _ (by omega), sa_a _ _ (by omega), if_neg z]
  have old : ∀ k', k' < 6 → ∀ v, zz_ch (σ.2 (m + 2)) v (W.R k') → zz_ch (σ'.2 (m + 2)) v (W.R k') := fun k' hk' v hv => zz_ch_cong (fun c hc => by
    have := h4 k' hk' c hc
    rw [f2, if_neg (by omega)]) hv
  refine ⟨⟨fun i hi => ?_, fun j a b => ?_, ⟨?_, fun i hi => ?_⟩, fun i hi c hc => ?_⟩, ?_⟩
  · rw [f3]
    show zz_ch _ _ (zu W.R k (W.n :: W.R k) i)
    by_cases z : i = k
    · subst z
      rw [if_pos rfl, zu_s]
      refine ⟨rfl, ?_⟩
      rw [f2, if_pos rfl]
      exact old i hi _ (h1 i hi)
    · rw [if_neg (by omega), zu_n _ _ z]
      exact old i hi _ (h1 i hi)
  · rw [f3, if_neg (by omega)]
    exact h2 j a b
  · rw [e]
    exact sf_h _ _ _ _
  · have hi2 : i < W.n + 1 := hi
    rw [f1]
    show _ = zu W.num W.n x i
    by_cases z : i = W.n
    · rw [if_pos z, z, zu_s]
    · rw [if_neg z, zu_n _ _ z]
      exact h3.2 i (by omega)
  · show c < W.n + 1
    have hc2 : c ∈ zu W.R k (W.n :: W.R k) i := hc
    by_cases z : i = k
    · subst z
      rw [zu_s] at hc2
      rcases List.mem_cons.mp hc2 with y | y
      · omega
      · have := h4 i hi c y
        omega
    · rw [zu_n _ _ z] at hc2
      have := h4 i hi c hc2
      omega
  · refine ⟨fun f a q => ?_, fun a i q => ?_⟩
    · rw [e, sa_1, sf_1, if_neg (fun z => q ⟨z.2, z.1⟩)]
      rfl
    · unfold rc2 at q
      rw [e, sa_2, if_neg (by omega), sf_2, sa_2, if_neg (by omega), sa_2, if_neg (by omega)]
theorem MP.pop {σ : zz_M} {m s k c : Nat} {l : List Nat} {W : zz_W} (h : MP σ m s W) (hk : k < 6) (e : W.R k = c :: l) : MP (zz_sa σ (m + 3) (12 * s + k) (σ.2 (m + 2) c)) m s (w_pop k W) := by
  have h1 := h.1 k hk
  rw [e] at h1
  have e2 : (W.R k).tail = l := by rw [e]; rfl
  unfold w_pop
  rw [e2]
  exact h.R hk h1.2 (fun c' hc => h.2.2.2 k hk c' (by rw [e]; exact List.mem_cons_of_mem _ hc))
theorem t_Mo_pushes {X : zz_X} {σ : zz_M} {m s k : Nat} {x mk : Int} {W : zz_W} (hP : MP σ m s W) (hs : s < 182) (hk : k < 6) (hn : W.n < 20000) : zz_T X 2 p_Mo_pushes [zP 12 0 0 m, zI (s : Nat), zI (k : Nat), zI x] σ (fun r σ' => r = none ∧ MP σ' m s (w_push mk k x W) ∧ Rc m s W.n σ σ') := by
  refine zz_mk k_Mo_pushes o_Mo_pushes rfl rfl (Nat.le_of_ble_eq_true rfl) ?_
  show zz_G X 2 p_Mo_pushes 0 [zP 12 0 0 m, zI (s : Nat), zI (k : Nat), zI x] [] σ _
  refine zz_gsn 8 rfl ?_
  refine zz_cv (n := 3) rfl rfl (t_Mo_of (s := s) (k := k) hs (by omega)) (Nat.le_of_ble_eq_true rfl) (Nat.le_of_ble_eq_true rfl) (Nat.le_of_ble_eq_true rfl) (fun r8 σ8 q8 => ?_)
  obtain ⟨rfl, rfl⟩ := q8
  refine zz_cv (n := 3) rfl rfl (t_Mo_ahead hP.2.2.1.1 hn) (Nat.le_of_ble_eq_true rfl) (Nat.le_of_ble_eq_true rfl) (Nat.le_of_ble_eq_true rfl) (fun r9 σ9 q9 => ?_)
  obtain ⟨rfl, h9⟩ := q9
  refine zz_cv (n := 4) rfl rfl (t_Mo_sets (s := s) (k := k) hs (by omega)) (Nat.le_of_ble_eq_true rfl) (Nat.le_of_ble_eq_true rfl) (Nat.le_of_ble_eq_true rfl) (fun r10 σ10 q10 => ?_)
  obtain ⟨rfl, h10⟩ := q10
  refine zz_rv rfl rfl ?_
  have z := MP.push (mk := mk) (x := x) (σ' := σ10) hP hk (by rw [h10, h9])
  exact ⟨rfl, z.1, z.2⟩
theorem t_Mo_pops {X : zz_X} {σ : zz_M} {m s k c : Nat} {l : List Nat} {W : zz_W} (hP : MP σ m s W) (hs : s < 182) (hk : k < 6) (hn : W.n ≤ 20000) (e : W.R k = c :: l) : zz_T X 2 p_Mo_pops [zP 12 0 0 m, zI (s : Nat), zI (k : Nat)] σ (fun r σ' => r = some (zI (W.num c)) ∧ MP σ' m s (w_pop k W) ∧ Rc m s W.n σ σ') := by
  refine zz_mk k_Mo_pops o_Mo_pops rfl rfl (Nat.le_of_ble_eq_true rfl) ?_
  show zz_G X 2 p_Mo_pops 0 [zP 12 0 0 m, zI (s : Nat), zI (k : Nat), zU] [] σ _
  have hc : c < W.n := hP.2.2.2 k hk c (by rw [e]; exact List.mem_cons_self)
  have eh : σ.2 (m + 3) (12 * s + k) = (c : Nat) := by
    have z := hP.1 k hk
    rw [e] at z
    exact z.1
  have hob : 0 ≤ (c : Int) ∧ (c : Int) < 20000 := ⟨by omega, by omega⟩
  refine zz_gsn 3 rfl ?_
  refine zz_cv (n := 3) rfl rfl (t_Mo_of (s := s) (k := k) hs (by omega)) (Nat.le_of_ble_eq_true rfl) (Nat.le_of_ble_eq_true rfl) (Nat.le_of_ble_eq_true rfl) (fun r3 σ3 q3 => ?_)
  obtain ⟨rfl, rfl⟩ := q3
  rw [eh]
  refine zz_gsn 7 rfl ?_
  refine zz_ald rfl (hob) ?_
  refine zz_cv (n := 4) rfl rfl (t_Mo_sets (s := s) (k := k) hs (by omega)) (Nat.le_of_ble_eq_true rfl) (Nat.le_of_ble_eq_true rfl) (Nat.le_of_ble_eq_true rfl) (fun r12 σ12 q12 => ?_)
  obtain ⟨rfl, h12⟩ := q12
  rw [Int.toNat_natCast] at h12
  refine zz_gsn 3 rfl ?_
  refine zz_ald rfl (hob) ?_
  refine zz_ri rfl (Or.inl rfl) ?_
  have z := hP.pop hk e
  rw [← h12] at z
  refine ⟨congrArg (fun z => some (zI z)) ?_, z, by rw [h12]; exact Rc.st (by omega)⟩
  rw [Int.toNat_natCast]
  exact z.2.2.1.2 c hc
