/-! the reference: rows built anew -/
/-- the numbers laid in the line -/
def Ln (σ : zz_M) (m : Nat) (A : List Int) : Prop := ∀ t x, A[t]? = some x → σ.2 (m + 4) t = x
/-- only the line has changed -/
def Lo (m : Nat) (σ σ' : zz_M) : Prop := σ'.1 = σ.1 ∧ ∀ a, a ≠ m + 4 → σ'.2 a = σ.2 a
theorem Lo.rf {m : Nat} {σ : zz_M} : Lo m σ σ := ⟨rfl, fun _ _ => rfl⟩
theorem Lo.tr {m : Nat} {σ σ1 σ2 : zz_M} (h : Lo m σ σ1) (h2 : Lo m σ1 σ2) : Lo m σ σ2 := ⟨h2.1.trans h.1, fun a ha => (h2.2 a ha).trans (h.2 a ha)⟩
theorem Lo.sa {m i : Nat} {σ : zz_M} {v : Int} : Lo m σ (zz_sa σ (m + 4) i v) := ⟨rfl, fun a ha => funext (fun i => sa_a _ _ ha)⟩
theorem Lo.g {m s n : Nat} {σ σ' : zz_M} (h : Lo m σ σ') : Rg m s n σ σ' := ⟨fun f a _ => by rw [h.1], fun a i q => by rw [h.2 a (fun z => q (Or.inr z))]⟩
theorem MP.lo {σ σ' : zz_M} {m s : Nat} {W : zz_W} (h : MP σ m s W) (hL : Lo m σ σ') : MP σ' m s W := by
  obtain ⟨h1, h2, h3, h4⟩ := h
  refine ⟨fun k hk => ?_, fun j a b => ?_, ⟨by rw [hL.1]; exact h3.1, fun i hi => ?_⟩, h4⟩
  · rw [hL.2 _ (by omega), hL.2 _ (by omega)]; exact h1 k hk
  · rw [hL.2 _ (by omega)]; exact h2 j a b
  · rw [hL.2 _ (by omega)]; exact h3.2 i hi
theorem Ln.snoc {σ : zz_M} {m n : Nat} {A : List Int} {x v : Int} (h : Ln σ m A) (hn : n = A.length) (hv : v = x) : Ln (zz_sa σ (m + 4) n v) m (A ++ [x]) := fun t y ht => by
  rw [zz_snoc] at ht
  by_cases e : t = A.length
  · rw [if_pos e] at ht
    cases ht
    rw [e, ← hn, sa_h, hv]
  · rw [if_neg e] at ht
    rw [sa_i _ _ (by omega)]
    exact h t y ht
theorem lp_evA {X : zz_X} {m s i j : Nat} {num : Nat → Int} {nn N : Nat}  {σ0 : zz_M} {Post : Option zz_V → zz_M → Prop} (hN : N ≤ 790) (hnn : nn ≤ 20000) (hnum : ∀ c, c < nn → σ0.2 (m + 1) c = num c) (A' : List Int) (kk : ∀ σ', Ln σ' m A' → Lo m σ0 σ' → zz_G X 2 p_Mo_evensBy 43 [zP 12 0 0 m, zI (s : Nat), zI (i : Nat), zI (j : Nat), zI (N : Nat), zI (-1), zU, zU, zU, zU, zU] [] σ' Post) :
    ∀ (l : List Nat) (A : List Int) (v : Int) (σ : zz_M), A.length + l.length = N → zz_ch (σ0.2 (m + 2)) v l → (∀ c ∈ l, c < nn) → Ln σ m A → Lo m σ0 σ → A ++ l.map num = A' → zz_G X 2 p_Mo_evensBy 25 [zP 12 0 0 m, zI (s : Nat), zI (i : Nat), zI (j : Nat), zI (A.length : Nat), zI v, zU, zU, zU, zU, zU] [] σ Post := by
  intro l
  induction l with
  | nil =>
    intro A v σ hn hc hl hA hL hA'
    have e : A = A' := by rw [← hA']; exact (List.append_nil A).symm
    have e2 : A.length = N := hn
    have e3 : v = -1 := hc
    subst e
    subst e3
    rw [e2]
    refine zz_gsn 2 rfl ?_
    refine zz_br rfl (fun h27 => ?_) (fun h27 => absurd rfl h27)
    exact kk σ hA hL
  | cons c t ih =>
    intro A v σ hn hc hl hA hL hA'
    obtain ⟨c1, c2⟩ := hc
    subst c1
    have hc : c < nn := hl c List.mem_cons_self
    have hn2 : A.length + (t.length + 1) = N := hn
    have ho : 0 ≤ (c : Int) ∧ (c : Int) < 20000 := ⟨by omega, by omega⟩
    have hx : σ.2 (m + 1) c = num c := by rw [hL.2 _ (by omega)]; exact hnum c hc
    have hy : σ.2 (m + 2) = σ0.2 (m + 2) := hL.2 _ (by omega)
    refine zz_gsn 2 rfl ?_
    refine zz_br rfl (fun h27 => absurd h27 (by omega)) (fun h27 => ?_)
    refine zz_gsn 6 rfl ?_
    refine zz_ald rfl (ho) ?_
    refine zz_ast rfl (⟨by omega, by omega⟩) ?_
    refine zz_gsn 4 rfl ?_
    refine zz_ald rfl (ho) ?_
    refine zz_gsn 1 rfl ?_
    refine zz_jp rfl ?_
    rw [zw_s (by omega)]
    have hA2 : Ln (zz_sa σ (m + 4) (A.length : Int).toNat (σ.2 (m + 1) (c : Int).toNat)) m (A ++ [num c]) := hA.snoc (by rw [Int.toNat_natCast]) (by rw [Int.toNat_natCast]; exact hx)
    have e1 : ((A.length + 1 : Nat) : Int) = ((A ++ [num c]).length : Nat) := by rw [List.length_append]; rfl
    rw [e1]
    refine ih (A ++ [num c]) _ _ (by rw [List.length_append]; show A.length + 1 + t.length = N; omega) ?_ (fun y hy => hl y (List.mem_cons_of_mem _ hy)) hA2 (hL.tr Lo.sa) (by rw [List.append_assoc]; exact hA')
    rw [Int.toNat_natCast]
    show zz_ch _ ((zz_sa σ (m + 4) _ _).2 (m + 2) c) t
    rw [sa_a _ _ (by omega), hy]
    exact c2
theorem lp_evC {X : zz_X} {m s i j : Nat} {num : Nat → Int} {nn N : Nat} {x4 x5 x6 x7 x8 : Int} {σ0 : zz_M} {Post : Option zz_V → zz_M → Prop} (hN : N ≤ 790) (hnn : nn ≤ 20000) (hnum : ∀ c, c < nn → σ0.2 (m + 1) c = num c) (A' : List Int) (kk : ∀ σ', Ln σ' m A' → Lo m σ0 σ' → zz_G X 2 p_Mo_evensBy 123 [zP 12 0 0 m, zI (s : Nat), zI (i : Nat), zI (j : Nat), zI x4, zI x5, zI x6, zI x7, zI x8, zI (N : Nat), zI (-1)] [] σ' Post) :
    ∀ (l : List Nat) (A : List Int) (v : Int) (σ : zz_M), A.length + l.length = N → zz_ch (σ0.2 (m + 2)) v l → (∀ c ∈ l, c < nn) → Ln σ m A → Lo m σ0 σ → A ++ l.map num = A' → zz_G X 2 p_Mo_evensBy 105 [zP 12 0 0 m, zI (s : Nat), zI (i : Nat), zI (j : Nat), zI x4, zI x5, zI x6, zI x7, zI x8, zI (A.length : Nat), zI v] [] σ Post := by
  intro l
  induction l with
  | nil =>
    intro A v σ hn hc hl hA hL hA'
    have e : A = A' := by rw [← hA']; exact (List.append_nil A).symm
    have e2 : A.length = N := hn
    have e3 : v = -1 := hc
    subst e
    subst e3
    rw [e2]
    refine zz_gsn 2 rfl ?_
    refine zz_br rfl (fun h107 => ?_) (fun h107 => absurd rfl h107)
    exact kk σ hA hL
  | cons c t ih =>
    intro A v σ hn hc hl hA hL hA'
    obtain ⟨c1, c2⟩ := hc
    subst c1
    have hc : c < nn := hl c List.mem_cons_self
    have hn2 : A.length + (t.length + 1) = N := hn
    have ho : 0 ≤ (c : Int) ∧ (c : Int) < 20000 := ⟨by omega, by omega⟩
    have hx : σ.2 (m + 1) c = num c := by rw [hL.2 _ (by omega)]; exact hnum c hc
    have hy : σ.2 (m + 2) = σ0.2 (m + 2) := hL.2 _ (by omega)
    refine zz_gsn 2 rfl ?_
    refine zz_br rfl (fun h107 => absurd h107 (by omega)) (fun h107 => ?_)
    refine zz_gsn 6 rfl ?_
    refine zz_ald rfl (ho) ?_
    refine zz_ast rfl (⟨by omega, by omega⟩) ?_
    refine zz_gsn 4 rfl ?_
    refine zz_ald rfl (ho) ?_
    refine zz_gsn 1 rfl ?_
    refine zz_jp rfl ?_
    rw [zw_s (by omega)]
    have hA2 : Ln (zz_sa σ (m + 4) (A.length : Int).toNat (σ.2 (m + 1) (c : Int).toNat)) m (A ++ [num c]) := hA.snoc (by rw [Int.toNat_natCast]) (by rw [Int.toNat_natCast]; exact hx)
    have e1 : ((A.length + 1 : Nat) : Int) = ((A ++ [num c]).length : Nat) := by rw [List.length_append]; rfl
    rw [e1]
    refine ih (A ++ [num c]) _ _ (by rw [List.length_append]; show A.length + 1 + t.length = N; omega) ?_ (fun y hy => hl y (List.mem_cons_of_mem _ hy)) hA2 (hL.tr Lo.sa) (by rw [List.append_assoc]; exact hA')
    rw [Int.toNat_natCast]
    show zz_ch _ ((zz_sa σ (m + 4) _ _).2 (m + 2) c) t
    rw [sa_a _ _ (by omega), hy]
    exact c2
/-- cells made, not in a row yet: n, numbers as in Y, rows as in R -/
abbrev mkW (Y : zz_W) (R : Nat → List Nat) (S : Nat → Int) : zz_W := (Y.n, Y.num, Y.mkr, R, S)
theorem MP.ah {σ σ' : zz_M} {m s i : Nat} {x v mk : Int} {Y : zz_W} {R : Nat → List Nat} {S : Nat → Int} (h : MP σ m s (mkW Y R S)) (hc : zz_ch (σ.2 (m + 2)) v (Y.R i)) (hl : ∀ c ∈ Y.R i, c < Y.n) (e : σ' = zz_sf (zz_sa (zz_sa σ (m + 1) Y.n x) (m + 2) Y.n v) 1203 m ((Y.n + 1 : Nat) : Int)) : MP σ' m s (mkW (w_push mk i x Y) R S) ∧ zz_ch (σ'.2 (m + 2)) (Y.n : Nat) ((w_push mk i x Y).R i) ∧ (∀ c ∈ (w_push mk i x Y).R i, c < (w_push mk i x Y).n) ∧ Rc m s Y.n σ σ' ∧ σ'.2 (m + 4) = σ.2 (m + 4) := by
  obtain ⟨h1, h2, h3, h4⟩ := h
  have f1 : ∀ t, σ'.2 (m + 1) t = if t = Y.n then x else σ.2 (m + 1) t := fun t => by
    rw [e, sf_2, sa_a _ _ (by omega)]
    by_cases z : t = Y.n
    · rw [z, sa_h, if_pos rfl]
    · rw [sa_i _ _ z, if_neg z]
  have f2 : ∀ t, σ'.2 (m + 2) t = if t = Y.n then v else σ.2 (m + 2) t := fun t => by
    rw [e, sf_2]
    by_cases z : t = Y.n
    · rw [z, sa_h, if_pos rfl]
    · rw [sa_i _ _ z, sa_a _ _ (by omega), if_neg z]
  have f3 : ∀ a, a ≠ m + 1 → a ≠ m + 2 → σ'.2 a = σ.2 a := fun a n1 n2 => funext (fun t => by
    rw [e, sf_2, sa_a _ _ n2, sa_a _ _ n1])
  have old : ∀ (l : List Nat) (w : Int), (∀ c ∈ l, c < Y.n) → zz_ch (σ.2 (m + 2)) w l → zz_ch (σ'.2 (m + 2)) w l := fun l w hl hw => zz_ch_cong (fun c hc => by
    have := hl c hc
    rw [f2, if_neg (by omega)]) hw
  have ek : (w_push mk i x Y).R i = Y.n :: Y.R i := zu_s _ _ _
  refine ⟨⟨fun k hk => ?_, fun j a b => ?_, ⟨?_, fun t ht => ?_⟩, fun k hk c hc => Nat.lt_succ_of_lt (h4 k hk c hc)⟩, ?_, ?_, ?_, f3 _ (by omega) (by omega)⟩
  · rw [f3 (m + 3) (by omega) (by omega)]
    exact old _ _ (h4 k hk) (h1 k hk)
  · rw [f3 (m + 3) (by omega) (by omega)]
    exact h2 j a b
  · rw [e]; exact sf_h _ _ _ _
  · have ht2 : t < Y.n + 1 := ht
    rw [f1]
    show _ = zu Y.num Y.n x t
    by_cases z : t = Y.n
    · rw [if_pos z, z, zu_s]
    · rw [if_neg z, zu_n _ _ z]
      exact h3.2 t (show t < Y.n by omega)
  · rw [ek]
    refine ⟨rfl, ?_⟩
    rw [f2, if_pos rfl]
    exact old _ _ hl hc
  · rw [ek]
    intro c hc
    show c < Y.n + 1
    rcases List.mem_cons.mp hc with z | z
    · omega
    · have := hl c z
      omega
  · refine ⟨fun f a q => ?_, fun a t q => ?_⟩
    · rw [e, sf_1, if_neg (fun z => q ⟨z.2, z.1⟩)]
      rfl
    · unfold rc2 at q
      rw [e, sf_2, sa_2, if_neg (by omega), sa_2, if_neg (by omega)]
/-- a row being built of new cells -/
def Bd (σ : zz_M) (m s i : Nat) (R : Nat → List Nat) (S : Nat → Int) (A : List Int) (Y : zz_W) (v : Int) : Prop := MP σ m s (mkW Y R S) ∧ zz_ch (σ.2 (m + 2)) v (Y.R i) ∧ (∀ c ∈ Y.R i, c < Y.n) ∧ Ln σ m A
theorem Bd.ah {σ σ' : zz_M} {m s i : Nat} {x v mk : Int} {Y : zz_W} {R : Nat → List Nat} {S : Nat → Int} {A : List Int} (h : Bd σ m s i R S A Y v) (e : σ' = zz_sf (zz_sa (zz_sa σ (m + 1) Y.n x) (m + 2) Y.n v) 1203 m ((Y.n + 1 : Nat) : Int)) : Bd σ' m s i R S A (w_push mk i x Y) (Y.n : Nat) ∧ Rc m s Y.n σ σ' := by
  obtain ⟨a, b, c, d⟩ := h
  obtain ⟨p1, p2, p3, p4, p5⟩ := a.ah (mk := mk) b c e
  exact ⟨⟨p1, p2, p3, fun t x ht => by rw [p5]; exact d t x ht⟩, p4⟩
theorem w_pus_n (mk : Int) (k : Nat) : ∀ (xs : List Int) (W : zz_W), (w_pus mk k xs W).n = W.n + xs.length := fun xs W => (w_pus_R (mk := mk) (k := k) xs W).2.2.1
theorem lp_evB {X : zz_X} {m s i j keeps n0 : Nat} {mk x4 x5 x6 x7 : Int} {R : Nat → List Nat} {S : Nat → Int} {A : List Int} {Y0 : zz_W} {σ0 : zz_M} {Post : Option zz_V → zz_M → Prop} (hk : keeps ≤ A.length) (hA : A.length ≤ 790) (hn : Y0.n + keeps ≤ 20000) (hn0 : n0 ≤ Y0.n) (kk : ∀ σ' v, Bd σ' m s i R S A (w_pus mk i (A.take keeps) Y0) v → Rc m s n0 σ0 σ' → zz_G X 2 p_Mo_evensBy 79 [zP 12 0 0 m, zI (s : Nat), zI (i : Nat), zI (j : Nat), zI x4, zI x5, zI x6, zI x7, zI v, zI (-1), zU] [] σ' Post) :
    ∀ (k : Nat) (v : Int) (σ : zz_M), k ≤ keeps → Bd σ m s i R S A (w_pus mk i ((A.take keeps).drop k) Y0) v → Rc m s n0 σ0 σ → zz_G X 2 p_Mo_evensBy 67 [zP 12 0 0 m, zI (s : Nat), zI (i : Nat), zI (j : Nat), zI x4, zI x5, zI x6, zI x7, zI v, zI ((k : Int) - 1), zU] [] σ Post := by
  intro k
  induction k with
  | zero =>
    intro v σ hkk hB hF
    refine zz_gsn 1 rfl ?_
    refine zz_br rfl (fun h68 => ?_) (fun h68 => absurd h68 (by omega))
    exact kk σ v hB hF
  | succ k ih =>
    intro v σ hkk hB hF
    have hlt : k < A.length := by omega
    have hx : (A.take keeps).drop k = A[k] :: (A.take keeps).drop (k + 1) := by
      rw [List.drop_eq_getElem_cons (by rw [List.length_take]; omega), List.getElem_take]
    have hv : σ.2 (m + 4) k = A[k] := hB.2.2.2 k _ (List.getElem?_eq_getElem hlt)
    have e1 : ((k + 1 : Nat) : Int) - 1 = (k : Nat) := by omega
    rw [e1]
    have hn1 : (w_pus mk i ((A.take keeps).drop (k + 1)) Y0).n + (k + 1) ≤ Y0.n + keeps := by rw [w_pus_n, List.length_drop, List.length_take]; omega
    have hn2 : n0 ≤ (w_pus mk i ((A.take keeps).drop (k + 1)) Y0).n := by rw [w_pus_n]; omega
    refine zz_gsn 1 rfl ?_
    refine zz_br rfl (fun h68 => absurd h68 (by omega)) (fun h68 => ?_)
    refine zz_gsn 4 rfl ?_
    refine zz_ald rfl (⟨by omega, by omega⟩) ?_
    refine zz_ste (st' := [zI A[k], zP 12 0 0 m]) (congrArg (fun z : Int => ([zI z, zP 12 0 0 m] : List zz_V)) hv) ?_
    refine zz_gsn 1 rfl ?_
    refine zz_cv (n := 3) rfl rfl (t_Mo_ahead (x := A[k]) (rw := v) hB.1.2.2.1.1 (by show (w_pus mk i ((A.take keeps).drop (k + 1)) Y0).n < 20000; omega)) (Nat.le_of_ble_eq_true rfl) (Nat.le_of_ble_eq_true rfl) (Nat.le_of_ble_eq_true rfl) (fun r75 σ75 q75 => ?_)
    obtain ⟨rfl, h75⟩ := q75
    obtain ⟨B75, F75⟩ := hB.ah (mk := mk) h75
    refine zz_gsn 2 rfl ?_
    refine zz_jp rfl ?_
    rw [show zw ((k : Int) + -1) = (k : Int) - 1 from by rw [zw_id (by omega) (by omega)]; omega]
    refine ih _ σ75 (by omega) ?_ (hF.tr F75 hn2)
    rw [hx]
    exact B75
theorem lp_evD {X : zz_X} {m s i j n0 : Nat} {mk x4 x5 x6 x7 N9 : Int} {R : Nat → List Nat} {S : Nat → Int} {A : List Int} {Y0 : zz_W} {σ0 : zz_M} {Post : Option zz_V → zz_M → Prop} (hA : A.length ≤ 790) (hn : Y0.n + A.length ≤ 20000) (hn0 : n0 ≤ Y0.n) (kk : ∀ σ' v, Bd σ' m s j R S A (w_pus mk j A Y0) v → Rc m s n0 σ0 σ' → zz_G X 2 p_Mo_evensBy 139 [zP 12 0 0 m, zI (s : Nat), zI (i : Nat), zI (j : Nat), zI x4, zI x5, zI x6, zI x7, zI v, zI N9, zI (-1)] [] σ' Post) :
    ∀ (k : Nat) (v : Int) (σ : zz_M), k ≤ A.length → Bd σ m s j R S A (w_pus mk j (A.drop k) Y0) v → Rc m s n0 σ0 σ → zz_G X 2 p_Mo_evensBy 127 [zP 12 0 0 m, zI (s : Nat), zI (i : Nat), zI (j : Nat), zI x4, zI x5, zI x6, zI x7, zI v, zI N9, zI ((k : Int) - 1)] [] σ Post := by
  intro k
  induction k with
  | zero =>
    intro v σ hkk hB hF
    refine zz_gsn 1 rfl ?_
    refine zz_br rfl (fun h128 => ?_) (fun h128 => absurd h128 (by omega))
    exact kk σ v hB hF
  | succ k ih =>
    intro v σ hkk hB hF
    have hlt : k < A.length := by omega
    have hx : A.drop k = A[k] :: A.drop (k + 1) := List.drop_eq_getElem_cons hlt
    have hv : σ.2 (m + 4) k = A[k] := hB.2.2.2 k _ (List.getElem?_eq_getElem hlt)
    have e1 : ((k + 1 : Nat) : Int) - 1 = (k : Nat) := by omega
    rw [e1]
    have hn1 : (w_pus mk j (A.drop (k + 1)) Y0).n + (k + 1) ≤ Y0.n + A.length := by rw [w_pus_n, List.length_drop]; omega
    have hn2 : n0 ≤ (w_pus mk j (A.drop (k + 1)) Y0).n := by rw [w_pus_n]; omega
    refine zz_gsn 1 rfl ?_
    refine zz_br rfl (fun h128 => absurd h128 (by omega)) (fun h128 => ?_)
    refine zz_gsn 4 rfl ?_
    refine zz_ald rfl (⟨by omega, by omega⟩) ?_
    refine zz_ste (st' := [zI A[k], zP 12 0 0 m]) (congrArg (fun z : Int => ([zI z, zP 12 0 0 m] : List zz_V)) hv) ?_
    refine zz_gsn 1 rfl ?_
    refine zz_cv (n := 3) rfl rfl (t_Mo_ahead (x := A[k]) (rw := v) hB.1.2.2.1.1 (by show (w_pus mk j (A.drop (k + 1)) Y0).n < 20000; omega)) (Nat.le_of_ble_eq_true rfl) (Nat.le_of_ble_eq_true rfl) (Nat.le_of_ble_eq_true rfl) (fun r135 σ135 q135 => ?_)
    obtain ⟨rfl, h135⟩ := q135
    obtain ⟨B135, F135⟩ := hB.ah (mk := mk) h135
    refine zz_gsn 2 rfl ?_
    refine zz_jp rfl ?_
    rw [show zw ((k : Int) + -1) = (k : Int) - 1 from by rw [zw_id (by omega) (by omega)]; omega]
    refine ih _ σ135 (by omega) ?_ (hF.tr F135 hn2)
    rw [hx]
    exact B135
theorem lp_evE {X : zz_X} {m s i j keeps n0 : Nat} {mk x5 x6 x7 : Int} {R : Nat → List Nat} {S : Nat → Int} {A : List Int} {Y0 : zz_W} {σ0 : zz_M} {Post : Option zz_V → zz_M → Prop} (hk : keeps ≤ A.length) (hA : A.length ≤ 790) (hn : Y0.n + (A.length - keeps) ≤ 20000) (hn0 : n0 ≤ Y0.n) (kk : ∀ σ' v, Bd σ' m s j R S A (w_pus mk j (A.drop keeps).reverse Y0) v → Rc m s n0 σ0 σ' → zz_G X 2 p_Mo_evensBy 101 [zP 12 0 0 m, zI (s : Nat), zI (i : Nat), zI (j : Nat), zI (A.length : Nat), zI x5, zI x6, zI x7, zI v, zI (A.length : Nat), zU] [] σ' Post) :
    ∀ (r k : Nat) (v : Int) (σ : zz_M), keeps + k + r = A.length → Bd σ m s j R S A (w_pus mk j ((A.drop keeps).take k).reverse Y0) v → Rc m s n0 σ0 σ → zz_G X 2 p_Mo_evensBy 88 [zP 12 0 0 m, zI (s : Nat), zI (i : Nat), zI (j : Nat), zI (A.length : Nat), zI x5, zI x6, zI x7, zI v, zI ((keeps + k : Nat) : Int), zU] [] σ Post := by
  intro r
  induction r with
  | zero =>
    intro k v σ hkk hB hF
    have e : keeps + k = A.length := hkk
    rw [e]
    rw [List.take_of_length_le (by rw [List.length_drop]; omega)] at hB
    refine zz_gsn 2 rfl ?_
    refine zz_br rfl (fun h90 => ?_) (fun h90 => absurd h90 (by omega))
    exact kk σ v hB hF
  | succ r ih =>
    intro k v σ hkk hB hF
    have hlt : keeps + k < A.length := by omega
    have hx : ((A.drop keeps).take (k + 1)).reverse = A[keeps + k] :: ((A.drop keeps).take k).reverse := by
      rw [List.take_succ, List.getElem?_drop, List.getElem?_eq_getElem hlt, List.reverse_append]
      rfl
    have hv : σ.2 (m + 4) (keeps + k) = A[keeps + k] := hB.2.2.2 _ _ (List.getElem?_eq_getElem hlt)
    have hn1 : (w_pus mk j ((A.drop keeps).take k).reverse Y0).n ≤ Y0.n + k := by rw [w_pus_n, List.length_reverse, List.length_take]; omega
    have hn2 : n0 ≤ (w_pus mk j ((A.drop keeps).take k).reverse Y0).n := by rw [w_pus_n]; omega
    refine zz_gsn 2 rfl ?_
    refine zz_br rfl (fun h90 => absurd h90 (by omega)) (fun h90 => ?_)
    refine zz_gsn 4 rfl ?_
    refine zz_ald rfl (⟨by omega, by omega⟩) ?_
    refine zz_ste (st' := [zI A[keeps + k], zP 12 0 0 m]) (congrArg (fun z : Int => ([zI z, zP 12 0 0 m] : List zz_V)) hv) ?_
    refine zz_gsn 1 rfl ?_
    refine zz_cv (n := 3) rfl rfl (t_Mo_ahead (x := A[keeps + k]) (rw := v) hB.1.2.2.1.1 (by show (w_pus mk j ((A.drop keeps).take k).reverse Y0).n < 20000; omega)) (Nat.le_of_ble_eq_true rfl) (Nat.le_of_ble_eq_true rfl) (Nat.le_of_ble_eq_true rfl) (fun r97 σ97 q97 => ?_)
    obtain ⟨rfl, h97⟩ := q97
    obtain ⟨B97, F97⟩ := hB.ah (mk := mk) h97
    refine zz_gsn 2 rfl ?_
    refine zz_jp rfl ?_
    rw [zw_s (by omega)]
    refine ih (k + 1) _ σ97 (by omega) ?_ (hF.tr F97 hn2)
    rw [hx]
    exact B97
