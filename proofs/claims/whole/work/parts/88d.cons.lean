/-! CONSTRUCTORS: the cells behind the object: finished, but for those that ov names. -/
def zk_x (X : zz_X) (a : Nat) (ov : Nat → Option va_E) (Ks : List (Nat × Nat × Nat)) : List va_E := Ks.mapIdx (fun r K => (ov r).getD (zz_ce X zs0 (a + r) K))
def zk_no : Nat → Option va_E := fun _ => none
def zk_up (ov : Nat → Option va_E) (n : Nat) (e : va_E) : Nat → Option va_E := fun r => if r = n then some e else ov r
theorem zk_x_len (X : zz_X) (a : Nat) (ov : Nat → Option va_E) (Ks : List (Nat × Nat × Nat)) : (zk_x X a ov Ks).length = Ks.length := List.length_mapIdx
theorem zk_x_no (X : zz_X) (a : Nat) (Ks : List (Nat × Nat × Nat)) : zk_x X a zk_no Ks = zk_m X a Ks := rfl
theorem zk_x_at (X : zz_X) (a : Nat) (ov : Nat → Option va_E) {Ks : List (Nat × Nat × Nat)} {r : Nat} {K : Nat × Nat × Nat} (h : Ks[r]? = some K) : (zk_x X a ov Ks)[r]? = some ((ov r).getD (zz_ce X zs0 (a + r) K)) := by
  unfold zk_x
  rw [List.getElem?_mapIdx, h]
  rfl
theorem zk_x_app (X : zz_X) (a : Nat) {ov : Nat → Option va_E} (Ks Ks' : List (Nat × Nat × Nat)) {n : Nat} (h : Ks.length = n) (ho : ∀ r, n ≤ r → ov r = none) : zk_x X a ov Ks ++ zk_m X (a + n) Ks' = zk_x X a ov (Ks ++ Ks') := by
  subst h
  unfold zk_x zk_m
  rw [List.mapIdx_append]
  congr 1
  refine List.ext_getElem? fun i => ?_
  rw [List.getElem?_mapIdx, List.getElem?_mapIdx, ho _ (Nat.le_add_left _ _), show a + Ks.length + i = a + (i + Ks.length) by omega]
  rfl
theorem zk_x_push (X : zz_X) (a : Nat) {ov : Nat → Option va_E} (Ks : List (Nat × Nat × Nat)) (K : Nat × Nat × Nat) {n : Nat} (e : va_E) (h : Ks.length = n) : zk_x X a ov Ks ++ [e] = zk_x X a (zk_up ov n e) (Ks ++ [K]) := by
  subst h
  refine List.ext_getElem? fun i => ?_
  unfold zk_x zk_up
  rw [List.getElem?_mapIdx]
  rcases Nat.lt_trichotomy i Ks.length with h | h | h
  · rw [List.getElem?_append_left (by rw [List.length_mapIdx]; exact h), List.getElem?_append_left h, List.getElem?_mapIdx]
    simp only [if_neg (Nat.ne_of_lt h)]
  · subst h
    rw [List.getElem?_append_right (by rw [List.length_mapIdx]; exact Nat.le_refl _), List.getElem?_append_right (Nat.le_refl _), List.length_mapIdx, Nat.sub_self]
    simp
  · rw [List.getElem?_eq_none (by rw [List.length_append, List.length_mapIdx]; simp; omega), List.getElem?_eq_none (by rw [List.length_append]; simp; omega)]
    rfl
theorem zk_x_set (X : zz_X) (a : Nat) {ov : Nat → Option va_E} (Ks : List (Nat × Nat × Nat)) {n : Nat} (e : va_E) : (zk_x X a ov Ks).set n e = zk_x X a (zk_up ov n e) Ks := by
  refine List.ext_getElem? fun i => ?_
  unfold zk_x zk_up
  rw [List.getElem?_mapIdx, List.getElem?_set, List.length_mapIdx, List.getElem?_mapIdx]
  by_cases h : n = i
  · subst h
    rw [if_pos rfl]
    by_cases hl : n < Ks.length
    · rw [if_pos hl, List.getElem?_eq_getElem hl]
      simp
    · rw [if_neg hl, List.getElem?_eq_none (by omega)]
      rfl
  · rw [if_neg h]
    simp only [if_neg (Ne.symm h)]
section ZK
variable {X : zz_X} {R : Room} {P P' : zz_P} {L0 : List va_E} {t : Nat} {B1 : List va_E} {pc : Nat} {ls st : List zz_V} {fs : List Value} {M : List va_E} {cells slots : Nat} {ov : Nat → Option va_E} {Ks : List (Nat × Nat × Nat)}
theorem zk_wid {c' s' : Nat} (hc : cells ≤ c') (hs : slots ≤ s') (kk : zk_G X R P L0 t B1 pc ls st fs M c' s') : zk_G X R P L0 t B1 pc ls st fs M cells slots := by
  intro p e s m args below meth c H locs lm hx hb hml hr hlk hin hown hts hE hs0 hS hH hl hlen
  exact W.widen hc hs (kk p e s m args below meth c H locs lm hx hb hml hr hlk hin hown hts hE hs0 hS hH hl hlen)
theorem zk_max0 {N idx : Nat} (hd : decode P.bytes pc = .ok (.invokestatic idx, 3)) (hw : Cond.methodLink P.y.cls idx Lib.Math.max.name ∈ zz_tb) (hN : N < 100000) (hf : 1 ≤ R.frames) (hlo : zz_cat st + 13 ≤ R.locals) (hc : cells ≤ R.cells) (hs : slots ≤ R.slots) (kk : zk_G X R P L0 t B1 (pc + 3) ls (.inl (N : Int) :: st) fs M cells slots) : zk_G X R P L0 t B1 pc ls (.inl 0 :: .inl (N : Int) :: st) fs M cells slots := by
  refine zk_max hd hw (by unfold zz_in; omega) (by unfold zz_in; omega) hf hlo hc hs ?_
  rw [Int.max_eq_left (by omega)]
  exact kk
theorem zk_newax {aty : ArrayType} {k N r : Nat} (hd : decode P.bytes pc = .ok (.newarray aty, 2)) (hw : Cond.arrayClass (newarray.typeOf aty) ∈ zz_tb) (hk : k < 3) (hty : (zz_tys X)[k]? = some (X.dA k, newarray.typeOf aty)) (h0 : defaultValue (newarray.typeOf aty) = .int 0) (hne : ∀ C, newarray.typeOf aty ≠ .object C) (hcb : componentBytes (newarray.typeOf aty) ≤ 4) (hN : N < 100000) (hr : Ks.length + 1 = r) (ho : ∀ j, r ≤ j + 1 → ov j = none) (hc : cells + 1 ≤ R.cells) (hs : slots + N ≤ R.slots) (kk : zk_G X R P L0 t B1 (pc + 2) ls (zP (50 + k) N 0 (X.b + L0.length + r) :: st) fs (zk_x X (X.b + L0.length + 1) ov (Ks ++ [(50 + k, N, 0)])) (cells + 1) (slots + N)) : zk_G X R P L0 t B1 pc ls (.inl (N : Int) :: st) fs (zk_x X (X.b + L0.length + 1) ov Ks) cells slots := by
  refine zk_newa (r := r) hd hw hk hty h0 hne hcb hN (by rw [zk_x_len]; exact hr) hc hs ?_
  rw [show X.b + L0.length + r = X.b + L0.length + 1 + Ks.length by omega, zk_x_app X _ Ks _ rfl (fun j hj => ho j (by omega)), show X.b + L0.length + 1 + Ks.length = X.b + L0.length + r by omega]
  exact kk
theorem zk_newqx {k N r idx : Nat} {C : String} (K : Nat × Nat × Nat) (q : Nat) (hd : decode P.bytes pc = .ok (.anewarray idx, 3)) (hw : Cond.classLink P.y.cls idx C ∈ zz_tb) (hC : C ∈ ["TurnQueues$State", "TurnQueues$Numbers", "TurnQueues$Deeds"]) (hty : (zz_tys X)[k]? = some (X.dA k, .object C)) (hN : N < 100000) (hr : Ks.length + 1 = r) (hc : cells + 1 ≤ R.cells) (hs : slots + N ≤ R.slots) (kk : zk_G X R P L0 t B1 (pc + 3) ls (zP (50 + k) N q (X.b + L0.length + r) :: st) fs (zk_x X (X.b + L0.length + 1) (zk_up ov Ks.length (.inl (X.dA k, N, .inr (.inr (.inr (.inr (fun _ => none))))))) (Ks ++ [K])) (cells + 1) (slots + N)) : zk_G X R P L0 t B1 pc ls (.inl (N : Int) :: st) fs (zk_x X (X.b + L0.length + 1) ov Ks) cells slots := by
  refine zk_newq (r := r) hd hw hC hty hN (by rw [zk_x_len]; exact hr) hc hs q ?_
  rw [zk_x_push X _ Ks K _ rfl]
  exact kk
theorem zk_newx {t' r idx : Nat} (hd : decode P.bytes pc = .ok (.new idx, 3)) (ht : t' < 13) (hw : ∀ w ∈ [Cond.classLink P.y.cls idx (zk_R t'), Cond.instantiable (zk_R t') (zz_nf t'), Cond.initialized (zk_R t')], w ∈ zz_tb) (hr : Ks.length + 1 = r) (hc : cells + 1 ≤ R.cells) (hs : slots + zz_nf t' ≤ R.slots) (kk : zk_G X R P L0 t B1 (pc + 3) ls (zP t' 0 0 (X.b + L0.length + r) :: st) fs (zk_x X (X.b + L0.length + 1) ov Ks ++ [.inr (t', zk_fs t')]) (cells + 1) (slots + zz_nf t')) : zk_G X R P L0 t B1 pc ls st fs (zk_x X (X.b + L0.length + 1) ov Ks) cells slots := zk_new (r := r) hd ht hw (by rw [zk_x_len]; exact hr) hc hs kk
theorem zk_callx {t' idx r d d' mc ms n : Nat} {as : List zz_V} {Ks' : List (Nat × Nat × Nat)} (hd : decode P.bytes pc = .ok (.invokespecial idx, 3)) (hok : zk_okC P' n) (hn : as.length = n) (hT : ∀ L, zk_T X d' mc ms P' t' as L (zk_m X (X.b + L.length) Ks')) (hw : Cond.methodLink P.y.cls idx P'.y ∈ zz_tb ∨ (P.y.cls, idx, P'.y) ∈ zk_nl) (hR : R.frames = d ∧ R.locals = 40 * d) (hdd : d' < d) (hmx : P'.maxL ≤ 20) (hcat : zz_cat st ≤ 8) (hr : Ks.length + 1 = r) (ho : ∀ j, r ≤ j + 1 → ov j = none) (hc : cells + mc ≤ R.cells) (hs : slots + ms ≤ R.slots) (kk : zk_G X R P L0 t B1 (pc + 3) ls st fs (zk_x X (X.b + L0.length + 1) ov (Ks ++ Ks')) (cells + mc) (slots + ms)) : zk_G X R P L0 t B1 pc ls (as.reverse ++ zP t' 0 0 (X.b + L0.length + r) :: st) fs (zk_x X (X.b + L0.length + 1) ov Ks ++ [.inr (t', zk_fs t')]) cells slots := by
  refine zk_call (r := r) hd hok hn hT hw hR hdd hmx hcat (by rw [zk_x_len]; exact hr) hc hs ?_
  rw [show X.b + L0.length + r = X.b + L0.length + 1 + Ks.length by omega, zk_x_app X _ Ks _ rfl (fun j hj => ho j (by omega))]
  exact kk
theorem zk_getx {t' k idx r p1 p2 : Nat} {v : zz_V} {K : Nat × Nat × Nat} (hd : decode P.bytes pc = .ok (.getfield idx, 3)) (ht : t' < 13) (hk : k < zz_nf t') (hw : Cond.fieldLink P.y.cls idx (zz_fT (100 * t' + k)).1 (zz_fT (100 * t' + k)).2.1 (zz_fT (100 * t' + k)).2.2.1 ∈ zz_tb) (hat : Ks[r]? = some K) (ho : ov r = none) (hK : K.1 = t') (hv : (zz_fs t' K.2.1 K.2.2 zs0 (X.b + L0.length + (r + 1)))[k]? = some (zz_toV X v)) (kk : zk_G X R P L0 t B1 (pc + 3) ls (v :: st) fs (zk_x X (X.b + L0.length + 1) ov Ks) cells slots) : zk_G X R P L0 t B1 pc ls (zP t' p1 p2 (X.b + L0.length + (r + 1)) :: st) fs (zk_x X (X.b + L0.length + 1) ov Ks) cells slots := by
  refine zk_get (r := r + 1) (fs' := zz_fs t' K.2.1 K.2.2 zs0 (X.b + L0.length + (r + 1))) hd ht hk hw ?_ hv kk
  show (zk_x X (X.b + L0.length + 1) ov Ks)[r]? = _
  rw [zk_x_at X _ ov hat, ho]
  obtain ⟨K1, K2, K3⟩ := K
  dsimp only at hK
  subst hK
  show some (zz_ce X zs0 (X.b + L0.length + 1 + r) (K1, K2, K3)) = _
  rw [zz_ce_o ht, show X.b + L0.length + 1 + r = X.b + L0.length + (r + 1) by omega]
theorem zk_retx {K : Nat × Nat × Nat} (hd : decode P.bytes pc = .ok (.return_, 1)) (ht : t < 13) (hK : K.1 = t) (hfs : fs = zz_fs t K.2.1 K.2.2 zs0 (X.b + L0.length)) (hc : cells ≤ R.cells) (hs : slots ≤ R.slots) : zk_G X R P L0 t (zk_m X (X.b + L0.length) (K :: Ks)) pc ls [] fs (zk_x X (X.b + L0.length + 1) zk_no Ks) cells slots := by
  refine zk_ret hd ?_ hc hs
  obtain ⟨K1, K2, K3⟩ := K
  dsimp only at hK
  subst hK
  rw [hfs, zk_x_no]
  unfold zk_m
  rw [List.mapIdx_cons]
  congr 1
  · exact (zz_ce_o ht).symm
  · refine List.ext_getElem? fun i => ?_
    rw [List.getElem?_mapIdx, List.getElem?_mapIdx, show X.b + L0.length + 1 + i = X.b + L0.length + (i + 1) by omega]
end ZK
