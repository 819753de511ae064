/-! CONSTRUCTORS: arrays, fields, calls. -/
section ZK
variable {X : zz_X} {R : Room} {P : zz_P} {L0 : List va_E} {t : Nat} {B1 : List va_E} {pc : Nat} {ls st : List zz_V} {fs : List Value} {M : List va_E} {cells slots : Nat}
theorem zk_nat {N : Nat} (h : N < 100000) : ¬ Int32.ofInt (N : Int) < 0 ∧ (Int32.ofInt (N : Int)).toNatClampNeg = N := by
  have e : (Int32.ofInt (N : Int)).toInt = N := zz_tid (by unfold zz_in; omega)
  refine ⟨fun z => ?_, ?_⟩
  · have := Int32.lt_iff_toInt_lt.mp z
    rw [e] at this
    have e0 : (0 : Int32).toInt = 0 := rfl
    omega
  · show (Int32.ofInt (N : Int)).toInt.toNat = N
    rw [e]
    omega
theorem zk_arr0 (X : zz_X) (a : Nat) (k N : Nat) (h : k < 3) : zk_m X a [(50 + k, N, 0)] = [.inl (X.dA k, N, .inl (fun _ => (0 : Int32)))] := by
  unfold zk_m
  rw [List.mapIdx_cons, List.mapIdx_nil]
  unfold zz_ce
  rw [if_neg (by dsimp only; omega), if_pos (by dsimp only; omega)]
  dsimp only
  rw [show 50 + k - 50 = k by omega]
  rfl
/-- a new array of numbers -/
theorem zk_newa {aty : ArrayType} {k N r : Nat} (hd : decode P.bytes pc = .ok (.newarray aty, 2)) (hw : Cond.arrayClass (newarray.typeOf aty) ∈ zz_tb) (hk : k < 3) (hty : (zz_tys X)[k]? = some (X.dA k, newarray.typeOf aty)) (h0 : defaultValue (newarray.typeOf aty) = .int 0) (hne : ∀ C, newarray.typeOf aty ≠ .object C) (hcb : componentBytes (newarray.typeOf aty) ≤ 4) (hN : N < 100000) (hr : M.length + 1 = r) (hc : cells + 1 ≤ R.cells) (hs : slots + N ≤ R.slots) (kk : zk_G X R P L0 t B1 (pc + 2) ls (zP (50 + k) N 0 (X.b + L0.length + r) :: st) fs (M ++ zk_m X (X.b + L0.length + r) [(50 + k, N, 0)]) (cells + 1) (slots + N)) : zk_G X R P L0 t B1 pc ls (.inl (N : Int) :: st) fs M cells slots := by
  intro p e s m args below meth c H locs lm hx hb hml hrt hlk hin hown hts hE hs0 hS hH hl hlen
  have hsz : H.size = X.b + L0.length + r := by rw [hH.2, zk_L L0 t fs M hr]; omega
  refine va_newaK (N := N) hx hb (hts _ hw) rfl hd rfl (zk_nat hN).1 (zk_nat hN).2 (Nat.le_trans (Nat.mul_le_mul_left N hcb) (by omega)) hc hs hsz fun H1 cA e1 z1 o1 _ hNm => ?_
  have hcA : cA = X.dA k := by
    have h2 := (hE.1.2 k _ hty).2
    unfold va_RA at h2
    dsimp only at h2
    split at h2
    · rename_i C hC
      exact absurd hC (hne C)
    · exact Option.some.inj (hNm.symm.trans h2)
  subst hcA
  rw [← hsz] at e1 z1 o1
  have hH1 := zk_H.push (e := .inl (X.dA k, N, .inl (fun _ => (0 : Int32)))) hH z1 o1 (by
    rw [← hH.2]
    show H1[H.size]? = some (vp_cell _ _)
    rw [e1, vp_cell_i, h0])
  rw [zk_arr0 X _ k N hk] at kk
  exact kk p e s m args below meth c H1 locs lm hx hb hml hrt hlk hin hown hts hE hs0 (zk_S hS z1 o1) (by rw [List.append_assoc] at hH1; exact hH1) hl hlen
/-- a new array of objects -/
theorem zk_newq {k N r idx : Nat} {C : String} (hd : decode P.bytes pc = .ok (.anewarray idx, 3)) (hw : Cond.classLink P.y.cls idx C ∈ zz_tb) (hC : C ∈ ["TurnQueues$State", "TurnQueues$Numbers", "TurnQueues$Deeds"]) (hty : (zz_tys X)[k]? = some (X.dA k, .object C)) (hN : N < 100000) (hr : M.length + 1 = r) (hc : cells + 1 ≤ R.cells) (hs : slots + N ≤ R.slots) (q : Nat) (kk : zk_G X R P L0 t B1 (pc + 3) ls (zP (50 + k) N q (X.b + L0.length + r) :: st) fs (M ++ [.inl (X.dA k, N, .inr (.inr (.inr (.inr (fun _ => none)))))]) (cells + 1) (slots + N)) : zk_G X R P L0 t B1 pc ls (.inl (N : Int) :: st) fs M cells slots := by
  intro p e s m args below meth c H locs lm hx hb hml hrt hlk hin hown hts hE hs0 hS hH hl hlen
  have hsz : H.size = X.b + L0.length + r := by rw [hH.2, zk_L L0 t fs M hr]; omega
  have eN := (zk_nat hN).2
  refine W.anew hx hb hown (hts _ hw) (va_AO.use (hE.2.2 C hC)) rfl hd rfl (zk_nat hN).1 (by rw [eN]; omega) hc (by rw [eN]; exact hs) fun cA kA comp f1 f2 f3 f4 => ?_
  have hcA : cA = X.dA k := by
    obtain ⟨kA', comp', -, -, -, h2⟩ := (hE.1.2 k _ hty).2
    exact Option.some.inj (f1.symm.trans h2)
  subst hcA
  generalize hH1 : H.push ({ cls := X.dA k, slots := Array.replicate (Int32.ofInt (N : Int)).toNatClampNeg .null, vm := .none } : Cell) = H1
  have z1 : H1.size = H.size + 1 := by rw [← hH1, Array.size_push]
  have e1 : H1[H.size]? = some (arrV (X.dA k) N (fun _ => .null)) := by rw [← hH1, Array.getElem?_push_size, eN, ← arrV_new]
  have o1 : ∀ q : Nat, q < H.size → H1[q]? = H[q]? := fun q hq => by rw [← hH1, Array.getElem?_push, if_neg (Nat.ne_of_lt hq)]
  have hH1 := zk_H.push (e := .inl (X.dA k, N, .inr (.inr (.inr (.inr (fun _ => none)))))) hH z1 o1 (by
    rw [← hH.2]
    show H1[H.size]? = some (vp_cell _ _)
    rw [e1, vp_cell_q]
    rfl)
  have k2 := kk p e s m args below meth c H1 locs lm hx hb hml hrt hlk hin hown hts hE hs0 (zk_S hS z1 o1) (by rw [List.append_assoc] at hH1; exact hH1) hl hlen
  rw [eN, hsz]
  exact k2
theorem zk_this (L0 : List va_E) (t : Nat) (fs : List Value) (M : List va_E) : (L0 ++ .inr (t, fs) :: M)[L0.length]? = some (.inr (t, fs)) := by
  rw [List.getElem?_append_right (Nat.le_refl _), Nat.sub_self]
  rfl
theorem zk_thisS (L0 : List va_E) (t : Nat) (fs fs' : List Value) (M : List va_E) : (L0 ++ .inr (t, fs) :: M).set L0.length (.inr (t, fs')) = L0 ++ .inr (t, fs') :: M := by
  rw [List.set_append_right _ _ (Nat.le_refl _), Nat.sub_self]
  rfl
/-- a field of this object is set -/
theorem zk_put {k idx : Nat} {v : zz_V} {fty : FieldType} (hd : decode P.bytes pc = .ok (.putfield idx, 3)) (ht : t < 13) (hk : k < zz_nf t) (hw : Cond.fieldLink P.y.cls idx (zz_fT (100 * t + k)).1 (zz_fT (100 * t + k)).2.1 (zz_fT (100 * t + k)).2.2.1 ∈ zz_tb) (hown' : (zz_fT (100 * t + k)).1 = P.y.cls) (hty : zk_ty t k = fty) (hn : narrow fty (zz_toV X v) = zz_toV X v) (hfit : fits fty (zz_toV X v) = true) (hl0 : fs.length = zz_nf t) (p1 p2 : Nat) (kk : zk_G X R P L0 t B1 (pc + 3) ls st (fs.set k (zz_toV X v)) M cells slots) : zk_G X R P L0 t B1 pc ls (v :: zP t p1 p2 (X.b + L0.length) :: st) fs M cells slots := by
  intro p e s m args below meth c H locs lm hx hb hml hrt hlk hin hown hts hE hs0 hS hH hl hlen
  obtain ⟨T, hcc, hiw, hty0, hnm⟩ := zk_cl ht
  have hh : (100 * t + k) / 100 = t ∧ (100 * t + k) % 100 = k := by
    have : zz_nf t ≤ 58 := by
      have : ∀ t, t < 13 → zz_nf t ≤ 58 := by decide
      exact this t ht
    omega
  have hfT : zz_fT (100 * t + k) = T k := by
    unfold zz_fT
    rw [hh.1, hcc, hh.2]
  rw [hfT] at hw hown'
  subst hty
  have hap := va_apart (own := P.y.cls) hts hiw (zk_ty t) hty0 hnm hE.1 hcc
  obtain ⟨q, h1, cell, q1, q2, q3, q4⟩ := hH.at (zk_this L0 t fs M)
  have hq : q = (zk_R t, T, zz_nf t) := Option.some.inj (h1.symm.trans hcc)
  subst hq
  obtain ⟨hSl, hfc, kC, hkC, hkind⟩ := hE.1.1 t _ hcc
  obtain ⟨cf, kf, fi, f, hi, hsl⟩ := hSl k hk
  have hst := (u_facts hfc hkC (u_lays hts hiw hk) hi).1
  have fin : ∀ (H1 : Heap) (j : Nat), H1[X.b + L0.length]? = some (cell.setSlot (X.D.2 t k) (zz_toV X v)) → H1.size = H.size → (∀ q : Nat, q ≠ X.b + L0.length → H1[q]? = H[q]?) → W p X.l e R s m args below meth c H1 (locs ++ [⟨X.b + L0.length, j⟩]) cells slots (MQ below (zk_Q X (L0 ++ B1)) args s R.cells R.slots (zz_A X)) (F0 m (pc + 3) lm (st.map (zz_toV X))) := by
    intro H1 j e1 z1 o1
    have hH1 := zk_H.set (e := .inr (t, fs.set k (zz_toV X v))) hH (zk_this L0 t fs M) z1 o1 ⟨_, hcc, t_OB.to (V := updV (vp_V fs) k (zz_toV X v)) ⟨_, e1, q2, q3, t_set q4 hap hk _⟩ (fun j _ => vp_updV_set (by rw [hl0]; exact hk) _ j)⟩
    rw [zk_thisS] at hH1
    exact kk p e s m args below meth c H1 _ lm hx hb hml hrt hlk hin hown hts hE hs0 (hS.put z1 o1 (show X.b ≤ X.b + L0.length by omega)) hH1 hl hlen
  by_cases hfin : (T k).2.2.2 = true
  · have hlay := hts _ (hiw _ (u_in_lay hk))
    unfold u_lay at hlay
    rw [if_pos hfin] at hlay
    have hcf : m.cls = cf := by
      obtain ⟨_, _, c', _, _, _, -, -, hf', -, -, -, hown2, -⟩ := Cond.laysFinal_spec hlay
      have e1 : c' = cf := by have := hi.symm.trans hf'; simp at this; exact this.1.symm
      rw [hown'] at hown2
      rw [← e1]; exact Option.some.inj (hown.symm.trans hown2)
    have h6 := u_fits hfc hkC hkind (Or.inr hlay) hi (hty0 k hk) hn hfit
    refine W.putFinK hx hb hown (hts _ hw) hi hst hcf hin (by rw [q2]; exact h6) q1 q3 (by rw [hsl]; exact k2_hasslot (q4 k hk)) rfl rfl hd fun H1 e1 z1 o1 => ?_
    exact fin H1 f.slot (by rw [hsl] at e1; exact e1) z1 o1
  · have hlay := hts _ (hiw _ (u_in_lay hk))
    unfold u_lay at hlay
    rw [if_neg hfin] at hlay
    have h6 := u_store hfc hkC hkind hlay hi (hty0 k hk) hn hfit
    refine W.putK hx hb (f := f) ⟨hown, hts _ hw, ⟨_, _, _, hi⟩, hst⟩ (by rw [q2]; exact h6) q1 q3 (by rw [hsl]; exact k2_hasslot (q4 k hk)) rfl rfl hd fun H1 e1 z1 o1 => ?_
    exact fin H1 f.slot (by rw [hsl] at e1; exact e1) z1 o1
/-- a field is read -/
theorem zk_get {t' k idx r p1 p2 : Nat} {v : zz_V} {fs' : List Value} (hd : decode P.bytes pc = .ok (.getfield idx, 3)) (ht : t' < 13) (hk : k < zz_nf t') (hw : Cond.fieldLink P.y.cls idx (zz_fT (100 * t' + k)).1 (zz_fT (100 * t' + k)).2.1 (zz_fT (100 * t' + k)).2.2.1 ∈ zz_tb) (hat : (.inr (t, fs) :: M)[r]? = some (.inr (t', fs'))) (hv : fs'[k]? = some (zz_toV X v)) (kk : zk_G X R P L0 t B1 (pc + 3) ls (v :: st) fs M cells slots) : zk_G X R P L0 t B1 pc ls (zP t' p1 p2 (X.b + L0.length + r) :: st) fs M cells slots := by
  intro p e s m args below meth c H locs lm hx hb hml hrt hlk hin hown hts hE hs0 hS hH hl hlen
  obtain ⟨T, hcc, hiw, hty0, hnm⟩ := zk_cl ht
  have hh : (100 * t' + k) / 100 = t' ∧ (100 * t' + k) % 100 = k := by
    have : zz_nf t' ≤ 58 := by
      have : ∀ t, t < 13 → zz_nf t ≤ 58 := by decide
      exact this t' ht
    omega
  have hfT : zz_fT (100 * t' + k) = T k := by
    unfold zz_fT
    rw [hh.1, hcc, hh.2]
  rw [hfT] at hw
  have hi : (L0 ++ .inr (t, fs) :: M)[L0.length + r]? = some (.inr (t', fs')) := by
    rw [List.getElem?_append_right (by omega), Nat.add_sub_cancel_left]
    exact hat
  have h2 := zk_w_at X hi
  rw [← Nat.add_assoc] at h2
  exact va_get hx hb hts hiw hown hE.1 hH.1 _ h2 hcc k hk (hts _ hw) (fun x h => h) hv hd (kk p e s m args below meth c H locs lm hx hb hml hrt hlk hin hown hts hE hs0 hS hH hl hlen)
/-- an object is laid into an array -/
theorem zk_aast {k N q r r' t' p1 p2 : Nat} {C : String} {i : Nat} {g : Nat → Option Nat} {fs' : List Value} (hd : decode P.bytes pc = .ok (.aastore, 1)) (hty : (zz_tys X)[k]? = some (X.dA k, .object C)) (ht : t' < 13) (hC : zk_R t' = C) (hat : M[r]? = some (.inl (X.dA k, N, .inr (.inr (.inr (.inr g)))))) (hat' : M[r']? = some (.inr (t', fs'))) (hi : i < N) (hN : N < 100000) (kk : zk_G X R P L0 t B1 (pc + 1) ls st fs (M.set r (.inl (X.dA k, N, .inr (.inr (.inr (.inr (va_up g i (some (X.b + L0.length + (r' + 1))))))))))  cells slots) : zk_G X R P L0 t B1 pc ls (zP t' p1 p2 (X.b + L0.length + (r' + 1)) :: .inl (i : Int) :: zP (50 + k) N q (X.b + L0.length + (r + 1)) :: st) fs M cells slots := by
  intro p e s m args below meth c H locs lm hx hb hml hrt hlk hin hown hts hE hs0 hS hH hl hlen
  obtain ⟨T, hcc, hiw, hty0, hnm⟩ := zk_cl ht
  have at' : ∀ {r : Nat} {e : va_E}, M[r]? = some e → (L0 ++ .inr (t, fs) :: M)[L0.length + (r + 1)]? = some e := by
    intro r e h
    rw [List.getElem?_append_right (by omega), Nat.add_sub_cancel_left]
    exact h
  have ha := at' hat
  have hv := at' hat'
  obtain ⟨hn0, hnn⟩ := zk_nat (N := i) (by omega)
  obtain ⟨q', hr', cellV, g1, g2, g3, -⟩ := hH.at hv
  have hcls := (hE.1.1 t' _ hcc).2
  obtain ⟨kA, comp, k1, k2, k3, -⟩ := (hE.1.2 k _ hty).2
  subst hC
  have hcomp : comp = X.D.1 t' := Option.some.inj (k3.symm.trans hcls.1)
  subst hcomp
  obtain ⟨kC, hkC, -⟩ := hcls.2
  have hcA : H[X.b + L0.length + (r + 1)]? = some (vp_cell (X.dA k) (N, .inr (.inr (.inr (.inr g))))) := by
    have := hH.at ha
    rw [← Nat.add_assoc] at this
    exact this
  rw [← Nat.add_assoc] at g1
  refine W.aast hx hb hcA (fun q h => by cases h) (fun h => by cases h) k1 k2 rfl hkC ⟨hn0, by rw [hnn]; show _ < (arrV _ _ _).slots.size; rw [arrV_size]; exact hi⟩ g1 (fun q h => by rw [g3] at h; cases h) (by rw [g2]; exact hkC) (by rw [g2]; exact va_assign hcls) rfl rfl hd fun H1 e1 z1 o1 => ?_
  have hH1 := zk_H.set (e := .inl (X.dA k, N, .inr (.inr (.inr (.inr (va_up g i (some (X.b + L0.length + (r' + 1))))))))) hH ha z1 (by rw [← Nat.add_assoc]; exact o1) (by
    show H1[X.b + (L0.length + (r + 1))]? = some (vp_cell _ _)
    rw [← Nat.add_assoc, e1, vp_cell_q, vp_cell_q, arrV_store, hnn]
    congr 2
    funext j
    by_cases hj : j = i
    · subst hj
      simp [updV, va_up, va_rf, zz_toV]
    · simp [updV, va_up, hj])
  have es : (L0 ++ .inr (t, fs) :: M).set (L0.length + (r + 1)) (.inl (X.dA k, N, .inr (.inr (.inr (.inr (va_up g i (some (X.b + L0.length + (r' + 1))))))))) = L0 ++ .inr (t, fs) :: M.set r (.inl (X.dA k, N, .inr (.inr (.inr (.inr (va_up g i (some (X.b + L0.length + (r' + 1))))))))) := by
    rw [List.set_append_right _ _ (by omega), Nat.add_sub_cancel_left]
    rfl
  rw [es] at hH1
  exact kk p e s m args below meth c H1 _ lm hx hb hml hrt hlk hin hown hts hE hs0 (hS.put z1 o1 (show X.b ≤ X.b + L0.length + (r + 1) by omega)) hH1 hl hlen
end ZK
