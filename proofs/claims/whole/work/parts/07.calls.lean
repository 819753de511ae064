/-! ARRAYS, ENDS, CALLS over zz_G; contracts zz_T. -/
def zz_eb (i : Nat) : Bool := match zz_K i with
  | (53, n, q) => (List.range n).all (fun k => decide (i + q / 100 + q % 100 * k < zz_n) && decide (zz_K (i + q / 100 + q % 100 * k) = (9, 0, 0)))
  | (54, n, q) => (List.range n).all (fun k => decide (i + q / 100 + q % 100 * k < zz_n) && decide (zz_K (i + q / 100 + q % 100 * k) = (5, 60, 0)))
  | (55, n, q) => (List.range n).all (fun k => decide (i + q / 100 + q % 100 * k < zz_n) && decide (zz_K (i + q / 100 + q % 100 * k) = (2, 0, 0)))
  | _ => true
theorem zz_eb_b : (List.range zz_n).all zz_eb = true := by decide +kernel
/-- what an array of cells holds: its kind -/
def zz_el (t : Nat) : Nat × Nat := match t with
  | 53 => (9, 0)
  | 54 => (5, 60)
  | _ => (2, 0)
theorem zz_elOk {i t n q k : Nat} (hi : i < zz_n) (hK : zz_K i = (t, n, q)) (ht : 53 ≤ t ∧ t < 56) (hk : k < n) : i + q / 100 + q % 100 * k < zz_n ∧ zz_K (i + q / 100 + q % 100 * k) = ((zz_el t).1, (zz_el t).2, 0) := by
  have h1 := List.all_eq_true.mp zz_eb_b i (List.mem_range.mpr hi)
  unfold zz_eb at h1
  rw [hK] at h1
  obtain ⟨h2, h3⟩ := ht
  have h4 : t = 53 ∨ t = 54 ∨ t = 55 := by omega
  rcases h4 with rfl | rfl | rfl
  · have h5 := List.all_eq_true.mp h1 k (List.mem_range.mpr hk)
    simpa [zz_el] using h5
  · have h5 := List.all_eq_true.mp h1 k (List.mem_range.mpr hk)
    simpa [zz_el] using h5
  · have h5 := List.all_eq_true.mp h1 k (List.mem_range.mpr hk)
    simpa [zz_el] using h5
theorem zz_vin {i : Int} {n : Nat} (hi : zz_in i) (h : 0 ≤ i ∧ i < n) : vp_in (Int32.ofInt i) n ∧ (Int32.ofInt i).toNatClampNeg = i.toNat := by
  refine ⟨vp_in_iff.mpr (by rw [zz_tid hi]; exact h), ?_⟩
  show (Int32.ofInt i).toInt.toNat = _
  rw [zz_tid hi]
def zz_a1 (code : List zz_C) (j : Nat) (st : List zz_V) : Option (Int × Nat × Nat × List zz_V) := match code[j]? with
  | some e => match e.2.1, st with
    | .iaload, .inl i :: .inr (.inr (.inl (50, n, _, a))) :: r => some (i, n, a, r)
    | .baload, .inl i :: .inr (.inr (.inl (51, n, _, a))) :: r => some (i, n, a, r)
    | .baload, .inl i :: .inr (.inr (.inl (52, n, _, a))) :: r => some (i, n, a, r)
    | _, _ => none
  | none => none
theorem zz_ce50 {X : zz_X} {σ : zz_M} {a t p q : Nat} (h1 : 50 ≤ t) (h2 : t < 53) : zz_ce X σ a (t, p, q) = .inl (X.dA (t - 50), p, .inl (fun i => Int32.ofInt (σ.2 a i))) := by
  unfold zz_ce
  rw [if_neg (by dsimp only; omega), if_pos (by dsimp only; omega)]
theorem zz_ce53 {X : zz_X} {σ : zz_M} {a t p q : Nat} (h1 : 53 ≤ t) : zz_ce X σ a (t, p, q) = .inl (X.dA (t - 50), p, .inr (.inr (.inr (.inr (fun i => some (a + q / 100 + q % 100 * i)))))) := by
  unfold zz_ce
  rw [if_neg (by dsimp only; omega), if_neg (by dsimp only; omega)]
theorem zz_ws_sa {X : zz_X} {σ : zz_M} {i t p q k : Nat} {v : Int} {f : Nat → Int32} (hi : i < zz_n) (hK : zz_K i = (t, p, q)) (h1 : 50 ≤ t) (h2 : t < 53) (hf : f = upd (fun j => Int32.ofInt (σ.2 (X.b + i) j)) k (Int32.ofInt v)) :
    (zz_ws X σ).set i (X.b + i, .inl (X.dA (t - 50), p, .inl f)) = zz_ws X (zz_sa σ (X.b + i) k v) := by
  refine List.ext_getElem? fun j => ?_
  by_cases hj : j < zz_n
  · by_cases e : j = i
    · subst e
      have ef : f = fun i => Int32.ofInt ((zz_sa σ (X.b + j) k v).2 (X.b + j) i) := by
        rw [hf]
        funext z
        unfold zz_sa upd
        by_cases ez : z = k
        · simp [ez]
        · simp [ez]
      rw [List.getElem?_set_self (by rw [zz_ws_len]; exact hj), zz_ws_at X _ hj, hK, zz_ce50 h1 h2, ef]
    · rw [List.getElem?_set_ne (Ne.symm e), zz_ws_at X _ hj, zz_ws_at X _ hj]
      have e2 : X.b + j ≠ X.b + i := by omega
      have e3 : ∀ K, zz_ce X (zz_sa σ (X.b + i) k v) (X.b + j) K = zz_ce X σ (X.b + j) K := by
        intro K
        have e4 : (zz_sa σ (X.b + i) k v).2 (X.b + j) = σ.2 (X.b + j) := by
          funext z
          unfold zz_sa
          simp only [e2, false_and, if_false]
        unfold zz_ce
        rw [e4]
        rfl
      rw [e3]
  · rw [List.getElem?_eq_none (by rw [List.length_set, zz_ws_len]; omega), List.getElem?_eq_none (by rw [zz_ws_len]; omega)]
theorem zz_R_sa {X : zz_X} {σ : zz_M} {H H1 : Heap} {a i : Nat} {v : Int} (hR : zz_R X σ H) (hv : zz_in v) (hP : va_P X.D zz_cl (zz_ws X (zz_sa σ a i v)) H1) : zz_R X (zz_sa σ a i v) H1 := by
  refine ⟨hP, hR.2.1, fun a' i' => ?_⟩
  unfold zz_sa
  dsimp only
  split
  · exact hv
  · exact hR.2.2 a' i'
section ZA
variable {X : zz_X} {d : Nat} {P : zz_P} {j : Nat} {ls st : List zz_V} {σ : zz_M} {Post : Option zz_V → zz_M → Prop}
/-- a number out of an array -/
theorem zz_ald {i : Int} {n a : Nat} {r : List zz_V} (h : zz_a1 P.code j st = some (i, n, a, r)) (hi : 0 ≤ i ∧ i < n) (k : zz_G X d P (j + 1) ls (zI (σ.2 a i.toNat) :: r) σ Post) : zz_G X d P j ls st σ Post := by
  intro p e s m args below meth c H locs lm hok hx hb hml hr hlk hown hts hE hS hR hl hlen hls hst
  unfold zz_a1 at h
  cases he : P.code[j]? with
  | none => rw [he] at h; cases h
  | some en =>
    rw [he] at h
    dsimp only at h
    obtain ⟨pc, ins, len, ts⟩ := en
    obtain ⟨r1, r2, r3, r4, r5⟩ := zz_row hok he
    rw [r5]
    dsimp only at h r1 r2 r3 r4 ⊢
    split at h
    · rename_i n' q' a' r'
      cases h
      dsimp only [zz_ck] at r3
      have el := of_decide_eq_true r3
      subst el
      obtain ⟨o1, o2, o3⟩ := zz_fm2 hst
      obtain ⟨i0, hi0, ha, hK⟩ := o2
      dsimp only at ha hK
      subst ha
      have hat := zz_ws_at X σ hi0
      rw [hK, zz_ce50 (by omega) (by omega)] at hat
      obtain ⟨v1, v2⟩ := zz_vin o1 hi
      refine va_iald (D := X.D) (cl := zz_cl) (ws := zz_ws X σ) hx hb hE.1 hR.1 i0 0 hat rfl v1 r1 ?_
      have r2' : zz_pc P (j + 1) = pc + 1 := r2 rfl
      rw [← r2', v2]
      exact k p e s m args below meth c H locs lm hok hx hb hml hr hlk hown hts hE hS hR hl hlen hls (zz_all1 (P := zz_ok X) (hR.2.2 _ _) o3)
    · rename_i n' q' a' r'
      cases h
      dsimp only [zz_ck] at r3
      have el := of_decide_eq_true r3
      subst el
      obtain ⟨o1, o2, o3⟩ := zz_fm2 hst
      obtain ⟨i0, hi0, ha, hK⟩ := o2
      dsimp only at ha hK
      subst ha
      have hat := zz_ws_at X σ hi0
      rw [hK, zz_ce50 (by omega) (by omega)] at hat
      obtain ⟨v1, v2⟩ := zz_vin o1 hi
      refine va_bald (D := X.D) (cl := zz_cl) (ws := zz_ws X σ) hx hb hE.1 hR.1 i0 1 hat rfl v1 r1 ?_
      have r2' : zz_pc P (j + 1) = pc + 1 := r2 rfl
      rw [← r2', v2]
      exact k p e s m args below meth c H locs lm hok hx hb hml hr hlk hown hts hE hS hR hl hlen hls (zz_all1 (P := zz_ok X) (hR.2.2 _ _) o3)
    · rename_i n' q' a' r'
      cases h
      dsimp only [zz_ck] at r3
      have el := of_decide_eq_true r3
      subst el
      obtain ⟨o1, o2, o3⟩ := zz_fm2 hst
      obtain ⟨i0, hi0, ha, hK⟩ := o2
      dsimp only at ha hK
      subst ha
      have hat := zz_ws_at X σ hi0
      rw [hK, zz_ce50 (by omega) (by omega)] at hat
      obtain ⟨v1, v2⟩ := zz_vin o1 hi
      refine va_zald (D := X.D) (cl := zz_cl) (ws := zz_ws X σ) hx hb hE.1 hR.1 i0 2 hat rfl v1 r1 ?_
      have r2' : zz_pc P (j + 1) = pc + 1 := r2 rfl
      rw [← r2', v2]
      exact k p e s m args below meth c H locs lm hok hx hb hml hr hlk hown hts hE hS hR hl hlen hls (zz_all1 (P := zz_ok X) (hR.2.2 _ _) o3)
    · cases h
def zz_q1 (code : List zz_C) (j : Nat) (st : List zz_V) : Option (Int × Nat × Nat × Nat × Nat × List zz_V) := match code[j]? with
  | some e => match e.2.1, st with
    | .aaload, .inl i :: .inr (.inr (.inl (t, n, q, a))) :: r => match Nat.ble 53 t && Nat.ble t 55 with
      | true => some (i, t, n, q, a, r)
      | false => none
    | _, _ => none
  | none => none
/-- a cell out of an array -/
theorem zz_aad {i : Int} {t n q a : Nat} {r : List zz_V} (h : zz_q1 P.code j st = some (i, t, n, q, a, r)) (hi : 0 ≤ i ∧ i < n) (k : zz_G X d P (j + 1) ls (zP (zz_el t).1 (zz_el t).2 0 (a + q / 100 + q % 100 * i.toNat) :: r) σ Post) : zz_G X d P j ls st σ Post := by
  intro p e s m args below meth c H locs lm hok hx hb hml hr hlk hown hts hE hS hR hl hlen hls hst
  unfold zz_q1 at h
  cases he : P.code[j]? with
  | none => rw [he] at h; cases h
  | some en =>
    rw [he] at h
    dsimp only at h
    obtain ⟨pc, ins, len, ts⟩ := en
    obtain ⟨r1, r2, r3, r4, r5⟩ := zz_row hok he
    rw [r5]
    dsimp only at h r1 r2 r3 r4 ⊢
    split at h
    · split at h
      · rename_i hb2
        cases h
        rw [Bool.and_eq_true] at hb2
        have b1 := Nat.le_of_ble_eq_true hb2.1
        have b2 := Nat.le_of_ble_eq_true hb2.2
        dsimp only [zz_ck] at r3
        have el := of_decide_eq_true r3
        subst el
        obtain ⟨o1, o2, o3⟩ := zz_fm2 hst
        obtain ⟨i0, hi0, ha, hK⟩ := o2
        dsimp only at ha hK
        subst ha
        have hat := zz_ws_at X σ hi0
        rw [hK, zz_ce53 b1] at hat
        obtain ⟨v1, v2⟩ := zz_vin o1 hi
        obtain ⟨g1, g2⟩ := zz_elOk hi0 hK ⟨b1, by omega⟩ (k := i.toNat) (by omega)
        have hty : ∃ C, (zz_tys X)[t - 50]? = some (X.dA (t - 50), .object C) := by
          have ht2 : t = 53 ∨ t = 54 ∨ t = 55 := by omega
          rcases ht2 with rfl | rfl | rfl
          · exact ⟨_, rfl⟩
          · exact ⟨_, rfl⟩
          · exact ⟨_, rfl⟩
        obtain ⟨C, hty⟩ := hty
        refine va_aldq (D := X.D) (cl := zz_cl) (ws := zz_ws X σ) hx hb hE.1 hR.1 i0 (t - 50) hat hty v1 r1 ?_
        have r2' : zz_pc P (j + 1) = pc + 1 := r2 rfl
        rw [← r2', v2]
        exact k p e s m args below meth c H locs lm hok hx hb hml hr hlk hown hts hE hS hR hl hlen hls (zz_all1 (P := zz_ok X) ⟨i0 + q / 100 + q % 100 * i.toNat, g1, by dsimp only; omega, g2⟩ o3)
      · cases h
    · cases h
def zz_as1 (code : List zz_C) (j : Nat) (st : List zz_V) : Option (Int × Int × Nat × Nat × List zz_V) := match code[j]? with
  | some e => match e.2.1, st with
    | .iastore, .inl v :: .inl i :: .inr (.inr (.inl (50, n, _, a))) :: r => some (v, i, n, a, r)
    | .bastore, .inl v :: .inl i :: .inr (.inr (.inl (51, n, _, a))) :: r => some (zz_i2b v, i, n, a, r)
    | .bastore, .inl v :: .inl i :: .inr (.inr (.inl (52, n, _, a))) :: r => some (zz_i2z v, i, n, a, r)
    | _, _ => none
  | none => none
theorem zz_i2b_of (v : Int) : Int32.ofInt (zz_i2b v) = vp_nar .byte (Int32.ofInt v) := by
  unfold zz_i2b
  rw [Int32.ofInt_toInt, vp_nar_byte]
theorem zz_i2z_of (v : Int) : Int32.ofInt (zz_i2z v) = vp_nar .boolean (Int32.ofInt v) := by
  unfold zz_i2z
  rw [Int32.ofInt_toInt]
/-- a number into an array -/
theorem zz_ast {v i : Int} {n a : Nat} {r : List zz_V} (h : zz_as1 P.code j st = some (v, i, n, a, r)) (hi : 0 ≤ i ∧ i < n) (k : zz_G X d P (j + 1) ls r (zz_sa σ a i.toNat v) Post) : zz_G X d P j ls st σ Post := by
  intro p e s m args below meth c H locs lm hok hx hb hml hr hlk hown hts hE hS hR hl hlen hls hst
  unfold zz_as1 at h
  cases he : P.code[j]? with
  | none => rw [he] at h; cases h
  | some en =>
    rw [he] at h
    dsimp only at h
    obtain ⟨pc, ins, len, ts⟩ := en
    obtain ⟨r1, r2, r3, r4, r5⟩ := zz_row hok he
    rw [r5]
    dsimp only at h r1 r2 r3 r4 ⊢
    split at h
    · rename_i n' q' a' r'
      cases h
      dsimp only [zz_ck] at r3
      have el := of_decide_eq_true r3
      subst el
      obtain ⟨o0, o1, o4⟩ := zz_fm2 hst
      obtain ⟨o2, o3⟩ := List.forall_mem_cons.mp o4
      obtain ⟨i0, hi0, ha, hK⟩ := o2
      dsimp only at ha hK
      subst ha
      have hat := zz_ws_at X σ hi0
      rw [hK, zz_ce50 (by omega) (by omega)] at hat
      obtain ⟨v1, v2⟩ := zz_vin o1 hi
      refine va_iast (D := X.D) (cl := zz_cl) (ws := zz_ws X σ) hx hb hE.1 hR.1 (zz_ws_D X σ) hS i0 0 hat rfl v1 r1 (fun H1 locs1 hP1 hD1 hS1 => ?_)
      rw [v2] at hP1
      have hP2 := hP1
      rw [zz_ws_sa (t := 50) (k := i.toNat) (v := v) hi0 hK (by omega) (by omega) (rfl)] at hP2
      have r2' : zz_pc P (j + 1) = pc + 1 := r2 rfl
      rw [← r2']
      exact k p e s m args below meth c H1 locs1 lm hok hx hb hml hr hlk hown hts hE hS1 (zz_R_sa hR (o0) hP2) hl hlen hls o3
    · rename_i n' q' a' r'
      cases h
      dsimp only [zz_ck] at r3
      have el := of_decide_eq_true r3
      subst el
      obtain ⟨o0, o1, o4⟩ := zz_fm2 hst
      obtain ⟨o2, o3⟩ := List.forall_mem_cons.mp o4
      obtain ⟨i0, hi0, ha, hK⟩ := o2
      dsimp only at ha hK
      subst ha
      have hat := zz_ws_at X σ hi0
      rw [hK, zz_ce50 (by omega) (by omega)] at hat
      obtain ⟨v1, v2⟩ := zz_vin o1 hi
      refine va_bast (D := X.D) (cl := zz_cl) (ws := zz_ws X σ) hx hb hE.1 hR.1 (zz_ws_D X σ) hS i0 1 hat rfl v1 r1 (fun H1 locs1 hP1 hD1 hS1 => ?_)
      rw [v2] at hP1
      have hP2 := hP1
      rw [zz_ws_sa (t := 51) (k := i.toNat) (v := zz_i2b _) hi0 hK (by omega) (by omega) (by rw [zz_i2b_of])] at hP2
      have r2' : zz_pc P (j + 1) = pc + 1 := r2 rfl
      rw [← r2']
      exact k p e s m args below meth c H1 locs1 lm hok hx hb hml hr hlk hown hts hE hS1 (zz_R_sa hR (zz_i32 _) hP2) hl hlen hls o3
    · rename_i n' q' a' r'
      cases h
      dsimp only [zz_ck] at r3
      have el := of_decide_eq_true r3
      subst el
      obtain ⟨o0, o1, o4⟩ := zz_fm2 hst
      obtain ⟨o2, o3⟩ := List.forall_mem_cons.mp o4
      obtain ⟨i0, hi0, ha, hK⟩ := o2
      dsimp only at ha hK
      subst ha
      have hat := zz_ws_at X σ hi0
      rw [hK, zz_ce50 (by omega) (by omega)] at hat
      obtain ⟨v1, v2⟩ := zz_vin o1 hi
      refine va_zast (D := X.D) (cl := zz_cl) (ws := zz_ws X σ) hx hb hE.1 hR.1 (zz_ws_D X σ) hS i0 2 hat rfl v1 r1 (fun H1 locs1 hP1 hD1 hS1 => ?_)
      rw [v2] at hP1
      have hP2 := hP1
      rw [zz_ws_sa (t := 52) (k := i.toNat) (v := zz_i2z _) hi0 hK (by omega) (by omega) (by rw [zz_i2z_of])] at hP2
      have r2' : zz_pc P (j + 1) = pc + 1 := r2 rfl
      rw [← r2']
      exact k p e s m args below meth c H1 locs1 lm hok hx hb hml hr hlk hown hts hE hS1 (zz_R_sa hR (zz_i32 _) hP2) hl hlen hls o3
    · cases h
/-- a truth value into a field -/
def zz_z1 (code : List zz_C) (j : Nat) (st : List zz_V) : Option (Int × Nat × Nat × List zz_V) := match code[j]? with
  | some e => match e.2.1, e.2.2.2, st with
    | .putfield _, f :: _, .inl v :: .inr (.inr (.inl (t, p, q, a))) :: r => match Nat.beq (f / 100) t, zz_rf f p q, zz_isZ f with
      | true, none, true => some (v, f, a, r)
      | _, _, _ => none
    | _, _, _ => none
  | none => none
theorem zz_ptz {v : Int} {f a : Nat} {r : List zz_V} (h : zz_z1 P.code j st = some (v, f, a, r)) (hv : v = 0 ∨ v = 1) (k : zz_G X d P (j + 1) ls r (zz_sf σ f a v) Post) : zz_G X d P j ls st σ Post := by
  intro p e s m args below meth c H locs lm hok hx hb hml hr hlk hown hts hE hS hR hl hlen hls hst
  unfold zz_z1 at h
  cases he : P.code[j]? with
  | none => rw [he] at h; cases h
  | some en =>
    rw [he] at h
    dsimp only at h
    obtain ⟨pc, ins, len, ts⟩ := en
    obtain ⟨r1, r2, r3, r4, r5⟩ := zz_row hok he
    rw [r5]
    dsimp only at h r1 r2 r3 r4 ⊢
    split at h
    · rename_i i f' ts' v' t p1 q1 a' r'
      split at h
      · rename_i hbt hrf hz
        cases h
        simp only [zz_ck, Bool.and_eq_true, decide_eq_true_eq] at r3
        obtain ⟨⟨⟨el, h13⟩, hnf⟩, hfin⟩ := r3
        subst el
        have h13 : f / 100 < 13 := h13
        have hnf : f % 100 < zz_nf (f / 100) := hnf
        have hfin : (zz_fT f).2.2.2 = false := hfin
        have ht := Nat.eq_of_beq_eq_true hbt
        subst ht
        obtain ⟨o0, o1, o3⟩ := zz_fm2 hst
        obtain ⟨i0, hi0, ha, hK⟩ := o1
        dsimp only at ha hK
        subst ha
        obtain ⟨C, T, ty, hc, hin, hty, hnm⟩ := zz_cl_at h13
        have hlink := hts _ (r4 (.fieldLink P.y.cls i (zz_fT f).1 (zz_fT f).2.1 (zz_fT f).2.2.1) List.mem_cons_self)
        have hpty := zz_fieldTy h13 hnf hrf
        rw [hz] at hpty
        rw [zz_fT_at hc] at hlink hfin hpty
        have hat := zz_ws_at X σ hi0
        rw [hK, zz_ce_o h13] at hat
        refine va_put (D := X.D) (cl := zz_cl) (ws := zz_ws X σ) (ci := f / 100) (v := .int (Int32.ofInt v)) (ty := .boolean) hx hb hts hin ty hty hnm hown hE.1 hR.1 (zz_ws_D X σ) hS i0 hat hc (f % 100) hnf hlink (fun _ h => h) hfin hpty ?_ ?_ (by rw [zz_fs_len]; exact hnf) r1 (fun H1 locs1 hP1 hD1 hS1 => ?_)
        · rcases hv with rfl | rfl <;> decide
        · rcases hv with rfl | rfl <;> decide
        · rw [zz_ws_sf hi0 hK h13 rfl hrf] at hP1
          rw [← r2 rfl]
          exact k p e s m args below meth c H1 locs1 lm hok hx hb hml hr hlk hown hts hE hS1 (zz_R_sf hR o0 hP1) hl hlen hls o3
      · cases h
    · cases h
def zz_d1 (code : List zz_C) (j : Nat) (st : List zz_V) : Option (Int × Int × List zz_V) := match code[j]? with
  | some e => match e.2.1, st with
    | .idiv, .inl y :: .inl x :: r => some (y, zz_div x y, r)
    | .irem, .inl y :: .inl x :: r => some (y, zz_rem x y, r)
    | _, _ => none
  | none => none
theorem zz_dv {y z : Int} {r : List zz_V} (h : zz_d1 P.code j st = some (y, z, r)) (hy : y ≠ 0) (k : zz_G X d P (j + 1) ls (zI z :: r) σ Post) : zz_G X d P j ls st σ Post := by
  intro p e s m args below meth c H locs lm hok hx hb hml hr hlk hown hts hE hS hR hl hlen hls hst
  unfold zz_d1 at h
  cases he : P.code[j]? with
  | none => rw [he] at h; cases h
  | some en =>
    rw [he] at h
    dsimp only at h
    obtain ⟨pc, ins, len, ts⟩ := en
    obtain ⟨r1, r2, r3, r4, r5⟩ := zz_row hok he
    rw [r5]
    dsimp only at h r1 r2 r3 r4 ⊢
    split at h
    · rename_i y' x' r'
      cases h
      dsimp only [zz_ck] at r3
      have el := of_decide_eq_true r3
      subst el
      obtain ⟨o1, o2, o3⟩ := zz_fm2 hst
      refine lv_idiv hx hb r1 (fun z => hy ((zz_eq0 o1 zz_iz).mp (z.trans zz_z0.symm))) ?_
      have r2' : zz_pc P (j + 1) = pc + 1 := r2 rfl
      rw [← r2']
      have k2 := k p e s m args below meth c H locs lm hok hx hb hml hr hlk hown hts hE hS hR hl hlen hls (zz_all1 (P := zz_ok X) (zz_i32 _) o3)
      have ev := zz_b_of (fun x y => x / y) x' y
      simp only [List.map_cons, zz_toV, zz_div, ev] at k2
      exact k2
    · rename_i y' x' r'
      cases h
      dsimp only [zz_ck] at r3
      have el := of_decide_eq_true r3
      subst el
      obtain ⟨o1, o2, o3⟩ := zz_fm2 hst
      refine lv_irem hx hb r1 (fun z => hy ((zz_eq0 o1 zz_iz).mp (z.trans zz_z0.symm))) ?_
      have r2' : zz_pc P (j + 1) = pc + 1 := r2 rfl
      rw [← r2']
      have k2 := k p e s m args below meth c H locs lm hok hx hb hml hr hlk hown hts hE hS hR hl hlen hls (zz_all1 (P := zz_ok X) (zz_i32 _) o3)
      have ev := zz_b_of (fun x y => x - x / y * y) x' y
      simp only [List.map_cons, zz_toV, zz_rem, ev] at k2
      exact k2
    · cases h
end ZA
