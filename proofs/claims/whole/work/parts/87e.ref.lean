/-! the reference: a line laid down -/
/-- the DEEDS read so far -/
def RDd (σ : zz_M) (m : Nat) (law C : Int) (S : zr_S) : Prop := σ.1 1234 m = law ∧ σ.1 1235 m = C ∧ σ.1 1236 m = (S.c : Nat) ∧ (∀ i, i < S.c → σ.2 (m + 15) i = ((S.D i).2.1 : Nat) ∧ σ.2 (m + 16) i = (S.D i).1 ∧ σ.2 (m + 17) i = (if zr_pt (S.D i).1 then (S.D i).2.2 else 0)) ∧ ∀ v, v ≤ S.c → σ.2 (m + 18) v = S.z v
theorem RDd.f {σ σ' : zz_M} {m : Nat} {law C : Int} {S : zr_S} (h : RDd σ m law C S) (hF : Ft m σ σ') : RDd σ' m law C S := by
  obtain ⟨h1, h2, h3, h4, h5⟩ := h
  refine ⟨(hF.1 _ _ (by omega)).trans h1, (hF.1 _ _ (by omega)).trans h2, (hF.1 _ _ (by omega)).trans h3, ?_, ?_⟩
  · rw [hF.2]
    exact h4
  · rw [hF.2]
    exact h5
def Fq (m : Nat) (σ σ' : zz_M) : Prop := (∀ f a, ¬ (a = m ∧ 1228 ≤ f ∧ f ≤ 1236) → σ'.1 f a = σ.1 f a) ∧ ∀ a, ¬ (m + 15 ≤ a ∧ a ≤ m + 18) → σ'.2 a = σ.2 a
theorem Fq.rf {m : Nat} {σ : zz_M} : Fq m σ σ := ⟨fun _ _ _ => rfl, fun _ _ => rfl⟩
theorem Fq.tr {m : Nat} {σ σ1 σ2 : zz_M} (h : Fq m σ σ1) (h2 : Fq m σ1 σ2) : Fq m σ σ2 := ⟨fun f a q => (h2.1 f a q).trans (h.1 f a q), fun a q => (h2.2 a q).trans (h.2 a q)⟩
theorem Ft.q {m : Nat} {σ σ' : zz_M} (h : Ft m σ σ') : Fq m σ σ' := ⟨fun f a q => h.1 f a (fun z => q (by omega)), fun a _ => by rw [h.2]⟩
theorem Fq.sa {m a i : Nat} {σ : zz_M} {x : Int} (h : m + 15 ≤ a ∧ a ≤ m + 18) : Fq m σ (zz_sa σ a i x) := ⟨fun _ _ _ => rfl, fun b q => funext (fun j => sa_a _ _ (fun z => q (by rw [z]; exact h)))⟩
theorem Fq.sf {m f : Nat} {σ : zz_M} {x : Int} (hf : 1228 ≤ f ∧ f ≤ 1236) : Fq m σ (zz_sf σ f m x) := ⟨fun f' a q => by rw [sf_1, if_neg (fun z => q ⟨z.2, by omega⟩)], fun _ _ => rfl⟩
theorem RTp.q {m : Nat} {σ σ' : zz_M} {T : List Int} (h : RTp σ m T) (hF : Fq m σ σ') : RTp σ' m T := ⟨(hF.1 _ _ (by omega)).trans h.1, fun i hi => by rw [hF.2 (m + 13) (by omega)]; exact h.2 i hi⟩
/-- the line's DEED laid down -/
theorem RDd.s {σ σ' : zz_M} {m c v : Nat} {law C kd x zv : Int} {k k' : zr_T} {D : zz_D} {z : Nat → Int} (h : RDd σ m law C (k, c, D, z)) (e : σ' = zz_sf (zz_sa (zz_sa (zz_sa (zz_sa σ (m + 15) c (v : Nat)) (m + 16) c kd) (m + 17) c (if zr_pt kd then x else 0)) (m + 18) (c + 1) zv) 1236 m ((c + 1 : Nat) : Int)) : RDd σ' m law C (k', c + 1, zu D c (kd, v, if zr_pt kd then x else -1), zu z (c + 1) zv) := by
  obtain ⟨h1, h2, h3, h4, h5⟩ := h
  refine ⟨?_, ?_, ?_, fun i hi => ?_, fun w hw => ?_⟩
  · rw [e, sf_f _ _ (by decide)]
    exact h1
  · rw [e, sf_f _ _ (by decide)]
    exact h2
  · rw [e, sf_h]
  · have a15 : σ'.2 (m + 15) i = if i = c then ((v : Nat) : Int) else σ.2 (m + 15) i := by
      rw [e, sf_2, sa_a _ _ (by omega), sa_a _ _ (by omega), sa_a _ _ (by omega)]
      by_cases q : i = c
      · rw [if_pos q, q, sa_h]
      · rw [if_neg q, sa_i _ _ q]
    have a16 : σ'.2 (m + 16) i = if i = c then kd else σ.2 (m + 16) i := by
      rw [e, sf_2, sa_a _ _ (by omega), sa_a _ _ (by omega)]
      by_cases q : i = c
      · rw [if_pos q, q, sa_h]
      · rw [if_neg q, sa_i _ _ q, sa_a _ _ (by omega)]
    have a17 : σ'.2 (m + 17) i = if i = c then (if zr_pt kd then x else 0) else σ.2 (m + 17) i := by
      rw [e, sf_2, sa_a _ _ (by omega)]
      by_cases q : i = c
      · rw [if_pos q, q, sa_h]
      · rw [if_neg q, sa_i _ _ q, sa_a _ _ (by omega), sa_a _ _ (by omega)]
    show σ'.2 (m + 15) i = ((zu D c (kd, v, if zr_pt kd then x else -1) i).2.1 : Nat) ∧ σ'.2 (m + 16) i = (zu D c (kd, v, if zr_pt kd then x else -1) i).1 ∧ σ'.2 (m + 17) i = if zr_pt (zu D c (kd, v, if zr_pt kd then x else -1) i).1 then (zu D c (kd, v, if zr_pt kd then x else -1) i).2.2 else 0
    rw [a15, a16, a17]
    by_cases q : i = c
    · rw [if_pos q, if_pos q, if_pos q, q, zu_s]
      refine ⟨rfl, rfl, ?_⟩
      by_cases y : zr_pt kd
      · show (if zr_pt kd then x else 0) = if zr_pt kd then (if zr_pt kd then x else -1) else 0
        rw [if_pos y, if_pos y, if_pos y]
      · show (if zr_pt kd then x else 0) = if zr_pt kd then (if zr_pt kd then x else -1) else 0
        rw [if_neg y, if_neg y]
    · have hi2 : i < c + 1 := hi
      rw [if_neg q, if_neg q, if_neg q, zu_n _ _ q]
      exact h4 i (by show i < c; omega)
  · have a18 : σ'.2 (m + 18) w = if w = c + 1 then zv else σ.2 (m + 18) w := by
      rw [e, sf_2]
      by_cases q : w = c + 1
      · rw [if_pos q, q, sa_h]
      · rw [if_neg q, sa_i _ _ q, sa_a _ _ (by omega), sa_a _ _ (by omega), sa_a _ _ (by omega)]
    show σ'.2 (m + 18) w = zu z (c + 1) zv w
    rw [a18]
    by_cases q : w = c + 1
    · rw [if_pos q, q, zu_s]
    · have hw2 : w ≤ c + 1 := hw
      rw [if_neg q, zu_n _ _ q]
      exact h5 w (by show w ≤ c; omega)
theorem zr_ee_id {T : List Int} {law : Int} {S : zr_S} (h : (zr_la (zr_kd T law S.k) S.c S.k).f ≠ 0) : zr_ee T law S = zr_la (zr_kd T law S.k) S.c S.k := by
  have e1 : zr_b T law S = zr_la (zr_kd T law S.k) S.c S.k := zr_adv_id h
  have e2 : zr_c T law S = zr_la (zr_kd T law S.k) S.c S.k := by
    unfold zr_c zr_lc
    rw [e1]
    split
    · exact zr_err_id h
    · rfl
  have e3 : zr_d T law S = zr_la (zr_kd T law S.k) S.c S.k := by
    unfold zr_d
    rw [e2]
    exact zr_nm_id h
  unfold zr_ee zr_le2
  rw [e3]
  split
  · exact zr_nm_id h
  · rfl
theorem rd_55 {X : zz_X} {m : Nat} {law C o : Int} {T : List Int} {S : zr_S} {u3 u4 : zz_V} {σ0 σ : zz_M} (h0 : Fq m σ0 σ) (okT : zb_ok T) (hT : RTp σ m T) (hR : RRd σ m (zr_c T law S)) (okc : zr_ok T (zr_c T law S)) (hD : RDd σ m law C S) (hc : S.c < 40) (hzb : ∀ v, v ≤ S.c → 0 ≤ S.z v ∧ S.z v ≤ 100) (ho : (o = 0 ∧ zr_pt (zr_kd T law S.k)) ∨ (o = 1 ∧ ¬ zr_pt (zr_kd T law S.k))) : zz_G X 7 p_Mo_readDeed 55 [zP 12 0 0 m, zI (zr_kd T law S.k), zI o, u3, u4] [] σ (fun r σ' => r = none ∧ RRd σ' m (zr_ee T law S) ∧ RTp σ' m T ∧ Fq m σ0 σ' ∧ ((zr_ee T law S).f = 0 → RDd σ' m law C (zr_ee T law S, S.c + 1, zu S.D S.c (zr_kd T law S.k, (zr_c T law S).v.toNat, if zr_pt (zr_kd T law S.k) then (zr_d T law S).v else -1), zu S.z (S.c + 1) (S.z (zr_c T law S).v.toNat + if zr_pt (zr_kd T law S.k) then 1 else -1)))) := by
  have okd : zr_ok T (zr_d T law S) := zr_nm_ok okc
  rcases id ho with ⟨ep, hkp⟩ | ⟨ep, hkp⟩
  · subst ep
    refine zz_gsn 4 rfl ?_
    rw [hD.2.2.1]
    refine zz_cv (n := 3) rfl rfl (t_Mo_takes (k := zr_c T law S) (lo := 0) (hi := (S.c : Nat)) okT hT hR okc) (Nat.le_of_ble_eq_true rfl) (Nat.le_of_ble_eq_true rfl) (Nat.le_of_ble_eq_true rfl) (fun r59 σ59 q59 => ?_)
    obtain ⟨v59, rfl, R59, T59, g59, x59⟩ := q59
    have hd : RRd σ59 m (zr_d T law S) := R59
    have D59 := hD.f g59
    refine zz_gsn 2 rfl ?_
    refine zz_br rfl (fun h62 => ?_) (fun h62 => absurd rfl h62)
    refine zz_gsn 3 rfl ?_
    refine zz_cv (n := 3) rfl rfl (t_Mo_takes (k := zr_d T law S) (lo := 0) (hi := 99) okT T59 hd okd) (Nat.le_of_ble_eq_true rfl) (Nat.le_of_ble_eq_true rfl) (Nat.le_of_ble_eq_true rfl) (fun r68 σ68 q68 => ?_)
    obtain ⟨v68, rfl, R68, T68, g68, x68⟩ := q68
    have he : RRd σ68 m (zr_ee T law S) := by rw [show zr_ee T law S = zr_nm T 0 99 (zr_d T law S) from if_pos hkp]; exact R68
    have DL := D59.f g68
    have TL := T68
    have GL : Fq m σ0 σ68 := h0.tr (g59.tr g68).q
    refine zz_gsn 2 rfl ?_
    refine zz_cv (n := 1) rfl rfl (t_Mo_good) (Nat.le_of_ble_eq_true rfl) (Nat.le_of_ble_eq_true rfl) (Nat.le_of_ble_eq_true rfl) (fun r71 σ71 q71 => ?_)
    obtain ⟨rfl, n71, rfl, e71⟩ := q71
    refine zz_br rfl (fun h72 => ?_) (fun h72 => ?_)
    · have hf : (zr_ee T law S).f = 0 := he.2.2.2.2.1.symm.trans (e71.elim (fun z => z.2) (fun z => absurd z.1 h72))
      have f2 : (zr_d T law S).f = 0 := (zr_nm_f (by rw [← show zr_ee T law S = zr_nm T 0 99 (zr_d T law S) from if_pos hkp]; exact hf)).1
      obtain ⟨f3, f4, f5, f6, -⟩ := zr_nm_f f2
      obtain ⟨vv, hvv⟩ : ∃ n : Nat, (zr_c T law S).v = (n : Int) := ⟨(zr_c T law S).v.toNat, (Int.toNat_of_nonneg f5).symm⟩
      have ec : v59 = (vv : Nat) := (x59 f2).trans hvv
      have vle : vv ≤ S.c := Int.ofNat_le.mp (hvv ▸ f6)
      have vle41 : vv < 41 := Nat.lt_of_le_of_lt vle (Nat.lt_succ_of_lt hc)
      have ed : v68 = (zr_d T law S).v := x68 (by rw [← show zr_ee T law S = zr_nm T 0 99 (zr_d T law S) from if_pos hkp]; exact hf)
      rw [ec, ed]
      have o40 : 0 ≤ ((S.c : Nat) : Int) ∧ ((S.c : Nat) : Int) < 40 := ⟨Int.natCast_nonneg _, Int.ofNat_lt.mpr hc⟩
      have o41 : 0 ≤ ((S.c + 1 : Nat) : Int) ∧ ((S.c + 1 : Nat) : Int) < 41 := ⟨Int.natCast_nonneg _, Int.ofNat_lt.mpr (Nat.succ_lt_succ hc)⟩
      have ov : 0 ≤ ((vv : Nat) : Int) ∧ ((vv : Nat) : Int) < 41 := ⟨Int.natCast_nonneg _, Int.ofNat_lt.mpr vle41⟩
      have m6 := DL.2.2.1
      have zvv := DL.2.2.2.2 vv vle
      have zb := hzb vv vle
      have za : zw (S.z vv + 1) = S.z vv + 1 := zw_id (Int.le_trans (by decide) (Int.add_le_add_right zb.1 _)) (Int.lt_of_le_of_lt (Int.add_le_add_right zb.2 _) (by decide))
      have zc : zw (((S.c : Nat) : Int) + 1) = ((S.c + 1 : Nat) : Int) := zw_s (Nat.lt_trans hc (by decide))
      refine zz_gsn 4 rfl ?_
      rw [m6]
      refine zz_gsn 1 rfl ?_
      refine zz_ast rfl (o40) ?_
      refine zz_gsn 4 rfl ?_
      rw [show ∀ x y : Int, (zz_sa σ68 (m + 15) (Int.toNat x) y).1 1236 m = ((S.c : Nat) : Int) from fun _ _ => m6]
      refine zz_gsn 1 rfl ?_
      refine zz_ast rfl (o40) ?_
      refine zz_gsn 4 rfl ?_
      rw [show ∀ a1 x y a2 x2 y2, (zz_sa (zz_sa σ68 a1 x y) a2 x2 y2).1 1236 m = ((S.c : Nat) : Int) from fun _ _ _ _ _ _ => m6]
      refine zz_gsn 1 rfl ?_
      refine zz_ast rfl (o40) ?_
      refine zz_gsn 5 rfl ?_
      rw [show ∀ a1 x y a2 x2 y2 a3 x3 y3, (zz_sa (zz_sa (zz_sa σ68 a1 x y) a2 x2 y2) a3 x3 y3).1 1236 m = ((S.c : Nat) : Int) from fun _ _ _ _ _ _ _ _ _ => m6]
      refine zz_gsn 1 rfl ?_
      rw [zc]
      refine zz_gsn 3 rfl ?_
      refine zz_ald rfl (ov) ?_
      rw [show ∀ x y x2 y2 x3 y3, (zz_sa (zz_sa (zz_sa σ68 (m + 15) x y) (m + 16) x2 y2) (m + 17) x3 y3).2 (m + 18) ((vv : Nat) : Int).toNat = S.z vv from fun _ _ _ _ _ _ => (sa_a _ _ (by omega)).trans ((sa_a _ _ (by omega)).trans ((sa_a _ _ (by omega)).trans zvv))]
      refine zz_gsn 1 rfl ?_
      refine zz_br rfl (fun h103 => ?_) (fun h103 => absurd rfl h103)
      refine zz_gsn 2 rfl ?_
      rw [za]
      refine zz_ast rfl (o41) ?_
      refine zz_gsn 5 rfl ?_
      rw [show ∀ a1 x y a2 x2 y2 a3 x3 y3 a4 x4 y4, (zz_sa (zz_sa (zz_sa (zz_sa σ68 a1 x y) a2 x2 y2) a3 x3 y3) a4 x4 y4).1 1236 m = ((S.c : Nat) : Int) from fun _ _ _ _ _ _ _ _ _ _ _ _ => m6, zc]
      clear za zc
      refine zz_gsn 1 rfl ?_
      obtain ⟨σ9, h9⟩ : ∃ s, s = zz_sf (zz_sa (zz_sa (zz_sa (zz_sa σ68 (m + 15) S.c ((vv : Nat) : Int)) (m + 16) S.c (zr_kd T law S.k)) (m + 17) S.c (if zr_pt (zr_kd T law S.k) then (zr_d T law S).v else 0)) (m + 18) (S.c + 1) (S.z vv + (if zr_pt (zr_kd T law S.k) then 1 else -1))) 1236 m ((S.c + 1 : Nat) : Int) := ⟨_, rfl⟩
      have goal := RDd.s (k' := zr_ee T law S) (k := S.k) (v := vv) (kd := zr_kd T law S.k) (x := (zr_d T law S).v) (zv := S.z vv + (if zr_pt (zr_kd T law S.k) then 1 else -1)) DL h9
      have G9 : Fq m σ68 σ9 := by
        rw [h9]
        exact ((((Fq.sa ⟨by omega, by omega⟩).tr (Fq.sa ⟨by omega, by omega⟩)).tr (Fq.sa ⟨by omega, by omega⟩)).tr (Fq.sa ⟨by omega, by omega⟩)).tr (Fq.sf ⟨by decide, by decide⟩)
      have R9 : RRd σ9 m (zr_ee T law S) := by
        have u : ∀ f, f ≠ 1236 → σ9.1 f m = (σ68).1 f m := fun f hf => by rw [h9, sf_f _ _ hf]; rfl
        obtain ⟨r1, r2, r3, r4, r5, r6⟩ := he
        exact ⟨(u _ (by decide)).trans r1, (u _ (by decide)).trans r2, (u _ (by decide)).trans r3, fun z => (u _ (by decide)).trans (r4 z), (u _ (by decide)).trans r5, (u _ (by decide)).trans r6⟩
      have T9 := TL.q G9
      rw [if_pos hkp, if_pos hkp] at h9
      refine zz_sge (σ' := σ9) h9 ?_
      refine zz_rv rfl rfl ?_
      rw [hvv, Int.toNat_natCast]
      exact ⟨rfl, R9, T9, GL.tr G9, fun _ => goal⟩
    · refine zz_rv rfl rfl ?_
      have hf : (zr_ee T law S).f ≠ 0 := fun z => e71.elim (fun y => absurd (y.1.symm.trans (by first | exact h72 | exact Decidable.not_not.mp h72)) (by decide)) (fun y => y.2 (he.2.2.2.2.1.trans z))
      exact ⟨rfl, he, TL, GL, fun z => absurd z hf⟩
  · subst ep
    refine zz_gsn 4 rfl ?_
    rw [hD.2.2.1]
    refine zz_cv (n := 3) rfl rfl (t_Mo_takes (k := zr_c T law S) (lo := 0) (hi := (S.c : Nat)) okT hT hR okc) (Nat.le_of_ble_eq_true rfl) (Nat.le_of_ble_eq_true rfl) (Nat.le_of_ble_eq_true rfl) (fun r59 σ59 q59 => ?_)
    obtain ⟨v59, rfl, R59, T59, g59, x59⟩ := q59
    have hd : RRd σ59 m (zr_d T law S) := R59
    have D59 := hD.f g59
    refine zz_gsn 2 rfl ?_
    refine zz_br rfl (fun h62 => absurd h62 (by decide)) (fun h62 => ?_)
    refine zz_gsn 1 rfl ?_
    refine zz_jp rfl ?_
    have he : RRd σ59 m (zr_ee T law S) := by rw [show zr_ee T law S = zr_d T law S from if_neg hkp]; exact hd
    have DL := D59
    have TL := T59
    have GL : Fq m σ0 σ59 := h0.tr g59.q
    refine zz_gsn 2 rfl ?_
    refine zz_cv (n := 1) rfl rfl (t_Mo_good) (Nat.le_of_ble_eq_true rfl) (Nat.le_of_ble_eq_true rfl) (Nat.le_of_ble_eq_true rfl) (fun r71 σ71 q71 => ?_)
    obtain ⟨rfl, n71, rfl, e71⟩ := q71
    refine zz_br rfl (fun h72 => ?_) (fun h72 => ?_)
    · have hf : (zr_ee T law S).f = 0 := he.2.2.2.2.1.symm.trans (e71.elim (fun z => z.2) (fun z => absurd z.1 h72))
      have f2 : (zr_d T law S).f = 0 := (by rw [← show zr_ee T law S = zr_d T law S from if_neg hkp]; exact hf)
      obtain ⟨f3, f4, f5, f6, -⟩ := zr_nm_f f2
      obtain ⟨vv, hvv⟩ : ∃ n : Nat, (zr_c T law S).v = (n : Int) := ⟨(zr_c T law S).v.toNat, (Int.toNat_of_nonneg f5).symm⟩
      have ec : v59 = (vv : Nat) := (x59 f2).trans hvv
      have vle : vv ≤ S.c := Int.ofNat_le.mp (hvv ▸ f6)
      have vle41 : vv < 41 := Nat.lt_of_le_of_lt vle (Nat.lt_succ_of_lt hc)
      rw [ec]
      have o40 : 0 ≤ ((S.c : Nat) : Int) ∧ ((S.c : Nat) : Int) < 40 := ⟨Int.natCast_nonneg _, Int.ofNat_lt.mpr hc⟩
      have o41 : 0 ≤ ((S.c + 1 : Nat) : Int) ∧ ((S.c + 1 : Nat) : Int) < 41 := ⟨Int.natCast_nonneg _, Int.ofNat_lt.mpr (Nat.succ_lt_succ hc)⟩
      have ov : 0 ≤ ((vv : Nat) : Int) ∧ ((vv : Nat) : Int) < 41 := ⟨Int.natCast_nonneg _, Int.ofNat_lt.mpr vle41⟩
      have m6 := DL.2.2.1
      have zvv := DL.2.2.2.2 vv vle
      have zb := hzb vv vle
      have za : zw (S.z vv + -1) = S.z vv + -1 := zw_id (Int.le_trans (by decide) (Int.add_le_add_right zb.1 _)) (Int.lt_of_le_of_lt (Int.add_le_add_right zb.2 _) (by decide))
      have zc : zw (((S.c : Nat) : Int) + 1) = ((S.c + 1 : Nat) : Int) := zw_s (Nat.lt_trans hc (by decide))
      refine zz_gsn 4 rfl ?_
      rw [m6]
      refine zz_gsn 1 rfl ?_
      refine zz_ast rfl (o40) ?_
      refine zz_gsn 4 rfl ?_
      rw [show ∀ x y : Int, (zz_sa σ59 (m + 15) (Int.toNat x) y).1 1236 m = ((S.c : Nat) : Int) from fun _ _ => m6]
      refine zz_gsn 1 rfl ?_
      refine zz_ast rfl (o40) ?_
      refine zz_gsn 4 rfl ?_
      rw [show ∀ a1 x y a2 x2 y2, (zz_sa (zz_sa σ59 a1 x y) a2 x2 y2).1 1236 m = ((S.c : Nat) : Int) from fun _ _ _ _ _ _ => m6]
      refine zz_gsn 1 rfl ?_
      refine zz_ast rfl (o40) ?_
      refine zz_gsn 5 rfl ?_
      rw [show ∀ a1 x y a2 x2 y2 a3 x3 y3, (zz_sa (zz_sa (zz_sa σ59 a1 x y) a2 x2 y2) a3 x3 y3).1 1236 m = ((S.c : Nat) : Int) from fun _ _ _ _ _ _ _ _ _ => m6]
      refine zz_gsn 1 rfl ?_
      rw [zc]
      refine zz_gsn 3 rfl ?_
      refine zz_ald rfl (ov) ?_
      rw [show ∀ x y x2 y2 x3 y3, (zz_sa (zz_sa (zz_sa σ59 (m + 15) x y) (m + 16) x2 y2) (m + 17) x3 y3).2 (m + 18) ((vv : Nat) : Int).toNat = S.z vv from fun _ _ _ _ _ _ => (sa_a _ _ (by omega)).trans ((sa_a _ _ (by omega)).trans ((sa_a _ _ (by omega)).trans zvv))]
      refine zz_gsn 1 rfl ?_
      refine zz_br rfl (fun h103 => absurd h103 (by decide)) (fun h103 => ?_)
      refine zz_gsn 1 rfl ?_
      refine zz_jp rfl ?_
      refine zz_gsn 1 rfl ?_
      rw [za]
      refine zz_ast rfl (o41) ?_
      refine zz_gsn 5 rfl ?_
      rw [show ∀ a1 x y a2 x2 y2 a3 x3 y3 a4 x4 y4, (zz_sa (zz_sa (zz_sa (zz_sa σ59 a1 x y) a2 x2 y2) a3 x3 y3) a4 x4 y4).1 1236 m = ((S.c : Nat) : Int) from fun _ _ _ _ _ _ _ _ _ _ _ _ => m6, zc]
      clear za zc
      refine zz_gsn 1 rfl ?_
      obtain ⟨σ9, h9⟩ : ∃ s, s = zz_sf (zz_sa (zz_sa (zz_sa (zz_sa σ59 (m + 15) S.c ((vv : Nat) : Int)) (m + 16) S.c (zr_kd T law S.k)) (m + 17) S.c (if zr_pt (zr_kd T law S.k) then (zr_d T law S).v else 0)) (m + 18) (S.c + 1) (S.z vv + (if zr_pt (zr_kd T law S.k) then 1 else -1))) 1236 m ((S.c + 1 : Nat) : Int) := ⟨_, rfl⟩
      have goal := RDd.s (k' := zr_ee T law S) (k := S.k) (v := vv) (kd := zr_kd T law S.k) (x := (zr_d T law S).v) (zv := S.z vv + (if zr_pt (zr_kd T law S.k) then 1 else -1)) DL h9
      have G9 : Fq m σ59 σ9 := by
        rw [h9]
        exact ((((Fq.sa ⟨by omega, by omega⟩).tr (Fq.sa ⟨by omega, by omega⟩)).tr (Fq.sa ⟨by omega, by omega⟩)).tr (Fq.sa ⟨by omega, by omega⟩)).tr (Fq.sf ⟨by decide, by decide⟩)
      have R9 : RRd σ9 m (zr_ee T law S) := by
        have u : ∀ f, f ≠ 1236 → σ9.1 f m = (σ59).1 f m := fun f hf => by rw [h9, sf_f _ _ hf]; rfl
        obtain ⟨r1, r2, r3, r4, r5, r6⟩ := he
        exact ⟨(u _ (by decide)).trans r1, (u _ (by decide)).trans r2, (u _ (by decide)).trans r3, fun z => (u _ (by decide)).trans (r4 z), (u _ (by decide)).trans r5, (u _ (by decide)).trans r6⟩
      have T9 := TL.q G9
      rw [if_neg hkp, if_neg hkp] at h9
      refine zz_sge (σ' := σ9) h9 ?_
      refine zz_rv rfl rfl ?_
      rw [hvv, Int.toNat_natCast]
      exact ⟨rfl, R9, T9, GL.tr G9, fun _ => goal⟩
    · refine zz_rv rfl rfl ?_
      have hf : (zr_ee T law S).f ≠ 0 := fun z => e71.elim (fun y => absurd (y.1.symm.trans (by first | exact h72 | exact Decidable.not_not.mp h72)) (by decide)) (fun y => y.2 (he.2.2.2.2.1.trans z))
      exact ⟨rfl, he, TL, GL, fun z => absurd z hf⟩
