/-! the reference: a line -/
theorem t_Mo_readDeed {X : zz_X} {σ : zz_M} {m : Nat} {law C : Int} {T : List Int} {S : zr_S} (okT : zb_ok T) (hT : RTp σ m T) (hR : RRd σ m S.k) (ok : zr_ok T S.k) (hf : S.k.f = 0) (hD : RDd σ m law C S) (hc : S.c ≤ 40) (hzb : ∀ v, v ≤ S.c → 0 ≤ S.z v ∧ S.z v ≤ 100) : zz_T X 7 p_Mo_readDeed [zP 12 0 0 m] σ (fun r σ' => r = none ∧ RRd σ' m (zr_ee T law S) ∧ RTp σ' m T ∧ Fq m σ σ' ∧ ((zr_ee T law S).f = 0 → RDd σ' m law C (zr_ee T law S, S.c + 1, zu S.D S.c (zr_kd T law S.k, (zr_c T law S).v.toNat, if zr_pt (zr_kd T law S.k) then (zr_d T law S).v else -1), zu S.z (S.c + 1) (S.z (zr_c T law S).v.toNat + if zr_pt (zr_kd T law S.k) then 1 else -1)))) := by
  refine zz_mk k_Mo_readDeed o_Mo_readDeed rfl rfl (Nat.le_of_ble_eq_true rfl) ?_
  show zz_G X 7 p_Mo_readDeed 0 [zP 12 0 0 m, zU, zU, zU, zU] [] σ _
  have kb := zr_kd_b T law S.k
  rcases (show zr_kd T law S.k = -1 ∨ (zr_kd T law S.k ≠ -1 ∧ S.c = 40) ∨ (zr_kd T law S.k ≠ -1 ∧ S.c < 40 ∧ zr_kd T law S.k = 1) ∨ (zr_kd T law S.k ≠ -1 ∧ S.c < 40 ∧ zr_kd T law S.k = 3) ∨ (zr_kd T law S.k ≠ -1 ∧ S.c < 40 ∧ zr_pt (zr_kd T law S.k)) from by unfold zr_pt; omega) with hk | ⟨hk, hq⟩ | ⟨hk, hq, hk1⟩ | ⟨hk, hq, hk3⟩ | ⟨hk, hq, hpt⟩
  · have ela : zr_la (zr_kd T law S.k) S.c S.k = zr_err 1 S.k := if_pos hk
    have ee : zr_ee T law S = zr_err 1 S.k := (zr_ee_id (by rw [ela]; exact zr_err_f (by decide))).trans ela
    refine zz_gsn 1 rfl ?_
    refine zz_cv (n := 1) rfl rfl (t_Mo_kindHere (k := S.k) (law := law) okT hT hR ok hf hD.1) (Nat.le_of_ble_eq_true rfl) (Nat.le_of_ble_eq_true rfl) (Nat.le_of_ble_eq_true rfl) (fun r1 σ1 q1 => ?_)
    obtain ⟨rfl, rfl⟩ := q1
    refine zz_gsn 3 rfl ?_
    refine zz_br rfl (fun h5 => absurd hk h5) (fun h5 => ?_)
    refine zz_gsn 2 rfl ?_
    refine zz_cv (n := 2) rfl rfl (t_Mo_errs (x := 1) (k := S.k) hR hT) (Nat.le_of_ble_eq_true rfl) (Nat.le_of_ble_eq_true rfl) (Nat.le_of_ble_eq_true rfl) (fun r8 σ8 q8 => ?_)
    obtain ⟨rfl, R8, T8, g8⟩ := q8
    refine zz_gsn 1 rfl ?_
    refine zz_cv (n := 1) rfl rfl (t_Mo_good) (Nat.le_of_ble_eq_true rfl) (Nat.le_of_ble_eq_true rfl) (Nat.le_of_ble_eq_true rfl) (fun r10 σ10 q10 => ?_)
    obtain ⟨rfl, n10, rfl, e10⟩ := q10
    replace e10 : n10 = 0 := e10.elim (fun z => absurd (R8.2.2.2.2.1.symm.trans z.2) (zr_err_f (by decide))) (fun z => z.1)
    refine zz_br rfl (fun h11 => ?_) (fun h11 => absurd e10 h11)
    refine zz_gsn 1 rfl ?_
    refine zz_cv (n := 1) rfl rfl (t_Mo_good) (Nat.le_of_ble_eq_true rfl) (Nat.le_of_ble_eq_true rfl) (Nat.le_of_ble_eq_true rfl) (fun r20 σ20 q20 => ?_)
    obtain ⟨rfl, n20, rfl, e20⟩ := q20
    replace e20 : n20 = 0 := e20.elim (fun z => absurd (R8.2.2.2.2.1.symm.trans z.2) (zr_err_f (by decide))) (fun z => z.1)
    refine zz_br rfl (fun h21 => absurd e20 h21) (fun h21 => ?_)
    refine zz_rv rfl rfl ?_
    rw [ee]
    exact ⟨rfl, R8, T8, g8.q, fun z => absurd z (zr_err_f (by decide))⟩
  · have ela : zr_la (zr_kd T law S.k) S.c S.k = zr_err 3 S.k := (if_neg hk).trans (if_pos (by omega))
    have ee : zr_ee T law S = zr_err 3 S.k := (zr_ee_id (by rw [ela]; exact zr_err_f (by decide))).trans ela
    refine zz_gsn 1 rfl ?_
    refine zz_cv (n := 1) rfl rfl (t_Mo_kindHere (k := S.k) (law := law) okT hT hR ok hf hD.1) (Nat.le_of_ble_eq_true rfl) (Nat.le_of_ble_eq_true rfl) (Nat.le_of_ble_eq_true rfl) (fun r1 σ1 q1 => ?_)
    obtain ⟨rfl, rfl⟩ := q1
    refine zz_gsn 3 rfl ?_
    refine zz_br rfl (fun h5 => ?_) (fun h5 => absurd (by first | exact h5 | exact Decidable.not_not.mp h5) hk)
    refine zz_gsn 1 rfl ?_
    refine zz_cv (n := 1) rfl rfl (t_Mo_good) (Nat.le_of_ble_eq_true rfl) (Nat.le_of_ble_eq_true rfl) (Nat.le_of_ble_eq_true rfl) (fun r10 σ10 q10 => ?_)
    obtain ⟨rfl, n10, rfl, e10⟩ := q10
    replace e10 : n10 = 1 := e10.elim (fun z => z.1) (fun z => absurd (hR.2.2.2.2.1.trans hf) z.2)
    refine zz_br rfl (fun h11 => absurd (e10.symm.trans h11) (by decide)) (fun h11 => ?_)
    refine zz_gsn 3 rfl ?_
    rw [hD.2.2.1]
    refine zz_br rfl (fun h15 => absurd (show ((S.c : Nat) : Int) = 40 by omega) h15) (fun h15 => ?_)
    refine zz_gsn 2 rfl ?_
    refine zz_cv (n := 2) rfl rfl (t_Mo_errs (x := 3) (k := S.k) hR hT) (Nat.le_of_ble_eq_true rfl) (Nat.le_of_ble_eq_true rfl) (Nat.le_of_ble_eq_true rfl) (fun r18 σ18 q18 => ?_)
    obtain ⟨rfl, R18, T18, g18⟩ := q18
    refine zz_gsn 1 rfl ?_
    refine zz_cv (n := 1) rfl rfl (t_Mo_good) (Nat.le_of_ble_eq_true rfl) (Nat.le_of_ble_eq_true rfl) (Nat.le_of_ble_eq_true rfl) (fun r20 σ20 q20 => ?_)
    obtain ⟨rfl, n20, rfl, e20⟩ := q20
    replace e20 : n20 = 0 := e20.elim (fun z => absurd (R18.2.2.2.2.1.symm.trans z.2) (zr_err_f (by decide))) (fun z => z.1)
    refine zz_br rfl (fun h21 => absurd e20 h21) (fun h21 => ?_)
    refine zz_rv rfl rfl ?_
    rw [ee]
    exact ⟨rfl, R18, T18, g18.q, fun z => absurd z (zr_err_f (by decide))⟩
  · have hc40 : S.c < 40 := by omega
    have ela : zr_la (zr_kd T law S.k) S.c S.k = S.k := (if_neg hk).trans (if_neg (by omega))
    have eb : zr_b T law S = zr_ad T S.k := by
      unfold zr_b
      rw [ela]
      exact if_pos hf
    have okc : zr_ok T (zr_c T law S) := zr_lc_ok (zr_b_ok ok)
    have okb : zr_ok T (zr_b T law S) := zr_b_ok ok
    have hpt : ¬ zr_pt (zr_kd T law S.k) := by unfold zr_pt; omega
    refine zz_gsn 1 rfl ?_
    refine zz_cv (n := 1) rfl rfl (t_Mo_kindHere (k := S.k) (law := law) okT hT hR ok hf hD.1) (Nat.le_of_ble_eq_true rfl) (Nat.le_of_ble_eq_true rfl) (Nat.le_of_ble_eq_true rfl) (fun r1 σ1 q1 => ?_)
    obtain ⟨rfl, rfl⟩ := q1
    refine zz_gsn 3 rfl ?_
    refine zz_br rfl (fun h5 => ?_) (fun h5 => absurd (by first | exact h5 | exact Decidable.not_not.mp h5) hk)
    refine zz_gsn 1 rfl ?_
    refine zz_cv (n := 1) rfl rfl (t_Mo_good) (Nat.le_of_ble_eq_true rfl) (Nat.le_of_ble_eq_true rfl) (Nat.le_of_ble_eq_true rfl) (fun r10 σ10 q10 => ?_)
    obtain ⟨rfl, n10, rfl, e10⟩ := q10
    replace e10 : n10 = 1 := e10.elim (fun z => z.1) (fun z => absurd (hR.2.2.2.2.1.trans hf) z.2)
    refine zz_br rfl (fun h11 => absurd (e10.symm.trans h11) (by decide)) (fun h11 => ?_)
    refine zz_gsn 3 rfl ?_
    rw [hD.2.2.1]
    refine zz_br rfl (fun h15 => ?_) (fun h15 => absurd (by first | exact h15 | exact Decidable.not_not.mp h15) (show ¬ ((S.c : Nat) : Int) = 40 by omega))
    refine zz_gsn 1 rfl ?_
    refine zz_cv (n := 1) rfl rfl (t_Mo_good) (Nat.le_of_ble_eq_true rfl) (Nat.le_of_ble_eq_true rfl) (Nat.le_of_ble_eq_true rfl) (fun r20 σ20 q20 => ?_)
    obtain ⟨rfl, n20, rfl, e20⟩ := q20
    replace e20 : n20 = 1 := e20.elim (fun z => z.1) (fun z => absurd (hR.2.2.2.2.1.trans hf) z.2)
    refine zz_br rfl (fun h21 => ?_) (fun h21 => absurd (by first | exact h21 | exact Decidable.not_not.mp h21) (by rw [e20]; decide))
    refine zz_gsn 1 rfl ?_
    refine zz_cv (n := 1) rfl rfl (t_Mo_advance (T := T) (k := S.k) hT okT hR.1 ok.2.1 hR.2.2.2.2.1 hR.2.2.2.2.2) (Nat.le_of_ble_eq_true rfl) (Nat.le_of_ble_eq_true rfl) (Nat.le_of_ble_eq_true rfl) (fun r24 σ24 q24 => ?_)
    obtain ⟨rfl, R24, T24, g24⟩ := q24
    rw [← eb] at R24
    have D24 := hD.f g24
    obtain ⟨b1, b2, b3, b4, b5, b6⟩ := id R24
    refine zz_gsn 2 rfl ?_
    refine zz_br rfl (fun h27 => ?_) (fun h27 => absurd hk1 h27)
    refine zz_gsn 1 rfl ?_
    refine zz_jp rfl ?_
    refine zz_gsn 4 rfl ?_
    refine zz_br rfl (fun h38 => ?_) (fun h38 => ?_)
    · have ec : zr_c T law S = zr_b T law S := if_neg (fun y => h38 (b3.trans (rk_2.mpr y.1)))
      exact rd_55 g24.q okT T24 (by rw [ec]; exact R24) okc D24 hc40 hzb (Or.inr ⟨rfl, hpt⟩)
    · refine zz_gsn 1 rfl ?_
      have t2 : (zr_b T law S).t = 2 := rk_2.mp (b3.symm.trans (by first | exact h38 | exact Decidable.not_not.mp h38))
      refine zz_gsn 3 rfl ?_
      rw [b4 t2, D24.2.2.1]
      refine zz_br rfl (fun h43 => ?_) (fun h43 => ?_)
      · have ec : zr_c T law S = zr_b T law S := if_neg (fun y => absurd y.2.1 (Int.not_le.mpr h43))
        exact rd_55 g24.q okT T24 (by rw [ec]; exact R24) okc D24 hc40 hzb (Or.inr ⟨rfl, hpt⟩)
      · refine zz_gsn 1 rfl ?_
        refine zz_br rfl (fun h45 => absurd h45 (by decide)) (fun h45 => ?_)
        refine zz_gsn 4 rfl ?_
        obtain ⟨bv, hbv⟩ : ∃ n : Nat, (zr_b T law S).v = (n : Int) := ⟨(zr_b T law S).v.toNat, (Int.toNat_of_nonneg (okb.2.2 t2).1).symm⟩
        have bvl : bv ≤ S.c := Int.ofNat_le.mp (hbv ▸ (show (zr_b T law S).v ≤ (S.c : Nat) from (by first | exact h43 | exact Int.not_lt.mp h43)))
        have obv : 0 ≤ ((bv : Nat) : Int) ∧ ((bv : Nat) : Int) < 41 := ⟨Int.natCast_nonneg _, Int.ofNat_lt.mpr (Nat.lt_of_le_of_lt bvl (Nat.lt_succ_of_lt hc40))⟩
        rw [b4 t2, hbv]
        have ez : σ24.2 (m + 18) ((bv : Nat) : Int).toNat = S.z (zr_b T law S).v.toNat := by rw [hbv, Int.toNat_natCast]; exact D24.2.2.2.2 bv bvl
        refine zz_ald rfl (obv) ?_
        refine zz_br rfl (fun h51 => ?_) (fun h51 => ?_)
        · have ec : zr_c T law S = zr_b T law S := if_neg (fun y => h51 (ez.trans y.2.2.2))
          exact rd_55 g24.q okT T24 (by rw [ec]; exact R24) okc D24 hc40 hzb (Or.inr ⟨rfl, hpt⟩)
        · refine zz_gsn 2 rfl ?_
          refine zz_cv (n := 2) rfl rfl (t_Mo_errs (x := 2) (k := zr_b T law S) R24 T24) (Nat.le_of_ble_eq_true rfl) (Nat.le_of_ble_eq_true rfl) (Nat.le_of_ble_eq_true rfl) (fun r54 σ54 q54 => ?_)
          obtain ⟨rfl, R54, T54, g54⟩ := q54
          have ec : zr_c T law S = zr_err 2 (zr_b T law S) := if_pos ⟨t2, h43, hpt, ez.symm.trans (by first | exact h51 | exact Decidable.not_not.mp h51)⟩
          exact rd_55 (g24.tr g54).q okT T54 (by rw [ec]; exact R54) okc (D24.f g54) hc40 hzb (Or.inr ⟨rfl, hpt⟩)
  · have hc40 : S.c < 40 := by omega
    have ela : zr_la (zr_kd T law S.k) S.c S.k = S.k := (if_neg hk).trans (if_neg (by omega))
    have eb : zr_b T law S = zr_ad T S.k := by
      unfold zr_b
      rw [ela]
      exact if_pos hf
    have okc : zr_ok T (zr_c T law S) := zr_lc_ok (zr_b_ok ok)
    have okb : zr_ok T (zr_b T law S) := zr_b_ok ok
    have hpt : ¬ zr_pt (zr_kd T law S.k) := by unfold zr_pt; omega
    have hk1 : ¬ zr_kd T law S.k = 1 := by omega
    refine zz_gsn 1 rfl ?_
    refine zz_cv (n := 1) rfl rfl (t_Mo_kindHere (k := S.k) (law := law) okT hT hR ok hf hD.1) (Nat.le_of_ble_eq_true rfl) (Nat.le_of_ble_eq_true rfl) (Nat.le_of_ble_eq_true rfl) (fun r1 σ1 q1 => ?_)
    obtain ⟨rfl, rfl⟩ := q1
    refine zz_gsn 3 rfl ?_
    refine zz_br rfl (fun h5 => ?_) (fun h5 => absurd (by first | exact h5 | exact Decidable.not_not.mp h5) hk)
    refine zz_gsn 1 rfl ?_
    refine zz_cv (n := 1) rfl rfl (t_Mo_good) (Nat.le_of_ble_eq_true rfl) (Nat.le_of_ble_eq_true rfl) (Nat.le_of_ble_eq_true rfl) (fun r10 σ10 q10 => ?_)
    obtain ⟨rfl, n10, rfl, e10⟩ := q10
    replace e10 : n10 = 1 := e10.elim (fun z => z.1) (fun z => absurd (hR.2.2.2.2.1.trans hf) z.2)
    refine zz_br rfl (fun h11 => absurd (e10.symm.trans h11) (by decide)) (fun h11 => ?_)
    refine zz_gsn 3 rfl ?_
    rw [hD.2.2.1]
    refine zz_br rfl (fun h15 => ?_) (fun h15 => absurd (by first | exact h15 | exact Decidable.not_not.mp h15) (show ¬ ((S.c : Nat) : Int) = 40 by omega))
    refine zz_gsn 1 rfl ?_
    refine zz_cv (n := 1) rfl rfl (t_Mo_good) (Nat.le_of_ble_eq_true rfl) (Nat.le_of_ble_eq_true rfl) (Nat.le_of_ble_eq_true rfl) (fun r20 σ20 q20 => ?_)
    obtain ⟨rfl, n20, rfl, e20⟩ := q20
    replace e20 : n20 = 1 := e20.elim (fun z => z.1) (fun z => absurd (hR.2.2.2.2.1.trans hf) z.2)
    refine zz_br rfl (fun h21 => ?_) (fun h21 => absurd (by first | exact h21 | exact Decidable.not_not.mp h21) (by rw [e20]; decide))
    refine zz_gsn 1 rfl ?_
    refine zz_cv (n := 1) rfl rfl (t_Mo_advance (T := T) (k := S.k) hT okT hR.1 ok.2.1 hR.2.2.2.2.1 hR.2.2.2.2.2) (Nat.le_of_ble_eq_true rfl) (Nat.le_of_ble_eq_true rfl) (Nat.le_of_ble_eq_true rfl) (fun r24 σ24 q24 => ?_)
    obtain ⟨rfl, R24, T24, g24⟩ := q24
    rw [← eb] at R24
    have D24 := hD.f g24
    obtain ⟨b1, b2, b3, b4, b5, b6⟩ := id R24
    refine zz_gsn 2 rfl ?_
    refine zz_br rfl (fun h27 => absurd h27 hk1) (fun h27 => ?_)
    refine zz_gsn 2 rfl ?_
    refine zz_br rfl (fun h30 => absurd hk3 h30) (fun h30 => ?_)
    refine zz_gsn 1 rfl ?_
    refine zz_jp rfl ?_
    refine zz_gsn 4 rfl ?_
    refine zz_br rfl (fun h38 => ?_) (fun h38 => ?_)
    · have ec : zr_c T law S = zr_b T law S := if_neg (fun y => h38 (b3.trans (rk_2.mpr y.1)))
      exact rd_55 g24.q okT T24 (by rw [ec]; exact R24) okc D24 hc40 hzb (Or.inr ⟨rfl, hpt⟩)
    · refine zz_gsn 1 rfl ?_
      have t2 : (zr_b T law S).t = 2 := rk_2.mp (b3.symm.trans (by first | exact h38 | exact Decidable.not_not.mp h38))
      refine zz_gsn 3 rfl ?_
      rw [b4 t2, D24.2.2.1]
      refine zz_br rfl (fun h43 => ?_) (fun h43 => ?_)
      · have ec : zr_c T law S = zr_b T law S := if_neg (fun y => absurd y.2.1 (Int.not_le.mpr h43))
        exact rd_55 g24.q okT T24 (by rw [ec]; exact R24) okc D24 hc40 hzb (Or.inr ⟨rfl, hpt⟩)
      · refine zz_gsn 1 rfl ?_
        refine zz_br rfl (fun h45 => absurd h45 (by decide)) (fun h45 => ?_)
        refine zz_gsn 4 rfl ?_
        obtain ⟨bv, hbv⟩ : ∃ n : Nat, (zr_b T law S).v = (n : Int) := ⟨(zr_b T law S).v.toNat, (Int.toNat_of_nonneg (okb.2.2 t2).1).symm⟩
        have bvl : bv ≤ S.c := Int.ofNat_le.mp (hbv ▸ (show (zr_b T law S).v ≤ (S.c : Nat) from (by first | exact h43 | exact Int.not_lt.mp h43)))
        have obv : 0 ≤ ((bv : Nat) : Int) ∧ ((bv : Nat) : Int) < 41 := ⟨Int.natCast_nonneg _, Int.ofNat_lt.mpr (Nat.lt_of_le_of_lt bvl (Nat.lt_succ_of_lt hc40))⟩
        rw [b4 t2, hbv]
        have ez : σ24.2 (m + 18) ((bv : Nat) : Int).toNat = S.z (zr_b T law S).v.toNat := by rw [hbv, Int.toNat_natCast]; exact D24.2.2.2.2 bv bvl
        refine zz_ald rfl (obv) ?_
        refine zz_br rfl (fun h51 => ?_) (fun h51 => ?_)
        · have ec : zr_c T law S = zr_b T law S := if_neg (fun y => h51 (ez.trans y.2.2.2))
          exact rd_55 g24.q okT T24 (by rw [ec]; exact R24) okc D24 hc40 hzb (Or.inr ⟨rfl, hpt⟩)
        · refine zz_gsn 2 rfl ?_
          refine zz_cv (n := 2) rfl rfl (t_Mo_errs (x := 2) (k := zr_b T law S) R24 T24) (Nat.le_of_ble_eq_true rfl) (Nat.le_of_ble_eq_true rfl) (Nat.le_of_ble_eq_true rfl) (fun r54 σ54 q54 => ?_)
          obtain ⟨rfl, R54, T54, g54⟩ := q54
          have ec : zr_c T law S = zr_err 2 (zr_b T law S) := if_pos ⟨t2, h43, hpt, ez.symm.trans (by first | exact h51 | exact Decidable.not_not.mp h51)⟩
          exact rd_55 (g24.tr g54).q okT T54 (by rw [ec]; exact R54) okc (D24.f g54) hc40 hzb (Or.inr ⟨rfl, hpt⟩)
  · have hc40 : S.c < 40 := by omega
    have ela : zr_la (zr_kd T law S.k) S.c S.k = S.k := (if_neg hk).trans (if_neg (by omega))
    have eb : zr_b T law S = zr_ad T S.k := by
      unfold zr_b
      rw [ela]
      exact if_pos hf
    have okc : zr_ok T (zr_c T law S) := zr_lc_ok (zr_b_ok ok)
    have okb : zr_ok T (zr_b T law S) := zr_b_ok ok
    have hk1 : ¬ zr_kd T law S.k = 1 := by unfold zr_pt at hpt; omega
    have hk3 : ¬ zr_kd T law S.k = 3 := by unfold zr_pt at hpt; omega
    refine zz_gsn 1 rfl ?_
    refine zz_cv (n := 1) rfl rfl (t_Mo_kindHere (k := S.k) (law := law) okT hT hR ok hf hD.1) (Nat.le_of_ble_eq_true rfl) (Nat.le_of_ble_eq_true rfl) (Nat.le_of_ble_eq_true rfl) (fun r1 σ1 q1 => ?_)
    obtain ⟨rfl, rfl⟩ := q1
    refine zz_gsn 3 rfl ?_
    refine zz_br rfl (fun h5 => ?_) (fun h5 => absurd (by first | exact h5 | exact Decidable.not_not.mp h5) hk)
    refine zz_gsn 1 rfl ?_
    refine zz_cv (n := 1) rfl rfl (t_Mo_good) (Nat.le_of_ble_eq_true rfl) (Nat.le_of_ble_eq_true rfl) (Nat.le_of_ble_eq_true rfl) (fun r10 σ10 q10 => ?_)
    obtain ⟨rfl, n10, rfl, e10⟩ := q10
    replace e10 : n10 = 1 := e10.elim (fun z => z.1) (fun z => absurd (hR.2.2.2.2.1.trans hf) z.2)
    refine zz_br rfl (fun h11 => absurd (e10.symm.trans h11) (by decide)) (fun h11 => ?_)
    refine zz_gsn 3 rfl ?_
    rw [hD.2.2.1]
    refine zz_br rfl (fun h15 => ?_) (fun h15 => absurd (by first | exact h15 | exact Decidable.not_not.mp h15) (show ¬ ((S.c : Nat) : Int) = 40 by omega))
    refine zz_gsn 1 rfl ?_
    refine zz_cv (n := 1) rfl rfl (t_Mo_good) (Nat.le_of_ble_eq_true rfl) (Nat.le_of_ble_eq_true rfl) (Nat.le_of_ble_eq_true rfl) (fun r20 σ20 q20 => ?_)
    obtain ⟨rfl, n20, rfl, e20⟩ := q20
    replace e20 : n20 = 1 := e20.elim (fun z => z.1) (fun z => absurd (hR.2.2.2.2.1.trans hf) z.2)
    refine zz_br rfl (fun h21 => ?_) (fun h21 => absurd (by first | exact h21 | exact Decidable.not_not.mp h21) (by rw [e20]; decide))
    refine zz_gsn 1 rfl ?_
    refine zz_cv (n := 1) rfl rfl (t_Mo_advance (T := T) (k := S.k) hT okT hR.1 ok.2.1 hR.2.2.2.2.1 hR.2.2.2.2.2) (Nat.le_of_ble_eq_true rfl) (Nat.le_of_ble_eq_true rfl) (Nat.le_of_ble_eq_true rfl) (fun r24 σ24 q24 => ?_)
    obtain ⟨rfl, R24, T24, g24⟩ := q24
    rw [← eb] at R24
    have D24 := hD.f g24
    obtain ⟨b1, b2, b3, b4, b5, b6⟩ := id R24
    refine zz_gsn 2 rfl ?_
    refine zz_br rfl (fun h27 => absurd h27 hk1) (fun h27 => ?_)
    refine zz_gsn 2 rfl ?_
    refine zz_br rfl (fun h30 => ?_) (fun h30 => absurd (by first | exact h30 | exact Decidable.not_not.mp h30) hk3)
    refine zz_gsn 5 rfl ?_
    refine zz_br rfl (fun h38 => ?_) (fun h38 => ?_)
    · have ec : zr_c T law S = zr_b T law S := if_neg (fun y => h38 (b3.trans (rk_2.mpr y.1)))
      exact rd_55 g24.q okT T24 (by rw [ec]; exact R24) okc D24 hc40 hzb (Or.inl ⟨rfl, hpt⟩)
    · refine zz_gsn 1 rfl ?_
      have t2 : (zr_b T law S).t = 2 := rk_2.mp (b3.symm.trans (by first | exact h38 | exact Decidable.not_not.mp h38))
      refine zz_gsn 3 rfl ?_
      rw [b4 t2, D24.2.2.1]
      refine zz_br rfl (fun h43 => ?_) (fun h43 => ?_)
      · have ec : zr_c T law S = zr_b T law S := if_neg (fun y => absurd y.2.1 (Int.not_le.mpr h43))
        exact rd_55 g24.q okT T24 (by rw [ec]; exact R24) okc D24 hc40 hzb (Or.inl ⟨rfl, hpt⟩)
      · refine zz_gsn 1 rfl ?_
        refine zz_br rfl (fun h45 => ?_) (fun h45 => absurd rfl h45)
        have ec : zr_c T law S = zr_b T law S := if_neg (fun y => y.2.2.1 hpt)
        exact rd_55 g24.q okT T24 (by rw [ec]; exact R24) okc D24 hc40 hzb (Or.inl ⟨rfl, hpt⟩)
