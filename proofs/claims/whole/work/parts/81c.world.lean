/-! the class: the deeds of a graft -/
def g_fc (I : zz_I) (v n on : Nat) : Nat := g_c (g_ct (g_e I.D v n) ((IH I).Q on)) n 0
def g_rc (I : zz_I) (v n on : Nat) : Int := if g_fc I v n on < n then ((zd_w I.D v n (g_fc I v n on) : Nat) : Int) else -1
def g_rs (I : zz_I) (v n on : Nat) : Int := zz_sum (gS I.law I.C (g_e I.D v n) (fun _ => 0) (hw (IH I) on)) (g_fc I v n on)
def g_rq (I : zz_I) (v n on : Nat) : zq_T := gq (g_e I.D v n) ((IH I).Q on) (g_fc I v n on)
theorem g_ct_y {e : Nat → Int × Nat × Int} {q0 : zq_T} {i : Nat} (h : g_cl (e i) (gq e q0 i)) : g_ct e q0 i = true := decide_eq_true h
theorem g_ct_n {e : Nat → Int × Nat × Int} {q0 : zq_T} {i : Nat} (h : ¬ g_cl (e i) (gq e q0 i)) : g_ct e q0 i = false := decide_eq_false h
theorem lp_graft {X : zz_X} {t h k n u v on B0 : Nat} {ho law0 C0 told law C : Int} {D : zz_D} {W0 : zz_W} {q0 : zq_T} {qu : Nat} {st : zz_V} {σ0 : zz_M} {Post : Option zz_V → zz_M → Prop} (hD : DF σ0 (h + 1) ho law0 C0 told k D) (hth : h + 571 ≤ t) (hW : ∀ i, i < n → σ0.2 (h + 17) i = (zd_w D v n i : Nat) ∧ zd_w D v n i < k) (hn : n ≤ 60) (hI : IV law B0 W0) (hB : B0 ≤ 60) (hC : 2 ≤ C ∧ C ≤ 4) (h11 : W0.S 11 = (q0.1 : Nat)) (hq : q0.1 ≤ 60) (hk : g_kd law (g_e D v n) n)
    (kk : ∀ σ', QR σ' (t + 1) (gq (g_e D v n) q0 (g_c (g_ct (g_e D v n) q0) n 0)) → σ'.1 1001 t = zz_sum (gS law C (g_e D v n) (fun _ => 0) W0) (g_c (g_ct (g_e D v n) q0) n 0) → σ'.1 1002 t = (if g_c (g_ct (g_e D v n) q0) n 0 < n then ((zd_w D v n (g_c (g_ct (g_e D v n) q0) n 0) : Nat) : Int) else -1) → zz_F (A_tr t) σ0 σ' → Post (some (zI (n : Nat))) σ') :
    ∀ (r i : Nat) (acc : Int) (σ : zz_M), i + r = n → g_c (g_ct (g_e D v n) q0) r i = g_c (g_ct (g_e D v n) q0) n 0 → (∀ x, x < i → g_ct (g_e D v n) q0 x = false) → TT σ t law C (gw law C (g_e D v n) (fun _ => 0) W0 i) → QR σ (t + 1) (gq (g_e D v n) q0 i) → σ.1 1001 t = acc → acc = zz_sum (gS law C (g_e D v n) (fun _ => 0) W0) i → 0 ≤ acc ∧ acc ≤ 300 * (i : Int) → σ.1 1002 t = -1 → zz_F (A_tr t) σ0 σ → zz_G X 8 p_Trial_graftWay 36 [zP 10 0 0 t, zP 3 0 0 h, zI (u : Nat), zI (v : Nat), zI (on : Nat), zI (n : Nat), st, zP 5 60 0 qu, zI (i : Nat)] [] σ Post := by
  intro r
  induction r with
  | zero =>
    intro i acc σ hi
    obtain rfl : i = n := hi
    have i38 : ((i : Nat) : Int) ≥ (i : Nat) := Int.le_refl _
    intro hc hx hT hQ ha hs hb hcl hF
    have hc2 : i = g_c (g_ct (g_e D v i) q0) i 0 := hc
    rw [← hc2] at kk
    have hcl2 : σ.1 1002 t = if i < i then ((zd_w D v i i : Nat) : Int) else -1 := by rw [if_neg (Nat.lt_irrefl i)]; exact hcl
    clear hc2 hc
    refine zz_gsn 2 rfl ?_
    refine zz_br rfl (fun h38 => ?_) (fun h38 => absurd i38 (by first | exact h38 | exact Int.not_le.mpr h38))
    refine zz_gsn 1 rfl ?_
    refine zz_ri rfl (Or.inl rfl) ?_
    exact kk σ hQ (ha.trans hs) hcl2 hF
  | succ r ih =>
    intro i acc σ hi
    have hin : i < n := by omega
    have i38 : ¬ ((i : Nat) : Int) ≥ (n : Nat) := by omega
    have hw1 : zw ((i : Int) + 1) = ((i + 1 : Nat) : Int) := zw_s (by omega)
    have i9 : i + 1 + r = n := by omega
    have i60 : i < 60 := by omega
    have q60 : q0.1 + i < 120 := by omega
    have hB3 : B0 + i ≤ 300 := by omega
    have hB4 : B0 + i ≤ 1000 := by omega
    have key : ∀ S : Int, 0 < S → S ≤ 2 * ((B0 + i : Nat) : Int) + 10 → 0 ≤ acc ∧ acc ≤ 300 * (i : Int) → (0 ≤ acc ∧ acc ≤ 1000000) ∧ 0 ≤ acc + S ∧ acc + S ≤ 300 * ((i + 1 : Nat) : Int) := fun S z1 z2 z3 => by omega
    have i17 : ¬ A_tr t (h + 17) := by unfold A_tr; omega
    have i18 : ∀ c, h + 1 ≤ c → c ≤ h + 1 + 3 → ¬ A_tr t c := fun c y1 y2 z => by unfold A_tr at z; omega
    have i19 : h + 1 + 3 < t ∨ t + 17 ≤ h + 1 := Or.inl (by omega)
    have hin0 : i ≤ n := by omega
    intro hc hx hT hQ ha hs hb hcl hF
    obtain ⟨a1, a2, a3⟩ := g_inv (C := C) (xs := fun _ => 0) hI hC h11 hk i hin0 hx
    obtain ⟨k1, k2⟩ := hk i hin
    obtain ⟨w1, w2⟩ := hW i hin
    have hD1 := hD.f hF i18
    have w1' : σ.2 (h + 17) i = (zd_w D v n i : Nat) := ((hF (h + 17) i17).2 i).trans w1
    have su := w_steps_v (C := C) (mk := -1) (kind := (g_e D v n i).1) (x := 0) a1 hB4 k1
    have sp := w_steps_p (C := C) (mk := -1) (kind := (g_e D v n i).1) (x := 0) a1 k1
    have es : zz_sum (gS law C (g_e D v n) (fun _ => 0) W0) (i + 1) = zz_sum (gS law C (g_e D v n) (fun _ => 0) W0) i + w_steps law C (-1) (g_e D v n i).1 0 (gw law C (g_e D v n) (fun _ => 0) W0 i) := rfl
    have hy : g_ct (g_e D v n) q0 i = true → g_c (g_ct (g_e D v n) q0) (r + 1) i = i := fun z => if_pos z
    have hny : g_ct (g_e D v n) q0 i = false → g_c (g_ct (g_e D v n) q0) (r + 1) i = g_c (g_ct (g_e D v n) q0) r (i + 1) := fun z => if_neg (by rw [z]; exact Bool.false_ne_true)
    obtain ⟨hac, hb2⟩ := key _ sp su hb
    have hq12 : (gq (g_e D v n) q0 i).1 < 120 := Nat.lt_of_le_of_lt a3 q60
    clear key su sp
    refine zz_gsn 2 rfl ?_
    refine zz_br rfl (fun h38 => absurd h38 i38) (fun h38 => ?_)
    refine zz_gsn 3 rfl ?_
    refine zz_br rfl (fun h42 => absurd hcl h42) (fun h42 => ?_)
    refine zz_gsn 5 rfl ?_
    refine zz_cv (n := 2) rfl rfl (t_History_wayDeed (i := i) i60) (Nat.le_of_ble_eq_true rfl) (Nat.le_of_ble_eq_true rfl) (Nat.le_of_ble_eq_true rfl) (fun r48 σ48 q48 => ?_)
    obtain ⟨rfl, rfl⟩ := q48
    rw [w1']
    refine zz_cv (n := 3) rfl rfl (t_Trial_graftDeed (j := zd_w D v n i) (q := gq (g_e D v n) q0 i) hD1 w2 hT hQ ha hac a1 hB3 hC k1 a2 hq12 i19) (Nat.le_of_ble_eq_true rfl) (Nat.le_of_ble_eq_true rfl) (Nat.le_of_ble_eq_true rfl) (fun r49 σ49 q49 => ?_)
    obtain ⟨rfl, hcs⟩ := q49
    rcases hcs with ⟨hcc, h49⟩ | ⟨hcc, T49, Q49, s49, k49, F49⟩
    · have z : i = g_c (g_ct (g_e D v n) q0) n 0 := (hy (g_ct_y hcc)).symm.trans hc
      rw [← z] at kk
      have y1 : σ49.1 1002 t = if i < n then ((zd_w D v n i : Nat) : Int) else -1 := by
        rw [if_pos hin, h49, sf_h]
      have y2 : σ49.1 1002 t ≠ -1 := by
        rw [h49, sf_h]
        exact Int.ne_of_gt (Int.lt_of_lt_of_le (by decide) (Int.natCast_nonneg _))
      have y3 : σ49.1 1001 t = zz_sum (gS law C (g_e D v n) (fun _ => 0) W0) i := by
        rw [h49, sf_f _ _ (by decide)]
        exact ha.trans hs
      have y4 : zz_F (A_tr t) σ0 σ49 := by
        rw [h49]
        exact hF.tr (zz_F.sf (by unfold A_tr; omega))
      have y5 : QR σ49 (t + 1) (gq (g_e D v n) q0 i) := by
        rw [h49]
        exact hQ.f (A := fun a => a = t) (zz_F.sf rfl) (fun z => absurd z (Nat.succ_ne_self t)) (fun z => absurd z (by clear hs hc es hy hny a2 a3 hb2 hac hb ha hcl w1 w1'; omega))
      clear hs hc es hy hny
      refine zz_gsn 1 rfl ?_
      refine zz_jp rfl ?_
      refine zz_gsn 2 rfl ?_
      refine zz_br rfl (fun h38 => ?_) (fun h38 => ?_)
      · refine zz_gsn 1 rfl ?_
        refine zz_ri rfl (Or.inl rfl) ?_
        exact kk σ49 y5 y3 y1 y4
      · refine zz_gsn 3 rfl ?_
        refine zz_br rfl (fun h42 => ?_) (fun h42 => absurd (by first | exact h42 | exact Decidable.not_not.mp h42) y2)
        refine zz_gsn 1 rfl ?_
        refine zz_ri rfl (Or.inl rfl) ?_
        exact kk σ49 y5 y3 y1 y4
    · have z := hny (g_ct_n hcc)
      refine zz_gsn 1 rfl ?_
      refine zz_jp rfl ?_
      rw [hw1]
      refine ih (i + 1) _ σ49 i9 (z.symm.trans hc) (fun x hx2 => ?_) T49 Q49 s49 (by rw [es, hs]; rfl) hb2 (k49.trans hcl) (hF.tr F49)
      by_cases ex : x = i
      · rw [ex]
        exact g_ct_n hcc
      · exact hx x (Nat.lt_of_le_of_ne (Nat.le_of_lt_succ hx2) ex)
