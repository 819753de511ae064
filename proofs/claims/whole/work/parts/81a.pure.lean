/-! grafts -/
/-- a way's deeds, done from a third VERSION on: queues, states, steps -/
def g_e (D : zz_D) (v n : Nat) (i : Nat) : Int × Nat × Int := D (zd_w D v n i)
def gq (e : Nat → Int × Nat × Int) (q0 : zq_T) : Nat → zq_T
  | 0 => q0
  | i + 1 => zq_chg (e i).1 (e i).2.2 (gq e q0 i)
def gw (law C : Int) (e : Nat → Int × Nat × Int) (xs : Nat → Int) (W0 : zz_W) : Nat → zz_W
  | 0 => W0
  | i + 1 => w_deed law C (-1) (e i).1 (xs i) (gw law C e xs W0 i)
def gS (law C : Int) (e : Nat → Int × Nat × Int) (xs : Nat → Int) (W0 : zz_W) (i : Nat) : Int := w_steps law C (-1) (e i).1 (xs i) (gw law C e xs W0 i)
def g_ct (e : Nat → Int × Nat × Int) (q0 : zq_T) (i : Nat) : Bool := decide (((e i).1 = 1 ∨ (e i).1 = 3) ∧ (gq e q0 i).1 = 0)
/-- the first of some places at which it holds; else behind them -/
def g_c (P : Nat → Bool) : Nat → Nat → Nat
  | 0, i => i
  | r + 1, i => if P i = true then i else g_c P r (i + 1)
theorem g_c_b (P : Nat → Bool) : ∀ r i, i ≤ g_c P r i ∧ g_c P r i ≤ i + r
  | 0, i => ⟨Nat.le_refl _, Nat.le_refl _⟩
  | r + 1, i => by
    show i ≤ (if P i = true then i else g_c P r (i + 1)) ∧ (if P i = true then i else g_c P r (i + 1)) ≤ i + (r + 1)
    have ih := g_c_b P r (i + 1)
    split <;> omega
theorem g_c_f (P : Nat → Bool) : ∀ r i x, i ≤ x → x < g_c P r i → P x = false
  | 0, i, x, h1, h2 => absurd h2 (Nat.not_lt.mpr h1)
  | r + 1, i, x, h1, h2 => by
    have h3 : x < (if P i = true then i else g_c P r (i + 1)) := h2
    by_cases h : P i = true
    · rw [if_pos h] at h3
      omega
    · rw [if_neg h] at h3
      by_cases e : x = i
      · rw [e]
        exact Bool.not_eq_true _ ▸ h
      · exact g_c_f P r (i + 1) x (by omega) h3
theorem g_c_t (P : Nat → Bool) : ∀ r i, g_c P r i < i + r → P (g_c P r i) = true
  | 0, i, h => absurd h (Nat.lt_irrefl i)
  | r + 1, i, h => by
    show P (if P i = true then i else g_c P r (i + 1)) = true
    have h3 : (if P i = true then i else g_c P r (i + 1)) < i + (r + 1) := h
    by_cases h2 : P i = true
    · rw [if_pos h2]
      exact h2
    · rw [if_neg h2] at h3 ⊢
      exact g_c_t P r (i + 1) (by omega)
def g_kd (law : Int) (e : Nat → Int × Nat × Int) (n : Nat) : Prop := ∀ i, i < n → (0 ≤ (e i).1 ∧ (e i).1 ≤ 3) ∧ (law ≠ 2 → (e i).1 ≤ 1)
theorem g_ct_p {e : Nat → Int × Nat × Int} {q0 : zq_T} {i : Nat} (h : g_ct e q0 i = false) : (e i).1 = 1 ∨ (e i).1 = 3 → 0 < (gq e q0 i).1 := fun z => by
  have h2 := of_decide_eq_false h
  rcases Nat.eq_zero_or_pos (gq e q0 i).1 with y | y
  · exact absurd ⟨z, y⟩ h2
  · exact y
theorem g_inv {law C : Int} {e : Nat → Int × Nat × Int} {xs : Nat → Int} {W0 : zz_W} {q0 : zq_T} {B0 n : Nat} (hI : IV law B0 W0) (hC : 2 ≤ C ∧ C ≤ 4) (h11 : W0.S 11 = (q0.1 : Nat)) (hk : g_kd law e n) : ∀ i, i ≤ n → (∀ x, x < i → g_ct e q0 x = false) → IV law (B0 + i) (gw law C e xs W0 i) ∧ (gw law C e xs W0 i).S 11 = ((gq e q0 i).1 : Nat) ∧ (gq e q0 i).1 ≤ q0.1 + i
  | 0, _, _ => ⟨hI, h11, Nat.le_refl _⟩
  | i + 1, hi, hx => by
    obtain ⟨a1, a2, a3⟩ := g_inv (C := C) (xs := xs) hI hC h11 hk i (by omega) (fun x hx2 => hx x (by omega))
    have hp := g_ct_p (hx i (by omega))
    obtain ⟨k1, k2⟩ := hk i (by omega)
    obtain ⟨d1, d2, -⟩ := IV_deed (C := C) (mk := -1) (kind := (e i).1) (x := xs i) a1 hC k1 k2 (fun z => by rw [a2]; exact Int.ofNat_lt.mpr (hp z))
    have c := zq_ck' (x := (e i).2.2) (q := gq e q0 i) k1 hp
    refine ⟨d1, ?_, ?_⟩
    · show (w_deed law C (-1) (e i).1 (xs i) (gw law C e xs W0 i)).S 11 = (((zq_chg (e i).1 (e i).2.2 (gq e q0 i)).1 : Nat) : Int)
      rw [d2, a2, c]
    · show (zq_chg (e i).1 (e i).2.2 (gq e q0 i)).1 ≤ q0.1 + (i + 1)
      have y : (if (e i).1 = 0 ∨ (e i).1 = 2 then (1 : Int) else -1) ≤ 1 := by split <;> decide
      omega
theorem gw_eq {law C : Int} {e : Nat → Int × Nat × Int} {xs ys : Nat → Int} {W0 : zz_W} {n : Nat} (hk : g_kd law e n) : ∀ i, i ≤ n → w_eq (gw law C e xs W0 i) (gw law C e ys W0 i)
  | 0, _ => w_eq.rf
  | i + 1, hi => (q_deed (hk i (by omega)).1 (gw_eq hk i (by omega))).1
theorem gS_eq {law C : Int} {e : Nat → Int × Nat × Int} {xs ys : Nat → Int} {W0 : zz_W} {n : Nat} (hk : g_kd law e n) {i : Nat} (hi : i < n) : gS law C e xs W0 i = gS law C e ys W0 i := (q_deed (hk i hi).1 (gw_eq hk i (by omega))).2.1
/-- acts of a GRAFT: deeds, the VERSION they lead to -/
def i_gr (I0 : zz_I) (v n on : Nat) : Nat → zz_I × Nat
  | 0 => (I0, on)
  | i + 1 => (i_act (i_gr I0 v n on i).1 (g_e I0.D v n i).1 (i_gr I0 v n on i).2 (g_e I0.D v n i).2.2, (i_gr I0 v n on i).1.k + 1)
theorem i_gr_ok {I0 : zz_I} {v n on : Nat} (ok : i_ok I0) (fx : i_fx I0) (h1 : I0.ho = 1) (hon : on ≤ I0.k) (hkn : I0.k + n ≤ 60) (hw : ∀ i, i < n → zd_w I0.D v n i < I0.k) (hc : ∀ i, i < n → g_ct (g_e I0.D v n) ((IH I0).Q on) i = false) : ∀ i, i ≤ n → (i_ok (i_gr I0 v n on i).1 ∧ i_fx (i_gr I0 v n on i).1) ∧ ((i_gr I0 v n on i).1.ho = 1 ∧ (i_gr I0 v n on i).1.law = I0.law ∧ (i_gr I0 v n on i).1.C = I0.C ∧ (i_gr I0 v n on i).1.told = I0.told ∧ (i_gr I0 v n on i).1.k = I0.k + i) ∧ (i_gr I0 v n on i).2 ≤ I0.k + i ∧ (IH (i_gr I0 v n on i).1).Q (i_gr I0 v n on i).2 = gq (g_e I0.D v n) ((IH I0).Q on) i ∧ ∀ j, j < I0.k → (i_gr I0 v n on i).1.D j = I0.D j
  | 0, _ => ⟨⟨ok, fx⟩, ⟨h1, rfl, rfl, rfl, rfl⟩, hon, rfl, fun _ _ => rfl⟩
  | i + 1, hi => by
    obtain ⟨⟨a1, a2⟩, ⟨b1, b2, b3, b4, b5⟩, c1, c2, c3⟩ := i_gr_ok ok fx h1 hon hkn hw hc i (by omega)
    obtain ⟨P, hP⟩ : ∃ P, P = i_gr I0 v n on i := ⟨_, rfl⟩
    have e1 : i_gr I0 v n on (i + 1) = (i_act P.1 (g_e I0.D v n i).1 P.2 (g_e I0.D v n i).2.2, P.1.k + 1) := by rw [hP]; rfl
    rw [← hP] at a1 a2 b1 b2 b3 b4 b5 c1 c2 c3
    rw [e1]
    obtain ⟨s1, s2, s3, s4, s5⟩ := ok.1.2.2.2 (zd_w I0.D v n i) (hw i (by omega))
    have hp := g_ct_p (hc i (by omega))
    have hst : h_st P.1.law P.1.k ((g_e I0.D v n i).1, P.2, (g_e I0.D v n i).2.2) (IH P.1) := by
      rw [b2]
      exact ⟨by show P.2 ≤ P.1.k; omega, s2, s3, fun z => by
        show 0 < ((IH P.1).Q P.2).1
        rw [c2]
        exact hp z, s5⟩
    have ha := i_act_ok (I := P.1) (kind := (g_e I0.D v n i).1) (base := P.2) (x := (g_e I0.D v n i).2.2) a1 a2 b1 (by omega) hst
    refine ⟨ha, ⟨b1, b2, b3, b4, by show P.1.k + 1 = _; omega⟩, by show P.1.k + 1 ≤ _; omega, ?_, fun j hj => ?_⟩
    · show (IH (i_act P.1 (g_e I0.D v n i).1 P.2 (g_e I0.D v n i).2.2)).Q (P.1.k + 1) = zq_chg (g_e I0.D v n i).1 (g_e I0.D v n i).2.2 (gq (g_e I0.D v n) ((IH I0).Q on) i)
      rw [IH_act, ← c2]
      exact zu_s _ _ _
    · show zu P.1.D P.1.k _ j = I0.D j
      rw [zu_n _ _ (by omega)]
      exact c3 j hj
theorem zd_w_lt {D : zz_D} {k u v n : Nat} (h : zd_ok k D) (hv : v ≤ k) (hn : zd_wn D u v = (n : Nat)) : n ≤ dpp D v ∧ ∀ i, i < n → zd_w D v n i < k ∧ zd_w D v n i + 1 = zd_up D (n - 1 - i) v := by
  have hn2 : n ≤ dpp D v := by
    unfold zd_wn at hn
    split at hn
    · have := Int.ofNat_inj.mp hn
      omega
    · omega
  refine ⟨hn2, fun i hi => ?_⟩
  have a := (zd_up_d h hv (n - 1 - i) (by omega)).1
  have c := zd_up_p h hv (t := n - 1 - i) (by omega)
  unfold zd_w
  omega
theorem g_kd_w {I : zz_I} {u v n : Nat} (ok : i_ok I) (hv : v ≤ I.k) (hn : zd_wn I.D u v = (n : Nat)) : g_kd I.law (g_e I.D v n) n := fun i hi => by
  obtain ⟨s1, s2, s3, s4, s5⟩ := ok.1.2.2.2 (zd_w I.D v n i) ((zd_w_lt (i_zd ok) hv hn).2 i hi).1
  exact ⟨s2, s3⟩
