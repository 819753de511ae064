/-! the reading of a text -/
/-- where the reading stands: TOKEN's first byte, behind it, its kind (0 none, 1 word, 2 number, 3 sign, 4 end), value, FAULT, its place -/
abbrev zr_T : Type := Nat × Nat × Int × Int × Int × Int
abbrev zr_T.s (k : zr_T) : Nat := k.1
abbrev zr_T.n (k : zr_T) : Nat := k.2.1
abbrev zr_T.t (k : zr_T) : Int := k.2.2.1
abbrev zr_T.v (k : zr_T) : Int := k.2.2.2.1
abbrev zr_T.f (k : zr_T) : Int := k.2.2.2.2.1
abbrev zr_T.p (k : zr_T) : Int := k.2.2.2.2.2
def zr_bl (c : Int) : Bool := decide (c = 32 ∨ c = 10)
def zr_le (c : Int) : Bool := decide (97 ≤ c ∧ c ≤ 122)
def zr_dg (c : Int) : Bool := decide (48 ≤ c ∧ c ≤ 57)
def zr_sk (P : Int → Bool) (T : List Int) : Nat → Nat → Nat
  | 0, i => i
  | r + 1, i => if P (zl_b T (i : Nat)) = true then zr_sk P T r (i + 1) else i
def zr_e (P : Int → Bool) (T : List Int) (i : Nat) : Nat := zr_sk P T (T.length - i) i
def zr_vl (T : List Int) : Nat → Nat → Int → Int
  | 0, _, v => v
  | r + 1, i, v => if zr_dg (zl_b T (i : Nat)) = true then zr_vl T r (i + 1) (min 99999 (10 * v + zl_b T (i : Nat) - 48)) else v
def zr_v (T : List Int) (i : Nat) (v : Int) : Int := zr_vl T (T.length - i) i v
theorem zr_e_y {P : Int → Bool} {T : List Int} {i : Nat} (h : i < T.length) (hp : P (zl_b T (i : Nat)) = true) : zr_e P T i = zr_e P T (i + 1) := by
  unfold zr_e
  rw [show T.length - i = (T.length - (i + 1)) + 1 by omega]
  exact if_pos hp
theorem zr_e_n {P : Int → Bool} {T : List Int} {i : Nat} (h : i < T.length → P (zl_b T (i : Nat)) = false) : zr_e P T i = i := by
  unfold zr_e
  rcases Nat.lt_or_ge i T.length with z | z
  · rw [show T.length - i = (T.length - (i + 1)) + 1 by omega]
    exact if_neg (by rw [h z]; exact Bool.false_ne_true)
  · rw [Nat.sub_eq_zero_of_le z]
    rfl
theorem zr_v_y {T : List Int} {i : Nat} {v : Int} (h : i < T.length) (hp : zr_dg (zl_b T (i : Nat)) = true) : zr_v T i v = zr_v T (i + 1) (min 99999 (10 * v + zl_b T (i : Nat) - 48)) := by
  unfold zr_v
  rw [show T.length - i = (T.length - (i + 1)) + 1 by omega]
  exact if_pos hp
theorem zr_v_n {T : List Int} {i : Nat} {v : Int} (h : i < T.length → zr_dg (zl_b T (i : Nat)) = false) : zr_v T i v = v := by
  unfold zr_v
  rcases Nat.lt_or_ge i T.length with z | z
  · rw [show T.length - i = (T.length - (i + 1)) + 1 by omega]
    exact if_neg (by rw [h z]; exact Bool.false_ne_true)
  · rw [Nat.sub_eq_zero_of_le z]
    rfl
theorem zr_sk_b (P : Int → Bool) (T : List Int) : ∀ r i, i ≤ zr_sk P T r i ∧ zr_sk P T r i ≤ i + r
  | 0, i => ⟨Nat.le_refl _, Nat.le_refl _⟩
  | r + 1, i => by
    have ih := zr_sk_b P T r (i + 1)
    show i ≤ (if P (zl_b T (i : Nat)) = true then zr_sk P T r (i + 1) else i) ∧ (if P (zl_b T (i : Nat)) = true then zr_sk P T r (i + 1) else i) ≤ i + (r + 1)
    split <;> omega
theorem zr_e_b (P : Int → Bool) (T : List Int) (i : Nat) : i ≤ zr_e P T i ∧ (i ≤ T.length → zr_e P T i ≤ T.length) := by
  have h := zr_sk_b P T (T.length - i) i
  unfold zr_e
  exact ⟨h.1, fun z => by omega⟩
theorem zr_vl_b (T : List Int) : ∀ r i v, 0 ≤ v ∧ v ≤ 99999 → 0 ≤ zr_vl T r i v ∧ zr_vl T r i v ≤ 99999
  | 0, _, _, h => h
  | r + 1, i, v, h => by
    show 0 ≤ (if zr_dg (zl_b T (i : Nat)) = true then zr_vl T r (i + 1) (min 99999 (10 * v + zl_b T (i : Nat) - 48)) else v) ∧ (if zr_dg (zl_b T (i : Nat)) = true then zr_vl T r (i + 1) (min 99999 (10 * v + zl_b T (i : Nat) - 48)) else v) ≤ 99999
    split
    · rename_i z
      have z2 : 48 ≤ zl_b T (i : Nat) ∧ zl_b T (i : Nat) ≤ 57 := of_decide_eq_true z
      exact zr_vl_b T r (i + 1) _ (by omega)
    · exact h
def zr_ad (T : List Int) (k : zr_T) : zr_T :=
  if T.length ≤ zr_e zr_bl T k.n then (zr_e zr_bl T k.n, zr_e zr_bl T k.n, 4, k.v, k.f, k.p)
  else if zr_le (zl_b T (zr_e zr_bl T k.n : Nat)) = true then (zr_e zr_bl T k.n, zr_e zr_le T (zr_e zr_bl T k.n), 1, k.v, k.f, k.p)
  else if zr_dg (zl_b T (zr_e zr_bl T k.n : Nat)) = true then (zr_e zr_bl T k.n, zr_e zr_dg T (zr_e zr_bl T k.n), 2, zr_v T (zr_e zr_bl T k.n) 0, k.f, k.p)
  else (zr_e zr_bl T k.n, zr_e zr_bl T k.n + 1, if zl_b T (zr_e zr_bl T k.n : Nat) = 59 then 3 else 0, k.v, k.f, k.p)
def zr_adv (T : List Int) (k : zr_T) : zr_T := if k.f = 0 then zr_ad T k else k
def zr_err (x : Int) (k : zr_T) : zr_T := if k.f = 0 then (k.s, k.n, k.t, k.v, x, (k.s : Nat)) else k
noncomputable def zr_is (T : List Int) (w : Nat) (k : zr_T) : Bool := z_B (k.t = 1 ∧ k.n = k.s + (zz_tx w).length ∧ ∀ i, i < (zz_tx w).length → zl_b T (k.s + i : Nat) = (((zz_tx w).getD i 0 : Nat) : Int))
noncomputable def zr_wd (T : List Int) (w : Nat) (k : zr_T) : zr_T := if zr_is T w k = true then zr_adv T k else zr_err 1 k
def zr_sg (T : List Int) (k : zr_T) : zr_T := if k.t = 3 then zr_adv T k else zr_err 1 k
def zr_nm (T : List Int) (lo hi : Int) (k : zr_T) : zr_T := if k.t ≠ 2 then zr_err 1 k else if k.v < lo ∨ hi < k.v then zr_err 2 k else zr_adv T k
/-- the reading and what the DEEDS read so far are -/
abbrev zr_S : Type := zr_T × Nat × zz_D × (Nat → Int)
abbrev zr_S.k (S : zr_S) : zr_T := S.1
abbrev zr_S.c (S : zr_S) : Nat := S.2.1
abbrev zr_S.D (S : zr_S) : zz_D := S.2.2.1
abbrev zr_S.z (S : zr_S) : Nat → Int := S.2.2.2
noncomputable def zr_kd (T : List Int) (law : Int) (k : zr_T) : Int := if zr_is T 3 k = true then 0 else if zr_is T 4 k = true then 1 else if law = 2 ∧ zr_is T 5 k = true then 2 else if law = 2 ∧ zr_is T 6 k = true then 3 else -1
abbrev zr_pt (kd : Int) : Prop := kd = 0 ∨ kd = 2
def zr_la (kd : Int) (c : Nat) (k : zr_T) : zr_T := if kd = -1 then zr_err 1 k else if 40 ≤ c then zr_err 3 k else k
def zr_lc (kd : Int) (c : Nat) (z : Nat → Int) (b : zr_T) : zr_T := if b.t = 2 ∧ b.v ≤ (c : Nat) ∧ ¬ zr_pt kd ∧ z b.v.toNat = 0 then zr_err 2 b else b
def zr_le2 (T : List Int) (kd : Int) (d : zr_T) : zr_T := if zr_pt kd then zr_nm T 0 99 d else d
def zr_fin (kd : Int) (c d f : zr_T) (S : zr_S) : zr_S := if f.f = 0 then (f, S.c + 1, zu S.D S.c (kd, c.v.toNat, if zr_pt kd then d.v else -1), zu S.z (S.c + 1) (S.z c.v.toNat + if zr_pt kd then 1 else -1)) else (f, S.c, S.D, S.z)
noncomputable def zr_b (T : List Int) (law : Int) (S : zr_S) : zr_T := zr_adv T (zr_la (zr_kd T law S.k) S.c S.k)
noncomputable def zr_c (T : List Int) (law : Int) (S : zr_S) : zr_T := zr_lc (zr_kd T law S.k) S.c S.z (zr_b T law S)
noncomputable def zr_d (T : List Int) (law : Int) (S : zr_S) : zr_T := zr_nm T 0 (S.c : Nat) (zr_c T law S)
noncomputable def zr_ee (T : List Int) (law : Int) (S : zr_S) : zr_T := zr_le2 T (zr_kd T law S.k) (zr_d T law S)
noncomputable def zr_ff (T : List Int) (law : Int) (S : zr_S) : zr_T := zr_sg T (zr_ee T law S)
noncomputable def zr_ln (T : List Int) (law : Int) (S : zr_S) : zr_S := zr_fin (zr_kd T law S.k) (zr_c T law S) (zr_d T law S) (zr_ff T law S) S
noncomputable def zr_rn (T : List Int) (law : Int) : Nat → zr_S → zr_S
  | 0, S => S
  | r + 1, S => if S.k.f = 0 ∧ S.k.t ≠ 4 then zr_rn T law r (zr_ln T law S) else S
def zr_k0 : zr_T := (0, 0, 0, 0, 0, -1)
def zr_1 (T : List Int) : zr_T := zr_adv T zr_k0
noncomputable def zr_2 (T : List Int) : zr_T := zr_wd T 1 (zr_wd T 0 (zr_1 T))
noncomputable def zr_3 (T : List Int) : zr_T := zr_wd T 2 (zr_nm T 0 2 (zr_2 T))
noncomputable def zr_4 (T : List Int) : zr_T := zr_sg T (zr_nm T 2 4 (zr_3 T))
noncomputable def zr_law (T : List Int) : Int := (zr_2 T).v
noncomputable def zr_C (T : List Int) : Int := (zr_3 T).v
def zr_D0 : zz_D := fun _ => (0, 0, 0)
noncomputable def zr_end (T : List Int) : zr_S := zr_rn T (zr_law T) 41 (zr_4 T, 0, zr_D0, fun _ => 0)
noncomputable def zr_I (T : List Int) : zz_I := (1, zr_law T, zr_C T, (zr_end T).c, (zr_end T).c, (zr_end T).D)
noncomputable def a_house (G : zz_J) : Int × zz_J :=
  if (zr_1 G.t).t = 4 then (0, ((0, 0, 0, 0, 0, zr_D0), [], G.o, 0, -1, G.m))
  else if (zr_end G.t).k.f ≠ 0 then (-4, (G.I, [], G.o, (zr_end G.t).k.f, (zr_end G.t).k.p, G.m))
  else (((((zr_end G.t).c + 1 : Nat)) : Int), (i_fix (zr_I G.t), [], G.o, (zr_end G.t).k.f, (zr_end G.t).k.p, G.m))
theorem zr_ad_f (T : List Int) (k : zr_T) : (zr_ad T k).f = k.f ∧ (zr_ad T k).p = k.p := by
  unfold zr_ad
  split
  · exact ⟨rfl, rfl⟩
  · split
    · exact ⟨rfl, rfl⟩
    · split
      · exact ⟨rfl, rfl⟩
      · exact ⟨rfl, rfl⟩
theorem zr_adv_f (T : List Int) (k : zr_T) : (zr_adv T k).f = k.f := by
  unfold zr_adv
  split
  · exact (zr_ad_f T k).1
  · rfl
theorem zr_err_f {x : Int} {k : zr_T} (hx : x ≠ 0) : (zr_err x k).f ≠ 0 := by
  unfold zr_err
  split
  · exact hx
  · assumption
theorem zr_nm_f {T : List Int} {lo hi : Int} {k : zr_T} (h : (zr_nm T lo hi k).f = 0) : k.f = 0 ∧ k.t = 2 ∧ lo ≤ k.v ∧ k.v ≤ hi ∧ zr_nm T lo hi k = zr_adv T k := by
  unfold zr_nm at h ⊢
  by_cases h1 : k.t ≠ 2
  · rw [if_pos h1] at h
    exact absurd h (zr_err_f (by decide))
  · rw [if_neg h1] at h ⊢
    by_cases h2 : k.v < lo ∨ hi < k.v
    · rw [if_pos h2] at h
      exact absurd h (zr_err_f (by decide))
    · rw [if_neg h2] at h ⊢
      rw [zr_adv_f] at h
      exact ⟨h, Decidable.not_not.mp h1, by omega, by omega, rfl⟩
theorem zr_sg_f {T : List Int} {k : zr_T} (h : (zr_sg T k).f = 0) : k.f = 0 := by
  unfold zr_sg at h
  split at h
  · rw [zr_adv_f] at h
    exact h
  · exact absurd h (zr_err_f (by decide))
theorem zr_wd_f {T : List Int} {w : Nat} {k : zr_T} (h : (zr_wd T w k).f = 0) : k.f = 0 := by
  unfold zr_wd at h
  split at h
  · rw [zr_adv_f] at h
    exact h
  · exact absurd h (zr_err_f (by decide))
theorem zr_la_f {kd : Int} {c : Nat} {k : zr_T} (h : (zr_la kd c k).f = 0) : kd ≠ -1 ∧ c < 40 ∧ zr_la kd c k = k := by
  unfold zr_la at h ⊢
  by_cases h1 : kd = -1
  · rw [if_pos h1] at h
    exact absurd h (zr_err_f (by decide))
  · rw [if_neg h1] at h ⊢
    by_cases h2 : 40 ≤ c
    · rw [if_pos h2] at h
      exact absurd h (zr_err_f (by decide))
    · rw [if_neg h2]
      exact ⟨h1, by omega, rfl⟩
theorem zr_lc_f {kd : Int} {c : Nat} {z : Nat → Int} {b : zr_T} (h : (zr_lc kd c z b).f = 0) : zr_lc kd c z b = b ∧ ¬ (b.t = 2 ∧ b.v ≤ (c : Nat) ∧ ¬ zr_pt kd ∧ z b.v.toNat = 0) := by
  unfold zr_lc at h ⊢
  by_cases h1 : b.t = 2 ∧ b.v ≤ (c : Nat) ∧ ¬ zr_pt kd ∧ z b.v.toNat = 0
  · rw [if_pos h1] at h
    exact absurd h (zr_err_f (by decide))
  · rw [if_neg h1]
    exact ⟨rfl, h1⟩
theorem zr_kd_b (T : List Int) (law : Int) (k : zr_T) : -1 ≤ zr_kd T law k ∧ zr_kd T law k ≤ 3 ∧ (law ≠ 2 → zr_kd T law k ≤ 1) := by
  unfold zr_kd
  split
  · exact ⟨by decide, by decide, fun _ => by decide⟩
  · split
    · exact ⟨by decide, by decide, fun _ => by decide⟩
    · split
      · rename_i z
        exact ⟨by decide, by decide, fun y => absurd z.1 y⟩
      · split
        · rename_i z
          exact ⟨by decide, by decide, fun y => absurd z.1 y⟩
        · exact ⟨by decide, by decide, fun _ => by decide⟩
/-- a line without a FAULT -/
theorem zr_ff_f {T : List Int} {law : Int} {S : zr_S} (h : (zr_ff T law S).f = 0) : (0 ≤ zr_kd T law S.k ∧ zr_kd T law S.k ≤ 3) ∧ S.c < 40 ∧ (0 ≤ (zr_c T law S).v ∧ (zr_c T law S).v ≤ (S.c : Nat)) ∧ (¬ zr_pt (zr_kd T law S.k) → S.z (zr_c T law S).v.toNat ≠ 0) ∧ (zr_pt (zr_kd T law S.k) → 0 ≤ (zr_d T law S).v ∧ (zr_d T law S).v ≤ 99) := by
  have h1 := zr_sg_f h
  have h2 : (zr_d T law S).f = 0 ∧ (zr_pt (zr_kd T law S.k) → 0 ≤ (zr_d T law S).v ∧ (zr_d T law S).v ≤ 99) := by
    have h3 : (zr_le2 T (zr_kd T law S.k) (zr_d T law S)).f = 0 := h1
    unfold zr_le2 at h3
    by_cases z : zr_pt (zr_kd T law S.k)
    · rw [if_pos z] at h3
      have y := zr_nm_f h3
      exact ⟨y.1, fun _ => ⟨y.2.2.1, y.2.2.2.1⟩⟩
    · rw [if_neg z] at h3
      exact ⟨h3, fun y => absurd y z⟩
  obtain ⟨c1, c2, c3, c4, -⟩ := zr_nm_f h2.1
  obtain ⟨b1, b2⟩ := zr_lc_f c1
  have e : zr_c T law S = zr_b T law S := b1
  have b3 : (zr_b T law S).f = 0 := by
    rw [← e]
    exact c1
  have a0 : (zr_adv T (zr_la (zr_kd T law S.k) S.c S.k)).f = 0 := b3
  rw [zr_adv_f] at a0
  obtain ⟨a1, a2, -⟩ := zr_la_f a0
  have kb := zr_kd_b T law S.k
  refine ⟨⟨by omega, kb.2.1⟩, a2, ⟨c3, c4⟩, fun z y => b2 ?_, h2.2⟩
  rw [e] at y c2 c4
  exact ⟨c2, c4, z, y⟩
def zr_i (law C : Int) (S : zr_S) : Prop := S.c ≤ 40 ∧ h_ok law C S.c S.D ∧ ∀ v, v ≤ S.c → S.z v = (((hh law C S.D S.c).Q v).1 : Nat)
theorem zr_ln_i {T : List Int} {law C : Int} {S : zr_S} (hC : 2 ≤ C ∧ C ≤ 4) (h : zr_i law C S) : zr_i law C (zr_ln T law S) := by
  unfold zr_ln zr_fin
  by_cases hf : (zr_ff T law S).f = 0
  · rw [if_pos hf]
    obtain ⟨k1, k2, k3, k4, k5⟩ := zr_ff_f hf
    obtain ⟨h1, h2, h3⟩ := h
    obtain ⟨kd, hkd⟩ : ∃ x, x = zr_kd T law S.k := ⟨_, rfl⟩
    obtain ⟨v, hv⟩ : ∃ x, x = (zr_c T law S).v.toNat := ⟨_, rfl⟩
    obtain ⟨x, hx⟩ : ∃ x, x = (if zr_pt kd then (zr_d T law S).v else -1) := ⟨_, rfl⟩
    have kb := (zr_kd_b T law S.k).2.2
    have k3' : v ≤ S.c := by omega
    rw [← hkd] at k1 k4 k5 kb ⊢
    rw [← hv] at k4 ⊢
    rw [← hx]
    have k6 : zr_pt kd → 0 ≤ x ∧ x ≤ 99 := fun z => by
      rw [hx, if_pos z]
      exact k5 z
    have eh : hh law C (zu S.D S.c (kd, v, x)) S.c = hh law C S.D S.c := hh_c (fun i hi => zu_n _ _ (by omega))
    have hq := h3 v k3'
    have hp : kd = 1 ∨ kd = 3 → 0 < ((hh law C S.D S.c).Q v).1 := fun z => by
      have y := k4 (fun y => by unfold zr_pt at y; omega)
      omega
    have hst : h_st law S.c (kd, v, x) (hh law C S.D S.c) := ⟨k3', k1, kb, hp, k6⟩
    refine ⟨k2, ⟨h2.1, fun _ => hC, by show S.c + 1 ≤ 60; omega, fun j hj => ?_⟩, fun w hw => ?_⟩
    · show h_st law j (zu S.D S.c (kd, v, x) j) (hh law C (zu S.D S.c (kd, v, x)) j)
      by_cases e : j = S.c
      · rw [e, zu_s, eh]
        exact hst
      · have hj2 : j < S.c + 1 := hj
        rw [zu_n _ _ e, hh_c (D' := S.D) (fun i hi => zu_n _ _ (by omega))]
        exact h2.2.2.2 j (by omega)
    · show zu S.z (S.c + 1) (S.z v + if zr_pt kd then 1 else -1) w = ((((h_one law C S.c (zu S.D S.c (kd, v, x) S.c) (hh law C (zu S.D S.c (kd, v, x)) S.c)).Q w).1 : Nat) : Int)
      rw [zu_s, eh]
      show zu S.z (S.c + 1) (S.z v + if zr_pt kd then 1 else -1) w = (((zu (hh law C S.D S.c).Q (S.c + 1) (zq_chg kd x ((hh law C S.D S.c).Q v)) w).1 : Nat) : Int)
      by_cases e : w = S.c + 1
      · rw [e, zu_s, zu_s, zq_ck' k1 hp, hq]
      · have hw2 : w ≤ S.c + 1 := hw
        rw [zu_n _ _ e, zu_n _ _ e]
        exact h3 w (by omega)
  · rw [if_neg hf]
    exact h
theorem zr_rn_i {T : List Int} {law C : Int} (hC : 2 ≤ C ∧ C ≤ 4) : ∀ (r : Nat) (S : zr_S), zr_i law C S → zr_i law C (zr_rn T law r S)
  | 0, _, h => h
  | r + 1, S, h => by
    show zr_i law C (if S.k.f = 0 ∧ S.k.t ≠ 4 then zr_rn T law r (zr_ln T law S) else S)
    split
    · exact zr_rn_i hC r _ (zr_ln_i hC h)
    · exact h
theorem zr_rn_f {T : List Int} {law : Int} : ∀ (r : Nat) (S : zr_S), S.k.f ≠ 0 → zr_rn T law r S = S
  | 0, _, _ => rfl
  | r + 1, S, h => if_neg (fun z => h z.1)
theorem zr_end_ok {T : List Int} (h : (zr_end T).k.f = 0) : i_ok (zr_I T) := by
  have h4 : (zr_4 T).f = 0 := by
    rcases Classical.em ((zr_4 T).f = 0) with z | z
    · exact z
    · have e : zr_end T = (zr_4 T, 0, zr_D0, fun _ => 0) := zr_rn_f 41 _ z
      rw [e] at h
      exact absurd h z
  obtain ⟨a1, a2, a3, a4, -⟩ := zr_nm_f (zr_sg_f h4)
  have b0 := zr_wd_f (w := 2) (k := zr_nm T 0 2 (zr_2 T)) a1
  obtain ⟨b1, b2, b3, b4, -⟩ := zr_nm_f b0
  have hC : 2 ≤ zr_C T ∧ zr_C T ≤ 4 := ⟨a3, a4⟩
  have hi : zr_i (zr_law T) (zr_C T) (zr_end T) := zr_rn_i hC 41 _ ⟨Nat.zero_le _, ⟨⟨b3, b4⟩, fun _ => hC, Nat.zero_le _, fun j hj => absurd hj (Nat.not_lt_zero j)⟩, fun v hv => by
    obtain rfl : v = 0 := Nat.le_zero.mp hv
    rfl⟩
  exact ⟨hi.2.1, Or.inr ⟨rfl, hC.1, hC.2, Nat.le_refl _, hi.1⟩⟩
