/-! the class: a text -/
theorem zr_iz {law C : Int} {S : zr_S} (h : zr_i law C S) : ∀ v, v ≤ S.c → 0 ≤ S.z v ∧ S.z v ≤ 100 := fun v hv => by
  have q := h.2.2 v hv
  have hk := h.1
  obtain ⟨a1, a2, -⟩ := (h_inv h.2.1).1 v hv
  have a3 := a1.2.2
  omega
theorem lp_rt {X : zz_X} {c a p : Nat} {law C : Int} {T : List Int} {E : zr_S} {σ0 : zz_M} {Post : Option zz_V → zz_M → Prop} (hT : T.length ≤ 600) (hpT : T.length ≤ p) (hac : a + 1 < c ∨ c + 5 < a) (hC : 2 ≤ C ∧ C ≤ 4) (kk : ∀ (σ' : zz_M) (y : Int), RSt σ' c a T law C E → zz_F (A_rd c) σ0 σ' → zz_G X 8 p_Reader_readText 39 [zP 6 0 0 c, zP 0 p 0 a, zI y] [] σ' Post) :
    ∀ (r i : Nat) (S : zr_S) (σ : zz_M), i + r = 41 → RSt σ c a T law C S → zr_ok T S.k → zr_i law C S → zz_F (A_rd c) σ0 σ → zr_rn T law r S = E → zz_G X 8 p_Reader_readText 24 [zP 6 0 0 c, zP 0 p 0 a, zI (i : Nat)] [] σ Post := by
  intro r
  induction r with
  | zero =>
    intro i S σ hi hS ok hz hF hE
    have i26 : ((i : Nat) : Int) > 40 := by omega
    have e : S = E := hE
    rw [e] at hS
    refine zz_gsn 2 rfl ?_
    refine zz_br rfl (fun h26 => ?_) (fun h26 => absurd i26 (by first | exact h26 | exact Int.not_lt.mpr h26))
    exact kk σ _ hS hF
  | succ r ih =>
    intro i S σ hi hS ok hz hF hE
    have i26 : ¬ ((i : Nat) : Int) > 40 := by omega
    have i9 : i + 1 + r = 41 := by omega
    have zs : zw ((i : Int) + 1) = ((i + 1 : Nat) : Int) := zw_s (by omega)
    have e1 := hS.1.1
    have e4 := hS.1.2.2.1
    have hE1 : ¬ (S.k.f = 0 ∧ S.k.t ≠ 4) → S = E := fun z => (if_neg z).symm.trans hE
    have hE2 : (S.k.f = 0 ∧ S.k.t ≠ 4) → zr_rn T law r (zr_ln T law S) = E := fun z => (if_pos z).symm.trans hE
    refine zz_gsn 2 rfl ?_
    refine zz_br rfl (fun h26 => absurd h26 i26) (fun h26 => ?_)
    refine zz_gsn 2 rfl ?_
    refine zz_br rfl (fun h29 => ?_) (fun h29 => ?_)
    · have e : S = E := hE1 (fun z => h29 (e1.trans z.1))
      rw [e] at hS
      exact kk σ _ hS hF
    · refine zz_gsn 3 rfl ?_
      refine zz_br rfl (fun h33 => ?_) (fun h33 => ?_)
      · have e : S = E := hE1 (fun z => z.2 (e4.symm.trans (by first | exact h33 | exact Decidable.not_not.mp h33)))
        rw [e] at hS
        exact kk σ _ hS hF
      · refine zz_gsn 2 rfl ?_
        refine zz_cv (n := 2) rfl rfl (t_Reader_readDeedLine (S := S) (C := C) hT hpT hac hS ok (e1.symm.trans (by first | exact h29 | exact Decidable.not_not.mp h29)) hz.1 (zr_iz hz)) (Nat.le_of_ble_eq_true rfl) (Nat.le_of_ble_eq_true rfl) (Nat.le_of_ble_eq_true rfl) (fun r36 σ36 q36 => ?_)
        obtain ⟨rfl, p36, g36⟩ := q36
        refine zz_gsn 1 rfl ?_
        refine zz_jp rfl ?_
        rw [zs]
        exact ih (i + 1) _ σ36 i9 p36 (by rw [zr_ln_k]; exact zr_ff_ok ok) (zr_ln_i hC hz) (hF.tr g36) (hE2 ⟨e1.symm.trans (by first | exact h29 | exact Decidable.not_not.mp h29), fun z => h33 (e4.trans z)⟩)
theorem t_Reader_readText {X : zz_X} {σ : zz_M} {c a p : Nat} {T : List Int} (hT : T.length ≤ 600) (hpT : T.length ≤ p) (hac : a + 1 < c ∨ c + 5 < a) (hB : BL σ a T) : zz_T X 8 p_Reader_readText [zP 6 0 0 c, zP 0 p 0 a] σ (fun r σ' => ∃ n : Int, r = some (zI n) ∧ BL σ' a T ∧ zz_F (A_rd c) σ σ' ∧ (((zr_1 T).t = 4 ∧ n = 1 ∧ (σ'.1 601 c = 0 ∧ σ'.1 602 c = -1) ∧ DF σ' (c + 1) 0 0 0 0 0 zr_D0) ∨ ((zr_1 T).t ≠ 4 ∧ (zr_end T).k.f ≠ 0 ∧ n = 0 ∧ σ'.1 601 c = (zr_end T).k.f ∧ σ'.1 602 c = (zr_end T).k.p) ∨ ((zr_1 T).t ≠ 4 ∧ (zr_end T).k.f = 0 ∧ n = 1 ∧ (σ'.1 601 c = (zr_end T).k.f ∧ σ'.1 602 c = (zr_end T).k.p) ∧ DF σ' (c + 1) 1 (zr_law T) (zr_C T) ((zr_end T).c : Nat) (zr_end T).c (zr_end T).D))) := by
  refine zz_mk k_Reader_readText o_Reader_readText rfl rfl (Nat.le_of_ble_eq_true rfl) ?_
  show zz_G X 8 p_Reader_readText 0 [zP 6 0 0 c, zP 0 p 0 a, zU] [] σ _
  have hac1 : c ≠ a ∧ c ≠ a + 1 := ⟨by omega, by omega⟩
  have n1 : ¬ A_c1 c (c + 1) := fun z => absurd z (Nat.succ_ne_self c)
  have n1' : c ≠ c + 1 := fun z => absurd z.symm (Nat.succ_ne_self c)
  have na : ¬ a = c + 1 := by omega
  have na1 : ¬ a + 1 = c + 1 := by omega
  have lft : ∀ {σ σ' : zz_M}, zz_F (fun x => x = c + 1) σ σ' → zz_F (A_rd c) σ σ' := fun h => h.mono (fun x z => by have z2 : x = c + 1 := z; unfold A_rd; omega)
  refine zz_gsn 2 rfl ?_
  refine zz_cv (n := 1) rfl rfl (t_Deeds_clear) (Nat.le_of_ble_eq_true rfl) (Nat.le_of_ble_eq_true rfl) (Nat.le_of_ble_eq_true rfl) (fun r2 σ2 q2 => ?_)
  obtain ⟨rfl, h2⟩ := q2
  refine zz_gsn 9 rfl ?_
  obtain ⟨σ13, h13⟩ : ∃ s, s = zz_sf (zz_sf (zz_sf σ2 601 c 0) 602 c (-1)) 606 c 0 := ⟨_, rfl⟩
  refine zz_sge (σ' := σ13) h13 ?_
  have F2 : zz_F (A_rd c) σ σ2 := lft (by rw [h2]; exact ((((show zz_F (fun x => x = c + 1) σ (zz_sf σ 200 (c + 1) 0) from zz_F.sf rfl).tr (zz_F.sf rfl)).tr (zz_F.sf rfl)).tr (zz_F.sf rfl)).tr (zz_F.sf rfl))
  have F23 : zz_F (A_c1 c) σ2 σ13 := by rw [h13]; exact ((show zz_F (A_c1 c) σ2 (zz_sf σ2 601 c 0) from zz_F.sf rfl).tr (zz_F.sf rfl)).tr (zz_F.sf rfl)
  have F13 : zz_F (A_rd c) σ σ13 := F2.tr (c1_rd F23)
  have B13 : BL σ13 a T := hB.f F13 (fun z => by unfold A_rd at z; omega) (fun z => by unfold A_rd at z; omega)
  have v1 : σ13.1 601 c = 0 := by rw [h13, sf_f _ _ (by decide), sf_f _ _ (by decide), sf_h]
  have v2 : σ13.1 602 c = (-1 : Int) := by rw [h13, sf_f _ _ (by decide), sf_h]
  have v6 : σ13.1 606 c = 0 := by rw [h13, sf_h]
  refine zz_gsn 2 rfl ?_
  refine zz_cv (n := 2) rfl rfl (t_Reader_step0 (T := T) (k := zr_k0) B13 hT hpT hac1 v1 v2 v6 (Nat.zero_le _) rfl) (Nat.le_of_ble_eq_true rfl) (Nat.le_of_ble_eq_true rfl) (Nat.le_of_ble_eq_true rfl) (fun r14 σ14 q14 => ?_)
  obtain ⟨rfl, p14, B14, g14⟩ := q14
  have h1e : zr_1 T = zr_ad T zr_k0 := by
    unfold zr_1 zr_adv
    exact if_pos (show zr_k0.f = 0 from rfl)
  rw [← h1e] at p14
  have ok1 : zr_ok T (zr_1 T) := by rw [h1e]; exact zr_ad_ok (Nat.zero_le _)
  have e14 := p14.2.2.1
  have F14 : zz_F (A_rd c) σ σ14 := F13.tr (c1_rd g14)
  have d14 : ∀ f, σ14.1 f (c + 1) = σ2.1 f (c + 1) := fun f => by rw [(g14 _ n1).1, h13]; exact (sf_a _ _ n1'.symm).trans ((sf_a _ _ n1'.symm).trans (sf_a _ _ n1'.symm))
  have w0 : σ14.1 200 (c + 1) = 0 := by rw [d14, h2, sf_f _ _ (by decide), sf_f _ _ (by decide), sf_f _ _ (by decide), sf_f _ _ (by decide), sf_h]
  have w1 : σ14.1 201 (c + 1) = 0 := by rw [d14, h2, sf_f _ _ (by decide), sf_f _ _ (by decide), sf_f _ _ (by decide), sf_h]
  have w2 : σ14.1 202 (c + 1) = 0 := by rw [d14, h2, sf_f _ _ (by decide), sf_f _ _ (by decide), sf_h]
  have w3 : σ14.1 203 (c + 1) = 0 := by rw [d14, h2, sf_f _ _ (by decide), sf_h]
  have w4 : σ14.1 204 (c + 1) = 0 := by rw [d14, h2, sf_h]
  refine zz_gsn 3 rfl ?_
  refine zz_br rfl (fun h18 => ?_) (fun h18 => ?_)
  · have t4 : (zr_1 T).t = 4 := e14.symm.trans (by first | exact h18 | exact Decidable.not_not.mp h18)
    have f0 : (zr_1 T).f = 0 := by rw [h1e]; exact (zr_ad_f T zr_k0).1
    have p0 : (zr_1 T).p = -1 := by rw [h1e]; exact (zr_ad_f T zr_k0).2
    have e01 := p14.1
    refine zz_gsn 4 rfl ?_
    refine zz_br rfl (fun h26 => absurd h26 (by decide)) (fun h26 => ?_)
    refine zz_gsn 2 rfl ?_
    refine zz_br rfl (fun h29 => absurd (e01.trans f0) h29) (fun h29 => ?_)
    refine zz_gsn 3 rfl ?_
    refine zz_br rfl (fun h33 => ?_) (fun h33 => absurd (e14.trans t4) (by first | exact h33 | exact h33))
    refine zz_gsn 8 rfl ?_
    refine zz_br rfl (fun h47 => absurd ((sf_f _ _ (by decide)).trans (e01.trans f0)) h47) (fun h47 => ?_)
    refine zz_gsn 1 rfl ?_
    refine zz_jp rfl ?_
    refine zz_ri rfl (Or.inr ⟨rfl, by first | exact Or.inl rfl | exact Or.inr rfl | omega⟩) ?_
    obtain ⟨σ44, h44⟩ : ∃ s, s = zz_sf σ14 203 (c + 1) (σ14.1 204 (c + 1)) := ⟨_, rfl⟩
    rw [← h44]
    rw [w4] at h44
    have F44 : zz_F (fun x => x = c + 1) σ14 σ44 := by rw [h44]; exact zz_F.sf rfl
    have u : ∀ f, f ≠ 203 → σ44.1 f (c + 1) = σ14.1 f (c + 1) := fun f hf => by rw [h44]; exact sf_f _ _ hf
    have u1 : ∀ f, σ44.1 f c = σ14.1 f c := fun f => (F44 c n1').1 f
    exact ⟨1, rfl, B14.f F44 na na1, F14.tr (lft F44), Or.inl ⟨t4, rfl, ⟨(u1 _).trans (e01.trans f0), (u1 _).trans (p14.2.1.trans p0)⟩, (u _ (by decide)).trans w0, (u _ (by decide)).trans w1, (u _ (by decide)).trans w2, by rw [h44, sf_h], (u _ (by decide)).trans w4, Nat.zero_le _, fun j hj => absurd hj (Nat.not_lt_zero j)⟩⟩
  · refine zz_gsn 2 rfl ?_
    refine zz_cv (n := 2) rfl rfl (t_Reader_readHouseLine (T := T) hT hpT hac B14 p14 ok1 w3 w4) (Nat.le_of_ble_eq_true rfl) (Nat.le_of_ble_eq_true rfl) (Nat.le_of_ble_eq_true rfl) (fun r21 σ21 q21 => ?_)
    obtain ⟨rfl, p21, B21, g21, x21⟩ := q21
    have F21 := F14.tr g21
    have t4 : (zr_1 T).t ≠ 4 := fun z => h18 (e14.trans z)
    rcases Classical.em ((zr_4 T).f = 0) with hf4 | hf4
    · have S0 := x21 hf4
      have ok4 : zr_ok T (zr_4 T) := zr_sg_ok (zr_nm_ok (zr_wd_ok (zr_nm_ok (zr_wd_ok (zr_wd_ok ok1)))))
      obtain ⟨a1, a2, a3, a4, -⟩ := zr_nm_f (zr_2_f hf4).2
      obtain ⟨b1, b2, b3, b4, -⟩ := zr_nm_f (zr_2_f hf4).1
      have hC : 2 ≤ zr_C T ∧ zr_C T ≤ 4 := ⟨a3, a4⟩
      have hi0 : zr_i (zr_law T) (zr_C T) (zr_4 T, 0, zr_D0, fun _ => 0) := ⟨Nat.zero_le _, ⟨⟨b3, b4⟩, fun _ => hC, Nat.zero_le _, fun j hj => absurd hj (Nat.not_lt_zero j)⟩, fun v hv => by
        obtain rfl : v = 0 := Nat.le_zero.mp hv
        rfl⟩
      refine zz_gsn 2 rfl ?_
      refine lp_rt (C := zr_C T) (E := zr_end T) (σ0 := σ21) hT hpT hac hC (fun σ3 y S3 F3 => ?_) 41 0 (zr_4 T, 0, zr_D0, fun _ => 0) σ21 rfl S0 ok4 hi0 zz_F.rf rfl
      refine zz_gsn 8 rfl ?_
      refine zz_br rfl (fun h47 => ?_) (fun h47 => ?_)
      · refine zz_gsn 1 rfl ?_
        refine zz_ri rfl (Or.inr ⟨rfl, by first | exact Or.inl rfl | exact Or.inr rfl | omega⟩) ?_
        obtain ⟨σ44, h44⟩ : ∃ s, s = zz_sf σ3 203 (c + 1) (σ3.1 204 (c + 1)) := ⟨_, rfl⟩
        rw [← h44]
        obtain ⟨R3, D3, Z3, B3⟩ := S3
        rw [show σ3.1 204 (c + 1) = ((zr_end T).c : Nat) from D3.2.2.2.2.1] at h44
        have F44 : zz_F (fun x => x = c + 1) σ3 σ44 := by rw [h44]; exact zz_F.sf rfl
        have u : ∀ f, f ≠ 203 → σ44.1 f (c + 1) = σ3.1 f (c + 1) := fun f hf => by rw [h44]; exact sf_f _ _ hf
        have u1 : ∀ f, σ44.1 f c = σ3.1 f c := fun f => (F44 c n1').1 f
        have hf : (zr_end T).k.f ≠ 0 := fun z => h47 ((sf_f _ _ (by decide)).trans (R3.1.trans z))
        exact ⟨0, rfl, B3.f F44 na na1, (F21.tr F3).tr (lft F44), Or.inr (Or.inl ⟨t4, hf, rfl, (u1 _).trans R3.1, (u1 _).trans R3.2.1⟩)⟩
      · refine zz_gsn 1 rfl ?_
        refine zz_jp rfl ?_
        refine zz_ri rfl (Or.inr ⟨rfl, by first | exact Or.inl rfl | exact Or.inr rfl | omega⟩) ?_
        obtain ⟨σ44, h44⟩ : ∃ s, s = zz_sf σ3 203 (c + 1) (σ3.1 204 (c + 1)) := ⟨_, rfl⟩
        rw [← h44]
        obtain ⟨R3, D3, Z3, B3⟩ := S3
        rw [show σ3.1 204 (c + 1) = ((zr_end T).c : Nat) from D3.2.2.2.2.1] at h44
        have F44 : zz_F (fun x => x = c + 1) σ3 σ44 := by rw [h44]; exact zz_F.sf rfl
        have u : ∀ f, f ≠ 203 → σ44.1 f (c + 1) = σ3.1 f (c + 1) := fun f hf => by rw [h44]; exact sf_f _ _ hf
        have u1 : ∀ f, σ44.1 f c = σ3.1 f c := fun f => (F44 c n1').1 f
        have hf : (zr_end T).k.f = 0 := R3.1.symm.trans ((sf_f (a := c + 1) σ3 _ (show (601 : Nat) ≠ 203 by decide)).symm.trans (by first | exact h47 | exact Decidable.not_not.mp h47))
        refine ⟨1, rfl, B3.f F44 na na1, (F21.tr F3).tr (lft F44), Or.inr (Or.inr ⟨t4, hf, rfl, ⟨(u1 _).trans R3.1, (u1 _).trans R3.2.1⟩, (u _ (by decide)).trans D3.1, (u _ (by decide)).trans D3.2.1, (u _ (by decide)).trans D3.2.2.1, by rw [h44, sf_h], (u _ (by decide)).trans D3.2.2.2.2.1, D3.2.2.2.2.2.1, fun j hj => ?_⟩)⟩
        have e2 : σ44.2 = σ3.2 := by rw [h44]; rfl
        rw [e2]
        exact D3.2.2.2.2.2.2 j hj
    · have ee : zr_end T = (zr_4 T, 0, zr_D0, fun _ => 0) := zr_rn_f 41 _ hf4
      have e01 := p21.1
      refine zz_gsn 4 rfl ?_
      refine zz_br rfl (fun h26 => absurd h26 (by decide)) (fun h26 => ?_)
      refine zz_gsn 2 rfl ?_
      refine zz_br rfl (fun h29 => ?_) (fun h29 => absurd (e01.symm.trans (by first | exact h29 | exact Decidable.not_not.mp h29)) hf4)
      refine zz_gsn 8 rfl ?_
      refine zz_br rfl (fun h47 => ?_) (fun h47 => absurd (e01.symm.trans ((sf_f (a := c + 1) σ21 _ (show (601 : Nat) ≠ 203 by decide)).symm.trans (by first | exact h47 | exact Decidable.not_not.mp h47))) hf4)
      refine zz_gsn 1 rfl ?_
      refine zz_ri rfl (Or.inr ⟨rfl, by first | exact Or.inl rfl | exact Or.inr rfl | omega⟩) ?_
      obtain ⟨σ44, h44⟩ : ∃ s, s = zz_sf σ21 203 (c + 1) (σ21.1 204 (c + 1)) := ⟨_, rfl⟩
      rw [← h44]
      have F44 : zz_F (fun x => x = c + 1) σ21 σ44 := by rw [h44]; exact zz_F.sf rfl
      have u1 : ∀ f, σ44.1 f c = σ21.1 f c := fun f => (F44 c n1').1 f
      exact ⟨0, rfl, B21.f F44 na na1, F21.tr (lft F44), Or.inr (Or.inl ⟨t4, by rw [ee]; exact hf4, rfl, by rw [ee]; exact (u1 _).trans p21.1, by rw [ee]; exact (u1 _).trans p21.2.1⟩)⟩
