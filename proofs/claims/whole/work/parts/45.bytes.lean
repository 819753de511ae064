/-! bytes -/
theorem zz_i2b_m (x : Int) : zz_i2b x = x.bmod 256 := by
  unfold zz_i2b
  rw [Int8.toInt_toInt32, Int32.toInt_toInt8, Int32.toInt_ofInt]
  exact Int.bmod_bmod_of_dvd (by decide)
theorem zz_i2b_i (x : Int) : zz_i2b (zz_i2b x) = zz_i2b x := by
  rw [zz_i2b_m, zz_i2b_m, Int.bmod_bmod]
/-- bytes: how many, each by its place -/
def BR (σ : zz_M) (a : Nat) (q : zq_T) : Prop := σ.1 0 a = (q.1 : Nat) ∧ ∀ i, i < q.1 → σ.2 (a + 1) i = q.2 i
def zb_add (x : Int) (q : zq_T) : zq_T := (q.1 + 1, zu q.2 q.1 (zz_i2b x))
theorem BR.f {A : Nat → Prop} {σ σ' : zz_M} {a : Nat} {q : zq_T} (h : BR σ a q) (hF : zz_F A σ σ') (h0 : ¬ A a) (h1 : ¬ A (a + 1)) : BR σ' a q := ⟨((hF a h0).1 0).trans h.1, fun i hi => ((hF (a + 1) h1).2 i).trans (h.2 i hi)⟩
theorem br_add {σ σ' : zz_M} {p a : Nat} {v : Int} {q : zq_T} (h : BR σ a q) (hp : q.1 < p) (hb : p < 100000) (e : (0 ≤ σ.1 0 a ∧ σ.1 0 a < p ∧ σ' = zz_sf (zz_sa σ (a + 1) (σ.1 0 a).toNat (zz_i2b (zz_i2b v))) 0 a (zw (σ.1 0 a + 1))) ∨ (¬ (0 ≤ σ.1 0 a ∧ σ.1 0 a < p) ∧ σ' = σ)) : BR σ' a (zb_add v q) ∧ zz_F (zz_A2 a) σ σ' := by
  obtain ⟨h1, h2⟩ := h
  rcases e with ⟨-, -, e⟩ | ⟨e, -⟩
  · subst e
    refine ⟨⟨?_, fun i hi => ?_⟩, (zz_F.sa (Or.inr rfl)).tr (zz_F.sf (Or.inl rfl))⟩
    · rw [sf_h, h1, zw_id (by omega) (by omega)]
      show _ = ((q.1 + 1 : Nat) : Int)
      omega
    · have hi2 : i < q.1 + 1 := hi
      show (zz_sa σ (a + 1) (σ.1 0 a).toNat (zz_i2b (zz_i2b v))).2 (a + 1) i = zu q.2 q.1 (zz_i2b v) i
      rw [h1, Int.toNat_natCast, zz_i2b_i]
      by_cases z : i = q.1
      · rw [z, sa_h, zu_s]
      · rw [sa_i _ _ z, zu_n _ _ z]
        exact h2 i (by omega)
  · exact absurd ⟨by omega, by omega⟩ e
