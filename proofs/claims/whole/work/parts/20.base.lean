/-! several steps at once; reading what was written; what a method leaves as it was -/
def zz_sn : Nat → List zz_C → Nat → List zz_V → List zz_V → zz_M → Option (Nat × List zz_V × List zz_V × zz_M)
  | 0, _, j, ls, st, σ => some (j, ls, st, σ)
  | n + 1, c, j, ls, st, σ => match zz_s1 c j ls st σ with
    | some (j', ls', st', σ') => zz_sn n c j' ls' st' σ'
    | none => none
theorem zz_gsn (n : Nat) {X : zz_X} {d : Nat} {P : zz_P} {Post : Option zz_V → zz_M → Prop} : ∀ {j : Nat} {ls st : List zz_V} {σ : zz_M} {j' : Nat} {ls' st' : List zz_V} {σ' : zz_M}, zz_sn n P.code j ls st σ = some (j', ls', st', σ') → zz_G X d P j' ls' st' σ' Post → zz_G X d P j ls st σ Post := by
  induction n with
  | zero =>
    intro j ls st σ j' ls' st' σ' h k
    cases h
    exact k
  | succ n ih =>
    intro j ls st σ j' ls' st' σ' h k
    unfold zz_sn at h
    cases hs : zz_s1 P.code j ls st σ with
    | none => rw [hs] at h; cases h
    | some r =>
      obtain ⟨j1, ls1, st1, σ1⟩ := r
      rw [hs] at h
      exact zz_gs hs (ih h k)
theorem sf_1 (σ : zz_M) (f a : Nat) (v : Int) (f' a' : Nat) : (zz_sf σ f a v).1 f' a' = if f' = f ∧ a' = a then v else σ.1 f' a' := rfl
theorem sf_2 (σ : zz_M) (f a : Nat) (v : Int) : (zz_sf σ f a v).2 = σ.2 := rfl
theorem sa_1 (σ : zz_M) (a i : Nat) (v : Int) : (zz_sa σ a i v).1 = σ.1 := rfl
theorem sa_2 (σ : zz_M) (a i : Nat) (v : Int) (a' i' : Nat) : (zz_sa σ a i v).2 a' i' = if a' = a ∧ i' = i then v else σ.2 a' i' := rfl
/-- outside of A nothing has changed -/
def zz_F (A : Nat → Prop) (σ σ' : zz_M) : Prop := ∀ a, ¬ A a → (∀ f, σ'.1 f a = σ.1 f a) ∧ (∀ i, σ'.2 a i = σ.2 a i)
theorem zz_F.rf {A : Nat → Prop} {σ : zz_M} : zz_F A σ σ := fun _ _ => ⟨fun _ => rfl, fun _ => rfl⟩
theorem zz_F.tr {A : Nat → Prop} {σ σ1 σ2 : zz_M} (h : zz_F A σ σ1) (h2 : zz_F A σ1 σ2) : zz_F A σ σ2 := fun a ha => ⟨fun f => ((h2 a ha).1 f).trans ((h a ha).1 f), fun i => ((h2 a ha).2 i).trans ((h a ha).2 i)⟩
theorem zz_F.mono {A B : Nat → Prop} {σ σ' : zz_M} (h : zz_F A σ σ') (hAB : ∀ a, A a → B a) : zz_F B σ σ' := fun a ha => h a (fun z => ha (hAB a z))
theorem zz_F.sf {A : Nat → Prop} {σ : zz_M} {f a : Nat} {v : Int} (h : A a) : zz_F A σ (zz_sf σ f a v) := fun b hb => ⟨fun f' => by
  have e : ¬ (f' = f ∧ b = a) := fun z => hb (by rw [z.2]; exact h)
  rw [sf_1, if_neg e], fun _ => rfl⟩
theorem zz_F.sa {A : Nat → Prop} {σ : zz_M} {a i : Nat} {v : Int} (h : A a) : zz_F A σ (zz_sa σ a i v) := fun b hb => ⟨fun _ => rfl, fun i' => by
  have e : ¬ (b = a ∧ i' = i) := fun z => hb (by rw [z.1]; exact h)
  rw [sa_2, if_neg e]⟩
