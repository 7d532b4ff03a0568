/-! pure level: what is told -/
def adC (σ : CS) (n : Nat) (a b c d : Int32) : CS := cF (cA (cA (cA (cA σ 26 (upd (σ.2.1 26) n a)) 27 (upd (σ.2.1 27) n b)) 28 (upd (σ.2.1 28) n c)) 29 (upd (σ.2.1 29) n d)) 504 (nI (n + 1))
def adM (σ : MS) (n : Nat) (a b c d : Int32) : MS := mF (mA (mA (mA (mA σ 40 (upd (σ.2.1 40) n a)) 41 (upd (σ.2.1 41) n b)) 42 (upd (σ.2.1 42) n c)) 43 (upd (σ.2.1 43) n d)) 57 (nI (n + 1))
theorem nI_m1 (n : Nat) : nI n + 1 - 1 = nI n := by grind
theorem addC {σ : CS} {n : Nat} {a b c d : Int32} {Post : Int32 → CS → Prop} (hx : σ.1 504 = nI n) (hn : n ≤ 200) (h1 : n < 200 → Post (nI n) (adC σ n a b c d)) (h0 : ¬ n < 200 → Post (-1) σ) : wpC_X0_add σ a b c d Post := by
  have e : σ.1 504 < 200 ↔ n < 200 := by rw [hx]; exact nI_ltI (b := 200) (by omega) (by omega)
  refine ⟨fun z => ?_, fun z => h0 (fun q => z (e.mpr q))⟩
  have hv : vp_in (σ.1 504) 200 := by rw [hx]; exact vp_in_nI (e.mp z) (by omega)
  refine ⟨hv, ?_⟩
  rintro _ rfl
  refine ⟨hv, ?_⟩
  rintro _ rfl
  refine ⟨hv, ?_⟩
  rintro _ rfl
  refine ⟨hv, ?_⟩
  rintro _ rfl _ rfl
  have h1 := h1 (e.mp z)
  show Post (σ.1 504 + 1 - 1) (cF (cA (cA (cA (cA σ 26 (upd (σ.2.1 26) (σ.1 504).toNatClampNeg a)) 27 (upd (σ.2.1 27) (σ.1 504).toNatClampNeg b)) 28 (upd (σ.2.1 28) (σ.1 504).toNatClampNeg c)) 29 (upd (σ.2.1 29) (σ.1 504).toNatClampNeg d)) 504 (σ.1 504 + 1))
  rw [hx, nI_clamp (by omega), nI_m1, nI_1]
  exact h1
theorem factM {σ : MS} {n : Nat} {a b c d : Int32} {Post : Int32 → MS → Prop} (hx : σ.1 57 = nI n) (hn : n < 200) (h1 : Post (nI n) (adM σ n a b c d)) : wpM_fact σ a b c d Post := by
  have hv : vp_in (σ.1 57) 200 := by rw [hx]; exact vp_in_nI hn (by omega)
  refine ⟨hv, ?_⟩
  rintro _ rfl
  refine ⟨hv, ?_⟩
  rintro _ rfl
  refine ⟨hv, ?_⟩
  rintro _ rfl
  refine ⟨hv, ?_⟩
  rintro _ rfl _ rfl
  show Post (σ.1 57 + 1 - 1) (mF (mA (mA (mA (mA σ 40 (upd (σ.2.1 40) (σ.1 57).toNatClampNeg a)) 41 (upd (σ.2.1 41) (σ.1 57).toNatClampNeg b)) 42 (upd (σ.2.1 42) (σ.1 57).toNatClampNeg c)) 43 (upd (σ.2.1 43) (σ.1 57).toNatClampNeg d)) 57 (σ.1 57 + 1))
  rw [hx, nI_clamp (by omega), nI_m1, nI_1]
  exact h1
theorem n200 {n : Nat} (hn : n ≤ 200) : nI n = 200 ↔ ¬ n < 200 := by
  have := nI_eq (a := n) (b := 200) (by omega) (by omega)
  have e : nI 200 = 200 := rfl
  rw [e] at this
  rw [this]
  omega
theorem saysC {σ : CS} {n np nf : Nat} {w k y : Int32} {Post : Int32 → CS → Prop} (hn : σ.1 165 = nI n) (hp : σ.1 286 = nI np) (hpn : np ≤ 10) (hf : σ.1 504 = nI nf) (hfn : nf ≤ 200) (hy : y = 0 ∨ y = 1)
    (h1 : nf < 200 → (¬ w < 0 ∧ ¬ nI n ≤ w ∨ ¬ w < 100 ∧ ¬ 119 < w) → ¬ k < 0 → ¬ nI np ≤ k → ¬ σ.2.1 15 k.toNatClampNeg = w → ¬ σ.2.1 16 k.toNatClampNeg = w → Post (nI nf) (adC σ nf (if y = 0 then 8 else 7) (if ¬ w < 100 ∧ ¬ 119 < w then 12 + w - 100 else w) k 0))
    (h0 : ¬ (nf < 200 ∧ (¬ w < 0 ∧ ¬ nI n ≤ w ∨ ¬ w < 100 ∧ ¬ 119 < w) ∧ ¬ k < 0 ∧ ¬ nI np ≤ k ∧ ¬ σ.2.1 15 k.toNatClampNeg = w ∧ ¬ σ.2.1 16 k.toNatClampNeg = w) → Post (-1) σ) : wpC_X10_says σ w k y Post := by
  have hv : ¬ k < 0 → ¬ nI np ≤ k → vp_in k 10 := fun a b => by
    obtain ⟨j, hj, rfl⟩ := isN_of rfl (by omega) a b
    exact vp_in_nI (by omega) (by omega)
  have ad := fun a b c d => addC (σ := σ) (a := a) (b := b) (c := c) (d := d) (Post := Post) hf hfn
  unfold wpC_X10_says wpC_X10_says_16 wpC_X10_says_17 wpC_X10_says_45 wpC_X10_says_75 wpC_X10_says_92 wpC_X10_isPromise wpC_X1_has wpC_X7_binds
  simp only [hn, hp]
  repeat' (first | with_reducible refine And.intro ?_ ?_ | with_reducible intro _)
  all_goals grind
