/-! pure level: what is told, the calls -/

theorem saysM {σ : MS} {n np nf : Nat} {w k y : Int32} {Post : Int32 → MS → Prop} (hn : σ.1 40 = nI n) (hp : σ.1 46 = nI np) (hpn : np ≤ 10) (hf : σ.1 57 = nI nf) (hfn : nf ≤ 200) (hy : y = 0 ∨ y = 1) (h1 : nf < 200 → (¬ w < 0 ∧ ¬ nI n ≤ w ∨ ¬ w < 100 ∧ ¬ 119 < w) → ¬ k < 0 → ¬ nI np ≤ k → ¬ σ.2.1 31 k.toNatClampNeg = w → ¬ σ.2.1 32 k.toNatClampNeg = w → Post (nI nf) (adM σ nf (if y = 0 then 5 else 4) w k 0)) (h0 : ¬ (nf < 200 ∧ (¬ w < 0 ∧ ¬ nI n ≤ w ∨ ¬ w < 100 ∧ ¬ 119 < w) ∧ ¬ k < 0 ∧ ¬ nI np ≤ k ∧ ¬ σ.2.1 31 k.toNatClampNeg = w ∧ ¬ σ.2.1 32 k.toNatClampNeg = w) → Post (-1) σ) : wpM_says σ w k y Post := by
  have hv : ¬ k < 0 → ¬ nI np ≤ k → vp_in k 10 := fun a b => by
    obtain ⟨j, hj, rfl⟩ := isN_of rfl (by omega) a b
    exact vp_in_nI (by omega) (by omega)
  have ad := fun (a b c d : Int32) (h : nf < 200) => factM (σ := σ) (a := a) (b := b) (c := c) (d := d) (Post := Post) hf h
  have n2 := n200 hfn
  rw [← hf] at n2
  unfold wpM_says wpM_says_30 wpM_says_70 wpM_isPerson wpM_isPromise
  simp only [hn, hp]
  repeat' (first | with_reducible refine And.intro ?_ ?_ | with_reducible intro _)
  all_goals first | contradiction | grind


theorem fameM {σ : MS} {np nf : Nat} {k : Int32} {Post : Int32 → MS → Prop} (hp : σ.1 46 = nI np) (hpn : np ≤ 10) (hf : σ.1 57 = nI nf) (hfn : nf ≤ 200) (h1 : nf < 200 → ¬ k < 0 → ¬ nI np ≤ k → Post (nI nf) (adM σ nf 6 k k 0)) (h0 : ¬ (nf < 200 ∧ ¬ k < 0 ∧ ¬ nI np ≤ k) → Post (-1) σ) : wpM_fame σ k Post := by
  have ad := fun (a b c d : Int32) (h : nf < 200) => factM (σ := σ) (a := a) (b := b) (c := c) (d := d) (Post := Post) hf h
  have n2 := n200 hfn
  rw [← hf] at n2
  unfold wpM_fame wpM_isPromise
  simp only [hp]
  repeat' (first | with_reducible refine And.intro ?_ ?_ | with_reducible intro _)
  all_goals first | contradiction | grind


theorem fameC {σ : CS} {np nf : Nat} {k : Int32} {Post : Int32 → CS → Prop} (hp : σ.1 286 = nI np) (hpn : np ≤ 10) (hf : σ.1 504 = nI nf) (hfn : nf ≤ 200) (h1 : nf < 200 → ¬ k < 0 → ¬ nI np ≤ k → Post (nI nf) (adC σ nf 9 k (-1) 0)) (h0 : ¬ (nf < 200 ∧ ¬ k < 0 ∧ ¬ nI np ≤ k) → Post (-1) σ) : wpC_X10_fame σ k Post := by
  have ad := fun a b c d => addC (σ := σ) (a := a) (b := b) (c := c) (d := d) (Post := Post) hf hfn
  unfold wpC_X10_fame wpC_X10_isPromise
  simp only [hp]
  repeat' (first | with_reducible refine And.intro ?_ ?_ | with_reducible intro _)
  all_goals first | contradiction | grind


theorem comesM {σ : MS} {nf : Nat} {c d y : Int32} {Post : Int32 → MS → Prop} (hf : σ.1 57 = nI nf) (hfn : nf ≤ 200) (hy : y = 0 ∨ y = 1) (h1 : nf < 200 → ¬ c < 0 → ¬ 5 < c → ¬ d < 0 → ¬ 9999 < d → Post (nI nf) (adM σ nf (if y = 0 then 8 else 7) c c d)) (h0 : ¬ (nf < 200 ∧ ¬ c < 0 ∧ ¬ 5 < c ∧ ¬ d < 0 ∧ ¬ 9999 < d) → Post (-1) σ) : wpM_comes σ c d y Post := by
  have ad := fun (a b c d : Int32) (h : nf < 200) => factM (σ := σ) (a := a) (b := b) (c := c) (d := d) (Post := Post) hf h
  have n2 := n200 hfn
  rw [← hf] at n2
  unfold wpM_comes wpM_comes_42 wpM_isDay
  repeat' (first | with_reducible refine And.intro ?_ ?_ | with_reducible intro _)
  all_goals first | contradiction | grind


theorem comesC {σ : CS} {nf : Nat} {c d y : Int32} {Post : Int32 → CS → Prop} (hf : σ.1 504 = nI nf) (hfn : nf ≤ 200) (hy : y = 0 ∨ y = 1) (h1 : nf < 200 → ¬ c < 0 → ¬ 5 < c → ¬ d < 0 → ¬ 9999 < d → Post (nI nf) (adC σ nf (if y = 0 then 6 else 5) c (-1) d)) (h0 : ¬ (nf < 200 ∧ ¬ c < 0 ∧ ¬ 5 < c ∧ ¬ d < 0 ∧ ¬ 9999 < d) → Post (-1) σ) : wpC_X10_comes σ c d y Post := by
  have ad := fun a b c d => addC (σ := σ) (a := a) (b := b) (c := c) (d := d) (Post := Post) hf hfn
  unfold wpC_X10_comes wpC_X10_comes_30 wpC_X10_isDay wpC_X10_isCondition
  repeat' (first | with_reducible refine And.intro ?_ ?_ | with_reducible intro _)
  all_goals first | contradiction | grind


theorem fateCallM {σ : MS} {n nf : Nat} {s w d : Int32} {Post : Int32 → MS → Prop} (hn : σ.1 40 = nI n) (hf : σ.1 57 = nI nf) (hfn : nf ≤ 200) (h1 : nf < 200 → ¬ s < 0 → ¬ 3 < s → ¬ w < 0 → ¬ nI n ≤ w → ¬ d < 0 → ¬ 9999 < d → Post (nI nf) (adM σ nf s w w d)) (h0 : ¬ (nf < 200 ∧ ¬ s < 0 ∧ ¬ 3 < s ∧ ¬ w < 0 ∧ ¬ nI n ≤ w ∧ ¬ d < 0 ∧ ¬ 9999 < d) → Post (-1) σ) : wpM_fate σ s w d Post := by
  have ad := fun (a b c d : Int32) (h : nf < 200) => factM (σ := σ) (a := a) (b := b) (c := c) (d := d) (Post := Post) hf h
  have n2 := n200 hfn
  rw [← hf] at n2
  unfold wpM_fate wpM_isPerson wpM_isDay
  simp only [hn]
  repeat' (first | with_reducible refine And.intro ?_ ?_ | with_reducible intro _)
  all_goals first | contradiction | grind


theorem fateCallC {σ : CS} {n nf : Nat} {s w d : Int32} {Post : Int32 → CS → Prop} (hn : σ.1 165 = nI n) (hf : σ.1 504 = nI nf) (hfn : nf ≤ 200) (h1 : nf < 200 → ¬ s < 0 → ¬ 3 < s → ¬ w < 0 → ¬ nI n ≤ w → ¬ d < 0 → ¬ 9999 < d → Post (nI nf) (adC σ nf s w (-1) d)) (h0 : ¬ (nf < 200 ∧ ¬ s < 0 ∧ ¬ 3 < s ∧ ¬ w < 0 ∧ ¬ nI n ≤ w ∧ ¬ d < 0 ∧ ¬ 9999 < d) → Post (-1) σ) : wpC_X10_fate σ s w d Post := by
  have ad := fun a b c d => addC (σ := σ) (a := a) (b := b) (c := c) (d := d) (Post := Post) hf hfn
  unfold wpC_X10_fate wpC_X1_has wpC_X10_isDay
  simp only [hn]
  repeat' (first | with_reducible refine And.intro ?_ ?_ | with_reducible intro _)
  all_goals first | contradiction | grind


theorem leaveM {σ : MS} {n nf : Nat} {a b d : Int32} {Post : Int32 → MS → Prop} (hn : σ.1 40 = nI n) (hf : σ.1 57 = nI nf) (hfn : nf ≤ 200) (h1 : nf < 200 → ¬ a < 0 → ¬ nI n ≤ a → ¬ b < 0 → ¬ nI n ≤ b → ¬ a = b → ¬ d < 0 → ¬ 9999 < d → Post (nI nf) (adM σ nf 9 a b d)) (h0 : ¬ (nf < 200 ∧ ¬ a < 0 ∧ ¬ nI n ≤ a ∧ ¬ b < 0 ∧ ¬ nI n ≤ b ∧ ¬ a = b ∧ ¬ d < 0 ∧ ¬ 9999 < d) → Post (-1) σ) : wpM_leave σ a b d Post := by
  have ad := fun (a b c d : Int32) (h : nf < 200) => factM (σ := σ) (a := a) (b := b) (c := c) (d := d) (Post := Post) hf h
  have n2 := n200 hfn
  rw [← hf] at n2
  unfold wpM_leave wpM_isPerson wpM_isDay
  simp only [hn]
  repeat' (first | with_reducible refine And.intro ?_ ?_ | with_reducible intro _)
  all_goals first | contradiction | grind


theorem leaveC {σ : CS} {n nf : Nat} {a b d : Int32} {Post : Int32 → CS → Prop} (hn : σ.1 165 = nI n) (hf : σ.1 504 = nI nf) (hfn : nf ≤ 200) (h1 : nf < 200 → ¬ a < 0 → ¬ nI n ≤ a → ¬ b < 0 → ¬ nI n ≤ b → ¬ a = b → ¬ d < 0 → ¬ 9999 < d → Post (nI nf) (adC σ nf 4 a b d)) (h0 : ¬ (nf < 200 ∧ ¬ a < 0 ∧ ¬ nI n ≤ a ∧ ¬ b < 0 ∧ ¬ nI n ≤ b ∧ ¬ a = b ∧ ¬ d < 0 ∧ ¬ 9999 < d) → Post (-1) σ) : wpC_X10_leave σ a b d Post := by
  have ad := fun a b c d => addC (σ := σ) (a := a) (b := b) (c := c) (d := d) (Post := Post) hf hfn
  unfold wpC_X10_leave wpC_X10_areTwoPersons wpC_X1_has wpC_X10_isDay
  simp only [hn]
  repeat' (first | with_reducible refine And.intro ?_ ?_ | with_reducible intro _)
  all_goals first | contradiction | grind


def giC (σ : CS) (n : Nat) (a b c : Int32) : CS := cF (cA (cA (cA σ 22 (upd (σ.2.1 22) n a)) 23 (upd (σ.2.1 23) n b)) 24 (upd (σ.2.1 24) n c)) 423 (nI (n + 1))
def giM (σ : MS) (n : Nat) (a b c : Int32) : MS := mF (mA (mA (mA σ 37 (upd (σ.2.1 37) n a)) 38 (upd (σ.2.1 38) n b)) 39 (upd (σ.2.1 39) n c)) 53 (nI (n + 1))
theorem giftAddC {σ : CS} {n : Nat} {a b c : Int32} {Post : Int32 → CS → Prop} (hx : σ.1 423 = nI n) (hn : n ≤ 20) (h1 : n < 20 → Post (nI n) (giC σ n a b c)) (h0 : ¬ n < 20 → Post (-1) σ) : wpC_X2_add σ a b c Post := by
  have e : σ.1 423 < 20 ↔ n < 20 := by rw [hx]; exact nI_ltI (b := 20) (by omega) (by omega)
  refine ⟨fun z => ?_, fun z => h0 (fun q => z (e.mpr q))⟩
  have hv : vp_in (σ.1 423) 20 := by rw [hx]; exact vp_in_nI (e.mp z) (by omega)
  refine ⟨hv, ?_⟩
  rintro _ rfl
  refine ⟨hv, ?_⟩
  rintro _ rfl
  refine ⟨hv, ?_⟩
  rintro _ rfl _ rfl
  have h1 := h1 (e.mp z)
  show Post (σ.1 423 + 1 - 1) (cF (cA (cA (cA σ 22 (upd (σ.2.1 22) (σ.1 423).toNatClampNeg a)) 23 (upd (σ.2.1 23) (σ.1 423).toNatClampNeg b)) 24 (upd (σ.2.1 24) (σ.1 423).toNatClampNeg c)) 423 (σ.1 423 + 1))
  rw [hx, nI_clamp (by omega), nI_m1, nI_1]
  exact h1

theorem giftC {σ : CS} {np ng : Nat} {k w v : Int32} {Post : Int32 → CS → Prop} (hp : σ.1 286 = nI np) (hg : σ.1 423 = nI ng) (hgn : ng ≤ 20) (h1 : ng < 20 → ¬ k < 0 → ¬ nI np ≤ k → ¬ w < 0 → ¬ 1 < w → ¬ v < 1 → v ≤ 1000 → Post (nI ng) (giC σ ng k w v)) (h0 : ¬ (ng < 20 ∧ ¬ k < 0 ∧ ¬ nI np ≤ k ∧ ¬ w < 0 ∧ ¬ 1 < w ∧ ¬ v < 1 ∧ v ≤ 1000) → Post (-1) σ) : wpC_X10_gift σ k w v Post := by
  have ad := fun a b c => giftAddC (σ := σ) (a := a) (b := b) (c := c) (Post := Post) hg hgn
  unfold wpC_X10_gift wpC_X10_isPromise
  simp only [hp]
  repeat' (first | with_reducible refine And.intro ?_ ?_ | with_reducible intro _)
  all_goals first | contradiction | grind


theorem giftM {σ : MS} {np ng : Nat} {k w v : Int32} {Post : Int32 → MS → Prop} (hp : σ.1 46 = nI np) (hpn : np ≤ 10) (hg : σ.1 53 = nI ng) (hgn : ng ≤ 20) (h1 : ng < 20 → ¬ k < 0 → ¬ nI np ≤ k → ¬ w < 0 → ¬ 1 < w → ¬ v < 1 → v ≤ 1000 → Post (nI ng) (giM σ ng k w v)) (h0 : ¬ (ng < 20 ∧ ¬ k < 0 ∧ ¬ nI np ≤ k ∧ ¬ w < 0 ∧ ¬ 1 < w ∧ ¬ v < 1 ∧ v ≤ 1000) → Post (-1) σ) : wpM_gift σ k w v Post := by
  have e : σ.1 53 = 20 ↔ ¬ ng < 20 := by
    have := nI_eq (a := ng) (b := 20) (by omega) (by omega)
    have e : nI 20 = 20 := rfl
    rw [e] at this
    rw [hg, this]
    omega
  refine ⟨fun z => h0 (fun q => e.mp z q.1), fun z => ?_⟩
  have hlt : ng < 20 := Classical.byContradiction (fun q => z (e.mpr q))
  have hv : vp_in (σ.1 53) 20 := by rw [hg]; exact vp_in_nI hlt (by omega)
  have fin : ¬ k < 0 → ¬ nI np ≤ k → ¬ w < 0 → ¬ 1 < w → ¬ v < 1 → v ≤ 1000 → vp_in (σ.1 53) 20 ∧ ∀ σ9 : MS, σ9 = mA σ 37 (upd (σ.2.1 37) (σ.1 53).toNatClampNeg k) → vp_in (σ9.1 53) 20 ∧ ∀ σ11 : MS, σ11 = mA σ9 38 (upd (σ9.2.1 38) (σ9.1 53).toNatClampNeg w) → vp_in (σ11.1 53) 20 ∧ ∀ σ13 : MS, σ13 = mA σ11 39 (upd (σ11.2.1 39) (σ11.1 53).toNatClampNeg v) → ∀ σ15 : MS, σ15 = mF σ13 53 ((σ13.1 53) + 1) → Post ((σ15.1 53) - 1) σ15 := by
    intro a1 a2 a3 a4 a5 a6
    have h1 := h1 hlt a1 a2 a3 a4 a5 a6
    refine ⟨hv, ?_⟩
    rintro _ rfl
    refine ⟨hv, ?_⟩
    rintro _ rfl
    refine ⟨hv, ?_⟩
    rintro _ rfl _ rfl
    show Post (σ.1 53 + 1 - 1) (mF (mA (mA (mA σ 37 (upd (σ.2.1 37) (σ.1 53).toNatClampNeg k)) 38 (upd (σ.2.1 38) (σ.1 53).toNatClampNeg w)) 39 (upd (σ.2.1 39) (σ.1 53).toNatClampNeg v)) 53 (σ.1 53 + 1))
    rw [hg, nI_clamp (by omega), nI_m1, nI_1]
    exact h1
  refine isPromiseM hp (by omega) (fun hN => ?_) (fun hN => ?_)
  · obtain ⟨j, hj, rfl⟩ := hN
    have a1 : ¬ nI j < 0 := nI_pos (by omega)
    have a2 : ¬ nI np ≤ nI j := nI_ge hj (by omega)
    refine ⟨fun q => absurd q (by decide), fun _ => ⟨fun q => h0 (fun y => y.2.2.2.1 q), fun a3 => ⟨fun q => h0 (fun y => y.2.2.2.2.1 q), fun a4 => ⟨fun q => h0 (fun y => y.2.2.2.2.2.1 q), fun a5 => ⟨fun a6 => fin a1 a2 a3 a4 a5 a6, fun q => h0 (fun y => q y.2.2.2.2.2.2)⟩⟩⟩⟩⟩
  · exact ⟨fun _ => h0 (fun y => hN (isN_of rfl (by omega) y.2.1 y.2.2.1)), fun q => absurd rfl q⟩

