theorem firstDayC {σ : CS} {n : Nat} {Post : Int32 → CS → Prop} {s a : Int32} (hkn : σ.1 505 = nI n) (hn : n ≤ 200) (hp : Post (minF (fun i => decide (σ.2.1 26 i = s ∧ σ.2.1 27 i = a)) (σ.2.1 29) 10000 n) σ) : wpC_X0_firstDay σ s a Post := by
  suffices h : ∀ d i, i + d = n → wpC_X0_firstDay_7 Post (d + 1) σ s a (minF (fun i => decide (σ.2.1 26 i = s ∧ σ.2.1 27 i = a)) (σ.2.1 29) 10000 i) (nI i) from ⟨n + 1, h n 0 (by omega)⟩
  intro d
  induction d with
  | zero =>
    intro i hi
    obtain rfl : i = n := by omega
    exact ⟨fun _ => hp, fun c => absurd (by rw [hkn]; exact Int32.le_refl _) c⟩
  | succ d ih =>
    intro i hi
    have hc : ¬ nI n ≤ nI i := nI_ge (by omega) (by omega)
    have hv : vp_in (nI i) 200 := vp_in_nI (by omega) (by omega)
    replace ih := ih (i + 1) (by omega)
    unfold wpC_X0_firstDay_7
    simp only [nI_clamp (show i < 2 ^ 31 by omega), forall_eq, nI_1, hkn]
    simp only [minF] at ih
    grind

theorem firstLeaveC {σ : CS} {n : Nat} {Post : Int32 → CS → Prop} {a b : Int32} (hkn : σ.1 505 = nI n) (hn : n ≤ 200) (hp : Post (minF (fun i => decide (σ.2.1 26 i = 4 ∧ (σ.2.1 27 i = a ∧ σ.2.1 28 i = b ∨ σ.2.1 27 i = b ∧ σ.2.1 28 i = a))) (σ.2.1 29) 10000 n) σ) : wpC_X0_firstLeave σ a b Post := by
  suffices h : ∀ d i, i + d = n → wpC_X0_firstLeave_7 Post (d + 1) σ a b (minF (fun i => decide (σ.2.1 26 i = 4 ∧ (σ.2.1 27 i = a ∧ σ.2.1 28 i = b ∨ σ.2.1 27 i = b ∧ σ.2.1 28 i = a))) (σ.2.1 29) 10000 i) (nI i) from ⟨n + 1, h n 0 (by omega)⟩
  intro d
  induction d with
  | zero =>
    intro i hi
    obtain rfl : i = n := by omega
    exact ⟨fun _ => hp, fun c => absurd (by rw [hkn]; exact Int32.le_refl _) c⟩
  | succ d ih =>
    intro i hi
    have hc : ¬ nI n ≤ nI i := nI_ge (by omega) (by omega)
    have hv : vp_in (nI i) 200 := vp_in_nI (by omega) (by omega)
    have k01 : ¬ (1 : Int32) = 0 := by decide
    replace ih := ih (i + 1) (by omega)
    unfold wpC_X0_firstLeave_7 wpC_X0_firstLeave_38 wpC_X0_firstLeave_64 wpC_X0_firstLeave_65
    simp only [nI_clamp (show i < 2 ^ 31 by omega), forall_eq, nI_1, hkn]
    simp only [minF] at ih
    clear hp
    grind (splits := 20)

theorem famesOfC {σ : CS} {n : Nat} {Post : Int32 → CS → Prop} {a : Int32} (hkn : σ.1 505 = nI n) (hn : n ≤ 200) (hp : Post (cntF (fun i => decide (σ.2.1 26 i = 9 ∧ σ.2.1 27 i = a)) n) σ) : wpC_X0_famesOf σ a Post := by
  suffices h : ∀ d i, i + d = n → wpC_X0_famesOf_4 Post (d + 1) σ a (cntF (fun i => decide (σ.2.1 26 i = 9 ∧ σ.2.1 27 i = a)) i) (nI i) from ⟨n + 1, h n 0 (by omega)⟩
  intro d
  induction d with
  | zero =>
    intro i hi
    obtain rfl : i = n := by omega
    exact ⟨fun _ => hp, fun c => absurd (by rw [hkn]; exact Int32.le_refl _) c⟩
  | succ d ih =>
    intro i hi
    have hc : ¬ nI n ≤ nI i := nI_ge (by omega) (by omega)
    have hv : vp_in (nI i) 200 := vp_in_nI (by omega) (by omega)
    replace ih := ih (i + 1) (by omega)
    unfold wpC_X0_famesOf_4
    simp only [nI_clamp (show i < 2 ^ 31 by omega), forall_eq, nI_1, hkn]
    simp only [cntF] at ih
    grind

theorem decidingC {σ : CS} {n : Nat} {Post : Int32 → CS → Prop} {a : Int32} (hkn : σ.1 505 = nI n) (hn : n ≤ 200) (hp : Post (dcF (fun i => decide ((σ.2.1 26 i = 5 ∨ σ.2.1 26 i = 6) ∧ σ.2.1 27 i = a)) (σ.2.1 29) n) σ) : wpC_X0_deciding σ a Post := by
  suffices h : ∀ d i, i + d = n → wpC_X0_deciding_4 Post (d + 1) σ a (dcF (fun i => decide ((σ.2.1 26 i = 5 ∨ σ.2.1 26 i = 6) ∧ σ.2.1 27 i = a)) (σ.2.1 29) i) (nI i) from ⟨n + 1, h n 0 (by omega)⟩
  intro d
  induction d with
  | zero =>
    intro i hi
    obtain rfl : i = n := by omega
    exact ⟨fun _ => hp, fun c => absurd (by rw [hkn]; exact Int32.le_refl _) c⟩
  | succ d ih =>
    intro i hi
    have hc : ¬ nI n ≤ nI i := nI_ge (by omega) (by omega)
    have hv : vp_in (nI i) 200 := vp_in_nI (by omega) (by omega)
    have k01 : ¬ (1 : Int32) = 0 := by decide
    have hd := dcF_is (fun i => decide ((σ.2.1 26 i = 5 ∨ σ.2.1 26 i = 6) ∧ σ.2.1 27 i = a)) (σ.2.1 29) i
    have hd2 : dcF (fun i => decide ((σ.2.1 26 i = 5 ∨ σ.2.1 26 i = 6) ∧ σ.2.1 27 i = a)) (σ.2.1 29) i = -1 ∨ vp_in (dcF (fun i => decide ((σ.2.1 26 i = 5 ∨ σ.2.1 26 i = 6) ∧ σ.2.1 27 i = a)) (σ.2.1 29) i) 200 := by
      rcases hd with e | ⟨j, h1, h2, h3⟩
      · exact Or.inl e
      · exact Or.inr (by rw [h2]; exact vp_in_nI (by omega) (by omega))
    replace ih := ih (i + 1) (by omega)
    unfold wpC_X0_deciding_4 wpC_X0_deciding_33 wpC_X0_deciding_47 wpC_X0_deciding_48 wpC_X0_deciding_75
    simp only [nI_clamp (show i < 2 ^ 31 by omega), forall_eq, nI_1, hkn]
    simp only [dcF] at ih
    grind

theorem returnsC {σ : CS} {n : Nat} {Post : Int32 → CS → Prop} {a x y : Int32} (hkn : σ.1 505 = nI n) (hn : n ≤ 200) (h1 : anyF (fun j => decide (σ.2.1 26 j = 3 ∧ σ.2.1 27 j = a ∧ ¬ σ.2.1 29 j < x ∧ ¬ y < σ.2.1 29 j)) n = true → Post 1 σ) (h0 : anyF (fun j => decide (σ.2.1 26 j = 3 ∧ σ.2.1 27 j = a ∧ ¬ σ.2.1 29 j < x ∧ ¬ y < σ.2.1 29 j)) n = false → Post 0 σ) : wpC_X0_returns σ a x y Post := by
  suffices h : ∀ d i, i + d = n → anyF (fun j => decide (σ.2.1 26 j = 3 ∧ σ.2.1 27 j = a ∧ ¬ σ.2.1 29 j < x ∧ ¬ y < σ.2.1 29 j)) i = false → wpC_X0_returns_3 Post (d + 1) σ a x y (nI i) from ⟨n + 1, h n 0 (by omega) rfl⟩
  intro d
  induction d with
  | zero =>
    intro i hi hno
    obtain rfl : i = n := by omega
    exact ⟨fun _ => h0 hno, fun c => absurd (by rw [hkn]; exact Int32.le_refl _) c⟩
  | succ d ih =>
    intro i hi hno
    have hc : ¬ nI n ≤ nI i := nI_ge (by omega) (by omega)
    have hv : vp_in (nI i) 200 := vp_in_nI (by omega) (by omega)
    replace ih := ih (i + 1) (by omega)
    have ha := anyF_at (h := (fun j => decide (σ.2.1 26 j = 3 ∧ σ.2.1 27 j = a ∧ ¬ σ.2.1 29 j < x ∧ ¬ y < σ.2.1 29 j))) (n := n) i (by omega)
    unfold wpC_X0_returns_3
    simp only [nI_clamp (show i < 2 ^ 31 by omega), forall_eq, nI_1, hkn]
    simp only [anyF] at ih
    grind

theorem firstLapseC {σ : CS} {n : Nat} {Post : Int32 → CS → Prop} {a x f : Int32} (hkn : σ.1 505 = nI n) (hn : n ≤ 200) (hp : Post (minF (fun i => decide (σ.2.1 26 i = 2 ∧ σ.2.1 27 i = a) && ! anyF (fun j => decide (σ.2.1 26 j = 3 ∧ σ.2.1 27 j = a ∧ ¬ σ.2.1 29 j < σ.2.1 29 i ∧ ¬ imax f (σ.2.1 29 i + x) < σ.2.1 29 j)) n) (fun i => imax f (σ.2.1 29 i + x)) 10000 n) σ) : wpC_X0_firstLapse σ a x f Post := by
  suffices h : ∀ d i, i + d = n → wpC_X0_firstLapse_8 Post (d + 1) σ a x f (minF (fun i => decide (σ.2.1 26 i = 2 ∧ σ.2.1 27 i = a) && ! anyF (fun j => decide (σ.2.1 26 j = 3 ∧ σ.2.1 27 j = a ∧ ¬ σ.2.1 29 j < σ.2.1 29 i ∧ ¬ imax f (σ.2.1 29 i + x) < σ.2.1 29 j)) n) (fun i => imax f (σ.2.1 29 i + x)) 10000 i) (nI i) from ⟨n + 1, h n 0 (by omega)⟩
  intro d
  induction d with
  | zero =>
    intro i hi
    obtain rfl : i = n := by omega
    exact ⟨fun _ => hp, fun c => absurd (by rw [hkn]; exact Int32.le_refl _) c⟩
  | succ d ih =>
    intro i hi
    have hc : ¬ nI n ≤ nI i := nI_ge (by omega) (by omega)
    have hv : vp_in (nI i) 200 := vp_in_nI (by omega) (by omega)
    replace ih := ih (i + 1) (by omega)
    unfold wpC_X0_firstLapse_8
    simp only [nI_clamp (show i < 2 ^ 31 by omega), forall_eq, nI_1, hkn]
    simp only [minF] at ih
    have ev : (if f < σ.2.1 29 i + x then σ.2.1 29 i + x else f) = imax f (σ.2.1 29 i + x) := rfl
    rw [ev]
    refine ⟨fun c => absurd c hc, fun _ => ⟨hv, fun c1 => ⟨hv, fun c2 => ⟨hv, fun c3 => ?_, fun c3 => ⟨hv, returnsC hkn hn (fun r => ?_) (fun r => ?_)⟩⟩, fun c2 => ?_⟩, fun c1 => ?_⟩⟩
    · rw [if_neg (fun z => absurd z.2 (by grind))] at ih
      exact ih
    · rw [r, if_neg (fun z => absurd z.1 (by simp))] at ih
      exact ⟨fun z => absurd z (by decide), fun _ => ih⟩
    · rw [r, if_pos ⟨by simp [c1, c2], by grind⟩] at ih
      exact ⟨fun _ => ih, fun z => absurd rfl z⟩
    · rw [if_neg (fun z => absurd z.1 (by simp [c2]))] at ih
      exact ih
    · rw [if_neg (fun z => absurd z.1 (by simp [c1]))] at ih
      exact ih
