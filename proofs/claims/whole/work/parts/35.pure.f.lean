theorem vowsM {σ : MS} {n : Nat} {Post : Int32 → MS → Prop} {a x : Int32} (hn : n ≤ 200) (h1 : anyF (fun j => decide (σ.2.1 40 j = 1 ∧ σ.2.1 41 j = a ∧ ¬ x < σ.2.1 43 j)) n = true → Post 1 σ) (h0 : anyF (fun j => decide (σ.2.1 40 j = 1 ∧ σ.2.1 41 j = a ∧ ¬ x < σ.2.1 43 j)) n = false → Post 0 σ) : wpM_vows σ a x (nI n) Post := by
  suffices h : ∀ d i, i + d = n → anyF (fun j => decide (σ.2.1 40 j = 1 ∧ σ.2.1 41 j = a ∧ ¬ x < σ.2.1 43 j)) i = false → wpM_vows_3 Post (d + 1) σ a x (nI n) (nI i) from ⟨n + 1, h n 0 (by omega) rfl⟩
  intro d
  induction d with
  | zero =>
    intro i hi hno
    obtain rfl : i = n := by omega
    exact ⟨fun _ => h0 hno, fun c => absurd (Int32.le_refl _) c⟩
  | succ d ih =>
    intro i hi hno
    have hc : ¬ nI n ≤ nI i := nI_ge (by omega) (by omega)
    have hv : vp_in (nI i) 200 := vp_in_nI (by omega) (by omega)
    replace ih := ih (i + 1) (by omega)
    have ha := anyF_at (h := (fun j => decide (σ.2.1 40 j = 1 ∧ σ.2.1 41 j = a ∧ ¬ x < σ.2.1 43 j))) (n := n) i (by omega)
    unfold wpM_vows_3
    simp only [nI_clamp (show i < 2 ^ 31 by omega), forall_eq, nI_1]
    simp only [anyF] at ih
    grind

theorem lapseInM {K : MS → Int32 → Int32 → Int32 → Int32 → Int32 → Prop} {σ : MS} {n : Nat} {Post : Int32 → MS → Prop} {x1 x4 v l : Int32} {i : Nat} {b : Bool} (hn : n ≤ 200) (hi : i < 200) (hK : K σ x1 (nI n) x4 (if (b || anyF (fun j => decide (σ.2.1 40 j = 3 ∧ σ.2.1 41 j = σ.2.1 41 i ∧ ¬ σ.2.1 43 j < σ.2.1 43 i ∧ ¬ v < σ.2.1 43 j)) n) = false ∧ v < l then v else l) (nI (i + 1))) : ∃ g, wpM_lapseOf_198 K Post g σ x1 (nI n) x4 l (nI i) v (b2 b) 0 := by
  suffices h : ∀ d j, j + d = n → wpM_lapseOf_198 K Post (d + 1) σ x1 (nI n) x4 l (nI i) v (b2 (b || anyF (fun j => decide (σ.2.1 40 j = 3 ∧ σ.2.1 41 j = σ.2.1 41 i ∧ ¬ σ.2.1 43 j < σ.2.1 43 i ∧ ¬ v < σ.2.1 43 j)) j)) (nI j) from ⟨n + 1, by have := h n 0 (by omega); simp only [anyF, Bool.or_false] at this; exact this⟩
  intro d
  induction d with
  | zero =>
    intro j hj
    obtain rfl : j = n := by omega
    unfold wpM_lapseOf_198
    simp only [forall_eq, nI_1]
    cases hb : (b || anyF (fun j => decide (σ.2.1 40 j = 3 ∧ σ.2.1 41 j = σ.2.1 41 i ∧ ¬ σ.2.1 43 j < σ.2.1 43 i ∧ ¬ v < σ.2.1 43 j)) j) with
    | false =>
      rw [hb] at hK
      have e : b2 false = 0 := rfl
      rw [e]
      have k := Int32.le_refl (nI j)
      grind
    | true =>
      rw [hb] at hK
      have e : b2 true = 1 := rfl
      rw [e]
      have k := Int32.le_refl (nI j)
      have k01 : ¬ (1 : Int32) = 0 := by decide
      grind
  | succ d ih =>
    intro j hj
    have hc : ¬ nI n ≤ nI j := nI_ge (by omega) (by omega)
    have hv : vp_in (nI j) 200 := vp_in_nI (by omega) (by omega)
    have hv2 : vp_in (nI i) 200 := vp_in_nI (by omega) (by omega)
    replace ih := ih (j + 1) (by omega)
    unfold wpM_lapseOf_198
    simp only [nI_clamp (show i < 2 ^ 31 by omega), nI_clamp (show j < 2 ^ 31 by omega), forall_eq, nI_1]
    simp only [anyF] at ih
    have e1 : b2 true = 1 := rfl
    grind

theorem lapseOutM {σ : MS} {n : Nat} {Post : Int32 → MS → Prop} {m : Int32} {k : Nat} (hk : k < 10) (hn : n ≤ 200) (hp : Post (minF (fun i => decide (σ.2.1 40 i = 2 ∧ (σ.2.1 41 i = σ.2.1 31 k ∨ σ.2.1 41 i = σ.2.1 32 k)) && ! (decide (¬ (if σ.2.1 43 i + m ≤ σ.2.1 47 k then σ.2.1 47 k else σ.2.1 43 i + m) ≤ 9999) || anyF (fun j => decide (σ.2.1 40 j = 3 ∧ σ.2.1 41 j = σ.2.1 41 i ∧ ¬ σ.2.1 43 j < σ.2.1 43 i ∧ ¬ (if σ.2.1 43 i + m ≤ σ.2.1 47 k then σ.2.1 47 k else σ.2.1 43 i + m) < σ.2.1 43 j)) n)) (fun i => if σ.2.1 43 i + m ≤ σ.2.1 47 k then σ.2.1 47 k else σ.2.1 43 i + m) 1000000 n) σ) : ∃ g, wpM_lapseOf_88 Post g σ (nI k) (nI n) m 1000000 0 := by
  suffices h : ∀ d i, i + d = n → wpM_lapseOf_88 Post (d + 1) σ (nI k) (nI n) m (minF (fun i => decide (σ.2.1 40 i = 2 ∧ (σ.2.1 41 i = σ.2.1 31 k ∨ σ.2.1 41 i = σ.2.1 32 k)) && ! (decide (¬ (if σ.2.1 43 i + m ≤ σ.2.1 47 k then σ.2.1 47 k else σ.2.1 43 i + m) ≤ 9999) || anyF (fun j => decide (σ.2.1 40 j = 3 ∧ σ.2.1 41 j = σ.2.1 41 i ∧ ¬ σ.2.1 43 j < σ.2.1 43 i ∧ ¬ (if σ.2.1 43 i + m ≤ σ.2.1 47 k then σ.2.1 47 k else σ.2.1 43 i + m) < σ.2.1 43 j)) n)) (fun i => if σ.2.1 43 i + m ≤ σ.2.1 47 k then σ.2.1 47 k else σ.2.1 43 i + m) 1000000 i) (nI i) from ⟨n + 1, h n 0 (by omega)⟩
  intro d
  induction d with
  | zero =>
    intro i hi
    obtain rfl : i = n := by omega
    exact ⟨fun _ => hp, fun c => absurd (Int32.le_refl _) c⟩
  | succ d ih =>
    intro i hi
    have hc : ¬ nI n ≤ nI i := nI_ge (by omega) (by omega)
    have hv : vp_in (nI i) 200 := vp_in_nI (by omega) (by omega)
    have hv2 : vp_in (nI k) 10 := vp_in_nI (by omega) (by omega)
    replace ih := ih (i + 1) (by omega)
    have hin := fun (v : Int32) (b : Bool) (l : Int32) => lapseInM (K := fun a0 a1 a2 a3 a4 a5 => wpM_lapseOf_88 Post (d + 1) a0 a1 a2 a3 a4 a5) (Post := Post) (σ := σ) (n := n) (x1 := nI k) (x4 := m) (v := v) (l := l) (i := i) (b := b) hn (by omega)
    have e1 : b2 true = 1 := rfl
    have e0 : b2 false = 0 := rfl
    unfold wpM_lapseOf_88 wpM_lapseOf_140 wpM_lapseOf_178 wpM_lapseOf_193
    simp only [nI_clamp (show i < 2 ^ 31 by omega), nI_clamp (show k < 2 ^ 31 by omega), forall_eq, nI_1]
    simp only [minF] at ih
    by_cases c1 : σ.2.1 40 i = 2 ∧ (σ.2.1 41 i = σ.2.1 31 k ∨ σ.2.1 41 i = σ.2.1 32 k)
    · by_cases c2 : σ.2.1 43 i + m ≤ σ.2.1 47 k
      · by_cases c3 : σ.2.1 47 k ≤ 9999
        · have h9 := hin (σ.2.1 47 k) false _ (by simpa [c1, c2, c3] using ih)
          rw [e0] at h9
          grind
        · have h9 := hin (σ.2.1 47 k) true _ (by simpa [c1, c2, c3] using ih)
          rw [e1] at h9
          grind
      · by_cases c3 : σ.2.1 43 i + m ≤ 9999
        · have h9 := hin (σ.2.1 43 i + m) false _ (by simpa [c1, c2, c3] using ih)
          rw [e0] at h9
          grind
        · have h9 := hin (σ.2.1 43 i + m) true _ (by simpa [c1, c2, c3] using ih)
          rw [e1] at h9
          grind
    · grind

theorem degreeM {σ : MS} {n : Nat} {Post : Int32 → MS → Prop} {a b : Nat} (hnn : σ.1 40 = nI n) (hn : n ≤ 12) (ha : a < n) (hb : b < n) (hp : Post (minF (fun _ => true) (fun c => imax (σ.2.1 29 (12 * a + c)) (σ.2.1 29 (12 * b + c))) 99 n) σ) : wpM_degreeOf σ (nI a) (nI b) Post := by
  suffices h : ∀ d i, i + d = n → wpM_degreeOf_6 Post (d + 1) σ (nI a) (nI b) (minF (fun _ => true) (fun c => imax (σ.2.1 29 (12 * a + c)) (σ.2.1 29 (12 * b + c))) 99 i) (nI i) from ⟨n + 1, h n 0 (by omega)⟩
  intro d
  induction d with
  | zero =>
    intro i hi
    obtain rfl : i = n := by omega
    exact ⟨fun _ => hp, fun c => absurd (by rw [hnn]; exact Int32.le_refl _) c⟩
  | succ d ih =>
    intro i hi
    have hc : ¬ nI n ≤ nI i := nI_ge (by omega) (by omega)
    have hv : vp_in (nI (12 * a + i)) 144 := vp_in_nI (by omega) (by omega)
    have hv2 : vp_in (nI (12 * b + i)) 144 := vp_in_nI (by omega) (by omega)
    replace ih := ih (i + 1) (by omega)
    unfold wpM_degreeOf_6 wpM_degreeOf_57
    simp only [ix12, nI_clamp (show 12 * a + i < 2 ^ 31 by omega), nI_clamp (show 12 * b + i < 2 ^ 31 by omega), forall_eq, nI_1, hnn]
    simp only [minF, imax] at ih
    simp only [imax]
    grind

theorem stepsC {σ : CS} {n : Nat} {Post : Int32 → CS → Prop} {a c : Nat} (hnn : σ.1 165 = nI n) (hn : n ≤ 12) (ha : a < n) (hc : c < 12) (hp : Post (σ.2.1 12 (12 * a + c)) σ) : wpC_X1_stepsTo σ (nI a) (nI c) Post := by
  refine hasC hnn (by omega) (fun _ => ⟨fun z => absurd z (by decide), fun _ => ?_⟩) (fun z => absurd ⟨a, ha, rfl⟩ z)
  rw [ix12r, nI_clamp (show 12 * a + c < 2 ^ 31 by omega)]
  exact ⟨vp_in_nI (by omega) (by omega), hp⟩
theorem degreeC {σ : CS} {n : Nat} {Post : Int32 → CS → Prop} {a b : Nat} (hnn : σ.1 165 = nI n) (hn : n ≤ 12) (ha : a < n) (hb : b < n) (hp : Post (minF (fun _ => true) (fun c => imax (σ.2.1 12 (12 * a + c)) (σ.2.1 12 (12 * b + c))) 99 n) σ) : wpC_X1_degreeOf σ (nI a) (nI b) Post := by
  suffices h : ∀ d i, i + d = n → wpC_X1_degreeOf_6 Post (d + 1) σ (nI a) (nI b) (minF (fun _ => true) (fun c => imax (σ.2.1 12 (12 * a + c)) (σ.2.1 12 (12 * b + c))) 99 i) (nI i) from ⟨n + 1, h n 0 (by omega)⟩
  intro d
  induction d with
  | zero =>
    intro i hi
    obtain rfl : i = n := by omega
    exact ⟨fun _ => hp, fun c => absurd (by rw [hnn]; exact Int32.le_refl _) c⟩
  | succ d ih =>
    intro i hi
    have hc : ¬ nI n ≤ nI i := nI_ge (by omega) (by omega)
    replace ih := ih (i + 1) (by omega)
    refine ⟨fun c => absurd (by rw [hnn] at c; exact c) hc, fun _ => stepsC hnn hn ha (by omega) (stepsC hnn hn hb (by omega) ?_)⟩
    intro y6 e6 y7 e7 y8 e8
    rw [nI_1] at e8
    subst e8
    have e : y7 = minF (fun _ => true) (fun c => imax (σ.2.1 12 (12 * a + c)) (σ.2.1 12 (12 * b + c))) 99 (i + 1) := by
      rw [e7, e6]
      simp only [minF]
      grind [imax]
    rw [e]
    exact ih
