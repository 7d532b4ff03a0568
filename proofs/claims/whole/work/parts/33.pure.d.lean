/-! pure level: loops' functions -/
def minF (h : Nat → Bool) (v : Nat → Int32) (top : Int32) : Nat → Int32
  | 0 => top
  | i + 1 => if h i = true ∧ v i < minF h v top i then v i else minF h v top i
def cntF (h : Nat → Bool) : Nat → Int32
  | 0 => 0
  | i + 1 => if h i = true then cntF h i + 1 else cntF h i
def dcF (h : Nat → Bool) (v : Nat → Int32) : Nat → Int32
  | 0 => -1
  | i + 1 => if h i = true ∧ (dcF h v i = -1 ∨ v i < v (dcF h v i).toNatClampNeg) then nI i else dcF h v i
def lsF (h : Nat → Bool) : Nat → Int32
  | 0 => -1
  | i + 1 => if h i = true then nI i else lsF h i
theorem ix12 (a c : Nat) : (12 : Int32) * nI a + nI c = nI (12 * a + c) := by
  rw [show (12 : Int32) = nI 12 from rfl, pk_mul, nI_add]
theorem ix12r (a c : Nat) : nI a * (12 : Int32) + nI c = nI (12 * a + c) := by
  rw [show (12 : Int32) = nI 12 from rfl, pk_mul, nI_add, Nat.mul_comm]
theorem ix16 (a c : Nat) : (16 : Int32) * nI a + nI c = nI (16 * a + c) := by
  rw [show (16 : Int32) = nI 16 from rfl, pk_mul, nI_add]
theorem ix200 (a c : Nat) : (200 : Int32) * nI a + nI c = nI (200 * a + c) := by
  rw [show (200 : Int32) = nI 200 from rfl, pk_mul, nI_add]
theorem t_g1 (a b c : Int32) (h : a ≤ b) (h2 : ¬ c < b) : a ≤ c := by grind
theorem t_g2 (a b : Int32) (h : ¬ a ≤ b) : (if a < b then b else a) = (if a ≤ b then b else a) := by grind
theorem t_g3 (a u v : Int32) : a + (-u) * v = a - u * v := by grind
theorem t_g4 (a : Int32) (h : ¬ a < 0) (h2 : ¬ 9999 < a) : a < 10000 := by grind
theorem fateM {σ : MS} {k n : Nat} {s : Int32} {Post : Int32 → MS → Prop} (hk : k < 10) (hn : n ≤ 200)
    (hp : Post (minF (fun i => decide (σ.2.1 40 i = s ∧ (σ.2.1 41 i = σ.2.1 31 k ∨ σ.2.1 41 i = σ.2.1 32 k))) (σ.2.1 43) 1000000 n) σ) : wpM_fateOf σ (nI k) s (nI n) Post := by
  suffices h : ∀ d i, i + d = n → wpM_fateOf_8 Post (d + 1) σ (nI k) s (nI n) (minF (fun i => decide (σ.2.1 40 i = s ∧ (σ.2.1 41 i = σ.2.1 31 k ∨ σ.2.1 41 i = σ.2.1 32 k))) (σ.2.1 43) 1000000 i) (nI i) from ⟨n + 1, h n 0 (by omega)⟩
  intro d
  induction d with
  | zero =>
    intro i hi
    obtain rfl : i = n := by omega
    exact ⟨fun _ => hp, fun c => absurd (Int32.le_refl _) c⟩
  | succ d ih =>
    intro i hi
    have hc : ¬ nI n ≤ nI i := nI_ge (by omega) (by omega)
    have hv : vp_in (nI i) 200 := vp_in_nI (by omega) (by omega)
    have hv2 : vp_in (nI k) 10 := vp_in_nI (by omega) (by omega)
    replace ih := ih (i + 1) (by omega)
    unfold wpM_fateOf_8 wpM_fateOf_57
    simp only [nI_clamp (show i < 2 ^ 31 by omega), nI_clamp (show k < 2 ^ 31 by omega), forall_eq, nI_1]
    simp only [minF] at ih
    grind
def anyF (h : Nat → Bool) : Nat → Bool
  | 0 => false
  | i + 1 => anyF h i || h i
def b2 (b : Bool) : Int32 := if b = true then 1 else 0
def imax (a b : Int32) : Int32 := if a < b then b else a
def imin (a b : Int32) : Int32 := if b < a then b else a
theorem anyF_iff (h : Nat → Bool) (n : Nat) : anyF h n = true ↔ ∃ j, j < n ∧ h j = true := by
  induction n with
  | zero => simp [anyF]
  | succ n ih =>
    simp only [anyF, Bool.or_eq_true, ih]
    constructor
    · rintro (⟨j, h1, h2⟩ | h1)
      · exact ⟨j, by omega, h2⟩
      · exact ⟨n, by omega, h1⟩
    · rintro ⟨j, h1, h2⟩
      by_cases e : j = n
      · exact Or.inr (e ▸ h2)
      · exact Or.inl ⟨j, by omega, h2⟩
theorem anyF_at {h : Nat → Bool} {n : Nat} (j : Nat) (hj : j < n) (h2 : h j = true) : anyF h n = true := (anyF_iff h n).mpr ⟨j, hj, h2⟩
theorem minF_congr {h h' : Nat → Bool} {v v' : Nat → Int32} {t : Int32} {n : Nat} (hh : ∀ i, i < n → h i = h' i) (hv : ∀ i, i < n → h i = true → v i = v' i) : minF h v t n = minF h' v' t n := by
  induction n with
  | zero => rfl
  | succ n ih =>
    have e := ih (fun i hi => hh i (by omega)) (fun i hi => hv i (by omega))
    have e1 := hh n (by omega)
    have e2 := hv n (by omega)
    simp only [minF, e, ← e1]
    by_cases c : h n = true
    · rw [e2 c]
    · simp [c]
theorem cntF_congr {h h' : Nat → Bool} {n : Nat} (hh : ∀ i, i < n → h i = h' i) : cntF h n = cntF h' n := by
  induction n with
  | zero => rfl
  | succ n ih =>
    have e := ih (fun i hi => hh i (by omega))
    have e1 := hh n (by omega)
    simp only [cntF, e, ← e1]
theorem anyF_congr {h h' : Nat → Bool} {n : Nat} (hh : ∀ i, i < n → h i = h' i) : anyF h n = anyF h' n := by
  induction n with
  | zero => rfl
  | succ n ih =>
    have e := ih (fun i hi => hh i (by omega))
    have e1 := hh n (by omega)
    simp only [anyF, e, ← e1]
theorem dcF_is (h : Nat → Bool) (v : Nat → Int32) (n : Nat) : dcF h v n = -1 ∨ ∃ j, j < n ∧ dcF h v n = nI j ∧ h j = true := by
  induction n with
  | zero => exact Or.inl rfl
  | succ n ih =>
    simp only [dcF]
    split
    · next c => exact Or.inr ⟨n, by omega, rfl, c.1⟩
    · rcases ih with e | ⟨j, h1, h2, h3⟩
      · exact Or.inl e
      · exact Or.inr ⟨j, by omega, h2, h3⟩
theorem dcF_congr {h h' : Nat → Bool} {v v' : Nat → Int32} {n : Nat} (hn : n < 2 ^ 31) (hh : ∀ i, i < n → h i = h' i) (hv : ∀ i, i < n → h i = true → v i = v' i) : dcF h v n = dcF h' v' n := by
  induction n with
  | zero => rfl
  | succ n ih =>
    have e := ih (by omega) (fun i hi => hh i (by omega)) (fun i hi => hv i (by omega))
    have e1 := hh n (by omega)
    have e2 := hv n (by omega)
    simp only [dcF, ← e, ← e1]
    by_cases c : h n = true
    · rw [e2 c]
      rcases dcF_is h v n with d | ⟨j, h1, h2, h3⟩
      · rw [d]; simp
      · rw [h2, nI_clamp (by omega), hv j (by omega) h3]
    · simp [c]
theorem dcF_min {h : Nat → Bool} {v : Nat → Int32} {n : Nat} (hn : n < 2 ^ 31) : (dcF h v n = -1 → ∀ i, i < n → h i = false) ∧ (∀ j, j < n → dcF h v n = nI j → ∀ i, i < n → h i = true → v j ≤ v i) := by
  induction n with
  | zero => exact ⟨fun _ i hi => absurd hi (by omega), fun j hj => absurd hj (by omega)⟩
  | succ n ih =>
    obtain ⟨i1, i2⟩ := ih (by omega)
    have hne : ∀ k : Nat, k < 2 ^ 31 → ¬ nI k = -1 := fun k hk e => by
      have := nI_toInt hk
      rw [e] at this
      have h9 : ((-1 : Int32)).toInt = -1 := by decide
      rw [h9] at this
      omega
    simp only [dcF]
    split
    · next c =>
      refine ⟨fun e => absurd e (hne n (by omega)), fun j hj e i hi hhi => ?_⟩
      obtain rfl : n = j := (nI_eq (by omega) (by omega)).mp e
      rcases c.2 with c2 | c2
      · by_cases ei : i = n
        · subst ei; exact Int32.le_refl _
        · have := i1 c2 i (by omega)
          rw [hhi] at this
          exact absurd this (by decide)
      · by_cases ei : i = n
        · subst ei; exact Int32.le_refl _
        · rcases dcF_is h v n with d | ⟨j, h1, h2, h3⟩
          · have := i1 d i (by omega)
            rw [hhi] at this
            exact absurd this (by decide)
          · have h4 := i2 j h1 h2 i (by omega) hhi
            rw [h2, nI_clamp (by omega)] at c2
            grind
    · next c =>
      refine ⟨fun e i hi => ?_, fun j hj e i hi hhi => ?_⟩
      · by_cases ei : i = n
        · subst ei
          cases hc : h i with
          | false => rfl
          | true => exact absurd ⟨hc, Or.inl e⟩ c
        · exact i1 e i (by omega)
      · have hjn : j < n := by
          rcases dcF_is h v n with d | ⟨j', h1, h2, h3⟩
          · rw [d] at e
            exact absurd e.symm (hne j (by omega))
          · rw [h2] at e
            have := (nI_eq (by omega) (by omega)).mp e
            omega
        by_cases ei : i = n
        · subst ei
          have : ¬ v i < v j := fun z => c ⟨hhi, Or.inr (by rw [e, nI_clamp (by omega)]; exact z)⟩
          grind
        · exact i2 j hjn e i (by omega) hhi
/-- a day of the class (10000: never) and of the reference (1000000: never) -/
def capR (c m : Int32) : Prop := (c = 10000 ∧ m = 1000000) ∨ (c = m ∧ m < 10000)
theorem min_cap {h h1 h2 : Nat → Bool} {v : Nat → Int32} {n : Nat} (H : ∀ i, i < n → (h i = true ↔ (h1 i = true ∨ h2 i = true) ∧ v i < 10000)) : capR (imin (minF h1 v 10000 n) (minF h2 v 10000 n)) (minF h v 1000000 n) := by
  induction n with
  | zero => exact Or.inl ⟨by simp [imin, minF], rfl⟩
  | succ n ih =>
    have ih := ih (fun i hi => H i (by omega))
    have H := H n (by omega)
    simp only [minF, capR, imin] at *
    grind
