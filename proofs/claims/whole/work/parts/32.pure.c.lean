/-! the pure level: the small tests -/
def isD (a : Int32) : Prop := 0 ≤ a.toInt ∧ a.toInt ≤ 9999
theorem i0 : (0 : Int32).toInt = 0 := by decide
theorem i9999 : (9999 : Int32).toInt = 9999 := by decide
theorem isDayM {σ : MS} {a : Int32} {Post : Int32 → MS → Prop} (h1 : isD a → Post 1 σ) (h2 : ¬ isD a → Post 0 σ) : wpM_isDay σ a Post := by
  refine ⟨fun c => h2 (fun z => ?_), fun c => ⟨fun c2 => h2 (fun z => ?_), fun c2 => h1 ⟨?_, ?_⟩⟩⟩
  · have h := Int32.lt_iff_toInt_lt.mp c
    rw [i0] at h
    exact absurd z.1 (by omega)
  · have h := Int32.lt_iff_toInt_lt.mp c2
    rw [i9999] at h
    exact absurd z.2 (by omega)
  · have h := mt Int32.lt_iff_toInt_lt.mpr c
    rw [i0] at h
    omega
  · have h := mt Int32.lt_iff_toInt_lt.mpr c2
    rw [i9999] at h
    omega
theorem isDayC {σ : CS} {a : Int32} {Post : Int32 → CS → Prop} (h1 : isD a → Post 1 σ) (h2 : ¬ isD a → Post 0 σ) : wpC_X10_isDay σ a Post := by
  refine ⟨fun c => h2 (fun z => ?_), fun c => ⟨fun c2 => h2 (fun z => ?_), fun c2 => h1 ⟨?_, ?_⟩⟩⟩
  · have h := Int32.lt_iff_toInt_lt.mp c
    rw [i0] at h
    exact absurd z.1 (by omega)
  · have h := Int32.lt_iff_toInt_lt.mp c2
    rw [i9999] at h
    exact absurd z.2 (by omega)
  · have h := mt Int32.lt_iff_toInt_lt.mpr c
    rw [i0] at h
    omega
  · have h := mt Int32.lt_iff_toInt_lt.mpr c2
    rw [i9999] at h
    omega
/-- a number below a count -/
def isN (a : Int32) (n : Nat) : Prop := ∃ k : Nat, k < n ∧ a = nI k
theorem isN_of {a x : Int32} {n : Nat} (hx : x = nI n) (hn : n < 2 ^ 31) (c1 : ¬ a < 0) (c2 : ¬ x ≤ a) : isN a n := by
  obtain ⟨k, hk, rfl⟩ := nI_of c1
  refine ⟨k, ?_, rfl⟩
  rw [hx] at c2
  exact Nat.not_le.mp (fun z => c2 (nI_le z hk))
theorem isN_lt {a : Int32} {n : Nat} (hn : n < 2 ^ 31) (h : isN a n) : ¬ a < 0 := by
  obtain ⟨k, hk, rfl⟩ := h
  exact nI_pos (by omega)
theorem isN_le {a x : Int32} {n : Nat} (hx : x = nI n) (hn : n < 2 ^ 31) (h : isN a n) : ¬ x ≤ a := by
  obtain ⟨k, hk, rfl⟩ := h
  rw [hx]
  exact nI_ge hk hn
theorem isPersonM {σ : MS} {a : Int32} {n : Nat} {Post : Int32 → MS → Prop} (hx : σ.1 40 = nI n) (hn : n < 2 ^ 31) (h1 : isN a n → Post 1 σ) (h2 : ¬ isN a n → Post 0 σ) : wpM_isPerson σ a Post :=
  ⟨fun c => h2 (fun z => isN_lt hn z c), fun c => ⟨fun c2 => h2 (fun z => isN_le hx hn z c2), fun c2 => h1 (isN_of hx hn c c2)⟩⟩
theorem hasC {σ : CS} {a : Int32} {n : Nat} {Post : Int32 → CS → Prop} (hx : σ.1 165 = nI n) (hn : n < 2 ^ 31) (h1 : isN a n → Post 1 σ) (h2 : ¬ isN a n → Post 0 σ) : wpC_X1_has σ a Post :=
  ⟨fun c => h2 (fun z => isN_lt hn z c), fun c => ⟨fun c2 => h2 (fun z => isN_le hx hn z c2), fun c2 => h1 (isN_of hx hn c c2)⟩⟩
theorem isPromiseM {σ : MS} {a : Int32} {n : Nat} {Post : Int32 → MS → Prop} (hx : σ.1 46 = nI n) (hn : n < 2 ^ 31) (h1 : isN a n → Post 1 σ) (h2 : ¬ isN a n → Post 0 σ) : wpM_isPromise σ a Post :=
  ⟨fun c => h2 (fun z => isN_lt hn z c), fun c => ⟨fun c2 => h2 (fun z => isN_le hx hn z c2), fun c2 => h1 (isN_of hx hn c c2)⟩⟩
theorem isPromiseC {σ : CS} {a : Int32} {n : Nat} {Post : Int32 → CS → Prop} (hx : σ.1 286 = nI n) (hn : n < 2 ^ 31) (h1 : isN a n → Post 1 σ) (h2 : ¬ isN a n → Post 0 σ) : wpC_X10_isPromise σ a Post :=
  ⟨fun c => h2 (fun z => isN_lt hn z c), fun c => ⟨fun c2 => h2 (fun z => isN_le hx hn z c2), fun c2 => h1 (isN_of hx hn c c2)⟩⟩
