/-! pure level: the law in force -/
def loF (pl da : Nat → Int32) (w d : Int32) : Nat → Int32
  | 0 => -1
  | l + 1 => if pl l = w ∧ ¬ d < da l ∧ (loF pl da w d l = -1 ∨ ¬ da l < da (loF pl da w d l).toNatClampNeg) then nI l else loF pl da w d l
theorem loF_is (pl da : Nat → Int32) (w d : Int32) (n : Nat) : loF pl da w d n = -1 ∨ ∃ j, j < n ∧ loF pl da w d n = nI j := by
  induction n with
  | zero => exact Or.inl rfl
  | succ n ih =>
    simp only [loF]
    split
    · exact Or.inr ⟨n, by omega, rfl⟩
    · rcases ih with e | ⟨j, h1, h2⟩
      · exact Or.inl e
      · exact Or.inr ⟨j, by omega, h2⟩
theorem loF_congr {pl pl' da da' : Nat → Int32} {w d : Int32} {n : Nat} (hn : n < 2 ^ 31) (h1 : ∀ i, i < n → pl i = pl' i) (h2 : ∀ i, i < n → da i = da' i) : loF pl da w d n = loF pl' da' w d n := by
  induction n with
  | zero => rfl
  | succ n ih =>
    have e := ih (by omega) (fun i hi => h1 i (by omega)) (fun i hi => h2 i (by omega))
    simp only [loF, ← e, ← h1 n (by omega), ← h2 n (by omega)]
    rcases loF_is pl da w d n with c | ⟨j, c1, c2⟩
    · rw [c]; simp
    · rw [c2, nI_clamp (by omega), h2 j (by omega)]
theorem lawOfM {σ : MS} {k nl : Nat} {Post : Int32 → MS → Prop} (hl : σ.1 18 = nI nl) (hn : nl ≤ 8) (hk : k < 10) (hp : Post (loF (σ.2.1 8) (σ.2.1 9) (σ.2.1 33 k) (σ.2.1 34 k) nl) σ) : wpM_lawOf σ (nI k) Post := by
  suffices h : ∀ d i, i + d = nl → wpM_lawOf_4 Post (d + 1) σ (nI k) (loF (σ.2.1 8) (σ.2.1 9) (σ.2.1 33 k) (σ.2.1 34 k) i) (nI i) from ⟨nl + 1, h nl 0 (by omega)⟩
  intro d
  induction d with
  | zero =>
    intro i hi
    obtain rfl : i = nl := by omega
    exact ⟨fun _ => hp, fun c => absurd (by rw [hl]; exact Int32.le_refl _) c⟩
  | succ d ih =>
    intro i hi
    have hc : ¬ nI nl ≤ nI i := nI_ge (by omega) (by omega)
    have hv : vp_in (nI i) 9 := vp_in_nI (by omega) (by omega)
    have hv2 : vp_in (nI k) 10 := vp_in_nI (by omega) (by omega)
    have hv3 : loF (σ.2.1 8) (σ.2.1 9) (σ.2.1 33 k) (σ.2.1 34 k) i = -1 ∨ vp_in (loF (σ.2.1 8) (σ.2.1 9) (σ.2.1 33 k) (σ.2.1 34 k) i) 9 := by
      rcases loF_is (σ.2.1 8) (σ.2.1 9) (σ.2.1 33 k) (σ.2.1 34 k) i with e | ⟨j, h1, h2⟩
      · exact Or.inl e
      · exact Or.inr (by rw [h2]; exact vp_in_nI (by omega) (by omega))
    replace ih := ih (i + 1) (by omega)
    unfold wpM_lawOf_4 wpM_lawOf_62
    simp only [nI_clamp (show i < 2 ^ 31 by omega), nI_clamp (show k < 2 ^ 31 by omega), forall_eq, nI_1, hl]
    simp only [loF] at ih
    grind
theorem inForceC {σ : CS} {nl : Nat} {w d : Int32} {Post : Int32 → CS → Prop} (hl : σ.1 122 = nI nl) (hl2 : σ.2.2.1 = nl + 1) (hn : nl ≤ 8) (hd : ∀ l, l < nl → ¬ (σ.2.2.2 (l + 1)).1.2 < 0) (hp : Post (loF (fun l => (σ.2.2.2 (l + 1)).1.1) (fun l => (σ.2.2.2 (l + 1)).1.2) w d nl) σ) : wpC_X6_inForce σ w d Post := by
  suffices h : ∀ e i, i + e = nl → ∀ y : Int32, (loF (fun l => (σ.2.2.2 (l + 1)).1.1) (fun l => (σ.2.2.2 (l + 1)).1.2) w d i = -1 → y = -1) → (∀ j, j < i → loF (fun l => (σ.2.2.2 (l + 1)).1.1) (fun l => (σ.2.2.2 (l + 1)).1.2) w d i = nI j → y = (σ.2.2.2 (j + 1)).1.2) → wpC_X6_inForce_8 Post (e + 1) σ w d (loF (fun l => (σ.2.2.2 (l + 1)).1.1) (fun l => (σ.2.2.2 (l + 1)).1.2) w d i) y (nI i) from ⟨nl + 1, h nl 0 (by omega) (-1) (fun _ => rfl) (fun j hj => absurd hj (by omega))⟩
  intro e
  induction e with
  | zero =>
    intro i hi y _ _
    obtain rfl : i = nl := by omega
    exact ⟨fun _ => hp, fun c => absurd (by rw [hl]; exact Int32.le_refl _) c⟩
  | succ e ih =>
    intro i hi y hy1 hy2
    have hc : ¬ nI nl ≤ nI i := nI_ge (by omega) (by omega)
    have hv : vp_in (nI i) 8 := vp_in_nI (by omega) (by omega)
    have hl3 : i + 1 < σ.2.2.1 := by omega
    have hdi := hd i (by omega)
    replace ih := ih (i + 1) (by omega)
    have hcase := loF_is (fun l => (σ.2.2.2 (l + 1)).1.1) (fun l => (σ.2.2.2 (l + 1)).1.2) w d i
    have hne : ∀ k : Nat, k < 2 ^ 31 → ¬ nI k = -1 := fun k hk e => by
      have := nI_toInt hk
      rw [e] at this
      have h9 : ((-1 : Int32)).toInt = -1 := by decide
      rw [h9] at this
      omega
    have hyc : (σ.2.2.2 (i + 1)).1.2 < y ↔ ¬ (loF (fun l => (σ.2.2.2 (l + 1)).1.1) (fun l => (σ.2.2.2 (l + 1)).1.2) w d i = -1 ∨ ¬ (σ.2.2.2 (i + 1)).1.2 < (σ.2.2.2 ((loF (fun l => (σ.2.2.2 (l + 1)).1.1) (fun l => (σ.2.2.2 (l + 1)).1.2) w d i).toNatClampNeg + 1)).1.2) := by
      rcases hcase with c | ⟨j, c1, c2⟩
      · rw [hy1 c, c]
        have : ¬ (σ.2.2.2 (i + 1)).1.2 < -1 := by grind
        simp [this]
      · rw [hy2 j c1 c2, c2, nI_clamp (by omega)]
        have := hne j (by omega)
        simp [this]
    refine ⟨fun c => absurd (by rw [hl] at c; exact c) hc, fun _ => ⟨hv, ?_, fun c => absurd (by rw [nI_clamp (by omega)]; exact hl3) c⟩⟩
    intro v3 e3 _
    rw [nI_clamp (by omega)] at e3
    subst e3
    have stay : (loF (fun l => (σ.2.2.2 (l + 1)).1.1) (fun l => (σ.2.2.2 (l + 1)).1.2) w d (i + 1) = loF (fun l => (σ.2.2.2 (l + 1)).1.1) (fun l => (σ.2.2.2 (l + 1)).1.2) w d i) → wpC_X6_inForce_8 Post (e + 1) σ w d (loF (fun l => (σ.2.2.2 (l + 1)).1.1) (fun l => (σ.2.2.2 (l + 1)).1.2) w d i) y (nI (i + 1)) := by
      intro z
      have h7 := ih y
      rw [z] at h7
      refine h7 hy1 (fun j hj hj2 => ?_)
      rcases hcase with c | ⟨j', c1, c2⟩
      · rw [c] at hj2
        exact absurd hj2.symm (hne j (by omega))
      · rw [c2] at hj2
        have h8 : j' = j := (nI_eq (by omega) (by omega)).mp hj2
        exact hy2 j (by omega) (by rw [c2, h8])
    refine ⟨hl3, fun c1 => ⟨hl3, fun c2 => ?_, fun c2 => ⟨hl3, fun c3 => ?_, fun c3 => ⟨hl3, ?_⟩⟩⟩, fun c1 => ?_⟩
    · rintro _ rfl
      rw [nI_1]
      exact stay (by simp only [loF]; rw [if_neg]; exact fun z => z.2.1 c2)
    · rintro _ rfl
      rw [nI_1]
      exact stay (by simp only [loF]; rw [if_neg]; exact fun z => (hyc.mp c3) z.2.2)
    · rintro _ rfl _ rfl
      rw [nI_1]
      have z : loF (fun l => (σ.2.2.2 (l + 1)).1.1) (fun l => (σ.2.2.2 (l + 1)).1.2) w d (i + 1) = nI i := by
        simp only [loF]
        rw [if_pos]
        exact ⟨c1, c2, Classical.byContradiction (fun q => c3 (hyc.mpr q))⟩
      have h7 := ih (σ.2.2.2 (i + 1)).1.2
      rw [z] at h7
      exact h7 (fun q => absurd q (hne i (by omega))) (fun j hj hj2 => by rw [(nI_eq (by omega) (by omega)).mp hj2])
    · rintro _ rfl
      rw [nI_1]
      exact stay (by simp only [loF]; rw [if_neg]; exact fun z => c1 z.1)
/-- the class's number of the law in force: 0 none -/
def lwN (x : Int32) : Nat := if x = -1 then 0 else x.toNatClampNeg + 1
theorem lawOnC {σ : CS} {nl : Nat} {w d : Int32} {Post : Nat → CS → Prop} (hl : σ.1 122 = nI nl) (hl2 : σ.2.2.1 = nl + 1) (hn : nl ≤ 8) (hd : ∀ l, l < nl → ¬ (σ.2.2.2 (l + 1)).1.2 < 0) (hp : Post (lwN (loF (fun l => (σ.2.2.2 (l + 1)).1.1) (fun l => (σ.2.2.2 (l + 1)).1.2) w d nl)) σ) : wpC_X6_lawOn σ w d Post := by
  refine inForceC hl hl2 hn hd ?_
  rcases loF_is (fun l => (σ.2.2.2 (l + 1)).1.1) (fun l => (σ.2.2.2 (l + 1)).1.2) w d nl with c | ⟨j, c1, c2⟩
  · rw [c] at hp ⊢
    exact ⟨fun _ => hp, fun z => absurd (by decide) z⟩
  · rw [c2] at hp ⊢
    have h3 : (nI j).toNatClampNeg = j := nI_clamp (by omega)
    have h4 : vp_in (nI j) 8 := vp_in_nI (by omega) (by omega)
    have h5 : ¬ nI j = -1 := fun e => by
      have := nI_toInt (n := j) (by omega)
      rw [e] at this
      have h9 : ((-1 : Int32)).toInt = -1 := by decide
      rw [h9] at this
      omega
    rw [lwN, if_neg h5, h3] at hp
    refine ⟨fun z => absurd z (nI_pos (by omega)), fun _ => ⟨h4, ?_, ?_⟩⟩
    · rintro _ rfl _
      refine ⟨h4, ?_, ?_⟩
      · rintro _ rfl _
        rw [h3]
        exact hp
      · rw [h3]
        exact fun z => absurd (by omega) z
    · rw [h3]
      exact fun z => absurd (by omega) z
