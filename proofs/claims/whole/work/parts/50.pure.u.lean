/-! pure level: proofs, the reference's side -/
def wv0 (t : Int32) : Nat → Int32 := fun j => if j = 4 then t else 0
theorem nothingM {σ : MS} {k : Nat} {Post : MS → Prop} (hk : k < 10) (hp : ∀ r, EqW r (wv0 (σ.2.1 35 k)) → Post (mA σ 44 r)) : wpM_nothing σ (nI k) Post := by
  suffices h : ∀ d i, i + d = 12 → ∀ r, (∀ j, j < i → r j = 0) → wpM_nothing_2 Post (d + 1) (mA σ 44 r) (nI k) (nI i) by
    refine ⟨13, ?_⟩
    have := h 12 0 (by omega) (σ.2.1 44) (fun j hj => absurd hj (by omega))
    rw [mA_self] at this
    exact this
  intro d
  induction d with
  | zero =>
    intro i hi r hr
    obtain rfl : i = 12 := by omega
    refine ⟨fun _ => ⟨vp_in_nI (by omega) (by omega), vp_in_nI (n := 4) (by omega) (by omega), ?_⟩, fun z => absurd (by decide) z⟩
    rintro _ rfl
    rw [mA_same, nI_clamp (by omega)]
    refine hp _ (fun j hj => ?_)
    show (if j = 4 then σ.2.1 35 k else r j) = if j = 4 then σ.2.1 35 k else 0
    by_cases e : j = 4
    · rw [if_pos e, if_pos e]
    · rw [if_neg e, if_neg e]
      exact hr j hj
  | succ d ih =>
    intro i hi r hr
    refine ⟨fun z => absurd z (nI_ge (b := 12) (by omega) (by omega)), fun _ => ⟨vp_in_nI (by omega) (by omega), ?_⟩⟩
    rintro _ rfl _ rfl
    rw [mA_same, nI_clamp (by omega), nI_1]
    refine ih (i + 1) (by omega) _ (fun j hj => ?_)
    show (if j = i then 0 else r j) = 0
    by_cases e : j = i
    · rw [if_pos e]
    · rw [if_neg e]
      exact hr j (by omega)
def dgV (up : Nat → Int32) (n a b : Nat) : Int32 := minF (fun _ => true) (fun c => imax (up (12 * a + c)) (up (12 * b + c))) 99 n
def wvP (a b c d t : Int32) : Nat → Int32 := fun j => if j = 0 then a else if j = 1 then b else if j = 2 then c else if j = 3 then d else if j = 4 then t else 0
/-- the last word of a witness -/
def sdV (σ : MS) (n p w : Nat) : Int32 := lsF (fun i => decide ((σ.2.1 40 i = 4 ∨ σ.2.1 40 i = 5) ∧ σ.2.1 41 i = nI w ∧ σ.2.1 42 i = nI p)) n
def kinV (σ : MS) (np p w : Nat) : Bool := decide (dgV (σ.2.1 29) np w (σ.2.1 31 p).toNatClampNeg ≤ 4) || decide (dgV (σ.2.1 29) np w (σ.2.1 32 p).toNatClampNeg ≤ 4)
def yesH (σ : MS) (np n p : Nat) : Nat → Bool := fun w => decide (¬ sdV σ n p w = -1 ∧ σ.2.1 40 (sdV σ n p w).toNatClampNeg = 4) && ! (decide (w < 100) && kinV σ np p w)
def noH (σ : MS) (np n p : Nat) : Nat → Bool := fun w => decide (¬ sdV σ n p w = -1 ∧ ¬ σ.2.1 40 (sdV σ n p w).toNatClampNeg = 4) && ! (decide (w < 100) && kinV σ np p w)
def kinH (σ : MS) (np n p : Nat) : Nat → Bool := fun w => decide (¬ sdV σ n p w = -1 ∧ σ.2.1 40 (sdV σ n p w).toNatClampNeg = 4) && (decide (w < 100) && kinV σ np p w)
def famH (σ : MS) (p : Nat) : Nat → Bool := fun i => decide (σ.2.1 40 i = 6 ∧ σ.2.1 41 i = nI p)
def wPV (σ : MS) (np n p : Nat) : Nat → Int32 := wvP (cntF (yesH σ np n p) 120) (cntF (noH σ np n p) 120) (cntF (kinH σ np n p) 120) (cntF (famH σ p) n) (σ.2.1 35 p)
theorem isKinM {σ : MS} {np p w : Nat} {Post : Int32 → MS → Prop} (hn : σ.1 40 = nI np) (hnp : np ≤ 12) (hp : p < 10) (hw : w < np) (h1 : isN (σ.2.1 31 p) np) (h2 : isN (σ.2.1 32 p) np) (hP : Post (b2 (kinV σ np p w)) σ) : wpM_isKin σ (nI p) (nI w) Post := by
  have hv : vp_in (nI p) 10 := vp_in_nI hp (by omega)
  obtain ⟨a, ha, ea⟩ := h1
  obtain ⟨b, hb, eb⟩ := h2
  unfold wpM_isKin
  rw [nI_clamp (by omega), ea]
  rw [kinV, ea, eb, nI_clamp (by omega), nI_clamp (by omega)] at hP
  refine ⟨hv, degreeM hn hnp hw ha ⟨fun c => ?_, fun c => ⟨hv, ?_⟩⟩⟩
  · have c : dgV (σ.2.1 29) np w a ≤ 4 := c
    rw [decide_eq_true c] at hP
    exact hP
  · have c : ¬ dgV (σ.2.1 29) np w a ≤ 4 := c
    rw [decide_eq_false c] at hP
    rw [eb]
    refine degreeM hn hnp hw hb ⟨fun c2 => ?_, fun c2 => ?_⟩
    · have c2 : ¬ dgV (σ.2.1 29) np w b ≤ 4 := by
        have c2 : 4 < dgV (σ.2.1 29) np w b := c2
        grind
      rw [decide_eq_false c2] at hP
      exact hP
    · have c2 : dgV (σ.2.1 29) np w b ≤ 4 := by
        have c2 : ¬ 4 < dgV (σ.2.1 29) np w b := c2
        grind
      rw [decide_eq_true c2] at hP
      exact hP
theorem lsF_is (h : Nat → Bool) (n : Nat) : lsF h n = -1 ∨ ∃ j, j < n ∧ lsF h n = nI j ∧ h j = true := by
  induction n with
  | zero => exact Or.inl rfl
  | succ n ih =>
    rw [lsF]
    split
    · next c => exact Or.inr ⟨n, by omega, rfl, c⟩
    · rcases ih with e | ⟨j, h1, h2, h3⟩
      · exact Or.inl e
      · exact Or.inr ⟨j, by omega, h2, h3⟩
/-- what is known of the facts: a witness below 100 is a person -/
def witOK (σ : MS) (np n : Nat) : Prop := ∀ i w, i < n → (σ.2.1 40 i = 4 ∨ σ.2.1 40 i = 5) → σ.2.1 41 i = nI w → w < 100 → w < np
theorem cntF_s (h : Nat → Bool) (n : Nat) : cntF h (n + 1) = if h n = true then cntF h n + 1 else cntF h n := rfl
theorem proofWordM {K : MS → Int32 → Int32 → Int32 → Prop} {σ : MS} {np n p w : Nat} {Post : Int32 → MS → Prop} {r : Nat → Int32} (hn : n ≤ 200) (hnn : σ.1 40 = nI np) (hnp : np ≤ 12) (hp : p < 10) (hw : w < 120) (h1 : isN (σ.2.1 31 p) np) (h2 : isN (σ.2.1 32 p) np) (hO : witOK σ np n)
    (hr : EqW r (wvP (cntF (yesH σ np n p) w) (cntF (noH σ np n p) w) (cntF (kinH σ np n p) w) 0 (σ.2.1 35 p)))
    (hK : ∀ r, EqW r (wvP (cntF (yesH σ np n p) (w + 1)) (cntF (noH σ np n p) (w + 1)) (cntF (kinH σ np n p) (w + 1)) 0 (σ.2.1 35 p)) → K (mA σ 44 r) (nI p) (nI n) (nI (w + 1))) :
    ∃ g, wpM_proofOf_19 K Post g (mA σ 44 r) (nI p) (nI n) (nI w) (-1) 0 := by
  suffices h : ∀ d i, i + d = n → wpM_proofOf_19 K Post (d + 1) (mA σ 44 r) (nI p) (nI n) (nI w) (sdV σ i p w) (nI i) from ⟨n + 1, h n 0 (by omega)⟩
  intro d
  induction d with
  | zero =>
    intro i hi
    obtain rfl : i = n := by omega
    refine ⟨fun _ => ⟨fun c => ?_, fun c => ?_⟩, fun z => absurd (Int32.le_refl _) z⟩
    · rintro _ rfl
      rw [nI_1]
      refine hK r ?_
      rw [cntF_s, cntF_s, cntF_s, if_neg (by simp [yesH, c]), if_neg (by simp [noH, c]), if_neg (by simp [kinH, c])]
      exact hr
    · have hl := lsF_is (fun j => decide ((σ.2.1 40 j = 4 ∨ σ.2.1 40 j = 5) ∧ σ.2.1 41 j = nI w ∧ σ.2.1 42 j = nI p)) i
      rcases hl with hl | ⟨j, hj, ej, hh⟩
      · exact absurd hl c
      · have ej' : sdV σ i p w = nI j := ej
        simp only [decide_eq_true_eq] at hh
        have hwp : w < 100 → w < np := hO j w hj hh.1 hh.2.1
        have hv : vp_in (sdV σ i p w) 200 := by rw [ej']; exact vp_in_nI (by omega) (by omega)
        have e40 : (mA σ 44 r).2.1 40 (sdV σ i p w).toNatClampNeg = σ.2.1 40 (sdV σ i p w).toNatClampNeg := rfl
        rw [e40]
        have h143 : ∀ t : Int32, (t = 0 ∨ t = 1) → (t = 1 ↔ σ.2.1 40 (sdV σ i p w).toNatClampNeg = 4) → (decide (w < 100) && kinV σ np p w) = false → wpM_proofOf_143 K Post (mA σ 44 r) (nI p) (nI i) (nI w) t := by
          intro t ht h4 hk
          refine ⟨fun c0 => ⟨vp_in_nI (n := 1) (by omega) (by omega), vp_in_nI (n := 1) (by omega) (by omega), ?_⟩, fun c0 => ⟨vp_in_nI (n := 0) (by omega) (by omega), vp_in_nI (n := 0) (by omega) (by omega), ?_⟩⟩
          · have n4 : ¬ σ.2.1 40 (sdV σ i p w).toNatClampNeg = 4 := fun y => absurd ((h4.mpr y).symm.trans c0) (by decide)
            rintro _ rfl _ rfl
            rw [mA_same, nI_1]
            refine hK _ (fun j2 hj2 => ?_)
            rw [cntF_s, cntF_s, cntF_s, if_neg (by simp [yesH, n4]), if_pos (by simp only [noH, hk, n4, c]; simp), if_neg (by simp [kinH, n4])]
            have := hr j2 hj2
            have h1' := hr 1 (by omega)
            show (if j2 = 1 then r 1 + 1 else r j2) = _
            rw [this, h1']
            by_cases e1 : j2 = 1
            · subst e1; rfl
            · rw [if_neg e1]
              simp only [wvP, if_neg e1]
          · have t1 : t = 1 := by rcases ht with e | e
                                  · exact absurd e c0
                                  · exact e
            have n4 := h4.mp t1
            rintro _ rfl _ rfl
            rw [mA_same, nI_1]
            refine hK _ (fun j2 hj2 => ?_)
            rw [cntF_s, cntF_s, cntF_s, if_pos (by simp only [yesH, hk, n4, c]; simp), if_neg (by simp [noH, n4]), if_neg (by simp only [kinH, hk]; simp)]
            have := hr j2 hj2
            have h1' := hr 0 (by omega)
            show (if j2 = 0 then r 0 + 1 else r j2) = _
            rw [this, h1']
            by_cases e1 : j2 = 0
            · subst e1; rfl
            · rw [if_neg e1]
              simp only [wvP, if_neg e1]
        have h104 : ∀ t : Int32, (t = 0 ∨ t = 1) → (t = 1 ↔ σ.2.1 40 (sdV σ i p w).toNatClampNeg = 4) → wpM_proofOf_104 K Post (mA σ 44 r) (nI p) (nI i) (nI w) t := by
          intro t ht h4
          refine ⟨fun c1 => h143 t ht h4 ?_, fun c1 => ?_⟩
          · have : ¬ w < 100 := fun y => absurd c1 (nI_ge (b := 100) y (by omega))
            simp [this]
          · have w1 : w < 100 := Classical.byContradiction (fun y => c1 (nI_le (a := 100) (by omega) (by omega)))
            refine isKinM (σ := mA σ 44 r) hnn hnp hp (hwp w1) h1 h2 ?_
            have ek : kinV (mA σ 44 r) np p w = kinV σ np p w := rfl
            rw [ek]
            refine ⟨fun c2 => h143 t ht h4 (by rw [(b2_0 _).mp c2]; simp), fun c2 => ⟨vp_in_nI (n := 2) (by omega) (by omega), fun c3 => ?_, fun c3 => ?_⟩⟩
            · have kt : kinV σ np p w = true := by
                cases hh : kinV σ np p w with
                | true => rfl
                | false => rw [hh] at c2; exact absurd rfl c2
              have n4 : ¬ σ.2.1 40 (sdV σ i p w).toNatClampNeg = 4 := fun y => absurd ((h4.mpr y).symm.trans c3) (by decide)
              refine ⟨vp_in_nI (n := 2) (by omega) (by omega), ?_⟩
              rintro _ rfl _ rfl
              rw [mA_same, nI_1]
              refine hK _ (fun j2 hj2 => ?_)
              rw [cntF_s, cntF_s, cntF_s, if_neg (by simp [yesH, n4]), if_neg (by simp [noH, kt, w1]), if_neg (by simp [kinH, n4])]
              have := hr j2 hj2
              have h1' := hr 2 (by omega)
              show (if j2 = 2 then r 2 + 0 else r j2) = _
              rw [this, h1']
              by_cases e1 : j2 = 2
              · subst e1
                rw [if_pos rfl]
                exact Int32.add_zero _
              · rw [if_neg e1]
            · have kt : kinV σ np p w = true := by
                cases hh : kinV σ np p w with
                | true => rfl
                | false => rw [hh] at c2; exact absurd rfl c2
              have t1 : t = 1 := by rcases ht with e | e
                                    · exact absurd e c3
                                    · exact e
              have n4 := h4.mp t1
              refine ⟨vp_in_nI (n := 2) (by omega) (by omega), ?_⟩
              rintro _ rfl _ rfl
              rw [mA_same, nI_1]
              refine hK _ (fun j2 hj2 => ?_)
              rw [cntF_s, cntF_s, cntF_s, if_neg (by simp [yesH, kt, w1]), if_neg (by simp [noH, n4]), if_pos (by simp [kinH, n4, kt, w1, c])]
              have := hr j2 hj2
              have h1' := hr 2 (by omega)
              show (if j2 = 2 then r 2 + 1 else r j2) = _
              rw [this, h1']
              by_cases e1 : j2 = 2
              · subst e1; rfl
              · rw [if_neg e1]
                simp only [wvP, if_neg e1]
        exact ⟨hv, fun c4 => h104 1 (Or.inr rfl) ⟨fun _ => c4, fun _ => rfl⟩, fun c4 => h104 0 (Or.inl rfl) ⟨fun y => absurd y (by decide), fun y => absurd y c4⟩⟩
  | succ d ih =>
    intro i hi
    replace ih := ih (i + 1) (by omega)
    have hv : vp_in (nI i) 200 := vp_in_nI (by omega) (by omega)
    have es : sdV σ (i + 1) p w = if ((σ.2.1 40 i = 4 ∨ σ.2.1 40 i = 5) ∧ σ.2.1 41 i = nI w ∧ σ.2.1 42 i = nI p) then nI i else sdV σ i p w := by
      rw [sdV, lsF, sdV]
      simp only [decide_eq_true_eq]
    rw [es] at ih
    unfold wpM_proofOf_19 wpM_proofOf_47
    rw [nI_clamp (by omega)]
    have e40 : (mA σ 44 r).2.1 40 i = σ.2.1 40 i := rfl
    have e41 : (mA σ 44 r).2.1 41 i = σ.2.1 41 i := rfl
    have e42 : (mA σ 44 r).2.1 42 i = σ.2.1 42 i := rfl
    rw [e40, e41, e42]
    simp only [forall_eq, nI_1]
    have hc : ¬ nI n ≤ nI i := nI_ge (by omega) (by omega)
    have h47 : (σ.2.1 40 i = 4 ∨ σ.2.1 40 i = 5) → vp_in (nI i) 200 ∧ (σ.2.1 41 i = nI w → vp_in (nI i) 200 ∧ (σ.2.1 42 i = nI p → wpM_proofOf_19 K Post (d + 1) (mA σ 44 r) (nI p) (nI n) (nI w) (nI i) (nI (i + 1))) ∧ (¬ σ.2.1 42 i = nI p → wpM_proofOf_19 K Post (d + 1) (mA σ 44 r) (nI p) (nI n) (nI w) (sdV σ i p w) (nI (i + 1)))) ∧ (¬ σ.2.1 41 i = nI w → wpM_proofOf_19 K Post (d + 1) (mA σ 44 r) (nI p) (nI n) (nI w) (sdV σ i p w) (nI (i + 1))) := by
      intro c
      refine ⟨hv, fun c1 => ⟨hv, fun c2 => ?_, fun c2 => ?_⟩, fun c1 => ?_⟩
      · rw [if_pos ⟨c, c1, c2⟩] at ih; exact ih
      · rw [if_neg (fun y => c2 y.2.2)] at ih; exact ih
      · rw [if_neg (fun y => c1 y.2.1)] at ih; exact ih
    refine ⟨fun y => absurd y hc, fun _ => ⟨hv, fun c => h47 (Or.inl c), fun c => ⟨hv, fun c1 => h47 (Or.inr c1), fun c1 => ?_⟩⟩⟩
    rw [if_neg (fun y => y.1.elim c c1)] at ih
    exact ih
