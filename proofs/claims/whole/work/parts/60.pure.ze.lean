/-! pure level: all judgements, the reference's side -/
def EqR (npr : Nat) (R1 R : Nat → Nat → Int32) : Prop := ∀ j q, 46 ≤ j → j ≤ 56 → q < npr → R1 j q = R j q
def wtH (R : Nat → Nat → Int32) : Nat → Bool := fun k => decide (R 49 k = 0 ∧ ¬ R 46 k = -1 ∧ R 48 k = 1)
def nxV (npr : Nat) (R : Nat → Nat → Int32) : Int32 := dcF (wtH R) (R 47) npr
def jRun (σ : MS) (np npr nl n : Nat) : Nat → (Nat → Nat → Int32) → Nat → Nat → Int32
  | 0, R => R
  | t + 1, R => if nxV npr R = -1 then R else jRun σ np npr nl n t (jStep σ np npr nl n R (nxV npr R).toNatClampNeg)
def R0V (σ : MS) (np nl n : Nat) : Nat → Nat → Int32 := fun j q => if j = 46 then prV σ np nl n q else if j = 47 then efV σ n q else if j = 48 then hwV σ n q else if j = 49 then 0 else if j = 50 then -1 else if j = 51 then -1 else if j = 52 then 1000000 else if j = 53 then 0 else if j = 54 then -1 else 0
def jAll (σ : MS) (np npr nl n : Nat) : Nat → Nat → Int32 := jRun σ np npr nl n npr (R0V σ np nl n)
theorem nxV_congr {npr : Nat} {R1 R : Nat → Nat → Int32} (hn : npr ≤ 10) (h : EqR npr R1 R) : nxV npr R1 = nxV npr R := by
  refine dcF_congr (by omega) (fun i hi => ?_) (fun i hi _ => h 47 i (by omega) (by omega) hi)
  rw [wtH, wtH, h 49 i (by omega) (by omega) hi, h 46 i (by omega) (by omega) hi, h 48 i (by omega) (by omega) hi]
theorem nxV_is {npr : Nat} {R : Nat → Nat → Int32} : nxV npr R = -1 ∨ ∃ k, k < npr ∧ nxV npr R = nI k ∧ wtH R k = true := dcF_is _ _ _
theorem jStep_congr {σ : MS} {np npr nl n k : Nat} {R1 R : Nat → Nat → Int32} (hk : k < npr) (h : EqR npr R1 R) : EqR npr (jStep σ np npr nl n R1 k) (jStep σ np npr nl n R k) := by
  have e47 : R1 47 k = R 47 k := h 47 k (by omega) (by omega) hk
  have erv : ∀ o, o < npr → rvV σ R1 o k = rvV σ R o k := fun o ho => rvV_at (h 56 o (by omega) (by omega) ho) e47 (h 47 o (by omega) (by omega) ho) (h 52 o (by omega) (by omega) ho)
  have evo : voV σ npr nl R1 k = voV σ npr nl R k := fstF_congr _ _ (fun o _ ho => by
    rw [vkH, vkH, erv o (by omega), ovV, ovV, e47, h 47 o (by omega) (by omega) (by omega)])
  intro j q j1 j2 hq
  unfold jStep
  rw [e47, evo, erv q hq, h j q j1 j2 hq]
/-- what holds between two judgements -/
def JI (npr : Nat) (R : Nat → Nat → Int32) : Prop :=
  (∀ p, p < npr → (R 48 p = 0 ∧ R 47 p = 1000000 ∨ (R 48 p = 1 ∨ R 48 p = 2) ∧ isD (R 47 p)) ∧ (R 49 p = 0 → R 50 p = -1 ∧ R 51 p = -1 ∧ R 52 p = 1000000 ∧ R 53 p = 0 ∧ R 56 p = 0) ∧
    (¬ R 49 p = 0 → ¬ R 46 p = -1 ∧ R 48 p = 1 ∧ (R 56 p = 0 ↔ ¬ (R 50 p = -1 ∧ R 51 p = -1))) ∧ (R 52 p = 1000000 ∨ R 52 p < 10000)) ∧
  ∀ p q, p < npr → q < npr → ¬ R 49 p = 0 → R 49 q = 0 → ¬ R 46 q = -1 → R 48 q = 1 → ¬ R 47 q < R 47 p
theorem minF_cap {h : Nat → Bool} {v : Nat → Int32} {n : Nat} (H : ∀ i, i < n → h i = true → v i < 10000) : minF h v 1000000 n = 1000000 ∨ minF h v 1000000 n < 10000 := by
  induction n with
  | zero => exact Or.inl rfl
  | succ n ih =>
    rw [minF]
    split
    · next c => exact Or.inr (H n (by omega) c.1)
    · exact ih (fun i hi => H i (by omega))
theorem en_cap {σ : MS} {nl n p : Nat} {e : Int32} (hd : ∀ i, i < n → isD (σ.2.1 43 i)) : enV σ nl n p e = 1000000 ∨ enV σ nl n p e < 10000 := by
  have h1 : deV σ n p = 1000000 ∨ deV σ n p < 10000 := minF_cap (fun i hi _ => isD_lt (hd i hi))
  have h2 : laV σ nl n p e = 1000000 ∨ laV σ nl n p e < 10000 := by
    rw [laV]
    split
    · exact Or.inl rfl
    · refine minF_cap (fun i hi hh => ?_)
      rw [laH] at hh
      simp only [Bool.and_eq_true, Bool.not_eq_true', Bool.or_eq_false_iff, decide_eq_false_iff_not] at hh
      have := hh.2.1
      generalize laD σ (lpV σ (loP σ nl p)) e i = z at this
      grind
  rw [enV]
  split
  · exact h2
  · exact h1
theorem js_lo {σ : MS} {np npr nl n k j q : Nat} {R : Nat → Nat → Int32} (hj : j < 49) : jStep σ np npr nl n R k j q = R j q := by
  unfold jStep
  simp only [show ¬ j = 49 by omega, show ¬ j = 50 by omega, show ¬ j = 51 by omega, show ¬ j = 52 by omega, show ¬ j = 53 by omega, show ¬ j = 54 by omega, show ¬ j = 55 by omega, show ¬ j = 56 by omega, if_false, ite_self]
theorem js_49 {σ : MS} {np npr nl n k q : Nat} {R : Nat → Nat → Int32} : jStep σ np npr nl n R k 49 q = if q = k then 1 else R 49 q := by
  unfold jStep
  simp
theorem js_50 {σ : MS} {np npr nl n k q : Nat} {R : Nat → Nat → Int32} : jStep σ np npr nl n R k 50 q = if q = k then baV σ np nl n k (R 47 k) else R 50 q := by
  unfold jStep
  simp
theorem js_51 {σ : MS} {np npr nl n k q : Nat} {R : Nat → Nat → Int32} : jStep σ np npr nl n R k 51 q = if q = k then (if baV σ np nl n k (R 47 k) = -1 then voV σ npr nl R k else R 51 q) else R 51 q := by
  unfold jStep
  simp
theorem js_56 {σ : MS} {np npr nl n k q : Nat} {R : Nat → Nat → Int32} : jStep σ np npr nl n R k 56 q = if q = k then (if baV σ np nl n k (R 47 k) = -1 then (if voV σ npr nl R k = -1 then 1 else R 56 q) else R 56 q) else R 56 q := by
  unfold jStep
  simp
theorem js_52 {σ : MS} {np npr nl n k q : Nat} {R : Nat → Nat → Int32} : jStep σ np npr nl n R k 52 q = if q = k then (if baV σ np nl n k (R 47 k) = -1 then (if voV σ npr nl R k = -1 then enV σ nl n k (R 47 k) else R 52 q) else R 52 q) else if baV σ np nl n k (R 47 k) = -1 ∧ voV σ npr nl R k = -1 ∧ rvV σ R q k = true then R 47 k else R 52 q := by
  unfold jStep
  simp
theorem js_53 {σ : MS} {np npr nl n k q : Nat} {R : Nat → Nat → Int32} : jStep σ np npr nl n R k 53 q = if q = k then (if baV σ np nl n k (R 47 k) = -1 then (if voV σ npr nl R k = -1 then ebV σ nl n k (R 47 k) else R 53 q) else R 53 q) else if baV σ np nl n k (R 47 k) = -1 ∧ voV σ npr nl R k = -1 ∧ rvV σ R q k = true then 9 else R 53 q := by
  unfold jStep
  simp
theorem JI_step {σ : MS} {np npr nl n k : Nat} {R : Nat → Nat → Int32} (hd : ∀ i, i < n → isD (σ.2.1 43 i)) (hn : npr ≤ 10) (h : JI npr R) (hk : k < npr) (hx : nxV npr R = nI k) : JI npr (jStep σ np npr nl n R k) := by
  have hw : wtH R k = true := by
    rcases nxV_is (npr := npr) (R := R) with e | ⟨k', hk', e, hw⟩
    · rw [e] at hx
      exact absurd hx.symm (nI_nm1 (by omega))
    · rw [e] at hx
      have := (nI_eq (by omega) (by omega)).mp hx
      rw [← this]
      exact hw
  have hw := of_decide_eq_true hw
  obtain ⟨w1, w2, w3⟩ := hw
  obtain ⟨hp, ho⟩ := h
  obtain ⟨k1, k2, k3, k4⟩ := hp k hk
  have k2 := k2 w1
  have kd : isD (R 47 k) := by
    rcases k1 with q | q
    · rw [w3] at q; exact absurd q.1 (by decide)
    · exact q.2
  have hmin := (dcF_min (h := wtH R) (v := R 47) (n := npr) (by omega)).2 k hk hx
  have hen := en_cap (nl := nl) (p := k) (e := R 47 k) hd
  have hed := isD_lt kd
  refine ⟨fun p hpn => ?_, fun p q hpn hqn => ?_⟩
  · have hpp := hp p hpn
    rw [js_lo (show 48 < 49 by omega), js_lo (show 47 < 49 by omega), js_lo (show 46 < 49 by omega), js_49, js_50, js_51, js_52, js_53, js_56]
    by_cases eq : p = k
    · subst eq
      simp only [if_true]
      refine ⟨k1, fun q => absurd q (by decide), fun _ => ⟨w2, w3, ?_⟩, ?_⟩
      · by_cases c1 : baV σ np nl n p (R 47 p) = -1
        · simp only [c1, if_true, true_and]
          by_cases c2 : voV σ npr nl R p = -1
          · simp only [c2, if_true]; decide
          · simp only [c2, if_false, k2.2.2.2.2]; simp
        · simp only [c1, if_false, k2.2.2.2.2]; simp
      · split
        · split
          · exact hen
          · exact k4
        · exact k4
    · simp only [if_neg eq]
      refine ⟨hpp.1, fun q => ?_, hpp.2.2.1, ?_⟩
      · have hpp2 := hpp.2.1 q
        have nrv : rvV σ R p k = false := by simp [rvV, hpp2.2.2.2.2]
        simp only [nrv]
        simpa using hpp2
      · split
        · exact Or.inr hed
        · exact hpp.2.2.2
  · rw [js_49, js_49, js_lo (show 46 < 49 by omega), js_lo (show 48 < 49 by omega), js_lo (show 47 < 49 by omega), js_lo (show 47 < 49 by omega)]
    intro a1 a2 a3 a4
    by_cases eq : q = k
    · rw [if_pos eq] at a2
      exact absurd a2 (by decide)
    · rw [if_neg eq] at a2
      by_cases ep : p = k
      · have := hmin q hqn (decide_eq_true ⟨a2, a3, a4⟩)
        rw [ep]
        generalize R 47 k = x at this ⊢
        generalize R 47 q = y at this ⊢
        grind
      · rw [if_neg ep] at a1
        exact ho p q hpn hqn a1 a2 a3 a4
theorem ef_isD {σ : MS} {n p : Nat} (hd : ∀ i, i < n → isD (σ.2.1 43 i)) (hn : n ≤ 200) (h34 : isD (σ.2.1 34 p)) : hwV σ n p = 0 ∧ efV σ n p = 1000000 ∨ (hwV σ n p = 1 ∨ hwV σ n p = 2) ∧ isD (efV σ n p) := by
  unfold hwV efV
  by_cases c : σ.2.1 36 p = -1
  · rw [if_pos c, if_pos c]
    exact Or.inr ⟨Or.inl rfl, h34⟩
  · rw [if_neg c, if_neg c]
    by_cases c1 : fiV σ n p = -1
    · rw [if_pos c1, if_pos c1]
      exact Or.inl ⟨rfl, rfl⟩
    · rw [if_neg c1, if_neg c1]
      rcases dcF_is (fun i => decide ((σ.2.1 40 i = 7 ∨ σ.2.1 40 i = 8) ∧ σ.2.1 41 i = σ.2.1 36 p)) (σ.2.1 43) n with e | ⟨j, hj, ej, hh⟩
      · exact absurd e c1
      · have ej : fiV σ n p = nI j := ej
        rw [ej, nI_clamp (by omega)]
        refine Or.inr ⟨?_, ?_⟩
        · split
          · exact Or.inl rfl
          · exact Or.inr rfl
        · split
          · exact h34
          · exact hd j hj
theorem JI_0 {σ : MS} {np npr nl n : Nat} (hd : ∀ i, i < n → isD (σ.2.1 43 i)) (hn : n ≤ 200) (h34 : ∀ p, p < npr → isD (σ.2.1 34 p)) : JI npr (R0V σ np nl n) := by
  refine ⟨fun p hp => ⟨ef_isD hd hn (h34 p hp), fun _ => ⟨rfl, rfl, rfl, rfl, rfl⟩, fun q => absurd rfl q, Or.inl rfl⟩, fun p q hp hq a1 => absurd rfl a1⟩
theorem nextLoopM {σ : MS} {R : Nat → Nat → Int32} {g x2 : Int32} {npr n : Nat} {K : MS → Int32 → Int32 → Prop} {Post : MS → Prop} (h46 : σ.1 46 = nI npr) (h10 : npr ≤ 10) (hN : nxV npr R = -1 → Post (mJ σ g R))
    (hK : ∀ k, k < npr → nxV npr R = nI k → wpM_judges (mJ σ g R) (nI k) (nI n) (fun σ3 => ∀ y4 : Int32, y4 = x2 + 1 → K σ3 (nI n) y4)) :
    ∀ d i, i + d = npr → wpM_judgesAll_121 K Post (d + 1) (mJ σ g R) (nI n) x2 (nxV i R) (nI i) := by
  intro d
  induction d with
  | zero =>
    intro i hi
    obtain rfl : i = npr := by omega
    refine ⟨fun _ => ⟨hN, fun c => ?_⟩, fun c => absurd ?_ c⟩
    · rcases nxV_is (npr := i) (R := R) with e | ⟨k, hk, e, _⟩
      · exact absurd e c
      · rw [e]
        exact hK k hk e
    · show σ.1 46 ≤ nI i
      rw [h46]
      exact Int32.le_refl _
  | succ d ih =>
    intro i hi
    have hvi : vp_in (nI i) 10 := vp_in_nI (by omega) (by omega)
    have cii : (nI i).toNatClampNeg = i := nI_clamp (by omega)
    have ih := ih (i + 1) (by omega)
    have es : nxV (i + 1) R = if wtH R i = true ∧ (nxV i R = -1 ∨ R 47 i < R 47 (nxV i R).toNatClampNeg) then nI i else nxV i R := rfl
    have keep : ¬ (wtH R i = true ∧ (nxV i R = -1 ∨ R 47 i < R 47 (nxV i R).toNatClampNeg)) → ∀ y, y = nI i + 1 → wpM_judgesAll_121 K Post (d + 1) (mJ σ g R) (nI n) x2 (nxV i R) y := by
      rintro q _ rfl
      rw [nI_1]
      rw [es, if_neg q] at ih
      exact ih
    have take : (wtH R i = true ∧ (nxV i R = -1 ∨ R 47 i < R 47 (nxV i R).toNatClampNeg)) → wpM_judgesAll_183 K (fun a0 a1 a2 a3 a4 => wpM_judgesAll_121 K Post (d + 1) a0 a1 a2 a3 a4) Post (mJ σ g R) (nI n) x2 (nI i) := by
      rintro q _ rfl
      rw [nI_1]
      rw [es, if_pos q] at ih
      exact ih
    unfold wpM_judgesAll_121
    rw [cii]
    refine ⟨fun c => ?_, fun _ => ⟨hvi, fun c1 => ⟨hvi, fun c2 => keep (fun q => ?_), fun c2 => ⟨hvi, fun c3 => ⟨fun c4 => take ?_, fun c4 => ⟨hvi, ?_, fun c5 => keep (fun q => ?_), fun c5 => take ?_⟩⟩, fun c3 => keep (fun q => ?_)⟩⟩, fun c1 => keep (fun q => ?_)⟩⟩
    · have c : σ.1 46 ≤ nI i := c
      rw [h46] at c
      exact absurd c (nI_ge (by omega) (by omega))
    · exact (of_decide_eq_true q.1).2.1 c2
    · exact ⟨decide_eq_true ⟨c1, c2, c3⟩, Or.inl c4⟩
    · rcases nxV_is (npr := i) (R := R) with e | ⟨k, hk, e, _⟩
      · exact absurd e c4
      · rw [e]
        exact vp_in_nI (by omega) (by omega)
    · have c5 : R 47 (nxV i R).toNatClampNeg ≤ R 47 i := c5
      rcases q.2 with q | q
      · exact c4 q
      · generalize R 47 (nxV i R).toNatClampNeg = x at c5 q
        generalize R 47 i = y at c5 q
        grind
    · have c5 : ¬ R 47 (nxV i R).toNatClampNeg ≤ R 47 i := c5
      refine ⟨decide_eq_true ⟨c1, c2, c3⟩, Or.inr ?_⟩
      generalize R 47 (nxV i R).toNatClampNeg = x at c5 ⊢
      generalize R 47 i = y at c5 ⊢
      grind
    · exact c3 (of_decide_eq_true q.1).2.2
    · exact c1 (of_decide_eq_true q.1).1
theorem EqR_trans {npr : Nat} {R1 R2 R3 : Nat → Nat → Int32} (h1 : EqR npr R1 R2) (h2 : EqR npr R2 R3) : EqR npr R1 R3 := fun j q j1 j2 hq => (h1 j q j1 j2 hq).trans (h2 j q j1 j2 hq)
theorem turnLoopM {σ : MS} {g : Int32} {np npr nl n : Nat} {Post : MS → Prop} (h : RM np npr nl σ) (hn : n ≤ 200) (hd : ∀ i, i < n → isD (σ.2.1 43 i)) :
    ∀ d t, t + d = npr → ∀ R1 R, EqR npr R1 R → JI npr R → (∀ R2, EqR npr R2 (jRun σ np npr nl n d R) → Post (mJ σ g R2)) → wpM_judgesAll_108 Post (d + 1) (mJ σ g R1) (nI n) (nI t) := by
  have h10 : npr ≤ 10 := h.2.2.2.1
  intro d
  induction d with
  | zero =>
    intro t ht R1 R hE hJ hP
    obtain rfl : t = npr := by omega
    refine ⟨fun _ => hP R1 hE, fun c => absurd ?_ c⟩
    show σ.1 46 ≤ nI t
    rw [h.2.2.1]
    exact Int32.le_refl _
  | succ d ih =>
    intro t ht R1 R hE hJ hP
    have enx := nxV_congr h10 hE
    refine ⟨fun c => ?_, fun _ => ⟨npr + 1, nextLoopM h.2.2.1 h10 (fun e => hP R1 ?_) (fun k hk e => ?_) npr 0 (by omega)⟩⟩
    · have c : σ.1 46 ≤ nI t := c
      rw [h.2.2.1] at c
      exact absurd c (nI_ge (by omega) (by omega))
    · rw [enx] at e
      rw [jRun, if_pos e]
      exact hE
    · rw [enx] at e
      have hw : wtH R k = true := by
        rcases nxV_is (npr := npr) (R := R) with e' | ⟨k', hk', e', hw⟩
        · rw [e'] at e
          exact absurd e.symm (nI_nm1 (by omega))
        · rw [e'] at e
          have := (nI_eq (by omega) (by omega)).mp e
          rw [← this]
          exact hw
      have h51 : R1 51 k = -1 := by
        rw [hE 51 k (by omega) (by omega) hk]
        exact ((hJ.1 k hk).2.1 (of_decide_eq_true hw).1).2.1
      rw [jRun, if_neg (by rw [e]; exact nI_nm1 (by omega)), e, nI_clamp (by omega)] at hP
      refine judgesM h hk hn h51 (fun R3 h3 => ?_)
      rintro _ rfl
      rw [nI_1]
      exact ih (t + 1) (by omega) R3 _ (EqR_trans h3 (jStep_congr hk hE)) (JI_step hd h10 hJ hk e) hP
theorem initLoopM {σ : MS} {g : Int32} {np npr nl n : Nat} {Post : MS → Prop} (h : RM np npr nl σ) (hn : n ≤ 200) (hO : witOK σ np n)
    (hP : ∀ R1, EqR npr R1 (R0V σ np nl n) → ∃ g', wpM_judgesAll_108 Post g' (mJ σ g R1) (nI n) 0) :
    ∀ d i, i + d = npr → ∀ R1, (∀ j q, 46 ≤ j → j ≤ 56 → q < i → R1 j q = R0V σ np nl n j q) → wpM_judgesAll_16 Post (d + 1) (mJ σ g R1) (nI n) (nI i) := by
  have h10 : npr ≤ 10 := h.2.2.2.1
  intro d
  induction d with
  | zero =>
    intro i hi R1 hE
    obtain rfl : i = npr := by omega
    refine ⟨fun _ => hP R1 hE, fun c => absurd ?_ c⟩
    show σ.1 46 ≤ nI i
    rw [h.2.2.1]
    exact Int32.le_refl _
  | succ d ih =>
    intro i hi R1 hE
    have hvi : vp_in (nI i) 10 := vp_in_nI (by omega) (by omega)
    have cii : (nI i).toNatClampNeg = i := nI_clamp (by omega)
    unfold wpM_judgesAll_16
    rw [cii]
    refine ⟨fun c => ?_, fun _ => ?_⟩
    · have c : σ.1 46 ≤ nI i := c
      rw [h.2.2.1] at c
      exact absurd c (nI_ge (by omega) (by omega))
    · refine proofOfM (σ := mJ σ g R1) hn h.1 h.2.1 (by omega) (h.2.2.2.2.2.2.2 i (by omega)).1 (h.2.2.2.2.2.2.2 i (by omega)).2 hO h.2.2.2.2.1 h.2.2.2.2.2.1 h.2.2.2.2.2.2.1 (fun r1 r2 => ⟨hvi, ?_⟩)
      rintro _ rfl
      rw [mJ_A _ _ _ 44 _ (by omega) (by omega), mJ_A _ _ _ 45 _ (by omega) (by omega), mJ_A _ _ _ 46 _ (by omega) (by omega)]
      refine effectsM (σ := mJ σ g _) hn (by omega) ⟨hvi, ?_⟩
      rintro _ rfl
      refine ⟨hvi, ?_⟩
      rintro _ rfl
      refine ⟨hvi, ?_⟩
      rintro _ rfl
      refine ⟨hvi, ?_⟩
      rintro _ rfl
      refine ⟨hvi, ?_⟩
      rintro _ rfl
      refine ⟨hvi, ?_⟩
      rintro _ rfl
      refine ⟨hvi, ?_⟩
      rintro _ rfl
      refine ⟨hvi, ?_⟩
      rintro _ rfl _ rfl
      rw [mJ_A _ _ _ 47 _ (by omega) (by omega), mJ_A _ _ _ 48 _ (by omega) (by omega), mJ_A _ _ _ 49 _ (by omega) (by omega), mJ_A _ _ _ 56 _ (by omega) (by omega), mJ_A _ _ _ 50 _ (by omega) (by omega), mJ_A _ _ _ 51 _ (by omega) (by omega), mJ_A _ _ _ 52 _ (by omega) (by omega), mJ_A _ _ _ 53 _ (by omega) (by omega), mJ_A _ _ _ 54 _ (by omega) (by omega), mJ_A _ _ _ 55 _ (by omega) (by omega), nI_1, nar0]
      refine ih (i + 1) (by omega) _ (fun j q j1 j2 hq => ?_)
      have hjq : ∀ x, (¬ q = i → R1 j q = x) → (q = i → R0V σ np nl n j i = x) → R0V σ np nl n j q = x := by
        intro x a1 a2
        by_cases eq : q = i
        · rw [eq]; exact a2 eq
        · rw [← hE j q j1 j2 (by omega)]; exact a1 eq
      rcases (show j = 46 ∨ j = 47 ∨ j = 48 ∨ j = 49 ∨ j = 50 ∨ j = 51 ∨ j = 52 ∨ j = 53 ∨ j = 54 ∨ j = 55 ∨ j = 56 by omega) with rfl | rfl | rfl | rfl | rfl | rfl | rfl | rfl | rfl | rfl | rfl
      · exact (hjq (upd (R1 46) i (prV σ np nl n i) q) (fun e => (pk_un e).symm) (fun e => by rw [e, pk_us]; rfl)).symm
      · exact (hjq (upd (R1 47) i (efV σ n i) q) (fun e => (pk_un e).symm) (fun e => by rw [e, pk_us]; rfl)).symm
      · exact (hjq (upd (R1 48) i (hwV σ n i) q) (fun e => (pk_un e).symm) (fun e => by rw [e, pk_us]; rfl)).symm
      · exact (hjq (upd (R1 49) i 0 q) (fun e => (pk_un e).symm) (fun e => by rw [e, pk_us]; rfl)).symm
      · exact (hjq (upd (R1 50) i (-1) q) (fun e => (pk_un e).symm) (fun e => by rw [e, pk_us]; rfl)).symm
      · exact (hjq (upd (R1 51) i (-1) q) (fun e => (pk_un e).symm) (fun e => by rw [e, pk_us]; rfl)).symm
      · exact (hjq (upd (R1 52) i 1000000 q) (fun e => (pk_un e).symm) (fun e => by rw [e, pk_us]; rfl)).symm
      · exact (hjq (upd (R1 53) i 0 q) (fun e => (pk_un e).symm) (fun e => by rw [e, pk_us]; rfl)).symm
      · exact (hjq (upd (R1 54) i (-1) q) (fun e => (pk_un e).symm) (fun e => by rw [e, pk_us]; rfl)).symm
      · exact (hjq (upd (R1 55) i 0 q) (fun e => (pk_un e).symm) (fun e => by rw [e, pk_us]; rfl)).symm
      · exact (hjq (upd (R1 56) i 0 q) (fun e => (pk_un e).symm) (fun e => by rw [e, pk_us]; rfl)).symm
theorem mJ_self (σ : MS) : mJ σ (σ.1 64) σ.2.1 = σ := by
  rw [← mJ_0]
  have : va_up σ.1 64 (σ.1 64) = σ.1 := by
    funext k
    show (if k = 64 then σ.1 64 else σ.1 k) = σ.1 k
    by_cases e : k = 64
    · rw [if_pos e, e]
    · rw [if_neg e]
  show (va_up σ.1 64 (σ.1 64), σ.2) = σ
  rw [this]
theorem judgesAllM {σ : MS} {np npr nl n : Nat} {Post : MS → Prop} (h : RM np npr nl σ) (hn : n ≤ 200) (hO : witOK σ np n) (hd : ∀ i, i < n → isD (σ.2.1 43 i)) (h34 : ∀ p, p < npr → isD (σ.2.1 34 p)) (hG : σ.1 64 = nI n → EqR npr σ.2.1 (jAll σ np npr nl n))
    (hP : ∀ R, EqR npr R (jAll σ np npr nl n) → Post (mJ σ (nI n) R)) : wpM_judgesAll σ (nI n) Post := by
  refine ⟨fun c => ?_, fun c => ?_⟩
  · have := hP σ.2.1 (hG c)
    rw [← c, mJ_self] at this
    exact this
  · rintro _ rfl
    rw [mJ_0]
    exact ⟨npr + 1, initLoopM h hn hO (fun R1 h1 => ⟨npr + 1, turnLoopM h hn hd npr 0 (by omega) R1 _ h1 (JI_0 hd hn h34) hP⟩) npr 0 (by omega) σ.2.1 (fun j q _ _ hq => absurd hq (by omega))⟩
