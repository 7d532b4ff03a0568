/-! pure level: the class hears all -/
theorem nextWaitC {σx : CS} {σm : MS} {R R' : Nat → Nat → Int32} {v kn : Int32} {np npr : Nat} {Post : Int32 → CS → Prop} (hB : IPro npr np σx σm) (hJ : JI npr R) (hE : EqC npr R' (cR R)) (hP : Post (nxV npr R) (cJ σx v kn R')) : wpC_X4_nextWaiting (cJ σx v kn R') Post := by
  have h10 := hB.1
  have hw : ∀ i, i < npr → (R' 38 i = -1 ↔ wtH R i = true) := by
    intro i hi
    rw [hE 38 i (by omega) (by omega) hi, wtH, decide_eq_true_eq]
    show vdR R i = -1 ↔ _
    obtain ⟨j1, j2, j3, j4⟩ := hJ.1 i hi
    unfold vdR
    by_cases c0 : R 46 i = -1
    · rw [if_pos c0]; exact ⟨fun z => absurd z (by decide), fun z => absurd c0 z.2.1⟩
    · rw [if_neg c0]
      rcases j1 with ⟨a, _⟩ | ⟨a | a, _⟩
      · rw [if_pos a, a]; exact ⟨fun z => absurd z (by decide), fun z => absurd z.2.2 (by decide)⟩
      · rw [a, if_neg (by decide), if_neg (by decide)]
        by_cases c1 : R 49 i = 0
        · rw [if_pos c1]; exact ⟨fun _ => ⟨c1, c0, rfl⟩, fun _ => rfl⟩
        · rw [if_neg c1]
          refine ⟨fun z => ?_, fun z => absurd z.1 c1⟩
          split at z
          · exact absurd z (by decide)
          · split at z <;> exact absurd z (by decide)
      · rw [a, if_neg (by decide), if_pos rfl]; exact ⟨fun z => absurd z (by decide), fun z => absurd z.2.2 (by decide)⟩
  have hv : ∀ i, i < npr → wtH R i = true → R' 37 i = R 47 i := by
    intro i hi hh
    rw [hE 37 i (by omega) (by omega) hi]
    have hh := of_decide_eq_true hh
    rcases (hJ.1 i hi).1 with z | z
    · rw [z.1] at hh; exact absurd hh.2.2 (by decide)
    · exact capV_d z.2
  suffices h : ∀ d i, i + d = npr → wpC_X4_nextWaiting_4 Post (d + 1) (cJ σx v kn R') (nxV i R) (nI i) from ⟨npr + 1, h npr 0 (by omega)⟩
  intro d
  induction d with
  | zero =>
    intro i hi
    obtain rfl : i = npr := by omega
    refine ⟨fun _ => hP, fun c => absurd ?_ c⟩
    show σx.1 286 ≤ nI i
    rw [hB.2.1]
    exact Int32.le_refl _
  | succ d ih =>
    intro i hi
    have hin : i < npr := by omega
    have hvi : vp_in (nI i) 10 := vp_in_nI (by omega) (by omega)
    have cii : (nI i).toNatClampNeg = i := nI_clamp (by omega)
    have ih := ih (i + 1) (by omega)
    have es : nxV (i + 1) R = if wtH R i = true ∧ (nxV i R = -1 ∨ R 47 i < R 47 (nxV i R).toNatClampNeg) then nI i else nxV i R := rfl
    have keep : ¬ (wtH R i = true ∧ (nxV i R = -1 ∨ R 47 i < R 47 (nxV i R).toNatClampNeg)) → ∀ y, y = nI i + 1 → wpC_X4_nextWaiting_4 Post (d + 1) (cJ σx v kn R') (nxV i R) y := by
      rintro q _ rfl
      rw [nI_1]
      rw [es, if_neg q] at ih
      exact ih
    have take : (wtH R i = true ∧ (nxV i R = -1 ∨ R 47 i < R 47 (nxV i R).toNatClampNeg)) → wpC_X4_nextWaiting_45 (fun a0 a1 a2 => wpC_X4_nextWaiting_4 Post (d + 1) a0 a1 a2) Post (cJ σx v kn R') (nI i) := by
      rintro q _ rfl
      rw [nI_1]
      rw [es, if_pos q] at ih
      exact ih
    unfold wpC_X4_nextWaiting_4
    rw [cii]
    refine ⟨fun c => ?_, fun _ => ⟨hvi, fun c1 => ⟨fun c4 => take ?_, fun c4 => ⟨hvi, ?_, fun c5 => keep (fun q => ?_), fun c5 => take ?_⟩⟩, fun c1 => keep (fun q => ?_)⟩⟩
    · have c : σx.1 286 ≤ nI i := c
      rw [hB.2.1] at c
      exact absurd c (nI_ge (by omega) (by omega))
    · exact ⟨(hw i hin).mp c1, Or.inl c4⟩
    · rcases nxV_is (npr := i) (R := R) with e | ⟨k, hk, e, _⟩
      · exact absurd e c4
      · rw [e]
        exact vp_in_nI (by omega) (by omega)
    · have c1 := (hw i hin).mp c1
      have c5 : R' 37 (nxV i R).toNatClampNeg ≤ R' 37 i := c5
      rcases nxV_is (npr := i) (R := R) with e | ⟨k, hk, e, hk2⟩
      · exact c4 e
      · rcases q.2 with q | q
        · exact c4 q
        · rw [e, nI_clamp (by omega)] at c5 q
          rw [hv i hin c1, hv k (by omega) hk2] at c5
          generalize R 47 k = x at c5 q
          generalize R 47 i = y at c5 q
          grind
    · have c1 := (hw i hin).mp c1
      have c5 : ¬ R' 37 (nxV i R).toNatClampNeg ≤ R' 37 i := c5
      rcases nxV_is (npr := i) (R := R) with e | ⟨k, hk, e, hk2⟩
      · exact absurd e c4
      · refine ⟨c1, Or.inr ?_⟩
        rw [e, nI_clamp (by omega)] at c5 ⊢
        rw [hv i hin c1, hv k (by omega) hk2] at c5
        generalize R 47 k = x at c5 ⊢
        generalize R 47 i = y at c5 ⊢
        grind
    · exact c1 ((hw i hin).mpr q.1)
theorem hearTurnC {σx : CS} {σm : MS} {np npr nf nl n : Nat} {Post : CS → Prop} (h : BH np npr nf nl σx σm) (hn : n ≤ nf) :
    ∀ d t, t + d = npr → ∀ R1 R v, EqC npr R1 (cR R) → JI npr R → (∀ R2 v2, EqC npr R2 (cR (jRun σm np npr nl n d R)) → Post (cJ σx v2 (nI n) R2)) → wpC_X4_hear_34 Post (d + 1) (cJ σx v (nI n) R1) (nI t) := by
  have hB := h.2.1
  have h10 := hB.1
  have hd : ∀ i, i < n → isD (σm.2.1 43 i) := fun i hi => (h.2.2.1.2.2.2.2 i (by omega)).1
  intro d
  induction d with
  | zero =>
    intro t ht R1 R v hE hJ hP
    obtain rfl : t = npr := by omega
    refine ⟨fun _ => hP R1 v hE, fun c => absurd ?_ c⟩
    show σx.1 286 ≤ nI t
    rw [hB.2.1]
    exact Int32.le_refl _
  | succ d ih =>
    intro t ht R1 R v hE hJ hP
    refine ⟨fun c => ?_, fun _ => nextWaitC hB hJ hE ⟨fun e => hP R1 v ?_, fun c => ?_⟩⟩
    · have c : σx.1 286 ≤ nI t := c
      rw [hB.2.1] at c
      exact absurd c (nI_ge (by omega) (by omega))
    · rw [jRun, if_pos e]
      exact hE
    · rcases nxV_is (npr := npr) (R := R) with e | ⟨k, hk, e, hw⟩
      · exact absurd e c
      · rw [jRun, if_neg c, e, nI_clamp (by omega)] at hP
        rw [e]
        have hw := of_decide_eq_true hw
        have hD : isD (R 47 k) := by
          rcases (hJ.1 k hk).1 with z | z
          · rw [z.1] at hw; exact absurd hw.2.2 (by decide)
          · exact z.2
        refine settleC h hn ⟨hJ, hk, hw.1, hw.2.1, hw.2.2, hD⟩ hE (fun R2 v2 h2 => ?_)
        rintro _ rfl
        rw [nI_1]
        exact ih (t + 1) (by omega) R2 _ v2 h2 (JI_step hd h10 hJ hk e) hP
theorem ce_cap {σ : MS} {n p : Nat} (hd : ∀ i, i < n → isD (σ.2.1 43 i)) (hn : n ≤ 200) (h34 : isD (σ.2.1 34 p)) : ceV σ n p = capV (efV σ n p) := by
  unfold ceV
  rcases ef_isD (p := p) hd hn h34 with ⟨a, b⟩ | ⟨a, b⟩
  · rw [if_pos a, b]; rfl
  · rw [if_neg (by rcases a with a | a <;> rw [a] <;> decide), capV_d b]
theorem hearC {σx : CS} {σm : MS} {np npr nf nl n : Nat} {Post : CS → Prop} (h : BH np npr nf nl σx σm) (hn : n ≤ nf) (hP : ∀ R v, EqC npr R (cR (jAll σm np npr nl n)) → Post (cJ σx v (nI n) R)) : wpC_X4_hear σx (nI n) Post := by
  have hB := h.2.1
  have hC := h.2.2.1
  have h10 := hB.1
  have hn200 : n ≤ 200 := by have := hC.1; omega
  have hd : ∀ i, i < n → isD (σm.2.1 43 i) := fun i hi => (hC.2.2.2.2 i (by omega)).1
  have h34 : ∀ p, p < npr → isD (σm.2.1 34 p) := fun p hp => (hB.2.2.2.2.2.2.2.2.2 p hp).2.2.2
  suffices hh : ∀ d i, i + d = npr → ∀ R1 v, (∀ j q, 36 ≤ j → j ≤ 44 → q < i → R1 j q = cR (R0V σm np nl n) j q) → wpC_X4_hear_10 Post (d + 1) (cJ σx v (nI n) R1) (nI i) by
    intro y1 e1 y2 e2 σ3 e3
    have e1 : y1 = nI n := by
      rw [e1, hC.2.1]
      by_cases c : nf = n
      · rw [c]; split <;> rfl
      · rw [if_neg (nI_nlt (by omega) (by have := hC.1; omega))]
    have e2 : y2 = nI n := by
      rw [e2, e1]
      by_cases c : n = 0
      · rw [c]; rfl
      · rw [if_pos (show (0 : Int32) < nI n from nI_lt (a := 0) (b := n) (by omega) (by omega))]
    rw [e3, e2, cJ_0]
    exact ⟨npr + 1, hh npr 0 (by omega) _ _ (fun j q _ _ hq => absurd hq (by omega))⟩
  intro d
  induction d with
  | zero =>
    intro i hi R1 v hE
    obtain rfl : i = npr := by omega
    refine ⟨fun _ => ⟨i + 1, hearTurnC h hn i 0 (by omega) R1 _ v hE (JI_0 hd hn200 h34) hP⟩, fun c => absurd ?_ c⟩
    show σx.1 286 ≤ nI i
    rw [hB.2.1]
    exact Int32.le_refl _
  | succ d ih =>
    intro i hi R1 v hE
    refine ⟨fun c => ?_, fun _ => prepareC h hn (by omega) (fun R2 v2 h2 => ?_)⟩
    · have c : σx.1 286 ≤ nI i := c
      rw [hB.2.1] at c
      exact absurd c (nI_ge (by omega) (by omega))
    · rintro _ rfl
      rw [nI_1]
      refine ih (i + 1) (by omega) R2 v2 (fun j q j1 j2 hq => ?_)
      rw [h2 j q j1 j2]
      by_cases eq : q = i
      · rw [if_pos eq]
        subst eq
        rcases (show j = 36 ∨ j = 37 ∨ j = 38 ∨ j = 39 ∨ j = 40 ∨ j = 41 ∨ j = 42 ∨ j = 43 ∨ j = 44 by omega) with rfl | rfl | rfl | rfl | rfl | rfl | rfl | rfl | rfl
        · rfl
        · show ceV σm n q = capV (efV σm n q)
          exact ce_cap hd hn200 (h34 q (by omega))
        · show (if prV σm np nl n q = -1 then 0 else vwV σm n q) = if prV σm np nl n q = -1 then 0 else if hwV σm n q = 0 then 2 else if hwV σm n q = 2 then 3 else -1
          rfl
        · rfl
        · rfl
        · rfl
        · rfl
        · rfl
        · rfl
      · rw [if_neg eq]
        exact hE j q j1 j2 (by omega)
