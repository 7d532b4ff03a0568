/-! pure level: bars, the class's side -/
theorem min_any {h : Nat → Bool} {v : Nat → Int32} {top x : Int32} {n : Nat} (hx : x < top) : (¬ x < minF h v top n) ↔ anyF (fun i => h i && decide (¬ x < v i)) n = true := by
  induction n with
  | zero => simp [minF, anyF, hx]
  | succ n ih =>
    simp only [minF, anyF, Bool.or_eq_true, Bool.and_eq_true, decide_eq_true_eq, ← ih]
    grind
theorem isD_nI {a : Int32} (h : isD a) : ∃ k, k ≤ 9999 ∧ a = nI k := by
  have h1 := h.1
  have h2 := h.2
  have c : ¬ a < 0 := by rw [Int32.lt_iff_toInt_lt, i0]; omega
  obtain ⟨k, hk, rfl⟩ := nI_of c
  rw [nI_toInt hk] at h2
  exact ⟨k, by omega, rfl⟩
theorem isD_lt {a : Int32} (h : isD a) : a < 10000 := by
  obtain ⟨k, hk, rfl⟩ := isD_nI h
  exact nI_lt (b := 10000) (by omega) (by omega)
theorem capR_lt {c m e : Int32} (h : capR c m) (he : e < 10000) : e < c ↔ e < m := by
  rcases h with ⟨rfl, rfl⟩ | ⟨rfl, _⟩
  · constructor
    · intro _; grind
    · intro _; exact he
  · exact Iff.rfl
theorem vowedC {σx : CS} {σm : MS} {R : Nat → Nat → Int32} {v a x : Int32} {np nf n : Nat} {Post : Int32 → CS → Prop} (hC : IFac nf np σx σm) (hn : n ≤ nf) (hx : x < 10000) (hP : Post (b2 (vwN σm n a x)) (cJ σx v (nI n) R)) : wpC_X4_vowed (cJ σx v (nI n) R) a x Post := by
  obtain ⟨f1, f2, f3, f4, f5⟩ := hC
  have e : anyF (fun i => decide (σx.2.1 26 i = 1 ∧ σx.2.1 27 i = a) && decide (¬ x < σx.2.1 29 i)) n = vwN σm n a x := by
    rw [f4]
    refine anyF_congr (fun i hi => ?_)
    rw [← Bool.decide_and]
    refine decide_eq_decide.mpr ?_
    have := FaE_fate (a := a) (Or.inr (Or.inl rfl)) (f5 i (by omega))
    rw [this, and_assoc]
  have hm := min_any (h := fun i => decide (σx.2.1 26 i = 1 ∧ σx.2.1 27 i = a)) (v := σx.2.1 29) (n := n) hx
  rw [e] at hm
  refine firstDayC (σ := cJ σx v (nI n) R) (n := n) rfl (by omega) ⟨fun c => ?_, fun c => ?_⟩
  · cases hb : vwN σm n a x with
    | true => exact absurd c (hm.mpr hb)
    | false => rw [hb] at hP; exact hP
  · have : vwN σm n a x = true := hm.mp c
    rw [this] at hP
    exact hP
theorem firstOfBothC {σx : CS} {σm : MS} {R : Nat → Nat → Int32} {v : Int32} {np npr nf n p : Nat} {Post : Int32 → CS → Prop} (hB : IPro npr np σx σm) (hC : IFac nf np σx σm) (hn : n ≤ nf) (hp : p < 10) (hP : ∀ c, capR c (deV σm n p) → Post c (cJ σx v (nI n) R)) : wpC_X4_firstOfBoth (cJ σx v (nI n) R) 0 (nI p) Post := by
  have hv : vp_in (nI p) 10 := vp_in_nI hp (by omega)
  obtain ⟨f1, f2, f3, f4, f5⟩ := hC
  obtain ⟨q1, q2, q3, q4, q5, q6, q7, q8, q9, q10⟩ := hB
  unfold wpC_X4_firstOfBoth
  rw [nI_clamp (by omega)]
  refine ⟨hv, firstDayC (σ := cJ σx v (nI n) R) (n := n) rfl (by omega) ⟨hv, firstDayC (σ := cJ σx v (nI n) R) (n := n) rfl (by omega) ?_⟩⟩
  rintro _ rfl
  refine hP _ ?_
  have := min_cap (h := fun i => decide (σm.2.1 40 i = 0 ∧ (σm.2.1 41 i = σm.2.1 31 p ∨ σm.2.1 41 i = σm.2.1 32 p))) (h1 := fun i => decide (σx.2.1 26 i = 0 ∧ σx.2.1 27 i = σx.2.1 15 p)) (h2 := fun i => decide (σx.2.1 26 i = 0 ∧ σx.2.1 27 i = σx.2.1 16 p)) (v := σx.2.1 29) (n := n) (fun i hi => by
    have d := isD_lt (f5 i (by omega)).1
    have e1 := FaE_fate (a := σx.2.1 15 p) (Or.inl rfl) (f5 i (by omega))
    have e2 := FaE_fate (a := σx.2.1 16 p) (Or.inl rfl) (f5 i (by omega))
    rw [decide_eq_true_eq, decide_eq_true_eq, decide_eq_true_eq, e1, e2, f4, q4, q5, and_iff_left d, ← and_or_left])
  have e : deV σm n p = minF (fun i => decide (σm.2.1 40 i = 0 ∧ (σm.2.1 41 i = σm.2.1 31 p ∨ σm.2.1 41 i = σm.2.1 32 p))) (σx.2.1 29) 1000000 n := by rw [f4]; rfl
  rw [e]
  exact this
theorem ageC {e y : Int32} (he : isD e) (hy : isD y) : (if 0 < e - y then e - y else 0) / 365 = agV y e := by
  obtain ⟨a, ha, rfl⟩ := isD_nI he
  obtain ⟨b, hb, rfl⟩ := isD_nI hy
  rw [agV]
  by_cases c : b ≤ a
  · rw [if_pos (nI_le c (by omega)), pk_sub c]
    by_cases c2 : a - b = 0
    · rw [c2]; decide
    · rw [if_pos (show (0 : Int32) < nI (a - b) from nI_lt (a := 0) (b := a - b) (by omega) (by omega))]
  · rw [if_neg (nI_ge (by omega) (by omega)), if_neg ?_]
    · decide
    · have := pk_sneg (a := a) (b := b) (by omega) (by omega)
      grind
theorem yo_g (a b : Int32) : (if a < b then b else a) = if a ≤ b then b else a := by grind
theorem firstBarC {σx : CS} {σm : MS} {R : Nat → Nat → Int32} {v e : Int32} {np npr nf nl n p : Nat} {Post : Int32 → CS → Prop} (h : BH np npr nf nl σx σm) (hn : n ≤ nf) (hp : p < npr) (he : R 37 p = e) (hd : isD e)
    (hP : ∀ R' v', (∀ j, 36 ≤ j → j ≤ 44 → R' j = R j) → Post (baV σm np nl n p e) (cJ σx v' (nI n) R')) : wpC_X4_firstBar (cJ σx v (nI n) R) (nI p) Post := by
  obtain ⟨hA, hB, hC, hD⟩ := h
  have hp10 : p < 10 := by have := hB.1; omega
  have hn200 : n ≤ 200 := by have := hC.1; omega
  have hv : vp_in (nI p) 10 := vp_in_nI hp10 (by omega)
  have ci : (nI p).toNatClampNeg = p := nI_clamp (by omega)
  obtain ⟨f1, f2, f3, f4, f5⟩ := id hC
  obtain ⟨q1, q2, q3, q4, q5, q6, q7, q8, q9, q10⟩ := id hB
  obtain ⟨a1, a2, a3, a4, a5, a6, a7, a8, a9, a10⟩ := id hA
  obtain ⟨⟨a, ha, ea⟩, ⟨b, hb, eb⟩, hne, _⟩ := q10 p hp
  have e10 : e < 10000 := isD_lt hd
  unfold wpC_X4_firstBar
  rw [ci]
  refine ⟨hv, ?_⟩
  intro y2 e2
  have e2 : y2 = nI a := by rw [e2, ← ea, ← q4]; rfl
  subst e2
  refine ⟨hv, ?_⟩
  intro y4 e4
  have e4 : y4 = nI b := by rw [e4, ← eb, ← q5]; rfl
  subst e4
  refine firstOfBothC hB hC hn hp10 (fun c hc => ?_)
  change vp_in (nI p) 10 ∧ (R 37 p < c → _) ∧ (¬ R 37 p < c → _)
  rw [he]
  have hcl := capR_lt hc e10
  refine ⟨hv, fun q => ?_, fun q => ?_⟩
  · have q' := hcl.mp q
    have hP : ∀ R' v', (∀ j, 36 ≤ j → j ≤ 44 → R' j = R j) → Post (ruV σm (wBV σm np n p e) (loP σm nl p) 1) (cJ σx v' (nI n) R') := by
      rw [baV, if_pos q'] at hP
      exact hP
    have h123 : ∀ r t, EqW r (wvB 0 (dgV (σm.2.1 29) np a b) (b2 (vwN σm n (nI a) e) + b2 (vwN σm n (nI b) e)) 0 0) → t = b2 (anyF (leH σm p e) n) → wpC_X4_firstBar_123 Post (cJ σx v (nI n) (va_up R 32 r)) (nI p) (nI a) (nI b) 8 t := by
      rintro r _ hr rfl
      refine ⟨vp_in_nI (n := 8) (by omega) (by omega), ?_⟩
      rintro _ rfl
      rw [cJ_A _ _ _ _ 32 _ (by omega) (by omega), ci, nI_clamp (show a < 2 ^ 31 by omega), nI_clamp (show b < 2 ^ 31 by omega)]
      have e3 : va_up (va_up R 32 r) 32 (upd ((cJ σx v (nI n) (va_up R 32 r)).2.1 32) (8 : Int32).toNatClampNeg (b2 (anyF (leH σm p e) n))) = va_up R 32 (upd r 8 (b2 (anyF (leH σm p e) n))) := bx_uu _ _ _ _
      rw [e3]
      refine ⟨hv, vp_in_nI (by omega) (by omega), vp_in_nI (by omega) (by omega), ?_⟩
      change ∀ y6 : Int32, y6 = (if σx.2.1 11 a < σx.2.1 11 b then σx.2.1 11 b else σx.2.1 11 a) → ∀ y7 : Int32, y7 = R 37 p - y6 → _
      rw [he, a6]
      rintro _ rfl _ rfl _ rfl
      have ey : (if σm.2.1 28 a < σm.2.1 28 b then σm.2.1 28 b else σm.2.1 28 a) = yoV σm p := by
        rw [yo_g, yoV, ea, eb, nI_clamp (by omega), nI_clamp (by omega)]
      rw [ey, ageC hd (by rw [← ey]; split; exact (a8 b hb).2.2; exact (a8 a ha).2.2)]
      refine ⟨vp_in_nI (n := 5) (by omega) (by omega), ?_⟩
      rintro _ rfl
      refine ⟨hv, vp_in_nI (n := 4) (by omega) (by omega), ?_⟩
      rintro _ rfl
      rw [cJ_A _ _ _ _ 32 _ (by omega) (by omega), cJ_A _ _ _ _ 32 _ (by omega) (by omega)]
      have e5 : ∀ r2 : Nat → Int32, ∀ x : Int32, va_up (va_up (va_up R 32 r2) 32 (upd ((cJ σx v (nI n) (va_up R 32 r2)).2.1 32) (5 : Int32).toNatClampNeg x)) 32 (upd ((cJ σx v (nI n) (va_up (va_up R 32 r2) 32 (upd ((cJ σx v (nI n) (va_up R 32 r2)).2.1 32) (5 : Int32).toNatClampNeg x))).2.1 32) (4 : Int32).toNatClampNeg ((cJ σx v (nI n) (va_up (va_up R 32 r2) 32 (upd ((cJ σx v (nI n) (va_up R 32 r2)).2.1 32) (5 : Int32).toNatClampNeg x))).2.1 19 p)) = va_up R 32 (upd (upd r2 5 x) 4 (σx.2.1 19 p)) := by
        intro r2 x
        rw [bx_uu, bx_uu]
        rfl
      rw [e5]
      have hr2 : EqW (upd (upd (upd r 8 (b2 (anyF (leH σm p e) n))) 5 (agV (yoV σm p) e)) 4 (σx.2.1 19 p)) (wBV σm np n p e) := by
        rw [wBV, ea, eb, nI_clamp (by omega), nI_clamp (by omega), q8]
        exact wvB_4 (wvB_5 (wvB_8 hr))
      revert hr2
      generalize upd (upd (upd r 8 (b2 (anyF (leH σm p e) n))) 5 (agV (yoV σm p) e)) 4 (σx.2.1 19 p) = r3
      intro hr2
      refine lawHoldC (z := 1) hB hD hr2 (by omega) hp10 (fun f g v2 => ?_)
      · have e6 : ruV σm (wBV σm np n p e) (loP σm nl p) (nI 1) = ruV σm (wBV σm np n p e) (loP σm nl p) 1 := rfl
        rw [e6]
        refine hP _ _ (fun j j1 j2 => ?_)
        show (if j = 34 then g else if j = 33 then f else if j = 32 then r3 else R j) = R j
        rw [if_neg (by omega), if_neg (by omega), if_neg (by omega)]
    refine clearC (fun r0 hr0 => ?_)
    rw [cJ_A _ _ _ _ 32 _ (by omega) (by omega)]
    refine degreeC (σ := cJ σx v (nI n) (va_up R 32 r0)) a2 a1 ha hb ⟨vp_in_nI (n := 6) (by omega) (by omega), ?_⟩
    rintro _ rfl
    rw [cJ_A _ _ _ _ 32 _ (by omega) (by omega)]
    have e3 : va_up (va_up R 32 r0) 32 (upd ((cJ σx v (nI n) (va_up R 32 r0)).2.1 32) (6 : Int32).toNatClampNeg (minF (fun _ => true) (fun c => imax ((cJ σx v (nI n) (va_up R 32 r0)).2.1 12 (12 * a + c)) ((cJ σx v (nI n) (va_up R 32 r0)).2.1 12 (12 * b + c))) 99 np)) = va_up R 32 (upd r0 6 (dgV (σm.2.1 29) np a b)) := by
      rw [bx_uu, ← a7]
      rfl
    rw [e3]
    have e37 : ∀ r2 : Nat → Int32, (cJ σx v (nI n) (va_up R 32 r2)).2.1 37 p = e := fun r2 => he
    simp only [e37]
    refine ⟨hv, vowedC hC hn e10 ⟨hv, ?_⟩⟩
    rw [e37]
    refine vowedC hC hn e10 ⟨vp_in_nI (n := 7) (by omega) (by omega), ?_⟩
    rintro _ rfl
    rw [cJ_A _ _ _ _ 32 _ (by omega) (by omega)]
    have e4 : ∀ r2 : Nat → Int32, ∀ x : Int32, va_up (va_up R 32 r2) 32 (upd ((cJ σx v (nI n) (va_up R 32 r2)).2.1 32) (7 : Int32).toNatClampNeg x) = va_up R 32 (upd r2 7 x) := fun r2 x => bx_uu _ _ _ _
    rw [e4]
    have hr1 : EqW (upd (upd r0 6 (dgV (σm.2.1 29) np a b)) 7 (b2 (vwN σm n (nI a) e) + b2 (vwN σm n (nI b) e))) (wvB 0 (dgV (σm.2.1 29) np a b) (b2 (vwN σm n (nI a) e) + b2 (vwN σm n (nI b) e)) 0 0) := by
      refine wvB_7 (v := 0) (wvB_6 (d := 0) (fun j hj => ?_))
      rw [hr0 j hj]
      simp [wvB]
    have eL : anyF (fun i => decide (σx.2.1 26 i = 4 ∧ (σx.2.1 27 i = nI a ∧ σx.2.1 28 i = nI b ∨ σx.2.1 27 i = nI b ∧ σx.2.1 28 i = nI a)) && decide (¬ e < σx.2.1 29 i)) n = anyF (leH σm p e) n := by
      rw [f4]
      refine anyF_congr (fun i hi => ?_)
      rw [← Bool.decide_and, leH, ea, eb]
      refine decide_eq_decide.mpr ?_
      have := FaE_leave (a := nI a) (b := nI b) (f5 i (by omega))
      rw [this, and_assoc]
    have hm := min_any (h := fun i => decide (σx.2.1 26 i = 4 ∧ (σx.2.1 27 i = nI a ∧ σx.2.1 28 i = nI b ∨ σx.2.1 27 i = nI b ∧ σx.2.1 28 i = nI a))) (v := σx.2.1 29) (n := n) e10
    rw [eL] at hm
    refine firstLeaveC (σ := cJ σx v (nI n) _) (n := n) rfl hn200 ?_
    rw [e37]
    refine ⟨hv, fun z => ?_, fun z => ?_⟩
    · refine h123 _ 0 hr1 ?_
      cases hb : anyF (leH σm p e) n with
      | true => exact absurd z (hm.mpr hb)
      | false => rfl
    · refine h123 _ 1 hr1 ?_
      rw [hm.mp z]
      rfl
  · have h := hP R v (fun j _ _ => rfl)
    rw [baV, if_neg (fun z => q (hcl.mpr z))] at h
    exact h
