/-! pure level: how it ends, both sides -/
def laD (σ : MS) (m e : Int32) : Nat → Int32 := fun i => if σ.2.1 43 i + m ≤ e then e else σ.2.1 43 i + m
def laH (σ : MS) (n p : Nat) (m e : Int32) : Nat → Bool := fun i => decide (σ.2.1 40 i = 2 ∧ (σ.2.1 41 i = σ.2.1 31 p ∨ σ.2.1 41 i = σ.2.1 32 p)) && ! (decide (¬ laD σ m e i ≤ 9999) || anyF (fun j => decide (σ.2.1 40 j = 3 ∧ σ.2.1 41 j = σ.2.1 41 i ∧ ¬ σ.2.1 43 j < σ.2.1 43 i ∧ ¬ laD σ m e i < σ.2.1 43 j)) n)
/-- the day of lapse -/
def laV (σ : MS) (nl n p : Nat) (e : Int32) : Int32 := if lpV σ (loP σ nl p) = -1 then 1000000 else minF (laH σ n p (lpV σ (loP σ nl p)) e) (laD σ (lpV σ (loP σ nl p)) e) 1000000 n
def enV (σ : MS) (nl n p : Nat) (e : Int32) : Int32 := if laV σ nl n p e < deV σ n p then laV σ nl n p e else deV σ n p
def ebV (σ : MS) (nl n p : Nat) (e : Int32) : Int32 := if enV σ nl n p e = 1000000 then 0 else if laV σ nl n p e < deV σ n p then 8 else 7
theorem lapseAllM {σ : MS} {R : Nat → Nat → Int32} {g e : Int32} {nl n p : Nat} {Post : Int32 → MS → Prop} (hn : n ≤ 200) (hp : p < 10) (hl : σ.1 18 = nI nl) (hnl : nl ≤ 8) (hR : ∀ l, l < nl → LwM σ l) (he : R 47 p = e) (hP : Post (laV σ nl n p e) (mJ σ g R)) : wpM_lapseOf (mJ σ g R) (nI p) (nI n) Post := by
  refine lapseOfM (σ := mJ σ g R) hl hnl hp hR ?_
  change wpM_lapseOf_70 Post (mJ σ g R) (nI p) (nI n) (lpV σ (loP σ nl p))
  refine ⟨fun c => ?_, fun c => ?_⟩
  · rw [laV, if_pos c] at hP
    exact hP
  · rw [laV, if_neg c] at hP
    refine lapseOutM (σ := mJ σ g R) hp hn ?_
    rw [← he] at hP
    exact hP
theorem lap_H {σx : CS} {σm : MS} {np npr nf n p i : Nat} {m e : Int32} (hB : IPro npr np σx σm) (hC : IFac nf np σx σm) (hn : n ≤ nf) (hi : i < n) :
    laH σm n p m e i = true ↔ ((decide (σx.2.1 26 i = 2 ∧ σx.2.1 27 i = σx.2.1 15 p) && ! anyF (fun j => decide (σx.2.1 26 j = 3 ∧ σx.2.1 27 j = σx.2.1 15 p ∧ ¬ σx.2.1 29 j < σx.2.1 29 i ∧ ¬ imax e (σx.2.1 29 i + m) < σx.2.1 29 j)) n) = true ∨
      (decide (σx.2.1 26 i = 2 ∧ σx.2.1 27 i = σx.2.1 16 p) && ! anyF (fun j => decide (σx.2.1 26 j = 3 ∧ σx.2.1 27 j = σx.2.1 16 p ∧ ¬ σx.2.1 29 j < σx.2.1 29 i ∧ ¬ imax e (σx.2.1 29 i + m) < σx.2.1 29 j)) n) = true) ∧ imax e (σx.2.1 29 i + m) < 10000 := by
  obtain ⟨f1, f2, f3, f4, f5⟩ := hC
  obtain ⟨q1, q2, q3, q4, q5, q6, q7, q8, q9, q10⟩ := hB
  have eD : laD σm m e i = imax e (σm.2.1 43 i + m) := (ef_g e (σm.2.1 43 i + m)).symm
  have eA : ∀ a, anyF (fun j => decide (σx.2.1 26 j = 3 ∧ σx.2.1 27 j = a ∧ ¬ σm.2.1 43 j < σm.2.1 43 i ∧ ¬ imax e (σm.2.1 43 i + m) < σm.2.1 43 j)) n = anyF (fun j => decide (σm.2.1 40 j = 3 ∧ σm.2.1 41 j = a ∧ ¬ σm.2.1 43 j < σm.2.1 43 i ∧ ¬ imax e (σm.2.1 43 i + m) < σm.2.1 43 j)) n := by
    intro a
    refine anyF_congr (fun j hj => decide_eq_decide.mpr ?_)
    have := FaE_fate (a := a) (Or.inr (Or.inr (Or.inr rfl))) (f5 j (by omega))
    rw [← and_assoc, this, and_assoc]
  have e1 := FaE_fate (a := σx.2.1 15 p) (Or.inr (Or.inr (Or.inl rfl))) (f5 i (by omega))
  have e2 := FaE_fate (a := σx.2.1 16 p) (Or.inr (Or.inr (Or.inl rfl))) (f5 i (by omega))
  rw [f4, eA, eA, laH, eD, ← q4, ← q5]
  simp only [Bool.and_eq_true, Bool.not_eq_true', decide_eq_true_eq, Bool.or_eq_false_iff, decide_eq_false_iff_not, e1, e2]
  have g9 : ¬ ¬ imax e (σm.2.1 43 i + m) ≤ 9999 ↔ imax e (σm.2.1 43 i + m) < 10000 := by
    generalize imax e (σm.2.1 43 i + m) = z
    constructor <;> intro h <;> grind
  rw [g9]
  generalize imax e (σm.2.1 43 i + m) = z
  constructor
  · rintro ⟨⟨c1, c2 | c2⟩, c3, c4⟩
    · rw [c2] at c4
      exact ⟨Or.inl ⟨⟨c1, c2⟩, c4⟩, c3⟩
    · rw [c2] at c4
      exact ⟨Or.inr ⟨⟨c1, c2⟩, c4⟩, c3⟩
  · rintro ⟨⟨⟨c1, c2⟩, c4⟩ | ⟨⟨c1, c2⟩, c4⟩, c3⟩
    · rw [← c2] at c4
      exact ⟨⟨c1, Or.inl c2⟩, c3, c4⟩
    · rw [← c2] at c4
      exact ⟨⟨c1, Or.inr c2⟩, c3, c4⟩
def capV (x : Int32) : Int32 := if x = 1000000 then 10000 else x
theorem capR_V {c m : Int32} (h : capR c m) : c = capV m ∧ (m = 1000000 ∨ m < 10000) := by
  rcases h with ⟨rfl, rfl⟩ | ⟨rfl, h⟩
  · exact ⟨rfl, Or.inl rfl⟩
  · refine ⟨?_, Or.inr h⟩
    rw [capV, if_neg]
    rintro rfl
    exact absurd h (by decide)
theorem end_g {c y d l : Int32} (hc : capR c d) (hy : capR y l) :
    (10000 ≤ c → (10000 ≤ y → capV (if l < d then l else d) = 10000 ∧ (if (if l < d then l else d) = 1000000 then (0 : Int32) else if l < d then 8 else 7) = 0) ∧ (¬ 10000 ≤ y → capV (if l < d then l else d) = y ∧ (if (if l < d then l else d) = 1000000 then (0 : Int32) else if l < d then 8 else 7) = 8)) ∧
    (¬ 10000 ≤ c → (c ≤ y → capV (if l < d then l else d) = c ∧ (if (if l < d then l else d) = 1000000 then (0 : Int32) else if l < d then 8 else 7) = 7) ∧ (¬ c ≤ y → capV (if l < d then l else d) = y ∧ (if (if l < d then l else d) = 1000000 then (0 : Int32) else if l < d then 8 else 7) = 8)) := by
  simp only [capR, capV] at *
  grind
theorem lapseC {σx : CS} {σm : MS} {np npr nf n p : Nat} {m e : Int32} (hB : IPro npr np σx σm) (hC : IFac nf np σx σm) (hn : n ≤ nf) :
    capR (imin (minF (fun i => decide (σx.2.1 26 i = 2 ∧ σx.2.1 27 i = σx.2.1 15 p) && ! anyF (fun j => decide (σx.2.1 26 j = 3 ∧ σx.2.1 27 j = σx.2.1 15 p ∧ ¬ σx.2.1 29 j < σx.2.1 29 i ∧ ¬ imax e (σx.2.1 29 i + m) < σx.2.1 29 j)) n) (fun i => imax e (σx.2.1 29 i + m)) 10000 n)
      (minF (fun i => decide (σx.2.1 26 i = 2 ∧ σx.2.1 27 i = σx.2.1 16 p) && ! anyF (fun j => decide (σx.2.1 26 j = 3 ∧ σx.2.1 27 j = σx.2.1 16 p ∧ ¬ σx.2.1 29 j < σx.2.1 29 i ∧ ¬ imax e (σx.2.1 29 i + m) < σx.2.1 29 j)) n) (fun i => imax e (σx.2.1 29 i + m)) 10000 n)) (minF (laH σm n p m e) (laD σm m e) 1000000 n) := by
  have eD : laD σm m e = fun i => imax e (σx.2.1 29 i + m) := by
    rw [hC.2.2.2.1]
    funext i
    exact (ef_g e (σm.2.1 43 i + m)).symm
  rw [eD]
  exact min_cap (fun i hi => lap_H hB hC hn hi)
theorem findEndC {σx : CS} {σm : MS} {R : Nat → Nat → Int32} {v e : Int32} {np npr nf nl n p : Nat} {Post : CS → Prop} (h : BH np npr nf nl σx σm) (hn : n ≤ nf) (hp : p < npr) (he : R 37 p = e) (h41 : R 41 p = 10000) (h42 : R 42 p = 0)
    (hP : ∀ R' v', (∀ j q, 36 ≤ j → j ≤ 44 → R' j q = if q = p then (if j = 41 then capV (enV σm nl n p e) else if j = 42 then ebV σm nl n p e else R j q) else R j q) → Post (cJ σx v' (nI n) R')) : wpC_X4_findEnd (cJ σx v (nI n) R) (nI p) Post := by
  obtain ⟨hA, hB, hC, hD⟩ := h
  have hp10 : p < 10 := by have := hB.1; omega
  have hn200 : n ≤ 200 := by have := hC.1; omega
  have hv : vp_in (nI p) 10 := vp_in_nI hp10 (by omega)
  have ci : (nI p).toNatClampNeg = p := nI_clamp (by omega)
  -- behind the death: the lapse
  have h29 : ∀ (R1 : Nat → Nat → Int32) (Post1 : CS → Prop), R1 37 p = e → (∀ y, capR y (laV σm nl n p e) → (R1 41 p ≤ y → Post1 (cJ σx v (nI n) R1)) ∧ (¬ R1 41 p ≤ y → Post1 (cJ σx v (nI n) (va_up (va_up R1 41 (upd (R1 41) p y)) 42 (upd (R1 42) p 8))))) → (R1 41 p ≤ 10000) → wpC_X4_findEnd_29 Post1 (cJ σx v (nI n) R1) (nI p) := by
    intro R1 Post1 h37 hQ hle
    refine ⟨hv, hv, ?_⟩
    rw [ci]
    refine lawOnE (σx := cJ σx v (nI n) R1) (σm := σm) (nl := nl) hD ⟨?_, lapseDaysE (σx := cJ σx v (nI n) R1) (σm := σm) hD ?_⟩
    · show _ < σx.2.2.1
      rw [hD.2.2.2.1]
      exact lwN_lt hD.1
    · have hlo : lpV σm (loF (σm.2.1 8) (σm.2.1 9) ((cJ σx v (nI n) R1).2.1 17 p) ((cJ σx v (nI n) R1).2.1 18 p) nl) = lpV σm (loP σm nl p) := by
        show lpV σm (loF (σm.2.1 8) (σm.2.1 9) (σx.2.1 17 p) (σx.2.1 18 p) nl) = _
        rw [hB.2.2.2.2.2.1, hB.2.2.2.2.2.2.1]
        rfl
      rw [hlo]
      refine ⟨fun c => ?_, fun c => ⟨hv, hv, ?_⟩⟩
      · have hy : capR 10000 (laV σm nl n p e) := by
          rw [laV, if_pos c]
          exact Or.inl ⟨rfl, rfl⟩
        exact (hQ 10000 hy).1 hle
      · refine firstLapseC (σ := cJ σx v (nI n) R1) (n := n) rfl hn200 ⟨hv, hv, firstLapseC (σ := cJ σx v (nI n) R1) (n := n) rfl hn200 ?_⟩
        have hL := lapseC (p := p) (m := lpV σm (loP σm nl p)) (e := R1 37 p) hB hC hn
        intro y ey
        have hy0 : capR y (minF (laH σm n p (lpV σm (loP σm nl p)) (R1 37 p)) (laD σm (lpV σm (loP σm nl p)) (R1 37 p)) 1000000 n) := by
          rw [ey]
          exact hL
        have hy : capR y (laV σm nl n p e) := by
          rw [laV, if_neg c, ← h37]
          exact hy0
        have h2 := hQ y hy
        refine ⟨hv, fun c2 => h2.1 c2, fun c2 => ⟨hv, ?_⟩⟩
        rintro _ rfl
        refine ⟨hv, ?_⟩
        rintro _ rfl
        rw [cJ_A _ _ _ _ 41 _ (by omega) (by omega), cJ_A _ _ _ _ 42 _ (by omega) (by omega)]
        exact h2.2 c2
  refine firstOfBothC hB hC hn hp10 (fun c hc => ⟨fun c1 => ?_, fun c1 => ⟨hv, ?_⟩⟩)
  · refine h29 R Post he (fun y hy => ⟨fun c2 => ?_, fun c2 => ?_⟩) (by rw [h41]; exact Int32.le_refl _)
    · rw [h41] at c2
      have hg := ((end_g hc hy).1 c1).1 c2
      refine hP R v (fun j q j1 j2 => ?_)
      by_cases eq : q = p
      · subst eq
        rw [if_pos rfl]
        by_cases e1 : j = 41
        · subst e1
          rw [if_pos rfl, h41]
          exact hg.1.symm
        · rw [if_neg e1]
          by_cases e2 : j = 42
          · subst e2
            rw [if_pos rfl, h42]
            exact hg.2.symm
          · rw [if_neg e2]
      · rw [if_neg eq]
    · rw [h41] at c2
      have hg := ((end_g hc hy).1 c1).2 c2
      refine hP _ v (fun j q j1 j2 => ?_)
      show (if j = 42 then upd (R 42) p 8 else if j = 41 then upd (R 41) p y else R j) q = _
      by_cases e2 : j = 42
      · subst e2
        rw [if_pos rfl, upd_at]
        by_cases eq : q = p
        · rw [if_pos eq, if_pos eq, if_neg (by decide), if_pos rfl]
          exact hg.2.symm
        · rw [if_neg eq, if_neg eq]
      · rw [if_neg e2]
        by_cases e1 : j = 41
        · subst e1
          rw [if_pos rfl, upd_at]
          by_cases eq : q = p
          · rw [if_pos eq, if_pos eq, if_pos rfl]
            exact hg.1.symm
          · rw [if_neg eq, if_neg eq]
        · rw [if_neg e1, if_neg e1, if_neg e2, ite_self]
  · rintro _ rfl
    refine ⟨hv, ?_⟩
    rintro _ rfl
    rw [ci, cJ_A _ _ _ _ 41 _ (by omega) (by omega), cJ_A _ _ _ _ 42 _ (by omega) (by omega)]
    have hle : upd (R 41) p c p ≤ 10000 := by
      rw [pk_us]
      generalize c = z at c1
      grind
    refine h29 _ Post he (fun y hy => ⟨fun c2 => ?_, fun c2 => ?_⟩) hle
    · have c2 : upd (R 41) p c p ≤ y := c2
      rw [pk_us] at c2
      have hg := ((end_g hc hy).2 c1).1 c2
      refine hP _ v (fun j q j1 j2 => ?_)
      show (if j = 42 then upd (R 42) p 7 else if j = 41 then upd (R 41) p c else R j) q = _
      by_cases e2 : j = 42
      · subst e2
        rw [if_pos rfl, upd_at]
        by_cases eq : q = p
        · rw [if_pos eq, if_pos eq, if_neg (by decide), if_pos rfl]
          exact hg.2.symm
        · rw [if_neg eq, if_neg eq]
      · rw [if_neg e2]
        by_cases e1 : j = 41
        · subst e1
          rw [if_pos rfl, upd_at]
          by_cases eq : q = p
          · rw [if_pos eq, if_pos eq, if_pos rfl]
            exact hg.1.symm
          · rw [if_neg eq, if_neg eq]
        · rw [if_neg e1, if_neg e1, if_neg e2, ite_self]
    · have c2 : ¬ upd (R 41) p c p ≤ y := c2
      rw [pk_us] at c2
      have hg := ((end_g hc hy).2 c1).2 c2
      refine hP _ v (fun j q j1 j2 => ?_)
      show (if j = 42 then upd (upd (R 42) p 7) p 8 else if j = 41 then upd (upd (R 41) p c) p y else if j = 42 then upd (R 42) p 7 else if j = 41 then upd (R 41) p c else R j) q = _
      rw [upd_upd, upd_upd]
      by_cases e2 : j = 42
      · subst e2
        rw [if_pos rfl, upd_at]
        by_cases eq : q = p
        · rw [if_pos eq, if_pos eq, if_neg (by decide), if_pos rfl]
          exact hg.2.symm
        · rw [if_neg eq, if_neg eq]
      · rw [if_neg e2]
        by_cases e1 : j = 41
        · subst e1
          rw [if_pos rfl, upd_at]
          by_cases eq : q = p
          · rw [if_pos eq, if_pos eq, if_pos rfl]
            exact hg.1.symm
          · rw [if_neg eq, if_neg eq]
        · rw [if_neg e1, if_neg e2, if_neg e1, if_neg e1, if_neg e2, ite_self]
