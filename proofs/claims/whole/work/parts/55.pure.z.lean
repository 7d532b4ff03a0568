/-! pure level: bars, the reference's side -/
def mJ (σ : MS) (g : Int32) (R : Nat → Nat → Int32) : MS := (va_up σ.1 64 g, (fun j => if 44 ≤ j ∧ j ≤ 56 then R j else σ.2.1 j), σ.2.2)
theorem mJ_A (σ : MS) (g : Int32) (R : Nat → Nat → Int32) (j : Nat) (f : Nat → Int32) (h1 : 44 ≤ j) (h2 : j ≤ 56) : mA (mJ σ g R) j f = mJ σ g (va_up R j f) := by
  have : va_up (fun i => if 44 ≤ i ∧ i ≤ 56 then R i else σ.2.1 i) j f = (fun i => if 44 ≤ i ∧ i ≤ 56 then va_up R j f i else σ.2.1 i) := by
    funext i
    show (if i = j then f else if 44 ≤ i ∧ i ≤ 56 then R i else σ.2.1 i) = if 44 ≤ i ∧ i ≤ 56 then (if i = j then f else R i) else σ.2.1 i
    by_cases e : i = j
    · rw [if_pos e, if_pos (by omega), if_pos e]
    · rw [if_neg e, if_neg e]
  show (_, va_up (fun i => if 44 ≤ i ∧ i ≤ 56 then R i else σ.2.1 i) j f, _) = _
  rw [this]
  rfl
theorem mJ_0 (σ : MS) (g : Int32) : mF σ 64 g = mJ σ g σ.2.1 := by
  have h2 : (fun j => if 44 ≤ j ∧ j ≤ 56 then σ.2.1 j else σ.2.1 j) = σ.2.1 := by
    funext j
    split <;> rfl
  show _ = (va_up σ.1 64 g, (fun j => if 44 ≤ j ∧ j ≤ 56 then σ.2.1 j else σ.2.1 j), σ.2.2)
  rw [h2]
  rfl
theorem va_self (R : Nat → Nat → Int32) (j : Nat) : va_up R j (R j) = R := by
  funext k
  show (if k = j then R j else R k) = R k
  by_cases e : k = j
  · rw [if_pos e, e]
  · rw [if_neg e]
/-- the day of death -/
def deV (σ : MS) (n p : Nat) : Int32 := minF (fun i => decide (σ.2.1 40 i = 0 ∧ (σ.2.1 41 i = σ.2.1 31 p ∨ σ.2.1 41 i = σ.2.1 32 p))) (σ.2.1 43) 1000000 n
def vwN (σ : MS) (n : Nat) (a x : Int32) : Bool := anyF (fun j => decide (σ.2.1 40 j = 1 ∧ σ.2.1 41 j = a ∧ ¬ x < σ.2.1 43 j)) n
def leH (σ : MS) (p : Nat) (x : Int32) : Nat → Bool := fun i => decide (σ.2.1 40 i = 9 ∧ (σ.2.1 41 i = σ.2.1 31 p ∧ σ.2.1 42 i = σ.2.1 32 p ∨ σ.2.1 41 i = σ.2.1 32 p ∧ σ.2.1 42 i = σ.2.1 31 p) ∧ ¬ x < σ.2.1 43 i)
def yoV (σ : MS) (p : Nat) : Int32 := if σ.2.1 28 (σ.2.1 31 p).toNatClampNeg ≤ σ.2.1 28 (σ.2.1 32 p).toNatClampNeg then σ.2.1 28 (σ.2.1 32 p).toNatClampNeg else σ.2.1 28 (σ.2.1 31 p).toNatClampNeg
def agV (y e : Int32) : Int32 := if y ≤ e then (e - y) / 365 else 0
def wvB (a d v l t : Int32) : Nat → Int32 := fun j => if j = 5 then a else if j = 6 then d else if j = 7 then v else if j = 8 then l else if j = 4 then t else 0
def wBV (σ : MS) (np n p : Nat) (e : Int32) : Nat → Int32 := wvB (agV (yoV σ p) e) (dgV (σ.2.1 29) np (σ.2.1 31 p).toNatClampNeg (σ.2.1 32 p).toNatClampNeg) (b2 (vwN σ n (σ.2.1 31 p) e) + b2 (vwN σ n (σ.2.1 32 p) e)) (b2 (anyF (leH σ p e) n)) (σ.2.1 35 p)
def baV (σ : MS) (np nl n p : Nat) (e : Int32) : Int32 := if e < deV σ n p then ruV σ (wBV σ np n p e) (loP σ nl p) 1 else -2
theorem wvB_5 {r : Nat → Int32} {a d v l t x : Int32} (h : EqW r (wvB a d v l t)) : EqW (upd r 5 x) (wvB x d v l t) := by
  intro j hj
  show (if j = 5 then x else r j) = _
  rw [h j hj]
  by_cases e : j = 5
  · subst e; rfl
  · rw [if_neg e]; simp only [wvB, if_neg e]
theorem wvB_6 {r : Nat → Int32} {a d v l t x : Int32} (h : EqW r (wvB a d v l t)) : EqW (upd r 6 x) (wvB a x v l t) := by
  intro j hj
  show (if j = 6 then x else r j) = _
  rw [h j hj]
  by_cases e : j = 6
  · subst e; rfl
  · rw [if_neg e]; simp only [wvB, if_neg e]
theorem wvB_7 {r : Nat → Int32} {a d v l t x : Int32} (h : EqW r (wvB a d v l t)) : EqW (upd r 7 x) (wvB a d x l t) := by
  intro j hj
  show (if j = 7 then x else r j) = _
  rw [h j hj]
  by_cases e : j = 7
  · subst e; rfl
  · rw [if_neg e]; simp only [wvB, if_neg e]
theorem wvB_8 {r : Nat → Int32} {a d v l t x : Int32} (h : EqW r (wvB a d v l t)) : EqW (upd r 8 x) (wvB a d v x t) := by
  intro j hj
  show (if j = 8 then x else r j) = _
  rw [h j hj]
  by_cases e : j = 8
  · subst e; rfl
  · rw [if_neg e]; simp only [wvB, if_neg e]
theorem wvB_4 {r : Nat → Int32} {a d v l t x : Int32} (h : EqW r (wvB a d v l t)) : EqW (upd r 4 x) (wvB a d v l x) := by
  intro j hj
  show (if j = 4 then x else r j) = _
  rw [h j hj]
  by_cases e : j = 4
  · subst e; rfl
  · rw [if_neg e]; simp only [wvB, if_neg e]
theorem vowsB {σ : MS} {n : Nat} {Post : Int32 → MS → Prop} {a x : Int32} (hn : n ≤ 200) (h : Post (b2 (vwN σ n a x)) σ) : wpM_vows σ a x (nI n) Post := by
  refine vowsM hn (fun c => ?_) (fun c => ?_)
  · have c : vwN σ n a x = true := c
    rw [c] at h; exact h
  · have c : vwN σ n a x = false := c
    rw [c] at h; exact h
theorem barOfM {σ : MS} {R : Nat → Nat → Int32} {g e : Int32} {np nl n p : Nat} {Post : Int32 → MS → Prop} (hn : n ≤ 200) (hnn : σ.1 40 = nI np) (hnp : np ≤ 12) (hp : p < 10) (h1 : isN (σ.2.1 31 p) np) (h2 : isN (σ.2.1 32 p) np)
    (hl : σ.1 18 = nI nl) (hnl : nl ≤ 8) (hR : ∀ l, l < nl → LwM σ l) (he : R 47 p = e) (hP : ∀ a b, Post (baV σ np nl n p e) (mJ σ g (va_up (va_up R 44 a) 45 b))) : wpM_barOf (mJ σ g R) (nI p) (nI n) Post := by
  have hv : vp_in (nI p) 10 := vp_in_nI hp (by omega)
  have ci : (nI p).toNatClampNeg = p := nI_clamp (by omega)
  obtain ⟨a, ha, ea⟩ := h1
  obtain ⟨b, hb, eb⟩ := h2
  have ca : (σ.2.1 31 p).toNatClampNeg = a := by rw [ea, nI_clamp (by omega)]
  have cb : (σ.2.1 32 p).toNatClampNeg = b := by rw [eb, nI_clamp (by omega)]
  have va : vp_in (σ.2.1 31 p) 12 := by rw [ea]; exact vp_in_nI (by omega) (by omega)
  have vb : vp_in (σ.2.1 32 p) 12 := by rw [eb]; exact vp_in_nI (by omega) (by omega)
  refine fateM (σ := mJ σ g R) hp hn ?_
  rw [ci]
  change vp_in (nI p) 10 ∧ (R 47 p < deV σ n p → _) ∧ (¬ R 47 p < deV σ n p → _)
  rw [he]
  refine ⟨hv, fun c => ?_, fun c => ?_⟩
  · have hP : ∀ a b, Post (ruV σ (wBV σ np n p e) (loP σ nl p) 1) (mJ σ g (va_up (va_up R 44 a) 45 b)) := by
      rw [baV, if_pos c] at hP
      exact hP
    have hloop : ∀ d i, i + d = n → ∀ r, EqW r (wvB (agV (yoV σ p) e) (dgV (σ.2.1 29) np (σ.2.1 31 p).toNatClampNeg (σ.2.1 32 p).toNatClampNeg) (b2 (vwN σ n (σ.2.1 31 p) e) + b2 (vwN σ n (σ.2.1 32 p) e)) (b2 (anyF (leH σ p e) i)) (σ.2.1 35 p)) → wpM_barOf_175 Post (d + 1) (mJ σ g (va_up R 44 r)) (nI p) (nI n) (nI i) := by
      intro d
      induction d with
      | zero =>
        intro i hi r hr
        obtain rfl : i = n := by omega
        refine ⟨fun _ => ?_, fun y => absurd (Int32.le_refl _) y⟩
        refine ruleOfM (σ := mJ σ g (va_up R 44 r)) hl hnl hp (by decide) hR (fun r2 => ?_)
        have e1 : ruV (mJ σ g (va_up R 44 r)) ((mJ σ g (va_up R 44 r)).2.1 44) (loF ((mJ σ g (va_up R 44 r)).2.1 8) ((mJ σ g (va_up R 44 r)).2.1 9) ((mJ σ g (va_up R 44 r)).2.1 33 p) ((mJ σ g (va_up R 44 r)).2.1 34 p) nl) 1 = ruV σ (wBV σ np i p e) (loP σ nl p) 1 := ruV_congr (σ := σ) (w := r) (w' := wBV σ np i p e) hr hnl (by decide) hR
        rw [e1, mJ_A _ _ _ 45 _ (by omega) (by omega)]
        exact hP r r2
      | succ d ih =>
        intro i hi r hr
        have hvi : vp_in (nI i) 200 := vp_in_nI (by omega) (by omega)
        have cii : (nI i).toNatClampNeg = i := nI_clamp (by omega)
        have no : ¬ leH σ p e i = true → ∀ y, y = nI i + 1 → wpM_barOf_175 Post (d + 1) (mJ σ g (va_up R 44 r)) (nI p) (nI n) y := by
          rintro q _ rfl
          rw [nI_1]
          refine ih (i + 1) (by omega) r ?_
          have e2 : anyF (leH σ p e) (i + 1) = anyF (leH σ p e) i := by
            rw [anyF]
            cases hh : leH σ p e i with
            | true => exact absurd hh q
            | false => simp
          rw [e2]
          exact hr
        have ye : leH σ p e i = true → wpM_barOf_273 (fun a0 a1 a2 a3 => wpM_barOf_175 Post (d + 1) a0 a1 a2 a3) Post (mJ σ g (va_up R 44 r)) (nI p) (nI n) (nI i) := by
          intro q
          refine ⟨vp_in_nI (n := 8) (by omega) (by omega), ?_⟩
          rintro _ rfl _ rfl
          rw [mJ_A _ _ _ 44 _ (by omega) (by omega), nI_1]
          have e3 : va_up (va_up R 44 r) 44 (upd ((mJ σ g (va_up R 44 r)).2.1 44) (8 : Int32).toNatClampNeg 1) = va_up R 44 (upd r 8 1) := bx_uu _ _ _ _
          rw [e3]
          refine ih (i + 1) (by omega) _ ?_
          have e2 : anyF (leH σ p e) (i + 1) = true := by rw [anyF, q]; simp
          rw [e2]
          exact wvB_8 hr
        unfold wpM_barOf_175 wpM_barOf_241
        rw [ci, cii]
        change (nI n ≤ nI i → _) ∧ (¬ nI n ≤ nI i → vp_in (nI i) 200 ∧ (σ.2.1 40 i = 9 → vp_in (nI i) 200 ∧ vp_in (nI p) 10 ∧ (R 47 p < σ.2.1 43 i → _) ∧ (¬ R 47 p < σ.2.1 43 i → vp_in (nI i) 200 ∧ vp_in (nI p) 10 ∧ (σ.2.1 41 i = σ.2.1 31 p → vp_in (nI i) 200 ∧ vp_in (nI p) 10 ∧ (σ.2.1 42 i = σ.2.1 32 p → _) ∧ (¬ σ.2.1 42 i = σ.2.1 32 p → vp_in (nI i) 200 ∧ vp_in (nI p) 10 ∧ (σ.2.1 41 i = σ.2.1 32 p → vp_in (nI i) 200 ∧ vp_in (nI p) 10 ∧ (σ.2.1 42 i = σ.2.1 31 p → _) ∧ (¬ σ.2.1 42 i = σ.2.1 31 p → _)) ∧ (¬ σ.2.1 41 i = σ.2.1 32 p → _))) ∧ (¬ σ.2.1 41 i = σ.2.1 31 p → vp_in (nI i) 200 ∧ vp_in (nI p) 10 ∧ (σ.2.1 41 i = σ.2.1 32 p → vp_in (nI i) 200 ∧ vp_in (nI p) 10 ∧ (σ.2.1 42 i = σ.2.1 31 p → _) ∧ (¬ σ.2.1 42 i = σ.2.1 31 p → _)) ∧ (¬ σ.2.1 41 i = σ.2.1 32 p → _)))) ∧ (¬ σ.2.1 40 i = 9 → _))
        rw [he]
        refine ⟨fun y => absurd y (nI_ge (by omega) (by omega)), fun _ => ⟨hvi, fun c1 => ⟨hvi, hv, fun c2 => no (fun q => (of_decide_eq_true q).2.2 c2), fun c2 => ⟨hvi, hv, fun c3 => ⟨hvi, hv, fun c4 => ye (decide_eq_true ⟨c1, Or.inl ⟨c3, c4⟩, c2⟩), fun c4 => ⟨hvi, hv, fun c5 => ⟨hvi, hv, fun c6 => ye (decide_eq_true ⟨c1, Or.inr ⟨c5, c6⟩, c2⟩), fun c6 => no (fun q => ?_)⟩, fun c5 => no (fun q => ?_)⟩⟩, fun c3 => ⟨hvi, hv, fun c5 => ⟨hvi, hv, fun c6 => ye (decide_eq_true ⟨c1, Or.inr ⟨c5, c6⟩, c2⟩), fun c6 => no (fun q => ?_)⟩, fun c5 => no (fun q => ?_)⟩⟩⟩, fun c1 => no (fun q => c1 (of_decide_eq_true q).1)⟩⟩
        · exact (of_decide_eq_true q).2.1.elim (fun z => c4 z.2) (fun z => c6 z.2)
        · exact (of_decide_eq_true q).2.1.elim (fun z => c4 z.2) (fun z => c5 z.1)
        · exact (of_decide_eq_true q).2.1.elim (fun z => c3 z.1) (fun z => c6 z.2)
        · exact (of_decide_eq_true q).2.1.elim (fun z => c3 z.1) (fun z => c5 z.1)
    have h106 : ∀ r t, EqW r (wv0 (σ.2.1 35 p)) → t = agV (yoV σ p) e → wpM_barOf_106 Post (mJ σ g (va_up R 44 r)) (nI p) (nI n) 5 t := by
      rintro r _ hr rfl
      refine ⟨vp_in_nI (n := 5) (by omega) (by omega), ?_⟩
      rintro _ rfl
      rw [mJ_A _ _ _ 44 _ (by omega) (by omega)]
      have e3 : va_up (va_up R 44 r) 44 (upd ((mJ σ g (va_up R 44 r)).2.1 44) (5 : Int32).toNatClampNeg (agV (yoV σ p) e)) = va_up R 44 (upd r 5 (agV (yoV σ p) e)) := bx_uu _ _ _ _
      rw [e3, ci]
      refine ⟨hv, hv, ?_⟩
      have ea' : (mJ σ g (va_up R 44 (upd r 5 (agV (yoV σ p) e)))).2.1 31 p = nI a := ea
      have eb' : (mJ σ g (va_up R 44 (upd r 5 (agV (yoV σ p) e)))).2.1 32 p = nI b := eb
      rw [ea', eb']
      refine degreeM (σ := mJ σ g (va_up R 44 (upd r 5 (agV (yoV σ p) e)))) hnn hnp ha hb ⟨vp_in_nI (n := 6) (by omega) (by omega), ?_⟩
      rintro _ rfl
      rw [mJ_A _ _ _ 44 _ (by omega) (by omega)]
      have e4 : va_up (va_up R 44 (upd r 5 (agV (yoV σ p) e))) 44 (upd ((mJ σ g (va_up R 44 (upd r 5 (agV (yoV σ p) e)))).2.1 44) (6 : Int32).toNatClampNeg (minF (fun _ => true) (fun c => imax ((mJ σ g (va_up R 44 (upd r 5 (agV (yoV σ p) e)))).2.1 29 (12 * a + c)) ((mJ σ g (va_up R 44 (upd r 5 (agV (yoV σ p) e)))).2.1 29 (12 * b + c))) 99 np)) = va_up R 44 (upd (upd r 5 (agV (yoV σ p) e)) 6 (dgV (σ.2.1 29) np a b)) := bx_uu _ _ _ _
      rw [e4]
      refine ⟨hv, hv, vowsB hn ⟨hv, hv, vowsB hn ⟨vp_in_nI (n := 7) (by omega) (by omega), ?_⟩⟩⟩
      rintro _ rfl
      rw [mJ_A _ _ _ 44 _ (by omega) (by omega)]
      have e5 : ∀ r2 : Nat → Int32, va_up (va_up R 44 r2) 44 (upd ((mJ σ g (va_up R 44 r2)).2.1 44) (7 : Int32).toNatClampNeg (b2 (vwN (mJ σ g (va_up R 44 r2)) n ((mJ σ g (va_up R 44 r2)).2.1 31 p) ((mJ σ g (va_up R 44 r2)).2.1 47 p)) + b2 (vwN (mJ σ g (va_up R 44 r2)) n ((mJ σ g (va_up R 44 r2)).2.1 32 p) ((mJ σ g (va_up R 44 r2)).2.1 47 p)))) = va_up R 44 (upd r2 7 (b2 (vwN σ n (σ.2.1 31 p) e) + b2 (vwN σ n (σ.2.1 32 p) e))) := by
        intro r2
        rw [bx_uu, ← he]
        rfl
      rw [e5]
      refine ⟨n + 1, hloop n 0 (by omega) _ ?_⟩
      rw [ca, cb]
      refine wvB_7 (v := 0) (wvB_6 (d := 0) (wvB_5 (a := 0) (fun j hj => ?_)))
      rw [hr j hj]
      simp only [wv0, wvB, anyF, b2]
      by_cases q : j = 4
      · subst q; rfl
      · simp [q]
    have h74 : ∀ r t, EqW r (wv0 (σ.2.1 35 p)) → t = yoV σ p → wpM_barOf_74 Post (mJ σ g (va_up R 44 r)) (nI p) (nI n) t := by
      rintro r _ hr rfl
      unfold wpM_barOf_74
      rw [ci]
      change vp_in (nI p) 10 ∧ (yoV σ p ≤ R 47 p → vp_in (nI p) 10 ∧ wpM_barOf_106 Post (mJ σ g (va_up R 44 r)) (nI p) (nI n) 5 ((R 47 p - yoV σ p) / 365)) ∧ (¬ yoV σ p ≤ R 47 p → _)
      rw [he]
      exact ⟨hv, fun q => ⟨hv, h106 r _ hr (by rw [agV, if_pos q])⟩, fun q => h106 r _ hr (by rw [agV, if_neg q])⟩
    refine nothingM (σ := mJ σ g R) hp (fun r hr => ?_)
    rw [mJ_A _ _ _ 44 _ (by omega) (by omega)]
    refine ⟨hv, va, hv, vb, fun q => ⟨hv, vb, h74 r _ hr ?_⟩, fun q => ⟨hv, va, h74 r _ hr ?_⟩⟩
    · exact (if_pos q).symm
    · exact (if_neg q).symm
  · have h := hP (R 44) (R 45)
    rw [va_self, va_self, baV, if_neg c] at h
    exact h
