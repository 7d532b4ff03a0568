/-! pure level: effects and the class's preparing -/
def fiC (σ : CS) (n p : Nat) : Int32 := dcF (fun i => decide ((σ.2.1 26 i = 5 ∨ σ.2.1 26 i = 6) ∧ σ.2.1 27 i = σ.2.1 20 p)) (σ.2.1 29) n
def efC (σ : CS) (n p : Nat) : Int32 := if σ.2.1 20 p = -1 then σ.2.1 18 p else if fiC σ n p = -1 then 10000 else if σ.2.1 18 p < σ.2.1 29 (fiC σ n p).toNatClampNeg then σ.2.1 29 (fiC σ n p).toNatClampNeg else σ.2.1 18 p
def veC (σ : CS) (n p : Nat) : Int32 := if σ.2.1 20 p = -1 then -1 else if fiC σ n p = -1 then 2 else if σ.2.1 26 (fiC σ n p).toNatClampNeg = 6 then 3 else -1
theorem c38 (σ : CS) (f g f' : Nat → Int32) : cA (cA (cA σ 37 f) 38 g) 37 f' = cA (cA σ 37 f') 38 g := by
  have : va_up (va_up (va_up σ.2.1 37 f) 38 g) 37 f' = va_up (va_up σ.2.1 37 f') 38 g := by
    funext k
    show (if k = 37 then f' else if k = 38 then g else if k = 37 then f else σ.2.1 k) = (if k = 38 then g else if k = 37 then f' else σ.2.1 k)
    by_cases e : k = 37
    · rw [if_pos e, if_neg (by omega), if_pos e]
    · rw [if_neg e, if_neg e, if_neg e]
  show (σ.1, va_up (va_up (va_up σ.2.1 37 f) 38 g) 37 f', σ.2.2) = _
  rw [this]
  rfl
theorem findEffectC {σ : CS} {n p : Nat} {Post : CS → Prop} (hkn : σ.1 505 = nI n) (hn : n ≤ 200) (hp : p < 10) (hP : Post (cA (cA σ 37 (upd (σ.2.1 37) p (efC σ n p))) 38 (upd (σ.2.1 38) p (veC σ n p)))) : wpC_X4_findEffect σ (nI p) Post := by
  have hv : vp_in (nI p) 10 := vp_in_nI hp (by omega)
  unfold wpC_X4_findEffect
  rw [nI_clamp (by omega)]
  refine ⟨hv, hv, ?_⟩
  rintro _ rfl
  refine ⟨hv, ?_⟩
  rintro _ rfl
  have e38 : (cA σ 37 (upd (σ.2.1 37) p (σ.2.1 18 p))).2.1 38 = σ.2.1 38 := rfl
  rw [e38]
  refine ⟨hv, fun c => ?_, fun c => ⟨hv, ?_⟩⟩
  · have c : σ.2.1 20 p = -1 := c
    rw [efC, if_pos c, veC, if_pos c] at hP
    exact hP
  · have c : ¬ σ.2.1 20 p = -1 := c
    refine decidingC (σ := cA (cA σ 37 (upd (σ.2.1 37) p (σ.2.1 18 p))) 38 (upd (σ.2.1 38) p (-1))) hkn hn ?_
    have e37 : (cA (cA σ 37 (upd (σ.2.1 37) p (σ.2.1 18 p))) 38 (upd (σ.2.1 38) p (-1))).2.1 37 p = σ.2.1 18 p := pk_us
    rw [e37]
    change (fiC σ n p = -1 → _) ∧ (¬ fiC σ n p = -1 → vp_in (nI p) 10 ∧ vp_in (fiC σ n p) 200 ∧ ∀ y14 : Int32, y14 = (if σ.2.1 18 p < σ.2.1 29 (fiC σ n p).toNatClampNeg then σ.2.1 29 (fiC σ n p).toNatClampNeg else σ.2.1 18 p) → _)
    refine ⟨fun c1 => ⟨hv, ?_⟩, fun c1 => ?_⟩
    · rintro _ rfl
      refine ⟨hv, ?_⟩
      rintro _ rfl
      rw [c38, cA_same]
      show Post (cA (cA σ 37 (upd (upd (σ.2.1 37) p (σ.2.1 18 p)) p 10000)) 38 (upd (upd (σ.2.1 38) p (-1)) p 2))
      rw [upd_upd, upd_upd]
      rw [efC, if_neg c, if_pos c1, veC, if_neg c, if_pos c1] at hP
      exact hP
    · have hv3 : vp_in (fiC σ n p) 200 := by
        rcases dcF_is (fun i => decide ((σ.2.1 26 i = 5 ∨ σ.2.1 26 i = 6) ∧ σ.2.1 27 i = σ.2.1 20 p)) (σ.2.1 29) n with e | ⟨j, hj, ej, _⟩
        · exact absurd e c1
        · rw [fiC, ej]
          exact vp_in_nI (by omega) (by omega)
      rw [efC, if_neg c, if_neg c1, veC, if_neg c, if_neg c1] at hP
      refine ⟨hv, hv3, ?_⟩
      intro y ey
      rw [← ey] at hP
      refine ⟨hv, ?_⟩
      rintro _ rfl
      refine ⟨hv3, fun c2 => ⟨hv, ?_⟩, fun c2 => ?_⟩
      · have c2 : σ.2.1 26 (fiC σ n p).toNatClampNeg = 6 := c2
        rintro _ rfl
        rw [c38, cA_same]
        show Post (cA (cA σ 37 (upd (upd (σ.2.1 37) p (σ.2.1 18 p)) p y)) 38 (upd (upd (σ.2.1 38) p (-1)) p 3))
        rw [upd_upd, upd_upd]
        rw [if_pos c2] at hP
        exact hP
      · have c2 : ¬ σ.2.1 26 (fiC σ n p).toNatClampNeg = 6 := c2
        rw [c38]
        show Post (cA (cA σ 37 (upd (upd (σ.2.1 37) p (σ.2.1 18 p)) p y)) 38 (upd (σ.2.1 38) p (-1)))
        rw [upd_upd]
        rw [if_neg c2] at hP
        exact hP
def IPro (npr np : Nat) (σx : CS) (σm : MS) : Prop := npr ≤ 10 ∧ σx.1 286 = nI npr ∧ σm.1 46 = nI npr ∧ σx.2.1 15 = σm.2.1 31 ∧ σx.2.1 16 = σm.2.1 32 ∧ σx.2.1 17 = σm.2.1 33 ∧ σx.2.1 18 = σm.2.1 34 ∧ σx.2.1 19 = σm.2.1 35 ∧ σx.2.1 20 = σm.2.1 36 ∧ ∀ p, p < npr → isN (σm.2.1 31 p) np ∧ isN (σm.2.1 32 p) np ∧ ¬ σm.2.1 31 p = σm.2.1 32 p ∧ isD (σm.2.1 34 p)
/-- the class's day of effect, and what it says of it before the judgement -/
def ceV (σ : MS) (n p : Nat) : Int32 := if hwV σ n p = 0 then 10000 else efV σ n p
def vwV (σ : MS) (n p : Nat) : Int32 := if hwV σ n p = 0 then 2 else if hwV σ n p = 2 then 3 else -1
theorem fi_eq {σx : CS} {σm : MS} {np npr nf n p : Nat} (hQ : IPro npr np σx σm) (hF : IFac nf np σx σm) (hn : n ≤ nf) : fiC σx n p = fiV σm n p := by
  obtain ⟨q1, q2, q3, q4, q5, q6, q7, q8, q9, q10⟩ := hQ
  obtain ⟨f1, f2, f3, f4, f5⟩ := hF
  rw [fiC, fiV, f4, q9]
  exact dcF_congr (by omega) (fun i hi => decide_eq_decide.mpr (FaE_cond (f5 i (by omega)))) (fun i hi _ => rfl)
theorem ef_g (a b : Int32) : (if a < b then b else a) = if b ≤ a then a else b := by grind
theorem ef_eq {σx : CS} {σm : MS} {np npr nf n p : Nat} (hQ : IPro npr np σx σm) (hF : IFac nf np σx σm) (hn : n ≤ nf) : efC σx n p = ceV σm n p ∧ veC σx n p = vwV σm n p := by
  have hfi := fi_eq (p := p) hQ hF hn
  obtain ⟨q1, q2, q3, q4, q5, q6, q7, q8, q9, q10⟩ := hQ
  obtain ⟨f1, f2, f3, f4, f5⟩ := hF
  rw [efC, veC, ceV, vwV, hfi, q9, q7, f4]
  by_cases c : σm.2.1 36 p = -1
  · have e : hwV σm n p = 1 := if_pos c
    rw [if_pos c, if_pos c, e, efV, if_pos c]
    exact ⟨rfl, rfl⟩
  · rw [if_neg c, if_neg c, hwV, if_neg c, efV, if_neg c]
    by_cases c1 : fiV σm n p = -1
    · rw [if_pos c1, if_pos c1, if_pos c1, if_pos c1]
      exact ⟨rfl, rfl⟩
    · rw [if_neg c1, if_neg c1, if_neg c1, if_neg c1]
      rcases dcF_is (fun i => decide ((σm.2.1 40 i = 7 ∨ σm.2.1 40 i = 8) ∧ σm.2.1 41 i = σm.2.1 36 p)) (σm.2.1 43) n with e | ⟨j, hj, ej, hh⟩
      · exact absurd e c1
      · have ej : fiV σm n p = nI j := ej
        have hh := (of_decide_eq_true hh).1
        have h6 := FaE_fails (f5 j (by omega)) hh
        rw [ej, nI_clamp (by omega), ef_g]
        by_cases c2 : σm.2.1 40 j = 7
        · rw [if_pos c2, if_neg (fun q => h6.mp q c2)]
          exact ⟨rfl, rfl⟩
        · rw [if_neg c2, if_pos (h6.mpr c2)]
          exact ⟨rfl, rfl⟩
/-- the class's state while it judges -/
def cJ (σ : CS) (v kn : Int32) (R : Nat → Nat → Int32) : CS := (va_up (va_up σ.1 505 kn) 623 v, (fun j => if 32 ≤ j ∧ j ≤ 44 then R j else σ.2.1 j), σ.2.2)
theorem cJ_A (σ : CS) (v kn : Int32) (R : Nat → Nat → Int32) (j : Nat) (f : Nat → Int32) (h1 : 32 ≤ j) (h2 : j ≤ 44) : cA (cJ σ v kn R) j f = cJ σ v kn (va_up R j f) := by
  have : va_up (fun i => if 32 ≤ i ∧ i ≤ 44 then R i else σ.2.1 i) j f = (fun i => if 32 ≤ i ∧ i ≤ 44 then va_up R j f i else σ.2.1 i) := by
    funext i
    show (if i = j then f else if 32 ≤ i ∧ i ≤ 44 then R i else σ.2.1 i) = if 32 ≤ i ∧ i ≤ 44 then (if i = j then f else R i) else σ.2.1 i
    by_cases e : i = j
    · rw [if_pos e, if_pos (by omega), if_pos e]
    · rw [if_neg e, if_neg e]
  show (_, va_up (fun i => if 32 ≤ i ∧ i ≤ 44 then R i else σ.2.1 i) j f, _) = _
  rw [this]
  rfl
theorem cJ_F (σ : CS) (v v' kn : Int32) (R : Nat → Nat → Int32) : cF (cJ σ v kn R) 623 v' = cJ σ v' kn R := by
  show (va_up (va_up (va_up σ.1 505 kn) 623 v) 623 v', _) = _
  rw [bx_uu]
  rfl
theorem cJ_sc (σ : CS) (v v' kn : Int32) (R : Nat → Nat → Int32) (f g : Nat → Int32) : scC (cJ σ v kn R) f g v' = cJ σ v' kn (va_up (va_up R 33 f) 34 g) := by
  rw [scC, cJ_A _ _ _ _ 33 _ (by omega) (by omega), cJ_A _ _ _ _ 34 _ (by omega) (by omega), cJ_F]
theorem cJ_0 (σ : CS) (kn : Int32) : cF σ 505 kn = cJ σ (σ.1 623) kn σ.2.1 := by
  have h1 : va_up (va_up σ.1 505 kn) 623 (σ.1 623) = va_up σ.1 505 kn := by
    funext k
    show (if k = 623 then σ.1 623 else if k = 505 then kn else σ.1 k) = if k = 505 then kn else σ.1 k
    by_cases e : k = 623
    · subst e; rfl
    · rw [if_neg e]
  have h2 : (fun j => if 32 ≤ j ∧ j ≤ 44 then σ.2.1 j else σ.2.1 j) = σ.2.1 := by
    funext j
    split <;> rfl
  show _ = (va_up (va_up σ.1 505 kn) 623 (σ.1 623), (fun j => if 32 ≤ j ∧ j ≤ 44 then σ.2.1 j else σ.2.1 j), σ.2.2)
  rw [h1, h2]
  rfl
theorem lwN_lt {pl da : Nat → Int32} {w d : Int32} {n : Nat} (hn : n ≤ 8) : lwN (loF pl da w d n) < n + 1 := by
  rcases loF_is pl da w d n with e | ⟨j, hj, e⟩
  · rw [e, lwN, if_pos rfl]; omega
  · rw [e, lwN, if_neg (nI_nm1 (by omega)), nI_clamp (by omega)]; omega
def BH (np npr nf nl : Nat) (σx : CS) (σm : MS) : Prop := IPers np σx σm ∧ IPro npr np σx σm ∧ IFac nf np σx σm ∧ ILaw nl σx σm
theorem lawHoldC {σx : CS} {σm : MS} {R : Nat → Nat → Int32} {v kn : Int32} {w' : Nat → Int32} {np npr nl z p : Nat} {Post : Int32 → CS → Prop} (hB : IPro npr np σx σm) (hD : ILaw nl σx σm) (hw : EqW (R 32) w') (hz : z < 3) (hp : p < 10)
    (hP : ∀ f g v2, Post (ruV σm w' (loP σm nl p) (nI z)) (cJ σx v2 kn (va_up (va_up R 33 f) 34 g))) : wpC_X4_lawOf (cJ σx v kn R) (nI p) (fun r15 σ16 => r15 < σ16.2.2.1 ∧ wpC_X5_firstHolding σ16 r15 (nI (10000 + z)) Post) := by
  have hv : vp_in (nI p) 10 := vp_in_nI hp (by omega)
  refine ⟨hv, hv, ?_⟩
  rw [nI_clamp (by omega)]
  refine lawOnE (σx := cJ σx v kn R) (σm := σm) (nl := nl) hD ⟨?_, firstHoldingE (σx := cJ σx v kn R) (σm := σm) hD hz (fun f g v2 => ?_)⟩
  · show _ < σx.2.2.1
    rw [hD.2.2.2.1]
    exact lwN_lt hD.1
  · have e : ruV σm ((cJ σx v kn R).2.1 32) (loF (σm.2.1 8) (σm.2.1 9) ((cJ σx v kn R).2.1 17 p) ((cJ σx v kn R).2.1 18 p) nl) (nI z) = ruV σm w' (loP σm nl p) (nI z) := by
      have hlo : loF (σm.2.1 8) (σm.2.1 9) ((cJ σx v kn R).2.1 17 p) ((cJ σx v kn R).2.1 18 p) nl = loP σm nl p := by
        show loF (σm.2.1 8) (σm.2.1 9) (σx.2.1 17 p) (σx.2.1 18 p) nl = _
        rw [hB.2.2.2.2.2.1, hB.2.2.2.2.2.2.1]
        rfl
      rw [hlo]
      refine ruV_congr hw hD.1 ?_ (fun l hl => LwE_M (hD.2.2.2.2.2 l hl))
      intro q
      have := (nI_eq (a := z) (b := 3) (by omega) (by omega)).mp q
      omega
    rw [e, cJ_sc]
    exact hP f g v2
/-- a promise's rows of the class before the judgement -/
def pnC (σ : MS) (np nl n p : Nat) (j : Nat) : Int32 := if j = 36 then prV σ np nl n p else if j = 37 then ceV σ n p else if j = 38 then (if prV σ np nl n p = -1 then 0 else vwV σ n p) else if j = 41 then 10000 else if j = 42 then 0 else if j = 44 then 0 else -1
theorem prepareC {σx : CS} {σm : MS} {R : Nat → Nat → Int32} {v : Int32} {np npr nf nl n p : Nat} {Post : CS → Prop} (h : BH np npr nf nl σx σm) (hn : n ≤ nf) (hp : p < npr)
    (hP : ∀ R' v', (∀ j q, 36 ≤ j → j ≤ 44 → R' j q = if q = p then pnC σm np nl n p j else R j q) → Post (cJ σx v' (nI n) R')) : wpC_X4_prepare (cJ σx v (nI n) R) (nI p) Post := by
  obtain ⟨hA, hB, hC, hD⟩ := h
  have hp10 : p < 10 := by have := hB.1; omega
  have hn200 : n ≤ 200 := by have := hC.1; omega
  have hv : vp_in (nI p) 10 := vp_in_nI hp10 (by omega)
  have hef := ef_eq (p := p) hB hC hn
  have hw := wPC_eq (p := p) hn200 (fun i hi => hC.2.2.2.2 i (by omega)) hA.1 hA.2.2.2.2.2.2.1 hB.2.2.2.1 hB.2.2.2.2.1 hB.2.2.2.2.2.2.2.1
  have h1 : isN (σx.2.1 15 p) np := by rw [hB.2.2.2.1]; exact (hB.2.2.2.2.2.2.2.2.2 p hp).1
  have h2 : isN (σx.2.1 16 p) np := by rw [hB.2.2.2.2.1]; exact (hB.2.2.2.2.2.2.2.2.2 p hp).2.1
  unfold wpC_X4_prepare
  rw [nI_clamp (by omega)]
  refine ⟨hv, ?_⟩
  rintro _ rfl
  refine ⟨hv, ?_⟩
  rintro _ rfl
  refine ⟨hv, ?_⟩
  rintro _ rfl
  refine ⟨hv, ?_⟩
  rintro _ rfl
  refine ⟨hv, ?_⟩
  rintro _ rfl
  refine ⟨hv, ?_⟩
  rintro _ rfl
  rw [cJ_A _ _ _ _ 39 _ (by omega) (by omega), cJ_A _ _ _ _ 40 _ (by omega) (by omega), cJ_A _ _ _ _ 41 _ (by omega) (by omega), cJ_A _ _ _ _ 42 _ (by omega) (by omega), cJ_A _ _ _ _ 43 _ (by omega) (by omega), cJ_A _ _ _ _ 44 _ (by omega) (by omega)]
  obtain ⟨R6, hR6⟩ : ∃ R6 : Nat → Nat → Int32, R6 = va_up (va_up (va_up (va_up (va_up (va_up R 39 (upd (R 39) p (-1))) 40 (upd (R 40) p (-1))) 41 (upd (R 41) p 10000)) 42 (upd (R 42) p 0)) 43 (upd (R 43) p (-1))) 44 (upd (R 44) p 0) := ⟨_, rfl⟩
  change wpC_X4_findEffect (cJ σx v (nI n) (va_up (va_up (va_up (va_up (va_up (va_up R 39 (upd (R 39) p (-1))) 40 (upd (R 40) p (-1))) 41 (upd (R 41) p 10000)) 42 (upd (R 42) p 0)) 43 (upd (R 43) p (-1))) 44 (upd (R 44) p 0))) (nI p) _
  rw [← hR6]
  refine findEffectC (σ := cJ σx v (nI n) R6) rfl hn200 hp10 ?_
  have e1 : efC (cJ σx v (nI n) R6) n p = ceV σm n p := hef.1
  have e2 : veC (cJ σx v (nI n) R6) n p = vwV σm n p := hef.2
  rw [e1, e2, cJ_A _ _ _ _ 37 _ (by omega) (by omega), cJ_A _ _ _ _ 38 _ (by omega) (by omega)]
  refine weighWordsC (σ := cJ σx v (nI n) _) (np := np) (n := n) rfl hn200 hA.2.1 hA.1 hp10 h1 h2 (fun s r hr => ?_)
  rw [cJ_A _ _ _ _ 35 _ (by omega) (by omega), cJ_A _ _ _ _ 32 _ (by omega) (by omega)]
  have hr2 : EqW r (wPV σm np n p) := by
    rw [← hw]
    exact hr
  refine lawHoldC (z := 0) hB hD hr2 (by omega) hp10 (fun f g v2 => ?_)
  · have e3 : ruV σm (wPV σm np n p) (loP σm nl p) (nI 0) = prV σm np nl n p := rfl
    rw [e3]
    refine ⟨hv, ?_⟩
    rintro _ rfl
    rw [cJ_A _ _ _ _ 36 _ (by omega) (by omega)]
    refine ⟨hv, fun c => ⟨hv, ?_⟩, fun c => ?_⟩
    · have c : upd (R6 36) p (prV σm np nl n p) p = -1 := c
      rw [pk_us] at c
      rintro _ rfl
      rw [cJ_A _ _ _ _ 38 _ (by omega) (by omega)]
      refine hP _ _ (fun j q j1 j2 => ?_)
      rcases (show j = 36 ∨ j = 37 ∨ j = 38 ∨ j = 39 ∨ j = 40 ∨ j = 41 ∨ j = 42 ∨ j = 43 ∨ j = 44 by omega) with rfl | rfl | rfl | rfl | rfl | rfl | rfl | rfl | rfl
      · show upd (R6 36) p (prV σm np nl n p) q = _
        rw [hR6]; rfl
      · show upd (R6 37) p (ceV σm n p) q = _
        rw [hR6]; rfl
      · show upd (upd (R6 38) p (vwV σm n p)) p 0 q = if q = p then (if prV σm np nl n p = -1 then 0 else vwV σm n p) else R 38 q
        rw [upd_upd, if_pos c, hR6]; rfl
      · show R6 39 q = _
        rw [hR6]; rfl
      · show R6 40 q = _
        rw [hR6]; rfl
      · show R6 41 q = _
        rw [hR6]; rfl
      · show R6 42 q = _
        rw [hR6]; rfl
      · show R6 43 q = _
        rw [hR6]; rfl
      · show R6 44 q = _
        rw [hR6]; rfl
    · have c : ¬ upd (R6 36) p (prV σm np nl n p) p = -1 := c
      rw [pk_us] at c
      refine hP _ _ (fun j q j1 j2 => ?_)
      rcases (show j = 36 ∨ j = 37 ∨ j = 38 ∨ j = 39 ∨ j = 40 ∨ j = 41 ∨ j = 42 ∨ j = 43 ∨ j = 44 by omega) with rfl | rfl | rfl | rfl | rfl | rfl | rfl | rfl | rfl
      · show upd (R6 36) p (prV σm np nl n p) q = _
        rw [hR6]; rfl
      · show upd (R6 37) p (ceV σm n p) q = _
        rw [hR6]; rfl
      · show upd (R6 38) p (vwV σm n p) q = if q = p then (if prV σm np nl n p = -1 then 0 else vwV σm n p) else R 38 q
        rw [if_neg c, hR6]; rfl
      · show R6 39 q = _
        rw [hR6]; rfl
      · show R6 40 q = _
        rw [hR6]; rfl
      · show R6 41 q = _
        rw [hR6]; rfl
      · show R6 42 q = _
        rw [hR6]; rfl
      · show R6 43 q = _
        rw [hR6]; rfl
      · show R6 44 q = _
        rw [hR6]; rfl
