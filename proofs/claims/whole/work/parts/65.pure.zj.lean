/-! pure level: what goes back, both sides -/
theorem fstF_is (h : Nat → Bool) : ∀ d i, fstF h d i = -1 ∨ ∃ j, i ≤ j ∧ j < i + d ∧ fstF h d i = nI j ∧ h j = true := by
  intro d
  induction d with
  | zero => intro i; exact Or.inl rfl
  | succ d ih =>
    intro i
    rw [fstF]
    split
    · next c => exact Or.inr ⟨i, by omega, by omega, rfl, c⟩
    · rcases ih (i + 1) with e | ⟨j, h1, h2, h3, h4⟩
      · exact Or.inl e
      · exact Or.inr ⟨j, by omega, by omega, h3, h4⟩
theorem ru4 {nl : Nat} {σ : MS} {w pl da : Nat → Int32} {a b : Int32} (hn : nl ≤ 8) (hR : ∀ l, l < nl → LwM σ l) (h : ¬ ruV σ w (loF pl da a b nl) 4 = -1) :
    ∃ l r, l < nl ∧ r < 16 ∧ loF pl da a b nl = nI l ∧ ruV σ w (loF pl da a b nl) 4 = nI r ∧ ∃ fr to, σ.2.1 13 (16 * l + r) = nI fr ∧ σ.2.1 14 (16 * l + r) = nI to ∧ okE (σ.2.1 23) (σ.2.1 24) fr to := by
  rcases loF_is pl da a b nl with e | ⟨l, hl, e⟩
  · rw [e, ruV, if_pos rfl] at h
    exact absurd rfl h
  · obtain ⟨tk, N, nr, h1, h2, h3⟩ := hR l hl
    rw [e, ruV, if_neg (nI_nm1 (by omega)), nI_clamp (by omega), h2, nI_clamp (by omega)] at h ⊢
    rcases fstF_is (ruH σ w l 4) nr 0 with e2 | ⟨r, _, hr, e2, hh⟩
    · exact absurd e2 h
    · obtain ⟨k0, _, z, hz, _, hz1, hz2⟩ := h3 r (by omega)
      rw [ruH, Bool.and_eq_true, decide_eq_true_eq] at hh
      have hz4 : z = 4 := by
        have := hz1.symm.trans hh.1
        exact (nI_eq (a := z) (b := 4) (by omega) (by omega)).mp this
      rcases hz2 with q | q | ⟨_, q, fr, to, f1, f2, f3, _⟩
      · omega
      · omega
      · exact ⟨l, r, hl, by omega, rfl, e2, fr, to, f1, f2, f3.2.2.2.2.2.1⟩
theorem shV_congr {nl : Nat} {σ : MS} {w w' pl da : Nat → Int32} {a b : Int32} (hw : EqW w w') (hn : nl ≤ 8) (hR : ∀ l, l < nl → LwM σ l) : shV σ w (loF pl da a b nl) = shV σ w' (loF pl da a b nl) := by
  have e : ruV σ w (loF pl da a b nl) 4 = ruV σ w' (loF pl da a b nl) 4 := ruV_congr hw hn (by decide) hR
  unfold shV
  rw [← e]
  split
  · rfl
  · next c =>
    obtain ⟨l, r, hl, hr, e1, e2, fr, to, f1, f2, f3⟩ := ru4 hn hR c
    rw [e1] at e2 ⊢
    have t1 := f3.2.1
    have t2 := f3.1
    rw [e2, nI_clamp (by omega), nI_clamp (by omega), f1, f2, nI_clamp (by omega), nI_clamp (by omega), valM_congr hw f3]
def wSV (w t d : Int32) : Nat → Int32 := fun j => if j = 10 then w else if j = 4 then t else if j = 11 then d else 0
def whV (b gv s : Int32) : Int32 := if s = 9 then (if b = gv + 1 then 9 else if b = 2 - gv then 10 else 11) else s
/-- how much of 100 goes back: the state, the share -/
def srV (σ : MS) (nl : Nat) (R : Nat → Nat → Int32) (p : Nat) (gv d : Int32) : Int32 := if stJ (σ.2.1 36) R p d < 3 then 0 else if stJ (σ.2.1 36) R p d = 6 then 0 else shV σ (wSV (whV (R 55 p) gv (stJ (σ.2.1 36) R p d)) (σ.2.1 35 p) (if stJ (σ.2.1 36) R p d ≤ 6 then 0 else R 52 p - R 47 p)) (loP σ nl p)
theorem stJ_big {co : Nat → Int32} {R : Nat → Nat → Int32} {p : Nat} {d : Int32} (h : ¬ stJ co R p d ≤ 6) : R 47 p ≤ d ∧ R 52 p ≤ d := by
  unfold stJ at h
  repeat' split at h
  all_goals first | exact absurd (by decide) h | (constructor <;> assumption)
theorem capV_le {x d : Int32} (h : x ≤ d) (hd : d < 10000) : capV x = x := by
  unfold capV
  rw [if_neg]
  rintro rfl
  generalize d = z at h hd
  grind
theorem shareBackC {σx : CS} {σm : MS} {R R' : Nat → Nat → Int32} {v kn d gv : Int32} {np npr nl p : Nat} {Post : Int32 → CS → Prop} (hB : IPro npr np σx σm) (hD : ILaw nl σx σm) (hJ : JF npr R) (hE : EqC npr R' (cR R)) (hd : isD d) (hp : p < npr)
    (hP : ∀ R2 v2, Sx R' R2 → Post (srV σm nl R p gv d) (cJ σx v2 kn R2)) : wpC_X4_shareBack (cJ σx v kn R') (nI p) gv d Post := by
  have h10 := hB.1
  have hv : vp_in (nI p) 10 := vp_in_nI (by omega) (by omega)
  have cp : (nI p).toNatClampNeg = p := nI_clamp (by omega)
  have dl := isD_lt hd
  refine stateOnC hB hJ hE hd hp ⟨fun c => ?_, fun c => ⟨fun c1 => ?_, fun c1 => ?_⟩⟩
  · have := hP R' v (fun _ _ => rfl)
    rw [srV, if_pos c] at this
    exact this
  · have := hP R' v (fun _ _ => rfl)
    rw [srV, if_neg c, if_pos c1] at this
    exact this
  · rw [srV, if_neg c, if_neg c1] at hP
    generalize hs : stJ (σm.2.1 36) R p d = s at *
    refine clearC (fun r hr => ?_)
    rw [cJ_A _ _ _ _ 32 _ (by omega) (by omega)]
    have h109 : ∀ r2 t, EqW r2 (wSV (whV (R 55 p) gv s) (σm.2.1 35 p) 0) → t = (if s ≤ 6 then 0 else R 52 p - R 47 p) → wpC_X4_shareBack_109 Post (cJ σx v kn (va_up R' 32 r2)) (nI p) 11 t := by
      rintro r2 _ hr2 rfl
      refine ⟨vp_in_nI (n := 11) (by omega) (by omega), ?_⟩
      rintro _ rfl
      rw [cJ_A _ _ _ _ 32 _ (by omega) (by omega)]
      refine ⟨hv, hv, ?_⟩
      rw [cp]
      refine lawOnE (σx := cJ σx v kn _) (σm := σm) (nl := nl) hD ⟨?_, shareE (σx := cJ σx v kn _) (σm := σm) hD (fun f g v2 => ?_)⟩
      · show _ < σx.2.2.1
        rw [hD.2.2.2.1]
        exact lwN_lt hD.1
      · have es : ∀ w : Nat → Int32, EqW w (wSV (whV (R 55 p) gv s) (σm.2.1 35 p) (if s ≤ 6 then 0 else R 52 p - R 47 p)) → shV σm w (loF (σm.2.1 8) (σm.2.1 9) (σx.2.1 17 p) (σx.2.1 18 p) nl) = shV σm (wSV (whV (R 55 p) gv s) (σm.2.1 35 p) (if s ≤ 6 then 0 else R 52 p - R 47 p)) (loP σm nl p) := by
          intro w hw
          have hlo : loF (σm.2.1 8) (σm.2.1 9) (σx.2.1 17 p) (σx.2.1 18 p) nl = loP σm nl p := by
            rw [hB.2.2.2.2.2.1, hB.2.2.2.2.2.2.1]
            rfl
          rw [hlo]
          exact shV_congr hw hD.1 (fun l hl => LwE_M (hD.2.2.2.2.2 l hl))
        rw [cJ_sc]
        refine Eq.mp (congrArg (fun x => Post x _) (es _ ?_).symm) (hP _ _ (Sx_s (Sx_s (Sx_s (Sx_s (fun _ _ => rfl) (by omega) _) (by omega) _) (by omega) _) (by omega) _))
        intro j hj
        show (if j = 11 then (if s ≤ 6 then 0 else R 52 p - R 47 p) else r2 j) = _
        rw [hr2 j hj]
        by_cases e : j = 11
        · subst e; rfl
        · rw [if_neg e]; simp only [wSV, if_neg e]
    have h57 : ∀ t, t = whV (R 55 p) gv s → wpC_X4_shareBack_57 Post (cJ σx v kn (va_up R' 32 r)) (nI p) s 10 t := by
      rintro _ rfl
      refine ⟨vp_in_nI (n := 10) (by omega) (by omega), ?_⟩
      rintro _ rfl
      refine ⟨hv, vp_in_nI (n := 4) (by omega) (by omega), ?_⟩
      rintro _ rfl
      rw [cp, cJ_A _ _ _ _ 32 _ (by omega) (by omega), cJ_A _ _ _ _ 32 _ (by omega) (by omega)]
      have e5 : ∀ x y : Int32, va_up (va_up (va_up R' 32 r) 32 (upd r 10 x)) 32 (upd (upd r 10 x) 4 y) = va_up R' 32 (upd (upd r 10 x) 4 y) := by
        intro x y
        rw [bx_uu, bx_uu]
      have hr2 : EqW (upd (upd r 10 (whV (R 55 p) gv s)) 4 (σx.2.1 19 p)) (wSV (whV (R 55 p) gv s) (σm.2.1 35 p) 0) := by
        intro j hj
        show (if j = 4 then σx.2.1 19 p else if j = 10 then whV (R 55 p) gv s else r j) = _
        rw [hr j hj, hB.2.2.2.2.2.2.2.1]
        simp only [wSV]
        by_cases e : j = 4
        · subst e; rfl
        · rw [if_neg e]
          by_cases e2 : j = 10
          · rw [if_pos e2, if_pos e2]
          · simp [e, e2]
      have e6 := e5 (whV (R 55 p) gv s) (σx.2.1 19 p)
      change (s ≤ 6 → wpC_X4_shareBack_109 Post (cJ σx v kn (va_up (va_up (va_up R' 32 r) 32 (upd r 10 (whV (R 55 p) gv s))) 32 (upd (upd r 10 (whV (R 55 p) gv s)) 4 (σx.2.1 19 p)))) (nI p) 11 0) ∧ (¬ s ≤ 6 → vp_in (nI p) 10 ∧ vp_in (nI p) 10 ∧ wpC_X4_shareBack_109 Post (cJ σx v kn (va_up (va_up (va_up R' 32 r) 32 (upd r 10 (whV (R 55 p) gv s))) 32 (upd (upd r 10 (whV (R 55 p) gv s)) 4 (σx.2.1 19 p)))) (nI p) 11 (R' 41 p - R' 37 p))
      rw [e6]
      refine ⟨fun c2 => h109 _ 0 hr2 (by rw [if_pos c2]), fun c2 => ⟨hv, hv, h109 _ _ hr2 ?_⟩⟩
      rw [if_neg c2, hE 41 p (by omega) (by omega) hp, hE 37 p (by omega) (by omega) hp]
      show capV (R 52 p) - capV (R 47 p) = _
      have := stJ_big (co := σm.2.1 36) (R := R) (p := p) (d := d) (by rw [hs]; exact c2)
      rw [capV_le this.2 dl, capV_le this.1 dl]
    refine ⟨fun c2 => ?_, fun c2 => h57 s (by rw [whV, if_neg c2])⟩
    unfold wpC_X4_breachFor
    rw [cp]
    change vp_in (nI p) 10 ∧ (R' 44 p = gv + 1 → _) ∧ (¬ R' 44 p = gv + 1 → vp_in (nI p) 10 ∧ (R' 44 p = 2 - gv → _) ∧ (¬ R' 44 p = 2 - gv → _))
    have e44 : R' 44 p = R 55 p := hE 44 p (by omega) (by omega) hp
    rw [e44]
    refine ⟨hv, fun c3 => h57 9 ?_, fun c3 => ⟨hv, fun c4 => h57 10 ?_, fun c4 => h57 11 ?_⟩⟩
    · rw [whV, if_pos c2, if_pos c3]
    · rw [whV, if_pos c2, if_neg c3, if_pos c4]
    · rw [whV, if_pos c2, if_neg c3, if_neg c4]
theorem cl_g (e : Int32) : (0 ≤ e → (e ≤ 100 → clV e = e) ∧ (¬ e ≤ 100 → clV e = 100)) ∧ (¬ 0 ≤ e → clV e = 0) := by
  unfold clV
  grind
theorem mul0 (x : Int32) : x * 0 / 100 = 0 := by
  rw [Int32.mul_zero]
  decide
theorem backOfM {σ : MS} {R : Nat → Nat → Int32} {g d gv : Int32} {np npr nl a p : Nat} {Post : Int32 → MS → Prop} (h : RM np npr nl σ) (ha : a < 20) (hp : p < npr) (h37 : σ.2.1 37 a = nI p) (h38 : σ.2.1 38 a = gv)
    (hP : ∀ r1 r2, Post (σ.2.1 39 a * srV σ nl R p gv d / 100) (mJ σ g (va_up (va_up R 44 r1) 45 r2))) : wpM_backOf (mJ σ g R) (nI a) d Post := by
  have h10 : npr ≤ 10 := h.2.2.2.1
  have hv : vp_in (nI p) 10 := vp_in_nI (by omega) (by omega)
  have hva : vp_in (nI a) 20 := vp_in_nI (by omega) (by omega)
  have ca : (nI a).toNatClampNeg = a := nI_clamp (by omega)
  have cp : (nI p).toNatClampNeg = p := nI_clamp (by omega)
  unfold wpM_backOf
  rw [ca]
  refine ⟨hva, ?_⟩
  intro y ey
  have ey : y = nI p := ey.trans h37
  subst ey
  refine stateOfM (σ := mJ σ g R) (by omega) ?_
  have est : stJ ((mJ σ g R).2.1 36) (mJ σ g R).2.1 p d = stJ (σ.2.1 36) R p d := rfl
  rw [est]
  have self : mJ σ g (va_up (va_up R 44 (R 44)) 45 (R 45)) = mJ σ g R := by rw [va_self, va_self]
  have z0 : srV σ nl R p gv d = 0 → Post 0 (mJ σ g R) := by
    intro z
    have := hP (R 44) (R 45)
    rw [z, mul0, self] at this
    exact this
  refine ⟨fun c => z0 (by rw [srV, if_pos c]), fun c => ⟨fun c1 => z0 (by rw [srV, if_neg c, if_pos c1]), fun c1 => ?_⟩⟩
  rw [srV, if_neg c, if_neg c1] at hP
  clear z0
  generalize hs : stJ (σ.2.1 36) R p d = s at *
  refine nothingM (σ := mJ σ g R) (by omega) (fun r hr => ?_)
  rw [mJ_A _ _ _ 44 _ (by omega) (by omega)]
  refine ⟨vp_in_nI (n := 10) (by omega) (by omega), ?_⟩
  rintro _ rfl
  rw [mJ_A _ _ _ 44 _ (by omega) (by omega)]
  have e1 : ∀ r2 : Nat → Int32, ∀ i : Nat, ∀ x : Int32, va_up (va_up R 44 r2) 44 (upd ((mJ σ g (va_up R 44 r2)).2.1 44) i x) = va_up R 44 (upd r2 i x) := fun r2 i x => bx_uu _ _ _ _
  have e2 := e1 r 10 s
  have h131 : ∀ r2, EqW r2 (wSV (whV (R 55 p) gv s) (σ.2.1 35 p) (if s ≤ 6 then 0 else R 52 p - R 47 p)) → wpM_backOf_131 Post (mJ σ g (va_up R 44 r2)) (nI a) (nI p) := by
    intro r2 hr2
    refine ruleJ (R := va_up R 44 r2) h (by omega) (by decide) hr2 (fun b => ?_)
    refine ⟨fun c2 => ?_, fun c2 => ?_⟩
    · have := hP r2 b
      rw [shV, if_pos c2, mul0] at this
      exact this
    · refine lawOfM (σ := mJ σ g _) h.2.2.2.2.1 h.2.2.2.2.2.1 (by omega) ?_
      obtain ⟨l, rr, hl, hrr, f1, f2, fr, to, f3, f4, f5⟩ := ru4 (pl := σ.2.1 8) (da := σ.2.1 9) (a := σ.2.1 33 p) (b := σ.2.1 34 p) h.2.2.2.2.2.1 h.2.2.2.2.2.2.1 c2
      have h8 := h.2.2.2.2.2.1
      have f1 : loP σ nl p = nI l := f1
      have f2 : ruV σ (wSV (whV (R 55 p) gv s) (σ.2.1 35 p) (if s ≤ 6 then 0 else R 52 p - R 47 p)) (loP σ nl p) 4 = nI rr := f2
      intro y ey
      have ey : y = nI (16 * l + rr) := by
        rw [ey, f2]
        show 16 * loP σ nl p + nI rr = _
        rw [f1, ix16]
      subst ey
      have hvi : vp_in (nI (16 * l + rr)) 144 := vp_in_nI (by omega) (by omega)
      refine ⟨hvi, hvi, ?_⟩
      rw [nI_clamp (by omega)]
      have g1 : (mJ σ g (va_up (va_up R 44 r2) 45 b)).2.1 13 (16 * l + rr) = nI fr := f3
      have g2 : (mJ σ g (va_up (va_up R 44 r2) 45 b)).2.1 14 (16 * l + rr) = nI to := f4
      rw [g1, g2]
      refine valueM (σ := mJ σ g _) f5 (fun r3 => ?_)
      rw [mJ_A _ _ _ 45 _ (by omega) (by omega)]
      have t1 := f5.2.1
      have t2 := f5.1
      have ev : shV σ (wSV (whV (R 55 p) gv s) (σ.2.1 35 p) (if s ≤ 6 then 0 else R 52 p - R 47 p)) (loP σ nl p) = clV (valM (σ.2.1 23) (σ.2.1 24) r2 fr to) := by
        rw [shV, if_neg c2, f2, f1, nI_clamp (by omega), nI_clamp (by omega), f3, f4, nI_clamp (by omega), nI_clamp (by omega), valM_congr hr2 f5]
      rw [ev] at hP
      change (0 ≤ valM (σ.2.1 23) (σ.2.1 24) r2 fr to → (valM (σ.2.1 23) (σ.2.1 24) r2 fr to ≤ 100 → wpM_backOf_203 Post _ (nI a) (valM (σ.2.1 23) (σ.2.1 24) r2 fr to)) ∧ (¬ valM (σ.2.1 23) (σ.2.1 24) r2 fr to ≤ 100 → _)) ∧ (¬ 0 ≤ valM (σ.2.1 23) (σ.2.1 24) r2 fr to → _)
      have cg := cl_g (valM (σ.2.1 23) (σ.2.1 24) r2 fr to)
      generalize valM (σ.2.1 23) (σ.2.1 24) r2 fr to = e at *
      have fin : ∀ t, clV e = t → wpM_backOf_203 Post (mJ σ g (va_up (va_up (va_up R 44 r2) 45 b) 45 r3)) (nI a) t := by
        rintro _ rfl
        refine ⟨hva, ?_⟩
        rw [ca, bx_uu]
        exact hP r2 r3
      exact ⟨fun d1 => ⟨fun d2 => fin _ ((cg.1 d1).1 d2), fun d2 => fin _ ((cg.1 d1).2 d2)⟩, fun d1 => fin _ (cg.2 d1)⟩
  have h104 : ∀ r2, EqW r2 (wSV (whV (R 55 p) gv s) (σ.2.1 35 p) 0) → wpM_backOf_104 Post (mJ σ g (va_up R 44 r2)) (nI a) (nI p) s := by
    intro r2 hr2
    refine ⟨fun c2 => h131 r2 (by rw [if_pos c2]; exact hr2), fun c2 => ⟨hv, hv, vp_in_nI (n := 11) (by omega) (by omega), ?_⟩⟩
    rintro _ rfl
    rw [cp, mJ_A _ _ _ 44 _ (by omega) (by omega)]
    have e3 := e1 r2 11 (R 52 p - R 47 p)
    change wpM_backOf_131 Post (mJ σ g (va_up (va_up R 44 r2) 44 (upd ((mJ σ g (va_up R 44 r2)).2.1 44) 11 (R 52 p - R 47 p)))) (nI a) (nI p)
    rw [e3]
    refine h131 _ ?_
    rw [if_neg c2]
    intro j hj
    show (if j = 11 then R 52 p - R 47 p else r2 j) = _
    rw [hr2 j hj]
    by_cases e : j = 11
    · subst e; rfl
    · rw [if_neg e]; simp only [wSV, if_neg e]
  have hr1 : ∀ x, EqW (upd r 10 x) (wSV x (σ.2.1 35 p) 0) := by
    intro x j hj
    show (if j = 10 then x else r j) = _
    rw [hr j hj]
    show (if j = 10 then x else if j = 4 then σ.2.1 35 p else 0) = _
    simp only [wSV, ite_self]
  change (s = 9 → vp_in (nI p) 10 ∧ vp_in (nI a) 20 ∧ (R 55 (nI p).toNatClampNeg = 1 + σ.2.1 38 a → wpM_backOf_103 Post (mJ σ g (va_up (va_up R 44 r) 44 (upd ((mJ σ g (va_up R 44 r)).2.1 44) 10 s))) (nI a) (nI p) s 10 9) ∧ (¬ R 55 (nI p).toNatClampNeg = 1 + σ.2.1 38 a → vp_in (nI p) 10 ∧ vp_in (nI a) 20 ∧ (R 55 (nI p).toNatClampNeg = 2 - σ.2.1 38 a → wpM_backOf_103 Post (mJ σ g (va_up (va_up R 44 r) 44 (upd ((mJ σ g (va_up R 44 r)).2.1 44) 10 s))) (nI a) (nI p) s 10 10) ∧ (¬ R 55 (nI p).toNatClampNeg = 2 - σ.2.1 38 a → wpM_backOf_103 Post (mJ σ g (va_up (va_up R 44 r) 44 (upd ((mJ σ g (va_up R 44 r)).2.1 44) 10 s))) (nI a) (nI p) s 10 11))) ∧ (¬ s = 9 → wpM_backOf_104 Post (mJ σ g (va_up (va_up R 44 r) 44 (upd ((mJ σ g (va_up R 44 r)).2.1 44) 10 s))) (nI a) (nI p) s)
  rw [e2, cp, h38]
  have h103 : ∀ t, t = whV (R 55 p) gv s → wpM_backOf_103 Post (mJ σ g (va_up R 44 (upd r 10 s))) (nI a) (nI p) s 10 t := by
    intro t et
    refine ⟨vp_in_nI (n := 10) (by omega) (by omega), ?_⟩
    rintro _ rfl
    rw [mJ_A _ _ _ 44 _ (by omega) (by omega)]
    have e3 := e1 (upd r 10 s) 10 t
    change wpM_backOf_104 Post (mJ σ g (va_up (va_up R 44 (upd r 10 s)) 44 (upd ((mJ σ g (va_up R 44 (upd r 10 s))).2.1 44) 10 t))) (nI a) (nI p) s
    rw [e3, upd_upd, et]
    exact h104 _ (hr1 _)
  refine ⟨fun c2 => ⟨hv, hva, fun c3 => h103 9 ?_, fun c3 => ⟨hv, hva, fun c4 => h103 10 ?_, fun c4 => h103 11 ?_⟩⟩, fun c2 => h104 _ ?_⟩
  · rw [whV, if_pos c2, if_pos (by rw [c3, Int32.add_comm])]
  · rw [whV, if_pos c2, if_neg (by rw [Int32.add_comm]; exact c3), if_pos c4]
  · rw [whV, if_pos c2, if_neg (by rw [Int32.add_comm]; exact c3), if_neg c4]
  · have := hr1 s
    rw [whV, if_neg c2]
    exact this
