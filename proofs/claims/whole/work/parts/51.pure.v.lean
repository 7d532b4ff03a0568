/-! pure level: proofs and effects, the reference's side -/
def loP (σ : MS) (nl p : Nat) : Int32 := loF (σ.2.1 8) (σ.2.1 9) (σ.2.1 33 p) (σ.2.1 34 p) nl
def prV (σ : MS) (np nl n p : Nat) : Int32 := ruV σ (wPV σ np n p) (loP σ nl p) 0
theorem proofOfM {σ : MS} {np nl n p : Nat} {Post : Int32 → MS → Prop} (hn : n ≤ 200) (hnn : σ.1 40 = nI np) (hnp : np ≤ 12) (hp : p < 10) (h1 : isN (σ.2.1 31 p) np) (h2 : isN (σ.2.1 32 p) np) (hO : witOK σ np n)
    (hl : σ.1 18 = nI nl) (hnl : nl ≤ 8) (hR : ∀ l, l < nl → LwM σ l) (hP : ∀ r1 r2, Post (prV σ np nl n p) (mA (mA σ 44 r1) 45 r2)) : wpM_proofOf σ (nI p) (nI n) Post := by
  refine nothingM hp (fun r0 hr0 => ?_)
  -- the fames
  have hfam : ∀ d i, i + d = n → ∀ r, EqW r (wvP (cntF (yesH σ np n p) 120) (cntF (noH σ np n p) 120) (cntF (kinH σ np n p) 120) (cntF (famH σ p) i) (σ.2.1 35 p)) → wpM_proofOf_170 Post (d + 1) (mA σ 44 r) (nI p) (nI n) (nI i) := by
    intro d
    induction d with
    | zero =>
      intro i hi r hr
      obtain rfl : i = n := by omega
      refine ⟨fun _ => ?_, fun y => absurd (Int32.le_refl _) y⟩
      refine ruleOfM (σ := mA σ 44 r) hl hnl hp (by decide) hR (fun r2 => ?_)
      have e : ruV (mA σ 44 r) ((mA σ 44 r).2.1 44) (loF ((mA σ 44 r).2.1 8) ((mA σ 44 r).2.1 9) ((mA σ 44 r).2.1 33 p) ((mA σ 44 r).2.1 34 p) nl) 0 = prV σ np nl i p := ruV_congr (σ := σ) (w := r) (w' := wPV σ np i p) hr hnl (by decide) hR
      rw [e]
      exact hP r r2
    | succ d ih =>
      intro i hi r hr
      have hv : vp_in (nI i) 200 := vp_in_nI (by omega) (by omega)
      have hv3 : vp_in 3 12 := vp_in_nI (n := 3) (by omega) (by omega)
      unfold wpM_proofOf_170
      rw [nI_clamp (by omega)]
      have e40 : (mA σ 44 r).2.1 40 i = σ.2.1 40 i := rfl
      have e41 : (mA σ 44 r).2.1 41 i = σ.2.1 41 i := rfl
      rw [e40, e41]
      refine ⟨fun y => absurd y (nI_ge (by omega) (by omega)), fun _ => ⟨hv, fun c => ⟨hv, fun c1 => ⟨hv3, hv3, ?_⟩, fun c1 => ?_⟩, fun c => ?_⟩⟩
      · rintro _ rfl _ rfl
        rw [mA_same, nI_1]
        refine ih (i + 1) (by omega) _ (fun j2 hj2 => ?_)
        rw [cntF_s (famH σ p) i, if_pos (by simp [famH, c, c1])]
        have := hr j2 hj2
        have h1' := hr 3 (by omega)
        show (if j2 = 3 then r 3 + 1 else r j2) = _
        rw [this, h1']
        by_cases e1 : j2 = 3
        · subst e1; rfl
        · rw [if_neg e1]
          simp only [wvP, if_neg e1]
      · rintro _ rfl
        rw [nI_1]
        refine ih (i + 1) (by omega) _ ?_
        rw [cntF_s (famH σ p) i, if_neg (by simp [famH, c1])]
        exact hr
      · rintro _ rfl
        rw [nI_1]
        refine ih (i + 1) (by omega) _ ?_
        rw [cntF_s (famH σ p) i, if_neg (by simp [famH, c])]
        exact hr
  have hw : ∀ d w, w + d = 120 → ∀ r, EqW r (wvP (cntF (yesH σ np n p) w) (cntF (noH σ np n p) w) (cntF (kinH σ np n p) w) 0 (σ.2.1 35 p)) → wpM_proofOf_7 Post (d + 1) (mA σ 44 r) (nI p) (nI n) (nI w) := by
    intro d
    induction d with
    | zero =>
      intro w hw r hr
      obtain rfl : w = 120 := by omega
      exact ⟨fun _ => ⟨n + 1, hfam n 0 (by omega) r hr⟩, fun y => absurd (by decide) y⟩
    | succ d ih =>
      intro w hw r hr
      refine ⟨fun y => absurd y (nI_ge (b := 120) (by omega) (by omega)), fun _ => ?_⟩
      exact proofWordM hn hnn hnp hp (by omega) h1 h2 hO hr (fun r2 hr2 => ih (w + 1) (by omega) r2 hr2)
  refine ⟨121, hw 120 0 (by omega) r0 (fun j hj => ?_)⟩
  rw [hr0 j hj]
  simp only [wv0, wvP, cntF]
  by_cases e : j = 4
  · subst e; rfl
  · simp [e]
/-- the fact that decides, how, and the day of effect -/
def fiV (σ : MS) (n p : Nat) : Int32 := dcF (fun i => decide ((σ.2.1 40 i = 7 ∨ σ.2.1 40 i = 8) ∧ σ.2.1 41 i = σ.2.1 36 p)) (σ.2.1 43) n
def hwV (σ : MS) (n p : Nat) : Int32 := if σ.2.1 36 p = -1 then 1 else if fiV σ n p = -1 then 0 else if σ.2.1 40 (fiV σ n p).toNatClampNeg = 7 then 1 else 2
def efV (σ : MS) (n p : Nat) : Int32 := if σ.2.1 36 p = -1 then σ.2.1 34 p else if fiV σ n p = -1 then 1000000 else if σ.2.1 43 (fiV σ n p).toNatClampNeg ≤ σ.2.1 34 p then σ.2.1 34 p else σ.2.1 43 (fiV σ n p).toNatClampNeg
theorem m48 (σ : MS) (f g f' : Nat → Int32) : mA (mA (mA σ 47 f) 48 g) 47 f' = mA (mA σ 47 f') 48 g := by
  have : va_up (va_up (va_up σ.2.1 47 f) 48 g) 47 f' = va_up (va_up σ.2.1 47 f') 48 g := by
    funext k
    show (if k = 47 then f' else if k = 48 then g else if k = 47 then f else σ.2.1 k) = (if k = 48 then g else if k = 47 then f' else σ.2.1 k)
    by_cases e : k = 47
    · rw [if_pos e, if_neg (by omega), if_pos e]
    · rw [if_neg e, if_neg e, if_neg e]
  show (σ.1, va_up (va_up (va_up σ.2.1 47 f) 48 g) 47 f', σ.2.2) = _
  rw [this]
  rfl
theorem upd_upd (f : Nat → Int32) (k : Nat) (a b : Int32) : upd (upd f k a) k b = upd f k b := by
  funext j
  simp only [upd_at]
  split <;> rfl
theorem effectsM {σ : MS} {n p : Nat} {Post : MS → Prop} (hn : n ≤ 200) (hp : p < 10) (hP : Post (mA (mA σ 47 (upd (σ.2.1 47) p (efV σ n p))) 48 (upd (σ.2.1 48) p (hwV σ n p)))) : wpM_effects σ (nI p) (nI n) Post := by
  have hv : vp_in (nI p) 10 := vp_in_nI hp (by omega)
  unfold wpM_effects
  rw [nI_clamp (by omega)]
  refine ⟨hv, hv, ?_⟩
  rintro _ rfl
  refine ⟨hv, ?_⟩
  rintro _ rfl
  have e36 : (mA (mA σ 47 (upd (σ.2.1 47) p (σ.2.1 34 p))) 48 (upd ((mA σ 47 (upd (σ.2.1 47) p (σ.2.1 34 p))).2.1 48) p 1)).2.1 36 = σ.2.1 36 := rfl
  rw [e36]
  have e48 : (mA σ 47 (upd (σ.2.1 47) p (σ.2.1 34 p))).2.1 48 = σ.2.1 48 := rfl
  rw [e48]
  refine ⟨hv, fun c => ?_, fun c => ?_⟩
  · rw [efV, if_pos c, hwV, if_pos c] at hP
    exact hP
  · suffices h : ∀ d i, i + d = n → wpM_effects_35 Post (d + 1) (mA (mA σ 47 (upd (σ.2.1 47) p (σ.2.1 34 p))) 48 (upd (σ.2.1 48) p 1)) (nI p) (nI n) (fiV σ i p) (nI i) from ⟨n + 1, h n 0 (by omega)⟩
    intro d
    induction d with
    | zero =>
      intro i hi
      obtain rfl : i = n := by omega
      have h141 : ∀ t : Int32, t = hwV σ i p → wpM_effects_141 Post (mA (mA σ 47 (upd (σ.2.1 47) p (σ.2.1 34 p))) 48 (upd (σ.2.1 48) p 1)) (nI p) (fiV σ i p) (nI p) t := by
        rintro t rfl
        refine ⟨hv, ?_⟩
        rw [nI_clamp (by omega), mA_same]
        have e1 : (mA (mA σ 47 (upd (σ.2.1 47) p (σ.2.1 34 p))) 48 (upd (σ.2.1 48) p 1)).2.1 48 = upd (σ.2.1 48) p 1 := rfl
        rw [e1, upd_upd]
        rintro _ rfl
        refine ⟨fun c1 => ⟨hv, ?_⟩, fun c1 => ?_⟩
        · rintro _ rfl
          rw [m48]
          show Post (mA (mA σ 47 (upd (upd (σ.2.1 47) p (σ.2.1 34 p)) p 1000000)) 48 (upd (σ.2.1 48) p (hwV σ i p)))
          rw [upd_upd]
          rw [efV, if_neg c, if_pos c1] at hP
          exact hP
        · rcases dcF_is (fun i => decide ((σ.2.1 40 i = 7 ∨ σ.2.1 40 i = 8) ∧ σ.2.1 41 i = σ.2.1 36 p)) (σ.2.1 43) i with e | ⟨j, hj, ej, _⟩
          · exact absurd e c1
          · have hv3 : vp_in (fiV σ i p) 200 := by rw [fiV, ej]; exact vp_in_nI (by omega) (by omega)
            refine ⟨hv3, hv, fun c2 => ?_, fun c2 => ⟨hv3, hv, ?_⟩⟩
            · rw [efV, if_neg c, if_neg c1, if_pos (by exact c2)] at hP
              exact hP
            · rintro _ rfl
              rw [m48]
              show Post (mA (mA σ 47 (upd (upd (σ.2.1 47) p (σ.2.1 34 p)) p (σ.2.1 43 (fiV σ i p).toNatClampNeg))) 48 (upd (σ.2.1 48) p (hwV σ i p)))
              rw [upd_upd]
              rw [efV, if_neg c, if_neg c1, if_neg (by exact c2)] at hP
              exact hP
      refine ⟨fun _ => ⟨fun c1 => h141 0 (by rw [hwV, if_neg c, if_pos c1]), fun c1 => ?_⟩, fun y => absurd (Int32.le_refl _) y⟩
      rcases dcF_is (fun i => decide ((σ.2.1 40 i = 7 ∨ σ.2.1 40 i = 8) ∧ σ.2.1 41 i = σ.2.1 36 p)) (σ.2.1 43) i with e | ⟨j, hj, ej, _⟩
      · exact absurd e c1
      · refine ⟨by rw [fiV, ej]; exact vp_in_nI (by omega) (by omega), fun c2 => h141 1 ?_, fun c2 => h141 2 ?_⟩
        · rw [hwV, if_neg c, if_neg c1, if_pos (by exact c2)]
        · rw [hwV, if_neg c, if_neg c1, if_neg (by exact c2)]
    | succ d ih =>
      intro i hi
      replace ih := ih (i + 1) (by omega)
      have hvi : vp_in (nI i) 200 := vp_in_nI (by omega) (by omega)
      have hc : ¬ nI n ≤ nI i := nI_ge (by omega) (by omega)
      have hvf : fiV σ i p = -1 ∨ vp_in (fiV σ i p) 200 := by
        rcases dcF_is (fun i => decide ((σ.2.1 40 i = 7 ∨ σ.2.1 40 i = 8) ∧ σ.2.1 41 i = σ.2.1 36 p)) (σ.2.1 43) i with e | ⟨j, hj, ej, _⟩
        · exact Or.inl e
        · exact Or.inr (by rw [fiV, ej]; exact vp_in_nI (by omega) (by omega))
      have es : fiV σ (i + 1) p = if ((σ.2.1 40 i = 7 ∨ σ.2.1 40 i = 8) ∧ σ.2.1 41 i = σ.2.1 36 p) ∧ (fiV σ i p = -1 ∨ σ.2.1 43 i < σ.2.1 43 (fiV σ i p).toNatClampNeg) then nI i else fiV σ i p := by
        rw [fiV, dcF, fiV]
        simp only [decide_eq_true_eq]
      rw [es] at ih
      unfold wpM_effects_35 wpM_effects_65 wpM_effects_102
      rw [nI_clamp (by omega), nI_clamp (by omega)]
      have e40 : (mA (mA σ 47 (upd (σ.2.1 47) p (σ.2.1 34 p))) 48 (upd (σ.2.1 48) p 1)).2.1 40 = σ.2.1 40 := rfl
      have e41 : (mA (mA σ 47 (upd (σ.2.1 47) p (σ.2.1 34 p))) 48 (upd (σ.2.1 48) p 1)).2.1 41 = σ.2.1 41 := rfl
      have e43 : (mA (mA σ 47 (upd (σ.2.1 47) p (σ.2.1 34 p))) 48 (upd (σ.2.1 48) p 1)).2.1 43 = σ.2.1 43 := rfl
      have e36' : (mA (mA σ 47 (upd (σ.2.1 47) p (σ.2.1 34 p))) 48 (upd (σ.2.1 48) p 1)).2.1 36 = σ.2.1 36 := rfl
      rw [e40, e41, e43, e36']
      simp only [forall_eq, nI_1]
      generalize wpM_effects_35 Post (d + 1) (mA (mA σ 47 (upd (σ.2.1 47) p (σ.2.1 34 p))) 48 (upd (σ.2.1 48) p 1)) (nI p) (nI n) = W at ih ⊢
      clear hP es
      grind
