/-! pure level: a law's rules -/
theorem holdsLoopM {σ : MS} {x pg : Nat} {N : Nat} {tk : Nat → Int32} {Post : Int32 → MS → Prop} (hx : x < 144) (hpg : pg < 9) :
    ∀ n k p b a r, ChE tk N (σ.2.1 18) (σ.2.1 19) (σ.2.1 20) (σ.2.1 21) (σ.2.1 22) (σ.2.1 23) (σ.2.1 24) n (200 * pg + k) p → σ.2.1 16 x = nI (k + n) → k + n ≤ 200 → ((σ.2.1 22 (200 * pg + k) = 1 ∧ a = false ∧ b = true) ∨ (σ.2.1 22 (200 * pg + k) = 0 ∧ a = b)) →
      (∀ r, Post (b2 (chV (σ.2.1 18) (σ.2.1 19) (σ.2.1 20) (σ.2.1 21) (σ.2.1 22) (σ.2.1 23) (σ.2.1 24) (σ.2.1 44) n (200 * pg + k) b)) (mA σ 45 r)) → wpM_holds_27 Post (n + 1) (mA σ 45 r) (nI x) (nI pg) (b2 a) (nI k) := by
  intro n
  induction n with
  | zero => intro k p b a r h; exact absurd h id
  | succ n ih =>
    intro k p b a r h hl hk hab hP
    obtain ⟨q, s, l, r1, e, el, er, ee, E1, ⟨z, hz, ez, eq⟩, E2, tail⟩ := h
    obtain ⟨a1, a2, a3, a4, a5, a6, a7⟩ := E1
    obtain ⟨c1, c2, c3, c4, c5, c6, c7⟩ := E2
    have relE : relV (σ.2.1 18) (σ.2.1 19) (σ.2.1 20) (σ.2.1 21) (σ.2.1 23) (σ.2.1 24) (σ.2.1 44) (200 * pg + k) = cmpM (nI z) (valM (σ.2.1 23) (σ.2.1 24) (σ.2.1 44) l r1) (valM (σ.2.1 23) (σ.2.1 24) (σ.2.1 44) r1 e) := by
      have := c6.1
      have := c6.2.1
      have := a6.1
      rw [relV, ez, el, er, ee, nI_clamp (by omega), nI_clamp (by omega), nI_clamp (by omega)]
    have hv : vp_in (nI x) 144 := vp_in_nI hx (by omega)
    have hv5 : vp_in (nI (200 * pg + k)) 1800 := vp_in_nI (by omega) (by omega)
    have e16 : (mA σ 45 r).2.1 16 (nI x).toNatClampNeg = nI (k + (n + 1)) := by rw [nI_clamp (by omega)]; exact hl
    have cl : (nI (200 * pg + k)).toNatClampNeg = 200 * pg + k := nI_clamp (by omega)
    -- what comes behind a relation
    have h212 : ∀ x' r', x' = (b && relV (σ.2.1 18) (σ.2.1 19) (σ.2.1 20) (σ.2.1 21) (σ.2.1 23) (σ.2.1 24) (σ.2.1 44) (200 * pg + k)) → ∀ y : Int32, y = nI k + 1 → wpM_holds_27 Post (n + 1) (mA σ 45 r') (nI x) (nI pg) (b2 x') y := by
      rintro x' r' hx' _ rfl
      rw [nI_1]
      rcases tail with ⟨n0, t1, t2⟩ | ⟨n0, t1, t2⟩
      · subst n0
        have hP := hP r'
        rw [chV, if_pos rfl, ← hx'] at hP
        refine ⟨hv, fun _ => ⟨nar_b2 x', hP⟩, fun y => absurd (by
          have : (mA σ 45 r').2.1 16 (nI x).toNatClampNeg = nI (k + 1) := by rw [nI_clamp (by omega)]; exact hl
          rw [this]
          exact Int32.le_refl _) y⟩
      · rcases t1 with ⟨t3, t4⟩ | ⟨t3, t4⟩
        · cases hxb : x' with
          | true =>
            have hP := hP r'
            rw [chV, if_neg n0, if_neg (by rw [show 200 * pg + k + 1 = 200 * pg + k + 1 from rfl, t4]; decide), ← hx', if_pos hxb] at hP
            refine ⟨hv, fun y => absurd y (by
              have : (mA σ 45 r').2.1 16 (nI x).toNatClampNeg = nI (k + (n + 1)) := by rw [nI_clamp (by omega)]; exact hl
              rw [this]
              exact nI_ge (by omega) (by omega)), fun _ => ?_⟩
            rintro _ rfl
            rw [ix200, nI_clamp (by omega)]
            have e22 : (mA σ 45 r').2.1 22 (200 * pg + (k + 1)) = 1 := t4
            rw [e22]
            exact ⟨vp_in_nI (by omega) (by omega), fun y => absurd y (by decide), fun _ => ⟨fun y => absurd y (by decide), fun _ => hP⟩⟩
          | false =>
            refine ih (k + 1) (s + 1) true false r' t2 (by rw [hl]; congr 1; omega) (by omega) (Or.inl ⟨t4, rfl, rfl⟩) (fun r2 => ?_)
            have hP := hP r2
            rw [chV, if_neg n0, if_neg (by rw [t4]; decide), ← hx', hxb, if_neg (by decide)] at hP
            exact hP
        · refine ih (k + 1) (s + 1) x' x' r' t2 (by rw [hl]; congr 1; omega) (by omega) (Or.inr ⟨t4, rfl⟩) (fun r2 => ?_)
          have hP := hP r2
          rw [chV, if_neg n0, if_pos t4, ← hx'] at hP
          exact hP
    have h76 : ∀ r, wpM_holds_76 (fun a0 a1 a2 a3 a4 => wpM_holds_27 Post (n + 1) a0 a1 a2 a3 a4) Post (mA σ 45 r) (nI x) (nI pg) (b2 b) (nI k) (nI (200 * pg + k)) := by
      intro r
      refine ⟨fun y => ?_, fun y => ⟨hv5, hv5, ?_⟩⟩
      · have hb := (b2_0 b).mp y
        have := h212 false r (by rw [hb]; rfl)
        rw [hb]
        exact this
      · have hb : b = true := by cases b with
          | true => rfl
          | false => exact absurd rfl y
        rw [cl]
        have el' : (mA σ 45 r).2.1 19 (200 * pg + k) = nI l := el
        have er' : (mA σ 45 r).2.1 20 (200 * pg + k) = nI r1 := er
        rw [el', er']
        refine valueM (σ := mA σ 45 r) a6 (fun r2 => ⟨hv5, hv5, ?_⟩)
        rw [mA_same]
        have er2 : (mA σ 45 r2).2.1 20 (200 * pg + k) = nI r1 := er
        have ee2 : (mA σ 45 r2).2.1 21 (200 * pg + k) = nI e := ee
        rw [er2, ee2]
        refine valueM (σ := mA σ 45 r2) c6 (fun r3 => ?_)
        rw [mA_same]
        have ez3 : (mA σ 45 r3).2.1 18 (200 * pg + k) = nI z := ez
        have eA : valM ((mA σ 45 r).2.1 23) ((mA σ 45 r).2.1 24) ((mA σ 45 r).2.1 44) l r1 = valM (σ.2.1 23) (σ.2.1 24) (σ.2.1 44) l r1 := rfl
        have eB : valM ((mA σ 45 r2).2.1 23) ((mA σ 45 r2).2.1 24) ((mA σ 45 r2).2.1 44) r1 e = valM (σ.2.1 23) (σ.2.1 24) (σ.2.1 44) r1 e := rfl
        rw [ez3, eA, eB]
        rw [hb, relE] at h212
        generalize valM (σ.2.1 23) (σ.2.1 24) (σ.2.1 44) l r1 = A at h212 ⊢
        generalize valM (σ.2.1 23) (σ.2.1 24) (σ.2.1 44) r1 e = B at h212 ⊢
        have b1 : b2 true = 1 := rfl
        have b0 : b2 false = 0 := rfl
        have hT := h212 true r3
        have hF := h212 false r3
        rw [b1] at hT
        rw [b0] at hF
        have h4 : z = 0 ∨ z = 1 ∨ z = 2 ∨ z = 3 := by omega
        rcases h4 with q | q | q | q <;> subst q
        · rw [show cmpM (nI 0) A B = decide (A = B) from by rw [cmpM, if_pos (by decide)]] at hT hF
          refine ⟨hv5, fun _ => ⟨fun c => hT (by simp [c]), fun c => hF (by simp [c])⟩, fun c => absurd (by decide) c⟩
        · rw [show cmpM (nI 1) A B = decide (¬ A = B) from by rw [cmpM, if_neg (by decide), if_pos (by decide)]] at hT hF
          refine ⟨hv5, fun c => absurd c (by decide), fun _ => ⟨hv5, fun _ => ⟨fun c => hF (by simp [c]), fun c => hT (by simp [c])⟩, fun c => absurd (by decide) c⟩⟩
        · rw [show cmpM (nI 2) A B = decide (¬ B ≤ A) from by rw [cmpM, if_neg (by decide), if_neg (by decide), if_pos (by decide)]] at hT hF
          refine ⟨hv5, fun c => absurd c (by decide), fun _ => ⟨hv5, fun c => absurd c (by decide), fun _ => ⟨hv5, fun _ => ⟨fun c => hF (by rw [decide_eq_false (fun y => y c)]; rfl), fun c => hT (by rw [decide_eq_true c]; rfl)⟩, fun c => absurd (by decide) c⟩⟩⟩
        · rw [show cmpM (nI 3) A B = decide (¬ B < A) from by rw [cmpM, if_neg (by decide), if_neg (by decide), if_neg (by decide)]] at hT hF
          refine ⟨hv5, fun c => absurd c (by decide), fun _ => ⟨hv5, fun c => absurd c (by decide), fun _ => ⟨hv5, fun c => absurd c (by decide), fun _ => ⟨fun c => hF (by rw [decide_eq_false (fun y => y c)]; rfl), fun c => hT (by rw [decide_eq_true c]; rfl)⟩⟩⟩⟩
    refine ⟨hv, fun y => absurd y (by rw [e16]; exact nI_ge (by omega) (by omega)), fun _ => ?_⟩
    rintro _ rfl
    rw [ix200, cl]
    rcases hab with ⟨ho, ha, hb⟩ | ⟨ho, ha⟩
    · have e22 : (mA σ 45 r).2.1 22 (200 * pg + k) = 1 := ho
      rw [e22, ha]
      refine ⟨hv5, fun y => absurd y (by decide), fun _ => ⟨fun _ => ⟨hv5, fun y => absurd (by rw [cl] at y; exact e22.symm.trans y) (by decide), fun _ => ?_⟩, fun y => absurd rfl y⟩⟩
      have := h76 r
      rw [hb] at this
      exact this
    · have e22 : (mA σ 45 r).2.1 22 (200 * pg + k) = 0 := ho
      rw [e22, ha]
      exact ⟨hv5, fun _ => ⟨hv5, fun _ => h76 r, fun y => absurd (by rw [cl]; exact e22) y⟩, fun y => absurd rfl y⟩
