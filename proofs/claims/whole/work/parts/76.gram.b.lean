/-! the class reads a text -/
theorem stE_bd {s d w' s' d' : Nat} {t : Int32} (h : stE s d t = some (w', s', d')) (hs : s ≤ 2) : w' ≤ 5 ∧ s' ≤ 2 ∧ d' = d := by
  unfold stE at h
  by_cases c1 : t = 10020
  · rw [if_pos c1] at h
    by_cases c2 : s = 0
    · rw [if_pos c2] at h; exact absurd h (by simp)
    · rw [if_neg c2] at h
      simp only [Option.some.injEq, Prod.mk.injEq] at h; omega
  · rw [if_neg c1] at h
    by_cases c2 : s = 0
    · rw [if_pos c2] at h
      by_cases c3 : ¬ t < 10024 ∧ ¬ 10027 < t
      · rw [if_pos c3] at h
        simp only [Option.some.injEq, Prod.mk.injEq] at h; omega
      · rw [if_neg c3] at h; exact absurd h (by simp)
    · rw [if_neg c2] at h
      by_cases c3 : s = 2
      · rw [if_pos c3] at h
        by_cases c4 : t = 10005
        · rw [if_pos c4] at h
          simp only [Option.some.injEq, Prod.mk.injEq] at h; omega
        · rw [if_neg c4] at h; exact absurd h (by simp)
      · rw [if_neg c3] at h
        by_cases c4 : t = 10007 ∨ t = 10006
        · rw [if_pos c4] at h
          simp only [Option.some.injEq, Prod.mk.injEq] at h; omega
        · rw [if_neg c4] at h; exact absurd h (by simp)
theorem stp_bd {w s d w' s' d' : Nat} {t : Int32} (h : stp w s d t = some (w', s', d')) (hs : s ≤ 2) : w' ≤ 5 ∧ s' ≤ 2 ∧ d' ≤ d + 1 := by
  unfold stp at h
  by_cases h0 : w = 0
  · rw [if_pos h0] at h
    by_cases c1 : t = 10003
    · rw [if_pos c1] at h
      simp only [Option.some.injEq, Prod.mk.injEq] at h; omega
    · rw [if_neg c1] at h
      by_cases c2 : t = 10004
      · rw [if_pos c2] at h
        simp only [Option.some.injEq, Prod.mk.injEq] at h; omega
      · rw [if_neg c2] at h
        by_cases c3 : t = 10000 ∨ t = 10001 ∨ t = 10002
        · rw [if_pos c3] at h
          simp only [Option.some.injEq, Prod.mk.injEq] at h; omega
        · rw [if_neg c3] at h; exact absurd h (by simp)
  rw [if_neg h0] at h
  by_cases h1 : w = 1
  · rw [if_pos h1] at h
    by_cases c1 : t = 10005
    · rw [if_pos c1] at h
      simp only [Option.some.injEq, Prod.mk.injEq] at h; omega
    · rw [if_neg c1] at h; exact absurd h (by simp)
  rw [if_neg h1] at h
  by_cases h2 : w = 2
  · rw [if_pos h2] at h
    by_cases c1 : isIb t = true
    · rw [if_pos c1] at h
      simp only [Option.some.injEq, Prod.mk.injEq] at h; omega
    · rw [if_neg c1] at h; exact absurd h (by simp)
  rw [if_neg h2] at h
  by_cases h3 : w = 3
  · rw [if_pos h3] at h
    by_cases c1 : t = 10020
    · rw [if_pos c1] at h
      simp only [Option.some.injEq, Prod.mk.injEq] at h; omega
    · rw [if_neg c1] at h; exact absurd h (by simp)
  rw [if_neg h3] at h
  by_cases h4 : w = 4
  · rw [if_pos h4] at h
    by_cases c1 : t = 10028
    · rw [if_pos c1] at h
      simp only [Option.some.injEq, Prod.mk.injEq] at h; omega
    · rw [if_neg c1] at h
      by_cases c2 : isIb t = true ∨ isVb t = true
      · rw [if_pos c2] at h
        simp only [Option.some.injEq, Prod.mk.injEq] at h; omega
      · rw [if_neg c2] at h; exact absurd h (by simp)
  rw [if_neg h4] at h
  by_cases c1 : t = 10029
  · rw [if_pos c1] at h
    by_cases c2 : d = 0
    · rw [if_pos c2] at h; exact absurd h (by simp)
    · rw [if_neg c2] at h
      simp only [Option.some.injEq, Prod.mk.injEq] at h; omega
  · rw [if_neg c1] at h
    by_cases c2 : t = 10021 ∨ t = 10022 ∨ t = 10023
    · rw [if_pos c2] at h
      simp only [Option.some.injEq, Prod.mk.injEq] at h; omega
    · rw [if_neg c2] at h
      by_cases c3 : d = 0
      · rw [if_pos c3] at h
        have := stE_bd h hs
        omega
      · rw [if_neg c3] at h; exact absurd h (by simp)
theorem stp_m2 (w s d : Nat) : stp w s d (-2) = none := by
  have z1 : ¬ isIb (-2) = true := by decide
  have z2 : ¬ isVb (-2) = true := by decide
  have ze : stE s d (-2) = none := by
    rw [stE, if_neg (by decide), if_neg (show ¬ (¬ (-2 : Int32) < 10024 ∧ ¬ (10027 : Int32) < -2) by decide), if_neg (show ¬ (-2 : Int32) = 10005 by decide), if_neg (show ¬ ((-2 : Int32) = 10007 ∨ (-2 : Int32) = 10006) by decide), ite_self, ite_self]
  rw [stp, if_neg (show ¬ (-2 : Int32) = 10003 by decide), if_neg (show ¬ (-2 : Int32) = 10004 by decide), if_neg (show ¬ ((-2 : Int32) = 10000 ∨ (-2 : Int32) = 10001 ∨ (-2 : Int32) = 10002) by decide), if_neg (show ¬ (-2 : Int32) = 10005 by decide), if_neg z1, if_neg (show ¬ (-2 : Int32) = 10020 by decide), if_neg (show ¬ (-2 : Int32) = 10028 by decide), if_neg (show ¬ (isIb (-2) = true ∨ isVb (-2) = true) from fun q => q.elim z1 z2), if_neg (show ¬ (-2 : Int32) = 10029 by decide), if_neg (show ¬ ((-2 : Int32) = 10021 ∨ (-2 : Int32) = 10022 ∨ (-2 : Int32) = 10023) by decide), ze]
  simp
theorem aSt_ws {tk : Nat → Int32} {j : Nat} : ∀ w s d rc, aSt tk j = some (w, s, d, rc) → w ≤ 5 ∧ s ≤ 2 := by
  induction j with
  | zero =>
    intro w s d rc h
    simp only [aSt, Option.some.injEq, Prod.mk.injEq] at h
    omega
  | succ j ih =>
    intro w s d rc h
    obtain ⟨w1, s1, d1, rc1, h1, _, h2, _, _⟩ := aSt_inv h
    have := stp_bd h2 (ih w1 s1 d1 rc1 h1).2
    exact ⟨this.1, this.2.1⟩
/-- what the class has gathered -/
def Gat (tk : Nat → Int32) (i : Nat) (r4 r5 : Nat → Int32) : Prop := (∀ j, j < i → r4 j = tk j) ∧ ∀ j s d r, j < i → aSt tk j = some (0, s, d, r) → r5 r = nI j
theorem parseLoopC {σ : CS} {b : Nat → Int32} {n : Nat} {Post : Int32 → CS → Prop} (hb : σ.2.1 2 = b) (hn : n ≤ 2000) (h21 : σ.1 21 = nI n)
    (hP : ∀ f j F r4 r5, Vd (tkF b n) f j → F 22 = nI (plF b n j) → (f = 0 → ∃ s d rc, aSt (tkF b n) j = some (0, s, d, rc) ∧ F 62 = nI j ∧ F 63 = nI rc ∧ Gat (tkF b n) j r4 r5) → Post (nI f) (pC σ F r4 r5)) :
    ∀ d i F r4 r5 w s dp rc, i + d = 401 → aSt (tkF b n) i = some (w, s, dp, rc) → F 23 = nI (posF b n i) → F 62 = nI i → F 63 = nI rc → F 64 = nI w → (4 ≤ w → F 65 = nI s) → F 66 = nI dp → Gat (tkF b n) i r4 r5 → wpC_X3_parse_26 Post (d + 1) (pC σ F r4 r5) (nI i) := by
  intro d
  induction d with
  | zero =>
    intro i F r4 r5 w s dp rc hi hA
    have := (aSt_bd hA).1
    omega
  | succ d ih =>
    intro i F r4 r5 w s dp rc hi hA f23 f62 f63 f64 f65 f66 hG
    obtain ⟨a1, a2, a3⟩ := aSt_bd hA
    obtain ⟨a4, a5⟩ := aSt_ws _ _ _ _ hA
    refine ⟨fun q => absurd q (nI_nlt (b := 400) (a := i) |> fun _ => ?_), fun _ => ?_⟩
    · exact nI_nlt (a := 400) (b := i) (by omega) (by omega)
    refine tokenC (σ := pC σ F r4 r5) hb hn h21 f23 (posF_le i) (fun e he => ?_)
    have etk : lxT b n (posF b n i) = tkF b n i := rfl
    have epl : lxS b n (posF b n i) = plF b n i := rfl
    rw [etk] at he ⊢
    rw [epl, pC_F _ _ _ _ _ _ (by omega), pC_F _ _ _ _ _ _ (by omega)]
    have k64 : (pC σ (va_up (va_up F 22 (nI (plF b n i))) 23 (nI e)) r4 r5).1 64 = nI w := f64
    refine ⟨fun c => ?_, fun c => ?_⟩
    · rw [k64]
      refine ⟨fun c1 => ?_, fun c1 => ?_⟩
      · have ew : w = 0 := (nI_eq (a := w) (b := 0) (by omega) (by omega)).mp c1
        subst ew
        exact hP 0 i _ r4 r5 ⟨0, s, dp, rc, hA, Or.inl ⟨c, rfl⟩⟩ rfl (fun _ => ⟨s, dp, rc, hA, f62, f63, hG⟩)
      · have ew : ¬ w = 0 := fun z => c1 (by rw [z]; rfl)
        exact hP 1 i _ r4 r5 ⟨w, s, dp, rc, hA, Or.inl ⟨c, by rw [if_neg ew]⟩⟩ rfl (fun z => absurd z (by decide))
    · refine goesOnC a4 a3 a5 a2 f63 f64 f65 f66 (fun w' s' d' F' r5' hst hF hr5 => ⟨fun z => absurd z no1, fun _ => ?_⟩) (fun hst F' r5' h22 => ⟨fun _ => ?_, fun z => absurd rfl z⟩)
      · obtain ⟨b1, b2', b3, b4, b5, b6, b7⟩ := hF
        have room : (400 ≤ i ∨ 16 < rcN w rc ∨ 6 < d') → Post (nI 2) (pC σ F' r4 r5') := fun z => hP 2 i F' r4 r5' ⟨w, s, dp, rc, hA, Or.inr (Or.inr ⟨c, rfl, w', s', d', hst, z⟩)⟩ b1 (fun z => absurd z (by decide))
        have hd7 : d' ≤ 7 := by
          have := stp_bd hst a5
          omega
        have hrc17 : rcN w rc ≤ 17 := by unfold rcN; split <;> omega
        have k63 : (pC σ F' r4 r5').1 63 = nI (rcN w rc) := b4
        have k66 : (pC σ F' r4 r5').1 66 = nI d' := b7
        rw [k63, k66]
        refine ⟨fun c1 => room (Or.inl ?_), fun c1 => ⟨fun c2 => room (Or.inr (Or.inl ?_)), fun c2 => ⟨fun c3 => ⟨?_, ?_⟩, fun c3 => room (Or.inr (Or.inr ?_))⟩⟩⟩
        · exact (nI_leI (a := 400) (by omega) (by omega)).mp c1
        · exact (nI_ltI (a := 16) (by omega) (by omega)).mp c2
        · have : ¬ 400 ≤ i := fun z => c1 (nI_le (a := 400) z (by omega))
          exact vp_in_nI (by omega) (by omega)
        · have q1 : ¬ 400 ≤ i := fun z => c1 (nI_le (a := 400) z (by omega))
          have q2 : ¬ 16 < rcN w rc := fun z => c2 (nI_lt (a := 16) z (by omega))
          have q3 : d' ≤ 6 := (nI_leI (b := 6) (by omega) (by omega)).mp c3
          have hA' := aSt_s hA c hst (by omega)
          rintro _ rfl _ rfl _ rfl
          rw [pC_4, pC_F _ _ _ _ _ _ (by omega), nI_clamp (by omega), nI_1]
          have hne : ¬ tkF b n i = -2 := by
            intro z
            rw [z, stp_m2] at hst
            exact absurd hst (by simp)
          have ee : e = posF b n (i + 1) := he hne
          refine ih (i + 1) _ _ r5' w' s' d' (rcN w rc) (by omega) hA' ?_ rfl b4 b5 b6 b7 ⟨fun j hj => ?_, fun j s1 d1 r hj h1 => ?_⟩
          · show F' 23 = _
            rw [b2', ← ee]
            rfl
          · show (if j = i then tkF b n i else r4 j) = _
            by_cases ej : j = i
            · rw [if_pos ej, ej]
            · rw [if_neg ej]; exact hG.1 j (by omega)
          · rw [hr5 r]
            by_cases ej : j = i
            · subst ej
              rw [hA] at h1
              simp only [Option.some.injEq, Prod.mk.injEq] at h1
              obtain ⟨e1, e2, e3, e4⟩ := h1
              have : rcN w rc = rc + 1 := by rw [rcN, if_pos e1]
              rw [if_pos ⟨e1, e4.symm, by omega⟩]
              exact f62
            · rw [if_neg, hG.2 j s1 d1 r (by omega) h1]
              rintro ⟨z1, z2, _⟩
              -- at j the count was r, and it has grown since
              have mono : ∀ k x w1 s2 d2 r1 w3 s3 d3 r3, aSt (tkF b n) k = some (w1, s2, d2, r1) → aSt (tkF b n) (k + x) = some (w3, s3, d3, r3) → r1 ≤ r3 := by
                intro k x
                induction x with
                | zero =>
                  intro w1 s2 d2 r1 w3 s3 d3 r3 g1 g2
                  rw [Nat.add_zero, g1] at g2
                  simp only [Option.some.injEq, Prod.mk.injEq] at g2
                  omega
                | succ x ihx =>
                  intro w1 s2 d2 r1 w3 s3 d3 r3 g1 g2
                  obtain ⟨w4, s4, d4, r4', g3, _, _, _, g4⟩ := aSt_inv (j := k + x) g2
                  have := ihx w1 s2 d2 r1 w4 s4 d4 r4' g1 g3
                  have : r4' ≤ rcN w4 r4' := by unfold rcN; split <;> omega
                  omega
              obtain ⟨⟨w5, s5, d5, r5''⟩, g5⟩ := aSt_pre (j + 1) (show j + 1 ≤ i by omega) ⟨_, hA⟩
              obtain ⟨w6, s6, d6, r6, g6, _, _, _, g7⟩ := aSt_inv g5
              rw [h1] at g6
              simp only [Option.some.injEq, Prod.mk.injEq] at g6
              obtain ⟨e1, e2, e3, e4⟩ := g6
              have g8 : r5'' = r + 1 := by rw [g7, ← e1, ← e4]; rfl
              have := mono (j + 1) (i - (j + 1)) _ _ _ _ w s dp rc g5 (by rw [show j + 1 + (i - (j + 1)) = i by omega]; exact hA)
              omega
        · exact Nat.not_le.mp (fun z => c3 (nI_le (b := 6) z (by omega)))
      · exact hP 1 i F' r4 r5' ⟨w, s, dp, rc, hA, Or.inr (Or.inl ⟨c, hst, rfl⟩)⟩ h22 (fun z => absurd z (by decide))
theorem parseC {σ : CS} {b : Nat → Int32} {n : Nat} {Post : Int32 → CS → Prop} (hb : σ.2.1 2 = b) (hn : n ≤ 2000) (h21 : σ.1 21 = nI n)
    (hP : ∀ f j F r4 r5, Vd (tkF b n) f j → F 22 = nI (plF b n j) → (f = 0 → ∃ s d rc, aSt (tkF b n) j = some (0, s, d, rc) ∧ F 62 = nI j ∧ F 63 = nI rc ∧ Gat (tkF b n) j r4 r5) → Post (nI f) (pC σ F r4 r5)) : wpC_X3_parse σ Post := by
  rintro _ rfl _ rfl _ rfl _ rfl _ rfl _ rfl
  have e : cF (cF (cF (cF (cF (cF σ 22 0) 23 0) 62 0) 63 0) 64 0) 66 0 = pC σ (va_up (va_up (va_up (va_up (va_up (va_up σ.1 22 0) 23 0) 62 0) 63 0) 64 0) 66 0) (σ.2.1 4) (σ.2.1 5) := by
    have h := pC_self σ
    rw [← pC_F _ _ _ _ 66 _ (by omega), ← pC_F _ _ _ _ 64 _ (by omega), ← pC_F _ _ _ _ 63 _ (by omega), ← pC_F _ _ _ _ 62 _ (by omega), ← pC_F _ _ _ _ 23 _ (by omega), ← pC_F _ _ _ _ 22 _ (by omega), h]
  rw [e]
  exact ⟨402, parseLoopC hb hn h21 hP 401 0 _ _ _ 0 0 0 0 (by omega) rfl rfl rfl rfl rfl (fun z => absurd z (by omega)) rfl ⟨fun j hj => absurd hj (by omega), fun j s d r hj => absurd hj (by omega)⟩⟩
