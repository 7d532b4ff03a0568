/-! pure level: all judgements, the class's side -/
theorem js_54 {σ : MS} {np npr nl n k : Nat} {R : Nat → Nat → Int32} : jStep σ np npr nl n R k 54 k = R 54 k := by
  unfold jStep
  simp
theorem js_55 {σ : MS} {np npr nl n k : Nat} {R : Nat → Nat → Int32} : jStep σ np npr nl n R k 55 k = R 55 k := by
  unfold jStep
  simp
theorem js_ne {σ : MS} {np npr nl n k j q : Nat} {R : Nat → Nat → Int32} (hq : ¬ q = k) (h : ¬ (baV σ np nl n k (R 47 k) = -1 ∧ voV σ npr nl R k = -1)) : jStep σ np npr nl n R k j q = R j q := by
  unfold jStep
  rw [if_neg hq, if_neg (fun z => h ⟨z.1, z.2.1⟩)]
theorem js_eR {σ : MS} {np npr nl n k j q : Nat} {R : Nat → Nat → Int32} (hq : ¬ q = k) (hn : q < npr) (h1 : baV σ np nl n k (R 47 k) = -1) (h2 : voV σ npr nl R k = -1) : jStep σ np npr nl n R k j q = eR σ R k npr j q := by
  unfold jStep eR
  rw [if_neg hq]
  have : (baV σ np nl n k (R 47 k) = -1 ∧ voV σ npr nl R k = -1 ∧ rvV σ R q k = true) ↔ (rvV σ R q k = true ∧ q < npr) := ⟨fun z => ⟨z.2.2, hn⟩, fun z => ⟨h1, h2, z.1⟩⟩
  simp only [this]
theorem cR_congr {R S : Nat → Nat → Int32} {q : Nat} (h : ∀ j, R j q = S j q) (j : Nat) : cR R j q = cR S j q := by
  unfold cR vdR
  rw [h 46, h 47, h 48, h 49, h 50, h 51, h 52, h 53, h 54, h 55]
theorem settleC {σx : CS} {σm : MS} {R R' : Nat → Nat → Int32} {v : Int32} {np npr nf nl n k : Nat} {Post : CS → Prop} (h : BH np npr nf nl σx σm) (hn : n ≤ nf) (hN : Nx npr R k) (hE : EqC npr R' (cR R))
    (hP : ∀ R2 v2, EqC npr R2 (cR (jStep σm np npr nl n R k)) → Post (cJ σx v2 (nI n) R2)) : wpC_X4_settle (cJ σx v (nI n) R') (nI k) Post := by
  have hB := h.2.1
  have hD := h.2.2.2
  have h10 := hB.1
  have hk : k < npr := hN.2.1
  have hv : vp_in (nI k) 10 := vp_in_nI (by omega) (by omega)
  have ck : (nI k).toNatClampNeg = k := nI_clamp (by omega)
  obtain ⟨w1, w2, w3, w4⟩ := hN.2.2
  obtain ⟨i1, i2, i3, i4, i5⟩ := (hN.1.1 k hk).2.1 w1
  have hkk : rvV σm R k k = false := by simp [rvV]
  have g37 : R' 37 k = R 47 k := by
    rw [hE 37 k (by omega) (by omega) hk]
    exact capV_d w4
  -- at k: what the rows are
  have vk : ∀ S : Nat → Nat → Int32, S 46 k = R 46 k → S 48 k = R 48 k → ¬ S 49 k = 0 → vdR S k = if ¬ S 50 k = -1 then 4 else if ¬ S 51 k = -1 then 5 else 6 := by
    intro S a1 a2 a3
    unfold vdR
    rw [a1, if_neg w2, a2, w3, if_neg (by decide), if_neg (by decide), if_neg a3]
  have n49 : ¬ jStep σm np npr nl n R k 49 k = 0 := by rw [js_49, if_pos rfl]; decide
  have vj := vk (jStep σm np npr nl n R k) (js_lo (by omega)) (js_lo (by omega)) n49
  rw [js_50, js_51, if_pos rfl, if_pos rfl] at vj
  refine firstBarC h hn hk g37 w4 (fun R1 v1 hS1 => ⟨hv, ?_⟩)
  rintro _ rfl
  rw [ck, cJ_A _ _ _ _ 39 _ (by omega) (by omega)]
  change vp_in (nI k) 10 ∧ (upd (R1 39) k (baV σm np nl n k (R 47 k)) k = -1 → wpC_X4_firstUnyielding (cJ σx v1 (nI n) (va_up R1 39 (upd (R1 39) k (baV σm np nl n k (R 47 k))))) (nI k) _) ∧ (¬ upd (R1 39) k (baV σm np nl n k (R 47 k)) k = -1 → vp_in (nI k) 10 ∧ ∀ σ19 : CS, σ19 = cA (cJ σx v1 (nI n) (va_up R1 39 (upd (R1 39) k (baV σm np nl n k (R 47 k))))) 38 (upd (R1 38) k 4) → Post σ19)
  rw [pk_us]
  have q2 : ∀ j q, 36 ≤ j → j ≤ 44 → q < npr → (va_up R1 39 (upd (R1 39) k (baV σm np nl n k (R 47 k)))) j q = if j = 39 ∧ q = k then baV σm np nl n k (R 47 k) else cR R j q := by
    intro j q j1 j2 hq
    show (if j = 39 then upd (R1 39) k (baV σm np nl n k (R 47 k)) else R1 j) q = _
    by_cases e : j = 39
    · rw [if_pos e, upd_at]
      by_cases eq : q = k
      · rw [if_pos eq, if_pos ⟨e, eq⟩]
      · rw [if_neg eq, if_neg (fun z => eq z.2), hS1 39 (by omega) (by omega), hE 39 q (by omega) (by omega) hq, e]
    · rw [if_neg e, if_neg (fun z => e z.1), hS1 j j1 j2, hE j q j1 j2 hq]
  refine ⟨hv, fun c => ?_, fun c => ⟨hv, ?_⟩⟩
  · have hE2 : EqC npr (va_up R1 39 (upd (R1 39) k (baV σm np nl n k (R 47 k)))) (cR R) := by
      intro j q j1 j2 hq
      rw [q2 j q j1 j2 hq]
      split
      · next z => rw [z.1, z.2, c]; exact i1.symm
      · rfl
    revert hE2
    generalize va_up R1 39 (upd (R1 39) k (baV σm np nl n k (R 47 k))) = R2
    intro hE2
    rw [if_pos c] at vj
    refine ⟨hv, hv, ?_⟩
    rw [ck]
    refine lawOnE (σx := cJ σx v1 (nI n) R2) (σm := σm) (nl := nl) hD ⟨npr + 1, unyieldC h hN hE2 (fun R3 v3 hS3 => ⟨hv, ?_⟩) npr 0 (by omega) rfl R2 v1 (fun _ _ => rfl)⟩
    rintro _ rfl
    rw [cJ_A _ _ _ _ 40 _ (by omega) (by omega)]
    change vp_in (nI k) 10 ∧ (upd (R3 40) k (voV σm npr nl R k) k = -1 → wpC_X4_endRivals (cJ σx v3 (nI n) (va_up R3 40 (upd (R3 40) k (voV σm npr nl R k)))) (nI k) _) ∧ (¬ upd (R3 40) k (voV σm npr nl R k) k = -1 → vp_in (nI k) 10 ∧ ∀ σ17 : CS, σ17 = cA (cJ σx v3 (nI n) (va_up R3 40 (upd (R3 40) k (voV σm npr nl R k)))) 38 (upd (R3 38) k 5) → Post σ17)
    rw [pk_us]
    have q4 : ∀ j q, 36 ≤ j → j ≤ 44 → q < npr → (va_up R3 40 (upd (R3 40) k (voV σm npr nl R k))) j q = if j = 40 ∧ q = k then voV σm npr nl R k else cR R j q := by
      intro j q j1 j2 hq
      show (if j = 40 then upd (R3 40) k (voV σm npr nl R k) else R3 j) q = _
      by_cases e : j = 40
      · rw [if_pos e, upd_at]
        by_cases eq : q = k
        · rw [if_pos eq, if_pos ⟨e, eq⟩]
        · rw [if_neg eq, if_neg (fun z => eq z.2), hS3 40 (by omega), hE2 40 q (by omega) (by omega) hq, e]
      · rw [if_neg e, if_neg (fun z => e z.1), hS3 j j1, hE2 j q j1 j2 hq]
    refine ⟨hv, fun c2 => ?_, fun c2 => ⟨hv, ?_⟩⟩
    · have hE4 : EqC npr (va_up R3 40 (upd (R3 40) k (voV σm npr nl R k))) (cR (eR σm R k 0)) := by
        intro j q j1 j2 hq
        have e0 : cR (eR σm R k 0) j q = cR R j q := cR_congr (fun j => by unfold eR; rw [if_neg (fun z => absurd z.2 (by omega))]) j
        rw [e0, q4 j q j1 j2 hq]
        split
        · next z => rw [z.1, z.2, c2]; exact i2.symm
        · rfl
      revert hE4
      generalize va_up R3 40 (upd (R3 40) k (voV σm npr nl R k)) = R4
      intro hE4
      rw [if_neg (fun z => z c), if_neg (fun z => z c2)] at vj
      refine ⟨npr + 1, endRivalsLoopC h hN (fun R5 h5 => ⟨hv, ?_⟩) npr 0 (by omega) R4 hE4⟩
      rintro _ rfl
      rw [cJ_A _ _ _ _ 38 _ (by omega) (by omega)]
      have ek : ∀ j, eR σm R k npr j k = R j k := fun j => by unfold eR; rw [hkk]; simp
      have k37 : R5 37 k = R 47 k := by
        rw [h5 37 k (by omega) (by omega) hk]
        show capV (eR σm R k npr 47 k) = _
        rw [ek]
        exact capV_d w4
      have k41 : R5 41 k = 10000 := by
        rw [h5 41 k (by omega) (by omega) hk]
        show capV (eR σm R k npr 52 k) = _
        rw [ek, i3]
        rfl
      have k42 : R5 42 k = 0 := by
        rw [h5 42 k (by omega) (by omega) hk]
        show eR σm R k npr 53 k = _
        rw [ek, i4]
      refine findEndC h hn hk (R := va_up R5 38 _) k37 k41 k42 (fun R7 v7 h7 => hP _ _ (fun j q j1 j2 hq => ?_))
      have h6 : (va_up R5 38 (upd ((cJ σx v3 (nI n) R5).2.1 38) k 6)) j q = if j = 38 ∧ q = k then 6 else R5 j q := by
        show (if j = 38 then upd (R5 38) k 6 else R5 j) q = _
        by_cases e : j = 38
        · rw [if_pos e, upd_at]
          by_cases eq : q = k
          · rw [if_pos eq, if_pos ⟨e, eq⟩]
          · rw [if_neg eq, if_neg (fun z => eq z.2), e]
        · rw [if_neg e, if_neg (fun z => e z.1)]
      have h7 := h7 j q j1 j2
      rw [h6] at h7
      rw [h7, h5 j q j1 j2 hq]
      by_cases eq : q = k
      · rw [if_pos eq]
        subst eq
        rcases (show j = 36 ∨ j = 37 ∨ j = 38 ∨ j = 39 ∨ j = 40 ∨ j = 41 ∨ j = 42 ∨ j = 43 ∨ j = 44 by omega) with rfl | rfl | rfl | rfl | rfl | rfl | rfl | rfl | rfl
        · show eR σm R q npr 46 q = jStep σm np npr nl n R q 46 q
          rw [ek, js_lo (by omega)]
        · show capV (eR σm R q npr 47 q) = capV (jStep σm np npr nl n R q 47 q)
          rw [ek, js_lo (by omega)]
        · show (if (38 : Nat) = 38 ∧ q = q then (6 : Int32) else _) = vdR (jStep σm np npr nl n R q) q
          rw [vj, if_pos ⟨rfl, rfl⟩]
        · show eR σm R q npr 50 q = jStep σm np npr nl n R q 50 q
          rw [ek, js_50, if_pos rfl, c, i1]
        · show eR σm R q npr 51 q = jStep σm np npr nl n R q 51 q
          rw [ek, js_51, if_pos rfl, if_pos c, c2, i2]
        · show capV (enV σm nl n q (R 47 q)) = capV (jStep σm np npr nl n R q 52 q)
          rw [js_52, if_pos rfl, if_pos c, if_pos c2]
        · show ebV σm nl n q (R 47 q) = jStep σm np npr nl n R q 53 q
          rw [js_53, if_pos rfl, if_pos c, if_pos c2]
        · show eR σm R q npr 54 q = jStep σm np npr nl n R q 54 q
          rw [ek, js_54]
        · show eR σm R q npr 55 q = jStep σm np npr nl n R q 55 q
          rw [ek, js_55]
      · rw [if_neg eq, if_neg (fun z => eq z.2)]
        exact (cR_congr (fun j => js_eR eq hq c c2) j).symm
    · rintro _ rfl
      rw [cJ_A _ _ _ _ 38 _ (by omega) (by omega)]
      rw [if_neg (fun z => z c), if_pos c2] at vj
      refine hP _ _ (fun j q j1 j2 hq => ?_)
      have h6 : (va_up (va_up R3 40 (upd (R3 40) k (voV σm npr nl R k))) 38 (upd (R3 38) k 5)) j q = if j = 38 ∧ q = k then 5 else (va_up R3 40 (upd (R3 40) k (voV σm npr nl R k))) j q := by
        show (if j = 38 then upd (R3 38) k 5 else _) q = _
        by_cases e : j = 38
        · rw [if_pos e, upd_at]
          by_cases eq : q = k
          · rw [if_pos eq, if_pos ⟨e, eq⟩]
          · rw [if_neg eq, if_neg (fun z => eq z.2), e]; rfl
        · rw [if_neg e, if_neg (fun z => e z.1)]
      rw [h6, q4 j q j1 j2 hq]
      by_cases eq : q = k
      · subst eq
        rcases (show j = 36 ∨ j = 37 ∨ j = 38 ∨ j = 39 ∨ j = 40 ∨ j = 41 ∨ j = 42 ∨ j = 43 ∨ j = 44 by omega) with rfl | rfl | rfl | rfl | rfl | rfl | rfl | rfl | rfl
        · show R 46 q = jStep σm np npr nl n R q 46 q
          rw [js_lo (by omega)]
        · show capV (R 47 q) = capV (jStep σm np npr nl n R q 47 q)
          rw [js_lo (by omega)]
        · show (if (38 : Nat) = 38 ∧ q = q then (5 : Int32) else _) = vdR (jStep σm np npr nl n R q) q
          rw [vj, if_pos ⟨rfl, rfl⟩]
        · show R 50 q = jStep σm np npr nl n R q 50 q
          rw [js_50, if_pos rfl, c, i1]
        · show (if (40 : Nat) = 38 ∧ q = q then (5 : Int32) else if (40 : Nat) = 40 ∧ q = q then voV σm npr nl R q else _) = jStep σm np npr nl n R q 51 q
          rw [js_51, if_pos rfl, if_pos c, if_neg (fun z => absurd z.1 (by decide)), if_pos ⟨rfl, rfl⟩]
        · show capV (R 52 q) = capV (jStep σm np npr nl n R q 52 q)
          rw [js_52, if_pos rfl, if_pos c, if_neg c2]
        · show R 53 q = jStep σm np npr nl n R q 53 q
          rw [js_53, if_pos rfl, if_pos c, if_neg c2]
        · show R 54 q = jStep σm np npr nl n R q 54 q
          rw [js_54]
        · show R 55 q = jStep σm np npr nl n R q 55 q
          rw [js_55]
      · rw [if_neg (fun z => eq z.2), if_neg (fun z => eq z.2)]
        exact (cR_congr (fun j => js_ne eq (fun z => c2 z.2)) j).symm
  · rintro _ rfl
    rw [cJ_A _ _ _ _ 38 _ (by omega) (by omega)]
    rw [if_pos c] at vj
    refine hP _ _ (fun j q j1 j2 hq => ?_)
    have h6 : (va_up (va_up R1 39 (upd (R1 39) k (baV σm np nl n k (R 47 k)))) 38 (upd (R1 38) k 4)) j q = if j = 38 ∧ q = k then 4 else (va_up R1 39 (upd (R1 39) k (baV σm np nl n k (R 47 k)))) j q := by
      show (if j = 38 then upd (R1 38) k 4 else _) q = _
      by_cases e : j = 38
      · rw [if_pos e, upd_at]
        by_cases eq : q = k
        · rw [if_pos eq, if_pos ⟨e, eq⟩]
        · rw [if_neg eq, if_neg (fun z => eq z.2), e]; rfl
      · rw [if_neg e, if_neg (fun z => e z.1)]
    rw [h6, q2 j q j1 j2 hq]
    by_cases eq : q = k
    · subst eq
      rcases (show j = 36 ∨ j = 37 ∨ j = 38 ∨ j = 39 ∨ j = 40 ∨ j = 41 ∨ j = 42 ∨ j = 43 ∨ j = 44 by omega) with rfl | rfl | rfl | rfl | rfl | rfl | rfl | rfl | rfl
      · show R 46 q = jStep σm np npr nl n R q 46 q
        rw [js_lo (by omega)]
      · show capV (R 47 q) = capV (jStep σm np npr nl n R q 47 q)
        rw [js_lo (by omega)]
      · show (if (38 : Nat) = 38 ∧ q = q then (4 : Int32) else _) = vdR (jStep σm np npr nl n R q) q
        rw [vj, if_pos ⟨rfl, rfl⟩]
      · show (if (39 : Nat) = 38 ∧ q = q then (4 : Int32) else if (39 : Nat) = 39 ∧ q = q then baV σm np nl n q (R 47 q) else _) = jStep σm np npr nl n R q 50 q
        rw [js_50, if_pos rfl, if_neg (fun z => absurd z.1 (by decide)), if_pos ⟨rfl, rfl⟩]
      · show R 51 q = jStep σm np npr nl n R q 51 q
        rw [js_51, if_pos rfl, if_neg c]
      · show capV (R 52 q) = capV (jStep σm np npr nl n R q 52 q)
        rw [js_52, if_pos rfl, if_neg c]
      · show R 53 q = jStep σm np npr nl n R q 53 q
        rw [js_53, if_pos rfl, if_neg c]
      · show R 54 q = jStep σm np npr nl n R q 54 q
        rw [js_54]
      · show R 55 q = jStep σm np npr nl n R q 55 q
        rw [js_55]
    · rw [if_neg (fun z => eq z.2), if_neg (fun z => eq z.2)]
      exact (cR_congr (fun j => js_ne eq (fun z => c z.1)) j).symm
