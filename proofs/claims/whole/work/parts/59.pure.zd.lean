/-! pure level: one judgement, the reference's side -/
def eR (σ : MS) (R : Nat → Nat → Int32) (k i : Nat) : Nat → Nat → Int32 := fun j q =>
  if rvV σ R q k = true ∧ q < i then (if j = 52 then R 47 k else if j = 53 then 9 else if j = 54 then nI k else if j = 55 then brV σ q k else R j q) else R j q
theorem it4 (j : Nat) (a b c d e : Int32) : (if j = 55 then a else if j = 54 then b else if j = 53 then c else if j = 52 then d else e) = (if j = 52 then d else if j = 53 then c else if j = 54 then b else if j = 55 then a else e) := by grind
theorem it6 (j : Nat) (a b c d x e : Int32) : (if j = 52 then a else if j = 53 then b else if j = 56 then c else if j = 49 then d else if j = 50 then x else e) = (if j = 49 then d else if j = 50 then x else if j = 52 then a else if j = 53 then b else if j = 56 then c else e) := by grind
theorem nar1 : vp_nar .boolean 1 = 1 := by decide
theorem nar0 : vp_nar .boolean 0 = 0 := by decide
theorem rvV_at {σ : MS} {R R1 : Nat → Nat → Int32} {o k : Nat} (h56 : R1 56 o = R 56 o) (h47 : R1 47 k = R 47 k) (h47' : R1 47 o = R 47 o) (h52 : R1 52 o = R 52 o) : rvV σ R1 o k = rvV σ R o k := by
  unfold rvV
  rw [h56, h47, h47', h52]
theorem endLoopM {σ : MS} {R : Nat → Nat → Int32} {g : Int32} {np npr nl n k : Nat} {Post : MS → Prop} (h : RM np npr nl σ) (hk : k < npr) (hn : n ≤ 200)
    (hP : ∀ R1, (∀ j q, 46 ≤ j → j ≤ 56 → q < npr → R1 j q = if q = k then (if j = 52 then enV σ nl n k (R 47 k) else if j = 53 then ebV σ nl n k (R 47 k) else if j = 56 then 1 else R j q) else eR σ R k npr j q) → Post (mJ σ g R1)) :
    ∀ d i, i + d = npr → ∀ R1, (∀ j q, 46 ≤ j → j ≤ 56 → R1 j q = eR σ R k i j q) → wpM_judges_147 Post (d + 1) (mJ σ g R1) (nI k) (nI n) (nI i) := by
  have h10 : npr ≤ 10 := h.2.2.2.1
  have hv : vp_in (nI k) 10 := vp_in_nI (by omega) (by omega)
  have ck : (nI k).toNatClampNeg = k := nI_clamp (by omega)
  have hkk : rvV σ R k k = false := by simp [rvV]
  intro d
  induction d with
  | zero =>
    intro i hi R1 hS
    obtain rfl : i = npr := by omega
    have h47 : ∀ q, R1 47 q = R 47 q := fun q => by
      rw [hS 47 q (by omega) (by omega), eR]
      split <;> rfl
    refine ⟨fun _ => ⟨hv, ?_⟩, fun c => absurd ?_ c⟩
    · rintro _ rfl
      rw [ck, mJ_A _ _ _ 56 _ (by omega) (by omega), nar1]
      refine fateM (σ := mJ σ g _) (by omega) hn ?_
      refine lapseAllM (R := va_up R1 56 _) hn (by omega) h.2.2.2.2.1 h.2.2.2.2.2.1 h.2.2.2.2.2.2.1 (h47 k) ?_
      change (laV σ nl n k (R 47 k) < deV σ n k → wpM_judges_296 Post _ (nI k) (deV σ n k) (laV σ nl n k (R 47 k)) (nI k) (laV σ nl n k (R 47 k))) ∧ (¬ laV σ nl n k (R 47 k) < deV σ n k → wpM_judges_296 Post _ (nI k) (deV σ n k) (laV σ nl n k (R 47 k)) (nI k) (deV σ n k))
      have fin : ∀ t b, t = enV σ nl n k (R 47 k) → b = ebV σ nl n k (R 47 k) → Post (mJ σ g (va_up (va_up (va_up R1 56 (upd (R1 56) k 1)) 52 (upd (R1 52) k t)) 53 (upd (R1 53) k b))) := by
        rintro _ _ rfl rfl
        refine hP _ (fun j q j1 j2 hq => ?_)
        show (if j = 53 then upd (R1 53) k (ebV σ nl n k (R 47 k)) else if j = 52 then upd (R1 52) k (enV σ nl n k (R 47 k)) else if j = 56 then upd (R1 56) k 1 else R1 j) q = _
        have hjq := hS j q j1 j2
        by_cases eq : q = k
        · subst eq
          have ek : eR σ R q i j q = R j q := by rw [eR, hkk]; simp
          rw [ek] at hjq
          rw [if_pos rfl]
          by_cases e53 : j = 53
          · subst e53; rw [if_pos rfl, pk_us]; rfl
          · rw [if_neg e53]
            by_cases e52 : j = 52
            · subst e52; rw [if_pos rfl, pk_us]; rfl
            · rw [if_neg e52, if_neg e52, if_neg e53]
              by_cases e56 : j = 56
              · subst e56; rw [if_pos rfl, pk_us]; rfl
              · rw [if_neg e56, if_neg e56, hjq]
        · rw [if_neg eq]
          by_cases e53 : j = 53
          · subst e53; rw [if_pos rfl, pk_un eq]; exact hjq
          · rw [if_neg e53]
            by_cases e52 : j = 52
            · subst e52; rw [if_pos rfl, pk_un eq]; exact hjq
            · rw [if_neg e52]
              by_cases e56 : j = 56
              · subst e56; rw [if_pos rfl, pk_un eq]; exact hjq
              · rw [if_neg e56]; exact hjq
      have h331 : ∀ t b, t = enV σ nl n k (R 47 k) → b = ebV σ nl n k (R 47 k) → wpM_judges_331 Post (mJ σ g (va_up (va_up R1 56 (upd (R1 56) k 1)) 52 (upd (R1 52) k t))) (nI k) b := by
        intro t b e1 e2
        refine ⟨hv, ?_⟩
        rintro _ rfl
        rw [ck, mJ_A _ _ _ 53 _ (by omega) (by omega)]
        exact fin t b e1 e2
      have h296 : ∀ t, t = enV σ nl n k (R 47 k) → wpM_judges_296 Post (mJ σ g (va_up R1 56 (upd (R1 56) k 1))) (nI k) (deV σ n k) (laV σ nl n k (R 47 k)) (nI k) t := by
        intro t et
        refine ⟨hv, ?_⟩
        rintro _ rfl
        rw [ck, mJ_A _ _ _ 52 _ (by omega) (by omega)]
        change vp_in (nI k) 10 ∧ (upd (R1 52) k t k = 1000000 → wpM_judges_331 Post (mJ σ g (va_up (va_up R1 56 (upd (R1 56) k 1)) 52 (upd (R1 52) k t))) (nI k) 0) ∧ (¬ upd (R1 52) k t k = 1000000 → (laV σ nl n k (R 47 k) < deV σ n k → wpM_judges_331 Post (mJ σ g (va_up (va_up R1 56 (upd (R1 56) k 1)) 52 (upd (R1 52) k t))) (nI k) 8) ∧ (¬ laV σ nl n k (R 47 k) < deV σ n k → wpM_judges_331 Post (mJ σ g (va_up (va_up R1 56 (upd (R1 56) k 1)) 52 (upd (R1 52) k t))) (nI k) 7))
        rw [pk_us]
        refine ⟨hv, fun c => h331 t 0 et ?_, fun c => ⟨fun c2 => h331 t 8 et ?_, fun c2 => h331 t 7 et ?_⟩⟩
        · rw [ebV, ← et, if_pos c]
        · rw [ebV, ← et, if_neg c, if_pos c2]
        · rw [ebV, ← et, if_neg c, if_neg c2]
      exact ⟨fun c => h296 _ (by rw [enV, if_pos c]), fun c => h296 _ (by rw [enV, if_neg c])⟩
    · show σ.1 46 ≤ nI i
      rw [h.2.2.1]
      exact Int32.le_refl _
  | succ d ih =>
    intro i hi R1 hS
    have hvi : vp_in (nI i) 10 := vp_in_nI (by omega) (by omega)
    have cii : (nI i).toNatClampNeg = i := nI_clamp (by omega)
    have h47 : ∀ q, R1 47 q = R 47 q := fun q => by
      rw [hS 47 q (by omega) (by omega), eR]
      split <;> rfl
    have hii : ∀ j, 46 ≤ j → j ≤ 56 → R1 j i = R j i := fun j j1 j2 => by
      rw [hS j i j1 j2, eR, if_neg (fun q => absurd q.2 (by omega))]
    have erv : rvV σ R1 i k = rvV σ R i k := rvV_at (hii 56 (by omega) (by omega)) (h47 k) (h47 i) (hii 52 (by omega) (by omega))
    refine ⟨fun c => ?_, fun _ => isRivalM (by omega) (by omega) ?_⟩
    · have c : σ.1 46 ≤ nI i := c
      rw [h.2.2.1] at c
      exact absurd c (nI_ge (by omega) (by omega))
    · rw [erv]
      refine ⟨fun c => ?_, fun c => ⟨hv, hvi, ?_⟩⟩
      · have crv : rvV σ R i k = false := (b2_0 _).mp c
        rintro _ rfl
        rw [nI_1]
        refine ih (i + 1) (by omega) R1 (fun j q j1 j2 => ?_)
        rw [hS j q j1 j2, eR, eR]
        by_cases eq : q = i
        · subst eq; rw [crv]; simp
        · have : (rvV σ R q k = true ∧ q < i) ↔ (rvV σ R q k = true ∧ q < i + 1) := by
            constructor
            · rintro ⟨a, b⟩; exact ⟨a, by omega⟩
            · rintro ⟨a, b⟩; exact ⟨a, by omega⟩
          simp only [this]
      · have crv : rvV σ R i k = true := by
          cases hh : rvV σ R i k with
          | true => rfl
          | false => exact absurd ((b2_0 _).mpr hh) c
        rintro _ rfl
        refine ⟨hvi, ?_⟩
        rintro _ rfl
        refine ⟨hvi, ?_⟩
        rintro _ rfl
        rw [cii, ck, mJ_A _ _ _ 52 _ (by omega) (by omega), mJ_A _ _ _ 53 _ (by omega) (by omega), mJ_A _ _ _ 54 _ (by omega) (by omega)]
        obtain ⟨R2, hR2⟩ : ∃ R2, R2 = va_up (va_up (va_up R1 52 (upd (R1 52) i (R1 47 k))) 53 (upd (R1 53) i 9)) 54 (upd (R1 54) i (nI k)) := ⟨_, rfl⟩
        have fin : ∀ b, b = brV σ i k → wpM_judges_249 (fun a0 a1 a2 a3 => wpM_judges_147 Post (d + 1) a0 a1 a2 a3) Post (mJ σ g R2) (nI k) (nI n) (nI i) (nI i) b := by
          rintro _ rfl
          refine ⟨hvi, ?_⟩
          rintro _ rfl _ rfl
          rw [cii, mJ_A _ _ _ 55 _ (by omega) (by omega), nI_1]
          refine ih (i + 1) (by omega) _ (fun j q j1 j2 => ?_)
          have hjq := hS j q j1 j2
          have e : (va_up R2 55 (upd ((mJ σ g R2).2.1 55) i (brV σ i k))) j q = if q = i then (if j = 55 then brV σ i k else if j = 54 then nI k else if j = 53 then 9 else if j = 52 then R 47 k else R j q) else R1 j q := by
            rw [hR2]
            show (if j = 55 then upd (R1 55) i (brV σ i k) else if j = 54 then upd (R1 54) i (nI k) else if j = 53 then upd (R1 53) i 9 else if j = 52 then upd (R1 52) i (R1 47 k) else R1 j) q = _
            by_cases eq : q = i
            · subst eq
              rw [if_pos rfl]
              by_cases e1 : j = 55
              · rw [if_pos e1, if_pos e1, pk_us]
              · rw [if_neg e1, if_neg e1]
                by_cases e2 : j = 54
                · rw [if_pos e2, if_pos e2, pk_us]
                · rw [if_neg e2, if_neg e2]
                  by_cases e3 : j = 53
                  · rw [if_pos e3, if_pos e3, pk_us]
                  · rw [if_neg e3, if_neg e3]
                    by_cases e4 : j = 52
                    · rw [if_pos e4, if_pos e4, pk_us, h47]
                    · rw [if_neg e4, if_neg e4, hii j j1 j2]
            · rw [if_neg eq]
              by_cases e1 : j = 55
              · rw [if_pos e1, pk_un eq, e1]
              · rw [if_neg e1]
                by_cases e2 : j = 54
                · rw [if_pos e2, pk_un eq, e2]
                · rw [if_neg e2]
                  by_cases e3 : j = 53
                  · rw [if_pos e3, pk_un eq, e3]
                  · rw [if_neg e3]
                    by_cases e4 : j = 52
                    · rw [if_pos e4, pk_un eq, e4]
                    · rw [if_neg e4]
          rw [e]
          by_cases eq : q = i
          · subst eq
            have hc : rvV σ R q k = true ∧ q < q + 1 := ⟨crv, by omega⟩
            rw [if_pos rfl, eR, if_pos hc]
            exact it4 _ _ _ _ _ _
          · rw [if_neg eq, hjq, eR, eR]
            have : (rvV σ R q k = true ∧ q < i) ↔ (rvV σ R q k = true ∧ q < i + 1) := by
              constructor
              · rintro ⟨a, b⟩; exact ⟨a, by omega⟩
              · rintro ⟨a, b⟩; exact ⟨a, by omega⟩
            simp only [this]
        change vp_in (nI i) 10 ∧ wpM_isIn (mJ σ g (va_up (va_up (va_up R1 52 (upd (R1 52) i (R1 47 k))) 53 (upd (R1 53) i 9)) 54 (upd (R1 54) i (nI k)))) (σ.2.1 31 i) (nI k) _
        rw [← hR2]
        refine ⟨hvi, isInM (by omega) ⟨hvi, isInM (by omega) ⟨fun c2 => ?_, fun c2 => ⟨fun c3 => ?_, fun c3 => ?_⟩⟩⟩⟩
        · have e2 : bnd σ (σ.2.1 31 i) k = false := (b2_0 _).mp c2
          exact ⟨fun _ => fin 2 (by rw [brV, e2]; rfl), fun q => absurd c2 q⟩
        · have e2 : ¬ bnd σ (σ.2.1 31 i) k = false := fun q => c2 ((b2_0 _).mpr q)
          have e3 : bnd σ (σ.2.1 32 i) k = false := (b2_0 _).mp c3
          exact ⟨fun q => absurd q c2, fun _ => fin 1 (by rw [brV, if_pos (by simpa using e2), e3]; rfl)⟩
        · have e2 : ¬ bnd σ (σ.2.1 31 i) k = false := fun q => c2 ((b2_0 _).mpr q)
          have e3 : ¬ bnd σ (σ.2.1 32 i) k = false := fun q => c3 ((b2_0 _).mpr q)
          exact fin 0 (by rw [brV, if_pos (by simpa using e2), if_pos (by simpa using e3)])
theorem judgesM {σ : MS} {R : Nat → Nat → Int32} {g : Int32} {np npr nl n k : Nat} {Post : MS → Prop} (h : RM np npr nl σ) (hk : k < npr) (hn : n ≤ 200) (h51 : R 51 k = -1)
    (hP : ∀ R1, (∀ j q, 46 ≤ j → j ≤ 56 → q < npr → R1 j q = jStep σ np npr nl n R k j q) → Post (mJ σ g R1)) : wpM_judges (mJ σ g R) (nI k) (nI n) Post := by
  have h10 : npr ≤ 10 := h.2.2.2.1
  have hv : vp_in (nI k) 10 := vp_in_nI (by omega) (by omega)
  have ck : (nI k).toNatClampNeg = k := nI_clamp (by omega)
  have hkk : rvV σ R k k = false := by simp [rvV]
  refine ⟨hv, ?_⟩
  rintro _ rfl
  rw [ck, mJ_A _ _ _ 49 _ (by omega) (by omega), nar1]
  refine barOfM (R := va_up R 49 _) (e := R 47 k) hn h.1 h.2.1 (by omega) (h.2.2.2.2.2.2.2 k hk).1 (h.2.2.2.2.2.2.2 k hk).2 h.2.2.2.2.1 h.2.2.2.2.2.1 h.2.2.2.2.2.2.1 rfl (fun a b => ⟨hv, ?_⟩)
  rintro _ rfl
  rw [mJ_A _ _ _ 50 _ (by omega) (by omega)]
  obtain ⟨R3, hR3⟩ : ∃ R3, R3 = va_up (va_up (va_up (va_up R 49 (upd (R 49) k 1)) 44 a) 45 b) 50 (upd (R 50) k (baV σ np nl n k (R 47 k))) := ⟨_, rfl⟩
  have p3 : ∀ j q, 46 ≤ j → j ≤ 56 → R3 j q = if q = k then (if j = 49 then 1 else if j = 50 then baV σ np nl n k (R 47 k) else R j q) else R j q := by
    intro j q j1 j2
    rw [hR3]
    show (if j = 50 then upd (R 50) k (baV σ np nl n k (R 47 k)) else if j = 45 then b else if j = 44 then a else if j = 49 then upd (R 49) k 1 else R j) q = _
    by_cases eq : q = k
    · rw [if_pos eq]
      by_cases e1 : j = 50
      · rw [if_pos e1, if_neg (by omega), if_pos e1, eq, pk_us]
      · rw [if_neg e1, if_neg (by omega), if_neg (by omega)]
        by_cases e2 : j = 49
        · rw [if_pos e2, if_pos e2, eq, pk_us]
        · rw [if_neg e2, if_neg e2, if_neg e1]
    · rw [if_neg eq]
      by_cases e1 : j = 50
      · rw [if_pos e1, pk_un eq, e1]
      · rw [if_neg e1, if_neg (by omega), if_neg (by omega)]
        by_cases e2 : j = 49
        · rw [if_pos e2, pk_un eq, e2]
        · rw [if_neg e2]
  change vp_in (nI k) 10 ∧ (upd (R 50) k (baV σ np nl n k (R 47 k)) k = -1 → ∃ g', wpM_judges_32 Post g' (mJ σ g (va_up (va_up (va_up (va_up R 49 (upd (R 49) k 1)) 44 a) 45 b) 50 (upd (R 50) k (baV σ np nl n k (R 47 k))))) (nI k) (nI n) 0) ∧ (¬ upd (R 50) k (baV σ np nl n k (R 47 k)) k = -1 → Post (mJ σ g (va_up (va_up (va_up (va_up R 49 (upd (R 49) k 1)) 44 a) 45 b) 50 (upd (R 50) k (baV σ np nl n k (R 47 k))))))
  rw [← hR3, pk_us]
  have h47 : R3 47 = R 47 := by rw [hR3]; rfl
  have h56 : R3 56 = R 56 := by rw [hR3]; rfl
  have h52 : R3 52 = R 52 := by rw [hR3]; rfl
  have erv : ∀ o, rvV σ R3 o k = rvV σ R o k := fun o => by unfold rvV; rw [h47, h56, h52]
  have evo : voV σ npr nl R3 k = voV σ npr nl R k := by
    unfold voV vkH ovV
    simp only [erv, h47]
  refine ⟨hv, fun c => ?_, fun c => ?_⟩
  · refine ⟨npr + 1, voidLoopM (R := R3) h hk (fun o R4 hS ho hvo => ?_) (fun hvo R4 hS => ?_) npr 0 (by omega) rfl R3 (fun _ _ => rfl)⟩
    · rw [evo] at hvo
      refine hP _ (fun j q j1 j2 hq => ?_)
      show (if j = 51 then upd (R3 51) k (nI o) else R4 j) q = _
      have e4 : R4 j q = R3 j q := by rw [hS j j1]
      have hvo1 : ¬ voV σ npr nl R k = -1 := by rw [hvo]; exact nI_nm1 (by omega)
      rw [jStep]
      simp only [c, hvo1, false_and, and_false, if_false, if_true]
      by_cases eq : q = k
      · rw [if_pos eq]
        by_cases e1 : j = 51
        · rw [if_pos e1, if_neg (by omega), if_neg (by omega), if_pos e1, eq, pk_us, hvo]
        · rw [if_neg e1, e4, p3 j q j1 j2, if_pos eq, if_neg e1, c]
      · rw [if_neg eq]
        by_cases e1 : j = 51
        · rw [if_pos e1, pk_un eq, p3 51 q (by omega) (by omega), if_neg eq, e1]
        · rw [if_neg e1, e4, p3 j q j1 j2, if_neg eq]
    · rw [evo] at hvo
      refine ⟨npr + 1, endLoopM (R := R4) h hk hn (fun R5 h5 => hP _ (fun j q j1 j2 hq => ?_)) npr 0 (by omega) R4 (fun j q j1 j2 => ?_)⟩
      · have e5 := h5 j q j1 j2 hq
        have e4 : R4 j q = R3 j q := by rw [hS j j1]
        have e47 : R4 47 k = R 47 k := by rw [hS 47 (by omega), h47]
        have erv4 : ∀ o, rvV σ R4 o k = rvV σ R o k := fun o => by unfold rvV; rw [hS 47 (by omega), hS 56 (by omega), hS 52 (by omega), h47, h56, h52]
        rw [e47, eR, erv4, e47, e4, p3 j q j1 j2] at e5
        rw [e5, jStep]
        by_cases eq : q = k
        · simp only [eq, if_true, c, hvo, and_self, true_and]
          by_cases e51 : j = 51
          · subst e51
            rw [h51]
            rfl
          · rw [if_neg e51]
            exact it6 _ _ _ _ _ _ _
        · simp only [if_neg eq, c, hvo, true_and, hq, and_true]
      · rw [eR, if_neg (fun q => absurd q.2 (by omega))]
  · refine hP R3 (fun j q j1 j2 hq => ?_)
    rw [p3 j q j1 j2, jStep]
    simp only [c, false_and, if_false]
