/-! pure level: the judges' states; the class's words -/
theorem c3532 (σ : CS) (r s : Nat → Int32) : cA (cA σ 32 r) 35 s = cA (cA σ 35 s) 32 r := by
  have : va_up (va_up σ.2.1 32 r) 35 s = va_up (va_up σ.2.1 35 s) 32 r := by
    funext k
    show (if k = 35 then s else if k = 32 then r else σ.2.1 k) = (if k = 32 then r else if k = 35 then s else σ.2.1 k)
    by_cases e : k = 35
    · rw [if_pos e, if_neg (by omega), if_pos e]
    · rw [if_neg e, if_neg e]
  show (σ.1, va_up (va_up σ.2.1 32 r) 35 s, σ.2.2) = _
  rw [this]
  rfl
theorem clearC {σ : CS} {Post : CS → Prop} (hp : ∀ r, (∀ j, j < 12 → r j = 0) → Post (cA σ 32 r)) : wpC_X8_clear σ Post := by
  suffices h : ∀ d i, i + d = 12 → ∀ r, (∀ j, j < i → r j = 0) → wpC_J7_fill_32_5 Post (d + 1) (cA σ 32 r) 0 (nI i) 12 by
    refine ⟨13, ?_⟩
    have := h 12 0 (by omega) (σ.2.1 32) (fun j hj => absurd hj (by omega))
    rw [cA_self] at this
    exact this
  intro d
  induction d with
  | zero =>
    intro i hi r hr
    obtain rfl : i = 12 := by omega
    exact ⟨fun _ => hp r hr, fun z => absurd (by decide) z⟩
  | succ d ih =>
    intro i hi r hr
    refine ⟨fun z => absurd z (nI_ge (b := 12) (by omega) (by omega)), fun _ => ⟨vp_in_nI (by omega) (by omega), ?_⟩⟩
    rintro _ rfl _ rfl
    rw [cA_same, nI_clamp (by omega), nI_1]
    refine ih (i + 1) (by omega) _ (fun j hj => ?_)
    show (if j = i then 0 else r j) = 0
    by_cases e : j = i
    · rw [if_pos e]
    · rw [if_neg e]
      exact hr j (by omega)
theorem fill35C {σ : CS} {Post : CS → Prop} (hp : ∀ r, (∀ j, j < 32 → r j = -1) → Post (cA σ 35 r)) : wpC_J7_fill_35 σ (-1) Post := by
  suffices h : ∀ d i, i + d = 32 → ∀ r, (∀ j, j < i → r j = -1) → wpC_J7_fill_35_5 Post (d + 1) (cA σ 35 r) (-1) (nI i) 32 by
    refine ⟨33, ?_⟩
    have := h 32 0 (by omega) (σ.2.1 35) (fun j hj => absurd hj (by omega))
    rw [cA_self] at this
    exact this
  intro d
  induction d with
  | zero =>
    intro i hi r hr
    obtain rfl : i = 32 := by omega
    exact ⟨fun _ => hp r hr, fun z => absurd (by decide) z⟩
  | succ d ih =>
    intro i hi r hr
    refine ⟨fun z => absurd z (nI_ge (b := 32) (by omega) (by omega)), fun _ => ⟨vp_in_nI (by omega) (by omega), ?_⟩⟩
    rintro _ rfl _ rfl
    rw [cA_same, nI_clamp (by omega), nI_1]
    refine ih (i + 1) (by omega) _ (fun j hj => ?_)
    show (if j = i then -1 else r j) = -1
    by_cases e : j = i
    · rw [if_pos e]
    · rw [if_neg e]
      exact hr j (by omega)
/-- the last word of a witness, the class's rows -/
def lwH (σ : CS) (p w : Nat) : Nat → Bool := fun i => decide ((σ.2.1 26 i = 7 ∨ σ.2.1 26 i = 8) ∧ σ.2.1 28 i = nI p ∧ σ.2.1 27 i = nI w)
def lwV (σ : CS) (n p w : Nat) : Int32 := if lsF (lwH σ p w) n = -1 then -1 else σ.2.1 26 (lsF (lwH σ p w) n).toNatClampNeg
theorem lwV_s (σ : CS) (i p w : Nat) (hi : i < 2 ^ 31) : lwV σ (i + 1) p w = if lwH σ p w i = true then σ.2.1 26 i else lwV σ i p w := by
  unfold lwV
  rw [lsF]
  by_cases e : lwH σ p w i = true
  · rw [if_pos e, if_pos e, if_neg (nI_nm1 hi), nI_clamp hi]
  · rw [if_neg e, if_neg e]
theorem lastWordsC {σ : CS} {n p : Nat} {Post : CS → Prop} (hkn : σ.1 505 = nI n) (hn : n ≤ 200) (hp : ∀ r, (∀ w, w < 32 → r w = lwV σ n p w) → Post (cA σ 35 r)) : wpC_X0_lastWords σ (nI p) Post := by
  refine fill35C (fun r0 hr0 => ?_)
  suffices h : ∀ d i, i + d = n → ∀ r, (∀ w, w < 32 → r w = lwV σ i p w) → wpC_X0_lastWords_7 Post (d + 1) (cA σ 35 r) (nI p) (nI i) from ⟨n + 1, h n 0 (by omega) r0 (fun w hw => by rw [hr0 w hw]; rfl)⟩
  intro d
  induction d with
  | zero =>
    intro i hi r hr
    obtain rfl : i = n := by omega
    refine ⟨fun _ => hp r hr, fun z => absurd ?_ z⟩
    show σ.1 505 ≤ nI i
    rw [hkn]
    exact Int32.le_refl _
  | succ d ih =>
    intro i hi r hr
    have hv : vp_in (nI i) 200 := vp_in_nI (by omega) (by omega)
    have ci : (nI i).toNatClampNeg = i := nI_clamp (by omega)
    have no : (∀ w, w < 32 → ¬ lwH σ p w i = true) → ∀ y, y = nI i + 1 → wpC_X0_lastWords_7 Post (d + 1) (cA σ 35 r) (nI p) y := by
      rintro hh _ rfl
      rw [nI_1]
      refine ih (i + 1) (by omega) r (fun w hw => ?_)
      rw [hr w hw, lwV_s _ _ _ _ (by omega), if_neg (hh w hw)]
    have h42 : ∀ t : Int32, (t = 0 → ¬ (σ.2.1 26 i = 7 ∨ σ.2.1 26 i = 8)) → (¬ t = 0 → (σ.2.1 26 i = 7 ∨ σ.2.1 26 i = 8)) → wpC_X0_lastWords_42 (fun a0 a1 a2 => wpC_X0_lastWords_7 Post (d + 1) a0 a1 a2) Post (cA σ 35 r) (nI p) (nI i) t := by
      intro t h0 h1
      unfold wpC_X0_lastWords_42
      rw [ci]
      refine ⟨fun c => no (fun w _ q => h0 c (of_decide_eq_true q).1), fun c => ⟨hv, fun c1 => ⟨hv, fun c2 => ?_, fun c2 => ⟨hv, fun c3 => ?_, fun c3 => ⟨hv, hv, ?_⟩⟩⟩, fun c1 => no (fun w _ q => c1 (of_decide_eq_true q).2.1)⟩⟩
      · have c2 : σ.2.1 27 i < 0 := c2
        exact no (fun w hw q => by rw [(of_decide_eq_true q).2.2] at c2; exact nI_pos (by omega) c2)
      · have c3 : 32 ≤ σ.2.1 27 i := c3
        exact no (fun w hw q => by rw [(of_decide_eq_true q).2.2] at c3; exact nI_ge (b := 32) hw (by omega) c3)
      · have c2 : ¬ σ.2.1 27 i < 0 := c2
        have c3 : ¬ 32 ≤ σ.2.1 27 i := c3
        have c1 : σ.2.1 28 i = nI p := c1
        obtain ⟨w0, hw0, e0⟩ := nI_of c2
        have hw1 : w0 < 32 := by
          rw [e0] at c3
          exact Nat.not_le.mp (fun q => c3 (nI_le (a := 32) q hw0))
        have e27 : (cA σ 35 r).2.1 27 i = nI w0 := e0
        rw [e27]
        refine ⟨vp_in_nI hw1 (by omega), ?_⟩
        rintro _ rfl _ rfl
        rw [cA_same, nI_1, nI_clamp hw0]
        refine ih (i + 1) (by omega) _ (fun w hw => ?_)
        rw [lwV_s _ _ _ _ (by omega)]
        show (if w = w0 then σ.2.1 26 i else r w) = _
        by_cases e : w = w0
        · subst e
          rw [if_pos rfl, if_pos (show lwH σ p w i = true from decide_eq_true ⟨h1 c, c1, e0⟩)]
        · rw [if_neg e, if_neg (fun q => e ?_), hr w hw]
          have := (of_decide_eq_true q).2.2
          rw [e0] at this
          exact ((nI_eq (by omega) (by omega)).mp this).symm
    refine ⟨fun z => ?_, fun _ => ⟨hv, fun c => h42 1 (fun z => absurd z (by decide)) (fun _ => Or.inl ?_), fun c => ⟨hv, fun c1 => h42 1 (fun z => absurd z (by decide)) (fun _ => Or.inr ?_), fun c1 => h42 0 (fun _ q => ?_) (fun z => absurd rfl z)⟩⟩⟩
    · have z : σ.1 505 ≤ nI i := z
      rw [hkn] at z
      exact absurd z (nI_ge (by omega) (by omega))
    · rw [ci] at c; exact c
    · rw [ci] at c1; exact c1
    · rw [ci] at c c1
      exact q.elim c c1
/-- kin, the class's rows -/
def kinC (σ : CS) (np p w : Nat) : Bool := decide (w < np) && (decide (dgV (σ.2.1 12) np w (σ.2.1 15 p).toNatClampNeg ≤ 4) || decide (dgV (σ.2.1 12) np w (σ.2.1 16 p).toNatClampNeg ≤ 4))
theorem isKinC {σ : CS} {np p w : Nat} {Post : Int32 → CS → Prop} (hn : σ.1 165 = nI np) (hnp : np ≤ 12) (hp : p < 10) (hw : w < 32) (h1 : isN (σ.2.1 15 p) np) (h2 : isN (σ.2.1 16 p) np) (hP : Post (b2 (kinC σ np p w)) σ) : wpC_X4_isKin σ (nI w) (nI p) Post := by
  have hv : vp_in (nI p) 10 := vp_in_nI hp (by omega)
  obtain ⟨a, ha, ea⟩ := h1
  obtain ⟨b, hb, eb⟩ := h2
  rw [kinC, ea, eb, nI_clamp (by omega), nI_clamp (by omega)] at hP
  refine hasC hn (by omega) (fun hN => ⟨fun y => absurd y (by decide), fun _ => ⟨hv, ?_⟩⟩) (fun hN => ⟨fun _ => ?_, fun y => absurd rfl y⟩)
  · have hw' : w < np := by
      obtain ⟨k, hk, e⟩ := hN
      have := (nI_eq (by omega) (by omega)).mp e
      omega
    rw [decide_eq_true hw', Bool.true_and] at hP
    rw [nI_clamp (by omega), ea]
    refine degreeC hn hnp hw' ha ⟨fun c => ?_, fun c => ⟨hv, ?_⟩⟩
    · have c : dgV (σ.2.1 12) np w a ≤ 4 := c
      rw [decide_eq_true c] at hP
      exact hP
    · have c : ¬ dgV (σ.2.1 12) np w a ≤ 4 := c
      rw [decide_eq_false c] at hP
      rw [eb]
      refine degreeC hn hnp hw' hb ⟨fun c2 => ?_, fun c2 => ?_⟩
      · have c2 : ¬ dgV (σ.2.1 12) np w b ≤ 4 := by
          have c2 : 4 < dgV (σ.2.1 12) np w b := c2
          grind
        rw [decide_eq_false c2] at hP
        exact hP
      · have c2 : dgV (σ.2.1 12) np w b ≤ 4 := by
          have c2 : ¬ 4 < dgV (σ.2.1 12) np w b := c2
          grind
        rw [decide_eq_true c2] at hP
        exact hP
  · rw [decide_eq_false (fun q => hN ⟨w, q, rfl⟩)] at hP
    exact hP
def yesC (σ : CS) (np n p : Nat) : Nat → Bool := fun w => decide (¬ lwV σ n p w = -1 ∧ lwV σ n p w = 7) && ! kinC σ np p w
def noC (σ : CS) (np n p : Nat) : Nat → Bool := fun w => decide (¬ lwV σ n p w = -1 ∧ ¬ lwV σ n p w = 7) && ! kinC σ np p w
def kiC (σ : CS) (np n p : Nat) : Nat → Bool := fun w => decide (¬ lwV σ n p w = -1 ∧ lwV σ n p w = 7) && kinC σ np p w
theorem wvP_i0 {r : Nat → Int32} {a b c d t : Int32} (h : EqW r (wvP a b c d t)) : EqW (upd r 0 (r 0 + 1)) (wvP (a + 1) b c d t) := by
  intro j hj
  have h1 := h j hj
  have h0 := h 0 (by omega)
  show (if j = 0 then r 0 + 1 else r j) = _
  rw [h0, h1]
  by_cases e : j = 0
  · subst e; rfl
  · rw [if_neg e]; simp only [wvP, if_neg e]
theorem wvP_i1 {r : Nat → Int32} {a b c d t : Int32} (h : EqW r (wvP a b c d t)) : EqW (upd r 1 (r 1 + 1)) (wvP a (b + 1) c d t) := by
  intro j hj
  have h1 := h j hj
  have h0 := h 1 (by omega)
  show (if j = 1 then r 1 + 1 else r j) = _
  rw [h0, h1]
  by_cases e : j = 1
  · subst e; rfl
  · rw [if_neg e]; simp only [wvP, if_neg e]
theorem wvP_i2 {r : Nat → Int32} {a b c d t : Int32} (h : EqW r (wvP a b c d t)) : EqW (upd r 2 (r 2 + 1)) (wvP a b (c + 1) d t) := by
  intro j hj
  have h1 := h j hj
  have h0 := h 2 (by omega)
  show (if j = 2 then r 2 + 1 else r j) = _
  rw [h0, h1]
  by_cases e : j = 2
  · subst e; rfl
  · rw [if_neg e]; simp only [wvP, if_neg e]
theorem weighLoopC {σ : CS} {np n p : Nat} {Post : CS → Prop} {fm : Int32} {s : Nat → Int32} (hn : σ.1 165 = nI np) (hnp : np ≤ 12) (hp : p < 10) (h1 : isN (σ.2.1 15 p) np) (h2 : isN (σ.2.1 16 p) np) (hs : ∀ w, w < 32 → s w = lwV σ n p w)
    (hP : ∀ r, EqW r (wvP (cntF (yesC σ np n p) 32) (cntF (noC σ np n p) 32) (cntF (kiC σ np n p) 32) fm (σ.2.1 19 p)) → Post (cA (cA σ 35 s) 32 r)) :
    ∀ d w, w + d = 32 → ∀ r, EqW r (wvP (cntF (yesC σ np n p) w) (cntF (noC σ np n p) w) (cntF (kiC σ np n p) w) fm (σ.2.1 19 p)) → wpC_X4_weighWords_52 Post (d + 1) (cA (cA σ 35 s) 32 r) (nI p) (nI w) := by
  intro d
  induction d with
  | zero =>
    intro w hw r hr
    obtain rfl : w = 32 := by omega
    exact ⟨fun _ => hP r hr, fun z => absurd (by decide) z⟩
  | succ d ih =>
    intro w hw r hr
    have hv : vp_in (nI w) 32 := vp_in_nI (by omega) (by omega)
    have e35 : (cA (cA σ 35 s) 32 r).2.1 35 (nI w).toNatClampNeg = lwV σ n p w := by
      rw [nI_clamp (by omega)]
      exact hs w (by omega)
    have ihw := ih (w + 1) (by omega)
    have go : ∀ t : Int32, ¬ lwV σ n p w = -1 → (t = 0 ↔ ¬ lwV σ n p w = 7) → wpC_X4_weighWords_84 (fun a0 a1 a2 => wpC_X4_weighWords_52 Post (d + 1) a0 a1 a2) Post (cA (cA σ 35 s) 32 r) (nI p) (nI w) t := by
      intro t hm ht
      refine isKinC (σ := cA (cA σ 35 s) 32 r) hn hnp hp (by omega) h1 h2 ?_
      have ek : kinC (cA (cA σ 35 s) 32 r) np p w = kinC σ np p w := rfl
      rw [ek]
      refine ⟨fun c => ?_, fun c => ?_⟩
      · have ck : kinC σ np p w = false := (b2_0 _).mp c
        refine ⟨fun c1 => ⟨vp_in_nI (n := 1) (by omega) (by omega), vp_in_nI (n := 1) (by omega) (by omega), ?_⟩, fun c1 => ⟨vp_in_nI (n := 0) (by omega) (by omega), vp_in_nI (n := 0) (by omega) (by omega), ?_⟩⟩
        · rintro _ rfl _ rfl
          rw [cA_same, nI_1]
          refine ihw _ ?_
          rw [cntF_s (yesC σ np n p) w, cntF_s (noC σ np n p) w, cntF_s (kiC σ np n p) w, if_neg (by simp [yesC, ht.mp c1]), if_pos (by simp [noC, ht.mp c1, hm, ck]), if_neg (by simp [kiC, ck])]
          exact wvP_i1 hr
        · rintro _ rfl _ rfl
          rw [cA_same, nI_1]
          refine ihw _ ?_
          have h7 : lwV σ n p w = 7 := Classical.byContradiction (fun q => c1 (ht.mpr q))
          rw [cntF_s (yesC σ np n p) w, cntF_s (noC σ np n p) w, cntF_s (kiC σ np n p) w, if_pos (by simp [yesC, h7, ck]), if_neg (by simp [noC, h7]), if_neg (by simp [kiC, ck])]
          exact wvP_i0 hr
      · have ck : kinC σ np p w = true := by
          cases hk : kinC σ np p w with
          | true => rfl
          | false => exact absurd ((b2_0 _).mpr hk) c
        refine ⟨fun c1 => ?_, fun c1 => ⟨vp_in_nI (n := 2) (by omega) (by omega), vp_in_nI (n := 2) (by omega) (by omega), ?_⟩⟩
        · rintro _ rfl
          rw [nI_1]
          refine ihw _ ?_
          rw [cntF_s (yesC σ np n p) w, cntF_s (noC σ np n p) w, cntF_s (kiC σ np n p) w, if_neg (by simp [yesC, ck]), if_neg (by simp [noC, ck]), if_neg (by simp [kiC, ht.mp c1])]
          exact hr
        · rintro _ rfl _ rfl
          rw [cA_same, nI_1]
          refine ihw _ ?_
          have h7 : lwV σ n p w = 7 := Classical.byContradiction (fun q => c1 (ht.mpr q))
          rw [cntF_s (yesC σ np n p) w, cntF_s (noC σ np n p) w, cntF_s (kiC σ np n p) w, if_neg (by simp [yesC, ck]), if_neg (by simp [noC, ck]), if_pos (by simp [kiC, h7, ck])]
          exact wvP_i2 hr
    refine ⟨fun z => absurd z (nI_ge (b := 32) (by omega) (by omega)), fun _ => ⟨hv, fun c => ?_, fun c => ⟨hv, fun c1 => ?_, fun c1 => ?_⟩⟩⟩
    · rw [e35] at c
      rintro _ rfl
      rw [nI_1]
      refine ihw _ ?_
      rw [cntF_s (yesC σ np n p) w, cntF_s (noC σ np n p) w, cntF_s (kiC σ np n p) w, if_neg (by simp [yesC, c]), if_neg (by simp [noC, c]), if_neg (by simp [kiC, c])]
      exact hr
    · rw [e35] at c c1
      exact go 1 c ⟨fun z => absurd z (by decide), fun z => absurd c1 z⟩
    · rw [e35] at c c1
      exact go 0 c ⟨fun _ => c1, fun _ => rfl⟩
def faC (σ : CS) (p : Nat) : Nat → Bool := fun i => decide (σ.2.1 26 i = 9 ∧ σ.2.1 27 i = nI p)
def wPC (σ : CS) (np n p : Nat) : Nat → Int32 := wvP (cntF (yesC σ np n p) 32) (cntF (noC σ np n p) 32) (cntF (kiC σ np n p) 32) (cntF (faC σ p) n) (σ.2.1 19 p)
theorem weighWordsC {σ : CS} {np n p : Nat} {Post : CS → Prop} (hkn : σ.1 505 = nI n) (hnn : n ≤ 200) (hn : σ.1 165 = nI np) (hnp : np ≤ 12) (hp : p < 10) (h1 : isN (σ.2.1 15 p) np) (h2 : isN (σ.2.1 16 p) np)
    (hP : ∀ s r, EqW r (wPC σ np n p) → Post (cA (cA σ 35 s) 32 r)) : wpC_X4_weighWords σ (nI p) Post := by
  refine clearC (fun r0 hr0 => ?_)
  refine famesOfC (σ := cA σ 32 r0) hkn hnn ⟨vp_in_nI (n := 3) (by omega) (by omega), ?_⟩
  rintro _ rfl
  refine ⟨vp_in_nI hp (by omega), vp_in_nI (n := 4) (by omega) (by omega), ?_⟩
  rintro _ rfl
  rw [cA_same, cA_same, nI_clamp (by omega)]
  refine lastWordsC (σ := cA σ 32 _) hkn hnn (fun s hs => ?_)
  rw [c3532]
  refine ⟨33, weighLoopC (fm := cntF (faC σ p) n) hn hnp hp h1 h2 hs (hP s) 32 0 (by omega) _ (fun j hj => ?_)⟩
  show (if j = 4 then σ.2.1 19 p else if j = 3 then cntF (faC σ p) n else r0 j) = _
  rw [hr0 j hj]
  simp only [wvP, cntF]
  by_cases e4 : j = 4
  · subst e4; rfl
  · by_cases e3 : j = 3
    · subst e3; rfl
    · simp [e4, e3]
