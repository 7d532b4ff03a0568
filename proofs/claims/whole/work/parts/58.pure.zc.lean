/-! pure level: rivals, and one judgement, the reference's side -/
theorem vaU_at {α : Type} (f : Nat → α) (k : Nat) (v : α) (i : Nat) : va_up f k v i = if i = k then v else f i := rfl
def bnd (σ : MS) (a : Int32) (q : Nat) : Bool := decide (σ.2.1 31 q = a) || decide (σ.2.1 32 q = a)
theorem isInM {σ : MS} {a : Int32} {q : Nat} {Post : Int32 → MS → Prop} (hq : q < 10) (hP : Post (b2 (bnd σ a q)) σ) : wpM_isIn σ a (nI q) Post := by
  have hv : vp_in (nI q) 10 := vp_in_nI hq (by omega)
  unfold wpM_isIn
  rw [nI_clamp (by omega)]
  refine ⟨hv, fun c => ?_, fun c => ⟨hv, fun c2 => ?_, fun c2 => ?_⟩⟩
  · rw [bnd, decide_eq_true c] at hP; exact hP
  · rw [bnd, decide_eq_true c2, Bool.or_true] at hP; exact hP
  · rw [bnd, decide_eq_false c, decide_eq_false c2] at hP; exact hP
/-- o is a rival of k -/
def rvV (σ : MS) (R : Nat → Nat → Int32) (o k : Nat) : Bool := decide (¬ o = k ∧ ¬ R 56 o = 0 ∧ ¬ R 47 k < R 47 o ∧ ¬ R 52 o ≤ R 47 k) && (bnd σ (σ.2.1 31 k) o || bnd σ (σ.2.1 32 k) o)
theorem isRivalM {σ : MS} {R : Nat → Nat → Int32} {g : Int32} {o k : Nat} {Post : Int32 → MS → Prop} (ho : o < 10) (hk : k < 10) (hP : Post (b2 (rvV σ R o k)) (mJ σ g R)) : wpM_isRival (mJ σ g R) (nI o) (nI k) Post := by
  have hv : vp_in (nI o) 10 := vp_in_nI ho (by omega)
  have hv2 : vp_in (nI k) 10 := vp_in_nI hk (by omega)
  unfold wpM_isRival
  rw [nI_clamp (show o < 2 ^ 31 by omega), nI_clamp (show k < 2 ^ 31 by omega)]
  have e0 : rvV σ R o k = false → Post 0 (mJ σ g R) := fun q => by rw [q] at hP; exact hP
  have e1 : rvV σ R o k = true → Post 1 (mJ σ g R) := fun q => by rw [q] at hP; exact hP
  refine ⟨fun c => e0 ?_, fun c => ⟨hv, fun c1 => e0 ?_, fun c1 => ⟨hv, hv2, fun c2 => e0 ?_, fun c2 => ⟨hv, hv2, fun c3 => e0 ?_, fun c3 => ⟨hv2, ?_⟩⟩⟩⟩⟩
  · have : o = k := (nI_eq (by omega) (by omega)).mp c
    simp [rvV, this]
  · have c1 : R 56 o = 0 := c1
    simp [rvV, c1]
  · have c2 : R 47 k < R 47 o := c2
    simp [rvV, c2]
  · have c3 : R 52 o ≤ R 47 k := c3
    simp [rvV, c3]
  · have c1 : ¬ R 56 o = 0 := c1
    have c2 : ¬ R 47 k < R 47 o := c2
    have c3 : ¬ R 52 o ≤ R 47 k := c3
    have c : ¬ o = k := fun q => c (by rw [q])
    have ec : decide (¬ o = k ∧ ¬ R 56 o = 0 ∧ ¬ R 47 k < R 47 o ∧ ¬ R 52 o ≤ R 47 k) = true := decide_eq_true ⟨c, c1, c2, c3⟩
    refine isInM ho ⟨fun c4 => ⟨hv2, isInM ho ⟨fun c5 => e0 ?_, fun c5 => e1 ?_⟩⟩, fun c4 => e1 ?_⟩
    · have c4 : bnd σ (σ.2.1 31 k) o = false := (b2_0 _).mp c4
      have c5 : bnd σ (σ.2.1 32 k) o = false := (b2_0 _).mp c5
      rw [rvV, c4, c5]; simp
    · have c5 : ¬ bnd σ (σ.2.1 32 k) o = false := fun q => c5 ((b2_0 _).mpr q)
      rw [rvV, ec]; simp [c5]
    · have c4 : ¬ bnd σ (σ.2.1 31 k) o = false := fun q => c4 ((b2_0 _).mpr q)
      rw [rvV, ec]; simp [c4]
def wOV (o d t : Int32) : Nat → Int32 := fun j => if j = 9 then o else if j = 11 then d else if j = 4 then t else 0
def ovV (σ : MS) (nl : Nat) (R : Nat → Nat → Int32) (o k : Nat) : Int32 := ruV σ (wOV (σ.2.1 35 o) (R 47 k - R 47 o) (σ.2.1 35 k)) (loP σ nl k) 2
def boV (σ : MS) (o k : Nat) : Bool := bnd σ (σ.2.1 31 k) o && bnd σ (σ.2.1 32 k) o
def vkH (σ : MS) (nl : Nat) (R : Nat → Nat → Int32) (k : Nat) : Nat → Bool := fun o => rvV σ R o k && (! boV σ o k && decide (ovV σ nl R o k = -1))
/-- the rival by which it is void -/
def voV (σ : MS) (npr nl : Nat) (R : Nat → Nat → Int32) (k : Nat) : Int32 := fstF (vkH σ nl R k) npr 0
def brV (σ : MS) (o k : Nat) : Int32 := if bnd σ (σ.2.1 31 o) k = true then (if bnd σ (σ.2.1 32 o) k = true then 0 else 1) else 2
def jStep (σ : MS) (np npr nl n : Nat) (R : Nat → Nat → Int32) (k : Nat) : Nat → Nat → Int32 := fun j q =>
  if q = k then
    (if j = 49 then 1 else if j = 50 then baV σ np nl n k (R 47 k) else if baV σ np nl n k (R 47 k) = -1 then
      (if j = 51 then voV σ npr nl R k else if voV σ npr nl R k = -1 then (if j = 52 then enV σ nl n k (R 47 k) else if j = 53 then ebV σ nl n k (R 47 k) else if j = 56 then 1 else R j q) else R j q) else R j q)
  else if baV σ np nl n k (R 47 k) = -1 ∧ voV σ npr nl R k = -1 ∧ rvV σ R q k = true then (if j = 52 then R 47 k else if j = 53 then 9 else if j = 54 then nI k else if j = 55 then brV σ q k else R j q) else R j q
def RM (np npr nl : Nat) (σ : MS) : Prop := σ.1 40 = nI np ∧ np ≤ 12 ∧ σ.1 46 = nI npr ∧ npr ≤ 10 ∧ σ.1 18 = nI nl ∧ nl ≤ 8 ∧ (∀ l, l < nl → LwM σ l) ∧ ∀ p, p < npr → isN (σ.2.1 31 p) np ∧ isN (σ.2.1 32 p) np
theorem ruleJ {σ : MS} {R : Nat → Nat → Int32} {g z : Int32} {w' : Nat → Int32} {np npr nl k : Nat} {Post : Int32 → MS → Prop} (h : RM np npr nl σ) (hk : k < 10) (h3 : ¬ z = 3) (hw : EqW (R 44) w') (hP : ∀ b, Post (ruV σ w' (loP σ nl k) z) (mJ σ g (va_up R 45 b))) : wpM_ruleOf (mJ σ g R) (nI k) z Post := by
  obtain ⟨h1, h2, h3', h4, h5, h6, h7, h8⟩ := h
  refine ruleOfM (σ := mJ σ g R) h5 h6 hk h3 h7 (fun r2 => ?_)
  have e : ruV (mJ σ g R) ((mJ σ g R).2.1 44) (loF ((mJ σ g R).2.1 8) ((mJ σ g R).2.1 9) ((mJ σ g R).2.1 33 k) ((mJ σ g R).2.1 34 k) nl) z = ruV σ w' (loP σ nl k) z := ruV_congr (σ := σ) (w := R 44) (w' := w') hw h6 h3 h7
  rw [e, mJ_A _ _ _ 45 _ (by omega) (by omega)]
  exact hP r2
/-- the same but for what is reckoned with -/
def Sm (R R1 : Nat → Nat → Int32) : Prop := ∀ j, 46 ≤ j → R1 j = R j
theorem Sm_44 {R R1 : Nat → Nat → Int32} (h : Sm R R1) (a : Nat → Int32) : Sm R (va_up R1 44 a) := fun j hj => by rw [vaU_at, if_neg (by omega)]; exact h j hj
theorem Sm_45 {R R1 : Nat → Nat → Int32} (h : Sm R R1) (a : Nat → Int32) : Sm R (va_up R1 45 a) := fun j hj => by rw [vaU_at, if_neg (by omega)]; exact h j hj
theorem rvV_Sm {σ : MS} {R R1 : Nat → Nat → Int32} {o k : Nat} (h : Sm R R1) : rvV σ R1 o k = rvV σ R o k := by
  unfold rvV
  rw [h 56 (by omega), h 47 (by omega), h 52 (by omega)]
theorem voidLoopM {σ : MS} {R : Nat → Nat → Int32} {g : Int32} {np npr nl n k : Nat} {Post : MS → Prop} (h : RM np npr nl σ) (hk : k < npr)
    (hV : ∀ o R1, Sm R R1 → o < npr → voV σ npr nl R k = nI o → Post (mJ σ g (va_up R1 51 (upd (R 51) k (nI o))))) (hN : voV σ npr nl R k = -1 → ∀ R1, Sm R R1 → ∃ g', wpM_judges_147 Post g' (mJ σ g R1) (nI k) (nI n) 0) :
    ∀ d i, i + d = npr → fstF (vkH σ nl R k) d i = voV σ npr nl R k → ∀ R1, Sm R R1 → wpM_judges_32 Post (d + 1) (mJ σ g R1) (nI k) (nI n) (nI i) := by
  have h10 : npr ≤ 10 := h.2.2.2.1
  have hv : vp_in (nI k) 10 := vp_in_nI (by omega) (by omega)
  have ck : (nI k).toNatClampNeg = k := nI_clamp (by omega)
  intro d
  induction d with
  | zero =>
    intro i hi hf R1 hS
    obtain rfl : i = npr := by omega
    refine ⟨fun _ => hN hf.symm R1 hS, fun c => absurd ?_ c⟩
    show σ.1 46 ≤ nI i
    rw [h.2.2.1]
    exact Int32.le_refl _
  | succ d ih =>
    intro i hi hf R1 hS
    have hvi : vp_in (nI i) 10 := vp_in_nI (by omega) (by omega)
    have cii : (nI i).toNatClampNeg = i := nI_clamp (by omega)
    rw [fstF] at hf
    have no : ¬ vkH σ nl R k i = true → ∀ R2, Sm R R2 → ∀ y, y = nI i + 1 → wpM_judges_32 Post (d + 1) (mJ σ g R2) (nI k) (nI n) y := by
      rintro q R2 hS2 _ rfl
      rw [nI_1]
      rw [if_neg q] at hf
      exact ih (i + 1) (by omega) hf R2 hS2
    refine ⟨fun c => ?_, fun _ => isRivalM (by omega) (by omega) ?_⟩
    · have c : σ.1 46 ≤ nI i := c
      rw [h.2.2.1] at c
      exact absurd c (nI_ge (by omega) (by omega))
    · rw [rvV_Sm hS]
      refine ⟨fun c => no ?_ R1 hS, fun c => ⟨hv, ?_⟩⟩
      · rw [vkH, (b2_0 _).mp c]; simp
      · have crv : rvV σ R i k = true := by
          cases hh : rvV σ R i k with
          | true => rfl
          | false => exact absurd ((b2_0 _).mpr hh) c
        -- not both: the over rules
        have h80 : boV σ i k = false → wpM_judges_80 (fun a0 a1 a2 a3 => wpM_judges_32 Post (d + 1) a0 a1 a2 a3) Post (mJ σ g R1) (nI k) (nI n) (nI i) := by
          intro cb
          refine nothingM (σ := mJ σ g R1) (by omega) (fun r hr => ?_)
          rw [mJ_A _ _ _ 44 _ (by omega) (by omega), ck, cii]
          refine ⟨hvi, vp_in_nI (n := 9) (by omega) (by omega), ?_⟩
          rintro _ rfl
          refine ⟨hv, hvi, vp_in_nI (n := 11) (by omega) (by omega), ?_⟩
          rintro _ rfl
          rw [mJ_A _ _ _ 44 _ (by omega) (by omega), mJ_A _ _ _ 44 _ (by omega) (by omega)]
          refine ruleJ (w' := wOV (σ.2.1 35 i) (R 47 k - R 47 i) (σ.2.1 35 k)) h (by omega) (by decide) ?_ (fun b => ?_)
          · rw [← hS 47 (by omega)]
            intro j hj
            show (if j = 11 then R1 47 k - R1 47 i else if j = 9 then σ.2.1 35 i else r j) = _
            rw [hr j hj]
            show _ = if j = 9 then σ.2.1 35 i else if j = 11 then R1 47 k - R1 47 i else if j = 4 then σ.2.1 35 k else 0
            by_cases q1 : j = 11
            · subst q1; rfl
            · rw [if_neg q1]
              by_cases q2 : j = 9
              · rw [if_pos q2, if_pos q2]
              · rw [if_neg q2, if_neg q2, if_neg q1]; rfl
          · refine ⟨fun c2 => ⟨hv, ?_⟩, fun c2 => no ?_ _ (Sm_45 (Sm_44 (Sm_44 (Sm_44 hS _) _) _) _)⟩
            · have c2 : ovV σ nl R i k = -1 := c2
              have q : vkH σ nl R k i = true := by rw [vkH, crv, cb, decide_eq_true c2]; rfl
              rw [if_pos q] at hf
              rintro _ rfl
              rw [mJ_A _ _ _ 51 _ (by omega) (by omega)]
              have := hV i _ (Sm_45 (Sm_44 (Sm_44 (Sm_44 hS r) (upd r 9 (σ.2.1 35 i))) (upd (upd r 9 (σ.2.1 35 i)) 11 (R1 47 k - R1 47 i))) b) (by omega) hf.symm
              rw [← hS 51 (by omega)] at this
              exact this
            · have c2 : ¬ ovV σ nl R i k = -1 := c2
              rw [vkH, decide_eq_false c2]; simp
        rw [ck]
        refine isInM (by omega) ⟨fun c2 => h80 ?_, fun c2 => ⟨hv, isInM (by omega) ⟨fun c3 => h80 ?_, fun c3 => no ?_ R1 hS⟩⟩⟩
        · have c2 : bnd σ (σ.2.1 31 k) i = false := (b2_0 _).mp c2
          rw [boV, c2]; rfl
        · have c3 : bnd σ (σ.2.1 32 k) i = false := (b2_0 _).mp c3
          rw [boV, c3]; simp
        · have c2 : ¬ bnd σ (σ.2.1 31 k) i = false := fun q => c2 ((b2_0 _).mpr q)
          have c3 : ¬ bnd σ (σ.2.1 32 k) i = false := fun q => c3 ((b2_0 _).mpr q)
          rw [vkH, boV]
          simp [c2, c3]
