/-! pure level: states, both sides -/
def cN (h : Nat → Bool) : Nat → Nat
  | 0 => 0
  | i + 1 => if h i = true then cN h i + 1 else cN h i
theorem cN_le (h : Nat → Bool) (n : Nat) : cN h n ≤ n := by
  induction n with
  | zero => exact Nat.le_refl _
  | succ n ih => rw [cN]; split <;> omega
theorem cN_0 {h : Nat → Bool} {n : Nat} (hz : cN h n = 0) : ∀ i, i < n → h i = false := by
  induction n with
  | zero => intro i hi; omega
  | succ n ih =>
    intro i hi
    rw [cN] at hz
    split at hz
    · omega
    · next c =>
      by_cases e : i = n
      · subst e; simpa using c
      · exact ih hz i (by omega)
theorem cN_sub {h h' : Nat → Bool} {k n : Nat} (hk : h k = true) (he : ∀ i, i < n → h' i = (h i && ! decide (i = k))) : (k < n → cN h' n + 1 = cN h n) ∧ (¬ k < n → cN h' n = cN h n) := by
  induction n with
  | zero => exact ⟨fun z => absurd z (by omega), fun _ => rfl⟩
  | succ n ih =>
    have ih := ih (fun i hi => he i (by omega))
    have hn := he n (by omega)
    rw [cN, cN, hn]
    by_cases e : n = k
    · subst e
      refine ⟨fun _ => ?_, fun z => absurd z (by omega)⟩
      have := ih.2 (by omega)
      simp [hk, this]
    · simp only [e, decide_false, Bool.not_false, Bool.and_true]
      constructor
      · intro z
        have := ih.1 (by omega)
        split <;> omega
      · intro z
        have := ih.2 (by omega)
        split <;> omega
theorem wt_js {σ : MS} {np npr nl n k i : Nat} {R : Nat → Nat → Int32} : wtH (jStep σ np npr nl n R k) i = (wtH R i && ! decide (i = k)) := by
  unfold wtH
  rw [js_49, js_lo (show 46 < 49 by omega), js_lo (show 48 < 49 by omega)]
  by_cases e : i = k
  · rw [if_pos e, decide_eq_true e]; simp
  · rw [if_neg e, decide_eq_false e]; simp
theorem jRun_ok {σ : MS} {np npr nl n : Nat} (hd : ∀ i, i < n → isD (σ.2.1 43 i)) (h10 : npr ≤ 10) : ∀ t R, JI npr R → cN (wtH R) npr ≤ t → JI npr (jRun σ np npr nl n t R) ∧ ∀ p, p < npr → wtH (jRun σ np npr nl n t R) p = false := by
  intro t
  induction t with
  | zero => intro R hJ hc; exact ⟨hJ, cN_0 (h := wtH R) (by omega)⟩
  | succ t ih =>
    intro R hJ hc
    rw [jRun]
    split
    · next c => exact ⟨hJ, (dcF_min (h := wtH R) (v := R 47) (by omega)).1 c⟩
    · next c =>
      rcases nxV_is (npr := npr) (R := R) with e | ⟨k, hk, e, hw⟩
      · exact absurd e c
      · rw [e, nI_clamp (by omega)]
        have := (cN_sub (n := npr) hw (fun i _ => wt_js (σ := σ) (np := np) (npr := npr) (nl := nl) (n := n) (k := k) (i := i) (R := R))).1 hk
        exact ih _ (JI_step hd h10 hJ hk e) (by omega)
/-- what holds when all are judged -/
def JF (npr : Nat) (R : Nat → Nat → Int32) : Prop := JI npr R ∧ ∀ p, p < npr → wtH R p = false
theorem jAll_ok {σ : MS} {np npr nl n : Nat} (hd : ∀ i, i < n → isD (σ.2.1 43 i)) (hn : n ≤ 200) (h10 : npr ≤ 10) (h34 : ∀ p, p < npr → isD (σ.2.1 34 p)) : JF npr (jAll σ np npr nl n) := jRun_ok hd h10 npr _ (JI_0 hd hn h34) (cN_le _ _)
def stJ (co : Nat → Int32) (R : Nat → Nat → Int32) (p : Nat) (d : Int32) : Int32 := if R 46 p = -1 then 0 else if R 47 p ≤ d then (if R 48 p = 2 then 3 else if R 50 p = -1 then (if R 51 p = -1 then (if R 52 p ≤ d then R 53 p else 6) else 5) else 4) else if co p = -1 then 1 else 2
theorem stateOfM {σ : MS} {p : Nat} {d : Int32} {Post : Int32 → MS → Prop} (hp : p < 10) (hP : Post (stJ (σ.2.1 36) σ.2.1 p d) σ) : wpM_stateOf σ (nI p) d Post := by
  have hv : vp_in (nI p) 10 := vp_in_nI hp (by omega)
  unfold wpM_stateOf
  rw [nI_clamp (by omega)]
  unfold stJ at hP
  refine ⟨hv, fun c => ?_, fun c => ⟨hv, fun c1 => ⟨hv, fun c2 => ?_, fun c2 => ⟨hv, fun c3 => ⟨hv, fun c4 => ⟨hv, fun c5 => ⟨hv, ?_⟩, fun c5 => ?_⟩, fun c4 => ?_⟩, fun c3 => ?_⟩⟩, fun c1 => ⟨hv, fun c2 => ?_, fun c2 => ?_⟩⟩⟩
  · rw [if_pos c] at hP; exact hP
  · rw [if_neg c, if_pos c1, if_pos c2] at hP; exact hP
  · rw [if_neg c, if_pos c1, if_neg c2, if_pos c3, if_pos c4, if_pos c5] at hP; exact hP
  · rw [if_neg c, if_pos c1, if_neg c2, if_pos c3, if_pos c4, if_neg c5] at hP; exact hP
  · rw [if_neg c, if_pos c1, if_neg c2, if_pos c3, if_neg c4] at hP; exact hP
  · rw [if_neg c, if_pos c1, if_neg c2, if_neg c3] at hP; exact hP
  · rw [if_neg c, if_neg c1, if_pos c2] at hP; exact hP
  · rw [if_neg c, if_neg c1, if_neg c2] at hP; exact hP
theorem stJ_congr {co : Nat → Int32} {R1 R : Nat → Nat → Int32} {npr p : Nat} {d : Int32} (h : EqR npr R1 R) (hp : p < npr) : stJ co R1 p d = stJ co R p d := by
  unfold stJ
  rw [h 46 p (by omega) (by omega) hp, h 47 p (by omega) (by omega) hp, h 48 p (by omega) (by omega) hp, h 50 p (by omega) (by omega) hp, h 51 p (by omega) (by omega) hp, h 52 p (by omega) (by omega) hp, h 53 p (by omega) (by omega) hp]
theorem cap_le2 {x d : Int32} (hx : x = 1000000 ∨ isD x) (hd : d < 10000) : capV x ≤ d ↔ x ≤ d := cap_le (hx.elim Or.inl (fun z => Or.inr (isD_lt z))) hd
theorem stateOnC {σx : CS} {σm : MS} {R R' : Nat → Nat → Int32} {v kn d : Int32} {np npr p : Nat} {Post : Int32 → CS → Prop} (hB : IPro npr np σx σm) (hJ : JF npr R) (hE : EqC npr R' (cR R)) (hd : isD d) (hp : p < npr) (hP : Post (stJ (σm.2.1 36) R p d) (cJ σx v kn R')) : wpC_X4_stateOn (cJ σx v kn R') (nI p) d Post := by
  have h10 := hB.1
  have hv : vp_in (nI p) 10 := vp_in_nI (by omega) (by omega)
  have dl := isD_lt hd
  obtain ⟨j1, j2, j3, j4⟩ := hJ.1.1 p hp
  have hw := hJ.2 p hp
  have e38 : R' 38 p = vdR R p := hE 38 p (by omega) (by omega) hp
  have e37 : R' 37 p = capV (R 47 p) := hE 37 p (by omega) (by omega) hp
  have e41 : R' 41 p = capV (R 52 p) := hE 41 p (by omega) (by omega) hp
  have e42 : R' 42 p = R 53 p := hE 42 p (by omega) (by omega) hp
  have e20 : σx.2.1 20 p = σm.2.1 36 p := by rw [hB.2.2.2.2.2.2.2.2.1]
  have hef : R 47 p = 1000000 ∨ isD (R 47 p) := j1.elim (fun z => Or.inl z.2) (fun z => Or.inr z.2)
  have c37 := cap_le2 hef dl
  have c41 := cap_le (e := d) j4 dl
  unfold wpC_X4_stateOn wpC_X4_stateOn_68
  rw [nI_clamp (by omega)]
  change vp_in (nI p) 10 ∧ (R' 38 p = 0 → _) ∧ (¬ R' 38 p = 0 → vp_in (nI p) 10 ∧ (R' 37 p ≤ d → vp_in (nI p) 10 ∧ (R' 38 p = 6 → vp_in (nI p) 10 ∧ (d < R' 41 p → vp_in (nI p) 10 ∧ Post (R' 38 p) (cJ σx v kn R')) ∧ (¬ d < R' 41 p → vp_in (nI p) 10 ∧ Post (R' 42 p) (cJ σx v kn R'))) ∧ (¬ R' 38 p = 6 → vp_in (nI p) 10 ∧ Post (R' 38 p) (cJ σx v kn R'))) ∧ (¬ R' 37 p ≤ d → vp_in (nI p) 10 ∧ (σx.2.1 20 p = -1 → _) ∧ (¬ σx.2.1 20 p = -1 → _)))
  rw [e38, e37, e41, e42, e20, c37]
  have c41' : d < capV (R 52 p) ↔ ¬ R 52 p ≤ d := by
    rw [← c41]
    generalize capV (R 52 p) = z
    constructor <;> intro h <;> grind
  rw [c41']
  have e0 : vdR R p = 0 ↔ R 46 p = -1 := by
    unfold vdR
    by_cases c0 : R 46 p = -1
    · rw [if_pos c0]; exact ⟨fun _ => c0, fun _ => rfl⟩
    · rw [if_neg c0]
      refine ⟨fun z => ?_, fun z => absurd z c0⟩
      repeat' split at z
      all_goals exact absurd z (by decide)
  rw [e0]
  unfold stJ at hP
  refine ⟨hv, fun c => ?_, fun c => ⟨hv, fun c1 => ?_, fun c1 => ⟨hv, fun c2 => ?_, fun c2 => ?_⟩⟩⟩
  · rw [if_pos c] at hP; exact hP
  · rw [if_neg c, if_pos c1] at hP
    -- how: not open
    have n0 : ¬ R 48 p = 0 := by
      intro z
      rcases j1 with q | q
      · rw [q.2] at c1
        generalize d = x at c1 dl
        grind
      · rcases q.1 with q | q <;> rw [q] at z <;> exact absurd z (by decide)
    have ev : vdR R p = if R 48 p = 2 then 3 else if ¬ R 50 p = -1 then 4 else if ¬ R 51 p = -1 then 5 else 6 := by
      unfold vdR
      rw [if_neg c, if_neg n0]
      by_cases q : R 48 p = 2
      · rw [if_pos q, if_pos q]
      · rw [if_neg q, if_neg q, if_neg]
        intro z
        have q1 : R 48 p = 1 := by
          rcases j1 with q' | q'
          · exact absurd q'.1 n0
          · exact q'.1.resolve_right q
        rw [wtH, decide_eq_true (p := (R 49 p = 0 ∧ ¬ R 46 p = -1 ∧ R 48 p = 1)) ⟨z, c, q1⟩] at hw
        exact absurd hw (by decide)
    rw [ev]
    by_cases q : R 48 p = 2
    · rw [if_pos q] at hP
      rw [if_pos q]
      exact ⟨hv, fun z => absurd z (by decide), fun _ => ⟨hv, hP⟩⟩
    · rw [if_neg q] at hP
      rw [if_neg q]
      by_cases q2 : R 50 p = -1
      · rw [if_pos q2] at hP
        rw [if_neg (fun z => z q2)]
        by_cases q3 : R 51 p = -1
        · rw [if_pos q3] at hP
          rw [if_neg (fun z => z q3)]
          refine ⟨hv, fun _ => ⟨hv, fun c3 => ?_, fun c3 => ?_⟩, fun z => absurd rfl z⟩
          · rw [if_neg c3] at hP; exact ⟨hv, hP⟩
          · rw [if_pos (Classical.byContradiction c3)] at hP; exact ⟨hv, hP⟩
        · rw [if_neg q3] at hP
          rw [if_pos q3]
          exact ⟨hv, fun z => absurd z (by decide), fun _ => ⟨hv, hP⟩⟩
      · rw [if_neg q2] at hP
        rw [if_pos q2]
        exact ⟨hv, fun z => absurd z (by decide), fun _ => ⟨hv, hP⟩⟩
  · rw [if_neg c, if_neg c1, if_pos c2] at hP; exact hP
  · rw [if_neg c, if_neg c1, if_neg c2] at hP; exact hP
