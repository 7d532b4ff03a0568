/-! pure level: the facts of both sides -/
def FaE (σx : CS) (σm : MS) (np i : Nat) : Prop := isD (σm.2.1 43 i) ∧ (
  (∃ s, s < 4 ∧ σx.2.1 26 i = nI s ∧ σm.2.1 40 i = nI s ∧ σx.2.1 27 i = σm.2.1 41 i) ∨
  (σx.2.1 26 i = 4 ∧ σm.2.1 40 i = 9 ∧ σx.2.1 27 i = σm.2.1 41 i ∧ σx.2.1 28 i = σm.2.1 42 i) ∨
  (σx.2.1 26 i = 5 ∧ σm.2.1 40 i = 7 ∧ σx.2.1 27 i = σm.2.1 41 i) ∨
  (σx.2.1 26 i = 6 ∧ σm.2.1 40 i = 8 ∧ σx.2.1 27 i = σm.2.1 41 i) ∨
  ((σx.2.1 26 i = 7 ∧ σm.2.1 40 i = 4 ∨ σx.2.1 26 i = 8 ∧ σm.2.1 40 i = 5) ∧ σx.2.1 28 i = σm.2.1 42 i ∧ ((∃ w, w < np ∧ σx.2.1 27 i = nI w ∧ σm.2.1 41 i = nI w) ∨ (∃ s, s < 20 ∧ σx.2.1 27 i = nI (12 + s) ∧ σm.2.1 41 i = nI (100 + s)))) ∨
  (σx.2.1 26 i = 9 ∧ σm.2.1 40 i = 6 ∧ σx.2.1 27 i = σm.2.1 41 i))
def IFac (nf np : Nat) (σx : CS) (σm : MS) : Prop := nf ≤ 200 ∧ σx.1 504 = nI nf ∧ σm.1 57 = nI nf ∧ σx.2.1 29 = σm.2.1 43 ∧ ∀ i, i < nf → FaE σx σm np i
theorem s4c {s : Nat} (h : s < 4) : nI s = 0 ∨ nI s = 1 ∨ nI s = 2 ∨ nI s = 3 := by
  rcases (show s = 0 ∨ s = 1 ∨ s = 2 ∨ s = 3 by omega) with rfl | rfl | rfl | rfl
  · exact Or.inl rfl
  · exact Or.inr (Or.inl rfl)
  · exact Or.inr (Or.inr (Or.inl rfl))
  · exact Or.inr (Or.inr (Or.inr rfl))
theorem FaE_fate {σx : CS} {σm : MS} {np i : Nat} {s a : Int32} (hs : s = 0 ∨ s = 1 ∨ s = 2 ∨ s = 3) (h : FaE σx σm np i) : (σx.2.1 26 i = s ∧ σx.2.1 27 i = a) ↔ (σm.2.1 40 i = s ∧ σm.2.1 41 i = a) := by
  obtain ⟨_, h⟩ := h
  rcases h with ⟨t, ht, e1, e2, e3⟩ | ⟨e1, e2, e3, e4⟩ | ⟨e1, e2, e3⟩ | ⟨e1, e2, e3⟩ | ⟨⟨e1, e2⟩ | ⟨e1, e2⟩, _⟩ | ⟨e1, e2, e3⟩
  · rw [e1, e2, e3]
  all_goals
    rw [e1, e2]
    rcases hs with rfl | rfl | rfl | rfl <;> exact ⟨fun q => absurd q.1 (by decide), fun q => absurd q.1 (by decide)⟩
theorem FaE_leave {σx : CS} {σm : MS} {np i : Nat} {a b : Int32} (h : FaE σx σm np i) : (σx.2.1 26 i = 4 ∧ (σx.2.1 27 i = a ∧ σx.2.1 28 i = b ∨ σx.2.1 27 i = b ∧ σx.2.1 28 i = a)) ↔ (σm.2.1 40 i = 9 ∧ (σm.2.1 41 i = a ∧ σm.2.1 42 i = b ∨ σm.2.1 41 i = b ∧ σm.2.1 42 i = a)) := by
  obtain ⟨_, h⟩ := h
  rcases h with ⟨t, ht, e1, e2, e3⟩ | ⟨e1, e2, e3, e4⟩ | ⟨e1, e2, e3⟩ | ⟨e1, e2, e3⟩ | ⟨⟨e1, e2⟩ | ⟨e1, e2⟩, _⟩ | ⟨e1, e2, e3⟩
  · rw [e1, e2]
    rcases s4c ht with q | q | q | q <;> rw [q] <;> exact ⟨fun q => absurd q.1 (by decide), fun q => absurd q.1 (by decide)⟩
  · rw [e1, e2, e3, e4]
    exact ⟨fun q => ⟨rfl, q.2⟩, fun q => ⟨rfl, q.2⟩⟩
  all_goals
    rw [e1, e2]
    exact ⟨fun q => absurd q.1 (by decide), fun q => absurd q.1 (by decide)⟩
theorem FaE_cond {σx : CS} {σm : MS} {np i : Nat} {a : Int32} (h : FaE σx σm np i) : ((σx.2.1 26 i = 5 ∨ σx.2.1 26 i = 6) ∧ σx.2.1 27 i = a) ↔ ((σm.2.1 40 i = 7 ∨ σm.2.1 40 i = 8) ∧ σm.2.1 41 i = a) := by
  obtain ⟨_, h⟩ := h
  rcases h with ⟨t, ht, e1, e2, e3⟩ | ⟨e1, e2, e3, e4⟩ | ⟨e1, e2, e3⟩ | ⟨e1, e2, e3⟩ | ⟨⟨e1, e2⟩ | ⟨e1, e2⟩, _⟩ | ⟨e1, e2, e3⟩
  · rw [e1, e2]
    rcases s4c ht with q | q | q | q <;> rw [q] <;> exact ⟨fun q => absurd q.1 (by decide), fun q => absurd q.1 (by decide)⟩
  · rw [e1, e2]
    exact ⟨fun q => absurd q.1 (by decide), fun q => absurd q.1 (by decide)⟩
  · rw [e1, e2, e3]
    exact ⟨fun q => ⟨Or.inl rfl, q.2⟩, fun q => ⟨Or.inl rfl, q.2⟩⟩
  · rw [e1, e2, e3]
    exact ⟨fun q => ⟨Or.inr rfl, q.2⟩, fun q => ⟨Or.inr rfl, q.2⟩⟩
  all_goals
    rw [e1, e2]
    exact ⟨fun q => absurd q.1 (by decide), fun q => absurd q.1 (by decide)⟩
theorem FaE_fails {σx : CS} {σm : MS} {np i : Nat} (h : FaE σx σm np i) (h2 : σm.2.1 40 i = 7 ∨ σm.2.1 40 i = 8) : σx.2.1 26 i = 6 ↔ ¬ σm.2.1 40 i = 7 := by
  obtain ⟨_, h⟩ := h
  rcases h with ⟨t, ht, e1, e2, e3⟩ | ⟨e1, e2, e3, e4⟩ | ⟨e1, e2, e3⟩ | ⟨e1, e2, e3⟩ | ⟨⟨e1, e2⟩ | ⟨e1, e2⟩, _⟩ | ⟨e1, e2, e3⟩
  · rw [e2] at h2
    rcases s4c ht with q | q | q | q <;> rw [q] at h2 <;> exact absurd h2 (by decide)
  all_goals
    rw [e2] at h2
    rw [e1, e2]
    revert h2
    decide
theorem FaE_fame {σx : CS} {σm : MS} {np i : Nat} {a : Int32} (h : FaE σx σm np i) : (σx.2.1 26 i = 9 ∧ σx.2.1 27 i = a) ↔ (σm.2.1 40 i = 6 ∧ σm.2.1 41 i = a) := by
  obtain ⟨_, h⟩ := h
  rcases h with ⟨t, ht, e1, e2, e3⟩ | ⟨e1, e2, e3, e4⟩ | ⟨e1, e2, e3⟩ | ⟨e1, e2, e3⟩ | ⟨⟨e1, e2⟩ | ⟨e1, e2⟩, _⟩ | ⟨e1, e2, e3⟩
  · rw [e1, e2]
    rcases s4c ht with q | q | q | q <;> rw [q] <;> exact ⟨fun q => absurd q.1 (by decide), fun q => absurd q.1 (by decide)⟩
  · rw [e1, e2]
    exact ⟨fun q => absurd q.1 (by decide), fun q => absurd q.1 (by decide)⟩
  · rw [e1, e2]
    exact ⟨fun q => absurd q.1 (by decide), fun q => absurd q.1 (by decide)⟩
  · rw [e1, e2]
    exact ⟨fun q => absurd q.1 (by decide), fun q => absurd q.1 (by decide)⟩
  · rw [e1, e2]
    exact ⟨fun q => absurd q.1 (by decide), fun q => absurd q.1 (by decide)⟩
  · rw [e1, e2]
    exact ⟨fun q => absurd q.1 (by decide), fun q => absurd q.1 (by decide)⟩
  · rw [e1, e2, e3]
    exact ⟨fun q => ⟨rfl, q.2⟩, fun q => ⟨rfl, q.2⟩⟩
/-- a witness's number in the reference -/
def mw (w : Nat) : Nat := if w < 12 then w else 88 + w
theorem mw_eq {v w : Nat} (hv : v < 12) : v = w ↔ v = mw w := by
  unfold mw
  split <;> omega
theorem mw_eq2 {s w : Nat} : 12 + s = w ↔ 100 + s = mw w := by
  unfold mw
  split <;> omega
theorem mw_lt {w : Nat} (h : w < 32) : mw w < 120 := by
  unfold mw
  split <;> omega
theorem FaE_word {σx : CS} {σm : MS} {np i p w : Nat} (hnp : np ≤ 12) (hw : w < 32) (h : FaE σx σm np i) : ((σx.2.1 26 i = 7 ∨ σx.2.1 26 i = 8) ∧ σx.2.1 28 i = nI p ∧ σx.2.1 27 i = nI w) ↔ ((σm.2.1 40 i = 4 ∨ σm.2.1 40 i = 5) ∧ σm.2.1 41 i = nI (mw w) ∧ σm.2.1 42 i = nI p) := by
  have hm := mw_lt hw
  obtain ⟨_, h⟩ := h
  rcases h with ⟨t, ht, e1, e2, e3⟩ | ⟨e1, e2, e3, e4⟩ | ⟨e1, e2, e3⟩ | ⟨e1, e2, e3⟩ | ⟨es, e3, e4⟩ | ⟨e1, e2, e3⟩
  · rw [e1, e2]
    rcases s4c ht with q | q | q | q <;> rw [q] <;> exact ⟨fun q => absurd q.1 (by decide), fun q => absurd q.1 (by decide)⟩
  · rw [e1, e2]
    exact ⟨fun q => absurd q.1 (by decide), fun q => absurd q.1 (by decide)⟩
  · rw [e1, e2]
    exact ⟨fun q => absurd q.1 (by decide), fun q => absurd q.1 (by decide)⟩
  · rw [e1, e2]
    exact ⟨fun q => absurd q.1 (by decide), fun q => absurd q.1 (by decide)⟩
  · have hA : σx.2.1 26 i = 7 ∨ σx.2.1 26 i = 8 := es.elim (fun q => Or.inl q.1) (fun q => Or.inr q.1)
    have hB : σm.2.1 40 i = 4 ∨ σm.2.1 40 i = 5 := es.elim (fun q => Or.inl q.2) (fun q => Or.inr q.2)
    have hC : σx.2.1 27 i = nI w ↔ σm.2.1 41 i = nI (mw w) := by
      rcases e4 with ⟨v, hv, q1, q2⟩ | ⟨s, hs, q1, q2⟩
      · rw [q1, q2, nI_eq (by omega) (by omega), nI_eq (by omega) (by omega)]
        exact mw_eq (by omega)
      · rw [q1, q2, nI_eq (by omega) (by omega), nI_eq (by omega) (by omega)]
        exact mw_eq2
    rw [e3]
    exact ⟨fun q => ⟨hB, hC.mp q.2.2, q.2.1⟩, fun q => ⟨hA, q.2.2, hC.mpr q.2.1⟩⟩
  · rw [e1, e2]
    exact ⟨fun q => absurd q.1 (by decide), fun q => absurd q.1 (by decide)⟩
theorem FaE_yes {σx : CS} {σm : MS} {np i : Nat} (h : FaE σx σm np i) (h2 : σm.2.1 40 i = 4 ∨ σm.2.1 40 i = 5) : (σx.2.1 26 i = 7 ↔ σm.2.1 40 i = 4) ∧ ¬ σx.2.1 26 i = -1 := by
  obtain ⟨_, h⟩ := h
  rcases h with ⟨t, ht, e1, e2, e3⟩ | ⟨e1, e2, e3, e4⟩ | ⟨e1, e2, e3⟩ | ⟨e1, e2, e3⟩ | ⟨⟨e1, e2⟩ | ⟨e1, e2⟩, _⟩ | ⟨e1, e2, e3⟩
  · rw [e2] at h2
    rcases s4c ht with q | q | q | q <;> rw [q] at h2 <;> exact absurd h2 (by decide)
  all_goals
    rw [e2] at h2
    rw [e1, e2]
    revert h2
    decide
theorem FaE_wit {σx : CS} {σm : MS} {np i w : Nat} (h : FaE σx σm np i) (h2 : σm.2.1 40 i = 4 ∨ σm.2.1 40 i = 5) (h3 : σm.2.1 41 i = nI w) (hw : w < 2 ^ 31) (hnp : np ≤ 12) : w < np ∨ 100 ≤ w ∧ w < 120 := by
  obtain ⟨_, h⟩ := h
  rcases h with ⟨t, ht, e1, e2, e3⟩ | ⟨e1, e2, e3, e4⟩ | ⟨e1, e2, e3⟩ | ⟨e1, e2, e3⟩ | ⟨es, e3, ⟨v, hv, q1, q2⟩ | ⟨s, hs, q1, q2⟩⟩ | ⟨e1, e2, e3⟩
  · rw [e2] at h2
    rcases s4c ht with q | q | q | q <;> rw [q] at h2 <;> exact absurd h2 (by decide)
  · rw [e2] at h2; exact absurd h2 (by decide)
  · rw [e2] at h2; exact absurd h2 (by decide)
  · rw [e2] at h2; exact absurd h2 (by decide)
  · rw [q2, nI_eq (by omega) (by omega)] at h3
    omega
  · rw [q2, nI_eq (by omega) (by omega)] at h3
    omega
  · rw [e2] at h2; exact absurd h2 (by decide)
theorem lsF_congr {h h' : Nat → Bool} {n : Nat} (hh : ∀ i, i < n → h i = h' i) : lsF h n = lsF h' n := by
  induction n with
  | zero => rfl
  | succ n ih => rw [lsF, lsF, hh n (by omega), ih (fun i hi => hh i (by omega))]
theorem cnt_mw {h : Nat → Bool} (h0 : ∀ w, 12 ≤ w → w < 100 → h w = false) : cntF h 120 = cntF (fun w => h (mw w)) 32 := by
  have a1 : cntF h 12 = cntF (fun w => h (mw w)) 12 := cntF_congr (fun i hi => by show h i = h (mw i); rw [mw, if_pos hi])
  have a2 : ∀ k, k ≤ 88 → cntF h (12 + k) = cntF h 12 := by
    intro k
    induction k with
    | zero => intro _; rfl
    | succ k ih =>
      intro hk
      rw [← Nat.add_assoc, cntF, if_neg (by rw [h0 (12 + k) (by omega) (by omega)]; decide)]
      exact ih (by omega)
  have a3 : ∀ k, k ≤ 20 → cntF h (100 + k) = cntF (fun w => h (mw w)) (12 + k) := by
    intro k
    induction k with
    | zero => intro _; exact (a2 88 (by omega)).trans a1
    | succ k ih =>
      intro hk
      have e : mw (12 + k) = 100 + k := by unfold mw; rw [if_neg (by omega)]; omega
      rw [← Nat.add_assoc, ← Nat.add_assoc, cntF, cntF, ih (by omega), e]
  exact a3 20 (by omega)
theorem sd_none {σx : CS} {σm : MS} {np n p w : Nat} (hF : ∀ i, i < n → FaE σx σm np i) (hnp : np ≤ 12) (h1 : np ≤ w) (h2 : w < 100) : sdV σm n p w = -1 := by
  rcases lsF_is (fun i => decide ((σm.2.1 40 i = 4 ∨ σm.2.1 40 i = 5) ∧ σm.2.1 41 i = nI w ∧ σm.2.1 42 i = nI p)) n with e | ⟨j, hj, ej, hh⟩
  · exact e
  · have hh := of_decide_eq_true hh
    have := FaE_wit (hF j hj) hh.1 hh.2.1 (by omega) hnp
    omega
theorem lw_sd {σx : CS} {σm : MS} {np n p w : Nat} (hn : n ≤ 200) (hF : ∀ i, i < n → FaE σx σm np i) (hnp : np ≤ 12) (hw : w < 32) :
    (lwV σx n p w = -1 ↔ sdV σm n p (mw w) = -1) ∧ (¬ sdV σm n p (mw w) = -1 → ((lwV σx n p w = 7 ↔ σm.2.1 40 (sdV σm n p (mw w)).toNatClampNeg = 4) ∧ (mw w < np ∨ 100 ≤ mw w))) := by
  have e : lsF (lwH σx p w) n = sdV σm n p (mw w) := lsF_congr (fun i hi => decide_eq_decide.mpr (FaE_word hnp hw (hF i hi)))
  rcases lsF_is (fun i => decide ((σm.2.1 40 i = 4 ∨ σm.2.1 40 i = 5) ∧ σm.2.1 41 i = nI (mw w) ∧ σm.2.1 42 i = nI p)) n with e1 | ⟨j, hj, ej, hh⟩
  · have e1 : sdV σm n p (mw w) = -1 := e1
    refine ⟨⟨fun _ => e1, fun _ => ?_⟩, fun q => absurd e1 q⟩
    rw [lwV, e, if_pos e1]
  · have ej : sdV σm n p (mw w) = nI j := ej
    have hh := of_decide_eq_true hh
    have h1 : ¬ sdV σm n p (mw w) = -1 := by rw [ej]; exact nI_nm1 (by omega)
    have h2 := FaE_yes (hF j hj) hh.1
    have h3 := FaE_wit (hF j hj) hh.1 hh.2.1 (by have := mw_lt hw; omega) hnp
    rw [lwV, e, if_neg h1, ej, nI_clamp (by omega)]
    refine ⟨⟨fun q => absurd q h2.2, fun q => absurd q (nI_nm1 (by omega))⟩, fun _ => ⟨h2.1, ?_⟩⟩
    omega
theorem kin_mw {σx : CS} {σm : MS} {np n p w : Nat} (hn : n ≤ 200) (hF : ∀ i, i < n → FaE σx σm np i) (hnp : np ≤ 12) (r12 : σx.2.1 12 = σm.2.1 29) (r15 : σx.2.1 15 = σm.2.1 31) (r16 : σx.2.1 16 = σm.2.1 32) (hw : w < 32) (hs : ¬ sdV σm n p (mw w) = -1) : kinC σx np p w = (decide (mw w < 100) && kinV σm np p (mw w)) := by
  have h := ((lw_sd (p := p) hn hF hnp hw).2 hs).2
  rw [kinC, kinV, r12, r15, r16]
  by_cases c : w < 12
  · have e : mw w = w := if_pos c
    rw [e] at h ⊢
    rw [decide_eq_true (show w < np by omega), decide_eq_true (show w < 100 by omega)]
  · have e : mw w = 88 + w := if_neg c
    rw [e]
    rw [decide_eq_false (show ¬ w < np by omega), decide_eq_false (show ¬ 88 + w < 100 by omega), Bool.false_and, Bool.false_and]
theorem flag_g (a b c d : Prop) [Decidable a] [Decidable b] [Decidable c] [Decidable d] (k k2 : Bool) (h1 : a ↔ c) (h2 : ¬ c → (b ↔ d)) (h3 : ¬ c → k = k2) : (decide (¬ a ∧ b) && k) = (decide (¬ c ∧ d) && k2) := by
  by_cases q : c
  · simp [h1, q]
  · simp [h1, q, h2 q, h3 q]
theorem yes_eq_w {σx : CS} {σm : MS} {np n p w : Nat} (hn : n ≤ 200) (hF : ∀ i, i < n → FaE σx σm np i) (hnp : np ≤ 12) (r12 : σx.2.1 12 = σm.2.1 29) (r15 : σx.2.1 15 = σm.2.1 31) (r16 : σx.2.1 16 = σm.2.1 32) (hw : w < 32) : yesC σx np n p w = yesH σm np n p (mw w) := by
  have h := lw_sd (p := p) hn hF hnp hw
  exact flag_g _ _ _ _ _ _ h.1 (fun q => (h.2 q).1) (fun q => by rw [kin_mw hn hF hnp r12 r15 r16 hw q])
theorem yes_eq_0 {σx : CS} {σm : MS} {np n p w : Nat} (hF : ∀ i, i < n → FaE σx σm np i) (hnp : np ≤ 12) (h1 : 12 ≤ w) (h2 : w < 100) : yesH σm np n p w = false := by
  rw [yesH, sd_none hF hnp (by omega) h2]
  simp
theorem yes_eq {σx : CS} {σm : MS} {np n p : Nat} (hn : n ≤ 200) (hF : ∀ i, i < n → FaE σx σm np i) (hnp : np ≤ 12) (r12 : σx.2.1 12 = σm.2.1 29) (r15 : σx.2.1 15 = σm.2.1 31) (r16 : σx.2.1 16 = σm.2.1 32) : cntF (yesC σx np n p) 32 = cntF (yesH σm np n p) 120 :=
  (cntF_congr (fun w hw => yes_eq_w hn hF hnp r12 r15 r16 hw)).trans (cnt_mw (fun w h1 h2 => yes_eq_0 hF hnp h1 h2)).symm
theorem no_eq_w {σx : CS} {σm : MS} {np n p w : Nat} (hn : n ≤ 200) (hF : ∀ i, i < n → FaE σx σm np i) (hnp : np ≤ 12) (r12 : σx.2.1 12 = σm.2.1 29) (r15 : σx.2.1 15 = σm.2.1 31) (r16 : σx.2.1 16 = σm.2.1 32) (hw : w < 32) : noC σx np n p w = noH σm np n p (mw w) := by
  have h := lw_sd (p := p) hn hF hnp hw
  exact flag_g _ _ _ _ _ _ h.1 (fun q => not_congr (h.2 q).1) (fun q => by rw [kin_mw hn hF hnp r12 r15 r16 hw q])
theorem no_eq_0 {σx : CS} {σm : MS} {np n p w : Nat} (hF : ∀ i, i < n → FaE σx σm np i) (hnp : np ≤ 12) (h1 : 12 ≤ w) (h2 : w < 100) : noH σm np n p w = false := by
  rw [noH, sd_none hF hnp (by omega) h2]
  simp
theorem no_eq {σx : CS} {σm : MS} {np n p : Nat} (hn : n ≤ 200) (hF : ∀ i, i < n → FaE σx σm np i) (hnp : np ≤ 12) (r12 : σx.2.1 12 = σm.2.1 29) (r15 : σx.2.1 15 = σm.2.1 31) (r16 : σx.2.1 16 = σm.2.1 32) : cntF (noC σx np n p) 32 = cntF (noH σm np n p) 120 :=
  (cntF_congr (fun w hw => no_eq_w hn hF hnp r12 r15 r16 hw)).trans (cnt_mw (fun w h1 h2 => no_eq_0 hF hnp h1 h2)).symm
theorem ki_eq_w {σx : CS} {σm : MS} {np n p w : Nat} (hn : n ≤ 200) (hF : ∀ i, i < n → FaE σx σm np i) (hnp : np ≤ 12) (r12 : σx.2.1 12 = σm.2.1 29) (r15 : σx.2.1 15 = σm.2.1 31) (r16 : σx.2.1 16 = σm.2.1 32) (hw : w < 32) : kiC σx np n p w = kinH σm np n p (mw w) := by
  have h := lw_sd (p := p) hn hF hnp hw
  exact flag_g _ _ _ _ _ _ h.1 (fun q => (h.2 q).1) (fun q => by rw [kin_mw hn hF hnp r12 r15 r16 hw q])
theorem ki_eq_0 {σx : CS} {σm : MS} {np n p w : Nat} (hF : ∀ i, i < n → FaE σx σm np i) (hnp : np ≤ 12) (h1 : 12 ≤ w) (h2 : w < 100) : kinH σm np n p w = false := by
  rw [kinH, sd_none hF hnp (by omega) h2]
  simp
theorem ki_eq {σx : CS} {σm : MS} {np n p : Nat} (hn : n ≤ 200) (hF : ∀ i, i < n → FaE σx σm np i) (hnp : np ≤ 12) (r12 : σx.2.1 12 = σm.2.1 29) (r15 : σx.2.1 15 = σm.2.1 31) (r16 : σx.2.1 16 = σm.2.1 32) : cntF (kiC σx np n p) 32 = cntF (kinH σm np n p) 120 :=
  (cntF_congr (fun w hw => ki_eq_w hn hF hnp r12 r15 r16 hw)).trans (cnt_mw (fun w h1 h2 => ki_eq_0 hF hnp h1 h2)).symm
theorem wvP_congr {a b c d t a' b' c' d' t' : Int32} (h1 : a = a') (h2 : b = b') (h3 : c = c') (h4 : d = d') (h5 : t = t') : wvP a b c d t = wvP a' b' c' d' t' := by rw [h1, h2, h3, h4, h5]
theorem wPC_eq {σx : CS} {σm : MS} {np n p : Nat} (hn : n ≤ 200) (hF : ∀ i, i < n → FaE σx σm np i) (hnp : np ≤ 12) (r12 : σx.2.1 12 = σm.2.1 29) (r15 : σx.2.1 15 = σm.2.1 31) (r16 : σx.2.1 16 = σm.2.1 32) (r19 : σx.2.1 19 = σm.2.1 35) : wPC σx np n p = wPV σm np n p :=
  wvP_congr (yes_eq hn hF hnp r12 r15 r16) (no_eq hn hF hnp r12 r15 r16) (ki_eq hn hF hnp r12 r15 r16) (cntF_congr (fun i hi => decide_eq_decide.mpr (FaE_fame (hF i hi)))) (congrFun r19 p)
theorem witOK_of {σx : CS} {σm : MS} {np n : Nat} (hF : ∀ i, i < n → FaE σx σm np i) (hnp : np ≤ 12) : witOK σm np n := by
  intro i w hi h1 h2 h3
  have := FaE_wit (hF i hi) h1 h2 (by omega) hnp
  omega
