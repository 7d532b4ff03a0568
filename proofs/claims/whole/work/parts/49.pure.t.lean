/-! pure level: what a text means depends on the twelve VARS alone -/
def EqW (w w' : Nat → Int32) : Prop := ∀ j, j < 12 → w j = w' j
theorem stkM_congr {cd ci w w' : Nat → Int32} {fr n : Nat} (hw : EqW w w') (h : ∀ j, j < n → okI cd ci fr j) : ∀ j, j ≤ n → stkM cd ci w fr j = stkM cd ci w' fr j := by
  intro j
  induction j with
  | zero => intro _; rfl
  | succ j ih =>
    intro hj
    rw [stkM, stkM, ih (by omega)]
    rcases h j (by omega) with c | ⟨c, x, hx, e⟩ | ⟨c, _⟩
    · rw [stepM_0 c, stepM_0 c]
    · rw [stepM_1 c, stepM_1 c, e, nI_clamp (by omega), hw x hx]
    · have c0 : ¬ cd (fr + j) = 0 := by rcases c with c | c | c <;> rw [c] <;> decide
      have c1 : ¬ cd (fr + j) = 1 := by rcases c with c | c | c <;> rw [c] <;> decide
      unfold stepM
      rw [if_neg c0, if_neg c1, if_neg c0, if_neg c1]
theorem valM_congr {cd ci w w' : Nat → Int32} {fr to : Nat} (hw : EqW w w') (h : okE cd ci fr to) : valM cd ci w fr to = valM cd ci w' fr to := by
  rw [valM, valM, stkM_congr hw h.2.2.2.1 _ (Nat.le_refl _)]
theorem chV_congr {tk : Nat → Int32} {N : Nat} {rs rl rr re ro cd ci w w' : Nat → Int32} (hw : EqW w w') : ∀ n k p b, ChE tk N rs rl rr re ro cd ci n k p → chV rs rl rr re ro cd ci w n k b = chV rs rl rr re ro cd ci w' n k b := by
  intro n
  induction n with
  | zero => intro k p b h; exact absurd h id
  | succ n ih =>
    intro k p b h
    obtain ⟨q, s, l, r, e, el, er, ee, E1, ⟨z, hz, ez, eq⟩, E2, tail⟩ := h
    have relE : relV rs rl rr re cd ci w k = relV rs rl rr re cd ci w' k := by
      have h1 := E1.2.2.2.2.2.1
      have h2 := E2.2.2.2.2.2.1
      have := h1.1
      have := h1.2.1
      have := h2.1
      have := h2.2.1
      rw [relV, relV, el, er, ee, nI_clamp (by omega), nI_clamp (by omega), nI_clamp (by omega), valM_congr hw h1, valM_congr hw h2]
    rw [chV, chV, relE]
    rcases tail with ⟨n0, _⟩ | ⟨n0, _, t⟩
    · rw [if_pos n0, if_pos n0]
    · rw [ih (k + 1) (s + 1) _ t, ih (k + 1) (s + 1) true t]
theorem hoV_congr {tk : Nat → Int32} {N pg x k0 : Nat} {σ : MS} {w w' : Nat → Int32} (hw : EqW w w') (h : RuE tk N σ pg x k0) (h3 : ¬ σ.2.1 11 x = 3) : hoV σ w pg x = hoV σ w' pg x := by
  have key : (∃ p, CoE tk N σ pg x p) ∨ σ.2.1 15 x = σ.2.1 16 x := by
    obtain ⟨_, z, hz, _, ez, c⟩ := h
    rcases c with ⟨_, c⟩ | ⟨c, _⟩ | ⟨_, q, fr, to, _, _, _, c⟩
    · exact Or.inl ⟨_, c⟩
    · rw [ez, c] at h3; exact absurd rfl h3
    · rcases c with ⟨_, c⟩ | ⟨_, c⟩
      · exact Or.inl ⟨_, c⟩
      · exact Or.inr c
  rcases key with ⟨p, c⟩ | c
  · obtain ⟨f, n, _, _, _, _, _, e6, _, eh⟩ := co_hoV (w := w) c
    obtain ⟨f', n', e1', e2', _, _, _, _, _, eh'⟩ := co_hoV (w := w') c
    rw [hoV, hoV]
    split
    · rfl
    · rw [e1', e2']
      obtain ⟨f1, n1, e1, e2, e3, e4, e5, e7⟩ := c
      rw [← e1', ← e2', e1, e2, nI_clamp (by omega), nI_clamp (by omega), show f1 + (n1 + 1) - f1 = n1 + 1 by omega]
      exact chV_congr hw _ _ _ _ e7
  · rw [hoV, hoV, if_pos c, if_pos c]
theorem fstF_congr {h h' : Nat → Bool} : ∀ d i, (∀ j, i ≤ j → j < i + d → h j = h' j) → fstF h d i = fstF h' d i := by
  intro d
  induction d with
  | zero => intro i _; rfl
  | succ d ih =>
    intro i hh
    rw [fstF, fstF, hh i (by omega) (by omega), ih (i + 1) (fun j h1 h2 => hh j (by omega) (by omega))]
theorem ruV_congr {nl : Nat} {σ : MS} {w w' pl da : Nat → Int32} {a b z : Int32} (hw : EqW w w') (hn : nl ≤ 8) (h3 : ¬ z = 3) (hR : ∀ l, l < nl → LwM σ l) : ruV σ w (loF pl da a b nl) z = ruV σ w' (loF pl da a b nl) z := by
  rcases loF_is pl da a b nl with e | ⟨j, hj, e⟩
  · rw [e, ruV, ruV, if_pos rfl, if_pos rfl]
  · obtain ⟨tk, N, nr, h1, h2, h4⟩ := hR j hj
    rw [e, ruV, ruV, if_neg (nI_nm1 (by omega)), if_neg (nI_nm1 (by omega)), nI_clamp (by omega), h2, nI_clamp (by omega)]
    refine fstF_congr _ _ (fun r _ hr => ?_)
    obtain ⟨k0, hk⟩ := h4 r (by omega)
    rw [ruH, ruH]
    by_cases c : σ.2.1 11 (16 * j + r) = z
    · rw [hoV_congr hw hk (by rw [c]; exact h3)]
    · simp [c]
