/-! a text that was read in vain changes no judgement -/
theorem chV_loc {tk w : Nat → Int32} {N hi : Nat} {G G' : Nat → Nat → Int32} (h2 : ∀ x, x < hi → G' 23 x = G 23 x ∧ G' 24 x = G 24 x) : ∀ n k p b, (∀ r x, 18 ≤ r → r ≤ 22 → k ≤ x → x < k + n → G' r x = G r x) → (∀ i, i < n → ∃ e, G 21 (k + i) = nI e ∧ e ≤ hi) → hi ≤ 4500 → ChE tk N (G 18) (G 19) (G 20) (G 21) (G 22) (G 23) (G 24) n k p → chV (G' 18) (G' 19) (G' 20) (G' 21) (G' 22) (G' 23) (G' 24) w n k b = chV (G 18) (G 19) (G 20) (G 21) (G 22) (G 23) (G 24) w n k b := by
  intro n
  induction n with
  | zero => intro k p b _ _ _ h; rfl
  | succ n ih =>
    intro k p b h1 hB hh h
    obtain ⟨q, s, l, r, e, a1, a2, a3, a4, ⟨z, hz, a5, a6⟩, a7, a8⟩ := h
    obtain ⟨e', b1, b2'⟩ := hB 0 (by omega)
    have he : e ≤ 4500 := a7.2.2.2.2.2.1.2.1
    have ee : e' = e := (nI_eq (by omega) (by omega)).mp (b1.symm.trans a3)
    have hre : r ≤ e := a7.2.2.2.2.2.1.1
    have hlr : l ≤ r := a4.2.2.2.2.2.1.1
    have relE : relV (G' 18) (G' 19) (G' 20) (G' 21) (G' 23) (G' 24) w k = relV (G 18) (G 19) (G 20) (G 21) (G 23) (G 24) w k := by
      rw [relV, relV, h1 18 k (by omega) (by omega) (by omega) (by omega), h1 19 k (by omega) (by omega) (by omega) (by omega), h1 20 k (by omega) (by omega) (by omega) (by omega), h1 21 k (by omega) (by omega) (by omega) (by omega), a1, a2, a3, nI_clamp (by omega), nI_clamp (by omega), nI_clamp (by omega), valM_loc hlr (fun x hx => h2 x (by omega)), valM_loc hre (fun x hx => h2 x (by omega))]
    rw [chV, chV, relE]
    rcases a8 with ⟨n0, _⟩ | ⟨n0, _, t⟩
    · rw [if_pos n0, if_pos n0]
    · have hB' : ∀ i, i < n → ∃ e, G 21 (k + 1 + i) = nI e ∧ e ≤ hi := fun i hi' => by
        have := hB (i + 1) (by omega)
        rw [show k + (i + 1) = k + 1 + i by omega] at this
        exact this
      have ih' := fun b => ih (k + 1) (s + 1) b (fun r x r1 r2 x1 x2 => h1 r x r1 r2 (by omega) (by omega)) hB' hh t
      rw [ih', ih', h1 22 (k + 1) (by omega) (by omega) (by omega) (by omega)]
theorem hoV_tr {tk w : Nat → Int32} {N : Nat} {σ σ' : MS} {l r k0 : Nat} (hP : Pg l σ σ') (hl : l ≤ 7) (hr : r < 16) (hB : RuB σ l (16 * l + r)) (h : RuE tk N σ l (16 * l + r) k0) (h3 : ¬ σ.2.1 11 (16 * l + r) = 3) : hoV σ' w l (16 * l + r) = hoV σ w l (16 * l + r) := by
  obtain ⟨p1, p2, p3⟩ := id hP
  have key : (∃ p, CoE tk N σ l (16 * l + r) p) ∨ σ.2.1 15 (16 * l + r) = σ.2.1 16 (16 * l + r) := by
    obtain ⟨_, z, hz, _, ez, c⟩ := h
    rcases c with ⟨_, c⟩ | ⟨c, _⟩ | ⟨_, q, fr, to, _, _, _, c⟩
    · exact Or.inl ⟨_, c⟩
    · rw [ez, c] at h3; exact absurd rfl h3
    · rcases c with ⟨_, c⟩ | ⟨_, c⟩
      · exact Or.inl ⟨_, c⟩
      · exact Or.inr c
  rw [hoV, hoV, p1 15 _ (by omega) (by omega) (by omega), p1 16 _ (by omega) (by omega) (by omega)]
  rcases key with ⟨p, c⟩ | c
  · obtain ⟨f, n, a1, a2, a3, a4, a5, a6, a7⟩ := CoE_B hB c
    have ne : ¬ σ.2.1 15 (16 * l + r) = σ.2.1 16 (16 * l + r) := by
      rw [a1, a2]
      exact fun z => absurd ((nI_eq (by omega) (by omega)).mp z) (by omega)
    rw [if_neg ne, if_neg ne, a1, a2, nI_clamp (by omega), nI_clamp (by omega), show f + (n + 1) - f = n + 1 by omega]
    exact chV_loc (hi := 500 * (l + 1)) p3 _ _ _ _ (fun r x r1 r2 x1 x2 => p2 r x r1 r2 (by omega)) a7 (by omega) a6
  · rw [if_pos c, if_pos c]
/-- the pages of the laws are as before -/
def Ps (nl : Nat) (σ σ' : MS) : Prop := ∀ l, l < nl → Pg l σ σ' ∧ σ'.2.1 10 l = σ.2.1 10 l
theorem ruV_tr {σx : CS} {σ σ' : MS} {w : Nat → Int32} {nl : Nat} {lo z : Int32} (hD : ILaw nl σx σ) (hB : ILB nl σ) (hP : Ps nl σ σ') (hlo : lo = -1 ∨ ∃ l, l < nl ∧ lo = nI l) (hz : ¬ z = 3) : ruV σ' w lo z = ruV σ w lo z := by
  rcases hlo with rfl | ⟨l, hl, rfl⟩
  · rw [ruV, ruV, if_pos rfl, if_pos rfl]
  · have h8 := hD.1
    obtain ⟨hPg, e10⟩ := hP l hl
    obtain ⟨_, _, _, _, g1, g2, g3⟩ := hD.2.2.2.2.2 l hl
    have nm : ¬ nI l = -1 := nI_nm1 (by omega)
    rw [ruV, ruV, if_neg nm, if_neg nm, nI_clamp (by omega), e10]
    refine fstF_congr _ _ (fun r _ hr => ?_)
    rw [g2, nI_clamp (by omega)] at hr
    have hr' : r < 16 := by omega
    obtain ⟨k0, _, hRu⟩ := g3 r (by omega)
    have hB' := hB l hl r (by rw [g2, nI_clamp (by omega)]; omega)
    rw [ruH, ruH, hPg.1 11 _ (by omega) (by omega) (by omega)]
    by_cases ez : σ.2.1 11 (16 * l + r) = z
    · rw [hoV_tr hPg (by omega) hr' hB' hRu (by rw [ez]; exact hz)]
    · rw [decide_eq_false ez, Bool.false_and, Bool.false_and]
theorem lpV_tr {σx : CS} {σ σ' : MS} {nl : Nat} {lo : Int32} (hD : ILaw nl σx σ) (hP : Ps nl σ σ') (hlo : lo = -1 ∨ ∃ l, l < nl ∧ lo = nI l) : lpV σ' lo = lpV σ lo := by
  rcases hlo with rfl | ⟨l, hl, rfl⟩
  · rw [lpV, lpV, if_pos rfl, if_pos rfl]
  · have h8 := hD.1
    obtain ⟨hPg, e10⟩ := hP l hl
    obtain ⟨_, _, _, _, g1, g2, g3⟩ := hD.2.2.2.2.2 l hl
    have nm : ¬ nI l = -1 := nI_nm1 (by omega)
    rw [lpV, lpV, if_neg nm, if_neg nm, nI_clamp (by omega), e10, g2, nI_clamp (by omega)]
    have key : ∀ d i, i + d ≤ 16 → lpF (σ'.2.1 11) (σ'.2.1 12) l d i = lpF (σ.2.1 11) (σ.2.1 12) l d i := by
      intro d
      induction d with
      | zero => intro i _; rfl
      | succ d ih =>
        intro i hi
        rw [lpF, lpF, hPg.1 11 _ (by omega) (by omega) (by omega), hPg.1 12 _ (by omega) (by omega) (by omega), ih (i + 1) (by omega)]
    exact key _ _ (by omega)
/-- all rows but those of the texts and the rules -/
def nRd (σ σ' : MS) : Prop := ∀ j, (8 ≤ j ∧ j ≤ 9 ∨ 28 ≤ j) → σ'.2.1 j = σ.2.1 j
def cut4 (σ : MS) : MS := (fun _ => 0, (fun j => if 8 ≤ j ∧ j ≤ 9 ∨ 28 ≤ j then σ.2.1 j else fun _ => 0), fun _ _ => 0)
theorem cut4_eq {σ σ' : MS} (h : nRd σ σ') : cut4 σ' = cut4 σ := by
  unfold cut4
  have : (fun j => if 8 ≤ j ∧ j ≤ 9 ∨ 28 ≤ j then σ'.2.1 j else fun _ => 0) = (fun j => if 8 ≤ j ∧ j ≤ 9 ∨ 28 ≤ j then σ.2.1 j else fun _ => 0) := by
    funext j
    split
    · next c => exact h j c
    · rfl
  rw [this]
theorem jAll_tr {σx : CS} {σ σ' : MS} {np npr nl n : Nat} (h10 : npr ≤ 10) (hD : ILaw nl σx σ) (hB : ILB nl σ) (hP : Ps nl σ σ') (hN : nRd σ σ') : EqR npr (jAll σ' np npr nl n) (jAll σ np npr nl n) := by
  have hc := cut4_eq hN
  have elo : ∀ p, loP σ' nl p = loP σ nl p := fun p => show loP (cut4 σ') nl p = loP (cut4 σ) nl p by rw [hc]
  have hlo : ∀ p, loP σ nl p = -1 ∨ ∃ l, l < nl ∧ loP σ nl p = nI l := fun p => loF_is _ _ _ _ _
  have eru : ∀ w p z, ¬ z = 3 → ruV σ' w (loP σ nl p) z = ruV σ w (loP σ nl p) z := fun w p z hz => ruV_tr hD hB hP (hlo p) hz
  have elp : ∀ p, lpV σ' (loP σ nl p) = lpV σ (loP σ nl p) := fun p => lpV_tr hD hP (hlo p)
  have ede : ∀ p, deV σ' n p = deV σ n p := fun p => show deV (cut4 σ') n p = deV (cut4 σ) n p by rw [hc]
  have ewp : ∀ p, wPV σ' np n p = wPV σ np n p := fun p => show wPV (cut4 σ') np n p = wPV (cut4 σ) np n p by rw [hc]
  have ewb : ∀ p e, wBV σ' np n p e = wBV σ np n p e := fun p e => show wBV (cut4 σ') np n p e = wBV (cut4 σ) np n p e by rw [hc]
  refine jAll_congr2 h10 (hN 31 (by omega)) (hN 32 (by omega)) (fun p _ => ⟨?_, ?_, ?_⟩) (fun p e _ => ?_) (fun R o k _ _ => ?_) (fun p e _ => ⟨?_, ede p⟩)
  · rw [prV, prV, ewp, elo, eru _ _ _ (by decide)]
  · exact show efV (cut4 σ') n p = efV (cut4 σ) n p by rw [hc]
  · exact show hwV (cut4 σ') n p = hwV (cut4 σ) n p by rw [hc]
  · rw [baV, baV, ede, ewb, elo, eru _ _ _ (by decide)]
  · rw [ovV, ovV, elo, hN 35 (by omega), eru _ _ _ (by decide)]
  · rw [laV, laV, elo, elp]
    have e1 : ∀ m, laH σ' n p m e = laH σ n p m e := fun m => show laH (cut4 σ') n p m e = laH (cut4 σ) n p m e by rw [hc]
    have e2 : ∀ m, laD σ' m e = laD σ m e := fun m => show laD (cut4 σ') m e = laD (cut4 σ) m e by rw [hc]
    rw [e1, e2]
