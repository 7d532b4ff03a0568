/-! relations, the reference's side -/
theorem stkM_loc {cd ci cd' ci' w : Nat → Int32} {fr : Nat} : ∀ j, (∀ x, x < fr + j → cd' x = cd x ∧ ci' x = ci x) → stkM cd' ci' w fr j = stkM cd ci w fr j := by
  intro j
  induction j with
  | zero => intro _; rfl
  | succ j ih =>
    intro h
    have h1 := h (fr + j) (by omega)
    rw [stkM, stkM, ih (fun x hx => h x (by omega)), h1.1, h1.2]
theorem okE_loc {cd ci cd' ci' : Nat → Int32} {fr to : Nat} (hl : ∀ x, x < to → cd' x = cd x ∧ ci' x = ci x) (h : okE cd ci fr to) : okE cd' ci' fr to := by
  obtain ⟨h1, h2, h3, h4, h5⟩ := h
  refine ⟨h1, h2, h3, fun j hj => ?_, fun w => ?_⟩
  · have e := hl (fr + j) (by omega)
    have h4 := h4 j hj
    unfold okI at *
    rw [e.1, e.2]
    rcases h4 with q | q | ⟨q, q2⟩
    · exact Or.inl q
    · exact Or.inr (Or.inl q)
    · exact Or.inr (Or.inr ⟨q, fun w => by rw [stkM_loc j (fun x hx => hl x (by omega))]; exact q2 w⟩)
  · rw [stkM_loc _ (fun x hx => hl x (by omega))]
    exact h5 w
theorem valM_loc {cd ci cd' ci' w : Nat → Int32} {fr to : Nat} (hft : fr ≤ to) (hl : ∀ x, x < to → cd' x = cd x ∧ ci' x = ci x) : valM cd' ci' w fr to = valM cd ci w fr to := by
  unfold valM
  rw [stkM_loc _ (fun x hx => hl x (by omega))]
theorem EqP_loc {tk cd ci cd' ci' : Nat → Int32} {p q fr to : Nat} (hl : ∀ x, x < to → cd' x = cd x ∧ ci' x = ci x) (h : EqP tk p q cd ci fr to) : EqP tk p q cd' ci' fr to := by
  obtain ⟨h1, h2, h3, h4, h5⟩ := h
  exact ⟨h1, h2, h3, okE_loc hl h4, fun w => by rw [valM_loc h4.1 hl]; exact h5 w⟩
/-- one relation -/
def Hd (tk : Nat → Int32) (G : Nat → Nat → Int32) (hi k p s : Nat) : Prop := ∃ q l r e, G 19 k = nI l ∧ G 20 k = nI r ∧ G 21 k = nI e ∧ e ≤ hi ∧ EqP tk p q (G 23) (G 24) l r ∧ (∃ z, z < 4 ∧ G 18 k = nI z ∧ tk q = nI (10024 + z)) ∧ EqP tk (q + 1) s (G 23) (G 24) r e
/-- relations one behind another, the last one ends at j -/
def ChH (tk : Nat → Int32) (G : Nat → Nat → Int32) (hi : Nat) : Nat → Nat → Nat → Nat → Prop
  | 0, _, _, _ => False
  | n + 1, k, p, j => ∃ s, Hd tk G hi k p s ∧ ((n = 0 ∧ s = j) ∨ (¬ n = 0 ∧ ((tk s = 10006 ∧ G 22 (k + 1) = 1) ∨ (tk s = 10007 ∧ G 22 (k + 1) = 0)) ∧ ChH tk G hi n (k + 1) (s + 1) j))
theorem Hd_loc {tk : Nat → Int32} {G G' : Nat → Nat → Int32} {hi hi' k p s : Nat} (h1 : ∀ r, 18 ≤ r → r ≤ 22 → G' r k = G r k) (h2 : ∀ x, x < hi → G' 23 x = G 23 x ∧ G' 24 x = G 24 x) (hh : hi ≤ hi') (h : Hd tk G hi k p s) : Hd tk G' hi' k p s := by
  obtain ⟨q, l, r, e, a1, a2, a3, a4, a5, ⟨z, hz, a6, a7⟩, a8⟩ := h
  have hre : r ≤ e := a8.2.2.2.1.1
  exact ⟨q, l, r, e, by rw [h1 19 (by omega) (by omega), a1], by rw [h1 20 (by omega) (by omega), a2], by rw [h1 21 (by omega) (by omega), a3], by omega, EqP_loc (fun x hx => h2 x (by omega)) a5, ⟨z, hz, by rw [h1 18 (by omega) (by omega), a6], a7⟩, EqP_loc (fun x hx => h2 x (by omega)) a8⟩
theorem ChH_loc {tk : Nat → Int32} {G G' : Nat → Nat → Int32} {hi hi' : Nat} (h2 : ∀ x, x < hi → G' 23 x = G 23 x ∧ G' 24 x = G 24 x) (hh : hi ≤ hi') : ∀ n k p j, (∀ r x, 18 ≤ r → r ≤ 22 → k ≤ x → x < k + n → G' r x = G r x) → ChH tk G hi n k p j → ChH tk G' hi' n k p j := by
  intro n
  induction n with
  | zero => intro k p j _ h; exact h
  | succ n ih =>
    intro k p j h1 h
    obtain ⟨s, hd, hc⟩ := h
    refine ⟨s, Hd_loc (fun r r1 r2 => h1 r k r1 r2 (by omega) (by omega)) h2 hh hd, ?_⟩
    rcases hc with q | ⟨q1, q2, q3⟩
    · exact Or.inl q
    · refine Or.inr ⟨q1, ?_, ih (k + 1) (s + 1) j (fun r x r1 r2 x1 x2 => h1 r x r1 r2 (by omega) (by omega)) q3⟩
      rw [h1 22 (k + 1) (by omega) (by omega) (by omega) (by omega)]
      exact q2
theorem ChH_app {tk : Nat → Int32} {G : Nat → Nat → Int32} {hi j j' : Nat} : ∀ n k p, ChH tk G hi n k p j → ((tk j = 10006 ∧ G 22 (k + n) = 1) ∨ (tk j = 10007 ∧ G 22 (k + n) = 0)) → Hd tk G hi (k + n) (j + 1) j' → ChH tk G hi (n + 1) k p j' := by
  intro n
  induction n with
  | zero => intro k p h; exact absurd h (fun z => z)
  | succ n ih =>
    intro k p h hc hd
    obtain ⟨s, h1, h2⟩ := h
    rcases h2 with ⟨rfl, rfl⟩ | ⟨q1, q2, q3⟩
    · exact ⟨s, h1, Or.inr ⟨Nat.succ_ne_zero _, hc, j', hd, Or.inl ⟨rfl, rfl⟩⟩⟩
    · refine ⟨s, h1, Or.inr ⟨by omega, q2, ih (k + 1) (s + 1) q3 ?_ ?_⟩⟩
      · rw [show k + 1 + n = k + (n + 1) by omega]; exact hc
      · rw [show k + 1 + n = k + (n + 1) by omega]; exact hd
theorem Hd_le {tk : Nat → Int32} {G : Nat → Nat → Int32} {hi k p s : Nat} (h : Hd tk G hi k p s) : p + 1 ≤ s := by
  obtain ⟨q, l, r, e, _, _, _, _, a5, _, a8⟩ := h
  have := a5.1
  have := a8.1
  omega
theorem ChH_le {tk : Nat → Int32} {G : Nat → Nat → Int32} {hi j : Nat} : ∀ n k p, ChH tk G hi n k p j → p + 1 ≤ j := by
  intro n
  induction n with
  | zero => intro k p h; exact absurd h (fun z => z)
  | succ n ih =>
    intro k p h
    obtain ⟨s, h1, h2⟩ := h
    have := Hd_le h1
    rcases h2 with ⟨_, rfl⟩ | ⟨_, _, q3⟩
    · exact this
    · have := ih _ _ q3
      omega
/-- behind a relation -/
def ReP (tk : Nat → Int32) (pl : Nat → Nat) (sd rc j c0 rel : Nat) (orv : Int32) (G : Nat → Nat → Int32) (F' : Nat → Int32) (G' : Nat → Nat → Int32) : Prop :=
  (∀ r, r ≤ 16 → G' r = G r) ∧ (∀ x, ¬ x = sd → G' 17 x = G 17 x) ∧ (∀ r x, 18 ≤ r → r ≤ 22 → ¬ x = 200 * sd + rel → G' r x = G r x) ∧ (∀ x, x < c0 → G' 23 x = G 23 x ∧ G' 24 x = G 24 x) ∧
  (FS tk pl F' ∨ ∃ q c2, F' 13 = 0 ∧ F' 11 = nI q ∧ F' 12 = 0 ∧ F' 35 = nI c2 ∧ c0 ≤ c2 ∧ c2 ≤ c0 + (q - j) ∧ aSt tk q = some (5, 1, 0, rc) ∧ G' 17 sd = nI (rel + 1) ∧ G' 22 (200 * sd + rel) = orv ∧ Hd tk G' c2 (200 * sd + rel) j q ∧ ¬ (tk q = 10021 ∨ tk q = 10022 ∨ tk q = 10023) ∧ j + 3 ≤ q)
theorem EqP_lt {tk cd ci : Nat → Int32} {p q fr to : Nat} (h : EqP tk p q cd ci fr to) : fr < to := by
  obtain ⟨_, _, _, h4, _⟩ := h
  have h1 := h4.1
  obtain ⟨v, hv⟩ := h4.2.2.2.2 (fun _ => 0)
  rcases Nat.lt_or_ge fr to with z | z
  · exact z
  · rw [show to - fr = 0 by omega] at hv
    exact absurd hv (by simp [stkM])
theorem relationM {σ : MS} {tk : Nat → Int32} {pl : Nat → Nat} {sd rc j c0 rel : Nat} {orv : Int32} {F : Nat → Int32} {G : Nat → Nat → Int32} {Post : MS → Prop} (hT : TC σ tk pl sd) (hc0 : c0 ≤ 500 * sd + j) (h13 : F 13 = 0) (h11 : F 11 = nI j) (h12 : F 12 = 0) (h35 : F 35 = nI c0) (hA : aSt tk j = some (4, 0, 0, rc)) (h17 : G 17 sd = nI rel) (hrel : 3 * rel ≤ j) (hor : orv = 0 ∨ orv = 1)
    (hP : ∀ F' G', ReP tk pl sd rc j c0 rel orv G F' G' → Post (pM σ F' G')) : wpM_relation (pM σ F G) orv Post := by
  have hsd := hT.2.1
  have h19 : ∀ F' G', (pM σ F' G').1 19 = nI sd := fun _ _ => hT.1
  have hj := (aSt_bd hA).1
  intro y1 ey1
  have ey1 : y1 = nI c0 := ey1.trans h35
  subst ey1
  -- a fault: nothing is told
  have h54f : ∀ (F1 : Nat → Int32) (G1 : Nat → Nat → Int32) (x3 : Int32), FS tk pl F1 → Fr c0 G G1 → wpM_relation_54 Post (pM σ F1 G1) orv (nI c0) x3 := by
    intro F1 G1 x3 hF hG
    refine next_no (FS_no hF).2 (fun v => ?_)
    have hF2 : FS tk pl (va_up F1 11 v) := hF
    rintro _ rfl
    refine exprM_f hF2 ⟨fun q => absurd q (FS_no hF).2, fun _ => hP _ _ ⟨fun r hr => hG.1 r (by omega), fun x _ => by rw [hG.1 17 (by omega)], fun r x r1 r2 _ => by rw [hG.1 r (by omega)], fun x hx => ⟨hG.2 23 x (Or.inl rfl) hx, hG.2 24 x (Or.inr rfl) hx⟩, Or.inl hF⟩⟩
  refine exprM hT hc0 h13 h11 h12 h35 hA (fun F1 G1 hE => ?_)
  obtain ⟨hG1, hE⟩ := hE
  rcases hE with hF | ⟨q, c1, e13, e11, e12, e35, ec, hAq, hEq, hnop⟩
  · obtain ⟨n1, n2⟩ := FS_no hF
    exact ⟨fun z => absurd z n2, fun _ => ⟨fun z => absurd z n1, fun _ => h54f F1 G1 0 hF hG1⟩⟩
  · have hq := (aSt_bd hAq).1
    obtain ⟨hR, hpl⟩ := hT.2.2 q _ hAq
    have g11 : (pM σ F1 G1).1 11 = nI q := e11
    have hlt1 := EqP_lt hEq
    have hjq := hEq.1
    refine ⟨fun _ => ⟨by rw [g11]; exact vp_in_nI (by omega) (by omega), ?_⟩, fun z => absurd (show F1 13 ≤ 0 by rw [e13]; decide) z⟩
    rw [g11, nI_clamp (by omega)]
    have st5 : stp 5 0 0 (tk q) = if tk q = 10029 then none else if tk q = 10021 ∨ tk q = 10022 ∨ tk q = 10023 then some (4, 0, 0) else if tk q = 10020 then none else if ¬ tk q < 10024 ∧ ¬ 10027 < tk q then some (4, 1, 0) else none := rfl
    -- a wrong sign
    have bad : ¬ (¬ tk q < 10024 ∧ ¬ 10027 < tk q) → wpM_relation_49 Post (pM σ F1 G1) orv (nI c0) ((pM σ F1 G1).2.1 3 q - 11) := by
      intro hn
      refine fail_ok e13 e11 hq ?_
      have hV : Vd tk 1 q := by
        refine ⟨5, 0, 0, rc, hAq, ?_⟩
        by_cases z : tk q = -1
        · exact Or.inl ⟨z, rfl⟩
        · refine Or.inr (Or.inl ⟨z, ?_, rfl⟩)
          rw [st5]
          by_cases z2 : tk q = 10029
          · rw [if_pos z2]
          · rw [if_neg z2, if_neg hnop]
            by_cases z3 : tk q = 10020
            · rw [if_pos z3]
            · rw [if_neg z3, if_neg hn]
      exact h54f _ G1 _ (FS_fail (F := F) hT hAq (Or.inl rfl) hV _ rfl rfl) hG1
    -- a right one
    have good : ∀ z, z < 4 → σ.2.1 3 q = nI (11 + z) → tk q = nI (10024 + z) → wpM_relation_54 Post (pM σ F1 G1) orv (nI c0) (nI z) := by
      intro z hz ekd etk
      have hne : ¬ tk q = -1 := by rw [etk]; exact nI_nm1 (by omega)
      have hst : stp 5 0 0 (tk q) = some (4, 1, 0) := by
        have n1 : ¬ tk q = 10029 := by rw [etk]; exact nn (b := 10029) (by omega) (by omega) (by omega)
        have n2 : ¬ tk q = 10020 := by rw [etk]; exact nn (b := 10020) (by omega) (by omega) (by omega)
        rw [st5, if_neg n1, if_neg hnop, if_neg n2, if_pos]
        rw [etk]
        exact ⟨nI_nlt (b := 10024) (by omega) (by omega), nI_nlt (a := 10027) (by omega) (by omega)⟩
      refine next_ok (j := q) e13 e11 hq (fun e4 => ?_) (fun lt4 => ?_)
      · have hF2 : FS tk pl (va_up (va_up F1 13 2) 14 (σ.2.1 4 q)) := FS_fail (F := F) hT hAq (Or.inr rfl) ⟨5, 0, 0, rc, hAq, Or.inr (Or.inr ⟨hne, rfl, 4, 1, 0, hst, Or.inl (by omega)⟩)⟩ _ rfl rfl
        rintro _ rfl
        refine exprM_f hF2 ⟨fun q => absurd q (FS_no hF2).2, fun _ => hP _ _ ⟨fun r hr => hG1.1 r (by omega), fun x _ => by rw [hG1.1 17 (by omega)], fun r x r1 r2 _ => by rw [hG1.1 r (by omega)], fun x hx => ⟨hG1.2 23 x (Or.inl rfl) hx, hG1.2 24 x (Or.inr rfl) hx⟩, Or.inl hF2⟩⟩
      · have hA1 : aSt tk (q + 1) = some (4, 1, 0, rc) := aSt_s hAq hne hst (by have := (aSt_bd hAq).2.2; unfold rcN; simp; omega)
        intro y2 ey2
        have ey2 : y2 = nI c1 := ey2.trans e35
        subst ey2
        refine exprM (p := q + 1) hT (c0 := c1) (by omega) e13 rfl e12 e35 hA1 (fun F2 G2 hE2 => ?_)
        obtain ⟨hG2, hE2⟩ := hE2
        have rows : ∀ r, r ≤ 22 → G2 r = G r := fun r hr => (hG2.1 r hr).trans (hG1.1 r hr)
        have codes : ∀ x, x < c0 → G2 23 x = G 23 x ∧ G2 24 x = G 24 x := fun x hx => ⟨(hG2.2 23 x (Or.inl rfl) (by omega)).trans (hG1.2 23 x (Or.inl rfl) hx), (hG2.2 24 x (Or.inr rfl) (by omega)).trans (hG1.2 24 x (Or.inr rfl) hx)⟩
        rcases hE2 with hF | ⟨s, c2, d13, d11, d12, d35, dc, hAs, hEq2, hnop2⟩
        · exact ⟨fun z => absurd z (FS_no hF).2, fun _ => hP _ _ ⟨fun r hr => rows r (by omega), fun x _ => by rw [rows 17 (by omega)], fun r x r1 r2 _ => by rw [rows r (by omega)], codes, Or.inl hF⟩⟩
        · have hs := (aSt_bd hAs).1
          have hqs := hEq2.1
          have hlt2 := EqP_lt hEq2
          have v9 : vp_in (nI sd) 9 := vp_in_nI (by omega) (by omega)
          have vi : vp_in (nI (200 * sd + rel)) 1800 := vp_in_nI (by omega) (by omega)
          have r17 : G2 17 sd = nI rel := by rw [rows 17 (by omega), h17]
          refine ⟨fun _ => ?_, fun z => absurd (show F2 13 ≤ 0 by rw [d13]; decide) z⟩
          rw [h19, nI_clamp (by omega)]
          refine ⟨v9, ?_⟩
          intro y6 ey6
          have ey6 : y6 = nI (200 * sd + rel) := by
            rw [ey6]
            show 200 * nI sd + G2 17 sd = _
            rw [r17, ix200]
          subst ey6
          rw [nI_clamp (by omega)]
          refine ⟨vi, ?_⟩
          rintro _ rfl
          refine ⟨vi, ?_⟩
          rintro _ rfl
          refine ⟨vi, ?_⟩
          rintro _ rfl
          refine ⟨vi, ?_⟩
          rintro _ rfl
          refine ⟨vi, ?_⟩
          rintro _ rfl
          rw [pM_A _ _ _ 18 _ (by omega) (by omega), pM_A _ _ _ 19 _ (by omega) (by omega), pM_A _ _ _ 20 _ (by omega) (by omega), pM_A _ _ _ 21 _ (by omega) (by omega), pM_A _ _ _ 22 _ (by omega) (by omega)]
          rw [h19, nI_clamp (by omega)]
          refine ⟨v9, v9, ?_⟩
          rintro _ rfl
          rw [pM_A _ _ _ 17 _ (by omega) (by omega)]
          have enar : vp_nar .boolean orv = orv := by rcases hor with rfl | rfl <;> decide
          rw [enar]
          have e35' : ∀ G', (pM σ F2 G').1 35 = nI c2 := fun _ => d35
          rw [e35']
          obtain ⟨G3, hG3⟩ : ∃ G3, G3 = va_up (va_up (va_up (va_up (va_up (va_up G2 18 (upd (G2 18) (200 * sd + rel) (nI z))) 19 (upd (G2 19) (200 * sd + rel) (nI c0))) 20 (upd (G2 20) (200 * sd + rel) (nI c1))) 21 (upd (G2 21) (200 * sd + rel) (nI c2))) 22 (upd (G2 22) (200 * sd + rel) orv)) 17 (upd (G2 17) sd (G2 17 sd + 1)) := ⟨_, rfl⟩
          change Post (pM σ F2 (va_up (va_up (va_up (va_up (va_up (va_up G2 18 (upd (G2 18) (200 * sd + rel) (nI z))) 19 (upd (G2 19) (200 * sd + rel) (nI c0))) 20 (upd (G2 20) (200 * sd + rel) (nI c1))) 21 (upd (G2 21) (200 * sd + rel) (nI c2))) 22 (upd (G2 22) (200 * sd + rel) orv)) 17 (upd (G2 17) sd (G2 17 sd + 1))))
          rw [← hG3]
          have a18 : G3 18 = upd (G2 18) (200 * sd + rel) (nI z) := by rw [hG3]; rfl
          have a19 : G3 19 = upd (G2 19) (200 * sd + rel) (nI c0) := by rw [hG3]; rfl
          have a20 : G3 20 = upd (G2 20) (200 * sd + rel) (nI c1) := by rw [hG3]; rfl
          have a21 : G3 21 = upd (G2 21) (200 * sd + rel) (nI c2) := by rw [hG3]; rfl
          have a22 : G3 22 = upd (G2 22) (200 * sd + rel) orv := by rw [hG3]; rfl
          have a17 : G3 17 = upd (G2 17) sd (nI (rel + 1)) := by rw [hG3, r17, nI_1]; rfl
          have aL : ∀ r, r ≤ 16 ∨ 23 ≤ r → G3 r = G2 r := by
            intro r hr
            rw [hG3]
            show (if r = 17 then _ else if r = 22 then _ else if r = 21 then _ else if r = 20 then _ else if r = 19 then _ else if r = 18 then _ else G2 r) = G2 r
            rw [if_neg (by omega), if_neg (by omega), if_neg (by omega), if_neg (by omega), if_neg (by omega), if_neg (by omega)]
          have hloc : ∀ x, G3 23 x = G2 23 x ∧ G3 24 x = G2 24 x := fun x => ⟨by rw [aL 23 (by omega)], by rw [aL 24 (by omega)]⟩
          refine hP F2 G3 ⟨fun r hr => (aL r (by omega)).trans (rows r (by omega)), fun x hx => ?_, fun r x r1 r2 hx => ?_, fun x hx => ⟨(hloc x).1.trans (codes x hx).1, (hloc x).2.trans (codes x hx).2⟩, Or.inr ⟨s, c2, d13, d11, d12, d35, by omega, by omega, hAs, by rw [a17, pk_us], by rw [a22, pk_us], ⟨q, c0, c1, c2, by rw [a19, pk_us], by rw [a20, pk_us], by rw [a21, pk_us], Nat.le_refl _, ?_, ⟨z, hz, by rw [a18, pk_us], etk⟩, EqP_loc (fun x _ => hloc x) hEq2⟩, hnop2, ?_⟩⟩
          · rw [a17, pk_un hx, rows 17 (by omega)]
          · rcases (show r = 18 ∨ r = 19 ∨ r = 20 ∨ r = 21 ∨ r = 22 by omega) with rfl | rfl | rfl | rfl | rfl
            · rw [a18, pk_un hx, rows 18 (by omega)]
            · rw [a19, pk_un hx, rows 19 (by omega)]
            · rw [a20, pk_un hx, rows 20 (by omega)]
            · rw [a21, pk_un hx, rows 21 (by omega)]
            · rw [a22, pk_un hx, rows 22 (by omega)]
          · refine EqP_loc (fun x hx => ⟨(hloc x).1.trans (hG2.2 23 x (Or.inl rfl) (by omega)), (hloc x).2.trans (hG2.2 24 x (Or.inr rfl) (by omega))⟩) hEq
          · have g1 : ¬ q = j := by
              intro z
              have hAq' := hAq
              rw [z, hA] at hAq'
              simp at hAq'
            have g2 : ¬ s = q + 1 := by
              intro z
              have hAs' := hAs
              rw [z, hA1] at hAs'
              simp at hAs'
            omega
    have n11 : (pM σ F1 G1).2.1 3 q - 11 = σ.2.1 3 q - 11 := rfl
    refine ⟨fun _ => ⟨fun c => bad (fun z => ?_), fun c => ⟨fun c2 => ?_, fun c2 => bad (fun z => ?_)⟩⟩, fun z => absurd e13 z⟩
    · obtain ⟨t, ht, et⟩ : ∃ t, t < 4 ∧ tk q = nI (10024 + t) := by
        have c0' : ¬ tk q < 0 := by
          have := z.1
          generalize tk q = y at this
          grind
        obtain ⟨k, hk, ek⟩ := nI_of c0'
        rw [ek] at z
        have k1 := Nat.not_lt.mp (fun w => z.1 (nI_lt (b := 10024) w (by omega)))
        have k2 := Nat.not_lt.mp (fun w => z.2 (nI_lt (a := 10027) w hk))
        exact ⟨k - 10024, by omega, by rw [ek, show 10024 + (k - 10024) = k by omega]⟩
      have ek : σ.2.1 3 q = nI (11 + t) := (RelT_sg hR (kk := 11 + t) (tt := 10024 + t) (by unfold sgP; omega)).mpr et
      rw [n11, ek, show (11 : Int32) = nI 11 from rfl, pk_sub (by omega)] at c
      exact nI_pos (by omega) c
    · obtain ⟨t, ht, ek⟩ : ∃ t, t < 4 ∧ σ.2.1 3 q = nI (11 + t) := by
        rw [n11] at c c2
        obtain ⟨k, hk, ek⟩ := nI_of c
        rw [ek] at c2
        have k2 := (nI_leI (b := 3) hk (by omega)).mp c2
        refine ⟨k, by omega, ?_⟩
        have : σ.2.1 3 q = nI k + 11 := by
          rw [← ek]
          generalize σ.2.1 3 q = y
          grind
        rw [this, show (11 : Int32) = nI 11 from rfl, nI_add]
        congr 1
        omega
      have et : tk q = nI (10024 + t) := (RelT_sg hR (kk := 11 + t) (tt := 10024 + t) (by unfold sgP; omega)).mp ek
      have e11' : (pM σ F1 G1).2.1 3 q - 11 = nI t := by
        rw [n11, ek, show (11 : Int32) = nI 11 from rfl, pk_sub (by omega)]
        congr 1
        omega
      rw [e11']
      exact good t ht ek et
    · obtain ⟨t, ht, et⟩ : ∃ t, t < 4 ∧ tk q = nI (10024 + t) := by
        have c0' : ¬ tk q < 0 := by
          have := z.1
          generalize tk q = y at this
          grind
        obtain ⟨k, hk, ek⟩ := nI_of c0'
        rw [ek] at z
        have k1 := Nat.not_lt.mp (fun w => z.1 (nI_lt (b := 10024) w (by omega)))
        have k2 := Nat.not_lt.mp (fun w => z.2 (nI_lt (a := 10027) w hk))
        exact ⟨k - 10024, by omega, by rw [ek, show 10024 + (k - 10024) = k by omega]⟩
      have ek : σ.2.1 3 q = nI (11 + t) := (RelT_sg hR (kk := 11 + t) (tt := 10024 + t) (by unfold sgP; omega)).mpr et
      rw [n11, ek, show (11 : Int32) = nI 11 from rfl, pk_sub (by omega)] at c2
      exact c2 (nI_le (b := 3) (by omega) (by omega))
