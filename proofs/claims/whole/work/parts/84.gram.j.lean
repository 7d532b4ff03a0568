/-! a RULE, and all RULES, the reference's side -/
theorem ChH_e {tk : Nat → Int32} {G : Nat → Nat → Int32} {hi j : Nat} : ∀ n k p, ChH tk G hi n k p j → ∀ i, i < n → ∃ e, G 21 (k + i) = nI e ∧ e ≤ hi := by
  intro n
  induction n with
  | zero => intro k p h; exact absurd h (fun z => z)
  | succ n ih =>
    intro k p h i hi'
    obtain ⟨s, ⟨q, l, r, e, a1, a2, a3, a4, _⟩, h2⟩ := h
    by_cases ei : i = 0
    · rw [ei]; exact ⟨e, a3, a4⟩
    · rcases h2 with ⟨rfl, _⟩ | ⟨_, _, q3⟩
      · omega
      · have := ih _ _ q3 (i - 1) (by omega)
        rw [show k + 1 + (i - 1) = k + i by omega] at this
        exact this
def CoX (tk : Nat → Int32) (G : Nat → Nat → Int32) (sd x hi je p : Nat) : Prop := ∃ f n, G 15 x = nI f ∧ G 16 x = nI (f + (n + 1)) ∧ f + (n + 1) ≤ 200 ∧ G 22 (200 * sd + f) = 1 ∧ ChH tk G hi (n + 1) (200 * sd + f) p je
/-- a RULE from k0 to its ; at je, and what was told of it -/
def RuP (tk : Nat → Int32) (G : Nat → Nat → Int32) (sd x k0 je rel hi : Nat) : Prop := k0 < je ∧ tk je = 10020 ∧ (∃ f m, G 15 x = nI f ∧ G 16 x = nI m ∧ f ≤ m ∧ m ≤ rel ∧ m ≤ 200 ∧ ∀ i, f ≤ i → i < m → ∃ e, G 21 (200 * sd + i) = nI e ∧ e ≤ hi) ∧ ∃ z, z < 5 ∧ tk k0 = nI (10000 + z) ∧ G 11 x = nI z ∧
  ((z < 3 ∧ CoX tk G sd x hi je (k0 + 2)) ∨ (z = 3 ∧ ∃ v, v < 10000 ∧ tk (k0 + 1) = nI v ∧ G 12 x = nI v ∧ k0 + 1 < je) ∨ (z = 4 ∧ ∃ q fr to, G 13 x = nI fr ∧ G 14 x = nI to ∧ to ≤ hi ∧ EqP tk (k0 + 1) q (G 23) (G 24) fr to ∧ q ≤ je ∧ ((tk q = 10005 ∧ CoX tk G sd x hi je (q + 1)) ∨ (¬ tk q = 10005 ∧ q = je ∧ G 15 x = G 16 x))))
theorem RuP_loc {tk : Nat → Int32} {G G' : Nat → Nat → Int32} {sd x k0 je rel rel' hi hi' : Nat} (h1 : ∀ r, 11 ≤ r → r ≤ 16 → G' r x = G r x) (h2 : ∀ r y, 18 ≤ r → r ≤ 22 → y < 200 * sd + rel → G' r y = G r y) (h3 : ∀ y, y < hi → G' 23 y = G 23 y ∧ G' 24 y = G 24 y) (hr : rel ≤ rel') (hh : hi ≤ hi') (h : RuP tk G sd x k0 je rel hi) : RuP tk G' sd x k0 je rel' hi' := by
  obtain ⟨a1, a2, ⟨f, m, b1, b2', b3, b4, b5, b6⟩, z, c1, c2, c3, c4⟩ := h
  have hco : ∀ p, CoX tk G sd x hi je p → CoX tk G' sd x hi' je p := by
    rintro p ⟨f', n, d1, d2, d3, d4, d5⟩
    have e1 : f' = f := ((nI_eq (by omega) (by omega)).mp (d1.symm.trans b1))
    have e2 : f' + (n + 1) = m := ((nI_eq (by omega) (by omega)).mp (d2.symm.trans b2'))
    exact ⟨f', n, by rw [h1 15 (by omega) (by omega), d1], by rw [h1 16 (by omega) (by omega), d2], d3, by rw [h2 22 _ (by omega) (by omega) (by omega), d4], ChH_loc h3 hh _ _ _ _ (fun r y r1 r2 y1 y2 => h2 r y r1 r2 (by omega)) d5⟩
  refine ⟨a1, a2, ⟨f, m, by rw [h1 15 (by omega) (by omega), b1], by rw [h1 16 (by omega) (by omega), b2'], b3, by omega, b5, fun i i1 i2 => ?_⟩, z, c1, c2, by rw [h1 11 (by omega) (by omega), c3], ?_⟩
  · obtain ⟨e, e1, e2⟩ := b6 i i1 i2
    exact ⟨e, by rw [h2 21 _ (by omega) (by omega) (by omega), e1], by omega⟩
  · rcases c4 with ⟨q, q2⟩ | ⟨q, v, q2, q3, q4, q5⟩ | ⟨q, q1, fr, to, q2, q3, q4, q5, q6, q7⟩
    · exact Or.inl ⟨q, hco _ q2⟩
    · exact Or.inr (Or.inl ⟨q, v, q2, q3, by rw [h1 12 (by omega) (by omega), q4], q5⟩)
    · refine Or.inr (Or.inr ⟨q, q1, fr, to, by rw [h1 13 (by omega) (by omega), q2], by rw [h1 14 (by omega) (by omega), q3], by omega, EqP_loc (fun y hy => h3 y (by omega)) q5, q6, ?_⟩)
      rcases q7 with ⟨p1, p2⟩ | ⟨p1, p2, p3⟩
      · exact Or.inl ⟨p1, hco _ p2⟩
      · exact Or.inr ⟨p1, p2, by rw [h1 15 (by omega) (by omega), h1 16 (by omega) (by omega), p3]⟩
/-- what a RULE leaves -/
def TeF (sd x rel0 c0 : Nat) (G G' : Nat → Nat → Int32) : Prop := (∀ y, ¬ y = sd → G' 10 y = G 10 y) ∧ (∀ r y, 11 ≤ r → r ≤ 16 → ¬ y = x → G' r y = G r y) ∧ (∀ y, ¬ y = sd → G' 17 y = G 17 y) ∧ (∀ r y, 18 ≤ r → r ≤ 22 → y < 200 * sd + rel0 → G' r y = G r y) ∧ ∀ y, y < c0 → G' 23 y = G 23 y ∧ G' 24 y = G 24 y
theorem tellRuleM {σ : MS} {tk : Nat → Int32} {pl : Nat → Nat} {sd s rc rel0 c0 j : Nat} {F : Nat → Int32} {G : Nat → Nat → Int32} {Post : MS → Prop} (hT : TC σ tk pl sd) (h13 : F 13 = 0) (h11 : F 11 = nI j) (h12 : F 12 = 0) (h35 : F 35 = nI c0) (hc : c0 ≤ 500 * sd + j) (hA : aSt tk j = some (0, s, 0, rc)) (hne : ¬ tk j = -1) (h10 : G 10 sd = nI rc) (h17 : G 17 sd = nI rel0) (hrel : 3 * rel0 ≤ j)
    (hP : ∀ F' G', TeF sd (16 * sd + rc) rel0 c0 G G' → (FS tk pl F' ∨ ∃ je s' c2 rel2, F' 13 = 0 ∧ F' 11 = nI (je + 1) ∧ F' 12 = 0 ∧ F' 35 = nI c2 ∧ c0 ≤ c2 ∧ c2 ≤ 500 * sd + je ∧ aSt tk (je + 1) = some (0, s', 0, rc + 1) ∧ G' 10 sd = nI (rc + 1) ∧ G' 17 sd = nI rel2 ∧ rel0 ≤ rel2 ∧ 3 * rel2 ≤ je ∧ j < je ∧ RuP tk G' sd (16 * sd + rc) j je rel2 c2) → Post (pM σ F' G')) : wpM_tellRule (pM σ F G) Post := by
  have hsd := hT.2.1
  obtain ⟨hj, _, hrc⟩ := aSt_bd hA
  obtain ⟨hR, _⟩ := hT.2.2 j _ hA
  have h19 : ∀ F' G', (pM σ F' G').1 19 = nI sd := fun _ _ => hT.1
  have v9 : vp_in (nI sd) 9 := vp_in_nI (by omega) (by omega)
  have TeF0 : TeF sd (16 * sd + rc) rel0 c0 G G := ⟨fun _ _ => rfl, fun _ _ _ _ _ => rfl, fun _ _ => rfl, fun _ _ _ _ _ => rfl, fun _ _ => ⟨rfl, rfl⟩⟩
  have st0 : stp 0 s 0 (tk j) = if tk j = 10003 then some (2, s, 0) else if tk j = 10004 then some (4, 2, 0) else if tk j = 10000 ∨ tk j = 10001 ∨ tk j = 10002 then some (1, s, 0) else none := rfl
  -- it begins
  have h82 : ∀ z, z < 5 → tk j = nI (10000 + z) → σ.2.1 3 j = nI (20 + z) → rc < 16 → wpM_tellRule_82 Post (pM σ F G) := by
    intro z hz etk ekd hrc16
    have hx144 : 16 * sd + rc < 144 := by omega
    have vx : vp_in (nI (16 * sd + rc)) 144 := vp_in_nI hx144 (by omega)
    have hst : stp 0 s 0 (tk j) = some (if z = 3 then (2, s, 0) else if z = 4 then (4, 2, 0) else (1, s, 0)) := by
      rw [st0, etk]
      rcases (show z = 0 ∨ z = 1 ∨ z = 2 ∨ z = 3 ∨ z = 4 by omega) with rfl | rfl | rfl | rfl | rfl <;> rfl
    refine ⟨fun _ => ?_, fun q => absurd (show F 13 ≤ 0 by rw [h13]; decide) q⟩
    have g11 : ∀ G', (pM σ F G').1 11 = nI j := fun _ => h11
    rw [h19, nI_clamp (by omega)]
    refine ⟨v9, ?_⟩
    intro y3 ey3
    have ey3 : y3 = nI (16 * sd + rc) := by
      rw [ey3]
      show 16 * nI sd + G 10 sd = _
      rw [h10, ix16]
    subst ey3
    rw [g11, nI_clamp (show j < 2 ^ 31 by omega), nI_clamp (show 16 * sd + rc < 2 ^ 31 by omega)]
    refine ⟨vp_in_nI (by omega) (by omega), vx, ?_⟩
    rintro _ rfl
    refine ⟨vx, ?_⟩
    rintro _ rfl
    rw [pM_A _ _ _ 11 _ (by omega) (by omega), pM_A _ _ _ 12 _ (by omega) (by omega)]
    generalize hxe : 16 * sd + rc = x at *
    have e20 : (pM σ F G).2.1 3 j - 20 = nI z := by
      show σ.2.1 3 j - 20 = _
      rw [ekd, show (20 : Int32) = nI 20 from rfl, pk_sub (by omega), show 20 + z - 20 = z by omega]
    rw [e20]
    -- the rows so far
    obtain ⟨G1, hG1⟩ : ∃ G1, G1 = va_up (va_up G 11 (upd (G 11) x (nI z))) 12 (upd (G 12) x 0) := ⟨_, rfl⟩
    change wpM_next (pM σ F (va_up (va_up G 11 (upd (G 11) x (nI z))) 12 (upd (G 12) x 0))) _
    rw [← hG1]
    have a11 : G1 11 = upd (G 11) x (nI z) := by rw [hG1]; rfl
    have a12 : G1 12 = upd (G 12) x 0 := by rw [hG1]; rfl
    have aO : ∀ r, ¬ r = 11 → ¬ r = 12 → G1 r = G r := by
      intro r r1 r2
      rw [hG1]
      show (if r = 12 then _ else if r = 11 then _ else G r) = G r
      rw [if_neg r2, if_neg r1]
    -- the end, whatever happens between
    have fin : ∀ (Gc : Nat → Nat → Int32) (jt c1 : Nat) (F' : Nat → Int32) (G' : Nat → Nat → Int32), (∀ r, ¬ r = 11 → ¬ r = 12 → ¬ r = 13 → r ≤ 22 → Gc r = G r) → Gc 11 = upd (G 11) x (nI z) → (∀ y, ¬ y = x → Gc 12 y = G 12 y ∧ Gc 13 y = G 13 y) → Gc 13 x = nI c0 → c0 ≤ c1 → (∀ y, y < c0 → Gc 23 y = G 23 y ∧ Gc 24 y = G 24 y) → j < jt →
        T2F sd x rel0 c1 Gc G' → (FS tk pl F' ∨ ((z < 3 ∧ jt = j + 1) ∨ (z = 3 ∧ ∃ v, v < 10000 ∧ tk (j + 1) = nI v ∧ Gc 12 x = nI v ∧ jt = j + 2) ∨ (z = 4 ∧ EqP tk (j + 1) jt (Gc 23) (Gc 24) c0 c1)) ∧ ∃ je s' c2 rel2, F' 13 = 0 ∧ F' 11 = nI (je + 1) ∧ F' 12 = 0 ∧ F' 35 = nI c2 ∧ c1 ≤ c2 ∧ c2 ≤ 500 * sd + je ∧ aSt tk (je + 1) = some (0, s', 0, rc + 1) ∧ tk je = 10020 ∧ G' 10 sd = Gc 10 sd + 1 ∧ G' 17 sd = nI rel2 ∧ rel0 ≤ rel2 ∧ 3 * rel2 ≤ je ∧ G' 14 x = nI c1 ∧ G' 15 x = nI rel0 ∧ G' 16 x = nI rel2 ∧ jt ≤ je ∧ Dsc tk G' sd z jt rel0 rel2 c2 je) → Post (pM σ F' G') := by
      intro Gc jt c1 F' G' k1 k2 k3 k4 k5 k6 k7 hT2 hF'
      obtain ⟨t1, t2, t3, t4, t5, t6⟩ := hT2
      refine hP F' G' ⟨fun y hy => (t1 y hy).trans (by rw [k1 10 (by omega) (by omega) (by omega) (by omega)]), fun r y r1 r2 hy => ?_, fun y hy => (t4 y hy).trans (by rw [k1 17 (by omega) (by omega) (by omega) (by omega)]), fun r y r1 r2 hy => (t5 r y r1 r2 hy).trans (by rw [k1 r (by omega) (by omega) (by omega) (by omega)]), fun y hy => ⟨(t6 y (by omega)).1.trans (k6 y hy).1, (t6 y (by omega)).2.trans (k6 y hy).2⟩⟩ ?_
      · rcases (show r = 11 ∨ r = 12 ∨ r = 13 ∨ r = 14 ∨ r = 15 ∨ r = 16 by omega) with rfl | rfl | rfl | rfl | rfl | rfl
        · rw [t2 11 (by omega) (by omega), k2, pk_un hy]
        · rw [t2 12 (by omega) (by omega), (k3 y hy).1]
        · rw [t2 13 (by omega) (by omega), (k3 y hy).2]
        · rw [t3 14 y (by omega) (by omega) hy, k1 14 (by omega) (by omega) (by omega) (by omega)]
        · rw [t3 15 y (by omega) (by omega) hy, k1 15 (by omega) (by omega) (by omega) (by omega)]
        · rw [t3 16 y (by omega) (by omega) hy, k1 16 (by omega) (by omega) (by omega) (by omega)]
      · rcases hF' with hF | ⟨k8, je, s', c2, rel2, b1, b2', b3, b4, b5, b6, b7, b8, b9, b10, b11, b12, b13, b14, b15, b16, b17⟩
        · exact Or.inl hF
        · have hje := (aSt_bd b7).1
          have cox : ∀ p, CoQ tk G' sd rel0 rel2 c2 p je → CoX tk G' sd x c2 je p := by
            rintro p ⟨n, e1, e2, e3⟩
            exact ⟨rel0, n, b14, by rw [b15, e1], by omega, e2, e3⟩
          have hE : ∀ i, rel0 ≤ i → i < rel2 → ∃ e, G' 21 (200 * sd + i) = nI e ∧ e ≤ c2 := by
            intro i i1 i2
            have : ∀ p, CoQ tk G' sd rel0 rel2 c2 p je → ∃ e, G' 21 (200 * sd + i) = nI e ∧ e ≤ c2 := by
              rintro p ⟨n, e1, e2, e3⟩
              have := ChH_e _ _ _ e3 (i - rel0) (by omega)
              rw [show 200 * sd + rel0 + (i - rel0) = 200 * sd + i by omega] at this
              exact this
            rcases b17 with ⟨_, d⟩ | ⟨_, d, _⟩ | ⟨_, ⟨_, d⟩ | ⟨_, _, d⟩⟩
            · exact this _ d
            · omega
            · exact this _ d
            · omega
          refine Or.inr ⟨je, s', c2, rel2, b1, b2', b3, b4, by omega, b6, b7, ?_, b10, b11, b12, by omega, by omega, b8, ⟨rel0, rel2, b14, b15, b11, Nat.le_refl _, by omega, hE⟩, z, hz, etk, by rw [t2 11 (by omega) (by omega), k2, pk_us], ?_⟩
          · rw [b9, k1 10 (by omega) (by omega) (by omega) (by omega), h10, nI_1]
          · rcases b17 with ⟨d1, d⟩ | ⟨d1, d, d3⟩ | ⟨d1, d⟩
            · rcases k8 with ⟨_, e⟩ | ⟨e, _⟩ | ⟨e, _⟩
              · rw [e] at d
                exact Or.inl ⟨d1, cox _ d⟩
              · omega
              · omega
            · rcases k8 with ⟨e, _⟩ | ⟨_, v, e1, e2, e3, e4⟩ | ⟨e, _⟩
              · omega
              · exact Or.inr (Or.inl ⟨d1, v, e1, e2, by rw [t2 12 (by omega) (by omega), e3], by omega⟩)
              · omega
            · rcases k8 with ⟨e, _⟩ | ⟨e, _⟩ | ⟨_, e⟩
              · omega
              · omega
              · refine Or.inr (Or.inr ⟨d1, jt, c0, c1, by rw [t2 13 (by omega) (by omega), k4], b13, b5, EqP_loc (fun y hy => t6 y hy) e, b16, ?_⟩)
                rcases d with ⟨p1, p2⟩ | ⟨p1, p2, p3⟩
                · exact Or.inl ⟨p1, cox _ p2⟩
                · exact Or.inr ⟨p1, p2.symm, by rw [b14, b15, p3]⟩
    have flt : ∀ (Gc : Nat → Nat → Int32) (F' : Nat → Int32), (∀ r, ¬ r = 11 → ¬ r = 12 → ¬ r = 13 → r ≤ 22 → Gc r = G r) → Gc 11 = upd (G 11) x (nI z) → (∀ y, ¬ y = x → Gc 12 y = G 12 y ∧ Gc 13 y = G 13 y) → (∀ y, y < c0 → Gc 23 y = G 23 y ∧ Gc 24 y = G 24 y) → FS tk pl F' → Post (pM σ F' Gc) := by
      intro Gc F' k1 k2 k3 k6 hF
      refine hP F' Gc ⟨fun y hy => by rw [k1 10 (by omega) (by omega) (by omega) (by omega)], fun r y r1 r2 hy => ?_, fun y hy => by rw [k1 17 (by omega) (by omega) (by omega) (by omega)], fun r y r1 r2 hy => by rw [k1 r (by omega) (by omega) (by omega) (by omega)], k6⟩ (Or.inl hF)
      rcases (show r = 11 ∨ r = 12 ∨ r = 13 ∨ r = 14 ∨ r = 15 ∨ r = 16 by omega) with rfl | rfl | rfl | rfl | rfl | rfl
      · rw [k2, pk_un hy]
      · exact (k3 y hy).1
      · exact (k3 y hy).2
      · rw [k1 14 (by omega) (by omega) (by omega) (by omega)]
      · rw [k1 15 (by omega) (by omega) (by omega) (by omega)]
      · rw [k1 16 (by omega) (by omega) (by omega) (by omega)]
    -- behind the first TOKEN
    have body : ∀ F1 : Nat → Int32, F1 35 = nI c0 → (FS tk pl F1 ∨ (j < 400 ∧ F1 13 = 0 ∧ F1 11 = nI (j + 1) ∧ F1 12 = 0)) → vp_in (nI x) 144 ∧ ∀ σ10 : MS, σ10 = mA (pM σ F1 G1) 13 (upd ((pM σ F1 G1).2.1 13) x ((pM σ F1 G1).1 35)) → vp_in (nI x) 144 ∧ ((σ10.2.1 11 x) = 3 → ∀ y14 : Int32, y14 = σ10.1 11 → wpM_must σ10 2 (fun σ15 => ((σ15.1 13) ≤ 0 → vp_in y14 403 ∧ vp_in (nI x) 144 ∧ ∀ σ18 : MS, σ18 = mA σ15 12 (upd (σ15.2.1 12) x (σ15.2.1 5 y14.toNatClampNeg)) → wpM_tellRule_187 Post σ18 (nI x)) ∧ (¬ (σ15.1 13) ≤ 0 → Post σ15))) ∧ (¬ (σ10.2.1 11 x) = 3 → wpM_tellRule_187 Post σ10 (nI x)) := by
      intro F1 f35 hF1
      refine ⟨vx, ?_⟩
      rintro _ rfl
      rw [pM_A _ _ _ 13 _ (by omega) (by omega)]
      obtain ⟨G2, hG2⟩ : ∃ G2, G2 = va_up G1 13 (upd (G1 13) x (nI c0)) := ⟨_, rfl⟩
      have e35 : (pM σ F1 G1).1 35 = nI c0 := f35
      rw [e35]
      change vp_in (nI x) 144 ∧ (G1 11 x = 3 → ∀ y14 : Int32, y14 = F1 11 → wpM_must (pM σ F1 (va_up G1 13 (upd (G1 13) x (nI c0)))) 2 _) ∧ (¬ G1 11 x = 3 → wpM_tellRule_187 Post (pM σ F1 (va_up G1 13 (upd (G1 13) x (nI c0)))) (nI x))
      rw [← hG2, a11, pk_us]
      have n3 : nI z = 3 ↔ z = 3 := nI_eq (b := 3) (by omega) (by omega)
      rw [n3]
      have b13 : G2 13 = upd (G1 13) x (nI c0) := by rw [hG2]; rfl
      have bO : ∀ r, ¬ r = 13 → G2 r = G1 r := by
        intro r r1
        rw [hG2]
        show (if r = 13 then _ else G1 r) = G1 r
        rw [if_neg r1]
      have m1 : ∀ r, ¬ r = 11 → ¬ r = 12 → ¬ r = 13 → r ≤ 22 → G2 r = G r := fun r r1 r2 r3 _ => (bO r r3).trans (aO r r1 r2)
      have m2 : G2 11 = upd (G 11) x (nI z) := (bO 11 (by omega)).trans a11
      have m3 : ∀ y, ¬ y = x → G2 12 y = G 12 y ∧ G2 13 y = G 13 y := by
        intro y hy
        refine ⟨by rw [bO 12 (by omega), a12, pk_un hy], by rw [b13, pk_un hy, aO 13 (by omega) (by omega)]⟩
      have m4 : G2 13 x = nI c0 := by rw [b13, pk_us]
      have m6 : ∀ y, y < c0 → G2 23 y = G 23 y ∧ G2 24 y = G 24 y := fun y _ => ⟨by rw [bO 23 (by omega), aO 23 (by omega) (by omega)], by rw [bO 24 (by omega), aO 24 (by omega) (by omega)]⟩
      have m11 : G2 11 x = nI z := by rw [m2, pk_us]
      have m17 : G2 17 sd = nI rel0 := by rw [m1 17 (by omega) (by omega) (by omega) (by omega), h17]
      have n4 : nI z = 4 ↔ z = 4 := nI_eq (b := 4) (by omega) (by omega)
      refine ⟨vx, fun hz3 => ?_, fun hz3 => ?_⟩
      · -- lapse
        rintro _ rfl
        rcases hF1 with hF | ⟨lt4, f13, f11, f12⟩
        · exact must_no hF ⟨fun q => absurd q (FS_no hF).2, fun _ => flt G2 F1 m1 m2 m3 m6 hF⟩
        · have hA1 : aSt tk (j + 1) = some (2, s, 0, rc + 1) := by
            have := aSt_s hA hne (w' := 2) (s' := s) (d' := 0) (by rw [hst, if_pos hz3]) (by unfold rcN; simp; omega)
            exact this
          obtain ⟨hR1, _⟩ := hT.2.2 (j + 1) _ hA1
          obtain ⟨ki, ki2⟩ := RelT_in hR1
          have st2 : stp 2 s 0 (tk (j + 1)) = if isIb (tk (j + 1)) = true then some (3, s, 0) else none := rfl
          refine must_ok f13 f11 (by omega) (fun q e4 => ?_) (fun q lt5 => ?_) (fun q => ?_)
          · have hi := ki.mp q
            have hF2 : FS tk pl (va_up (va_up F1 13 2) 14 (σ.2.1 4 (j + 1))) := FS_fail (F := F) hT hA1 (Or.inr rfl) ⟨2, s, 0, rc + 1, hA1, Or.inr (Or.inr ⟨by intro w; rw [w] at hi; exact absurd hi (by decide), rfl, 3, s, 0, by rw [st2, if_pos hi], Or.inl (by omega)⟩)⟩ _ rfl rfl
            exact ⟨fun w => absurd w (FS_no hF2).2, fun _ => flt G2 _ m1 m2 m3 m6 hF2⟩
          · have hi := ki.mp q
            obtain ⟨v, hv, ev, eva⟩ := ki2 hi
            have hA2 : aSt tk (j + 2) = some (3, s, 0, rc + 1) := by
              have := aSt_s hA1 (by intro w; rw [w] at hi; exact absurd hi (by decide)) (w' := 3) (s' := s) (d' := 0) (by rw [st2, if_pos hi]) (by unfold rcN; simp; omega)
              exact this
            refine ⟨fun _ => ⟨by rw [f11]; exact vp_in_nI (by omega) (by omega), vx, ?_⟩, fun w => absurd (show F1 13 ≤ 0 by rw [f13]; decide) w⟩
            rintro _ rfl
            rw [pM_A _ _ _ 12 _ (by omega) (by omega), f11, nI_clamp (by omega)]
            have e5 : (pM σ (va_up F1 11 (nI (j + 1 + 1))) G2).2.1 5 (j + 1) = nI v := eva
            rw [e5]
            obtain ⟨G3, hG3⟩ : ∃ G3, G3 = va_up G2 12 (upd (G2 12) x (nI v)) := ⟨_, rfl⟩
            change wpM_tellRule_187 Post (pM σ (va_up F1 11 (nI (j + 1 + 1))) (va_up G2 12 (upd (G2 12) x (nI v)))) (nI x)
            rw [← hG3]
            have c12 : G3 12 = upd (G2 12) x (nI v) := by rw [hG3]; rfl
            have cO : ∀ r, ¬ r = 12 → G3 r = G2 r := by
              intro r r1
              rw [hG3]
              show (if r = 12 then _ else G2 r) = G2 r
              rw [if_neg r1]
            refine ⟨vx, fun w => ?_, fun _ => tail201 (j := j + 2) (c1 := c0) (rc := rc + 1) (rel0 := rel0) (z := z) hT hx144 hz (by rw [cO 11 (by omega)]; exact m11) (by rw [cO 17 (by omega)]; exact m17) (by omega) (Or.inr ⟨f13, rfl, f12, f35, by omega, by omega, s, Or.inr (Or.inl ⟨hz3, hA2⟩)⟩) (fun F' G' hT2 hF' => fin G3 (j + 2) c0 F' G' (fun r r1 r2 r3 r4 => (cO r r2).trans (m1 r r1 r2 r3 r4)) ((cO 11 (by omega)).trans m2) (fun y hy => ⟨by rw [c12, pk_un hy]; exact (m3 y hy).1, by rw [cO 13 (by omega)]; exact (m3 y hy).2⟩) (by rw [cO 13 (by omega)]; exact m4) (Nat.le_refl _) (fun y hy => by rw [cO 23 (by omega), cO 24 (by omega)]; exact m6 y hy) (by omega) hT2 (hF'.imp id (fun h => ⟨Or.inr (Or.inl ⟨hz3, v, hv, ev, by rw [c12, pk_us], rfl⟩), h.2⟩)))⟩
            have w : G3 11 (nI x).toNatClampNeg = 4 := w
            rw [nI_clamp (by omega), cO 11 (by omega), m11, n4] at w
            omega
          · have hi : ¬ isIb (tk (j + 1)) = true := fun w => q (ki.mpr w)
            have hF2 : FS tk pl (va_up (va_up F1 13 1) 14 (σ.2.1 4 (j + 1))) := by
              refine FS_fail (F := F) hT hA1 (Or.inl rfl) ⟨2, s, 0, rc + 1, hA1, ?_⟩ _ rfl rfl
              by_cases w : tk (j + 1) = -1
              · exact Or.inl ⟨w, rfl⟩
              · exact Or.inr (Or.inl ⟨w, by rw [st2, if_neg hi], rfl⟩)
            exact ⟨fun w => absurd w (FS_no hF2).2, fun _ => flt G2 _ m1 m2 m3 m6 hF2⟩
      · unfold wpM_tellRule_187
        rw [nI_clamp (by omega)]
        change vp_in (nI x) 144 ∧ (G2 11 x = 4 → _) ∧ (¬ G2 11 x = 4 → _)
        rw [m11, n4]
        refine ⟨vx, fun hz4 => ?_, fun hz4 => ?_⟩
        · -- back
          rcases hF1 with hF | ⟨lt4, f13, f11, f12⟩
          · refine exprM_f hF (tail201 (j := j + 1) (c1 := c0) (rc := rc + 1) (rel0 := rel0) (z := z) hT hx144 hz m11 m17 (by omega) (Or.inl (show FS tk pl (va_up F1 39 0) from hF)) (fun F' G' hT2 hF' => ?_))
            exact fin G2 (j + 1) c0 F' G' m1 m2 m3 m4 (Nat.le_refl _) m6 (by omega) hT2 (Or.inl (hF'.resolve_right (fun h => (FS_no hF).1 h.1)))
          · have hA1 : aSt tk (j + 1) = some (4, 2, 0, rc + 1) := by
              have := aSt_s hA hne (w' := 4) (s' := 2) (d' := 0) (by rw [hst, if_neg hz3, if_pos hz4]) (by unfold rcN; simp; omega)
              exact this
            refine exprM (p := j + 1) hT (c0 := c0) (by omega) f13 f11 f12 f35 hA1 (fun F2 G3 hE => ?_)
            obtain ⟨⟨fr1, fr2⟩, hE⟩ := hE
            have q1 : ∀ r, ¬ r = 11 → ¬ r = 12 → ¬ r = 13 → r ≤ 22 → G3 r = G r := fun r r1 r2 r3 r4 => (fr1 r r4).trans (m1 r r1 r2 r3 r4)
            have q2 : G3 11 = upd (G 11) x (nI z) := (fr1 11 (by omega)).trans m2
            have q3 : ∀ y, ¬ y = x → G3 12 y = G 12 y ∧ G3 13 y = G 13 y := fun y hy => by rw [fr1 12 (by omega), fr1 13 (by omega)]; exact m3 y hy
            have q4 : G3 13 x = nI c0 := by rw [fr1 13 (by omega)]; exact m4
            have q6 : ∀ y, y < c0 → G3 23 y = G 23 y ∧ G3 24 y = G 24 y := fun y hy => ⟨(fr2 23 y (Or.inl rfl) hy).trans (m6 y hy).1, (fr2 24 y (Or.inr rfl) hy).trans (m6 y hy).2⟩
            have q11 : G3 11 x = nI z := by rw [fr1 11 (by omega)]; exact m11
            have q17 : G3 17 sd = nI rel0 := by rw [fr1 17 (by omega)]; exact m17
            rcases hE with hF | ⟨q, c1, e1, e2, e3, e4, e5, e6, e7, e8⟩
            · refine tail201 (j := j + 1) (c1 := c0) (rc := rc + 1) (rel0 := rel0) (z := z) hT hx144 hz q11 q17 (by omega) (Or.inl hF) (fun F' G' hT2 hF' => ?_)
              exact fin G3 (j + 1) c0 F' G' q1 q2 q3 q4 (Nat.le_refl _) q6 (by omega) hT2 (Or.inl (hF'.resolve_right (fun h => (FS_no hF).1 h.1)))
            · have hpq := e7.1
              have hcc : c0 ≤ c1 := e7.2.2.2.1.1
              refine tail201 (j := q) (c1 := c1) (rc := rc + 1) (rel0 := rel0) (z := z) hT hx144 hz q11 q17 (by omega) (Or.inr ⟨e1, e2, e3, e4, by omega, by omega, 2, Or.inr (Or.inr ⟨hz4, rfl, e6, e8⟩)⟩) (fun F' G' hT2 hF' => ?_)
              exact fin G3 q c1 F' G' q1 q2 q3 q4 hcc q6 (by omega) hT2 (hF'.imp id (fun h => ⟨Or.inr (Or.inr ⟨hz4, e7⟩), h.2⟩))
        · -- the other three
          rcases hF1 with hF | ⟨lt4, f13, f11, f12⟩
          · refine tail201 (j := j + 1) (c1 := c0) (rc := rc + 1) (rel0 := rel0) (z := z) hT hx144 hz m11 m17 (by omega) (Or.inl hF) (fun F' G' hT2 hF' => ?_)
            exact fin G2 (j + 1) c0 F' G' m1 m2 m3 m4 (Nat.le_refl _) m6 (by omega) hT2 (Or.inl (hF'.resolve_right (fun h => (FS_no hF).1 h.1)))
          · have hA1 : aSt tk (j + 1) = some (1, s, 0, rc + 1) := by
              have := aSt_s hA hne (w' := 1) (s' := s) (d' := 0) (by rw [hst, if_neg hz3, if_neg hz4]) (by unfold rcN; simp; omega)
              exact this
            refine tail201 (j := j + 1) (c1 := c0) (rc := rc + 1) (rel0 := rel0) (z := z) hT hx144 hz m11 m17 (by omega) (Or.inr ⟨f13, f11, f12, f35, by omega, by omega, s, Or.inl ⟨by omega, hA1⟩⟩) (fun F' G' hT2 hF' => ?_)
            exact fin G2 (j + 1) c0 F' G' m1 m2 m3 m4 (Nat.le_refl _) m6 (by omega) hT2 (hF'.imp id (fun h => ⟨Or.inl ⟨by omega, rfl⟩, h.2⟩))
    refine next_ok h13 h11 hj (fun e4 => ?_) (fun lt4 => ?_)
    · have hF2 : FS tk pl (va_up (va_up F 13 2) 14 (σ.2.1 4 j)) := by
        refine FS_fail (F := F) hT hA (Or.inr rfl) ⟨0, s, 0, rc, hA, Or.inr (Or.inr ⟨hne, rfl, ?_⟩)⟩ _ rfl rfl
        by_cases e3 : z = 3
        · exact ⟨2, s, 0, by rw [hst, if_pos e3], Or.inl (by omega)⟩
        · by_cases e4 : z = 4
          · exact ⟨4, 2, 0, by rw [hst, if_neg e3, if_pos e4], Or.inl (by omega)⟩
          · exact ⟨1, s, 0, by rw [hst, if_neg e3, if_neg e4], Or.inl (by omega)⟩
      exact body _ h35 (Or.inl hF2)
    · exact body _ h35 (Or.inr ⟨lt4, h13, rfl, h12⟩)
  have h50 : ∀ z, z < 5 → tk j = nI (10000 + z) → σ.2.1 3 j = nI (20 + z) → wpM_tellRule_50 Post (pM σ F G) 1 := by
    intro z hz etk ekd
    refine ⟨fun q => absurd q no1, fun _ => ?_⟩
    rw [h19, nI_clamp (by omega)]
    change vp_in (nI sd) 9 ∧ (G 10 sd = 16 → _) ∧ (¬ G 10 sd = 16 → _)
    rw [h10, show (nI rc = 16 ↔ rc = 16) from nI_eq (b := 16) (by omega) (by omega)]
    refine ⟨v9, fun e16 => ?_, fun e16 => h82 z hz etk ekd (by omega)⟩
    refine fail_ok h13 h11 hj ?_
    have hF2 : FS tk pl (va_up (va_up F 13 2) 14 (σ.2.1 4 j)) := by
      refine FS_fail (F := F) hT hA (Or.inr rfl) ⟨0, s, 0, rc, hA, Or.inr (Or.inr ⟨hne, rfl, ?_⟩)⟩ _ rfl rfl
      have h17' : 16 < rcN 0 rc := by unfold rcN; simp; omega
      rw [st0, etk]
      rcases (show z = 0 ∨ z = 1 ∨ z = 2 ∨ z = 3 ∨ z = 4 by omega) with rfl | rfl | rfl | rfl | rfl
      · exact ⟨1, s, 0, rfl, Or.inr (Or.inl h17')⟩
      · exact ⟨1, s, 0, rfl, Or.inr (Or.inl h17')⟩
      · exact ⟨1, s, 0, rfl, Or.inr (Or.inl h17')⟩
      · exact ⟨2, s, 0, rfl, Or.inr (Or.inl h17')⟩
      · exact ⟨4, 2, 0, rfl, Or.inr (Or.inl h17')⟩
    exact ⟨fun q => absurd q (FS_no hF2).2, fun _ => hP _ _ TeF0 (Or.inl hF2)⟩
  have hk : ∀ z, z < 5 → (σ.2.1 3 j = nI (20 + z) ↔ tk j = nI (10000 + z)) := fun z hz => RelT_wd hR (by omega)
  refine is_ok h13 h11 hj (fun q => ⟨fun w => absurd w no1, fun _ => h50 0 (by omega) ((hk 0 (by omega)).mp q) q⟩) (fun q0 => ⟨fun _ => ?_, fun w => absurd rfl w⟩)
  refine is_ok h13 h11 hj (fun q => ⟨fun w => absurd w no1, fun _ => h50 1 (by omega) ((hk 1 (by omega)).mp q) q⟩) (fun q1 => ⟨fun _ => ?_, fun w => absurd rfl w⟩)
  refine is_ok h13 h11 hj (fun q => ⟨fun w => absurd w no1, fun _ => h50 2 (by omega) ((hk 2 (by omega)).mp q) q⟩) (fun q2 => ⟨fun _ => ?_, fun w => absurd rfl w⟩)
  refine is_ok h13 h11 hj (fun q => ⟨fun w => absurd w no1, fun _ => h50 3 (by omega) ((hk 3 (by omega)).mp q) q⟩) (fun q3 => ⟨fun _ => ?_, fun w => absurd rfl w⟩)
  refine is_ok h13 h11 hj (fun q => ⟨fun w => absurd w no1, fun _ => h50 4 (by omega) ((hk 4 (by omega)).mp q) q⟩) (fun q4 => ⟨fun _ => ?_, fun w => absurd rfl w⟩)
  refine ⟨fun _ => fail_ok h13 h11 hj ?_, fun q => absurd rfl q⟩
  have hF2 : FS tk pl (va_up (va_up F 13 1) 14 (σ.2.1 4 j)) := by
    refine FS_fail (F := F) hT hA (Or.inl rfl) ⟨0, s, 0, rc, hA, Or.inr (Or.inl ⟨hne, ?_, rfl⟩)⟩ _ rfl rfl
    have n0 : ¬ tk j = 10000 := fun w => q0 ((hk 0 (by omega)).mpr w)
    have n1 : ¬ tk j = 10001 := fun w => q1 ((hk 1 (by omega)).mpr w)
    have n2 : ¬ tk j = 10002 := fun w => q2 ((hk 2 (by omega)).mpr w)
    have n3 : ¬ tk j = 10003 := fun w => q3 ((hk 3 (by omega)).mpr w)
    have n4 : ¬ tk j = 10004 := fun w => q4 ((hk 4 (by omega)).mpr w)
    rw [st0, if_neg n3, if_neg n4, if_neg (show ¬ (tk j = 10000 ∨ tk j = 10001 ∨ tk j = 10002) from fun q => q.elim n0 (fun q => q.elim n1 n2))]
  exact ⟨fun q => absurd q (FS_no hF2).2, fun _ => hP _ _ TeF0 (Or.inl hF2)⟩
