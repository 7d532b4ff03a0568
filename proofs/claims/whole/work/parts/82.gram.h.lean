/-! a RULE, the reference's side -/
theorem must_ok {σ : MS} {F : Nat → Int32} {G : Nat → Nat → Int32} {j : Nat} {k : Int32} {Post : MS → Prop} (h13 : F 13 = 0) (h11 : F 11 = nI j) (hj : j ≤ 400) (h1 : σ.2.1 3 j = k → j = 400 → Post (pM σ (va_up (va_up F 13 2) 14 (σ.2.1 4 j)) G)) (h2 : σ.2.1 3 j = k → j < 400 → Post (pM σ (va_up F 11 (nI (j + 1))) G)) (h3 : ¬ σ.2.1 3 j = k → Post (pM σ (va_up (va_up F 13 1) 14 (σ.2.1 4 j)) G)) : wpM_must (pM σ F G) k Post :=
  is_ok h13 h11 hj (fun q => ⟨fun z => absurd z no1, fun _ => next_ok h13 h11 hj (h1 q) (h2 q)⟩) (fun q => ⟨fun _ => fail_ok h13 h11 hj (h3 q), fun z => absurd rfl z⟩)
theorem must_no {σ : MS} {tk : Nat → Int32} {pl : Nat → Nat} {F : Nat → Int32} {G : Nat → Nat → Int32} {k : Int32} {Post : MS → Prop} (hF : FS tk pl F) (h : Post (pM σ F G)) : wpM_must (pM σ F G) k Post :=
  is_no (FS_no hF).1 ⟨fun _ => fail_no (FS_no hF).2 h, fun z => absurd rfl z⟩
/-- the end of a RULE -/
theorem end330 {σ : MS} {tk : Nat → Int32} {pl : Nat → Nat} {sd x : Nat} {F : Nat → Int32} {G : Nat → Nat → Int32} {Post : MS → Prop} (hT : TC σ tk pl sd) (hx : x < 144)
    (hF : FS tk pl F ∨ ∃ je w s rc, F 13 = 0 ∧ F 11 = nI je ∧ aSt tk je = some (w, s, 0, rc) ∧ ¬ w = 0 ∧ (tk je = 10020 → stp w s 0 (tk je) = some (0, s, 0)) ∧ (¬ tk je = 10020 → ¬ tk je = -1 → stp w s 0 (tk je) = none))
    (hP : ∀ F' G', ((FS tk pl F' ∧ G' = G) ∨ ∃ je w s rc, F 13 = 0 ∧ F 11 = nI je ∧ aSt tk je = some (w, s, 0, rc) ∧ ¬ w = 0 ∧ je < 400 ∧ tk je = 10020 ∧ aSt tk (je + 1) = some (0, s, 0, rc) ∧ F' = va_up F 11 (nI (je + 1)) ∧ G' = va_up (va_up G 16 (upd (G 16) x (G 17 sd))) 10 (upd (G 10) sd (G 10 sd + 1))) → Post (pM σ F' G')) : wpM_tellRule_330 Post (pM σ F G) (nI x) := by
  have hsd := hT.2.1
  have h19 : ∀ F' G', (pM σ F' G').1 19 = nI sd := fun _ _ => hT.1
  rcases hF with hF | ⟨je, w, s, rc, h13, h11, hA, hw, hs1, hs2⟩
  · exact must_no hF ⟨fun z => absurd z (FS_no hF).2, fun _ => hP F G (Or.inl ⟨hF, rfl⟩)⟩
  · obtain ⟨hj, _, hrc⟩ := aSt_bd hA
    obtain ⟨hR, _⟩ := hT.2.2 je _ hA
    have kd4 : σ.2.1 3 je = 4 ↔ tk je = 10020 := RelT_sg hR (kk := 4) (tt := 10020) (by unfold sgP; omega)
    have hrcN : rcN w rc = rc := by rw [rcN, if_neg hw]
    refine must_ok h13 h11 hj (fun q e4 => ?_) (fun q lt4 => ?_) (fun q => ?_)
    · have et := kd4.mp q
      have hF2 : FS tk pl (va_up (va_up F 13 2) 14 (σ.2.1 4 je)) := FS_fail (F := F) hT hA (Or.inr rfl) ⟨w, s, 0, rc, hA, Or.inr (Or.inr ⟨by rw [et]; decide, rfl, 0, s, 0, hs1 et, Or.inl (by omega)⟩)⟩ _ rfl rfl
      exact ⟨fun z => absurd z (FS_no hF2).2, fun _ => hP _ G (Or.inl ⟨hF2, rfl⟩)⟩
    · have et := kd4.mp q
      have hA' : aSt tk (je + 1) = some (0, s, 0, rc) := by
        have := aSt_s hA (by rw [et]; decide) (hs1 et) (by rw [hrcN]; omega)
        rw [hrcN] at this
        exact this
      have v9 : vp_in (nI sd) 9 := vp_in_nI (by omega) (by omega)
      have vx : vp_in (nI x) 144 := vp_in_nI hx (by omega)
      refine ⟨fun _ => ?_, fun z => absurd (show F 13 ≤ 0 by rw [h13]; decide) z⟩
      rw [h19, nI_clamp (by omega), nI_clamp (by omega)]
      refine ⟨v9, vx, ?_⟩
      rintro _ rfl
      rw [pM_A _ _ _ 16 _ (by omega) (by omega), h19, nI_clamp (by omega)]
      refine ⟨v9, v9, ?_⟩
      rintro _ rfl
      rw [pM_A _ _ _ 10 _ (by omega) (by omega)]
      exact hP _ _ (Or.inr ⟨je, w, s, rc, h13, h11, hA, hw, lt4, et, hA', rfl, rfl⟩)
    · have et : ¬ tk je = 10020 := fun z => q (kd4.mpr z)
      have hV : Vd tk 1 je := by
        refine ⟨w, s, 0, rc, hA, ?_⟩
        by_cases z : tk je = -1
        · exact Or.inl ⟨z, by rw [if_neg hw]⟩
        · exact Or.inr (Or.inl ⟨z, hs2 et z, rfl⟩)
      have hF2 : FS tk pl (va_up (va_up F 13 1) 14 (σ.2.1 4 je)) := FS_fail (F := F) hT hA (Or.inl rfl) hV _ rfl rfl
      exact ⟨fun z => absurd z (FS_no hF2).2, fun _ => hP _ G (Or.inl ⟨hF2, rfl⟩)⟩
/-- what a COND leaves -/
def FrC (sd f c0 : Nat) (G G' : Nat → Nat → Int32) : Prop := (∀ r, r ≤ 16 → G' r = G r) ∧ (∀ y, ¬ y = sd → G' 17 y = G 17 y) ∧ (∀ r y, 18 ≤ r → r ≤ 22 → y < 200 * sd + f → G' r y = G r y) ∧ ∀ y, y < c0 → G' 23 y = G 23 y ∧ G' 24 y = G 24 y
def CoR (tk : Nat → Int32) (pl : Nat → Nat) (sd rc f c0 p : Nat) (G F' : Nat → Nat → Int32) (Fv : Nat → Int32) : Prop := FrC sd f c0 G F' ∧ (FS tk pl Fv ∨ ∃ je c1 n, Fv 13 = 0 ∧ Fv 11 = nI je ∧ Fv 12 = 0 ∧ Fv 35 = nI c1 ∧ c0 ≤ c1 ∧ c1 ≤ 500 * sd + je ∧ aSt tk je = some (5, 1, 0, rc) ∧ F' 17 sd = nI (f + (n + 1)) ∧ 3 * (f + (n + 1)) ≤ je ∧ F' 22 (200 * sd + f) = 1 ∧ ChH tk F' c1 (n + 1) (200 * sd + f) p je ∧ ¬ (tk je = 10021 ∨ tk je = 10022 ∨ tk je = 10023) ∧ ¬ tk je = 10006 ∧ ¬ tk je = 10007)
theorem condLoop {σ : MS} {tk : Nat → Int32} {pl : Nat → Nat} {sd rc f c0 p x : Nat} {G0 : Nat → Nat → Int32} {Post : MS → Prop} (hT : TC σ tk pl sd)
    (hP : ∀ F' G', CoR tk pl sd rc f c0 p G0 G' F' → wpM_tellRule_330 Post (pM σ F' G') (nI x)) :
    ∀ (g j n c : Nat) (x4 : Int32) (F : Nat → Int32) (G : Nat → Nat → Int32), 401 - j < g → FrC sd f c0 G0 G → F 13 = 0 → F 11 = nI j → F 12 = 0 → F 35 = nI c → c0 ≤ c → c ≤ 500 * sd + j → aSt tk j = some (4, 0, 0, rc) → G 17 sd = nI (f + n) → 3 * (f + n) ≤ j →
      ((n = 0 ∧ j = p ∧ x4 = 1) ∨ (¬ n = 0 ∧ G 22 (200 * sd + f) = 1 ∧ ∃ j1, j = j1 + 1 ∧ ChH tk G c n (200 * sd + f) p j1 ∧ ((tk j1 = 10006 ∧ x4 = 1) ∨ (tk j1 = 10007 ∧ x4 = 0)))) → wpM_tellRule_274 Post g (pM σ F G) (nI x) 1 x4 := by
  intro g
  induction g with
  | zero => intro j n c x4 F G hg; omega
  | succ g ih =>
    intro j n c x4 F G hg hfr h13 h11 h12 h35 hcc hc hA h17 hrel hLI
    have hsd := hT.2.1
    have hj := (aSt_bd hA).1
    have hor : x4 = 0 ∨ x4 = 1 := by
      rcases hLI with z | ⟨_, _, _, _, _, z | z⟩
      · exact Or.inr z.2.2
      · exact Or.inr z.2
      · exact Or.inl z.2
    -- with a fault: to the end
    have hKf : ∀ (F' : Nat → Int32) (G' : Nat → Nat → Int32) (x3 x4 : Int32), FS tk pl F' → FrC sd f c0 G0 G' → wpM_tellRule_274 Post g (pM σ F' G') (nI x) x3 x4 := by
      intro F' G' x3 x4 hF hG
      obtain ⟨m, rfl⟩ : ∃ m, g = m + 1 := ⟨g - 1, by omega⟩
      have fin := hP F' G' ⟨hG, Or.inl hF⟩
      exact ⟨fun _ => fin, fun _ => ⟨fun z => absurd z (FS_no hF).1, fun _ => fin⟩⟩
    refine ⟨fun z => absurd z no1, fun _ => ⟨fun _ => ?_, fun z => absurd h13 z⟩⟩
    refine relationM hT hc h13 h11 h12 h35 hA h17 (by omega) hor (fun F1 G1 hR => ?_)
    obtain ⟨r1, r2, r3, r4, hR⟩ := hR
    have hfr1 : FrC sd f c0 G0 G1 := ⟨fun r hr => (r1 r hr).trans (hfr.1 r hr), fun y hy => (r2 y hy).trans (hfr.2.1 y hy), fun r y a b hy => (r3 r y a b (by omega)).trans (hfr.2.2.1 r y a b hy), fun y hy => ⟨(r4 y (by omega)).1.trans (hfr.2.2.2 y hy).1, (r4 y (by omega)).2.trans (hfr.2.2.2 y hy).2⟩⟩
    rcases hR with hF | ⟨q, c2, e13, e11, e12, e35, ec0, ec, hAq, e17, e22, hHd, hnop, hq3⟩
    · exact is_no (FS_no hF).1 ⟨fun _ => is_no (FS_no hF).1 ⟨fun _ => ⟨fun _ => hKf F1 G1 0 0 hF hfr1, fun z => absurd rfl z⟩, fun z => absurd rfl z⟩, fun z => absurd rfl z⟩
    · have hq := (aSt_bd hAq).1
      obtain ⟨hRel, _⟩ := hT.2.2 q _ hAq
      have kd26 : σ.2.1 3 q = 26 ↔ tk q = 10006 := RelT_wd hRel (z := 6) (by omega)
      have kd27 : σ.2.1 3 q = 27 ↔ tk q = 10007 := RelT_wd hRel (z := 7) (by omega)
      -- the relations so far
      have hch : ChH tk G1 c2 (n + 1) (200 * sd + f) p q ∧ G1 22 (200 * sd + f) = 1 := by
        rcases hLI with ⟨rfl, rfl, rfl⟩ | ⟨hn, g22, j1, rfl, hC, hcon⟩
        · exact ⟨⟨q, hHd, Or.inl ⟨rfl, rfl⟩⟩, e22⟩
        · have hC' := ChH_loc (G' := G1) (hi' := c2) r4 ec0 n (200 * sd + f) p j1 (fun r y a b y1 y2 => r3 r y a b (by omega)) hC
          refine ⟨ChH_app n (200 * sd + f) p hC' ?_ ?_, ?_⟩
          · rw [show 200 * sd + f + n = 200 * sd + (f + n) by omega, e22]
            exact hcon
          · rw [show 200 * sd + f + n = 200 * sd + (f + n) by omega]
            exact hHd
          · rw [r3 22 (200 * sd + f) (by omega) (by omega) (by omega)]
            exact g22
      have st5 : stp 5 1 0 (tk q) = if tk q = 10029 then none else if tk q = 10021 ∨ tk q = 10022 ∨ tk q = 10023 then some (4, 1, 0) else if tk q = 10020 then some (0, 1, 0) else if tk q = 10007 ∨ tk q = 10006 then some (4, 0, 0) else none := rfl
      -- and, or: on
      have go : ∀ x4' : Int32, (tk q = 10006 ∧ x4' = 1 ∨ tk q = 10007 ∧ x4' = 0) → wpM_next (pM σ F1 G1) (fun σ2 => wpM_tellRule_274 Post g σ2 (nI x) 1 x4') := by
        intro x4' hx4
        have hne : ¬ tk q = -1 := by rcases hx4 with z | z <;> rw [z.1] <;> decide
        have hst : stp 5 1 0 (tk q) = some (4, 0, 0) := by
          have n1 : ¬ tk q = 10029 := by rcases hx4 with z | z <;> rw [z.1] <;> decide
          have n2 : ¬ tk q = 10020 := by rcases hx4 with z | z <;> rw [z.1] <;> decide
          rw [st5, if_neg n1, if_neg hnop, if_neg n2, if_pos (hx4.elim (fun z => Or.inr z.1) (fun z => Or.inl z.1))]
        refine next_ok e13 e11 hq (fun e4 => hKf _ G1 1 x4' (FS_fail (F := F) hT hAq (Or.inr rfl) ⟨5, 1, 0, rc, hAq, Or.inr (Or.inr ⟨hne, rfl, 4, 0, 0, hst, Or.inl (by omega)⟩)⟩ _ rfl rfl) hfr1) (fun lt4 => ?_)
        refine ih (q + 1) (n + 1) c2 x4' _ G1 (by omega) hfr1 e13 rfl e12 e35 (by omega) (by omega) (aSt_s hAq hne hst (by have := (aSt_bd hAq).2.2; unfold rcN; simp; omega)) ?_ (by omega) (Or.inr ⟨by omega, hch.2, q, rfl, hch.1, hx4⟩)
        rw [e17, show f + n + 1 = f + (n + 1) by omega]
      refine is_ok e13 e11 hq (fun q26 => ⟨fun z => absurd z no1, fun _ => ⟨fun z => absurd z no1, fun _ => go 1 (Or.inl ⟨kd26.mp q26, rfl⟩)⟩⟩) (fun q26 => ⟨fun _ => is_ok e13 e11 hq (fun q27 => ⟨fun z => absurd z no1, fun _ => ⟨fun z => absurd z no1, fun _ => go 0 (Or.inr ⟨kd27.mp q27, rfl⟩)⟩⟩) (fun q27 => ⟨fun _ => ⟨fun _ => ?_, fun z => absurd rfl z⟩, fun z => absurd rfl z⟩), fun z => absurd rfl z⟩)
      obtain ⟨m, rfl⟩ : ∃ m, g = m + 1 := ⟨g - 1, by omega⟩
      refine ⟨fun _ => hP F1 G1 ⟨hfr1, Or.inr ⟨q, c2, n, e13, e11, e12, e35, by omega, by omega, hAq, ?_, by omega, hch.2, hch.1, hnop, fun z => q26 (kd26.mpr z), fun z => q27 (kd27.mpr z)⟩⟩, fun z => absurd rfl z⟩
      rw [e17, show f + n + 1 = f + (n + 1) by omega]
theorem FrC_0 (sd f c0 : Nat) (G : Nat → Nat → Int32) : FrC sd f c0 G G := ⟨fun _ _ => rfl, fun _ _ => rfl, fun _ _ _ _ _ => rfl, fun _ _ => ⟨rfl, rfl⟩⟩
/-- 'if' and a COND -/
theorem condM {σ : MS} {tk : Nat → Int32} {pl : Nat → Nat} {sd rc f c0 j x w s : Nat} {F : Nat → Int32} {G : Nat → Nat → Int32} {Post : MS → Prop} (hT : TC σ tk pl sd) (hw : ¬ w = 0) (hst1 : tk j = 10005 → stp w s 0 (tk j) = some (4, 0, 0)) (hst2 : ¬ tk j = 10005 → ¬ tk j = -1 → stp w s 0 (tk j) = none) (h13 : F 13 = 0) (h11 : F 11 = nI j) (h12 : F 12 = 0) (h35 : F 35 = nI c0) (hc : c0 ≤ 500 * sd + j) (hA : aSt tk j = some (w, s, 0, rc)) (h17 : G 17 sd = nI f) (hrel : 3 * f ≤ j)
    (hP : ∀ F' G', CoR tk pl sd rc f c0 (j + 1) G G' F' → wpM_tellRule_330 Post (pM σ F' G') (nI x)) : wpM_tellRule_260 Post (pM σ F G) (nI x) 1 := by
  obtain ⟨hj, _, hrc⟩ := aSt_bd hA
  obtain ⟨hR, _⟩ := hT.2.2 j _ hA
  have kd25 : σ.2.1 3 j = 25 ↔ tk j = 10005 := RelT_wd hR (z := 5) (by omega)
  have hrcN : rcN w rc = rc := by rw [rcN, if_neg hw]
  have flt : ∀ F', FS tk pl F' → wpM_tellRule_271 Post (pM σ F' G) (nI x) 1 := fun F' hF => ⟨1, fun z => absurd z no1, fun _ => ⟨fun z => absurd z (FS_no hF).1, fun _ => hP F' G ⟨FrC_0 sd f c0 G, Or.inl hF⟩⟩⟩
  refine ⟨fun z => absurd z no1, fun _ => must_ok h13 h11 hj (fun q e4 => flt _ ?_) (fun q lt4 => ?_) (fun q => flt _ ?_)⟩
  · have et := kd25.mp q
    exact FS_fail (F := F) hT hA (Or.inr rfl) ⟨w, s, 0, rc, hA, Or.inr (Or.inr ⟨by rw [et]; decide, rfl, 4, 0, 0, hst1 et, Or.inl (by omega)⟩)⟩ _ rfl rfl
  · have et := kd25.mp q
    have hA' : aSt tk (j + 1) = some (4, 0, 0, rc) := by
      have := aSt_s hA (by rw [et]; decide) (hst1 et) (by rw [hrcN]; omega)
      rw [hrcN] at this
      exact this
    exact ⟨402, condLoop hT hP 402 (j + 1) 0 c0 1 _ G (by omega) (FrC_0 sd f c0 G) h13 rfl h12 h35 (Nat.le_refl _) (by omega) hA' h17 (by omega) (Or.inl ⟨rfl, rfl, rfl⟩)⟩
  · have et : ¬ tk j = 10005 := fun z => q (kd25.mpr z)
    refine FS_fail (F := F) hT hA (Or.inl rfl) ⟨w, s, 0, rc, hA, ?_⟩ _ rfl rfl
    by_cases z : tk j = -1
    · exact Or.inl ⟨z, by rw [if_neg hw]⟩
    · exact Or.inr (Or.inl ⟨z, hst2 et z, rfl⟩)
