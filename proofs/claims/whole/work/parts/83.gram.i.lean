/-! a RULE, the reference's side: all of it -/
def CoQ (tk : Nat → Int32) (G : Nat → Nat → Int32) (sd rel0 rel2 c2 p je : Nat) : Prop := ∃ n, rel2 = rel0 + (n + 1) ∧ G 22 (200 * sd + rel0) = 1 ∧ ChH tk G c2 (n + 1) (200 * sd + rel0) p je
def Dsc (tk : Nat → Int32) (G : Nat → Nat → Int32) (sd z j rel0 rel2 c2 je : Nat) : Prop := (z < 3 ∧ CoQ tk G sd rel0 rel2 c2 (j + 1) je) ∨ (z = 3 ∧ rel2 = rel0 ∧ je = j) ∨ (z = 4 ∧ ((tk j = 10005 ∧ CoQ tk G sd rel0 rel2 c2 (j + 1) je) ∨ (¬ tk j = 10005 ∧ je = j ∧ rel2 = rel0)))
/-- what the last part of a RULE leaves -/
def T2F (sd x rel0 c1 : Nat) (G G' : Nat → Nat → Int32) : Prop := (∀ y, ¬ y = sd → G' 10 y = G 10 y) ∧ (∀ r, 11 ≤ r → r ≤ 13 → G' r = G r) ∧ (∀ r y, 14 ≤ r → r ≤ 16 → ¬ y = x → G' r y = G r y) ∧ (∀ y, ¬ y = sd → G' 17 y = G 17 y) ∧ (∀ r y, 18 ≤ r → r ≤ 22 → y < 200 * sd + rel0 → G' r y = G r y) ∧ ∀ y, y < c1 → G' 23 y = G 23 y ∧ G' 24 y = G 24 y
theorem Dsc_g {tk : Nat → Int32} {G G' : Nat → Nat → Int32} {sd z j rel0 rel2 c2 je : Nat} (h : ∀ r, 18 ≤ r → r ≤ 24 → G' r = G r) (hD : Dsc tk G sd z j rel0 rel2 c2 je) : Dsc tk G' sd z j rel0 rel2 c2 je := by
  have hq : ∀ p, CoQ tk G sd rel0 rel2 c2 p je → CoQ tk G' sd rel0 rel2 c2 p je := by
    rintro p ⟨n, e1, e2, e3⟩
    refine ⟨n, e1, by rw [h 22 (by omega) (by omega)]; exact e2, ChH_loc (fun x _ => ⟨by rw [h 23 (by omega) (by omega)], by rw [h 24 (by omega) (by omega)]⟩) (Nat.le_refl _) _ _ _ _ (fun r x r1 r2 _ _ => by rw [h r r1 (by omega)]) e3⟩
  rcases hD with ⟨a, b⟩ | a | ⟨a, ⟨b, c⟩ | b⟩
  · exact Or.inl ⟨a, hq _ b⟩
  · exact Or.inr (Or.inl a)
  · exact Or.inr (Or.inr ⟨a, Or.inl ⟨b, hq _ c⟩⟩)
  · exact Or.inr (Or.inr ⟨a, Or.inr b⟩)
theorem tail201 {σ : MS} {tk : Nat → Int32} {pl : Nat → Nat} {sd rc rel0 c1 x z j : Nat} {F : Nat → Int32} {G : Nat → Nat → Int32} {Post : MS → Prop} (hT : TC σ tk pl sd) (hx : x < 144) (hz : z < 5) (h11r : G 11 x = nI z) (h17 : G 17 sd = nI rel0) (hrel0 : rel0 < 200)
    (hF : FS tk pl F ∨ (F 13 = 0 ∧ F 11 = nI j ∧ F 12 = 0 ∧ F 35 = nI c1 ∧ c1 ≤ 500 * sd + j ∧ 3 * rel0 ≤ j ∧ ∃ s, (z < 3 ∧ aSt tk j = some (1, s, 0, rc)) ∨ (z = 3 ∧ aSt tk j = some (3, s, 0, rc)) ∨ (z = 4 ∧ s = 2 ∧ aSt tk j = some (5, s, 0, rc) ∧ ¬ (tk j = 10021 ∨ tk j = 10022 ∨ tk j = 10023))))
    (hP : ∀ F' G', T2F sd x rel0 c1 G G' → (FS tk pl F' ∨ F 13 = 0 ∧ ∃ je s' c2 rel2, F' 13 = 0 ∧ F' 11 = nI (je + 1) ∧ F' 12 = 0 ∧ F' 35 = nI c2 ∧ c1 ≤ c2 ∧ c2 ≤ 500 * sd + je ∧ aSt tk (je + 1) = some (0, s', 0, rc) ∧ tk je = 10020 ∧ G' 10 sd = G 10 sd + 1 ∧ G' 17 sd = nI rel2 ∧ rel0 ≤ rel2 ∧ 3 * rel2 ≤ je ∧ G' 14 x = nI c1 ∧ G' 15 x = nI rel0 ∧ G' 16 x = nI rel2 ∧ j ≤ je ∧ Dsc tk G' sd z j rel0 rel2 c2 je) → Post (pM σ F' G')) : wpM_tellRule_201 Post (pM σ F G) (nI x) := by
  have hsd := hT.2.1
  have h19 : ∀ F' G', (pM σ F' G').1 19 = nI sd := fun _ _ => hT.1
  have v9 : vp_in (nI sd) 9 := vp_in_nI (by omega) (by omega)
  have vx : vp_in (nI x) 144 := vp_in_nI hx (by omega)
  unfold wpM_tellRule_201
  rw [nI_clamp (by omega)]
  refine ⟨vx, ?_⟩
  rintro _ rfl
  rw [pM_A _ _ _ 14 _ (by omega) (by omega), h19, nI_clamp (by omega)]
  refine ⟨v9, vx, ?_⟩
  rintro _ rfl
  rw [pM_A _ _ _ 15 _ (by omega) (by omega)]
  obtain ⟨G2, hG2⟩ : ∃ G2, G2 = va_up (va_up G 14 (upd (G 14) x (F 35))) 15 (upd (G 15) x (G 17 sd)) := ⟨_, rfl⟩
  change vp_in (nI x) 144 ∧ (G 11 x < 3 → wpM_tellRule_260 Post (pM σ F (va_up (va_up G 14 (upd (G 14) x (F 35))) 15 (upd (G 15) x (G 17 sd)))) (nI x) 1) ∧ (¬ G 11 x < 3 → vp_in (nI x) 144 ∧ (G 11 x = 4 → wpM_is (pM σ F (va_up (va_up G 14 (upd (G 14) x (F 35))) 15 (upd (G 15) x (G 17 sd)))) 25 (fun r10 σ11 => (r10 = 0 → wpM_tellRule_259 Post σ11 (nI x)) ∧ (¬ r10 = 0 → wpM_tellRule_260 Post σ11 (nI x) 1))) ∧ (¬ G 11 x = 4 → wpM_tellRule_259 Post (pM σ F (va_up (va_up G 14 (upd (G 14) x (F 35))) 15 (upd (G 15) x (G 17 sd)))) (nI x)))
  rw [← hG2, h11r]
  have n3 : nI z < 3 ↔ z < 3 := nI_ltI (b := 3) (by omega) (by omega)
  have n4 : nI z = 4 ↔ z = 4 := nI_eq (b := 4) (by omega) (by omega)
  rw [n3, n4]
  have g17 : G2 17 sd = nI rel0 := by rw [hG2]; exact h17
  have g15 : G2 15 = upd (G 15) x (nI rel0) := by rw [hG2, h17]; rfl
  have g14 : G2 14 = upd (G 14) x (F 35) := by rw [hG2]; rfl
  have gO : ∀ r, ¬ r = 14 → ¬ r = 15 → G2 r = G r := by
    intro r r1 r2
    rw [hG2]
    show (if r = 15 then _ else if r = 14 then _ else G r) = G r
    rw [if_neg r2, if_neg r1]
  have hT2 : ∀ G', FrC sd rel0 c1 G2 G' → T2F sd x rel0 c1 G G' := by
    intro G' hC
    refine ⟨fun y _ => by rw [hC.1 10 (by omega), gO 10 (by omega) (by omega)], fun r r1 r2 => (hC.1 r (by omega)).trans (gO r (by omega) (by omega)), fun r y r1 r2 hy => ?_, fun y hy => (hC.2.1 y hy).trans (by rw [gO 17 (by omega) (by omega)]), fun r y r1 r2 hy => (hC.2.2.1 r y r1 r2 hy).trans (by rw [gO r (by omega) (by omega)]), fun y hy => ⟨(hC.2.2.2 y hy).1.trans (by rw [gO 23 (by omega) (by omega)]), (hC.2.2.2 y hy).2.trans (by rw [gO 24 (by omega) (by omega)])⟩⟩
    rw [hC.1 r (by omega)]
    rcases (show r = 14 ∨ r = 15 ∨ r = 16 by omega) with rfl | rfl | rfl
    · rw [g14, pk_un hy]
    · rw [g15, pk_un hy]
    · rw [gO 16 (by omega) (by omega)]
  -- the end
  have endX : ∀ (F' : Nat → Int32) (G' : Nat → Nat → Int32), FrC sd rel0 c1 G2 G' → (FS tk pl F' ∨ ((F 13 = 0 ∧ F 35 = nI c1) ∧ ∃ je w s2 c2 rel2, F' 13 = 0 ∧ F' 11 = nI je ∧ F' 12 = 0 ∧ F' 35 = nI c2 ∧ c1 ≤ c2 ∧ c2 ≤ 500 * sd + je ∧ aSt tk je = some (w, s2, 0, rc) ∧ ¬ w = 0 ∧ (tk je = 10020 → stp w s2 0 (tk je) = some (0, s2, 0)) ∧ (¬ tk je = 10020 → ¬ tk je = -1 → stp w s2 0 (tk je) = none) ∧ G' 17 sd = nI rel2 ∧ rel0 ≤ rel2 ∧ 3 * rel2 ≤ je ∧ j ≤ je ∧ Dsc tk G' sd z j rel0 rel2 c2 je)) → wpM_tellRule_330 Post (pM σ F' G') (nI x) := by
    intro F' G' hC hF'
    refine end330 hT hx ?_ (fun F3 G3 h3 => ?_)
    · rcases hF' with a | ⟨_, je, w, s2, c2, rel2, a1, a2, a3, a4, a5, a6, a7, a8, a9, a10, _⟩
      · exact Or.inl a
      · exact Or.inr ⟨je, w, s2, rc, a1, a2, a7, a8, a9, a10⟩
    · rcases h3 with ⟨hF3, rfl⟩ | ⟨je', w', s', rc', b1, b2, b3, b4, b5, b6, b7, rfl, rfl⟩
      · exact hP F3 G3 (hT2 G3 hC) (Or.inl hF3)
      · rcases hF' with a | ⟨⟨e13, e35⟩, je, w, s2, c2, rel2, a1, a2, a3, a4, a5, a6, a7, a8, a9, a10, a11, a12, a13, a14, a15⟩
        · exact absurd b1 (FS_no a).1
        · have ej : je' = je := by
            rw [a2] at b2
            exact ((nI_eq (by have := (aSt_bd a7).1; omega) (by have := (aSt_bd b3).1; omega)).mp b2).symm
          subst ej
          rw [a7] at b3
          simp only [Option.some.injEq, Prod.mk.injEq] at b3
          obtain ⟨x1, x2, _, x4⟩ := b3
          subst x1 x2 x4
          have hT3 := hT2 G' hC
          have k : ∀ r, ¬ r = 10 → ¬ r = 16 → (va_up (va_up G' 16 (upd (G' 16) x (G' 17 sd))) 10 (upd (G' 10) sd (G' 10 sd + 1))) r = G' r := by
            intro r r1 r2
            show (if r = 10 then _ else if r = 16 then _ else G' r) = G' r
            rw [if_neg r1, if_neg r2]
          refine hP _ _ ⟨fun y hy => ?_, fun r r1 r2 => (k r (by omega) (by omega)).trans (hT3.2.1 r r1 r2), fun r y r1 r2 hy => ?_, fun y hy => ?_, fun r y r1 r2 hy => ?_, fun y hy => ?_⟩ (Or.inr ⟨e13, je', s2, c2, rel2, a1, rfl, a3, a4, a5, a6, b7, b6, ?_, ?_, a12, a13, ?_, ?_, ?_, a14, Dsc_g (fun r r1 r2 => k r (by omega) (by omega)) a15⟩)
          · show upd (G' 10) sd _ y = _
            rw [pk_un hy]
            exact hT3.1 y hy
          · rcases (show r = 14 ∨ r = 15 ∨ r = 16 by omega) with rfl | rfl | rfl
            · exact hT3.2.2.1 14 y (by omega) (by omega) hy
            · exact hT3.2.2.1 15 y (by omega) (by omega) hy
            · show upd (G' 16) x _ y = _
              rw [pk_un hy]
              exact hT3.2.2.1 16 y (by omega) (by omega) hy
          · rw [k 17 (by omega) (by omega)]
            exact hT3.2.2.2.1 y hy
          · rw [k r (by omega) (by omega)]
            exact hT3.2.2.2.2.1 r y r1 r2 hy
          · rw [k 23 (by omega) (by omega), k 24 (by omega) (by omega)]
            exact hT3.2.2.2.2.2 y hy
          · show upd (G' 10) sd (G' 10 sd + 1) sd = _
            rw [pk_us, hC.1 10 (by omega), gO 10 (by omega) (by omega)]
          · rw [k 17 (by omega) (by omega)]
            exact a11
          · rw [k 14 (by omega) (by omega), hC.1 14 (by omega), g14, pk_us, e35]
          · rw [k 15 (by omega) (by omega), hC.1 15 (by omega), g15, pk_us]
          · show upd (G' 16) x (G' 17 sd) x = _
            rw [pk_us, a11]
  -- behind a COND
  have cond : ∀ (h35 : F 13 = 0 ∧ F 35 = nI c1) (hj3 : 3 * rel0 ≤ j), (∀ F' G', CoR tk pl sd rc rel0 c1 (j + 1) G2 G' F' → (∀ je n c2, ChH tk G' c2 (n + 1) (200 * sd + rel0) (j + 1) je → G' 22 (200 * sd + rel0) = 1 → Dsc tk G' sd z j rel0 (rel0 + (n + 1)) c2 je) → wpM_tellRule_330 Post (pM σ F' G') (nI x)) := by
    intro h35 hj3 F' G' hC hD
    obtain ⟨hC1, hC2⟩ := hC
    refine endX F' G' hC1 ?_
    rcases hC2 with a | ⟨je, c2, n, a1, a2, a3, a4, a5, a6, a7, a8, a9, a10, a11, a12, a13, a14⟩
    · exact Or.inl a
    · have hle := ChH_le _ _ _ a11
      have st5 : stp 5 1 0 (tk je) = if tk je = 10029 then none else if tk je = 10021 ∨ tk je = 10022 ∨ tk je = 10023 then some (4, 1, 0) else if tk je = 10020 then some (0, 1, 0) else if tk je = 10007 ∨ tk je = 10006 then some (4, 0, 0) else none := rfl
      refine Or.inr ⟨h35, je, 5, 1, c2, rel0 + (n + 1), a1, a2, a3, a4, a5, a6, a7, by omega, fun et => ?_, fun et _ => ?_, a8, by omega, a9, by omega, hD je n c2 a11 a10⟩
      · rw [st5, if_neg (by rw [et]; decide), if_neg a12, if_pos et]
      · rw [st5, if_neg a12, if_neg et, if_neg (show ¬ (tk je = 10007 ∨ tk je = 10006) from fun q => q.elim a14 a13), ite_self]
  -- without one
  have h259 : ∀ F' : Nat → Int32, (FS tk pl F' ∨ (F' = F ∧ F 13 = 0 ∧ F 11 = nI j ∧ F 12 = 0 ∧ F 35 = nI c1 ∧ c1 ≤ 500 * sd + j ∧ 3 * rel0 ≤ j ∧ ∃ w s, aSt tk j = some (w, s, 0, rc) ∧ ¬ w = 0 ∧ (tk j = 10020 → stp w s 0 (tk j) = some (0, s, 0)) ∧ (¬ tk j = 10020 → ¬ tk j = -1 → stp w s 0 (tk j) = none) ∧ (z = 3 ∨ z = 4 ∧ ¬ tk j = 10005))) → wpM_tellRule_259 Post (pM σ F' G2) (nI x) := by
    intro F' hF'
    refine ⟨fun _ => ⟨1, fun _ => endX F' G2 (FrC_0 _ _ _ _) ?_, fun q => absurd rfl q⟩, fun q => absurd rfl q⟩
    rcases hF' with a | ⟨rfl, a1, a2, a3, a4, a5, a6, w, s, a7, a8, a9, a10, a11⟩
    · exact Or.inl a
    · refine Or.inr ⟨⟨a1, a4⟩, j, w, s, c1, rel0, a1, a2, a3, a4, Nat.le_refl _, a5, a7, a8, a9, a10, g17, Nat.le_refl _, a6, Nat.le_refl _, ?_⟩
      rcases a11 with q | ⟨q, q2⟩
      · exact Or.inr (Or.inl ⟨q, rfl, rfl⟩)
      · exact Or.inr (Or.inr ⟨q, Or.inr ⟨q2, rfl, rfl⟩⟩)
  rcases hF with hF | ⟨h13, h11, h12, h35, hc, hj3, s, hz3⟩
  · -- a fault
    have f330 := endX F G2 (FrC_0 _ _ _ _) (Or.inl hF)
    have f259 := h259 F (Or.inl hF)
    refine ⟨vx, fun _ => ⟨fun q => absurd q no1, fun _ => must_no hF ⟨1, fun q => absurd q no1, fun _ => ⟨fun q => absurd q (FS_no hF).1, fun _ => f330⟩⟩⟩, fun _ => ⟨vx, fun _ => is_no (FS_no hF).1 ⟨fun _ => f259, fun q => absurd rfl q⟩, fun _ => f259⟩⟩
  · rcases hz3 with ⟨hz1, hA⟩ | ⟨hz1, hA⟩ | ⟨hz1, rfl, hA, hnop⟩
    · refine ⟨vx, fun _ => ?_, fun q => absurd hz1 q⟩
      refine condM hT (w := 1) (s := s) (by omega) (fun et => ?_) (fun et _ => ?_) h13 h11 h12 h35 hc hA g17 hj3 (fun F' G' hC => cond ⟨h13, h35⟩ hj3 F' G' hC (fun je n c2 d1 d2 => Or.inl ⟨hz1, n, rfl, d2, d1⟩))
      · show (if tk j = 10005 then some (4, 0, 0) else none) = _
        rw [if_pos et]
      · show (if tk j = 10005 then some (4, 0, 0) else none) = _
        rw [if_neg et]
    · refine ⟨vx, fun q => absurd q (by omega), fun _ => ⟨vx, fun q => absurd q (by omega), fun _ => h259 F (Or.inr ⟨rfl, h13, h11, h12, h35, hc, hj3, 3, s, hA, by omega, fun et => ?_, fun et _ => ?_, Or.inl hz1⟩)⟩⟩
      · show (if tk j = 10020 then some (0, s, 0) else none) = _
        rw [if_pos et]
      · show (if tk j = 10020 then some (0, s, 0) else none) = _
        rw [if_neg et]
    · have hj := (aSt_bd hA).1
      obtain ⟨hR, _⟩ := hT.2.2 j _ hA
      have kd25 : σ.2.1 3 j = 25 ↔ tk j = 10005 := RelT_wd hR (z := 5) (by omega)
      have st5 : stp 5 2 0 (tk j) = if tk j = 10029 then none else if tk j = 10021 ∨ tk j = 10022 ∨ tk j = 10023 then some (4, 2, 0) else if tk j = 10020 then some (0, 2, 0) else if tk j = 10005 then some (4, 0, 0) else none := rfl
      refine ⟨vx, fun q => absurd q (by omega), fun _ => ⟨vx, fun _ => is_ok h13 h11 hj (fun q => ⟨fun w => absurd w no1, fun _ => ?_⟩) (fun q => ⟨fun _ => ?_, fun w => absurd rfl w⟩), fun q => absurd hz1 q⟩⟩
      · have et := kd25.mp q
        have s1 : stp 5 2 0 (tk j) = some (4, 0, 0) := by
          rw [st5, if_neg (by rw [et]; decide), if_neg hnop, if_neg (by rw [et]; decide), if_pos et]
        exact condM hT (w := 5) (s := 2) (by omega) (fun _ => s1) (fun et' => absurd et et') h13 h11 h12 h35 hc hA g17 hj3 (fun F' G' hC => cond ⟨h13, h35⟩ hj3 F' G' hC (fun je n c2 d1 d2 => Or.inr (Or.inr ⟨hz1, Or.inl ⟨et, n, rfl, d2, d1⟩⟩)))
      · have et : ¬ tk j = 10005 := fun w => q (kd25.mpr w)
        refine h259 F (Or.inr ⟨rfl, h13, h11, h12, h35, hc, hj3, 5, 2, hA, by omega, fun e20 => ?_, fun e20 _ => ?_, Or.inr ⟨hz1, et⟩⟩)
        · rw [st5, if_neg (by rw [e20]; decide), if_neg hnop, if_pos e20]
        · rw [st5, if_neg hnop, if_neg e20, if_neg et, ite_self]
