/-! the reference's cut -/
theorem signM {σ : MS} {G : Nat → Nat → Int32} {L : Nat → Int64} {i t : Nat} {x y : Int32} {eq : Bool} {Post : Int32 → MS → Prop} (ht : t < 403) (hy : y = 61 ↔ eq = true)
    (hP : ∀ kd G' L', RelT kd 0 (sgT x eq) → (∀ q, G' 3 q = if q = t then kd else G 3 q) → (∀ q, G' 4 q = if q = t then nI i else G 4 q) → (∀ q, G' 5 q = if q = t then 0 else G 5 q) → Post (nI (sgL x eq)) (kM σ (nI (t + 1)) G' L')) : wpM_sign (kM σ (nI t) G L) (nI i) x y Post := by
  have h148 : ∀ two k, RelT k 0 (sgT x eq) → (if two ≤ 0 then sgL x eq = 1 else sgL x eq = 2) → wpM_sign_148 Post (kM σ (nI t) G L) (nI i) two k := by
    intro two k hR hL
    refine tokenM ht (fun G' L' h3 h4 h5 => ⟨fun c => ?_, fun c => ?_⟩)
    · rw [if_pos c] at hL
      have := hP k G' L' hR h3 h4 h5
      rw [hL] at this
      exact this
    · rw [if_neg c] at hL
      have := hP k G' L' hR h3 h4 h5
      rw [hL] at this
      exact this
  have l1 : ¬ (eq = true ∧ (x = 33 ∨ x = 60 ∨ x = 61)) → (if (0 : Int32) ≤ 0 then sgL x eq = 1 else sgL x eq = 2) := by
    intro z
    rw [if_pos (by decide), sgL, if_neg z]
  have l2 : ∀ two : Int32, ¬ two ≤ 0 → (eq = true ∧ (x = 33 ∨ x = 60 ∨ x = 61)) → (if two ≤ 0 then sgL x eq = 1 else sgL x eq = 2) := by
    intro two h z
    rw [if_neg h, sgL, if_pos z]
  have h44 : ¬ (eq = true ∧ (x = 33 ∨ x = 60 ∨ x = 61)) → wpM_sign_44 Post (kM σ (nI t) G L) (nI i) x 0 := by
    intro hn
    have hl := l1 hn
    refine ⟨fun _ => ⟨fun c => h148 0 4 ?_ hl, fun c => ⟨fun c1 => h148 0 6 ?_ hl, fun c1 => ⟨fun c2 => h148 0 7 ?_ hl, fun c2 => ⟨fun c3 => h148 0 8 ?_ hl, fun c3 => ⟨fun c4 => h148 0 9 ?_ hl, fun c4 => ⟨fun c5 => h148 0 10 ?_ hl, fun c5 => ⟨fun c6 => h148 0 13 ?_ hl, fun c6 => h148 0 3 ?_ hl⟩⟩⟩⟩⟩⟩⟩, fun z => absurd (by decide) z⟩
    · subst c; exact Or.inr (Or.inr (Or.inr (Or.inl ⟨rfl, rfl⟩)))
    · subst c1; exact Or.inr (Or.inr (Or.inr (Or.inr (Or.inr (Or.inr (Or.inr (Or.inr (Or.inr (Or.inr (Or.inr (Or.inl ⟨rfl, rfl⟩)))))))))))
    · subst c2; exact Or.inr (Or.inr (Or.inr (Or.inr (Or.inr (Or.inr (Or.inr (Or.inr (Or.inr (Or.inr (Or.inr (Or.inr (Or.inl ⟨rfl, rfl⟩))))))))))))
    · subst c3; exact Or.inr (Or.inr (Or.inr (Or.inr (Or.inl ⟨rfl, rfl⟩))))
    · subst c4; exact Or.inr (Or.inr (Or.inr (Or.inr (Or.inr (Or.inl ⟨rfl, rfl⟩)))))
    · subst c5; exact Or.inr (Or.inr (Or.inr (Or.inr (Or.inr (Or.inr (Or.inl ⟨rfl, rfl⟩))))))
    · subst c6
      have he : eq = false := by
        cases eq with
        | false => rfl
        | true => exact absurd ⟨rfl, Or.inr (Or.inl rfl)⟩ hn
      rw [he]
      exact Or.inr (Or.inr (Or.inr (Or.inr (Or.inr (Or.inr (Or.inr (Or.inr (Or.inr (Or.inl ⟨rfl, rfl⟩)))))))))
    · have es : sgT x eq = -2 := by
        rw [sgT, if_neg c1, if_neg c2, if_neg c5, if_neg c3, if_neg c4, if_neg c]
        by_cases q1 : x = 33
        · rw [if_pos q1, if_neg (fun z => hn ⟨z, Or.inl q1⟩)]
        · rw [if_neg q1, if_neg c6]
          by_cases q2 : x = 61
          · rw [if_pos q2, if_neg (fun z => hn ⟨z, Or.inr (Or.inr q2)⟩)]
          · rw [if_neg q2]
      rw [es]
      exact Or.inr (Or.inr (Or.inr (Or.inr (Or.inr (Or.inr (Or.inr (Or.inr (Or.inr (Or.inr (Or.inr (Or.inr (Or.inr ⟨rfl, Or.inr rfl⟩))))))))))))
  refine ⟨fun c => ⟨fun c1 => ⟨fun z => absurd z (by decide), fun _ => h148 11 11 ?_ (l2 _ (by decide) ⟨hy.mp c, Or.inr (Or.inr c1)⟩)⟩, fun c1 => ⟨fun c2 => ⟨fun z => absurd z (by decide), fun _ => h148 12 12 ?_ (l2 _ (by decide) ⟨hy.mp c, Or.inl c2⟩)⟩, fun c2 => ⟨fun c3 => ⟨fun z => absurd z (by decide), fun _ => h148 14 14 ?_ (l2 _ (by decide) ⟨hy.mp c, Or.inr (Or.inl c3)⟩)⟩, fun c3 => h44 ?_⟩⟩⟩, fun c => h44 (fun z => c (hy.mpr z.1))⟩
  · rw [hy.mp c]; subst c1; exact Or.inr (Or.inr (Or.inr (Or.inr (Or.inr (Or.inr (Or.inr (Or.inl ⟨rfl, rfl⟩)))))))
  · rw [hy.mp c]; subst c2; exact Or.inr (Or.inr (Or.inr (Or.inr (Or.inr (Or.inr (Or.inr (Or.inr (Or.inl ⟨rfl, rfl⟩))))))))
  · rw [hy.mp c]; subst c3; exact Or.inr (Or.inr (Or.inr (Or.inr (Or.inr (Or.inr (Or.inr (Or.inr (Or.inr (Or.inr (Or.inl ⟨rfl, rfl⟩))))))))))
  · rintro ⟨_, q | q | q⟩
    · exact c2 q
    · exact c3 q
    · exact c1 q
theorem sg_and {x : Int32} (h : isB x) (eq : Bool) : sgT (x &&& 255) eq = sgT x eq ∧ sgL (x &&& 255) eq = sgL x eq := by
  rcases by_cases255 h with ⟨h1, h2⟩ | ⟨h1, h2⟩
  · rw [h2]; exact ⟨rfl, rfl⟩
  · have ne : ∀ c : Int32, ¬ c < 0 → ¬ 127 < c → ¬ (x &&& 255) = c ∧ ¬ x = c := by
      intro c hc hc2
      refine ⟨fun z => ?_, fun z => ?_⟩
      · rw [z] at h2; exact hc2 h2
      · rw [z] at h1; exact hc h1
    have a1 := ne 40 (by decide) (by decide)
    have a2 := ne 41 (by decide) (by decide)
    have a3 := ne 42 (by decide) (by decide)
    have a4 := ne 43 (by decide) (by decide)
    have a5 := ne 45 (by decide) (by decide)
    have a6 := ne 59 (by decide) (by decide)
    have a7 := ne 33 (by decide) (by decide)
    have a8 := ne 60 (by decide) (by decide)
    have a9 := ne 61 (by decide) (by decide)
    refine ⟨?_, ?_⟩
    · rw [sgT, sgT, if_neg a1.1, if_neg a2.1, if_neg a3.1, if_neg a4.1, if_neg a5.1, if_neg a6.1, if_neg a7.1, if_neg a8.1, if_neg a9.1, if_neg a1.2, if_neg a2.2, if_neg a3.2, if_neg a4.2, if_neg a5.2, if_neg a6.2, if_neg a7.2, if_neg a8.2, if_neg a9.2]
    · rw [sgL, sgL, if_neg (fun z => z.2.elim a7.1 (fun w => w.elim a8.1 a9.1)), if_neg (fun z => z.2.elim a7.2 (fun w => w.elim a8.2 a9.2))]
theorem cutLoopM {σ : MS} {b : Nat → Int32} {n : Nat} {Post : MS → Prop} (h4 : σ.1 4 = nI n) (hn : n ≤ 2000) (hb : ∀ j, j < n → σ.2.1 2 j = b j) (hB : ∀ j, j < n → isB (b j)) (hK : IKey σ)
    (hP : ∀ c G L, CT b n c G → (c = 401 ∨ ∃ c', c = c' + 1 ∧ tkF b n c' = -1) → Post (kM σ (nI c) G L)) :
    ∀ d i t G L, i ≤ n → n - i < d → t ≤ 401 → lxS b n i = plF b n t → CT b n t G → wpM_cut_7 Post d (kM σ (nI t) G L) (nI i) := by
  intro d
  induction d with
  | zero => intro i t G L hi hd; omega
  | succ d ih =>
    intro i t G L hi hd ht hs hC
    refine ⟨fun c => ?_, fun c => ?_⟩
    · have c : 400 < t := (nI_ltI (a := 400) (by omega) (by omega)).mp c
      exact hP t G L hC (Or.inl (by omega))
    · have c : t ≤ 400 := Nat.not_lt.mp (fun z => c (nI_lt (a := 400) z (by omega)))
      refine atM h4 hn hb (by omega) ⟨fun c1 => ?_, fun c1 => ?_⟩
      · have c1 : nI i < σ.1 4 := c1
        rw [h4, nI_ltI (by omega) (by omega)] at c1
        have ea : atV b n i = b i &&& 255 := by rw [atV, if_neg (by omega)]
        rw [ea]
        have hBi := hB i c1
        have blank : blB (b i) = true → ∀ y, y = nI i + 1 → wpM_cut_7 Post d (kM σ (nI t) G L) y := by
          rintro q _ rfl
          rw [nI_1]
          refine ih (i + 1) t G L (by omega) (by omega) ht ?_ hC
          rw [← hs]
          exact (nxF_s (p := fun j => blB (b j)) c1 q).symm
        have e9 := eq255 hBi (c := 9) (by decide) (by decide)
        have e10 := eq255 hBi (c := 10) (by decide) (by decide)
        have e13 := eq255 hBi (c := 13) (by decide) (by decide)
        have e32 := eq255 hBi (c := 32) (by decide) (by decide)
        refine ⟨fun q => blank (decide_eq_true (Or.inl (e9.mp q))), fun q9 => ⟨fun q => blank (decide_eq_true (Or.inr (Or.inl (e10.mp q)))), fun q10 => ⟨fun q => blank (decide_eq_true (Or.inr (Or.inr (Or.inl (e13.mp q))))), fun q13 => ⟨fun q => blank (decide_eq_true (Or.inr (Or.inr (Or.inr (e32.mp q))))), fun q32 => ?_⟩⟩⟩⟩
        have nb : blB (b i) = false := by
          rw [blB, decide_eq_false]
          rintro (z | z | z | z)
          · exact q9 (e9.mpr z)
          · exact q10 (e10.mpr z)
          · exact q13 (e13.mpr z)
          · exact q32 (e32.mpr z)
        have hsi : lxS b n i = i := nxF_x (p := fun j => blB (b j)) nb
        have hpl : plF b n t = i := hs.symm.trans hsi
        have hps : lxS b n (posF b n t) = i := hpl
        have htk : tkF b n t = tkAt b n i := by
          show tkAt b n (lxS b n (posF b n t)) = _
          rw [hps]
        have hpos : posF b n (t + 1) = enAt b n i := by
          show enAt b n (lxS b n (posF b n t)) = _
          rw [hps]
        have hen := lxE_le (b := b) (n := n) (i := i) hi
        have heq : lxE b n i = enAt b n i := by
          show enAt b n (lxS b n i) = _
          rw [hsi]
        rw [heq, hsi] at hen
        -- behind the token
        have nxt : ∀ kd v G' L', RelT kd v (tkAt b n i) → (∀ q, G' 3 q = if q = t then kd else G 3 q) → (∀ q, G' 4 q = if q = t then nI i else G 4 q) → (∀ q, G' 5 q = if q = t then v else G 5 q) → wpM_cut_7 Post d (kM σ (nI (t + 1)) G' L') (nI (enAt b n i)) := by
          intro kd v G' L' hR h3 h4' h5
          refine ih (enAt b n i) (t + 1) G' L' hen.1 (by have := hen.2.2 c1; omega) (by omega) ?_ (CT_s hC h3 (by rw [hpl]; exact h4') h5 (by rw [htk]; exact hR))
          show _ = lxS b n (posF b n (t + 1))
          rw [hpos]
        have hns : ¬ n ≤ i := by omega
        refine isLetterM (fun q => ⟨fun z => absurd z no1, fun _ => ?_⟩) (fun q => ⟨fun _ => isDigitM (fun q2 => ⟨fun z => absurd z no1, fun _ => ?_⟩) (fun q2 => ⟨fun _ => ?_, fun z => absurd rfl z⟩), fun z => absurd rfl z⟩)
        · have ql := (lt255 hBi).mp q
          have e1 : tkAt b n i = wdV b i (nxF (fun j => ltB (b j)) n i - i) := by rw [tkAt, if_neg hns, if_pos ql]
          have e2 : enAt b n i = nxF (fun j => ltB (b j)) n i := by rw [enAt, if_neg hns, if_pos ql]
          rw [e1, e2] at nxt
          exact wordM h4 hn hb hB hK c1 ql (by omega) (fun kd G' L' hR h3 h4 h5 => nxt kd 0 G' L' hR h3 h4 h5)
        · have ql : ¬ ltB (b i) = true := fun z => q ((lt255 hBi).mpr z)
          have qd := (dg255 hBi).mp q2
          have e1 : tkAt b n i = if nxF (fun j => dgB (b j)) n i - i ≤ 4 then nvI b i (nxF (fun j => dgB (b j)) n i - i) else -2 := by rw [tkAt, if_neg hns, if_neg ql, if_pos qd]
          have e2 : enAt b n i = nxF (fun j => dgB (b j)) n i := by rw [enAt, if_neg hns, if_neg ql, if_pos qd]
          rw [e1, e2] at nxt
          exact numberM h4 hn hb hB c1 qd (by omega) nxt
        · have ql : ¬ ltB (b i) = true := fun z => q ((lt255 hBi).mpr z)
          have qd : ¬ dgB (b i) = true := fun z => q2 ((dg255 hBi).mpr z)
          have e1 : tkAt b n i = sgT (b i) (eqA b n i) := by rw [tkAt, if_neg hns, if_neg ql, if_neg qd]
          have e2 : enAt b n i = i + sgL (b i) (eqA b n i) := by rw [enAt, if_neg hns, if_neg ql, if_neg qd]
          rw [e1, e2] at nxt
          rw [nI_1]
          refine atM h4 hn hb (by omega) (signM (eq := eqA b n i) (by omega) ?_ (fun kd G' L' hR h3 h4 h5 => ?_))
          · rw [eqA, decide_eq_true_eq, atV]
            by_cases z : n ≤ i + 1
            · rw [if_pos z]; exact ⟨fun w => absurd w (by decide), fun w => absurd w.1 (by omega)⟩
            · rw [if_neg z, eq255 (hB (i + 1) (by omega)) (by decide) (by decide)]
              exact ⟨fun w => ⟨by omega, w⟩, fun w => w.2⟩
          · rw [(sg_and hBi _).1] at hR
            rw [(sg_and hBi _).2]
            rintro _ rfl
            rw [nI_add]
            exact nxt kd 0 G' L' hR h3 h4 h5
      · have c1 : ¬ nI i < σ.1 4 := c1
        rw [h4, nI_ltI (by omega) (by omega)] at c1
        have hin : i = n := by omega
        have hsi : lxS b n i = i := nxF_n (p := fun j => blB (b j)) (by omega)
        have hpl : plF b n t = n := by rw [← hs, hsi, hin]
        have htk : tkF b n t = -1 := by
          show tkAt b n (plF b n t) = -1
          rw [hpl, tkAt, if_pos (Nat.le_refl _)]
        refine tokenM (by omega) (fun G' L' h3 h4' h5 => hP (t + 1) G' L' (CT_s hC h3 ?_ h5 ?_) (Or.inr ⟨t, rfl, htk⟩))
        · intro q
          rw [h4' q, hpl]
          have e44 : (kM σ (nI t) G L).1 4 = nI n := h4
          rw [e44]
        · rw [htk]
          exact Or.inl ⟨rfl, rfl⟩
