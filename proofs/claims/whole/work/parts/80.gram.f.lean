/-! an E, the reference's side: from its first TOKEN on -/
theorem exprLoop {σ : MS} {tk : Nat → Int32} {pl : Nat → Nat} {sd s rc p c0 : Nat} {G0 : Nat → Nat → Int32} {Post : MS → Prop} (hT : TC σ tk pl sd) (hc0 : c0 ≤ 500 * sd + p)
    (hP : ∀ F' G', ExP tk pl s rc p c0 G0 F' G' → Post (pM σ F' G')) :
    ∀ (n j d c : Nat) (L : List (Nat × Bool)) (F : Nat → Int32) (G : Nat → Nat → Int32), 401 - j < n → PrE tk s rc p c0 G0 j d c L F G → wpM_expression_12 Post n (pM σ F G) 0 1 := by
  intro n
  induction n with
  | zero => intro j d c L F G hn; omega
  | succ n ih =>
    intro j d c L F G hn h
    obtain ⟨h13, h11, h12, hA, hL, hva, hW, h39, h35, hpn, hCo, hFr, hS, hk⟩ := h
    obtain ⟨hj, hd6, hrc⟩ := aSt_bd hA
    have hsd := hT.2.1
    obtain ⟨hR, hpl⟩ := hT.2.2 j _ hA
    have hcp := hCo.1
    have hpnd := pnd_le L
    have wl := wt_len L
    have hcc : c0 ≤ c := hS.1
    have kd6 : σ.2.1 3 j = 6 ↔ tk j = 10028 := RelT_sg hR (kk := 6) (tt := 10028) (by unfold sgP; omega)
    obtain ⟨kdi, kdi2⟩ := RelT_in hR
    obtain ⟨kdv, kdv2⟩ := RelT_va hR
    have hv403 : vp_in (nI j) 403 := vp_in_nI (by omega) (by omega)
    have st4 : stp 4 s d (tk j) = if tk j = 10028 then some (4, s, d + 1) else if isIb (tk j) = true ∨ isVb (tk j) = true then some (5, s, d) else none := rfl
    -- with a fault the loop ends
    have hKf : ∀ F' G', FS tk pl F' → Fr c0 G0 G' → wpM_expression_12 Post n (pM σ F' G') 0 1 := by
      intro F' G' hF hG
      obtain ⟨m, rfl⟩ : ∃ m, n = m + 1 := ⟨n - 1, by omega⟩
      exact ⟨fun q => absurd q no1, fun _ => ⟨fun q => absurd q (FS_no hF).1, fun _ => hP F' G' ⟨hG, Or.inl hF⟩⟩⟩
    -- a UNIT was emitted
    have h196 : ∀ (k v : Int32) (u : (Nat → Int32) → Int32), (isIb (tk j) = true ∨ isVb (tk j) = true) → ¬ tk j = 10028 → (k = 0 ∨ (k = 1 ∧ ∃ x, x < 12 ∧ v = nI x)) → (∀ w st, stepM k v w st = u w :: st) → (∀ w, evT w (tk j) d (evE tk w p (j - p)) = ((evE tk w p (j - p)).1, upd (evE tk w p (j - p)).2 d ((evE tk w p (j - p)).2 d * u w))) → depT (tk j) d = d → consT (tk j) d → ¬ tk j = -1 →
        wpM_emit (pM σ F G) k v (fun σ4 => wpM_expression_196 (fun a0 a1 a2 => wpM_expression_12 Post n a0 a1 a2) Post σ4 0) := by
      intro k v u hu hno hkv hst hev hdT hco hne
      refine emitM h35 (by omega) ?_
      have hst' : stp 4 s d (tk j) = some (5, s, d) := by rw [st4, if_neg hno, if_pos hu]
      have hfr' : Fr c0 G0 (va_up (va_up G 23 (upd (G 23) c k)) 24 (upd (G 24) c v)) := by
        refine ⟨fun i hi => ?_, fun i x hi hx => ?_⟩
        · show (if i = 24 then _ else if i = 23 then _ else G i) = G0 i
          rw [if_neg (by omega), if_neg (by omega)]
          exact hFr.1 i hi
        · rw [← hFr.2 i x hi hx]
          rcases hi with rfl | rfl
          · show upd (G 23) c _ x = _
            exact pk_un (by omega)
          · show upd (G 24) c _ x = _
            exact pk_un (by omega)
      have hsk : SK (upd (G 23) c k) (upd (G 24) c v) c0 (c + 1) (fun w => u w :: itL (evE tk w p (j - p)).1 (evE tk w p (j - p)).2 L) := SK_s hS (hkv.elim Or.inl (fun z => Or.inr (Or.inl z))) (fun w => hst w _)
      refine next_ok (j := j) h13 h11 hj (fun e4 => ⟨1, ?_⟩) (fun lt4 => ⟨L.length + 1, ?_⟩)
      · exact exprFail (s := s) (rc := rc) (p := p) (g := 0) (FS_fail (F := F) hT hA (Or.inr rfl) ⟨4, s, d, rc, hA, Or.inr (Or.inr ⟨hne, rfl, 5, s, d, hst', Or.inl (by omega)⟩)⟩ _ rfl rfl) hfr' (wt_va L hva) hW h39 (by omega) rfl (by omega) (by omega) hP
      · have hCo' := Co_s hCo hco
        rw [hdT] at hCo'
        refine exprClose hT hc0 hKf hP L (j + 1) d (c + 1) _ _ ⟨h13, rfl, h12, aSt_s hA hne hst' (by unfold rcN; simp; omega), hL, hva, hW, h39, rfl, by omega, hCo', hfr', u, (fun w => (evE tk w p (j - p)).2), ?_, fun w => ?_⟩ (fun j' d' c' L' F' G' hj' hpre => ih j' d' c' L' F' G' (by have := (aSt_bd hpre.2.2.2.1).1; omega) hpre)
        · refine SK_eq hsk (fun w => ?_)
          rw [ev_s hCo, hev w]
        · rw [ev_s hCo, hev w]
          exact ⟨hk w, pk_us, fun k hk' => pk_un (by omega)⟩
    have g11 : (pM σ F G).1 11 = nI j := h11
    have h150 : ∀ x3 : Int32, ¬ tk j = 10028 → ¬ tk j = -1 → (isIb (tk j) = true ∧ x3 = 0 ∨ isVb (tk j) = true ∧ x3 = 1) → wpM_expression_150 (fun a0 a1 a2 => wpM_expression_12 Post n a0 a1 a2) Post (pM σ F G) 0 x3 := by
      intro x3 hno hne hx3
      refine ⟨fun _ => ⟨fun q => ⟨by rw [g11]; exact hv403, ?_⟩, fun q => ⟨by rw [g11]; exact hv403, ?_⟩⟩, fun q => absurd ?_ q⟩
      · rcases hx3 with ⟨hi, _⟩ | ⟨_, e1⟩
        · obtain ⟨v, hv, ev, eva⟩ := kdi2 hi
          rw [g11, nI_clamp (by omega)]
          have e5 : (pM σ F G).2.1 5 j = nI v := eva
          rw [e5]
          refine h196 0 (nI v) (fun _ => nI v) (Or.inl hi) hno (Or.inl rfl) (fun w st => stepM_0 rfl) (fun w => ?_) ?_ (Or.inl ⟨v, hv, ev⟩) hne
          · rw [ev]; exact (evT_int hv).1
          · rw [ev]; exact (evT_int (w := fun _ => 0) (a := (fun _ => 0, fun _ => 0)) hv).2
        · rw [e1] at q; exact absurd q no1
      · rcases hx3 with ⟨_, e0⟩ | ⟨hi, _⟩
        · exact absurd e0 q
        · obtain ⟨x, hx, ex, ekd⟩ := kdv2 hi
          rw [g11, nI_clamp (by omega)]
          have e3 : (pM σ F G).2.1 3 j - 28 = nI x := by
            show σ.2.1 3 j - 28 = _
            rw [ekd, show (28 : Int32) = nI 28 from rfl, pk_sub (by omega)]
            congr 1
            omega
          rw [e3]
          refine h196 1 (nI x) (fun w => w x) (Or.inr hi) hno (Or.inr ⟨rfl, x, hx, rfl⟩) (fun w st => ?_) (fun w => ?_) ?_ (Or.inr (Or.inl ⟨x, hx, ex⟩)) hne
          · rw [stepM_1 rfl, nI_clamp (by omega)]
          · rw [ex]; exact (evT_var hx).1
          · rw [ex]; exact (evT_var (w := fun _ => 0) (a := (fun _ => 0, fun _ => 0)) hx).2
      · show F 13 ≤ 0
        rw [h13]
        decide
    -- no UNIT at all
    have hbad : ¬ tk j = 10028 → ¬ isIb (tk j) = true → ¬ isVb (tk j) = true → wpM_fail (pM σ F G) 1 (fun σ5 => wpM_expression_150 (fun a0 a1 a2 => wpM_expression_12 Post n a0 a1 a2) Post σ5 0 0) := by
      intro n1 n2 n3
      refine fail_ok h13 h11 hj ?_
      have hV : Vd tk 1 j := by
        refine ⟨4, s, d, rc, hA, ?_⟩
        by_cases q : tk j = -1
        · exact Or.inl ⟨q, rfl⟩
        · refine Or.inr (Or.inl ⟨q, ?_, rfl⟩)
          rw [st4, if_neg n1, if_neg (fun z => z.elim n2 n3)]
      have hF1 : FS tk pl (va_up (va_up F 13 1) 14 (σ.2.1 4 j)) := FS_fail (F := F) hT hA (Or.inl rfl) hV _ rfl rfl
      exact ⟨fun q => absurd q (FS_no hF1).2, fun _ => hP _ _ ⟨hFr, Or.inl hF1⟩⟩
    have nm1 : ∀ t : Int32, (isIb t = true ∨ isVb t = true) → ¬ t = -1 := by
      rintro t h rfl
      revert h
      decide
    refine ⟨fun q => absurd q no1, fun _ => ⟨fun _ => is_ok h13 h11 hj (fun q6 => ⟨fun z => absurd z no1, fun _ => ?_⟩) (fun q6 => ⟨fun _ => ⟨fun _ => ⟨by rw [g11]; exact hv403, fun q28 => ?_, fun q28 => ⟨by rw [g11]; exact hv403, fun q39 => ?_, fun q39 => ?_⟩⟩, fun q => absurd h13 q⟩, fun z => absurd rfl z⟩), fun q => absurd h13 q⟩⟩
    · -- an opening
      have et : tk j = 10028 := kd6.mp q6
      have hne : ¬ tk j = -1 := by rw [et]; decide
      have hst : stp 4 s d (tk j) = some (4, s, d + 1) := by rw [st4, if_pos et]
      have g12 : (pM σ F G).1 12 = nI d := h12
      rw [g12]
      refine ⟨fun c6 => fail_ok h13 h11 hj ?_, fun c6 => ⟨fun _ => ?_, fun q => absurd ?_ q⟩⟩
      · have ed : d = 6 := (nI_eq (a := d) (b := 6) (by omega) (by omega)).mp c6
        have hF1 : FS tk pl (va_up (va_up F 13 2) 14 (σ.2.1 4 j)) := FS_fail (F := F) hT hA (Or.inr rfl) ⟨4, s, d, rc, hA, Or.inr (Or.inr ⟨hne, rfl, 4, s, d + 1, hst, Or.inr (Or.inr (by omega))⟩)⟩ _ rfl rfl
        exact ⟨fun q => absurd q (FS_no hF1).2, fun _ => hP _ _ ⟨hFr, Or.inl hF1⟩⟩
      · have ed : d < 6 := Nat.lt_of_le_of_ne hd6 (fun z => c6 (by rw [z]; rfl))
        rintro _ rfl
        rw [g12, nI_1, pM_F _ _ _ _ _ (by omega)]
        have push : ∀ F' : Nat → Int32, F' 39 = F 39 → ((FS tk pl (va_up F' 39 (nI ((wtL L).length + 1)))) ∨ (j < 400 ∧ F' 13 = 0 ∧ F' 11 = nI (j + 1) ∧ F' 12 = nI (d + 1) ∧ F' 35 = F 35)) → vp_in ((pM σ F' G).1 39) 48 ∧ ∀ σ4 : MS, σ4 = mA (pM σ F' G) 25 (upd ((pM σ F' G).2.1 25) ((pM σ F' G).1 39).toNatClampNeg 6) → ∀ σ6 : MS, σ6 = mF σ4 39 ((σ4.1 39) + 1) → wpM_expression_12 Post n σ6 0 1 := by
          intro F' e39 hcase
          have k39 : ∀ G2, (pM σ F' G2).1 39 = nI (wtL L).length := fun _ => e39.trans h39
          rw [k39, nI_clamp (by omega)]
          refine ⟨vp_in_nI (by omega) (by omega), ?_⟩
          rintro _ rfl _ rfl
          rw [pM_A _ _ _ _ _ (by omega) (by omega), pM_F _ _ _ _ _ (by omega), k39, nI_1]
          rcases hcase with hF | ⟨lt4, f13, f11, f12, f35⟩
          · exact hKf _ _ hF (Fr_25 hFr)
          · have hCo' := Co_s hCo (show consT (tk j) d from Or.inr (Or.inr (Or.inr (Or.inr (Or.inr (Or.inl ⟨et, ed⟩))))))
            have hdT : depT (tk j) d = d + 1 := by rw [et]; rfl
            rw [hdT] at hCo'
            have hev : ∀ w, evE tk w p (j + 1 - p) = (upd (evE tk w p (j - p)).1 (d + 1) 0, upd (evE tk w p (j - p)).2 (d + 1) 1) := fun w => by rw [ev_s hCo, et]; rfl
            have ewt : wtL ((0, false) :: L) = 6 :: wtL L := by
              cases L with
              | nil => rw [List.length_nil] at hL; omega
              | cons y r => rfl
            refine ih (j + 1) (d + 1) c ((0, false) :: L) _ _ (by omega) ⟨f13, f11, f12, aSt_s hA hne hst (by unfold rcN; simp; omega), by rw [List.length_cons, hL], ⟨Or.inl rfl, hva⟩, ?_, ?_, f35.trans h35, ?_, hCo', Fr_25 hFr, ?_, fun w => ?_⟩
            · rw [ewt]
              exact wRow_push hW
            · rw [ewt]
              rfl
            · show c + (0 + pnd L) ≤ _
              omega
            · refine SK_eq hS (fun w => ?_)
              rw [hev w]
              show _ = itms (0, false) _ _ ++ itL (upd (evE tk w p (j - p)).1 (d + 1) 0) (upd (evE tk w p (j - p)).2 (d + 1) 1) L
              have : ∀ a b, itms (0, false) a b = [] := fun a b => rfl
              rw [this, List.nil_append]
              exact itL_congr L (fun k hk' => ⟨(pk_un (by omega)).symm, (pk_un (by omega)).symm⟩)
            · rw [hev w]
              refine ⟨⟨fun _ => ?_, fun _ => ?_⟩, okL_congr L (fun k hk' => ⟨(pk_un (by omega)).symm, (pk_un (by omega)).symm⟩) (hk w)⟩
              · show upd (evE tk w p (j - p)).1 (d + 1) 0 L.length = 0
                rw [hL, pk_us]
              · show upd (evE tk w p (j - p)).2 (d + 1) 1 L.length = sgn 0
                rw [hL, pk_us]
                rfl
        refine next_ok (j := j) h13 h11 hj (fun e4 => push _ rfl (Or.inl (FS_fail (F := F) hT hA (Or.inr rfl) ⟨4, s, d, rc, hA, Or.inr (Or.inr ⟨hne, rfl, 4, s, d + 1, hst, Or.inl (by omega)⟩)⟩ _ rfl rfl))) (fun lt4 => push _ rfl (Or.inr ⟨lt4, h13, rfl, rfl, rfl⟩))
      · show F 13 ≤ 0
        rw [h13]
        decide
    · have no28 : ¬ tk j = 10028 := fun z => q6 (kd6.mpr z)
      rw [g11, nI_clamp (by omega)] at q28
      have nv : ¬ isVb (tk j) = true := fun z => (kdv.mpr z).1 q28
      unfold wpM_expression_131 wpM_expression_132
      exact is_ok h13 h11 hj (fun q2 => ⟨fun z => absurd z no1, fun _ => h150 0 no28 (nm1 _ (Or.inl (kdi.mp q2))) (Or.inl ⟨kdi.mp q2, rfl⟩)⟩) (fun q2 => ⟨fun _ => ⟨fun _ => hbad no28 (fun z => q2 (kdi.mpr z)) nv, fun z => absurd rfl z⟩, fun z => absurd rfl z⟩)
    · have no28 : ¬ tk j = 10028 := fun z => q6 (kd6.mpr z)
      rw [g11, nI_clamp (by omega)] at q39
      have nv : ¬ isVb (tk j) = true := fun z => (kdv.mpr z).2 q39
      unfold wpM_expression_131 wpM_expression_132
      exact is_ok h13 h11 hj (fun q2 => ⟨fun z => absurd z no1, fun _ => h150 0 no28 (nm1 _ (Or.inl (kdi.mp q2))) (Or.inl ⟨kdi.mp q2, rfl⟩)⟩) (fun q2 => ⟨fun _ => ⟨fun _ => hbad no28 (fun z => q2 (kdi.mpr z)) nv, fun z => absurd rfl z⟩, fun z => absurd rfl z⟩)
    · have no28 : ¬ tk j = 10028 := fun z => q6 (kd6.mpr z)
      rw [g11, nI_clamp (by omega)] at q28 q39
      have yv : isVb (tk j) = true := kdv.mp ⟨q28, q39⟩
      have yes := h150 1 no28 (nm1 _ (Or.inr yv)) (Or.inr ⟨yv, rfl⟩)
      exact is_ok h13 h11 hj (fun q2 => ⟨fun z => absurd z no1, fun _ => yes⟩) (fun q2 => ⟨fun _ => ⟨fun z => absurd z no1, fun _ => yes⟩, fun z => absurd rfl z⟩)
theorem exprM {σ : MS} {tk : Nat → Int32} {pl : Nat → Nat} {sd s rc p c0 : Nat} {F : Nat → Int32} {G0 : Nat → Nat → Int32} {Post : MS → Prop} (hT : TC σ tk pl sd) (hc0 : c0 ≤ 500 * sd + p) (h13 : F 13 = 0) (h11 : F 11 = nI p) (h12 : F 12 = 0) (h35 : F 35 = nI c0) (hA : aSt tk p = some (4, s, 0, rc))
    (hP : ∀ F' G', ExP tk pl s rc p c0 G0 F' G' → Post (pM σ F' G')) : wpM_expression (pM σ F G0) Post := by
  rintro _ rfl
  rw [pM_F _ _ _ _ _ (by omega)]
  intro y ey
  have ey : y = 0 := ey.trans h12
  subst ey
  have hp := (aSt_bd hA).1
  refine ⟨403, exprLoop hT hc0 hP 403 p 0 c0 [(0, false)] _ _ (by omega) ⟨h13, h11, h12, hA, rfl, ⟨Or.inl rfl, trivial⟩, trivial, rfl, h35, by rw [Nat.sub_self]; exact Nat.le_refl _, ⟨Nat.le_refl _, fun i hi => absurd hi (by omega), by rw [Nat.sub_self]; rfl⟩, ⟨fun _ _ => rfl, fun _ _ _ _ => rfl⟩, ?_, fun w => ?_⟩⟩
  · rw [Nat.sub_self]
    exact ⟨Nat.le_refl _, fun j hj => absurd hj (by omega), fun w => by rw [Nat.sub_self]; rfl⟩
  · rw [Nat.sub_self]
    exact ⟨⟨fun _ => rfl, fun _ => rfl⟩, trivial⟩
theorem exprM_f {σ : MS} {tk : Nat → Int32} {pl : Nat → Nat} {F : Nat → Int32} {G : Nat → Nat → Int32} {Post : MS → Prop} (hF : FS tk pl F) (hP : Post (pM σ (va_up F 39 0) G)) : wpM_expression (pM σ F G) Post := by
  rintro _ rfl
  rw [pM_F _ _ _ _ _ (by omega)]
  rintro _ rfl
  exact ⟨1, fun q => absurd q no1, fun _ => ⟨fun q => absurd q (FS_no hF).1, fun _ => hP⟩⟩
