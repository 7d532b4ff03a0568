/-! a text is read, the reference's side -/
def rdS (σ : MS) (nt nl : Nat) (T : Nat → Int32) (c : Int32) (G : Nat → Nat → Int32) (L : Nat → Int64) : MS :=
  mF (mA (mA (mF (mF (mF (mF (mF (kM (mF (mA (mF σ 4 (nI nt)) 2 T) 2 0) c G L) 11 0) 12 0) 13 0) 15 0) 19 (nI nl)) 10 (upd (σ.2.1 10) nl 0)) 17 (upd (σ.2.1 17) nl 0)) 35 (nI (500 * nl))
theorem pM_self (σ : MS) : pM σ σ.1 σ.2.1 = σ := by
  have h1 : (fun k => if k = 11 ∨ k = 12 ∨ k = 13 ∨ k = 14 ∨ k = 35 ∨ k = 39 then σ.1 k else σ.1 k) = σ.1 := by funext k; exact ite_self _
  have h2 : (fun j => if 10 ≤ j ∧ j ≤ 25 then σ.2.1 j else σ.2.1 j) = σ.2.1 := by funext k; exact ite_self _
  rw [pM, h1, h2]
theorem kM_self (σ : MS) : mF σ 10 0 = kM σ 0 σ.2.1 (σ.2.2 6) := by
  have h2 : (fun j => if 3 ≤ j ∧ j ≤ 5 then σ.2.1 j else σ.2.1 j) = σ.2.1 := by funext k; exact ite_self _
  have h3 : va_up σ.2.2 6 (σ.2.2 6) = σ.2.2 := by
    funext k
    show (if k = 6 then σ.2.2 6 else σ.2.2 k) = σ.2.2 k
    by_cases e : k = 6
    · rw [if_pos e, e]
    · rw [if_neg e]
  rw [kM, h2, h3]
  rfl
theorem aSt_no {tk : Nat → Int32} {k : Nat} (h : aSt tk k = none) : ∀ d, aSt tk (k + d) = none := by
  intro d
  induction d with
  | zero => exact h
  | succ d ih =>
    show aSt tk (k + d + 1) = none
    rw [aSt, ih, aNx]
theorem TC_of {b : Nat → Int32} {n c sd : Nat} {G : Nat → Nat → Int32} {σ : MS} (h19 : σ.1 19 = nI sd) (hsd : sd ≤ 7) (hC : CT b n c G) (hc : c = 401 ∨ ∃ c', c = c' + 1 ∧ tkF b n c' = -1) (h3 : σ.2.1 3 = G 3) (h4 : σ.2.1 4 = G 4) (h5 : σ.2.1 5 = G 5) : TC σ (tkF b n) (plF b n) sd := by
  refine ⟨h19, hsd, fun j x hA => ?_⟩
  rw [h3, h4, h5]
  refine hC j ?_
  obtain ⟨w, s, d, rc⟩ := x
  have hj := (aSt_bd hA).1
  rcases hc with e | ⟨c', e, e1⟩
  · omega
  · refine Nat.lt_of_not_le (fun z => ?_)
    have hn : aSt (tkF b n) (c' + 1) = none := by
      rw [aSt]
      cases e2 : aSt (tkF b n) c' with
      | none => rfl
      | some y =>
        obtain ⟨w2, s2, d2, rc2⟩ := y
        rw [aNx]
        simp only [if_pos e1]
    have := aSt_no hn (j - (c' + 1))
    rw [show c' + 1 + (j - (c' + 1)) = j by omega, hA] at this
    exact absurd this (by simp)
def okS (σ : MS) (x1 x2 : Int32) (nl : Nat) : MS := mF (mF (mA (mA (mF σ 17 (-1)) 8 (upd (σ.2.1 8) nl x1)) 9 (upd (σ.2.1 9) nl x2)) 18 (nI (nl + 1))) 64 (-1)
theorem readM {σm : MS} {nt nl : Nat} {b : Nat → Int32} {x1 x2 : Int32} {Post : Int32 → MS → Prop} (h18 : σm.1 18 = nI nl) (hnl : nl < 8) (h2 : σm.1 2 = nI nt) (hnt : nt ≤ 2000) (hT : ∀ j, j < nt → b j = σm.2.1 1 j ∧ isB (σm.2.1 1 j)) (hK : IKey σm) (hx : ¬ x1 < 0) (hx3 : ¬ 3 < x1) (hd : isD x2)
    (hok : ∀ T c Gk L F G j s rc cc rel, RdL (tkF b nt) nl (rdS σm nt nl T c Gk L).2.1 j s rc cc rel F G → tkF b nt j = -1 → Post 0 (okS (pM (rdS σm nt nl T c Gk L) F G) x1 x2 nl))
    (hfl : ∀ T c Gk L F G f j, Old nl (rdS σm nt nl T c Gk L).2.1 G → f = 1 ∨ f = 2 → F 13 = nI f → Vd (tkF b nt) f j → Post (nI f) (mF (pM (rdS σm nt nl T c Gk L) F G) 17 (nI (plF b nt j)))) : wpM_read σm x1 x2 Post := by
  have v9 : vp_in (nI nl) 9 := vp_in_nI (by omega) (by omega)
  refine ⟨fun z => absurd z hx, fun _ => ⟨fun z => absurd z hx3, fun _ => isDayM (fun _ => ⟨fun z => absurd z no1, fun _ => ⟨fun z => ?_, fun _ => ?_⟩⟩) (fun z => absurd hd z)⟩⟩
  · rw [h18] at z
    exact absurd ((nI_eq (b := 8) (by omega) (by omega)).mp z) (by omega)
  · rintro _ rfl
    rw [h2]
    -- the TAPE
    suffices hcp : ∀ d i T, i + d = nt → (∀ j, j < i → T j = b j) → wpM_read_37 Post (d + 1) (mA (mF σm 4 (nI nt)) 2 T) x1 x2 (nI i) by
      have e : mF σm 4 (nI nt) = mA (mF σm 4 (nI nt)) 2 (σm.2.1 2) := by
        have : va_up σm.2.1 2 (σm.2.1 2) = σm.2.1 := by
          funext k
          show (if k = 2 then σm.2.1 2 else σm.2.1 k) = σm.2.1 k
          by_cases e : k = 2
          · rw [if_pos e, e]
          · rw [if_neg e]
        show (va_up σm.1 4 (nI nt), σm.2.1, σm.2.2) = (va_up σm.1 4 (nI nt), va_up σm.2.1 2 (σm.2.1 2), σm.2.2)
        rw [this]
      rw [e]
      exact ⟨nt + 1, hcp nt 0 _ (by omega) (fun j hj => absurd hj (by omega))⟩
    intro d
    induction d with
    | zero =>
      intro i T hi hTj
      obtain rfl : i = nt := by omega
      refine ⟨fun _ => ?_, fun z => absurd (show nI i ≤ nI i from Int32.le_refl _) z⟩
      rintro _ rfl
      rintro _ rfl
      rw [kM_self]
      refine ⟨i + 1, cutLoopM (b := b) (n := i) (σ := mF (mA (mF σm 4 (nI i)) 2 T) 2 0) rfl hnt hTj (fun j hj => by rw [(hT j hj).1]; exact (hT j hj).2) hK (fun c Gk L hC hc => ?_) (i + 1) 0 0 _ _ (by omega) (by omega) (by omega) rfl (fun j hj => absurd hj (by omega))⟩
      rintro _ rfl _ rfl _ rfl _ rfl _ rfl
      have e19 : ∀ κ : MS, (mF κ 19 (κ.1 18)).1 19 = κ.1 18 := fun _ => rfl
      have e18 : (mF (mF (mF (mF (kM (mF (mA (mF σm 4 (nI i)) 2 T) 2 0) (nI c) Gk L) 11 0) 12 0) 13 0) 15 0).1 18 = nI nl := h18
      rw [e18]
      refine ⟨v9, ?_⟩
      rintro _ rfl
      refine ⟨v9, ?_⟩
      rintro _ rfl _ rfl
      refine ⟨18, ?_⟩
      have e500 : (500 : Int32) * nI nl = nI (500 * nl) := by
        rw [show (500 : Int32) = nI 500 from rfl, pk_mul]
      have es : mF (mA (mA (mF (mF (mF (mF (mF (kM (mF (mA (mF σm 4 (nI i)) 2 T) 2 0) (nI c) Gk L) 11 0) 12 0) 13 0) 15 0) 19 (nI nl)) 10 (upd (σm.2.1 10) (nI nl).toNatClampNeg 0)) 17 (upd (σm.2.1 17) (nI nl).toNatClampNeg 0)) 35 ((500 : Int32) * nI nl) = rdS σm i nl T (nI c) Gk L := by
        rw [e500, nI_clamp (by omega)]
        rfl
      change wpM_read_132 Post 18 (mF (mA (mA (mF (mF (mF (mF (mF (kM (mF (mA (mF σm 4 (nI i)) 2 T) 2 0) (nI c) Gk L) 11 0) 12 0) 13 0) 15 0) 19 (nI nl)) 10 (upd (σm.2.1 10) (nI nl).toNatClampNeg 0)) 17 (upd (σm.2.1 17) (nI nl).toNatClampNeg 0)) 35 ((500 : Int32) * nI nl)) x1 x2
      rw [es]
      have hTC : TC (rdS σm i nl T (nI c) Gk L) (tkF b i) (plF b i) nl := TC_of rfl (by omega) hC hc rfl rfl rfl
      have ok0 := fun F G j s rc cc rel => hok T (nI c) Gk L F G j s rc cc rel
      have fl0 := fun F G f j => hfl T (nI c) Gk L F G f j
      have f18 : (rdS σm i nl T (nI c) Gk L).1 18 = nI nl := h18
      have f10 : (rdS σm i nl T (nI c) Gk L).2.1 10 nl = nI 0 := pk_us
      have f17 : (rdS σm i nl T (nI c) Gk L).2.1 17 nl = nI 0 := pk_us
      have f13 : (rdS σm i nl T (nI c) Gk L).1 13 = 0 := rfl
      have f11 : (rdS σm i nl T (nI c) Gk L).1 11 = nI 0 := rfl
      have f12 : (rdS σm i nl T (nI c) Gk L).1 12 = 0 := rfl
      have f35 : (rdS σm i nl T (nI c) Gk L).1 35 = nI (500 * nl) := rfl
      generalize rdS σm i nl T (nI c) Gk L = S at *
      rw [← pM_self S]
      refine readLoop hTC (fun F G j s rc cc rel hR hE => ?_) (fun F G hO hF => ?_) 16 0 0 0 (500 * nl) 0 _ _ (by omega) ⟨f13, f11, f12, f35, by omega, by omega, rfl, f10, f17, by omega, ⟨fun _ _ => rfl, fun _ _ _ _ _ => rfl, fun _ _ => rfl, fun _ _ _ _ _ => rfl, fun _ _ => ⟨rfl, rfl⟩⟩, fun r hr => absurd hr (by omega)⟩
      · have h13 : F 13 = 0 := hR.1
        have le13 : (pM S F G).1 13 ≤ 0 := by
          show F 13 ≤ 0
          rw [h13]; decide
        refine ⟨fun _ => ?_, fun z => absurd le13 z⟩
        rintro _ rfl
        refine ⟨fun _ => ?_, fun z => absurd le13 z⟩
        have g18 : ∀ v, (mF (pM S F G) 17 v).1 18 = nI nl := fun _ => f18
        rw [g18, nI_clamp (by omega)]
        refine ⟨v9, ?_⟩
        rintro _ rfl
        have g18' : ∀ v f, (mA (mF (pM S F G) 17 v) 8 f).1 18 = nI nl := fun _ _ => f18
        rw [g18', nI_clamp (by omega)]
        refine ⟨v9, ?_⟩
        rintro _ rfl _ rfl _ rfl
        have g18'' : ∀ v f g, (mA (mA (mF (pM S F G) 17 v) 8 f) 9 g).1 18 = nI nl := fun _ _ _ => f18
        rw [g18'', nI_1]
        exact ok0 F G j s rc cc rel hR hE
      · obtain ⟨f, j, hf, e13, e14, hV⟩ := hF
        have nle : ¬ (pM S F G).1 13 ≤ 0 := by
          show ¬ F 13 ≤ 0
          rw [e13]
          rcases hf with rfl | rfl <;> decide
        refine ⟨fun z => absurd z nle, fun _ => ?_⟩
        rintro _ rfl
        refine ⟨fun z => absurd z nle, fun _ => ?_⟩
        have g13 : ∀ v, (mF (pM S F G) 17 v).1 13 = nI f := fun _ => e13
        have g14 : (pM S F G).1 14 = nI (plF b i j) := e14
        rw [g13, g14]
        exact fl0 F G f j hO hf e13 hV
    | succ d ih =>
      intro i T hi hTj
      refine ⟨fun z => absurd (show nI nt ≤ nI i from z) (fun z => absurd ((nI_leI (by omega) (by omega)).mp z) (by omega)), fun _ => ⟨vp_in_nI (by omega) (by omega), vp_in_nI (by omega) (by omega), ?_⟩⟩
      rintro _ rfl _ rfl
      rw [nI_1, nI_clamp (by omega)]
      have hb := hT i (by omega)
      have e : mA (mA (mF σm 4 (nI nt)) 2 T) 2 (upd T i (vp_nar .byte (σm.2.1 1 i))) = mA (mF σm 4 (nI nt)) 2 (upd T i (vp_nar .byte (σm.2.1 1 i))) := by
        show (_, va_up (va_up σm.2.1 2 T) 2 _, _) = (_, va_up σm.2.1 2 _, _)
        rw [bx_uu]
        rfl
      change wpM_read_37 Post (d + 1) (mA (mA (mF σm 4 (nI nt)) 2 T) 2 (upd T i (vp_nar .byte (σm.2.1 1 i)))) x1 x2 (nI (i + 1))
      rw [e]
      refine ih (i + 1) _ (by omega) (fun j hj => ?_)
      by_cases ej : j = i
      · rw [ej, pk_us, hb.1]
        exact hb.2
      · rw [pk_un ej]
        exact hTj j (by omega)
