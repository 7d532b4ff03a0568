/-! pure level: persons -/
def IPers (n : Nat) (σx : CS) (σm : MS) : Prop :=
  n ≤ 12 ∧ σx.1 165 = nI n ∧ σm.1 40 = nI n ∧ σx.2.1 9 = σm.2.1 26 ∧ σx.2.1 10 = σm.2.1 27 ∧ σx.2.1 11 = σm.2.1 28 ∧ σx.2.1 12 = σm.2.1 29 ∧
  (∀ p, p < n → isPa (σm.2.1 26 p) p ∧ isPa (σm.2.1 27 p) p ∧ isD (σm.2.1 28 p)) ∧ (∀ j, j < 12 * n → ¬ σm.2.1 29 j < 0 ∧ ¬ 99 < σm.2.1 29 j) ∧ (∀ p c, p < n → c < 12 → p < c → σm.2.1 29 (12 * p + c) = 99)
def peC (σ : CS) (n : Nat) (f m b : Int32) : CS := cA (cF (cA (cA (cA σ 9 (upd (σ.2.1 9) n f)) 10 (upd (σ.2.1 10) n m)) 11 (upd (σ.2.1 11) n b)) 165 (nI (n + 1))) 12 (upd (rowAt (σ.2.1 12) (upC (σ.2.1 12) f m) n 12) (12 * n + n) 0)
def peM (σ : MS) (n : Nat) (f m b : Int32) : MS := mF (mA (mA (mA (mA σ 26 (upd (σ.2.1 26) n f)) 27 (upd (σ.2.1 27) n m)) 28 (upd (σ.2.1 28) n b)) 29 (rowAt (σ.2.1 29) (upV (σ.2.1 29) f m n) n 12)) 40 (nI (n + 1))
/-- a parent that may be -/
def okPa (bi : Nat → Int32) (n : Nat) (f b : Int32) : Prop := f = -1 ∨ ∃ a, a < n ∧ f = nI a ∧ bi a < b
theorem okPa_is {bi : Nat → Int32} {n : Nat} {f b : Int32} (h : okPa bi n f b) : isPa f n := by
  rcases h with e | ⟨a, h1, h2, h3⟩
  · exact Or.inl e
  · exact Or.inr ⟨a, h1, h2⟩
theorem nI_nm1 {a : Nat} (h : a < 2 ^ 31) : ¬ nI a = -1 := fun z => absurd (nI_pos h) (by rw [z]; decide)
theorem canBearC {σ : CS} {n : Nat} {f b : Int32} {Post : Int32 → CS → Prop} (hn : σ.1 165 = nI n) (hnn : n ≤ 12) (h1 : okPa (σ.2.1 11) n f b → Post 1 σ) (h0 : ¬ okPa (σ.2.1 11) n f b → Post 0 σ) : wpC_X1_canBear σ f b Post := by
  refine ⟨fun e => h1 (Or.inl e), fun e => hasC hn (by omega) (fun hN => ?_) (fun hN => ⟨fun _ => h0 (fun z => ?_), fun z => absurd rfl z⟩)⟩
  · obtain ⟨a, ha, rfl⟩ := hN
    rw [nI_clamp (by omega)]
    refine ⟨fun z => absurd z (by decide), fun _ => ⟨vp_in_nI (by omega) (by omega), fun z => h0 (fun y => ?_), fun z => h1 (Or.inr ⟨a, ha, rfl, by grind⟩)⟩⟩
    rcases y with y | ⟨c, y1, y2, y3⟩
    · exact e y
    · obtain rfl : a = c := (nI_eq (by omega) (by omega)).mp y2
      grind
  · rcases z with z | ⟨c, y1, y2, y3⟩
    · exact e z
    · exact hN ⟨c, y1, y2⟩
def okPer (bi : Nat → Int32) (n : Nat) (f m b : Int32) : Prop := n < 12 ∧ okPa bi n f b ∧ okPa bi n m b ∧ ¬ (¬ f = -1 ∧ f = m) ∧ isD b
theorem personC {σ : CS} {n : Nat} {f m b : Int32} {Post : Int32 → CS → Prop} (hn : σ.1 165 = nI n) (hnn : n ≤ 12) (h1 : okPer (σ.2.1 11) n f m b → Post (nI n) (peC σ n f m b)) (h0 : ¬ okPer (σ.2.1 11) n f m b → Post (-1) σ) : wpC_X10_person σ f m b Post := by
  have h19 : isD b → ¬ (¬ f = -1 ∧ f = m) → wpC_X10_person_19 Post σ f m b := by
    intro hD hne
    refine canBearC hn hnn (fun hF => ⟨fun z => absurd z (by decide), fun _ => canBearC hn hnn (fun hM => ⟨fun z => absurd z (by decide), fun _ => ?_⟩) (fun hM => ⟨fun _ => h0 (fun z => hM z.2.2.1), fun z => absurd rfl z⟩)⟩) (fun hF => ⟨fun _ => h0 (fun z => hF z.2.1), fun z => absurd rfl z⟩)
    have q : σ.1 165 < 12 ↔ n < 12 := by rw [hn]; exact nI_ltI (b := 12) (by omega) (by omega)
    refine ⟨fun z => ?_, fun z => h0 (fun y => z (q.mpr y.1))⟩
    have hlt := q.mp z
    have h1 := h1 ⟨hlt, hF, hM, hne, hD⟩
    rintro _ rfl
    have hv : vp_in (σ.1 165) 12 := by rw [hn]; exact vp_in_nI hlt (by omega)
    refine ⟨hv, ?_⟩
    rintro _ rfl
    refine ⟨hv, ?_⟩
    rintro _ rfl
    refine ⟨hv, ?_⟩
    rintro _ rfl _ rfl
    rw [hn, nI_clamp (by omega)]
    refine personUpC (n := n) ?_ hlt (okPa_is hF) (okPa_is hM) ?_
    · show σ.1 165 + 1 = _
      rw [hn, nI_1]
    · show Post (nI n) (cA (cF (cA (cA (cA σ 9 (upd (σ.2.1 9) n f)) 10 (upd (σ.2.1 10) n m)) 11 (upd (σ.2.1 11) n b)) 165 (σ.1 165 + 1)) 12 (upd (rowAt (σ.2.1 12) (upC (σ.2.1 12) f m) n 12) (12 * n + n) 0))
      rw [hn, nI_1]
      exact h1
  refine isDayC (fun hD => ⟨fun z => absurd z (by decide), fun _ => ⟨fun e => h19 hD (fun y => y.1 e), fun e => ⟨fun e2 => h0 (fun y => y.2.2.2.1 ⟨e, e2⟩), fun e2 => h19 hD (fun y => e2 y.2)⟩⟩⟩) (fun hD => ⟨fun _ => h0 (fun y => hD y.2.2.2.2), fun z => absurd rfl z⟩)
theorem okPa_no {bi : Nat → Int32} {n : Nat} {f b : Int32} (hn : n ≤ 12) (h : okPa bi n f b) : ¬ f < -1 ∧ ¬ nI n ≤ f ∧ (f = -1 ∨ ∃ a, a < n ∧ f = nI a ∧ bi a < b) := by
  refine ⟨?_, ?_, h⟩
  · rcases h with e | ⟨a, h1, h2, h3⟩
    · rw [e]; decide
    · rw [h2]
      have := nI_pos (n := a) (by omega)
      grind
  · rcases h with e | ⟨a, h1, h2, h3⟩
    · rw [e]
      have := nI_pos (n := n) (by omega)
      grind
    · rw [h2]; exact nI_ge h1 (by omega)
theorem isPa_of {n : Nat} {f : Int32} (hn : n ≤ 12) (c1 : ¬ f < -1) (c2 : ¬ nI n ≤ f) : isPa f n := by
  by_cases e : f = -1
  · exact Or.inl e
  · exact Or.inr (isN_of rfl (by omega) (by grind) c2)
theorem personM {σ : MS} {n : Nat} {f m b : Int32} {Post : Int32 → MS → Prop} (hn : σ.1 40 = nI n) (hnn : n ≤ 12) (h1 : okPer (σ.2.1 28) n f m b → Post (nI n) (peM σ n f m b)) (h0 : ¬ okPer (σ.2.1 28) n f m b → Post (-1) σ) : wpM_person σ f m b Post := by
  have q : σ.1 40 = 12 ↔ ¬ n < 12 := by
    have := nI_eq (a := n) (b := 12) (by omega) (by omega)
    have e : nI 12 = 12 := rfl
    rw [e] at this
    rw [hn, this]
    omega
  refine ⟨fun z => h0 (fun y => q.mp z y.1), fun z => ?_⟩
  have hlt : n < 12 := Classical.byContradiction (fun y => z (q.mpr y))
  rw [hn]
  refine ⟨fun z => h0 (fun y => (okPa_no hnn y.2.1).1 z), fun f1 => ⟨fun z => h0 (fun y => (okPa_no hnn y.2.1).2.1 z), fun f2 => ⟨fun z => h0 (fun y => (okPa_no hnn y.2.2.1).1 z), fun m1 => ⟨fun z => h0 (fun y => (okPa_no hnn y.2.2.1).2.1 z), fun m2 => ?_⟩⟩⟩⟩
  have pF := isPa_of hnn f1 f2
  have pM := isPa_of hnn m1 m2
  have h84 : okPer (σ.2.1 28) n f m b → wpM_person_84 Post σ f m b := by
    intro ok
    have h1 := h1 ok
    have hv : vp_in (σ.1 40) 12 := by rw [hn]; exact vp_in_nI hlt (by omega)
    refine ⟨hv, ?_⟩
    rintro _ rfl
    refine ⟨hv, ?_⟩
    rintro _ rfl
    refine ⟨hv, ?_⟩
    rintro _ rfl
    refine personUpM (n := n) hn hlt pF pM ?_
    show Post (nI n) (mF (mA (mA (mA (mA σ 26 (upd (σ.2.1 26) (σ.1 40).toNatClampNeg f)) 27 (upd (σ.2.1 27) (σ.1 40).toNatClampNeg m)) 28 (upd (σ.2.1 28) (σ.1 40).toNatClampNeg b)) 29 (rowAt (σ.2.1 29) (upV (σ.2.1 29) f m n) n 12)) 40 (nI (n + 1)))
    rw [hn, nI_clamp (by omega)]
    exact h1
  have h67 : okPa (σ.2.1 28) n f b → ¬ (¬ f = -1 ∧ f = m) → isD b → wpM_person_67 Post σ f m b := by
    intro oF ne hD
    rcases pM with e | ⟨a, ha, e⟩
    · exact ⟨fun _ => h84 ⟨hlt, oF, Or.inl e, ne, hD⟩, fun z => absurd e z⟩
    · have em : ¬ m = -1 := by rw [e]; exact nI_nm1 (by omega)
      refine ⟨fun z => absurd z em, fun _ => ?_⟩
      have ec : m.toNatClampNeg = a := by rw [e]; exact nI_clamp (by omega)
      rw [ec]
      refine ⟨by rw [e]; exact vp_in_nI (by omega) (by omega), fun z => h84 ⟨hlt, oF, Or.inr ⟨a, ha, e, z⟩, ne, hD⟩, fun z => h0 (fun y => ?_)⟩
      rcases y.2.2.1 with y1 | ⟨c, y1, y2, y3⟩
      · exact em y1
      · rw [e] at y2
        obtain rfl : a = c := (nI_eq (by omega) (by omega)).mp y2
        exact z y3
  have h45 : ¬ (¬ f = -1 ∧ f = m) → wpM_person_45 Post σ f m b := by
    intro ne
    refine isDayM (fun hD => ⟨fun z => absurd z (by decide), fun _ => ?_⟩) (fun hD => ⟨fun _ => h0 (fun y => hD y.2.2.2.2), fun z => absurd rfl z⟩)
    rcases pF with e | ⟨a, ha, e⟩
    · exact ⟨fun _ => h67 (Or.inl e) ne hD, fun z => absurd e z⟩
    · have em : ¬ f = -1 := by rw [e]; exact nI_nm1 (by omega)
      refine ⟨fun z => absurd z em, fun _ => ?_⟩
      have ec : f.toNatClampNeg = a := by rw [e]; exact nI_clamp (by omega)
      rw [ec]
      refine ⟨by rw [e]; exact vp_in_nI (by omega) (by omega), fun z => h0 (fun y => ?_), fun z => h67 (Or.inr ⟨a, ha, e, by grind⟩) ne hD⟩
      rcases y.2.1 with y1 | ⟨c, y1, y2, y3⟩
      · exact em y1
      · rw [e] at y2
        obtain rfl : a = c := (nI_eq (by omega) (by omega)).mp y2
        grind
  exact ⟨fun e => h45 (fun y => y.1 e), fun e => ⟨fun e2 => h0 (fun y => y.2.2.2.1 ⟨e, e2⟩), fun e2 => h45 (fun y => e2 y.2)⟩⟩
theorem upV_ok {u : Nat → Int32} {f m : Int32} {n c : Nat} (hnn : n < 12) (hc : c < 12) (hf : isPa f n) (hm : isPa m n) (hu : ∀ j, j < 12 * n → ¬ u j < 0 ∧ ¬ 99 < u j) (h9 : ∀ p c, p < n → c < 12 → p < c → u (12 * p + c) = 99) : (¬ upV u f m n c < 0 ∧ ¬ 99 < upV u f m n c) ∧ (n < c → upV u f m n c = 99) := by
  have hs : ∀ g : Int32, isPa g n → ∃ x : Nat, x ≤ 99 ∧ stF u g c = nI x ∧ (n < c → x = 99) := by
    rintro g (e | ⟨a, ha, rfl⟩)
    · exact ⟨99, by omega, by rw [stF, if_pos e]; rfl, fun _ => rfl⟩
    · have h9' := hu (12 * a + c) (by omega)
      obtain ⟨x, hx, ex⟩ := nI_of h9'.1
      refine ⟨x, ?_, ?_, fun hlt => ?_⟩
      · have := h9'.2
        rw [ex] at this
        exact Classical.byContradiction (fun z => this (nI_lt (a := 99) (by omega) hx))
      · rw [stF, if_neg (nI_nm1 (by omega)), nI_clamp (by omega)]
        exact ex
      · have h7 := h9 a c ha hc (by omega)
        rw [ex] at h7
        exact (nI_eq (b := 99) hx (by omega)).mp h7
  obtain ⟨x, hx, ex, x9⟩ := hs f hf
  obtain ⟨y, hy, ey, y9⟩ := hs m hm
  by_cases e : c = n
  · rw [upV, if_pos e, upP_st (b := 0) (by decide), ex, nI_1, if_pos (nI_pos' (by omega)), upP_st (by decide), ey, nI_1, if_pos (nI_pos' (by omega))]
    exact ⟨⟨by decide, by decide⟩, fun z => absurd z (by omega)⟩
  · have e2 := up2 hx hy
    have e3 : upV u f m n c = (if (if 99 ≤ nI x + 1 then 99 else nI x + 1) ≤ nI y + 1 then (if 99 ≤ nI x + 1 then 99 else nI x + 1) else nI y + 1) := by
      rw [upV, if_neg e, upP_st (f := f) (by decide), ex, upP_st (f := m) (by split <;> grind), ey]
    rw [e3, ← e2]
    have e1 : imin (nI x) (nI y) = nI (if y < x then y else x) := by
      rw [imin]
      by_cases c : y < x
      · rw [if_pos c, if_pos ((nI_ltI (by omega) (by omega)).mpr c)]
      · rw [if_neg c, if_neg (fun z => c ((nI_ltI (by omega) (by omega)).mp z))]
    have k9 : (if y < x then y else x) ≤ 99 ∧ (n < c → (if y < x then y else x) = 99) := by
      refine ⟨by split <;> omega, fun z => ?_⟩
      rw [x9 z, y9 z]
      rfl
    rw [e1]
    generalize (if y < x then y else x) = k at k9 ⊢
    obtain ⟨k1, k2⟩ := k9
    rw [nI_1]
    have l1 : nI (k + 1) < 99 ↔ k + 1 < 99 := nI_ltI (b := 99) (by omega) (by omega)
    have l2 : 99 < nI (k + 1) ↔ 99 < k + 1 := nI_ltI (a := 99) (by omega) (by omega)
    by_cases z : k + 1 < 99
    · rw [if_pos (l1.mpr z)]
      exact ⟨⟨nI_pos (by omega), fun w => absurd (l2.mp w) (by omega)⟩, fun w => absurd (k2 w) (by omega)⟩
    · rw [if_neg (fun w => z (l1.mp w))]
      exact ⟨⟨by decide, by decide⟩, fun _ => rfl⟩
theorem IPers_new {n : Nat} {σx : CS} {σm : MS} {f m b : Int32} (h : IPers n σx σm) (ok : okPer (σm.2.1 28) n f m b) : IPers (n + 1) (peC σx n f m b) (peM σm n f m b) := by
  obtain ⟨h1, h2, h3, h4, h5, h6, h7, h8, h9, h10⟩ := h
  obtain ⟨k1, k2, k3, k4, k5⟩ := ok
  have pf := okPa_is k2
  have pm := okPa_is k3
  refine ⟨by omega, rfl, rfl, ?_, ?_, ?_, ?_, ?_, ?_, ?_⟩
  · show upd (σx.2.1 9) n f = upd (σm.2.1 26) n f
    rw [h4]
  · show upd (σx.2.1 10) n m = upd (σm.2.1 27) n m
    rw [h5]
  · show upd (σx.2.1 11) n b = upd (σm.2.1 28) n b
    rw [h6]
  · show upd (rowAt (σx.2.1 12) (upC (σx.2.1 12) f m) n 12) (12 * n + n) 0 = rowAt (σm.2.1 29) (upV (σm.2.1 29) f m n) n 12
    rw [h7]
    exact rows_same k1 pf pm h9
  · intro p hp
    show isPa (upd (σm.2.1 26) n f p) p ∧ isPa (upd (σm.2.1 27) n m p) p ∧ isD (upd (σm.2.1 28) n b p)
    simp only [upd_at]
    by_cases e : p = n
    · simp only [if_pos e]
      rw [e]
      exact ⟨pf, pm, k5⟩
    · simp only [if_neg e]
      exact h8 p (by omega)
  · intro j hj
    show ¬ rowAt (σm.2.1 29) (upV (σm.2.1 29) f m n) n 12 j < 0 ∧ ¬ 99 < rowAt (σm.2.1 29) (upV (σm.2.1 29) f m n) n 12 j
    by_cases e : j < 12 * n
    · rw [rowAt_lt e]
      exact h9 j e
    · rw [rowAt, if_pos (by omega)]
      exact (upV_ok k1 (by omega) pf pm h9 h10).1
  · intro p c hp hc hpc
    show rowAt (σm.2.1 29) (upV (σm.2.1 29) f m n) n 12 (12 * p + c) = 99
    by_cases e : p = n
    · subst e
      rw [rowAt, if_pos (by omega), Nat.add_sub_cancel_left]
      exact (upV_ok k1 hc pf pm h9 h10).2 hpc
    · rw [rowAt_lt (by omega)]
      exact h10 p c (by omega) hc hpc
