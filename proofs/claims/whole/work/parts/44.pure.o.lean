/-! pure level: what a law's text means; the class's side -/
def consT (t : Int32) (d : Nat) : Prop := (∃ v, v < 10000 ∧ t = nI v) ∨ (∃ x, x < 12 ∧ t = nI (10008 + x)) ∨ t = 10021 ∨ t = 10022 ∨ t = 10023 ∨ (t = 10028 ∧ d < 6) ∨ (t = 10029 ∧ 0 < d)
def stopT (t : Int32) : Prop := t = 10005 ∨ t = 10006 ∨ t = 10007 ∨ t = 10020 ∨ t = 10024 ∨ t = 10025 ∨ t = 10026 ∨ t = 10027
def depT (t : Int32) (d : Nat) : Nat := if t = 10028 then d + 1 else if t = 10029 then d - 1 else d
def depE (tk : Nat → Int32) (p : Nat) : Nat → Nat
  | 0 => 0
  | j + 1 => depT (tk (p + j)) (depE tk p j)
def evT (w : Nat → Int32) (t : Int32) (d : Nat) (a : (Nat → Int32) × (Nat → Int32)) : (Nat → Int32) × (Nat → Int32) :=
  if t = 10021 then (upd a.1 d (a.1 d + a.2 d), upd a.2 d 1) else if t = 10022 then (upd a.1 d (a.1 d + a.2 d), upd a.2 d (-1)) else if t = 10023 then a
  else if t = 10028 then (upd a.1 (d + 1) 0, upd a.2 (d + 1) 1) else if t = 10029 then (a.1, upd a.2 (d - 1) (a.2 (d - 1) * (a.1 d + a.2 d)))
  else if t < 10000 then (a.1, upd a.2 d (a.2 d * t)) else (a.1, upd a.2 d (a.2 d * w (t - 10008).toNatClampNeg))
def evE (tk w : Nat → Int32) (p : Nat) : Nat → (Nat → Int32) × (Nat → Int32)
  | 0 => (fun _ => 0, fun _ => 1)
  | j + 1 => evT w (tk (p + j)) (depE tk p j) (evE tk w p j)
def scC (σ : CS) (f g : Nat → Int32) (v : Int32) : CS := cF (cA (cA σ 33 f) 34 g) 623 v
theorem c33 (σ : CS) (f f' g : Nat → Int32) : cA (cA (cA σ 33 f) 34 g) 33 f' = cA (cA σ 33 f') 34 g := by
  have : va_up (va_up (va_up σ.2.1 33 f) 34 g) 33 f' = va_up (va_up σ.2.1 33 f') 34 g := by
    funext k
    show (if k = 33 then f' else if k = 34 then g else if k = 33 then f else σ.2.1 k) = (if k = 34 then g else if k = 33 then f' else σ.2.1 k)
    by_cases e : k = 33
    · rw [if_pos e, if_neg (by omega), if_pos e]
    · rw [if_neg e, if_neg e, if_neg e]
  show (σ.1, va_up (va_up (va_up σ.2.1 33 f) 34 g) 33 f', σ.2.2) = _
  rw [this]
  rfl
theorem scC_2 (σ : CS) (f g f' g' : Nat → Int32) (v v' : Int32) : scC (scC σ f g v) f' g' v' = scC σ f' g' v' := by
  have h1 := c33 σ f f' g
  have h2 := cA_same (cA σ 33 f') 34 g g'
  have e1 : (cA (cA (cA (cA σ 33 f) 34 g) 33 f') 34 g') = cA (cA σ 33 f') 34 g' := by rw [h1, h2]
  have e2 : (cA (cA (scC σ f g v) 33 f') 34 g') = cF (cA (cA (cA (cA σ 33 f) 34 g) 33 f') 34 g') 623 v := rfl
  rw [scC, e2, e1, cF_same]
  rfl
theorem depE_le {tk : Nat → Int32} {p n : Nat} (hc : ∀ j, j < n → consT (tk (p + j)) (depE tk p j)) : ∀ j, j ≤ n → depE tk p j ≤ 6 := by
  intro j
  induction j with
  | zero => intro _; simp [depE]
  | succ j ih =>
    intro hj
    have := ih (by omega)
    have c := hc j (by omega)
    simp only [depE, depT]
    split
    · next e =>
      rw [e] at c
      rcases c with ⟨v, hv, e⟩ | ⟨x, hx, e⟩ | e | e | e | ⟨e, h⟩ | ⟨e, h⟩
      · exact absurd ((nI_eq (a := 10028) (by omega) (by omega)).mp e) (by omega)
      · exact absurd ((nI_eq (a := 10028) (by omega) (by omega)).mp e) (by omega)
      · exact absurd e (by decide)
      · exact absurd e (by decide)
      · exact absurd e (by decide)
      · omega
      · exact absurd e (by decide)
    · split <;> omega
theorem cl0 : (0 : Int32).toNatClampNeg = 0 := by decide
theorem valueOfC {σ : CS} {L p q : Nat} {Post : Int32 → CS → Prop} (hL : L < σ.2.2.1) (hN : (σ.2.2.2 L).2.1.1 ≤ 400) (hq : q < (σ.2.2.2 L).2.1.1) (hpq : p ≤ q)
    (hc : ∀ j, j < q - p → consT ((σ.2.2.2 L).2.1.2 (p + j)) (depE (σ.2.2.2 L).2.1.2 p j)) (hz : depE (σ.2.2.2 L).2.1.2 p (q - p) = 0) (hs : stopT ((σ.2.2.2 L).2.1.2 q))
    (hp : ∀ f g, Post ((evE (σ.2.2.2 L).2.1.2 (σ.2.1 32) p (q - p)).1 0 + (evE (σ.2.2.2 L).2.1.2 (σ.2.1 32) p (q - p)).2 0) (scC σ f g (nI q))) : wpC_X8_valueOf σ L (nI p) Post := by
  have hle := depE_le hc
  suffices H : ∀ d j, j + d = q - p → ∀ f g, (∀ i, i ≤ depE (σ.2.2.2 L).2.1.2 p j → f i = (evE (σ.2.2.2 L).2.1.2 (σ.2.1 32) p j).1 i ∧ g i = (evE (σ.2.2.2 L).2.1.2 (σ.2.1 32) p j).2 i) → wpC_X8_valueOf_23 Post (d + 1) (cA (cA σ 33 f) 34 g) L (nI (depE (σ.2.2.2 L).2.1.2 p j)) (nI (p + j)) by
    refine ⟨vp_in_nI (n := 0) (by omega) (by omega), ?_⟩
    rintro _ rfl
    refine ⟨vp_in_nI (n := 0) (by omega) (by omega), ?_⟩
    rintro _ rfl
    rintro _ rfl
    refine ⟨q - p + 1, ?_⟩
    have e : (if 0 < nI p then nI p else 0) = nI p := by
      by_cases z : 0 < nI p
      · rw [if_pos z]
      · rw [if_neg z]
        have := nI_pos (n := p) (by omega)
        grind
    rw [e, cl0]
    refine H (q - p) 0 (by omega) _ _ (fun i hi => ?_)
    have : i = 0 := Nat.le_zero.mp hi
    subst this
    exact ⟨if_pos rfl, if_pos rfl⟩
  intro d
  induction d with
  | zero =>
    intro j hj f g hfg
    obtain rfl : j = q - p := by omega
    have e : p + (q - p) = q := by omega
    rw [hz, e]
    have h251 : wpC_X8_valueOf_251 Post (cA (cA σ 33 f) 34 g) (nI q) := by
      rintro _ rfl
      refine ⟨vp_in_nI (n := 0) (by omega) (by omega), vp_in_nI (n := 0) (by omega) (by omega), ?_⟩
      have := hfg 0 (by omega)
      have hp := hp f g
      rw [← this.1, ← this.2] at hp
      exact hp
    have h400 : (σ.2.2.2 L).2.1.1 < 2 ^ 31 := by omega
    refine ⟨hL, hL, fun z => absurd z (nI_ge hq h400), fun _ => ⟨hL, hL, vp_in_nI hq h400, ?_⟩⟩
    rw [nI_clamp (by omega)]
    have et : (cA (cA σ 33 f) 34 g).2.2 = σ.2.2 := rfl
    rw [et]
    rintro _ rfl
    have h234 : wpC_X8_valueOf_234 (fun a0 a1 a2 a3 => wpC_X8_valueOf_23 Post 0 a0 a1 a2 a3) Post (cA (cA σ 33 f) 34 g) L 0 (nI q) ((σ.2.2.2 L).2.1.2 q) := by
      refine ⟨fun z => ?_, fun _ => h251⟩
      rcases hs with e | e | e | e | e | e | e | e <;> (rw [e] at z; exact absurd z (by decide))
    have h190 : wpC_X8_valueOf_190 (fun a0 a1 a2 a3 => wpC_X8_valueOf_23 Post 0 a0 a1 a2 a3) Post (cA (cA σ 33 f) 34 g) L 0 (nI q) ((σ.2.2.2 L).2.1.2 q) :=
      ⟨fun _ => ⟨fun _ => h234, fun z => absurd (by decide) z⟩, fun _ => h234⟩
    have h103 : wpC_X8_valueOf_103 (fun a0 a1 a2 a3 => wpC_X8_valueOf_23 Post 0 a0 a1 a2 a3) Post (cA (cA σ 33 f) 34 g) L 0 (nI q) ((σ.2.2.2 L).2.1.2 q) := by
      refine ⟨fun z => ?_, fun _ => ⟨fun z => ?_, fun _ => ⟨fun z => ?_, fun _ => h190⟩⟩⟩ <;> (rcases hs with e | e | e | e | e | e | e | e <;> (rw [e] at z; exact absurd z (by decide)))
    refine ⟨fun z => ⟨fun _ => h103, fun z1 => ⟨fun _ => h103, fun z2 => ?_⟩⟩, fun z => ?_⟩
    · rcases hs with e | e | e | e | e | e | e | e <;> first | (rw [e] at z1; exact absurd (by decide) z1) | (rw [e] at z2; exact absurd (by decide) z2)
    · rcases hs with e | e | e | e | e | e | e | e <;> (rw [e] at z; exact absurd (by decide) z)
  | succ d ih =>
    intro j hj f g hfg
    replace ih := ih (j + 1) (by omega)
    have hd := hle j (by omega)
    have hd' := hle (j + 1) (by omega)
    have hcj := hc j (by omega)
    generalize hdd : depE (σ.2.2.2 L).2.1.2 p j = dd at hfg hd hcj ⊢
    have hvd : vp_in (nI dd) 7 := vp_in_nI (by omega) (by omega)
    refine ⟨hL, hL, fun z => absurd z (nI_ge (by show p + j < (σ.2.2.2 L).2.1.1; omega) (by show (σ.2.2.2 L).2.1.1 < 2 ^ 31; omega)), fun _ => ⟨hL, hL, vp_in_nI (by show p + j < (σ.2.2.2 L).2.1.1; omega) (by show (σ.2.2.2 L).2.1.1 < 2 ^ 31; omega), ?_⟩⟩
    rw [nI_clamp (by omega)]
    have et : (cA (cA σ 33 f) 34 g).2.2 = σ.2.2 := rfl
    rw [et]
    rintro _ rfl
    have e33 : (cA (cA σ 33 f) 34 g).2.1 33 = f := rfl
    have e34 : (cA (cA σ 33 f) 34 g).2.1 34 = g := rfl
    have e32 : (cA (cA σ 33 f) 34 g).2.1 32 = σ.2.1 32 := rfl
    have eS : depE (σ.2.2.2 L).2.1.2 p (j + 1) = depT ((σ.2.2.2 L).2.1.2 (p + j)) dd := by rw [depE, hdd]
    have eV : evE (σ.2.2.2 L).2.1.2 (σ.2.1 32) p (j + 1) = evT (σ.2.1 32) ((σ.2.2.2 L).2.1.2 (p + j)) dd (evE (σ.2.2.2 L).2.1.2 (σ.2.1 32) p j) := by rw [evE, hdd]
    rw [eS, eV] at ih
    rw [eS] at hd'
    generalize (σ.2.2.2 L).2.1.2 (p + j) = t at ih hcj hd' ⊢
    generalize evE (σ.2.2.2 L).2.1.2 (σ.2.1 32) p j = a at ih hfg
    have ep : p + (j + 1) = p + j + 1 := rfl
    rw [ep] at ih
    have hfd := hfg dd (by omega)
    rw [nI_clamp (show dd < 2 ^ 31 by omega)]
    rcases hcj with ⟨v, hv, e⟩ | ⟨x, hx, e⟩ | e | e | e | ⟨e, h6⟩ | ⟨e, h6⟩
    · subst e
      have n0 : ¬ 10000 ≤ nI v := nI_ge (b := 10000) hv (by omega)
      have n1 : ¬ nI v = 10021 := fun z => absurd ((nI_eq (b := 10021) (by omega) (by omega)).mp z) (by omega)
      have n2 : ¬ nI v = 10022 := fun z => absurd ((nI_eq (b := 10022) (by omega) (by omega)).mp z) (by omega)
      have n3 : ¬ nI v = 10023 := fun z => absurd ((nI_eq (b := 10023) (by omega) (by omega)).mp z) (by omega)
      have n4 : ¬ nI v = 10028 := fun z => absurd ((nI_eq (b := 10028) (by omega) (by omega)).mp z) (by omega)
      have n5 : ¬ nI v = 10029 := fun z => absurd ((nI_eq (b := 10029) (by omega) (by omega)).mp z) (by omega)
      have n6 : nI v < 10000 := nI_lt (b := 10000) hv (by omega)
      refine ⟨fun z => absurd z n0, fun _ => ⟨hvd, hvd, ?_⟩⟩
      rintro _ rfl _ rfl
      rw [cA_same, nI_1, e34]
      rw [depT, if_neg n4, if_neg n5, evT, if_neg n1, if_neg n2, if_neg n3, if_neg n4, if_neg n5, if_pos n6] at ih
      refine ih f _ (fun i hi => ?_)
      have := hfg i hi
      simp only [upd_at]
      rw [hfd.2]
      by_cases ei : i = dd
      · rw [if_pos ei, if_pos ei]
        exact ⟨this.1, rfl⟩
      · rw [if_neg ei, if_neg ei]
        exact this
    · subst e
      have n0 : 10000 ≤ nI (10008 + x) := nI_le (a := 10000) (by omega) (by omega)
      have n0' : ¬ nI (10008 + x) < 10008 := nI_nlt (b := 10008) (by omega) (by omega)
      have n0'' : ¬ 10020 ≤ nI (10008 + x) := nI_ge (b := 10020) (by omega) (by omega)
      have n1 : ¬ nI (10008 + x) = 10021 := fun z => absurd ((nI_eq (b := 10021) (by omega) (by omega)).mp z) (by omega)
      have n2 : ¬ nI (10008 + x) = 10022 := fun z => absurd ((nI_eq (b := 10022) (by omega) (by omega)).mp z) (by omega)
      have n3 : ¬ nI (10008 + x) = 10023 := fun z => absurd ((nI_eq (b := 10023) (by omega) (by omega)).mp z) (by omega)
      have n4 : ¬ nI (10008 + x) = 10028 := fun z => absurd ((nI_eq (b := 10028) (by omega) (by omega)).mp z) (by omega)
      have n5 : ¬ nI (10008 + x) = 10029 := fun z => absurd ((nI_eq (b := 10029) (by omega) (by omega)).mp z) (by omega)
      have n6 : ¬ nI (10008 + x) < 10000 := nI_nlt (b := 10000) (by omega) (by omega)
      have ex : nI (10008 + x) - 10008 = nI x := by
        have := pk_sub (a := 10008 + x) (b := 10008) (by omega)
        rw [Nat.add_sub_cancel_left] at this
        exact this
      refine ⟨fun _ => ⟨fun z => absurd z n0', fun _ => ⟨fun z => absurd z n0'', fun _ => ⟨hvd, by rw [ex]; exact vp_in_nI hx (by omega), hvd, ?_⟩⟩⟩, fun z => absurd n0 z⟩
      rintro _ rfl _ rfl
      rw [cA_same, nI_1, e34, e32]
      rw [depT, if_neg n4, if_neg n5, evT, if_neg n1, if_neg n2, if_neg n3, if_neg n4, if_neg n5, if_neg n6] at ih
      refine ih f _ (fun i hi => ?_)
      have := hfg i hi
      simp only [upd_at]
      rw [hfd.2]
      by_cases ei : i = dd
      · rw [if_pos ei, if_pos ei]
        exact ⟨this.1, rfl⟩
      · rw [if_neg ei, if_neg ei]
        exact this
    all_goals subst e
    · refine ⟨fun _ => ⟨fun z => absurd z (by decide), fun _ => ⟨fun _ => ⟨fun _ => ?_, fun z => absurd rfl z⟩, fun z => absurd (by decide) z⟩⟩, fun z => absurd (by decide) z⟩
      refine ⟨hvd, hvd, hvd, ?_⟩
      rw [nI_clamp (by omega), e33, e34]
      rintro _ rfl
      refine ⟨fun _ => ⟨hvd, ?_⟩, fun z => absurd rfl z⟩
      rw [nI_clamp (by omega), c33]
      rintro _ rfl _ rfl
      rw [cA_same, nI_1]
      refine ih _ _ (fun i hi => ?_)
      have := hfg i hi
      simp only [evT, upd_at, if_true]
      show _ ∧ upd g dd 1 i = _
      rw [hfd.1, hfd.2, upd_at]
      by_cases ei : i = dd
      · rw [if_pos ei, if_pos ei, if_pos ei, if_pos ei]
        exact ⟨rfl, rfl⟩
      · rw [if_neg ei, if_neg ei, if_neg ei, if_neg ei]
        exact this
    · refine ⟨fun _ => ⟨fun z => absurd z (by decide), fun _ => ⟨fun _ => ⟨fun z => absurd z (by decide), fun _ => ⟨fun _ => ?_, fun z => absurd rfl z⟩⟩, fun z => absurd (by decide) z⟩⟩, fun z => absurd (by decide) z⟩
      refine ⟨hvd, hvd, hvd, ?_⟩
      rw [nI_clamp (by omega), e33, e34]
      rintro _ rfl
      refine ⟨fun z => absurd z (by decide), fun _ => ⟨hvd, ?_⟩⟩
      rw [nI_clamp (by omega), c33]
      rintro _ rfl _ rfl
      rw [cA_same, nI_1]
      refine ih _ _ (fun i hi => ?_)
      have := hfg i hi
      rw [evT, if_neg (by decide), if_pos rfl]
      show upd f dd (f dd + g dd) i = upd a.1 dd (a.1 dd + a.2 dd) i ∧ upd g dd (-1) i = upd a.2 dd (-1) i
      rw [hfd.1, hfd.2, upd_at, upd_at, upd_at, upd_at]
      by_cases ei : i = dd
      · rw [if_pos ei, if_pos ei, if_pos ei, if_pos ei]
        exact ⟨rfl, rfl⟩
      · rw [if_neg ei, if_neg ei, if_neg ei, if_neg ei]
        exact this
    · refine ⟨fun _ => ⟨fun z => absurd z (by decide), fun _ => ⟨fun _ => ⟨fun z => absurd z (by decide), fun _ => ⟨fun z => absurd z (by decide), fun _ => ⟨fun z => absurd z (by decide), fun _ => ⟨fun z => absurd z (by decide), fun _ => ⟨fun _ => ?_, fun z => absurd rfl z⟩⟩⟩⟩⟩, fun z => absurd (by decide) z⟩⟩, fun z => absurd (by decide) z⟩
      rintro _ rfl
      rw [nI_1]
      refine ih _ _ (fun i hi => ?_)
      rw [evT, if_neg (by decide), if_neg (by decide), if_pos rfl]
      exact hfg i hi
    · have hv1 : vp_in (nI (dd + 1)) 7 := vp_in_nI (by omega) (by omega)
      refine ⟨fun _ => ⟨fun z => absurd z (by decide), fun _ => ⟨fun _ => ⟨fun z => absurd z (by decide), fun _ => ⟨fun z => absurd z (by decide), fun _ => ⟨fun _ => ⟨fun z => absurd z (nI_ge (b := 6) h6 (by omega)), fun _ => ?_⟩, fun z => absurd rfl z⟩⟩⟩, fun z => absurd (by decide) z⟩⟩, fun z => absurd (by decide) z⟩
      rintro _ rfl
      rw [nI_1, nI_clamp (by omega)]
      refine ⟨hv1, ?_⟩
      rw [c33, e33]
      rintro _ rfl
      refine ⟨hv1, ?_⟩
      rw [cA_same]
      rintro _ rfl _ rfl
      rw [nI_1]
      refine ih _ _ (fun i hi => ?_)
      have hi : i ≤ dd + 1 := hi
      rw [evT, if_neg (by decide), if_neg (by decide), if_neg (by decide), if_pos rfl]
      show upd f (dd + 1) 0 i = upd a.1 (dd + 1) 0 i ∧ upd g (dd + 1) 1 i = upd a.2 (dd + 1) 1 i
      rw [upd_at, upd_at, upd_at, upd_at]
      by_cases ei : i = dd + 1
      · rw [if_pos ei, if_pos ei, if_pos ei, if_pos ei]
        exact ⟨rfl, rfl⟩
      · rw [if_neg ei, if_neg ei, if_neg ei, if_neg ei]
        exact hfg i (by omega)
    · obtain ⟨d1, rfl⟩ : ∃ d1, dd = d1 + 1 := ⟨dd - 1, by omega⟩
      have hv1 : vp_in (nI d1) 7 := vp_in_nI (by omega) (by omega)
      refine ⟨fun _ => ⟨fun z => absurd z (by decide), fun _ => ⟨fun _ => ⟨fun z => absurd z (by decide), fun _ => ⟨fun z => absurd z (by decide), fun _ => ⟨fun z => absurd z (by decide), fun _ => ⟨fun _ => ⟨fun z => absurd z (nI_nle (by omega) (by omega)), fun _ => ?_⟩, fun z => absurd rfl z⟩⟩⟩⟩, fun z => absurd (by decide) z⟩⟩, fun z => absurd (by decide) z⟩
      rintro _ rfl
      rw [pk_m1, nI_1, nI_clamp (by omega), nI_clamp (by omega)]
      refine ⟨hv1, hvd, hvd, hv1, ?_⟩
      rw [cA_same, e33, e34]
      rintro _ rfl _ rfl
      rw [nI_1]
      refine ih _ _ (fun i hi => ?_)
      have hi : i ≤ d1 := hi
      have h1 := hfg d1 (by omega)
      rw [evT, if_neg (by decide), if_neg (by decide), if_neg (by decide), if_neg (by decide), if_pos rfl]
      show f i = a.1 i ∧ upd g d1 (g d1 * (f (d1 + 1) + g (d1 + 1))) i = upd a.2 d1 (a.2 d1 * (a.1 (d1 + 1) + a.2 (d1 + 1))) i
      rw [upd_at, upd_at, hfd.1, hfd.2, h1.2]
      refine ⟨(hfg i (by omega)).1, ?_⟩
      by_cases ei : i = d1
      · rw [if_pos ei, if_pos ei]
      · rw [if_neg ei, if_neg ei]
        exact (hfg i (by omega)).2
