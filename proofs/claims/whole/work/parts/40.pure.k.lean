/-! pure level: person -/
theorem mA_self (σ : MS) (j : Nat) : mA σ j (σ.2.1 j) = σ := by
  have : va_up σ.2.1 j (σ.2.1 j) = σ.2.1 := by
    funext k
    show (if k = j then σ.2.1 j else σ.2.1 k) = σ.2.1 k
    by_cases e : k = j
    · rw [if_pos e, e]
    · rw [if_neg e]
  show (σ.1, va_up σ.2.1 j (σ.2.1 j), σ.2.2) = σ
  rw [this]
theorem cA_self (σ : CS) (j : Nat) : cA σ j (σ.2.1 j) = σ := by
  have : va_up σ.2.1 j (σ.2.1 j) = σ.2.1 := by
    funext k
    show (if k = j then σ.2.1 j else σ.2.1 k) = σ.2.1 k
    by_cases e : k = j
    · rw [if_pos e, e]
    · rw [if_neg e]
  show (σ.1, va_up σ.2.1 j (σ.2.1 j), σ.2.2) = σ
  rw [this]
/-- a parent's part in the new row -/
def upP (u : Nat → Int32) (f : Int32) (b : Int32) (c : Nat) : Int32 := if f = -1 then b else if b ≤ u (12 * f.toNatClampNeg + c) + 1 then b else u (12 * f.toNatClampNeg + c) + 1
def upV (u : Nat → Int32) (f m : Int32) (n c : Nat) : Int32 := upP u m (upP u f (if c = n then 0 else 99) c) c
def rowAt (u v : Nat → Int32) (n c : Nat) : Nat → Int32 := fun j => if 12 * n ≤ j ∧ j < 12 * n + c then v (j - 12 * n) else u j
theorem rowAt_0 (u v : Nat → Int32) (n : Nat) : rowAt u v n 0 = u := by
  funext j
  simp only [rowAt]
  rw [if_neg (by omega)]
theorem rowAt_s (u v : Nat → Int32) (n c : Nat) : upd (rowAt u v n c) (12 * n + c) (v c) = rowAt u v n (c + 1) := by
  funext j
  simp only [upd_at, rowAt]
  by_cases e : j = 12 * n + c
  · rw [if_pos e, if_pos (by omega), e, Nat.add_sub_cancel_left]
  · rw [if_neg e]
    by_cases e2 : 12 * n ≤ j ∧ j < 12 * n + c
    · rw [if_pos e2, if_pos (by omega)]
    · rw [if_neg e2, if_neg (by omega)]
theorem rowAt_lt {u v : Nat → Int32} {n c j : Nat} (h : j < 12 * n) : rowAt u v n c j = u j := if_neg (by omega)
/-- no parent, or one of a lesser number -/
def isPa (f : Int32) (n : Nat) : Prop := f = -1 ∨ isN f n
theorem personUpM {σ : MS} {n : Nat} {f m : Int32} {Post : Int32 → MS → Prop} (hn : σ.1 40 = nI n) (hnn : n < 12) (hf : isPa f n) (hm : isPa m n)
    (hp : Post (nI n) (mF (mA σ 29 (rowAt (σ.2.1 29) (upV (σ.2.1 29) f m n) n 12)) 40 (nI (n + 1)))) : ∃ g, wpM_person_117 Post g σ f m 0 := by
  suffices h : ∀ d c, c + d = 12 → wpM_person_117 Post (d + 1) (mA σ 29 (rowAt (σ.2.1 29) (upV (σ.2.1 29) f m n) n c)) f m (nI c) by
    refine ⟨13, ?_⟩
    have := h 12 0 (by omega)
    rw [rowAt_0, mA_self] at this
    exact this
  intro d
  induction d with
  | zero =>
    intro c hc
    obtain rfl : c = 12 := by omega
    refine ⟨fun _ => ?_, fun z => absurd (by decide) z⟩
    rintro _ rfl
    show Post (σ.1 40 + 1 - 1) (mF _ 40 (σ.1 40 + 1))
    rw [hn, nI_m1, nI_1]
    exact hp
  | succ d ih =>
    intro c hc
    replace ih := ih (c + 1) (by omega)
    refine ⟨fun z => absurd z (nI_ge (a := c) (b := 12) (by omega) (by omega)), fun _ => ?_⟩
    have h139 : ∀ b : Int32, b = (if c = n then 0 else 99) → wpM_person_139 (fun a0 a1 a2 a3 => wpM_person_117 Post (d + 1) a0 a1 a2 a3) Post (mA σ 29 (rowAt (σ.2.1 29) (upV (σ.2.1 29) f m n) n c)) f m (nI c) b := by
      intro b hb
      have h221 : ∀ v : Int32, v = upV (σ.2.1 29) f m n c → wpM_person_221 (fun a0 a1 a2 a3 => wpM_person_117 Post (d + 1) a0 a1 a2 a3) Post (mA σ 29 (rowAt (σ.2.1 29) (upV (σ.2.1 29) f m n) n c)) f m (nI c) v := by
        rintro v rfl
        have e : (12 : Int32) * (mA σ 29 (rowAt (σ.2.1 29) (upV (σ.2.1 29) f m n) n c)).1 40 + nI c = nI (12 * n + c) := by
          show (12 : Int32) * σ.1 40 + nI c = _
          rw [hn, ix12]
        unfold wpM_person_221
        rw [e, nI_clamp (by omega)]
        refine ⟨vp_in_nI (by omega) (by omega), ?_⟩
        rintro _ rfl _ rfl
        show wpM_person_117 Post (d + 1) (mA (mA σ 29 _) 29 (upd (rowAt (σ.2.1 29) (upV (σ.2.1 29) f m n) n c) (12 * n + c) (upV (σ.2.1 29) f m n c))) f m (nI c + 1)
        rw [mA_same, rowAt_s, nI_1]
        exact ih
      have h181 : ∀ v : Int32, v = upP (σ.2.1 29) f (if c = n then 0 else 99) c → wpM_person_181 (fun a0 a1 a2 a3 => wpM_person_117 Post (d + 1) a0 a1 a2 a3) Post (mA σ 29 (rowAt (σ.2.1 29) (upV (σ.2.1 29) f m n) n c)) f m (nI c) v := by
        rintro v hv
        rcases hm with e | ⟨a, ha, e⟩
        · exact ⟨fun _ => h221 v (by rw [upV, ← hv, upP, if_pos e]), fun z => absurd e z⟩
        · have em : ¬ m = -1 := by rw [e]; exact fun z => absurd (nI_pos (n := a) (by omega)) (by rw [z]; decide)
          subst e
          refine ⟨fun z => absurd z em, fun _ => ?_⟩
          rw [ix12, nI_clamp (show 12 * a + c < 2 ^ 31 by omega)]
          have hr : (mA σ 29 (rowAt (σ.2.1 29) (upV (σ.2.1 29) f (nI a) n) n c)).2.1 29 (12 * a + c) = σ.2.1 29 (12 * a + c) := rowAt_lt (by omega)
          rw [hr]
          have hvi : vp_in (nI (12 * a + c)) 144 := vp_in_nI (by omega) (by omega)
          refine ⟨hvi, fun z => h221 v ?_, fun z => ⟨hvi, ?_⟩⟩
          · rw [upV, ← hv, upP, if_neg em, nI_clamp (show a < 2 ^ 31 by omega), if_pos z]
          · rintro _ rfl
            exact h221 _ (by rw [upV, ← hv, upP, if_neg em, nI_clamp (show a < 2 ^ 31 by omega), if_neg z])
      rcases hf with e | ⟨a, ha, e⟩
      · exact ⟨fun _ => h181 b (by rw [hb, upP, if_pos e]), fun z => absurd e z⟩
      · have em : ¬ f = -1 := by rw [e]; exact fun z => absurd (nI_pos (n := a) (by omega)) (by rw [z]; decide)
        subst e
        refine ⟨fun z => absurd z em, fun _ => ?_⟩
        rw [ix12, nI_clamp (show 12 * a + c < 2 ^ 31 by omega)]
        have hr : (mA σ 29 (rowAt (σ.2.1 29) (upV (σ.2.1 29) (nI a) m n) n c)).2.1 29 (12 * a + c) = σ.2.1 29 (12 * a + c) := rowAt_lt (by omega)
        rw [hr]
        have hvi : vp_in (nI (12 * a + c)) 144 := vp_in_nI (by omega) (by omega)
        refine ⟨hvi, fun z => h181 b ?_, fun z => ⟨hvi, ?_⟩⟩
        · rw [← hb, upP, if_neg em, nI_clamp (show a < 2 ^ 31 by omega), if_pos z]
        · rintro _ rfl
          exact h181 _ (by rw [← hb, upP, if_neg em, nI_clamp (show a < 2 ^ 31 by omega), if_neg z])
    have ec : nI c = (mA σ 29 (rowAt (σ.2.1 29) (upV (σ.2.1 29) f m n) n c)).1 40 ↔ c = n := by
      show nI c = σ.1 40 ↔ c = n
      rw [hn]
      exact nI_eq (by omega) (by omega)
    exact ⟨fun z => h139 0 (by rw [if_pos (ec.mp z)]), fun z => h139 99 (by rw [if_neg (fun y => z (ec.mpr y))])⟩
/-- the class's new row -/
def stF (u : Nat → Int32) (f : Int32) (c : Nat) : Int32 := if f = -1 then 99 else u (12 * f.toNatClampNeg + c)
def upC (u : Nat → Int32) (f m : Int32) (c : Nat) : Int32 := if imin (stF u f c) (stF u m c) + 1 < 99 then imin (stF u f c) (stF u m c) + 1 else 99
theorem stepsPaC {σ : CS} {n c : Nat} {f : Int32} {u : Nat → Int32} {Post : Int32 → CS → Prop} (hn : σ.1 165 = nI (n + 1)) (hnn : n < 12) (hc : c < 12) (hf : isPa f n) (hu : ∀ j, j < 12 * n → σ.2.1 12 j = u j) (hp : Post (stF u f c) σ) : wpC_X1_stepsTo σ f (nI c) Post := by
  rcases hf with e | ⟨a, ha, e⟩
  · subst e
    refine hasC hn (by omega) (fun z => absurd z (fun ⟨k, hk, e⟩ => absurd (nI_pos (n := k) (by omega)) (by rw [← e]; decide))) (fun _ => ⟨fun _ => ?_, fun z => absurd rfl z⟩)
    rw [stF, if_pos rfl] at hp
    exact hp
  · subst e
    have em : ¬ nI a = -1 := fun z => absurd (nI_pos (n := a) (by omega)) (by rw [z]; decide)
    refine stepsC hn (by omega) (by omega) hc ?_
    rw [stF, if_neg em, nI_clamp (by omega)] at hp
    rw [hu _ (by omega)]
    exact hp
theorem personUpC {σ : CS} {n : Nat} {f m : Int32} {Post : Int32 → CS → Prop} (hn : σ.1 165 = nI (n + 1)) (hnn : n < 12) (hf : isPa f n) (hm : isPa m n)
    (hp : Post (nI n) (cA σ 12 (upd (rowAt (σ.2.1 12) (upC (σ.2.1 12) f m) n 12) (12 * n + n) 0))) : ∃ g, wpC_X1_add_54 Post g σ f m (nI n) 0 := by
  suffices h : ∀ d c, c + d = 12 → wpC_X1_add_54 Post (d + 1) (cA σ 12 (rowAt (σ.2.1 12) (upC (σ.2.1 12) f m) n c)) f m (nI n) (nI c) by
    refine ⟨13, ?_⟩
    have := h 12 0 (by omega)
    rw [rowAt_0, cA_self] at this
    exact this
  intro d
  induction d with
  | zero =>
    intro c hc
    obtain rfl : c = 12 := by omega
    refine ⟨fun _ => ?_, fun z => absurd (by decide) z⟩
    rw [ix12r, nI_clamp (by omega)]
    refine ⟨vp_in_nI (by omega) (by omega), ?_⟩
    rintro _ rfl
    rw [cA_same]
    exact hp
  | succ d ih =>
    intro c hc
    replace ih := ih (c + 1) (by omega)
    refine ⟨fun z => absurd z (nI_ge (a := c) (b := 12) (by omega) (by omega)), fun _ => ?_⟩
    refine stepsPaC (u := σ.2.1 12) hn hnn (by omega) hf (fun j hj => rowAt_lt hj) ?_
    refine stepsPaC (u := σ.2.1 12) hn hnn (by omega) hm (fun j hj => rowAt_lt hj) ?_
    rintro _ rfl _ rfl
    rw [ix12r, nI_clamp (by omega)]
    refine ⟨vp_in_nI (by omega) (by omega), ?_⟩
    rintro _ rfl _ rfl
    rw [cA_same, nI_1]
    have e := rowAt_s (σ.2.1 12) (upC (σ.2.1 12) f m) n c
    have e2 : (cA σ 12 (rowAt (σ.2.1 12) (upC (σ.2.1 12) f m) n c)).2.1 12 = rowAt (σ.2.1 12) (upC (σ.2.1 12) f m) n c := rfl
    rw [e2]
    show wpC_X1_add_54 Post (d + 1) (cA σ 12 (upd (rowAt (σ.2.1 12) (upC (σ.2.1 12) f m) n c) (12 * n + c) (upC (σ.2.1 12) f m c))) f m (nI n) (nI (c + 1))
    rw [e]
    exact ih
theorem upP_st {u : Nat → Int32} {f b : Int32} {c : Nat} (hb : b ≤ 99) : upP u f b c = if b ≤ stF u f c + 1 then b else stF u f c + 1 := by
  rw [upP, stF]
  by_cases e : f = -1
  · rw [if_pos e, if_pos e, if_pos (Int32.le_trans hb (by decide))]
  · rw [if_neg e, if_neg e]
theorem up2 {a b : Nat} (ha : a ≤ 99) (hb : b ≤ 99) : (if imin (nI a) (nI b) + 1 < 99 then imin (nI a) (nI b) + 1 else 99) = (if (if 99 ≤ nI a + 1 then 99 else nI a + 1) ≤ nI b + 1 then (if 99 ≤ nI a + 1 then 99 else nI a + 1) else nI b + 1) := by
  have e99 : (99 : Int32) = nI 99 := rfl
  have e1 : imin (nI a) (nI b) = nI (if b < a then b else a) := by
    rw [imin]
    by_cases c : b < a
    · rw [if_pos c, if_pos ((nI_ltI (by omega) (by omega)).mpr c)]
    · rw [if_neg c, if_neg (fun z => c ((nI_ltI (by omega) (by omega)).mp z))]
  have e2 : (if nI 99 ≤ nI (a + 1) then nI 99 else nI (a + 1)) = nI (if 99 ≤ a + 1 then 99 else a + 1) := by
    by_cases c : 99 ≤ a + 1
    · rw [if_pos c, if_pos ((nI_leI (by omega) (by omega)).mpr c)]
    · rw [if_neg c, if_neg (fun z => c ((nI_leI (by omega) (by omega)).mp z))]
  rw [e1, e99, nI_1, nI_1, nI_1, e2]
  have l1 := nI_ltI (a := (if b < a then b else a) + 1) (b := 99) (by split <;> omega) (by omega)
  have l2 := nI_leI (a := if 99 ≤ a + 1 then 99 else a + 1) (b := b + 1) (by split <;> omega) (by omega)
  rw [show (if nI ((if b < a then b else a) + 1) < nI 99 then nI ((if b < a then b else a) + 1) else nI 99) = nI (if (if b < a then b else a) + 1 < 99 then (if b < a then b else a) + 1 else 99) from by
    by_cases c : (if b < a then b else a) + 1 < 99
    · rw [if_pos c, if_pos (l1.mpr c)]
    · rw [if_neg c, if_neg (fun z => c (l1.mp z))]]
  rw [show (if nI (if 99 ≤ a + 1 then 99 else a + 1) ≤ nI (b + 1) then nI (if 99 ≤ a + 1 then 99 else a + 1) else nI (b + 1)) = nI (if (if 99 ≤ a + 1 then 99 else a + 1) ≤ b + 1 then (if 99 ≤ a + 1 then 99 else a + 1) else b + 1) from by
    by_cases c : (if 99 ≤ a + 1 then 99 else a + 1) ≤ b + 1
    · rw [if_pos c, if_pos (l2.mpr c)]
    · rw [if_neg c, if_neg (fun z => c (l2.mp z))]]
  refine congrArg nI ?_
  by_cases c1 : b < a <;> by_cases c2 : 99 ≤ a + 1 <;> simp only [c1, c2, if_true, if_false] <;> (repeat' split) <;> omega
theorem rows_same {u : Nat → Int32} {f m : Int32} {n : Nat} (hnn : n < 12) (hf : isPa f n) (hm : isPa m n) (hu : ∀ j, j < 12 * n → ¬ u j < 0 ∧ ¬ 99 < u j) : upd (rowAt u (upC u f m) n 12) (12 * n + n) 0 = rowAt u (upV u f m n) n 12 := by
  funext j
  simp only [upd_at, rowAt]
  have hs : ∀ g : Int32, isPa g n → ∀ c, c < 12 → ∃ x : Nat, x ≤ 99 ∧ stF u g c = nI x := by
    rintro g (e | ⟨a, ha, rfl⟩) c hc
    · exact ⟨99, by omega, by rw [stF, if_pos e]; rfl⟩
    · have h9 := hu (12 * a + c) (by omega)
      obtain ⟨x, hx, ex⟩ := nI_of h9.1
      refine ⟨x, ?_, ?_⟩
      · have := h9.2
        rw [ex] at this
        exact Classical.byContradiction (fun z => this (nI_lt (a := 99) (by omega) hx))
      · rw [stF, if_neg (fun z => absurd (nI_pos (n := a) (by omega)) (by rw [z]; decide)), nI_clamp (by omega)]
        exact ex
  by_cases e : j = 12 * n + n
  · rw [if_pos e, if_pos (by omega), e, Nat.add_sub_cancel_left]
    obtain ⟨x, hx, ex⟩ := hs f hf n hnn
    obtain ⟨y, hy, ey⟩ := hs m hm n hnn
    rw [upV, if_pos rfl, upP_st (b := 0) (by decide), ex, nI_1, if_pos (nI_pos' (by omega)), upP_st (by decide), ey, nI_1, if_pos (nI_pos' (by omega))]
  · rw [if_neg e]
    by_cases e2 : 12 * n ≤ j ∧ j < 12 * n + 12
    · rw [if_pos e2, if_pos e2]
      obtain ⟨x, hx, ex⟩ := hs f hf (j - 12 * n) (by omega)
      obtain ⟨y, hy, ey⟩ := hs m hm (j - 12 * n) (by omega)
      have e3 : ¬ j - 12 * n = n := by omega
      rw [upV, if_neg e3, upP_st (f := f) (by decide), ex, upP_st (f := m) (by split <;> grind), ey, upC, ex, ey]
      exact up2 hx hy
    · rw [if_neg e2, if_neg e2]
