/-! which TOKENS a text goes on with -/
def isIb (t : Int32) : Bool := decide (¬ t < 0 ∧ ¬ 10000 ≤ t)
def isVb (t : Int32) : Bool := decide (¬ t < 10008 ∧ ¬ 10020 ≤ t)
def stE (s d : Nat) (t : Int32) : Option (Nat × Nat × Nat) :=
  if t = 10020 then (if s = 0 then none else some (0, s, d)) else if s = 0 then (if ¬ t < 10024 ∧ ¬ 10027 < t then some (4, 1, d) else none) else if s = 2 then (if t = 10005 then some (4, 0, d) else none) else (if t = 10007 ∨ t = 10006 then some (4, 0, d) else none)
def stp (w s d : Nat) (t : Int32) : Option (Nat × Nat × Nat) :=
  if w = 0 then (if t = 10003 then some (2, s, d) else if t = 10004 then some (4, 2, d) else if t = 10000 ∨ t = 10001 ∨ t = 10002 then some (1, s, d) else none)
  else if w = 1 then (if t = 10005 then some (4, 0, d) else none)
  else if w = 2 then (if isIb t = true then some (3, s, d) else none)
  else if w = 3 then (if t = 10020 then some (0, s, d) else none)
  else if w = 4 then (if t = 10028 then some (4, s, d + 1) else if isIb t = true ∨ isVb t = true then some (5, s, d) else none)
  else (if t = 10029 then (if d = 0 then none else some (5, s, d - 1)) else if t = 10021 ∨ t = 10022 ∨ t = 10023 then some (4, s, d) else if d = 0 then stE s d t else none)
def rcN (w rc : Nat) : Nat := if w = 0 then rc + 1 else rc
def aNx (j : Nat) (t : Int32) (x : Option (Nat × Nat × Nat × Nat)) : Option (Nat × Nat × Nat × Nat) := match x with
  | none => none
  | some (w, s, d, rc) => if t = -1 then none else match stp w s d t with
    | none => none
    | some (w', s', d') => if 400 ≤ j ∨ 16 < rcN w rc ∨ 6 < d' then none else some (w', s', d', rcN w rc)
def aSt (tk : Nat → Int32) : Nat → Option (Nat × Nat × Nat × Nat)
  | 0 => some (0, 0, 0, 0)
  | j + 1 => aNx j (tk j) (aSt tk j)
theorem aSt_s {tk : Nat → Int32} {j w s d rc w' s' d' : Nat} (h : aSt tk j = some (w, s, d, rc)) (h1 : ¬ tk j = -1) (h2 : stp w s d (tk j) = some (w', s', d')) (h3 : ¬ (400 ≤ j ∨ 16 < rcN w rc ∨ 6 < d')) : aSt tk (j + 1) = some (w', s', d', rcN w rc) := by
  rw [aSt, h, aNx]
  simp only [if_neg h1, h2, if_neg h3]
theorem aSt_inv {tk : Nat → Int32} {j w' s' d' rc' : Nat} (h : aSt tk (j + 1) = some (w', s', d', rc')) : ∃ w s d rc, aSt tk j = some (w, s, d, rc) ∧ ¬ tk j = -1 ∧ stp w s d (tk j) = some (w', s', d') ∧ ¬ (400 ≤ j ∨ 16 < rcN w rc ∨ 6 < d') ∧ rc' = rcN w rc := by
  rw [aSt] at h
  cases hx : aSt tk j with
  | none => rw [hx] at h; exact absurd h (by simp [aNx])
  | some x =>
    obtain ⟨w, s, d, rc⟩ := x
    rw [hx, aNx] at h
    try simp only at h
    by_cases c : tk j = -1
    · rw [if_pos c] at h; exact absurd h (by simp)
    · rw [if_neg c] at h
      cases hs : stp w s d (tk j) with
      | none => rw [hs] at h; exact absurd h (by simp)
      | some y =>
        obtain ⟨a1, a2, a3⟩ := y
        rw [hs] at h
        try simp only at h
        by_cases c3 : 400 ≤ j ∨ 16 < rcN w rc ∨ 6 < a3
        · rw [if_pos c3] at h; exact absurd h (by simp)
        · rw [if_neg c3] at h
          simp only [Option.some.injEq, Prod.mk.injEq] at h
          obtain ⟨e1, e2, e3, e4⟩ := h
          subst e1 e2 e3 e4
          exact ⟨w, s, d, rc, rfl, c, hs, c3, rfl⟩
theorem aSt_pre {tk : Nat → Int32} {j : Nat} : ∀ k, k ≤ j → (∃ x, aSt tk j = some x) → ∃ y, aSt tk k = some y := by
  induction j with
  | zero => intro k hk _; exact ⟨_, by rw [show k = 0 by omega]; rfl⟩
  | succ j ih =>
    intro k hk hx
    by_cases e : k = j + 1
    · rw [e]; exact hx
    · obtain ⟨⟨w, s, d, rc⟩, h⟩ := hx
      obtain ⟨w1, s1, d1, rc1, h1, _⟩ := aSt_inv h
      exact ih k (by omega) ⟨_, h1⟩
theorem aSt_bd {tk : Nat → Int32} {j w s d rc : Nat} (h : aSt tk j = some (w, s, d, rc)) : j ≤ 400 ∧ d ≤ 6 ∧ rc ≤ 16 := by
  cases j with
  | zero =>
    simp only [aSt, Option.some.injEq, Prod.mk.injEq] at h
    omega
  | succ j =>
    obtain ⟨w1, s1, d1, rc1, _, _, _, h3, h4⟩ := aSt_inv h
    omega
/-- where and how the text ends -/
def Vd (tk : Nat → Int32) (f j : Nat) : Prop := ∃ w s d rc, aSt tk j = some (w, s, d, rc) ∧ ((tk j = -1 ∧ f = if w = 0 then 0 else 1) ∨ (¬ tk j = -1 ∧ stp w s d (tk j) = none ∧ f = 1) ∨ (¬ tk j = -1 ∧ f = 2 ∧ ∃ w' s' d', stp w s d (tk j) = some (w', s', d') ∧ (400 ≤ j ∨ 16 < rcN w rc ∨ 6 < d')))
theorem Vd_no {tk : Nat → Int32} {f j : Nat} (h : Vd tk f j) : aSt tk (j + 1) = none := by
  obtain ⟨w, s, d, rc, h1, h2⟩ := h
  rw [aSt, h1, aNx]
  rcases h2 with ⟨q, _⟩ | ⟨q, q2, _⟩ | ⟨q, _, w', s', d', q2, q3⟩
  · simp only [if_pos q]
  · simp only [if_neg q, q2]
  · simp only [if_neg q, q2, if_pos q3]
theorem Vd_uniq {tk : Nat → Int32} {f j f' j' : Nat} (h : Vd tk f j) (h' : Vd tk f' j') : f = f' ∧ j = j' := by
  have hlt : ∀ {f j f' j' : Nat}, Vd tk f j → Vd tk f' j' → ¬ j < j' := by
    intro f j f' j' h h' hlt
    obtain ⟨w, s, d, rc, h1, _⟩ := h'
    obtain ⟨y, hy⟩ := aSt_pre (j + 1) (by omega) ⟨_, h1⟩
    rw [Vd_no h] at hy
    exact absurd hy (by simp)
  have e : j = j' := by
    have a := hlt h h'
    have b := hlt h' h
    omega
  subst e
  refine ⟨?_, rfl⟩
  obtain ⟨w, s, d, rc, h1, h2⟩ := h
  obtain ⟨w', s', d', rc', h1', h2'⟩ := h'
  rw [h1] at h1'
  simp only [Option.some.injEq, Prod.mk.injEq] at h1'
  obtain ⟨e1, e2, e3, e4⟩ := h1'
  subst e1 e2 e3 e4
  rcases h2 with ⟨q, r⟩ | ⟨q, q2, r⟩ | ⟨q, r, _, _, _, q2, _⟩ <;> rcases h2' with ⟨p, u⟩ | ⟨p, p2, u⟩ | ⟨p, u, _, _, _, p2, _⟩
  · rw [r, u]
  · exact absurd q p
  · exact absurd q p
  · exact absurd p q
  · rw [r, u]
  · rw [q2] at p2; exact absurd p2 (by simp)
  · exact absurd p q
  · rw [p2] at q2; exact absurd q2 (by simp)
  · rw [r, u]
/-- the class's state while it reads -/
def pC (σ : CS) (F : Nat → Int32) (r4 r5 : Nat → Int32) : CS := ((fun k => if k = 22 ∨ k = 23 ∨ 62 ≤ k ∧ k ≤ 66 then F k else σ.1 k), (fun j => if j = 4 then r4 else if j = 5 then r5 else σ.2.1 j), σ.2.2)
theorem pC_F (σ : CS) (F : Nat → Int32) (r4 r5 : Nat → Int32) (k : Nat) (v : Int32) (h : k = 22 ∨ k = 23 ∨ 62 ≤ k ∧ k ≤ 66) : cF (pC σ F r4 r5) k v = pC σ (va_up F k v) r4 r5 := by
  have : va_up (fun k => if k = 22 ∨ k = 23 ∨ 62 ≤ k ∧ k ≤ 66 then F k else σ.1 k) k v = (fun i => if i = 22 ∨ i = 23 ∨ 62 ≤ i ∧ i ≤ 66 then va_up F k v i else σ.1 i) := by
    funext i
    show (if i = k then v else if i = 22 ∨ i = 23 ∨ 62 ≤ i ∧ i ≤ 66 then F i else σ.1 i) = if i = 22 ∨ i = 23 ∨ 62 ≤ i ∧ i ≤ 66 then (if i = k then v else F i) else σ.1 i
    by_cases e : i = k
    · rw [if_pos e, if_pos (by rw [e]; exact h), if_pos e]
    · rw [if_neg e, if_neg e]
  show (va_up (fun k => if k = 22 ∨ k = 23 ∨ 62 ≤ k ∧ k ≤ 66 then F k else σ.1 k) k v, _) = _
  rw [this]
  rfl
theorem pC_4 (σ : CS) (F : Nat → Int32) (r4 r5 f : Nat → Int32) : cA (pC σ F r4 r5) 4 f = pC σ F f r5 := by
  have : va_up (fun j => if j = 4 then r4 else if j = 5 then r5 else σ.2.1 j) 4 f = (fun j => if j = 4 then f else if j = 5 then r5 else σ.2.1 j) := by
    funext i
    show (if i = 4 then f else if i = 4 then r4 else if i = 5 then r5 else σ.2.1 i) = if i = 4 then f else if i = 5 then r5 else σ.2.1 i
    by_cases e : i = 4
    · rw [if_pos e, if_pos e]
    · rw [if_neg e, if_neg e, if_neg e]
  show (_, va_up (fun j => if j = 4 then r4 else if j = 5 then r5 else σ.2.1 j) 4 f, _) = _
  rw [this]
  rfl
theorem pC_5 (σ : CS) (F : Nat → Int32) (r4 r5 f : Nat → Int32) : cA (pC σ F r4 r5) 5 f = pC σ F r4 f := by
  have : va_up (fun j => if j = 4 then r4 else if j = 5 then r5 else σ.2.1 j) 5 f = (fun j => if j = 4 then r4 else if j = 5 then f else σ.2.1 j) := by
    funext i
    show (if i = 5 then f else if i = 4 then r4 else if i = 5 then r5 else σ.2.1 i) = if i = 4 then r4 else if i = 5 then f else σ.2.1 i
    by_cases e : i = 5
    · rw [if_pos e, if_neg (by omega), if_pos e]
    · rw [if_neg e, if_neg e, if_neg e]
  show (_, va_up (fun j => if j = 4 then r4 else if j = 5 then r5 else σ.2.1 j) 5 f, _) = _
  rw [this]
  rfl
theorem pC_self (σ : CS) : pC σ σ.1 (σ.2.1 4) (σ.2.1 5) = σ := by
  have h1 : (fun k => if k = 22 ∨ k = 23 ∨ 62 ≤ k ∧ k ≤ 66 then σ.1 k else σ.1 k) = σ.1 := by
    funext k
    split <;> rfl
  have h2 : (fun j => if j = 4 then σ.2.1 4 else if j = 5 then σ.2.1 5 else σ.2.1 j) = σ.2.1 := by
    funext j
    by_cases e : j = 4
    · rw [if_pos e, e]
    · rw [if_neg e]
      by_cases e2 : j = 5
      · rw [if_pos e2, e2]
      · rw [if_neg e2]
  show ((fun k => if k = 22 ∨ k = 23 ∨ 62 ≤ k ∧ k ≤ 66 then σ.1 k else σ.1 k), (fun j => if j = 4 then σ.2.1 4 else if j = 5 then σ.2.1 5 else σ.2.1 j), σ.2.2) = σ
  rw [h1, h2]
/-- what a step leaves -/
def StF (F F' : Nat → Int32) (w rc w' s' d' : Nat) : Prop := F' 22 = F 22 ∧ F' 23 = F 23 ∧ F' 62 = F 62 ∧ F' 63 = nI (rcN w rc) ∧ F' 64 = nI w' ∧ (4 ≤ w' → F' 65 = nI s') ∧ F' 66 = nI d'
theorem nar01 : narrow .boolean (.int 1) = .int 1 ∧ narrow .boolean (.int 0) = .int 0 := ⟨rfl, rfl⟩
theorem isIntC {σ : CS} {t : Int32} {Post : Int32 → CS → Prop} (h1 : isIb t = true → Post 1 σ) (h0 : ¬ isIb t = true → Post 0 σ) : wpC_X10_isInt σ t Post :=
  ⟨fun c => h0 (fun z => (of_decide_eq_true z).1 c), fun c => ⟨fun c2 => h0 (fun z => (of_decide_eq_true z).2 c2), fun c2 => h1 (decide_eq_true ⟨c, c2⟩)⟩⟩
theorem isVarC {σ : CS} {t : Int32} {Post : Int32 → CS → Prop} (h1 : isVb t = true → Post 1 σ) (h0 : ¬ isVb t = true → Post 0 σ) : wpC_X10_isVar σ t Post :=
  ⟨fun c => h0 (fun z => (of_decide_eq_true z).1 c), fun c => ⟨fun c2 => h0 (fun z => (of_decide_eq_true z).2 c2), fun c2 => h1 (decide_eq_true ⟨c, c2⟩)⟩⟩
theorem goesOnC {σ : CS} {F r4 r5 : Nat → Int32} {w s d rc : Nat} {t : Int32} {Post : Int32 → CS → Prop} (hw : w ≤ 5) (hrc : rc ≤ 16) (hs : s ≤ 2) (hd : d ≤ 6) (f63 : F 63 = nI rc) (f64 : F 64 = nI w) (f65 : 4 ≤ w → F 65 = nI s) (f66 : F 66 = nI d)
    (h1 : ∀ w' s' d' F' r5', stp w s d t = some (w', s', d') → StF F F' w rc w' s' d' → (∀ r, r5' r = if w = 0 ∧ r = rc ∧ rc < 16 then F 62 else r5 r) → Post 1 (pC σ F' r4 r5')) (h0 : stp w s d t = none → ∀ F' r5', F' 22 = F 22 → Post 0 (pC σ F' r4 r5')) : wpC_X3_goesOn (pC σ F r4 r5) t Post := by
  have g64 : (pC σ F r4 r5).1 64 = nI w := f64
  have n01 : ¬ nI 0 = 1 ∧ ¬ nI 0 = 2 ∧ ¬ nI 0 = 3 ∧ ¬ nI 0 = 4 := by decide
  have n1 : ¬ nI 1 = 0 ∧ ¬ nI 1 = 2 ∧ ¬ nI 1 = 3 ∧ ¬ nI 1 = 4 := by decide
  have n2 : ¬ nI 2 = 0 ∧ ¬ nI 2 = 1 ∧ ¬ nI 2 = 3 ∧ ¬ nI 2 = 4 := by decide
  have n3 : ¬ nI 3 = 0 ∧ ¬ nI 3 = 1 ∧ ¬ nI 3 = 2 ∧ ¬ nI 3 = 4 := by decide
  have n4 : ¬ nI 4 = 0 ∧ ¬ nI 4 = 1 ∧ ¬ nI 4 = 2 ∧ ¬ nI 4 = 3 := by decide
  have n5 : ¬ nI 5 = 0 ∧ ¬ nI 5 = 1 ∧ ¬ nI 5 = 2 ∧ ¬ nI 5 = 3 ∧ ¬ nI 5 = 4 := by decide
  unfold wpC_X3_goesOn
  rw [g64]
  rcases (show w = 0 ∨ w = 1 ∨ w = 2 ∨ w = 3 ∨ w = 4 ∨ w = 5 by omega) with rfl | rfl | rfl | rfl | rfl | rfl
  · refine ⟨fun _ => ?_, fun q => absurd q n01.1, fun q => absurd q n01.2.1, fun q => absurd q n01.2.2.1, fun q => absurd q n01.2.2.2, fun q => absurd rfl q.1⟩
    have ok : ∀ w' s' F' r5', stp 0 s d t = some (w', s', d) → F' 22 = F 22 → F' 23 = F 23 → F' 62 = F 62 → F' 63 = nI (rc + 1) → F' 64 = nI w' → (4 ≤ w' → F' 65 = nI s') → F' 66 = F 66 → (∀ r, r5' r = if r = rc ∧ rc < 16 then F 62 else r5 r) → narrow .boolean (.int 1) = .int 1 ∧ Post 1 (pC σ F' r4 r5') := by
      intro w' s' F' r5' a1 a2 a3 a4 a5 a6 a7 a8 a9
      exact ⟨rfl, h1 w' s' d F' r5' a1 ⟨a2, a3, a4, a5, a6, a7, a8.trans f66⟩ (fun r => by rw [a9 r]; simp)⟩
    have b22 : ∀ r5', (∀ r, r5' r = if r = rc ∧ rc < 16 then F 62 else r5 r) → wpC_X3_begins_22 (fun r1 σ2 => narrow .boolean (.int r1) = .int r1 ∧ Post r1 σ2) (pC σ F r4 r5') t := by
      intro r5' h5
      have e63 : (pC σ F r4 r5').1 63 + 1 = nI (rc + 1) := by
        show F 63 + 1 = _
        rw [f63, nI_1]
      rintro _ rfl
      rw [e63, pC_F _ _ _ _ _ _ (by omega)]
      refine ⟨fun c => ?_, fun c => ⟨fun c2 => ?_, fun c2 => ?_⟩⟩
      · rintro _ rfl
        rw [pC_F _ _ _ _ _ _ (by omega)]
        exact ok 2 s _ r5' (by rw [stp, if_pos rfl, if_pos c]) rfl rfl rfl rfl rfl (fun z => absurd z (by omega)) rfl h5
      · rintro _ rfl _ rfl
        rw [pC_F _ _ _ _ _ _ (by omega), pC_F _ _ _ _ _ _ (by omega)]
        exact ok 4 2 _ r5' (by rw [stp, if_pos rfl, if_neg c, if_pos c2]) rfl rfl rfl rfl rfl (fun _ => rfl) rfl h5
      · rintro _ rfl
        rw [pC_F _ _ _ _ _ _ (by omega)]
        have yes : (t = 10000 ∨ t = 10001 ∨ t = 10002) → narrow .boolean (.int 1) = .int 1 ∧ Post 1 (pC σ (va_up (va_up F 63 (nI (rc + 1))) 64 1) r4 r5') := fun z => ok 1 s _ r5' (by rw [stp, if_pos rfl, if_neg c, if_neg c2, if_pos z]) rfl rfl rfl rfl rfl (fun z => absurd z (by omega)) rfl h5
        refine ⟨fun c3 => yes (Or.inl c3), fun c3 => ⟨fun c4 => yes (Or.inr (Or.inl c4)), fun c4 => ⟨fun c5 => yes (Or.inr (Or.inr c5)), fun c5 => ⟨rfl, h0 ?_ _ _ rfl⟩⟩⟩⟩
        rw [stp, if_pos rfl, if_neg c, if_neg c2, if_neg]
        rintro (z | z | z)
        · exact c3 z
        · exact c4 z
        · exact c5 z
    have g63 : (pC σ F r4 r5).1 63 = nI rc := f63
    unfold wpC_X3_begins
    rw [g63]
    refine ⟨fun c => b22 r5 (fun r => ?_), fun c => ⟨?_, ?_⟩⟩
    · have : 16 ≤ rc := (nI_leI (a := 16) (by omega) (by omega)).mp c
      rw [if_neg (by omega)]
    · have : ¬ 16 ≤ rc := fun z => c (nI_le (a := 16) z (by omega))
      exact vp_in_nI (by omega) (by omega)
    · have hlt : ¬ 16 ≤ rc := fun z => c (nI_le (a := 16) z (by omega))
      rintro _ rfl
      rw [pC_5, nI_clamp (by omega)]
      refine b22 _ (fun r => ?_)
      show (if r = rc then F 62 else r5 r) = _
      by_cases e : r = rc
      · rw [if_pos e, if_pos ⟨e, by omega⟩]
      · rw [if_neg e, if_neg (fun z => e z.1)]
  · refine ⟨fun q => absurd q n1.1, fun _ => ?_, fun q => absurd q n1.2.1, fun q => absurd q n1.2.2.1, fun q => absurd q n1.2.2.2, fun q => absurd rfl q.2.1⟩
    rintro _ rfl _ rfl
    rw [pC_F _ _ _ _ _ _ (by omega), pC_F _ _ _ _ _ _ (by omega)]
    refine ⟨fun c => h1 4 0 d _ r5 (by rw [stp, if_neg (by decide), if_pos rfl, if_pos c]) ⟨rfl, rfl, rfl, f63, rfl, fun _ => rfl, f66⟩ (fun r => by rw [if_neg (fun z => absurd z.1 (by decide))]), fun c => h0 (by rw [stp, if_neg (by decide), if_pos rfl, if_neg c]) _ _ rfl⟩
  · refine ⟨fun q => absurd q n2.1, fun q => absurd q n2.2.1, fun _ => ?_, fun q => absurd q n2.2.2.1, fun q => absurd q n2.2.2.2, fun q => absurd rfl q.2.2.1⟩
    rintro _ rfl
    rw [pC_F _ _ _ _ _ _ (by omega)]
    refine isIntC (fun c => ⟨rfl, h1 3 s d _ r5 (by rw [stp, if_neg (by decide), if_neg (by decide), if_pos rfl, if_pos c]) ⟨rfl, rfl, rfl, f63, rfl, fun z => absurd z (by omega), f66⟩ (fun r => by rw [if_neg (fun z => absurd z.1 (by decide))])⟩) (fun c => ⟨rfl, h0 (by rw [stp, if_neg (by decide), if_neg (by decide), if_pos rfl, if_neg c]) _ _ rfl⟩)
  · refine ⟨fun q => absurd q n3.1, fun q => absurd q n3.2.1, fun q => absurd q n3.2.2.1, fun _ => ?_, fun q => absurd q n3.2.2.2, fun q => absurd rfl q.2.2.2.1⟩
    rintro _ rfl
    rw [pC_F _ _ _ _ _ _ (by omega)]
    refine ⟨fun c => h1 0 s d _ r5 (by rw [stp, if_neg (by decide), if_neg (by decide), if_neg (by decide), if_pos rfl, if_pos c]) ⟨rfl, rfl, rfl, f63, rfl, fun z => absurd z (by omega), f66⟩ (fun r => by rw [if_neg (fun z => absurd z.1 (by decide))]), fun c => h0 (by rw [stp, if_neg (by decide), if_neg (by decide), if_neg (by decide), if_pos rfl, if_neg c]) _ _ rfl⟩
  · refine ⟨fun q => absurd q n4.1, fun q => absurd q n4.2.1, fun q => absurd q n4.2.2.1, fun q => absurd q n4.2.2.2, fun _ => ?_, fun q => absurd rfl q.2.2.2.2⟩
    have g65 := f65 (by omega)
    have st4 : stp 4 s d t = if t = 10028 then some (4, s, d + 1) else if isIb t = true ∨ isVb t = true then some (5, s, d) else none := rfl
    refine ⟨fun c => ?_, fun c => ?_⟩
    · rintro _ rfl
      have e66 : (pC σ F r4 r5).1 66 + 1 = nI (d + 1) := by
        show F 66 + 1 = _
        rw [f66, nI_1]
      rw [e66, pC_F _ _ _ _ _ _ (by omega)]
      exact ⟨rfl, h1 4 s (d + 1) _ r5 (by rw [st4, if_pos c]) ⟨rfl, rfl, rfl, f63, f64, fun _ => g65, rfl⟩ (fun r => by rw [if_neg (fun z => absurd z.1 (by decide))])⟩
    · rintro _ rfl
      rw [pC_F _ _ _ _ _ _ (by omega)]
      have yes : (isIb t = true ∨ isVb t = true) → narrow .boolean (.int 1) = .int 1 ∧ Post 1 (pC σ (va_up F 64 5) r4 r5) := fun z => ⟨rfl, h1 5 s d _ r5 (by rw [st4, if_neg c, if_pos z]) ⟨rfl, rfl, rfl, f63, rfl, fun _ => g65, f66⟩ (fun r => by rw [if_neg (fun z => absurd z.1 (by decide))])⟩
      refine isIntC (fun c2 => ⟨fun z => absurd z no1, fun _ => yes (Or.inl c2)⟩) (fun c2 => ⟨fun _ => isVarC (fun c3 => ⟨fun z => absurd z no1, fun _ => yes (Or.inr c3)⟩) (fun c3 => ⟨fun _ => ⟨rfl, h0 ?_ _ _ rfl⟩, fun z => absurd rfl z⟩), fun z => absurd rfl z⟩)
      rw [st4, if_neg c, if_neg (fun z => z.elim c2 c3)]
  · refine ⟨fun q => absurd q n5.1, fun q => absurd q n5.2.1, fun q => absurd q n5.2.2.1, fun q => absurd q n5.2.2.2.1, fun q => absurd q n5.2.2.2.2, fun _ => ?_⟩
    have g65 := f65 (by omega)
    have st5 : stp 5 s d t = if t = 10029 then (if d = 0 then none else some (5, s, d - 1)) else if t = 10021 ∨ t = 10022 ∨ t = 10023 then some (4, s, d) else if d = 0 then stE s d t else none := rfl
    have nr : ∀ r, (if (5 : Nat) = 0 ∧ r = rc ∧ rc < 16 then F 62 else r5 r) = r5 r := fun r => if_neg (fun z => absurd z.1 (by decide))
    refine ⟨fun c => ?_, fun c => ?_⟩
    · rintro _ rfl
      have e66 : (pC σ F r4 r5).1 66 - 1 = nI d - 1 := by
        show F 66 - 1 = _
        rw [f66]
      rw [e66, pC_F _ _ _ _ _ _ (by omega)]
      by_cases ed : d = 0
      · refine ⟨fun _ => ⟨rfl, h0 (by rw [st5, if_pos c, if_pos ed]) _ _ rfl⟩, fun z => absurd ?_ z⟩
        show nI d - 1 < 0
        rw [ed]
        decide
      · have e1 : nI d - 1 = nI (d - 1) := pk_sub (a := d) (b := 1) (by omega)
        rw [e1]
        refine ⟨fun z => absurd z (nI_pos (by omega)), fun _ => ⟨rfl, h1 5 s (d - 1) _ r5 (by rw [st5, if_pos c, if_neg ed]) ⟨rfl, rfl, rfl, f63, f64, fun _ => g65, rfl⟩ (fun r => (nr r).symm)⟩⟩
    · have h51 : (t = 10021 ∨ t = 10022 ∨ t = 10023) → wpC_X3_goesBehindUnit_51 (fun r18 σ19 => narrow .boolean (.int r18) = .int r18 ∧ Post r18 σ19) (pC σ F r4 r5) := by
        intro z
        rintro _ rfl
        rw [pC_F _ _ _ _ _ _ (by omega)]
        exact ⟨rfl, h1 4 s d _ r5 (by rw [st5, if_neg c, if_pos z]) ⟨rfl, rfl, rfl, f63, rfl, fun _ => g65, f66⟩ (fun r => (nr r).symm)⟩
      refine ⟨fun c1 => h51 (Or.inl c1), fun c1 => ⟨fun c2 => h51 (Or.inr (Or.inl c2)), fun c2 => ⟨fun c3 => h51 (Or.inr (Or.inr c3)), fun c3 => ?_⟩⟩⟩
      have nop : ¬ (t = 10021 ∨ t = 10022 ∨ t = 10023) := by
        rintro (z | z | z)
        · exact c1 z
        · exact c2 z
        · exact c3 z
      have g66 : (pC σ F r4 r5).1 66 = nI d := f66
      rw [g66]
      refine ⟨fun cd => ?_, fun cd => ⟨rfl, h0 (by rw [st5, if_neg c, if_neg nop, if_neg (fun z => cd (by rw [z]; rfl))]) _ _ rfl⟩⟩
      have ed : d = 0 := by
        have := (nI_eq (a := d) (b := 0) (by omega) (by omega)).mp cd
        exact this
      rw [if_neg c, if_neg nop, if_pos ed] at st5
      have yes : ∀ w' s' F', stE s d t = some (w', s', d) → F' 22 = F 22 → F' 23 = F 23 → F' 62 = F 62 → F' 63 = F 63 → F' 64 = nI w' → (4 ≤ w' → F' 65 = nI s') → F' 66 = F 66 → ((1 : Int32) = 0 → narrow .boolean (.int 0) = .int 0 ∧ Post 0 (pC σ F' r4 r5)) ∧ (¬ (1 : Int32) = 0 → narrow .boolean (.int 1) = .int 1 ∧ Post 1 (pC σ F' r4 r5)) := by
        intro w' s' F' a1 a2 a3 a4 a5 a6 a7 a8
        exact ⟨fun z => absurd z no1, fun _ => ⟨rfl, h1 w' s' d F' r5 (by rw [st5, a1]) ⟨a2, a3, a4, a5.trans f63, a6, a7, a8.trans f66⟩ (fun r => (nr r).symm)⟩⟩
      have no : ∀ F', stE s d t = none → F' 22 = F 22 → ((0 : Int32) = 0 → narrow .boolean (.int 0) = .int 0 ∧ Post 0 (pC σ F' r4 r5)) ∧ (¬ (0 : Int32) = 0 → narrow .boolean (.int 1) = .int 1 ∧ Post 1 (pC σ F' r4 r5)) := by
        intro F' a1 a2
        exact ⟨fun _ => ⟨rfl, h0 (by rw [st5, a1]) _ _ a2⟩, fun z => absurd rfl z⟩
      refine ⟨fun c4 => ?_, fun c4 => ?_⟩
      · rintro _ rfl
        rw [pC_F _ _ _ _ _ _ (by omega)]
        have e65 : (pC σ (va_up F 64 0) r4 r5).1 65 = nI s := g65
        rw [e65]
        refine ⟨fun cs => ?_, fun cs => ?_⟩
        · have es : s = 0 := (nI_eq (a := s) (b := 0) (by omega) (by omega)).mp cs
          exact no _ (by rw [stE, if_pos c4, if_pos es]) rfl
        · have es : ¬ s = 0 := fun z => cs (by rw [z]; rfl)
          exact yes 0 s _ (by rw [stE, if_pos c4, if_neg es]) rfl rfl rfl rfl rfl (fun z => absurd z (by omega)) rfl
      · rintro _ rfl
        rw [pC_F _ _ _ _ _ _ (by omega)]
        have e65 : (pC σ (va_up F 64 4) r4 r5).1 65 = nI s := g65
        rw [e65]
        refine ⟨fun cs => ?_, fun cs => ?_⟩
        · have es : s = 0 := (nI_eq (a := s) (b := 0) (by omega) (by omega)).mp cs
          rintro _ rfl
          rw [pC_F _ _ _ _ _ _ (by omega)]
          refine ⟨fun c5 => no _ (by rw [stE, if_neg c4, if_pos es, if_neg (fun z => z.1 c5)]) rfl, fun c5 => ⟨fun c6 => no _ (by rw [stE, if_neg c4, if_pos es, if_neg (fun z => z.2 c6)]) rfl, fun c6 => yes 4 1 _ (by rw [stE, if_neg c4, if_pos es, if_pos ⟨c5, c6⟩]) rfl rfl rfl rfl rfl (fun _ => rfl) rfl⟩⟩
        · have es : ¬ s = 0 := fun z => cs (by rw [z]; rfl)
          refine ⟨fun c5 => ?_, fun c5 => ?_⟩
          · have es2 : s = 2 := (nI_eq (a := s) (b := 2) (by omega) (by omega)).mp c5
            rintro _ rfl
            rw [pC_F _ _ _ _ _ _ (by omega)]
            refine ⟨fun z => absurd z no1, fun _ => ⟨fun c6 => yes 4 0 _ (by rw [stE, if_neg c4, if_neg es, if_pos es2, if_pos c6]) rfl rfl rfl rfl rfl (fun _ => rfl) rfl, fun c6 => no _ (by rw [stE, if_neg c4, if_neg es, if_pos es2, if_neg c6]) rfl⟩⟩
          · have es2 : ¬ s = 2 := fun z => c5 (by rw [z]; rfl)
            rintro _ rfl
            rw [pC_F _ _ _ _ _ _ (by omega)]
            have y4 : (t = 10007 ∨ t = 10006) → ((1 : Int32) = 0 → narrow .boolean (.int 0) = .int 0 ∧ Post 0 (pC σ (va_up (va_up F 64 4) 65 0) r4 r5)) ∧ (¬ (1 : Int32) = 0 → narrow .boolean (.int 1) = .int 1 ∧ Post 1 (pC σ (va_up (va_up F 64 4) 65 0) r4 r5)) := fun z => yes 4 0 _ (by rw [stE, if_neg c4, if_neg es, if_neg es2, if_pos z]) rfl rfl rfl rfl rfl (fun _ => rfl) rfl
            refine ⟨fun _ => ⟨fun c6 => y4 (Or.inl c6), fun c6 => ⟨fun c7 => y4 (Or.inr c7), fun c7 => no _ (by rw [stE, if_neg c4, if_neg es, if_neg es2, if_neg (fun z => z.elim c6 c7)]) rfl⟩⟩, fun z => absurd rfl z⟩
