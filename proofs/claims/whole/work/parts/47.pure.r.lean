/-! pure level: rules of a text -/
/-- a COND's relations from f on, and its text from p on -/
def CoE (tk : Nat → Int32) (N : Nat) (σ : MS) (pg x p : Nat) : Prop := ∃ f n, σ.2.1 15 x = nI f ∧ σ.2.1 16 x = nI (f + (n + 1)) ∧ f + (n + 1) ≤ 200 ∧ σ.2.1 22 (200 * pg + f) = 1 ∧ p < 1000 ∧ ChE tk N (σ.2.1 18) (σ.2.1 19) (σ.2.1 20) (σ.2.1 21) (σ.2.1 22) (σ.2.1 23) (σ.2.1 24) (n + 1) (200 * pg + f) p
/-- a RULE of a text that begins at k0, and what was told of it -/
def RuE (tk : Nat → Int32) (N : Nat) (σ : MS) (pg x k0 : Nat) : Prop := k0 < N ∧ ∃ z, z < 5 ∧ tk k0 = nI (10000 + z) ∧ σ.2.1 11 x = nI z ∧
  ((z < 3 ∧ CoE tk N σ pg x (k0 + 2)) ∨ (z = 3 ∧ k0 + 1 < N ∧ ∃ v, v < 10000 ∧ tk (k0 + 1) = nI v ∧ σ.2.1 12 x = nI v) ∨
   (z = 4 ∧ ∃ q fr to, σ.2.1 13 x = nI fr ∧ σ.2.1 14 x = nI to ∧ EqE tk N (k0 + 1) q (σ.2.1 23) (σ.2.1 24) fr to ∧ ((tk q = 10005 ∧ CoE tk N σ pg x (q + 1)) ∨ (¬ tk q = 10005 ∧ σ.2.1 15 x = σ.2.1 16 x))))
def hoV (σ : MS) (w : Nat → Int32) (pg x : Nat) : Bool := if σ.2.1 15 x = σ.2.1 16 x then true else chV (σ.2.1 18) (σ.2.1 19) (σ.2.1 20) (σ.2.1 21) (σ.2.1 22) (σ.2.1 23) (σ.2.1 24) w ((σ.2.1 16 x).toNatClampNeg - (σ.2.1 15 x).toNatClampNeg) (200 * pg + (σ.2.1 15 x).toNatClampNeg) true
def fstF (h : Nat → Bool) : Nat → Nat → Int32
  | 0, _ => -1
  | d + 1, i => if h i = true then nI i else fstF h d (i + 1)
def ruH (σ : MS) (w : Nat → Int32) (l : Nat) (z : Int32) : Nat → Bool := fun r => decide (σ.2.1 11 (16 * l + r) = z) && hoV σ w l (16 * l + r)
def ruV (σ : MS) (w : Nat → Int32) (lo z : Int32) : Int32 := if lo = -1 then -1 else fstF (ruH σ w lo.toNatClampNeg z) (σ.2.1 10 lo.toNatClampNeg).toNatClampNeg 0
def lpF (rs ri : Nat → Int32) (l : Nat) : Nat → Nat → Int32
  | 0, _ => -1
  | d + 1, i => if rs (16 * l + i) = 3 then ri (16 * l + i) else lpF rs ri l d (i + 1)
def lpV (σ : MS) (lo : Int32) : Int32 := if lo = -1 then -1 else lpF (σ.2.1 11) (σ.2.1 12) lo.toNatClampNeg (σ.2.1 10 lo.toNatClampNeg).toNatClampNeg 0
theorem co_hoV {tk : Nat → Int32} {N pg x p : Nat} {σ : MS} {w : Nat → Int32} (h : CoE tk N σ pg x p) : ∃ f n, σ.2.1 15 x = nI f ∧ σ.2.1 16 x = nI (f + (n + 1)) ∧ f + (n + 1) ≤ 200 ∧ σ.2.1 22 (200 * pg + f) = 1 ∧ p < 1000 ∧ ChE tk N (σ.2.1 18) (σ.2.1 19) (σ.2.1 20) (σ.2.1 21) (σ.2.1 22) (σ.2.1 23) (σ.2.1 24) (n + 1) (200 * pg + f) p ∧ ¬ σ.2.1 15 x = σ.2.1 16 x ∧ hoV σ w pg x = chV (σ.2.1 18) (σ.2.1 19) (σ.2.1 20) (σ.2.1 21) (σ.2.1 22) (σ.2.1 23) (σ.2.1 24) w (n + 1) (200 * pg + f) true := by
  obtain ⟨f, n, h1, h2, h3, h4, h5, h6⟩ := h
  have ne : ¬ σ.2.1 15 x = σ.2.1 16 x := by
    rw [h1, h2]
    exact fun z => absurd ((nI_eq (by omega) (by omega)).mp z) (by omega)
  refine ⟨f, n, h1, h2, h3, h4, h5, h6, ne, ?_⟩
  rw [hoV, if_neg ne, h1, h2, nI_clamp (by omega), nI_clamp (by omega)]
  have : f + (n + 1) - f = n + 1 := by omega
  rw [this]
theorem holdsM {σ : MS} {tk : Nat → Int32} {N pg x k0 : Nat} {Post : Int32 → MS → Prop} (hx : x < 144) (hpg : pg < 9) (h : RuE tk N σ pg x k0) (h3 : ¬ σ.2.1 11 x = 3) (hP : ∀ r, Post (b2 (hoV σ (σ.2.1 44) pg x)) (mA σ 45 r)) : wpM_holds σ (nI x) (nI pg) Post := by
  have hv : vp_in (nI x) 144 := vp_in_nI hx (by omega)
  have key : (∃ p, CoE tk N σ pg x p) ∨ σ.2.1 15 x = σ.2.1 16 x := by
    obtain ⟨_, z, hz, _, ez, c⟩ := h
    rcases c with ⟨_, c⟩ | ⟨c, _⟩ | ⟨_, q, fr, to, _, _, _, c⟩
    · exact Or.inl ⟨_, c⟩
    · rw [ez, c] at h3; exact absurd rfl h3
    · rcases c with ⟨_, c⟩ | ⟨_, c⟩
      · exact Or.inl ⟨_, c⟩
      · exact Or.inr c
  unfold wpM_holds
  rw [nI_clamp (by omega)]
  rcases key with ⟨p, c⟩ | c
  · obtain ⟨f, n, e1, e2, e3, e4, e5, e6, ne, eh⟩ := co_hoV (w := σ.2.1 44) c
    refine ⟨hv, hv, fun y => absurd y ne, fun _ => ⟨hv, ?_⟩⟩
    rintro _ rfl
    refine ⟨n + 2, ?_⟩
    rw [e1]
    have := holdsLoopM (σ := σ) (Post := Post) hx hpg (n + 1) f p true false (σ.2.1 45) e6 e2 e3 (Or.inl ⟨e4, rfl, rfl⟩) (fun r => by rw [← eh]; exact hP r)
    rw [mA_self] at this
    exact this
  · refine ⟨hv, hv, fun _ => ?_, fun y => absurd c y⟩
    have hP := hP (σ.2.1 45)
    rw [mA_self, hoV, if_pos c] at hP
    exact hP
/-- the rows of a law of the reference -/
def LwM (σ : MS) (l : Nat) : Prop := ∃ tk N nr, nr ≤ 16 ∧ σ.2.1 10 l = nI nr ∧ ∀ r, r < nr → ∃ k0, RuE tk N σ l (16 * l + r) k0
theorem ruleLoopM {σ : MS} {l nr : Nat} {z : Int32} {Post : Int32 → MS → Prop} (hl : l < 9) (h3 : ¬ z = 3) (hnr : nr ≤ 16) (e10 : σ.2.1 10 l = nI nr) (hR : ∀ r, r < nr → ∃ tk N k0, RuE tk N σ l (16 * l + r) k0) :
    ∀ d i, i + d = nr → (∀ r, Post (fstF (ruH σ (σ.2.1 44) l z) d i) (mA σ 45 r)) → ∀ r, wpM_ruleOf_16 Post (d + 1) (mA σ 45 r) z (nI l) (nI i) := by
  intro d
  have hv : vp_in (nI l) 9 := vp_in_nI hl (by omega)
  induction d with
  | zero =>
    intro i hi hP r
    obtain rfl : i = nr := by omega
    refine ⟨hv, fun _ => hP r, fun y => absurd ?_ y⟩
    rw [nI_clamp (by omega)]
    show σ.2.1 10 l ≤ nI i
    rw [e10]
    exact Int32.le_refl _
  | succ d ih =>
    intro i hi hP r
    obtain ⟨tk, N, k0, hRu⟩ := hR i (by omega)
    unfold wpM_ruleOf_16
    rw [ix16, nI_clamp (show l < 2 ^ 31 by omega), nI_clamp (show 16 * l + i < 2 ^ 31 by omega)]
    have e10' : (mA σ 45 r).2.1 10 l = nI nr := e10
    have e11 : (mA σ 45 r).2.1 11 (16 * l + i) = σ.2.1 11 (16 * l + i) := rfl
    rw [e10', e11]
    refine ⟨hv, fun y => absurd y (nI_ge (by omega) (by omega)), fun _ => ⟨vp_in_nI (by omega) (by omega), fun c => ?_, fun c => ?_⟩⟩
    · refine holdsM (σ := mA σ 45 r) (tk := tk) (N := N) (k0 := k0) (by omega) hl hRu (by show ¬ σ.2.1 11 (16 * l + i) = 3; rw [c]; exact h3) (fun r2 => ?_)
      rw [mA_same]
      have eh : hoV (mA σ 45 r) ((mA σ 45 r).2.1 44) l (16 * l + i) = hoV σ (σ.2.1 44) l (16 * l + i) := rfl
      rw [eh]
      refine ⟨fun y => ?_, fun y => ?_⟩
      · rintro _ rfl
        rw [nI_1]
        refine ih (i + 1) (by omega) (fun r3 => ?_) r2
        have hP := hP r3
        rw [fstF, if_neg (by rw [ruH, (b2_0 _).mp y]; simp)] at hP
        exact hP
      · have hP := hP r2
        rw [fstF, if_pos (by
          rw [ruH]
          cases hh : hoV σ (σ.2.1 44) l (16 * l + i) with
          | true => simp [c]
          | false => rw [hh] at y; exact absurd rfl y)] at hP
        exact hP
    · rintro _ rfl
      rw [nI_1]
      refine ih (i + 1) (by omega) (fun r3 => ?_) r
      have hP := hP r3
      rw [fstF, if_neg (by rw [ruH]; simp [c])] at hP
      exact hP
theorem ruleOfM {σ : MS} {k nl : Nat} {z : Int32} {Post : Int32 → MS → Prop} (hl : σ.1 18 = nI nl) (hn : nl ≤ 8) (hk : k < 10) (h3 : ¬ z = 3) (hR : ∀ l, l < nl → LwM σ l)
    (hP : ∀ r, Post (ruV σ (σ.2.1 44) (loF (σ.2.1 8) (σ.2.1 9) (σ.2.1 33 k) (σ.2.1 34 k) nl) z) (mA σ 45 r)) : wpM_ruleOf σ (nI k) z Post := by
  refine lawOfM hl hn hk ?_
  rcases loF_is (σ.2.1 8) (σ.2.1 9) (σ.2.1 33 k) (σ.2.1 34 k) nl with e | ⟨j, hj, e⟩
  · have hP := hP (σ.2.1 45)
    rw [mA_self, e, ruV, if_pos rfl] at hP
    rw [e]
    exact ⟨fun _ => hP, fun y => absurd rfl y⟩
  · obtain ⟨tk, N, nr, h1, h2, h4⟩ := hR j hj
    rw [e] at hP ⊢
    refine ⟨fun y => absurd y (nI_nm1 (by omega)), fun _ => ⟨nr + 1, ?_⟩⟩
    have := ruleLoopM (σ := σ) (l := j) (nr := nr) (z := z) (Post := Post) (by omega) h3 h1 h2 (fun r hr => by obtain ⟨k0, hk0⟩ := h4 r hr; exact ⟨tk, N, k0, hk0⟩) nr 0 (by omega) (fun r => by
      have hP := hP r
      rw [ruV, if_neg (nI_nm1 (by omega)), nI_clamp (by omega), h2, nI_clamp (by omega)] at hP
      exact hP) (σ.2.1 45)
    rw [mA_self] at this
    exact this
theorem lapseRuleM {σ : MS} {l nr : Nat} {x1 x2 : Int32} {Post : Int32 → MS → Prop} (hl : l < 9) (hnr : nr ≤ 16) (e10 : σ.2.1 10 l = nI nr) (hR : ∀ r, r < nr → ∃ tk N k0, RuE tk N σ l (16 * l + r) k0) :
    ∀ d i, i + d = nr → wpM_lapseOf_70 Post σ x1 x2 (lpF (σ.2.1 11) (σ.2.1 12) l d i) → wpM_lapseOf_12 Post (d + 2) σ x1 x2 (nI l) (-1) (nI i) := by
  intro d
  have hv : vp_in (nI l) 9 := vp_in_nI hl (by omega)
  have nl1 : ¬ nI l = -1 := nI_nm1 (by omega)
  induction d with
  | zero =>
    intro i hi hP
    obtain rfl : i = nr := by omega
    unfold wpM_lapseOf_12
    rw [nI_clamp (show l < 2 ^ 31 by omega), e10]
    exact ⟨fun y => absurd y nl1, fun _ => ⟨hv, fun _ => hP, fun y => absurd (Int32.le_refl _) y⟩⟩
  | succ d ih =>
    intro i hi hP
    obtain ⟨tk, N, k0, hRu⟩ := hR i (by omega)
    unfold wpM_lapseOf_12
    rw [ix16, nI_clamp (show l < 2 ^ 31 by omega), nI_clamp (show 16 * l + i < 2 ^ 31 by omega), e10]
    have hv2 : vp_in (nI (16 * l + i)) 144 := vp_in_nI (by omega) (by omega)
    refine ⟨fun y => absurd y nl1, fun _ => ⟨hv, fun y => absurd y (nI_ge (by omega) (by omega)), fun _ => ⟨fun _ => ⟨hv2, fun c => ⟨hv2, ?_⟩, fun c => ?_⟩, fun y => absurd rfl y⟩⟩⟩
    · rintro _ rfl _ rfl
      rw [lpF, if_pos c] at hP
      have hne : ¬ σ.2.1 12 (16 * l + i) = -1 := by
        obtain ⟨_, z, hz, _, ez, cc⟩ := hRu
        rw [ez] at c
        have z3 : z = 3 := (nI_eq (b := 3) (by omega) (by omega)).mp c
        rcases cc with ⟨cc, _⟩ | ⟨_, _, v, hv, _, ev⟩ | ⟨cc, _⟩
        · omega
        · rw [ev]; exact nI_nm1 (by omega)
        · omega
      unfold wpM_lapseOf_12
      rw [nI_1, nI_clamp (show l < 2 ^ 31 by omega), e10]
      exact ⟨fun y => absurd y nl1, fun _ => ⟨hv, fun _ => hP, fun _ => ⟨fun y => absurd y hne, fun _ => hP⟩⟩⟩
    · rintro _ rfl
      rw [nI_1]
      rw [lpF, if_neg c] at hP
      exact ih (i + 1) (by omega) hP
theorem lapseOfM {σ : MS} {k nl : Nat} {x2 : Int32} {Post : Int32 → MS → Prop} (hl : σ.1 18 = nI nl) (hn : nl ≤ 8) (hk : k < 10) (hR : ∀ l, l < nl → LwM σ l)
    (hP : wpM_lapseOf_70 Post σ (nI k) x2 (lpV σ (loF (σ.2.1 8) (σ.2.1 9) (σ.2.1 33 k) (σ.2.1 34 k) nl))) : wpM_lapseOf σ (nI k) x2 Post := by
  refine lawOfM hl hn hk ?_
  rcases loF_is (σ.2.1 8) (σ.2.1 9) (σ.2.1 33 k) (σ.2.1 34 k) nl with e | ⟨j, hj, e⟩
  · rw [e, lpV, if_pos rfl] at hP
    rw [e]
    exact ⟨1, fun _ => hP, fun y => absurd rfl y⟩
  · obtain ⟨tk, N, nr, h1, h2, h4⟩ := hR j hj
    rw [e] at hP ⊢
    rw [lpV, if_neg (nI_nm1 (by omega)), nI_clamp (by omega), h2, nI_clamp (by omega)] at hP
    exact ⟨nr + 2, lapseRuleM (by omega) h1 h2 (fun r hr => by obtain ⟨k0, hk0⟩ := h4 r hr; exact ⟨tk, N, k0, hk0⟩) nr 0 (by omega) hP⟩
