/-! pure level: rules of a text, the class's side -/
theorem cF_self (σ : CS) (k : Nat) : cF σ k (σ.1 k) = σ := by
  have : va_up σ.1 k (σ.1 k) = σ.1 := by
    funext j
    show (if j = k then σ.1 k else σ.1 j) = σ.1 j
    by_cases e : j = k
    · rw [if_pos e, e]
    · rw [if_neg e]
  show (va_up σ.1 k (σ.1 k), σ.2) = σ
  rw [this]
theorem scC_self (σ : CS) : scC σ (σ.2.1 33) (σ.2.1 34) (σ.1 623) = σ := by
  have e3 : cA (cA σ 33 (σ.2.1 33)) 34 (σ.2.1 34) = σ := by rw [cA_self σ 33]; exact cA_self σ 34
  rw [scC, e3]
  exact cF_self σ 623
/-- a law of both sides -/
def LwE (σx : CS) (σm : MS) (l : Nat) : Prop := (σx.2.2.2 (l + 1)).1.1 = σm.2.1 8 l ∧ (σx.2.2.2 (l + 1)).1.2 = σm.2.1 9 l ∧ isD (σm.2.1 9 l) ∧ (σx.2.2.2 (l + 1)).2.1.1 ≤ 400 ∧ (σx.2.2.2 (l + 1)).2.2.1 ≤ 16 ∧ σm.2.1 10 l = nI (σx.2.2.2 (l + 1)).2.2.1 ∧
  ∀ r, r < (σx.2.2.2 (l + 1)).2.2.1 → ∃ k0, (σx.2.2.2 (l + 1)).2.2.2 r = nI k0 ∧ RuE (σx.2.2.2 (l + 1)).2.1.2 (σx.2.2.2 (l + 1)).2.1.1 σm l (16 * l + r) k0
def ILaw (nl : Nat) (σx : CS) (σm : MS) : Prop := nl ≤ 8 ∧ σx.1 122 = nI nl ∧ σm.1 18 = nI nl ∧ σx.2.2.1 = nl + 1 ∧ (σx.2.2.2 0).2.2.1 = 0 ∧ ∀ l, l < nl → LwE σx σm l
theorem LwE_M {σx : CS} {σm : MS} {l : Nat} (h : LwE σx σm l) : LwM σm l := by
  obtain ⟨_, _, _, _, h1, h2, h3⟩ := h
  exact ⟨_, _, _, h1, h2, fun r hr => by obtain ⟨k0, _, h⟩ := h3 r hr; exact ⟨k0, h⟩⟩
theorem ILaw_lo {nl : Nat} {σx : CS} {σm : MS} {w d : Int32} (h : ILaw nl σx σm) : loF (fun l => (σx.2.2.2 (l + 1)).1.1) (fun l => (σx.2.2.2 (l + 1)).1.2) w d nl = loF (σm.2.1 8) (σm.2.1 9) w d nl := by
  obtain ⟨h1, _, _, _, _, h6⟩ := h
  exact loF_congr (by omega) (fun i hi => (h6 i hi).1) (fun i hi => (h6 i hi).2.1)
theorem ILaw_day {nl : Nat} {σx : CS} {σm : MS} (h : ILaw nl σx σm) : ∀ l, l < nl → ¬ (σx.2.2.2 (l + 1)).1.2 < 0 := by
  intro l hl
  obtain ⟨h1, _, _, _, _, h6⟩ := h
  have := h6 l hl
  rw [this.2.1]
  have h2 := this.2.2.1.1
  rw [Int32.lt_iff_toInt_lt, i0]
  omega
theorem lawOnE {nl : Nat} {σx : CS} {σm : MS} {w d : Int32} {Post : Nat → CS → Prop} (h : ILaw nl σx σm) (hp : Post (lwN (loF (σm.2.1 8) (σm.2.1 9) w d nl)) σx) : wpC_X6_lawOn σx w d Post := by
  refine lawOnC h.2.1 h.2.2.2.1 h.1 (ILaw_day h) ?_
  rw [ILaw_lo h]
  exact hp
theorem fstHoldLoopC {σx : CS} {σm : MS} {l z : Nat} {Post : Int32 → CS → Prop} (hl : l < 8) (hL : l + 1 < σx.2.2.1) (h : LwE σx σm l) (hz : z < 3) :
    ∀ d i, i + d = (σx.2.2.2 (l + 1)).2.2.1 → (∀ f g v, Post (fstF (ruH σm (σx.2.1 32) l (nI z)) d i) (scC σx f g v)) → ∀ f g v, wpC_X5_firstHolding_2 Post (d + 1) (scC σx f g v) (l + 1) (nI (10000 + z)) (nI i) := by
  obtain ⟨_, _, _, h4, h5, h6, h7⟩ := h
  intro d
  induction d with
  | zero =>
    intro i hi hP f g v
    refine ⟨hL, hL, fun _ => hP f g v, fun y => absurd ?_ y⟩
    show nI (σx.2.2.2 (l + 1)).2.2.1 ≤ nI i
    rw [← hi]
    exact Int32.le_refl _
  | succ d ih =>
    intro i hi hP f g v
    obtain ⟨k0, e0, hRu⟩ := h7 i (by omega)
    have hi16 : (σx.2.2.2 (l + 1)).2.2.1 < 2 ^ 31 := by omega
    have hlt : i < (σx.2.2.2 (l + 1)).2.2.1 := by omega
    have hkN : k0 < (σx.2.2.2 (l + 1)).2.1.1 := hRu.1
    refine ⟨hL, hL, fun y => absurd y (nI_ge hlt hi16), fun _ => ⟨hL, hL, vp_in_nI hlt hi16, hL, ?_⟩⟩
    rw [nI_clamp (by omega)]
    have e0' : ((scC σx f g v).2.2.2 (l + 1)).2.2.2 i = nI k0 := e0
    rw [e0']
    refine tokenAtC (σ := scC σx f g v) hL h4 hRu.1 ?_
    obtain ⟨_, z', hz', et, es, cc⟩ := hRu
    have et' : ((scC σx f g v).2.2.2 (l + 1)).2.1.2 k0 = nI (10000 + z') := et
    rw [et']
    refine ⟨fun c => ?_, fun c => ?_⟩
    · have zz : z' = z := by
        have := (nI_eq (by omega) (by omega)).mp c
        omega
      subst zz
      rcases cc with ⟨_, cc⟩ | ⟨cc, _⟩ | ⟨cc, _⟩
      · obtain ⟨f1, n, e1, e2, e3, e4, e5, e6, ne, eh⟩ := co_hoV (w := σx.2.1 32) cc
        refine ⟨hL, hL, vp_in_nI hlt hi16, ?_⟩
        have e0'' : ((scC σx f g v).2.2.2 (l + 1)).2.2.2 i + 2 = nI (k0 + 2) := by
          show (σx.2.2.2 (l + 1)).2.2.2 i + 2 = _
          rw [e0]
          exact nI_add k0 2
        rw [e0'']
        refine holdsC (σ := scC σx f g v) hL h4 e6 (by omega) e5 (by omega) (fun f2 g2 v2 => ?_)
        rw [scC_2]
        have eh' : chV (σm.2.1 18) (σm.2.1 19) (σm.2.1 20) (σm.2.1 21) (σm.2.1 22) (σm.2.1 23) (σm.2.1 24) ((scC σx f g v).2.1 32) (n + 1) (200 * l + f1) true = hoV σm (σx.2.1 32) l (16 * l + i) := eh.symm
        rw [eh']
        refine ⟨fun y => ?_, fun y => ?_⟩
        · rintro _ rfl
          rw [nI_1]
          refine ih (i + 1) (by omega) (fun f3 g3 v3 => ?_) f2 g2 v2
          have hP := hP f3 g3 v3
          rw [fstF, if_neg (by rw [ruH, (b2_0 _).mp y]; simp)] at hP
          exact hP
        · have hP := hP f2 g2 v2
          rw [fstF, if_pos (by
            rw [ruH]
            cases hh : hoV σm (σx.2.1 32) l (16 * l + i) with
            | true => simp [es]
            | false => rw [hh] at y; exact absurd rfl y)] at hP
          exact hP
      · omega
      · omega
    · rintro _ rfl
      rw [nI_1]
      refine ih (i + 1) (by omega) (fun f3 g3 v3 => ?_) f g v
      have hP := hP f3 g3 v3
      have ne : ¬ σm.2.1 11 (16 * l + i) = nI z := by
        rw [es]
        intro y
        have := (nI_eq (by omega) (by omega)).mp y
        exact c (by rw [this])
      rw [fstF, if_neg (by rw [ruH]; simp [ne])] at hP
      exact hP
theorem firstHoldingE {nl z : Nat} {σx : CS} {σm : MS} {w d : Int32} {Post : Int32 → CS → Prop} (h : ILaw nl σx σm) (hz : z < 3) (hP : ∀ f g v, Post (ruV σm (σx.2.1 32) (loF (σm.2.1 8) (σm.2.1 9) w d nl) (nI z)) (scC σx f g v)) : wpC_X5_firstHolding σx (lwN (loF (σm.2.1 8) (σm.2.1 9) w d nl)) (nI (10000 + z)) Post := by
  obtain ⟨h1, h2, h3, h4, h5, h6⟩ := h
  rcases loF_is (σm.2.1 8) (σm.2.1 9) w d nl with e | ⟨j, hj, e⟩
  · rw [e] at hP ⊢
    have hP := hP (σx.2.1 33) (σx.2.1 34) (σx.1 623)
    rw [scC_self, ruV, if_pos rfl] at hP
    rw [lwN, if_pos rfl]
    refine ⟨1, by omega, by omega, fun _ => hP, fun y => absurd ?_ y⟩
    rw [h5]
    decide
  · rw [e] at hP ⊢
    rw [lwN, if_neg (nI_nm1 (by omega)), nI_clamp (by omega)]
    have hl := h6 j hj
    refine ⟨(σx.2.2.2 (j + 1)).2.2.1 + 1, ?_⟩
    have := fstHoldLoopC (Post := Post) (by omega) (by omega) hl hz (σx.2.2.2 (j + 1)).2.2.1 0 (by omega) (fun f g v => by
      have hP := hP f g v
      have h16 := hl.2.2.2.2.1
      rw [ruV, if_neg (nI_nm1 (by omega)), nI_clamp (by omega), hl.2.2.2.2.2.1, nI_clamp (by omega)] at hP
      exact hP) (σx.2.1 33) (σx.2.1 34) (σx.1 623)
    rw [scC_self] at this
    exact this
theorem lapseDaysE {nl : Nat} {σx : CS} {σm : MS} {w d : Int32} {Post : Int32 → CS → Prop} (h : ILaw nl σx σm) (hP : Post (lpV σm (loF (σm.2.1 8) (σm.2.1 9) w d nl)) σx) : wpC_X5_lapseDays σx (lwN (loF (σm.2.1 8) (σm.2.1 9) w d nl)) Post := by
  obtain ⟨h1, h2, h3, h4, h5, h6⟩ := h
  rcases loF_is (σm.2.1 8) (σm.2.1 9) w d nl with e | ⟨j, hj, e⟩
  · rw [e] at hP ⊢
    rw [lpV, if_pos rfl] at hP
    rw [lwN, if_pos rfl]
    refine ⟨1, by omega, by omega, fun _ => hP, fun y => absurd ?_ y⟩
    rw [h5]
    decide
  · rw [e] at hP ⊢
    rw [lwN, if_neg (nI_nm1 (by omega)), nI_clamp (by omega)]
    obtain ⟨_, _, _, q4, q5, q6, q7⟩ := h6 j hj
    rw [lpV, if_neg (nI_nm1 (by omega)), nI_clamp (by omega), q6, nI_clamp (by omega)] at hP
    have hL : j + 1 < σx.2.2.1 := by omega
    suffices H : ∀ d i, i + d = (σx.2.2.2 (j + 1)).2.2.1 → Post (lpF (σm.2.1 11) (σm.2.1 12) j d i) σx → wpC_X5_lapseDays_2 Post (d + 1) σx (j + 1) (nI i) from ⟨_, H (σx.2.2.2 (j + 1)).2.2.1 0 (by omega) hP⟩
    intro d
    induction d with
    | zero =>
      intro i hi hP
      refine ⟨hL, hL, fun _ => hP, fun y => absurd ?_ y⟩
      show nI (σx.2.2.2 (j + 1)).2.2.1 ≤ nI i
      rw [← hi]
      exact Int32.le_refl _
    | succ d ih =>
      intro i hi hP
      obtain ⟨k0, e0, hRu⟩ := q7 i (by omega)
      have hi16 : (σx.2.2.2 (j + 1)).2.2.1 < 2 ^ 31 := by omega
      have hlt : i < (σx.2.2.2 (j + 1)).2.2.1 := by omega
      have hkN := hRu.1
      refine ⟨hL, hL, fun y => absurd y (nI_ge hlt hi16), fun _ => ⟨hL, hL, vp_in_nI hlt hi16, hL, ?_⟩⟩
      rw [nI_clamp (by omega), e0]
      refine tokenAtC hL q4 hRu.1 ?_
      obtain ⟨_, z', hz', et, es, cc⟩ := hRu
      rw [et]
      refine ⟨fun c => ?_, fun c => ?_⟩
      · have zz : z' = 3 := by
          have := (nI_eq (b := 10003) (by omega) (by omega)).mp c
          omega
        subst zz
        rcases cc with ⟨cc, _⟩ | ⟨_, hk1, v, hv, ev, ev2⟩ | ⟨cc, _⟩
        · omega
        · refine ⟨hL, hL, vp_in_nI hlt hi16, hL, ?_⟩
          rw [e0, nI_1]
          refine tokenAtC hL q4 hk1 ?_
          rw [lpF, if_pos (show σm.2.1 11 (16 * j + i) = 3 from es), ev2] at hP
          rw [ev]
          exact hP
        · omega
      · rintro _ rfl
        rw [nI_1]
        refine ih (i + 1) (by omega) ?_
        have ne : ¬ σm.2.1 11 (16 * j + i) = 3 := by
          rw [es]
          intro y
          have : z' = 3 := (nI_eq (b := 3) (by omega) (by omega)).mp y
          exact c (by rw [this]; rfl)
        rw [lpF, if_neg ne] at hP
        exact hP
def clV (e : Int32) : Int32 := if 0 < (if e < 100 then e else 100) then (if e < 100 then e else 100) else 0
/-- how much of 100 goes back -/
def shV (σ : MS) (w : Nat → Int32) (lo : Int32) : Int32 := if ruV σ w lo 4 = -1 then 0 else clV (valM (σ.2.1 23) (σ.2.1 24) w (σ.2.1 13 (16 * lo.toNatClampNeg + (ruV σ w lo 4).toNatClampNeg)).toNatClampNeg (σ.2.1 14 (16 * lo.toNatClampNeg + (ruV σ w lo 4).toNatClampNeg)).toNatClampNeg)
theorem shareE {nl : Nat} {σx : CS} {σm : MS} {w d : Int32} {Post : Int32 → CS → Prop} (h : ILaw nl σx σm) (hP : ∀ f g v, Post (shV σm (σx.2.1 32) (loF (σm.2.1 8) (σm.2.1 9) w d nl)) (scC σx f g v)) : wpC_X5_share σx (lwN (loF (σm.2.1 8) (σm.2.1 9) w d nl)) Post := by
  obtain ⟨h1, h2, h3, h4, h5, h6⟩ := h
  rcases loF_is (σm.2.1 8) (σm.2.1 9) w d nl with e | ⟨j, hj, e⟩
  · rw [e] at hP ⊢
    have hP := hP (σx.2.1 33) (σx.2.1 34) (σx.1 623)
    have e1 : ruV σm (σx.2.1 32) (-1) 4 = -1 := by rw [ruV, if_pos rfl]
    rw [scC_self, shV, if_pos e1] at hP
    rw [lwN, if_pos rfl]
    refine ⟨1, by omega, by omega, fun _ => hP, fun y => absurd ?_ y⟩
    rw [h5]
    decide
  · rw [e] at hP ⊢
    rw [lwN, if_neg (nI_nm1 (by omega)), nI_clamp (by omega)]
    obtain ⟨_, _, _, q4, q5, q6, q7⟩ := h6 j hj
    have hL : j + 1 < σx.2.2.1 := by omega
    have eR : ruV σm (σx.2.1 32) (nI j) 4 = fstF (ruH σm (σx.2.1 32) j 4) (σx.2.2.2 (j + 1)).2.2.1 0 := by rw [ruV, if_neg (nI_nm1 (by omega)), nI_clamp (by omega), q6, nI_clamp (by omega)]
    rw [shV, eR, nI_clamp (by omega)] at hP
    suffices H : ∀ d i, i + d = (σx.2.2.2 (j + 1)).2.2.1 → fstF (ruH σm (σx.2.1 32) j 4) (σx.2.2.2 (j + 1)).2.2.1 0 = fstF (ruH σm (σx.2.1 32) j 4) d i → ∀ f g v, wpC_X5_share_2 Post (d + 1) (scC σx f g v) (j + 1) (nI i) by
      refine ⟨(σx.2.2.2 (j + 1)).2.2.1 + 1, ?_⟩
      have := H (σx.2.2.2 (j + 1)).2.2.1 0 (by omega) rfl (σx.2.1 33) (σx.2.1 34) (σx.1 623)
      rw [scC_self] at this
      exact this
    intro d
    induction d with
    | zero =>
      intro i hi hF f g v
      have hP := hP f g v
      rw [fstF] at hF
      rw [if_pos hF] at hP
      refine ⟨hL, hL, fun _ => hP, fun y => absurd ?_ y⟩
      show nI (σx.2.2.2 (j + 1)).2.2.1 ≤ nI i
      rw [← hi]
      exact Int32.le_refl _
    | succ d ih =>
      intro i hi hF f g v
      obtain ⟨k0, e0, hRu⟩ := q7 i (by omega)
      have hi16 : (σx.2.2.2 (j + 1)).2.2.1 < 2 ^ 31 := by omega
      have hlt : i < (σx.2.2.2 (j + 1)).2.2.1 := by omega
      have hkN := hRu.1
      refine ⟨hL, hL, fun y => absurd y (nI_ge hlt hi16), fun _ => ⟨hL, hL, vp_in_nI hlt hi16, hL, ?_⟩⟩
      rw [nI_clamp (by omega)]
      have e0' : ((scC σx f g v).2.2.2 (j + 1)).2.2.2 i = nI k0 := e0
      rw [e0']
      refine tokenAtC (σ := scC σx f g v) hL q4 hRu.1 ?_
      obtain ⟨_, z', hz', et, es, cc⟩ := hRu
      have et' : ((scC σx f g v).2.2.2 (j + 1)).2.1.2 k0 = nI (10000 + z') := et
      rw [et']
      refine ⟨fun c => ?_, fun c => ?_⟩
      · have zz : z' = 4 := by
          have := (nI_eq (b := 10004) (by omega) (by omega)).mp c
          omega
        subst zz
        rcases cc with ⟨cc, _⟩ | ⟨cc, _⟩ | ⟨_, q, fr, to, efr, eto, E1, cc⟩
        · omega
        · omega
        · obtain ⟨a1, a2, a3, a4, a5, a6, a7⟩ := E1
          have b1 := a6.1
          have b2' := a6.2.1
          refine ⟨hL, hL, vp_in_nI hlt hi16, ?_⟩
          have e1 : ((scC σx f g v).2.2.2 (j + 1)).2.2.2 i + 1 = nI (k0 + 1) := by
            show (σx.2.2.2 (j + 1)).2.2.2 i + 1 = _
            rw [e0, nI_1]
          rw [e1]
          refine valueOfC (σ := scC σx f g v) hL q4 a2 a1 a3 a4 a5 (fun f1 g1 => ?_)
          have ev : (evE ((scC σx f g v).2.2.2 (j + 1)).2.1.2 ((scC σx f g v).2.1 32) (k0 + 1) (q - (k0 + 1))).1 0 + (evE ((scC σx f g v).2.2.2 (j + 1)).2.1.2 ((scC σx f g v).2.1 32) (k0 + 1) (q - (k0 + 1))).2 0 = valM (σm.2.1 23) (σm.2.1 24) (σx.2.1 32) fr to := a7 (σx.2.1 32)
          rw [ev, scC_2]
          have hit : ∀ f3 g3 v3, hoV σm (σx.2.1 32) j (16 * j + i) = true → wpC_X5_share_71 Post (scC σx f3 g3 v3) (valM (σm.2.1 23) (σm.2.1 24) (σx.2.1 32) fr to) := by
            intro f3 g3 v3 ho
            rintro _ rfl _ rfl
            have hP := hP f3 g3 v3
            have hF' : fstF (ruH σm (σx.2.1 32) j 4) (σx.2.2.2 (j + 1)).2.2.1 0 = nI i := by
              rw [hF, fstF, if_pos]
              rw [ruH, ho]
              simp only [Bool.and_true, decide_eq_true_eq]
              exact es
            rw [hF', if_neg (nI_nm1 (by omega)), nI_clamp (by omega), efr, eto, nI_clamp (by omega), nI_clamp (by omega)] at hP
            exact hP
          rintro _ rfl
          refine ⟨hL, tokenAtC (σ := scC σx f1 g1 (nI q)) (i := q) hL q4 a2 ?_⟩
          have etq : ((scC σx f1 g1 (nI q)).2.2.2 (j + 1)).2.1.2 q = (σx.2.2.2 (j + 1)).2.1.2 q := rfl
          rw [etq]
          rcases cc with ⟨c1, cc⟩ | ⟨c1, cc⟩
          · refine ⟨fun _ => ?_, fun y => absurd c1 y⟩
            obtain ⟨f1', n, e1, e2, e3, e4, e5, e6, ne, eh⟩ := co_hoV (w := σx.2.1 32) cc
            have eq1 : (scC σx f1 g1 (nI q)).1 623 + 1 = nI (q + 1) := nI_1 q
            rw [eq1]
            refine holdsC (σ := scC σx f1 g1 (nI q)) hL q4 e6 (by omega) e5 (by omega) (fun f2 g2 v2 => ?_)
            rw [scC_2]
            have eh' : chV (σm.2.1 18) (σm.2.1 19) (σm.2.1 20) (σm.2.1 21) (σm.2.1 22) (σm.2.1 23) (σm.2.1 24) ((scC σx f1 g1 (nI q)).2.1 32) (n + 1) (200 * j + f1') true = hoV σm (σx.2.1 32) j (16 * j + i) := eh.symm
            rw [eh']
            refine ⟨fun y => ?_, fun y => ?_⟩
            · rintro _ rfl
              rw [nI_1]
              refine ih (i + 1) (by omega) ?_ f2 g2 v2
              rw [hF, fstF, if_neg (by rw [ruH, (b2_0 _).mp y]; simp)]
            · refine hit f2 g2 v2 ?_
              cases hh : hoV σm (σx.2.1 32) j (16 * j + i) with
              | true => rfl
              | false => rw [hh] at y; exact absurd rfl y
          · refine ⟨fun y => absurd y c1, fun _ => hit f1 g1 (nI q) ?_⟩
            rw [hoV, if_pos cc]
      · rintro _ rfl
        rw [nI_1]
        refine ih (i + 1) (by omega) ?_ f g v
        have ne : ¬ σm.2.1 11 (16 * j + i) = 4 := by
          rw [es]
          intro y
          have : z' = 4 := (nI_eq (b := 4) (by omega) (by omega)).mp y
          exact c (by rw [this]; rfl)
        rw [hF, fstF, if_neg (by rw [ruH]; simp [ne])]
