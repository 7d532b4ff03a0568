/-! pure level: rivals, the class's side -/
def vdR (R : Nat → Nat → Int32) (p : Nat) : Int32 := if R 46 p = -1 then 0 else if R 48 p = 0 then 2 else if R 48 p = 2 then 3 else if R 49 p = 0 then -1 else if ¬ R 50 p = -1 then 4 else if ¬ R 51 p = -1 then 5 else 6
/-- the class's rows out of the reference's -/
def cR (R : Nat → Nat → Int32) : Nat → Nat → Int32 := fun j p => if j = 36 then R 46 p else if j = 37 then capV (R 47 p) else if j = 38 then vdR R p else if j = 39 then R 50 p else if j = 40 then R 51 p else if j = 41 then capV (R 52 p) else if j = 42 then R 53 p else if j = 43 then R 54 p else R 55 p
def EqC (npr : Nat) (R' S : Nat → Nat → Int32) : Prop := ∀ j q, 36 ≤ j → j ≤ 44 → q < npr → R' j q = S j q
def bnC (σ : CS) (a : Int32) (k : Nat) : Bool := decide (σ.2.1 15 k = a) || decide (σ.2.1 16 k = a)
theorem bindsC {σ : CS} {a : Int32} {k : Nat} {Post : Int32 → CS → Prop} (hk : k < 10) (hP : Post (b2 (bnC σ a k)) σ) : wpC_X7_binds σ (nI k) a Post := by
  have hv : vp_in (nI k) 10 := vp_in_nI hk (by omega)
  unfold wpC_X7_binds
  rw [nI_clamp (by omega)]
  refine ⟨hv, fun c => ?_, fun c => ⟨hv, fun c2 => ?_, fun c2 => ?_⟩⟩
  · rw [bnC, decide_eq_true c] at hP; exact hP
  · rw [bnC, decide_eq_true c2, Bool.or_true] at hP; exact hP
  · rw [bnC, decide_eq_false c, decide_eq_false c2] at hP; exact hP
def shN (σ : MS) (q k : Nat) : Int32 := (if bnd σ (σ.2.1 31 q) k = true then 1 else 0) + (if bnd σ (σ.2.1 32 q) k = true then 2 else 0)
theorem bn_eq {σx : CS} {σm : MS} {npr np k : Nat} {a : Int32} (hB : IPro npr np σx σm) : bnC σx a k = bnd σm a k := by
  rw [bnC, bnd, hB.2.2.2.1, hB.2.2.2.2.1]
theorem sharedC {σx : CS} {σm : MS} {R : Nat → Nat → Int32} {v kn : Int32} {npr np q k : Nat} {Post : Int32 → CS → Prop} (hB : IPro npr np σx σm) (hq : q < 10) (hk : k < 10) (hP : Post (shN σm q k) (cJ σx v kn R)) : wpC_X7_shared (cJ σx v kn R) (nI q) (nI k) Post := by
  have hv : vp_in (nI q) 10 := vp_in_nI hq (by omega)
  have ca : (nI q).toNatClampNeg = q := nI_clamp (by omega)
  have eb : ∀ a, bnC (cJ σx v kn R) a k = bnd σm a k := fun a => bn_eq (σx := σx) hB
  have e15 : (cJ σx v kn R).2.1 15 q = σm.2.1 31 q := by
    show σx.2.1 15 q = _
    rw [hB.2.2.2.1]
  have e16 : (cJ σx v kn R).2.1 16 q = σm.2.1 32 q := by
    show σx.2.1 16 q = _
    rw [hB.2.2.2.2.1]
  have h19 : ∀ t : Int32, t = (if bnd σm (σm.2.1 31 q) k = true then 1 else 0) → wpC_X7_shared_19 Post (cJ σx v kn R) (nI q) (nI k) t := by
    rintro _ rfl
    refine ⟨hv, ?_⟩
    rw [ca, e16]
    refine bindsC hk ?_
    rw [eb]
    refine ⟨fun c => ?_, fun c => ?_⟩
    · have c := (b2_0 _).mp c
      rw [shN, if_neg (by rw [c]; decide : ¬ bnd σm (σm.2.1 32 q) k = true)] at hP
      exact hP
    · have c : bnd σm (σm.2.1 32 q) k = true := by
        cases hh : bnd σm (σm.2.1 32 q) k with
        | true => rfl
        | false => exact absurd ((b2_0 _).mpr hh) c
      rw [shN, if_pos c] at hP
      exact hP
  refine ⟨hv, ?_⟩
  rw [ca, e15]
  refine bindsC hk ?_
  rw [eb]
  refine ⟨fun c => h19 0 ?_, fun c => h19 1 ?_⟩
  · rw [(b2_0 _).mp c]; rfl
  · cases hh : bnd σm (σm.2.1 31 q) k with
    | true => rfl
    | false => exact absurd ((b2_0 _).mpr hh) c
theorem sh_cases (σ : MS) (q k : Nat) (h1 : ¬ σ.2.1 31 q = σ.2.1 32 q) (h2 : ¬ σ.2.1 31 k = σ.2.1 32 k) :
    (¬ shN σ q k = 0 ↔ (bnd σ (σ.2.1 31 k) q || bnd σ (σ.2.1 32 k) q) = true) ∧ (shN σ q k = 3 ↔ boV σ q k = true) ∧ (¬ shN σ q k = 0 → (if shN σ q k = 3 then 0 else shN σ q k) = brV σ q k) := by
  unfold shN boV brV bnd
  generalize σ.2.1 31 q = a at *
  generalize σ.2.1 32 q = b at *
  generalize σ.2.1 31 k = c at *
  generalize σ.2.1 32 k = d at *
  by_cases e1 : c = a <;> by_cases e2 : d = a <;> by_cases e3 : c = b <;> by_cases e4 : d = b <;> simp_all <;> grind
/-- k is judged next -/
def Nx (npr : Nat) (R : Nat → Nat → Int32) (k : Nat) : Prop := JI npr R ∧ k < npr ∧ R 49 k = 0 ∧ ¬ R 46 k = -1 ∧ R 48 k = 1 ∧ isD (R 47 k)
theorem cap_le {x e : Int32} (hx : x = 1000000 ∨ x < 10000) (he : e < 10000) : capV x ≤ e ↔ x ≤ e := by
  unfold capV
  rcases hx with rfl | hx
  · rw [if_pos rfl]; constructor <;> intro h <;> grind
  · rw [if_neg (by grind)]
theorem rv_class {σm : MS} {R : Nat → Nat → Int32} {npr q k : Nat} (hN : Nx npr R k) (hq : q < npr) (h1 : ¬ σm.2.1 31 q = σm.2.1 32 q) (h2 : ¬ σm.2.1 31 k = σm.2.1 32 k) :
    rvV σm R q k = true ↔ vdR R q = 6 ∧ ¬ capV (R 52 q) ≤ R 47 k ∧ ¬ shN σm q k = 0 := by
  obtain ⟨hJ, hk, w1, w2, w3, w4⟩ := hN
  have hs := (sh_cases σm q k h1 h2).1
  obtain ⟨j1, j2, j3, j4⟩ := hJ.1 q hq
  rw [hs, cap_le j4 (isD_lt w4), rvV, Bool.and_eq_true, decide_eq_true_eq]
  constructor
  · rintro ⟨⟨a1, a2, a3, a4⟩, a5⟩
    refine ⟨?_, a4, a5⟩
    have c : ¬ R 49 q = 0 := fun z => a2 (j2 z).2.2.2.2
    obtain ⟨b1, b2', b3⟩ := j3 c
    have b4 : R 50 q = -1 ∧ R 51 q = -1 := Classical.byContradiction (fun z => a2 (b3.mpr z))
    rw [vdR, if_neg b1, if_neg (by rw [b2']; decide), if_neg (by rw [b2']; decide), if_neg c, if_neg (fun z => z b4.1), if_neg (fun z => z b4.2)]
  · rintro ⟨a1, a4, a5⟩
    have c0 : ¬ R 46 q = -1 := fun z => by rw [vdR, if_pos z] at a1; exact absurd a1 (by decide)
    rw [vdR, if_neg c0] at a1
    have c1 : ¬ R 48 q = 0 := fun z => by rw [if_pos z] at a1; exact absurd a1 (by decide)
    rw [if_neg c1] at a1
    have c2 : ¬ R 48 q = 2 := fun z => by rw [if_pos z] at a1; exact absurd a1 (by decide)
    rw [if_neg c2] at a1
    have c3 : ¬ R 49 q = 0 := fun z => by rw [if_pos z] at a1; exact absurd a1 (by decide)
    rw [if_neg c3] at a1
    have c4 : R 50 q = -1 := Classical.byContradiction (fun z => by rw [if_pos z] at a1; exact absurd a1 (by decide))
    rw [if_neg (fun z => z c4)] at a1
    have c5 : R 51 q = -1 := Classical.byContradiction (fun z => by rw [if_pos z] at a1; exact absurd a1 (by decide))
    refine ⟨⟨fun z => ?_, fun z => ((j3 c3).2.2.mp z) ⟨c4, c5⟩, hJ.2 q k hq hk c3 w1 w2 w3, a4⟩, a5⟩
    rw [z] at c3
    exact c3 w1
theorem isRivalC {σx : CS} {σm : MS} {R R' : Nat → Nat → Int32} {v kn : Int32} {npr np q k : Nat} {Post : Int32 → CS → Prop} (hB : IPro npr np σx σm) (hN : Nx npr R k) (hq : q < npr) (h38 : R' 38 q = vdR R q) (h41 : R' 41 q = capV (R 52 q)) (h37 : R' 37 k = R 47 k)
    (hP : Post (b2 (rvV σm R q k)) (cJ σx v kn R')) : wpC_X4_isRival (cJ σx v kn R') (nI q) (nI k) Post := by
  have h10 := hB.1
  have hk : k < npr := hN.2.1
  have hv : vp_in (nI q) 10 := vp_in_nI (by omega) (by omega)
  have hv2 : vp_in (nI k) 10 := vp_in_nI (by omega) (by omega)
  have hq1 := (hB.2.2.2.2.2.2.2.2.2 q hq).2.2.1
  have hk1 := (hB.2.2.2.2.2.2.2.2.2 k hk).2.2.1
  have hrv := rv_class hN hq hq1 hk1
  have e0 : ¬ rvV σm R q k = true → Post 0 (cJ σx v kn R') := fun z => by
    have : rvV σm R q k = false := by simpa using z
    rw [this] at hP; exact hP
  have e1 : rvV σm R q k = true → Post 1 (cJ σx v kn R') := fun z => by rw [z] at hP; exact hP
  unfold wpC_X4_isRival
  rw [nI_clamp (show q < 2 ^ 31 by omega), nI_clamp (show k < 2 ^ 31 by omega)]
  change vp_in (nI q) 10 ∧ (R' 38 q = 6 → vp_in (nI q) 10 ∧ vp_in (nI k) 10 ∧ (R' 41 q ≤ R' 37 k → _) ∧ (¬ R' 41 q ≤ R' 37 k → _)) ∧ (¬ R' 38 q = 6 → _)
  rw [h38, h41, h37]
  refine ⟨hv, fun c => ⟨hv, hv2, fun c2 => e0 (fun z => (hrv.mp z).2.1 c2), fun c2 => ?_⟩, fun c => e0 (fun z => c (hrv.mp z).1)⟩
  exact sharedC hB (by omega) (by omega) ⟨fun c3 => e0 (fun z => (hrv.mp z).2.2 c3), fun c3 => e1 (hrv.mpr ⟨c, c2, c3⟩)⟩
/-- the same but for what is reckoned with, the class -/
def Sx (R R1 : Nat → Nat → Int32) : Prop := ∀ j, 36 ≤ j → R1 j = R j
theorem Sx_s {R R1 : Nat → Nat → Int32} {i : Nat} (h : Sx R R1) (hi : i < 36) (a : Nat → Int32) : Sx R (va_up R1 i a) := fun j hj => by rw [vaU_at, if_neg (by omega)]; exact h j hj
theorem capV_d {x : Int32} (h : isD x) : capV x = x := by
  unfold capV
  rw [if_neg]
  rintro rfl
  exact absurd (isD_lt h) (by decide)
theorem unyieldC {σx : CS} {σm : MS} {R R' : Nat → Nat → Int32} {kn : Int32} {np npr nf nl k : Nat} {Post : Int32 → CS → Prop} (h : BH np npr nf nl σx σm) (hN : Nx npr R k) (hE : EqC npr R' (cR R))
    (hP : ∀ R2 v2, Sx R' R2 → Post (voV σm npr nl R k) (cJ σx v2 kn R2)) :
    ∀ d i, i + d = npr → fstF (vkH σm nl R k) d i = voV σm npr nl R k → ∀ R1 v, Sx R' R1 → wpC_X4_firstUnyielding_8 Post (d + 1) (cJ σx v kn R1) (nI k) (lwN (loF (σm.2.1 8) (σm.2.1 9) (σx.2.1 17 k) (σx.2.1 18 k) nl)) (nI i) := by
  obtain ⟨hA, hB, hC, hD⟩ := h
  have h10 := hB.1
  have hk : k < npr := hN.2.1
  have hv : vp_in (nI k) 10 := vp_in_nI (by omega) (by omega)
  have ck : (nI k).toNatClampNeg = k := nI_clamp (by omega)
  have hk1 := (hB.2.2.2.2.2.2.2.2.2 k hk).2.2.1
  have e47 : R' 37 k = R 47 k := by
    rw [hE 37 k (by omega) (by omega) hk]
    exact capV_d hN.2.2.2.2.2
  intro d
  induction d with
  | zero =>
    intro i hi hf R1 v hS
    obtain rfl : i = npr := by omega
    refine ⟨fun _ => ?_, fun c => absurd ?_ c⟩
    · have := hP R1 v hS
      rw [← hf] at this
      exact this
    · show σx.1 286 ≤ nI i
      rw [hB.2.1]
      exact Int32.le_refl _
  | succ d ih =>
    intro i hi hf R1 v hS
    have hin : i < npr := by omega
    have hvi : vp_in (nI i) 10 := vp_in_nI (by omega) (by omega)
    have cii : (nI i).toNatClampNeg = i := nI_clamp (by omega)
    have hi1 := (hB.2.2.2.2.2.2.2.2.2 i hin).2.2.1
    have hsh := sh_cases σm i k hi1 hk1
    rw [fstF] at hf
    have no : ¬ vkH σm nl R k i = true → ∀ R2 v2, Sx R' R2 → ∀ y, y = nI i + 1 → wpC_X4_firstUnyielding_8 Post (d + 1) (cJ σx v2 kn R2) (nI k) (lwN (loF (σm.2.1 8) (σm.2.1 9) (σx.2.1 17 k) (σx.2.1 18 k) nl)) y := by
      rintro q R2 v2 hS2 _ rfl
      rw [nI_1]
      rw [if_neg q] at hf
      exact ih (i + 1) (by omega) hf R2 v2 hS2
    have g38 : R1 38 i = vdR R i := by rw [hS 38 (by omega), hE 38 i (by omega) (by omega) hin]; rfl
    have g41 : R1 41 i = capV (R 52 i) := by rw [hS 41 (by omega), hE 41 i (by omega) (by omega) hin]; rfl
    have g37 : R1 37 k = R 47 k := by rw [hS 37 (by omega), e47]
    refine ⟨fun c => ?_, fun _ => isRivalC hB hN hin g38 g41 g37 ⟨fun c => no ?_ R1 v hS, fun c => ?_⟩⟩
    · have c : σx.1 286 ≤ nI i := c
      rw [hB.2.1] at c
      exact absurd c (nI_ge (by omega) (by omega))
    · rw [vkH, (b2_0 _).mp c]; simp
    · have crv : rvV σm R i k = true := by
        cases hh : rvV σm R i k with
        | true => rfl
        | false => exact absurd ((b2_0 _).mpr hh) c
      refine sharedC hB (by omega) (by omega) ⟨fun c2 => no ?_ R1 v hS, fun c2 => ?_⟩
      · rw [vkH, hsh.2.1.mp c2]; simp
      · have cb : boV σm i k = false := by
          cases hh : boV σm i k with
          | false => rfl
          | true => exact absurd (hsh.2.1.mpr hh) c2
        -- the rival's effect is a day
        have hid : isD (R 47 i) := by
          have hc := (rv_class hN hin hi1 hk1).mp crv
          rcases (hN.1.1 i hin).1 with z | z
          · have := hc.1
            rw [vdR, if_pos z.1] at this
            split at this <;> exact absurd this (by decide)
          · exact z.2
        have g37i : R1 37 i = R 47 i := by
          rw [hS 37 (by omega), hE 37 i (by omega) (by omega) hin]
          exact capV_d hid
        refine clearC (fun r hr => ?_)
        rw [cJ_A _ _ _ _ 32 _ (by omega) (by omega), ck, cii]
        refine ⟨hvi, vp_in_nI (n := 9) (by omega) (by omega), ?_⟩
        rintro _ rfl
        refine ⟨hv, vp_in_nI (n := 4) (by omega) (by omega), ?_⟩
        rintro _ rfl
        refine ⟨hv, hvi, vp_in_nI (n := 11) (by omega) (by omega), ?_⟩
        rintro _ rfl
        rw [cJ_A _ _ _ _ 32 _ (by omega) (by omega), cJ_A _ _ _ _ 32 _ (by omega) (by omega), cJ_A _ _ _ _ 32 _ (by omega) (by omega)]
        refine ⟨?_, firstHoldingE (z := 2) (σx := cJ σx v kn _) (σm := σm) hD (by omega) (fun f g v2 => ?_)⟩
        · show _ < σx.2.2.1
          rw [hD.2.2.2.1]
          exact lwN_lt hD.1
        · have eo : ∀ w : Nat → Int32, EqW w (wOV (σm.2.1 35 i) (R 47 k - R 47 i) (σm.2.1 35 k)) → ruV σm w (loF (σm.2.1 8) (σm.2.1 9) (σx.2.1 17 k) (σx.2.1 18 k) nl) (nI 2) = ovV σm nl R i k := by
            intro w hw
            have hlo : loF (σm.2.1 8) (σm.2.1 9) (σx.2.1 17 k) (σx.2.1 18 k) nl = loP σm nl k := by
              rw [hB.2.2.2.2.2.1, hB.2.2.2.2.2.2.1]
              rfl
            rw [hlo]
            exact ruV_congr hw hD.1 (by decide) (fun l hl => LwE_M (hD.2.2.2.2.2 l hl))
          rw [eo _ ?_, cJ_sc]
          · refine ⟨fun c3 => ?_, fun c3 => no ?_ _ _ (Sx_s (Sx_s (Sx_s (Sx_s (Sx_s (Sx_s hS (by omega) _) (by omega) _) (by omega) _) (by omega) _) (by omega) _) (by omega) _)⟩
            · have q : vkH σm nl R k i = true := by rw [vkH, crv, cb, decide_eq_true c3]; rfl
              rw [if_pos q] at hf
              rw [hf]
              exact hP _ _ (Sx_s (Sx_s (Sx_s (Sx_s (Sx_s (Sx_s hS (by omega) _) (by omega) _) (by omega) _) (by omega) _) (by omega) _) (by omega) _)
            · rw [vkH, decide_eq_false c3]; simp
          · intro j hj
            show (if j = 11 then R1 37 k - R1 37 i else if j = 4 then σx.2.1 19 k else if j = 9 then σx.2.1 19 i else r j) = if j = 9 then σm.2.1 35 i else if j = 11 then R 47 k - R 47 i else if j = 4 then σm.2.1 35 k else 0
            rw [hr j hj, g37, g37i, hB.2.2.2.2.2.2.2.1]
            by_cases q1 : j = 11
            · subst q1; rfl
            · rw [if_neg q1, if_neg q1]
              by_cases q2 : j = 4
              · subst q2; rfl
              · rw [if_neg q2, if_neg q2]
theorem endRivalsLoopC {σx : CS} {σm : MS} {R : Nat → Nat → Int32} {kn v : Int32} {np npr nf nl k : Nat} {Post : CS → Prop} (h : BH np npr nf nl σx σm) (hN : Nx npr R k)
    (hP : ∀ R2, EqC npr R2 (cR (eR σm R k npr)) → Post (cJ σx v kn R2)) :
    ∀ d i, i + d = npr → ∀ R1, EqC npr R1 (cR (eR σm R k i)) → wpC_X4_endRivals_2 Post (d + 1) (cJ σx v kn R1) (nI k) (nI i) := by
  obtain ⟨hA, hB, hC, hD⟩ := h
  have h10 := hB.1
  have hk : k < npr := hN.2.1
  have hv : vp_in (nI k) 10 := vp_in_nI (by omega) (by omega)
  have ck : (nI k).toNatClampNeg = k := nI_clamp (by omega)
  have hk1 := (hB.2.2.2.2.2.2.2.2.2 k hk).2.2.1
  have hkd := isD_lt hN.2.2.2.2.2
  have e47 : ∀ i q, eR σm R k i 47 q = R 47 q := fun i q => by unfold eR; split <;> rfl
  have evd : ∀ i q, vdR (eR σm R k i) q = vdR R q := fun i q => by
    have a1 : eR σm R k i 46 q = R 46 q := by unfold eR; split <;> rfl
    have a2 : eR σm R k i 48 q = R 48 q := by unfold eR; split <;> rfl
    have a3 : eR σm R k i 49 q = R 49 q := by unfold eR; split <;> rfl
    have a4 : eR σm R k i 50 q = R 50 q := by unfold eR; split <;> rfl
    have a5 : eR σm R k i 51 q = R 51 q := by unfold eR; split <;> rfl
    unfold vdR
    rw [a1, a2, a3, a4, a5]
  intro d
  induction d with
  | zero =>
    intro i hi R1 hE
    obtain rfl : i = npr := by omega
    refine ⟨fun _ => hP R1 hE, fun c => absurd ?_ c⟩
    show σx.1 286 ≤ nI i
    rw [hB.2.1]
    exact Int32.le_refl _
  | succ d ih =>
    intro i hi R1 hE
    have hin : i < npr := by omega
    have hvi : vp_in (nI i) 10 := vp_in_nI (by omega) (by omega)
    have cii : (nI i).toNatClampNeg = i := nI_clamp (by omega)
    have hi1 := (hB.2.2.2.2.2.2.2.2.2 i hin).2.2.1
    have hsh := sh_cases σm i k hi1 hk1
    have e52 : eR σm R k i 52 i = R 52 i := by unfold eR; rw [if_neg (fun q => absurd q.2 (by omega))]
    have g38 : R1 38 i = vdR R i := by
      rw [hE 38 i (by omega) (by omega) hin]
      exact evd i i
    have g41 : R1 41 i = capV (R 52 i) := by
      rw [hE 41 i (by omega) (by omega) hin, ← e52]
      rfl
    have g37 : R1 37 k = R 47 k := by
      rw [hE 37 k (by omega) (by omega) hk]
      show capV (eR σm R k i 47 k) = _
      rw [e47]
      exact capV_d hN.2.2.2.2.2
    have same : ∀ j q, (q = i → rvV σm R i k = false) → eR σm R k (i + 1) j q = eR σm R k i j q := by
      intro j q hq
      unfold eR
      by_cases eq : q = i
      · rw [eq, hq eq]; simp
      · have : (rvV σm R q k = true ∧ q < i + 1) ↔ (rvV σm R q k = true ∧ q < i) := by
          constructor
          · rintro ⟨a, b⟩; exact ⟨a, by omega⟩
          · rintro ⟨a, b⟩; exact ⟨a, by omega⟩
        simp only [this]
    refine ⟨fun c => ?_, fun _ => isRivalC hB hN hin g38 g41 g37 ⟨fun c => ?_, fun c => ?_⟩⟩
    · have c : σx.1 286 ≤ nI i := c
      rw [hB.2.1] at c
      exact absurd c (nI_ge (by omega) (by omega))
    · have crv : rvV σm R i k = false := (b2_0 _).mp c
      rintro _ rfl
      rw [nI_1]
      refine ih (i + 1) (by omega) R1 (fun j q j1 j2 hq => ?_)
      have : cR (eR σm R k (i + 1)) j q = cR (eR σm R k i) j q := by
        unfold cR
        rw [evd, evd, same 46 q (fun _ => crv), same 47 q (fun _ => crv), same 50 q (fun _ => crv), same 51 q (fun _ => crv), same 52 q (fun _ => crv), same 53 q (fun _ => crv), same 54 q (fun _ => crv), same 55 q (fun _ => crv)]
      rw [this]
      exact hE j q j1 j2 hq
    · have crv : rvV σm R i k = true := by
        cases hh : rvV σm R i k with
        | true => rfl
        | false => exact absurd ((b2_0 _).mpr hh) c
      have hs0 : ¬ shN σm i k = 0 := ((rv_class hN hin hi1 hk1).mp crv).2.2
      have hbr := hsh.2.2 hs0
      refine sharedC hB (by omega) (by omega) ⟨hv, hvi, ?_⟩
      rintro _ rfl
      refine ⟨hvi, ?_⟩
      rintro _ rfl
      refine ⟨hvi, ?_⟩
      rintro _ rfl
      rw [ck, cii, cJ_A _ _ _ _ 41 _ (by omega) (by omega), cJ_A _ _ _ _ 42 _ (by omega) (by omega), cJ_A _ _ _ _ 43 _ (by omega) (by omega)]
      have fin : ∀ t : Int32, t = brV σm i k → wpC_X4_endRivals_74 (fun a0 a1 a2 => wpC_X4_endRivals_2 Post (d + 1) a0 a1 a2) Post (cJ σx v kn (va_up (va_up (va_up R1 41 (upd (R1 41) i (R1 37 k))) 42 (upd (R1 42) i 9)) 43 (upd (R1 43) i (nI k)))) (nI k) (nI i) (nI i) t := by
        rintro _ rfl
        refine ⟨hvi, ?_⟩
        rintro _ rfl _ rfl
        rw [cii, cJ_A _ _ _ _ 44 _ (by omega) (by omega), nI_1]
        refine ih (i + 1) (by omega) _ (fun j q j1 j2 hq => ?_)
        by_cases eq : q = i
        · have hc : rvV σm R i k = true ∧ i < i + 1 := ⟨crv, by omega⟩
          have hc' : ¬ (rvV σm R i k = true ∧ i < i) := fun z => absurd z.2 (by omega)
          have hjq := hE j i j1 j2 hin
          subst eq
          rcases (show j = 36 ∨ j = 37 ∨ j = 38 ∨ j = 39 ∨ j = 40 ∨ j = 41 ∨ j = 42 ∨ j = 43 ∨ j = 44 by omega) with rfl | rfl | rfl | rfl | rfl | rfl | rfl | rfl | rfl
          · show R1 36 q = eR σm R k (q + 1) 46 q
            rw [hjq]
            show eR σm R k q 46 q = _
            unfold eR; rw [if_pos hc, if_neg hc']; rfl
          · show R1 37 q = capV (eR σm R k (q + 1) 47 q)
            rw [hjq]
            show capV (eR σm R k q 47 q) = _
            rw [e47, e47]
          · show R1 38 q = vdR (eR σm R k (q + 1)) q
            rw [evd]; exact g38
          · show R1 39 q = eR σm R k (q + 1) 50 q
            rw [hjq]
            show eR σm R k q 50 q = _
            unfold eR; rw [if_pos hc, if_neg hc']; rfl
          · show R1 40 q = eR σm R k (q + 1) 51 q
            rw [hjq]
            show eR σm R k q 51 q = _
            unfold eR; rw [if_pos hc, if_neg hc']; rfl
          · show upd (R1 41) q (R1 37 k) q = capV (eR σm R k (q + 1) 52 q)
            rw [pk_us, g37]
            unfold eR; rw [if_pos hc, if_pos rfl, capV_d hN.2.2.2.2.2]
          · show upd (R1 42) q 9 q = eR σm R k (q + 1) 53 q
            rw [pk_us]
            unfold eR; rw [if_pos hc]; rfl
          · show upd (R1 43) q (nI k) q = eR σm R k (q + 1) 54 q
            rw [pk_us]
            unfold eR; rw [if_pos hc]; rfl
          · show upd (R1 44) q (brV σm q k) q = eR σm R k (q + 1) 55 q
            rw [pk_us]
            unfold eR; rw [if_pos hc]; rfl
        · have hjq := hE j q j1 j2 hq
          have hcr : cR (eR σm R k (i + 1)) j q = cR (eR σm R k i) j q := by
            unfold cR
            rw [evd, evd, same 46 q (fun z => absurd z eq), same 47 q (fun z => absurd z eq), same 50 q (fun z => absurd z eq), same 51 q (fun z => absurd z eq), same 52 q (fun z => absurd z eq), same 53 q (fun z => absurd z eq), same 54 q (fun z => absurd z eq), same 55 q (fun z => absurd z eq)]
          rw [hcr, ← hjq]
          show (if j = 44 then upd (R1 44) i (brV σm i k) else if j = 43 then upd (R1 43) i (nI k) else if j = 42 then upd (R1 42) i 9 else if j = 41 then upd (R1 41) i (R1 37 k) else R1 j) q = R1 j q
          split
          · next e => rw [pk_un eq, e]
          · split
            · next e => rw [pk_un eq, e]
            · split
              · next e => rw [pk_un eq, e]
              · split
                · next e => rw [pk_un eq, e]
                · rfl
      refine ⟨fun c3 => fin 0 ?_, fun c3 => fin _ ?_⟩
      · rw [if_pos c3] at hbr; exact hbr
      · rw [if_neg c3] at hbr; exact hbr
