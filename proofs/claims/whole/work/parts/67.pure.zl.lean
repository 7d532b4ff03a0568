/-! pure level: what holds between calls; bound, goes, owes, changed -/
def IGif (ng npr : Nat) (σx : CS) (σm : MS) : Prop := ng ≤ 20 ∧ σx.1 423 = nI ng ∧ σm.1 53 = nI ng ∧ σx.2.1 22 = σm.2.1 37 ∧ σx.2.1 23 = σm.2.1 38 ∧ σx.2.1 24 = σm.2.1 39 ∧ ∀ g, g < ng → isN (σm.2.1 37 g) npr ∧ (σm.2.1 38 g = 0 ∨ σm.2.1 38 g = 1)
def keyV : Nat → Int64 := fun k => ([8868696, 1503, 311436, 6409157, 40187, 249, 423, 1111, 18379, 393, 8276, 119183, 10737959, 923, 60203876, 16466, 6477035, 11263, 17008, 80155] : List Int64).getD k 0
def IKey (σm : MS) : Prop := ∀ k, k < 20 → σm.2.2 7 k = keyV k
def RuB (σ : MS) (pg x : Nat) : Prop := (∃ f n, σ.2.1 15 x = nI f ∧ σ.2.1 16 x = nI (f + n) ∧ f + n ≤ 200 ∧ ∀ i, i < n → ∃ e, σ.2.1 21 (200 * pg + (f + i)) = nI e ∧ e ≤ 500 * (pg + 1)) ∧ (σ.2.1 11 x = 4 → ∃ to, σ.2.1 14 x = nI to ∧ to ≤ 500 * (pg + 1))
def ILB (nl : Nat) (σ : MS) : Prop := ∀ l, l < nl → ∀ r, r < (σ.2.1 10 l).toNatClampNeg → RuB σ l (16 * l + r)
/-- what holds between calls, the counts told -/
def InvP (nt np npr nf nl ng : Nat) (σx : CS) (σm : MS) : Prop := ITn nt σx σm ∧ σx.1 9 = σm.1 17 ∧ BH np npr nf nl σx σm ∧ IGif ng npr σx σm ∧ IGo np npr nf nl σm ∧ IKey σm ∧ ILB nl σm
def Inv (σx : CS) (σm : MS) : Prop := ∃ nt np npr nf nl ng, InvP nt np npr nf nl ng σx σm
theorem InvP_J {nt np npr nf nl ng n : Nat} {σx : CS} {σm : MS} {R R2 : Nat → Nat → Int32} {v : Int32} (h : InvP nt np npr nf nl ng σx σm) (hn : n ≤ nf) (hE : EqR npr R2 (jAll σm np npr nl n)) : InvP nt np npr nf nl ng (cJ σx v (nI n) R) (mJ σm (nI n) R2) := by
  obtain ⟨h1, h2, h3, h4, h5, h6, h7⟩ := h
  refine ⟨h1, h2, h3, h4, Or.inr ⟨n, hn, rfl, ?_⟩, h6, h7⟩
  have e : jAll (mJ σm (nI n) R2) np npr nl n = jAll σm np npr nl n := jAll_rows (fun j hj => by
    show (if 44 ≤ j ∧ j ≤ 56 then R2 j else σm.2.1 j) = σm.2.1 j
    rw [if_neg (by omega)])
  rw [e]
  intro j q j1 j2 hq
  show (if 44 ≤ j ∧ j ≤ 56 then R2 j else σm.2.1 j) q = _
  rw [if_pos (by omega)]
  exact hE j q j1 j2 hq
theorem InvP_45 {nt np npr nf nl ng : Nat} {σx : CS} {σm : MS} {f f2 : Nat → Int32} (h : InvP nt np npr nf nl ng σx σm) : InvP nt np npr nf nl ng (cA σx 45 f) (mA σm 57 f2) := by
  obtain ⟨h1, h2, h3, h4, h5, h6, h7⟩ := h
  refine ⟨h1, h2, h3, h4, ?_, h6, h7⟩
  rcases h5 with e | ⟨n, hn, e, hE⟩
  · exact Or.inl e
  · refine Or.inr ⟨n, hn, e, ?_⟩
    have e2 : jAll (mA σm 57 f2) np npr nl n = jAll σm np npr nl n := jAll_rows (fun j hj => by
      show (if j = 57 then f2 else σm.2.1 j) = σm.2.1 j
      rw [if_neg (by omega)])
    rw [e2]
    intro j q j1 j2 hq
    show (if j = 57 then f2 else σm.2.1 j) q = _
    rw [if_neg (by omega)]
    exact hE j q j1 j2 hq
theorem CH_of {nt np npr nf nl ng : Nat} {σx : CS} {σm : MS} (h : InvP nt np npr nf nl ng σx σm) : CH np npr nf nl σx σm (fun τ τ2 => Inv τ τ2) :=
  ⟨h.2.2.1, h.2.2.2.2.1, ⟨nt, np, npr, nf, nl, ng, h⟩, fun n R v R2 hn hE => ⟨nt, np, npr, nf, nl, ng, InvP_J h hn hE⟩⟩
def bdH (σ : MS) (R : Nat → Nat → Int32) (a d : Int32) : Nat → Bool := fun p => bnd σ a p && decide (stJ (σ.2.1 36) R p d = 6)
def bdV (σ : MS) (npr : Nat) (R : Nat → Nat → Int32) (a d : Int32) : Int32 := if fstF (bdH σ R a d) npr 0 = -1 then -1 else if σ.2.1 31 (fstF (bdH σ R a d) npr 0).toNatClampNeg = a then σ.2.1 32 (fstF (bdH σ R a d) npr 0).toNatClampNeg else σ.2.1 31 (fstF (bdH σ R a d) npr 0).toNatClampNeg
theorem boundLoopC {σx : CS} {σm : MS} {R R' : Nat → Nat → Int32} {v kn a d : Int32} {np npr : Nat} {Post : Int32 → CS → Prop} (hB : IPro npr np σx σm) (hJ : JF npr R) (hE : EqC npr R' (cR R)) (hd : isD d) (hP : Post (bdV σm npr R a d) (cJ σx v kn R')) :
    ∀ t i, i + t = npr → fstF (bdH σm R a d) t i = fstF (bdH σm R a d) npr 0 → wpC_X10_bound_39 Post (t + 1) (cJ σx v kn R') a d (nI i) := by
  have h10 := hB.1
  intro t
  induction t with
  | zero =>
    intro i hi hf
    obtain rfl : i = npr := by omega
    refine ⟨fun _ => ?_, fun c => absurd ?_ c⟩
    · rw [bdV, if_pos (show fstF (bdH σm R a d) i 0 = -1 from hf.symm)] at hP
      exact hP
    · show σx.1 286 ≤ nI i
      rw [hB.2.1]
      exact Int32.le_refl _
  | succ t ih =>
    intro i hi hf
    have hin : i < npr := by omega
    have hvi : vp_in (nI i) 10 := vp_in_nI (by omega) (by omega)
    have cii : (nI i).toNatClampNeg = i := nI_clamp (by omega)
    rw [fstF] at hf
    have no : ¬ bdH σm R a d i = true → ∀ y, y = nI i + 1 → wpC_X10_bound_39 Post (t + 1) (cJ σx v kn R') a d y := by
      rintro q _ rfl
      rw [nI_1]
      rw [if_neg q] at hf
      exact ih (i + 1) (by omega) hf
    refine ⟨fun c => ?_, fun _ => bindsC (by omega) ?_⟩
    · have c : σx.1 286 ≤ nI i := c
      rw [hB.2.1] at c
      exact absurd c (nI_ge (by omega) (by omega))
    · have eb : bnC (cJ σx v kn R') a i = bnd σm a i := bn_eq (σx := σx) hB
      rw [eb]
      refine ⟨fun c => no ?_, fun c => stateOnC hB hJ hE hd hin ⟨fun c1 => ?_, fun c1 => no ?_⟩⟩
      · rw [bdH, (b2_0 _).mp c]; simp
      · have cb : bnd σm a i = true := by
          cases hh : bnd σm a i with
          | true => rfl
          | false => exact absurd ((b2_0 _).mpr hh) c
        have q : bdH σm R a d i = true := by rw [bdH, cb, decide_eq_true c1]; rfl
        rw [if_pos q] at hf
        rw [bdV, ← hf, if_neg (nI_nm1 (by omega)), cii] at hP
        unfold wpC_X7_otherOf
        rw [cii]
        change vp_in (nI i) 10 ∧ (σx.2.1 15 i = a → vp_in (nI i) 10 ∧ Post (σx.2.1 16 i) (cJ σx v kn R')) ∧ (¬ σx.2.1 15 i = a → vp_in (nI i) 10 ∧ Post (σx.2.1 15 i) (cJ σx v kn R'))
        rw [hB.2.2.2.1, hB.2.2.2.2.1]
        refine ⟨hvi, fun c2 => ⟨hvi, ?_⟩, fun c2 => ⟨hvi, ?_⟩⟩
        · rw [if_pos c2] at hP; exact hP
        · rw [if_neg c2] at hP; exact hP
      · rw [bdH, decide_eq_false c1]; simp
theorem boundLoopM {σ : MS} {R R1 : Nat → Nat → Int32} {g a d : Int32} {np npr nl : Nat} {Post : Int32 → MS → Prop} (h : RM np npr nl σ) (hE : EqR npr R1 R) (hP : Post (bdV σ npr R a d) (mJ σ g R1)) :
    ∀ t i, i + t = npr → fstF (bdH σ R a d) t i = fstF (bdH σ R a d) npr 0 → wpM_bound_33 Post (t + 1) (mJ σ g R1) a d (nI i) := by
  have h10 : npr ≤ 10 := h.2.2.2.1
  intro t
  induction t with
  | zero =>
    intro i hi hf
    obtain rfl : i = npr := by omega
    refine ⟨fun _ => ?_, fun c => absurd ?_ c⟩
    · rw [bdV, if_pos (show fstF (bdH σ R a d) i 0 = -1 from hf.symm)] at hP
      exact hP
    · show σ.1 46 ≤ nI i
      rw [h.2.2.1]
      exact Int32.le_refl _
  | succ t ih =>
    intro i hi hf
    have hin : i < npr := by omega
    have hvi : vp_in (nI i) 10 := vp_in_nI (by omega) (by omega)
    have cii : (nI i).toNatClampNeg = i := nI_clamp (by omega)
    rw [fstF] at hf
    have no : ¬ bdH σ R a d i = true → ∀ y, y = nI i + 1 → wpM_bound_33 Post (t + 1) (mJ σ g R1) a d y := by
      rintro q _ rfl
      rw [nI_1]
      rw [if_neg q] at hf
      exact ih (i + 1) (by omega) hf
    refine ⟨fun c => ?_, fun _ => isInM (by omega) ?_⟩
    · have c : σ.1 46 ≤ nI i := c
      rw [h.2.2.1] at c
      exact absurd c (nI_ge (by omega) (by omega))
    · have est : stJ ((mJ σ g R1).2.1 36) (mJ σ g R1).2.1 i d = stJ (σ.2.1 36) R i d := (show stJ (σ.2.1 36) R1 i d = _ from stJ_congr hE hin)
      refine ⟨fun c => no ?_, fun c => stateOfM (by omega) ?_⟩
      · have c : bnd σ a i = false := (b2_0 _).mp c
        rw [bdH, c]; simp
      · rw [est]
        refine ⟨fun c1 => ⟨hvi, ?_⟩, fun c1 => no ?_⟩
        · have cb : bnd σ a i = true := by
            cases hh : bnd σ a i with
            | true => rfl
            | false => exact absurd ((b2_0 _).mpr hh) c
          have q : bdH σ R a d i = true := by rw [bdH, cb, decide_eq_true c1]; rfl
          rw [if_pos q] at hf
          rw [bdV, ← hf, if_neg (nI_nm1 (by omega)), cii] at hP
          rw [cii]
          refine ⟨fun c2 => ⟨hvi, ?_⟩, fun c2 => ⟨hvi, ?_⟩⟩
          · have c2 : σ.2.1 31 i = a := c2
            rw [if_pos c2] at hP; exact hP
          · have c2 : ¬ σ.2.1 31 i = a := c2
            rw [if_neg c2] at hP; exact hP
        · rw [bdH, decide_eq_false c1]; simp
theorem bound2 {np npr nf nl : Nat} {σx : CS} {σm : MS} {Q : CS → MS → Prop} {a d b : Int32} (H : CH np npr nf nl σx σm Q) : wpC_X10_bound σx a d b (fun r τ => wpM_bound σm a d b (fun r2 τ2 => r = r2 ∧ Q τ τ2)) := by
  obtain ⟨h, hG, hQ0, hQ⟩ := H
  have h12 := h.1.1
  have h10 := h.2.1.1
  have h200 := h.2.2.1.1
  refine hasC h.1.2.1 (by omega) (fun hA => ⟨fun y => absurd y no1, fun _ => isDayC (fun hD => ⟨fun y => absurd y no1, fun _ => isKnownC h.2.2.1.2.1 (by omega) (fun hK => ⟨fun y => absurd y no1, fun _ => ?_⟩) (fun hK => ⟨fun _ => ?_, fun y => absurd rfl y⟩)⟩) (fun hD => ⟨fun _ => ?_, fun y => absurd rfl y⟩)⟩) (fun hA => ⟨fun _ => ?_, fun y => absurd rfl y⟩)
  · obtain ⟨n, hn, rfl⟩ := hK
    refine hearC h hn (fun R v hE => ⟨npr + 1, boundLoopC h.2.1 (jA_ok h hn) hE hD ?_ npr 0 (by omega) rfl⟩)
    refine isPersonM h.1.2.2.1 (by omega) (fun _ => ⟨fun y => absurd y no1, fun _ => isDayM (fun _ => ⟨fun y => absurd y no1, fun _ => isKnownM h.2.2.1.2.2.1 (by omega) (fun _ => ⟨fun y => absurd y no1, fun _ => judges2 h hG hn (fun R2 hE2 => ⟨npr + 1, boundLoopM (RM_of h) hE2 ⟨rfl, hQ n R v R2 hn hE2⟩ npr 0 (by omega) rfl⟩)⟩) (fun q => absurd ⟨n, hn, rfl⟩ q)⟩) (fun q => absurd hD q)⟩) (fun q => absurd hA q)
  · exact isPersonM h.1.2.2.1 (by omega) (fun _ => ⟨fun y => absurd y no1, fun _ => isDayM (fun _ => ⟨fun y => absurd y no1, fun _ => isKnownM h.2.2.1.2.2.1 (by omega) (fun q => absurd q hK) (fun _ => ⟨fun _ => ⟨rfl, hQ0⟩, fun y => absurd rfl y⟩)⟩) (fun q => absurd hD q)⟩) (fun q => absurd hA q)
  · exact isPersonM h.1.2.2.1 (by omega) (fun _ => ⟨fun y => absurd y no1, fun _ => isDayM (fun q => absurd q hD) (fun _ => ⟨fun _ => ⟨rfl, hQ0⟩, fun y => absurd rfl y⟩)⟩) (fun q => absurd hA q)
  · exact isPersonM h.1.2.2.1 (by omega) (fun q => absurd q hA) (fun _ => ⟨fun _ => ⟨rfl, hQ0⟩, fun y => absurd rfl y⟩)
theorem srV_congr {σ : MS} {nl npr p : Nat} {R1 R : Nat → Nat → Int32} {gv d : Int32} (hE : EqR npr R1 R) (hp : p < npr) : srV σ nl R1 p gv d = srV σ nl R p gv d := by
  unfold srV
  rw [stJ_congr hE hp, hE 55 p (by omega) (by omega) hp, hE 52 p (by omega) (by omega) hp, hE 47 p (by omega) (by omega) hp]
theorem goingBackC {σx : CS} {σm : MS} {R R' : Nat → Nat → Int32} {v kn d : Int32} {np npr nl ng a p : Nat} {Post : Int32 → CS → Prop} (hB : IPro npr np σx σm) (hD : ILaw nl σx σm) (hI : IGif ng npr σx σm) (hJ : JF npr R) (hE : EqC npr R' (cR R)) (hd : isD d) (ha : a < ng) (hp : p < npr) (h37 : σm.2.1 37 a = nI p)
    (hP : ∀ R2 v2, Sx R' R2 → Post (σm.2.1 39 a * srV σm nl R p (σm.2.1 38 a) d / 100) (cJ σx v2 kn R2)) : wpC_X10_goingBack (cJ σx v kn R') (nI a) d Post := by
  have h20 := hI.1
  have hva : vp_in (nI a) 20 := vp_in_nI (by omega) (by omega)
  have ca : (nI a).toNatClampNeg = a := nI_clamp (by omega)
  unfold wpC_X10_goingBack
  rw [ca]
  have e22 : (cJ σx v kn R').2.1 22 a = nI p := by
    show σx.2.1 22 a = _
    rw [hI.2.2.2.1, h37]
  have e23 : (cJ σx v kn R').2.1 23 a = σm.2.1 38 a := by
    show σx.2.1 23 a = _
    rw [hI.2.2.2.2.1]
  rw [e22, e23]
  refine ⟨hva, hva, shareBackC hB hD hJ hE hd hp (fun R2 v2 hS => ⟨hva, ?_⟩)⟩
  have e24 : (cJ σx v2 kn R2).2.1 24 a = σm.2.1 39 a := by
    show σx.2.1 24 a = _
    rw [hI.2.2.2.2.2.1]
  rw [e24]
  exact hP R2 v2 hS
theorem goes2 {np npr nf nl ng : Nat} {σx : CS} {σm : MS} {Q : CS → MS → Prop} {a d b : Int32} (H : CH np npr nf nl σx σm Q) (hI : IGif ng npr σx σm) : wpC_X10_goes σx a d b (fun r τ => wpM_goes σm a d b (fun r2 τ2 => r = r2 ∧ Q τ τ2)) := by
  obtain ⟨h, hG, hQ0, hQ⟩ := H
  have h10 := h.2.1.1
  have h20 := hI.1
  have h200 := h.2.2.1.1
  refine ⟨fun c => ⟨fun _ => ⟨rfl, hQ0⟩, fun q => absurd c q⟩, fun c => ⟨fun c1 => ⟨fun q => absurd q c, fun _ => ⟨fun _ => ⟨rfl, hQ0⟩, fun q => absurd ?_ q⟩⟩, fun c1 => ?_⟩⟩
  · rw [hI.2.2.1, ← hI.2.1]; exact c1
  · have hA : isN a ng := isN_of hI.2.1 (by omega) c c1
    obtain ⟨k, hk, rfl⟩ := hA
    have c1' : ¬ σm.1 53 ≤ nI k := by rw [hI.2.2.1, ← hI.2.1]; exact c1
    refine isDayC (fun hD => ⟨fun y => absurd y no1, fun _ => isKnownC h.2.2.1.2.1 (by omega) (fun hK => ⟨fun y => absurd y no1, fun _ => ?_⟩) (fun hK => ⟨fun _ => ?_, fun y => absurd rfl y⟩)⟩) (fun hD => ⟨fun _ => ?_, fun y => absurd rfl y⟩)
    · obtain ⟨n, hn, rfl⟩ := hK
      obtain ⟨p, hp, ep⟩ := (hI.2.2.2.2.2.2 k hk).1
      refine hearC h hn (fun R v hE => goingBackC h.2.1 h.2.2.2 hI (jA_ok h hn) hE hD hk hp ep (fun R3 v3 hS => ?_))
      refine ⟨fun q => absurd q c, fun _ => ⟨fun q => absurd q c1', fun _ => isDayM (fun _ => ⟨fun y => absurd y no1, fun _ => isKnownM h.2.2.1.2.2.1 (by omega) (fun _ => ⟨fun y => absurd y no1, fun _ => judges2 h hG hn (fun R2 hE2 => ?_)⟩) (fun q => absurd ⟨n, hn, rfl⟩ q)⟩) (fun q => absurd hD q)⟩⟩
      refine backOfM (gv := σm.2.1 38 k) (RM_of h) (by omega) hp ep rfl (fun r1 r2 => ⟨?_, hQ n R3 v3 _ hn ?_⟩)
      · rw [srV_congr hE2 hp]
      · intro j q j1 j2 hq
        rw [vaU_at, if_neg (by omega), vaU_at, if_neg (by omega)]
        exact hE2 j q j1 j2 hq
    · exact ⟨fun q => absurd q c, fun _ => ⟨fun q => absurd q c1', fun _ => isDayM (fun _ => ⟨fun y => absurd y no1, fun _ => isKnownM h.2.2.1.2.2.1 (by omega) (fun q => absurd q hK) (fun _ => ⟨fun _ => ⟨rfl, hQ0⟩, fun y => absurd rfl y⟩)⟩) (fun q => absurd hD q)⟩⟩
    · exact ⟨fun q => absurd q c, fun _ => ⟨fun q => absurd q c1', fun _ => isDayM (fun q => absurd q hD) (fun _ => ⟨fun _ => ⟨rfl, hQ0⟩, fun y => absurd rfl y⟩)⟩⟩
/-- what a person owes for the first g gifts -/
def owF (σ : MS) (nl : Nat) (R : Nat → Nat → Int32) (a d : Int32) : Nat → Int32
  | 0 => 0
  | g + 1 => if bnd σ a (σ.2.1 37 g).toNatClampNeg = true then owF σ nl R a d g + (if (if σ.2.1 38 g = 0 then σ.2.1 31 (σ.2.1 37 g).toNatClampNeg = a else σ.2.1 32 (σ.2.1 37 g).toNatClampNeg = a) then -(σ.2.1 39 g * srV σ nl R (σ.2.1 37 g).toNatClampNeg (σ.2.1 38 g) d / 100) else σ.2.1 39 g * srV σ nl R (σ.2.1 37 g).toNatClampNeg (σ.2.1 38 g) d / 100) else owF σ nl R a d g
theorem owesLoopC {σx : CS} {σm : MS} {R R' : Nat → Nat → Int32} {kn a d : Int32} {np npr nl ng : Nat} {Post : Int32 → CS → Prop} (hB : IPro npr np σx σm) (hD : ILaw nl σx σm) (hI : IGif ng npr σx σm) (hJ : JF npr R) (hE : EqC npr R' (cR R)) (hd : isD d) (hP : ∀ R2 v2, Post (owF σm nl R a d ng) (cJ σx v2 kn R2)) :
    ∀ t i, i + t = ng → ∀ R1 v, Sx R' R1 → wpC_X10_owes_42 Post (t + 1) (cJ σx v kn R1) a d (owF σm nl R a d i) (nI i) := by
  have h10 := hB.1
  have h20 := hI.1
  intro t
  induction t with
  | zero =>
    intro i hi R1 v hS
    obtain rfl : i = ng := by omega
    refine ⟨fun _ => hP R1 v, fun c => absurd ?_ c⟩
    show σx.1 423 ≤ nI i
    rw [hI.2.1]
    exact Int32.le_refl _
  | succ t ih =>
    intro i hi R1 v hS
    have hvi : vp_in (nI i) 20 := vp_in_nI (by omega) (by omega)
    have cii : (nI i).toNatClampNeg = i := nI_clamp (by omega)
    obtain ⟨⟨p, hp, ep⟩, hg⟩ := hI.2.2.2.2.2.2 i (by omega)
    have cp : (nI p).toNatClampNeg = p := nI_clamp (by omega)
    have hvp : vp_in (nI p) 10 := vp_in_nI (by omega) (by omega)
    have hne := (hB.2.2.2.2.2.2.2.2.2 p hp).2.2.1
    have es : owF σm nl R a d (i + 1) = if bnd σm a p = true then owF σm nl R a d i + (if (if σm.2.1 38 i = 0 then σm.2.1 31 p = a else σm.2.1 32 p = a) then -(σm.2.1 39 i * srV σm nl R p (σm.2.1 38 i) d / 100) else σm.2.1 39 i * srV σm nl R p (σm.2.1 38 i) d / 100) else owF σm nl R a d i := by
      rw [owF, ep, cp]
    have hE1 : EqC npr R1 (cR R) := fun j q j1 j2 hq => by rw [hS j j1]; exact hE j q j1 j2 hq
    unfold wpC_X10_owes_42
    rw [cii]
    refine ⟨fun c => ?_, fun _ => ⟨hvi, ?_⟩⟩
    · have c : σx.1 423 ≤ nI i := c
      rw [hI.2.1] at c
      exact absurd c (nI_ge (by omega) (by omega))
    · intro y ey
      have ey : y = nI p := by
        rw [ey, ← ep, ← hI.2.2.2.1]; rfl
      subst ey
      refine bindsC (by omega) ?_
      have eb : bnC (cJ σx v kn R1) a p = bnd σm a p := bn_eq (σx := σx) hB
      rw [eb]
      refine ⟨fun c => ?_, fun c => ?_⟩
      · have c := (b2_0 _).mp c
        rintro _ rfl
        rw [nI_1]
        have := ih (i + 1) (by omega) R1 v hS
        rw [es, if_neg (by rw [c]; decide)] at this
        exact this
      · have cb : bnd σm a p = true := by
          cases hh : bnd σm a p with
          | true => rfl
          | false => exact absurd ((b2_0 _).mpr hh) c
        rw [if_pos cb] at es
        refine goingBackC hB hD hI hJ hE1 hd (by omega) hp ep (fun R2 v2 hS2 => ?_)
        have hS3 : Sx R' R2 := fun j hj => (hS2 j hj).trans (hS j hj)
        have ih2 := ih (i + 1) (by omega) R2 v2 hS3
        rw [es] at ih2
        have e15 : (cJ σx v2 kn R2).2.1 15 p = σm.2.1 31 p := by
          show σx.2.1 15 p = _
          rw [hB.2.2.2.1]
        have e23 : (cJ σx v2 kn R2).2.1 23 i = σm.2.1 38 i := by
          show σx.2.1 23 i = _
          rw [hI.2.2.2.2.1]
        unfold wpC_X7_sideOf
        rw [cp, e15]
        have hbn : σm.2.1 31 p = a ∨ σm.2.1 32 p = a := by
          rw [bnd, Bool.or_eq_true, decide_eq_true_eq, decide_eq_true_eq] at cb
          exact cb
        refine ⟨hvp, fun c1 => ⟨hvi, fun c2 => ?_, fun c2 => ?_⟩, fun c1 => ⟨hvi, fun c2 => ?_, fun c2 => ?_⟩⟩
        · have c2 : (0 : Int32) = σm.2.1 38 i := c2.trans e23
          rw [if_pos (by rw [if_pos c2.symm]; exact c1)] at ih2
          rintro _ rfl _ rfl
          rw [nI_1]
          exact ih2
        · have g1 : σm.2.1 38 i = 1 := hg.resolve_left (fun z => c2 (z.symm.trans e23.symm))
          rw [if_neg (by rw [if_neg (by rw [g1]; decide)]; intro z; exact hne (c1.trans z.symm))] at ih2
          rintro _ rfl _ rfl
          rw [nI_1]
          exact ih2
        · have c2 : (1 : Int32) = σm.2.1 38 i := c2.trans e23
          rw [if_pos (by rw [if_neg (by rw [← c2]; decide)]; exact hbn.resolve_left c1)] at ih2
          rintro _ rfl _ rfl
          rw [nI_1]
          exact ih2
        · have g0 : σm.2.1 38 i = 0 := hg.resolve_right (fun z => c2 (z.symm.trans e23.symm))
          rw [if_neg (by rw [if_pos g0]; exact c1)] at ih2
          rintro _ rfl _ rfl
          rw [nI_1]
          exact ih2
theorem owesLoopM {σ : MS} {R R1 : Nat → Nat → Int32} {g a d : Int32} {np npr nl ng : Nat} {Post : Int32 → MS → Prop} (h : RM np npr nl σ) (hng : ng ≤ 20) (h53 : σ.1 53 = nI ng) (hg : ∀ i, i < ng → isN (σ.2.1 37 i) npr) (hE : EqR npr R1 R) (hP : ∀ R2, EqR npr R2 R → Post (owF σ nl R a d ng) (mJ σ g R2)) :
    ∀ t i, i + t = ng → ∀ R2, EqR npr R2 R → wpM_owes_36 Post (t + 1) (mJ σ g R2) a d (owF σ nl R a d i) (nI i) := by
  have h10 : npr ≤ 10 := h.2.2.2.1
  intro t
  induction t with
  | zero =>
    intro i hi R2 hE2
    obtain rfl : i = ng := by omega
    refine ⟨fun _ => hP R2 hE2, fun c => absurd ?_ c⟩
    show σ.1 53 ≤ nI i
    rw [h53]
    exact Int32.le_refl _
  | succ t ih =>
    intro i hi R2 hE2
    have hvi : vp_in (nI i) 20 := vp_in_nI (by omega) (by omega)
    have cii : (nI i).toNatClampNeg = i := nI_clamp (by omega)
    obtain ⟨p, hp, ep⟩ := hg i (by omega)
    have cp : (nI p).toNatClampNeg = p := nI_clamp (by omega)
    have hvp : vp_in (nI p) 10 := vp_in_nI (by omega) (by omega)
    have es : owF σ nl R a d (i + 1) = if bnd σ a p = true then owF σ nl R a d i + (if (if σ.2.1 38 i = 0 then σ.2.1 31 p = a else σ.2.1 32 p = a) then -(σ.2.1 39 i * srV σ nl R p (σ.2.1 38 i) d / 100) else σ.2.1 39 i * srV σ nl R p (σ.2.1 38 i) d / 100) else owF σ nl R a d i := by
      rw [owF, ep, cp]
    unfold wpM_owes_36
    rw [cii]
    refine ⟨fun c => ?_, fun _ => ⟨hvi, ?_⟩⟩
    · have c : σ.1 53 ≤ nI i := c
      rw [h53] at c
      exact absurd c (nI_ge (by omega) (by omega))
    · intro y ey
      have ey : y = nI p := ey.trans ep
      subst ey
      refine isInM (by omega) ⟨fun c => ?_, fun c => ⟨hvi, ?_⟩⟩
      · have c : bnd σ a p = false := (b2_0 _).mp c
        rintro _ rfl
        rw [nI_1]
        have := ih (i + 1) (by omega) R2 hE2
        rw [es, if_neg (by rw [c]; decide)] at this
        exact this
      · have cb : bnd σ a p = true := by
          cases hh : bnd σ a p with
          | true => rfl
          | false => exact absurd ((b2_0 _).mpr hh) c
        rw [if_pos cb] at es
        have h112 : ∀ t0 : Int32, (t0 = 0 ↔ ¬ (if σ.2.1 38 i = 0 then σ.2.1 31 p = a else σ.2.1 32 p = a)) → wpM_owes_112 (fun a0 a1 a2 a3 a4 => wpM_owes_36 Post (t + 1) a0 a1 a2 a3 a4) Post (mJ σ g R2) a d (owF σ nl R a d i) (nI i) t0 := by
          intro t0 ht
          refine ⟨fun c1 => ?_, fun c1 => ?_⟩
          · refine backOfM (gv := σ.2.1 38 i) h (by omega) hp ep rfl (fun r1 r2 => ?_)
            rintro _ rfl _ rfl
            rw [nI_1, srV_congr hE2 hp]
            have := ih (i + 1) (by omega) (va_up (va_up R2 44 r1) 45 r2) (fun j q j1 j2 hq => by rw [vaU_at, if_neg (by omega), vaU_at, if_neg (by omega)]; exact hE2 j q j1 j2 hq)
            rw [es, if_neg (ht.mp c1)] at this
            exact this
          · refine backOfM (gv := σ.2.1 38 i) h (by omega) hp ep rfl (fun r1 r2 => ?_)
            rintro _ rfl _ rfl
            rw [nI_1, srV_congr hE2 hp]
            have := ih (i + 1) (by omega) (va_up (va_up R2 44 r1) 45 r2) (fun j q j1 j2 hq => by rw [vaU_at, if_neg (by omega), vaU_at, if_neg (by omega)]; exact hE2 j q j1 j2 hq)
            rw [es, if_pos (Classical.byContradiction (fun z => c1 (ht.mpr z)))] at this
            exact this
        rw [cp]
        refine ⟨fun c1 => ⟨hvp, fun c2 => h112 1 ?_, fun c2 => h112 0 ?_⟩, fun c1 => ⟨hvp, fun c2 => h112 1 ?_, fun c2 => h112 0 ?_⟩⟩
        · have c1 : σ.2.1 38 i = 0 := c1
          rw [if_pos c1]
          exact ⟨fun z => absurd z no1, fun z => absurd c2 z⟩
        · have c1 : σ.2.1 38 i = 0 := c1
          rw [if_pos c1]
          exact ⟨fun _ => c2, fun _ => rfl⟩
        · have c1 : ¬ σ.2.1 38 i = 0 := c1
          rw [if_neg c1]
          exact ⟨fun z => absurd z no1, fun z => absurd c2 z⟩
        · have c1 : ¬ σ.2.1 38 i = 0 := c1
          rw [if_neg c1]
          exact ⟨fun _ => c2, fun _ => rfl⟩
theorem owes2 {np npr nf nl ng : Nat} {σx : CS} {σm : MS} {Q : CS → MS → Prop} {a d b : Int32} (H : CH np npr nf nl σx σm Q) (hI : IGif ng npr σx σm) : wpC_X10_owes σx a d b (fun r τ => wpM_owes σm a d b (fun r2 τ2 => r = r2 ∧ Q τ τ2)) := by
  obtain ⟨h, hG, hQ0, hQ⟩ := H
  have h12 := h.1.1
  have h10 := h.2.1.1
  have h200 := h.2.2.1.1
  refine hasC h.1.2.1 (by omega) (fun hA => ⟨fun y => absurd y no1, fun _ => isDayC (fun hD => ⟨fun y => absurd y no1, fun _ => isKnownC h.2.2.1.2.1 (by omega) (fun hK => ⟨fun y => absurd y no1, fun _ => ?_⟩) (fun hK => ⟨fun _ => ?_, fun y => absurd rfl y⟩)⟩) (fun hD => ⟨fun _ => ?_, fun y => absurd rfl y⟩)⟩) (fun hA => ⟨fun _ => ?_, fun y => absurd rfl y⟩)
  · obtain ⟨n, hn, rfl⟩ := hK
    refine hearC h hn (fun R v hE => ⟨ng + 1, owesLoopC h.2.1 h.2.2.2 hI (jA_ok h hn) hE hD (fun R3 v3 => ?_) ng 0 (by omega) R v (fun _ _ => rfl)⟩)
    refine isPersonM h.1.2.2.1 (by omega) (fun _ => ⟨fun y => absurd y no1, fun _ => isDayM (fun _ => ⟨fun y => absurd y no1, fun _ => isKnownM h.2.2.1.2.2.1 (by omega) (fun _ => ⟨fun y => absurd y no1, fun _ => judges2 h hG hn (fun R2 hE2 => ⟨ng + 1, owesLoopM (RM_of h) hI.1 hI.2.2.1 (fun i hi => (hI.2.2.2.2.2.2 i hi).1) hE2 (fun R4 hE4 => ⟨rfl, hQ n R3 v3 R4 hn hE4⟩) ng 0 (by omega) R2 hE2⟩)⟩) (fun q => absurd ⟨n, hn, rfl⟩ q)⟩) (fun q => absurd hD q)⟩) (fun q => absurd hA q)
  · exact isPersonM h.1.2.2.1 (by omega) (fun _ => ⟨fun y => absurd y no1, fun _ => isDayM (fun _ => ⟨fun y => absurd y no1, fun _ => isKnownM h.2.2.1.2.2.1 (by omega) (fun q => absurd q hK) (fun _ => ⟨fun _ => ⟨rfl, hQ0⟩, fun y => absurd rfl y⟩)⟩) (fun q => absurd hD q)⟩) (fun q => absurd hA q)
  · exact isPersonM h.1.2.2.1 (by omega) (fun _ => ⟨fun y => absurd y no1, fun _ => isDayM (fun q => absurd q hD) (fun _ => ⟨fun _ => ⟨rfl, hQ0⟩, fun y => absurd rfl y⟩)⟩) (fun q => absurd hA q)
  · exact isPersonM h.1.2.2.1 (by omega) (fun q => absurd q hA) (fun _ => ⟨fun _ => ⟨rfl, hQ0⟩, fun y => absurd rfl y⟩)
