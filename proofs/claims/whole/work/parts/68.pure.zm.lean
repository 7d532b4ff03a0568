/-! pure level: changed; the judgement stays when more is told -/
theorem c45J (σ : CS) (v kn : Int32) (R : Nat → Nat → Int32) (f : Nat → Int32) : cA (cJ σ v kn R) 45 f = cJ (cA σ 45 f) v kn R := by
  have : va_up (fun i => if 32 ≤ i ∧ i ≤ 44 then R i else σ.2.1 i) 45 f = (fun i => if 32 ≤ i ∧ i ≤ 44 then R i else va_up σ.2.1 45 f i) := by
    funext i
    show (if i = 45 then f else if 32 ≤ i ∧ i ≤ 44 then R i else σ.2.1 i) = if 32 ≤ i ∧ i ≤ 44 then R i else (if i = 45 then f else σ.2.1 i)
    by_cases e : i = 45
    · rw [if_pos e, if_neg (by omega), if_pos e]
    · rw [if_neg e, if_neg e]
  show (_, va_up (fun i => if 32 ≤ i ∧ i ≤ 44 then R i else σ.2.1 i) 45 f, _) = _
  rw [this]
  rfl
theorem m57J (σ : MS) (g : Int32) (R : Nat → Nat → Int32) (f : Nat → Int32) : mA (mJ σ g R) 57 f = mJ (mA σ 57 f) g R := by
  have : va_up (fun i => if 44 ≤ i ∧ i ≤ 56 then R i else σ.2.1 i) 57 f = (fun i => if 44 ≤ i ∧ i ≤ 56 then R i else va_up σ.2.1 57 f i) := by
    funext i
    show (if i = 57 then f else if 44 ≤ i ∧ i ≤ 56 then R i else σ.2.1 i) = if 44 ≤ i ∧ i ≤ 56 then R i else (if i = 57 then f else σ.2.1 i)
    by_cases e : i = 57
    · rw [if_pos e, if_neg (by omega), if_pos e]
    · rw [if_neg e, if_neg e]
  show (_, va_up (fun i => if 44 ≤ i ∧ i ≤ 56 then R i else σ.2.1 i) 57 f, _) = _
  rw [this]
  rfl
def chH (co : Nat → Int32) (Rn Rm : Nat → Nat → Int32) (d : Int32) : Nat → Bool := fun p => ! decide (stJ co Rm p d = stJ co Rn p d)
theorem changedFstC {σx : CS} {σm : MS} {R R' : Nat → Nat → Int32} {v d : Int32} {np npr nf nl n m : Nat} {Post : Int32 → CS → Prop} (h : BH np npr nf nl σx σm) (hn : n ≤ nf) (hm : m ≤ nf) (hJ : JF npr R) (hE : EqC npr R' (cR R)) (hd : isD d)
    (hP : ∀ f R3 v3, (∀ p, p < npr → f p = stJ (σm.2.1 36) R p d) → Post (fstF (chH (σm.2.1 36) R (jAll σm np npr nl m) d) npr 0) (cJ (cJ (cA σx 45 f) v (nI n) R') v3 (nI m) R3)) :
    ∀ t i, i + t = npr → ∀ f, (∀ p, p < i → f p = stJ (σm.2.1 36) R p d) → wpC_X10_changed_36 Post (t + 1) (cJ (cA σx 45 f) v (nI n) R') d (nI m) (nI i) := by
  have hB := h.2.1
  have h10 := hB.1
  intro t
  induction t with
  | zero =>
    intro i hi f hf
    obtain rfl : i = npr := by omega
    refine ⟨fun _ => ?_, fun c => absurd ?_ c⟩
    · refine hearC (σx := cJ (cA σx 45 f) v (nI n) R') (σm := σm) h hm (fun R3 v3 hE3 => ⟨i + 1, ?_⟩)
      have hJm := jA_ok h hm
      suffices hs : ∀ t k, k + t = i → fstF (chH (σm.2.1 36) R (jAll σm np i nl m) d) t k = fstF (chH (σm.2.1 36) R (jAll σm np i nl m) d) i 0 → wpC_X10_changed_82 Post (t + 1) (cJ (cJ (cA σx 45 f) v (nI n) R') v3 (nI m) R3) d (nI k) from hs i 0 (by omega) rfl
      intro t
      induction t with
      | zero =>
        intro k hk hff
        obtain rfl : k = i := by omega
        refine ⟨fun _ => ?_, fun c => absurd ?_ c⟩
        · have := hP f R3 v3 hf
          rw [← hff] at this
          exact this
        · show σx.1 286 ≤ nI k
          rw [hB.2.1]
          exact Int32.le_refl _
      | succ t ih =>
        intro k hk hff
        have hvk : vp_in (nI k) 10 := vp_in_nI (by omega) (by omega)
        have ck : (nI k).toNatClampNeg = k := nI_clamp (by omega)
        rw [fstF] at hff
        refine ⟨fun c => ?_, fun _ => stateOnC (σx := cJ (cA σx 45 f) v (nI n) R') hB hJm hE3 hd (by omega) ⟨hvk, ?_⟩⟩
        · have c : σx.1 286 ≤ nI k := c
          rw [hB.2.1] at c
          exact absurd c (nI_ge (by omega) (by omega))
        · rw [ck]
          have e45 : (cJ (cJ (cA σx 45 f) v (nI n) R') v3 (nI m) R3).2.1 45 k = stJ (σm.2.1 36) R k d := hf k (by omega)
          rw [e45]
          refine ⟨fun c => ?_, fun c => ?_⟩
          · rintro _ rfl
            rw [nI_1]
            refine ih (k + 1) (by omega) ?_
            rw [if_neg (by rw [chH, decide_eq_true c]; decide)] at hff
            exact hff
          · have := hP f R3 v3 hf
            rw [if_pos (by rw [chH, decide_eq_false c]; rfl)] at hff
            rw [← hff] at this
            exact this
    · show σx.1 286 ≤ nI i
      rw [hB.2.1]
      exact Int32.le_refl _
  | succ t ih =>
    intro i hi f hf
    have hin : i < npr := by omega
    have hvi : vp_in (nI i) 10 := vp_in_nI (by omega) (by omega)
    have cii : (nI i).toNatClampNeg = i := nI_clamp (by omega)
    refine ⟨fun c => ?_, fun _ => stateOnC (σx := cA σx 45 f) hB hJ hE hd hin ⟨hvi, ?_⟩⟩
    · have c : σx.1 286 ≤ nI i := c
      rw [hB.2.1] at c
      exact absurd c (nI_ge (by omega) (by omega))
    · rintro _ rfl _ rfl
      rw [c45J, cA_same, nI_1, cii]
      refine ih (i + 1) (by omega) _ (fun p hp => ?_)
      show (if p = i then stJ (σm.2.1 36) R i d else f p) = _
      by_cases e : p = i
      · rw [if_pos e, e]
      · rw [if_neg e]; exact hf p (by omega)
theorem changedFstM {σx : CS} {σm : MS} {R R1 : Nat → Nat → Int32} {d : Int32} {np npr nf nl n m : Nat} {Post : Int32 → MS → Prop} (h : BH np npr nf nl σx σm) (hn : n ≤ nf) (hm : m ≤ nf) (eR : R = jAll σm np npr nl n) (hE : EqR npr R1 R)
    (hP : ∀ f R3, EqR npr R3 (jAll (mJ (mA σm 57 f) (nI n) R1) np npr nl m) → Post (fstF (chH (σm.2.1 36) R (jAll σm np npr nl m) d) npr 0) (mJ (mJ (mA σm 57 f) (nI n) R1) (nI m) R3)) :
    ∀ t i, i + t = npr → ∀ f, (∀ p, p < i → f p = stJ (σm.2.1 36) R p d) → wpM_changed_33 Post (t + 1) (mJ (mA σm 57 f) (nI n) R1) d (nI m) (nI i) := by
  have h10 := h.2.1.1
  have h46 := h.2.1.2.2.1
  have ejm : ∀ f k, jAll (mJ (mA σm 57 f) (nI n) R1) np npr nl k = jAll σm np npr nl k := fun f k => jAll_rows (fun j hj => by
    show (if 44 ≤ j ∧ j ≤ 56 then R1 j else if j = 57 then f else σm.2.1 j) = σm.2.1 j
    rw [if_neg (by omega), if_neg (by omega)])
  intro t
  induction t with
  | zero =>
    intro i hi f hf
    obtain rfl : i = npr := by omega
    refine ⟨fun _ => ?_, fun c => absurd ?_ c⟩
    · have hG : IGo np i nf nl (mJ (mA σm 57 f) (nI n) R1) := by
        refine Or.inr ⟨n, hn, rfl, ?_⟩
        rw [ejm, ← eR]
        intro j q j1 j2 hq
        show (if 44 ≤ j ∧ j ≤ 56 then R1 j else _) q = _
        rw [if_pos (by omega)]
        exact hE j q j1 j2 hq
      refine judges2 (σx := σx) (σm := mJ (mA σm 57 f) (nI n) R1) h hG hm (fun R3 hE3 => ⟨i + 1, ?_⟩)
      have hE3' := hE3
      rw [ejm] at hE3'
      suffices hs : ∀ t k, k + t = i → fstF (chH (σm.2.1 36) R (jAll σm np i nl m) d) t k = fstF (chH (σm.2.1 36) R (jAll σm np i nl m) d) i 0 → wpM_changed_70 Post (t + 1) (mJ (mJ (mA σm 57 f) (nI n) R1) (nI m) R3) d (nI k) from hs i 0 (by omega) rfl
      intro t
      induction t with
      | zero =>
        intro k hk hff
        obtain rfl : k = i := by omega
        refine ⟨fun _ => ?_, fun c => absurd ?_ c⟩
        · have := hP f R3 hE3
          rw [← hff] at this
          exact this
        · show σm.1 46 ≤ nI k
          rw [h46]
          exact Int32.le_refl _
      | succ t ih =>
        intro k hk hff
        have hvk : vp_in (nI k) 10 := vp_in_nI (by omega) (by omega)
        have ck : (nI k).toNatClampNeg = k := nI_clamp (by omega)
        rw [fstF] at hff
        refine ⟨fun c => ?_, fun _ => stateOfM (by omega) ⟨hvk, ?_⟩⟩
        · have c : σm.1 46 ≤ nI k := c
          rw [h46] at c
          exact absurd c (nI_ge (by omega) (by omega))
        · rw [ck]
          have e45 : (mJ (mJ (mA σm 57 f) (nI n) R1) (nI m) R3).2.1 57 k = stJ (σm.2.1 36) R k d := hf k (by omega)
          have est : stJ ((mJ (mJ (mA σm 57 f) (nI n) R1) (nI m) R3).2.1 36) (mJ (mJ (mA σm 57 f) (nI n) R1) (nI m) R3).2.1 k d = stJ (σm.2.1 36) (jAll σm np i nl m) k d := (show stJ (σm.2.1 36) R3 k d = _ from stJ_congr hE3' (by omega))
          rw [e45, est]
          refine ⟨fun c => ?_, fun c => ?_⟩
          · rintro _ rfl
            rw [nI_1]
            refine ih (k + 1) (by omega) ?_
            rw [if_neg (by rw [chH, decide_eq_true c]; decide)] at hff
            exact hff
          · have := hP f R3 hE3
            rw [if_pos (by rw [chH, decide_eq_false c]; rfl)] at hff
            rw [← hff] at this
            exact this
    · show σm.1 46 ≤ nI i
      rw [h46]
      exact Int32.le_refl _
  | succ t ih =>
    intro i hi f hf
    have hin : i < npr := by omega
    have hvi : vp_in (nI i) 10 := vp_in_nI (by omega) (by omega)
    have cii : (nI i).toNatClampNeg = i := nI_clamp (by omega)
    refine ⟨fun c => ?_, fun _ => stateOfM (by omega) ⟨hvi, ?_⟩⟩
    · have c : σm.1 46 ≤ nI i := c
      rw [h46] at c
      exact absurd c (nI_ge (by omega) (by omega))
    · have est : stJ ((mJ (mA σm 57 f) (nI n) R1).2.1 36) (mJ (mA σm 57 f) (nI n) R1).2.1 i d = stJ (σm.2.1 36) R i d := (show stJ (σm.2.1 36) R1 i d = _ from stJ_congr hE hin)
      rw [est]
      rintro _ rfl _ rfl
      rw [m57J, mA_same, nI_1, cii]
      refine ih (i + 1) (by omega) _ (fun p hp => ?_)
      show (if p = i then stJ (σm.2.1 36) R i d else f p) = _
      by_cases e : p = i
      · rw [if_pos e, e]
      · rw [if_neg e]; exact hf p (by omega)
theorem changed2 {nt np npr nf nl ng : Nat} {σx : CS} {σm : MS} {d b c : Int32} (H : InvP nt np npr nf nl ng σx σm) : wpC_X10_changed σx d b c (fun r τ => wpM_changed σm d b c (fun r2 τ2 => r = r2 ∧ Inv τ τ2)) := by
  have h := H.2.2.1
  have hG := H.2.2.2.2.1
  have hQ0 : Inv σx σm := ⟨nt, np, npr, nf, nl, ng, H⟩
  have h10 := h.2.1.1
  have h200 := h.2.2.1.1
  refine isDayC (fun hD => ⟨fun y => absurd y no1, fun _ => isKnownC h.2.2.1.2.1 (by omega) (fun hK => ⟨fun y => absurd y no1, fun _ => isKnownC h.2.2.1.2.1 (by omega) (fun hK2 => ⟨fun y => absurd y no1, fun _ => ?_⟩) (fun hK2 => ⟨fun _ => ?_, fun y => absurd rfl y⟩)⟩) (fun hK => ⟨fun _ => ?_, fun y => absurd rfl y⟩)⟩) (fun hD => ⟨fun _ => ?_, fun y => absurd rfl y⟩)
  · obtain ⟨n, hn, rfl⟩ := hK
    obtain ⟨m, hm, rfl⟩ := hK2
    refine hearC h hn (fun R v hE => ⟨npr + 1, ?_⟩)
    have e0 : cJ σx v (nI n) R = cJ (cA σx 45 (σx.2.1 45)) v (nI n) R := by rw [cA_self]
    rw [e0]
    refine changedFstC h hn hm (jA_ok h hn) hE hD (fun f R3 v3 hf => ?_) npr 0 (by omega) _ (fun p hp => absurd hp (by omega))
    refine isDayM (fun _ => ⟨fun y => absurd y no1, fun _ => isKnownM h.2.2.1.2.2.1 (by omega) (fun _ => ⟨fun y => absurd y no1, fun _ => isKnownM h.2.2.1.2.2.1 (by omega) (fun _ => ⟨fun y => absurd y no1, fun _ => judges2 h hG hn (fun R2 hE2 => ⟨npr + 1, ?_⟩)⟩) (fun q => absurd ⟨m, hm, rfl⟩ q)⟩) (fun q => absurd ⟨n, hn, rfl⟩ q)⟩) (fun q => absurd hD q)
    have e1 : mJ σm (nI n) R2 = mJ (mA σm 57 (σm.2.1 57)) (nI n) R2 := by rw [mA_self]
    rw [e1]
    refine changedFstM h hn hm rfl hE2 (fun f2 R4 hE4 => ⟨rfl, nt, np, npr, nf, nl, ng, ?_⟩) npr 0 (by omega) _ (fun p hp => absurd hp (by omega))
    refine InvP_J (InvP_J (InvP_45 H) hn ?_) hm hE4
    have e2 : jAll (mA σm 57 f2) np npr nl n = jAll σm np npr nl n := jAll_rows (fun j hj => by
      show (if j = 57 then f2 else σm.2.1 j) = σm.2.1 j
      rw [if_neg (by omega)])
    rw [e2]
    exact hE2
  · exact isDayM (fun _ => ⟨fun y => absurd y no1, fun _ => isKnownM h.2.2.1.2.2.1 (by omega) (fun _ => ⟨fun y => absurd y no1, fun _ => isKnownM h.2.2.1.2.2.1 (by omega) (fun q => absurd q hK2) (fun _ => ⟨fun _ => ⟨rfl, hQ0⟩, fun y => absurd rfl y⟩)⟩) (fun q => absurd hK q)⟩) (fun q => absurd hD q)
  · exact isDayM (fun _ => ⟨fun y => absurd y no1, fun _ => isKnownM h.2.2.1.2.2.1 (by omega) (fun q => absurd q hK) (fun _ => ⟨fun _ => ⟨rfl, hQ0⟩, fun y => absurd rfl y⟩)⟩) (fun q => absurd hD q)
  · exact isDayM (fun q => absurd q hD) (fun _ => ⟨fun _ => ⟨rfl, hQ0⟩, fun y => absurd rfl y⟩)
theorem jAll_congr2 {σ σ' : MS} {np np' npr nl n : Nat} (h10 : npr ≤ 10) (h31 : σ'.2.1 31 = σ.2.1 31) (h32 : σ'.2.1 32 = σ.2.1 32) (hR0 : ∀ p, p < npr → prV σ' np' nl n p = prV σ np nl n p ∧ efV σ' n p = efV σ n p ∧ hwV σ' n p = hwV σ n p) (hba : ∀ p e, p < npr → baV σ' np' nl n p e = baV σ np nl n p e)
    (hov : ∀ R o k, o < npr → k < npr → ovV σ' nl R o k = ovV σ nl R o k) (hen : ∀ p e, p < npr → laV σ' nl n p e = laV σ nl n p e ∧ deV σ' n p = deV σ n p) : EqR npr (jAll σ' np' npr nl n) (jAll σ np npr nl n) := by
  have ebn : ∀ a q, bnd σ' a q = bnd σ a q := fun a q => by unfold bnd; rw [h31, h32]
  have erv : ∀ R o k, rvV σ' R o k = rvV σ R o k := fun R o k => by unfold rvV; rw [h31, h32, ebn, ebn]
  have ebo : ∀ o k, boV σ' o k = boV σ o k := fun o k => by unfold boV; rw [h31, h32, ebn, ebn]
  have ebr : ∀ o k, brV σ' o k = brV σ o k := fun o k => by unfold brV; rw [h31, h32, ebn, ebn]
  have evo : ∀ R k, k < npr → voV σ' npr nl R k = voV σ npr nl R k := fun R k hk => fstF_congr _ _ (fun o _ ho => by
    rw [vkH, vkH, erv, ebo, hov R o k (by omega) hk])
  have een : ∀ p e, p < npr → enV σ' nl n p e = enV σ nl n p e ∧ ebV σ' nl n p e = ebV σ nl n p e := fun p e hp => by
    obtain ⟨e1, e2⟩ := hen p e hp
    have e3 : enV σ' nl n p e = enV σ nl n p e := by unfold enV; rw [e1, e2]
    exact ⟨e3, by unfold ebV; rw [e3, e1, e2]⟩
  have step : ∀ R1 R k, k < npr → EqR npr R1 R → EqR npr (jStep σ' np' npr nl n R1 k) (jStep σ np npr nl n R k) := by
    intro R1 R k hk hE
    refine EqR_trans ?_ (jStep_congr hk hE)
    intro j q j1 j2 hq
    unfold jStep
    rw [hba k _ hk, evo R1 k hk, erv, ebr, (een k _ hk).1, (een k _ hk).2]
  have run : ∀ t R1 R, EqR npr R1 R → EqR npr (jRun σ' np' npr nl n t R1) (jRun σ np npr nl n t R) := by
    intro t
    induction t with
    | zero => intro R1 R hE; exact hE
    | succ t ih =>
      intro R1 R hE
      rw [jRun, jRun, nxV_congr h10 hE]
      split
      · exact hE
      · next c =>
        rcases nxV_is (npr := npr) (R := R) with e | ⟨k, hk, e, _⟩
        · exact absurd e c
        · rw [e, nI_clamp (by omega)]
          exact ih _ _ (step R1 R k hk hE)
  refine run npr _ _ (fun j q j1 j2 hq => ?_)
  obtain ⟨a1, a2, a3⟩ := hR0 q hq
  unfold R0V
  rw [a1, a2, a3]
