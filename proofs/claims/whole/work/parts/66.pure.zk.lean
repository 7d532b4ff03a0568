/-! pure level: what is asked of the judgement -/
def cutM (σ : MS) : MS := (fun _ => 0, (fun j => if j < 44 then σ.2.1 j else fun _ => 0), fun _ _ => 0)
theorem jRun_eq {σ σ' : MS} {np npr nl n : Nat} (h : ∀ R k, jStep σ np npr nl n R k = jStep σ' np npr nl n R k) : ∀ t R, jRun σ np npr nl n t R = jRun σ' np npr nl n t R := by
  intro t
  induction t with
  | zero => intro R; rfl
  | succ t ih => intro R; rw [jRun, jRun, h, ih]
theorem js_cut (σ : MS) (np npr nl n : Nat) (R : Nat → Nat → Int32) (k : Nat) : jStep σ np npr nl n R k = jStep (cutM σ) np npr nl n R k := rfl
theorem r0_cut (σ : MS) (np nl n : Nat) : R0V σ np nl n = R0V (cutM σ) np nl n := rfl
theorem jAll_cut (σ : MS) (np npr nl n : Nat) : jAll σ np npr nl n = jAll (cutM σ) np npr nl n := by
  unfold jAll
  rw [r0_cut]
  exact jRun_eq (js_cut σ np npr nl n) npr _
theorem jAll_rows {σ σ' : MS} {np npr nl n : Nat} (h : ∀ j, j < 44 → σ'.2.1 j = σ.2.1 j) : jAll σ' np npr nl n = jAll σ np npr nl n := by
  rw [jAll_cut σ', jAll_cut σ]
  have : cutM σ' = cutM σ := by
    unfold cutM
    have e : (fun j => if j < 44 then σ'.2.1 j else fun _ => 0) = (fun j => if j < 44 then σ.2.1 j else fun _ => 0) := by
      funext j
      by_cases c : j < 44
      · rw [if_pos c, if_pos c, h j c]
      · rw [if_neg c, if_neg c]
    rw [e]
  rw [this]
def IGo (np npr nf nl : Nat) (σm : MS) : Prop := σm.1 64 = -1 ∨ ∃ n, n ≤ nf ∧ σm.1 64 = nI n ∧ EqR npr σm.2.1 (jAll σm np npr nl n)
theorem RM_of {np npr nf nl : Nat} {σx : CS} {σm : MS} (h : BH np npr nf nl σx σm) : RM np npr nl σm :=
  ⟨h.1.2.2.1, h.1.1, h.2.1.2.2.1, h.2.1.1, h.2.2.2.2.2.1, h.2.2.2.1, fun l hl => LwE_M (h.2.2.2.2.2.2.2.2 l hl), fun p hp => ⟨(h.2.1.2.2.2.2.2.2.2.2.2 p hp).1, (h.2.1.2.2.2.2.2.2.2.2.2 p hp).2.1⟩⟩
theorem jA_ok {np npr nf nl n : Nat} {σx : CS} {σm : MS} (h : BH np npr nf nl σx σm) (hn : n ≤ nf) : JF npr (jAll σm np npr nl n) :=
  jAll_ok (fun i hi => (h.2.2.1.2.2.2.2 i (by omega)).1) (by have := h.2.2.1.1; omega) h.2.1.1 (fun p hp => (h.2.1.2.2.2.2.2.2.2.2.2 p hp).2.2.2)
theorem judges2 {np npr nf nl n : Nat} {σx : CS} {σm : MS} {Post : MS → Prop} (h : BH np npr nf nl σx σm) (hG : IGo np npr nf nl σm) (hn : n ≤ nf) (hP : ∀ R, EqR npr R (jAll σm np npr nl n) → Post (mJ σm (nI n) R)) : wpM_judgesAll σm (nI n) Post := by
  have h200 := h.2.2.1.1
  refine judgesAllM (RM_of h) (by omega) (witOK_of (σx := σx) (fun i hi => h.2.2.1.2.2.2.2 i (by omega)) h.1.1) (fun i hi => (h.2.2.1.2.2.2.2 i (by omega)).1) (fun p hp => (h.2.1.2.2.2.2.2.2.2.2.2 p hp).2.2.2) (fun c => ?_) hP
  rcases hG with e | ⟨n', hn', e, hE⟩
  · rw [e] at c
    exact absurd c.symm (nI_nm1 (by omega))
  · rw [e] at c
    have := (nI_eq (by omega) (by omega)).mp c
    rw [← this]
    exact hE
def isK (b : Int32) (nf : Nat) : Prop := ∃ n, n ≤ nf ∧ b = nI n
theorem isK_of {b x : Int32} {nf : Nat} (hx : x = nI nf) (hn : nf < 2 ^ 31) (c1 : ¬ b < 0) (c2 : ¬ x < b) : isK b nf := by
  obtain ⟨k, hk, rfl⟩ := nI_of c1
  refine ⟨k, ?_, rfl⟩
  rw [hx] at c2
  exact Nat.not_lt.mp (fun z => c2 (nI_lt z hk))
theorem isK_no {b x : Int32} {nf : Nat} (hx : x = nI nf) (hn : nf < 2 ^ 31) (h : isK b nf) : ¬ b < 0 ∧ ¬ x < b := by
  obtain ⟨k, hk, rfl⟩ := h
  rw [hx]
  exact ⟨nI_pos (by omega), nI_nlt hk hn⟩
theorem isKnownC {σ : CS} {b : Int32} {nf : Nat} {Post : Int32 → CS → Prop} (hf : σ.1 504 = nI nf) (hn : nf < 2 ^ 31) (h1 : isK b nf → Post 1 σ) (h0 : ¬ isK b nf → Post 0 σ) : wpC_X10_isKnown σ b Post :=
  ⟨fun c => h0 (fun z => (isK_no hf hn z).1 c), fun c => ⟨fun c2 => h0 (fun z => (isK_no hf hn z).2 c2), fun c2 => h1 (isK_of hf hn c c2)⟩⟩
theorem isKnownM {σ : MS} {b : Int32} {nf : Nat} {Post : Int32 → MS → Prop} (hf : σ.1 57 = nI nf) (hn : nf < 2 ^ 31) (h1 : isK b nf → Post 1 σ) (h0 : ¬ isK b nf → Post 0 σ) : wpM_isKnown σ b Post :=
  ⟨fun c => h0 (fun z => (isK_no hf hn z).1 c), fun c => ⟨fun c2 => h0 (fun z => (isK_no hf hn z).2 c2), fun c2 => h1 (isK_of hf hn c c2)⟩⟩
/-- all that a question of the judgement rests on -/
def CH (np npr nf nl : Nat) (σx : CS) (σm : MS) (Q : CS → MS → Prop) : Prop := BH np npr nf nl σx σm ∧ IGo np npr nf nl σm ∧ Q σx σm ∧ ∀ n R v R2, n ≤ nf → EqR npr R2 (jAll σm np npr nl n) → Q (cJ σx v (nI n) R) (mJ σm (nI n) R2)
theorem no1 : ¬ (1 : Int32) = 0 := by decide
theorem proved2 {np npr nf nl : Nat} {σx : CS} {σm : MS} {Q : CS → MS → Prop} {a b : Int32} (H : CH np npr nf nl σx σm Q) : wpC_X10_proved σx a b (fun r τ => wpM_proved σm a b (fun r2 τ2 => r = r2 ∧ Q τ τ2)) := by
  obtain ⟨h, hG, hQ0, hQ⟩ := H
  have h10 := h.2.1.1
  have h200 := h.2.2.1.1
  refine isPromiseC h.2.1.2.1 (by omega) (fun hA => ⟨fun y => absurd y no1, fun _ => isKnownC h.2.2.1.2.1 (by omega) (fun hK => ⟨fun y => absurd y no1, fun _ => ?_⟩) (fun hK => ⟨fun _ => ?_, fun y => absurd rfl y⟩)⟩) (fun hA => ⟨fun _ => ?_, fun y => absurd rfl y⟩)
  · obtain ⟨k, hk, rfl⟩ := hA
    obtain ⟨n, hn, rfl⟩ := hK
    have hv : vp_in (nI k) 10 := vp_in_nI (by omega) (by omega)
    refine hearC h hn (fun R v hE => ⟨hv, ?_⟩)
    refine isPromiseM h.2.1.2.2.1 (by omega) (fun _ => ⟨fun y => absurd y no1, fun _ => isKnownM h.2.2.1.2.2.1 (by omega) (fun _ => ⟨fun y => absurd y no1, fun _ => judges2 h hG hn (fun R2 hE2 => ⟨hv, ?_, hQ n R v R2 hn hE2⟩)⟩) (fun q => absurd ⟨n, hn, rfl⟩ q)⟩) (fun q => absurd ⟨k, hk, rfl⟩ q)
    rw [nI_clamp (by omega)]
    exact (hE 36 k (by omega) (by omega) hk).trans (hE2 46 k (by omega) (by omega) hk).symm
  · refine isPromiseM h.2.1.2.2.1 (by omega) (fun _ => ⟨fun y => absurd y no1, fun _ => isKnownM h.2.2.1.2.2.1 (by omega) (fun q => absurd q hK) (fun _ => ⟨fun _ => ⟨rfl, hQ0⟩, fun y => absurd rfl y⟩)⟩) (fun q => absurd hA q)
  · exact isPromiseM h.2.1.2.2.1 (by omega) (fun q => absurd q hA) (fun _ => ⟨fun _ => ⟨rfl, hQ0⟩, fun y => absurd rfl y⟩)
theorem barred2 {np npr nf nl : Nat} {σx : CS} {σm : MS} {Q : CS → MS → Prop} {a b : Int32} (H : CH np npr nf nl σx σm Q) : wpC_X10_barred σx a b (fun r τ => wpM_barred σm a b (fun r2 τ2 => r = r2 ∧ Q τ τ2)) := by
  obtain ⟨h, hG, hQ0, hQ⟩ := H
  have h10 := h.2.1.1
  have h200 := h.2.2.1.1
  refine isPromiseC h.2.1.2.1 (by omega) (fun hA => ⟨fun y => absurd y no1, fun _ => isKnownC h.2.2.1.2.1 (by omega) (fun hK => ⟨fun y => absurd y no1, fun _ => ?_⟩) (fun hK => ⟨fun _ => ?_, fun y => absurd rfl y⟩)⟩) (fun hA => ⟨fun _ => ?_, fun y => absurd rfl y⟩)
  · obtain ⟨k, hk, rfl⟩ := hA
    obtain ⟨n, hn, rfl⟩ := hK
    have hv : vp_in (nI k) 10 := vp_in_nI (by omega) (by omega)
    refine hearC h hn (fun R v hE => ⟨hv, ?_⟩)
    refine isPromiseM h.2.1.2.2.1 (by omega) (fun _ => ⟨fun y => absurd y no1, fun _ => isKnownM h.2.2.1.2.2.1 (by omega) (fun _ => ⟨fun y => absurd y no1, fun _ => judges2 h hG hn (fun R2 hE2 => ⟨hv, ?_, hQ n R v R2 hn hE2⟩)⟩) (fun q => absurd ⟨n, hn, rfl⟩ q)⟩) (fun q => absurd ⟨k, hk, rfl⟩ q)
    rw [nI_clamp (by omega)]
    exact (hE 39 k (by omega) (by omega) hk).trans (hE2 50 k (by omega) (by omega) hk).symm
  · refine isPromiseM h.2.1.2.2.1 (by omega) (fun _ => ⟨fun y => absurd y no1, fun _ => isKnownM h.2.2.1.2.2.1 (by omega) (fun q => absurd q hK) (fun _ => ⟨fun _ => ⟨rfl, hQ0⟩, fun y => absurd rfl y⟩)⟩) (fun q => absurd hA q)
  · exact isPromiseM h.2.1.2.2.1 (by omega) (fun q => absurd q hA) (fun _ => ⟨fun _ => ⟨rfl, hQ0⟩, fun y => absurd rfl y⟩)
theorem state2 {np npr nf nl : Nat} {σx : CS} {σm : MS} {Q : CS → MS → Prop} {a d b : Int32} (H : CH np npr nf nl σx σm Q) : wpC_X10_state σx a d b (fun r τ => wpM_state σm a d b (fun r2 τ2 => r = r2 ∧ Q τ τ2)) := by
  obtain ⟨h, hG, hQ0, hQ⟩ := H
  have h10 := h.2.1.1
  have h200 := h.2.2.1.1
  refine isPromiseC h.2.1.2.1 (by omega) (fun hA => ⟨fun y => absurd y no1, fun _ => isDayC (fun hD => ⟨fun y => absurd y no1, fun _ => isKnownC h.2.2.1.2.1 (by omega) (fun hK => ⟨fun y => absurd y no1, fun _ => ?_⟩) (fun hK => ⟨fun _ => ?_, fun y => absurd rfl y⟩)⟩) (fun hD => ⟨fun _ => ?_, fun y => absurd rfl y⟩)⟩) (fun hA => ⟨fun _ => ?_, fun y => absurd rfl y⟩)
  · obtain ⟨k, hk, rfl⟩ := hA
    obtain ⟨n, hn, rfl⟩ := hK
    refine hearC h hn (fun R v hE => stateOnC h.2.1 (jA_ok h hn) hE hD hk ?_)
    refine isPromiseM h.2.1.2.2.1 (by omega) (fun _ => ⟨fun y => absurd y no1, fun _ => isDayM (fun _ => ⟨fun y => absurd y no1, fun _ => isKnownM h.2.2.1.2.2.1 (by omega) (fun _ => ⟨fun y => absurd y no1, fun _ => judges2 h hG hn (fun R2 hE2 => stateOfM (by omega) ⟨?_, hQ n R v R2 hn hE2⟩)⟩) (fun q => absurd ⟨n, hn, rfl⟩ q)⟩) (fun q => absurd hD q)⟩) (fun q => absurd ⟨k, hk, rfl⟩ q)
    exact (stJ_congr (co := σm.2.1 36) hE2 hk).symm
  · exact isPromiseM h.2.1.2.2.1 (by omega) (fun _ => ⟨fun y => absurd y no1, fun _ => isDayM (fun _ => ⟨fun y => absurd y no1, fun _ => isKnownM h.2.2.1.2.2.1 (by omega) (fun q => absurd q hK) (fun _ => ⟨fun _ => ⟨rfl, hQ0⟩, fun y => absurd rfl y⟩)⟩) (fun q => absurd hD q)⟩) (fun q => absurd hA q)
  · exact isPromiseM h.2.1.2.2.1 (by omega) (fun _ => ⟨fun y => absurd y no1, fun _ => isDayM (fun q => absurd q hD) (fun _ => ⟨fun _ => ⟨rfl, hQ0⟩, fun y => absurd rfl y⟩)⟩) (fun q => absurd hA q)
  · exact isPromiseM h.2.1.2.2.1 (by omega) (fun q => absurd q hA) (fun _ => ⟨fun _ => ⟨rfl, hQ0⟩, fun y => absurd rfl y⟩)
theorem fo_iff {npr p : Nat} {R : Nat → Nat → Int32} (hJ : JF npr R) (hp : p < npr) : vdR R p = 6 ↔ ¬ R 56 p = 0 := by
  obtain ⟨j1, j2, j3, j4⟩ := hJ.1.1 p hp
  by_cases c : R 49 p = 0
  · have := j2 c
    refine ⟨fun z => ?_, fun z => absurd this.2.2.2.2 z⟩
    unfold vdR at z
    rw [if_pos c] at z
    repeat' split at z
    all_goals exact absurd z (by decide)
  · obtain ⟨a1, a2, a3⟩ := j3 c
    have ev : vdR R p = if ¬ R 50 p = -1 then 4 else if ¬ R 51 p = -1 then 5 else 6 := by
      unfold vdR
      rw [if_neg a1, a2, if_neg (by decide), if_neg (by decide), if_neg c]
    rw [ev, a3]
    by_cases q1 : R 50 p = -1
    · rw [if_neg (fun z => z q1)]
      by_cases q2 : R 51 p = -1
      · rw [if_neg (fun z => z q2)]; exact ⟨fun _ z => z ⟨q1, q2⟩, fun _ => rfl⟩
      · rw [if_pos q2]; exact ⟨fun z => absurd z (by decide), fun z => absurd (fun q => q2 q.2) z⟩
    · rw [if_pos q1]; exact ⟨fun z => absurd z (by decide), fun z => absurd (fun q => q1 q.1) z⟩
theorem force2 {np npr nf nl : Nat} {σx : CS} {σm : MS} {Q : CS → MS → Prop} {a b w : Int32} (H : CH np npr nf nl σx σm Q) : wpC_X10_force σx a b w (fun r τ => wpM_force σm a b w (fun r2 τ2 => r = r2 ∧ Q τ τ2)) := by
  obtain ⟨h, hG, hQ0, hQ⟩ := H
  have h10 := h.2.1.1
  have h200 := h.2.2.1.1
  refine isPromiseC h.2.1.2.1 (by omega) (fun hA => ⟨fun y => absurd y no1, fun _ => isKnownC h.2.2.1.2.1 (by omega) (fun hK => ⟨fun y => absurd y no1, fun _ => ⟨fun hw => ?_, fun hw => ⟨fun hw2 => ?_, fun hw2 => ?_⟩⟩⟩) (fun hK => ⟨fun _ => ?_, fun y => absurd rfl y⟩)⟩) (fun hA => ⟨fun _ => ?_, fun y => absurd rfl y⟩)
  · exact isPromiseM h.2.1.2.2.1 (by omega) (fun _ => ⟨fun y => absurd y no1, fun _ => isKnownM h.2.2.1.2.2.1 (by omega) (fun _ => ⟨fun y => absurd y no1, fun _ => ⟨fun _ => ⟨rfl, hQ0⟩, fun q => absurd hw q⟩⟩) (fun q => absurd hK q)⟩) (fun q => absurd hA q)
  · obtain ⟨k, hk, rfl⟩ := hA
    obtain ⟨n, hn, rfl⟩ := hK
    have hv : vp_in (nI k) 10 := vp_in_nI (by omega) (by omega)
    have ck : (nI k).toNatClampNeg = k := nI_clamp (by omega)
    have hJ := jA_ok h hn
    have hfo := fo_iff hJ hk
    obtain ⟨j1, j2, j3, j4⟩ := hJ.1.1 k hk
    -- the reference, once the class has spoken
    have ref : ∀ (r : Int32) (R : Nat → Nat → Int32) (v : Int32), (∀ R2, EqR npr R2 (jAll σm np npr nl n) → (w = 5 → r = R2 51 k) ∧ (¬ w = 5 → (R2 56 k = 0 → r = -2) ∧ (¬ R2 56 k = 0 → (R2 47 k < R2 52 k → (w = 0 → r = R2 47 k) ∧ (w = 1 → (R2 52 k = 1000000 → r = -1) ∧ (¬ R2 52 k = 1000000 → r = R2 52 k)) ∧ (w = 2 → r = R2 53 k) ∧ (w = 3 → r = R2 54 k) ∧ (¬ w = 0 ∧ ¬ w = 1 ∧ ¬ w = 2 ∧ ¬ w = 3 → r = R2 55 k)) ∧ (¬ R2 47 k < R2 52 k → r = -2)))) → wpM_force σm (nI k) (nI n) w (fun r2 τ2 => r = r2 ∧ Q (cJ σx v (nI n) R) τ2) := by
      intro r R v hr
      refine isPromiseM h.2.1.2.2.1 (by omega) (fun _ => ⟨fun y => absurd y no1, fun _ => isKnownM h.2.2.1.2.2.1 (by omega) (fun _ => ⟨fun y => absurd y no1, fun _ => ⟨fun q => absurd q hw, fun _ => ⟨fun _ => judges2 h hG hn (fun R2 hE2 => ?_), fun q => absurd hw2 q⟩⟩⟩) (fun q => absurd ⟨n, hn, rfl⟩ q)⟩) (fun q => absurd ⟨k, hk, rfl⟩ q)
      have hh := hr R2 hE2
      have q0 := hQ n R v R2 hn hE2
      rw [ck]
      refine ⟨fun c => ⟨hv, hh.1 c, q0⟩, fun c => ⟨hv, fun c1 => ⟨(hh.2 c).1 c1, q0⟩, fun c1 => ⟨hv, hv, fun c2 => ?_, fun c2 => ⟨((hh.2 c).2 c1).2 c2, q0⟩⟩⟩⟩
      have h3 := ((hh.2 c).2 c1).1 c2
      exact ⟨fun c3 => ⟨hv, h3.1 c3, q0⟩, fun c3 => ⟨hv, fun c4 => ⟨(h3.2.1 c3).1 c4, q0⟩, fun c4 => ⟨hv, (h3.2.1 c3).2 c4, q0⟩⟩, fun c3 => ⟨hv, h3.2.2.1 c3, q0⟩, fun c3 => ⟨hv, h3.2.2.2.1 c3, q0⟩, fun c3 => ⟨hv, h3.2.2.2.2 c3, q0⟩⟩
    refine hearC h hn (fun R v hE => ?_)
    have e36 := fun j (h1 : 36 ≤ j) (h2 : j ≤ 44) => hE j k h1 h2 hk
    rw [ck]
    refine ⟨fun c => ⟨hv, ref _ R v (fun R2 hE2 => ⟨fun _ => ?_, fun q => absurd c q⟩)⟩, fun c => ?_⟩
    · exact (e36 40 (by omega) (by omega)).trans (hE2 51 k (by omega) (by omega) hk).symm
    · have no : (vdR (jAll σm np npr nl n) k = 6 → jAll σm np npr nl n 52 k ≤ jAll σm np npr nl n 47 k) → wpM_force σm (nI k) (nI n) w (fun r2 τ2 => -2 = r2 ∧ Q (cJ σx v (nI n) R) τ2) := by
        intro hno
        refine ref _ R v (fun R2 hE2 => ⟨fun q => absurd q c, fun _ => ⟨fun _ => rfl, fun c1 => ⟨fun c2 => ?_, fun _ => rfl⟩⟩⟩)
        rw [hE2 56 k (by omega) (by omega) hk] at c1
        rw [hE2 47 k (by omega) (by omega) hk, hE2 52 k (by omega) (by omega) hk] at c2
        have := hno (hfo.mpr c1)
        generalize jAll σm np npr nl n 52 k = x at this c2
        generalize jAll σm np npr nl n 47 k = y at this c2
        grind
      unfold wpC_X4_wasInForce
      rw [ck]
      change vp_in (nI k) 10 ∧ (R 38 k = 6 → vp_in (nI k) 10 ∧ vp_in (nI k) 10 ∧ (R 41 k ≤ R 37 k → _) ∧ (¬ R 41 k ≤ R 37 k → _)) ∧ (¬ R 38 k = 6 → _)
      have g38 : R 38 k = vdR (jAll σm np npr nl n) k := e36 38 (by omega) (by omega)
      have g41 : R 41 k = capV (jAll σm np npr nl n 52 k) := e36 41 (by omega) (by omega)
      have g37 : R 37 k = capV (jAll σm np npr nl n 47 k) := e36 37 (by omega) (by omega)
      -- in force: its effect is a day
      have hin : R 38 k = 6 → isD (jAll σm np npr nl n 47 k) := by
        intro z
        rw [g38] at z
        rcases j1 with q | q
        · unfold vdR at z
          rw [if_pos q.1] at z
          split at z <;> exact absurd z (by decide)
        · exact q.2
      refine ⟨hv, fun c1 => ⟨hv, hv, fun c2 => ⟨fun _ => no (fun _ => ?_), fun q => absurd rfl q⟩, fun c2 => ⟨fun q => absurd q no1, fun _ => ?_⟩⟩, fun c1 => ⟨fun _ => no (fun q => absurd (g38.trans q) c1), fun q => absurd rfl q⟩⟩
      · have hd := hin c1
        rw [g41, g37, capV_d hd] at c2
        exact (cap_le j4 (isD_lt hd)).mp c2
      · have hd := hin c1
        rw [g41, g37, capV_d hd] at c2
        have c2 : ¬ jAll σm np npr nl n 52 k ≤ jAll σm np npr nl n 47 k := fun q => c2 ((cap_le j4 (isD_lt hd)).mpr q)
        have c1' : ¬ jAll σm np npr nl n 56 k = 0 := hfo.mp (g38.symm.trans c1)
        have lt : jAll σm np npr nl n 47 k < jAll σm np npr nl n 52 k := by
          generalize jAll σm np npr nl n 52 k = x at c2 ⊢
          generalize jAll σm np npr nl n 47 k = y at c2 ⊢
          grind
        have ref2 : ∀ r, ((w = 0 → r = jAll σm np npr nl n 47 k) ∧ (w = 1 → (jAll σm np npr nl n 52 k = 1000000 → r = -1) ∧ (¬ jAll σm np npr nl n 52 k = 1000000 → r = jAll σm np npr nl n 52 k)) ∧ (w = 2 → r = jAll σm np npr nl n 53 k) ∧ (w = 3 → r = jAll σm np npr nl n 54 k) ∧ (¬ w = 0 ∧ ¬ w = 1 ∧ ¬ w = 2 ∧ ¬ w = 3 → r = jAll σm np npr nl n 55 k)) → wpM_force σm (nI k) (nI n) w (fun r2 τ2 => r = r2 ∧ Q (cJ σx v (nI n) R) τ2) := by
          intro r hr
          refine ref _ R v (fun R2 hE2 => ⟨fun q => absurd q c, fun _ => ?_⟩)
          rw [hE2 56 k (by omega) (by omega) hk, hE2 47 k (by omega) (by omega) hk, hE2 52 k (by omega) (by omega) hk, hE2 53 k (by omega) (by omega) hk, hE2 54 k (by omega) (by omega) hk, hE2 55 k (by omega) (by omega) hk]
          exact ⟨fun q => absurd q c1', fun _ => ⟨fun _ => hr, fun q => absurd lt q⟩⟩
        have w01 : ¬ (0 : Int32) = 1 ∧ ¬ (0 : Int32) = 2 ∧ ¬ (0 : Int32) = 3 ∧ ¬ (1 : Int32) = 2 ∧ ¬ (1 : Int32) = 3 ∧ ¬ (2 : Int32) = 3 := by decide
        refine ⟨fun c3 => ⟨hv, ref2 _ ⟨fun _ => ?_, ?_, ?_, ?_, ?_⟩⟩, fun c3 => ⟨hv, fun c4 => ref2 _ ⟨?_, fun _ => ⟨fun _ => rfl, fun q => ?_⟩, ?_, ?_, ?_⟩, fun c4 => ⟨hv, ref2 _ ⟨?_, fun _ => ⟨fun q => ?_, fun q => ?_⟩, ?_, ?_, ?_⟩⟩⟩, fun c3 => ⟨hv, ref2 _ ⟨?_, ?_, fun _ => ?_, ?_, ?_⟩⟩, fun c3 => ⟨hv, ref2 _ ⟨?_, ?_, ?_, fun _ => ?_, ?_⟩⟩, fun c3 => ⟨hv, ref2 _ ⟨fun q => absurd q c3.1, fun q => absurd q c3.2.1, fun q => absurd q c3.2.2.1, fun q => absurd q c3.2.2.2, fun _ => ?_⟩⟩⟩
        all_goals first
          | (rw [c3]; intro q; exact absurd q (by decide))
          | (intro q; exact absurd c3 q.1)
          | (intro q; exact absurd c3 q.2.1)
          | (intro q; exact absurd c3 q.2.2.1)
          | (intro q; exact absurd c3 q.2.2.2)
          | skip
        · show R 37 k = _
          rw [g37, capV_d hd]
        · have c4 : R 41 k = 10000 := c4
          rw [g41] at c4
          exfalso
          unfold capV at c4
          rw [if_neg q] at c4
          rcases j4 with z | z
          · exact q z
          · rw [c4] at z; exact absurd z (by decide)
        · have c4 : ¬ R 41 k = 10000 := c4
          rw [g41, q] at c4
          exact absurd rfl c4
        · show R 41 k = _
          rw [g41, capV, if_neg q]
        · exact e36 42 (by omega) (by omega)
        · exact e36 43 (by omega) (by omega)
        · exact e36 44 (by omega) (by omega)
  · exact isPromiseM h.2.1.2.2.1 (by omega) (fun _ => ⟨fun y => absurd y no1, fun _ => isKnownM h.2.2.1.2.2.1 (by omega) (fun _ => ⟨fun y => absurd y no1, fun _ => ⟨fun q => absurd q hw, fun _ => ⟨fun q => absurd q hw2, fun _ => ⟨rfl, hQ0⟩⟩⟩⟩) (fun q => absurd hK q)⟩) (fun q => absurd hA q)
  · exact isPromiseM h.2.1.2.2.1 (by omega) (fun _ => ⟨fun y => absurd y no1, fun _ => isKnownM h.2.2.1.2.2.1 (by omega) (fun q => absurd q hK) (fun _ => ⟨fun _ => ⟨rfl, hQ0⟩, fun y => absurd rfl y⟩)⟩) (fun q => absurd hA q)
  · exact isPromiseM h.2.1.2.2.1 (by omega) (fun q => absurd q hA) (fun _ => ⟨fun _ => ⟨rfl, hQ0⟩, fun y => absurd rfl y⟩)
