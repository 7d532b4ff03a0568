/-! pure level: what a law's text means; the reference's side -/
def opM (c a b : Int32) : Int32 := if c = 2 then a + b else if c = 3 then a - b else a * b
def stepM (c v : Int32) (w : Nat → Int32) (st : List Int32) : List Int32 :=
  if c = 0 then v :: st else if c = 1 then w v.toNatClampNeg :: st else match st with
    | b :: a :: r => opM c a b :: r
    | st => st
def stkM (cd ci w : Nat → Int32) (fr : Nat) : Nat → List Int32
  | 0 => []
  | j + 1 => stepM (cd (fr + j)) (ci (fr + j)) w (stkM cd ci w fr j)
def pileOK (r : Nat → Int32) : List Int32 → Prop
  | [] => True
  | x :: st => r st.length = x ∧ pileOK r st
theorem pileOK_upd {r : Nat → Int32} {k : Nat} {v : Int32} : ∀ {st : List Int32}, st.length ≤ k → pileOK r st → pileOK (upd r k v) st
  | [], _, _ => trivial
  | x :: st, h, hp => by
    have h' : st.length < k := by simp only [List.length_cons] at h; omega
    exact ⟨by rw [upd_at, if_neg (by omega)]; exact hp.1, pileOK_upd (by omega) hp.2⟩
/-- one place of the code of an E can be run -/
def okI (cd ci : Nat → Int32) (fr j : Nat) : Prop :=
  cd (fr + j) = 0 ∨ (cd (fr + j) = 1 ∧ ∃ x, x < 12 ∧ ci (fr + j) = nI x) ∨ ((cd (fr + j) = 2 ∨ cd (fr + j) = 3 ∨ cd (fr + j) = 4) ∧ ∀ w, 2 ≤ (stkM cd ci w fr j).length)
/-- the code of an E: it can be run, and one value stays -/
def okE (cd ci : Nat → Int32) (fr to : Nat) : Prop := fr ≤ to ∧ to ≤ 4500 ∧ to - fr ≤ 400 ∧ (∀ j, j < to - fr → okI cd ci fr j) ∧ ∀ w, ∃ v, stkM cd ci w fr (to - fr) = [v]
def valM (cd ci w : Nat → Int32) (fr to : Nat) : Int32 := (stkM cd ci w fr (to - fr)).headD 0
theorem stepM_0 {c v : Int32} {w : Nat → Int32} {st : List Int32} (h : c = 0) : stepM c v w st = v :: st := by
  unfold stepM
  rw [if_pos h]
theorem stepM_1 {c v : Int32} {w : Nat → Int32} {st : List Int32} (h : c = 1) : stepM c v w st = w v.toNatClampNeg :: st := by
  unfold stepM
  rw [if_neg (by rw [h]; decide), if_pos h]
theorem stepM_2 {c v a b : Int32} {w : Nat → Int32} {st : List Int32} (h0 : ¬ c = 0) (h1 : ¬ c = 1) : stepM c v w (b :: a :: st) = opM c a b :: st := by
  unfold stepM
  rw [if_neg h0, if_neg h1]
theorem stepM_len (c v : Int32) (w : Nat → Int32) (st : List Int32) : (stepM c v w st).length ≤ st.length + 1 := by
  unfold stepM
  split
  · simp
  · split
    · simp
    · split <;> simp <;> omega
theorem stkM_len (cd ci w : Nat → Int32) (fr j : Nat) : (stkM cd ci w fr j).length ≤ j := by
  induction j with
  | zero => simp [stkM]
  | succ j ih =>
    have := stepM_len (cd (fr + j)) (ci (fr + j)) w (stkM cd ci w fr j)
    simp only [stkM]
    omega
theorem valueM {σ : MS} {fr to : Nat} {Post : Int32 → MS → Prop} (h : okE (σ.2.1 23) (σ.2.1 24) fr to) (hp : ∀ r, Post (valM (σ.2.1 23) (σ.2.1 24) (σ.2.1 44) fr to) (mA σ 45 r)) : wpM_value σ (nI fr) (nI to) Post := by
  obtain ⟨h1, h2, h3, h4, h5⟩ := h
  suffices H : ∀ d j, j + d = to - fr → ∀ r, pileOK r (stkM (σ.2.1 23) (σ.2.1 24) (σ.2.1 44) fr j) → wpM_value_5 Post (d + 1) (mA σ 45 r) (nI to) (nI (stkM (σ.2.1 23) (σ.2.1 24) (σ.2.1 44) fr j).length) (nI (fr + j)) by
    refine ⟨to - fr + 1, ?_⟩
    have := H (to - fr) 0 (by omega) (σ.2.1 45) trivial
    rw [mA_self] at this
    exact this
  intro d
  induction d with
  | zero =>
    intro j hj r hr
    obtain rfl : j = to - fr := by omega
    obtain ⟨v, ev⟩ := h5 (σ.2.1 44)
    have e : fr + (to - fr) = to := by omega
    rw [e]
    refine ⟨fun _ => ⟨vp_in_nI (n := 0) (by omega) (by omega), ?_⟩, fun z => absurd (Int32.le_refl _) z⟩
    have hp := hp r
    rw [valM, ev] at hp
    rw [ev] at hr
    have e0 : (mA σ 45 r).2.1 45 (0 : Int32).toNatClampNeg = v := hr.1
    rw [e0]
    exact hp
  | succ d ih =>
    intro j hj r hr
    replace ih := ih (j + 1) (by omega)
    have hlen := stkM_len (σ.2.1 23) (σ.2.1 24) (σ.2.1 44) fr j
    have hI := h4 j (by omega)
    have hv : vp_in (nI (fr + j)) 4500 := vp_in_nI (by omega) (by omega)
    refine ⟨fun z => absurd z (nI_ge (by omega) (by omega)), fun _ => ⟨hv, ?_⟩⟩
    rw [nI_clamp (by omega)]
    have e23 : (mA σ 45 r).2.1 23 (fr + j) = σ.2.1 23 (fr + j) := rfl
    have e24 : (mA σ 45 r).2.1 24 (fr + j) = σ.2.1 24 (fr + j) := rfl
    rw [e23, e24]
    have h59 : ∀ v, stkM (σ.2.1 23) (σ.2.1 24) (σ.2.1 44) fr (j + 1) = v :: stkM (σ.2.1 23) (σ.2.1 24) (σ.2.1 44) fr j → wpM_value_59 (fun a0 a1 a2 a3 => wpM_value_5 Post (d + 1) a0 a1 a2 a3) Post (mA σ 45 r) (nI to) (nI (stkM (σ.2.1 23) (σ.2.1 24) (σ.2.1 44) fr j).length) (nI (fr + j)) (nI (stkM (σ.2.1 23) (σ.2.1 24) (σ.2.1 44) fr j).length) v := by
      intro v ev
      refine ⟨vp_in_nI (by omega) (by omega), ?_⟩
      rw [nI_clamp (by omega)]
      rintro _ rfl _ rfl _ rfl
      rw [mA_same, nI_1, nI_1]
      have e0 : (mA σ 45 r).2.1 45 = r := rfl
      rw [e0]
      have := ih (upd r (stkM (σ.2.1 23) (σ.2.1 24) (σ.2.1 44) fr j).length v) (by
        rw [ev]
        exact ⟨if_pos rfl, pileOK_upd (Nat.le_refl _) hr⟩)
      rw [ev] at this
      exact this
    rcases hI with c | ⟨c, x, hx, ex⟩ | ⟨c, hl⟩
    · rw [c]
      refine ⟨fun z => absurd z (by decide), fun _ => ⟨hv, fun _ => ⟨hv, h59 _ ?_⟩, fun z => absurd rfl z⟩⟩
      exact stepM_0 c
    · rw [c]
      have ew : (mA σ 45 r).2.1 44 (σ.2.1 24 (fr + j)).toNatClampNeg = σ.2.1 44 (σ.2.1 24 (fr + j)).toNatClampNeg := rfl
      rw [ew]
      refine ⟨fun z => absurd z (by decide), fun _ => ⟨hv, fun z => absurd z (by decide), fun _ => ⟨hv, by rw [ex]; exact vp_in_nI hx (by omega), h59 _ ?_⟩⟩⟩
      exact stepM_1 c
    · have hl := hl (σ.2.1 44)
      match hst : stkM (σ.2.1 23) (σ.2.1 24) (σ.2.1 44) fr j, hl with
      | b :: a :: rs, _ =>
        rw [hst] at hr hlen
        simp only [List.length_cons] at hlen
        have c0 : ¬ σ.2.1 23 (fr + j) = 0 := by rcases c with c | c | c <;> rw [c] <;> decide
        have c1 : ¬ σ.2.1 23 (fr + j) = 1 := by rcases c with c | c | c <;> rw [c] <;> decide
        have c2 : 2 ≤ σ.2.1 23 (fr + j) := by rcases c with c | c | c <;> rw [c] <;> decide
        have ev : stkM (σ.2.1 23) (σ.2.1 24) (σ.2.1 44) fr (j + 1) = opM (σ.2.1 23 (fr + j)) a b :: rs := by
          rw [stkM, hst]
          exact stepM_2 c0 c1
        have h137 : ∀ v, v = opM (σ.2.1 23 (fr + j)) a b → wpM_value_137 (fun a0 a1 a2 a3 => wpM_value_5 Post (d + 1) a0 a1 a2 a3) Post (mA σ 45 r) (nI to) (nI (rs.length + 1)) (nI (fr + j)) (nI rs.length) v := by
          rintro v rfl
          refine ⟨vp_in_nI (by omega) (by omega), ?_⟩
          rw [nI_clamp (by omega)]
          rintro _ rfl _ rfl
          rw [mA_same, nI_1]
          have e0 : (mA σ 45 r).2.1 45 = r := rfl
          rw [e0]
          have := ih (upd r rs.length (opM (σ.2.1 23 (fr + j)) a b)) (by
            rw [ev]
            exact ⟨if_pos rfl, pileOK_upd (Nat.le_refl _) hr.2.2⟩)
          rw [ev] at this
          exact this
        have el : nI (b :: a :: rs).length + (-1) = nI (rs.length + 1) := by
          show nI (rs.length + 1 + 1) + (-1) = _
          exact pk_m1 _
        refine ⟨fun _ => ?_, fun z => absurd c2 z⟩
        rintro _ rfl
        rw [el, nI_pred, nI_clamp (by omega), nI_clamp (by omega)]
        have ra : (mA σ 45 r).2.1 45 rs.length = a := hr.2.1
        have rb : (mA σ 45 r).2.1 45 (rs.length + 1) = b := hr.1
        rw [ra, rb]
        refine ⟨vp_in_nI (by omega) (by omega), ?_⟩
        rintro _ rfl
        refine ⟨vp_in_nI (by omega) (by omega), ?_⟩
        rintro _ rfl
        refine ⟨hv, fun z => h137 _ (by rw [opM, if_pos z]), fun z => ⟨hv, fun z2 => h137 _ (by rw [opM, if_neg z, if_pos z2]), fun z2 => h137 _ (by rw [opM, if_neg z, if_neg z2])⟩⟩
