/-! pure level: gaps -/
def stepv (fa mo : Nat → Int32) (ch : Int32) (k : Nat) : Int32 := if ch = -1 then -1 else if (k + 1) % 2 = 1 then fa ch.toNatClampNeg else mo ch.toNatClampNeg
def anF (fa mo : Nat → Int32) (p : Int32) : Nat → Nat → Int32
  | 0 => fun _ => p
  | k + 1 => upd (anF fa mo p k) (k + 1) (stepv fa mo (anF fa mo p k (k / 2)) k)
def gcF (fa mo : Nat → Int32) (p : Int32) : Nat → Int32
  | 0 => 0
  | k + 1 => if anF fa mo p (k + 1) (k + 1) = -1 then gcF fa mo p k + 1 else gcF fa mo p k
theorem anF_ok {fa mo : Nat → Int32} {p : Int32} {n : Nat} (hnn : n ≤ 12) (hp : isPa p n) (hpa : ∀ q, q < n → isPa (fa q) n ∧ isPa (mo q) n) : ∀ k s, isPa (anF fa mo p k s) n := by
  intro k
  induction k with
  | zero => exact fun _ => hp
  | succ k ih =>
    intro s
    simp only [anF, upd_at]
    split
    · rw [stepv]
      rcases ih (k / 2) with e | ⟨a, ha, e⟩
      · rw [if_pos e]
        exact Or.inl rfl
      · rw [e, if_neg (nI_nm1 (by omega)), nI_clamp (by omega)]
        split
        · exact (hpa a ha).1
        · exact (hpa a ha).2
    · exact ih s
theorem gaps_half (k : Nat) (hk : k < 100) : nI k / 2 = nI (k / 2) := pk_div (d := 2) (by omega) (by omega) (by omega)
theorem gaps_rem (k : Nat) (hk : k < 100) : nI k - nI k / 2 * 2 = nI (k % 2) := pk_rem (d := 2) (by omega) (by omega) (by omega)
theorem gapsLoopM {σ : MS} {n : Nat} {p : Int32} {Post : Int32 → MS → Prop} (hnn : n ≤ 12) (hp : isPa p n) (hpa : ∀ q, q < n → isPa (σ.2.1 26 q) n ∧ isPa (σ.2.1 27 q) n)
    (hP : ∀ r, Post (gcF (σ.2.1 26) (σ.2.1 27) p 14) (mA σ 30 r)) : ∀ d k, k + d = 14 → ∀ r, (∀ s, s ≤ k → r s = anF (σ.2.1 26) (σ.2.1 27) p k s) → wpM_gaps_21 Post (d + 1) (mA σ 30 r) (gcF (σ.2.1 26) (σ.2.1 27) p k) (nI (k + 1)) := by
  intro d
  induction d with
  | zero =>
    intro k hk r hr
    obtain rfl : k = 14 := by omega
    exact ⟨fun _ => hP r, fun z => absurd (by decide) z⟩
  | succ d ih =>
    intro k hk r hr
    replace ih := ih (k + 1) (by omega)
    refine ⟨fun z => absurd z (nI_ge (a := k + 1) (b := 15) (by omega) (by omega)), fun _ => ?_⟩
    rw [nI_pred, gaps_half k (by omega), nI_clamp (by omega), gaps_rem (k + 1) (by omega)]
    refine ⟨vp_in_nI (by omega) (by omega), ?_⟩
    have er : (mA σ 30 r).2.1 30 (k / 2) = anF (σ.2.1 26) (σ.2.1 27) p k (k / 2) := hr _ (by omega)
    have h78 : ∀ v, v = stepv (σ.2.1 26) (σ.2.1 27) (anF (σ.2.1 26) (σ.2.1 27) p k (k / 2)) k → wpM_gaps_78 (fun a0 a1 a2 => wpM_gaps_21 Post (d + 1) a0 a1 a2) Post (mA σ 30 r) (gcF (σ.2.1 26) (σ.2.1 27) p k) (nI (k + 1)) (nI (k + 1)) v := by
      rintro v rfl
      have hv : vp_in (nI (k + 1)) 15 := vp_in_nI (by omega) (by omega)
      refine ⟨hv, ?_⟩
      have e0 : (mA σ 30 r).2.1 30 = r := rfl
      rw [nI_clamp (by omega), mA_same, e0]
      rintro _ rfl
      refine ⟨hv, ?_⟩
      have e1 : (mA σ 30 (upd r (k + 1) (stepv (σ.2.1 26) (σ.2.1 27) (anF (σ.2.1 26) (σ.2.1 27) p k (k / 2)) k))).2.1 30 (k + 1) = stepv (σ.2.1 26) (σ.2.1 27) (anF (σ.2.1 26) (σ.2.1 27) p k (k / 2)) k := if_pos rfl
      have e2 : anF (σ.2.1 26) (σ.2.1 27) p (k + 1) (k + 1) = stepv (σ.2.1 26) (σ.2.1 27) (anF (σ.2.1 26) (σ.2.1 27) p k (k / 2)) k := if_pos rfl
      replace ih := ih (upd r (k + 1) (stepv (σ.2.1 26) (σ.2.1 27) (anF (σ.2.1 26) (σ.2.1 27) p k (k / 2)) k)) (fun s hs => by
        simp only [anF, upd_at]
        by_cases e : s = k + 1
        · rw [if_pos e, if_pos e]
        · rw [if_neg e, if_neg e]
          exact hr s (by omega))
      rw [gcF, e2] at ih
      rw [e1]
      refine ⟨fun z => ?_, fun z => ?_⟩
      · rintro _ rfl _ rfl
        rw [if_pos z] at ih
        rw [nI_1]
        exact ih
      · rintro _ rfl
        rw [if_neg z] at ih
        rw [nI_1]
        exact ih
    rintro _ rfl
    rw [er]
    have ea := anF_ok hnn hp hpa k (k / 2)
    rcases ea with e | ⟨a, ha, e⟩
    · exact ⟨fun _ => h78 _ (by rw [stepv, if_pos e]), fun z => absurd e z⟩
    · have en : ¬ anF (σ.2.1 26) (σ.2.1 27) p k (k / 2) = -1 := by rw [e]; exact nI_nm1 (by omega)
      have hv : vp_in (anF (σ.2.1 26) (σ.2.1 27) p k (k / 2)) 12 := by rw [e]; exact vp_in_nI (by omega) (by omega)
      have eq1 : nI ((k + 1) % 2) = 1 ↔ (k + 1) % 2 = 1 := nI_eq (b := 1) (by omega) (by omega)
      refine ⟨fun z => absurd z en, fun _ => ⟨fun z => ⟨hv, h78 _ ?_⟩, fun z => ⟨hv, h78 _ ?_⟩⟩⟩
      · rw [stepv, if_neg en, if_pos (eq1.mp z)]
        rfl
      · rw [stepv, if_neg en, if_neg (fun y => z (eq1.mpr y))]
        rfl
theorem gapsM {σ : MS} {n : Nat} {p : Int32} {Post : Int32 → MS → Prop} (hn : σ.1 40 = nI n) (hnn : n ≤ 12) (hpa : ∀ q, q < n → isPa (σ.2.1 26 q) n ∧ isPa (σ.2.1 27 q) n)
    (h1 : isN p n → ∀ r, Post (gcF (σ.2.1 26) (σ.2.1 27) p 14) (mA σ 30 r)) (h0 : ¬ isN p n → Post (-1) σ) : wpM_gaps σ p Post := by
  refine isPersonM hn (by omega) (fun hN => ⟨fun z => absurd z (by decide), fun _ => ⟨vp_in_nI (n := 0) (by omega) (by omega), ?_⟩⟩) (fun hN => ⟨fun _ => h0 hN, fun z => absurd rfl z⟩)
  rintro _ rfl
  exact ⟨15, gapsLoopM hnn (Or.inr hN) hpa (h1 hN) 14 0 (by omega) _ (fun s hs => by have e : s = 0 := Nat.le_zero.mp hs; subst e; rfl)⟩
theorem gapsLoopC {σ : CS} {n : Nat} {p : Int32} {Post : Int32 → CS → Prop} (hn : σ.1 165 = nI n) (hnn : n ≤ 12) (hp : isPa p n) (hpa : ∀ q, q < n → isPa (σ.2.1 9 q) n ∧ isPa (σ.2.1 10 q) n)
    (hP : ∀ r, Post (gcF (σ.2.1 9) (σ.2.1 10) p 14) (cA σ 13 r)) : ∀ d k, k + d = 14 → ∀ r, (∀ s, s ≤ k → r (s + 1) = anF (σ.2.1 9) (σ.2.1 10) p k s) → wpC_X1_gapsOf_11 Post (d + 1) (cA σ 13 r) (gcF (σ.2.1 9) (σ.2.1 10) p k) (nI (k + 2)) := by
  intro d
  induction d with
  | zero =>
    intro k hk r hr
    obtain rfl : k = 14 := by omega
    exact ⟨fun _ => hP r, fun z => absurd (by decide) z⟩
  | succ d ih =>
    intro k hk r hr
    replace ih := ih (k + 1) (by omega)
    refine ⟨fun z => absurd z (nI_ge (a := k + 2) (b := 16) (by omega) (by omega)), fun _ => ?_⟩
    rw [gaps_rem (k + 2) (by omega), gaps_half (k + 2) (by omega), nI_clamp (by omega)]
    refine ⟨vp_in_nI (by omega) (by omega), ?_⟩
    have er : (cA σ 13 r).2.1 13 ((k + 2) / 2) = anF (σ.2.1 9) (σ.2.1 10) p k (k / 2) := by
      have : (k + 2) / 2 = k / 2 + 1 := by omega
      rw [this]
      exact hr _ (by omega)
    have h78 : ∀ v, v = stepv (σ.2.1 9) (σ.2.1 10) (anF (σ.2.1 9) (σ.2.1 10) p k (k / 2)) k → wpC_X1_gapsOf_57 (fun a0 a1 a2 => wpC_X1_gapsOf_11 Post (d + 1) a0 a1 a2) Post (cA σ 13 r) (gcF (σ.2.1 9) (σ.2.1 10) p k) (nI (k + 2)) (nI (k + 2)) v := by
      rintro v rfl
      have hv : vp_in (nI (k + 2)) 16 := vp_in_nI (by omega) (by omega)
      refine ⟨hv, ?_⟩
      have e0 : (cA σ 13 r).2.1 13 = r := rfl
      rw [nI_clamp (by omega), cA_same, e0]
      rintro _ rfl
      refine ⟨hv, ?_⟩
      have e1 : (cA σ 13 (upd r (k + 2) (stepv (σ.2.1 9) (σ.2.1 10) (anF (σ.2.1 9) (σ.2.1 10) p k (k / 2)) k))).2.1 13 (k + 2) = stepv (σ.2.1 9) (σ.2.1 10) (anF (σ.2.1 9) (σ.2.1 10) p k (k / 2)) k := if_pos rfl
      have e2 : anF (σ.2.1 9) (σ.2.1 10) p (k + 1) (k + 1) = stepv (σ.2.1 9) (σ.2.1 10) (anF (σ.2.1 9) (σ.2.1 10) p k (k / 2)) k := if_pos rfl
      replace ih := ih (upd r (k + 2) (stepv (σ.2.1 9) (σ.2.1 10) (anF (σ.2.1 9) (σ.2.1 10) p k (k / 2)) k)) (fun s hs => by
        simp only [anF, upd_at]
        by_cases e : s = k + 1
        · rw [if_pos (by omega), if_pos e]
        · rw [if_neg (by omega), if_neg e]
          exact hr s (by omega))
      rw [gcF, e2] at ih
      rw [e1]
      refine ⟨fun z => ?_, fun z => ?_⟩
      · rintro _ rfl _ rfl
        rw [if_pos z] at ih
        rw [nI_1]
        exact ih
      · rintro _ rfl
        rw [if_neg z] at ih
        rw [nI_1]
        exact ih
    rintro _ rfl
    rw [er]
    have ea := anF_ok hnn hp hpa k (k / 2)
    refine hasC (n := n) hn (by omega) (fun hN => ⟨fun z => absurd z (by decide), fun _ => ?_⟩) (fun hN => ⟨fun _ => ?_, fun z => absurd rfl z⟩)
    · obtain ⟨a, ha, e⟩ := hN
      have en : ¬ anF (σ.2.1 9) (σ.2.1 10) p k (k / 2) = -1 := by rw [e]; exact nI_nm1 (by omega)
      have hv : vp_in (anF (σ.2.1 9) (σ.2.1 10) p k (k / 2)) 12 := by rw [e]; exact vp_in_nI (by omega) (by omega)
      have eq1 : nI ((k + 2) % 2) = 0 ↔ (k + 1) % 2 = 1 := by
        have := nI_eq (a := (k + 2) % 2) (b := 0) (by omega) (by omega)
        rw [nI_0] at this
        rw [this]
        omega
      refine ⟨fun z => ⟨hv, h78 _ ?_⟩, fun z => ⟨hv, h78 _ ?_⟩⟩
      · rw [stepv, if_neg en, if_pos (eq1.mp z)]
        rfl
      · rw [stepv, if_neg en, if_neg (fun y => z (eq1.mpr y))]
        rfl
    · rcases ea with e | e
      · exact h78 _ (by rw [stepv, if_pos e])
      · exact absurd e hN
theorem gapsC {σ : CS} {n : Nat} {p : Int32} {Post : Int32 → CS → Prop} (hn : σ.1 165 = nI n) (hnn : n ≤ 12) (hpa : ∀ q, q < n → isPa (σ.2.1 9 q) n ∧ isPa (σ.2.1 10 q) n)
    (h1 : isN p n → ∀ r, Post (gcF (σ.2.1 9) (σ.2.1 10) p 14) (cA σ 13 r)) (h0 : ¬ isN p n → Post (-1) σ) : wpC_X10_gaps σ p Post := by
  refine hasC hn (by omega) (fun hN => ⟨fun z => absurd z (by decide), fun _ => ⟨vp_in_nI (n := 1) (by omega) (by omega), ?_⟩⟩) (fun hN => ⟨fun _ => h0 hN, fun z => absurd rfl z⟩)
  rintro _ rfl
  exact ⟨15, gapsLoopC hn hnn (Or.inr hN) hpa (h1 hN) 14 0 (by omega) _ (fun s hs => by have e : s = 0 := Nat.le_zero.mp hs; subst e; rfl)⟩
