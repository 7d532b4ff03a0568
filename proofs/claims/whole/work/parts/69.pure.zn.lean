/-! pure level: the judgement stays when more is told -/
def uz (j : Nat) : Prop := 8 ≤ j ∧ j ≤ 16 ∨ 18 ≤ j ∧ j ≤ 24 ∨ 28 ≤ j ∧ j ≤ 29 ∨ 31 ≤ j ∧ j ≤ 36 ∨ 40 ≤ j ∧ j ≤ 43
def cut2 (σ : MS) : MS := (fun _ => 0, (fun j => if 8 ≤ j ∧ j ≤ 16 ∨ 18 ≤ j ∧ j ≤ 24 ∨ 28 ≤ j ∧ j ≤ 29 ∨ 31 ≤ j ∧ j ≤ 36 ∨ 40 ≤ j ∧ j ≤ 43 then σ.2.1 j else fun _ => 0), fun _ _ => 0)
theorem js_cut2 (σ : MS) (np npr nl n : Nat) (R : Nat → Nat → Int32) (k : Nat) : jStep σ np npr nl n R k = jStep (cut2 σ) np npr nl n R k := rfl
theorem r0_cut2 (σ : MS) (np nl n : Nat) : R0V σ np nl n = R0V (cut2 σ) np nl n := rfl
theorem jAll_cut2 (σ : MS) (np npr nl n : Nat) : jAll σ np npr nl n = jAll (cut2 σ) np npr nl n := by
  unfold jAll
  rw [r0_cut2]
  exact jRun_eq (js_cut2 σ np npr nl n) npr _
theorem jAll_rows2 {σ σ' : MS} {np npr nl n : Nat} (h : ∀ j, uz j → σ'.2.1 j = σ.2.1 j) : jAll σ' np npr nl n = jAll σ np npr nl n := by
  rw [jAll_cut2 σ', jAll_cut2 σ]
  have : cut2 σ' = cut2 σ := by
    unfold cut2
    have e : (fun j => if 8 ≤ j ∧ j ≤ 16 ∨ 18 ≤ j ∧ j ≤ 24 ∨ 28 ≤ j ∧ j ≤ 29 ∨ 31 ≤ j ∧ j ≤ 36 ∨ 40 ≤ j ∧ j ≤ 43 then σ'.2.1 j else fun _ => 0) = (fun j => if 8 ≤ j ∧ j ≤ 16 ∨ 18 ≤ j ∧ j ≤ 24 ∨ 28 ≤ j ∧ j ≤ 29 ∨ 31 ≤ j ∧ j ≤ 36 ∨ 40 ≤ j ∧ j ≤ 43 then σ.2.1 j else fun _ => 0) := by
      funext j
      split
      · next c => exact h j c
      · rfl
    rw [e]
  rw [this]
theorem IGo_rows {σ σ' : MS} {np npr nf nl : Nat} (h : ∀ j, uz j → σ'.2.1 j = σ.2.1 j) (h2 : ∀ j, 46 ≤ j → j ≤ 56 → σ'.2.1 j = σ.2.1 j) (h64 : σ'.1 64 = σ.1 64) (hG : IGo np npr nf nl σ) : IGo np npr nf nl σ' := by
  unfold IGo
  rw [h64]
  rcases hG with e | ⟨n, hn, e, hE⟩
  · exact Or.inl e
  · refine Or.inr ⟨n, hn, e, ?_⟩
    rw [jAll_rows2 h]
    intro j q j1 j2 hq
    rw [h2 j j1 j2]
    exact hE j q j1 j2 hq
/-- other facts -/
def sF (σ : MS) (F : Nat → Nat → Int32) : MS := (σ.1, (fun j => if 40 ≤ j ∧ j ≤ 43 then F j else σ.2.1 j), σ.2.2)
theorem jAll_sF {σ : MS} {F : Nat → Nat → Int32} {np npr nl n : Nat} (h10 : npr ≤ 10) (hn : n ≤ 200) (hF : ∀ i, i < n → ∀ j, 40 ≤ j → j ≤ 43 → F j i = σ.2.1 j i) : EqR npr (jAll (sF σ F) np npr nl n) (jAll σ np npr nl n) := by
  have f40 : ∀ i, i < n → F 40 i = σ.2.1 40 i := fun i hi => hF i hi 40 (by omega) (by omega)
  have f41 : ∀ i, i < n → F 41 i = σ.2.1 41 i := fun i hi => hF i hi 41 (by omega) (by omega)
  have f42 : ∀ i, i < n → F 42 i = σ.2.1 42 i := fun i hi => hF i hi 42 (by omega) (by omega)
  have f43 : ∀ i, i < n → F 43 i = σ.2.1 43 i := fun i hi => hF i hi 43 (by omega) (by omega)
  have sd : ∀ p w, sdV (sF σ F) n p w = sdV σ n p w := fun p w => lsF_congr (fun i hi => by
    show decide ((F 40 i = 4 ∨ F 40 i = 5) ∧ F 41 i = nI w ∧ F 42 i = nI p) = _
    rw [f40 i hi, f41 i hi, f42 i hi])
  have sd2 : ∀ p w, ¬ sdV σ n p w = -1 → F 40 (sdV σ n p w).toNatClampNeg = σ.2.1 40 (sdV σ n p w).toNatClampNeg := by
    intro p w c
    rcases lsF_is (fun i => decide ((σ.2.1 40 i = 4 ∨ σ.2.1 40 i = 5) ∧ σ.2.1 41 i = nI w ∧ σ.2.1 42 i = nI p)) n with e | ⟨j, hj, ej, _⟩
    · exact absurd e c
    · have ej : sdV σ n p w = nI j := ej
      rw [ej, nI_clamp (by omega)]
      exact f40 j hj
  have ew : ∀ p, wPV (sF σ F) np n p = wPV σ np n p := by
    intro p
    refine wvP_congr (cntF_congr (fun w _ => ?_)) (cntF_congr (fun w _ => ?_)) (cntF_congr (fun w _ => ?_)) (cntF_congr (fun i hi => ?_)) rfl
    · refine flag_g _ _ _ _ _ _ (by rw [sd]) (fun c => ?_) (fun _ => rfl)
      rw [sd]
      show F 40 (sdV σ n p w).toNatClampNeg = 4 ↔ _
      rw [sd2 p w c]
    · refine flag_g _ _ _ _ _ _ (by rw [sd]) (fun c => ?_) (fun _ => rfl)
      rw [sd]
      show ¬ F 40 (sdV σ n p w).toNatClampNeg = 4 ↔ _
      rw [sd2 p w c]
    · refine flag_g _ _ _ _ _ _ (by rw [sd]) (fun c => ?_) (fun _ => rfl)
      rw [sd]
      show F 40 (sdV σ n p w).toNatClampNeg = 4 ↔ _
      rw [sd2 p w c]
    · show decide (F 40 i = 6 ∧ F 41 i = nI p) = _
      rw [f40 i hi, f41 i hi]
      rfl
  have efi : ∀ p, fiV (sF σ F) n p = fiV σ n p := fun p => dcF_congr (by omega) (fun i hi => by
    show decide ((F 40 i = 7 ∨ F 40 i = 8) ∧ F 41 i = σ.2.1 36 p) = _
    rw [f40 i hi, f41 i hi]) (fun i hi _ => f43 i hi)
  have efi2 : ∀ p, ¬ fiV σ n p = -1 → F 40 (fiV σ n p).toNatClampNeg = σ.2.1 40 (fiV σ n p).toNatClampNeg ∧ F 43 (fiV σ n p).toNatClampNeg = σ.2.1 43 (fiV σ n p).toNatClampNeg := by
    intro p c
    rcases dcF_is (fun i => decide ((σ.2.1 40 i = 7 ∨ σ.2.1 40 i = 8) ∧ σ.2.1 41 i = σ.2.1 36 p)) (σ.2.1 43) n with e | ⟨j, hj, ej, _⟩
    · exact absurd e c
    · have ej : fiV σ n p = nI j := ej
      rw [ej, nI_clamp (by omega)]
      exact ⟨f40 j hj, f43 j hj⟩
  have ede : ∀ p, deV (sF σ F) n p = deV σ n p := fun p => minF_congr (fun i hi => by
    show decide (F 40 i = 0 ∧ (F 41 i = σ.2.1 31 p ∨ F 41 i = σ.2.1 32 p)) = _
    rw [f40 i hi, f41 i hi]) (fun i hi _ => f43 i hi)
  refine jAll_congr2 h10 rfl rfl (fun p hp => ⟨?_, ?_, ?_⟩) (fun p e hp => ?_) (fun R o k _ _ => rfl) (fun p e hp => ⟨?_, ede p⟩)
  · show ruV σ (wPV (sF σ F) np n p) (loP σ nl p) 0 = _
    rw [ew]
    rfl
  · unfold efV
    rw [efi]
    show (if σ.2.1 36 p = -1 then σ.2.1 34 p else if fiV σ n p = -1 then 1000000 else if F 43 (fiV σ n p).toNatClampNeg ≤ σ.2.1 34 p then σ.2.1 34 p else F 43 (fiV σ n p).toNatClampNeg) = _
    by_cases c : fiV σ n p = -1
    · rw [if_pos c, if_pos c]
    · rw [(efi2 p c).2]
  · unfold hwV
    rw [efi]
    show (if σ.2.1 36 p = -1 then 1 else if fiV σ n p = -1 then 0 else if F 40 (fiV σ n p).toNatClampNeg = 7 then 1 else 2) = _
    by_cases c : fiV σ n p = -1
    · rw [if_pos c, if_pos c]
    · rw [(efi2 p c).1]
  · have e1 : ∀ a x, vwN (sF σ F) n a x = vwN σ n a x := fun a x => anyF_congr (fun i hi => by
      show decide (F 40 i = 1 ∧ F 41 i = a ∧ ¬ x < F 43 i) = _
      rw [f40 i hi, f41 i hi, f43 i hi])
    have e2 : anyF (leH (sF σ F) p e) n = anyF (leH σ p e) n := anyF_congr (fun i hi => by
      show decide (F 40 i = 9 ∧ (F 41 i = σ.2.1 31 p ∧ F 42 i = σ.2.1 32 p ∨ F 41 i = σ.2.1 32 p ∧ F 42 i = σ.2.1 31 p) ∧ ¬ e < F 43 i) = _
      rw [f40 i hi, f41 i hi, f42 i hi, f43 i hi]
      rfl)
    have e3 : wBV (sF σ F) np n p e = wBV σ np n p e := by
      unfold wBV
      rw [e1, e1, e2]
      rfl
    unfold baV
    rw [ede, e3]
    rfl
  · have eD : ∀ m i, i < n → laD (sF σ F) m e i = laD σ m e i := fun m i hi => by
      show (if F 43 i + m ≤ e then e else F 43 i + m) = _
      rw [f43 i hi]
      rfl
    have eL : lpV (sF σ F) (loP (sF σ F) nl p) = lpV σ (loP σ nl p) := rfl
    unfold laV
    rw [eL]
    split
    · rfl
    · refine minF_congr (fun i hi => ?_) (fun i hi _ => eD _ i hi)
      unfold laH
      rw [eD _ i hi]
      have e5 : anyF (fun j => decide ((sF σ F).2.1 40 j = 3 ∧ (sF σ F).2.1 41 j = (sF σ F).2.1 41 i ∧ ¬ (sF σ F).2.1 43 j < (sF σ F).2.1 43 i ∧ ¬ laD σ (lpV σ (loP σ nl p)) e i < (sF σ F).2.1 43 j)) n = anyF (fun j => decide (σ.2.1 40 j = 3 ∧ σ.2.1 41 j = σ.2.1 41 i ∧ ¬ σ.2.1 43 j < σ.2.1 43 i ∧ ¬ laD σ (lpV σ (loP σ nl p)) e i < σ.2.1 43 j)) n := anyF_congr (fun j hj => by
        show decide (F 40 j = 3 ∧ F 41 j = F 41 i ∧ ¬ F 43 j < F 43 i ∧ ¬ laD σ (lpV σ (loP σ nl p)) e i < F 43 j) = _
        rw [f40 j hj, f41 j hj, f41 i hi, f43 j hj, f43 i hi])
      rw [e5]
      have e6 : decide ((sF σ F).2.1 40 i = 2 ∧ ((sF σ F).2.1 41 i = (sF σ F).2.1 31 p ∨ (sF σ F).2.1 41 i = (sF σ F).2.1 32 p)) = decide (σ.2.1 40 i = 2 ∧ (σ.2.1 41 i = σ.2.1 31 p ∨ σ.2.1 41 i = σ.2.1 32 p)) := by
        show decide (F 40 i = 2 ∧ (F 41 i = σ.2.1 31 p ∨ F 41 i = σ.2.1 32 p)) = _
        rw [f40 i hi, f41 i hi]
      rw [e6]
theorem IGo_fact {σ : MS} {np npr nf nl : Nat} {a b c d : Int32} (h10 : npr ≤ 10) (hnf : nf ≤ 200) (hG : IGo np npr nf nl σ) : IGo np npr (nf + 1) nl (adM σ nf a b c d) := by
  rcases hG with e | ⟨n, hn, e, hE⟩
  · exact Or.inl e
  · refine Or.inr ⟨n, by omega, e, ?_⟩
    have e1 : jAll (adM σ nf a b c d) np npr nl n = jAll (sF σ (adM σ nf a b c d).2.1) np npr nl n := jAll_rows2 (fun j hj => by
      show (adM σ nf a b c d).2.1 j = if 40 ≤ j ∧ j ≤ 43 then (adM σ nf a b c d).2.1 j else σ.2.1 j
      by_cases q : 40 ≤ j ∧ j ≤ 43
      · rw [if_pos q]
      · rw [if_neg q]
        show (if j = 43 then _ else if j = 42 then _ else if j = 41 then _ else if j = 40 then _ else σ.2.1 j) = σ.2.1 j
        rw [if_neg (by omega), if_neg (by omega), if_neg (by omega), if_neg (by omega)])
    rw [e1]
    refine EqR_trans ?_ (fun j q j1 j2 hq => (jAll_sF (F := (adM σ nf a b c d).2.1) h10 (by omega) (fun i hi j j1 j2 => ?_) j q j1 j2 hq).symm)
    · intro j q j1 j2 hq
      have : (adM σ nf a b c d).2.1 j = σ.2.1 j := by
        show (if j = 43 then _ else if j = 42 then _ else if j = 41 then _ else if j = 40 then _ else σ.2.1 j) = σ.2.1 j
        rw [if_neg (by omega), if_neg (by omega), if_neg (by omega), if_neg (by omega)]
      rw [this]
      exact hE j q j1 j2 hq
    · show (if j = 43 then upd (σ.2.1 43) nf d else if j = 42 then upd (σ.2.1 42) nf c else if j = 41 then upd (σ.2.1 41) nf b else if j = 40 then upd (σ.2.1 40) nf a else σ.2.1 j) i = σ.2.1 j i
      have hne : i ≠ nf := by omega
      split
      · next q => rw [pk_un hne, q]
      · split
        · next q => rw [pk_un hne, q]
        · split
          · next q => rw [pk_un hne, q]
          · split
            · next q => rw [pk_un hne, q]
            · rfl
/-- other persons -/
def sP (σ : MS) (P : Nat → Nat → Int32) : MS := (σ.1, (fun j => if 26 ≤ j ∧ j ≤ 29 then P j else σ.2.1 j), σ.2.2)
theorem minF_top {h : Nat → Bool} {v : Nat → Int32} {t : Int32} {n : Nat} : ¬ t < minF h v t n := by
  induction n with
  | zero => rw [minF]; exact fun z => Int32.lt_irrefl z
  | succ n ih =>
    rw [minF]
    split
    · next c =>
      have := c.2
      generalize minF h v t n = x at this ih
      generalize v n = y at this ⊢
      grind
    · exact ih
theorem dgV_new {u u' : Nat → Int32} {np a b : Nat} (hnp : np < 12) (ha : a < np) (hb : b < np) (h : ∀ j, j < 12 * np → u' j = u j) (h9 : ∀ p c, p < np → c < 12 → p < c → u (12 * p + c) = 99) : dgV u' (np + 1) a b = dgV u np a b := by
  unfold dgV
  rw [minF]
  have e1 : u' (12 * a + np) = 99 := by rw [h _ (by omega), h9 a np ha (by omega) ha]
  have e2 : u' (12 * b + np) = 99 := by rw [h _ (by omega), h9 b np hb (by omega) hb]
  have e3 : imax (u' (12 * a + np)) (u' (12 * b + np)) = 99 := by rw [e1, e2]; rfl
  rw [e3, if_neg (fun z => minF_top z.2)]
  exact minF_congr (fun _ _ => rfl) (fun c hc _ => by
    show imax (u' (12 * a + c)) (u' (12 * b + c)) = _
    rw [h _ (by omega), h _ (by omega)])
theorem kin_sP {σ : MS} {P : Nat → Nat → Int32} {np p w : Nat} (hnp : np < 12) (hpr : isN (σ.2.1 31 p) np ∧ isN (σ.2.1 32 p) np) (h29 : ∀ j, j < 12 * np → P 29 j = σ.2.1 29 j) (h9 : ∀ p c, p < np → c < 12 → p < c → σ.2.1 29 (12 * p + c) = 99) (hw : w < np) : kinV (sP σ P) (np + 1) p w = kinV σ np p w := by
  obtain ⟨⟨a, ha, ea⟩, ⟨b, hb, eb⟩⟩ := hpr
  show (decide (dgV (P 29) (np + 1) w (σ.2.1 31 p).toNatClampNeg ≤ 4) || decide (dgV (P 29) (np + 1) w (σ.2.1 32 p).toNatClampNeg ≤ 4)) = _
  rw [kinV, ea, eb, nI_clamp (by omega), nI_clamp (by omega), dgV_new hnp hw ha h29 h9, dgV_new hnp hw hb h29 h9]
theorem kin_sP2 {σ : MS} {P : Nat → Nat → Int32} {np n p w : Nat} (hnp : np < 12) (hO : witOK σ np n) (hpr : isN (σ.2.1 31 p) np ∧ isN (σ.2.1 32 p) np) (h29 : ∀ j, j < 12 * np → P 29 j = σ.2.1 29 j) (h9 : ∀ p c, p < np → c < 12 → p < c → σ.2.1 29 (12 * p + c) = 99) (c : ¬ sdV σ n p w = -1) : (decide (w < 100) && kinV (sP σ P) (np + 1) p w) = (decide (w < 100) && kinV σ np p w) := by
  by_cases q : w < 100
  · rcases lsF_is (fun i => decide ((σ.2.1 40 i = 4 ∨ σ.2.1 40 i = 5) ∧ σ.2.1 41 i = nI w ∧ σ.2.1 42 i = nI p)) n with e | ⟨j, hj, ej, hh⟩
    · exact absurd e c
    · have hh := of_decide_eq_true hh
      rw [kin_sP hnp hpr h29 h9 (hO j w hj hh.1 hh.2.1 q)]
  · rw [decide_eq_false q, Bool.false_and, Bool.false_and]
theorem sd_sP {σ : MS} {P : Nat → Nat → Int32} {n p w : Nat} : sdV (sP σ P) n p w = sdV σ n p w := rfl
theorem yes_sP {σ : MS} {P : Nat → Nat → Int32} {np n p w : Nat} (hk : ¬ sdV σ n p w = -1 → (decide (w < 100) && kinV (sP σ P) (np + 1) p w) = (decide (w < 100) && kinV σ np p w)) : yesH (sP σ P) (np + 1) n p w = yesH σ np n p w := by
  unfold yesH
  rw [sd_sP]
  exact flag_g _ _ _ _ _ _ Iff.rfl (fun _ => Iff.rfl) (fun c => by rw [hk c])
theorem no_sP {σ : MS} {P : Nat → Nat → Int32} {np n p w : Nat} (hk : ¬ sdV σ n p w = -1 → (decide (w < 100) && kinV (sP σ P) (np + 1) p w) = (decide (w < 100) && kinV σ np p w)) : noH (sP σ P) (np + 1) n p w = noH σ np n p w := by
  unfold noH
  rw [sd_sP]
  exact flag_g _ _ _ _ _ _ Iff.rfl (fun _ => Iff.rfl) (fun c => by rw [hk c])
theorem ki_sP {σ : MS} {P : Nat → Nat → Int32} {np n p w : Nat} (hk : ¬ sdV σ n p w = -1 → (decide (w < 100) && kinV (sP σ P) (np + 1) p w) = (decide (w < 100) && kinV σ np p w)) : kinH (sP σ P) (np + 1) n p w = kinH σ np n p w := by
  unfold kinH
  rw [sd_sP]
  exact flag_g _ _ _ _ _ _ Iff.rfl (fun _ => Iff.rfl) hk
theorem fam_sP {σ : MS} {P : Nat → Nat → Int32} {p : Nat} : famH (sP σ P) p = famH σ p := rfl
theorem wPV_sP {σ : MS} {P : Nat → Nat → Int32} {np n p : Nat} (hnp : np < 12) (hO : witOK σ np n) (hpr : isN (σ.2.1 31 p) np ∧ isN (σ.2.1 32 p) np) (h29 : ∀ j, j < 12 * np → P 29 j = σ.2.1 29 j) (h9 : ∀ p c, p < np → c < 12 → p < c → σ.2.1 29 (12 * p + c) = 99) : wPV (sP σ P) (np + 1) n p = wPV σ np n p := by
  have e1 : yesH (sP σ P) (np + 1) n p = yesH σ np n p := funext (fun w => yes_sP (kin_sP2 hnp hO hpr h29 h9))
  have e2 : noH (sP σ P) (np + 1) n p = noH σ np n p := funext (fun w => no_sP (kin_sP2 hnp hO hpr h29 h9))
  have e3 : kinH (sP σ P) (np + 1) n p = kinH σ np n p := funext (fun w => ki_sP (kin_sP2 hnp hO hpr h29 h9))
  have e4 : (sP σ P).2.1 35 p = σ.2.1 35 p := rfl
  unfold wPV
  rw [e1, e2, e3, fam_sP, e4]
theorem wBV_sP {σ : MS} {P : Nat → Nat → Int32} {np n p : Nat} {e : Int32} (hnp : np < 12) (hpr : isN (σ.2.1 31 p) np ∧ isN (σ.2.1 32 p) np) (h29 : ∀ j, j < 12 * np → P 29 j = σ.2.1 29 j) (h28 : ∀ i, i < np → P 28 i = σ.2.1 28 i) (h9 : ∀ p c, p < np → c < 12 → p < c → σ.2.1 29 (12 * p + c) = 99) : wBV (sP σ P) (np + 1) n p e = wBV σ np n p e := by
  obtain ⟨⟨a, ha, ea⟩, ⟨b, hb, eb⟩⟩ := hpr
  have ey : yoV (sP σ P) p = yoV σ p := by
    show (if P 28 (σ.2.1 31 p).toNatClampNeg ≤ P 28 (σ.2.1 32 p).toNatClampNeg then P 28 (σ.2.1 32 p).toNatClampNeg else P 28 (σ.2.1 31 p).toNatClampNeg) = _
    rw [yoV, ea, eb, nI_clamp (by omega), nI_clamp (by omega), h28 a ha, h28 b hb]
  have ed : dgV ((sP σ P).2.1 29) (np + 1) ((sP σ P).2.1 31 p).toNatClampNeg ((sP σ P).2.1 32 p).toNatClampNeg = dgV (σ.2.1 29) np (σ.2.1 31 p).toNatClampNeg (σ.2.1 32 p).toNatClampNeg := by
    show dgV (P 29) (np + 1) (σ.2.1 31 p).toNatClampNeg (σ.2.1 32 p).toNatClampNeg = _
    rw [ea, eb, nI_clamp (by omega), nI_clamp (by omega)]
    exact dgV_new hnp ha hb h29 h9
  unfold wBV
  rw [ey, ed]
  rfl
theorem jAll_sP {σ : MS} {P : Nat → Nat → Int32} {np npr nl n : Nat} (h10 : npr ≤ 10) (hn : n ≤ 200) (hnp : np < 12) (hO : witOK σ np n) (hpr : ∀ p, p < npr → isN (σ.2.1 31 p) np ∧ isN (σ.2.1 32 p) np) (h29 : ∀ j, j < 12 * np → P 29 j = σ.2.1 29 j) (h28 : ∀ i, i < np → P 28 i = σ.2.1 28 i)
    (h9 : ∀ p c, p < np → c < 12 → p < c → σ.2.1 29 (12 * p + c) = 99) : EqR npr (jAll (sP σ P) (np + 1) npr nl n) (jAll σ np npr nl n) := by
  refine jAll_congr2 h10 rfl rfl (fun p hp => ⟨?_, rfl, rfl⟩) (fun p e hp => ?_) (fun R o k _ _ => rfl) (fun p e hp => ⟨rfl, rfl⟩)
  · have e1 : ∀ w, ruV (sP σ P) w (loP (sP σ P) nl p) 0 = ruV σ w (loP σ nl p) 0 := fun w => rfl
    unfold prV
    rw [e1, wPV_sP hnp hO (hpr p hp) h29 h9]
  · have e1 : ∀ w, ruV (sP σ P) w (loP (sP σ P) nl p) 1 = ruV σ w (loP σ nl p) 1 := fun w => rfl
    have e2 : deV (sP σ P) n p = deV σ n p := rfl
    unfold baV
    rw [e1, e2, wBV_sP hnp (hpr p hp) h29 h28 h9]
theorem IGo_pers {σ : MS} {np npr nf nl : Nat} {f m b : Int32} (h10 : npr ≤ 10) (hnf : nf ≤ 200) (hnp : np < 12) (hO : ∀ n, n ≤ nf → witOK σ np n) (hpr : ∀ p, p < npr → isN (σ.2.1 31 p) np ∧ isN (σ.2.1 32 p) np) (h9 : ∀ p c, p < np → c < 12 → p < c → σ.2.1 29 (12 * p + c) = 99) (hG : IGo np npr nf nl σ) : IGo (np + 1) npr nf nl (peM σ np f m b) := by
  rcases hG with e | ⟨n, hn, e, hE⟩
  · exact Or.inl e
  · refine Or.inr ⟨n, hn, e, ?_⟩
    have e1 : jAll (peM σ np f m b) (np + 1) npr nl n = jAll (sP σ (peM σ np f m b).2.1) (np + 1) npr nl n := jAll_rows2 (fun j hj => by
      show (peM σ np f m b).2.1 j = if 26 ≤ j ∧ j ≤ 29 then (peM σ np f m b).2.1 j else σ.2.1 j
      by_cases q : 26 ≤ j ∧ j ≤ 29
      · rw [if_pos q]
      · rw [if_neg q]
        show (if j = 29 then _ else if j = 28 then _ else if j = 27 then _ else if j = 26 then _ else σ.2.1 j) = σ.2.1 j
        rw [if_neg (by omega), if_neg (by omega), if_neg (by omega), if_neg (by omega)])
    rw [e1]
    refine EqR_trans ?_ (fun j q j1 j2 hq => (jAll_sP (P := (peM σ np f m b).2.1) h10 (by omega) hnp (hO n hn) hpr (fun j hj => ?_) (fun i hi => ?_) h9 j q j1 j2 hq).symm)
    · intro j q j1 j2 hq
      have : (peM σ np f m b).2.1 j = σ.2.1 j := by
        show (if j = 29 then _ else if j = 28 then _ else if j = 27 then _ else if j = 26 then _ else σ.2.1 j) = σ.2.1 j
        rw [if_neg (by omega), if_neg (by omega), if_neg (by omega), if_neg (by omega)]
      rw [this]
      exact hE j q j1 j2 hq
    · exact rowAt_lt hj
    · show upd (σ.2.1 28) np b i = _
      exact pk_un (by omega)
