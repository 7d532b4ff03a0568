/-! the text's TOKENS, and the class's way to them -/
def runF (p : Nat → Bool) : Nat → Nat → Nat
  | 0, i => i
  | d + 1, i => if p i = true then runF p d (i + 1) else i
def nxF (p : Nat → Bool) (n i : Nat) : Nat := runF p (n - i) i
theorem runF_ok (p : Nat → Bool) : ∀ d i, i ≤ runF p d i ∧ runF p d i ≤ i + d ∧ (∀ j, i ≤ j → j < runF p d i → p j = true) ∧ (runF p d i < i + d → p (runF p d i) = false) := by
  intro d
  induction d with
  | zero => intro i; exact ⟨Nat.le_refl _, Nat.le_refl _, fun j h1 h2 => absurd h2 (by rw [runF]; omega), fun h => absurd h (by rw [runF]; omega)⟩
  | succ d ih =>
    intro i
    rw [runF]
    by_cases c : p i = true
    · rw [if_pos c]
      obtain ⟨h1, h2, h3, h4⟩ := ih (i + 1)
      refine ⟨by omega, by omega, fun j j1 j2 => ?_, fun h => h4 (by omega)⟩
      by_cases e : j = i
      · rw [e]; exact c
      · exact h3 j (by omega) j2
    · rw [if_neg c]
      exact ⟨Nat.le_refl _, by omega, fun j h1 h2 => absurd h2 (by omega), fun _ => by simpa using c⟩
theorem nxF_ge (p : Nat → Bool) (n i : Nat) : i ≤ nxF p n i := (runF_ok p (n - i) i).1
theorem nxF_le {p : Nat → Bool} {n i : Nat} (h : i ≤ n) : nxF p n i ≤ n := by
  have := (runF_ok p (n - i) i).2.1
  unfold nxF
  omega
theorem nxF_in {p : Nat → Bool} {n i j : Nat} (h1 : i ≤ j) (h2 : j < nxF p n i) : p j = true := (runF_ok p (n - i) i).2.2.1 j h1 h2
theorem nxF_out {p : Nat → Bool} {n i : Nat} (h : i ≤ n) (h2 : nxF p n i < n) : p (nxF p n i) = false := (runF_ok p (n - i) i).2.2.2 (by unfold nxF at h2; omega)
theorem nxF_s {p : Nat → Bool} {n i : Nat} (h : i < n) (hp : p i = true) : nxF p n i = nxF p n (i + 1) := by
  unfold nxF
  rw [show n - i = (n - (i + 1)) + 1 by omega, runF, if_pos hp]
theorem nxF_x {p : Nat → Bool} {n i : Nat} (hp : p i = false) : nxF p n i = i := by
  unfold nxF
  cases h : n - i with
  | zero => rfl
  | succ d => rw [runF, if_neg (by rw [hp]; decide)]
theorem nxF_n {p : Nat → Bool} {n i : Nat} (h : n ≤ i) : nxF p n i = i := by
  unfold nxF
  rw [show n - i = 0 by omega]
  rfl
def blB (x : Int32) : Bool := decide (x = 9 ∨ x = 10 ∨ x = 13 ∨ x = 32)
def ltB (x : Int32) : Bool := decide (¬ x < 97 ∧ ¬ 122 < x)
def dgB (x : Int32) : Bool := decide (¬ x < 48 ∧ ¬ 57 < x)
/-- the words, each in its column -/
def chW (i : Nat) : Int32 := kWb.getD i 0 &&& 255
def allF (h : Nat → Bool) : Nat → Bool
  | 0 => true
  | i + 1 => allF h i && h i
def kwM (b : Nat → Int32) (s l w : Nat) : Bool := decide (l < 7) && (decide (chW (7 * w + l) = 32) && allF (fun i => decide (chW (7 * w + i) = b (s + i))) l)
def wdV (b : Nat → Int32) (s l : Nat) : Int32 := if fstF (kwM b s l) 20 0 = -1 then -2 else 10000 + fstF (kwM b s l) 20 0
def nvI (b : Nat → Int32) (s : Nat) : Nat → Int32
  | 0 => 0
  | i + 1 => nvI b s i * 10 + b (s + i) - 48
def sgT (x : Int32) (eq : Bool) : Int32 := if x = 40 then 10028 else if x = 41 then 10029 else if x = 42 then 10023 else if x = 43 then 10021 else if x = 45 then 10022 else if x = 59 then 10020 else if x = 33 then (if eq = true then 10025 else -2) else if x = 60 then (if eq = true then 10027 else 10026) else if x = 61 then (if eq = true then 10024 else -2) else -2
def sgL (x : Int32) (eq : Bool) : Nat := if eq = true ∧ (x = 33 ∨ x = 60 ∨ x = 61) then 2 else 1
def lxS (b : Nat → Int32) (n i : Nat) : Nat := nxF (fun j => blB (b j)) n i
def eqA (b : Nat → Int32) (n s : Nat) : Bool := decide (s + 1 < n ∧ b (s + 1) = 61)
def tkAt (b : Nat → Int32) (n s : Nat) : Int32 := if n ≤ s then -1 else if ltB (b s) = true then wdV b s (nxF (fun j => ltB (b j)) n s - s) else if dgB (b s) = true then (if nxF (fun j => dgB (b j)) n s - s ≤ 4 then nvI b s (nxF (fun j => dgB (b j)) n s - s) else -2) else sgT (b s) (eqA b n s)
def enAt (b : Nat → Int32) (n s : Nat) : Nat := if n ≤ s then s else if ltB (b s) = true then nxF (fun j => ltB (b j)) n s else if dgB (b s) = true then nxF (fun j => dgB (b j)) n s else s + sgL (b s) (eqA b n s)
def lxT (b : Nat → Int32) (n i : Nat) : Int32 := tkAt b n (lxS b n i)
def lxE (b : Nat → Int32) (n i : Nat) : Nat := enAt b n (lxS b n i)
theorem c2223 (σ : CS) (a b : Int32) : cF (cF σ 23 a) 22 b = cF (cF σ 22 b) 23 a := by
  have : va_up (va_up σ.1 23 a) 22 b = va_up (va_up σ.1 22 b) 23 a := by
    funext k
    show (if k = 22 then b else if k = 23 then a else σ.1 k) = (if k = 23 then a else if k = 22 then b else σ.1 k)
    by_cases e : k = 22
    · rw [if_pos e, if_neg (by omega), if_pos e]
    · rw [if_neg e, if_neg e]
  show (va_up (va_up σ.1 23 a) 22 b, σ.2) = _
  rw [this]
  rfl
theorem charAtC {σ : CS} {k : Nat} {Post : Int32 → CS → Prop} (hk : k < 140) (hP : Post (chW k) σ) : wpC_J0_charAt_5068e σ (nI k) Post := by
  have e : ∀ x : Int32, ((x &&& 255).toUInt32 % 65536).toInt32 = x &&& 255 := sc_c2
  refine ⟨fun q => absurd q no1, fun _ => ⟨fun _ => ⟨fun q => absurd q no1, fun _ => ?_⟩, fun q => absurd rfl q⟩⟩
  refine ⟨fun q => absurd q (nI_pos (by omega)), fun _ => ⟨fun _ => ⟨vp_in_nI hk (by omega), pk_nc _, ?_⟩, fun q => absurd (nI_lt (b := 140) hk (by omega)) q⟩⟩
  rw [nI_clamp (by omega)]
  refine ⟨pk_nc _, ?_⟩
  rw [e]
  exact hP
theorem isWordC {σ : CS} {b : Nat → Int32} {s l w : Nat} {Post : Int32 → CS → Prop} (hb : σ.2.1 2 = b) (hs : σ.1 22 = nI s) (hw : w < 20) (hl : s + l ≤ 2000) (hP : Post (b2 (kwM b s l w)) σ) : wpC_X9_isWord σ (nI (7 * w)) (nI l) Post := by
  refine ⟨fun c => ?_, fun c => ?_⟩
  · have c : 7 ≤ l := (nI_leI (a := 7) (by omega) (by omega)).mp c
    rw [kwM, decide_eq_false (by omega)] at hP
    exact hP
  · have c : l < 7 := Nat.not_le.mp (fun z => c (nI_le (a := 7) z (by omega)))
    rw [kwM, decide_eq_true c, Bool.true_and] at hP
    rw [nI_add]
    refine charAtC (by omega) ⟨fun c1 => ⟨l + 1, ?_⟩, fun c1 => ?_⟩
    · rw [decide_eq_true c1, Bool.true_and] at hP
      have e0 : ∀ t i, i + t = l → (allF (fun i => decide (chW (7 * w + i) = b (s + i))) i = true) → wpC_X9_isWord_23 Post (t + 1) σ (nI (7 * w)) (nI l) (nI i) := by
        intro t
        induction t with
        | zero =>
          intro i hi ha
          obtain rfl : i = l := by omega
          rw [ha] at hP
          exact ⟨fun _ => hP, fun q => absurd (Int32.le_refl _) q⟩
        | succ t ih =>
          intro i hi ha
          refine ⟨fun q => absurd q (nI_ge (by omega) (by omega)), fun _ => ?_⟩
          rw [nI_add]
          refine charAtC (by omega) ?_
          rw [hs, nI_add, nI_clamp (by omega), hb]
          refine ⟨vp_in_nI (by omega) (by omega), fun c2 => ?_, fun c2 => ?_⟩
          · rintro _ rfl
            rw [nI_1]
            refine ih (i + 1) (by omega) ?_
            rw [allF, ha, decide_eq_true c2]
            rfl
          · have : allF (fun i => decide (chW (7 * w + i) = b (s + i))) l = false := by
              have hm : ∀ k, k ≤ t → allF (fun i => decide (chW (7 * w + i) = b (s + i))) (i + 1 + k) = false := by
                intro k
                induction k with
                | zero => intro _; rw [Nat.add_zero, allF, decide_eq_false c2, Bool.and_false]
                | succ k ihk => intro hk; rw [← Nat.add_assoc, allF, ihk (by omega), Bool.false_and]
              have := hm t (Nat.le_refl _)
              rw [show i + 1 + t = l by omega] at this
              exact this
            rw [this] at hP
            exact hP
      exact e0 l 0 (by omega) rfl
    · rw [decide_eq_false c1] at hP
      exact hP
theorem wordC {σ : CS} {b : Nat → Int32} {n s : Nat} {Post : Int32 → CS → Prop} (hb : σ.2.1 2 = b) (hn : n ≤ 2000) (h21 : σ.1 21 = nI n) (hs : s ≤ n) (hP : Post (wdV b s (nxF (fun j => ltB (b j)) n s - s)) (cF (cF σ 22 (nI s)) 23 (nI (nxF (fun j => ltB (b j)) n s)))) : wpC_X9_word (cF (cF σ 22 (nI s)) 23 (nI s)) Post := by
  have hge := nxF_ge (fun j => ltB (b j)) n s
  have hle := nxF_le (p := fun j => ltB (b j)) hs
  -- which word
  have h39 : wpC_X9_word_39 Post (cF (cF σ 22 (nI s)) 23 (nI (nxF (fun j => ltB (b j)) n s))) := by
    generalize nxF (fun j => ltB (b j)) n s = e at *
    refine ⟨21, ?_⟩
    have hl : ∀ t w, w + t = 20 → fstF (kwM b s (e - s)) t w = fstF (kwM b s (e - s)) 20 0 → wpC_X9_word_41 Post (t + 1) (cF (cF σ 22 (nI s)) 23 (nI e)) (nI w) := by
      intro t
      induction t with
      | zero =>
        intro w hw hf
        obtain rfl : w = 20 := by omega
        rw [wdV, if_pos (show fstF (kwM b s (e - s)) 20 0 = -1 from hf.symm)] at hP
        exact ⟨fun _ => hP, fun q => absurd (by decide) q⟩
      | succ t ih =>
        intro w hw hf
        rw [fstF] at hf
        refine ⟨fun q => absurd q (nI_ge (b := 20) (by omega) (by omega)), fun _ => ?_⟩
        have e7 : nI w * 7 = nI (7 * w) := by
          rw [show (7 : Int32) = nI 7 from rfl, pk_mul, Nat.mul_comm]
        have el : (cF (cF σ 22 (nI s)) 23 (nI e)).1 23 - (cF (cF σ 22 (nI s)) 23 (nI e)).1 22 = nI (e - s) := pk_sub hge
        rw [e7, el]
        refine isWordC hb rfl (by omega) (by omega) ⟨fun c => ?_, fun c => ?_⟩
        · rintro _ rfl
          rw [nI_1]
          rw [if_neg (by rw [(b2_0 _).mp c]; decide)] at hf
          exact ih (w + 1) (by omega) hf
        · have q : kwM b s (e - s) w = true := by
            cases hh : kwM b s (e - s) w with
            | true => rfl
            | false => exact absurd ((b2_0 _).mpr hh) c
          rw [if_pos q] at hf
          rw [wdV, ← hf, if_neg (nI_nm1 (by omega))] at hP
          exact hP
    exact hl 20 0 (by omega) rfl
  have hl : ∀ t i, i + t = n → s ≤ i → nxF (fun j => ltB (b j)) n i = nxF (fun j => ltB (b j)) n s → wpC_X9_word_0 Post (t + 1) (cF (cF σ 22 (nI s)) 23 (nI i)) := by
    intro t
    induction t with
    | zero =>
      intro i hi hsi he
      obtain rfl : i = n := by omega
      rw [nxF_n (Nat.le_refl _)] at he
      rw [← he] at h39
      refine ⟨fun _ => h39, fun q => absurd ?_ q⟩
      show σ.1 21 ≤ nI i
      rw [h21]
      exact Int32.le_refl _
    | succ t ih =>
      intro i hi hsi he
      refine ⟨fun q => ?_, fun _ => ⟨vp_in_nI (n := i) (by omega) (by omega), ?_⟩⟩
      · have q : σ.1 21 ≤ nI i := q
        rw [h21] at q
        exact absurd q (nI_ge (by omega) (by omega))
      · have eb : (cF (cF σ 22 (nI s)) 23 (nI i)).2.1 2 ((cF (cF σ 22 (nI s)) 23 (nI i)).1 23).toNatClampNeg = b i := by
          show σ.2.1 2 (nI i).toNatClampNeg = b i
          rw [nI_clamp (by omega), hb]
        rw [eb]
        have stop : ltB (b i) = false → wpC_X9_word_39 Post (cF (cF σ 22 (nI s)) 23 (nI i)) := by
          intro c
          have : nxF (fun j => ltB (b j)) n i = i := nxF_x c
          rw [this] at he
          rw [← he] at h39
          exact h39
        refine ⟨fun c => ⟨fun _ => stop ?_, fun q => absurd rfl q⟩, fun c => ⟨fun c2 => ⟨fun _ => stop ?_, fun q => absurd rfl q⟩, fun c2 => ⟨fun q => absurd q no1, fun _ => ?_⟩⟩⟩
        · rw [ltB, decide_eq_false (fun z => z.1 c)]
        · rw [ltB, decide_eq_false (fun z => z.2 c2)]
        · rintro _ rfl
          rw [cF_same]
          have e1 : (cF (cF σ 22 (nI s)) 23 (nI i)).1 23 + 1 = nI (i + 1) := nI_1 i
          rw [e1]
          refine ih (i + 1) (by omega) (by omega) ?_
          rw [← he]
          exact (nxF_s (by omega) (by show ltB (b i) = true; rw [ltB, decide_eq_true ⟨c, c2⟩])).symm
  exact ⟨n - s + 1, hl (n - s) s (by omega) (Nat.le_refl _) rfl⟩
theorem numberC {σ : CS} {b : Nat → Int32} {n s : Nat} {Post : Int32 → CS → Prop} (hb : σ.2.1 2 = b) (hn : n ≤ 2000) (h21 : σ.1 21 = nI n) (hs : s ≤ n) (hP : Post (if nxF (fun j => dgB (b j)) n s - s ≤ 4 then nvI b s (nxF (fun j => dgB (b j)) n s - s) else -2) (cF (cF σ 22 (nI s)) 23 (nI (nxF (fun j => dgB (b j)) n s)))) : wpC_X9_number (cF (cF σ 22 (nI s)) 23 (nI s)) Post := by
  have hge := nxF_ge (fun j => dgB (b j)) n s
  have hle := nxF_le (p := fun j => dgB (b j)) hs
  have h59 : wpC_X9_number_59 Post (cF (cF σ 22 (nI s)) 23 (nI (nxF (fun j => dgB (b j)) n s))) (nvI b s (nxF (fun j => dgB (b j)) n s - s)) := by
    generalize nxF (fun j => dgB (b j)) n s = e at *
    have el : (cF (cF σ 22 (nI s)) 23 (nI e)).1 23 - (cF (cF σ 22 (nI s)) 23 (nI e)).1 22 = nI (e - s) := pk_sub hge
    unfold wpC_X9_number_59
    rw [el]
    refine ⟨fun c => ?_, fun c => ?_⟩
    · rw [if_pos ((nI_leI (b := 4) (by omega) (by omega)).mp c)] at hP; exact hP
    · rw [if_neg (fun z => c (nI_le (b := 4) z (by omega)))] at hP; exact hP
  have hl : ∀ t i, i + t = n → s ≤ i → nxF (fun j => dgB (b j)) n i = nxF (fun j => dgB (b j)) n s → wpC_X9_number_2 Post (t + 1) (cF (cF σ 22 (nI s)) 23 (nI i)) (nvI b s (i - s)) := by
    intro t
    induction t with
    | zero =>
      intro i hi hsi he
      obtain rfl : i = n := by omega
      rw [nxF_n (Nat.le_refl _)] at he
      rw [← he] at h59
      refine ⟨fun _ => h59, fun q => absurd ?_ q⟩
      show σ.1 21 ≤ nI i
      rw [h21]
      exact Int32.le_refl _
    | succ t ih =>
      intro i hi hsi he
      refine ⟨fun q => ?_, fun _ => ⟨vp_in_nI (n := i) (by omega) (by omega), ?_⟩⟩
      · have q : σ.1 21 ≤ nI i := q
        rw [h21] at q
        exact absurd q (nI_ge (by omega) (by omega))
      · have eb : (cF (cF σ 22 (nI s)) 23 (nI i)).2.1 2 ((cF (cF σ 22 (nI s)) 23 (nI i)).1 23).toNatClampNeg = b i := by
          show σ.2.1 2 (nI i).toNatClampNeg = b i
          rw [nI_clamp (by omega), hb]
        have stop : dgB (b i) = false → wpC_X9_number_59 Post (cF (cF σ 22 (nI s)) 23 (nI i)) (nvI b s (i - s)) := by
          intro c
          have : nxF (fun j => dgB (b j)) n i = i := nxF_x c
          rw [this] at he
          rw [← he] at h59
          exact h59
        rw [eb]
        refine ⟨fun c => ⟨fun _ => stop ?_, fun q => absurd rfl q⟩, fun c => ⟨fun c2 => ⟨fun _ => stop ?_, fun q => absurd rfl q⟩, fun c2 => ⟨fun q => absurd q no1, fun _ => ⟨vp_in_nI (n := i) (by omega) (by omega), ?_⟩⟩⟩⟩
        · rw [dgB, decide_eq_false (fun z => z.1 c)]
        · rw [dgB, decide_eq_false (fun z => z.2 c2)]
        · rw [eb]
          rintro _ rfl _ rfl
          rw [cF_same]
          have e1 : (cF (cF σ 22 (nI s)) 23 (nI i)).1 23 + 1 = nI (i + 1) := nI_1 i
          rw [e1]
          have e2 : nvI b s (i - s) * 10 + b i - 48 = nvI b s (i + 1 - s) := by
            rw [show i + 1 - s = (i - s) + 1 by omega, nvI, show s + (i - s) = i by omega]
          rw [e2]
          refine ih (i + 1) (by omega) (by omega) ?_
          rw [← he]
          exact (nxF_s (by omega) (by show dgB (b i) = true; rw [dgB, decide_eq_true ⟨c, c2⟩])).symm
  have h0 := hl (n - s) s (by omega) (Nat.le_refl _) rfl
  rw [Nat.sub_self] at h0
  exact ⟨n - s + 1, h0⟩
theorem signC {σ : CS} {b : Nat → Int32} {n s : Nat} {Post : Int32 → CS → Prop} (hb : σ.2.1 2 = b) (hn : n ≤ 2000) (h21 : σ.1 21 = nI n) (hs : s < n) (hP : ∀ e, (¬ sgT (b s) (eqA b n s) = -2 → e = s + sgL (b s) (eqA b n s)) → Post (sgT (b s) (eqA b n s)) (cF (cF σ 22 (nI s)) 23 (nI e))) : wpC_X9_sign (cF (cF σ 22 (nI s)) 23 (nI s)) (b s) Post := by
  intro σ1 e1
  have e1 : σ1 = cF (cF σ 22 (nI s)) 23 (nI (s + 1)) := by
    rw [e1, cF_same]
    exact congrArg _ (nI_1 s)
  subst e1
  have one : ∀ t, sgT (b s) (eqA b n s) = t → sgL (b s) (eqA b n s) = 1 → Post t (cF (cF σ 22 (nI s)) 23 (nI (s + 1))) := by
    intro t et el
    have := hP (s + 1) (fun _ => by rw [el])
    rw [et] at this
    exact this
  have kx : ∀ x : Int32, b s = x → ¬ x = 33 → ¬ x = 60 → ¬ x = 61 → sgL (b s) (eqA b n s) = 1 := by
    intro x ex h1 h2 h3
    rw [sgL, ex, if_neg]
    rintro ⟨_, q | q | q⟩
    · exact h1 q
    · exact h2 q
    · exact h3 q
  refine ⟨fun c => one _ (by rw [c]; rfl) (kx _ c (by decide) (by decide) (by decide)), fun c => one _ (by rw [c]; rfl) (kx _ c (by decide) (by decide) (by decide)), fun c => one _ (by rw [c]; rfl) (kx _ c (by decide) (by decide) (by decide)), fun c => one _ (by rw [c]; rfl) (kx _ c (by decide) (by decide) (by decide)), fun c => one _ (by rw [c]; rfl) (kx _ c (by decide) (by decide) (by decide)), fun c => one _ (by rw [c]; rfl) (kx _ c (by decide) (by decide) (by decide)), fun c => ?_⟩
  obtain ⟨n1, n2, n3, n4, n5, n6⟩ := c
  have es : sgT (b s) (eqA b n s) = if b s = 33 then (if eqA b n s = true then 10025 else -2) else if b s = 60 then (if eqA b n s = true then 10027 else 10026) else if b s = 61 then (if eqA b n s = true then 10024 else -2) else -2 := by
    rw [sgT, if_neg n1, if_neg n2, if_neg n3, if_neg n4, if_neg n5, if_neg n6]
  have h45 : ∀ (t : Int32) (e : Nat), (t = 0 ↔ eqA b n s = false) → e = (if eqA b n s = true then s + 2 else s + 1) → wpC_X9_relation_45 Post (cF (cF σ 22 (nI s)) 23 (nI e)) (b s) t := by
    intro t e ht he
    have fin : ∀ r, sgT (b s) (eqA b n s) = r → (¬ r = -2 → (b s = 33 ∨ b s = 60 ∨ b s = 61)) → Post r (cF (cF σ 22 (nI s)) 23 (nI e)) := by
      intro r er hr
      have := hP e (fun q => ?_)
      · rw [er] at this; exact this
      · rw [er] at q
        have hx := hr q
        rw [he, sgL]
        by_cases cq : eqA b n s = true
        · rw [if_pos cq, if_pos ⟨cq, hx⟩]
        · rw [if_neg cq, if_neg (fun z => cq z.1)]
    refine ⟨fun c => ⟨fun c2 => fin _ ?_ (fun _ => Or.inl c), fun c2 => fin _ ?_ (fun _ => Or.inl c)⟩, fun c => ⟨fun c2 => fin _ ?_ (fun _ => Or.inr (Or.inl c)), fun c2 => fin _ ?_ (fun _ => Or.inr (Or.inl c))⟩, fun c => ⟨fun c2 => fin _ ?_ (fun _ => Or.inr (Or.inr c)), fun c2 => fin _ ?_ (fun _ => Or.inr (Or.inr c))⟩, fun c => fin _ ?_ (fun q => absurd rfl q)⟩
    · rw [es, if_pos c, if_neg (by rw [ht.mp c2]; decide)]
    · rw [es, if_pos c, if_pos (by simpa using fun z => c2 (ht.mpr z))]
    · rw [es, if_neg (by rw [c]; decide), if_pos c, if_neg (by rw [ht.mp c2]; decide)]
    · rw [es, if_neg (by rw [c]; decide), if_pos c, if_pos (by simpa using fun z => c2 (ht.mpr z))]
    · rw [es, if_neg (by rw [c]; decide), if_neg (by rw [c]; decide), if_pos c, if_neg (by rw [ht.mp c2]; decide)]
    · rw [es, if_neg (by rw [c]; decide), if_neg (by rw [c]; decide), if_pos c, if_pos (by simpa using fun z => c2 (ht.mpr z))]
    · rw [es, if_neg c.1, if_neg c.2.1, if_neg c.2.2]
  have h29 : eqA b n s = false → wpC_X9_relation_29 Post (cF (cF σ 22 (nI s)) 23 (nI (s + 1))) (b s) := by
    intro q
    exact ⟨fun _ => h45 0 (s + 1) ⟨fun _ => q, fun _ => rfl⟩ (by rw [q]; rfl), fun z => absurd rfl z⟩
  refine ⟨fun c => h29 ?_, fun c => ⟨vp_in_nI (n := s + 1) ?_ (by omega), fun c2 => ?_, fun c2 => h29 ?_⟩⟩
  · have c : σ.1 21 ≤ nI (s + 1) := c
    rw [h21, nI_leI (by omega) (by omega)] at c
    rw [eqA, decide_eq_false (fun z => absurd z.1 (by omega))]
  · have c : ¬ σ.1 21 ≤ nI (s + 1) := c
    rw [h21, nI_leI (by omega) (by omega)] at c
    omega
  · have c : ¬ σ.1 21 ≤ nI (s + 1) := c
    rw [h21, nI_leI (by omega) (by omega)] at c
    have c2 : σ.2.1 2 (nI (s + 1)).toNatClampNeg = 61 := c2
    rw [nI_clamp (by omega), hb] at c2
    have q : eqA b n s = true := decide_eq_true ⟨by omega, c2⟩
    refine ⟨fun z => absurd z no1, fun _ => ?_⟩
    rintro _ rfl
    rw [cF_same]
    have e1 : (cF (cF σ 22 (nI s)) 23 (nI (s + 1))).1 23 + 1 = nI (s + 2) := nI_1 (s + 1)
    rw [e1]
    exact h45 1 (s + 2) ⟨fun z => absurd z no1, fun z => absurd (q.symm.trans z) (by decide)⟩ (by rw [q]; rfl)
  · have c2 : ¬ σ.2.1 2 (nI (s + 1)).toNatClampNeg = 61 := c2
    rw [nI_clamp (by omega), hb] at c2
    rw [eqA, decide_eq_false (fun z => c2 z.2)]
theorem tokenC {σ : CS} {b : Nat → Int32} {n i : Nat} {Post : Int32 → CS → Prop} (hb : σ.2.1 2 = b) (hn : n ≤ 2000) (h21 : σ.1 21 = nI n) (h23 : σ.1 23 = nI i) (hi : i ≤ n) (hP : ∀ e, (¬ lxT b n i = -2 → e = lxE b n i) → Post (lxT b n i) (cF (cF σ 22 (nI (lxS b n i))) 23 (nI e))) : wpC_X9_token σ Post := by
  have hge := nxF_ge (fun j => blB (b j)) n i
  have hle := nxF_le (p := fun j => blB (b j)) hi
  unfold lxT lxE lxS at hP
  have h39 : wpC_X9_token_39 Post (cF σ 23 (nI (nxF (fun j => blB (b j)) n i))) := by
    generalize nxF (fun j => blB (b j)) n i = s at *
    rintro _ rfl
    rw [c2223]
    have e22 : (cF σ 23 (nI s)).1 23 = nI s := rfl
    rw [e22]
    refine ⟨fun c => ?_, fun c => ?_⟩
    · have c : nI s < σ.1 21 := c
      rw [h21, nI_ltI (by omega) (by omega)] at c
      have eb : (cF (cF σ 22 (nI s)) 23 (nI s)).2.1 2 ((cF (cF σ 22 (nI s)) 23 (nI s)).1 22).toNatClampNeg = b s := by
        show σ.2.1 2 (nI s).toNatClampNeg = b s
        rw [nI_clamp (by omega), hb]
      have hv : vp_in ((cF (cF σ 22 (nI s)) 23 (nI s)).1 22) 2000 := vp_in_nI (n := s) (by omega) (by omega)
      unfold tkAt enAt at hP
      have hns : ¬ n ≤ s := by omega
      simp only [if_neg hns] at hP
      -- no letter
      have nl : ltB (b s) = false → wpC_X9_isDigit (cF (cF σ 22 (nI s)) 23 (nI s)) (b s) (fun r8 σ9 => (r8 = 0 → vp_in (σ9.1 22) 2000 ∧ wpC_X9_sign σ9 (σ9.2.1 2 (σ9.1 22).toNatClampNeg) (fun r12 σ13 => Post r12 σ13)) ∧ (¬ r8 = 0 → wpC_X9_number σ9 (fun r14 σ15 => Post r14 σ15))) := by
        intro q
        have q' : ¬ ltB (b s) = true := by rw [q]; decide
        simp only [if_neg q'] at hP
        have nd : dgB (b s) = false → wpC_X9_sign (cF (cF σ 22 (nI s)) 23 (nI s)) (b s) (fun r12 σ13 => Post r12 σ13) := by
          intro q2
          have q2' : ¬ dgB (b s) = true := by rw [q2]; decide
          simp only [if_neg q2'] at hP
          exact signC hb hn h21 c hP
        refine ⟨fun d1 => ⟨fun _ => ⟨hv, ?_⟩, fun z => absurd rfl z⟩, fun d1 => ⟨fun d2 => ⟨fun _ => ⟨hv, ?_⟩, fun z => absurd rfl z⟩, fun d2 => ⟨fun z => absurd z no1, fun _ => ?_⟩⟩⟩
        · rw [eb]; exact nd (by rw [dgB, decide_eq_false (fun z => z.1 d1)])
        · rw [eb]; exact nd (by rw [dgB, decide_eq_false (fun z => z.2 d2)])
        · have q2 : dgB (b s) = true := decide_eq_true ⟨d1, d2⟩
          simp only [if_pos q2] at hP
          exact numberC hb hn h21 (by omega) (hP _ (fun _ => rfl))
      refine ⟨hv, ?_⟩
      rw [eb]
      refine ⟨fun d1 => ⟨fun _ => ⟨hv, ?_⟩, fun z => absurd rfl z⟩, fun d1 => ⟨fun d2 => ⟨fun _ => ⟨hv, ?_⟩, fun z => absurd rfl z⟩, fun d2 => ⟨fun z => absurd z no1, fun _ => ?_⟩⟩⟩
      · rw [eb]; exact nl (by rw [ltB, decide_eq_false (fun z => z.1 d1)])
      · rw [eb]; exact nl (by rw [ltB, decide_eq_false (fun z => z.2 d2)])
      · have q : ltB (b s) = true := decide_eq_true ⟨d1, d2⟩
        simp only [if_pos q] at hP
        exact wordC hb hn h21 (by omega) (hP _ (fun _ => rfl))
    · have c : ¬ nI s < σ.1 21 := c
      rw [h21, nI_ltI (by omega) (by omega)] at c
      have := hP s (fun _ => by rw [enAt, if_pos (by omega)])
      rw [tkAt, if_pos (by omega)] at this
      exact this
  have hl : ∀ t k, k + t = n → nxF (fun j => blB (b j)) n k = nxF (fun j => blB (b j)) n i → wpC_X9_token_0 Post (t + 1) (cF σ 23 (nI k)) := by
    intro t
    induction t with
    | zero =>
      intro k hk he
      obtain rfl : k = n := by omega
      rw [nxF_n (Nat.le_refl _)] at he
      rw [← he] at h39
      refine ⟨fun _ => h39, fun q => absurd ?_ q⟩
      show σ.1 21 ≤ nI k
      rw [h21]
      exact Int32.le_refl _
    | succ t ih =>
      intro k hk he
      refine ⟨fun q => ?_, fun _ => ⟨vp_in_nI (n := k) (by omega) (by omega), ?_⟩⟩
      · have q : σ.1 21 ≤ nI k := q
        rw [h21] at q
        exact absurd q (nI_ge (by omega) (by omega))
      · have eb : (cF σ 23 (nI k)).2.1 2 ((cF σ 23 (nI k)).1 23).toNatClampNeg = b k := by
          show σ.2.1 2 (nI k).toNatClampNeg = b k
          rw [nI_clamp (by omega), hb]
        rw [eb]
        have go : blB (b k) = true → ((1 : Int32) = 0 → wpC_X9_token_39 Post (cF σ 23 (nI k))) ∧ (¬ (1 : Int32) = 0 → ∀ σ6 : CS, σ6 = cF (cF σ 23 (nI k)) 23 ((cF σ 23 (nI k)).1 23 + 1) → wpC_X9_token_0 Post (t + 1) σ6) := by
          intro c
          refine ⟨fun z => absurd z no1, fun _ => ?_⟩
          rintro _ rfl
          rw [cF_same]
          have e1 : (cF σ 23 (nI k)).1 23 + 1 = nI (k + 1) := nI_1 k
          rw [e1]
          refine ih (k + 1) (by omega) ?_
          rw [← he]
          exact (nxF_s (by omega) c).symm
        refine ⟨fun c => go (decide_eq_true (Or.inl c)), fun c => ⟨fun c2 => go (decide_eq_true (Or.inr (Or.inl c2))), fun c2 => ⟨fun c3 => go (decide_eq_true (Or.inr (Or.inr (Or.inl c3)))), fun c3 => ⟨fun c4 => go (decide_eq_true (Or.inr (Or.inr (Or.inr c4)))), fun c4 => ⟨fun _ => ?_, fun q => absurd rfl q⟩⟩⟩⟩⟩
        have cb : blB (b k) = false := by
          rw [blB, decide_eq_false]
          rintro (z | z | z | z)
          · exact c z
          · exact c2 z
          · exact c3 z
          · exact c4 z
        have : nxF (fun j => blB (b j)) n k = k := nxF_x cb
        rw [this] at he
        rw [← he] at h39
        exact h39
  have e0 : cF σ 23 (nI i) = σ := by rw [← h23]; exact cF_self σ 23
  have h0 := hl (n - i) i (by omega) rfl
  rw [e0] at h0
  exact ⟨n - i + 1, h0⟩
