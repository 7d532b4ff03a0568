/-! words and their numbers; bytes -/
theorem sb_all : ∀ j, j < 256 → (j < 128 → sb_b j = nI j) ∧ (128 ≤ j → sb_b j < 0) := by decide +kernel
theorem by_cases255 {x : Int32} (h : isB x) : (¬ x < 0 ∧ x &&& 255 = x) ∨ (x < 0 ∧ 127 < x &&& 255) := by
  obtain ⟨j, hj, ej⟩ := pk_andE x (m := 255) 8 (by decide)
  have ex : x = sb_b j := (sc_eq h (by omega)).mpr ej
  have hs := sb_all j (by omega)
  by_cases c : j < 128
  · refine Or.inl ⟨?_, ?_⟩
    · rw [ex, hs.1 c]; exact nI_pos (by omega)
    · rw [ej, ex, hs.1 c]
  · refine Or.inr ⟨?_, ?_⟩
    · rw [ex]; exact hs.2 (by omega)
    · rw [ej]; exact nI_lt (a := 127) (by omega) (by omega)
theorem lt255 {x : Int32} (h : isB x) : (¬ (x &&& 255) < 97 ∧ ¬ 122 < (x &&& 255)) ↔ ltB x = true := by
  rw [ltB, decide_eq_true_eq]
  rcases by_cases255 h with ⟨h1, h2⟩ | ⟨h1, h2⟩
  · rw [h2]
  · generalize x &&& 255 = y at h2
    constructor <;> intro h <;> grind
theorem dg255 {x : Int32} (h : isB x) : (¬ (x &&& 255) < 48 ∧ ¬ 57 < (x &&& 255)) ↔ dgB x = true := by
  rw [dgB, decide_eq_true_eq]
  rcases by_cases255 h with ⟨h1, h2⟩ | ⟨h1, h2⟩
  · rw [h2]
  · generalize x &&& 255 = y at h2
    constructor <;> intro h <;> grind
theorem eq255 {x : Int32} (h : isB x) {c : Int32} (hc : ¬ c < 0) (hc2 : ¬ 127 < c) : (x &&& 255) = c ↔ x = c := by
  rcases by_cases255 h with ⟨h1, h2⟩ | ⟨h1, h2⟩
  · rw [h2]
  · generalize x &&& 255 = y at h2
    constructor <;> intro h <;> grind
def nmG (f : Nat → Nat) : Nat → Nat
  | 0 => 0
  | i + 1 => 27 * nmG f i + (f i - 96)
theorem nmG_inj {f g : Nat → Nat} : ∀ i j, (∀ t, t < i → 97 ≤ f t ∧ f t ≤ 122) → (∀ t, t < j → 97 ≤ g t ∧ g t ≤ 122) → nmG f i = nmG g j → i = j ∧ ∀ t, t < i → f t = g t := by
  intro i
  induction i with
  | zero =>
    intro j _ hg e
    cases j with
    | zero => exact ⟨rfl, fun t ht => absurd ht (by omega)⟩
    | succ j =>
      rw [nmG, nmG] at e
      have := hg j (by omega)
      omega
  | succ i ih =>
    intro j hf hg e
    cases j with
    | zero =>
      rw [nmG, nmG] at e
      have := hf i (by omega)
      omega
    | succ j =>
      rw [nmG, nmG] at e
      have h1 := hf i (by omega)
      have h2 := hg j (by omega)
      have e1 : nmG f i = nmG g j := by omega
      have e2 : f i = g j := by omega
      obtain ⟨hij, hall⟩ := ih j (fun t ht => hf t (by omega)) (fun t ht => hg t (by omega)) e1
      subst hij
      refine ⟨rfl, fun t ht => ?_⟩
      by_cases q : t = i
      · rw [q]; exact e2
      · exact hall t (by omega)
theorem nmG_lt {f : Nat → Nat} : ∀ i, (∀ t, t < i → 97 ≤ f t ∧ f t ≤ 122) → nmG f i < 27 ^ i := by
  intro i
  induction i with
  | zero => intro _; rw [nmG]; decide
  | succ i ih =>
    intro hf
    have h1 := ih (fun t ht => hf t (by omega))
    have h2 := hf i (by omega)
    rw [nmG, Nat.pow_succ]
    omega
def kwL (k : Nat) : Nat := ([5, 3, 4, 5, 4, 2, 2, 3, 3, 2, 3, 4, 5, 3, 6, 3, 5, 3, 3, 4] : List Nat).getD k 0
def kyN (k : Nat) : Nat := ([8868696, 1503, 311436, 6409157, 40187, 249, 423, 1111, 18379, 393, 8276, 119183, 10737959, 923, 60203876, 16466, 6477035, 11263, 17008, 80155] : List Nat).getD k 0
def chN (k t : Nat) : Nat := (chW (7 * k + t)).toNatClampNeg
theorem kw_tab : ∀ k, k < 20 → kwL k < 7 ∧ kyN k = nmG (chN k) (kwL k) ∧ keyV k = lN (kyN k) ∧ kyN k < 60203877 := by decide +kernel
theorem kw_ch : ∀ k, k < 20 → ∀ t, t < 7 → (t < kwL k → 97 ≤ chN k t ∧ chN k t ≤ 122 ∧ chW (7 * k + t) = nI (chN k t)) ∧ (¬ t < kwL k → chW (7 * k + t) = 32) := by decide +kernel
theorem allF_iff (h : Nat → Bool) (n : Nat) : allF h n = true ↔ ∀ i, i < n → h i = true := by
  induction n with
  | zero => exact ⟨fun _ i hi => absurd hi (by omega), fun _ => rfl⟩
  | succ n ih =>
    rw [allF, Bool.and_eq_true, ih]
    constructor
    · rintro ⟨h1, h2⟩ i hi
      by_cases e : i = n
      · rw [e]; exact h2
      · exact h1 i (by omega)
    · intro h1
      exact ⟨fun i hi => h1 i (by omega), h1 n (by omega)⟩
theorem lN_inj {a b : Nat} (ha : a < 2 ^ 62) (hb : b < 2 ^ 62) : lN a = lN b ↔ a = b := by
  constructor
  · intro h
    have h1 : (lN a).toInt = (a : Int) := lg_ofNat_toInt (by omega)
    have h2 : (lN b).toInt = (b : Int) := lg_ofNat_toInt (by omega)
    rw [h, h2] at h1
    omega
  · intro h; rw [h]
/-- letters from s on -/
def ltN (b : Nat → Int32) (s : Nat) : Nat → Nat := fun i => (b (s + i)).toNatClampNeg
theorem lt_nI {x : Int32} (h : ltB x = true) : 97 ≤ x.toNatClampNeg ∧ x.toNatClampNeg ≤ 122 ∧ x = nI x.toNatClampNeg := by
  have h := of_decide_eq_true h
  have c0 : ¬ x < 0 := by
    have := h.1
    generalize x = y at this
    grind
  obtain ⟨k, hk, rfl⟩ := nI_of c0
  rw [nI_clamp hk]
  refine ⟨?_, ?_, rfl⟩
  · exact Nat.not_lt.mp (fun z => h.1 (nI_lt (b := 97) z (by omega)))
  · exact Nat.not_lt.mp (fun z => h.2 (nI_lt (a := 122) z hk))
theorem kw_a {b : Nat → Int32} {s l k : Nat} (hl : l ≤ 7) (hk : k < 20) (hb : ∀ i, i < l → ltB (b (s + i)) = true) : kwM b s l k = true ↔ kwL k = l ∧ ∀ t, t < l → chN k t = ltN b s t := by
  have t1 := (kw_tab k hk).1
  rw [kwM, Bool.and_eq_true, Bool.and_eq_true, decide_eq_true_eq, decide_eq_true_eq, allF_iff]
  constructor
  · rintro ⟨h1, h2, h3⟩
    have h3 : ∀ i, i < l → chW (7 * k + i) = b (s + i) := fun i hi => of_decide_eq_true (h3 i hi)
    have e : kwL k = l := by
      rcases Nat.lt_trichotomy (kwL k) l with q | q | q
      · have a1 := h3 (kwL k) q
        have a2 := (kw_ch k hk (kwL k) t1).2 (by omega)
        have a3 := hb (kwL k) q
        rw [← a1, a2] at a3
        exact absurd a3 (by decide)
      · exact q
      · have a1 := ((kw_ch k hk l h1).1 q)
        rw [a1.2.2] at h2
        have := (nI_eq (a := chN k l) (b := 32) (by omega) (by omega)).mp h2
        omega
    refine ⟨e, fun t ht => ?_⟩
    show (chW (7 * k + t)).toNatClampNeg = (b (s + t)).toNatClampNeg
    rw [h3 t ht]
  · rintro ⟨e, h3⟩
    refine ⟨by omega, (kw_ch k hk l (by omega)).2 (by omega), fun i hi => decide_eq_true ?_⟩
    have a1 := ((kw_ch k hk i (by omega)).1 (by omega)).2.2
    rw [a1, h3 i hi]
    exact ((lt_nI (hb i hi)).2.2).symm
theorem kw_b {f : Nat → Nat} {l k : Nat} (hk : k < 20) (hd : ∀ t, t < l → 97 ≤ f t ∧ f t ≤ 122) : kyN k = nmG f l ↔ kwL k = l ∧ ∀ t, t < l → chN k t = f t := by
  obtain ⟨t1, t2, _⟩ := kw_tab k hk
  have hc : ∀ t, t < kwL k → 97 ≤ chN k t ∧ chN k t ≤ 122 := fun t ht => ⟨((kw_ch k hk t (by omega)).1 ht).1, ((kw_ch k hk t (by omega)).1 ht).2.1⟩
  rw [t2]
  constructor
  · intro h
    obtain ⟨e, ha⟩ := nmG_inj _ _ hc hd h
    exact ⟨e, fun t ht => ha t (by omega)⟩
  · rintro ⟨e, ha⟩
    rw [e]
    have : ∀ m, m ≤ l → nmG (chN k) m = nmG f m := by
      intro m
      induction m with
      | zero => intro _; rfl
      | succ m ih => intro hm; rw [nmG, nmG, ih (by omega), ha m (by omega)]
    exact this l (Nat.le_refl _)
theorem p277 : (27 : Nat) ^ 7 = 10460353203 := rfl
theorem nmG_lt7 {f : Nat → Nat} {l : Nat} (hl : l ≤ 7) (hd : ∀ t, t < l → 97 ≤ f t ∧ f t ≤ 122) : nmG f l < 10460353203 := by
  have h1 := nmG_lt l hd
  have h2 : 27 ^ l ≤ 27 ^ 7 := Nat.pow_le_pow_right (by omega) hl
  rw [p277] at h2
  exact Nat.lt_of_lt_of_le h1 h2
theorem lN_inj2 {a b : Nat} (ha : a < 10460353203) (hb : b < 10460353203) : lN a = lN b ↔ a = b := lN_inj (by omega) (by omega)
theorem kw_key {b : Nat → Int32} {s l k : Nat} (hl : l ≤ 7) (hk : k < 20) (hb : ∀ i, i < l → ltB (b (s + i)) = true) : kwM b s l k = true ↔ keyV k = lN (nmG (ltN b s) l) := by
  have hd : ∀ t, t < l → 97 ≤ ltN b s t ∧ ltN b s t ≤ 122 := fun t ht => ⟨(lt_nI (hb t ht)).1, (lt_nI (hb t ht)).2.1⟩
  have t3 := (kw_tab k hk).2.2.1
  have t4 := (kw_tab k hk).2.2.2
  have e := lN_inj2 (a := kyN k) (b := nmG (ltN b s) l) (Nat.lt_trans t4 (by decide)) (nmG_lt7 hl hd)
  rw [t3]
  exact (kw_a hl hk hb).trans ((kw_b hk hd).symm.trans e.symm)
theorem key_inj : ∀ k, k < 20 → ∀ j, j < 20 → keyV k = keyV j → k = j := by decide +kernel
def nvN (b : Nat → Int32) (s : Nat) : Nat → Nat
  | 0 => 0
  | i + 1 => 10 * nvN b s i + ((b (s + i)).toNatClampNeg - 48)
theorem dg_nI {x : Int32} (h : dgB x = true) : 48 ≤ x.toNatClampNeg ∧ x.toNatClampNeg ≤ 57 ∧ x = nI x.toNatClampNeg := by
  have h := of_decide_eq_true h
  have c0 : ¬ x < 0 := by
    have := h.1
    generalize x = y at this
    grind
  obtain ⟨k, hk, rfl⟩ := nI_of c0
  rw [nI_clamp hk]
  refine ⟨?_, ?_, rfl⟩
  · exact Nat.not_lt.mp (fun z => h.1 (nI_lt (b := 48) z (by omega)))
  · exact Nat.not_lt.mp (fun z => h.2 (nI_lt (a := 57) z hk))
theorem nv_nI {b : Nat → Int32} {s : Nat} : ∀ i, (∀ t, t < i → dgB (b (s + t)) = true) → nvI b s i = nI (nvN b s i) ∧ nvN b s i < 10 ^ i := by
  intro i
  induction i with
  | zero => intro _; exact ⟨rfl, by rw [nvN]; decide⟩
  | succ i ih =>
    intro h
    obtain ⟨e1, e2⟩ := ih (fun t ht => h t (by omega))
    have hd := dg_nI (h i (by omega))
    rw [nvI, nvN, e1, Nat.pow_succ]
    refine ⟨?_, by omega⟩
    rw [hd.2.2, nI_clamp (by omega), show (10 : Int32) = nI 10 from rfl, pk_mul, nI_add, show (48 : Int32) = nI 48 from rfl, pk_sub (by omega)]
    congr 1
    omega
/-- a kind and a value of the reference, and a TOKEN of the class -/
def RelT (kd va tok : Int32) : Prop := (tok = -1 ∧ kd = 0) ∨ (∃ v, v < 10000 ∧ tok = nI v ∧ kd = 2 ∧ va = nI v) ∨ (∃ w, w < 20 ∧ tok = nI (10000 + w) ∧ kd = nI (20 + w)) ∨ (tok = 10020 ∧ kd = 4) ∨ (tok = 10021 ∧ kd = 8) ∨ (tok = 10022 ∧ kd = 9) ∨ (tok = 10023 ∧ kd = 10) ∨ (tok = 10024 ∧ kd = 11) ∨ (tok = 10025 ∧ kd = 12) ∨ (tok = 10026 ∧ kd = 13) ∨ (tok = 10027 ∧ kd = 14) ∨ (tok = 10028 ∧ kd = 6) ∨ (tok = 10029 ∧ kd = 7) ∨ (tok = -2 ∧ (kd = 1 ∨ kd = 3))
def posF (b : Nat → Int32) (n : Nat) : Nat → Nat
  | 0 => 0
  | j + 1 => lxE b n (posF b n j)
def tkF (b : Nat → Int32) (n : Nat) : Nat → Int32 := fun j => lxT b n (posF b n j)
def plF (b : Nat → Int32) (n : Nat) : Nat → Nat := fun j => lxS b n (posF b n j)
theorem lxE_le {b : Nat → Int32} {n i : Nat} (h : i ≤ n) : lxE b n i ≤ n ∧ i ≤ lxE b n i ∧ (lxS b n i < n → lxS b n i < lxE b n i) := by
  have h1 := nxF_ge (fun j => blB (b j)) n i
  have h2 := nxF_le (p := fun j => blB (b j)) h
  unfold lxE lxS
  generalize nxF (fun j => blB (b j)) n i = s at *
  unfold enAt
  by_cases c : n ≤ s
  · rw [if_pos c]; omega
  · rw [if_neg c]
    by_cases c1 : ltB (b s) = true
    · rw [if_pos c1]
      have h3 := nxF_le (p := fun j => ltB (b j)) (show s + 1 ≤ n by omega)
      have h4 := nxF_ge (fun j => ltB (b j)) n (s + 1)
      rw [nxF_s (by omega) c1]
      omega
    · rw [if_neg c1]
      by_cases c2 : dgB (b s) = true
      · rw [if_pos c2]
        have h3 := nxF_le (p := fun j => dgB (b j)) (show s + 1 ≤ n by omega)
        have h4 := nxF_ge (fun j => dgB (b j)) n (s + 1)
        rw [nxF_s (by omega) c2]
        omega
      · rw [if_neg c2]
        unfold sgL
        by_cases c3 : eqA b n s = true
        · have := (of_decide_eq_true c3).1
          split <;> omega
        · rw [if_neg (fun z => c3 z.1)]
          omega
theorem posF_le {b : Nat → Int32} {n : Nat} (j : Nat) : posF b n j ≤ n := by
  induction j with
  | zero => exact Nat.zero_le _
  | succ j ih => exact (lxE_le ih).1
