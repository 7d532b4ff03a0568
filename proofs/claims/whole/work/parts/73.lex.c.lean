/-! the reference's way to the TOKENS -/
def kM (σ : MS) (c : Int32) (G : Nat → Nat → Int32) (L : Nat → Int64) : MS := (va_up σ.1 10 c, (fun j => if 3 ≤ j ∧ j ≤ 5 then G j else σ.2.1 j), va_up σ.2.2 6 L)
theorem kM_A (σ : MS) (c : Int32) (G : Nat → Nat → Int32) (L : Nat → Int64) (j : Nat) (f : Nat → Int32) (h1 : 3 ≤ j) (h2 : j ≤ 5) : mA (kM σ c G L) j f = kM σ c (va_up G j f) L := by
  have : va_up (fun i => if 3 ≤ i ∧ i ≤ 5 then G i else σ.2.1 i) j f = (fun i => if 3 ≤ i ∧ i ≤ 5 then va_up G j f i else σ.2.1 i) := by
    funext i
    show (if i = j then f else if 3 ≤ i ∧ i ≤ 5 then G i else σ.2.1 i) = if 3 ≤ i ∧ i ≤ 5 then (if i = j then f else G i) else σ.2.1 i
    by_cases e : i = j
    · rw [if_pos e, if_pos (by omega), if_pos e]
    · rw [if_neg e, if_neg e]
  show (_, va_up (fun i => if 3 ≤ i ∧ i ≤ 5 then G i else σ.2.1 i) j f, _) = _
  rw [this]
  rfl
theorem kM_L (σ : MS) (c : Int32) (G : Nat → Nat → Int32) (L f : Nat → Int64) : mL (kM σ c G L) 6 f = kM σ c G f := by
  show (_, _, va_up (va_up σ.2.2 6 L) 6 f) = _
  rw [bx_uu]
  rfl
theorem kM_F (σ : MS) (c c' : Int32) (G : Nat → Nat → Int32) (L : Nat → Int64) : mF (kM σ c G L) 10 c' = kM σ c' G L := by
  show (va_up (va_up σ.1 10 c) 10 c', _) = _
  rw [bx_uu]
  rfl
theorem tokenM {σ : MS} {G : Nat → Nat → Int32} {L : Nat → Int64} {t : Nat} {k p v : Int32} {nm : Int64} {Post : MS → Prop} (ht : t < 403) (hP : ∀ G' L', (∀ q, G' 3 q = if q = t then k else G 3 q) → (∀ q, G' 4 q = if q = t then p else G 4 q) → (∀ q, G' 5 q = if q = t then v else G 5 q) → Post (kM σ (nI (t + 1)) G' L')) : wpM_token (kM σ (nI t) G L) k p v nm Post := by
  have hv : vp_in (nI t) 403 := vp_in_nI ht (by omega)
  refine ⟨hv, ?_⟩
  rintro _ rfl
  refine ⟨hv, ?_⟩
  rintro _ rfl
  refine ⟨hv, ?_⟩
  rintro _ rfl
  refine ⟨hv, ?_⟩
  rintro _ rfl _ rfl
  rw [kM_A _ _ _ _ 3 _ (by omega) (by omega), kM_A _ _ _ _ 4 _ (by omega) (by omega), kM_A _ _ _ _ 5 _ (by omega) (by omega), kM_L, kM_F]
  have e1 : ∀ (G1 : Nat → Nat → Int32) (L1 : Nat → Int64), (kM σ (nI t) G1 L1).1 10 = nI t := fun _ _ => rfl
  simp only [e1, nI_clamp (show t < 2 ^ 31 by omega), nI_1]
  exact hP _ _ (fun q => rfl) (fun q => rfl) (fun q => rfl)
def atV (b : Nat → Int32) (n i : Nat) : Int32 := if n ≤ i then 0 else b i &&& 255
theorem atM {σ : MS} {G : Nat → Nat → Int32} {L : Nat → Int64} {c : Int32} {b : Nat → Int32} {n i : Nat} {Post : Int32 → MS → Prop} (h4 : σ.1 4 = nI n) (hn : n ≤ 2000) (hb : ∀ j, j < n → σ.2.1 2 j = b j) (hi : i < 2 ^ 31) (hP : Post (atV b n i) (kM σ c G L)) : wpM_at (kM σ c G L) (nI i) Post := by
  refine ⟨fun q => ?_, fun q => ?_⟩
  · have q : σ.1 4 ≤ nI i := q
    rw [h4, nI_leI (by omega) hi] at q
    rw [atV, if_pos q] at hP
    exact hP
  · have q : ¬ σ.1 4 ≤ nI i := q
    rw [h4, nI_leI (by omega) hi] at q
    rw [atV, if_neg q] at hP
    refine ⟨vp_in_nI (by omega) (by omega), ?_⟩
    rw [nI_clamp hi]
    have e : (kM σ c G L).2.1 2 i = b i := hb i (by omega)
    rw [e]
    exact hP
def CT (b : Nat → Int32) (n t : Nat) (G : Nat → Nat → Int32) : Prop := ∀ j, j < t → RelT (G 3 j) (G 5 j) (tkF b n j) ∧ G 4 j = nI (plF b n j)
theorem CT_s {b : Nat → Int32} {n t : Nat} {G G' : Nat → Nat → Int32} {k v : Int32} (h : CT b n t G) (h3 : ∀ q, G' 3 q = if q = t then k else G 3 q) (h4 : ∀ q, G' 4 q = if q = t then nI (plF b n t) else G 4 q) (h5 : ∀ q, G' 5 q = if q = t then v else G 5 q) (hR : RelT k v (tkF b n t)) : CT b n (t + 1) G' := by
  intro j hj
  rw [h3, h4, h5]
  by_cases e : j = t
  · rw [if_pos e, if_pos e, if_pos e, e]
    exact ⟨hR, rfl⟩
  · rw [if_neg e, if_neg e, if_neg e]
    exact h j (by omega)
theorem isLetterM {σ : MS} {x : Int32} {Post : Int32 → MS → Prop} (h1 : (¬ x < 97 ∧ ¬ 122 < x) → Post 1 σ) (h0 : ¬ (¬ x < 97 ∧ ¬ 122 < x) → Post 0 σ) : wpM_isLetter σ x Post :=
  ⟨fun c => h0 (fun z => z.1 c), fun c => ⟨fun c2 => h0 (fun z => z.2 c2), fun c2 => h1 ⟨c, c2⟩⟩⟩
theorem isDigitM {σ : MS} {x : Int32} {Post : Int32 → MS → Prop} (h1 : (¬ x < 48 ∧ ¬ 57 < x) → Post 1 σ) (h0 : ¬ (¬ x < 48 ∧ ¬ 57 < x) → Post 0 σ) : wpM_isDigit σ x Post :=
  ⟨fun c => h0 (fun z => z.1 c), fun c => ⟨fun c2 => h0 (fun z => z.2 c2), fun c2 => h1 ⟨c, c2⟩⟩⟩
theorem wordM {σ : MS} {G : Nat → Nat → Int32} {L : Nat → Int64} {b : Nat → Int32} {n i t : Nat} {K : MS → Int32 → Prop} {Post : MS → Prop} (h4 : σ.1 4 = nI n) (hn : n ≤ 2000) (hb : ∀ j, j < n → σ.2.1 2 j = b j) (hB : ∀ j, j < n → isB (b j)) (hK : IKey σ) (hi : i < n) (hl : ltB (b i) = true) (ht : t < 403)
    (hP : ∀ kd G' L', RelT kd 0 (wdV b i (nxF (fun j => ltB (b j)) n i - i)) → (∀ q, G' 3 q = if q = t then kd else G 3 q) → (∀ q, G' 4 q = if q = t then nI i else G 4 q) → (∀ q, G' 5 q = if q = t then 0 else G 5 q) → K (kM σ (nI (t + 1)) G' L') (nI (nxF (fun j => ltB (b j)) n i))) : ∃ g, wpM_cut_85 K Post g (kM σ (nI t) G L) (nI i) 0 0 := by
  have hge := nxF_ge (fun j => ltB (b j)) n i
  have hle := nxF_le (p := fun j => ltB (b j)) (show i ≤ n by omega)
  have hin : ∀ j, i ≤ j → j < nxF (fun j => ltB (b j)) n i → ltB (b j) = true := fun j h1 h2 => nxF_in (p := fun j => ltB (b j)) h1 h2
  have hout : nxF (fun j => ltB (b j)) n i < n → ltB (b (nxF (fun j => ltB (b j)) n i)) = false := fun h2 => nxF_out (p := fun j => ltB (b j)) (by omega) h2
  generalize nxF (fun j => ltB (b j)) n i = e at *
  have hlt : ∀ m, m < e - i → ltB (b (i + m)) = true := fun m hm => hin (i + m) (by omega) (by omega)
  -- the end of a word
  have fin : ∀ kd nm, RelT kd 0 (wdV b i (e - i)) → wpM_cut_179 K Post (kM σ (nI t) G L) (nI i) (nI (e - i)) nm kd := by
    intro kd nm hR
    refine tokenM ht (fun G' L' h3 h4 h5 => ?_)
    rintro _ rfl
    rw [nI_add, show i + (e - i) = e by omega]
    exact hP kd G' L' hR h3 h4 h5
  have h135 : ∀ t0, (t0 = 1 ∧ e - i ≤ 8 ∨ t0 = 3 ∧ 8 < e - i) → wpM_cut_135 K Post (kM σ (nI t) G L) (nI i) (nI (e - i)) (lN (nmG (ltN b i) (min (e - i) 8))) t0 := by
    intro t0 h0
    refine ⟨fun c => fin _ _ ?_, fun c => ⟨21, ?_⟩⟩
    · have c : 7 < e - i := (nI_ltI (a := 7) (by omega) (by omega)).mp c
      have ew : wdV b i (e - i) = -2 := by
        have hz : ∀ d k, fstF (kwM b i (e - i)) d k = -1 := by
          intro d
          induction d with
          | zero => intro k; rfl
          | succ d ih => intro k; rw [fstF, if_neg (by rw [kwM, decide_eq_false (by omega), Bool.false_and]; decide), ih]
        rw [wdV, hz, if_pos rfl]
      rw [ew]
      exact Or.inr (Or.inr (Or.inr (Or.inr (Or.inr (Or.inr (Or.inr (Or.inr (Or.inr (Or.inr (Or.inr (Or.inr (Or.inr ⟨rfl, h0.elim (fun z => Or.inl z.1) (fun z => Or.inr z.1)⟩))))))))))))
    · have c : e - i ≤ 7 := Nat.not_lt.mp (fun z => c (nI_lt (a := 7) z (by omega)))
      have h01 : t0 = 1 := h0.elim (fun z => z.1) (fun z => absurd z.2 (by omega))
      rw [Nat.min_eq_left (by omega)]
      have hkw : ∀ k, k < 20 → (kwM b i (e - i) k = true ↔ keyV k = lN (nmG (ltN b i) (e - i))) := fun k hk => kw_key c hk hlt
      -- all keys are looked at
      have hl : ∀ d k kd, k + d = 20 → ((kd = 1 ∧ ∀ j, j < k → ¬ kwM b i (e - i) j = true) ∨ (∃ j, j < k ∧ kwM b i (e - i) j = true ∧ kd = nI (20 + j))) → wpM_cut_146 K Post (d + 1) (kM σ (nI t) G L) (nI i) (nI (e - i)) (lN (nmG (ltN b i) (e - i))) kd (nI k) := by
        intro d
        induction d with
        | zero =>
          intro k kd hk hd
          obtain rfl : k = 20 := by omega
          refine ⟨fun _ => fin _ _ ?_, fun q => absurd (by decide) q⟩
          rcases hd with ⟨e1, e2⟩ | ⟨j, hj, e1, e2⟩
          · have ew : wdV b i (e - i) = -2 := by
              rcases fstF_is (kwM b i (e - i)) 20 0 with q | ⟨j, _, hj, _, hm⟩
              · rw [wdV, if_pos q]
              · exact absurd hm (e2 j (by omega))
            rw [ew, e1]
            exact Or.inr (Or.inr (Or.inr (Or.inr (Or.inr (Or.inr (Or.inr (Or.inr (Or.inr (Or.inr (Or.inr (Or.inr (Or.inr ⟨rfl, Or.inl rfl⟩))))))))))))
          · have ew : wdV b i (e - i) = nI (10000 + j) := by
              rcases fstF_is (kwM b i (e - i)) 20 0 with q | ⟨j', _, hj', q, hm⟩
              · exfalso
                have hz : ∀ d k, k + d = 20 → k ≤ j → fstF (kwM b i (e - i)) d k = -1 → False := by
                  intro d
                  induction d with
                  | zero => intro k h1 h2 _; omega
                  | succ d ih =>
                    intro k h1 h2 h3
                    rw [fstF] at h3
                    split at h3
                    · exact absurd h3 (nI_nm1 (by omega))
                    · next c =>
                      by_cases ek : k = j
                      · rw [ek] at c; exact c e1
                      · exact ih (k + 1) (by omega) (by omega) h3
                exact hz 20 0 (by omega) (by omega) q
              · have : j' = j := key_inj j' (by omega) j hj (((hkw j' (by omega)).mp hm).trans ((hkw j hj).mp e1).symm)
                rw [wdV, q, if_neg (nI_nm1 (by omega)), this, show (10000 : Int32) = nI 10000 from rfl, nI_add]
            rw [ew, e2]
            exact Or.inr (Or.inr (Or.inl ⟨j, hj, rfl, rfl⟩))
        | succ d ih =>
          intro k kd hk hd
          refine ⟨fun q => absurd q (nI_ge (b := 20) (by omega) (by omega)), fun _ => ⟨vp_in_nI (by omega) (by omega), fun c2 => ?_, fun c2 => ?_⟩⟩
          · rw [nI_clamp (by omega), lg_cmp_eq] at c2
            have c2 : keyV k = lN (nmG (ltN b i) (e - i)) := (hK k (by omega)).symm.trans c2
            rintro _ rfl _ rfl
            rw [nI_1, show (20 : Int32) = nI 20 from rfl, nI_add]
            exact ih (k + 1) _ (by omega) (Or.inr ⟨k, by omega, (hkw k (by omega)).mpr c2, rfl⟩)
          · rw [nI_clamp (by omega), lg_cmp_eq] at c2
            have c2 : ¬ keyV k = lN (nmG (ltN b i) (e - i)) := fun z => c2 ((hK k (by omega)).trans z)
            rintro _ rfl
            rw [nI_1]
            refine ih (k + 1) _ (by omega) ?_
            rcases hd with ⟨e1, e2⟩ | ⟨j, hj, e1, e2⟩
            · refine Or.inl ⟨e1, fun j hj => ?_⟩
              by_cases ej : j = k
              · rw [ej]; exact fun z => c2 ((hkw k (by omega)).mp z)
              · exact e2 j (by omega)
            · exact Or.inr ⟨j, by omega, e1, e2⟩
      exact hl 20 0 t0 (by omega) (Or.inl ⟨h01, fun j hj => absurd hj (by omega)⟩)
  -- the letters
  have hl : ∀ d m, i + m + d = e → wpM_cut_85 K Post (d + 1) (kM σ (nI t) G L) (nI i) (nI m) (lN (nmG (ltN b i) (min m 8))) := by
    intro d
    induction d with
    | zero =>
      intro m hm
      have em : m = e - i := by omega
      refine atM h4 hn hb (i := i + m) (by omega) ?_ |> fun z => (by rw [← nI_add] at z; exact z)
      refine isLetterM (fun q => ?_) (fun q => ⟨fun _ => ⟨fun c => ?_, fun c => ?_⟩, fun z => absurd rfl z⟩)
      · exfalso
        rw [show i + m = e by omega, atV] at q
        by_cases ce : n ≤ e
        · rw [if_pos ce] at q; exact absurd q (by decide)
        · rw [if_neg ce, lt255 (hB e (by omega)), hout (by omega)] at q
          exact absurd q (by decide)
      · rw [em]
        exact h135 1 (Or.inl ⟨rfl, by rw [← em]; exact (nI_leI (b := 8) (by omega) (by omega)).mp c⟩)
      · rw [em]
        exact h135 3 (Or.inr ⟨rfl, by rw [← em]; exact Nat.not_le.mp (fun z => c (nI_le (b := 8) z (by omega)))⟩)
    | succ d ih =>
      intro m hm
      have hlm := hlt m (by omega)
      have hn' : ¬ n ≤ i + m := by omega
      have ea : atV b n (i + m) = b (i + m) := by
        rw [atV, if_neg hn']
        rcases by_cases255 (hB (i + m) (by omega)) with z | z
        · exact z.2
        · exfalso
          have := (of_decide_eq_true hlm).1
          have z1 := z.1
          generalize b (i + m) = y at this z1
          grind
      refine atM h4 hn hb (i := i + m) (by omega) ?_ |> fun z => (by rw [← nI_add] at z; exact z)
      refine isLetterM (fun q => ⟨fun z => absurd z no1, fun _ => ⟨fun c => ?_, fun c => ?_⟩⟩) (fun q => ?_)
      · have c : 8 ≤ m := (nI_leI (a := 8) (by omega) (by omega)).mp c
        rintro _ rfl
        rw [nI_1]
        have := ih (m + 1) (by omega)
        rw [Nat.min_eq_right (by omega)] at this ⊢
        exact this
      · have c : m < 8 := Nat.not_le.mp (fun z => c (nI_le (a := 8) z (by omega)))
        refine atM h4 hn hb (i := i + m) (by omega) ?_ |> fun z => (by rw [← nI_add] at z; exact z)
        rw [ea]
        have hx := lt_nI hlm
        have ih := ih (m + 1) (by omega)
        rw [Nat.min_eq_left (by omega)] at ih ⊢
        refine ⟨fun z => ?_, fun _ => ?_⟩
        · rw [hx.2.2] at z
          exact absurd z (nI_ne0 (by omega) (by omega))
        · rintro _ rfl
          rw [nI_1]
          have en : 27 * lN (nmG (ltN b i) m) + (b (i + m) - 97 + 1).toInt64 = lN (nmG (ltN b i) (m + 1)) := by
            rw [nmG, hx.2.2, show (97 : Int32) = nI 97 from rfl, pk_sub (by omega), nI_1, nI_l (by omega), show (27 : Int64) = lN 27 from rfl, lN_mul, lN_add]
            congr 1
            show _ = 27 * nmG (ltN b i) m + ((b (i + m)).toNatClampNeg - 96)
            omega
          rw [en]
          exact ih
      · exfalso
        rw [ea] at q
        exact q (of_decide_eq_true hlm)
  exact ⟨e - i + 1, hl (e - i) 0 (by omega)⟩
theorem numberM {σ : MS} {G : Nat → Nat → Int32} {L : Nat → Int64} {b : Nat → Int32} {n i t : Nat} {K : MS → Int32 → Prop} {Post : MS → Prop} (h4 : σ.1 4 = nI n) (hn : n ≤ 2000) (hb : ∀ j, j < n → σ.2.1 2 j = b j) (hB : ∀ j, j < n → isB (b j)) (hi : i < n) (hl : dgB (b i) = true) (ht : t < 403)
    (hP : ∀ kd v G' L', RelT kd v (if nxF (fun j => dgB (b j)) n i - i ≤ 4 then nvI b i (nxF (fun j => dgB (b j)) n i - i) else -2) → (∀ q, G' 3 q = if q = t then kd else G 3 q) → (∀ q, G' 4 q = if q = t then nI i else G 4 q) → (∀ q, G' 5 q = if q = t then v else G 5 q) → K (kM σ (nI (t + 1)) G' L') (nI (nxF (fun j => dgB (b j)) n i))) : ∃ g, wpM_cut_208 K Post g (kM σ (nI t) G L) (nI i) 0 0 := by
  have hge := nxF_ge (fun j => dgB (b j)) n i
  have hle := nxF_le (p := fun j => dgB (b j)) (show i ≤ n by omega)
  have hin : ∀ j, i ≤ j → j < nxF (fun j => dgB (b j)) n i → dgB (b j) = true := fun j h1 h2 => nxF_in (p := fun j => dgB (b j)) h1 h2
  have hout : nxF (fun j => dgB (b j)) n i < n → dgB (b (nxF (fun j => dgB (b j)) n i)) = false := fun h2 => nxF_out (p := fun j => dgB (b j)) (by omega) h2
  generalize nxF (fun j => dgB (b j)) n i = e at *
  have hlt : ∀ m, m < e - i → dgB (b (i + m)) = true := fun m hm => hin (i + m) (by omega) (by omega)
  have fin : ∀ kd v, RelT kd v (if e - i ≤ 4 then nvI b i (e - i) else -2) → wpM_cut_261 K Post (kM σ (nI t) G L) (nI i) (nI (e - i)) v kd := by
    intro kd v hR
    refine tokenM ht (fun G' L' h3 h4 h5 => ?_)
    rintro _ rfl
    rw [nI_add, show i + (e - i) = e by omega]
    exact hP kd v G' L' hR h3 h4 h5
  have hl : ∀ d m, i + m + d = e → wpM_cut_208 K Post (d + 1) (kM σ (nI t) G L) (nI i) (nI m) (nvI b i (min m 4)) := by
    intro d
    induction d with
    | zero =>
      intro m hm
      have em : m = e - i := by omega
      refine atM h4 hn hb (i := i + m) (by omega) ?_ |> fun z => (by rw [← nI_add] at z; exact z)
      refine isDigitM (fun q => ?_) (fun q => ⟨fun _ => ⟨fun c => ?_, fun c => ?_⟩, fun z => absurd rfl z⟩)
      · exfalso
        rw [show i + m = e by omega, atV] at q
        by_cases ce : n ≤ e
        · rw [if_pos ce] at q; exact absurd q (by decide)
        · rw [if_neg ce, dg255 (hB e (by omega)), hout (by omega)] at q
          exact absurd q (by decide)
      · have c : m ≤ 4 := (nI_leI (b := 4) (by omega) (by omega)).mp c
        rw [em] at c ⊢
        rw [Nat.min_eq_left c]
        refine fin _ _ ?_
        rw [if_pos c]
        have hv := nv_nI (b := b) (s := i) (e - i) hlt
        have hp : 10 ^ (e - i) ≤ 10 ^ 4 := Nat.pow_le_pow_right (by omega) c
        have hp4 : (10 : Nat) ^ 4 = 10000 := rfl
        exact Or.inr (Or.inl ⟨nvN b i (e - i), by omega, hv.1, rfl, hv.1⟩)
      · have c : ¬ m ≤ 4 := fun z => c (nI_le (b := 4) z (by omega))
        rw [em] at c ⊢
        refine fin _ _ ?_
        rw [if_neg c]
        exact Or.inr (Or.inr (Or.inr (Or.inr (Or.inr (Or.inr (Or.inr (Or.inr (Or.inr (Or.inr (Or.inr (Or.inr (Or.inr ⟨rfl, Or.inr rfl⟩))))))))))))
    | succ d ih =>
      intro m hm
      have hlm := hlt m (by omega)
      have hn' : ¬ n ≤ i + m := by omega
      have ea : atV b n (i + m) = b (i + m) := by
        rw [atV, if_neg hn']
        rcases by_cases255 (hB (i + m) (by omega)) with z | z
        · exact z.2
        · exfalso
          have := (of_decide_eq_true hlm).1
          have z1 := z.1
          generalize b (i + m) = y at this z1
          grind
      refine atM h4 hn hb (i := i + m) (by omega) ?_ |> fun z => (by rw [← nI_add] at z; exact z)
      refine isDigitM (fun q => ⟨fun z => absurd z no1, fun _ => ⟨fun c => ?_, fun c => ?_⟩⟩) (fun q => ?_)
      · have c : 4 ≤ m := (nI_leI (a := 4) (by omega) (by omega)).mp c
        rintro _ rfl
        rw [nI_1]
        have := ih (m + 1) (by omega)
        rw [Nat.min_eq_right (by omega)] at this ⊢
        exact this
      · have c : m < 4 := Nat.not_le.mp (fun z => c (nI_le (a := 4) z (by omega)))
        refine atM h4 hn hb (i := i + m) (by omega) ?_ |> fun z => (by rw [← nI_add] at z; exact z)
        rw [ea]
        have ih := ih (m + 1) (by omega)
        rw [Nat.min_eq_left (by omega)] at ih ⊢
        rintro _ rfl _ rfl
        rw [nI_1, Int32.mul_comm]
        rw [nvI] at ih
        exact ih
      · exfalso
        rw [ea] at q
        exact q (of_decide_eq_true hlm)
  exact ⟨e - i + 1, hl (e - i) 0 (by omega)⟩
