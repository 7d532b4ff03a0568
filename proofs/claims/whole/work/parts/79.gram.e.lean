/-! an E, the reference's side -/
def FS (tk : Nat → Int32) (pl : Nat → Nat) (F : Nat → Int32) : Prop := ∃ f j, (f = 1 ∨ f = 2) ∧ F 13 = nI f ∧ F 14 = nI (pl j) ∧ Vd tk f j
theorem FS_no {tk : Nat → Int32} {pl : Nat → Nat} {F : Nat → Int32} (h : FS tk pl F) : ¬ F 13 = 0 ∧ ¬ F 13 ≤ 0 := by
  obtain ⟨f, j, h1, h2, _⟩ := h
  rw [h2]
  rcases h1 with rfl | rfl <;> decide
def TC (σ : MS) (tk : Nat → Int32) (pl : Nat → Nat) (sd : Nat) : Prop := σ.1 19 = nI sd ∧ sd ≤ 7 ∧ ∀ j x, aSt tk j = some x → RelT (σ.2.1 3 j) (σ.2.1 5 j) (tk j) ∧ σ.2.1 4 j = nI (pl j)
theorem FS_fail {σ : MS} {tk : Nat → Int32} {pl : Nat → Nat} {sd j f : Nat} {x : Nat × Nat × Nat × Nat} {F : Nat → Int32} (hT : TC σ tk pl sd) (hA : aSt tk j = some x) (hf : f = 1 ∨ f = 2) (hV : Vd tk f j) (F' : Nat → Int32) (e13 : F' 13 = nI f) (e14 : F' 14 = σ.2.1 4 j) : FS tk pl F' := ⟨f, j, hf, e13, e14.trans (hT.2.2 j x hA).2, hV⟩
def EqP (tk : Nat → Int32) (p q : Nat) (cd ci : Nat → Int32) (fr to : Nat) : Prop := p ≤ q ∧ (∀ j, j < q - p → consT (tk (p + j)) (depE tk p j)) ∧ depE tk p (q - p) = 0 ∧ okE cd ci fr to ∧ ∀ w, (evE tk w p (q - p)).1 0 + (evE tk w p (q - p)).2 0 = valM cd ci w fr to
/-- what is not touched -/
def Fr (c0 : Nat) (G0 G : Nat → Nat → Int32) : Prop := (∀ j, j ≤ 22 → G j = G0 j) ∧ ∀ j x, j = 23 ∨ j = 24 → x < c0 → G j x = G0 j x
/-- behind an E -/
def ExP (tk : Nat → Int32) (pl : Nat → Nat) (s rc p c0 : Nat) (G0 : Nat → Nat → Int32) (F' : Nat → Int32) (G' : Nat → Nat → Int32) : Prop := Fr c0 G0 G' ∧ (FS tk pl F' ∨ ∃ q c1, F' 13 = 0 ∧ F' 11 = nI q ∧ F' 12 = 0 ∧ F' 35 = nI c1 ∧ c1 ≤ c0 + (q - p) ∧ aSt tk q = some (5, s, 0, rc) ∧ EqP tk p q (G' 23) (G' 24) c0 c1 ∧ ¬ (tk q = 10021 ∨ tk q = 10022 ∨ tk q = 10023))
def Co (tk : Nat → Int32) (p j d : Nat) : Prop := p ≤ j ∧ (∀ i, i < j - p → consT (tk (p + i)) (depE tk p i)) ∧ depE tk p (j - p) = d
theorem Co_s {tk : Nat → Int32} {p j d : Nat} (h : Co tk p j d) (hc : consT (tk j) d) : Co tk p (j + 1) (depT (tk j) d) := by
  obtain ⟨h1, h2, h3⟩ := h
  have e1 : j + 1 - p = (j - p) + 1 := by omega
  have e2 : p + (j - p) = j := by omega
  refine ⟨by omega, fun i hi => ?_, ?_⟩
  · by_cases e : i = j - p
    · subst e
      rw [e2, h3]
      exact hc
    · exact h2 i (by omega)
  · rw [e1, depE, e2, h3]
theorem ev_s {tk w : Nat → Int32} {p j d : Nat} (h : Co tk p j d) : evE tk w p (j + 1 - p) = evT w (tk j) d (evE tk w p (j - p)) := by
  obtain ⟨h1, h2, h3⟩ := h
  rw [show j + 1 - p = (j - p) + 1 by omega, evE, show p + (j - p) = j by omega, h3]
def rsL : List (Nat × Bool) → List Nat
  | [] => []
  | y :: r => 6 :: wtL (y :: r)
theorem wtL_c (x : Nat × Bool) (r : List (Nat × Bool)) : wtL (x :: r) = opsL x ++ rsL r := by
  cases r with
  | nil => rw [wtL, rsL, List.append_nil]
  | cons y r => rfl
theorem rsL_st (r : List (Nat × Bool)) : rsL r = [] ∨ ∃ l, rsL r = 6 :: l := by
  cases r with
  | nil => exact Or.inl rfl
  | cons y r => exact Or.inr ⟨_, rfl⟩
theorem rsL_len (r : List (Nat × Bool)) : (rsL r).length ≤ 3 * r.length + 1 := by
  cases r with
  | nil => exact Nat.zero_le _
  | cons y r =>
    have := wt_len (y :: r)
    rw [rsL, List.length_cons]
    omega
theorem itL_congr {S P S' P' : Nat → Int32} : ∀ L : List (Nat × Bool), (∀ k, k < L.length → S k = S' k ∧ P k = P' k) → itL S P L = itL S' P' L
  | [], _ => rfl
  | x :: r, h => by
    have h1 := h r.length (by rw [List.length_cons]; omega)
    rw [itL, itL, h1.1, h1.2, itL_congr r (fun k hk => h k (by rw [List.length_cons]; omega))]
theorem okL_congr {S P S' P' : Nat → Int32} : ∀ L : List (Nat × Bool), (∀ k, k < L.length → S k = S' k ∧ P k = P' k) → okL S P L → okL S' P' L
  | [], _, _ => trivial
  | x :: r, h, hk => by
    have h1 := h r.length (by rw [List.length_cons]; omega)
    refine ⟨?_, okL_congr r (fun k hk => h k (by rw [List.length_cons]; omega)) hk.2⟩
    rw [← h1.1, ← h1.2]
    exact hk.1
theorem evT_int {w : Nat → Int32} {v d : Nat} {a : (Nat → Int32) × (Nat → Int32)} (hv : v < 10000) : evT w (nI v) d a = (a.1, upd a.2 d (a.2 d * nI v)) ∧ depT (nI v) d = d := by
  have ne : ∀ t : Nat, 10000 ≤ t → t < 2 ^ 31 → ¬ nI v = nI t := fun t h1 h2 => nn (by omega) (by omega) h2
  have lt : nI v < 10000 := nI_lt (b := 10000) hv (by omega)
  have n1 : ¬ nI v = 10021 := ne 10021 (by omega) (by omega)
  have n2 : ¬ nI v = 10022 := ne 10022 (by omega) (by omega)
  have n3 : ¬ nI v = 10023 := ne 10023 (by omega) (by omega)
  have n4 : ¬ nI v = 10028 := ne 10028 (by omega) (by omega)
  have n5 : ¬ nI v = 10029 := ne 10029 (by omega) (by omega)
  refine ⟨?_, ?_⟩
  · unfold evT
    rw [if_neg n1, if_neg n2, if_neg n3, if_neg n4, if_neg n5, if_pos lt]
  · unfold depT
    rw [if_neg n4, if_neg n5]
theorem evT_var {w : Nat → Int32} {x d : Nat} {a : (Nat → Int32) × (Nat → Int32)} (hx : x < 12) : evT w (nI (10008 + x)) d a = (a.1, upd a.2 d (a.2 d * w x)) ∧ depT (nI (10008 + x)) d = d := by
  have ne : ∀ t : Nat, 10020 ≤ t → t < 2 ^ 31 → ¬ nI (10008 + x) = nI t := fun t h1 h2 => nn (by omega) (by omega) h2
  have lt : ¬ nI (10008 + x) < 10000 := nI_nlt (b := 10000) (by omega) (by omega)
  have e : (nI (10008 + x) - 10008).toNatClampNeg = x := by
    rw [show (10008 : Int32) = nI 10008 from rfl, pk_sub (by omega), nI_clamp (by omega)]
    omega
  have n1 : ¬ nI (10008 + x) = 10021 := ne 10021 (by omega) (by omega)
  have n2 : ¬ nI (10008 + x) = 10022 := ne 10022 (by omega) (by omega)
  have n3 : ¬ nI (10008 + x) = 10023 := ne 10023 (by omega) (by omega)
  have n4 : ¬ nI (10008 + x) = 10028 := ne 10028 (by omega) (by omega)
  have n5 : ¬ nI (10008 + x) = 10029 := ne 10029 (by omega) (by omega)
  refine ⟨?_, ?_⟩
  · unfold evT
    rw [if_neg n1, if_neg n2, if_neg n3, if_neg n4, if_neg n5, if_neg lt, e]
  · unfold depT
    rw [if_neg n4, if_neg n5]
/-- before a UNIT -/
def PrE (tk : Nat → Int32) (s rc p c0 : Nat) (G0 : Nat → Nat → Int32) (j d c : Nat) (L : List (Nat × Bool)) (F : Nat → Int32) (G : Nat → Nat → Int32) : Prop :=
  F 13 = 0 ∧ F 11 = nI j ∧ F 12 = nI d ∧ aSt tk j = some (4, s, d, rc) ∧ L.length = d + 1 ∧ vaL L ∧ wRow G (wtL L) ∧ F 39 = nI (wtL L).length ∧ F 35 = nI c ∧ c + pnd L ≤ c0 + (j - p) ∧ Co tk p j d ∧ Fr c0 G0 G ∧
  SK (G 23) (G 24) c0 c (fun w => itL (evE tk w p (j - p)).1 (evE tk w p (j - p)).2 L) ∧ ∀ w, okL (evE tk w p (j - p)).1 (evE tk w p (j - p)).2 L
/-- behind a UNIT -/
def PoE (tk : Nat → Int32) (s rc p c0 : Nat) (G0 : Nat → Nat → Int32) (j d c : Nat) (L : List (Nat × Bool)) (F : Nat → Int32) (G : Nat → Nat → Int32) : Prop :=
  F 13 = 0 ∧ F 11 = nI j ∧ F 12 = nI d ∧ aSt tk j = some (5, s, d, rc) ∧ L.length = d + 1 ∧ vaL L ∧ wRow G (wtL L) ∧ F 39 = nI (wtL L).length ∧ F 35 = nI c ∧ c + pnd L ≤ c0 + (j - p) ∧ Co tk p j d ∧ Fr c0 G0 G ∧
  ∃ (u : (Nat → Int32) → Int32) (P0 : (Nat → Int32) → Nat → Int32), SK (G 23) (G 24) c0 c (fun w => u w :: itL (evE tk w p (j - p)).1 (P0 w) L) ∧ ∀ w, okL (evE tk w p (j - p)).1 (P0 w) L ∧ (evE tk w p (j - p)).2 d = P0 w d * u w ∧ ∀ k, k < d → (evE tk w p (j - p)).2 k = P0 w k
theorem Fr_ou {c0 c : Nat} {G0 G G' : Nat → Nat → Int32} {F F' : Nat → Int32} (h : Fr c0 G0 G) (ho : OuF F F' G G' c) (hc : c0 ≤ c) : Fr c0 G0 G' := ⟨fun j hj => (ho.2.1 j hj).trans (h.1 j hj), fun j x hj hx => (ho.2.2.2 j x hj (by omega)).trans (h.2 j x hj hx)⟩
/-- a fault: what waits comes out, and that is all -/
theorem exprFail {σ : MS} {tk : Nat → Int32} {pl : Nat → Nat} {s rc p c0 c g : Nat} {G0 : Nat → Nat → Int32} {F : Nat → Int32} {G : Nat → Nat → Int32} {l : List Nat} {K : MS → Int32 → Int32 → Prop} {Post : MS → Prop} (hF : FS tk pl F) (hG : Fr c0 G0 G) (hva : ∀ a, a ∈ l → a = 6 ∨ a = 8 ∨ a = 9 ∨ a = 10) (hW : wRow G l) (h39 : F 39 = nI l.length) (hl : l.length < 48) (h35 : F 35 = nI c) (hc : c + l.length < 4500) (hc0 : c0 ≤ c)
    (hP : ∀ F' G', ExP tk pl s rc p c0 G0 F' G' → Post (pM σ F' G')) : wpM_expression_200 K Post (g + 1) (pM σ F G) 0 := by
  obtain ⟨n1, n2⟩ := FS_no hF
  have fin : wpM_expression_299 Post (pM σ F G) := by
    refine ⟨l.length + 1, popAny l F G c hva hW h39 hl h35 hc (fun F' G' p1 p2 p3 _ => hP F' G' ⟨⟨fun j hj => (p2 j hj).trans (hG.1 j hj), fun j x hj hx => (p3 j x hj (by omega)).trans (hG.2 j x hj hx)⟩, Or.inl ?_⟩)⟩
    obtain ⟨f, j, a1, a2, a3, a4⟩ := hF
    exact ⟨f, j, a1, (p1 13 (by omega) (by omega)).trans a2, (p1 14 (by omega) (by omega)).trans a3, a4⟩
  refine is_no n1 ⟨fun _ => ?_, fun q => absurd rfl q⟩
  refine is_no n1 ⟨fun _ => is_no n1 ⟨fun _ => is_no n1 ⟨fun _ => ?_, fun q => absurd rfl q⟩, fun q => absurd rfl q⟩, fun q => absurd rfl q⟩
  exact ⟨fun _ => ⟨fun _ => fin, fun _ => fail_no n2 fin⟩, fun q => absurd rfl q⟩
theorem wRow_d {G : Nat → Nat → Int32} : ∀ (l1 : List Nat) {l2 : List Nat}, wRow G (l1 ++ l2) → wRow G l2
  | [], _, h => h
  | a :: l, _, h => wRow_d l (wRow_top (a := a) h).2
theorem wRow_g {G G' : Nat → Nat → Int32} {l : List Nat} (e : G' 25 = G 25) (h : wRow G l) : wRow G' l := by
  unfold wRow at *
  rw [e]
  exact h
theorem Fr_25 {c0 : Nat} {G0 G : Nat → Nat → Int32} {f : Nat → Int32} (h : Fr c0 G0 G) : Fr c0 G0 (va_up G 25 f) := by
  refine ⟨fun j hj => ?_, fun j x hj hx => ?_⟩
  · show (if j = 25 then f else G j) = G0 j
    rw [if_neg (by omega)]
    exact h.1 j hj
  · show (if j = 25 then f else G j) x = G0 j x
    rw [if_neg (by omega)]
    exact h.2 j x hj hx
theorem exprClose {σ : MS} {tk : Nat → Int32} {pl : Nat → Nat} {sd s rc p c0 : Nat} {G0 : Nat → Nat → Int32} {K : MS → Int32 → Int32 → Prop} {Post : MS → Prop} (hT : TC σ tk pl sd) (hc0 : c0 ≤ 500 * sd + p)
    (hKf : ∀ F' G', FS tk pl F' → Fr c0 G0 G' → K (pM σ F' G') 0 1) (hP : ∀ F' G', ExP tk pl s rc p c0 G0 F' G' → Post (pM σ F' G')) :
    ∀ (L : List (Nat × Bool)) (j d c : Nat) (F : Nat → Int32) (G : Nat → Nat → Int32), PoE tk s rc p c0 G0 j d c L F G → (∀ j' d' c' L' F' G', j < j' → PrE tk s rc p c0 G0 j' d' c' L' F' G' → K (pM σ F' G') 0 1) → wpM_expression_200 K Post (L.length + 1) (pM σ F G) 0 := by
  intro L
  induction L with
  | nil =>
    intro j d c F G h
    obtain ⟨_, _, _, _, hl, _⟩ := h
    rw [List.length_nil] at hl
    omega
  | cons x r ih =>
    intro j d c F G h hK
    obtain ⟨h13, h11, h12, hA, hL, hva, hW, h39, h35, hpn, hCo, hFr, u, P0, hS, hk⟩ := h
    obtain ⟨hj, hd6, hrc⟩ := aSt_bd hA
    have hsd := hT.2.1
    obtain ⟨hR, hpl⟩ := hT.2.2 j _ hA
    rw [List.length_cons] at hL
    have hrl : r.length = d := by omega
    have hx := hva.1
    have hcp := hCo.1
    have hpnd := pnd_le (x :: r)
    rw [pnd] at hpn hpnd
    rw [List.length_cons] at hpnd
    have hrs := rsL_len r
    have hW' : wRow G (opsL x ++ rsL r) := by rw [← wtL_c]; exact hW
    have h39' : F 39 = nI (opsL x ++ rsL r).length := by rw [← wtL_c]; exact h39
    have hcc : c0 ≤ c := hS.1
    have hS' : SK (G 23) (G 24) c0 c (fun w => u w :: (itms x ((evE tk w p (j - p)).1 d) (P0 w d) ++ itL (evE tk w p (j - p)).1 (P0 w) r)) := by
      refine SK_eq hS (fun w => ?_)
      rw [itL, hrl]
    have hkx : ∀ w, okX x ((evE tk w p (j - p)).1 d) (P0 w d) := fun w => by
      have := (hk w).1.1
      rw [hrl] at this
      exact this
    have hr2 := ops_len x
    have wl := wt_len (x :: r)
    rw [List.length_cons, hrl] at wl
    have kd7 : σ.2.1 3 j = 7 ↔ tk j = 10029 := RelT_sg hR (kk := 7) (tt := 10029) (by unfold sgP; omega)
    have kd8 : σ.2.1 3 j = 8 ↔ tk j = 10021 := RelT_sg hR (kk := 8) (tt := 10021) (by unfold sgP; omega)
    have kd9 : σ.2.1 3 j = 9 ↔ tk j = 10022 := RelT_sg hR (kk := 9) (tt := 10022) (by unfold sgP; omega)
    have kd10 : σ.2.1 3 j = 10 ↔ tk j = 10023 := RelT_sg hR (kk := 10) (tt := 10023) (by unfold sgP; omega)
    have hv403 : vp_in (nI j) 403 := vp_in_nI (by omega) (by omega)
    have st5 : stp 5 s d (tk j) = if tk j = 10029 then (if d = 0 then none else some (5, s, d - 1)) else if tk j = 10021 ∨ tk j = 10022 ∨ tk j = 10023 then some (4, s, d) else if d = 0 then stE s d (tk j) else none := rfl
    have g11 : ∀ G', (pM σ F G').1 11 = nI j := fun _ => h11
    -- nothing more
    have endE : ¬ (tk j = 10021 ∨ tk j = 10022 ∨ tk j = 10023) → ¬ (tk j = 10029 ∧ 0 < d) → wpM_expression_281 K Post (pM σ F G) 0 0 := by
      intro nop ncl
      refine ⟨fun _ => ⟨fun c1 => ?_, fun c1 => ?_⟩, fun q => absurd rfl q⟩
      · have c1 : F 12 ≤ 0 := c1
        rw [h12] at c1
        have ed : d = 0 := by
          have := (nI_leI (a := d) (b := 0) (by omega) (by omega)).mp c1
          omega
        subst ed
        have er : r = [] := List.eq_nil_of_length_eq_zero hrl
        subst er
        refine outF hx hW' (rsL_st []) h39' (by rw [rsL, List.length_nil]; omega) h35 (by omega) hS' hkx (fun F' G' ho e39 e35 hS2 => hP F' G' ⟨Fr_ou hFr ho hcc, Or.inr ⟨j, c + (opsL x).length, ?_, ?_, ?_, e35, by omega, hA, ⟨hcp, hCo.2.1, hCo.2.2, ⟨by omega, by omega, by omega, hS2.2.1, fun w => ⟨_, hS2.2.2 w⟩⟩, fun w => ?_⟩, nop⟩⟩)
        · rw [ho.1 13 (by omega) (by omega), h13]
        · rw [ho.1 11 (by omega) (by omega), h11]
        · rw [ho.1 12 (by omega) (by omega), h12]; rfl
        · rw [valM, hS2.2.2 w, (hk w).2.1]
          rfl
      · have c1 : ¬ F 12 ≤ 0 := c1
        rw [h12] at c1
        have ed : ¬ d = 0 := fun z => c1 (by rw [z]; decide)
        have hV : Vd tk 1 j := by
          refine ⟨5, s, d, rc, hA, ?_⟩
          by_cases q : tk j = -1
          · exact Or.inl ⟨q, rfl⟩
          · refine Or.inr (Or.inl ⟨q, ?_, rfl⟩)
            rw [st5, if_neg (fun z => ncl ⟨z, by omega⟩), if_neg nop, if_neg ed]
        refine fail_ok h13 h11 hj ?_
        have hF1 : FS tk pl (va_up (va_up F 13 1) 14 (σ.2.1 4 j)) := FS_fail (F := F) hT hA (Or.inl rfl) hV _ rfl rfl
        refine ⟨(wtL (x :: r)).length + 1, popAny (wtL (x :: r)) _ G c (wt_va _ hva) hW h39 (by omega) h35 (by omega) (fun F' G' p1 p2 p3 _ => hP F' G' ⟨⟨fun j hj => (p2 j hj).trans (hFr.1 j hj), fun j x hj hx => (p3 j x hj (by omega)).trans (hFr.2 j x hj hx)⟩, Or.inl ?_⟩)⟩
        obtain ⟨f, k, a1, a2, a3, a4⟩ := hF1
        exact ⟨f, k, a1, (p1 13 (by omega) (by omega)).trans a2, (p1 14 (by omega) (by omega)).trans a3, a4⟩
    -- behind a sign
    have after : ∀ (F' : Nat → Int32) (G' : Nat → Nat → Int32) (o : Nat) (l : List Nat) (c' : Nat) (y : Nat × Bool), F' 13 = 0 → F' 11 = nI j → F' 12 = nI d → F' 39 = nI l.length → l.length < 47 → F' 35 = nI c' → wRow G' l → Fr c0 G0 G' → (y.1 = 0 ∨ y.1 = 8 ∨ y.1 = 9) → o :: l = wtL (y :: r) → c' + ((opsL y).length + pnd r) ≤ c0 + (j + 1 - p) → (tk j = 10021 ∨ tk j = 10022 ∨ tk j = 10023) →
        SK (G' 23) (G' 24) c0 c' (fun w => itL (evE tk w p (j + 1 - p)).1 (evE tk w p (j + 1 - p)).2 (y :: r)) → (∀ w, okL (evE tk w p (j + 1 - p)).1 (evE tk w p (j + 1 - p)).2 (y :: r)) →
        vp_in ((pM σ F' G').1 39) 48 ∧ ∀ σ2 : MS, σ2 = mA (pM σ F' G') 25 (upd ((pM σ F' G').2.1 25) ((pM σ F' G').1 39).toNatClampNeg (nI o)) → ∀ σ4 : MS, σ4 = mF σ2 39 ((σ2.1 39) + 1) → wpM_next σ4 (fun σ5 => K σ5 0 1) := by
      intro F' G' o l c' y f13 f11 f12 f39 hl f35 hw hfr hy ew hpn' hop hsk hok
      have k39 : ∀ G2, (pM σ F' G2).1 39 = nI l.length := fun _ => f39
      rw [k39, nI_clamp (by omega)]
      refine ⟨vp_in_nI (by omega) (by omega), ?_⟩
      rintro _ rfl _ rfl
      rw [pM_A _ _ _ _ _ (by omega) (by omega), pM_F _ _ _ _ _ (by omega), k39, nI_1]
      have hst : stp 5 s d (tk j) = some (4, s, d) := by
        rw [st5, if_neg (by rcases hop with z | z | z <;> rw [z] <;> decide), if_pos hop]
      have hne : ¬ tk j = -1 := by rcases hop with z | z | z <;> rw [z] <;> decide
      refine next_ok (j := j) f13 f11 hj (fun e4 => hKf _ _ (FS_fail (F := F) hT hA (Or.inr rfl) ⟨5, s, d, rc, hA, Or.inr (Or.inr ⟨hne, rfl, 4, s, d, hst, Or.inl (by omega)⟩)⟩ _ rfl rfl) (Fr_25 hfr)) (fun lt4 => ?_)
      have hdT : depT (tk j) d = d := by rcases hop with z | z | z <;> rw [z] <;> rfl
      have hco : consT (tk j) d := by
        rcases hop with z | z | z
        · exact Or.inr (Or.inr (Or.inl z))
        · exact Or.inr (Or.inr (Or.inr (Or.inl z)))
        · exact Or.inr (Or.inr (Or.inr (Or.inr (Or.inl z))))
      have hCo' := Co_s hCo hco
      rw [hdT] at hCo'
      refine hK (j + 1) d c' (y :: r) _ _ (by omega) ⟨f13, rfl, f12, aSt_s hA hne hst (by unfold rcN; simp; omega), by rw [List.length_cons, hrl], ⟨hy, hva.2⟩, ?_, ?_, f35, by rw [pnd]; exact hpn', hCo', Fr_25 hfr, hsk, hok⟩
      · rw [← ew]
        exact wRow_push hw
      · rw [← ew]
        rfl
    have hcongr : ∀ w a b, itL (upd (evE tk w p (j - p)).1 d a) (upd (evE tk w p (j - p)).2 d b) r = itL (evE tk w p (j - p)).1 (P0 w) r := by
      intro w a b
      refine itL_congr r (fun k hk' => ⟨pk_un (by omega), ?_⟩)
      rw [pk_un (by omega)]
      exact (hk w).2.2 k (by omega)
    have hcongr2 : ∀ w a b, okL (upd (evE tk w p (j - p)).1 d a) (upd (evE tk w p (j - p)).2 d b) r := by
      intro w a b
      refine okL_congr r (fun k hk' => ⟨(pk_un (by omega)).symm, ?_⟩) (hk w).1.2
      rw [pk_un (by omega)]
      exact ((hk w).2.2 k (by omega)).symm
    have more : (tk j = 10021 ∨ tk j = 10022 ∨ tk j = 10023) → wpM_expression_281 K Post (pM σ F G) 0 1 := by
      intro hop
      refine ⟨fun q => absurd q no1, fun _ => ⟨by rw [g11]; exact hv403, ?_⟩⟩
      rw [g11, nI_clamp (by omega)]
      intro y3 ey
      have ey : y3 = σ.2.1 3 j := ey
      refine ⟨fun q10 => ?_, fun q10 => ?_⟩
      · -- a product
        have et : tk j = 10023 := kd10.mp (ey.symm.trans q10)
        have e10 : y3 = nI 10 := q10
        rw [e10]
        refine outT hx hW' (rsL_st r) h39' (by omega) h35 (by omega) hS' hkx (fun F' G' c' ho hw e39 e35 ec hS2 => ?_)
        have hol := ops_len (x.1, false)
        refine after F' G' 10 (opsL (x.1, false) ++ rsL r) c' (x.1, true) ?_ ?_ ?_ e39 (by rw [List.length_append]; omega) e35 hw (Fr_ou hFr ho hcc) hx ?_ (by omega) hop ?_ ?_
        · rw [ho.1 13 (by omega) (by omega), h13]
        · rw [ho.1 11 (by omega) (by omega), h11]
        · rw [ho.1 12 (by omega) (by omega), h12]
        · rw [wtL_c]; rfl
        · refine SK_eq hS2 (fun w => ?_)
          rw [ev_s hCo, et]
          show _ = itms (x.1, true) ((evE tk w p (j - p)).1 r.length) ((evE tk w p (j - p)).2 r.length) ++ itL (evE tk w p (j - p)).1 (evE tk w p (j - p)).2 r
          rw [hrl, (hk w).2.1]
          congr 1
          exact (itL_congr r (fun k hk' => ⟨rfl, (hk w).2.2 k (by omega)⟩)).symm
        · intro w
          rw [ev_s hCo, et]
          refine ⟨⟨fun z => ?_, fun z => absurd (show true = false from z) (by decide)⟩, okL_congr r (fun k hk' => ⟨rfl, ((hk w).2.2 k (by omega)).symm⟩) (hk w).1.2⟩
          show (evE tk w p (j - p)).1 r.length = 0
          rw [hrl]
          exact (hkx w).1 z
      · -- a sum
        have np : ¬ tk j = 10023 := fun z => q10 (ey.trans (kd10.mpr z))
        have go : ∀ o : Nat, (o = 8 ∨ o = 9) → y3 = nI o → (∀ w, evT w (tk j) d (evE tk w p (j - p)) = (upd (evE tk w p (j - p)).1 d ((evE tk w p (j - p)).1 d + (evE tk w p (j - p)).2 d), upd (evE tk w p (j - p)).2 d (sgn o))) → wpM_expression_329 K Post (pM σ F G) 0 1 y3 0 := by
          intro o ho8 eo hev
          rw [eo]
          refine outF hx hW' (rsL_st r) h39' (by omega) h35 (by omega) hS' hkx (fun F' G' ho e39 e35 hS2 => ?_)
          have hol : opsL (o, false) = [o] := by rcases ho8 with rfl | rfl <;> rfl
          refine after F' G' o (rsL r) (c + (opsL x).length) (o, false) ?_ ?_ ?_ e39 (by omega) e35 (wRow_g ho.2.2.1 (wRow_d _ hW')) (Fr_ou hFr ho hcc) (Or.inr ho8) ?_ ?_ hop ?_ ?_
          · rw [ho.1 13 (by omega) (by omega), h13]
          · rw [ho.1 11 (by omega) (by omega), h11]
          · rw [ho.1 12 (by omega) (by omega), h12]
          · rw [wtL_c, hol]; rfl
          · rw [hol, List.length_cons, List.length_nil]; omega
          · refine SK_eq hS2 (fun w => ?_)
            rw [ev_s hCo, hev w]
            show _ = itms (o, false) (upd (evE tk w p (j - p)).1 d ((evE tk w p (j - p)).1 d + (evE tk w p (j - p)).2 d) r.length) (upd (evE tk w p (j - p)).2 d (sgn o) r.length) ++ itL (upd (evE tk w p (j - p)).1 d ((evE tk w p (j - p)).1 d + (evE tk w p (j - p)).2 d)) (upd (evE tk w p (j - p)).2 d (sgn o)) r
            rw [hcongr w, hrl, pk_us, (hk w).2.1]
            have : ∀ a b, itms (o, false) a b = [a] := by rcases ho8 with rfl | rfl <;> exact fun a b => rfl
            rw [this]
            rfl
          · intro w
            rw [ev_s hCo, hev w]
            refine ⟨⟨fun z => ?_, fun _ => ?_⟩, hcongr2 w _ _⟩
            · have z : o = 0 := z
              omega
            · show upd (evE tk w p (j - p)).2 d (sgn o) r.length = sgn o
              rw [hrl, pk_us]
        rcases hop with z | z | z
        · exact go 8 (Or.inl rfl) (ey.trans (kd8.mpr z)) (fun w => by rw [z]; rfl)
        · exact go 9 (Or.inr rfl) (ey.trans (kd9.mpr z)) (fun w => by rw [z]; rfl)
        · exact absurd z np
    have h249 : ¬ (tk j = 10029 ∧ 0 < d) → wpM_expression_249 K Post (pM σ F G) 0 := by
      intro ncl
      refine is_ok h13 h11 hj (fun q => ⟨fun z => absurd z no1, fun _ => more (Or.inl (kd8.mp q))⟩) (fun q8 => ⟨fun _ => is_ok h13 h11 hj (fun q => ⟨fun z => absurd z no1, fun _ => more (Or.inr (Or.inl (kd9.mp q)))⟩) (fun q9 => ⟨fun _ => is_ok h13 h11 hj (fun q => ⟨fun z => absurd z no1, fun _ => more (Or.inr (Or.inr (kd10.mp q)))⟩) (fun q10 => ⟨fun _ => endE ?_ ncl, fun z => absurd rfl z⟩), fun z => absurd rfl z⟩), fun z => absurd rfl z⟩)
      rintro (z | z | z)
      · exact q8 (kd8.mpr z)
      · exact q9 (kd9.mpr z)
      · exact q10 (kd10.mpr z)
    refine is_ok h13 h11 hj (fun q7 => ⟨fun z => absurd z no1, fun _ => ⟨fun c1 => h249 (fun z => ?_), fun c1 => ?_⟩⟩) (fun q7 => ⟨fun _ => h249 (fun z => q7 (kd7.mpr z.1)), fun z => absurd rfl z⟩)
    · have c1 : F 12 ≤ 0 := c1
      rw [h12] at c1
      have := (nI_leI (a := d) (b := 0) (by omega) (by omega)).mp c1
      omega
    · have c1 : ¬ F 12 ≤ 0 := c1
      rw [h12] at c1
      have ed : ¬ d = 0 := fun z => c1 (by rw [z]; decide)
      have et : tk j = 10029 := kd7.mp q7
      cases r with
      | nil => rw [List.length_nil] at hrl; omega
      | cons y r' =>
        refine outF hx hW' (rsL_st _) h39' (by omega) h35 (by omega) hS' hkx (fun F' G' ho e39 e35 hS2 => ?_)
        rintro _ rfl _ rfl
        have e391 : (pM σ F' G').1 39 - 1 = nI (wtL (y :: r')).length := by
          show F' 39 - 1 = _
          rw [e39, rsL, List.length_cons, nI_pred]
        rw [e391, pM_F _ _ _ _ _ (by omega)]
        have e121 : (pM σ (va_up F' 39 (nI (wtL (y :: r')).length)) G').1 12 - 1 = nI (d - 1) := by
          show F' 12 - 1 = _
          rw [ho.1 12 (by omega) (by omega), h12]
          exact pk_sub (a := d) (b := 1) (by omega)
        rw [e121, pM_F _ _ _ _ _ (by omega)]
        have hw6 : wRow G' (wtL (y :: r')) := wRow_g ho.2.2.1 (wRow_top (a := 6) (wRow_d (opsL x) (l2 := rsL (y :: r')) hW')).2
        have hst : stp 5 s d (tk j) = some (5, s, d - 1) := by rw [st5, if_pos et, if_neg ed]
        have hne : ¬ tk j = -1 := by rw [et]; decide
        have f13 : F' 13 = 0 := by rw [ho.1 13 (by omega) (by omega), h13]
        have f11 : F' 11 = nI j := by rw [ho.1 11 (by omega) (by omega), h11]
        have hwl := wt_len (y :: r')
        rw [List.length_cons] at hwl hrl
        rw [List.length_cons] at hrs
        refine next_ok (j := j) f13 f11 hj (fun e4 => ?_) (fun lt4 => ?_)
        · exact exprFail (FS_fail (F := F) hT hA (Or.inr rfl) ⟨5, s, d, rc, hA, Or.inr (Or.inr ⟨hne, rfl, 5, s, d - 1, hst, Or.inl (by omega)⟩)⟩ _ rfl rfl) (Fr_ou hFr ho hcc) (wt_va _ hva.2) hw6 rfl (by omega) e35 (by omega) (by omega) hP
        · have hdT : depT (tk j) d = d - 1 := by rw [et]; rfl
          have hCo' := Co_s hCo (show consT (tk j) d from Or.inr (Or.inr (Or.inr (Or.inr (Or.inr (Or.inr ⟨et, by omega⟩))))))
          rw [hdT] at hCo'
          refine ih (j + 1) (d - 1) (c + (opsL x).length) _ G' ⟨f13, rfl, rfl, aSt_s hA hne hst (by unfold rcN; simp; omega), by rw [List.length_cons]; omega, hva.2, hw6, rfl, e35, by omega, hCo', Fr_ou hFr ho hcc, (fun w => (evE tk w p (j - p)).1 d + (evE tk w p (j - p)).2 d), (fun w => (evE tk w p (j - p)).2), ?_, fun w => ?_⟩ (fun j' d' c' L' F' G' hj' => hK j' d' c' L' F' G' (by omega))
          · refine SK_eq hS2 (fun w => ?_)
            rw [ev_s hCo, et]
            show _ = ((evE tk w p (j - p)).1 d + (evE tk w p (j - p)).2 d) :: itL (evE tk w p (j - p)).1 (evE tk w p (j - p)).2 (y :: r')
            rw [(hk w).2.1]
            congr 1
            exact (itL_congr (y :: r') (fun k hk' => ⟨rfl, (hk w).2.2 k (by rw [List.length_cons] at hk'; omega)⟩)).symm
          · rw [ev_s hCo, et]
            refine ⟨okL_congr (y :: r') (fun k hk' => ⟨rfl, ((hk w).2.2 k (by rw [List.length_cons] at hk'; omega)).symm⟩) (hk w).1.2, ?_, fun k hk' => ?_⟩
            · show upd (evE tk w p (j - p)).2 (d - 1) _ (d - 1) = _
              rw [pk_us]
            · show upd (evE tk w p (j - p)).2 (d - 1) _ k = _
              rw [pk_un (by omega)]
