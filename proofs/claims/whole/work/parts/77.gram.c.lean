/-! the reference's state while it reads; what comes out -/
def inF (k : Nat) : Prop := k = 11 ∨ k = 12 ∨ k = 13 ∨ k = 14 ∨ k = 35 ∨ k = 39
def pM (σ : MS) (F : Nat → Int32) (G : Nat → Nat → Int32) : MS := ((fun k => if k = 11 ∨ k = 12 ∨ k = 13 ∨ k = 14 ∨ k = 35 ∨ k = 39 then F k else σ.1 k), (fun j => if 10 ≤ j ∧ j ≤ 25 then G j else σ.2.1 j), σ.2.2)
theorem pM_F (σ : MS) (F : Nat → Int32) (G : Nat → Nat → Int32) (k : Nat) (v : Int32) (h : k = 11 ∨ k = 12 ∨ k = 13 ∨ k = 14 ∨ k = 35 ∨ k = 39) : mF (pM σ F G) k v = pM σ (va_up F k v) G := by
  have : va_up (fun k => if k = 11 ∨ k = 12 ∨ k = 13 ∨ k = 14 ∨ k = 35 ∨ k = 39 then F k else σ.1 k) k v = (fun i => if i = 11 ∨ i = 12 ∨ i = 13 ∨ i = 14 ∨ i = 35 ∨ i = 39 then va_up F k v i else σ.1 i) := by
    funext i
    show (if i = k then v else if i = 11 ∨ i = 12 ∨ i = 13 ∨ i = 14 ∨ i = 35 ∨ i = 39 then F i else σ.1 i) = if i = 11 ∨ i = 12 ∨ i = 13 ∨ i = 14 ∨ i = 35 ∨ i = 39 then (if i = k then v else F i) else σ.1 i
    by_cases e : i = k
    · rw [if_pos e, if_pos (by rw [e]; exact h), if_pos e]
    · rw [if_neg e, if_neg e]
  show (va_up (fun k => if k = 11 ∨ k = 12 ∨ k = 13 ∨ k = 14 ∨ k = 35 ∨ k = 39 then F k else σ.1 k) k v, _) = _
  rw [this]
  rfl
theorem pM_A (σ : MS) (F : Nat → Int32) (G : Nat → Nat → Int32) (j : Nat) (f : Nat → Int32) (h1 : 10 ≤ j) (h2 : j ≤ 25) : mA (pM σ F G) j f = pM σ F (va_up G j f) := by
  have : va_up (fun i => if 10 ≤ i ∧ i ≤ 25 then G i else σ.2.1 i) j f = (fun i => if 10 ≤ i ∧ i ≤ 25 then va_up G j f i else σ.2.1 i) := by
    funext i
    show (if i = j then f else if 10 ≤ i ∧ i ≤ 25 then G i else σ.2.1 i) = if 10 ≤ i ∧ i ≤ 25 then (if i = j then f else G i) else σ.2.1 i
    by_cases e : i = j
    · rw [if_pos e, if_pos (by omega), if_pos e]
    · rw [if_neg e, if_neg e]
  show (_, va_up (fun i => if 10 ≤ i ∧ i ≤ 25 then G i else σ.2.1 i) j f, _) = _
  rw [this]
  rfl
theorem is_ok {σ : MS} {F : Nat → Int32} {G : Nat → Nat → Int32} {j : Nat} {k : Int32} {Post : Int32 → MS → Prop} (h13 : F 13 = 0) (h11 : F 11 = nI j) (hj : j ≤ 400) (h1 : σ.2.1 3 j = k → Post 1 (pM σ F G)) (h0 : ¬ σ.2.1 3 j = k → Post 0 (pM σ F G)) : wpM_is (pM σ F G) k Post := by
  have g11 : (pM σ F G).1 11 = nI j := h11
  unfold wpM_is
  rw [g11, nI_clamp (by omega)]
  exact ⟨fun _ => ⟨vp_in_nI (by omega) (by omega), h1, h0⟩, fun q => absurd h13 q⟩
theorem is_no {σ : MS} {F : Nat → Int32} {G : Nat → Nat → Int32} {k : Int32} {Post : Int32 → MS → Prop} (h13 : ¬ F 13 = 0) (h0 : Post 0 (pM σ F G)) : wpM_is (pM σ F G) k Post := ⟨fun q => absurd q h13, fun _ => h0⟩
theorem fail_ok {σ : MS} {F : Nat → Int32} {G : Nat → Nat → Int32} {j : Nat} {k : Int32} {Post : MS → Prop} (h13 : F 13 = 0) (h11 : F 11 = nI j) (hj : j ≤ 400) (h : Post (pM σ (va_up (va_up F 13 k) 14 (σ.2.1 4 j)) G)) : wpM_fail (pM σ F G) k Post := by
  refine ⟨fun _ => ?_, fun q => absurd ?_ q⟩
  · rintro _ rfl
    rw [pM_F _ _ _ _ _ (by omega)]
    have g11 : (pM σ (va_up F 13 k) G).1 11 = nI j := h11
    rw [g11, nI_clamp (by omega)]
    refine ⟨vp_in_nI (by omega) (by omega), ?_⟩
    rintro _ rfl
    rw [pM_F _ _ _ _ _ (by omega)]
    exact h
  · show F 13 ≤ 0
    rw [h13]
    decide
theorem fail_no {σ : MS} {F : Nat → Int32} {G : Nat → Nat → Int32} {k : Int32} {Post : MS → Prop} (h13 : ¬ F 13 ≤ 0) (h : Post (pM σ F G)) : wpM_fail (pM σ F G) k Post := ⟨fun q => absurd q h13, fun _ => h⟩
theorem next_ok {σ : MS} {F : Nat → Int32} {G : Nat → Nat → Int32} {j : Nat} {Post : MS → Prop} (h13 : F 13 = 0) (h11 : F 11 = nI j) (hj : j ≤ 400) (h4 : j = 400 → Post (pM σ (va_up (va_up F 13 2) 14 (σ.2.1 4 j)) G)) (h : j < 400 → Post (pM σ (va_up F 11 (nI (j + 1))) G)) : wpM_next (pM σ F G) Post := by
  have g11 : (pM σ F G).1 11 = nI j := h11
  unfold wpM_next
  rw [g11]
  refine ⟨fun c => fail_ok h13 h11 hj (h4 ?_), fun c => ?_⟩
  · exact (nI_eq (a := j) (b := 400) (by omega) (by omega)).mp c
  · rintro _ rfl
    rw [nI_1, pM_F _ _ _ _ _ (by omega)]
    refine h (Nat.lt_of_le_of_ne hj (fun z => c (by rw [z]; rfl)))
theorem next_no {σ : MS} {F : Nat → Int32} {G : Nat → Nat → Int32} {Post : MS → Prop} (h13 : ¬ F 13 ≤ 0) (h : ∀ v, Post (pM σ (va_up F 11 v) G)) : wpM_next (pM σ F G) Post := by
  refine ⟨fun c => fail_no h13 ?_, fun c => ?_⟩
  · have := h (F 11)
    have e : va_up F 11 (F 11) = F := by
      funext k
      show (if k = 11 then F 11 else F k) = F k
      by_cases q : k = 11
      · rw [if_pos q, q]
      · rw [if_neg q]
    rw [e] at this
    exact this
  · rintro _ rfl
    rw [pM_F _ _ _ _ _ (by omega)]
    exact h _
theorem emitM {σ : MS} {F : Nat → Int32} {G : Nat → Nat → Int32} {c : Nat} {k v : Int32} {Post : MS → Prop} (h35 : F 35 = nI c) (hc : c < 4500) (h : Post (pM σ (va_up F 35 (nI (c + 1))) (va_up (va_up G 23 (upd (G 23) c k)) 24 (upd (G 24) c v)))) : wpM_emit (pM σ F G) k v Post := by
  have hv : vp_in (nI c) 4500 := vp_in_nI hc (by omega)
  have g35 : ∀ G', (pM σ F G').1 35 = nI c := fun _ => h35
  unfold wpM_emit
  rw [g35, nI_clamp (by omega)]
  refine ⟨hv, ?_⟩
  rintro _ rfl
  rw [pM_A _ _ _ _ _ (by omega) (by omega), g35, nI_clamp (by omega)]
  refine ⟨hv, ?_⟩
  rintro _ rfl
  rw [pM_A _ _ _ _ _ (by omega) (by omega), g35, nI_1]
  rintro _ rfl
  rw [pM_F _ _ _ _ _ (by omega)]
  exact h
/-- the code from c0 up to c; what it leaves on the pile -/
def SK (cd ci : Nat → Int32) (c0 c : Nat) (st : (Nat → Int32) → List Int32) : Prop := c0 ≤ c ∧ (∀ j, j < c - c0 → okI cd ci c0 j) ∧ ∀ w, stkM cd ci w c0 (c - c0) = st w
theorem stkM_upd {cd ci w : Nat → Int32} {c0 c : Nat} {k v : Int32} : ∀ j, c0 + j ≤ c → stkM (upd cd c k) (upd ci c v) w c0 j = stkM cd ci w c0 j := by
  intro j
  induction j with
  | zero => intro _; rfl
  | succ j ih =>
    intro h
    rw [stkM, stkM, ih (by omega), pk_un (by omega), pk_un (by omega)]
theorem okI_upd {cd ci : Nat → Int32} {c0 c j : Nat} {k v : Int32} (h : c0 + j < c) : okI cd ci c0 j → okI (upd cd c k) (upd ci c v) c0 j := by
  unfold okI
  rw [pk_un (by omega), pk_un (by omega)]
  rintro (q | q | ⟨q, q2⟩)
  · exact Or.inl q
  · exact Or.inr (Or.inl q)
  · exact Or.inr (Or.inr ⟨q, fun w => by rw [stkM_upd j (by omega)]; exact q2 w⟩)
theorem SK_s {cd ci : Nat → Int32} {c0 c : Nat} {st st' : (Nat → Int32) → List Int32} {k v : Int32} (h : SK cd ci c0 c st) (ho : k = 0 ∨ (k = 1 ∧ ∃ x, x < 12 ∧ v = nI x) ∨ ((k = 2 ∨ k = 3 ∨ k = 4) ∧ ∀ w, 2 ≤ (st w).length)) (hs : ∀ w, stepM k v w (st w) = st' w) : SK (upd cd c k) (upd ci c v) c0 (c + 1) st' := by
  obtain ⟨h1, h2, h3⟩ := h
  have e1 : c + 1 - c0 = (c - c0) + 1 := by omega
  have e2 : c0 + (c - c0) = c := by omega
  refine ⟨by omega, fun j hj => ?_, fun w => ?_⟩
  · by_cases e : j = c - c0
    · subst e
      unfold okI
      rw [e2, pk_us, pk_us]
      rcases ho with q | q | ⟨q, q2⟩
      · exact Or.inl q
      · exact Or.inr (Or.inl q)
      · exact Or.inr (Or.inr ⟨q, fun w => by rw [stkM_upd _ (by omega), h3]; exact q2 w⟩)
    · exact okI_upd (by omega) (h2 j (by omega))
  · rw [e1, stkM, e2, pk_us, pk_us, stkM_upd _ (by omega), h3, hs]
/-- one level: the sign that waits, whether a product waits -/
def opsL (x : Nat × Bool) : List Nat := (if x.2 = true then [10] else []) ++ (if x.1 = 0 then [] else [x.1])
def wtL : List (Nat × Bool) → List Nat
  | [] => []
  | [x] => opsL x
  | x :: y :: r => opsL x ++ 6 :: wtL (y :: r)
def sgn (o : Nat) : Int32 := if o = 9 then -1 else 1
def sgx (o : Nat) (x : Int32) : Int32 := if o = 9 then -x else x
def itms (x : Nat × Bool) (S P : Int32) : List Int32 := (if x.2 = true then [sgx x.1 P] else []) ++ (if x.1 = 0 then [] else [S])
def itL (S P : Nat → Int32) : List (Nat × Bool) → List Int32
  | [] => []
  | x :: r => itms x (S r.length) (P r.length) ++ itL S P r
def okX (x : Nat × Bool) (S P : Int32) : Prop := (x.1 = 0 → S = 0) ∧ (x.2 = false → P = sgn x.1)
def okL (S P : Nat → Int32) : List (Nat × Bool) → Prop
  | [] => True
  | x :: r => okX x (S r.length) (P r.length) ∧ okL S P r
def vaL : List (Nat × Bool) → Prop
  | [] => True
  | x :: r => (x.1 = 0 ∨ x.1 = 8 ∨ x.1 = 9) ∧ vaL r
def pnd : List (Nat × Bool) → Nat
  | [] => 0
  | x :: r => (opsL x).length + pnd r
theorem ops_len (x : Nat × Bool) : (opsL x).length ≤ 2 := by
  unfold opsL
  cases x.2 <;> by_cases h : x.1 = 0 <;> simp [h]
theorem pnd_le : ∀ L : List (Nat × Bool), pnd L ≤ 2 * L.length
  | [] => Nat.le_refl _
  | x :: r => by
    have := pnd_le r
    have := ops_len x
    rw [pnd, List.length_cons]
    omega
theorem wt_len : ∀ L : List (Nat × Bool), (wtL L).length ≤ 3 * L.length
  | [] => Nat.le_refl _
  | [x] => by
    have := ops_len x
    rw [wtL, List.length_cons, List.length_nil]
    omega
  | x :: y :: r => by
    have := wt_len (y :: r)
    have := ops_len x
    rw [wtL, List.length_append, List.length_cons]
    rw [List.length_cons (a := x)]
    omega
theorem wt_pnd : ∀ L : List (Nat × Bool), (wtL L).length + 1 ≤ pnd L + L.length + 1
  | [] => Nat.le_refl _
  | [x] => by
    rw [wtL, pnd, pnd, List.length_cons, List.length_nil]
    omega
  | x :: y :: r => by
    have := wt_pnd (y :: r)
    rw [wtL, pnd, List.length_append, List.length_cons, List.length_cons (a := x)]
    omega
/-- the row of what waits -/
def wRow (G : Nat → Nat → Int32) (l : List Nat) : Prop := pileOK (G 25) (l.map nI)
theorem wRow_top {G : Nat → Nat → Int32} {a : Nat} {l : List Nat} (h : wRow G (a :: l)) : G 25 l.length = nI a ∧ wRow G l := by
  have h1 := h.1
  rw [List.length_map] at h1
  exact ⟨h1, h.2⟩
theorem wRow_push {G : Nat → Nat → Int32} {a : Nat} {l : List Nat} (h : wRow G l) : wRow (va_up G 25 (upd (G 25) l.length (nI a))) (a :: l) := by
  refine ⟨?_, ?_⟩
  · rw [List.length_map]
    exact pk_us
  · exact pileOK_upd (by rw [List.length_map]; exact Nat.le_refl _) h
/-- one sign comes out -/
theorem pop1 {σ : MS} {F : Nat → Int32} {G : Nat → Nat → Int32} {c g a : Nat} {l : List Nat} {x1 : Int32} {Post : MS → Prop} (hW : wRow G (a :: l)) (h39 : F 39 = nI (l.length + 1)) (hl : l.length < 47) (h35 : F 35 = nI c) (hc : c < 4500) (ha : a = 8 ∨ a = 9 ∨ a = 10) (hx : x1 = 0 ∨ a = 10)
    (h : wpM_comesOut_0 Post g (pM σ (va_up (va_up F 39 (nI l.length)) 35 (nI (c + 1))) (va_up (va_up G 23 (upd (G 23) c (if a = 8 then 2 else if a = 9 then 3 else 4))) 24 (upd (G 24) c 0))) x1) : wpM_comesOut_0 Post (g + 1) (pM σ F G) x1 := by
  have g39 : (pM σ F G).1 39 = nI (l.length + 1) := h39
  have e1 : nI (l.length + 1) - 1 = nI l.length := nI_pred _
  have et : (pM σ F G).2.1 25 l.length = nI a := (wRow_top hW).1
  have h43 : wpM_comesOut_43 (fun a0 a1 => wpM_comesOut_0 Post g a0 a1) Post (pM σ F G) x1 := by
    rintro _ rfl
    rw [g39, e1, pM_F _ _ _ _ _ (by omega)]
    have g39' : (pM σ (va_up F 39 (nI l.length)) G).1 39 = nI l.length := rfl
    rw [g39', nI_clamp (by omega)]
    refine ⟨vp_in_nI (by omega) (by omega), ?_⟩
    intro y ey
    have ey : y = nI a := ey.trans et
    subst ey
    have fin : ∀ k, k = (if a = 8 then 2 else if a = 9 then 3 else (4 : Int32)) → wpM_comesOut_85 (fun a0 a1 => wpM_comesOut_0 Post g a0 a1) Post (pM σ (va_up F 39 (nI l.length)) G) x1 k := by
      rintro _ rfl
      exact emitM (F := va_up F 39 (nI l.length)) h35 hc h
    have n8 : nI a = 8 ↔ a = 8 := nI_eq (a := a) (b := 8) (by omega) (by omega)
    have n9 : nI a = 9 ↔ a = 9 := nI_eq (a := a) (b := 9) (by omega) (by omega)
    refine ⟨fun q => fin 2 (by rw [if_pos (n8.mp q)]), fun q => ⟨fun q2 => fin 3 (by rw [if_neg (fun z => q (n8.mpr z)), if_pos (n9.mp q2)]), fun q2 => fin 4 (by rw [if_neg (fun z => q (n8.mpr z)), if_neg (fun z => q2 (n9.mpr z))])⟩⟩
  unfold wpM_comesOut_0
  rw [g39, e1, nI_clamp (by omega), et]
  refine ⟨fun q => absurd q (nI_nle (by omega) (by omega)), fun _ => ⟨vp_in_nI (by omega) (by omega), fun q => ?_, fun q => ⟨fun _ => h43, fun q2 => ⟨vp_in_nI (by omega) (by omega), fun _ => h43, fun q3 => ?_⟩⟩⟩⟩
  · have := (nI_eq (a := a) (b := 6) (by omega) (by omega)).mp q
    omega
  · rcases hx with z | z
    · exact absurd z q2
    · rw [z] at q3; exact absurd rfl q3
/-- nothing more comes out -/
theorem pop0 {σ : MS} {F : Nat → Int32} {G : Nat → Nat → Int32} {g : Nat} {l : List Nat} {x1 : Int32} {Post : MS → Prop} (hW : wRow G l) (h39 : F 39 = nI l.length) (hl : l.length < 48) (hs : l = [] ∨ ∃ a r, l = a :: r ∧ a < 11 ∧ (a = 6 ∨ ¬ x1 = 0 ∧ ¬ a = 10)) (h : Post (pM σ F G)) : wpM_comesOut_0 Post (g + 1) (pM σ F G) x1 := by
  have g39 : (pM σ F G).1 39 = nI l.length := h39
  rcases hs with rfl | ⟨a, r, rfl, ha, hs⟩
  · unfold wpM_comesOut_0
    rw [g39]
    exact ⟨fun _ => h, fun q => absurd (by decide) q⟩
  · have e1 : nI (r.length + 1) - 1 = nI r.length := nI_pred _
    have et : (pM σ F G).2.1 25 r.length = nI a := (wRow_top hW).1
    rw [List.length_cons] at g39 hl
    unfold wpM_comesOut_0
    rw [g39, e1, nI_clamp (by omega), et]
    have n6 : nI a = 6 ↔ a = 6 := nI_eq (a := a) (b := 6) (by omega) (by omega)
    have n10 : nI a = 10 ↔ a = 10 := nI_eq (a := a) (b := 10) (by omega) (by omega)
    refine ⟨fun q => absurd q (nI_nle (by omega) (by omega)), fun _ => ⟨vp_in_nI (by omega) (by omega), fun _ => h, fun q => ⟨fun q2 => ?_, fun q2 => ⟨vp_in_nI (by omega) (by omega), fun q3 => ?_, fun _ => h⟩⟩⟩⟩
    · rcases hs with z | z
      · exact absurd (n6.mpr z) q
      · exact absurd q2 z.1
    · rcases hs with z | z
      · exact absurd (n6.mpr z) q
      · exact absurd (n10.mp q3) z.2
/-- whatever waits: something comes out, and nothing else is touched -/
theorem popAny {σ : MS} {Post : MS → Prop} {x1 : Int32} : ∀ (l : List Nat) (F : Nat → Int32) (G : Nat → Nat → Int32) (c : Nat), (∀ a, a ∈ l → a = 6 ∨ a = 8 ∨ a = 9 ∨ a = 10) → wRow G l → F 39 = nI l.length → l.length < 48 → F 35 = nI c → c + l.length < 4500 →
    (∀ F' G', (∀ k, ¬ k = 35 → ¬ k = 39 → F' k = F k) → (∀ j, j ≤ 22 → G' j = G j) → (∀ j x, j = 23 ∨ j = 24 → x < c → G' j x = G j x) → (∃ l', F' 39 = nI l' ∧ l' ≤ l.length) → Post (pM σ F' G')) → wpM_comesOut_0 Post (l.length + 1) (pM σ F G) x1 := by
  intro l
  induction l with
  | nil =>
    intro F G c _ hW h39 hl h35 hc hP
    exact pop0 hW h39 hl (Or.inl rfl) (hP F G (fun _ _ _ => rfl) (fun _ _ => rfl) (fun _ _ _ _ => rfl) ⟨0, h39, Nat.le_refl _⟩)
  | cons a r ih =>
    intro F G c hva hW h39 hl h35 hc hP
    rw [List.length_cons] at h39 hl hc
    have same : Post (pM σ F G) := hP F G (fun _ _ _ => rfl) (fun _ _ => rfl) (fun _ _ _ _ => rfl) ⟨r.length + 1, h39, Nat.le_refl _⟩
    have ha := hva a (List.mem_cons_self)
    by_cases e6 : a = 6
    · exact pop0 hW h39 hl (Or.inr ⟨a, r, rfl, by omega, Or.inl e6⟩) same
    · by_cases hx : x1 = 0 ∨ a = 10
      · refine pop1 hW h39 (by omega) h35 (by omega) (by omega) hx ?_
        refine ih _ _ (c + 1) (fun b hb => hva b (List.mem_cons_of_mem _ hb)) ?_ rfl (by omega) rfl (by omega) (fun F' G' p1 p2 p3 p4 => hP F' G' (fun k k1 k2 => ?_) (fun j hj => ?_) (fun j x hj hx => ?_) ?_)
        · exact (wRow_top hW).2
        · rw [p1 k k1 k2]
          show (if k = 35 then _ else if k = 39 then _ else F k) = F k
          rw [if_neg k1, if_neg k2]
        · rw [p2 j hj]
          show (if j = 24 then _ else if j = 23 then _ else G j) = G j
          rw [if_neg (by omega), if_neg (by omega)]
        · rw [p3 j x hj (by omega)]
          rcases hj with rfl | rfl
          · show upd (G 23) c _ x = _
            exact pk_un (by omega)
          · show upd (G 24) c _ x = _
            exact pk_un (by omega)
        · obtain ⟨l', e1, e2⟩ := p4
          exact ⟨l', e1, by rw [List.length_cons]; omega⟩
      · refine pop0 hW h39 hl (Or.inr ⟨a, r, rfl, by omega, Or.inr ⟨fun z => hx (Or.inl z), fun z => hx (Or.inr z)⟩⟩) same
theorem wt_va : ∀ L : List (Nat × Bool), vaL L → ∀ a, a ∈ wtL L → a = 6 ∨ a = 8 ∨ a = 9 ∨ a = 10
  | [], _, a, h => absurd h (by simp [wtL])
  | [x], hv, a, h => by
    have hx := hv.1
    unfold wtL opsL at h
    rw [List.mem_append] at h
    rcases h with h | h
    · split at h
      · simp at h; omega
      · simp at h
    · split at h
      · simp at h
      · simp at h; omega
  | x :: y :: r, hv, a, h => by
    have hx := hv.1
    rw [wtL, List.mem_append, List.mem_cons] at h
    rcases h with h | h | h
    · unfold opsL at h
      rw [List.mem_append] at h
      rcases h with h | h
      · split at h
        · simp at h; omega
        · simp at h
      · split at h
        · simp at h
        · simp at h; omega
    · exact Or.inl h
    · exact wt_va (y :: r) hv.2 a h
