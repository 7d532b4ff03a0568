/-! signs come out; kinds and TOKENS -/
theorem ri1 (u : Int32) : u = 0 + 1 * u := by grind
theorem ri2 (s u : Int32) : s + u = s + 1 * u := by grind
theorem ri3 (s u : Int32) : s - u = s + (-1) * u := by grind
theorem ri4 (p u : Int32) : p * u = 0 + p * u := by grind
theorem ri5 (s p u : Int32) : s - -p * u = s + p * u := by grind
theorem opM2 (a b : Int32) : opM 2 a b = a + b := rfl
theorem opM3 (a b : Int32) : opM 3 a b = a - b := rfl
theorem opM4 (a b : Int32) : opM 4 a b = a * b := rfl
theorem step_op {k v a b : Int32} {w : Nat → Int32} {r : List Int32} (hk : k = 2 ∨ k = 3 ∨ k = 4) : stepM k v w (b :: a :: r) = opM k a b :: r := by
  rcases hk with rfl | rfl | rfl <;> exact stepM_2 (by decide) (by decide)
/-- what coming out leaves -/
def OuF (F F' : Nat → Int32) (G G' : Nat → Nat → Int32) (c : Nat) : Prop := (∀ k, ¬ k = 35 → ¬ k = 39 → F' k = F k) ∧ (∀ j, j ≤ 22 → G' j = G j) ∧ G' 25 = G 25 ∧ ∀ j x, j = 23 ∨ j = 24 → x < c → G' j x = G j x
theorem OuF_0 (F : Nat → Int32) (G : Nat → Nat → Int32) (c : Nat) : OuF F F G G c := ⟨fun _ _ _ => rfl, fun _ _ => rfl, rfl, fun _ _ _ _ => rfl⟩
theorem OuF_1 {F F0 : Nat → Int32} {G G0 : Nat → Nat → Int32} {c0 c : Nat} {l k v : Int32} {e : Int32} (h : OuF F0 F G0 G c0) (hc : c0 ≤ c) : OuF F0 (va_up (va_up F 39 l) 35 e) G0 (va_up (va_up G 23 (upd (G 23) c k)) 24 (upd (G 24) c v)) c0 := by
  obtain ⟨h1, h2, h3, h4⟩ := h
  refine ⟨fun k k1 k2 => ?_, fun j hj => ?_, h3, fun j x hj hx => ?_⟩
  · show (if k = 35 then _ else if k = 39 then _ else F k) = F0 k
    rw [if_neg k1, if_neg k2]
    exact h1 k k1 k2
  · show (if j = 24 then _ else if j = 23 then _ else G j) = G0 j
    rw [if_neg (by omega), if_neg (by omega)]
    exact h2 j hj
  · rw [← h4 j x hj hx]
    rcases hj with rfl | rfl
    · show upd (G 23) c _ x = _
      exact pk_un (by omega)
    · show upd (G 24) c _ x = _
      exact pk_un (by omega)
theorem SK_op {cd ci : Nat → Int32} {c0 c : Nat} {k : Int32} {a b : (Nat → Int32) → Int32} {R : (Nat → Int32) → List Int32} (hk : k = 2 ∨ k = 3 ∨ k = 4) (h : SK cd ci c0 c (fun w => b w :: a w :: R w)) : SK (upd cd c k) (upd ci c 0) c0 (c + 1) (fun w => opM k (a w) (b w) :: R w) :=
  SK_s h (Or.inr (Or.inr ⟨hk, fun w => by simp⟩)) (fun w => step_op hk)
theorem SK_eq {cd ci : Nat → Int32} {c0 c : Nat} {st st' : (Nat → Int32) → List Int32} (h : SK cd ci c0 c st) (e : ∀ w, st w = st' w) : SK cd ci c0 c st' := ⟨h.1, h.2.1, fun w => (h.2.2 w).trans (e w)⟩
theorem outF {σ : MS} {F : Nat → Int32} {G : Nat → Nat → Int32} {c c0 : Nat} {x : Nat × Bool} {rest : List Nat} {u S P : (Nat → Int32) → Int32} {R : (Nat → Int32) → List Int32} {Post : MS → Prop} (hx : x.1 = 0 ∨ x.1 = 8 ∨ x.1 = 9) (hW : wRow G (opsL x ++ rest)) (hr : rest = [] ∨ ∃ r, rest = 6 :: r) (h39 : F 39 = nI (opsL x ++ rest).length) (hl : rest.length < 40) (h35 : F 35 = nI c) (hc : c + 2 < 4500)
    (hS : SK (G 23) (G 24) c0 c (fun w => u w :: (itms x (S w) (P w) ++ R w))) (hk : ∀ w, okX x (S w) (P w))
    (hP : ∀ F' G', OuF F F' G G' c → F' 39 = nI rest.length → F' 35 = nI (c + (opsL x).length) → SK (G' 23) (G' 24) c0 (c + (opsL x).length) (fun w => (S w + P w * u w) :: R w) → Post (pM σ F' G')) : wpM_comesOut (pM σ F G) 0 Post := by
  have hstop : rest = [] ∨ ∃ a r, rest = a :: r ∧ a < 11 ∧ (a = 6 ∨ ¬ (0 : Int32) = 0 ∧ ¬ a = 10) := hr.elim Or.inl (fun ⟨r, e⟩ => Or.inr ⟨6, r, e, by omega, Or.inl rfl⟩)
  obtain ⟨o, m⟩ := x
  cases m with
  | false =>
    have hP1 : ∀ w, P w = sgn o := fun w => (hk w).2 rfl
    rcases hx with rfl | rfl | rfl
    · refine ⟨1, pop0 hW h39 (by show rest.length < 48; omega) hstop (hP F G (OuF_0 F G c) h39 h35 (SK_eq hS (fun w => ?_)))⟩
      show u w :: R w = _
      rw [hP1 w, (hk w).1 rfl]
      show u w :: R w = (0 + 1 * u w) :: R w
      rw [← ri1]
    · refine ⟨2, pop1 (a := 8) (l := rest) hW h39 (by omega) h35 (by omega) (Or.inl rfl) (Or.inl rfl) (pop0 (l := rest) (wRow_top (a := 8) (l := rest) hW).2 rfl (by omega) hstop ?_)⟩
      refine hP _ _ (OuF_1 (OuF_0 F G c) (Nat.le_refl _)) rfl rfl (SK_eq (SK_op (Or.inl rfl) (a := S) (b := u) (R := R) hS) (fun w => ?_))
      show opM 2 (S w) (u w) :: R w = _
      rw [opM2, hP1 w]
      show (S w + u w) :: R w = (S w + 1 * u w) :: R w
      rw [← ri2]
    · refine ⟨2, pop1 (a := 9) (l := rest) hW h39 (by omega) h35 (by omega) (Or.inr (Or.inl rfl)) (Or.inl rfl) (pop0 (l := rest) (wRow_top (a := 9) (l := rest) hW).2 rfl (by omega) hstop ?_)⟩
      refine hP _ _ (OuF_1 (OuF_0 F G c) (Nat.le_refl _)) rfl rfl (SK_eq (SK_op (Or.inr (Or.inl rfl)) (a := S) (b := u) (R := R) hS) (fun w => ?_))
      show opM 3 (S w) (u w) :: R w = _
      rw [opM3, hP1 w]
      show (S w - u w) :: R w = (S w + (-1) * u w) :: R w
      rw [← ri3]
  | true =>
    rcases hx with rfl | rfl | rfl
    · refine ⟨2, pop1 (a := 10) (l := rest) hW h39 (by omega) h35 (by omega) (Or.inr (Or.inr rfl)) (Or.inl rfl) (pop0 (l := rest) (wRow_top (a := 10) (l := rest) hW).2 rfl (by omega) hstop ?_)⟩
      refine hP _ _ (OuF_1 (OuF_0 F G c) (Nat.le_refl _)) rfl rfl (SK_eq (SK_op (Or.inr (Or.inr rfl)) (a := P) (b := u) (R := R) hS) (fun w => ?_))
      show opM 4 (P w) (u w) :: R w = _
      rw [opM4, (hk w).1 rfl, ← ri4]
    · have hW2 := (wRow_top (a := 10) (l := 8 :: rest) hW).2
      refine ⟨3, pop1 (a := 10) (l := 8 :: rest) hW h39 (by rw [List.length_cons]; omega) h35 (by omega) (Or.inr (Or.inr rfl)) (Or.inl rfl) (pop1 (a := 8) (l := rest) hW2 rfl (by omega) rfl (by omega) (Or.inl rfl) (Or.inl rfl) (pop0 (wRow_top (a := 8) (l := rest) hW2).2 rfl (by omega) hstop ?_))⟩
      have s1 := SK_op (Or.inr (Or.inr rfl)) (a := P) (b := u) (R := fun w => S w :: R w) hS
      have s2 := SK_op (Or.inl rfl) (a := S) (b := fun w => opM 4 (P w) (u w)) (R := R) s1
      refine hP _ _ (OuF_1 (OuF_1 (OuF_0 F G c) (Nat.le_refl _)) (by omega)) rfl rfl (SK_eq s2 (fun w => ?_))
      rw [opM2, opM4]
    · have hW2 := (wRow_top (a := 10) (l := 9 :: rest) hW).2
      refine ⟨3, pop1 (a := 10) (l := 9 :: rest) hW h39 (by rw [List.length_cons]; omega) h35 (by omega) (Or.inr (Or.inr rfl)) (Or.inl rfl) (pop1 (a := 9) (l := rest) hW2 rfl (by omega) rfl (by omega) (Or.inr (Or.inl rfl)) (Or.inl rfl) (pop0 (wRow_top (a := 9) (l := rest) hW2).2 rfl (by omega) hstop ?_))⟩
      have s1 := SK_op (Or.inr (Or.inr rfl)) (a := fun w => -P w) (b := u) (R := fun w => S w :: R w) hS
      have s2 := SK_op (Or.inr (Or.inl rfl)) (a := S) (b := fun w => opM 4 (-P w) (u w)) (R := R) s1
      refine hP _ _ (OuF_1 (OuF_1 (OuF_0 F G c) (Nat.le_refl _)) (by omega)) rfl rfl (SK_eq s2 (fun w => ?_))
      rw [opM3, opM4, ri5]
theorem rs1 (p u : Int32) : -p * u = -(p * u) := by grind
theorem rs2 (u : Int32) : u = 1 * u := by grind
theorem rs3 (u : Int32) : u = -(-1 * u) := by grind
theorem outT {σ : MS} {F : Nat → Int32} {G : Nat → Nat → Int32} {c c0 : Nat} {x : Nat × Bool} {rest : List Nat} {u S P : (Nat → Int32) → Int32} {R : (Nat → Int32) → List Int32} {Post : MS → Prop} (hx : x.1 = 0 ∨ x.1 = 8 ∨ x.1 = 9) (hW : wRow G (opsL x ++ rest)) (hr : rest = [] ∨ ∃ r, rest = 6 :: r) (h39 : F 39 = nI (opsL x ++ rest).length) (hl : rest.length < 40) (h35 : F 35 = nI c) (hc : c + 2 < 4500)
    (hS : SK (G 23) (G 24) c0 c (fun w => u w :: (itms x (S w) (P w) ++ R w))) (hk : ∀ w, okX x (S w) (P w))
    (hP : ∀ F' G' c', OuF F F' G G' c → wRow G' (opsL (x.1, false) ++ rest) → F' 39 = nI (opsL (x.1, false) ++ rest).length → F' 35 = nI c' → c' + (opsL (x.1, true)).length = c + (opsL x).length + 1 → SK (G' 23) (G' 24) c0 c' (fun w => itms (x.1, true) (S w) (P w * u w) ++ R w) → Post (pM σ F' G')) : wpM_comesOut (pM σ F G) 1 Post := by
  obtain ⟨o, m⟩ := x
  have hst : ∀ l, l = opsL (o, false) ++ rest → l = [] ∨ ∃ a r, l = a :: r ∧ a < 11 ∧ (a = 6 ∨ ¬ (1 : Int32) = 0 ∧ ¬ a = 10) := by
    rintro l rfl
    rcases hx with rfl | rfl | rfl
    · exact hr.elim Or.inl (fun ⟨r, e⟩ => Or.inr ⟨6, r, e, by omega, Or.inl rfl⟩)
    · exact Or.inr ⟨8, rest, rfl, by omega, Or.inr ⟨no1, by omega⟩⟩
    · exact Or.inr ⟨9, rest, rfl, by omega, Or.inr ⟨no1, by omega⟩⟩
  have hlen : (opsL (o, false) ++ rest).length < 43 := by
    have := ops_len (o, false)
    rw [List.length_append]
    omega
  cases m with
  | false =>
    have hP1 : ∀ w, P w = sgn o := fun w => (hk w).2 rfl
    refine ⟨1, pop0 hW h39 (by omega) (hst _ rfl) (hP F G c (OuF_0 F G c) hW h39 h35 ?_ (SK_eq hS (fun w => ?_)))⟩
    · show c + (opsL (o, true)).length = c + (opsL (o, false)).length + 1
      rcases hx with rfl | rfl | rfl <;> rfl
    · rcases hx with rfl | rfl | rfl
      · show u w :: R w = (P w * u w) :: R w
        rw [hP1 w]
        show u w :: R w = (1 * u w) :: R w
        rw [← rs2]
      · show u w :: S w :: R w = (P w * u w) :: S w :: R w
        rw [hP1 w]
        show u w :: S w :: R w = (1 * u w) :: S w :: R w
        rw [← rs2]
      · show u w :: S w :: R w = (-(P w * u w)) :: S w :: R w
        rw [hP1 w]
        show u w :: S w :: R w = (-(-1 * u w)) :: S w :: R w
        rw [← rs3]
  | true =>
    have hWt : wRow G (10 :: (opsL (o, false) ++ rest)) := hW
    refine ⟨2, pop1 (a := 10) hWt h39 (by omega) h35 (by omega) (Or.inr (Or.inr rfl)) (Or.inr rfl) (pop0 (wRow_top hWt).2 rfl (by omega) (hst _ rfl) ?_)⟩
    have s1 := SK_op (Or.inr (Or.inr rfl)) (a := fun w => sgx o (P w)) (b := u) (R := fun w => (if o = 0 then [] else [S w]) ++ R w) hS
    refine hP _ _ (c + 1) (OuF_1 (OuF_0 F G c) (Nat.le_refl _)) (wRow_top hWt).2 rfl rfl ?_ (SK_eq s1 (fun w => ?_))
    · show c + 1 + (opsL (o, true)).length = c + (opsL (o, true)).length + 1
      omega
    · show opM 4 (sgx o (P w)) (u w) :: ((if o = 0 then [] else [S w]) ++ R w) = sgx o (P w * u w) :: ((if o = 0 then [] else [S w]) ++ R w)
      rw [opM4]
      rcases hx with rfl | rfl | rfl
      · rfl
      · rfl
      · show (-P w * u w) :: _ = (-(P w * u w)) :: _
        rw [rs1]
theorem nn {a b : Nat} (h : ¬ a = b) (ha : a < 2 ^ 31) (hb : b < 2 ^ 31) : ¬ nI a = nI b := fun z => h ((nI_eq ha hb).mp z)
/-- signs -/
def sgP (kk tt : Nat) : Prop := (kk = 4 ∧ tt = 10020) ∨ (kk = 8 ∧ tt = 10021) ∨ (kk = 9 ∧ tt = 10022) ∨ (kk = 10 ∧ tt = 10023) ∨ (kk = 11 ∧ tt = 10024) ∨ (kk = 12 ∧ tt = 10025) ∨ (kk = 13 ∧ tt = 10026) ∨ (kk = 14 ∧ tt = 10027) ∨ (kk = 6 ∧ tt = 10028) ∨ (kk = 7 ∧ tt = 10029)
/-- a kind and a value, and a TOKEN, in numbers -/
theorem RelT_num {kd va t : Int32} (h : RelT kd va t) : (t = -1 ∧ kd = nI 0) ∨ (∃ v, v < 10000 ∧ t = nI v ∧ kd = nI 2 ∧ va = nI v) ∨ (∃ w, w < 20 ∧ t = nI (10000 + w) ∧ kd = nI (20 + w)) ∨ (∃ kk tt, sgP kk tt ∧ t = nI tt ∧ kd = nI kk) ∨ (t = -2 ∧ (kd = nI 1 ∨ kd = nI 3)) := by
  rcases h with h | h | h | ⟨a, b⟩ | ⟨a, b⟩ | ⟨a, b⟩ | ⟨a, b⟩ | ⟨a, b⟩ | ⟨a, b⟩ | ⟨a, b⟩ | ⟨a, b⟩ | ⟨a, b⟩ | ⟨a, b⟩ | h
  · exact Or.inl h
  · exact Or.inr (Or.inl h)
  · exact Or.inr (Or.inr (Or.inl h))
  · exact Or.inr (Or.inr (Or.inr (Or.inl ⟨4, 10020, Or.inl ⟨rfl, rfl⟩, a, b⟩)))
  · exact Or.inr (Or.inr (Or.inr (Or.inl ⟨8, 10021, Or.inr (Or.inl ⟨rfl, rfl⟩), a, b⟩)))
  · exact Or.inr (Or.inr (Or.inr (Or.inl ⟨9, 10022, Or.inr (Or.inr (Or.inl ⟨rfl, rfl⟩)), a, b⟩)))
  · exact Or.inr (Or.inr (Or.inr (Or.inl ⟨10, 10023, Or.inr (Or.inr (Or.inr (Or.inl ⟨rfl, rfl⟩))), a, b⟩)))
  · exact Or.inr (Or.inr (Or.inr (Or.inl ⟨11, 10024, Or.inr (Or.inr (Or.inr (Or.inr (Or.inl ⟨rfl, rfl⟩)))), a, b⟩)))
  · exact Or.inr (Or.inr (Or.inr (Or.inl ⟨12, 10025, Or.inr (Or.inr (Or.inr (Or.inr (Or.inr (Or.inl ⟨rfl, rfl⟩))))), a, b⟩)))
  · exact Or.inr (Or.inr (Or.inr (Or.inl ⟨13, 10026, Or.inr (Or.inr (Or.inr (Or.inr (Or.inr (Or.inr (Or.inl ⟨rfl, rfl⟩)))))), a, b⟩)))
  · exact Or.inr (Or.inr (Or.inr (Or.inl ⟨14, 10027, Or.inr (Or.inr (Or.inr (Or.inr (Or.inr (Or.inr (Or.inr (Or.inl ⟨rfl, rfl⟩))))))), a, b⟩)))
  · exact Or.inr (Or.inr (Or.inr (Or.inl ⟨6, 10028, Or.inr (Or.inr (Or.inr (Or.inr (Or.inr (Or.inr (Or.inr (Or.inr (Or.inl ⟨rfl, rfl⟩)))))))), a, b⟩)))
  · exact Or.inr (Or.inr (Or.inr (Or.inl ⟨7, 10029, Or.inr (Or.inr (Or.inr (Or.inr (Or.inr (Or.inr (Or.inr (Or.inr (Or.inr ⟨rfl, rfl⟩)))))))), a, b⟩)))
  · exact Or.inr (Or.inr (Or.inr (Or.inr h)))
theorem nIm1 {a : Nat} (h : a < 2 ^ 31) : ¬ (-1 : Int32) = nI a := fun z => nI_nm1 h z.symm
theorem nIm2 {a : Nat} (h : a < 2 ^ 31) : ¬ (-2 : Int32) = nI a := fun z => absurd (nI_pos h) (by rw [← z]; decide)
theorem RelT_sg {kd va t : Int32} (h : RelT kd va t) {kk tt : Nat} (hp : sgP kk tt) : kd = nI kk ↔ t = nI tt := by
  have hp' : sgP kk tt := hp
  unfold sgP at hp'
  rcases RelT_num h with ⟨rfl, rfl⟩ | ⟨v, hv, rfl, rfl, _⟩ | ⟨w, hw, rfl, rfl⟩ | ⟨k2, t2, h2, rfl, rfl⟩ | ⟨rfl, rfl | rfl⟩
  · exact ⟨fun z => absurd z (nn (by omega) (by omega) (by omega)), fun z => absurd z (nIm1 (by omega))⟩
  · exact ⟨fun z => absurd z (nn (by omega) (by omega) (by omega)), fun z => absurd z (nn (by omega) (by omega) (by omega))⟩
  · exact ⟨fun z => absurd z (nn (by omega) (by omega) (by omega)), fun z => absurd z (nn (by omega) (by omega) (by omega))⟩
  · unfold sgP at h2
    rw [nI_eq (by omega) (by omega), nI_eq (by omega) (by omega)]
    omega
  · exact ⟨fun z => absurd z (nn (by omega) (by omega) (by omega)), fun z => absurd z (nIm2 (by omega))⟩
  · exact ⟨fun z => absurd z (nn (by omega) (by omega) (by omega)), fun z => absurd z (nIm2 (by omega))⟩
theorem RelT_wd {kd va t : Int32} (h : RelT kd va t) {z : Nat} (hz : z < 20) : kd = nI (20 + z) ↔ t = nI (10000 + z) := by
  rcases RelT_num h with ⟨rfl, rfl⟩ | ⟨v, hv, rfl, rfl, _⟩ | ⟨w, hw, rfl, rfl⟩ | ⟨k2, t2, h2, rfl, rfl⟩ | ⟨rfl, rfl | rfl⟩
  · exact ⟨fun z => absurd z (nn (by omega) (by omega) (by omega)), fun z => absurd z (nIm1 (by omega))⟩
  · exact ⟨fun z => absurd z (nn (by omega) (by omega) (by omega)), fun z => absurd z (nn (by omega) (by omega) (by omega))⟩
  · rw [nI_eq (by omega) (by omega), nI_eq (by omega) (by omega)]
    omega
  · unfold sgP at h2
    exact ⟨fun z => absurd z (nn (by omega) (by omega) (by omega)), fun z => absurd z (nn (by omega) (by omega) (by omega))⟩
  · exact ⟨fun z => absurd z (nn (by omega) (by omega) (by omega)), fun z => absurd z (nIm2 (by omega))⟩
  · exact ⟨fun z => absurd z (nn (by omega) (by omega) (by omega)), fun z => absurd z (nIm2 (by omega))⟩
theorem isIb_nI {v : Nat} (h : v < 2 ^ 31) : isIb (nI v) = true ↔ v < 10000 := by
  rw [isIb, decide_eq_true_eq]
  constructor
  · intro z
    exact Nat.not_le.mp (fun q => z.2 (nI_le (a := 10000) q h))
  · intro z
    exact ⟨nI_pos h, nI_ge (b := 10000) z (by omega)⟩
theorem isVb_nI {v : Nat} (h : v < 2 ^ 31) : isVb (nI v) = true ↔ 10008 ≤ v ∧ v < 10020 := by
  rw [isVb, decide_eq_true_eq]
  constructor
  · intro z
    exact ⟨Nat.not_lt.mp (fun q => z.1 (nI_lt (b := 10008) q (by omega))), Nat.not_le.mp (fun q => z.2 (nI_le (a := 10020) q h))⟩
  · intro z
    exact ⟨nI_nlt (b := 10008) z.1 h, nI_ge (b := 10020) z.2 (by omega)⟩
theorem RelT_in {kd va t : Int32} (h : RelT kd va t) : (kd = 2 ↔ isIb t = true) ∧ (isIb t = true → ∃ v, v < 10000 ∧ t = nI v ∧ va = nI v) := by
  rcases RelT_num h with ⟨rfl, rfl⟩ | ⟨v, hv, rfl, rfl, e⟩ | ⟨w, hw, rfl, rfl⟩ | ⟨k2, t2, h2, rfl, rfl⟩ | ⟨rfl, rfl | rfl⟩
  · exact ⟨⟨fun z => absurd z (by decide), fun z => absurd z (by decide)⟩, fun z => absurd z (by decide)⟩
  · exact ⟨⟨fun _ => (isIb_nI (by omega)).mpr hv, fun _ => rfl⟩, fun _ => ⟨v, hv, rfl, e⟩⟩
  · have n1 : ¬ isIb (nI (10000 + w)) = true := fun z => absurd ((isIb_nI (by omega)).mp z) (by omega)
    exact ⟨⟨fun z => absurd z (nn (b := 2) (by omega) (by omega) (by omega)), fun z => absurd z n1⟩, fun z => absurd z n1⟩
  · unfold sgP at h2
    have n1 : ¬ isIb (nI t2) = true := fun z => absurd ((isIb_nI (by omega)).mp z) (by omega)
    exact ⟨⟨fun z => absurd z (nn (b := 2) (by omega) (by omega) (by omega)), fun z => absurd z n1⟩, fun z => absurd z n1⟩
  · exact ⟨⟨fun z => absurd z (by decide), fun z => absurd z (by decide)⟩, fun z => absurd z (by decide)⟩
  · exact ⟨⟨fun z => absurd z (by decide), fun z => absurd z (by decide)⟩, fun z => absurd z (by decide)⟩
theorem RelT_va {kd va t : Int32} (h : RelT kd va t) : ((¬ kd < 28 ∧ ¬ 39 < kd) ↔ isVb t = true) ∧ (isVb t = true → ∃ x, x < 12 ∧ t = nI (10008 + x) ∧ kd = nI (28 + x)) := by
  rcases RelT_num h with ⟨rfl, rfl⟩ | ⟨v, hv, rfl, rfl, e⟩ | ⟨w, hw, rfl, rfl⟩ | ⟨k2, t2, h2, rfl, rfl⟩ | ⟨rfl, rfl | rfl⟩
  · exact ⟨⟨fun z => absurd z (by decide), fun z => absurd z (by decide)⟩, fun z => absurd z (by decide)⟩
  · have n1 : ¬ isVb (nI v) = true := fun z => absurd ((isVb_nI (by omega)).mp z) (by omega)
    exact ⟨⟨fun z => absurd z (by decide), fun z => absurd z n1⟩, fun z => absurd z n1⟩
  · refine ⟨⟨fun z => (isVb_nI (by omega)).mpr ?_, fun z => ?_⟩, fun z => ?_⟩
    · have := Nat.not_lt.mp (fun q => z.1 (nI_lt (b := 28) q (by omega)))
      omega
    · have := (isVb_nI (by omega)).mp z
      exact ⟨nI_nlt (b := 28) (by omega) (by omega), nI_nlt (a := 39) (by omega) (by omega)⟩
    · have := (isVb_nI (by omega)).mp z
      exact ⟨w - 8, by omega, by congr 1; omega, by congr 1; omega⟩
  · unfold sgP at h2
    have n1 : ¬ isVb (nI t2) = true := fun z => absurd ((isVb_nI (by omega)).mp z) (by omega)
    exact ⟨⟨fun z => absurd (nI_lt (b := 28) (a := k2) (by omega) (by omega)) z.1, fun z => absurd z n1⟩, fun z => absurd z n1⟩
  · exact ⟨⟨fun z => absurd z (by decide), fun z => absurd z (by decide)⟩, fun z => absurd z (by decide)⟩
  · exact ⟨⟨fun z => absurd z (by decide), fun z => absurd z (by decide)⟩, fun z => absurd z (by decide)⟩
theorem RelT_en {kd va t : Int32} (h : RelT kd va t) : kd = 0 ↔ t = -1 := by
  rcases RelT_num h with ⟨rfl, rfl⟩ | ⟨v, hv, rfl, rfl, e⟩ | ⟨w, hw, rfl, rfl⟩ | ⟨k2, t2, h2, rfl, rfl⟩ | ⟨rfl, rfl | rfl⟩
  · exact ⟨fun _ => rfl, fun _ => rfl⟩
  · exact ⟨fun z => absurd z (by decide), fun z => absurd z (nI_nm1 (by omega))⟩
  · exact ⟨fun z => absurd z (nn (b := 0) (by omega) (by omega) (by omega)), fun z => absurd z (nI_nm1 (by omega))⟩
  · unfold sgP at h2
    exact ⟨fun z => absurd z (nn (b := 0) (by omega) (by omega) (by omega)), fun z => absurd z (nI_nm1 (by omega))⟩
  · exact ⟨fun z => absurd z (by decide), fun z => absurd z (by decide)⟩
  · exact ⟨fun z => absurd z (by decide), fun z => absurd z (by decide)⟩
