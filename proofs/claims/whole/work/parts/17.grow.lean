/-! the class's world with one law more -/
theorem va_P_mem {D : va_G} {cl : List vw_C} {ws : va_W} {H : Heap} : va_P D cl ws H ↔ ∀ x ∈ ws, va_at D cl x H := by
  refine ⟨fun h x hx => ?_, fun h k x hk => h x (List.mem_of_getElem? hk)⟩
  obtain ⟨k, hk⟩ := List.mem_iff_getElem?.mp hx
  exact h k x hk
theorem va_D_nd {A : Nat → Prop} {ws : va_W} : va_D A ws ↔ (ws.map Prod.fst).Nodup ∧ ∀ x ∈ ws, A x.1 := by
  constructor
  · intro h
    refine ⟨?_, fun x hx => ?_⟩
    · rw [List.nodup_iff_pairwise_ne, List.pairwise_iff_getElem]
      intro i j hi hj hij he
      rw [List.length_map] at hi hj
      rw [List.getElem_map, List.getElem_map] at he
      have := h.1 i j ws[i] ws[j] (List.getElem?_eq_getElem hi) (List.getElem?_eq_getElem hj) he
      omega
    · obtain ⟨k, hk⟩ := List.mem_iff_getElem?.mp hx
      exact h.2 k x hk
  · intro h
    refine ⟨fun i j p q hi hj he => ?_, fun k x hk => h.2 x (List.mem_of_getElem? hk)⟩
    obtain ⟨hi1, hi2⟩ := List.getElem?_eq_some_iff.mp hi
    obtain ⟨hj1, hj2⟩ := List.getElem?_eq_some_iff.mp hj
    rcases Nat.lt_trichotomy i j with hlt | heq | hlt
    · rw [List.nodup_iff_pairwise_ne, List.pairwise_iff_getElem] at h
      exact absurd (by rw [List.getElem_map, List.getElem_map, hi2, hj2]; exact he) (h.1 i j (by rw [List.length_map]; exact hi1) (by rw [List.length_map]; exact hj1) hlt)
    · exact heq
    · rw [List.nodup_iff_pairwise_ne, List.pairwise_iff_getElem] at h
      exact absurd (by rw [List.getElem_map, List.getElem_map, hi2, hj2]; exact he.symm) (h.1 j i (by rw [List.length_map]; exact hj1) (by rw [List.length_map]; exact hi1) hlt)
theorem xH.perm {D : va_G} {A : Nat → Prop} {s : State} {ws ws' : va_W} {H : Heap} {locs : List Loc} (hp : ws.Perm ws') (h : xH D A s ws H locs) : xH D A s ws' H locs := by
  refine ⟨va_P_mem.mpr (fun x hx => va_P_mem.mp h.1 x (hp.mem_iff.mpr hx)), va_D_nd.mpr ⟨?_, fun x hx => (va_D_nd.mp h.2.1).2 x (hp.mem_iff.mpr hx)⟩, h.2.2⟩
  exact (hp.map Prod.fst).nodup_iff.mp (va_D_nd.mp h.2.1).1
/-- the state with a law more -/
def cLaw (σ : CS) (x : LI) : CS := (σ.1, σ.2.1, σ.2.2.1 + 1, va_up σ.2.2.2 σ.2.2.1 x)
/-- the addresses with a law more -/
def qLaw (q : Nat → Nat) (n a t r : Nat) : Nat → Nat := fun j => if j = 46 + 3 * n then a else if j = 46 + 3 * n + 1 then t else if j = 46 + 3 * n + 2 then r else q j
theorem qLaw_lt {q : Nat → Nat} {n a t r j : Nat} (h : j < 46 + 3 * n) : qLaw q n a t r j = q j := by
  rw [qLaw, if_neg (by omega), if_neg (by omega), if_neg (by omega)]
theorem qLaw_a {q : Nat → Nat} {n a t r : Nat} : qLaw q n a t r (46 + 3 * n) = a := by rw [qLaw, if_pos rfl]
theorem qLaw_t {q : Nat → Nat} {n a t r : Nat} : qLaw q n a t r (46 + 3 * n + 1) = t := by rw [qLaw, if_neg (by omega), if_pos rfl]
theorem qLaw_r {q : Nat → Nat} {n a t r : Nat} : qLaw q n a t r (46 + 3 * n + 2) = r := by rw [qLaw, if_neg (by omega), if_neg (by omega), if_pos rfl]
theorem lrow_law {q : Nat → Nat} {k a t r : Nat} : lrow (qLaw q (k + 1) a t r) (k + 2) = va_up (lrow q (k + 1)) k (some a) := by
  funext i
  rw [lrow, va_up]
  by_cases h : i = k
  · subst h
    rw [if_pos (by omega), if_pos rfl, qLaw_a]
  · rw [if_neg h, lrow]
    by_cases h1 : i + 1 < k + 1
    · rw [if_pos (by omega), if_pos h1, qLaw_lt (by omega)]
    · rw [if_neg (by omega), if_neg h1]
theorem lcell_law {q : Nat → Nat} {cy : Nat → ClassId} {L : Nat → LI} {n a t r j : Nat} {x : LI} (h : j < 3 * n) : lcell (qLaw q n a t r) cy (va_up L n x) j = lcell q cy L j := by
  have h1 : j / 3 < n := by omega
  have hL : va_up L n x (j / 3) = L (j / 3) := by rw [va_up, if_neg (by omega)]
  rw [lcell, lcell, hL]
  by_cases h0 : j % 3 = 0
  · rw [if_pos h0, if_pos h0, qLaw_lt (by omega), qLaw_lt (by omega)]
  · rw [if_neg h0, if_neg h0]
/-- the standing cells look at no address behind place 46 -/
theorem CFix_law {q : Nat → Nat} {cy : Nat → ClassId} {σ : CS} {k a t r : Nat} {x : LI} (hn : σ.2.2.1 = k + 1) : CFix (qLaw q (k + 1) a t r) cy (cLaw σ x) = (CFix q cy σ).set 7 (lTx q cy (va_up (lrow q σ.2.2.1) k (some a))) := by
  have e : ∀ j, j < 47 → qLaw q (k + 1) a t r j = q j := fun j hj => qLaw_lt (by omega)
  have e46 : qLaw q (k + 1) a t r (46 + 3 * 0) = q (46 + 3 * 0) := qLaw_lt (by omega)
  have er : lrow (qLaw q (k + 1) a t r) (cLaw σ x).2.2.1 = va_up (lrow q σ.2.2.1) k (some a) := by
    show lrow (qLaw q (k + 1) a t r) (σ.2.2.1 + 1) = _
    rw [hn]
    exact lrow_law
  unfold CFix
  rw [er]
  simp only [e 0 (by decide), e 1 (by decide), e 2 (by decide), e 3 (by decide), e 4 (by decide), e 5 (by decide), e 6 (by decide), e 7 (by decide), e 8 (by decide), e 9 (by decide), e 10 (by decide), e 11 (by decide), e 12 (by decide), e 13 (by decide), e 14 (by decide), e 15 (by decide), e 16 (by decide), e 17 (by decide), e 18 (by decide), e 19 (by decide), e 20 (by decide), e 21 (by decide), e 22 (by decide), e 23 (by decide), e 24 (by decide), e 25 (by decide), e 26 (by decide), e 27 (by decide), e 28 (by decide), e 29 (by decide), e 30 (by decide), e 31 (by decide), e 32 (by decide), e 33 (by decide), e 34 (by decide), e 35 (by decide), e 36 (by decide), e 37 (by decide), e 38 (by decide), e 39 (by decide), e 40 (by decide), e 41 (by decide), e 42 (by decide), e 43 (by decide), e 44 (by decide), e 45 (by decide), e46]
  rfl
theorem CW_law {q : Nat → Nat} {cy : Nat → ClassId} {σ : CS} {k a N1 N2 : Nat} {x1 x2 : Int32} {u : (Nat × Nat) × (Nat → Int32) × (Nat → Int32)} (hn : σ.2.2.1 = k + 1) : ((CW q cy σ).set 7 (lTx q cy (va_up (lrow q σ.2.2.1) k (some a))) ++ lNew cy x1 x2 N1 N2 u a).Perm (CW (qLaw q (k + 1) a u.1.2 u.1.1) cy (cLaw σ ((x1, x2), (N2, u.2.2), (N1, u.2.1)))) := by
  have h7 : (CFix q cy σ)[7]? = some (lTx q cy (lrow q σ.2.2.1)) := rfl
  have e0 : (CW q cy σ).set 7 (lTx q cy (va_up (lrow q σ.2.2.1) k (some a))) = (CFix q cy σ).set 7 (lTx q cy (va_up (lrow q σ.2.2.1) k (some a))) ++ (List.range (3 * (k + 1))).map (fun j => (q (46 + j), lcell q cy σ.2.2.2 j)) := by
    rw [CW, st_app h7, hn]
  have e1 : CW (qLaw q (k + 1) a u.1.2 u.1.1) cy (cLaw σ ((x1, x2), (N2, u.2.2), (N1, u.2.1))) = (CFix q cy σ).set 7 (lTx q cy (va_up (lrow q σ.2.2.1) k (some a))) ++ ((List.range (3 * (k + 1))).map (fun j => (q (46 + j), lcell q cy σ.2.2.2 j)) ++ [(a, .inr (5, [.int x1, .int x2, .ref u.1.2, .ref u.1.1])), (u.1.2, .inl (cy 1, N2, .inl u.2.2)), (u.1.1, .inl (cy 1, N1, .inl u.2.1))]) := by
    rw [CW, CFix_law hn]
    congr 1
    have hL : (cLaw σ ((x1, x2), (N2, u.2.2), (N1, u.2.1))).2.2.2 = va_up σ.2.2.2 (k + 1) ((x1, x2), (N2, u.2.2), (N1, u.2.1)) := by
      show va_up σ.2.2.2 σ.2.2.1 _ = _
      rw [hn]
    have h3 : 3 * (cLaw σ ((x1, x2), (N2, u.2.2), (N1, u.2.1))).2.2.1 = 3 * (k + 1) + 1 + 1 + 1 := by
      show 3 * (σ.2.2.1 + 1) = _
      omega
    rw [h3, hL, List.range_succ, List.range_succ, List.range_succ, List.map_append, List.map_append, List.map_append, List.append_assoc, List.append_assoc]
    congr 1
    · apply List.map_congr_left
      intro j hj
      have hlt := List.mem_range.mp hj
      rw [qLaw_lt (by omega), lcell_law hlt]
    · have m0 : 3 * (k + 1) % 3 = 0 := by omega
      have d0 : 3 * (k + 1) / 3 = k + 1 := by omega
      have m1 : ¬ (3 * (k + 1) + 1) % 3 = 0 := by omega
      have m1' : (3 * (k + 1) + 1) % 3 = 1 := by omega
      have d1 : (3 * (k + 1) + 1) / 3 = k + 1 := by omega
      have m2 : ¬ (3 * (k + 1) + 1 + 1) % 3 = 0 := by omega
      have m2' : ¬ (3 * (k + 1) + 1 + 1) % 3 = 1 := by omega
      have d2 : (3 * (k + 1) + 1 + 1) / 3 = k + 1 := by omega
      have v : va_up σ.2.2.2 (k + 1) ((x1, x2), (N2, u.2.2), (N1, u.2.1)) (k + 1) = ((x1, x2), (N2, u.2.2), (N1, u.2.1)) := by rw [va_up, if_pos rfl]
      simp only [List.map_cons, List.map_nil, List.cons_append, List.nil_append]
      rw [lcell, lcell, lcell, if_pos m0, d0, if_neg m1, if_pos m1', d1, if_neg m2, if_neg m2', d2, v, qLaw_a, qLaw_t, qLaw_r, ← Nat.add_assoc, qLaw_t, show 46 + (3 * (k + 1) + 1 + 1) = 46 + 3 * (k + 1) + 2 by omega, qLaw_r]
  rw [e0, e1, List.append_assoc]
  refine List.Perm.append_left _ (List.Perm.append_left _ ?_)
  exact (List.perm_append_comm (α := Nat × va_E) (l₁ := [(u.1.1, Sum.inl (cy 1, N1, Sum.inl u.2.1))]) (l₂ := [(a, Sum.inr (5, [.int x1, .int x2, .ref u.1.2, .ref u.1.1])), (u.1.2, Sum.inl (cy 1, N2, Sum.inl u.2.2))]))
