/-! the reference being made: t rows are there -/
theorem mF_own : ∀ k, k < 77 → (TX11 k).1 = RX11 := by decide +kernel
def mK (k : Nat) : Nat := ([0, 1, 0, 2, 0, 3, 4, 5, 6, 7, 0, 0, 0, 0, 0, 0, 0, 0, 0, 0, 8, 9, 10, 11, 12, 13, 14, 15, 16, 17, 18, 19, 20, 21, 22, 0, 23, 24, 25, 0, 0, 26, 27, 28, 29, 30, 0, 31, 32, 33, 34, 35, 36, 0, 37, 38, 39, 0, 40, 41, 42, 43, 44, 45, 0, 46, 47, 48, 49, 50, 51, 52, 53, 54, 55, 56, 57] : List Nat).getD k 0
def mLn (j : Nat) : Nat := ([0, 2000, 2000, 403, 403, 403, 403, 20, 9, 9, 9, 144, 144, 144, 144, 144, 144, 9, 1800, 1800, 1800, 1800, 1800, 4500, 4500, 48, 12, 12, 12, 144, 15, 10, 10, 10, 10, 10, 10, 20, 20, 20, 200, 200, 200, 200, 12, 500, 10, 10, 10, 10, 10, 10, 10, 10, 10, 10, 10, 10] : List Nat).getD j 0
def mTy (j : Nat) : Nat := ([0, 0, 0, 1, 1, 1, 2, 2, 1, 1, 1, 1, 1, 1, 1, 1, 1, 1, 1, 1, 1, 1, 3, 1, 1, 1, 1, 1, 1, 1, 1, 1, 1, 1, 1, 1, 1, 1, 1, 1, 1, 1, 1, 1, 1, 1, 1, 1, 1, 3, 1, 1, 1, 1, 1, 1, 3, 1] : List Nat).getD j 0
def mfv (c : Nat → Int32) (t : Nat) (q : Nat → Nat) (k : Nat) : Value := if mK k = 0 then .int (c k) else if mK k ≤ t then .ref (q (mK k)) else .null
def MOt (c : Nat → Int32) (t : Nat) (q : Nat → Nat) : List Value := (List.range 77).map (mfv c t q)
def mcl (cy : Nat → ClassId) (j : Nat) : va_E := if mTy j = 2 then .inl (cy 2, mLn j, .inr (.inl (fun _ => 0))) else .inl (cy (mTy j), mLn j, .inl (fun _ => 0))
def MWt (c : Nat → Int32) (t : Nat) (q : Nat → Nat) (cy : Nat → ClassId) : va_W := (q 0, .inr (11, MOt c t q)) :: (List.range t).map (fun j => (q (j + 1), mcl cy (j + 1)))
theorem mK_inj : ∀ j, j < 77 → ∀ k, k < 77 → mK j = mK k → ¬ mK k = 0 → j = k := by decide +kernel
theorem MOt_len (c : Nat → Int32) (t : Nat) (q : Nat → Nat) : (MOt c t q).length = 77 := by simp [MOt]
theorem MOt_get (c : Nat → Int32) (t : Nat) (q : Nat → Nat) {k : Nat} (hk : k < 77) : (MOt c t q)[k]? = some (mfv c t q k) := by
  rw [MOt, List.getElem?_map, List.getElem?_range hk]
  rfl
theorem MOt_ref (c : Nat → Int32) (t : Nat) (q : Nat → Nat) (a : Nat) {k : Nat} (hk : k < 77) (he : mK k = t + 1) : (MOt c t q).set k (.ref a) = MOt c (t + 1) (va_up q (t + 1) a) := by
  apply List.ext_getElem?
  intro j
  by_cases hj : j < 77
  · rw [MOt_get c (t + 1) _ hj]
    by_cases e : j = k
    · subst e
      rw [List.getElem?_set_self (by rw [MOt_len]; exact hj), mfv, if_neg (by omega), if_pos (by omega), he, va_up, if_pos rfl]
    · rw [List.getElem?_set_ne (Ne.symm e), MOt_get c t q hj, mfv, mfv]
      have hne : ¬ mK j = t + 1 := fun h => e (mK_inj j hj k hk (h.trans he.symm) (by omega))
      by_cases h0 : mK j = 0
      · rw [if_pos h0, if_pos h0]
      · rw [if_neg h0, if_neg h0]
        by_cases h1 : mK j ≤ t
        · rw [if_pos h1, if_pos (by omega), va_up, if_neg hne]
        · rw [if_neg h1, if_neg (by omega)]
  · rw [List.getElem?_eq_none (by rw [List.length_set, MOt_len]; omega), List.getElem?_eq_none (by rw [MOt_len]; omega)]
theorem MOt_int (c : Nat → Int32) (t : Nat) (q : Nat → Nat) (x : Int32) {k : Nat} (hk : k < 77) (he : mK k = 0) : (MOt c t q).set k (.int x) = MOt (va_up c k x) t q := by
  apply List.ext_getElem?
  intro j
  by_cases hj : j < 77
  · rw [MOt_get _ t _ hj]
    by_cases e : j = k
    · subst e
      rw [List.getElem?_set_self (by rw [MOt_len]; exact hj), mfv, if_pos he, va_up, if_pos rfl]
    · rw [List.getElem?_set_ne (Ne.symm e), MOt_get c t q hj, mfv, mfv, va_up, if_neg e]
  · rw [List.getElem?_eq_none (by rw [List.length_set, MOt_len]; omega), List.getElem?_eq_none (by rw [MOt_len]; omega)]
theorem MWt_ref {c : Nat → Int32} {t : Nat} {q : Nat → Nat} {cy : Nat → ClassId} {a : Nat} {x : va_E} {k : Nat} (hk : k < 77) (he : mK k = t + 1) (hx : mcl cy (t + 1) = x) : (MWt c t q cy ++ [(a, x)]).set 0 (q 0, .inr (11, (MOt c t q).set k (.ref a))) = MWt c (t + 1) (va_up q (t + 1) a) cy := by
  rw [MOt_ref c t q a hk he, MWt, MWt, List.cons_append, List.set_cons_zero, List.range_succ, List.map_append, List.map_cons, List.map_nil, hx]
  have h0 : va_up q (t + 1) a 0 = q 0 := by rw [va_up, if_neg (by omega)]
  have h1 : va_up q (t + 1) a (t + 1) = a := by rw [va_up, if_pos rfl]
  have h2 : (List.range t).map (fun j => (va_up q (t + 1) a (j + 1), mcl cy (j + 1))) = (List.range t).map (fun j => (q (j + 1), mcl cy (j + 1))) := by
    apply List.map_congr_left
    intro j hj
    have hlt := List.mem_range.mp hj
    rw [va_up, if_neg (by omega)]
  rw [h0, h1, h2]
theorem MWt_int {c : Nat → Int32} {t : Nat} {q : Nat → Nat} {cy : Nat → ClassId} {x : Int32} {k : Nat} (hk : k < 77) (he : mK k = 0) : (MWt c t q cy).set 0 (q 0, .inr (11, (MOt c t q).set k (.int x))) = MWt (va_up c k x) t q cy := by
  rw [MOt_int c t q x hk he, MWt, MWt, List.set_cons_zero]
/-- what the int fields came to, by the puts -/
def mIs (c : Nat → Int32) (l : List (Nat × Int32)) : Prop := c = l.foldl (fun f z => va_up f z.1 z.2) (fun _ => 0)
theorem mIs.put {c c1 : Nat → Int32} {l : List (Nat × Int32)} {k : Nat} {x : Int32} (h : mIs c l) (e : c1 = va_up c k x) : mIs c1 (l ++ [(k, x)]) := by
  rw [mIs, List.foldl_append, ← h]
  exact e

section MStage
variable {p : Program} {l : Launch} {e : Env} {R : Room} {s : State} {m : MethodId} {args : Array Value} {below : List Frame} {meth : Method} {c0 : Code} {H : Heap} {locs : List Loc} {cells slots : Nat} {Q : State → Prop}
variable {cc : ByteArray} {nL : Nat} {D : va_G} {cy : Nat → ClassId} {A : Nat → Prop} {q : Nat → Nat} {c : Nat → Int32} {pc : Nat} {ls : Array Slot} {rest : List Value} {a0 idx : Nat}
theorem m_stI (E : kE cc RX11 nL D cy p s m args meth c0) {t k : Nat} (h : xH D A s (MWt c t q cy) H locs) (e0 : q 0 = a0) {n : Int32} {N : Nat} (hn : ¬ n < 0) (hN : n.toNatClampNeg = N) (hby : N * 4 ≤ 536870912) (hcells : cells + 1 ≤ R.cells) (hslots : slots + N ≤ R.slots) (he : mK k = t + 1) (hx : mcl cy (t + 1) = .inl (cy 1, N, .inl (fun _ => 0))) (hk : k < 77) (hlink : Cond.fieldLink RX11 idx (TX11 k).1 (TX11 k).2.1 (TX11 k).2.2.1 ∈ wsA) (hfin : (TX11 k).2.2.2 = true) (hd : parseFieldDescriptor (TX11 k).2.2.1 = some (.array .int)) (hd1 : decode cc pc = .ok (.newarray .int, 2)) (hd2 : decode cc (pc + 2) = .ok (.putfield idx, 3))
    (kk : ∀ (q : Nat → Nat) (H : Heap) (locs : List Loc), q 0 = a0 → xH D A s (MWt c (t + 1) q cy) H locs → W p l e R s m args below meth c0 H locs (cells + 1) (slots + N) Q (F0 m (pc + 2 + 3) ls (rest))) : W p l e R s m args below meth c0 H locs cells slots Q (F0 m pc ls (.int n :: .ref a0 :: rest)) := by
  subst e0
  refine x_newI E.1 h hn hN hby hcells hslots hd1 (fun a H h => ?_)
  refine x_putK (ci := 11) (v := .ref a) (ty := .array .int) (fs := MOt c t q) E h k 0 inA11 tyX11 tyX11_ok nmX11 rfl hk hlink hfin ?_ hd rfl rfl rfl (by rw [MOt_len]; exact hk) (MWt_ref hk he hx) hd2 (fun H locs h => ?_)
  · exact mF_own k hk
  · exact kk (va_up q (t + 1) a) H locs (by rw [va_up, if_neg (by omega)]) h
theorem m_stB (E : kE cc RX11 nL D cy p s m args meth c0) {t k : Nat} (h : xH D A s (MWt c t q cy) H locs) (e0 : q 0 = a0) {n : Int32} {N : Nat} (hn : ¬ n < 0) (hN : n.toNatClampNeg = N) (hby : N * 1 ≤ 536870912) (hcells : cells + 1 ≤ R.cells) (hslots : slots + N ≤ R.slots) (he : mK k = t + 1) (hx : mcl cy (t + 1) = .inl (cy 0, N, .inl (fun _ => 0))) (hk : k < 77) (hlink : Cond.fieldLink RX11 idx (TX11 k).1 (TX11 k).2.1 (TX11 k).2.2.1 ∈ wsA) (hfin : (TX11 k).2.2.2 = true) (hd : parseFieldDescriptor (TX11 k).2.2.1 = some (.array .byte)) (hd1 : decode cc pc = .ok (.newarray .byte, 2)) (hd2 : decode cc (pc + 2) = .ok (.putfield idx, 3))
    (kk : ∀ (q : Nat → Nat) (H : Heap) (locs : List Loc), q 0 = a0 → xH D A s (MWt c (t + 1) q cy) H locs → W p l e R s m args below meth c0 H locs (cells + 1) (slots + N) Q (F0 m (pc + 2 + 3) ls (rest))) : W p l e R s m args below meth c0 H locs cells slots Q (F0 m pc ls (.int n :: .ref a0 :: rest)) := by
  subst e0
  refine x_newB E.1 h hn hN hby hcells hslots hd1 (fun a H h => ?_)
  refine x_putK (ci := 11) (v := .ref a) (ty := .array .byte) (fs := MOt c t q) E h k 0 inA11 tyX11 tyX11_ok nmX11 rfl hk hlink hfin ?_ hd rfl rfl rfl (by rw [MOt_len]; exact hk) (MWt_ref hk he hx) hd2 (fun H locs h => ?_)
  · exact mF_own k hk
  · exact kk (va_up q (t + 1) a) H locs (by rw [va_up, if_neg (by omega)]) h
theorem m_stJ (E : kE cc RX11 nL D cy p s m args meth c0) {t k : Nat} (h : xH D A s (MWt c t q cy) H locs) (e0 : q 0 = a0) {n : Int32} {N : Nat} (hn : ¬ n < 0) (hN : n.toNatClampNeg = N) (hby : N * 8 ≤ 536870912) (hcells : cells + 1 ≤ R.cells) (hslots : slots + N ≤ R.slots) (he : mK k = t + 1) (hx : mcl cy (t + 1) = .inl (cy 2, N, .inr (.inl (fun _ => 0)))) (hk : k < 77) (hlink : Cond.fieldLink RX11 idx (TX11 k).1 (TX11 k).2.1 (TX11 k).2.2.1 ∈ wsA) (hfin : (TX11 k).2.2.2 = true) (hd : parseFieldDescriptor (TX11 k).2.2.1 = some (.array .long)) (hd1 : decode cc pc = .ok (.newarray .long, 2)) (hd2 : decode cc (pc + 2) = .ok (.putfield idx, 3))
    (kk : ∀ (q : Nat → Nat) (H : Heap) (locs : List Loc), q 0 = a0 → xH D A s (MWt c (t + 1) q cy) H locs → W p l e R s m args below meth c0 H locs (cells + 1) (slots + N) Q (F0 m (pc + 2 + 3) ls (rest))) : W p l e R s m args below meth c0 H locs cells slots Q (F0 m pc ls (.int n :: .ref a0 :: rest)) := by
  subst e0
  refine x_newJ E.1 h hn hN hby hcells hslots hd1 (fun a H h => ?_)
  refine x_putK (ci := 11) (v := .ref a) (ty := .array .long) (fs := MOt c t q) E h k 0 inA11 tyX11 tyX11_ok nmX11 rfl hk hlink hfin ?_ hd rfl rfl rfl (by rw [MOt_len]; exact hk) (MWt_ref hk he hx) hd2 (fun H locs h => ?_)
  · exact mF_own k hk
  · exact kk (va_up q (t + 1) a) H locs (by rw [va_up, if_neg (by omega)]) h
theorem m_stZ (E : kE cc RX11 nL D cy p s m args meth c0) {t k : Nat} (h : xH D A s (MWt c t q cy) H locs) (e0 : q 0 = a0) {n : Int32} {N : Nat} (hn : ¬ n < 0) (hN : n.toNatClampNeg = N) (hby : N * 1 ≤ 536870912) (hcells : cells + 1 ≤ R.cells) (hslots : slots + N ≤ R.slots) (he : mK k = t + 1) (hx : mcl cy (t + 1) = .inl (cy 3, N, .inl (fun _ => 0))) (hk : k < 77) (hlink : Cond.fieldLink RX11 idx (TX11 k).1 (TX11 k).2.1 (TX11 k).2.2.1 ∈ wsA) (hfin : (TX11 k).2.2.2 = true) (hd : parseFieldDescriptor (TX11 k).2.2.1 = some (.array .boolean)) (hd1 : decode cc pc = .ok (.newarray .boolean, 2)) (hd2 : decode cc (pc + 2) = .ok (.putfield idx, 3))
    (kk : ∀ (q : Nat → Nat) (H : Heap) (locs : List Loc), q 0 = a0 → xH D A s (MWt c (t + 1) q cy) H locs → W p l e R s m args below meth c0 H locs (cells + 1) (slots + N) Q (F0 m (pc + 2 + 3) ls (rest))) : W p l e R s m args below meth c0 H locs cells slots Q (F0 m pc ls (.int n :: .ref a0 :: rest)) := by
  subst e0
  refine x_newZ E.1 h hn hN hby hcells hslots hd1 (fun a H h => ?_)
  refine x_putK (ci := 11) (v := .ref a) (ty := .array .boolean) (fs := MOt c t q) E h k 0 inA11 tyX11 tyX11_ok nmX11 rfl hk hlink hfin ?_ hd rfl rfl rfl (by rw [MOt_len]; exact hk) (MWt_ref hk he hx) hd2 (fun H locs h => ?_)
  · exact mF_own k hk
  · exact kk (va_up q (t + 1) a) H locs (by rw [va_up, if_neg (by omega)]) h
theorem m_stint (E : kE cc RX11 nL D cy p s m args meth c0) {t k : Nat} (h : xH D A s (MWt c t q cy) H locs) (e0 : q 0 = a0) {x : Int32} (he : mK k = 0) (hk : k < 77) (hlink : Cond.fieldLink RX11 idx (TX11 k).1 (TX11 k).2.1 (TX11 k).2.2.1 ∈ wsA) (hfin : (TX11 k).2.2.2 = false) (hd : parseFieldDescriptor (TX11 k).2.2.1 = some .int) (hd2 : decode cc pc = .ok (.putfield idx, 3))
    (kk : ∀ (c1 : Nat → Int32) (H : Heap) (locs : List Loc), c1 = va_up c k x → xH D A s (MWt c1 t q cy) H locs → W p l e R s m args below meth c0 H locs cells slots Q (F0 m (pc + 3) ls (rest))) : W p l e R s m args below meth c0 H locs cells slots Q (F0 m pc ls (.int x :: .ref a0 :: rest)) := by
  subst e0
  exact x_put (ci := 11) (fs := MOt c t q) E.1 h k 0 inA11 tyX11 tyX11_ok nmX11 rfl hk hlink hfin hd rfl (by rw [MOt_len]; exact hk) (MWt_int hk he) hd2 (fun H locs h => kk _ H locs rfl h)
end MStage
