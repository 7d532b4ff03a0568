/-! LawBook.add: the law's cell comes into the row of texts -/
abbrev lr_add : Room := { frames := 0, cells := 0, slots := 0, locals := 0 }
theorem yyX6_add : xY yX6_add RX6 cX6_add 2 none 1 := ⟨⟨wsA_mem (107 + 502) (by decide +kernel) (by decide +kernel), wsA_mem 15 (by decide +kernel) (by decide +kernel), wsA_mem (107 + 4) (by decide +kernel) (by decide +kernel), wsA_mem (107 + 503) (by decide +kernel) (by decide +kernel)⟩, by decide +kernel⟩
def lTx (q : Nat → Nat) (cy : Nat → ClassId) (f : Nat → Option Nat) : Nat × va_E := (q 7, .inl (cy 4, 8, .inr (.inr (.inr (.inr f)))))
theorem cw_6 {q : Nat → Nat} {cy : Nat → ClassId} {σ : CS} : (CW q cy σ)[6]? = some (q 6, .inr (6, [.ref (q 7), .ref (q (46 + 3 * 0)), .int (σ.1 122)])) := rfl
theorem cw_7 {q : Nat → Nat} {cy : Nat → ClassId} {σ : CS} : (CW q cy σ)[7]? = some (lTx q cy (lrow q σ.2.2.1)) := rfl
theorem cw_s6 {q : Nat → Nat} {cy : Nat → ClassId} {σ : CS} {x : Int32} : (CW q cy σ).set 6 (q 6, .inr (6, [.ref (q 7), .ref (q (46 + 3 * 0)), .int x])) = CW q cy (cF σ 122 x) := rfl
set_option maxHeartbeats 4000000 in
set_option maxRecDepth 20000 in
theorem l_addLaw {l : Launch} {D : va_G} {cy : Nat → ClassId} {q : Nat → Nat} {σ : CS} {sz : Nat} {L : va_W} {b j k : Nat} {fs : List Value} (hL : L[j]? = some (b, .inr (5, fs))) (hk : σ.1 122 = nI k) (hk8 : k < 8) : Met l yX6_add (Cond.code yX6_add cX6_add 2 none :: wsA) lr_add (lPc D cy (CW q cy σ ++ L) sz [.ref (q 6), .ref b]) (va_Qv (fun _ : Unit => True) (xB D cy (fun _ : Unit => (CW q cy (cF σ 122 (nI (k + 1)))).set 7 (lTx q cy (va_up (lrow q σ.2.2.1) k (some b))) ++ L) (va_A (CW q cy σ ++ L) sz)) (va_A (CW q cy σ ++ L) sz)) 0 0 (va_A (CW q cy σ ++ L) sz) := by
  refine l_enter (own := RX6) (by decide) rfl (Nat.le_of_ble_eq_true rfl) ?_
  intro p e s m below meth c ls E hlX h hl
  have hx := E.1
  have hb := E.2.1
  have hl : lv_has ls 2 [(0, .ref (q 6)), (1, .ref b)] := hl
  refine lv_aload_n hx hb dX6_add_0 rfl (lv_at hl 0 rfl) ?_
  refine x_get (ci := 6) (v := .int (σ.1 122)) E h 2 6 inA6 rfl (by decide) fX6_24 (lk_app cw_6) rfl dX6_add_1 ?_
  refine lv_bipush (v := 8) hx hb dX6_add_4 (by decide) ?_
  refine lv_icmp_ge (tgt := 29) hx hb dX6_add_6 (by decide) (fun c1 => ?_) (fun c1 => ?_)
  · rw [hk] at c1
    exact absurd c1 (nI_ge hk8 (by decide))
  · refine lv_aload_n hx hb dX6_add_9 rfl (lv_at hl 0 rfl) ?_
    refine x_get (ci := 6) (v := .ref (q 7)) E h 0 6 inA6 rfl (by decide) fX6_11 (lk_app cw_6) rfl dX6_add_10 ?_
    refine lv_aload_n hx hb dX6_add_13 rfl (lv_at hl 0 rfl) ?_
    refine x_get (ci := 6) (v := .int (σ.1 122)) E h 2 6 inA6 rfl (by decide) fX6_24 (lk_app cw_6) rfl dX6_add_14 ?_
    refine lv_aload_n hx hb dX6_add_17 rfl (lv_at hl 1 rfl) ?_
    have hin : vp_in (σ.1 122) 8 := by rw [hk]; exact vp_in_nI hk8 (by omega)
    have hkc : (σ.1 122).toNatClampNeg = k := by rw [hk]; exact nI_clamp (by omega)
    refine va_astq (cA := cy 4) (n := 8) (r := (RX5, TX5, 4)) E.1 E.2.1 E.2.2.2.2.2.2.1 h.1 h.2.1 h.2.2.1 7 4 ((CW q cy σ).length + j) 5 (lk_app cw_7) rfl ((lk_add (α := Nat × va_E) (CW q cy σ) L j).trans hL) rfl hin dX6_add_18 (fun H locs hP hD hS => ?_)
    rw [hkc] at hP hD
    have e1 : (CW q cy σ ++ L).set 7 (lTx q cy (va_up (lrow q σ.2.2.1) k (some b))) = (CW q cy σ).set 7 (lTx q cy (va_up (lrow q σ.2.2.1) k (some b))) ++ L := st_app cw_7
    have h : xH D (va_A (CW q cy σ ++ L) sz) s ((CW q cy σ).set 7 (lTx q cy (va_up (lrow q σ.2.2.1) k (some b))) ++ L) H locs := l_eq e1 ⟨hP, hD, hS, h.2.2.2⟩
    have h6 : ((CW q cy σ).set 7 (lTx q cy (va_up (lrow q σ.2.2.1) k (some b))))[6]? = some (q 6, .inr (6, [.ref (q 7), .ref (q (46 + 3 * 0)), .int (σ.1 122)])) := by
      rw [List.getElem?_set_ne (by decide)]
      exact cw_6
    refine lv_aload_n hx hb dX6_add_19 rfl (lv_at hl 0 rfl) ?_
    refine lv_dup hx hb dX6_add_20 rfl ?_
    refine x_get (ci := 6) (v := .int (σ.1 122)) E h 2 6 inA6 rfl (by decide) fX6_24 (lk_app h6) rfl dX6_add_21 ?_
    refine lv_iconst (v := 1) hx hb dX6_add_24 (by decide) ?_
    refine lv_iadd hx hb dX6_add_25 ?_
    have ev : σ.1 122 + 1 = nI (k + 1) := by rw [hk]; exact nI_1 k
    rw [ev]
    have e2 : ((CW q cy σ).set 7 (lTx q cy (va_up (lrow q σ.2.2.1) k (some b))) ++ L).set 6 (q 6, .inr (6, ([.ref (q 7), .ref (q (46 + 3 * 0)), .int (σ.1 122)] : List Value).set 2 (.int (nI (k + 1))))) = (CW q cy (cF σ 122 (nI (k + 1)))).set 7 (lTx q cy (va_up (lrow q σ.2.2.1) k (some b))) ++ L := by
      rw [st_app h6, List.set_comm _ _ (by decide)]
      exact congrArg (fun w => w.set 7 (lTx q cy (va_up (lrow q σ.2.2.1) k (some b))) ++ L) cw_s6
    refine x_put (ci := 6) (fs := [.ref (q 7), .ref (q (46 + 3 * 0)), .int (σ.1 122)]) E h 2 6 inA6 tyX6 tyX6_ok nmX6 rfl (by decide) fX6_24 rfl (by decide +kernel) (lk_app h6) (Nat.le_of_ble_eq_true rfl) e2 dX6_add_26 (fun H locs h => ?_)
    exact x_vretG (WW := fun _ : Unit => (CW q cy (cF σ 122 (nI (k + 1)))).set 7 (lTx q cy (va_up (lrow q σ.2.2.1) k (some b))) ++ L) (u := ()) (Post := fun _ => True) E h trivial dX6_add_29
