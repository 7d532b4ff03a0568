section LawLoop
variable {p : Program} {l : Launch} {e : Env} {s : State} {m : MethodId} {below : List Frame} {meth : Method} {c : Code} {D : va_G} {cy : Nat → ClassId} {ks : Nat × Nat × Option Nat} {b L : Nat} {xs : Nat → Int32} {Inv : CS → MS → Prop}
set_option maxHeartbeats 4000000 in
set_option maxRecDepth 20000 in
theorem law_loop (hP : PAll Inv) (hL : L ≤ 3584) (E : zE code RL 4 ret D cy ks (fun q : Nat => s.heap.size ≤ q) p s m #[Value.ref b] meth c) (hX : lX s) (hXs : va_X b L xs s s.heap) (hbl : b < s.heap.size) :
    ∀ (n t : Nat), 7 * t ≤ L → L < 7 * t + 7 * n → ∀ (σx : CS) (σm : MS) (q qm : Nat → Nat) (H : Heap) (locs : List Loc) (ls : Array Slot) (x3 : Int32), x3 = nI (7 * t) → Inv σx σm → xH D (fun q : Nat => s.heap.size ≤ q) s (CW q cy σx ++ MW qm cy σm) H locs → lv_has ls 4 [(0, .ref b), (1, .ref (q 0)), (2, .ref (qm 0)), (3, .int x3)] → W p l e room_1 s m #[Value.ref b] below meth c H locs (107 + 3 * t) (30172 + 804 * t) (lw_Z below #[Value.ref b] s) (F0 m 18 ls []) := by
  have hx := E.1.1
  have hb := E.1.2.1
  have hbA : ¬ (fun q : Nat => s.heap.size ≤ q) b := Nat.not_le.mpr hbl
  intro n
  induction n with
  | zero => intro t h1 h2; omega
  | succ n ih =>
    intro t ht hn σx σm q qm H locs ls x3 ex3 hI h hl
    refine lv_iload_n hx hb dL_law_18 rfl (lv_at hl 3 rfl) ?_
    refine lv_aload_n hx hb dL_law_19 rfl (lv_at hl 0 rfl) ?_
    refine va_slen hx hb hXs hbl hbA h.2.2.1 dL_law_20 ?_
    refine lv_bipush (v := 7) hx hb dL_law_21 (by decide) ?_
    refine lv_isub hx hb dL_law_23 ?_
    have hi : (Int32.ofNat L - 7).toInt = (L : Int) - 7 := pk_sub_toInt (a := L) (b := 7) (by omega) (by omega)
    have hj : x3.toInt = ((7 * t : Nat) : Int) := by rw [ex3]; exact nI_toInt (by omega)
    refine lv_icmp_gt (tgt := 1096) hx hb dL_law_24 (by decide) (fun c1 => ?_) (fun c1 => ?_)
    · refine lv_iconst (v := 1) hx hb dL_law_1096 (by decide) ?_
      refine va_forget (fun q hq => h.2.2.1.2.2 q hq) ?_
      refine W.widen (k := 600000) (n := 7302250) (by omega) (by omega) ?_
      exact lw_ret hx hb E.1.2.2.2.2.2.2.2.1 E.1.2.2.2.2.2.2.2.2 dL_law_1097
    · have hlt : 7 * t + 7 ≤ L := by
        have c2 : ¬ (Int32.ofNat L - 7).toInt < x3.toInt := fun z => c1 (Int32.lt_iff_toInt_lt.mpr z)
        rw [hi, hj] at c2
        omega
      have hv : ∀ j : Nat, j < 7 → vp_in (x3 + nI j) L := by
        intro j hj7
        rw [ex3, nI_add]
        exact vp_in_nI (by omega) (by omega)
      have kk : ∀ (σx : CS) (σm : MS) (q qm : Nat → Nat) (H : Heap) (locs : List Loc) (ls : Array Slot), Inv σx σm → xH D (fun q : Nat => s.heap.size ≤ q) s (CW q cy σx ++ MW qm cy σm) H locs → lv_has ls 4 [(0, .ref b), (1, .ref (q 0)), (2, .ref (qm 0)), (3, .int x3)] → W p l e room_1 s m #[Value.ref b] below meth c H locs (107 + 3 * (t + 1)) (30172 + 804 * (t + 1)) (lw_Z below #[Value.ref b] s) (F0 m 1090 ls []) := by
        intro σx σm q qm H locs ls hI h hl
        obtain ⟨y3, ey3⟩ : ∃ z : Int32, z = x3 + 7 := ⟨_, rfl⟩
        refine lv_iinc (v := y3) (lv' := [(3, .int y3), (0, .ref b), (1, .ref (q 0)), (2, .ref (qm 0))]) hx hb dL_law_1090 hl (k := 3) rfl (by rw [ey3]; rfl) (by decide) rfl (fun ls hl => ?_)
        refine lv_goto (tgt := 18) hx hb dL_law_1093 (by decide) ?_
        refine ih (t + 1) (by omega) (by omega) σx σm q qm H locs ls y3 ?_ hI h (lv_sub hl [1, 2, 3, 0] rfl)
        rw [ey3, ex3]
        exact (nI_add (7 * t) 7).trans (by rw [show 7 * t + 7 = 7 * (t + 1) by omega])
      refine lv_aload_n hx hb dL_law_27 rfl (lv_at hl 0 rfl) ?_
      refine lv_iload_n hx hb dL_law_28 rfl (lv_at hl 3 rfl) ?_
      have hv0 : vp_in x3 L := by rw [ex3]; exact vp_in_nI (by omega) (by omega)
      refine va_sld hx hb hXs hbl hbA h.2.2.1 hv0 dL_law_29 ?_
      refine lv_bipush (v := 31) hx hb dL_law_30 (by decide) ?_
      refine lv_iand hx hb dL_law_32 ?_
      refine lv_topi (fun w ew => ?_)
      by_cases c100 : w = 0
      · refine lv_tableIn (off := 111) (tgt := 144) hx hb dL_law_33 (by rw [c100]; decide) (by rw [c100]; decide) (by rw [c100]; rfl) (by decide) ?_
        exact law_c0 hP E hX hXs hbl (by omega) hv hI h hl kk
      by_cases c101 : w = 1
      · refine lv_tableIn (off := 174) (tgt := 207) hx hb dL_law_33 (by rw [c101]; decide) (by rw [c101]; decide) (by rw [c101]; rfl) (by decide) ?_
        exact law_c1 hP E hX hXs hbl (by omega) hv hI h hl kk
      by_cases c102 : w = 2
      · refine lv_tableIn (off := 197) (tgt := 230) hx hb dL_law_33 (by rw [c102]; decide) (by rw [c102]; decide) (by rw [c102]; rfl) (by decide) ?_
        exact law_c2 hP E hX hXs hbl (by omega) hv hI h hl kk
      by_cases c103 : w = 3
      · refine lv_tableIn (off := 230) (tgt := 263) hx hb dL_law_33 (by rw [c103]; decide) (by rw [c103]; decide) (by rw [c103]; rfl) (by decide) ?_
        exact law_c3 hP E hX hXs hbl (by omega) hv hI h hl kk
      by_cases c104 : w = 4
      · refine lv_tableIn (off := 243) (tgt := 276) hx hb dL_law_33 (by rw [c104]; decide) (by rw [c104]; decide) (by rw [c104]; rfl) (by decide) ?_
        exact law_c4 hP E hX hXs hbl (by omega) hv hI h hl kk
      by_cases c105 : w = 5
      · refine lv_tableIn (off := 286) (tgt := 319) hx hb dL_law_33 (by rw [c105]; decide) (by rw [c105]; decide) (by rw [c105]; rfl) (by decide) ?_
        exact law_c5 hP E hX hXs hbl (by omega) hv hI h hl kk
      by_cases c106 : w = 6
      · refine lv_tableIn (off := 361) (tgt := 394) hx hb dL_law_33 (by rw [c106]; decide) (by rw [c106]; decide) (by rw [c106]; rfl) (by decide) ?_
        exact law_c6 hP E hX hXs hbl (by omega) hv hI h hl kk
      by_cases c107 : w = 7
      · refine lv_tableIn (off := 404) (tgt := 437) hx hb dL_law_33 (by rw [c107]; decide) (by rw [c107]; decide) (by rw [c107]; rfl) (by decide) ?_
        exact law_c7 hP E hX hXs hbl (by omega) hv hI h hl kk
      by_cases c108 : w = 8
      · refine lv_tableIn (off := 463) (tgt := 496) hx hb dL_law_33 (by rw [c108]; decide) (by rw [c108]; decide) (by rw [c108]; rfl) (by decide) ?_
        exact law_c8 hP E hX hXs hbl (by omega) hv hI h hl kk
      by_cases c109 : w = 9
      · refine lv_tableIn (off := 486) (tgt := 519) hx hb dL_law_33 (by rw [c109]; decide) (by rw [c109]; decide) (by rw [c109]; rfl) (by decide) ?_
        exact law_c9 hP E hX hXs hbl (by omega) hv hI h hl kk
      by_cases c110 : w = 10
      · refine lv_tableIn (off := 545) (tgt := 578) hx hb dL_law_33 (by rw [c110]; decide) (by rw [c110]; decide) (by rw [c110]; rfl) (by decide) ?_
        exact law_c10 hP E hX hXs hbl (by omega) hv hI h hl kk
      by_cases c111 : w = 11
      · refine lv_tableIn (off := 588) (tgt := 621) hx hb dL_law_33 (by rw [c111]; decide) (by rw [c111]; decide) (by rw [c111]; rfl) (by decide) ?_
        exact law_c11 hP E hX hXs hbl (by omega) hv hI h hl kk
      by_cases c112 : w = 12
      · refine lv_tableIn (off := 631) (tgt := 664) hx hb dL_law_33 (by rw [c112]; decide) (by rw [c112]; decide) (by rw [c112]; rfl) (by decide) ?_
        exact law_c12 hP E hX hXs hbl (by omega) hv hI h hl kk
      by_cases c113 : w = 13
      · refine lv_tableIn (off := 664) (tgt := 697) hx hb dL_law_33 (by rw [c113]; decide) (by rw [c113]; decide) (by rw [c113]; rfl) (by decide) ?_
        exact law_c13 hP E hX hXs hbl (by omega) hv hI h hl kk
      by_cases c114 : w = 14
      · refine lv_tableIn (off := 687) (tgt := 720) hx hb dL_law_33 (by rw [c114]; decide) (by rw [c114]; decide) (by rw [c114]; rfl) (by decide) ?_
        exact law_c14 hP E hX hXs hbl (by omega) hv hI h hl kk
      by_cases c115 : w = 15
      · refine lv_tableIn (off := 710) (tgt := 743) hx hb dL_law_33 (by rw [c115]; decide) (by rw [c115]; decide) (by rw [c115]; rfl) (by decide) ?_
        exact law_c15 hP E hX hXs hbl (by omega) hv hI h hl kk
      by_cases c116 : w = 16
      · refine lv_tableIn (off := 743) (tgt := 776) hx hb dL_law_33 (by rw [c116]; decide) (by rw [c116]; decide) (by rw [c116]; rfl) (by decide) ?_
        exact law_c16 hP E hX hXs hbl (by omega) hv hI h hl kk
      by_cases c117 : w = 17
      · refine lv_tableIn (off := 776) (tgt := 809) hx hb dL_law_33 (by rw [c117]; decide) (by rw [c117]; decide) (by rw [c117]; rfl) (by decide) ?_
        exact law_c17 hP E hX hXs hbl (by omega) hv hI h hl kk
      by_cases c118 : w = 18
      · refine lv_tableIn (off := 819) (tgt := 852) hx hb dL_law_33 (by rw [c118]; decide) (by rw [c118]; decide) (by rw [c118]; rfl) (by decide) ?_
        exact law_c18 hP E hX hXs hbl (by omega) hv hI h hl kk
      by_cases c119 : w = 19
      · refine lv_tableIn (off := 862) (tgt := 895) hx hb dL_law_33 (by rw [c119]; decide) (by rw [c119]; decide) (by rw [c119]; rfl) (by decide) ?_
        exact law_c19 hP E hX hXs hbl (by omega) hv hI h hl kk
      by_cases c120 : w = 20
      · refine lv_tableIn (off := 905) (tgt := 938) hx hb dL_law_33 (by rw [c120]; decide) (by rw [c120]; decide) (by rw [c120]; rfl) (by decide) ?_
        exact law_c20 hP E hX hXs hbl (by omega) hv hI h hl kk
      by_cases c121 : w = 21
      · refine lv_tableIn (off := 948) (tgt := 981) hx hb dL_law_33 (by rw [c121]; decide) (by rw [c121]; decide) (by rw [c121]; rfl) (by decide) ?_
        exact law_c21 hP E hX hXs hbl (by omega) hv hI h hl kk
      by_cases c122 : w = 22
      · refine lv_tableIn (off := 991) (tgt := 1024) hx hb dL_law_33 (by rw [c122]; decide) (by rw [c122]; decide) (by rw [c122]; rfl) (by decide) ?_
        exact law_c22 hP E hX hXs hbl (by omega) hv hI h hl kk
      by_cases c123 : w = 23
      · refine lv_tableIn (off := 1034) (tgt := 1067) hx hb dL_law_33 (by rw [c123]; decide) (by rw [c123]; decide) (by rw [c123]; rfl) (by decide) ?_
        exact law_c23 hP E hX hXs hbl (by omega) hv hI h hl kk
      refine lv_tableOut (tgt := 1090) hx hb dL_law_33 (x_out 0 23 (fun k h1 h2 hk => by rcases (show k = 0 ∨ k = 1 ∨ k = 2 ∨ k = 3 ∨ k = 4 ∨ k = 5 ∨ k = 6 ∨ k = 7 ∨ k = 8 ∨ k = 9 ∨ k = 10 ∨ k = 11 ∨ k = 12 ∨ k = 13 ∨ k = 14 ∨ k = 15 ∨ k = 16 ∨ k = 17 ∨ k = 18 ∨ k = 19 ∨ k = 20 ∨ k = 21 ∨ k = 22 ∨ k = 23 by omega) with rfl | rfl | rfl | rfl | rfl | rfl | rfl | rfl | rfl | rfl | rfl | rfl | rfl | rfl | rfl | rfl | rfl | rfl | rfl | rfl | rfl | rfl | rfl | rfl <;> first | exact c100 (x_ofI hk rfl) | exact c101 (x_ofI hk rfl) | exact c102 (x_ofI hk rfl) | exact c103 (x_ofI hk rfl) | exact c104 (x_ofI hk rfl) | exact c105 (x_ofI hk rfl) | exact c106 (x_ofI hk rfl) | exact c107 (x_ofI hk rfl) | exact c108 (x_ofI hk rfl) | exact c109 (x_ofI hk rfl) | exact c110 (x_ofI hk rfl) | exact c111 (x_ofI hk rfl) | exact c112 (x_ofI hk rfl) | exact c113 (x_ofI hk rfl) | exact c114 (x_ofI hk rfl) | exact c115 (x_ofI hk rfl) | exact c116 (x_ofI hk rfl) | exact c117 (x_ofI hk rfl) | exact c118 (x_ofI hk rfl) | exact c119 (x_ofI hk rfl) | exact c120 (x_ofI hk rfl) | exact c121 (x_ofI hk rfl) | exact c122 (x_ofI hk rfl) | exact c123 (x_ofI hk rfl))) (by decide) ?_
      refine W.widen (k := 107 + 3 * (t + 1)) (n := 30172 + 804 * (t + 1)) (by omega) (by omega) ?_
      exact kk σx σm q qm H locs ls hI h hl
end LawLoop
