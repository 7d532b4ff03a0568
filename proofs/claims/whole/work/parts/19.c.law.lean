section LawCases
variable {p : Program} {l : Launch} {e : Env} {s : State} {m : MethodId} {below : List Frame} {meth : Method} {c : Code} {D : va_G} {cy : Nat → ClassId} {ks : Nat × Nat × Option Nat} {b L : Nat} {xs : Nat → Int32} {Inv : CS → MS → Prop}
set_option maxHeartbeats 4000000 in
set_option maxRecDepth 20000 in
theorem law_c8 (hP : PAll Inv) (E : zE code RL 4 ret D cy ks (fun q : Nat => s.heap.size ≤ q) p s m #[Value.ref b] meth c) (hX : lX s) (hXs : va_X b L xs s s.heap) (hbl : b < s.heap.size) {t : Nat} {x3 : Int32} (ht : t ≤ 512) (hv : ∀ j : Nat, j < 7 → vp_in (x3 + nI j) L) {σx : CS} {σm : MS} {q qm : Nat → Nat} {H : Heap} {locs : List Loc} {ls : Array Slot} (hI : Inv σx σm) (h : xH D (fun q : Nat => s.heap.size ≤ q) s (CW q cy σx ++ MW qm cy σm) H locs) (hl : lv_has ls 4 [(0, .ref b), (1, .ref (q 0)), (2, .ref (qm 0)), (3, .int x3)]) {Q : State → Prop}
    (kk : ∀ (σx : CS) (σm : MS) (q qm : Nat → Nat) (H : Heap) (locs : List Loc) (ls : Array Slot), Inv σx σm → xH D (fun q : Nat => s.heap.size ≤ q) s (CW q cy σx ++ MW qm cy σm) H locs → lv_has ls 4 [(0, .ref b), (1, .ref (q 0)), (2, .ref (qm 0)), (3, .int x3)] → W p l e room_1 s m #[Value.ref b] below meth c H locs (107 + 3 * (t + 1)) (30172 + 804 * (t + 1)) Q (F0 m 1090 ls [])) : W p l e room_1 s m #[Value.ref b] below meth c H locs (107 + 3 * t) (30172 + 804 * t) Q (F0 m 496 ls []) := by
  have hx := E.1.1
  have hb := E.1.2.1
  have hbA : ¬ (fun q : Nat => s.heap.size ≤ q) b := Nat.not_le.mpr hbl
  have hce : 107 + 3 * t ≤ 600000 := by omega
  have hsl : 30172 + 804 * t ≤ 7302250 := by omega
  have hw := hP.2.2.2.2.2.2.2.2.1 σx σm ((xs (x3 + 1).toNatClampNeg)) hI
  refine lv_aload_n hx hb dL_law_496 rfl (lv_at hl 1 rfl) ?_
  refine lv_aload_n hx hb dL_law_497 rfl (lv_at hl 0 rfl) ?_
  refine lv_iload_n hx hb dL_law_498 rfl (lv_at hl 3 rfl) ?_
  refine lv_iconst (v := 1) hx hb dL_law_499 (by decide) ?_
  refine lv_iadd hx hb dL_law_500 ?_
  refine va_sld hx hb hXs hbl hbA h.2.2.1 (hv 1 (by decide)) dL_law_501 ?_
  refine J_calli (WW := CW q cy) (ws0 := CW q cy σx) (Rs := MW qm cy σm) h (z_runV (WW := CW q cy) (rest := []) E h.left (cC_X10_fame hw) yyX10_fame lL_52 0 rfl rfl ⟨Nat.le_of_ble_eq_true rfl, Nat.le_of_ble_eq_true rfl⟩ rfl rfl hl.1 rfl (Nat.le_of_ble_eq_true rfl) dL_law_502 ⟨hce, hsl⟩) (fun r1 σ1 H locs hw h => ?_)
  refine lv_aload_n hx hb dL_law_505 rfl (lv_at hl 2 rfl) ?_
  refine lv_aload_n hx hb dL_law_506 rfl (lv_at hl 0 rfl) ?_
  refine lv_iload_n hx hb dL_law_507 rfl (lv_at hl 3 rfl) ?_
  refine lv_iconst (v := 1) hx hb dL_law_508 (by decide) ?_
  refine lv_iadd hx hb dL_law_509 ?_
  refine va_sld hx hb hXs hbl hbA h.2.2.1 (hv 1 (by decide)) dL_law_510 ?_
  have h := h.swap
  refine J_calli (WW := MW qm cy) (ws0 := MW qm cy σm) (Rs := CW q cy σ1) h (x_runV (WW := MW qm cy) (rest := [.int r1]) E.1 h.left (cM_fame hw) yyX11_fame lL_55 0 rfl rfl ⟨Nat.le_of_ble_eq_true rfl, Nat.le_of_ble_eq_true rfl⟩ rfl rfl hl.1 rfl (Nat.le_of_ble_eq_true rfl) dL_law_511 ⟨hce, hsl⟩) (fun r2 σ2 H locs hw h => ?_)
  have h := h.swap
  refine lv_icmp_eq (tgt := 1090) hx hb dL_law_514 (by decide) (fun c1 => ?_) (fun c1 => absurd hw.1 c1)
  refine W.widen (k := 107 + 3 * (t + 1)) (n := 30172 + 804 * (t + 1)) (by omega) (by omega) ?_
  exact kk σ1 σ2 q qm H locs ls hw.2 h hl

set_option maxHeartbeats 4000000 in
set_option maxRecDepth 20000 in
theorem law_c9 (hP : PAll Inv) (E : zE code RL 4 ret D cy ks (fun q : Nat => s.heap.size ≤ q) p s m #[Value.ref b] meth c) (hX : lX s) (hXs : va_X b L xs s s.heap) (hbl : b < s.heap.size) {t : Nat} {x3 : Int32} (ht : t ≤ 512) (hv : ∀ j : Nat, j < 7 → vp_in (x3 + nI j) L) {σx : CS} {σm : MS} {q qm : Nat → Nat} {H : Heap} {locs : List Loc} {ls : Array Slot} (hI : Inv σx σm) (h : xH D (fun q : Nat => s.heap.size ≤ q) s (CW q cy σx ++ MW qm cy σm) H locs) (hl : lv_has ls 4 [(0, .ref b), (1, .ref (q 0)), (2, .ref (qm 0)), (3, .int x3)]) {Q : State → Prop}
    (kk : ∀ (σx : CS) (σm : MS) (q qm : Nat → Nat) (H : Heap) (locs : List Loc) (ls : Array Slot), Inv σx σm → xH D (fun q : Nat => s.heap.size ≤ q) s (CW q cy σx ++ MW qm cy σm) H locs → lv_has ls 4 [(0, .ref b), (1, .ref (q 0)), (2, .ref (qm 0)), (3, .int x3)] → W p l e room_1 s m #[Value.ref b] below meth c H locs (107 + 3 * (t + 1)) (30172 + 804 * (t + 1)) Q (F0 m 1090 ls [])) : W p l e room_1 s m #[Value.ref b] below meth c H locs (107 + 3 * t) (30172 + 804 * t) Q (F0 m 519 ls []) := by
  have hx := E.1.1
  have hb := E.1.2.1
  have hbA : ¬ (fun q : Nat => s.heap.size ≤ q) b := Nat.not_le.mpr hbl
  have hce : 107 + 3 * t ≤ 600000 := by omega
  have hsl : 30172 + 804 * t ≤ 7302250 := by omega
  by_cases hz : xs (x3 + 3).toNatClampNeg = 0
  · have hw := hP.2.2.2.2.2.2.2.2.2.1 σx σm ((xs (x3 + 1).toNatClampNeg)) ((xs (x3 + 2).toNatClampNeg)) 0 hI (Or.inl rfl)
    refine lv_aload_n hx hb dL_law_519 rfl (lv_at hl 1 rfl) ?_
    refine lv_aload_n hx hb dL_law_520 rfl (lv_at hl 0 rfl) ?_
    refine lv_iload_n hx hb dL_law_521 rfl (lv_at hl 3 rfl) ?_
    refine lv_iconst (v := 1) hx hb dL_law_522 (by decide) ?_
    refine lv_iadd hx hb dL_law_523 ?_
    refine va_sld hx hb hXs hbl hbA h.2.2.1 (hv 1 (by decide)) dL_law_524 ?_
    refine lv_aload_n hx hb dL_law_525 rfl (lv_at hl 0 rfl) ?_
    refine lv_iload_n hx hb dL_law_526 rfl (lv_at hl 3 rfl) ?_
    refine lv_iconst (v := 2) hx hb dL_law_527 (by decide) ?_
    refine lv_iadd hx hb dL_law_528 ?_
    refine va_sld hx hb hXs hbl hbA h.2.2.1 (hv 2 (by decide)) dL_law_529 ?_
    refine lv_aload_n hx hb dL_law_530 rfl (lv_at hl 0 rfl) ?_
    refine lv_iload_n hx hb dL_law_531 rfl (lv_at hl 3 rfl) ?_
    refine lv_iconst (v := 3) hx hb dL_law_532 (by decide) ?_
    refine lv_iadd hx hb dL_law_533 ?_
    refine va_sld hx hb hXs hbl hbA h.2.2.1 (hv 3 (by decide)) dL_law_534 ?_
    refine lv_if_eq (tgt := 542) hx hb dL_law_535 (by decide) (fun _ => ?_) (fun c1 => absurd hz c1)
    refine lv_iconst (v := 0) hx hb dL_law_542 (by decide) ?_
    refine J_calli (WW := CW q cy) (ws0 := CW q cy σx) (Rs := MW qm cy σm) h (z_runV (WW := CW q cy) (rest := []) E h.left (cC_X10_comes hw) yyX10_comes lL_56 0 rfl rfl ⟨Nat.le_of_ble_eq_true rfl, Nat.le_of_ble_eq_true rfl⟩ rfl rfl hl.1 rfl (Nat.le_of_ble_eq_true rfl) dL_law_543 ⟨hce, hsl⟩) (fun r1 σ1 H locs hw h => ?_)
    refine lv_aload_n hx hb dL_law_546 rfl (lv_at hl 2 rfl) ?_
    refine lv_aload_n hx hb dL_law_547 rfl (lv_at hl 0 rfl) ?_
    refine lv_iload_n hx hb dL_law_548 rfl (lv_at hl 3 rfl) ?_
    refine lv_iconst (v := 1) hx hb dL_law_549 (by decide) ?_
    refine lv_iadd hx hb dL_law_550 ?_
    refine va_sld hx hb hXs hbl hbA h.2.2.1 (hv 1 (by decide)) dL_law_551 ?_
    refine lv_aload_n hx hb dL_law_552 rfl (lv_at hl 0 rfl) ?_
    refine lv_iload_n hx hb dL_law_553 rfl (lv_at hl 3 rfl) ?_
    refine lv_iconst (v := 2) hx hb dL_law_554 (by decide) ?_
    refine lv_iadd hx hb dL_law_555 ?_
    refine va_sld hx hb hXs hbl hbA h.2.2.1 (hv 2 (by decide)) dL_law_556 ?_
    refine lv_aload_n hx hb dL_law_557 rfl (lv_at hl 0 rfl) ?_
    refine lv_iload_n hx hb dL_law_558 rfl (lv_at hl 3 rfl) ?_
    refine lv_iconst (v := 3) hx hb dL_law_559 (by decide) ?_
    refine lv_iadd hx hb dL_law_560 ?_
    refine va_sld hx hb hXs hbl hbA h.2.2.1 (hv 3 (by decide)) dL_law_561 ?_
    refine lv_if_eq (tgt := 569) hx hb dL_law_562 (by decide) (fun _ => ?_) (fun c1 => absurd hz c1)
    refine lv_iconst (v := 0) hx hb dL_law_569 (by decide) ?_
    have h := h.swap
    refine J_calli (WW := MW qm cy) (ws0 := MW qm cy σm) (Rs := CW q cy σ1) h (x_runV (WW := MW qm cy) (rest := [.int r1]) E.1 h.left (cM_comes hw) yyX11_comes lL_59 0 rfl rfl ⟨Nat.le_of_ble_eq_true rfl, Nat.le_of_ble_eq_true rfl⟩ rfl rfl hl.1 rfl (Nat.le_of_ble_eq_true rfl) dL_law_570 ⟨hce, hsl⟩) (fun r2 σ2 H locs hw h => ?_)
    have h := h.swap
    refine lv_icmp_eq (tgt := 1090) hx hb dL_law_573 (by decide) (fun c1 => ?_) (fun c1 => absurd hw.1 c1)
    refine W.widen (k := 107 + 3 * (t + 1)) (n := 30172 + 804 * (t + 1)) (by omega) (by omega) ?_
    exact kk σ1 σ2 q qm H locs ls hw.2 h hl
  · have hw := hP.2.2.2.2.2.2.2.2.2.1 σx σm ((xs (x3 + 1).toNatClampNeg)) ((xs (x3 + 2).toNatClampNeg)) 1 hI (Or.inr rfl)
    refine lv_aload_n hx hb dL_law_519 rfl (lv_at hl 1 rfl) ?_
    refine lv_aload_n hx hb dL_law_520 rfl (lv_at hl 0 rfl) ?_
    refine lv_iload_n hx hb dL_law_521 rfl (lv_at hl 3 rfl) ?_
    refine lv_iconst (v := 1) hx hb dL_law_522 (by decide) ?_
    refine lv_iadd hx hb dL_law_523 ?_
    refine va_sld hx hb hXs hbl hbA h.2.2.1 (hv 1 (by decide)) dL_law_524 ?_
    refine lv_aload_n hx hb dL_law_525 rfl (lv_at hl 0 rfl) ?_
    refine lv_iload_n hx hb dL_law_526 rfl (lv_at hl 3 rfl) ?_
    refine lv_iconst (v := 2) hx hb dL_law_527 (by decide) ?_
    refine lv_iadd hx hb dL_law_528 ?_
    refine va_sld hx hb hXs hbl hbA h.2.2.1 (hv 2 (by decide)) dL_law_529 ?_
    refine lv_aload_n hx hb dL_law_530 rfl (lv_at hl 0 rfl) ?_
    refine lv_iload_n hx hb dL_law_531 rfl (lv_at hl 3 rfl) ?_
    refine lv_iconst (v := 3) hx hb dL_law_532 (by decide) ?_
    refine lv_iadd hx hb dL_law_533 ?_
    refine va_sld hx hb hXs hbl hbA h.2.2.1 (hv 3 (by decide)) dL_law_534 ?_
    refine lv_if_eq (tgt := 542) hx hb dL_law_535 (by decide) (fun c1 => absurd c1 hz) (fun _ => ?_)
    refine lv_iconst (v := 1) hx hb dL_law_538 (by decide) ?_
    refine lv_goto (tgt := 543) hx hb dL_law_539 (by decide) ?_
    refine J_calli (WW := CW q cy) (ws0 := CW q cy σx) (Rs := MW qm cy σm) h (z_runV (WW := CW q cy) (rest := []) E h.left (cC_X10_comes hw) yyX10_comes lL_56 0 rfl rfl ⟨Nat.le_of_ble_eq_true rfl, Nat.le_of_ble_eq_true rfl⟩ rfl rfl hl.1 rfl (Nat.le_of_ble_eq_true rfl) dL_law_543 ⟨hce, hsl⟩) (fun r1 σ1 H locs hw h => ?_)
    refine lv_aload_n hx hb dL_law_546 rfl (lv_at hl 2 rfl) ?_
    refine lv_aload_n hx hb dL_law_547 rfl (lv_at hl 0 rfl) ?_
    refine lv_iload_n hx hb dL_law_548 rfl (lv_at hl 3 rfl) ?_
    refine lv_iconst (v := 1) hx hb dL_law_549 (by decide) ?_
    refine lv_iadd hx hb dL_law_550 ?_
    refine va_sld hx hb hXs hbl hbA h.2.2.1 (hv 1 (by decide)) dL_law_551 ?_
    refine lv_aload_n hx hb dL_law_552 rfl (lv_at hl 0 rfl) ?_
    refine lv_iload_n hx hb dL_law_553 rfl (lv_at hl 3 rfl) ?_
    refine lv_iconst (v := 2) hx hb dL_law_554 (by decide) ?_
    refine lv_iadd hx hb dL_law_555 ?_
    refine va_sld hx hb hXs hbl hbA h.2.2.1 (hv 2 (by decide)) dL_law_556 ?_
    refine lv_aload_n hx hb dL_law_557 rfl (lv_at hl 0 rfl) ?_
    refine lv_iload_n hx hb dL_law_558 rfl (lv_at hl 3 rfl) ?_
    refine lv_iconst (v := 3) hx hb dL_law_559 (by decide) ?_
    refine lv_iadd hx hb dL_law_560 ?_
    refine va_sld hx hb hXs hbl hbA h.2.2.1 (hv 3 (by decide)) dL_law_561 ?_
    refine lv_if_eq (tgt := 569) hx hb dL_law_562 (by decide) (fun c1 => absurd c1 hz) (fun _ => ?_)
    refine lv_iconst (v := 1) hx hb dL_law_565 (by decide) ?_
    refine lv_goto (tgt := 570) hx hb dL_law_566 (by decide) ?_
    have h := h.swap
    refine J_calli (WW := MW qm cy) (ws0 := MW qm cy σm) (Rs := CW q cy σ1) h (x_runV (WW := MW qm cy) (rest := [.int r1]) E.1 h.left (cM_comes hw) yyX11_comes lL_59 0 rfl rfl ⟨Nat.le_of_ble_eq_true rfl, Nat.le_of_ble_eq_true rfl⟩ rfl rfl hl.1 rfl (Nat.le_of_ble_eq_true rfl) dL_law_570 ⟨hce, hsl⟩) (fun r2 σ2 H locs hw h => ?_)
    have h := h.swap
    refine lv_icmp_eq (tgt := 1090) hx hb dL_law_573 (by decide) (fun c1 => ?_) (fun c1 => absurd hw.1 c1)
    refine W.widen (k := 107 + 3 * (t + 1)) (n := 30172 + 804 * (t + 1)) (by omega) (by omega) ?_
    exact kk σ1 σ2 q qm H locs ls hw.2 h hl

set_option maxHeartbeats 4000000 in
set_option maxRecDepth 20000 in
theorem law_c10 (hP : PAll Inv) (E : zE code RL 4 ret D cy ks (fun q : Nat => s.heap.size ≤ q) p s m #[Value.ref b] meth c) (hX : lX s) (hXs : va_X b L xs s s.heap) (hbl : b < s.heap.size) {t : Nat} {x3 : Int32} (ht : t ≤ 512) (hv : ∀ j : Nat, j < 7 → vp_in (x3 + nI j) L) {σx : CS} {σm : MS} {q qm : Nat → Nat} {H : Heap} {locs : List Loc} {ls : Array Slot} (hI : Inv σx σm) (h : xH D (fun q : Nat => s.heap.size ≤ q) s (CW q cy σx ++ MW qm cy σm) H locs) (hl : lv_has ls 4 [(0, .ref b), (1, .ref (q 0)), (2, .ref (qm 0)), (3, .int x3)]) {Q : State → Prop}
    (kk : ∀ (σx : CS) (σm : MS) (q qm : Nat → Nat) (H : Heap) (locs : List Loc) (ls : Array Slot), Inv σx σm → xH D (fun q : Nat => s.heap.size ≤ q) s (CW q cy σx ++ MW qm cy σm) H locs → lv_has ls 4 [(0, .ref b), (1, .ref (q 0)), (2, .ref (qm 0)), (3, .int x3)] → W p l e room_1 s m #[Value.ref b] below meth c H locs (107 + 3 * (t + 1)) (30172 + 804 * (t + 1)) Q (F0 m 1090 ls [])) : W p l e room_1 s m #[Value.ref b] below meth c H locs (107 + 3 * t) (30172 + 804 * t) Q (F0 m 578 ls []) := by
  have hx := E.1.1
  have hb := E.1.2.1
  have hbA : ¬ (fun q : Nat => s.heap.size ≤ q) b := Nat.not_le.mpr hbl
  have hce : 107 + 3 * t ≤ 600000 := by omega
  have hsl : 30172 + 804 * t ≤ 7302250 := by omega
  have hw := hP.2.2.2.2.2.2.2.2.2.2.1 σx σm ((xs (x3 + 1).toNatClampNeg)) ((xs (x3 + 2).toNatClampNeg)) ((xs (x3 + 3).toNatClampNeg)) hI
  refine lv_aload_n hx hb dL_law_578 rfl (lv_at hl 1 rfl) ?_
  refine lv_aload_n hx hb dL_law_579 rfl (lv_at hl 0 rfl) ?_
  refine lv_iload_n hx hb dL_law_580 rfl (lv_at hl 3 rfl) ?_
  refine lv_iconst (v := 1) hx hb dL_law_581 (by decide) ?_
  refine lv_iadd hx hb dL_law_582 ?_
  refine va_sld hx hb hXs hbl hbA h.2.2.1 (hv 1 (by decide)) dL_law_583 ?_
  refine lv_aload_n hx hb dL_law_584 rfl (lv_at hl 0 rfl) ?_
  refine lv_iload_n hx hb dL_law_585 rfl (lv_at hl 3 rfl) ?_
  refine lv_iconst (v := 2) hx hb dL_law_586 (by decide) ?_
  refine lv_iadd hx hb dL_law_587 ?_
  refine va_sld hx hb hXs hbl hbA h.2.2.1 (hv 2 (by decide)) dL_law_588 ?_
  refine lv_aload_n hx hb dL_law_589 rfl (lv_at hl 0 rfl) ?_
  refine lv_iload_n hx hb dL_law_590 rfl (lv_at hl 3 rfl) ?_
  refine lv_iconst (v := 3) hx hb dL_law_591 (by decide) ?_
  refine lv_iadd hx hb dL_law_592 ?_
  refine va_sld hx hb hXs hbl hbA h.2.2.1 (hv 3 (by decide)) dL_law_593 ?_
  refine J_calli (WW := CW q cy) (ws0 := CW q cy σx) (Rs := MW qm cy σm) h (z_runV (WW := CW q cy) (rest := []) E h.left (cC_X10_fate hw) yyX10_fate lL_60 0 rfl rfl ⟨Nat.le_of_ble_eq_true rfl, Nat.le_of_ble_eq_true rfl⟩ rfl rfl hl.1 rfl (Nat.le_of_ble_eq_true rfl) dL_law_594 ⟨hce, hsl⟩) (fun r1 σ1 H locs hw h => ?_)
  refine lv_aload_n hx hb dL_law_597 rfl (lv_at hl 2 rfl) ?_
  refine lv_aload_n hx hb dL_law_598 rfl (lv_at hl 0 rfl) ?_
  refine lv_iload_n hx hb dL_law_599 rfl (lv_at hl 3 rfl) ?_
  refine lv_iconst (v := 1) hx hb dL_law_600 (by decide) ?_
  refine lv_iadd hx hb dL_law_601 ?_
  refine va_sld hx hb hXs hbl hbA h.2.2.1 (hv 1 (by decide)) dL_law_602 ?_
  refine lv_aload_n hx hb dL_law_603 rfl (lv_at hl 0 rfl) ?_
  refine lv_iload_n hx hb dL_law_604 rfl (lv_at hl 3 rfl) ?_
  refine lv_iconst (v := 2) hx hb dL_law_605 (by decide) ?_
  refine lv_iadd hx hb dL_law_606 ?_
  refine va_sld hx hb hXs hbl hbA h.2.2.1 (hv 2 (by decide)) dL_law_607 ?_
  refine lv_aload_n hx hb dL_law_608 rfl (lv_at hl 0 rfl) ?_
  refine lv_iload_n hx hb dL_law_609 rfl (lv_at hl 3 rfl) ?_
  refine lv_iconst (v := 3) hx hb dL_law_610 (by decide) ?_
  refine lv_iadd hx hb dL_law_611 ?_
  refine va_sld hx hb hXs hbl hbA h.2.2.1 (hv 3 (by decide)) dL_law_612 ?_
  have h := h.swap
  refine J_calli (WW := MW qm cy) (ws0 := MW qm cy σm) (Rs := CW q cy σ1) h (x_runV (WW := MW qm cy) (rest := [.int r1]) E.1 h.left (cM_fate hw) yyX11_fate lL_63 0 rfl rfl ⟨Nat.le_of_ble_eq_true rfl, Nat.le_of_ble_eq_true rfl⟩ rfl rfl hl.1 rfl (Nat.le_of_ble_eq_true rfl) dL_law_613 ⟨hce, hsl⟩) (fun r2 σ2 H locs hw h => ?_)
  have h := h.swap
  refine lv_icmp_eq (tgt := 1090) hx hb dL_law_616 (by decide) (fun c1 => ?_) (fun c1 => absurd hw.1 c1)
  refine W.widen (k := 107 + 3 * (t + 1)) (n := 30172 + 804 * (t + 1)) (by omega) (by omega) ?_
  exact kk σ1 σ2 q qm H locs ls hw.2 h hl

set_option maxHeartbeats 4000000 in
set_option maxRecDepth 20000 in
theorem law_c11 (hP : PAll Inv) (E : zE code RL 4 ret D cy ks (fun q : Nat => s.heap.size ≤ q) p s m #[Value.ref b] meth c) (hX : lX s) (hXs : va_X b L xs s s.heap) (hbl : b < s.heap.size) {t : Nat} {x3 : Int32} (ht : t ≤ 512) (hv : ∀ j : Nat, j < 7 → vp_in (x3 + nI j) L) {σx : CS} {σm : MS} {q qm : Nat → Nat} {H : Heap} {locs : List Loc} {ls : Array Slot} (hI : Inv σx σm) (h : xH D (fun q : Nat => s.heap.size ≤ q) s (CW q cy σx ++ MW qm cy σm) H locs) (hl : lv_has ls 4 [(0, .ref b), (1, .ref (q 0)), (2, .ref (qm 0)), (3, .int x3)]) {Q : State → Prop}
    (kk : ∀ (σx : CS) (σm : MS) (q qm : Nat → Nat) (H : Heap) (locs : List Loc) (ls : Array Slot), Inv σx σm → xH D (fun q : Nat => s.heap.size ≤ q) s (CW q cy σx ++ MW qm cy σm) H locs → lv_has ls 4 [(0, .ref b), (1, .ref (q 0)), (2, .ref (qm 0)), (3, .int x3)] → W p l e room_1 s m #[Value.ref b] below meth c H locs (107 + 3 * (t + 1)) (30172 + 804 * (t + 1)) Q (F0 m 1090 ls [])) : W p l e room_1 s m #[Value.ref b] below meth c H locs (107 + 3 * t) (30172 + 804 * t) Q (F0 m 621 ls []) := by
  have hx := E.1.1
  have hb := E.1.2.1
  have hbA : ¬ (fun q : Nat => s.heap.size ≤ q) b := Nat.not_le.mpr hbl
  have hce : 107 + 3 * t ≤ 600000 := by omega
  have hsl : 30172 + 804 * t ≤ 7302250 := by omega
  have hw := hP.2.2.2.2.2.2.2.2.2.2.2.1 σx σm ((xs (x3 + 1).toNatClampNeg)) ((xs (x3 + 2).toNatClampNeg)) ((xs (x3 + 3).toNatClampNeg)) hI
  refine lv_aload_n hx hb dL_law_621 rfl (lv_at hl 1 rfl) ?_
  refine lv_aload_n hx hb dL_law_622 rfl (lv_at hl 0 rfl) ?_
  refine lv_iload_n hx hb dL_law_623 rfl (lv_at hl 3 rfl) ?_
  refine lv_iconst (v := 1) hx hb dL_law_624 (by decide) ?_
  refine lv_iadd hx hb dL_law_625 ?_
  refine va_sld hx hb hXs hbl hbA h.2.2.1 (hv 1 (by decide)) dL_law_626 ?_
  refine lv_aload_n hx hb dL_law_627 rfl (lv_at hl 0 rfl) ?_
  refine lv_iload_n hx hb dL_law_628 rfl (lv_at hl 3 rfl) ?_
  refine lv_iconst (v := 2) hx hb dL_law_629 (by decide) ?_
  refine lv_iadd hx hb dL_law_630 ?_
  refine va_sld hx hb hXs hbl hbA h.2.2.1 (hv 2 (by decide)) dL_law_631 ?_
  refine lv_aload_n hx hb dL_law_632 rfl (lv_at hl 0 rfl) ?_
  refine lv_iload_n hx hb dL_law_633 rfl (lv_at hl 3 rfl) ?_
  refine lv_iconst (v := 3) hx hb dL_law_634 (by decide) ?_
  refine lv_iadd hx hb dL_law_635 ?_
  refine va_sld hx hb hXs hbl hbA h.2.2.1 (hv 3 (by decide)) dL_law_636 ?_
  refine J_calli (WW := CW q cy) (ws0 := CW q cy σx) (Rs := MW qm cy σm) h (z_runV (WW := CW q cy) (rest := []) E h.left (cC_X10_leave hw) yyX10_leave lL_64 0 rfl rfl ⟨Nat.le_of_ble_eq_true rfl, Nat.le_of_ble_eq_true rfl⟩ rfl rfl hl.1 rfl (Nat.le_of_ble_eq_true rfl) dL_law_637 ⟨hce, hsl⟩) (fun r1 σ1 H locs hw h => ?_)
  refine lv_aload_n hx hb dL_law_640 rfl (lv_at hl 2 rfl) ?_
  refine lv_aload_n hx hb dL_law_641 rfl (lv_at hl 0 rfl) ?_
  refine lv_iload_n hx hb dL_law_642 rfl (lv_at hl 3 rfl) ?_
  refine lv_iconst (v := 1) hx hb dL_law_643 (by decide) ?_
  refine lv_iadd hx hb dL_law_644 ?_
  refine va_sld hx hb hXs hbl hbA h.2.2.1 (hv 1 (by decide)) dL_law_645 ?_
  refine lv_aload_n hx hb dL_law_646 rfl (lv_at hl 0 rfl) ?_
  refine lv_iload_n hx hb dL_law_647 rfl (lv_at hl 3 rfl) ?_
  refine lv_iconst (v := 2) hx hb dL_law_648 (by decide) ?_
  refine lv_iadd hx hb dL_law_649 ?_
  refine va_sld hx hb hXs hbl hbA h.2.2.1 (hv 2 (by decide)) dL_law_650 ?_
  refine lv_aload_n hx hb dL_law_651 rfl (lv_at hl 0 rfl) ?_
  refine lv_iload_n hx hb dL_law_652 rfl (lv_at hl 3 rfl) ?_
  refine lv_iconst (v := 3) hx hb dL_law_653 (by decide) ?_
  refine lv_iadd hx hb dL_law_654 ?_
  refine va_sld hx hb hXs hbl hbA h.2.2.1 (hv 3 (by decide)) dL_law_655 ?_
  have h := h.swap
  refine J_calli (WW := MW qm cy) (ws0 := MW qm cy σm) (Rs := CW q cy σ1) h (x_runV (WW := MW qm cy) (rest := [.int r1]) E.1 h.left (cM_leave hw) yyX11_leave lL_67 0 rfl rfl ⟨Nat.le_of_ble_eq_true rfl, Nat.le_of_ble_eq_true rfl⟩ rfl rfl hl.1 rfl (Nat.le_of_ble_eq_true rfl) dL_law_656 ⟨hce, hsl⟩) (fun r2 σ2 H locs hw h => ?_)
  have h := h.swap
  refine lv_icmp_eq (tgt := 1090) hx hb dL_law_659 (by decide) (fun c1 => ?_) (fun c1 => absurd hw.1 c1)
  refine W.widen (k := 107 + 3 * (t + 1)) (n := 30172 + 804 * (t + 1)) (by omega) (by omega) ?_
  exact kk σ1 σ2 q qm H locs ls hw.2 h hl

set_option maxHeartbeats 4000000 in
set_option maxRecDepth 20000 in
theorem law_c12 (hP : PAll Inv) (E : zE code RL 4 ret D cy ks (fun q : Nat => s.heap.size ≤ q) p s m #[Value.ref b] meth c) (hX : lX s) (hXs : va_X b L xs s s.heap) (hbl : b < s.heap.size) {t : Nat} {x3 : Int32} (ht : t ≤ 512) (hv : ∀ j : Nat, j < 7 → vp_in (x3 + nI j) L) {σx : CS} {σm : MS} {q qm : Nat → Nat} {H : Heap} {locs : List Loc} {ls : Array Slot} (hI : Inv σx σm) (h : xH D (fun q : Nat => s.heap.size ≤ q) s (CW q cy σx ++ MW qm cy σm) H locs) (hl : lv_has ls 4 [(0, .ref b), (1, .ref (q 0)), (2, .ref (qm 0)), (3, .int x3)]) {Q : State → Prop}
    (kk : ∀ (σx : CS) (σm : MS) (q qm : Nat → Nat) (H : Heap) (locs : List Loc) (ls : Array Slot), Inv σx σm → xH D (fun q : Nat => s.heap.size ≤ q) s (CW q cy σx ++ MW qm cy σm) H locs → lv_has ls 4 [(0, .ref b), (1, .ref (q 0)), (2, .ref (qm 0)), (3, .int x3)] → W p l e room_1 s m #[Value.ref b] below meth c H locs (107 + 3 * (t + 1)) (30172 + 804 * (t + 1)) Q (F0 m 1090 ls [])) : W p l e room_1 s m #[Value.ref b] below meth c H locs (107 + 3 * t) (30172 + 804 * t) Q (F0 m 664 ls []) := by
  have hx := E.1.1
  have hb := E.1.2.1
  have hbA : ¬ (fun q : Nat => s.heap.size ≤ q) b := Nat.not_le.mpr hbl
  have hce : 107 + 3 * t ≤ 600000 := by omega
  have hsl : 30172 + 804 * t ≤ 7302250 := by omega
  have hw := hP.2.2.2.2.2.2.2.2.2.2.2.2.1 σx σm ((xs (x3 + 1).toNatClampNeg)) ((xs (x3 + 2).toNatClampNeg)) hI
  refine lv_aload_n hx hb dL_law_664 rfl (lv_at hl 1 rfl) ?_
  refine lv_aload_n hx hb dL_law_665 rfl (lv_at hl 0 rfl) ?_
  refine lv_iload_n hx hb dL_law_666 rfl (lv_at hl 3 rfl) ?_
  refine lv_iconst (v := 1) hx hb dL_law_667 (by decide) ?_
  refine lv_iadd hx hb dL_law_668 ?_
  refine va_sld hx hb hXs hbl hbA h.2.2.1 (hv 1 (by decide)) dL_law_669 ?_
  refine lv_aload_n hx hb dL_law_670 rfl (lv_at hl 0 rfl) ?_
  refine lv_iload_n hx hb dL_law_671 rfl (lv_at hl 3 rfl) ?_
  refine lv_iconst (v := 2) hx hb dL_law_672 (by decide) ?_
  refine lv_iadd hx hb dL_law_673 ?_
  refine va_sld hx hb hXs hbl hbA h.2.2.1 (hv 2 (by decide)) dL_law_674 ?_
  refine J_calli (WW := CW q cy) (ws0 := CW q cy σx) (Rs := MW qm cy σm) h (z_runV (WW := CW q cy) (rest := []) E h.left (cC_X10_degree hw) yyX10_degree lL_68 0 rfl rfl ⟨Nat.le_of_ble_eq_true rfl, Nat.le_of_ble_eq_true rfl⟩ rfl rfl hl.1 rfl (Nat.le_of_ble_eq_true rfl) dL_law_675 ⟨hce, hsl⟩) (fun r1 σ1 H locs hw h => ?_)
  refine lv_aload_n hx hb dL_law_678 rfl (lv_at hl 2 rfl) ?_
  refine lv_aload_n hx hb dL_law_679 rfl (lv_at hl 0 rfl) ?_
  refine lv_iload_n hx hb dL_law_680 rfl (lv_at hl 3 rfl) ?_
  refine lv_iconst (v := 1) hx hb dL_law_681 (by decide) ?_
  refine lv_iadd hx hb dL_law_682 ?_
  refine va_sld hx hb hXs hbl hbA h.2.2.1 (hv 1 (by decide)) dL_law_683 ?_
  refine lv_aload_n hx hb dL_law_684 rfl (lv_at hl 0 rfl) ?_
  refine lv_iload_n hx hb dL_law_685 rfl (lv_at hl 3 rfl) ?_
  refine lv_iconst (v := 2) hx hb dL_law_686 (by decide) ?_
  refine lv_iadd hx hb dL_law_687 ?_
  refine va_sld hx hb hXs hbl hbA h.2.2.1 (hv 2 (by decide)) dL_law_688 ?_
  have h := h.swap
  refine J_calli (WW := MW qm cy) (ws0 := MW qm cy σm) (Rs := CW q cy σ1) h (x_runV (WW := MW qm cy) (rest := [.int r1]) E.1 h.left (cM_degree hw) yyX11_degree lL_71 0 rfl rfl ⟨Nat.le_of_ble_eq_true rfl, Nat.le_of_ble_eq_true rfl⟩ rfl rfl hl.1 rfl (Nat.le_of_ble_eq_true rfl) dL_law_689 ⟨hce, hsl⟩) (fun r2 σ2 H locs hw h => ?_)
  have h := h.swap
  refine lv_icmp_eq (tgt := 1090) hx hb dL_law_692 (by decide) (fun c1 => ?_) (fun c1 => absurd hw.1 c1)
  refine W.widen (k := 107 + 3 * (t + 1)) (n := 30172 + 804 * (t + 1)) (by omega) (by omega) ?_
  exact kk σ1 σ2 q qm H locs ls hw.2 h hl

set_option maxHeartbeats 4000000 in
set_option maxRecDepth 20000 in
theorem law_c13 (hP : PAll Inv) (E : zE code RL 4 ret D cy ks (fun q : Nat => s.heap.size ≤ q) p s m #[Value.ref b] meth c) (hX : lX s) (hXs : va_X b L xs s s.heap) (hbl : b < s.heap.size) {t : Nat} {x3 : Int32} (ht : t ≤ 512) (hv : ∀ j : Nat, j < 7 → vp_in (x3 + nI j) L) {σx : CS} {σm : MS} {q qm : Nat → Nat} {H : Heap} {locs : List Loc} {ls : Array Slot} (hI : Inv σx σm) (h : xH D (fun q : Nat => s.heap.size ≤ q) s (CW q cy σx ++ MW qm cy σm) H locs) (hl : lv_has ls 4 [(0, .ref b), (1, .ref (q 0)), (2, .ref (qm 0)), (3, .int x3)]) {Q : State → Prop}
    (kk : ∀ (σx : CS) (σm : MS) (q qm : Nat → Nat) (H : Heap) (locs : List Loc) (ls : Array Slot), Inv σx σm → xH D (fun q : Nat => s.heap.size ≤ q) s (CW q cy σx ++ MW qm cy σm) H locs → lv_has ls 4 [(0, .ref b), (1, .ref (q 0)), (2, .ref (qm 0)), (3, .int x3)] → W p l e room_1 s m #[Value.ref b] below meth c H locs (107 + 3 * (t + 1)) (30172 + 804 * (t + 1)) Q (F0 m 1090 ls [])) : W p l e room_1 s m #[Value.ref b] below meth c H locs (107 + 3 * t) (30172 + 804 * t) Q (F0 m 697 ls []) := by
  have hx := E.1.1
  have hb := E.1.2.1
  have hbA : ¬ (fun q : Nat => s.heap.size ≤ q) b := Nat.not_le.mpr hbl
  have hce : 107 + 3 * t ≤ 600000 := by omega
  have hsl : 30172 + 804 * t ≤ 7302250 := by omega
  have hw := hP.2.2.2.2.2.2.2.2.2.2.2.2.2.1 σx σm ((xs (x3 + 1).toNatClampNeg)) hI
  refine lv_aload_n hx hb dL_law_697 rfl (lv_at hl 1 rfl) ?_
  refine lv_aload_n hx hb dL_law_698 rfl (lv_at hl 0 rfl) ?_
  refine lv_iload_n hx hb dL_law_699 rfl (lv_at hl 3 rfl) ?_
  refine lv_iconst (v := 1) hx hb dL_law_700 (by decide) ?_
  refine lv_iadd hx hb dL_law_701 ?_
  refine va_sld hx hb hXs hbl hbA h.2.2.1 (hv 1 (by decide)) dL_law_702 ?_
  refine J_calli (WW := CW q cy) (ws0 := CW q cy σx) (Rs := MW qm cy σm) h (z_runV (WW := CW q cy) (rest := []) E h.left (cC_X10_gaps hw) yyX10_gaps lL_72 0 rfl rfl ⟨Nat.le_of_ble_eq_true rfl, Nat.le_of_ble_eq_true rfl⟩ rfl rfl hl.1 rfl (Nat.le_of_ble_eq_true rfl) dL_law_703 ⟨hce, hsl⟩) (fun r1 σ1 H locs hw h => ?_)
  refine lv_aload_n hx hb dL_law_706 rfl (lv_at hl 2 rfl) ?_
  refine lv_aload_n hx hb dL_law_707 rfl (lv_at hl 0 rfl) ?_
  refine lv_iload_n hx hb dL_law_708 rfl (lv_at hl 3 rfl) ?_
  refine lv_iconst (v := 1) hx hb dL_law_709 (by decide) ?_
  refine lv_iadd hx hb dL_law_710 ?_
  refine va_sld hx hb hXs hbl hbA h.2.2.1 (hv 1 (by decide)) dL_law_711 ?_
  have h := h.swap
  refine J_calli (WW := MW qm cy) (ws0 := MW qm cy σm) (Rs := CW q cy σ1) h (x_runV (WW := MW qm cy) (rest := [.int r1]) E.1 h.left (cM_gaps hw) yyX11_gaps lL_75 0 rfl rfl ⟨Nat.le_of_ble_eq_true rfl, Nat.le_of_ble_eq_true rfl⟩ rfl rfl hl.1 rfl (Nat.le_of_ble_eq_true rfl) dL_law_712 ⟨hce, hsl⟩) (fun r2 σ2 H locs hw h => ?_)
  have h := h.swap
  refine lv_icmp_eq (tgt := 1090) hx hb dL_law_715 (by decide) (fun c1 => ?_) (fun c1 => absurd hw.1 c1)
  refine W.widen (k := 107 + 3 * (t + 1)) (n := 30172 + 804 * (t + 1)) (by omega) (by omega) ?_
  exact kk σ1 σ2 q qm H locs ls hw.2 h hl

set_option maxHeartbeats 4000000 in
set_option maxRecDepth 20000 in
theorem law_c14 (hP : PAll Inv) (E : zE code RL 4 ret D cy ks (fun q : Nat => s.heap.size ≤ q) p s m #[Value.ref b] meth c) (hX : lX s) (hXs : va_X b L xs s s.heap) (hbl : b < s.heap.size) {t : Nat} {x3 : Int32} (ht : t ≤ 512) (hv : ∀ j : Nat, j < 7 → vp_in (x3 + nI j) L) {σx : CS} {σm : MS} {q qm : Nat → Nat} {H : Heap} {locs : List Loc} {ls : Array Slot} (hI : Inv σx σm) (h : xH D (fun q : Nat => s.heap.size ≤ q) s (CW q cy σx ++ MW qm cy σm) H locs) (hl : lv_has ls 4 [(0, .ref b), (1, .ref (q 0)), (2, .ref (qm 0)), (3, .int x3)]) {Q : State → Prop}
    (kk : ∀ (σx : CS) (σm : MS) (q qm : Nat → Nat) (H : Heap) (locs : List Loc) (ls : Array Slot), Inv σx σm → xH D (fun q : Nat => s.heap.size ≤ q) s (CW q cy σx ++ MW qm cy σm) H locs → lv_has ls 4 [(0, .ref b), (1, .ref (q 0)), (2, .ref (qm 0)), (3, .int x3)] → W p l e room_1 s m #[Value.ref b] below meth c H locs (107 + 3 * (t + 1)) (30172 + 804 * (t + 1)) Q (F0 m 1090 ls [])) : W p l e room_1 s m #[Value.ref b] below meth c H locs (107 + 3 * t) (30172 + 804 * t) Q (F0 m 720 ls []) := by
  have hx := E.1.1
  have hb := E.1.2.1
  have hbA : ¬ (fun q : Nat => s.heap.size ≤ q) b := Nat.not_le.mpr hbl
  have hce : 107 + 3 * t ≤ 600000 := by omega
  have hsl : 30172 + 804 * t ≤ 7302250 := by omega
  have hw := hP.2.2.2.2.2.2.2.2.2.2.2.2.2.2.1 σx σm ((xs (x3 + 1).toNatClampNeg)) hI
  refine lv_aload_n hx hb dL_law_720 rfl (lv_at hl 1 rfl) ?_
  refine lv_aload_n hx hb dL_law_721 rfl (lv_at hl 0 rfl) ?_
  refine lv_iload_n hx hb dL_law_722 rfl (lv_at hl 3 rfl) ?_
  refine lv_iconst (v := 1) hx hb dL_law_723 (by decide) ?_
  refine lv_iadd hx hb dL_law_724 ?_
  refine va_sld hx hb hXs hbl hbA h.2.2.1 (hv 1 (by decide)) dL_law_725 ?_
  refine J_calli (WW := CW q cy) (ws0 := CW q cy σx) (Rs := MW qm cy σm) h (z_runV (WW := CW q cy) (rest := []) E h.left (cC_X10_law hw) yyX10_law lL_76 0 rfl rfl ⟨Nat.le_of_ble_eq_true rfl, Nat.le_of_ble_eq_true rfl⟩ rfl rfl hl.1 rfl (Nat.le_of_ble_eq_true rfl) dL_law_726 ⟨hce, hsl⟩) (fun r1 σ1 H locs hw h => ?_)
  refine lv_aload_n hx hb dL_law_729 rfl (lv_at hl 2 rfl) ?_
  refine lv_aload_n hx hb dL_law_730 rfl (lv_at hl 0 rfl) ?_
  refine lv_iload_n hx hb dL_law_731 rfl (lv_at hl 3 rfl) ?_
  refine lv_iconst (v := 1) hx hb dL_law_732 (by decide) ?_
  refine lv_iadd hx hb dL_law_733 ?_
  refine va_sld hx hb hXs hbl hbA h.2.2.1 (hv 1 (by decide)) dL_law_734 ?_
  have h := h.swap
  refine J_calli (WW := MW qm cy) (ws0 := MW qm cy σm) (Rs := CW q cy σ1) h (x_runV (WW := MW qm cy) (rest := [.int r1]) E.1 h.left (cM_law hw) yyX11_law lL_79 0 rfl rfl ⟨Nat.le_of_ble_eq_true rfl, Nat.le_of_ble_eq_true rfl⟩ rfl rfl hl.1 rfl (Nat.le_of_ble_eq_true rfl) dL_law_735 ⟨hce, hsl⟩) (fun r2 σ2 H locs hw h => ?_)
  have h := h.swap
  refine lv_icmp_eq (tgt := 1090) hx hb dL_law_738 (by decide) (fun c1 => ?_) (fun c1 => absurd hw.1 c1)
  refine W.widen (k := 107 + 3 * (t + 1)) (n := 30172 + 804 * (t + 1)) (by omega) (by omega) ?_
  exact kk σ1 σ2 q qm H locs ls hw.2 h hl

set_option maxHeartbeats 4000000 in
set_option maxRecDepth 20000 in
theorem law_c15 (hP : PAll Inv) (E : zE code RL 4 ret D cy ks (fun q : Nat => s.heap.size ≤ q) p s m #[Value.ref b] meth c) (hX : lX s) (hXs : va_X b L xs s s.heap) (hbl : b < s.heap.size) {t : Nat} {x3 : Int32} (ht : t ≤ 512) (hv : ∀ j : Nat, j < 7 → vp_in (x3 + nI j) L) {σx : CS} {σm : MS} {q qm : Nat → Nat} {H : Heap} {locs : List Loc} {ls : Array Slot} (hI : Inv σx σm) (h : xH D (fun q : Nat => s.heap.size ≤ q) s (CW q cy σx ++ MW qm cy σm) H locs) (hl : lv_has ls 4 [(0, .ref b), (1, .ref (q 0)), (2, .ref (qm 0)), (3, .int x3)]) {Q : State → Prop}
    (kk : ∀ (σx : CS) (σm : MS) (q qm : Nat → Nat) (H : Heap) (locs : List Loc) (ls : Array Slot), Inv σx σm → xH D (fun q : Nat => s.heap.size ≤ q) s (CW q cy σx ++ MW qm cy σm) H locs → lv_has ls 4 [(0, .ref b), (1, .ref (q 0)), (2, .ref (qm 0)), (3, .int x3)] → W p l e room_1 s m #[Value.ref b] below meth c H locs (107 + 3 * (t + 1)) (30172 + 804 * (t + 1)) Q (F0 m 1090 ls [])) : W p l e room_1 s m #[Value.ref b] below meth c H locs (107 + 3 * t) (30172 + 804 * t) Q (F0 m 743 ls []) := by
  have hx := E.1.1
  have hb := E.1.2.1
  have hbA : ¬ (fun q : Nat => s.heap.size ≤ q) b := Nat.not_le.mpr hbl
  have hce : 107 + 3 * t ≤ 600000 := by omega
  have hsl : 30172 + 804 * t ≤ 7302250 := by omega
  have hw := hP.2.2.2.2.2.2.2.2.2.2.2.2.2.2.2.1 σx σm ((xs (x3 + 1).toNatClampNeg)) ((xs (x3 + 2).toNatClampNeg)) hI
  refine lv_aload_n hx hb dL_law_743 rfl (lv_at hl 1 rfl) ?_
  refine lv_aload_n hx hb dL_law_744 rfl (lv_at hl 0 rfl) ?_
  refine lv_iload_n hx hb dL_law_745 rfl (lv_at hl 3 rfl) ?_
  refine lv_iconst (v := 1) hx hb dL_law_746 (by decide) ?_
  refine lv_iadd hx hb dL_law_747 ?_
  refine va_sld hx hb hXs hbl hbA h.2.2.1 (hv 1 (by decide)) dL_law_748 ?_
  refine lv_aload_n hx hb dL_law_749 rfl (lv_at hl 0 rfl) ?_
  refine lv_iload_n hx hb dL_law_750 rfl (lv_at hl 3 rfl) ?_
  refine lv_iconst (v := 2) hx hb dL_law_751 (by decide) ?_
  refine lv_iadd hx hb dL_law_752 ?_
  refine va_sld hx hb hXs hbl hbA h.2.2.1 (hv 2 (by decide)) dL_law_753 ?_
  refine J_calli (WW := CW q cy) (ws0 := CW q cy σx) (Rs := MW qm cy σm) h (z_runV (WW := CW q cy) (rest := []) E h.left (cC_X10_proved hw) yyX10_proved lL_80 0 rfl rfl ⟨Nat.le_of_ble_eq_true rfl, Nat.le_of_ble_eq_true rfl⟩ rfl rfl hl.1 rfl (Nat.le_of_ble_eq_true rfl) dL_law_754 ⟨hce, hsl⟩) (fun r1 σ1 H locs hw h => ?_)
  refine lv_aload_n hx hb dL_law_757 rfl (lv_at hl 2 rfl) ?_
  refine lv_aload_n hx hb dL_law_758 rfl (lv_at hl 0 rfl) ?_
  refine lv_iload_n hx hb dL_law_759 rfl (lv_at hl 3 rfl) ?_
  refine lv_iconst (v := 1) hx hb dL_law_760 (by decide) ?_
  refine lv_iadd hx hb dL_law_761 ?_
  refine va_sld hx hb hXs hbl hbA h.2.2.1 (hv 1 (by decide)) dL_law_762 ?_
  refine lv_aload_n hx hb dL_law_763 rfl (lv_at hl 0 rfl) ?_
  refine lv_iload_n hx hb dL_law_764 rfl (lv_at hl 3 rfl) ?_
  refine lv_iconst (v := 2) hx hb dL_law_765 (by decide) ?_
  refine lv_iadd hx hb dL_law_766 ?_
  refine va_sld hx hb hXs hbl hbA h.2.2.1 (hv 2 (by decide)) dL_law_767 ?_
  have h := h.swap
  refine J_calli (WW := MW qm cy) (ws0 := MW qm cy σm) (Rs := CW q cy σ1) h (x_runV (WW := MW qm cy) (rest := [.int r1]) E.1 h.left (cM_proved hw) yyX11_proved lL_83 0 rfl rfl ⟨Nat.le_of_ble_eq_true rfl, Nat.le_of_ble_eq_true rfl⟩ rfl rfl hl.1 rfl (Nat.le_of_ble_eq_true rfl) dL_law_768 ⟨hce, hsl⟩) (fun r2 σ2 H locs hw h => ?_)
  have h := h.swap
  refine lv_icmp_eq (tgt := 1090) hx hb dL_law_771 (by decide) (fun c1 => ?_) (fun c1 => absurd hw.1 c1)
  refine W.widen (k := 107 + 3 * (t + 1)) (n := 30172 + 804 * (t + 1)) (by omega) (by omega) ?_
  exact kk σ1 σ2 q qm H locs ls hw.2 h hl

set_option maxHeartbeats 4000000 in
set_option maxRecDepth 20000 in
theorem law_c16 (hP : PAll Inv) (E : zE code RL 4 ret D cy ks (fun q : Nat => s.heap.size ≤ q) p s m #[Value.ref b] meth c) (hX : lX s) (hXs : va_X b L xs s s.heap) (hbl : b < s.heap.size) {t : Nat} {x3 : Int32} (ht : t ≤ 512) (hv : ∀ j : Nat, j < 7 → vp_in (x3 + nI j) L) {σx : CS} {σm : MS} {q qm : Nat → Nat} {H : Heap} {locs : List Loc} {ls : Array Slot} (hI : Inv σx σm) (h : xH D (fun q : Nat => s.heap.size ≤ q) s (CW q cy σx ++ MW qm cy σm) H locs) (hl : lv_has ls 4 [(0, .ref b), (1, .ref (q 0)), (2, .ref (qm 0)), (3, .int x3)]) {Q : State → Prop}
    (kk : ∀ (σx : CS) (σm : MS) (q qm : Nat → Nat) (H : Heap) (locs : List Loc) (ls : Array Slot), Inv σx σm → xH D (fun q : Nat => s.heap.size ≤ q) s (CW q cy σx ++ MW qm cy σm) H locs → lv_has ls 4 [(0, .ref b), (1, .ref (q 0)), (2, .ref (qm 0)), (3, .int x3)] → W p l e room_1 s m #[Value.ref b] below meth c H locs (107 + 3 * (t + 1)) (30172 + 804 * (t + 1)) Q (F0 m 1090 ls [])) : W p l e room_1 s m #[Value.ref b] below meth c H locs (107 + 3 * t) (30172 + 804 * t) Q (F0 m 776 ls []) := by
  have hx := E.1.1
  have hb := E.1.2.1
  have hbA : ¬ (fun q : Nat => s.heap.size ≤ q) b := Nat.not_le.mpr hbl
  have hce : 107 + 3 * t ≤ 600000 := by omega
  have hsl : 30172 + 804 * t ≤ 7302250 := by omega
  have hw := hP.2.2.2.2.2.2.2.2.2.2.2.2.2.2.2.2.1 σx σm ((xs (x3 + 1).toNatClampNeg)) ((xs (x3 + 2).toNatClampNeg)) hI
  refine lv_aload_n hx hb dL_law_776 rfl (lv_at hl 1 rfl) ?_
  refine lv_aload_n hx hb dL_law_777 rfl (lv_at hl 0 rfl) ?_
  refine lv_iload_n hx hb dL_law_778 rfl (lv_at hl 3 rfl) ?_
  refine lv_iconst (v := 1) hx hb dL_law_779 (by decide) ?_
  refine lv_iadd hx hb dL_law_780 ?_
  refine va_sld hx hb hXs hbl hbA h.2.2.1 (hv 1 (by decide)) dL_law_781 ?_
  refine lv_aload_n hx hb dL_law_782 rfl (lv_at hl 0 rfl) ?_
  refine lv_iload_n hx hb dL_law_783 rfl (lv_at hl 3 rfl) ?_
  refine lv_iconst (v := 2) hx hb dL_law_784 (by decide) ?_
  refine lv_iadd hx hb dL_law_785 ?_
  refine va_sld hx hb hXs hbl hbA h.2.2.1 (hv 2 (by decide)) dL_law_786 ?_
  refine J_calli (WW := CW q cy) (ws0 := CW q cy σx) (Rs := MW qm cy σm) h (z_runV (WW := CW q cy) (rest := []) E h.left (cC_X10_barred hw) yyX10_barred lL_84 0 rfl rfl ⟨Nat.le_of_ble_eq_true rfl, Nat.le_of_ble_eq_true rfl⟩ rfl rfl hl.1 rfl (Nat.le_of_ble_eq_true rfl) dL_law_787 ⟨hce, hsl⟩) (fun r1 σ1 H locs hw h => ?_)
  refine lv_aload_n hx hb dL_law_790 rfl (lv_at hl 2 rfl) ?_
  refine lv_aload_n hx hb dL_law_791 rfl (lv_at hl 0 rfl) ?_
  refine lv_iload_n hx hb dL_law_792 rfl (lv_at hl 3 rfl) ?_
  refine lv_iconst (v := 1) hx hb dL_law_793 (by decide) ?_
  refine lv_iadd hx hb dL_law_794 ?_
  refine va_sld hx hb hXs hbl hbA h.2.2.1 (hv 1 (by decide)) dL_law_795 ?_
  refine lv_aload_n hx hb dL_law_796 rfl (lv_at hl 0 rfl) ?_
  refine lv_iload_n hx hb dL_law_797 rfl (lv_at hl 3 rfl) ?_
  refine lv_iconst (v := 2) hx hb dL_law_798 (by decide) ?_
  refine lv_iadd hx hb dL_law_799 ?_
  refine va_sld hx hb hXs hbl hbA h.2.2.1 (hv 2 (by decide)) dL_law_800 ?_
  have h := h.swap
  refine J_calli (WW := MW qm cy) (ws0 := MW qm cy σm) (Rs := CW q cy σ1) h (x_runV (WW := MW qm cy) (rest := [.int r1]) E.1 h.left (cM_barred hw) yyX11_barred lL_87 0 rfl rfl ⟨Nat.le_of_ble_eq_true rfl, Nat.le_of_ble_eq_true rfl⟩ rfl rfl hl.1 rfl (Nat.le_of_ble_eq_true rfl) dL_law_801 ⟨hce, hsl⟩) (fun r2 σ2 H locs hw h => ?_)
  have h := h.swap
  refine lv_icmp_eq (tgt := 1090) hx hb dL_law_804 (by decide) (fun c1 => ?_) (fun c1 => absurd hw.1 c1)
  refine W.widen (k := 107 + 3 * (t + 1)) (n := 30172 + 804 * (t + 1)) (by omega) (by omega) ?_
  exact kk σ1 σ2 q qm H locs ls hw.2 h hl

set_option maxHeartbeats 4000000 in
set_option maxRecDepth 20000 in
theorem law_c17 (hP : PAll Inv) (E : zE code RL 4 ret D cy ks (fun q : Nat => s.heap.size ≤ q) p s m #[Value.ref b] meth c) (hX : lX s) (hXs : va_X b L xs s s.heap) (hbl : b < s.heap.size) {t : Nat} {x3 : Int32} (ht : t ≤ 512) (hv : ∀ j : Nat, j < 7 → vp_in (x3 + nI j) L) {σx : CS} {σm : MS} {q qm : Nat → Nat} {H : Heap} {locs : List Loc} {ls : Array Slot} (hI : Inv σx σm) (h : xH D (fun q : Nat => s.heap.size ≤ q) s (CW q cy σx ++ MW qm cy σm) H locs) (hl : lv_has ls 4 [(0, .ref b), (1, .ref (q 0)), (2, .ref (qm 0)), (3, .int x3)]) {Q : State → Prop}
    (kk : ∀ (σx : CS) (σm : MS) (q qm : Nat → Nat) (H : Heap) (locs : List Loc) (ls : Array Slot), Inv σx σm → xH D (fun q : Nat => s.heap.size ≤ q) s (CW q cy σx ++ MW qm cy σm) H locs → lv_has ls 4 [(0, .ref b), (1, .ref (q 0)), (2, .ref (qm 0)), (3, .int x3)] → W p l e room_1 s m #[Value.ref b] below meth c H locs (107 + 3 * (t + 1)) (30172 + 804 * (t + 1)) Q (F0 m 1090 ls [])) : W p l e room_1 s m #[Value.ref b] below meth c H locs (107 + 3 * t) (30172 + 804 * t) Q (F0 m 809 ls []) := by
  have hx := E.1.1
  have hb := E.1.2.1
  have hbA : ¬ (fun q : Nat => s.heap.size ≤ q) b := Nat.not_le.mpr hbl
  have hce : 107 + 3 * t ≤ 600000 := by omega
  have hsl : 30172 + 804 * t ≤ 7302250 := by omega
  have hw := hP.2.2.2.2.2.2.2.2.2.2.2.2.2.2.2.2.2.1 σx σm ((xs (x3 + 1).toNatClampNeg)) ((xs (x3 + 2).toNatClampNeg)) ((xs (x3 + 3).toNatClampNeg)) hI
  refine lv_aload_n hx hb dL_law_809 rfl (lv_at hl 1 rfl) ?_
  refine lv_aload_n hx hb dL_law_810 rfl (lv_at hl 0 rfl) ?_
  refine lv_iload_n hx hb dL_law_811 rfl (lv_at hl 3 rfl) ?_
  refine lv_iconst (v := 1) hx hb dL_law_812 (by decide) ?_
  refine lv_iadd hx hb dL_law_813 ?_
  refine va_sld hx hb hXs hbl hbA h.2.2.1 (hv 1 (by decide)) dL_law_814 ?_
  refine lv_aload_n hx hb dL_law_815 rfl (lv_at hl 0 rfl) ?_
  refine lv_iload_n hx hb dL_law_816 rfl (lv_at hl 3 rfl) ?_
  refine lv_iconst (v := 2) hx hb dL_law_817 (by decide) ?_
  refine lv_iadd hx hb dL_law_818 ?_
  refine va_sld hx hb hXs hbl hbA h.2.2.1 (hv 2 (by decide)) dL_law_819 ?_
  refine lv_aload_n hx hb dL_law_820 rfl (lv_at hl 0 rfl) ?_
  refine lv_iload_n hx hb dL_law_821 rfl (lv_at hl 3 rfl) ?_
  refine lv_iconst (v := 3) hx hb dL_law_822 (by decide) ?_
  refine lv_iadd hx hb dL_law_823 ?_
  refine va_sld hx hb hXs hbl hbA h.2.2.1 (hv 3 (by decide)) dL_law_824 ?_
  refine J_calli (WW := CW q cy) (ws0 := CW q cy σx) (Rs := MW qm cy σm) h (z_runV (WW := CW q cy) (rest := []) E h.left (cC_X10_state hw) yyX10_state lL_88 0 rfl rfl ⟨Nat.le_of_ble_eq_true rfl, Nat.le_of_ble_eq_true rfl⟩ rfl rfl hl.1 rfl (Nat.le_of_ble_eq_true rfl) dL_law_825 ⟨hce, hsl⟩) (fun r1 σ1 H locs hw h => ?_)
  refine lv_aload_n hx hb dL_law_828 rfl (lv_at hl 2 rfl) ?_
  refine lv_aload_n hx hb dL_law_829 rfl (lv_at hl 0 rfl) ?_
  refine lv_iload_n hx hb dL_law_830 rfl (lv_at hl 3 rfl) ?_
  refine lv_iconst (v := 1) hx hb dL_law_831 (by decide) ?_
  refine lv_iadd hx hb dL_law_832 ?_
  refine va_sld hx hb hXs hbl hbA h.2.2.1 (hv 1 (by decide)) dL_law_833 ?_
  refine lv_aload_n hx hb dL_law_834 rfl (lv_at hl 0 rfl) ?_
  refine lv_iload_n hx hb dL_law_835 rfl (lv_at hl 3 rfl) ?_
  refine lv_iconst (v := 2) hx hb dL_law_836 (by decide) ?_
  refine lv_iadd hx hb dL_law_837 ?_
  refine va_sld hx hb hXs hbl hbA h.2.2.1 (hv 2 (by decide)) dL_law_838 ?_
  refine lv_aload_n hx hb dL_law_839 rfl (lv_at hl 0 rfl) ?_
  refine lv_iload_n hx hb dL_law_840 rfl (lv_at hl 3 rfl) ?_
  refine lv_iconst (v := 3) hx hb dL_law_841 (by decide) ?_
  refine lv_iadd hx hb dL_law_842 ?_
  refine va_sld hx hb hXs hbl hbA h.2.2.1 (hv 3 (by decide)) dL_law_843 ?_
  have h := h.swap
  refine J_calli (WW := MW qm cy) (ws0 := MW qm cy σm) (Rs := CW q cy σ1) h (x_runV (WW := MW qm cy) (rest := [.int r1]) E.1 h.left (cM_state hw) yyX11_state lL_91 0 rfl rfl ⟨Nat.le_of_ble_eq_true rfl, Nat.le_of_ble_eq_true rfl⟩ rfl rfl hl.1 rfl (Nat.le_of_ble_eq_true rfl) dL_law_844 ⟨hce, hsl⟩) (fun r2 σ2 H locs hw h => ?_)
  have h := h.swap
  refine lv_icmp_eq (tgt := 1090) hx hb dL_law_847 (by decide) (fun c1 => ?_) (fun c1 => absurd hw.1 c1)
  refine W.widen (k := 107 + 3 * (t + 1)) (n := 30172 + 804 * (t + 1)) (by omega) (by omega) ?_
  exact kk σ1 σ2 q qm H locs ls hw.2 h hl

set_option maxHeartbeats 4000000 in
set_option maxRecDepth 20000 in
theorem law_c18 (hP : PAll Inv) (E : zE code RL 4 ret D cy ks (fun q : Nat => s.heap.size ≤ q) p s m #[Value.ref b] meth c) (hX : lX s) (hXs : va_X b L xs s s.heap) (hbl : b < s.heap.size) {t : Nat} {x3 : Int32} (ht : t ≤ 512) (hv : ∀ j : Nat, j < 7 → vp_in (x3 + nI j) L) {σx : CS} {σm : MS} {q qm : Nat → Nat} {H : Heap} {locs : List Loc} {ls : Array Slot} (hI : Inv σx σm) (h : xH D (fun q : Nat => s.heap.size ≤ q) s (CW q cy σx ++ MW qm cy σm) H locs) (hl : lv_has ls 4 [(0, .ref b), (1, .ref (q 0)), (2, .ref (qm 0)), (3, .int x3)]) {Q : State → Prop}
    (kk : ∀ (σx : CS) (σm : MS) (q qm : Nat → Nat) (H : Heap) (locs : List Loc) (ls : Array Slot), Inv σx σm → xH D (fun q : Nat => s.heap.size ≤ q) s (CW q cy σx ++ MW qm cy σm) H locs → lv_has ls 4 [(0, .ref b), (1, .ref (q 0)), (2, .ref (qm 0)), (3, .int x3)] → W p l e room_1 s m #[Value.ref b] below meth c H locs (107 + 3 * (t + 1)) (30172 + 804 * (t + 1)) Q (F0 m 1090 ls [])) : W p l e room_1 s m #[Value.ref b] below meth c H locs (107 + 3 * t) (30172 + 804 * t) Q (F0 m 852 ls []) := by
  have hx := E.1.1
  have hb := E.1.2.1
  have hbA : ¬ (fun q : Nat => s.heap.size ≤ q) b := Nat.not_le.mpr hbl
  have hce : 107 + 3 * t ≤ 600000 := by omega
  have hsl : 30172 + 804 * t ≤ 7302250 := by omega
  have hw := hP.2.2.2.2.2.2.2.2.2.2.2.2.2.2.2.2.2.2.1 σx σm ((xs (x3 + 1).toNatClampNeg)) ((xs (x3 + 2).toNatClampNeg)) ((xs (x3 + 3).toNatClampNeg)) hI
  refine lv_aload_n hx hb dL_law_852 rfl (lv_at hl 1 rfl) ?_
  refine lv_aload_n hx hb dL_law_853 rfl (lv_at hl 0 rfl) ?_
  refine lv_iload_n hx hb dL_law_854 rfl (lv_at hl 3 rfl) ?_
  refine lv_iconst (v := 1) hx hb dL_law_855 (by decide) ?_
  refine lv_iadd hx hb dL_law_856 ?_
  refine va_sld hx hb hXs hbl hbA h.2.2.1 (hv 1 (by decide)) dL_law_857 ?_
  refine lv_aload_n hx hb dL_law_858 rfl (lv_at hl 0 rfl) ?_
  refine lv_iload_n hx hb dL_law_859 rfl (lv_at hl 3 rfl) ?_
  refine lv_iconst (v := 2) hx hb dL_law_860 (by decide) ?_
  refine lv_iadd hx hb dL_law_861 ?_
  refine va_sld hx hb hXs hbl hbA h.2.2.1 (hv 2 (by decide)) dL_law_862 ?_
  refine lv_aload_n hx hb dL_law_863 rfl (lv_at hl 0 rfl) ?_
  refine lv_iload_n hx hb dL_law_864 rfl (lv_at hl 3 rfl) ?_
  refine lv_iconst (v := 3) hx hb dL_law_865 (by decide) ?_
  refine lv_iadd hx hb dL_law_866 ?_
  refine va_sld hx hb hXs hbl hbA h.2.2.1 (hv 3 (by decide)) dL_law_867 ?_
  refine J_calli (WW := CW q cy) (ws0 := CW q cy σx) (Rs := MW qm cy σm) h (z_runV (WW := CW q cy) (rest := []) E h.left (cC_X10_force hw) yyX10_force lL_92 0 rfl rfl ⟨Nat.le_of_ble_eq_true rfl, Nat.le_of_ble_eq_true rfl⟩ rfl rfl hl.1 rfl (Nat.le_of_ble_eq_true rfl) dL_law_868 ⟨hce, hsl⟩) (fun r1 σ1 H locs hw h => ?_)
  refine lv_aload_n hx hb dL_law_871 rfl (lv_at hl 2 rfl) ?_
  refine lv_aload_n hx hb dL_law_872 rfl (lv_at hl 0 rfl) ?_
  refine lv_iload_n hx hb dL_law_873 rfl (lv_at hl 3 rfl) ?_
  refine lv_iconst (v := 1) hx hb dL_law_874 (by decide) ?_
  refine lv_iadd hx hb dL_law_875 ?_
  refine va_sld hx hb hXs hbl hbA h.2.2.1 (hv 1 (by decide)) dL_law_876 ?_
  refine lv_aload_n hx hb dL_law_877 rfl (lv_at hl 0 rfl) ?_
  refine lv_iload_n hx hb dL_law_878 rfl (lv_at hl 3 rfl) ?_
  refine lv_iconst (v := 2) hx hb dL_law_879 (by decide) ?_
  refine lv_iadd hx hb dL_law_880 ?_
  refine va_sld hx hb hXs hbl hbA h.2.2.1 (hv 2 (by decide)) dL_law_881 ?_
  refine lv_aload_n hx hb dL_law_882 rfl (lv_at hl 0 rfl) ?_
  refine lv_iload_n hx hb dL_law_883 rfl (lv_at hl 3 rfl) ?_
  refine lv_iconst (v := 3) hx hb dL_law_884 (by decide) ?_
  refine lv_iadd hx hb dL_law_885 ?_
  refine va_sld hx hb hXs hbl hbA h.2.2.1 (hv 3 (by decide)) dL_law_886 ?_
  have h := h.swap
  refine J_calli (WW := MW qm cy) (ws0 := MW qm cy σm) (Rs := CW q cy σ1) h (x_runV (WW := MW qm cy) (rest := [.int r1]) E.1 h.left (cM_force hw) yyX11_force lL_95 0 rfl rfl ⟨Nat.le_of_ble_eq_true rfl, Nat.le_of_ble_eq_true rfl⟩ rfl rfl hl.1 rfl (Nat.le_of_ble_eq_true rfl) dL_law_887 ⟨hce, hsl⟩) (fun r2 σ2 H locs hw h => ?_)
  have h := h.swap
  refine lv_icmp_eq (tgt := 1090) hx hb dL_law_890 (by decide) (fun c1 => ?_) (fun c1 => absurd hw.1 c1)
  refine W.widen (k := 107 + 3 * (t + 1)) (n := 30172 + 804 * (t + 1)) (by omega) (by omega) ?_
  exact kk σ1 σ2 q qm H locs ls hw.2 h hl

set_option maxHeartbeats 4000000 in
set_option maxRecDepth 20000 in
theorem law_c19 (hP : PAll Inv) (E : zE code RL 4 ret D cy ks (fun q : Nat => s.heap.size ≤ q) p s m #[Value.ref b] meth c) (hX : lX s) (hXs : va_X b L xs s s.heap) (hbl : b < s.heap.size) {t : Nat} {x3 : Int32} (ht : t ≤ 512) (hv : ∀ j : Nat, j < 7 → vp_in (x3 + nI j) L) {σx : CS} {σm : MS} {q qm : Nat → Nat} {H : Heap} {locs : List Loc} {ls : Array Slot} (hI : Inv σx σm) (h : xH D (fun q : Nat => s.heap.size ≤ q) s (CW q cy σx ++ MW qm cy σm) H locs) (hl : lv_has ls 4 [(0, .ref b), (1, .ref (q 0)), (2, .ref (qm 0)), (3, .int x3)]) {Q : State → Prop}
    (kk : ∀ (σx : CS) (σm : MS) (q qm : Nat → Nat) (H : Heap) (locs : List Loc) (ls : Array Slot), Inv σx σm → xH D (fun q : Nat => s.heap.size ≤ q) s (CW q cy σx ++ MW qm cy σm) H locs → lv_has ls 4 [(0, .ref b), (1, .ref (q 0)), (2, .ref (qm 0)), (3, .int x3)] → W p l e room_1 s m #[Value.ref b] below meth c H locs (107 + 3 * (t + 1)) (30172 + 804 * (t + 1)) Q (F0 m 1090 ls [])) : W p l e room_1 s m #[Value.ref b] below meth c H locs (107 + 3 * t) (30172 + 804 * t) Q (F0 m 895 ls []) := by
  have hx := E.1.1
  have hb := E.1.2.1
  have hbA : ¬ (fun q : Nat => s.heap.size ≤ q) b := Nat.not_le.mpr hbl
  have hce : 107 + 3 * t ≤ 600000 := by omega
  have hsl : 30172 + 804 * t ≤ 7302250 := by omega
  have hw := hP.2.2.2.2.2.2.2.2.2.2.2.2.2.2.2.2.2.2.2.1 σx σm ((xs (x3 + 1).toNatClampNeg)) ((xs (x3 + 2).toNatClampNeg)) ((xs (x3 + 3).toNatClampNeg)) hI
  refine lv_aload_n hx hb dL_law_895 rfl (lv_at hl 1 rfl) ?_
  refine lv_aload_n hx hb dL_law_896 rfl (lv_at hl 0 rfl) ?_
  refine lv_iload_n hx hb dL_law_897 rfl (lv_at hl 3 rfl) ?_
  refine lv_iconst (v := 1) hx hb dL_law_898 (by decide) ?_
  refine lv_iadd hx hb dL_law_899 ?_
  refine va_sld hx hb hXs hbl hbA h.2.2.1 (hv 1 (by decide)) dL_law_900 ?_
  refine lv_aload_n hx hb dL_law_901 rfl (lv_at hl 0 rfl) ?_
  refine lv_iload_n hx hb dL_law_902 rfl (lv_at hl 3 rfl) ?_
  refine lv_iconst (v := 2) hx hb dL_law_903 (by decide) ?_
  refine lv_iadd hx hb dL_law_904 ?_
  refine va_sld hx hb hXs hbl hbA h.2.2.1 (hv 2 (by decide)) dL_law_905 ?_
  refine lv_aload_n hx hb dL_law_906 rfl (lv_at hl 0 rfl) ?_
  refine lv_iload_n hx hb dL_law_907 rfl (lv_at hl 3 rfl) ?_
  refine lv_iconst (v := 3) hx hb dL_law_908 (by decide) ?_
  refine lv_iadd hx hb dL_law_909 ?_
  refine va_sld hx hb hXs hbl hbA h.2.2.1 (hv 3 (by decide)) dL_law_910 ?_
  refine J_calli (WW := CW q cy) (ws0 := CW q cy σx) (Rs := MW qm cy σm) h (z_runV (WW := CW q cy) (rest := []) E h.left (cC_X10_bound hw) yyX10_bound lL_96 0 rfl rfl ⟨Nat.le_of_ble_eq_true rfl, Nat.le_of_ble_eq_true rfl⟩ rfl rfl hl.1 rfl (Nat.le_of_ble_eq_true rfl) dL_law_911 ⟨hce, hsl⟩) (fun r1 σ1 H locs hw h => ?_)
  refine lv_aload_n hx hb dL_law_914 rfl (lv_at hl 2 rfl) ?_
  refine lv_aload_n hx hb dL_law_915 rfl (lv_at hl 0 rfl) ?_
  refine lv_iload_n hx hb dL_law_916 rfl (lv_at hl 3 rfl) ?_
  refine lv_iconst (v := 1) hx hb dL_law_917 (by decide) ?_
  refine lv_iadd hx hb dL_law_918 ?_
  refine va_sld hx hb hXs hbl hbA h.2.2.1 (hv 1 (by decide)) dL_law_919 ?_
  refine lv_aload_n hx hb dL_law_920 rfl (lv_at hl 0 rfl) ?_
  refine lv_iload_n hx hb dL_law_921 rfl (lv_at hl 3 rfl) ?_
  refine lv_iconst (v := 2) hx hb dL_law_922 (by decide) ?_
  refine lv_iadd hx hb dL_law_923 ?_
  refine va_sld hx hb hXs hbl hbA h.2.2.1 (hv 2 (by decide)) dL_law_924 ?_
  refine lv_aload_n hx hb dL_law_925 rfl (lv_at hl 0 rfl) ?_
  refine lv_iload_n hx hb dL_law_926 rfl (lv_at hl 3 rfl) ?_
  refine lv_iconst (v := 3) hx hb dL_law_927 (by decide) ?_
  refine lv_iadd hx hb dL_law_928 ?_
  refine va_sld hx hb hXs hbl hbA h.2.2.1 (hv 3 (by decide)) dL_law_929 ?_
  have h := h.swap
  refine J_calli (WW := MW qm cy) (ws0 := MW qm cy σm) (Rs := CW q cy σ1) h (x_runV (WW := MW qm cy) (rest := [.int r1]) E.1 h.left (cM_bound hw) yyX11_bound lL_99 0 rfl rfl ⟨Nat.le_of_ble_eq_true rfl, Nat.le_of_ble_eq_true rfl⟩ rfl rfl hl.1 rfl (Nat.le_of_ble_eq_true rfl) dL_law_930 ⟨hce, hsl⟩) (fun r2 σ2 H locs hw h => ?_)
  have h := h.swap
  refine lv_icmp_eq (tgt := 1090) hx hb dL_law_933 (by decide) (fun c1 => ?_) (fun c1 => absurd hw.1 c1)
  refine W.widen (k := 107 + 3 * (t + 1)) (n := 30172 + 804 * (t + 1)) (by omega) (by omega) ?_
  exact kk σ1 σ2 q qm H locs ls hw.2 h hl

set_option maxHeartbeats 4000000 in
set_option maxRecDepth 20000 in
theorem law_c20 (hP : PAll Inv) (E : zE code RL 4 ret D cy ks (fun q : Nat => s.heap.size ≤ q) p s m #[Value.ref b] meth c) (hX : lX s) (hXs : va_X b L xs s s.heap) (hbl : b < s.heap.size) {t : Nat} {x3 : Int32} (ht : t ≤ 512) (hv : ∀ j : Nat, j < 7 → vp_in (x3 + nI j) L) {σx : CS} {σm : MS} {q qm : Nat → Nat} {H : Heap} {locs : List Loc} {ls : Array Slot} (hI : Inv σx σm) (h : xH D (fun q : Nat => s.heap.size ≤ q) s (CW q cy σx ++ MW qm cy σm) H locs) (hl : lv_has ls 4 [(0, .ref b), (1, .ref (q 0)), (2, .ref (qm 0)), (3, .int x3)]) {Q : State → Prop}
    (kk : ∀ (σx : CS) (σm : MS) (q qm : Nat → Nat) (H : Heap) (locs : List Loc) (ls : Array Slot), Inv σx σm → xH D (fun q : Nat => s.heap.size ≤ q) s (CW q cy σx ++ MW qm cy σm) H locs → lv_has ls 4 [(0, .ref b), (1, .ref (q 0)), (2, .ref (qm 0)), (3, .int x3)] → W p l e room_1 s m #[Value.ref b] below meth c H locs (107 + 3 * (t + 1)) (30172 + 804 * (t + 1)) Q (F0 m 1090 ls [])) : W p l e room_1 s m #[Value.ref b] below meth c H locs (107 + 3 * t) (30172 + 804 * t) Q (F0 m 938 ls []) := by
  have hx := E.1.1
  have hb := E.1.2.1
  have hbA : ¬ (fun q : Nat => s.heap.size ≤ q) b := Nat.not_le.mpr hbl
  have hce : 107 + 3 * t ≤ 600000 := by omega
  have hsl : 30172 + 804 * t ≤ 7302250 := by omega
  have hw := hP.2.2.2.2.2.2.2.2.2.2.2.2.2.2.2.2.2.2.2.2.1 σx σm ((xs (x3 + 1).toNatClampNeg)) ((xs (x3 + 2).toNatClampNeg)) ((xs (x3 + 3).toNatClampNeg)) hI
  refine lv_aload_n hx hb dL_law_938 rfl (lv_at hl 1 rfl) ?_
  refine lv_aload_n hx hb dL_law_939 rfl (lv_at hl 0 rfl) ?_
  refine lv_iload_n hx hb dL_law_940 rfl (lv_at hl 3 rfl) ?_
  refine lv_iconst (v := 1) hx hb dL_law_941 (by decide) ?_
  refine lv_iadd hx hb dL_law_942 ?_
  refine va_sld hx hb hXs hbl hbA h.2.2.1 (hv 1 (by decide)) dL_law_943 ?_
  refine lv_aload_n hx hb dL_law_944 rfl (lv_at hl 0 rfl) ?_
  refine lv_iload_n hx hb dL_law_945 rfl (lv_at hl 3 rfl) ?_
  refine lv_iconst (v := 2) hx hb dL_law_946 (by decide) ?_
  refine lv_iadd hx hb dL_law_947 ?_
  refine va_sld hx hb hXs hbl hbA h.2.2.1 (hv 2 (by decide)) dL_law_948 ?_
  refine lv_aload_n hx hb dL_law_949 rfl (lv_at hl 0 rfl) ?_
  refine lv_iload_n hx hb dL_law_950 rfl (lv_at hl 3 rfl) ?_
  refine lv_iconst (v := 3) hx hb dL_law_951 (by decide) ?_
  refine lv_iadd hx hb dL_law_952 ?_
  refine va_sld hx hb hXs hbl hbA h.2.2.1 (hv 3 (by decide)) dL_law_953 ?_
  refine J_calli (WW := CW q cy) (ws0 := CW q cy σx) (Rs := MW qm cy σm) h (z_runV (WW := CW q cy) (rest := []) E h.left (cC_X10_goes hw) yyX10_goes lL_100 0 rfl rfl ⟨Nat.le_of_ble_eq_true rfl, Nat.le_of_ble_eq_true rfl⟩ rfl rfl hl.1 rfl (Nat.le_of_ble_eq_true rfl) dL_law_954 ⟨hce, hsl⟩) (fun r1 σ1 H locs hw h => ?_)
  refine lv_aload_n hx hb dL_law_957 rfl (lv_at hl 2 rfl) ?_
  refine lv_aload_n hx hb dL_law_958 rfl (lv_at hl 0 rfl) ?_
  refine lv_iload_n hx hb dL_law_959 rfl (lv_at hl 3 rfl) ?_
  refine lv_iconst (v := 1) hx hb dL_law_960 (by decide) ?_
  refine lv_iadd hx hb dL_law_961 ?_
  refine va_sld hx hb hXs hbl hbA h.2.2.1 (hv 1 (by decide)) dL_law_962 ?_
  refine lv_aload_n hx hb dL_law_963 rfl (lv_at hl 0 rfl) ?_
  refine lv_iload_n hx hb dL_law_964 rfl (lv_at hl 3 rfl) ?_
  refine lv_iconst (v := 2) hx hb dL_law_965 (by decide) ?_
  refine lv_iadd hx hb dL_law_966 ?_
  refine va_sld hx hb hXs hbl hbA h.2.2.1 (hv 2 (by decide)) dL_law_967 ?_
  refine lv_aload_n hx hb dL_law_968 rfl (lv_at hl 0 rfl) ?_
  refine lv_iload_n hx hb dL_law_969 rfl (lv_at hl 3 rfl) ?_
  refine lv_iconst (v := 3) hx hb dL_law_970 (by decide) ?_
  refine lv_iadd hx hb dL_law_971 ?_
  refine va_sld hx hb hXs hbl hbA h.2.2.1 (hv 3 (by decide)) dL_law_972 ?_
  have h := h.swap
  refine J_calli (WW := MW qm cy) (ws0 := MW qm cy σm) (Rs := CW q cy σ1) h (x_runV (WW := MW qm cy) (rest := [.int r1]) E.1 h.left (cM_goes hw) yyX11_goes lL_103 0 rfl rfl ⟨Nat.le_of_ble_eq_true rfl, Nat.le_of_ble_eq_true rfl⟩ rfl rfl hl.1 rfl (Nat.le_of_ble_eq_true rfl) dL_law_973 ⟨hce, hsl⟩) (fun r2 σ2 H locs hw h => ?_)
  have h := h.swap
  refine lv_icmp_eq (tgt := 1090) hx hb dL_law_976 (by decide) (fun c1 => ?_) (fun c1 => absurd hw.1 c1)
  refine W.widen (k := 107 + 3 * (t + 1)) (n := 30172 + 804 * (t + 1)) (by omega) (by omega) ?_
  exact kk σ1 σ2 q qm H locs ls hw.2 h hl

set_option maxHeartbeats 4000000 in
set_option maxRecDepth 20000 in
theorem law_c21 (hP : PAll Inv) (E : zE code RL 4 ret D cy ks (fun q : Nat => s.heap.size ≤ q) p s m #[Value.ref b] meth c) (hX : lX s) (hXs : va_X b L xs s s.heap) (hbl : b < s.heap.size) {t : Nat} {x3 : Int32} (ht : t ≤ 512) (hv : ∀ j : Nat, j < 7 → vp_in (x3 + nI j) L) {σx : CS} {σm : MS} {q qm : Nat → Nat} {H : Heap} {locs : List Loc} {ls : Array Slot} (hI : Inv σx σm) (h : xH D (fun q : Nat => s.heap.size ≤ q) s (CW q cy σx ++ MW qm cy σm) H locs) (hl : lv_has ls 4 [(0, .ref b), (1, .ref (q 0)), (2, .ref (qm 0)), (3, .int x3)]) {Q : State → Prop}
    (kk : ∀ (σx : CS) (σm : MS) (q qm : Nat → Nat) (H : Heap) (locs : List Loc) (ls : Array Slot), Inv σx σm → xH D (fun q : Nat => s.heap.size ≤ q) s (CW q cy σx ++ MW qm cy σm) H locs → lv_has ls 4 [(0, .ref b), (1, .ref (q 0)), (2, .ref (qm 0)), (3, .int x3)] → W p l e room_1 s m #[Value.ref b] below meth c H locs (107 + 3 * (t + 1)) (30172 + 804 * (t + 1)) Q (F0 m 1090 ls [])) : W p l e room_1 s m #[Value.ref b] below meth c H locs (107 + 3 * t) (30172 + 804 * t) Q (F0 m 981 ls []) := by
  have hx := E.1.1
  have hb := E.1.2.1
  have hbA : ¬ (fun q : Nat => s.heap.size ≤ q) b := Nat.not_le.mpr hbl
  have hce : 107 + 3 * t ≤ 600000 := by omega
  have hsl : 30172 + 804 * t ≤ 7302250 := by omega
  have hw := hP.2.2.2.2.2.2.2.2.2.2.2.2.2.2.2.2.2.2.2.2.2.1 σx σm ((xs (x3 + 1).toNatClampNeg)) ((xs (x3 + 2).toNatClampNeg)) ((xs (x3 + 3).toNatClampNeg)) hI
  refine lv_aload_n hx hb dL_law_981 rfl (lv_at hl 1 rfl) ?_
  refine lv_aload_n hx hb dL_law_982 rfl (lv_at hl 0 rfl) ?_
  refine lv_iload_n hx hb dL_law_983 rfl (lv_at hl 3 rfl) ?_
  refine lv_iconst (v := 1) hx hb dL_law_984 (by decide) ?_
  refine lv_iadd hx hb dL_law_985 ?_
  refine va_sld hx hb hXs hbl hbA h.2.2.1 (hv 1 (by decide)) dL_law_986 ?_
  refine lv_aload_n hx hb dL_law_987 rfl (lv_at hl 0 rfl) ?_
  refine lv_iload_n hx hb dL_law_988 rfl (lv_at hl 3 rfl) ?_
  refine lv_iconst (v := 2) hx hb dL_law_989 (by decide) ?_
  refine lv_iadd hx hb dL_law_990 ?_
  refine va_sld hx hb hXs hbl hbA h.2.2.1 (hv 2 (by decide)) dL_law_991 ?_
  refine lv_aload_n hx hb dL_law_992 rfl (lv_at hl 0 rfl) ?_
  refine lv_iload_n hx hb dL_law_993 rfl (lv_at hl 3 rfl) ?_
  refine lv_iconst (v := 3) hx hb dL_law_994 (by decide) ?_
  refine lv_iadd hx hb dL_law_995 ?_
  refine va_sld hx hb hXs hbl hbA h.2.2.1 (hv 3 (by decide)) dL_law_996 ?_
  refine J_calli (WW := CW q cy) (ws0 := CW q cy σx) (Rs := MW qm cy σm) h (z_runV (WW := CW q cy) (rest := []) E h.left (cC_X10_owes hw) yyX10_owes lL_104 0 rfl rfl ⟨Nat.le_of_ble_eq_true rfl, Nat.le_of_ble_eq_true rfl⟩ rfl rfl hl.1 rfl (Nat.le_of_ble_eq_true rfl) dL_law_997 ⟨hce, hsl⟩) (fun r1 σ1 H locs hw h => ?_)
  refine lv_aload_n hx hb dL_law_1000 rfl (lv_at hl 2 rfl) ?_
  refine lv_aload_n hx hb dL_law_1001 rfl (lv_at hl 0 rfl) ?_
  refine lv_iload_n hx hb dL_law_1002 rfl (lv_at hl 3 rfl) ?_
  refine lv_iconst (v := 1) hx hb dL_law_1003 (by decide) ?_
  refine lv_iadd hx hb dL_law_1004 ?_
  refine va_sld hx hb hXs hbl hbA h.2.2.1 (hv 1 (by decide)) dL_law_1005 ?_
  refine lv_aload_n hx hb dL_law_1006 rfl (lv_at hl 0 rfl) ?_
  refine lv_iload_n hx hb dL_law_1007 rfl (lv_at hl 3 rfl) ?_
  refine lv_iconst (v := 2) hx hb dL_law_1008 (by decide) ?_
  refine lv_iadd hx hb dL_law_1009 ?_
  refine va_sld hx hb hXs hbl hbA h.2.2.1 (hv 2 (by decide)) dL_law_1010 ?_
  refine lv_aload_n hx hb dL_law_1011 rfl (lv_at hl 0 rfl) ?_
  refine lv_iload_n hx hb dL_law_1012 rfl (lv_at hl 3 rfl) ?_
  refine lv_iconst (v := 3) hx hb dL_law_1013 (by decide) ?_
  refine lv_iadd hx hb dL_law_1014 ?_
  refine va_sld hx hb hXs hbl hbA h.2.2.1 (hv 3 (by decide)) dL_law_1015 ?_
  have h := h.swap
  refine J_calli (WW := MW qm cy) (ws0 := MW qm cy σm) (Rs := CW q cy σ1) h (x_runV (WW := MW qm cy) (rest := [.int r1]) E.1 h.left (cM_owes hw) yyX11_owes lL_107 0 rfl rfl ⟨Nat.le_of_ble_eq_true rfl, Nat.le_of_ble_eq_true rfl⟩ rfl rfl hl.1 rfl (Nat.le_of_ble_eq_true rfl) dL_law_1016 ⟨hce, hsl⟩) (fun r2 σ2 H locs hw h => ?_)
  have h := h.swap
  refine lv_icmp_eq (tgt := 1090) hx hb dL_law_1019 (by decide) (fun c1 => ?_) (fun c1 => absurd hw.1 c1)
  refine W.widen (k := 107 + 3 * (t + 1)) (n := 30172 + 804 * (t + 1)) (by omega) (by omega) ?_
  exact kk σ1 σ2 q qm H locs ls hw.2 h hl

set_option maxHeartbeats 4000000 in
set_option maxRecDepth 20000 in
theorem law_c22 (hP : PAll Inv) (E : zE code RL 4 ret D cy ks (fun q : Nat => s.heap.size ≤ q) p s m #[Value.ref b] meth c) (hX : lX s) (hXs : va_X b L xs s s.heap) (hbl : b < s.heap.size) {t : Nat} {x3 : Int32} (ht : t ≤ 512) (hv : ∀ j : Nat, j < 7 → vp_in (x3 + nI j) L) {σx : CS} {σm : MS} {q qm : Nat → Nat} {H : Heap} {locs : List Loc} {ls : Array Slot} (hI : Inv σx σm) (h : xH D (fun q : Nat => s.heap.size ≤ q) s (CW q cy σx ++ MW qm cy σm) H locs) (hl : lv_has ls 4 [(0, .ref b), (1, .ref (q 0)), (2, .ref (qm 0)), (3, .int x3)]) {Q : State → Prop}
    (kk : ∀ (σx : CS) (σm : MS) (q qm : Nat → Nat) (H : Heap) (locs : List Loc) (ls : Array Slot), Inv σx σm → xH D (fun q : Nat => s.heap.size ≤ q) s (CW q cy σx ++ MW qm cy σm) H locs → lv_has ls 4 [(0, .ref b), (1, .ref (q 0)), (2, .ref (qm 0)), (3, .int x3)] → W p l e room_1 s m #[Value.ref b] below meth c H locs (107 + 3 * (t + 1)) (30172 + 804 * (t + 1)) Q (F0 m 1090 ls [])) : W p l e room_1 s m #[Value.ref b] below meth c H locs (107 + 3 * t) (30172 + 804 * t) Q (F0 m 1024 ls []) := by
  have hx := E.1.1
  have hb := E.1.2.1
  have hbA : ¬ (fun q : Nat => s.heap.size ≤ q) b := Nat.not_le.mpr hbl
  have hce : 107 + 3 * t ≤ 600000 := by omega
  have hsl : 30172 + 804 * t ≤ 7302250 := by omega
  have hw := hP.2.2.2.2.2.2.2.2.2.2.2.2.2.2.2.2.2.2.2.2.2.2.1 σx σm ((xs (x3 + 1).toNatClampNeg)) ((xs (x3 + 2).toNatClampNeg)) ((xs (x3 + 3).toNatClampNeg)) hI
  refine lv_aload_n hx hb dL_law_1024 rfl (lv_at hl 1 rfl) ?_
  refine lv_aload_n hx hb dL_law_1025 rfl (lv_at hl 0 rfl) ?_
  refine lv_iload_n hx hb dL_law_1026 rfl (lv_at hl 3 rfl) ?_
  refine lv_iconst (v := 1) hx hb dL_law_1027 (by decide) ?_
  refine lv_iadd hx hb dL_law_1028 ?_
  refine va_sld hx hb hXs hbl hbA h.2.2.1 (hv 1 (by decide)) dL_law_1029 ?_
  refine lv_aload_n hx hb dL_law_1030 rfl (lv_at hl 0 rfl) ?_
  refine lv_iload_n hx hb dL_law_1031 rfl (lv_at hl 3 rfl) ?_
  refine lv_iconst (v := 2) hx hb dL_law_1032 (by decide) ?_
  refine lv_iadd hx hb dL_law_1033 ?_
  refine va_sld hx hb hXs hbl hbA h.2.2.1 (hv 2 (by decide)) dL_law_1034 ?_
  refine lv_aload_n hx hb dL_law_1035 rfl (lv_at hl 0 rfl) ?_
  refine lv_iload_n hx hb dL_law_1036 rfl (lv_at hl 3 rfl) ?_
  refine lv_iconst (v := 3) hx hb dL_law_1037 (by decide) ?_
  refine lv_iadd hx hb dL_law_1038 ?_
  refine va_sld hx hb hXs hbl hbA h.2.2.1 (hv 3 (by decide)) dL_law_1039 ?_
  refine J_calli (WW := CW q cy) (ws0 := CW q cy σx) (Rs := MW qm cy σm) h (z_runV (WW := CW q cy) (rest := []) E h.left (cC_X10_changed hw) yyX10_changed lL_108 0 rfl rfl ⟨Nat.le_of_ble_eq_true rfl, Nat.le_of_ble_eq_true rfl⟩ rfl rfl hl.1 rfl (Nat.le_of_ble_eq_true rfl) dL_law_1040 ⟨hce, hsl⟩) (fun r1 σ1 H locs hw h => ?_)
  refine lv_aload_n hx hb dL_law_1043 rfl (lv_at hl 2 rfl) ?_
  refine lv_aload_n hx hb dL_law_1044 rfl (lv_at hl 0 rfl) ?_
  refine lv_iload_n hx hb dL_law_1045 rfl (lv_at hl 3 rfl) ?_
  refine lv_iconst (v := 1) hx hb dL_law_1046 (by decide) ?_
  refine lv_iadd hx hb dL_law_1047 ?_
  refine va_sld hx hb hXs hbl hbA h.2.2.1 (hv 1 (by decide)) dL_law_1048 ?_
  refine lv_aload_n hx hb dL_law_1049 rfl (lv_at hl 0 rfl) ?_
  refine lv_iload_n hx hb dL_law_1050 rfl (lv_at hl 3 rfl) ?_
  refine lv_iconst (v := 2) hx hb dL_law_1051 (by decide) ?_
  refine lv_iadd hx hb dL_law_1052 ?_
  refine va_sld hx hb hXs hbl hbA h.2.2.1 (hv 2 (by decide)) dL_law_1053 ?_
  refine lv_aload_n hx hb dL_law_1054 rfl (lv_at hl 0 rfl) ?_
  refine lv_iload_n hx hb dL_law_1055 rfl (lv_at hl 3 rfl) ?_
  refine lv_iconst (v := 3) hx hb dL_law_1056 (by decide) ?_
  refine lv_iadd hx hb dL_law_1057 ?_
  refine va_sld hx hb hXs hbl hbA h.2.2.1 (hv 3 (by decide)) dL_law_1058 ?_
  have h := h.swap
  refine J_calli (WW := MW qm cy) (ws0 := MW qm cy σm) (Rs := CW q cy σ1) h (x_runV (WW := MW qm cy) (rest := [.int r1]) E.1 h.left (cM_changed hw) yyX11_changed lL_111 0 rfl rfl ⟨Nat.le_of_ble_eq_true rfl, Nat.le_of_ble_eq_true rfl⟩ rfl rfl hl.1 rfl (Nat.le_of_ble_eq_true rfl) dL_law_1059 ⟨hce, hsl⟩) (fun r2 σ2 H locs hw h => ?_)
  have h := h.swap
  refine lv_icmp_eq (tgt := 1090) hx hb dL_law_1062 (by decide) (fun c1 => ?_) (fun c1 => absurd hw.1 c1)
  refine W.widen (k := 107 + 3 * (t + 1)) (n := 30172 + 804 * (t + 1)) (by omega) (by omega) ?_
  exact kk σ1 σ2 q qm H locs ls hw.2 h hl

set_option maxHeartbeats 4000000 in
set_option maxRecDepth 20000 in
theorem law_c23 (hP : PAll Inv) (E : zE code RL 4 ret D cy ks (fun q : Nat => s.heap.size ≤ q) p s m #[Value.ref b] meth c) (hX : lX s) (hXs : va_X b L xs s s.heap) (hbl : b < s.heap.size) {t : Nat} {x3 : Int32} (ht : t ≤ 512) (hv : ∀ j : Nat, j < 7 → vp_in (x3 + nI j) L) {σx : CS} {σm : MS} {q qm : Nat → Nat} {H : Heap} {locs : List Loc} {ls : Array Slot} (hI : Inv σx σm) (h : xH D (fun q : Nat => s.heap.size ≤ q) s (CW q cy σx ++ MW qm cy σm) H locs) (hl : lv_has ls 4 [(0, .ref b), (1, .ref (q 0)), (2, .ref (qm 0)), (3, .int x3)]) {Q : State → Prop}
    (kk : ∀ (σx : CS) (σm : MS) (q qm : Nat → Nat) (H : Heap) (locs : List Loc) (ls : Array Slot), Inv σx σm → xH D (fun q : Nat => s.heap.size ≤ q) s (CW q cy σx ++ MW qm cy σm) H locs → lv_has ls 4 [(0, .ref b), (1, .ref (q 0)), (2, .ref (qm 0)), (3, .int x3)] → W p l e room_1 s m #[Value.ref b] below meth c H locs (107 + 3 * (t + 1)) (30172 + 804 * (t + 1)) Q (F0 m 1090 ls [])) : W p l e room_1 s m #[Value.ref b] below meth c H locs (107 + 3 * t) (30172 + 804 * t) Q (F0 m 1067 ls []) := by
  have hx := E.1.1
  have hb := E.1.2.1
  have hbA : ¬ (fun q : Nat => s.heap.size ≤ q) b := Nat.not_le.mpr hbl
  have hce : 107 + 3 * t ≤ 600000 := by omega
  have hsl : 30172 + 804 * t ≤ 7302250 := by omega
  have hw := hP.2.2.2.2.2.2.2.2.2.2.2.2.2.2.2.2.2.2.2.2.2.2.2 σx σm ((xs (x3 + 1).toNatClampNeg)) hI
  refine lv_aload_n hx hb dL_law_1067 rfl (lv_at hl 1 rfl) ?_
  refine lv_aload_n hx hb dL_law_1068 rfl (lv_at hl 0 rfl) ?_
  refine lv_iload_n hx hb dL_law_1069 rfl (lv_at hl 3 rfl) ?_
  refine lv_iconst (v := 1) hx hb dL_law_1070 (by decide) ?_
  refine lv_iadd hx hb dL_law_1071 ?_
  refine va_sld hx hb hXs hbl hbA h.2.2.1 (hv 1 (by decide)) dL_law_1072 ?_
  refine J_calli (WW := CW q cy) (ws0 := CW q cy σx) (Rs := MW qm cy σm) h (z_runV (WW := CW q cy) (rest := []) E h.left (cC_X10_count hw) yyX10_count lL_112 0 rfl rfl ⟨Nat.le_of_ble_eq_true rfl, Nat.le_of_ble_eq_true rfl⟩ rfl rfl hl.1 rfl (Nat.le_of_ble_eq_true rfl) dL_law_1073 ⟨hce, hsl⟩) (fun r1 σ1 H locs hw h => ?_)
  refine lv_aload_n hx hb dL_law_1076 rfl (lv_at hl 2 rfl) ?_
  refine lv_aload_n hx hb dL_law_1077 rfl (lv_at hl 0 rfl) ?_
  refine lv_iload_n hx hb dL_law_1078 rfl (lv_at hl 3 rfl) ?_
  refine lv_iconst (v := 1) hx hb dL_law_1079 (by decide) ?_
  refine lv_iadd hx hb dL_law_1080 ?_
  refine va_sld hx hb hXs hbl hbA h.2.2.1 (hv 1 (by decide)) dL_law_1081 ?_
  have h := h.swap
  refine J_calli (WW := MW qm cy) (ws0 := MW qm cy σm) (Rs := CW q cy σ1) h (x_runV (WW := MW qm cy) (rest := [.int r1]) E.1 h.left (cM_count hw) yyX11_count lL_115 0 rfl rfl ⟨Nat.le_of_ble_eq_true rfl, Nat.le_of_ble_eq_true rfl⟩ rfl rfl hl.1 rfl (Nat.le_of_ble_eq_true rfl) dL_law_1082 ⟨hce, hsl⟩) (fun r2 σ2 H locs hw h => ?_)
  have h := h.swap
  refine lv_icmp_eq (tgt := 1090) hx hb dL_law_1085 (by decide) (fun c1 => ?_) (fun c1 => absurd hw.1 c1)
  refine W.widen (k := 107 + 3 * (t + 1)) (n := 30172 + 804 * (t + 1)) (by omega) (by omega) ?_
  exact kk σ1 σ2 q qm H locs ls hw.2 h hl
end LawCases
