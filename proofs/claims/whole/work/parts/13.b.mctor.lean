def mS0 : MS := (([(17, (-1)), (64, (-1))] : List (Nat × Int32)).foldl (fun f z => va_up f z.1 z.2) (fun _ => 0), fun _ _ => 0, fun _ _ => 0)
section MInit
variable {p : Program} {l : Launch} {e : Env} {s : State} {m : MethodId} {args : Array Value} {below : List Frame} {meth : Method} {c : Code} {D : va_G} {cy : Nat → ClassId} {q : Nat → Nat} {A : Nat → Prop}
def wpM_init_495 (Post : MS → Prop) (σ : MS) : Prop := wpM_word σ 112 114 111 111 102 0 0 (fun r1 σ2 => vp_in 0 20 ∧ ∀ σ3 : MS, σ3 = mL σ2 7 (vp_updL (σ2.2.2 7) (0 : Int32).toNatClampNeg r1) → wpM_word σ3 98 97 114 0 0 0 0 (fun r5 σ6 => vp_in 1 20 ∧ ∀ σ7 : MS, σ7 = mL σ6 7 (vp_updL (σ6.2.2 7) (1 : Int32).toNatClampNeg r5) → wpM_word σ7 111 118 101 114 0 0 0 (fun r9 σ10 => vp_in 2 20 ∧ ∀ σ11 : MS, σ11 = mL σ10 7 (vp_updL (σ10.2.2 7) (2 : Int32).toNatClampNeg r9) → wpM_word σ11 108 97 112 115 101 0 0 (fun r13 σ14 => vp_in 3 20 ∧ ∀ σ15 : MS, σ15 = mL σ14 7 (vp_updL (σ14.2.2 7) (3 : Int32).toNatClampNeg r13) → wpM_word σ15 98 97 99 107 0 0 0 (fun r17 σ18 => vp_in 4 20 ∧ ∀ σ19 : MS, σ19 = mL σ18 7 (vp_updL (σ18.2.2 7) (4 : Int32).toNatClampNeg r17) → wpM_word σ19 105 102 0 0 0 0 0 (fun r21 σ22 => vp_in 5 20 ∧ ∀ σ23 : MS, σ23 = mL σ22 7 (vp_updL (σ22.2.2 7) (5 : Int32).toNatClampNeg r21) → wpM_word σ23 111 114 0 0 0 0 0 (fun r25 σ26 => vp_in 6 20 ∧ ∀ σ27 : MS, σ27 = mL σ26 7 (vp_updL (σ26.2.2 7) (6 : Int32).toNatClampNeg r25) → wpM_word σ27 97 110 100 0 0 0 0 (fun r29 σ30 => vp_in 7 20 ∧ ∀ σ31 : MS, σ31 = mL σ30 7 (vp_updL (σ30.2.2 7) (7 : Int32).toNatClampNeg r29) → wpM_word σ31 121 101 115 0 0 0 0 (fun r33 σ34 => vp_in 8 20 ∧ ∀ σ35 : MS, σ35 = mL σ34 7 (vp_updL (σ34.2.2 7) (8 : Int32).toNatClampNeg r33) → wpM_word σ35 110 111 0 0 0 0 0 (fun r37 σ38 => vp_in 9 20 ∧ ∀ σ39 : MS, σ39 = mL σ38 7 (vp_updL (σ38.2.2 7) (9 : Int32).toNatClampNeg r37) → wpM_word σ39 107 105 110 0 0 0 0 (fun r41 σ42 => vp_in 10 20 ∧ ∀ σ43 : MS, σ43 = mL σ42 7 (vp_updL (σ42.2.2 7) (10 : Int32).toNatClampNeg r41) → wpM_word σ43 102 97 109 101 0 0 0 (fun r45 σ46 => vp_in 11 20 ∧ ∀ σ47 : MS, σ47 = mL σ46 7 (vp_updL (σ46.2.2 7) (11 : Int32).toNatClampNeg r45) → wpM_word σ47 116 101 110 115 101 0 0 (fun r49 σ50 => vp_in 12 20 ∧ ∀ σ51 : MS, σ51 = mL σ50 7 (vp_updL (σ50.2.2 7) (12 : Int32).toNatClampNeg r49) → wpM_word σ51 97 103 101 0 0 0 0 (fun r53 σ54 => vp_in 13 20 ∧ ∀ σ55 : MS, σ55 = mL σ54 7 (vp_updL (σ54.2.2 7) (13 : Int32).toNatClampNeg r53) → wpM_word σ55 100 101 103 114 101 101 0 (fun r57 σ58 => vp_in 14 20 ∧ ∀ σ59 : MS, σ59 = mL σ58 7 (vp_updL (σ58.2.2 7) (14 : Int32).toNatClampNeg r57) → wpM_word σ59 118 111 119 0 0 0 0 (fun r61 σ62 => vp_in 15 20 ∧ ∀ σ63 : MS, σ63 = mL σ62 7 (vp_updL (σ62.2.2 7) (15 : Int32).toNatClampNeg r61) → wpM_word σ63 108 101 97 118 101 0 0 (fun r65 σ66 => vp_in 16 20 ∧ ∀ σ67 : MS, σ67 = mL σ66 7 (vp_updL (σ66.2.2 7) (16 : Int32).toNatClampNeg r65) → wpM_word σ67 111 108 100 0 0 0 0 (fun r69 σ70 => vp_in 17 20 ∧ ∀ σ71 : MS, σ71 = mL σ70 7 (vp_updL (σ70.2.2 7) (17 : Int32).toNatClampNeg r69) → wpM_word σ71 119 104 121 0 0 0 0 (fun r73 σ74 => vp_in 18 20 ∧ ∀ σ75 : MS, σ75 = mL σ74 7 (vp_updL (σ74.2.2 7) (18 : Int32).toNatClampNeg r73) → wpM_word σ75 100 97 121 115 0 0 0 (fun r77 σ78 => vp_in 19 20 ∧ ∀ σ79 : MS, σ79 = mL σ78 7 (vp_updL (σ78.2.2 7) (19 : Int32).toNatClampNeg r77) → Post σ79))))))))))))))))))))
set_option maxHeartbeats 1000000 in
set_option maxRecDepth 20000 in
theorem wkM_init_495 {Post : MS → Prop} (E : xE cX11_init RX11 1 none D cy p s m args meth c) {a0 : Nat} (hq0 : q 0 = a0) : ∀ (σ : MS) (H : Heap) (locs : List Loc) (ls : Array Slot), xH D A s (MW q cy σ) H locs → wpM_init_495 Post σ → lv_has ls 1 [(0, .ref (q 0))] → W p l e rM_init s m args below meth c H locs 57 26327 (MQ below (va_Qv (fun u : (Nat → Nat) × MS => Post u.2 ∧ u.1 0 = a0) (xB D cy (fun u : (Nat → Nat) × MS => MW u.1 cy u.2) A) A) args s 57 26327 A) (F0 m 495 ls []) := by
  have hx := E.1
  have hb := E.2.1
  intro σ H locs ls h hw hl
  unfold wpM_init_495 at hw
  refine lv_aload_n hx hb dX11_init_495 rfl (lv_at hl 0 rfl) ?_
  refine gX11_34 E h dX11_init_496 ?_
  refine lv_iconst (v := 0) hx hb dX11_init_499 (by decide) ?_
  refine lv_bipush (v := 112) hx hb dX11_init_500 (by decide) ?_
  refine lv_bipush (v := 114) hx hb dX11_init_502 (by decide) ?_
  refine lv_bipush (v := 111) hx hb dX11_init_504 (by decide) ?_
  refine lv_bipush (v := 111) hx hb dX11_init_506 (by decide) ?_
  refine lv_bipush (v := 102) hx hb dX11_init_508 (by decide) ?_
  refine lv_iconst (v := 0) hx hb dX11_init_510 (by decide) ?_
  refine lv_iconst (v := 0) hx hb dX11_init_511 (by decide) ?_
  refine x_calll h (x_runS (WW := MW q cy) (rest := [.int 0, .ref (q 7)]) E h (cM_word hw) yyX11_word lX11_194 ⟨Nat.le_of_ble_eq_true rfl, Nat.le_of_ble_eq_true rfl⟩ rfl rfl hl.1 rfl (Nat.le_of_ble_eq_true rfl) dX11_init_512 ⟨Nat.le_refl _, Nat.le_refl _⟩) (fun r1 σ2 H locs hw h => ?_)
  have h4 := hw.1
  have hw := hw.2
  refine sM_7 E h h4 dX11_init_515 (fun σ3 H locs eσ3 h => ?_)
  have hw := hw σ3 eσ3
  refine lv_aload_n hx hb dX11_init_516 rfl (lv_at hl 0 rfl) ?_
  refine gX11_34 E h dX11_init_517 ?_
  refine lv_iconst (v := 1) hx hb dX11_init_520 (by decide) ?_
  refine lv_bipush (v := 98) hx hb dX11_init_521 (by decide) ?_
  refine lv_bipush (v := 97) hx hb dX11_init_523 (by decide) ?_
  refine lv_bipush (v := 114) hx hb dX11_init_525 (by decide) ?_
  refine lv_iconst (v := 0) hx hb dX11_init_527 (by decide) ?_
  refine lv_iconst (v := 0) hx hb dX11_init_528 (by decide) ?_
  refine lv_iconst (v := 0) hx hb dX11_init_529 (by decide) ?_
  refine lv_iconst (v := 0) hx hb dX11_init_530 (by decide) ?_
  refine x_calll h (x_runS (WW := MW q cy) (rest := [.int 1, .ref (q 7)]) E h (cM_word hw) yyX11_word lX11_194 ⟨Nat.le_of_ble_eq_true rfl, Nat.le_of_ble_eq_true rfl⟩ rfl rfl hl.1 rfl (Nat.le_of_ble_eq_true rfl) dX11_init_531 ⟨Nat.le_refl _, Nat.le_refl _⟩) (fun r5 σ6 H locs hw h => ?_)
  have h8 := hw.1
  have hw := hw.2
  refine sM_7 E h h8 dX11_init_534 (fun σ7 H locs eσ7 h => ?_)
  have hw := hw σ7 eσ7
  refine lv_aload_n hx hb dX11_init_535 rfl (lv_at hl 0 rfl) ?_
  refine gX11_34 E h dX11_init_536 ?_
  refine lv_iconst (v := 2) hx hb dX11_init_539 (by decide) ?_
  refine lv_bipush (v := 111) hx hb dX11_init_540 (by decide) ?_
  refine lv_bipush (v := 118) hx hb dX11_init_542 (by decide) ?_
  refine lv_bipush (v := 101) hx hb dX11_init_544 (by decide) ?_
  refine lv_bipush (v := 114) hx hb dX11_init_546 (by decide) ?_
  refine lv_iconst (v := 0) hx hb dX11_init_548 (by decide) ?_
  refine lv_iconst (v := 0) hx hb dX11_init_549 (by decide) ?_
  refine lv_iconst (v := 0) hx hb dX11_init_550 (by decide) ?_
  refine x_calll h (x_runS (WW := MW q cy) (rest := [.int 2, .ref (q 7)]) E h (cM_word hw) yyX11_word lX11_194 ⟨Nat.le_of_ble_eq_true rfl, Nat.le_of_ble_eq_true rfl⟩ rfl rfl hl.1 rfl (Nat.le_of_ble_eq_true rfl) dX11_init_551 ⟨Nat.le_refl _, Nat.le_refl _⟩) (fun r9 σ10 H locs hw h => ?_)
  have h12 := hw.1
  have hw := hw.2
  refine sM_7 E h h12 dX11_init_554 (fun σ11 H locs eσ11 h => ?_)
  have hw := hw σ11 eσ11
  refine lv_aload_n hx hb dX11_init_555 rfl (lv_at hl 0 rfl) ?_
  refine gX11_34 E h dX11_init_556 ?_
  refine lv_iconst (v := 3) hx hb dX11_init_559 (by decide) ?_
  refine lv_bipush (v := 108) hx hb dX11_init_560 (by decide) ?_
  refine lv_bipush (v := 97) hx hb dX11_init_562 (by decide) ?_
  refine lv_bipush (v := 112) hx hb dX11_init_564 (by decide) ?_
  refine lv_bipush (v := 115) hx hb dX11_init_566 (by decide) ?_
  refine lv_bipush (v := 101) hx hb dX11_init_568 (by decide) ?_
  refine lv_iconst (v := 0) hx hb dX11_init_570 (by decide) ?_
  refine lv_iconst (v := 0) hx hb dX11_init_571 (by decide) ?_
  refine x_calll h (x_runS (WW := MW q cy) (rest := [.int 3, .ref (q 7)]) E h (cM_word hw) yyX11_word lX11_194 ⟨Nat.le_of_ble_eq_true rfl, Nat.le_of_ble_eq_true rfl⟩ rfl rfl hl.1 rfl (Nat.le_of_ble_eq_true rfl) dX11_init_572 ⟨Nat.le_refl _, Nat.le_refl _⟩) (fun r13 σ14 H locs hw h => ?_)
  have h16 := hw.1
  have hw := hw.2
  refine sM_7 E h h16 dX11_init_575 (fun σ15 H locs eσ15 h => ?_)
  have hw := hw σ15 eσ15
  refine lv_aload_n hx hb dX11_init_576 rfl (lv_at hl 0 rfl) ?_
  refine gX11_34 E h dX11_init_577 ?_
  refine lv_iconst (v := 4) hx hb dX11_init_580 (by decide) ?_
  refine lv_bipush (v := 98) hx hb dX11_init_581 (by decide) ?_
  refine lv_bipush (v := 97) hx hb dX11_init_583 (by decide) ?_
  refine lv_bipush (v := 99) hx hb dX11_init_585 (by decide) ?_
  refine lv_bipush (v := 107) hx hb dX11_init_587 (by decide) ?_
  refine lv_iconst (v := 0) hx hb dX11_init_589 (by decide) ?_
  refine lv_iconst (v := 0) hx hb dX11_init_590 (by decide) ?_
  refine lv_iconst (v := 0) hx hb dX11_init_591 (by decide) ?_
  refine x_calll h (x_runS (WW := MW q cy) (rest := [.int 4, .ref (q 7)]) E h (cM_word hw) yyX11_word lX11_194 ⟨Nat.le_of_ble_eq_true rfl, Nat.le_of_ble_eq_true rfl⟩ rfl rfl hl.1 rfl (Nat.le_of_ble_eq_true rfl) dX11_init_592 ⟨Nat.le_refl _, Nat.le_refl _⟩) (fun r17 σ18 H locs hw h => ?_)
  have h20 := hw.1
  have hw := hw.2
  refine sM_7 E h h20 dX11_init_595 (fun σ19 H locs eσ19 h => ?_)
  have hw := hw σ19 eσ19
  refine lv_aload_n hx hb dX11_init_596 rfl (lv_at hl 0 rfl) ?_
  refine gX11_34 E h dX11_init_597 ?_
  refine lv_iconst (v := 5) hx hb dX11_init_600 (by decide) ?_
  refine lv_bipush (v := 105) hx hb dX11_init_601 (by decide) ?_
  refine lv_bipush (v := 102) hx hb dX11_init_603 (by decide) ?_
  refine lv_iconst (v := 0) hx hb dX11_init_605 (by decide) ?_
  refine lv_iconst (v := 0) hx hb dX11_init_606 (by decide) ?_
  refine lv_iconst (v := 0) hx hb dX11_init_607 (by decide) ?_
  refine lv_iconst (v := 0) hx hb dX11_init_608 (by decide) ?_
  refine lv_iconst (v := 0) hx hb dX11_init_609 (by decide) ?_
  refine x_calll h (x_runS (WW := MW q cy) (rest := [.int 5, .ref (q 7)]) E h (cM_word hw) yyX11_word lX11_194 ⟨Nat.le_of_ble_eq_true rfl, Nat.le_of_ble_eq_true rfl⟩ rfl rfl hl.1 rfl (Nat.le_of_ble_eq_true rfl) dX11_init_610 ⟨Nat.le_refl _, Nat.le_refl _⟩) (fun r21 σ22 H locs hw h => ?_)
  have h24 := hw.1
  have hw := hw.2
  refine sM_7 E h h24 dX11_init_613 (fun σ23 H locs eσ23 h => ?_)
  have hw := hw σ23 eσ23
  refine lv_aload_n hx hb dX11_init_614 rfl (lv_at hl 0 rfl) ?_
  refine gX11_34 E h dX11_init_615 ?_
  refine lv_bipush (v := 6) hx hb dX11_init_618 (by decide) ?_
  refine lv_bipush (v := 111) hx hb dX11_init_620 (by decide) ?_
  refine lv_bipush (v := 114) hx hb dX11_init_622 (by decide) ?_
  refine lv_iconst (v := 0) hx hb dX11_init_624 (by decide) ?_
  refine lv_iconst (v := 0) hx hb dX11_init_625 (by decide) ?_
  refine lv_iconst (v := 0) hx hb dX11_init_626 (by decide) ?_
  refine lv_iconst (v := 0) hx hb dX11_init_627 (by decide) ?_
  refine lv_iconst (v := 0) hx hb dX11_init_628 (by decide) ?_
  refine x_calll h (x_runS (WW := MW q cy) (rest := [.int 6, .ref (q 7)]) E h (cM_word hw) yyX11_word lX11_194 ⟨Nat.le_of_ble_eq_true rfl, Nat.le_of_ble_eq_true rfl⟩ rfl rfl hl.1 rfl (Nat.le_of_ble_eq_true rfl) dX11_init_629 ⟨Nat.le_refl _, Nat.le_refl _⟩) (fun r25 σ26 H locs hw h => ?_)
  have h28 := hw.1
  have hw := hw.2
  refine sM_7 E h h28 dX11_init_632 (fun σ27 H locs eσ27 h => ?_)
  have hw := hw σ27 eσ27
  refine lv_aload_n hx hb dX11_init_633 rfl (lv_at hl 0 rfl) ?_
  refine gX11_34 E h dX11_init_634 ?_
  refine lv_bipush (v := 7) hx hb dX11_init_637 (by decide) ?_
  refine lv_bipush (v := 97) hx hb dX11_init_639 (by decide) ?_
  refine lv_bipush (v := 110) hx hb dX11_init_641 (by decide) ?_
  refine lv_bipush (v := 100) hx hb dX11_init_643 (by decide) ?_
  refine lv_iconst (v := 0) hx hb dX11_init_645 (by decide) ?_
  refine lv_iconst (v := 0) hx hb dX11_init_646 (by decide) ?_
  refine lv_iconst (v := 0) hx hb dX11_init_647 (by decide) ?_
  refine lv_iconst (v := 0) hx hb dX11_init_648 (by decide) ?_
  refine x_calll h (x_runS (WW := MW q cy) (rest := [.int 7, .ref (q 7)]) E h (cM_word hw) yyX11_word lX11_194 ⟨Nat.le_of_ble_eq_true rfl, Nat.le_of_ble_eq_true rfl⟩ rfl rfl hl.1 rfl (Nat.le_of_ble_eq_true rfl) dX11_init_649 ⟨Nat.le_refl _, Nat.le_refl _⟩) (fun r29 σ30 H locs hw h => ?_)
  have h32 := hw.1
  have hw := hw.2
  refine sM_7 E h h32 dX11_init_652 (fun σ31 H locs eσ31 h => ?_)
  have hw := hw σ31 eσ31
  refine lv_aload_n hx hb dX11_init_653 rfl (lv_at hl 0 rfl) ?_
  refine gX11_34 E h dX11_init_654 ?_
  refine lv_bipush (v := 8) hx hb dX11_init_657 (by decide) ?_
  refine lv_bipush (v := 121) hx hb dX11_init_659 (by decide) ?_
  refine lv_bipush (v := 101) hx hb dX11_init_661 (by decide) ?_
  refine lv_bipush (v := 115) hx hb dX11_init_663 (by decide) ?_
  refine lv_iconst (v := 0) hx hb dX11_init_665 (by decide) ?_
  refine lv_iconst (v := 0) hx hb dX11_init_666 (by decide) ?_
  refine lv_iconst (v := 0) hx hb dX11_init_667 (by decide) ?_
  refine lv_iconst (v := 0) hx hb dX11_init_668 (by decide) ?_
  refine x_calll h (x_runS (WW := MW q cy) (rest := [.int 8, .ref (q 7)]) E h (cM_word hw) yyX11_word lX11_194 ⟨Nat.le_of_ble_eq_true rfl, Nat.le_of_ble_eq_true rfl⟩ rfl rfl hl.1 rfl (Nat.le_of_ble_eq_true rfl) dX11_init_669 ⟨Nat.le_refl _, Nat.le_refl _⟩) (fun r33 σ34 H locs hw h => ?_)
  have h36 := hw.1
  have hw := hw.2
  refine sM_7 E h h36 dX11_init_672 (fun σ35 H locs eσ35 h => ?_)
  have hw := hw σ35 eσ35
  refine lv_aload_n hx hb dX11_init_673 rfl (lv_at hl 0 rfl) ?_
  refine gX11_34 E h dX11_init_674 ?_
  refine lv_bipush (v := 9) hx hb dX11_init_677 (by decide) ?_
  refine lv_bipush (v := 110) hx hb dX11_init_679 (by decide) ?_
  refine lv_bipush (v := 111) hx hb dX11_init_681 (by decide) ?_
  refine lv_iconst (v := 0) hx hb dX11_init_683 (by decide) ?_
  refine lv_iconst (v := 0) hx hb dX11_init_684 (by decide) ?_
  refine lv_iconst (v := 0) hx hb dX11_init_685 (by decide) ?_
  refine lv_iconst (v := 0) hx hb dX11_init_686 (by decide) ?_
  refine lv_iconst (v := 0) hx hb dX11_init_687 (by decide) ?_
  refine x_calll h (x_runS (WW := MW q cy) (rest := [.int 9, .ref (q 7)]) E h (cM_word hw) yyX11_word lX11_194 ⟨Nat.le_of_ble_eq_true rfl, Nat.le_of_ble_eq_true rfl⟩ rfl rfl hl.1 rfl (Nat.le_of_ble_eq_true rfl) dX11_init_688 ⟨Nat.le_refl _, Nat.le_refl _⟩) (fun r37 σ38 H locs hw h => ?_)
  have h40 := hw.1
  have hw := hw.2
  refine sM_7 E h h40 dX11_init_691 (fun σ39 H locs eσ39 h => ?_)
  have hw := hw σ39 eσ39
  refine lv_aload_n hx hb dX11_init_692 rfl (lv_at hl 0 rfl) ?_
  refine gX11_34 E h dX11_init_693 ?_
  refine lv_bipush (v := 10) hx hb dX11_init_696 (by decide) ?_
  refine lv_bipush (v := 107) hx hb dX11_init_698 (by decide) ?_
  refine lv_bipush (v := 105) hx hb dX11_init_700 (by decide) ?_
  refine lv_bipush (v := 110) hx hb dX11_init_702 (by decide) ?_
  refine lv_iconst (v := 0) hx hb dX11_init_704 (by decide) ?_
  refine lv_iconst (v := 0) hx hb dX11_init_705 (by decide) ?_
  refine lv_iconst (v := 0) hx hb dX11_init_706 (by decide) ?_
  refine lv_iconst (v := 0) hx hb dX11_init_707 (by decide) ?_
  refine x_calll h (x_runS (WW := MW q cy) (rest := [.int 10, .ref (q 7)]) E h (cM_word hw) yyX11_word lX11_194 ⟨Nat.le_of_ble_eq_true rfl, Nat.le_of_ble_eq_true rfl⟩ rfl rfl hl.1 rfl (Nat.le_of_ble_eq_true rfl) dX11_init_708 ⟨Nat.le_refl _, Nat.le_refl _⟩) (fun r41 σ42 H locs hw h => ?_)
  have h44 := hw.1
  have hw := hw.2
  refine sM_7 E h h44 dX11_init_711 (fun σ43 H locs eσ43 h => ?_)
  have hw := hw σ43 eσ43
  refine lv_aload_n hx hb dX11_init_712 rfl (lv_at hl 0 rfl) ?_
  refine gX11_34 E h dX11_init_713 ?_
  refine lv_bipush (v := 11) hx hb dX11_init_716 (by decide) ?_
  refine lv_bipush (v := 102) hx hb dX11_init_718 (by decide) ?_
  refine lv_bipush (v := 97) hx hb dX11_init_720 (by decide) ?_
  refine lv_bipush (v := 109) hx hb dX11_init_722 (by decide) ?_
  refine lv_bipush (v := 101) hx hb dX11_init_724 (by decide) ?_
  refine lv_iconst (v := 0) hx hb dX11_init_726 (by decide) ?_
  refine lv_iconst (v := 0) hx hb dX11_init_727 (by decide) ?_
  refine lv_iconst (v := 0) hx hb dX11_init_728 (by decide) ?_
  refine x_calll h (x_runS (WW := MW q cy) (rest := [.int 11, .ref (q 7)]) E h (cM_word hw) yyX11_word lX11_194 ⟨Nat.le_of_ble_eq_true rfl, Nat.le_of_ble_eq_true rfl⟩ rfl rfl hl.1 rfl (Nat.le_of_ble_eq_true rfl) dX11_init_729 ⟨Nat.le_refl _, Nat.le_refl _⟩) (fun r45 σ46 H locs hw h => ?_)
  have h48 := hw.1
  have hw := hw.2
  refine sM_7 E h h48 dX11_init_732 (fun σ47 H locs eσ47 h => ?_)
  have hw := hw σ47 eσ47
  refine lv_aload_n hx hb dX11_init_733 rfl (lv_at hl 0 rfl) ?_
  refine gX11_34 E h dX11_init_734 ?_
  refine lv_bipush (v := 12) hx hb dX11_init_737 (by decide) ?_
  refine lv_bipush (v := 116) hx hb dX11_init_739 (by decide) ?_
  refine lv_bipush (v := 101) hx hb dX11_init_741 (by decide) ?_
  refine lv_bipush (v := 110) hx hb dX11_init_743 (by decide) ?_
  refine lv_bipush (v := 115) hx hb dX11_init_745 (by decide) ?_
  refine lv_bipush (v := 101) hx hb dX11_init_747 (by decide) ?_
  refine lv_iconst (v := 0) hx hb dX11_init_749 (by decide) ?_
  refine lv_iconst (v := 0) hx hb dX11_init_750 (by decide) ?_
  refine x_calll h (x_runS (WW := MW q cy) (rest := [.int 12, .ref (q 7)]) E h (cM_word hw) yyX11_word lX11_194 ⟨Nat.le_of_ble_eq_true rfl, Nat.le_of_ble_eq_true rfl⟩ rfl rfl hl.1 rfl (Nat.le_of_ble_eq_true rfl) dX11_init_751 ⟨Nat.le_refl _, Nat.le_refl _⟩) (fun r49 σ50 H locs hw h => ?_)
  have h52 := hw.1
  have hw := hw.2
  refine sM_7 E h h52 dX11_init_754 (fun σ51 H locs eσ51 h => ?_)
  have hw := hw σ51 eσ51
  refine lv_aload_n hx hb dX11_init_755 rfl (lv_at hl 0 rfl) ?_
  refine gX11_34 E h dX11_init_756 ?_
  refine lv_bipush (v := 13) hx hb dX11_init_759 (by decide) ?_
  refine lv_bipush (v := 97) hx hb dX11_init_761 (by decide) ?_
  refine lv_bipush (v := 103) hx hb dX11_init_763 (by decide) ?_
  refine lv_bipush (v := 101) hx hb dX11_init_765 (by decide) ?_
  refine lv_iconst (v := 0) hx hb dX11_init_767 (by decide) ?_
  refine lv_iconst (v := 0) hx hb dX11_init_768 (by decide) ?_
  refine lv_iconst (v := 0) hx hb dX11_init_769 (by decide) ?_
  refine lv_iconst (v := 0) hx hb dX11_init_770 (by decide) ?_
  refine x_calll h (x_runS (WW := MW q cy) (rest := [.int 13, .ref (q 7)]) E h (cM_word hw) yyX11_word lX11_194 ⟨Nat.le_of_ble_eq_true rfl, Nat.le_of_ble_eq_true rfl⟩ rfl rfl hl.1 rfl (Nat.le_of_ble_eq_true rfl) dX11_init_771 ⟨Nat.le_refl _, Nat.le_refl _⟩) (fun r53 σ54 H locs hw h => ?_)
  have h56 := hw.1
  have hw := hw.2
  refine sM_7 E h h56 dX11_init_774 (fun σ55 H locs eσ55 h => ?_)
  have hw := hw σ55 eσ55
  refine lv_aload_n hx hb dX11_init_775 rfl (lv_at hl 0 rfl) ?_
  refine gX11_34 E h dX11_init_776 ?_
  refine lv_bipush (v := 14) hx hb dX11_init_779 (by decide) ?_
  refine lv_bipush (v := 100) hx hb dX11_init_781 (by decide) ?_
  refine lv_bipush (v := 101) hx hb dX11_init_783 (by decide) ?_
  refine lv_bipush (v := 103) hx hb dX11_init_785 (by decide) ?_
  refine lv_bipush (v := 114) hx hb dX11_init_787 (by decide) ?_
  refine lv_bipush (v := 101) hx hb dX11_init_789 (by decide) ?_
  refine lv_bipush (v := 101) hx hb dX11_init_791 (by decide) ?_
  refine lv_iconst (v := 0) hx hb dX11_init_793 (by decide) ?_
  refine x_calll h (x_runS (WW := MW q cy) (rest := [.int 14, .ref (q 7)]) E h (cM_word hw) yyX11_word lX11_194 ⟨Nat.le_of_ble_eq_true rfl, Nat.le_of_ble_eq_true rfl⟩ rfl rfl hl.1 rfl (Nat.le_of_ble_eq_true rfl) dX11_init_794 ⟨Nat.le_refl _, Nat.le_refl _⟩) (fun r57 σ58 H locs hw h => ?_)
  have h60 := hw.1
  have hw := hw.2
  refine sM_7 E h h60 dX11_init_797 (fun σ59 H locs eσ59 h => ?_)
  have hw := hw σ59 eσ59
  refine lv_aload_n hx hb dX11_init_798 rfl (lv_at hl 0 rfl) ?_
  refine gX11_34 E h dX11_init_799 ?_
  refine lv_bipush (v := 15) hx hb dX11_init_802 (by decide) ?_
  refine lv_bipush (v := 118) hx hb dX11_init_804 (by decide) ?_
  refine lv_bipush (v := 111) hx hb dX11_init_806 (by decide) ?_
  refine lv_bipush (v := 119) hx hb dX11_init_808 (by decide) ?_
  refine lv_iconst (v := 0) hx hb dX11_init_810 (by decide) ?_
  refine lv_iconst (v := 0) hx hb dX11_init_811 (by decide) ?_
  refine lv_iconst (v := 0) hx hb dX11_init_812 (by decide) ?_
  refine lv_iconst (v := 0) hx hb dX11_init_813 (by decide) ?_
  refine x_calll h (x_runS (WW := MW q cy) (rest := [.int 15, .ref (q 7)]) E h (cM_word hw) yyX11_word lX11_194 ⟨Nat.le_of_ble_eq_true rfl, Nat.le_of_ble_eq_true rfl⟩ rfl rfl hl.1 rfl (Nat.le_of_ble_eq_true rfl) dX11_init_814 ⟨Nat.le_refl _, Nat.le_refl _⟩) (fun r61 σ62 H locs hw h => ?_)
  have h64 := hw.1
  have hw := hw.2
  refine sM_7 E h h64 dX11_init_817 (fun σ63 H locs eσ63 h => ?_)
  have hw := hw σ63 eσ63
  refine lv_aload_n hx hb dX11_init_818 rfl (lv_at hl 0 rfl) ?_
  refine gX11_34 E h dX11_init_819 ?_
  refine lv_bipush (v := 16) hx hb dX11_init_822 (by decide) ?_
  refine lv_bipush (v := 108) hx hb dX11_init_824 (by decide) ?_
  refine lv_bipush (v := 101) hx hb dX11_init_826 (by decide) ?_
  refine lv_bipush (v := 97) hx hb dX11_init_828 (by decide) ?_
  refine lv_bipush (v := 118) hx hb dX11_init_830 (by decide) ?_
  refine lv_bipush (v := 101) hx hb dX11_init_832 (by decide) ?_
  refine lv_iconst (v := 0) hx hb dX11_init_834 (by decide) ?_
  refine lv_iconst (v := 0) hx hb dX11_init_835 (by decide) ?_
  refine x_calll h (x_runS (WW := MW q cy) (rest := [.int 16, .ref (q 7)]) E h (cM_word hw) yyX11_word lX11_194 ⟨Nat.le_of_ble_eq_true rfl, Nat.le_of_ble_eq_true rfl⟩ rfl rfl hl.1 rfl (Nat.le_of_ble_eq_true rfl) dX11_init_836 ⟨Nat.le_refl _, Nat.le_refl _⟩) (fun r65 σ66 H locs hw h => ?_)
  have h68 := hw.1
  have hw := hw.2
  refine sM_7 E h h68 dX11_init_839 (fun σ67 H locs eσ67 h => ?_)
  have hw := hw σ67 eσ67
  refine lv_aload_n hx hb dX11_init_840 rfl (lv_at hl 0 rfl) ?_
  refine gX11_34 E h dX11_init_841 ?_
  refine lv_bipush (v := 17) hx hb dX11_init_844 (by decide) ?_
  refine lv_bipush (v := 111) hx hb dX11_init_846 (by decide) ?_
  refine lv_bipush (v := 108) hx hb dX11_init_848 (by decide) ?_
  refine lv_bipush (v := 100) hx hb dX11_init_850 (by decide) ?_
  refine lv_iconst (v := 0) hx hb dX11_init_852 (by decide) ?_
  refine lv_iconst (v := 0) hx hb dX11_init_853 (by decide) ?_
  refine lv_iconst (v := 0) hx hb dX11_init_854 (by decide) ?_
  refine lv_iconst (v := 0) hx hb dX11_init_855 (by decide) ?_
  refine x_calll h (x_runS (WW := MW q cy) (rest := [.int 17, .ref (q 7)]) E h (cM_word hw) yyX11_word lX11_194 ⟨Nat.le_of_ble_eq_true rfl, Nat.le_of_ble_eq_true rfl⟩ rfl rfl hl.1 rfl (Nat.le_of_ble_eq_true rfl) dX11_init_856 ⟨Nat.le_refl _, Nat.le_refl _⟩) (fun r69 σ70 H locs hw h => ?_)
  have h72 := hw.1
  have hw := hw.2
  refine sM_7 E h h72 dX11_init_859 (fun σ71 H locs eσ71 h => ?_)
  have hw := hw σ71 eσ71
  refine lv_aload_n hx hb dX11_init_860 rfl (lv_at hl 0 rfl) ?_
  refine gX11_34 E h dX11_init_861 ?_
  refine lv_bipush (v := 18) hx hb dX11_init_864 (by decide) ?_
  refine lv_bipush (v := 119) hx hb dX11_init_866 (by decide) ?_
  refine lv_bipush (v := 104) hx hb dX11_init_868 (by decide) ?_
  refine lv_bipush (v := 121) hx hb dX11_init_870 (by decide) ?_
  refine lv_iconst (v := 0) hx hb dX11_init_872 (by decide) ?_
  refine lv_iconst (v := 0) hx hb dX11_init_873 (by decide) ?_
  refine lv_iconst (v := 0) hx hb dX11_init_874 (by decide) ?_
  refine lv_iconst (v := 0) hx hb dX11_init_875 (by decide) ?_
  refine x_calll h (x_runS (WW := MW q cy) (rest := [.int 18, .ref (q 7)]) E h (cM_word hw) yyX11_word lX11_194 ⟨Nat.le_of_ble_eq_true rfl, Nat.le_of_ble_eq_true rfl⟩ rfl rfl hl.1 rfl (Nat.le_of_ble_eq_true rfl) dX11_init_876 ⟨Nat.le_refl _, Nat.le_refl _⟩) (fun r73 σ74 H locs hw h => ?_)
  have h76 := hw.1
  have hw := hw.2
  refine sM_7 E h h76 dX11_init_879 (fun σ75 H locs eσ75 h => ?_)
  have hw := hw σ75 eσ75
  refine lv_aload_n hx hb dX11_init_880 rfl (lv_at hl 0 rfl) ?_
  refine gX11_34 E h dX11_init_881 ?_
  refine lv_bipush (v := 19) hx hb dX11_init_884 (by decide) ?_
  refine lv_bipush (v := 100) hx hb dX11_init_886 (by decide) ?_
  refine lv_bipush (v := 97) hx hb dX11_init_888 (by decide) ?_
  refine lv_bipush (v := 121) hx hb dX11_init_890 (by decide) ?_
  refine lv_bipush (v := 115) hx hb dX11_init_892 (by decide) ?_
  refine lv_iconst (v := 0) hx hb dX11_init_894 (by decide) ?_
  refine lv_iconst (v := 0) hx hb dX11_init_895 (by decide) ?_
  refine lv_iconst (v := 0) hx hb dX11_init_896 (by decide) ?_
  refine x_calll h (x_runS (WW := MW q cy) (rest := [.int 19, .ref (q 7)]) E h (cM_word hw) yyX11_word lX11_194 ⟨Nat.le_of_ble_eq_true rfl, Nat.le_of_ble_eq_true rfl⟩ rfl rfl hl.1 rfl (Nat.le_of_ble_eq_true rfl) dX11_init_897 ⟨Nat.le_refl _, Nat.le_refl _⟩) (fun r77 σ78 H locs hw h => ?_)
  have h80 := hw.1
  have hw := hw.2
  refine sM_7 E h h80 dX11_init_900 (fun σ79 H locs eσ79 h => ?_)
  have hw := hw σ79 eσ79
  exact x_vretG (WW := fun u : (Nat → Nat) × MS => MW u.1 cy u.2) (u := (q, _)) E h ⟨hw, hq0⟩ dX11_init_901
end MInit
