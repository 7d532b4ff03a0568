section CWalk
variable {p : Program} {l : Launch} {e : Env} {s : State} {m : MethodId} {args : Array Value} {below : List Frame} {meth : Method} {c : Code} {D : va_G} {cy : Nat → ClassId} {ks : Nat × Nat × Option Nat} {q : Nat → Nat} {A : Nat → Prop}
abbrev rC_X10_law : Room := { frames := 1, cells := 0, slots := 0, locals := 26 }
def wpC_X10_law (σ : CS) (x1 : Int32) (Post : Int32 → CS → Prop) : Prop := wpC_X10_isPromise σ x1 (fun r1 σ2 => (r1 = 0 → Post ((-1)) σ2) ∧ (¬ r1 = 0 → vp_in x1 10 ∧ vp_in x1 10 ∧ wpC_X6_inForce σ2 (σ2.2.1 17 x1.toNatClampNeg) (σ2.2.1 18 x1.toNatClampNeg) (fun r6 σ7 => Post r6 σ7)))
set_option maxHeartbeats 1000000 in
set_option maxRecDepth 20000 in
theorem cC_X10_law {l : Launch} {D : va_G} {cy : Nat → ClassId} {ks : Nat × Nat × Option Nat} {q : Nat → Nat} {σ : CS} {sz : Nat} {x1 : Int32} {Post : Int32 → CS → Prop} (hw : wpC_X10_law σ x1 Post) : Met l yX10_law (Cond.code yX10_law cX10_law 2 (some .int) :: wsA) rC_X10_law (zPc D cy ks (CW q cy σ) sz [.ref (q 0), .int x1]) (va_Qi Post (xB D cy (CW q cy) (va_A (CW q cy σ) sz)) (va_A (CW q cy σ) sz)) 0 0 (va_A (CW q cy σ) sz) := by
  refine z_enter (own := RX10) (WW := CW q cy) (by decide) rfl (Nat.le_of_ble_eq_true rfl) ?_
  intro p e s m below meth c ls E h hl
  have hx := E.1.1
  have hb := E.1.2.1
  have hl : lv_has ls 2 [(0, .ref (q 0)), (1, .int x1)] := hl
  unfold wpC_X10_law at hw
  refine lv_aload_n hx hb dX10_law_0 rfl (lv_at hl 0 rfl) ?_
  refine lv_iload_n hx hb dX10_law_1 rfl (lv_at hl 1 rfl) ?_
  refine x_calli h (z_runV (WW := CW q cy) (rest := []) E h (cC_X10_isPromise hw) yyX10_isPromise lX10_123 0 rfl rfl ⟨Nat.le_of_ble_eq_true rfl, Nat.le_of_ble_eq_true rfl⟩ rfl rfl hl.1 rfl (Nat.le_of_ble_eq_true rfl) dX10_law_2 ⟨Nat.le_refl 0, Nat.le_refl 0⟩) (fun r1 σ2 H locs hw h => ?_)
  refine lv_if_ne (tgt := 10) hx hb dX10_law_5 (by decide) (fun c3 => ?_) (fun c3 => ?_)
  · have hw := hw.2 c3
    refine lv_aload_n hx hb dX10_law_10 rfl (lv_at hl 0 rfl) ?_
    refine gX10_26 E.1 h dX10_law_11 ?_
    refine lv_aload_n hx hb dX10_law_14 rfl (lv_at hl 0 rfl) ?_
    refine gX10_40 E.1 h dX10_law_15 ?_
    refine gX10_144 E.1 h dX10_law_18 ?_
    refine lv_iload_n hx hb dX10_law_21 rfl (lv_at hl 1 rfl) ?_
    have h4 := hw.1
    have hw := hw.2
    refine aC_17 E.1 h h4 dX10_law_22 ?_
    refine lv_aload_n hx hb dX10_law_23 rfl (lv_at hl 0 rfl) ?_
    refine gX10_40 E.1 h dX10_law_24 ?_
    refine gX10_147 E.1 h dX10_law_27 ?_
    refine lv_iload_n hx hb dX10_law_30 rfl (lv_at hl 1 rfl) ?_
    have h5 := hw.1
    have hw := hw.2
    refine aC_18 E.1 h h5 dX10_law_31 ?_
    refine x_calli h (z_runVN (WW := CW q cy) (rest := []) E h (cC_X6_inForce hw) yyX6_inForce lX10_150 6 rfl rfl ⟨Nat.le_of_ble_eq_true rfl, Nat.le_of_ble_eq_true rfl⟩ rfl rfl hl.1 rfl (Nat.le_of_ble_eq_true rfl) dX10_law_32 ⟨Nat.le_refl 0, Nat.le_refl 0⟩) (fun r6 σ7 H locs hw h => ?_)
    exact x_iret E.1 h hw dX10_law_35
  · have hw := hw.1 c3
    refine lv_iconst (v := (-1)) hx hb dX10_law_8 (by decide) ?_
    exact x_iret E.1 h hw dX10_law_9

abbrev rC_X10_isKnown : Room := { frames := 0, cells := 0, slots := 0, locals := 0 }
def wpC_X10_isKnown (σ : CS) (x1 : Int32) (Post : Int32 → CS → Prop) : Prop := (x1 < 0 → Post 0 σ) ∧ (¬ x1 < 0 → ((σ.1 504) < x1 → Post 0 σ) ∧ (¬ (σ.1 504) < x1 → Post 1 σ))
set_option maxHeartbeats 1000000 in
set_option maxRecDepth 20000 in
theorem cC_X10_isKnown {l : Launch} {D : va_G} {cy : Nat → ClassId} {ks : Nat × Nat × Option Nat} {q : Nat → Nat} {σ : CS} {sz : Nat} {x1 : Int32} {Post : Int32 → CS → Prop} (hw : wpC_X10_isKnown σ x1 Post) : Met l yX10_isKnown (Cond.code yX10_isKnown cX10_isKnown 2 (some .boolean) :: wsA) rC_X10_isKnown (zPc D cy ks (CW q cy σ) sz [.ref (q 0), .int x1]) (va_Qi Post (xB D cy (CW q cy) (va_A (CW q cy σ) sz)) (va_A (CW q cy σ) sz)) 0 0 (va_A (CW q cy σ) sz) := by
  refine z_enter (own := RX10) (WW := CW q cy) (by decide) rfl (Nat.le_of_ble_eq_true rfl) ?_
  intro p e s m below meth c ls E h hl
  have hx := E.1.1
  have hb := E.1.2.1
  have hl : lv_has ls 2 [(0, .ref (q 0)), (1, .int x1)] := hl
  unfold wpC_X10_isKnown at hw
  refine lv_iload_n hx hb dX10_isKnown_0 rfl (lv_at hl 1 rfl) ?_
  refine lv_if_lt (tgt := 19) hx hb dX10_isKnown_1 (by decide) (fun c1 => ?_) (fun c1 => ?_)
  · have hw := hw.1 c1
    refine lv_iconst (v := 0) hx hb dX10_isKnown_19 (by decide) ?_
    exact x_zret E.1 h rfl hw dX10_isKnown_20
  · have hw := hw.2 c1
    refine lv_iload_n hx hb dX10_isKnown_4 rfl (lv_at hl 1 rfl) ?_
    refine lv_aload_n hx hb dX10_isKnown_5 rfl (lv_at hl 0 rfl) ?_
    refine gX10_54 E.1 h dX10_isKnown_6 ?_
    refine gX10_207 E.1 h dX10_isKnown_9 ?_
    refine lv_icmp_gt (tgt := 19) hx hb dX10_isKnown_12 (by decide) (fun c2 => ?_) (fun c2 => ?_)
    · have hw := hw.1 c2
      refine lv_iconst (v := 0) hx hb dX10_isKnown_19 (by decide) ?_
      exact x_zret E.1 h rfl hw dX10_isKnown_20
    · have hw := hw.2 c2
      refine lv_iconst (v := 1) hx hb dX10_isKnown_15 (by decide) ?_
      refine lv_goto (tgt := 20) hx hb dX10_isKnown_16 (by decide) ?_
      exact x_zret E.1 h rfl hw dX10_isKnown_20

abbrev rC_X10_proved : Room := { frames := 7, cells := 0, slots := 0, locals := 158 }
def wpC_X10_proved (σ : CS) (x1 : Int32) (x2 : Int32) (Post : Int32 → CS → Prop) : Prop := wpC_X10_isPromise σ x1 (fun r1 σ2 => (r1 = 0 → Post ((-1)) σ2) ∧ (¬ r1 = 0 → wpC_X10_isKnown σ2 x2 (fun r4 σ5 => (r4 = 0 → Post ((-1)) σ5) ∧ (¬ r4 = 0 → wpC_X4_hear σ5 x2 (fun σ7 => vp_in x1 10 ∧ Post (σ7.2.1 36 x1.toNatClampNeg) σ7)))))
set_option maxHeartbeats 1000000 in
set_option maxRecDepth 20000 in
theorem cC_X10_proved {l : Launch} {D : va_G} {cy : Nat → ClassId} {ks : Nat × Nat × Option Nat} {q : Nat → Nat} {σ : CS} {sz : Nat} {x1 : Int32} {x2 : Int32} {Post : Int32 → CS → Prop} (hw : wpC_X10_proved σ x1 x2 Post) : Met l yX10_proved (Cond.code yX10_proved cX10_proved 3 (some .int) :: wsA) rC_X10_proved (zPc D cy ks (CW q cy σ) sz [.ref (q 0), .int x1, .int x2]) (va_Qi Post (xB D cy (CW q cy) (va_A (CW q cy σ) sz)) (va_A (CW q cy σ) sz)) 0 0 (va_A (CW q cy σ) sz) := by
  refine z_enter (own := RX10) (WW := CW q cy) (by decide) rfl (Nat.le_of_ble_eq_true rfl) ?_
  intro p e s m below meth c ls E h hl
  have hx := E.1.1
  have hb := E.1.2.1
  have hl : lv_has ls 3 [(0, .ref (q 0)), (1, .int x1), (2, .int x2)] := hl
  unfold wpC_X10_proved at hw
  refine lv_aload_n hx hb dX10_proved_0 rfl (lv_at hl 0 rfl) ?_
  refine lv_iload_n hx hb dX10_proved_1 rfl (lv_at hl 1 rfl) ?_
  refine x_calli h (z_runV (WW := CW q cy) (rest := []) E h (cC_X10_isPromise hw) yyX10_isPromise lX10_123 0 rfl rfl ⟨Nat.le_of_ble_eq_true rfl, Nat.le_of_ble_eq_true rfl⟩ rfl rfl hl.1 rfl (Nat.le_of_ble_eq_true rfl) dX10_proved_2 ⟨Nat.le_refl 0, Nat.le_refl 0⟩) (fun r1 σ2 H locs hw h => ?_)
  refine lv_if_eq (tgt := 16) hx hb dX10_proved_5 (by decide) (fun c3 => ?_) (fun c3 => ?_)
  · have hw := hw.1 c3
    refine lv_iconst (v := (-1)) hx hb dX10_proved_16 (by decide) ?_
    exact x_iret E.1 h hw dX10_proved_17
  · have hw := hw.2 c3
    refine lv_aload_n hx hb dX10_proved_8 rfl (lv_at hl 0 rfl) ?_
    refine lv_iload_n hx hb dX10_proved_9 rfl (lv_at hl 2 rfl) ?_
    refine x_calli h (z_runV (WW := CW q cy) (rest := []) E h (cC_X10_isKnown hw) yyX10_isKnown lX10_153 0 rfl rfl ⟨Nat.le_of_ble_eq_true rfl, Nat.le_of_ble_eq_true rfl⟩ rfl rfl hl.1 rfl (Nat.le_of_ble_eq_true rfl) dX10_proved_10 ⟨Nat.le_refl 0, Nat.le_refl 0⟩) (fun r4 σ5 H locs hw h => ?_)
    refine lv_if_ne (tgt := 18) hx hb dX10_proved_13 (by decide) (fun c6 => ?_) (fun c6 => ?_)
    · have hw := hw.2 c6
      refine lv_aload_n hx hb dX10_proved_18 rfl (lv_at hl 0 rfl) ?_
      refine gX10_63 E.1 h dX10_proved_19 ?_
      refine lv_iload_n hx hb dX10_proved_22 rfl (lv_at hl 2 rfl) ?_
      refine x_callv h (z_runVN (WW := CW q cy) (rest := []) E h (cC_X4_hear hw) yyX4_hear lX10_156 30 rfl rfl ⟨Nat.le_of_ble_eq_true rfl, Nat.le_of_ble_eq_true rfl⟩ rfl rfl hl.1 rfl (Nat.le_of_ble_eq_true rfl) dX10_proved_23 ⟨Nat.le_refl 0, Nat.le_refl 0⟩) (fun σ7 H locs hw h => ?_)
      refine lv_aload_n hx hb dX10_proved_26 rfl (lv_at hl 0 rfl) ?_
      refine gX10_63 E.1 h dX10_proved_27 ?_
      refine gX10_159 E.1 h dX10_proved_30 ?_
      refine lv_iload_n hx hb dX10_proved_33 rfl (lv_at hl 1 rfl) ?_
      have h8 := hw.1
      have hw := hw.2
      refine aC_36 E.1 h h8 dX10_proved_34 ?_
      exact x_iret E.1 h hw dX10_proved_35
    · have hw := hw.1 c6
      refine lv_iconst (v := (-1)) hx hb dX10_proved_16 (by decide) ?_
      exact x_iret E.1 h hw dX10_proved_17

abbrev rC_X10_barred : Room := { frames := 7, cells := 0, slots := 0, locals := 158 }
def wpC_X10_barred (σ : CS) (x1 : Int32) (x2 : Int32) (Post : Int32 → CS → Prop) : Prop := wpC_X10_isPromise σ x1 (fun r1 σ2 => (r1 = 0 → Post ((-1)) σ2) ∧ (¬ r1 = 0 → wpC_X10_isKnown σ2 x2 (fun r4 σ5 => (r4 = 0 → Post ((-1)) σ5) ∧ (¬ r4 = 0 → wpC_X4_hear σ5 x2 (fun σ7 => vp_in x1 10 ∧ Post (σ7.2.1 39 x1.toNatClampNeg) σ7)))))
set_option maxHeartbeats 1000000 in
set_option maxRecDepth 20000 in
theorem cC_X10_barred {l : Launch} {D : va_G} {cy : Nat → ClassId} {ks : Nat × Nat × Option Nat} {q : Nat → Nat} {σ : CS} {sz : Nat} {x1 : Int32} {x2 : Int32} {Post : Int32 → CS → Prop} (hw : wpC_X10_barred σ x1 x2 Post) : Met l yX10_barred (Cond.code yX10_barred cX10_barred 3 (some .int) :: wsA) rC_X10_barred (zPc D cy ks (CW q cy σ) sz [.ref (q 0), .int x1, .int x2]) (va_Qi Post (xB D cy (CW q cy) (va_A (CW q cy σ) sz)) (va_A (CW q cy σ) sz)) 0 0 (va_A (CW q cy σ) sz) := by
  refine z_enter (own := RX10) (WW := CW q cy) (by decide) rfl (Nat.le_of_ble_eq_true rfl) ?_
  intro p e s m below meth c ls E h hl
  have hx := E.1.1
  have hb := E.1.2.1
  have hl : lv_has ls 3 [(0, .ref (q 0)), (1, .int x1), (2, .int x2)] := hl
  unfold wpC_X10_barred at hw
  refine lv_aload_n hx hb dX10_barred_0 rfl (lv_at hl 0 rfl) ?_
  refine lv_iload_n hx hb dX10_barred_1 rfl (lv_at hl 1 rfl) ?_
  refine x_calli h (z_runV (WW := CW q cy) (rest := []) E h (cC_X10_isPromise hw) yyX10_isPromise lX10_123 0 rfl rfl ⟨Nat.le_of_ble_eq_true rfl, Nat.le_of_ble_eq_true rfl⟩ rfl rfl hl.1 rfl (Nat.le_of_ble_eq_true rfl) dX10_barred_2 ⟨Nat.le_refl 0, Nat.le_refl 0⟩) (fun r1 σ2 H locs hw h => ?_)
  refine lv_if_eq (tgt := 16) hx hb dX10_barred_5 (by decide) (fun c3 => ?_) (fun c3 => ?_)
  · have hw := hw.1 c3
    refine lv_iconst (v := (-1)) hx hb dX10_barred_16 (by decide) ?_
    exact x_iret E.1 h hw dX10_barred_17
  · have hw := hw.2 c3
    refine lv_aload_n hx hb dX10_barred_8 rfl (lv_at hl 0 rfl) ?_
    refine lv_iload_n hx hb dX10_barred_9 rfl (lv_at hl 2 rfl) ?_
    refine x_calli h (z_runV (WW := CW q cy) (rest := []) E h (cC_X10_isKnown hw) yyX10_isKnown lX10_153 0 rfl rfl ⟨Nat.le_of_ble_eq_true rfl, Nat.le_of_ble_eq_true rfl⟩ rfl rfl hl.1 rfl (Nat.le_of_ble_eq_true rfl) dX10_barred_10 ⟨Nat.le_refl 0, Nat.le_refl 0⟩) (fun r4 σ5 H locs hw h => ?_)
    refine lv_if_ne (tgt := 18) hx hb dX10_barred_13 (by decide) (fun c6 => ?_) (fun c6 => ?_)
    · have hw := hw.2 c6
      refine lv_aload_n hx hb dX10_barred_18 rfl (lv_at hl 0 rfl) ?_
      refine gX10_63 E.1 h dX10_barred_19 ?_
      refine lv_iload_n hx hb dX10_barred_22 rfl (lv_at hl 2 rfl) ?_
      refine x_callv h (z_runVN (WW := CW q cy) (rest := []) E h (cC_X4_hear hw) yyX4_hear lX10_156 30 rfl rfl ⟨Nat.le_of_ble_eq_true rfl, Nat.le_of_ble_eq_true rfl⟩ rfl rfl hl.1 rfl (Nat.le_of_ble_eq_true rfl) dX10_barred_23 ⟨Nat.le_refl 0, Nat.le_refl 0⟩) (fun σ7 H locs hw h => ?_)
      refine lv_aload_n hx hb dX10_barred_26 rfl (lv_at hl 0 rfl) ?_
      refine gX10_63 E.1 h dX10_barred_27 ?_
      refine gX10_162 E.1 h dX10_barred_30 ?_
      refine lv_iload_n hx hb dX10_barred_33 rfl (lv_at hl 1 rfl) ?_
      have h8 := hw.1
      have hw := hw.2
      refine aC_39 E.1 h h8 dX10_barred_34 ?_
      exact x_iret E.1 h hw dX10_barred_35
    · have hw := hw.1 c6
      refine lv_iconst (v := (-1)) hx hb dX10_barred_16 (by decide) ?_
      exact x_iret E.1 h hw dX10_barred_17

abbrev rC_X10_state : Room := { frames := 7, cells := 0, slots := 0, locals := 158 }
def wpC_X10_state (σ : CS) (x1 : Int32) (x2 : Int32) (x3 : Int32) (Post : Int32 → CS → Prop) : Prop := wpC_X10_isPromise σ x1 (fun r1 σ2 => (r1 = 0 → Post ((-1)) σ2) ∧ (¬ r1 = 0 → wpC_X10_isDay σ2 x2 (fun r4 σ5 => (r4 = 0 → Post ((-1)) σ5) ∧ (¬ r4 = 0 → wpC_X10_isKnown σ5 x3 (fun r7 σ8 => (r7 = 0 → Post ((-1)) σ8) ∧ (¬ r7 = 0 → wpC_X4_hear σ8 x3 (fun σ10 => wpC_X4_stateOn σ10 x1 x2 (fun r11 σ12 => Post r11 σ12))))))))
set_option maxHeartbeats 1000000 in
set_option maxRecDepth 20000 in
theorem cC_X10_state {l : Launch} {D : va_G} {cy : Nat → ClassId} {ks : Nat × Nat × Option Nat} {q : Nat → Nat} {σ : CS} {sz : Nat} {x1 : Int32} {x2 : Int32} {x3 : Int32} {Post : Int32 → CS → Prop} (hw : wpC_X10_state σ x1 x2 x3 Post) : Met l yX10_state (Cond.code yX10_state cX10_state 4 (some .int) :: wsA) rC_X10_state (zPc D cy ks (CW q cy σ) sz [.ref (q 0), .int x1, .int x2, .int x3]) (va_Qi Post (xB D cy (CW q cy) (va_A (CW q cy σ) sz)) (va_A (CW q cy σ) sz)) 0 0 (va_A (CW q cy σ) sz) := by
  refine z_enter (own := RX10) (WW := CW q cy) (by decide) rfl (Nat.le_of_ble_eq_true rfl) ?_
  intro p e s m below meth c ls E h hl
  have hx := E.1.1
  have hb := E.1.2.1
  have hl : lv_has ls 4 [(0, .ref (q 0)), (1, .int x1), (2, .int x2), (3, .int x3)] := hl
  unfold wpC_X10_state at hw
  refine lv_aload_n hx hb dX10_state_0 rfl (lv_at hl 0 rfl) ?_
  refine lv_iload_n hx hb dX10_state_1 rfl (lv_at hl 1 rfl) ?_
  refine x_calli h (z_runV (WW := CW q cy) (rest := []) E h (cC_X10_isPromise hw) yyX10_isPromise lX10_123 0 rfl rfl ⟨Nat.le_of_ble_eq_true rfl, Nat.le_of_ble_eq_true rfl⟩ rfl rfl hl.1 rfl (Nat.le_of_ble_eq_true rfl) dX10_state_2 ⟨Nat.le_refl 0, Nat.le_refl 0⟩) (fun r1 σ2 H locs hw h => ?_)
  refine lv_if_eq (tgt := 23) hx hb dX10_state_5 (by decide) (fun c3 => ?_) (fun c3 => ?_)
  · have hw := hw.1 c3
    refine lv_iconst (v := (-1)) hx hb dX10_state_23 (by decide) ?_
    exact x_iret E.1 h hw dX10_state_24
  · have hw := hw.2 c3
    refine lv_iload_n hx hb dX10_state_8 rfl (lv_at hl 2 rfl) ?_
    refine x_calli h (z_runS (WW := CW q cy) (rest := []) E h (cC_X10_isDay hw) yyX10_isDay lX10_86 ⟨Nat.le_of_ble_eq_true rfl, Nat.le_of_ble_eq_true rfl⟩ rfl rfl hl.1 rfl (Nat.le_of_ble_eq_true rfl) dX10_state_9 ⟨Nat.le_refl 0, Nat.le_refl 0⟩) (fun r4 σ5 H locs hw h => ?_)
    refine lv_if_eq (tgt := 23) hx hb dX10_state_12 (by decide) (fun c6 => ?_) (fun c6 => ?_)
    · have hw := hw.1 c6
      refine lv_iconst (v := (-1)) hx hb dX10_state_23 (by decide) ?_
      exact x_iret E.1 h hw dX10_state_24
    · have hw := hw.2 c6
      refine lv_aload_n hx hb dX10_state_15 rfl (lv_at hl 0 rfl) ?_
      refine lv_iload_n hx hb dX10_state_16 rfl (lv_at hl 3 rfl) ?_
      refine x_calli h (z_runV (WW := CW q cy) (rest := []) E h (cC_X10_isKnown hw) yyX10_isKnown lX10_153 0 rfl rfl ⟨Nat.le_of_ble_eq_true rfl, Nat.le_of_ble_eq_true rfl⟩ rfl rfl hl.1 rfl (Nat.le_of_ble_eq_true rfl) dX10_state_17 ⟨Nat.le_refl 0, Nat.le_refl 0⟩) (fun r7 σ8 H locs hw h => ?_)
      refine lv_if_ne (tgt := 25) hx hb dX10_state_20 (by decide) (fun c9 => ?_) (fun c9 => ?_)
      · have hw := hw.2 c9
        refine lv_aload_n hx hb dX10_state_25 rfl (lv_at hl 0 rfl) ?_
        refine gX10_63 E.1 h dX10_state_26 ?_
        refine lv_iload_n hx hb dX10_state_29 rfl (lv_at hl 3 rfl) ?_
        refine x_callv h (z_runVN (WW := CW q cy) (rest := []) E h (cC_X4_hear hw) yyX4_hear lX10_156 30 rfl rfl ⟨Nat.le_of_ble_eq_true rfl, Nat.le_of_ble_eq_true rfl⟩ rfl rfl hl.1 rfl (Nat.le_of_ble_eq_true rfl) dX10_state_30 ⟨Nat.le_refl 0, Nat.le_refl 0⟩) (fun σ10 H locs hw h => ?_)
        refine lv_aload_n hx hb dX10_state_33 rfl (lv_at hl 0 rfl) ?_
        refine gX10_63 E.1 h dX10_state_34 ?_
        refine lv_iload_n hx hb dX10_state_37 rfl (lv_at hl 1 rfl) ?_
        refine lv_iload_n hx hb dX10_state_38 rfl (lv_at hl 2 rfl) ?_
        refine x_calli h (z_runVN (WW := CW q cy) (rest := []) E h (cC_X4_stateOn hw) yyX4_stateOn lX10_165 30 rfl rfl ⟨Nat.le_of_ble_eq_true rfl, Nat.le_of_ble_eq_true rfl⟩ rfl rfl hl.1 rfl (Nat.le_of_ble_eq_true rfl) dX10_state_39 ⟨Nat.le_refl 0, Nat.le_refl 0⟩) (fun r11 σ12 H locs hw h => ?_)
        exact x_iret E.1 h hw dX10_state_42
      · have hw := hw.1 c9
        refine lv_iconst (v := (-1)) hx hb dX10_state_23 (by decide) ?_
        exact x_iret E.1 h hw dX10_state_24

abbrev rC_X10_force : Room := { frames := 7, cells := 0, slots := 0, locals := 158 }
def wpC_X10_force (σ : CS) (x1 : Int32) (x2 : Int32) (x3 : Int32) (Post : Int32 → CS → Prop) : Prop := wpC_X10_isPromise σ x1 (fun r1 σ2 => (r1 = 0 → Post ((-3)) σ2) ∧ (¬ r1 = 0 → wpC_X10_isKnown σ2 x2 (fun r4 σ5 => (r4 = 0 → Post ((-3)) σ5) ∧ (¬ r4 = 0 → (x3 < 0 → Post ((-3)) σ5) ∧ (¬ x3 < 0 → (x3 ≤ 5 → wpC_X4_hear σ5 x2 (fun σ9 => (x3 = 5 → vp_in x1 10 ∧ Post (σ9.2.1 40 x1.toNatClampNeg) σ9) ∧ (¬ x3 = 5 → wpC_X4_wasInForce σ9 x1 (fun r11 σ12 => (r11 = 0 → Post ((-2)) σ12) ∧ (¬ r11 = 0 → (x3 = 0 → vp_in x1 10 ∧ Post (σ12.2.1 37 x1.toNatClampNeg) σ12) ∧ (x3 = 1 → vp_in x1 10 ∧ ((σ12.2.1 41 x1.toNatClampNeg) = 10000 → Post ((-1)) σ12) ∧ (¬ (σ12.2.1 41 x1.toNatClampNeg) = 10000 → vp_in x1 10 ∧ Post (σ12.2.1 41 x1.toNatClampNeg) σ12)) ∧ (x3 = 2 → vp_in x1 10 ∧ Post (σ12.2.1 42 x1.toNatClampNeg) σ12) ∧ (x3 = 3 → vp_in x1 10 ∧ Post (σ12.2.1 43 x1.toNatClampNeg) σ12) ∧ (¬ x3 = 0 ∧ ¬ x3 = 1 ∧ ¬ x3 = 2 ∧ ¬ x3 = 3 → vp_in x1 10 ∧ Post (σ12.2.1 44 x1.toNatClampNeg) σ12)))))) ∧ (¬ x3 ≤ 5 → Post ((-3)) σ5))))))
set_option maxHeartbeats 1000000 in
set_option maxRecDepth 20000 in
theorem cC_X10_force {l : Launch} {D : va_G} {cy : Nat → ClassId} {ks : Nat × Nat × Option Nat} {q : Nat → Nat} {σ : CS} {sz : Nat} {x1 : Int32} {x2 : Int32} {x3 : Int32} {Post : Int32 → CS → Prop} (hw : wpC_X10_force σ x1 x2 x3 Post) : Met l yX10_force (Cond.code yX10_force cX10_force 4 (some .int) :: wsA) rC_X10_force (zPc D cy ks (CW q cy σ) sz [.ref (q 0), .int x1, .int x2, .int x3]) (va_Qi Post (xB D cy (CW q cy) (va_A (CW q cy σ) sz)) (va_A (CW q cy σ) sz)) 0 0 (va_A (CW q cy σ) sz) := by
  refine z_enter (own := RX10) (WW := CW q cy) (by decide) rfl (Nat.le_of_ble_eq_true rfl) ?_
  intro p e s m below meth c ls E h hl
  have hx := E.1.1
  have hb := E.1.2.1
  have hl : lv_has ls 4 [(0, .ref (q 0)), (1, .int x1), (2, .int x2), (3, .int x3)] := hl
  unfold wpC_X10_force at hw
  refine lv_aload_n hx hb dX10_force_0 rfl (lv_at hl 0 rfl) ?_
  refine lv_iload_n hx hb dX10_force_1 rfl (lv_at hl 1 rfl) ?_
  refine x_calli h (z_runV (WW := CW q cy) (rest := []) E h (cC_X10_isPromise hw) yyX10_isPromise lX10_123 0 rfl rfl ⟨Nat.le_of_ble_eq_true rfl, Nat.le_of_ble_eq_true rfl⟩ rfl rfl hl.1 rfl (Nat.le_of_ble_eq_true rfl) dX10_force_2 ⟨Nat.le_refl 0, Nat.le_refl 0⟩) (fun r1 σ2 H locs hw h => ?_)
  refine lv_if_eq (tgt := 25) hx hb dX10_force_5 (by decide) (fun c3 => ?_) (fun c3 => ?_)
  · have hw := hw.1 c3
    refine lv_bipush (v := (-3)) hx hb dX10_force_25 (by decide) ?_
    exact x_iret E.1 h hw dX10_force_27
  · have hw := hw.2 c3
    refine lv_aload_n hx hb dX10_force_8 rfl (lv_at hl 0 rfl) ?_
    refine lv_iload_n hx hb dX10_force_9 rfl (lv_at hl 2 rfl) ?_
    refine x_calli h (z_runV (WW := CW q cy) (rest := []) E h (cC_X10_isKnown hw) yyX10_isKnown lX10_153 0 rfl rfl ⟨Nat.le_of_ble_eq_true rfl, Nat.le_of_ble_eq_true rfl⟩ rfl rfl hl.1 rfl (Nat.le_of_ble_eq_true rfl) dX10_force_10 ⟨Nat.le_refl 0, Nat.le_refl 0⟩) (fun r4 σ5 H locs hw h => ?_)
    refine lv_if_eq (tgt := 25) hx hb dX10_force_13 (by decide) (fun c6 => ?_) (fun c6 => ?_)
    · have hw := hw.1 c6
      refine lv_bipush (v := (-3)) hx hb dX10_force_25 (by decide) ?_
      exact x_iret E.1 h hw dX10_force_27
    · have hw := hw.2 c6
      refine lv_iload_n hx hb dX10_force_16 rfl (lv_at hl 3 rfl) ?_
      refine lv_if_lt (tgt := 25) hx hb dX10_force_17 (by decide) (fun c7 => ?_) (fun c7 => ?_)
      · have hw := hw.1 c7
        refine lv_bipush (v := (-3)) hx hb dX10_force_25 (by decide) ?_
        exact x_iret E.1 h hw dX10_force_27
      · have hw := hw.2 c7
        refine lv_iload_n hx hb dX10_force_20 rfl (lv_at hl 3 rfl) ?_
        refine lv_iconst (v := 5) hx hb dX10_force_21 (by decide) ?_
        refine lv_icmp_le (tgt := 28) hx hb dX10_force_22 (by decide) (fun c8 => ?_) (fun c8 => ?_)
        · have hw := hw.1 c8
          refine lv_aload_n hx hb dX10_force_28 rfl (lv_at hl 0 rfl) ?_
          refine gX10_63 E.1 h dX10_force_29 ?_
          refine lv_iload_n hx hb dX10_force_32 rfl (lv_at hl 2 rfl) ?_
          refine x_callv h (z_runVN (WW := CW q cy) (rest := []) E h (cC_X4_hear hw) yyX4_hear lX10_156 30 rfl rfl ⟨Nat.le_of_ble_eq_true rfl, Nat.le_of_ble_eq_true rfl⟩ rfl rfl hl.1 rfl (Nat.le_of_ble_eq_true rfl) dX10_force_33 ⟨Nat.le_refl 0, Nat.le_refl 0⟩) (fun σ9 H locs hw h => ?_)
          refine lv_iload_n hx hb dX10_force_36 rfl (lv_at hl 3 rfl) ?_
          refine lv_iconst (v := 5) hx hb dX10_force_37 (by decide) ?_
          refine lv_icmp_ne (tgt := 51) hx hb dX10_force_38 (by decide) (fun c10 => ?_) (fun c10 => ?_)
          · have hw := hw.2 c10
            refine lv_aload_n hx hb dX10_force_51 rfl (lv_at hl 0 rfl) ?_
            refine gX10_63 E.1 h dX10_force_52 ?_
            refine lv_iload_n hx hb dX10_force_55 rfl (lv_at hl 1 rfl) ?_
            refine x_calli h (z_runVN (WW := CW q cy) (rest := []) E h (cC_X4_wasInForce hw) yyX4_wasInForce lX10_171 30 rfl rfl ⟨Nat.le_of_ble_eq_true rfl, Nat.le_of_ble_eq_true rfl⟩ rfl rfl hl.1 rfl (Nat.le_of_ble_eq_true rfl) dX10_force_56 ⟨Nat.le_refl 0, Nat.le_refl 0⟩) (fun r11 σ12 H locs hw h => ?_)
            refine lv_if_ne (tgt := 65) hx hb dX10_force_59 (by decide) (fun c13 => ?_) (fun c13 => ?_)
            · have hw := hw.2 c13
              refine lv_iload_n hx hb dX10_force_65 rfl (lv_at hl 3 rfl) ?_
              by_cases c15 : x3 = 0
              · have hw := hw.1 c15
                refine lv_tableIn (off := 30) (tgt := 96) hx hb dX10_force_66 (by rw [c15]; decide) (by rw [c15]; decide) (by rw [c15]; rfl) (by decide) ?_
                refine lv_aload_n hx hb dX10_force_96 rfl (lv_at hl 0 rfl) ?_
                refine gX10_63 E.1 h dX10_force_97 ?_
                refine gX10_174 E.1 h dX10_force_100 ?_
                refine lv_iload_n hx hb dX10_force_103 rfl (lv_at hl 1 rfl) ?_
                have h14 := hw.1
                have hw := hw.2
                refine aC_37 E.1 h h14 dX10_force_104 ?_
                exact x_iret E.1 h hw dX10_force_105
              have hw := hw.2
              by_cases c19 : x3 = 1
              · have hw := hw.1 c19
                refine lv_tableIn (off := 40) (tgt := 106) hx hb dX10_force_66 (by rw [c19]; decide) (by rw [c19]; decide) (by rw [c19]; rfl) (by decide) ?_
                refine lv_aload_n hx hb dX10_force_106 rfl (lv_at hl 0 rfl) ?_
                refine gX10_63 E.1 h dX10_force_107 ?_
                refine gX10_177 E.1 h dX10_force_110 ?_
                refine lv_iload_n hx hb dX10_force_113 rfl (lv_at hl 1 rfl) ?_
                have h16 := hw.1
                have hw := hw.2
                refine aC_41 E.1 h h16 dX10_force_114 ?_
                refine lv_sipush (v := 10000) hx hb dX10_force_115 (by decide) ?_
                refine lv_icmp_ne (tgt := 125) hx hb dX10_force_118 (by decide) (fun c17 => ?_) (fun c17 => ?_)
                · have hw := hw.2 c17
                  refine lv_aload_n hx hb dX10_force_125 rfl (lv_at hl 0 rfl) ?_
                  refine gX10_63 E.1 h dX10_force_126 ?_
                  refine gX10_177 E.1 h dX10_force_129 ?_
                  refine lv_iload_n hx hb dX10_force_132 rfl (lv_at hl 1 rfl) ?_
                  have h18 := hw.1
                  have hw := hw.2
                  refine aC_41 E.1 h h18 dX10_force_133 ?_
                  exact x_iret E.1 h hw dX10_force_134
                · have hw := hw.1 c17
                  refine lv_iconst (v := (-1)) hx hb dX10_force_121 (by decide) ?_
                  refine lv_goto (tgt := 134) hx hb dX10_force_122 (by decide) ?_
                  exact x_iret E.1 h hw dX10_force_134
              have hw := hw.2
              by_cases c21 : x3 = 2
              · have hw := hw.1 c21
                refine lv_tableIn (off := 69) (tgt := 135) hx hb dX10_force_66 (by rw [c21]; decide) (by rw [c21]; decide) (by rw [c21]; rfl) (by decide) ?_
                refine lv_aload_n hx hb dX10_force_135 rfl (lv_at hl 0 rfl) ?_
                refine gX10_63 E.1 h dX10_force_136 ?_
                refine gX10_180 E.1 h dX10_force_139 ?_
                refine lv_iload_n hx hb dX10_force_142 rfl (lv_at hl 1 rfl) ?_
                have h20 := hw.1
                have hw := hw.2
                refine aC_42 E.1 h h20 dX10_force_143 ?_
                exact x_iret E.1 h hw dX10_force_144
              have hw := hw.2
              by_cases c23 : x3 = 3
              · have hw := hw.1 c23
                refine lv_tableIn (off := 79) (tgt := 145) hx hb dX10_force_66 (by rw [c23]; decide) (by rw [c23]; decide) (by rw [c23]; rfl) (by decide) ?_
                refine lv_aload_n hx hb dX10_force_145 rfl (lv_at hl 0 rfl) ?_
                refine gX10_63 E.1 h dX10_force_146 ?_
                refine gX10_183 E.1 h dX10_force_149 ?_
                refine lv_iload_n hx hb dX10_force_152 rfl (lv_at hl 1 rfl) ?_
                have h22 := hw.1
                have hw := hw.2
                refine aC_43 E.1 h h22 dX10_force_153 ?_
                exact x_iret E.1 h hw dX10_force_154
              have hw := hw.2
              have hw := hw ⟨c15, c19, c21, c23⟩
              refine lv_tableOut (tgt := 155) hx hb dX10_force_66 (x_out 0 3 (fun k h1 h2 hk => by rcases (show k = 0 ∨ k = 1 ∨ k = 2 ∨ k = 3 by omega) with rfl | rfl | rfl | rfl <;> first | exact c15 (x_ofI hk rfl) | exact c19 (x_ofI hk rfl) | exact c21 (x_ofI hk rfl) | exact c23 (x_ofI hk rfl))) (by decide) ?_
              refine lv_aload_n hx hb dX10_force_155 rfl (lv_at hl 0 rfl) ?_
              refine gX10_63 E.1 h dX10_force_156 ?_
              refine gX10_186 E.1 h dX10_force_159 ?_
              refine lv_iload_n hx hb dX10_force_162 rfl (lv_at hl 1 rfl) ?_
              have h24 := hw.1
              have hw := hw.2
              refine aC_44 E.1 h h24 dX10_force_163 ?_
              exact x_iret E.1 h hw dX10_force_164
            · have hw := hw.1 c13
              refine lv_bipush (v := (-2)) hx hb dX10_force_62 (by decide) ?_
              exact x_iret E.1 h hw dX10_force_64
          · have hw := hw.1 c10
            refine lv_aload_n hx hb dX10_force_41 rfl (lv_at hl 0 rfl) ?_
            refine gX10_63 E.1 h dX10_force_42 ?_
            refine gX10_168 E.1 h dX10_force_45 ?_
            refine lv_iload_n hx hb dX10_force_48 rfl (lv_at hl 1 rfl) ?_
            have h25 := hw.1
            have hw := hw.2
            refine aC_40 E.1 h h25 dX10_force_49 ?_
            exact x_iret E.1 h hw dX10_force_50
        · have hw := hw.2 c8
          refine lv_bipush (v := (-3)) hx hb dX10_force_25 (by decide) ?_
          exact x_iret E.1 h hw dX10_force_27

abbrev rC_X10_bound : Room := { frames := 7, cells := 0, slots := 0, locals := 158 }
def wpC_X10_bound_39 (Post : Int32 → CS → Prop) : Nat → CS → Int32 → Int32 → Int32 → Prop
  | 0, _, _, _, _ => False
  | n + 1, σ, x1, x2, x4 => ((σ.1 286) ≤ x4 → Post ((-1)) σ) ∧ (¬ (σ.1 286) ≤ x4 → wpC_X7_binds σ x4 x1 (fun r2 σ3 => (r2 = 0 → ∀ y5 : Int32, y5 = x4 + 1 → wpC_X10_bound_39 Post n σ3 x1 x2 y5) ∧ (¬ r2 = 0 → wpC_X4_stateOn σ3 x4 x2 (fun r6 σ7 => (r6 = 6 → wpC_X7_otherOf σ7 x4 x1 (fun r10 σ11 => Post r10 σ11)) ∧ (¬ r6 = 6 → ∀ y9 : Int32, y9 = x4 + 1 → wpC_X10_bound_39 Post n σ7 x1 x2 y9)))))
set_option maxHeartbeats 1000000 in
set_option maxRecDepth 20000 in
theorem wkC_X10_bound_39 {Post : Int32 → CS → Prop} (E : zE cX10_bound RX10 5 (some .int) D cy ks A p s m args meth c) : ∀ n : Nat, ∀ (σ : CS) (x1 : Int32) (x2 : Int32) (x4 : Int32) (H : Heap) (locs : List Loc) (ls : Array Slot), xH D A s (CW q cy σ) H locs → wpC_X10_bound_39 Post n σ x1 x2 x4 → lv_has ls 5 [(0, .ref (q 0)), (1, .int x1), (2, .int x2), (4, .int x4)] → W p l e rC_X10_bound s m args below meth c H locs 0 0 (MQ below (va_Qi Post (xB D cy (CW q cy) A) A) args s 0 0 A) (F0 m 39 ls []) := by
  have hx := E.1.1
  have hb := E.1.2.1
  intro n
  induction n with
  | zero => intro σ x1 x2 x4 H locs ls h hw hl; exact False.elim hw
  | succ n ih =>
    intro σ x1 x2 x4 H locs ls h hw hl
    refine lv_iload hx hb dX10_bound_39 (lv_at hl 3 rfl) ?_
    refine lv_aload_n hx hb dX10_bound_41 rfl (lv_at hl 0 rfl) ?_
    refine gX10_40 E.1 h dX10_bound_42 ?_
    refine gX10_189 E.1 h dX10_bound_45 ?_
    refine lv_icmp_ge (tgt := 96) hx hb dX10_bound_48 (by decide) (fun c1 => ?_) (fun c1 => ?_)
    · have hw := hw.1 c1
      refine lv_iconst (v := (-1)) hx hb dX10_bound_96 (by decide) ?_
      exact x_iret E.1 h hw dX10_bound_97
    · have hw := hw.2 c1
      refine lv_aload_n hx hb dX10_bound_51 rfl (lv_at hl 0 rfl) ?_
      refine gX10_40 E.1 h dX10_bound_52 ?_
      refine lv_iload hx hb dX10_bound_55 (lv_at hl 3 rfl) ?_
      refine lv_iload_n hx hb dX10_bound_57 rfl (lv_at hl 1 rfl) ?_
      refine x_calli h (z_runVN (WW := CW q cy) (rest := []) E h (cC_X7_binds hw) yyX7_binds lX10_130 14 rfl rfl ⟨Nat.le_of_ble_eq_true rfl, Nat.le_of_ble_eq_true rfl⟩ rfl rfl hl.1 rfl (Nat.le_of_ble_eq_true rfl) dX10_bound_58 ⟨Nat.le_refl 0, Nat.le_refl 0⟩) (fun r2 σ3 H locs hw h => ?_)
      refine lv_if_eq (tgt := 90) hx hb dX10_bound_61 (by decide) (fun c4 => ?_) (fun c4 => ?_)
      · have hw := hw.1 c4
        obtain ⟨y5, ey5⟩ : ∃ z : Int32, z = x4 + 1 := ⟨_, rfl⟩
        have hw := hw y5 ey5
        refine lv_iinc (v := y5) (lv' := [(4, .int y5), (0, .ref (q 0)), (1, .int x1), (2, .int x2)]) hx hb dX10_bound_90 hl (k := 3) rfl (by rw [ey5]; rfl) (by decide) rfl (fun ls hl => ?_)
        refine lv_goto (tgt := 39) hx hb dX10_bound_93 (by decide) ?_
        exact ih _ _ _ _ _ _ _ h hw (lv_sub hl [1, 2, 3, 0] rfl)
      · have hw := hw.2 c4
        refine lv_aload_n hx hb dX10_bound_64 rfl (lv_at hl 0 rfl) ?_
        refine gX10_63 E.1 h dX10_bound_65 ?_
        refine lv_iload hx hb dX10_bound_68 (lv_at hl 3 rfl) ?_
        refine lv_iload_n hx hb dX10_bound_70 rfl (lv_at hl 2 rfl) ?_
        refine x_calli h (z_runVN (WW := CW q cy) (rest := []) E h (cC_X4_stateOn hw) yyX4_stateOn lX10_165 30 rfl rfl ⟨Nat.le_of_ble_eq_true rfl, Nat.le_of_ble_eq_true rfl⟩ rfl rfl hl.1 rfl (Nat.le_of_ble_eq_true rfl) dX10_bound_71 ⟨Nat.le_refl 0, Nat.le_refl 0⟩) (fun r6 σ7 H locs hw h => ?_)
        refine lv_bipush (v := 6) hx hb dX10_bound_74 (by decide) ?_
        refine lv_icmp_ne (tgt := 90) hx hb dX10_bound_76 (by decide) (fun c8 => ?_) (fun c8 => ?_)
        · have hw := hw.2 c8
          obtain ⟨y9, ey9⟩ : ∃ z : Int32, z = x4 + 1 := ⟨_, rfl⟩
          have hw := hw y9 ey9
          refine lv_iinc (v := y9) (lv' := [(4, .int y9), (0, .ref (q 0)), (1, .int x1), (2, .int x2)]) hx hb dX10_bound_90 hl (k := 3) rfl (by rw [ey9]; rfl) (by decide) rfl (fun ls hl => ?_)
          refine lv_goto (tgt := 39) hx hb dX10_bound_93 (by decide) ?_
          exact ih _ _ _ _ _ _ _ h hw (lv_sub hl [1, 2, 3, 0] rfl)
        · have hw := hw.1 c8
          refine lv_aload_n hx hb dX10_bound_79 rfl (lv_at hl 0 rfl) ?_
          refine gX10_40 E.1 h dX10_bound_80 ?_
          refine lv_iload hx hb dX10_bound_83 (lv_at hl 3 rfl) ?_
          refine lv_iload_n hx hb dX10_bound_85 rfl (lv_at hl 1 rfl) ?_
          refine x_calli h (z_runVN (WW := CW q cy) (rest := []) E h (cC_X7_otherOf hw) yyX7_otherOf lX10_190 14 rfl rfl ⟨Nat.le_of_ble_eq_true rfl, Nat.le_of_ble_eq_true rfl⟩ rfl rfl hl.1 rfl (Nat.le_of_ble_eq_true rfl) dX10_bound_86 ⟨Nat.le_refl 0, Nat.le_refl 0⟩) (fun r10 σ11 H locs hw h => ?_)
          exact x_iret E.1 h hw dX10_bound_89

def wpC_X10_bound (σ : CS) (x1 : Int32) (x2 : Int32) (x3 : Int32) (Post : Int32 → CS → Prop) : Prop := wpC_X1_has σ x1 (fun r1 σ2 => (r1 = 0 → Post ((-1)) σ2) ∧ (¬ r1 = 0 → wpC_X10_isDay σ2 x2 (fun r4 σ5 => (r4 = 0 → Post ((-1)) σ5) ∧ (¬ r4 = 0 → wpC_X10_isKnown σ5 x3 (fun r7 σ8 => (r7 = 0 → Post ((-1)) σ8) ∧ (¬ r7 = 0 → wpC_X4_hear σ8 x3 (fun σ10 => ∃ g, wpC_X10_bound_39 Post g σ10 x1 x2 0)))))))
set_option maxHeartbeats 1000000 in
set_option maxRecDepth 20000 in
theorem cC_X10_bound {l : Launch} {D : va_G} {cy : Nat → ClassId} {ks : Nat × Nat × Option Nat} {q : Nat → Nat} {σ : CS} {sz : Nat} {x1 : Int32} {x2 : Int32} {x3 : Int32} {Post : Int32 → CS → Prop} (hw : wpC_X10_bound σ x1 x2 x3 Post) : Met l yX10_bound (Cond.code yX10_bound cX10_bound 5 (some .int) :: wsA) rC_X10_bound (zPc D cy ks (CW q cy σ) sz [.ref (q 0), .int x1, .int x2, .int x3]) (va_Qi Post (xB D cy (CW q cy) (va_A (CW q cy σ) sz)) (va_A (CW q cy σ) sz)) 0 0 (va_A (CW q cy σ) sz) := by
  refine z_enter (own := RX10) (WW := CW q cy) (by decide) rfl (Nat.le_of_ble_eq_true rfl) ?_
  intro p e s m below meth c ls E h hl
  have hx := E.1.1
  have hb := E.1.2.1
  have hl : lv_has ls 5 [(0, .ref (q 0)), (1, .int x1), (2, .int x2), (3, .int x3)] := hl
  unfold wpC_X10_bound at hw
  refine lv_aload_n hx hb dX10_bound_0 rfl (lv_at hl 0 rfl) ?_
  refine gX10_33 E.1 h dX10_bound_1 ?_
  refine lv_iload_n hx hb dX10_bound_4 rfl (lv_at hl 1 rfl) ?_
  refine x_calli h (z_runVN (WW := CW q cy) (rest := []) E h (cC_X1_has hw) yyX1_has lX10_127 8 rfl rfl ⟨Nat.le_of_ble_eq_true rfl, Nat.le_of_ble_eq_true rfl⟩ rfl rfl hl.1 rfl (Nat.le_of_ble_eq_true rfl) dX10_bound_5 ⟨Nat.le_refl 0, Nat.le_refl 0⟩) (fun r1 σ2 H locs hw h => ?_)
  refine lv_if_eq (tgt := 26) hx hb dX10_bound_8 (by decide) (fun c3 => ?_) (fun c3 => ?_)
  · have hw := hw.1 c3
    refine lv_iconst (v := (-1)) hx hb dX10_bound_26 (by decide) ?_
    exact x_iret E.1 h hw dX10_bound_27
  · have hw := hw.2 c3
    refine lv_iload_n hx hb dX10_bound_11 rfl (lv_at hl 2 rfl) ?_
    refine x_calli h (z_runS (WW := CW q cy) (rest := []) E h (cC_X10_isDay hw) yyX10_isDay lX10_86 ⟨Nat.le_of_ble_eq_true rfl, Nat.le_of_ble_eq_true rfl⟩ rfl rfl hl.1 rfl (Nat.le_of_ble_eq_true rfl) dX10_bound_12 ⟨Nat.le_refl 0, Nat.le_refl 0⟩) (fun r4 σ5 H locs hw h => ?_)
    refine lv_if_eq (tgt := 26) hx hb dX10_bound_15 (by decide) (fun c6 => ?_) (fun c6 => ?_)
    · have hw := hw.1 c6
      refine lv_iconst (v := (-1)) hx hb dX10_bound_26 (by decide) ?_
      exact x_iret E.1 h hw dX10_bound_27
    · have hw := hw.2 c6
      refine lv_aload_n hx hb dX10_bound_18 rfl (lv_at hl 0 rfl) ?_
      refine lv_iload_n hx hb dX10_bound_19 rfl (lv_at hl 3 rfl) ?_
      refine x_calli h (z_runV (WW := CW q cy) (rest := []) E h (cC_X10_isKnown hw) yyX10_isKnown lX10_153 0 rfl rfl ⟨Nat.le_of_ble_eq_true rfl, Nat.le_of_ble_eq_true rfl⟩ rfl rfl hl.1 rfl (Nat.le_of_ble_eq_true rfl) dX10_bound_20 ⟨Nat.le_refl 0, Nat.le_refl 0⟩) (fun r7 σ8 H locs hw h => ?_)
      refine lv_if_ne (tgt := 28) hx hb dX10_bound_23 (by decide) (fun c9 => ?_) (fun c9 => ?_)
      · have hw := hw.2 c9
        refine lv_aload_n hx hb dX10_bound_28 rfl (lv_at hl 0 rfl) ?_
        refine gX10_63 E.1 h dX10_bound_29 ?_
        refine lv_iload_n hx hb dX10_bound_32 rfl (lv_at hl 3 rfl) ?_
        refine x_callv h (z_runVN (WW := CW q cy) (rest := []) E h (cC_X4_hear hw) yyX4_hear lX10_156 30 rfl rfl ⟨Nat.le_of_ble_eq_true rfl, Nat.le_of_ble_eq_true rfl⟩ rfl rfl hl.1 rfl (Nat.le_of_ble_eq_true rfl) dX10_bound_33 ⟨Nat.le_refl 0, Nat.le_refl 0⟩) (fun σ10 H locs hw h => ?_)
        refine lv_iconst (v := 0) hx hb dX10_bound_36 (by decide) ?_
        refine lv_istore (lv' := [(4, .int 0), (0, .ref (q 0)), (1, .int x1), (2, .int x2), (3, .int x3)]) hx hb dX10_bound_37 hl (by decide) rfl (fun ls hl => ?_)
        obtain ⟨g, hw⟩ := hw
        exact wkC_X10_bound_39 E g _ _ _ _ _ _ _ h hw (lv_sub hl [1, 2, 3, 0] rfl)
      · have hw := hw.1 c9
        refine lv_iconst (v := (-1)) hx hb dX10_bound_26 (by decide) ?_
        exact x_iret E.1 h hw dX10_bound_27

abbrev rC_X10_goingBack : Room := { frames := 5, cells := 0, slots := 0, locals := 114 }
def wpC_X10_goingBack (σ : CS) (x1 : Int32) (x2 : Int32) (Post : Int32 → CS → Prop) : Prop := vp_in x1 20 ∧ vp_in x1 20 ∧ wpC_X4_shareBack σ (σ.2.1 22 x1.toNatClampNeg) (σ.2.1 23 x1.toNatClampNeg) x2 (fun r3 σ4 => vp_in x1 20 ∧ Post (((σ4.2.1 24 x1.toNatClampNeg) * r3) / 100) σ4)
set_option maxHeartbeats 1000000 in
set_option maxRecDepth 20000 in
theorem cC_X10_goingBack {l : Launch} {D : va_G} {cy : Nat → ClassId} {ks : Nat × Nat × Option Nat} {q : Nat → Nat} {σ : CS} {sz : Nat} {x1 : Int32} {x2 : Int32} {Post : Int32 → CS → Prop} (hw : wpC_X10_goingBack σ x1 x2 Post) : Met l yX10_goingBack (Cond.code yX10_goingBack cX10_goingBack 4 (some .int) :: wsA) rC_X10_goingBack (zPc D cy ks (CW q cy σ) sz [.ref (q 0), .int x1, .int x2]) (va_Qi Post (xB D cy (CW q cy) (va_A (CW q cy σ) sz)) (va_A (CW q cy σ) sz)) 0 0 (va_A (CW q cy σ) sz) := by
  refine z_enter (own := RX10) (WW := CW q cy) (by decide) rfl (Nat.le_of_ble_eq_true rfl) ?_
  intro p e s m below meth c ls E h hl
  have hx := E.1.1
  have hb := E.1.2.1
  have hl : lv_has ls 4 [(0, .ref (q 0)), (1, .int x1), (2, .int x2)] := hl
  unfold wpC_X10_goingBack at hw
  refine lv_aload_n hx hb dX10_goingBack_0 rfl (lv_at hl 0 rfl) ?_
  refine gX10_63 E.1 h dX10_goingBack_1 ?_
  refine lv_aload_n hx hb dX10_goingBack_4 rfl (lv_at hl 0 rfl) ?_
  refine gX10_47 E.1 h dX10_goingBack_5 ?_
  refine gX10_197 E.1 h dX10_goingBack_8 ?_
  refine lv_iload_n hx hb dX10_goingBack_11 rfl (lv_at hl 1 rfl) ?_
  have h1 := hw.1
  have hw := hw.2
  refine aC_22 E.1 h h1 dX10_goingBack_12 ?_
  refine lv_aload_n hx hb dX10_goingBack_13 rfl (lv_at hl 0 rfl) ?_
  refine gX10_47 E.1 h dX10_goingBack_14 ?_
  refine gX10_203 E.1 h dX10_goingBack_17 ?_
  refine lv_iload_n hx hb dX10_goingBack_20 rfl (lv_at hl 1 rfl) ?_
  have h2 := hw.1
  have hw := hw.2
  refine aC_23 E.1 h h2 dX10_goingBack_21 ?_
  refine lv_iload_n hx hb dX10_goingBack_22 rfl (lv_at hl 2 rfl) ?_
  refine x_calli h (z_runVN (WW := CW q cy) (rest := []) E h (cC_X4_shareBack hw) yyX4_shareBack lX10_208 30 rfl rfl ⟨Nat.le_of_ble_eq_true rfl, Nat.le_of_ble_eq_true rfl⟩ rfl rfl hl.1 rfl (Nat.le_of_ble_eq_true rfl) dX10_goingBack_23 ⟨Nat.le_refl 0, Nat.le_refl 0⟩) (fun r3 σ4 H locs hw h => ?_)
  refine lv_istore_n (lv' := [(3, .int r3), (0, .ref (q 0)), (1, .int x1), (2, .int x2)]) hx hb dX10_goingBack_26 rfl hl (by decide) rfl (fun ls hl => ?_)
  refine lv_aload_n hx hb dX10_goingBack_27 rfl (lv_at hl 1 rfl) ?_
  refine gX10_47 E.1 h dX10_goingBack_28 ?_
  refine gX10_211 E.1 h dX10_goingBack_31 ?_
  refine lv_iload_n hx hb dX10_goingBack_34 rfl (lv_at hl 2 rfl) ?_
  have h5 := hw.1
  have hw := hw.2
  refine aC_24 E.1 h h5 dX10_goingBack_35 ?_
  refine lv_iload_n hx hb dX10_goingBack_36 rfl (lv_at hl 0 rfl) ?_
  refine lv_imul hx hb dX10_goingBack_37 ?_
  refine lv_bipush (v := 100) hx hb dX10_goingBack_38 (by decide) ?_
  refine lv_idiv hx hb dX10_goingBack_40 (by decide) ?_
  exact x_iret E.1 h hw dX10_goingBack_41

abbrev rC_X10_goes : Room := { frames := 7, cells := 0, slots := 0, locals := 158 }
def wpC_X10_goes (σ : CS) (x1 : Int32) (x2 : Int32) (x3 : Int32) (Post : Int32 → CS → Prop) : Prop := (x1 < 0 → Post ((-1)) σ) ∧ (¬ x1 < 0 → ((σ.1 423) ≤ x1 → Post ((-1)) σ) ∧ (¬ (σ.1 423) ≤ x1 → wpC_X10_isDay σ x2 (fun r3 σ4 => (r3 = 0 → Post ((-1)) σ4) ∧ (¬ r3 = 0 → wpC_X10_isKnown σ4 x3 (fun r6 σ7 => (r6 = 0 → Post ((-1)) σ7) ∧ (¬ r6 = 0 → wpC_X4_hear σ7 x3 (fun σ9 => wpC_X10_goingBack σ9 x1 x2 (fun r10 σ11 => Post r10 σ11))))))))
set_option maxHeartbeats 1000000 in
set_option maxRecDepth 20000 in
theorem cC_X10_goes {l : Launch} {D : va_G} {cy : Nat → ClassId} {ks : Nat × Nat × Option Nat} {q : Nat → Nat} {σ : CS} {sz : Nat} {x1 : Int32} {x2 : Int32} {x3 : Int32} {Post : Int32 → CS → Prop} (hw : wpC_X10_goes σ x1 x2 x3 Post) : Met l yX10_goes (Cond.code yX10_goes cX10_goes 4 (some .int) :: wsA) rC_X10_goes (zPc D cy ks (CW q cy σ) sz [.ref (q 0), .int x1, .int x2, .int x3]) (va_Qi Post (xB D cy (CW q cy) (va_A (CW q cy σ) sz)) (va_A (CW q cy σ) sz)) 0 0 (va_A (CW q cy σ) sz) := by
  refine z_enter (own := RX10) (WW := CW q cy) (by decide) rfl (Nat.le_of_ble_eq_true rfl) ?_
  intro p e s m below meth c ls E h hl
  have hx := E.1.1
  have hb := E.1.2.1
  have hl : lv_has ls 4 [(0, .ref (q 0)), (1, .int x1), (2, .int x2), (3, .int x3)] := hl
  unfold wpC_X10_goes at hw
  refine lv_iload_n hx hb dX10_goes_0 rfl (lv_at hl 1 rfl) ?_
  refine lv_if_lt (tgt := 30) hx hb dX10_goes_1 (by decide) (fun c1 => ?_) (fun c1 => ?_)
  · have hw := hw.1 c1
    refine lv_iconst (v := (-1)) hx hb dX10_goes_30 (by decide) ?_
    exact x_iret E.1 h hw dX10_goes_31
  · have hw := hw.2 c1
    refine lv_iload_n hx hb dX10_goes_4 rfl (lv_at hl 1 rfl) ?_
    refine lv_aload_n hx hb dX10_goes_5 rfl (lv_at hl 0 rfl) ?_
    refine gX10_47 E.1 h dX10_goes_6 ?_
    refine gX10_193 E.1 h dX10_goes_9 ?_
    refine lv_icmp_ge (tgt := 30) hx hb dX10_goes_12 (by decide) (fun c2 => ?_) (fun c2 => ?_)
    · have hw := hw.1 c2
      refine lv_iconst (v := (-1)) hx hb dX10_goes_30 (by decide) ?_
      exact x_iret E.1 h hw dX10_goes_31
    · have hw := hw.2 c2
      refine lv_iload_n hx hb dX10_goes_15 rfl (lv_at hl 2 rfl) ?_
      refine x_calli h (z_runS (WW := CW q cy) (rest := []) E h (cC_X10_isDay hw) yyX10_isDay lX10_86 ⟨Nat.le_of_ble_eq_true rfl, Nat.le_of_ble_eq_true rfl⟩ rfl rfl hl.1 rfl (Nat.le_of_ble_eq_true rfl) dX10_goes_16 ⟨Nat.le_refl 0, Nat.le_refl 0⟩) (fun r3 σ4 H locs hw h => ?_)
      refine lv_if_eq (tgt := 30) hx hb dX10_goes_19 (by decide) (fun c5 => ?_) (fun c5 => ?_)
      · have hw := hw.1 c5
        refine lv_iconst (v := (-1)) hx hb dX10_goes_30 (by decide) ?_
        exact x_iret E.1 h hw dX10_goes_31
      · have hw := hw.2 c5
        refine lv_aload_n hx hb dX10_goes_22 rfl (lv_at hl 0 rfl) ?_
        refine lv_iload_n hx hb dX10_goes_23 rfl (lv_at hl 3 rfl) ?_
        refine x_calli h (z_runV (WW := CW q cy) (rest := []) E h (cC_X10_isKnown hw) yyX10_isKnown lX10_153 0 rfl rfl ⟨Nat.le_of_ble_eq_true rfl, Nat.le_of_ble_eq_true rfl⟩ rfl rfl hl.1 rfl (Nat.le_of_ble_eq_true rfl) dX10_goes_24 ⟨Nat.le_refl 0, Nat.le_refl 0⟩) (fun r6 σ7 H locs hw h => ?_)
        refine lv_if_ne (tgt := 32) hx hb dX10_goes_27 (by decide) (fun c8 => ?_) (fun c8 => ?_)
        · have hw := hw.2 c8
          refine lv_aload_n hx hb dX10_goes_32 rfl (lv_at hl 0 rfl) ?_
          refine gX10_63 E.1 h dX10_goes_33 ?_
          refine lv_iload_n hx hb dX10_goes_36 rfl (lv_at hl 3 rfl) ?_
          refine x_callv h (z_runVN (WW := CW q cy) (rest := []) E h (cC_X4_hear hw) yyX4_hear lX10_156 30 rfl rfl ⟨Nat.le_of_ble_eq_true rfl, Nat.le_of_ble_eq_true rfl⟩ rfl rfl hl.1 rfl (Nat.le_of_ble_eq_true rfl) dX10_goes_37 ⟨Nat.le_refl 0, Nat.le_refl 0⟩) (fun σ9 H locs hw h => ?_)
          refine lv_aload_n hx hb dX10_goes_40 rfl (lv_at hl 0 rfl) ?_
          refine lv_iload_n hx hb dX10_goes_41 rfl (lv_at hl 1 rfl) ?_
          refine lv_iload_n hx hb dX10_goes_42 rfl (lv_at hl 2 rfl) ?_
          refine x_calli h (z_runV (WW := CW q cy) (rest := []) E h (cC_X10_goingBack hw) yyX10_goingBack lX10_194 0 rfl rfl ⟨Nat.le_of_ble_eq_true rfl, Nat.le_of_ble_eq_true rfl⟩ rfl rfl hl.1 rfl (Nat.le_of_ble_eq_true rfl) dX10_goes_43 ⟨Nat.le_refl 0, Nat.le_refl 0⟩) (fun r10 σ11 H locs hw h => ?_)
          exact x_iret E.1 h hw dX10_goes_46
        · have hw := hw.1 c8
          refine lv_iconst (v := (-1)) hx hb dX10_goes_30 (by decide) ?_
          exact x_iret E.1 h hw dX10_goes_31

abbrev rC_X10_owes : Room := { frames := 7, cells := 0, slots := 0, locals := 158 }
def wpC_X10_owes_121 (K42 : CS → Int32 → Int32 → Int32 → Int32 → Prop) (Post : Int32 → CS → Prop) (σ : CS) (x1 : Int32) (x2 : Int32) (x5 : Int32) (t0 : Int32) (t1 : Int32) : Prop := ∀ y1 : Int32, y1 = t0 + t1 → ∀ y2 : Int32, y2 = x5 + 1 → K42 σ x1 x2 y1 y2
set_option maxHeartbeats 1000000 in
set_option maxRecDepth 20000 in
theorem wkC_X10_owes_121 {Post : Int32 → CS → Prop} (E : zE cX10_owes RX10 8 (some .int) D cy ks A p s m args meth c) {K42 : CS → Int32 → Int32 → Int32 → Int32 → Prop} (hK42 : ∀ (σ : CS) (x1 : Int32) (x2 : Int32) (x4 : Int32) (x5 : Int32) (H : Heap) (locs : List Loc) (ls : Array Slot), xH D A s (CW q cy σ) H locs → K42 σ x1 x2 x4 x5 → lv_has ls 8 [(0, .ref (q 0)), (1, .int x1), (2, .int x2), (4, .int x4), (5, .int x5)] → W p l e rC_X10_owes s m args below meth c H locs 0 0 (MQ below (va_Qi Post (xB D cy (CW q cy) A) A) args s 0 0 A) (F0 m 42 ls [])) : ∀ (σ : CS) (x1 : Int32) (x2 : Int32) (x5 : Int32) (t0 : Int32) (t1 : Int32) (H : Heap) (locs : List Loc) (ls : Array Slot), xH D A s (CW q cy σ) H locs → wpC_X10_owes_121 K42 Post σ x1 x2 x5 t0 t1 → lv_has ls 8 [(0, .ref (q 0)), (1, .int x1), (2, .int x2), (5, .int x5)] → W p l e rC_X10_owes s m args below meth c H locs 0 0 (MQ below (va_Qi Post (xB D cy (CW q cy) A) A) args s 0 0 A) (F0 m 121 ls [.int t1, .int t0]) := by
  have hx := E.1.1
  have hb := E.1.2.1
  intro σ x1 x2 x5 t0 t1 H locs ls h hw hl
  unfold wpC_X10_owes_121 at hw
  refine lv_iadd hx hb dX10_owes_121 ?_
  refine lv_topi (fun y1 ey1 => ?_)
  have hw := hw y1 ey1
  refine lv_istore (lv' := [(4, .int y1), (0, .ref (q 0)), (1, .int x1), (2, .int x2), (5, .int x5)]) hx hb dX10_owes_122 hl (by decide) rfl (fun ls hl => ?_)
  obtain ⟨y2, ey2⟩ : ∃ z : Int32, z = x5 + 1 := ⟨_, rfl⟩
  have hw := hw y2 ey2
  refine lv_iinc (v := y2) (lv' := [(5, .int y2), (4, .int y1), (0, .ref (q 0)), (1, .int x1), (2, .int x2)]) hx hb dX10_owes_124 hl (k := 4) rfl (by rw [ey2]; rfl) (by decide) rfl (fun ls hl => ?_)
  refine lv_goto (tgt := 42) hx hb dX10_owes_127 (by decide) ?_
  exact hK42 _ _ _ _ _ _ _ _ h hw (lv_sub hl [2, 3, 4, 1, 0] rfl)

def wpC_X10_owes_42 (Post : Int32 → CS → Prop) : Nat → CS → Int32 → Int32 → Int32 → Int32 → Prop
  | 0, _, _, _, _, _ => False
  | n + 1, σ, x1, x2, x4, x5 => ((σ.1 423) ≤ x5 → Post x4 σ) ∧ (¬ (σ.1 423) ≤ x5 → vp_in x5 20 ∧ ∀ y3 : Int32, y3 = σ.2.1 22 x5.toNatClampNeg → wpC_X7_binds σ y3 x1 (fun r4 σ5 => (r4 = 0 → ∀ y7 : Int32, y7 = x5 + 1 → wpC_X10_owes_42 Post n σ5 x1 x2 x4 y7) ∧ (¬ r4 = 0 → wpC_X10_goingBack σ5 x5 x2 (fun r8 σ9 => wpC_X7_sideOf σ9 y3 x1 (fun r10 σ11 => vp_in x5 20 ∧ (r10 = (σ11.2.1 23 x5.toNatClampNeg) → wpC_X10_owes_121 (fun a0 a1 a2 a3 a4 => wpC_X10_owes_42 Post n a0 a1 a2 a3 a4) Post σ11 x1 x2 x5 x4 (-r8)) ∧ (¬ r10 = (σ11.2.1 23 x5.toNatClampNeg) → wpC_X10_owes_121 (fun a0 a1 a2 a3 a4 => wpC_X10_owes_42 Post n a0 a1 a2 a3 a4) Post σ11 x1 x2 x5 x4 r8))))))
set_option maxHeartbeats 1000000 in
set_option maxRecDepth 20000 in
theorem wkC_X10_owes_42 {Post : Int32 → CS → Prop} (E : zE cX10_owes RX10 8 (some .int) D cy ks A p s m args meth c) : ∀ n : Nat, ∀ (σ : CS) (x1 : Int32) (x2 : Int32) (x4 : Int32) (x5 : Int32) (H : Heap) (locs : List Loc) (ls : Array Slot), xH D A s (CW q cy σ) H locs → wpC_X10_owes_42 Post n σ x1 x2 x4 x5 → lv_has ls 8 [(0, .ref (q 0)), (1, .int x1), (2, .int x2), (4, .int x4), (5, .int x5)] → W p l e rC_X10_owes s m args below meth c H locs 0 0 (MQ below (va_Qi Post (xB D cy (CW q cy) A) A) args s 0 0 A) (F0 m 42 ls []) := by
  have hx := E.1.1
  have hb := E.1.2.1
  intro n
  induction n with
  | zero => intro σ x1 x2 x4 x5 H locs ls h hw hl; exact False.elim hw
  | succ n ih =>
    intro σ x1 x2 x4 x5 H locs ls h hw hl
    refine lv_iload hx hb dX10_owes_42 (lv_at hl 4 rfl) ?_
    refine lv_aload_n hx hb dX10_owes_44 rfl (lv_at hl 0 rfl) ?_
    refine gX10_47 E.1 h dX10_owes_45 ?_
    refine gX10_193 E.1 h dX10_owes_48 ?_
    refine lv_icmp_ge (tgt := 130) hx hb dX10_owes_51 (by decide) (fun c1 => ?_) (fun c1 => ?_)
    · have hw := hw.1 c1
      refine lv_iload hx hb dX10_owes_130 (lv_at hl 3 rfl) ?_
      exact x_iret E.1 h hw dX10_owes_132
    · have hw := hw.2 c1
      refine lv_aload_n hx hb dX10_owes_54 rfl (lv_at hl 0 rfl) ?_
      refine gX10_47 E.1 h dX10_owes_55 ?_
      refine gX10_197 E.1 h dX10_owes_58 ?_
      refine lv_iload hx hb dX10_owes_61 (lv_at hl 4 rfl) ?_
      have h2 := hw.1
      have hw := hw.2
      refine aC_22 E.1 h h2 dX10_owes_63 ?_
      refine lv_topi (fun y3 ey3 => ?_)
      have hw := hw y3 ey3
      refine lv_istore (lv' := [(6, .int y3), (0, .ref (q 0)), (1, .int x1), (2, .int x2), (4, .int x4), (5, .int x5)]) hx hb dX10_owes_64 hl (by decide) rfl (fun ls hl => ?_)
      refine lv_aload_n hx hb dX10_owes_66 rfl (lv_at hl 1 rfl) ?_
      refine gX10_40 E.1 h dX10_owes_67 ?_
      refine lv_iload hx hb dX10_owes_70 (lv_at hl 0 rfl) ?_
      refine lv_iload_n hx hb dX10_owes_72 rfl (lv_at hl 2 rfl) ?_
      refine x_calli h (z_runVN (WW := CW q cy) (rest := []) E h (cC_X7_binds hw) yyX7_binds lX10_130 14 rfl rfl ⟨Nat.le_of_ble_eq_true rfl, Nat.le_of_ble_eq_true rfl⟩ rfl rfl hl.1 rfl (Nat.le_of_ble_eq_true rfl) dX10_owes_73 ⟨Nat.le_refl 0, Nat.le_refl 0⟩) (fun r4 σ5 H locs hw h => ?_)
      refine lv_if_eq (tgt := 124) hx hb dX10_owes_76 (by decide) (fun c6 => ?_) (fun c6 => ?_)
      · have hw := hw.1 c6
        obtain ⟨y7, ey7⟩ : ∃ z : Int32, z = x5 + 1 := ⟨_, rfl⟩
        have hw := hw y7 ey7
        refine lv_iinc (v := y7) (lv' := [(5, .int y7), (6, .int y3), (0, .ref (q 0)), (1, .int x1), (2, .int x2), (4, .int x4)]) hx hb dX10_owes_124 hl (k := 5) rfl (by rw [ey7]; rfl) (by decide) rfl (fun ls hl => ?_)
        refine lv_goto (tgt := 42) hx hb dX10_owes_127 (by decide) ?_
        exact ih _ _ _ _ _ _ _ _ h hw (lv_sub hl [2, 3, 4, 5, 0] rfl)
      · have hw := hw.2 c6
        refine lv_aload_n hx hb dX10_owes_79 rfl (lv_at hl 1 rfl) ?_
        refine lv_iload hx hb dX10_owes_80 (lv_at hl 5 rfl) ?_
        refine lv_iload_n hx hb dX10_owes_82 rfl (lv_at hl 3 rfl) ?_
        refine x_calli h (z_runV (WW := CW q cy) (rest := []) E h (cC_X10_goingBack hw) yyX10_goingBack lX10_194 0 rfl rfl ⟨Nat.le_of_ble_eq_true rfl, Nat.le_of_ble_eq_true rfl⟩ rfl rfl hl.1 rfl (Nat.le_of_ble_eq_true rfl) dX10_owes_83 ⟨Nat.le_refl 0, Nat.le_refl 0⟩) (fun r8 σ9 H locs hw h => ?_)
        refine lv_istore (lv' := [(7, .int r8), (6, .int y3), (0, .ref (q 0)), (1, .int x1), (2, .int x2), (4, .int x4), (5, .int x5)]) hx hb dX10_owes_86 hl (by decide) rfl (fun ls hl => ?_)
        refine lv_iload hx hb dX10_owes_88 (lv_at hl 5 rfl) ?_
        refine lv_aload_n hx hb dX10_owes_90 rfl (lv_at hl 2 rfl) ?_
        refine gX10_40 E.1 h dX10_owes_91 ?_
        refine lv_iload hx hb dX10_owes_94 (lv_at hl 1 rfl) ?_
        refine lv_iload_n hx hb dX10_owes_96 rfl (lv_at hl 3 rfl) ?_
        refine x_calli h (z_runVN (WW := CW q cy) (rest := [.int x4]) E h (cC_X7_sideOf hw) yyX7_sideOf lX10_200 14 rfl rfl ⟨Nat.le_of_ble_eq_true rfl, Nat.le_of_ble_eq_true rfl⟩ rfl rfl hl.1 rfl (Nat.le_of_ble_eq_true rfl) dX10_owes_97 ⟨Nat.le_refl 0, Nat.le_refl 0⟩) (fun r10 σ11 H locs hw h => ?_)
        refine lv_aload_n hx hb dX10_owes_100 rfl (lv_at hl 2 rfl) ?_
        refine gX10_47 E.1 h dX10_owes_101 ?_
        refine gX10_203 E.1 h dX10_owes_104 ?_
        refine lv_iload hx hb dX10_owes_107 (lv_at hl 6 rfl) ?_
        have h12 := hw.1
        have hw := hw.2
        refine aC_23 E.1 h h12 dX10_owes_109 ?_
        refine lv_icmp_ne (tgt := 119) hx hb dX10_owes_110 (by decide) (fun c13 => ?_) (fun c13 => ?_)
        · have hw := hw.2 c13
          refine lv_iload hx hb dX10_owes_119 (lv_at hl 0 rfl) ?_
          exact wkC_X10_owes_121 E ih _ _ _ _ _ _ _ _ _ h hw (lv_sub hl [2, 3, 4, 6] rfl)
        · have hw := hw.1 c13
          refine lv_iload hx hb dX10_owes_113 (lv_at hl 0 rfl) ?_
          refine lv_ineg hx hb dX10_owes_115 ?_
          refine lv_goto (tgt := 121) hx hb dX10_owes_116 (by decide) ?_
          exact wkC_X10_owes_121 E ih _ _ _ _ _ _ _ _ _ h hw (lv_sub hl [2, 3, 4, 6] rfl)

def wpC_X10_owes (σ : CS) (x1 : Int32) (x2 : Int32) (x3 : Int32) (Post : Int32 → CS → Prop) : Prop := wpC_X1_has σ x1 (fun r1 σ2 => (r1 = 0 → Post 0 σ2) ∧ (¬ r1 = 0 → wpC_X10_isDay σ2 x2 (fun r4 σ5 => (r4 = 0 → Post 0 σ5) ∧ (¬ r4 = 0 → wpC_X10_isKnown σ5 x3 (fun r7 σ8 => (r7 = 0 → Post 0 σ8) ∧ (¬ r7 = 0 → wpC_X4_hear σ8 x3 (fun σ10 => ∃ g, wpC_X10_owes_42 Post g σ10 x1 x2 0 0)))))))
set_option maxHeartbeats 1000000 in
set_option maxRecDepth 20000 in
theorem cC_X10_owes {l : Launch} {D : va_G} {cy : Nat → ClassId} {ks : Nat × Nat × Option Nat} {q : Nat → Nat} {σ : CS} {sz : Nat} {x1 : Int32} {x2 : Int32} {x3 : Int32} {Post : Int32 → CS → Prop} (hw : wpC_X10_owes σ x1 x2 x3 Post) : Met l yX10_owes (Cond.code yX10_owes cX10_owes 8 (some .int) :: wsA) rC_X10_owes (zPc D cy ks (CW q cy σ) sz [.ref (q 0), .int x1, .int x2, .int x3]) (va_Qi Post (xB D cy (CW q cy) (va_A (CW q cy σ) sz)) (va_A (CW q cy σ) sz)) 0 0 (va_A (CW q cy σ) sz) := by
  refine z_enter (own := RX10) (WW := CW q cy) (by decide) rfl (Nat.le_of_ble_eq_true rfl) ?_
  intro p e s m below meth c ls E h hl
  have hx := E.1.1
  have hb := E.1.2.1
  have hl : lv_has ls 8 [(0, .ref (q 0)), (1, .int x1), (2, .int x2), (3, .int x3)] := hl
  unfold wpC_X10_owes at hw
  refine lv_aload_n hx hb dX10_owes_0 rfl (lv_at hl 0 rfl) ?_
  refine gX10_33 E.1 h dX10_owes_1 ?_
  refine lv_iload_n hx hb dX10_owes_4 rfl (lv_at hl 1 rfl) ?_
  refine x_calli h (z_runVN (WW := CW q cy) (rest := []) E h (cC_X1_has hw) yyX1_has lX10_127 8 rfl rfl ⟨Nat.le_of_ble_eq_true rfl, Nat.le_of_ble_eq_true rfl⟩ rfl rfl hl.1 rfl (Nat.le_of_ble_eq_true rfl) dX10_owes_5 ⟨Nat.le_refl 0, Nat.le_refl 0⟩) (fun r1 σ2 H locs hw h => ?_)
  refine lv_if_eq (tgt := 26) hx hb dX10_owes_8 (by decide) (fun c3 => ?_) (fun c3 => ?_)
  · have hw := hw.1 c3
    refine lv_iconst (v := 0) hx hb dX10_owes_26 (by decide) ?_
    exact x_iret E.1 h hw dX10_owes_27
  · have hw := hw.2 c3
    refine lv_iload_n hx hb dX10_owes_11 rfl (lv_at hl 2 rfl) ?_
    refine x_calli h (z_runS (WW := CW q cy) (rest := []) E h (cC_X10_isDay hw) yyX10_isDay lX10_86 ⟨Nat.le_of_ble_eq_true rfl, Nat.le_of_ble_eq_true rfl⟩ rfl rfl hl.1 rfl (Nat.le_of_ble_eq_true rfl) dX10_owes_12 ⟨Nat.le_refl 0, Nat.le_refl 0⟩) (fun r4 σ5 H locs hw h => ?_)
    refine lv_if_eq (tgt := 26) hx hb dX10_owes_15 (by decide) (fun c6 => ?_) (fun c6 => ?_)
    · have hw := hw.1 c6
      refine lv_iconst (v := 0) hx hb dX10_owes_26 (by decide) ?_
      exact x_iret E.1 h hw dX10_owes_27
    · have hw := hw.2 c6
      refine lv_aload_n hx hb dX10_owes_18 rfl (lv_at hl 0 rfl) ?_
      refine lv_iload_n hx hb dX10_owes_19 rfl (lv_at hl 3 rfl) ?_
      refine x_calli h (z_runV (WW := CW q cy) (rest := []) E h (cC_X10_isKnown hw) yyX10_isKnown lX10_153 0 rfl rfl ⟨Nat.le_of_ble_eq_true rfl, Nat.le_of_ble_eq_true rfl⟩ rfl rfl hl.1 rfl (Nat.le_of_ble_eq_true rfl) dX10_owes_20 ⟨Nat.le_refl 0, Nat.le_refl 0⟩) (fun r7 σ8 H locs hw h => ?_)
      refine lv_if_ne (tgt := 28) hx hb dX10_owes_23 (by decide) (fun c9 => ?_) (fun c9 => ?_)
      · have hw := hw.2 c9
        refine lv_aload_n hx hb dX10_owes_28 rfl (lv_at hl 0 rfl) ?_
        refine gX10_63 E.1 h dX10_owes_29 ?_
        refine lv_iload_n hx hb dX10_owes_32 rfl (lv_at hl 3 rfl) ?_
        refine x_callv h (z_runVN (WW := CW q cy) (rest := []) E h (cC_X4_hear hw) yyX4_hear lX10_156 30 rfl rfl ⟨Nat.le_of_ble_eq_true rfl, Nat.le_of_ble_eq_true rfl⟩ rfl rfl hl.1 rfl (Nat.le_of_ble_eq_true rfl) dX10_owes_33 ⟨Nat.le_refl 0, Nat.le_refl 0⟩) (fun σ10 H locs hw h => ?_)
        refine lv_iconst (v := 0) hx hb dX10_owes_36 (by decide) ?_
        refine lv_istore (lv' := [(4, .int 0), (0, .ref (q 0)), (1, .int x1), (2, .int x2), (3, .int x3)]) hx hb dX10_owes_37 hl (by decide) rfl (fun ls hl => ?_)
        refine lv_iconst (v := 0) hx hb dX10_owes_39 (by decide) ?_
        refine lv_istore (lv' := [(5, .int 0), (4, .int 0), (0, .ref (q 0)), (1, .int x1), (2, .int x2), (3, .int x3)]) hx hb dX10_owes_40 hl (by decide) rfl (fun ls hl => ?_)
        obtain ⟨g, hw⟩ := hw
        exact wkC_X10_owes_42 E g _ _ _ _ _ _ _ _ h hw (lv_sub hl [2, 3, 4, 1, 0] rfl)
      · have hw := hw.1 c9
        refine lv_iconst (v := 0) hx hb dX10_owes_26 (by decide) ?_
        exact x_iret E.1 h hw dX10_owes_27

abbrev rC_X10_changed : Room := { frames := 7, cells := 0, slots := 0, locals := 158 }
def wpC_X10_changed_82 (Post : Int32 → CS → Prop) : Nat → CS → Int32 → Int32 → Prop
  | 0, _, _, _ => False
  | n + 1, σ, x1, x4 => ((σ.1 286) ≤ x4 → Post ((-1)) σ) ∧ (¬ (σ.1 286) ≤ x4 → wpC_X4_stateOn σ x4 x1 (fun r2 σ3 => vp_in x4 10 ∧ (r2 = (σ3.2.1 45 x4.toNatClampNeg) → ∀ y6 : Int32, y6 = x4 + 1 → wpC_X10_changed_82 Post n σ3 x1 y6) ∧ (¬ r2 = (σ3.2.1 45 x4.toNatClampNeg) → Post x4 σ3)))
set_option maxHeartbeats 1000000 in
set_option maxRecDepth 20000 in
theorem wkC_X10_changed_82 {Post : Int32 → CS → Prop} (E : zE cX10_changed RX10 5 (some .int) D cy ks A p s m args meth c) : ∀ n : Nat, ∀ (σ : CS) (x1 : Int32) (x4 : Int32) (H : Heap) (locs : List Loc) (ls : Array Slot), xH D A s (CW q cy σ) H locs → wpC_X10_changed_82 Post n σ x1 x4 → lv_has ls 5 [(0, .ref (q 0)), (1, .int x1), (4, .int x4)] → W p l e rC_X10_changed s m args below meth c H locs 0 0 (MQ below (va_Qi Post (xB D cy (CW q cy) A) A) args s 0 0 A) (F0 m 82 ls []) := by
  have hx := E.1.1
  have hb := E.1.2.1
  intro n
  induction n with
  | zero => intro σ x1 x4 H locs ls h hw hl; exact False.elim hw
  | succ n ih =>
    intro σ x1 x4 H locs ls h hw hl
    refine lv_iload hx hb dX10_changed_82 (lv_at hl 2 rfl) ?_
    refine lv_aload_n hx hb dX10_changed_84 rfl (lv_at hl 0 rfl) ?_
    refine gX10_40 E.1 h dX10_changed_85 ?_
    refine gX10_189 E.1 h dX10_changed_88 ?_
    refine lv_icmp_ge (tgt := 123) hx hb dX10_changed_91 (by decide) (fun c1 => ?_) (fun c1 => ?_)
    · have hw := hw.1 c1
      refine lv_iconst (v := (-1)) hx hb dX10_changed_123 (by decide) ?_
      exact x_iret E.1 h hw dX10_changed_124
    · have hw := hw.2 c1
      refine lv_aload_n hx hb dX10_changed_94 rfl (lv_at hl 0 rfl) ?_
      refine gX10_63 E.1 h dX10_changed_95 ?_
      refine lv_iload hx hb dX10_changed_98 (lv_at hl 2 rfl) ?_
      refine lv_iload_n hx hb dX10_changed_100 rfl (lv_at hl 1 rfl) ?_
      refine x_calli h (z_runVN (WW := CW q cy) (rest := []) E h (cC_X4_stateOn hw) yyX4_stateOn lX10_165 30 rfl rfl ⟨Nat.le_of_ble_eq_true rfl, Nat.le_of_ble_eq_true rfl⟩ rfl rfl hl.1 rfl (Nat.le_of_ble_eq_true rfl) dX10_changed_101 ⟨Nat.le_refl 0, Nat.le_refl 0⟩) (fun r2 σ3 H locs hw h => ?_)
      refine lv_aload_n hx hb dX10_changed_104 rfl (lv_at hl 0 rfl) ?_
      refine gX10_67 E.1 h dX10_changed_105 ?_
      refine lv_iload hx hb dX10_changed_108 (lv_at hl 2 rfl) ?_
      have h4 := hw.1
      have hw := hw.2
      refine aC_45 E.1 h h4 dX10_changed_110 ?_
      refine lv_icmp_eq (tgt := 117) hx hb dX10_changed_111 (by decide) (fun c5 => ?_) (fun c5 => ?_)
      · have hw := hw.1 c5
        obtain ⟨y6, ey6⟩ : ∃ z : Int32, z = x4 + 1 := ⟨_, rfl⟩
        have hw := hw y6 ey6
        refine lv_iinc (v := y6) (lv' := [(4, .int y6), (0, .ref (q 0)), (1, .int x1)]) hx hb dX10_changed_117 hl (k := 2) rfl (by rw [ey6]; rfl) (by decide) rfl (fun ls hl => ?_)
        refine lv_goto (tgt := 82) hx hb dX10_changed_120 (by decide) ?_
        exact ih _ _ _ _ _ _ h hw (lv_sub hl [1, 2, 0] rfl)
      · have hw := hw.2 c5
        refine lv_iload hx hb dX10_changed_114 (lv_at hl 2 rfl) ?_
        exact x_iret E.1 h hw dX10_changed_116

def wpC_X10_changed_36 (Post : Int32 → CS → Prop) : Nat → CS → Int32 → Int32 → Int32 → Prop
  | 0, _, _, _, _ => False
  | n + 1, σ, x1, x3, x4 => ((σ.1 286) ≤ x4 → wpC_X4_hear σ x3 (fun σ2 => ∃ g, wpC_X10_changed_82 Post g σ2 x1 0)) ∧ (¬ (σ.1 286) ≤ x4 → wpC_X4_stateOn σ x4 x1 (fun r3 σ4 => vp_in x4 10 ∧ ∀ σ5 : CS, σ5 = cA σ4 45 (upd (σ4.2.1 45) x4.toNatClampNeg r3) → ∀ y7 : Int32, y7 = x4 + 1 → wpC_X10_changed_36 Post n σ5 x1 x3 y7))
set_option maxHeartbeats 1000000 in
set_option maxRecDepth 20000 in
theorem wkC_X10_changed_36 {Post : Int32 → CS → Prop} (E : zE cX10_changed RX10 5 (some .int) D cy ks A p s m args meth c) : ∀ n : Nat, ∀ (σ : CS) (x1 : Int32) (x3 : Int32) (x4 : Int32) (H : Heap) (locs : List Loc) (ls : Array Slot), xH D A s (CW q cy σ) H locs → wpC_X10_changed_36 Post n σ x1 x3 x4 → lv_has ls 5 [(0, .ref (q 0)), (1, .int x1), (3, .int x3), (4, .int x4)] → W p l e rC_X10_changed s m args below meth c H locs 0 0 (MQ below (va_Qi Post (xB D cy (CW q cy) A) A) args s 0 0 A) (F0 m 36 ls []) := by
  have hx := E.1.1
  have hb := E.1.2.1
  intro n
  induction n with
  | zero => intro σ x1 x3 x4 H locs ls h hw hl; exact False.elim hw
  | succ n ih =>
    intro σ x1 x3 x4 H locs ls h hw hl
    refine lv_iload hx hb dX10_changed_36 (lv_at hl 3 rfl) ?_
    refine lv_aload_n hx hb dX10_changed_38 rfl (lv_at hl 0 rfl) ?_
    refine gX10_40 E.1 h dX10_changed_39 ?_
    refine gX10_189 E.1 h dX10_changed_42 ?_
    refine lv_icmp_ge (tgt := 71) hx hb dX10_changed_45 (by decide) (fun c1 => ?_) (fun c1 => ?_)
    · have hw := hw.1 c1
      refine lv_aload_n hx hb dX10_changed_71 rfl (lv_at hl 0 rfl) ?_
      refine gX10_63 E.1 h dX10_changed_72 ?_
      refine lv_iload_n hx hb dX10_changed_75 rfl (lv_at hl 2 rfl) ?_
      refine x_callv h (z_runVN (WW := CW q cy) (rest := []) E h (cC_X4_hear hw) yyX4_hear lX10_156 30 rfl rfl ⟨Nat.le_of_ble_eq_true rfl, Nat.le_of_ble_eq_true rfl⟩ rfl rfl hl.1 rfl (Nat.le_of_ble_eq_true rfl) dX10_changed_76 ⟨Nat.le_refl 0, Nat.le_refl 0⟩) (fun σ2 H locs hw h => ?_)
      refine lv_iconst (v := 0) hx hb dX10_changed_79 (by decide) ?_
      refine lv_istore (lv' := [(4, .int 0), (0, .ref (q 0)), (1, .int x1), (3, .int x3)]) hx hb dX10_changed_80 hl (by decide) rfl (fun ls hl => ?_)
      obtain ⟨g, hw⟩ := hw
      exact wkC_X10_changed_82 E g _ _ _ _ _ _ h hw (lv_sub hl [1, 2, 0] rfl)
    · have hw := hw.2 c1
      refine lv_aload_n hx hb dX10_changed_48 rfl (lv_at hl 0 rfl) ?_
      refine gX10_67 E.1 h dX10_changed_49 ?_
      refine lv_iload hx hb dX10_changed_52 (lv_at hl 3 rfl) ?_
      refine lv_aload_n hx hb dX10_changed_54 rfl (lv_at hl 0 rfl) ?_
      refine gX10_63 E.1 h dX10_changed_55 ?_
      refine lv_iload hx hb dX10_changed_58 (lv_at hl 3 rfl) ?_
      refine lv_iload_n hx hb dX10_changed_60 rfl (lv_at hl 1 rfl) ?_
      refine x_calli h (z_runVN (WW := CW q cy) (rest := [.int x4, .ref (q 45)]) E h (cC_X4_stateOn hw) yyX4_stateOn lX10_165 30 rfl rfl ⟨Nat.le_of_ble_eq_true rfl, Nat.le_of_ble_eq_true rfl⟩ rfl rfl hl.1 rfl (Nat.le_of_ble_eq_true rfl) dX10_changed_61 ⟨Nat.le_refl 0, Nat.le_refl 0⟩) (fun r3 σ4 H locs hw h => ?_)
      have h6 := hw.1
      have hw := hw.2
      refine sC_45 E.1 h h6 dX10_changed_64 (fun σ5 H locs eσ5 h => ?_)
      have hw := hw σ5 eσ5
      obtain ⟨y7, ey7⟩ : ∃ z : Int32, z = x4 + 1 := ⟨_, rfl⟩
      have hw := hw y7 ey7
      refine lv_iinc (v := y7) (lv' := [(4, .int y7), (0, .ref (q 0)), (1, .int x1), (3, .int x3)]) hx hb dX10_changed_65 hl (k := 3) rfl (by rw [ey7]; rfl) (by decide) rfl (fun ls hl => ?_)
      refine lv_goto (tgt := 36) hx hb dX10_changed_68 (by decide) ?_
      exact ih _ _ _ _ _ _ _ h hw (lv_sub hl [1, 2, 3, 0] rfl)

def wpC_X10_changed (σ : CS) (x1 : Int32) (x2 : Int32) (x3 : Int32) (Post : Int32 → CS → Prop) : Prop := wpC_X10_isDay σ x1 (fun r1 σ2 => (r1 = 0 → Post ((-1)) σ2) ∧ (¬ r1 = 0 → wpC_X10_isKnown σ2 x2 (fun r4 σ5 => (r4 = 0 → Post ((-1)) σ5) ∧ (¬ r4 = 0 → wpC_X10_isKnown σ5 x3 (fun r7 σ8 => (r7 = 0 → Post ((-1)) σ8) ∧ (¬ r7 = 0 → wpC_X4_hear σ8 x2 (fun σ10 => ∃ g, wpC_X10_changed_36 Post g σ10 x1 x3 0)))))))
set_option maxHeartbeats 1000000 in
set_option maxRecDepth 20000 in
theorem cC_X10_changed {l : Launch} {D : va_G} {cy : Nat → ClassId} {ks : Nat × Nat × Option Nat} {q : Nat → Nat} {σ : CS} {sz : Nat} {x1 : Int32} {x2 : Int32} {x3 : Int32} {Post : Int32 → CS → Prop} (hw : wpC_X10_changed σ x1 x2 x3 Post) : Met l yX10_changed (Cond.code yX10_changed cX10_changed 5 (some .int) :: wsA) rC_X10_changed (zPc D cy ks (CW q cy σ) sz [.ref (q 0), .int x1, .int x2, .int x3]) (va_Qi Post (xB D cy (CW q cy) (va_A (CW q cy σ) sz)) (va_A (CW q cy σ) sz)) 0 0 (va_A (CW q cy σ) sz) := by
  refine z_enter (own := RX10) (WW := CW q cy) (by decide) rfl (Nat.le_of_ble_eq_true rfl) ?_
  intro p e s m below meth c ls E h hl
  have hx := E.1.1
  have hb := E.1.2.1
  have hl : lv_has ls 5 [(0, .ref (q 0)), (1, .int x1), (2, .int x2), (3, .int x3)] := hl
  unfold wpC_X10_changed at hw
  refine lv_iload_n hx hb dX10_changed_0 rfl (lv_at hl 1 rfl) ?_
  refine x_calli h (z_runS (WW := CW q cy) (rest := []) E h (cC_X10_isDay hw) yyX10_isDay lX10_86 ⟨Nat.le_of_ble_eq_true rfl, Nat.le_of_ble_eq_true rfl⟩ rfl rfl hl.1 rfl (Nat.le_of_ble_eq_true rfl) dX10_changed_1 ⟨Nat.le_refl 0, Nat.le_refl 0⟩) (fun r1 σ2 H locs hw h => ?_)
  refine lv_if_eq (tgt := 23) hx hb dX10_changed_4 (by decide) (fun c3 => ?_) (fun c3 => ?_)
  · have hw := hw.1 c3
    refine lv_iconst (v := (-1)) hx hb dX10_changed_23 (by decide) ?_
    exact x_iret E.1 h hw dX10_changed_24
  · have hw := hw.2 c3
    refine lv_aload_n hx hb dX10_changed_7 rfl (lv_at hl 0 rfl) ?_
    refine lv_iload_n hx hb dX10_changed_8 rfl (lv_at hl 2 rfl) ?_
    refine x_calli h (z_runV (WW := CW q cy) (rest := []) E h (cC_X10_isKnown hw) yyX10_isKnown lX10_153 0 rfl rfl ⟨Nat.le_of_ble_eq_true rfl, Nat.le_of_ble_eq_true rfl⟩ rfl rfl hl.1 rfl (Nat.le_of_ble_eq_true rfl) dX10_changed_9 ⟨Nat.le_refl 0, Nat.le_refl 0⟩) (fun r4 σ5 H locs hw h => ?_)
    refine lv_if_eq (tgt := 23) hx hb dX10_changed_12 (by decide) (fun c6 => ?_) (fun c6 => ?_)
    · have hw := hw.1 c6
      refine lv_iconst (v := (-1)) hx hb dX10_changed_23 (by decide) ?_
      exact x_iret E.1 h hw dX10_changed_24
    · have hw := hw.2 c6
      refine lv_aload_n hx hb dX10_changed_15 rfl (lv_at hl 0 rfl) ?_
      refine lv_iload_n hx hb dX10_changed_16 rfl (lv_at hl 3 rfl) ?_
      refine x_calli h (z_runV (WW := CW q cy) (rest := []) E h (cC_X10_isKnown hw) yyX10_isKnown lX10_153 0 rfl rfl ⟨Nat.le_of_ble_eq_true rfl, Nat.le_of_ble_eq_true rfl⟩ rfl rfl hl.1 rfl (Nat.le_of_ble_eq_true rfl) dX10_changed_17 ⟨Nat.le_refl 0, Nat.le_refl 0⟩) (fun r7 σ8 H locs hw h => ?_)
      refine lv_if_ne (tgt := 25) hx hb dX10_changed_20 (by decide) (fun c9 => ?_) (fun c9 => ?_)
      · have hw := hw.2 c9
        refine lv_aload_n hx hb dX10_changed_25 rfl (lv_at hl 0 rfl) ?_
        refine gX10_63 E.1 h dX10_changed_26 ?_
        refine lv_iload_n hx hb dX10_changed_29 rfl (lv_at hl 2 rfl) ?_
        refine x_callv h (z_runVN (WW := CW q cy) (rest := []) E h (cC_X4_hear hw) yyX4_hear lX10_156 30 rfl rfl ⟨Nat.le_of_ble_eq_true rfl, Nat.le_of_ble_eq_true rfl⟩ rfl rfl hl.1 rfl (Nat.le_of_ble_eq_true rfl) dX10_changed_30 ⟨Nat.le_refl 0, Nat.le_refl 0⟩) (fun σ10 H locs hw h => ?_)
        refine lv_iconst (v := 0) hx hb dX10_changed_33 (by decide) ?_
        refine lv_istore (lv' := [(4, .int 0), (0, .ref (q 0)), (1, .int x1), (2, .int x2), (3, .int x3)]) hx hb dX10_changed_34 hl (by decide) rfl (fun ls hl => ?_)
        obtain ⟨g, hw⟩ := hw
        exact wkC_X10_changed_36 E g _ _ _ _ _ _ _ h hw (lv_sub hl [1, 2, 4, 0] rfl)
      · have hw := hw.1 c9
        refine lv_iconst (v := (-1)) hx hb dX10_changed_23 (by decide) ?_
        exact x_iret E.1 h hw dX10_changed_24

abbrev rC_X10_count : Room := { frames := 0, cells := 0, slots := 0, locals := 0 }
def wpC_X10_count (σ : CS) (x1 : Int32) (Post : Int32 → CS → Prop) : Prop := (x1 = 0 → Post (σ.1 165) σ) ∧ (x1 = 1 → Post (σ.1 286) σ) ∧ (x1 = 2 → Post (σ.1 423) σ) ∧ (x1 = 3 → Post (σ.1 504) σ) ∧ (x1 = 4 → Post (σ.1 122) σ) ∧ (x1 = 5 → Post (σ.1 21) σ) ∧ (¬ x1 = 0 ∧ ¬ x1 = 1 ∧ ¬ x1 = 2 ∧ ¬ x1 = 3 ∧ ¬ x1 = 4 ∧ ¬ x1 = 5 → Post ((-1)) σ)
set_option maxHeartbeats 1000000 in
set_option maxRecDepth 20000 in
theorem cC_X10_count {l : Launch} {D : va_G} {cy : Nat → ClassId} {ks : Nat × Nat × Option Nat} {q : Nat → Nat} {σ : CS} {sz : Nat} {x1 : Int32} {Post : Int32 → CS → Prop} (hw : wpC_X10_count σ x1 Post) : Met l yX10_count (Cond.code yX10_count cX10_count 2 (some .int) :: wsA) rC_X10_count (zPc D cy ks (CW q cy σ) sz [.ref (q 0), .int x1]) (va_Qi Post (xB D cy (CW q cy) (va_A (CW q cy σ) sz)) (va_A (CW q cy σ) sz)) 0 0 (va_A (CW q cy σ) sz) := by
  refine z_enter (own := RX10) (WW := CW q cy) (by decide) rfl (Nat.le_of_ble_eq_true rfl) ?_
  intro p e s m below meth c ls E h hl
  have hx := E.1.1
  have hb := E.1.2.1
  have hl : lv_has ls 2 [(0, .ref (q 0)), (1, .int x1)] := hl
  unfold wpC_X10_count at hw
  refine lv_iload_n hx hb dX10_count_0 rfl (lv_at hl 1 rfl) ?_
  by_cases c1 : x1 = 0
  · have hw := hw.1 c1
    refine lv_tableIn (off := 39) (tgt := 40) hx hb dX10_count_1 (by rw [c1]; decide) (by rw [c1]; decide) (by rw [c1]; rfl) (by decide) ?_
    refine lv_aload_n hx hb dX10_count_40 rfl (lv_at hl 0 rfl) ?_
    refine gX10_33 E.1 h dX10_count_41 ?_
    refine gX10_206 E.1 h dX10_count_44 ?_
    exact x_iret E.1 h hw dX10_count_47
  have hw := hw.2
  by_cases c2 : x1 = 1
  · have hw := hw.1 c2
    refine lv_tableIn (off := 47) (tgt := 48) hx hb dX10_count_1 (by rw [c2]; decide) (by rw [c2]; decide) (by rw [c2]; rfl) (by decide) ?_
    refine lv_aload_n hx hb dX10_count_48 rfl (lv_at hl 0 rfl) ?_
    refine gX10_40 E.1 h dX10_count_49 ?_
    refine gX10_189 E.1 h dX10_count_52 ?_
    exact x_iret E.1 h hw dX10_count_55
  have hw := hw.2
  by_cases c3 : x1 = 2
  · have hw := hw.1 c3
    refine lv_tableIn (off := 55) (tgt := 56) hx hb dX10_count_1 (by rw [c3]; decide) (by rw [c3]; decide) (by rw [c3]; rfl) (by decide) ?_
    refine lv_aload_n hx hb dX10_count_56 rfl (lv_at hl 0 rfl) ?_
    refine gX10_47 E.1 h dX10_count_57 ?_
    refine gX10_193 E.1 h dX10_count_60 ?_
    exact x_iret E.1 h hw dX10_count_63
  have hw := hw.2
  by_cases c4 : x1 = 3
  · have hw := hw.1 c4
    refine lv_tableIn (off := 63) (tgt := 64) hx hb dX10_count_1 (by rw [c4]; decide) (by rw [c4]; decide) (by rw [c4]; rfl) (by decide) ?_
    refine lv_aload_n hx hb dX10_count_64 rfl (lv_at hl 0 rfl) ?_
    refine gX10_54 E.1 h dX10_count_65 ?_
    refine gX10_207 E.1 h dX10_count_68 ?_
    exact x_iret E.1 h hw dX10_count_71
  have hw := hw.2
  by_cases c5 : x1 = 4
  · have hw := hw.1 c5
    refine lv_tableIn (off := 71) (tgt := 72) hx hb dX10_count_1 (by rw [c5]; decide) (by rw [c5]; decide) (by rw [c5]; rfl) (by decide) ?_
    refine lv_aload_n hx hb dX10_count_72 rfl (lv_at hl 0 rfl) ?_
    refine gX10_26 E.1 h dX10_count_73 ?_
    refine gX10_89 E.1 h dX10_count_76 ?_
    exact x_iret E.1 h hw dX10_count_79
  have hw := hw.2
  by_cases c6 : x1 = 5
  · have hw := hw.1 c6
    refine lv_tableIn (off := 79) (tgt := 80) hx hb dX10_count_1 (by rw [c6]; decide) (by rw [c6]; decide) (by rw [c6]; rfl) (by decide) ?_
    refine lv_aload_n hx hb dX10_count_80 rfl (lv_at hl 0 rfl) ?_
    refine gX10_12 E.1 h dX10_count_81 ?_
    refine gX10_75 E.1 h dX10_count_84 ?_
    exact x_iret E.1 h hw dX10_count_87
  have hw := hw.2
  have hw := hw ⟨c1, c2, c3, c4, c5, c6⟩
  refine lv_tableOut (tgt := 88) hx hb dX10_count_1 (x_out 0 5 (fun k h1 h2 hk => by rcases (show k = 0 ∨ k = 1 ∨ k = 2 ∨ k = 3 ∨ k = 4 ∨ k = 5 by omega) with rfl | rfl | rfl | rfl | rfl | rfl <;> first | exact c1 (x_ofI hk rfl) | exact c2 (x_ofI hk rfl) | exact c3 (x_ofI hk rfl) | exact c4 (x_ofI hk rfl) | exact c5 (x_ofI hk rfl) | exact c6 (x_ofI hk rfl))) (by decide) ?_
  refine lv_iconst (v := (-1)) hx hb dX10_count_88 (by decide) ?_
  exact x_iret E.1 h hw dX10_count_89

end CWalk
