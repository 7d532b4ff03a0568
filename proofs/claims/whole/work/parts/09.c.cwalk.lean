section CWalk
variable {p : Program} {l : Launch} {e : Env} {s : State} {m : MethodId} {args : Array Value} {below : List Frame} {meth : Method} {c : Code} {D : va_G} {cy : Nat → ClassId} {ks : Nat × Nat × Option Nat} {q : Nat → Nat} {A : Nat → Prop}
abbrev rC_X4_findEffect : Room := { frames := 1, cells := 0, slots := 0, locals := 24 }
def wpC_X4_findEffect (σ : CS) (x1 : Int32) (Post : CS → Prop) : Prop := vp_in x1 10 ∧ vp_in x1 10 ∧ ∀ σ2 : CS, σ2 = cA σ 37 (upd (σ.2.1 37) x1.toNatClampNeg (σ.2.1 18 x1.toNatClampNeg)) → vp_in x1 10 ∧ ∀ σ4 : CS, σ4 = cA σ2 38 (upd (σ2.2.1 38) x1.toNatClampNeg ((-1))) → vp_in x1 10 ∧ ((σ4.2.1 20 x1.toNatClampNeg) = ((-1)) → Post σ4) ∧ (¬ (σ4.2.1 20 x1.toNatClampNeg) = ((-1)) → vp_in x1 10 ∧ wpC_X0_deciding σ4 (σ4.2.1 20 x1.toNatClampNeg) (fun r9 σ10 => (r9 = ((-1)) → vp_in x1 10 ∧ ∀ σ21 : CS, σ21 = cA σ10 37 (upd (σ10.2.1 37) x1.toNatClampNeg 10000) → vp_in x1 10 ∧ ∀ σ23 : CS, σ23 = cA σ21 38 (upd (σ21.2.1 38) x1.toNatClampNeg 2) → Post σ23) ∧ (¬ r9 = ((-1)) → vp_in x1 10 ∧ vp_in r9 200 ∧ ∀ y14 : Int32, y14 = (if (σ10.2.1 37 x1.toNatClampNeg) < (σ10.2.1 29 r9.toNatClampNeg) then (σ10.2.1 29 r9.toNatClampNeg) else (σ10.2.1 37 x1.toNatClampNeg)) → vp_in x1 10 ∧ ∀ σ15 : CS, σ15 = cA σ10 37 (upd (σ10.2.1 37) x1.toNatClampNeg y14) → vp_in r9 200 ∧ ((σ15.2.1 26 r9.toNatClampNeg) = 6 → vp_in x1 10 ∧ ∀ σ19 : CS, σ19 = cA σ15 38 (upd (σ15.2.1 38) x1.toNatClampNeg 3) → Post σ19) ∧ (¬ (σ15.2.1 26 r9.toNatClampNeg) = 6 → Post σ15))))
set_option maxHeartbeats 1000000 in
set_option maxRecDepth 20000 in
theorem cC_X4_findEffect {l : Launch} {D : va_G} {cy : Nat → ClassId} {ks : Nat × Nat × Option Nat} {q : Nat → Nat} {σ : CS} {sz : Nat} {x1 : Int32} {Post : CS → Prop} (hw : wpC_X4_findEffect σ x1 Post) : Met l yX4_findEffect (Cond.code yX4_findEffect cX4_findEffect 3 none :: wsA) rC_X4_findEffect (zPc D cy ks (CW q cy σ) sz [.ref (q 30), .int x1]) (va_Qv Post (xB D cy (CW q cy) (va_A (CW q cy σ) sz)) (va_A (CW q cy σ) sz)) 0 0 (va_A (CW q cy σ) sz) := by
  refine z_enter (own := RX4) (WW := CW q cy) (by decide) rfl (Nat.le_of_ble_eq_true rfl) ?_
  intro p e s m below meth c ls E h hl
  have hx := E.1.1
  have hb := E.1.2.1
  have hl : lv_has ls 3 [(0, .ref (q 30)), (1, .int x1)] := hl
  unfold wpC_X4_findEffect at hw
  refine lv_aload_n hx hb dX4_findEffect_0 rfl (lv_at hl 0 rfl) ?_
  refine gX4_25 E.1 h dX4_findEffect_1 ?_
  refine lv_iload_n hx hb dX4_findEffect_4 rfl (lv_at hl 1 rfl) ?_
  refine lv_aload_n hx hb dX4_findEffect_5 rfl (lv_at hl 0 rfl) ?_
  refine gX4_57 E.1 h dX4_findEffect_6 ?_
  refine gX4_119 E.1 h dX4_findEffect_9 ?_
  refine lv_iload_n hx hb dX4_findEffect_12 rfl (lv_at hl 1 rfl) ?_
  have h1 := hw.1
  have hw := hw.2
  refine aC_18 E.1 h h1 dX4_findEffect_13 ?_
  have h3 := hw.1
  have hw := hw.2
  refine sC_37 E.1 h h3 dX4_findEffect_14 (fun σ2 H locs eσ2 h => ?_)
  have hw := hw σ2 eσ2
  refine lv_aload_n hx hb dX4_findEffect_15 rfl (lv_at hl 0 rfl) ?_
  refine gX4_28 E.1 h dX4_findEffect_16 ?_
  refine lv_iload_n hx hb dX4_findEffect_19 rfl (lv_at hl 1 rfl) ?_
  refine lv_iconst (v := (-1)) hx hb dX4_findEffect_20 (by decide) ?_
  have h5 := hw.1
  have hw := hw.2
  refine sC_38 E.1 h h5 dX4_findEffect_21 (fun σ4 H locs eσ4 h => ?_)
  have hw := hw σ4 eσ4
  refine lv_aload_n hx hb dX4_findEffect_22 rfl (lv_at hl 0 rfl) ?_
  refine gX4_57 E.1 h dX4_findEffect_23 ?_
  refine gX4_87 E.1 h dX4_findEffect_26 ?_
  refine lv_iload_n hx hb dX4_findEffect_29 rfl (lv_at hl 1 rfl) ?_
  have h6 := hw.1
  have hw := hw.2
  refine aC_20 E.1 h h6 dX4_findEffect_30 ?_
  refine lv_iconst (v := (-1)) hx hb dX4_findEffect_31 (by decide) ?_
  refine lv_icmp_ne (tgt := 36) hx hb dX4_findEffect_32 (by decide) (fun c7 => ?_) (fun c7 => ?_)
  · have hw := hw.2 c7
    refine lv_aload_n hx hb dX4_findEffect_36 rfl (lv_at hl 0 rfl) ?_
    refine gX4_61 E.1 h dX4_findEffect_37 ?_
    refine lv_aload_n hx hb dX4_findEffect_40 rfl (lv_at hl 0 rfl) ?_
    refine gX4_57 E.1 h dX4_findEffect_41 ?_
    refine gX4_87 E.1 h dX4_findEffect_44 ?_
    refine lv_iload_n hx hb dX4_findEffect_47 rfl (lv_at hl 1 rfl) ?_
    have h8 := hw.1
    have hw := hw.2
    refine aC_20 E.1 h h8 dX4_findEffect_48 ?_
    refine x_calli h (z_runVN (WW := CW q cy) (rest := []) E h (cC_X0_deciding hw) yyX0_deciding lX4_138 25 rfl rfl ⟨Nat.le_of_ble_eq_true rfl, Nat.le_of_ble_eq_true rfl⟩ rfl rfl hl.1 rfl (Nat.le_of_ble_eq_true rfl) dX4_findEffect_49 ⟨Nat.le_refl 0, Nat.le_refl 0⟩) (fun r9 σ10 H locs hw h => ?_)
    refine lv_istore_n (lv' := [(2, .int r9), (0, .ref (q 30)), (1, .int x1)]) hx hb dX4_findEffect_52 rfl hl (by decide) rfl (fun ls hl => ?_)
    refine lv_iload_n hx hb dX4_findEffect_53 rfl (lv_at hl 0 rfl) ?_
    refine lv_iconst (v := (-1)) hx hb dX4_findEffect_54 (by decide) ?_
    refine lv_icmp_ne (tgt := 75) hx hb dX4_findEffect_55 (by decide) (fun c11 => ?_) (fun c11 => ?_)
    · have hw := hw.2 c11
      refine lv_aload_n hx hb dX4_findEffect_75 rfl (lv_at hl 1 rfl) ?_
      refine gX4_25 E.1 h dX4_findEffect_76 ?_
      refine lv_iload_n hx hb dX4_findEffect_79 rfl (lv_at hl 2 rfl) ?_
      refine lv_aload_n hx hb dX4_findEffect_80 rfl (lv_at hl 1 rfl) ?_
      refine gX4_25 E.1 h dX4_findEffect_81 ?_
      refine lv_iload_n hx hb dX4_findEffect_84 rfl (lv_at hl 2 rfl) ?_
      have h12 := hw.1
      have hw := hw.2
      refine aC_37 E.1 h h12 dX4_findEffect_85 ?_
      refine lv_aload_n hx hb dX4_findEffect_86 rfl (lv_at hl 1 rfl) ?_
      refine gX4_61 E.1 h dX4_findEffect_87 ?_
      refine gX4_142 E.1 h dX4_findEffect_90 ?_
      refine lv_iload_n hx hb dX4_findEffect_93 rfl (lv_at hl 0 rfl) ?_
      have h13 := hw.1
      have hw := hw.2
      refine aC_29 E.1 h h13 dX4_findEffect_94 ?_
      refine z_max E.1 hl.1 lX4_143 (Nat.le_of_ble_eq_true rfl) (Nat.le_of_ble_eq_true rfl) (Nat.le_refl 0) (Nat.le_refl 0) dX4_findEffect_95 ?_
      refine lv_topi (fun y14 ey14 => ?_)
      have hw := hw y14 ey14
      have h16 := hw.1
      have hw := hw.2
      refine sC_37 E.1 h h16 dX4_findEffect_98 (fun σ15 H locs eσ15 h => ?_)
      have hw := hw σ15 eσ15
      refine lv_aload_n hx hb dX4_findEffect_99 rfl (lv_at hl 1 rfl) ?_
      refine gX4_61 E.1 h dX4_findEffect_100 ?_
      refine gX4_148 E.1 h dX4_findEffect_103 ?_
      refine lv_iload_n hx hb dX4_findEffect_106 rfl (lv_at hl 0 rfl) ?_
      have h17 := hw.1
      have hw := hw.2
      refine aC_26 E.1 h h17 dX4_findEffect_107 ?_
      refine lv_bipush (v := 6) hx hb dX4_findEffect_108 (by decide) ?_
      refine lv_icmp_ne (tgt := 120) hx hb dX4_findEffect_110 (by decide) (fun c18 => ?_) (fun c18 => ?_)
      · have hw := hw.2 c18
        exact x_vret E.1 h hw dX4_findEffect_120
      · have hw := hw.1 c18
        refine lv_aload_n hx hb dX4_findEffect_113 rfl (lv_at hl 1 rfl) ?_
        refine gX4_28 E.1 h dX4_findEffect_114 ?_
        refine lv_iload_n hx hb dX4_findEffect_117 rfl (lv_at hl 2 rfl) ?_
        refine lv_iconst (v := 3) hx hb dX4_findEffect_118 (by decide) ?_
        have h20 := hw.1
        have hw := hw.2
        refine sC_38 E.1 h h20 dX4_findEffect_119 (fun σ19 H locs eσ19 h => ?_)
        have hw := hw σ19 eσ19
        exact x_vret E.1 h hw dX4_findEffect_120
    · have hw := hw.1 c11
      refine lv_aload_n hx hb dX4_findEffect_58 rfl (lv_at hl 1 rfl) ?_
      refine gX4_25 E.1 h dX4_findEffect_59 ?_
      refine lv_iload_n hx hb dX4_findEffect_62 rfl (lv_at hl 2 rfl) ?_
      refine lv_sipush (v := 10000) hx hb dX4_findEffect_63 (by decide) ?_
      have h22 := hw.1
      have hw := hw.2
      refine sC_37 E.1 h h22 dX4_findEffect_66 (fun σ21 H locs eσ21 h => ?_)
      have hw := hw σ21 eσ21
      refine lv_aload_n hx hb dX4_findEffect_67 rfl (lv_at hl 1 rfl) ?_
      refine gX4_28 E.1 h dX4_findEffect_68 ?_
      refine lv_iload_n hx hb dX4_findEffect_71 rfl (lv_at hl 2 rfl) ?_
      refine lv_iconst (v := 2) hx hb dX4_findEffect_72 (by decide) ?_
      have h24 := hw.1
      have hw := hw.2
      refine sC_38 E.1 h h24 dX4_findEffect_73 (fun σ23 H locs eσ23 h => ?_)
      have hw := hw σ23 eσ23
      exact x_vret E.1 h hw dX4_findEffect_74
  · have hw := hw.1 c7
    exact x_vret E.1 h hw dX4_findEffect_35

abbrev rC_X8_clear : Room := { frames := 1, cells := 0, slots := 0, locals := 23 }
def wpC_X8_clear (σ : CS) (Post : CS → Prop) : Prop := wpC_J7_fill_32 σ 0 (fun σ1 => Post σ1)
set_option maxHeartbeats 1000000 in
set_option maxRecDepth 20000 in
theorem cC_X8_clear {l : Launch} {D : va_G} {cy : Nat → ClassId} {ks : Nat × Nat × Option Nat} {q : Nat → Nat} {σ : CS} {sz : Nat} {Post : CS → Prop} (hw : wpC_X8_clear σ Post) : Met l yX8_clear (Cond.code yX8_clear cX8_clear 1 none :: wsA) rC_X8_clear (zPc D cy ks (CW q cy σ) sz [.ref (q 31)]) (va_Qv Post (xB D cy (CW q cy) (va_A (CW q cy σ) sz)) (va_A (CW q cy σ) sz)) 0 0 (va_A (CW q cy σ) sz) := by
  refine z_enter (own := RX8) (WW := CW q cy) (by decide) rfl (Nat.le_of_ble_eq_true rfl) ?_
  intro p e s m below meth c ls E h hl
  have hx := E.1.1
  have hb := E.1.2.1
  have hl : lv_has ls 1 [(0, .ref (q 31))] := hl
  unfold wpC_X8_clear at hw
  refine lv_aload_n hx hb dX8_clear_0 rfl (lv_at hl 0 rfl) ?_
  refine gX8_9 E.1 h dX8_clear_1 ?_
  refine lv_iconst (v := 0) hx hb dX8_clear_4 (by decide) ?_
  refine x_callv h (z_runSX (WW := CW q cy) (rest := []) E h (cC_J7_fill_32 hw) yyJ7_fill_53178 lX8_25 ⟨Nat.le_of_ble_eq_true rfl, Nat.le_of_ble_eq_true rfl⟩ rfl rfl hl.1 rfl (Nat.le_of_ble_eq_true rfl) dX8_clear_5 ⟨Nat.le_refl 0, Nat.le_refl 0⟩) (fun σ1 H locs hw h => ?_)
  exact x_vret E.1 h hw dX8_clear_8

abbrev rC_X4_isKin : Room := { frames := 3, cells := 0, slots := 0, locals := 67 }
def wpC_X4_isKin (σ : CS) (x1 : Int32) (x2 : Int32) (Post : Int32 → CS → Prop) : Prop := wpC_X1_has σ x1 (fun r1 σ2 => (r1 = 0 → Post 0 σ2) ∧ (¬ r1 = 0 → vp_in x2 10 ∧ wpC_X1_degreeOf σ2 x1 (σ2.2.1 15 x2.toNatClampNeg) (fun r5 σ6 => (r5 ≤ 4 → Post 1 σ6) ∧ (¬ r5 ≤ 4 → vp_in x2 10 ∧ wpC_X1_degreeOf σ6 x1 (σ6.2.1 16 x2.toNatClampNeg) (fun r9 σ10 => (4 < r9 → Post 0 σ10) ∧ (¬ 4 < r9 → Post 1 σ10))))))
set_option maxHeartbeats 1000000 in
set_option maxRecDepth 20000 in
theorem cC_X4_isKin {l : Launch} {D : va_G} {cy : Nat → ClassId} {ks : Nat × Nat × Option Nat} {q : Nat → Nat} {σ : CS} {sz : Nat} {x1 : Int32} {x2 : Int32} {Post : Int32 → CS → Prop} (hw : wpC_X4_isKin σ x1 x2 Post) : Met l yX4_isKin (Cond.code yX4_isKin cX4_isKin 3 (some .boolean) :: wsA) rC_X4_isKin (zPc D cy ks (CW q cy σ) sz [.ref (q 30), .int x1, .int x2]) (va_Qi Post (xB D cy (CW q cy) (va_A (CW q cy σ) sz)) (va_A (CW q cy σ) sz)) 0 0 (va_A (CW q cy σ) sz) := by
  refine z_enter (own := RX4) (WW := CW q cy) (by decide) rfl (Nat.le_of_ble_eq_true rfl) ?_
  intro p e s m below meth c ls E h hl
  have hx := E.1.1
  have hb := E.1.2.1
  have hl : lv_has ls 3 [(0, .ref (q 30)), (1, .int x1), (2, .int x2)] := hl
  unfold wpC_X4_isKin at hw
  refine lv_aload_n hx hb dX4_isKin_0 rfl (lv_at hl 0 rfl) ?_
  refine gX4_53 E.1 h dX4_isKin_1 ?_
  refine lv_iload_n hx hb dX4_isKin_4 rfl (lv_at hl 1 rfl) ?_
  refine x_calli h (z_runVN (WW := CW q cy) (rest := []) E h (cC_X1_has hw) yyX1_has lX4_162 8 rfl rfl ⟨Nat.le_of_ble_eq_true rfl, Nat.le_of_ble_eq_true rfl⟩ rfl rfl hl.1 rfl (Nat.le_of_ble_eq_true rfl) dX4_isKin_5 ⟨Nat.le_refl 0, Nat.le_refl 0⟩) (fun r1 σ2 H locs hw h => ?_)
  refine lv_if_eq (tgt := 57) hx hb dX4_isKin_8 (by decide) (fun c3 => ?_) (fun c3 => ?_)
  · have hw := hw.1 c3
    refine lv_iconst (v := 0) hx hb dX4_isKin_57 (by decide) ?_
    exact x_zret E.1 h rfl hw dX4_isKin_58
  · have hw := hw.2 c3
    refine lv_aload_n hx hb dX4_isKin_11 rfl (lv_at hl 0 rfl) ?_
    refine gX4_53 E.1 h dX4_isKin_12 ?_
    refine lv_iload_n hx hb dX4_isKin_15 rfl (lv_at hl 1 rfl) ?_
    refine lv_aload_n hx hb dX4_isKin_16 rfl (lv_at hl 0 rfl) ?_
    refine gX4_57 E.1 h dX4_isKin_17 ?_
    refine gX4_168 E.1 h dX4_isKin_20 ?_
    refine lv_iload_n hx hb dX4_isKin_23 rfl (lv_at hl 2 rfl) ?_
    have h4 := hw.1
    have hw := hw.2
    refine aC_15 E.1 h h4 dX4_isKin_24 ?_
    refine x_calli h (z_runVN (WW := CW q cy) (rest := []) E h (cC_X1_degreeOf hw) yyX1_degreeOf lX4_171 8 rfl rfl ⟨Nat.le_of_ble_eq_true rfl, Nat.le_of_ble_eq_true rfl⟩ rfl rfl hl.1 rfl (Nat.le_of_ble_eq_true rfl) dX4_isKin_25 ⟨Nat.le_refl 0, Nat.le_refl 0⟩) (fun r5 σ6 H locs hw h => ?_)
    refine lv_iconst (v := 4) hx hb dX4_isKin_28 (by decide) ?_
    refine lv_icmp_le (tgt := 53) hx hb dX4_isKin_29 (by decide) (fun c7 => ?_) (fun c7 => ?_)
    · have hw := hw.1 c7
      refine lv_iconst (v := 1) hx hb dX4_isKin_53 (by decide) ?_
      refine lv_goto (tgt := 58) hx hb dX4_isKin_54 (by decide) ?_
      exact x_zret E.1 h rfl hw dX4_isKin_58
    · have hw := hw.2 c7
      refine lv_aload_n hx hb dX4_isKin_32 rfl (lv_at hl 0 rfl) ?_
      refine gX4_53 E.1 h dX4_isKin_33 ?_
      refine lv_iload_n hx hb dX4_isKin_36 rfl (lv_at hl 1 rfl) ?_
      refine lv_aload_n hx hb dX4_isKin_37 rfl (lv_at hl 0 rfl) ?_
      refine gX4_57 E.1 h dX4_isKin_38 ?_
      refine gX4_174 E.1 h dX4_isKin_41 ?_
      refine lv_iload_n hx hb dX4_isKin_44 rfl (lv_at hl 2 rfl) ?_
      have h8 := hw.1
      have hw := hw.2
      refine aC_16 E.1 h h8 dX4_isKin_45 ?_
      refine x_calli h (z_runVN (WW := CW q cy) (rest := []) E h (cC_X1_degreeOf hw) yyX1_degreeOf lX4_171 8 rfl rfl ⟨Nat.le_of_ble_eq_true rfl, Nat.le_of_ble_eq_true rfl⟩ rfl rfl hl.1 rfl (Nat.le_of_ble_eq_true rfl) dX4_isKin_46 ⟨Nat.le_refl 0, Nat.le_refl 0⟩) (fun r9 σ10 H locs hw h => ?_)
      refine lv_iconst (v := 4) hx hb dX4_isKin_49 (by decide) ?_
      refine lv_icmp_gt (tgt := 57) hx hb dX4_isKin_50 (by decide) (fun c11 => ?_) (fun c11 => ?_)
      · have hw := hw.1 c11
        refine lv_iconst (v := 0) hx hb dX4_isKin_57 (by decide) ?_
        exact x_zret E.1 h rfl hw dX4_isKin_58
      · have hw := hw.2 c11
        refine lv_iconst (v := 1) hx hb dX4_isKin_53 (by decide) ?_
        refine lv_goto (tgt := 58) hx hb dX4_isKin_54 (by decide) ?_
        exact x_zret E.1 h rfl hw dX4_isKin_58

abbrev rC_X4_weighWords : Room := { frames := 4, cells := 0, slots := 0, locals := 89 }
def wpC_X4_weighWords_106 (K52 : CS → Int32 → Int32 → Prop) (Post : CS → Prop) (σ : CS) (x1 : Int32) (x3 : Int32) (t1 : Int32) : Prop := vp_in t1 12 ∧ vp_in t1 12 ∧ ∀ σ2 : CS, σ2 = cA σ 32 (upd (σ.2.1 32) t1.toNatClampNeg ((σ.2.1 32 t1.toNatClampNeg) + 1)) → ∀ y4 : Int32, y4 = x3 + 1 → K52 σ2 x1 y4
set_option maxHeartbeats 1000000 in
set_option maxRecDepth 20000 in
theorem wkC_X4_weighWords_106 {Post : CS → Prop} (E : zE cX4_weighWords RX4 5 none D cy ks A p s m args meth c) {K52 : CS → Int32 → Int32 → Prop} (hK52 : ∀ (σ : CS) (x1 : Int32) (x3 : Int32) (H : Heap) (locs : List Loc) (ls : Array Slot), xH D A s (CW q cy σ) H locs → K52 σ x1 x3 → lv_has ls 5 [(0, .ref (q 30)), (1, .int x1), (2, .ref (q 32)), (3, .int x3)] → W p l e rC_X4_weighWords s m args below meth c H locs 0 0 (MQ below (va_Qv Post (xB D cy (CW q cy) A) A) args s 0 0 A) (F0 m 52 ls [])) : ∀ (σ : CS) (x1 : Int32) (x3 : Int32) (t1 : Int32) (H : Heap) (locs : List Loc) (ls : Array Slot), xH D A s (CW q cy σ) H locs → wpC_X4_weighWords_106 K52 Post σ x1 x3 t1 → lv_has ls 5 [(0, .ref (q 30)), (1, .int x1), (2, .ref (q 32)), (3, .int x3)] → W p l e rC_X4_weighWords s m args below meth c H locs 0 0 (MQ below (va_Qv Post (xB D cy (CW q cy) A) A) args s 0 0 A) (F0 m 106 ls [.int t1, .ref (q 32)]) := by
  have hx := E.1.1
  have hb := E.1.2.1
  intro σ x1 x3 t1 H locs ls h hw hl
  unfold wpC_X4_weighWords_106 at hw
  refine lv_dup2_11 hx hb dX4_weighWords_106 rfl rfl ?_
  have h1 := hw.1
  have hw := hw.2
  refine aC_32 E.1 h h1 dX4_weighWords_107 ?_
  refine lv_iconst (v := 1) hx hb dX4_weighWords_108 (by decide) ?_
  refine lv_iadd hx hb dX4_weighWords_109 ?_
  have h3 := hw.1
  have hw := hw.2
  refine sC_32 E.1 h h3 dX4_weighWords_110 (fun σ2 H locs eσ2 h => ?_)
  have hw := hw σ2 eσ2
  refine lv_goto (tgt := 126) hx hb dX4_weighWords_111 (by decide) ?_
  obtain ⟨y4, ey4⟩ : ∃ z : Int32, z = x3 + 1 := ⟨_, rfl⟩
  have hw := hw y4 ey4
  refine lv_iinc (v := y4) (lv' := [(3, .int y4), (0, .ref (q 30)), (1, .int x1), (2, .ref (q 32))]) hx hb dX4_weighWords_126 hl (k := 3) rfl (by rw [ey4]; rfl) (by decide) rfl (fun ls hl => ?_)
  refine lv_goto (tgt := 52) hx hb dX4_weighWords_129 (by decide) ?_
  exact hK52 _ _ _ _ _ _ h hw (lv_sub hl [1, 2, 3, 0] rfl)

def wpC_X4_weighWords_84 (K52 : CS → Int32 → Int32 → Prop) (Post : CS → Prop) (σ : CS) (x1 : Int32) (x3 : Int32) (t0 : Int32) : Prop := wpC_X4_isKin σ x3 x1 (fun r1 σ2 => (r1 = 0 → (t0 = 0 → wpC_X4_weighWords_106 K52 Post σ2 x1 x3 1) ∧ (¬ t0 = 0 → wpC_X4_weighWords_106 K52 Post σ2 x1 x3 0)) ∧ (¬ r1 = 0 → (t0 = 0 → ∀ y5 : Int32, y5 = x3 + 1 → K52 σ2 x1 y5) ∧ (¬ t0 = 0 → vp_in 2 12 ∧ vp_in 2 12 ∧ ∀ σ7 : CS, σ7 = cA σ2 32 (upd (σ2.2.1 32) (2 : Int32).toNatClampNeg ((σ2.2.1 32 (2 : Int32).toNatClampNeg) + 1)) → ∀ y9 : Int32, y9 = x3 + 1 → K52 σ7 x1 y9)))
set_option maxHeartbeats 1000000 in
set_option maxRecDepth 20000 in
theorem wkC_X4_weighWords_84 {Post : CS → Prop} (E : zE cX4_weighWords RX4 5 none D cy ks A p s m args meth c) {K52 : CS → Int32 → Int32 → Prop} (hK52 : ∀ (σ : CS) (x1 : Int32) (x3 : Int32) (H : Heap) (locs : List Loc) (ls : Array Slot), xH D A s (CW q cy σ) H locs → K52 σ x1 x3 → lv_has ls 5 [(0, .ref (q 30)), (1, .int x1), (2, .ref (q 32)), (3, .int x3)] → W p l e rC_X4_weighWords s m args below meth c H locs 0 0 (MQ below (va_Qv Post (xB D cy (CW q cy) A) A) args s 0 0 A) (F0 m 52 ls [])) : ∀ (σ : CS) (x1 : Int32) (x3 : Int32) (t0 : Int32) (H : Heap) (locs : List Loc) (ls : Array Slot), xH D A s (CW q cy σ) H locs → wpC_X4_weighWords_84 K52 Post σ x1 x3 t0 → lv_has ls 5 [(0, .ref (q 30)), (1, .int x1), (2, .ref (q 32)), (3, .int x3)] → W p l e rC_X4_weighWords s m args below meth c H locs 0 0 (MQ below (va_Qv Post (xB D cy (CW q cy) A) A) args s 0 0 A) (F0 m 84 ls [.int t0]) := by
  have hx := E.1.1
  have hb := E.1.2.1
  intro σ x1 x3 t0 H locs ls h hw hl
  unfold wpC_X4_weighWords_84 at hw
  refine lv_istore (lv' := [(4, .int t0), (0, .ref (q 30)), (1, .int x1), (2, .ref (q 32)), (3, .int x3)]) hx hb dX4_weighWords_84 hl (by decide) rfl (fun ls hl => ?_)
  refine lv_aload_n hx hb dX4_weighWords_86 rfl (lv_at hl 1 rfl) ?_
  refine lv_iload_n hx hb dX4_weighWords_87 rfl (lv_at hl 4 rfl) ?_
  refine lv_iload_n hx hb dX4_weighWords_88 rfl (lv_at hl 2 rfl) ?_
  refine x_calli h (z_runV (WW := CW q cy) (rest := []) E h (cC_X4_isKin hw) yyX4_isKin lX4_158 30 rfl rfl ⟨Nat.le_of_ble_eq_true rfl, Nat.le_of_ble_eq_true rfl⟩ rfl rfl hl.1 rfl (Nat.le_of_ble_eq_true rfl) dX4_weighWords_89 ⟨Nat.le_refl 0, Nat.le_refl 0⟩) (fun r1 σ2 H locs hw h => ?_)
  refine lv_if_ne (tgt := 114) hx hb dX4_weighWords_92 (by decide) (fun c3 => ?_) (fun c3 => ?_)
  · have hw := hw.2 c3
    refine lv_iload hx hb dX4_weighWords_114 (lv_at hl 0 rfl) ?_
    refine lv_if_eq (tgt := 126) hx hb dX4_weighWords_116 (by decide) (fun c4 => ?_) (fun c4 => ?_)
    · have hw := hw.1 c4
      obtain ⟨y5, ey5⟩ : ∃ z : Int32, z = x3 + 1 := ⟨_, rfl⟩
      have hw := hw y5 ey5
      refine lv_iinc (v := y5) (lv' := [(3, .int y5), (4, .int t0), (0, .ref (q 30)), (1, .int x1), (2, .ref (q 32))]) hx hb dX4_weighWords_126 hl (k := 4) rfl (by rw [ey5]; rfl) (by decide) rfl (fun ls hl => ?_)
      refine lv_goto (tgt := 52) hx hb dX4_weighWords_129 (by decide) ?_
      exact hK52 _ _ _ _ _ _ h hw (lv_sub hl [2, 3, 4, 0] rfl)
    · have hw := hw.2 c4
      refine lv_aload_n hx hb dX4_weighWords_119 rfl (lv_at hl 3 rfl) ?_
      refine lv_iconst (v := 2) hx hb dX4_weighWords_120 (by decide) ?_
      refine lv_dup2_11 hx hb dX4_weighWords_121 rfl rfl ?_
      have h6 := hw.1
      have hw := hw.2
      refine aC_32 E.1 h h6 dX4_weighWords_122 ?_
      refine lv_iconst (v := 1) hx hb dX4_weighWords_123 (by decide) ?_
      refine lv_iadd hx hb dX4_weighWords_124 ?_
      have h8 := hw.1
      have hw := hw.2
      refine sC_32 E.1 h h8 dX4_weighWords_125 (fun σ7 H locs eσ7 h => ?_)
      have hw := hw σ7 eσ7
      obtain ⟨y9, ey9⟩ : ∃ z : Int32, z = x3 + 1 := ⟨_, rfl⟩
      have hw := hw y9 ey9
      refine lv_iinc (v := y9) (lv' := [(3, .int y9), (4, .int t0), (0, .ref (q 30)), (1, .int x1), (2, .ref (q 32))]) hx hb dX4_weighWords_126 hl (k := 4) rfl (by rw [ey9]; rfl) (by decide) rfl (fun ls hl => ?_)
      refine lv_goto (tgt := 52) hx hb dX4_weighWords_129 (by decide) ?_
      exact hK52 _ _ _ _ _ _ h hw (lv_sub hl [2, 3, 4, 0] rfl)
  · have hw := hw.1 c3
    refine lv_aload_n hx hb dX4_weighWords_95 rfl (lv_at hl 3 rfl) ?_
    refine lv_iload hx hb dX4_weighWords_96 (lv_at hl 0 rfl) ?_
    refine lv_if_eq (tgt := 105) hx hb dX4_weighWords_98 (by decide) (fun c10 => ?_) (fun c10 => ?_)
    · have hw := hw.1 c10
      refine lv_iconst (v := 1) hx hb dX4_weighWords_105 (by decide) ?_
      exact wkC_X4_weighWords_106 E hK52 _ _ _ _ _ _ _ h hw (lv_sub hl [1, 2, 3, 4] rfl)
    · have hw := hw.2 c10
      refine lv_iconst (v := 0) hx hb dX4_weighWords_101 (by decide) ?_
      refine lv_goto (tgt := 106) hx hb dX4_weighWords_102 (by decide) ?_
      exact wkC_X4_weighWords_106 E hK52 _ _ _ _ _ _ _ h hw (lv_sub hl [1, 2, 3, 4] rfl)

def wpC_X4_weighWords_52 (Post : CS → Prop) : Nat → CS → Int32 → Int32 → Prop
  | 0, _, _, _ => False
  | n + 1, σ, x1, x3 => (32 ≤ x3 → Post σ) ∧ (¬ 32 ≤ x3 → vp_in x3 32 ∧ ((σ.2.1 35 x3.toNatClampNeg) = ((-1)) → ∀ y4 : Int32, y4 = x3 + 1 → wpC_X4_weighWords_52 Post n σ x1 y4) ∧ (¬ (σ.2.1 35 x3.toNatClampNeg) = ((-1)) → vp_in x3 32 ∧ ((σ.2.1 35 x3.toNatClampNeg) = 7 → wpC_X4_weighWords_84 (fun a0 a1 a2 => wpC_X4_weighWords_52 Post n a0 a1 a2) Post σ x1 x3 1) ∧ (¬ (σ.2.1 35 x3.toNatClampNeg) = 7 → wpC_X4_weighWords_84 (fun a0 a1 a2 => wpC_X4_weighWords_52 Post n a0 a1 a2) Post σ x1 x3 0)))
set_option maxHeartbeats 1000000 in
set_option maxRecDepth 20000 in
theorem wkC_X4_weighWords_52 {Post : CS → Prop} (E : zE cX4_weighWords RX4 5 none D cy ks A p s m args meth c) : ∀ n : Nat, ∀ (σ : CS) (x1 : Int32) (x3 : Int32) (H : Heap) (locs : List Loc) (ls : Array Slot), xH D A s (CW q cy σ) H locs → wpC_X4_weighWords_52 Post n σ x1 x3 → lv_has ls 5 [(0, .ref (q 30)), (1, .int x1), (2, .ref (q 32)), (3, .int x3)] → W p l e rC_X4_weighWords s m args below meth c H locs 0 0 (MQ below (va_Qv Post (xB D cy (CW q cy) A) A) args s 0 0 A) (F0 m 52 ls []) := by
  have hx := E.1.1
  have hb := E.1.2.1
  intro n
  induction n with
  | zero => intro σ x1 x3 H locs ls h hw hl; exact False.elim hw
  | succ n ih =>
    intro σ x1 x3 H locs ls h hw hl
    refine lv_iload_n hx hb dX4_weighWords_52 rfl (lv_at hl 3 rfl) ?_
    refine lv_bipush (v := 32) hx hb dX4_weighWords_53 (by decide) ?_
    refine lv_icmp_ge (tgt := 132) hx hb dX4_weighWords_55 (by decide) (fun c1 => ?_) (fun c1 => ?_)
    · have hw := hw.1 c1
      exact x_vret E.1 h hw dX4_weighWords_132
    · have hw := hw.2 c1
      refine lv_aload_n hx hb dX4_weighWords_58 rfl (lv_at hl 0 rfl) ?_
      refine gX4_18 E.1 h dX4_weighWords_59 ?_
      refine lv_iload_n hx hb dX4_weighWords_62 rfl (lv_at hl 3 rfl) ?_
      have h2 := hw.1
      have hw := hw.2
      refine aC_35 E.1 h h2 dX4_weighWords_63 ?_
      refine lv_iconst (v := (-1)) hx hb dX4_weighWords_64 (by decide) ?_
      refine lv_icmp_eq (tgt := 126) hx hb dX4_weighWords_65 (by decide) (fun c3 => ?_) (fun c3 => ?_)
      · have hw := hw.1 c3
        obtain ⟨y4, ey4⟩ : ∃ z : Int32, z = x3 + 1 := ⟨_, rfl⟩
        have hw := hw y4 ey4
        refine lv_iinc (v := y4) (lv' := [(3, .int y4), (0, .ref (q 30)), (1, .int x1), (2, .ref (q 32))]) hx hb dX4_weighWords_126 hl (k := 3) rfl (by rw [ey4]; rfl) (by decide) rfl (fun ls hl => ?_)
        refine lv_goto (tgt := 52) hx hb dX4_weighWords_129 (by decide) ?_
        exact ih _ _ _ _ _ _ h hw (lv_sub hl [1, 2, 3, 0] rfl)
      · have hw := hw.2 c3
        refine lv_aload_n hx hb dX4_weighWords_68 rfl (lv_at hl 0 rfl) ?_
        refine gX4_18 E.1 h dX4_weighWords_69 ?_
        refine lv_iload_n hx hb dX4_weighWords_72 rfl (lv_at hl 3 rfl) ?_
        have h5 := hw.1
        have hw := hw.2
        refine aC_35 E.1 h h5 dX4_weighWords_73 ?_
        refine lv_bipush (v := 7) hx hb dX4_weighWords_74 (by decide) ?_
        refine lv_icmp_ne (tgt := 83) hx hb dX4_weighWords_76 (by decide) (fun c6 => ?_) (fun c6 => ?_)
        · have hw := hw.2 c6
          refine lv_iconst (v := 0) hx hb dX4_weighWords_83 (by decide) ?_
          exact wkC_X4_weighWords_84 E ih _ _ _ _ _ _ _ h hw (lv_sub hl [0, 1, 2, 3] rfl)
        · have hw := hw.1 c6
          refine lv_iconst (v := 1) hx hb dX4_weighWords_79 (by decide) ?_
          refine lv_goto (tgt := 84) hx hb dX4_weighWords_80 (by decide) ?_
          exact wkC_X4_weighWords_84 E ih _ _ _ _ _ _ _ h hw (lv_sub hl [0, 1, 2, 3] rfl)

def wpC_X4_weighWords (σ : CS) (x1 : Int32) (Post : CS → Prop) : Prop := wpC_X8_clear σ (fun σ1 => wpC_X0_famesOf σ1 x1 (fun r2 σ3 => vp_in 3 12 ∧ ∀ σ4 : CS, σ4 = cA σ3 32 (upd (σ3.2.1 32) (3 : Int32).toNatClampNeg r2) → vp_in x1 10 ∧ vp_in 4 12 ∧ ∀ σ7 : CS, σ7 = cA σ4 32 (upd (σ4.2.1 32) (4 : Int32).toNatClampNeg (σ4.2.1 19 x1.toNatClampNeg)) → wpC_X0_lastWords σ7 x1 (fun σ9 => ∃ g, wpC_X4_weighWords_52 Post g σ9 x1 0)))
set_option maxHeartbeats 1000000 in
set_option maxRecDepth 20000 in
theorem cC_X4_weighWords {l : Launch} {D : va_G} {cy : Nat → ClassId} {ks : Nat × Nat × Option Nat} {q : Nat → Nat} {σ : CS} {sz : Nat} {x1 : Int32} {Post : CS → Prop} (hw : wpC_X4_weighWords σ x1 Post) : Met l yX4_weighWords (Cond.code yX4_weighWords cX4_weighWords 5 none :: wsA) rC_X4_weighWords (zPc D cy ks (CW q cy σ) sz [.ref (q 30), .int x1]) (va_Qv Post (xB D cy (CW q cy) (va_A (CW q cy σ) sz)) (va_A (CW q cy σ) sz)) 0 0 (va_A (CW q cy σ) sz) := by
  refine z_enter (own := RX4) (WW := CW q cy) (by decide) rfl (Nat.le_of_ble_eq_true rfl) ?_
  intro p e s m below meth c ls E h hl
  have hx := E.1.1
  have hb := E.1.2.1
  have hl : lv_has ls 5 [(0, .ref (q 30)), (1, .int x1)] := hl
  unfold wpC_X4_weighWords at hw
  refine lv_aload_n hx hb dX4_weighWords_0 rfl (lv_at hl 0 rfl) ?_
  refine gX4_12 E.1 h dX4_weighWords_1 ?_
  refine gX4_97 E.1 h dX4_weighWords_4 ?_
  refine lv_astore_n (lv' := [(2, .ref (q 32)), (0, .ref (q 30)), (1, .int x1)]) hx hb dX4_weighWords_7 rfl hl (by decide) rfl (fun ls hl => ?_)
  refine lv_aload_n hx hb dX4_weighWords_8 rfl (lv_at hl 1 rfl) ?_
  refine gX4_12 E.1 h dX4_weighWords_9 ?_
  refine x_callv h (z_runVN (WW := CW q cy) (rest := []) E h (cC_X8_clear hw) yyX8_clear lX4_94 31 rfl rfl ⟨Nat.le_of_ble_eq_true rfl, Nat.le_of_ble_eq_true rfl⟩ rfl rfl hl.1 rfl (Nat.le_of_ble_eq_true rfl) dX4_weighWords_12 ⟨Nat.le_refl 0, Nat.le_refl 0⟩) (fun σ1 H locs hw h => ?_)
  refine lv_aload_n hx hb dX4_weighWords_15 rfl (lv_at hl 0 rfl) ?_
  refine lv_iconst (v := 3) hx hb dX4_weighWords_16 (by decide) ?_
  refine lv_aload_n hx hb dX4_weighWords_17 rfl (lv_at hl 1 rfl) ?_
  refine gX4_61 E.1 h dX4_weighWords_18 ?_
  refine lv_iload_n hx hb dX4_weighWords_21 rfl (lv_at hl 2 rfl) ?_
  refine x_calli h (z_runVN (WW := CW q cy) (rest := [.int 3, .ref (q 32)]) E h (cC_X0_famesOf hw) yyX0_famesOf lX4_151 25 rfl rfl ⟨Nat.le_of_ble_eq_true rfl, Nat.le_of_ble_eq_true rfl⟩ rfl rfl hl.1 rfl (Nat.le_of_ble_eq_true rfl) dX4_weighWords_22 ⟨Nat.le_refl 0, Nat.le_refl 0⟩) (fun r2 σ3 H locs hw h => ?_)
  have h5 := hw.1
  have hw := hw.2
  refine sC_32 E.1 h h5 dX4_weighWords_25 (fun σ4 H locs eσ4 h => ?_)
  have hw := hw σ4 eσ4
  refine lv_aload_n hx hb dX4_weighWords_26 rfl (lv_at hl 0 rfl) ?_
  refine lv_iconst (v := 4) hx hb dX4_weighWords_27 (by decide) ?_
  refine lv_aload_n hx hb dX4_weighWords_28 rfl (lv_at hl 1 rfl) ?_
  refine gX4_57 E.1 h dX4_weighWords_29 ?_
  refine gX4_103 E.1 h dX4_weighWords_32 ?_
  refine lv_iload_n hx hb dX4_weighWords_35 rfl (lv_at hl 2 rfl) ?_
  have h6 := hw.1
  have hw := hw.2
  refine aC_19 E.1 h h6 dX4_weighWords_36 ?_
  have h8 := hw.1
  have hw := hw.2
  refine sC_32 E.1 h h8 dX4_weighWords_37 (fun σ7 H locs eσ7 h => ?_)
  have hw := hw σ7 eσ7
  refine lv_aload_n hx hb dX4_weighWords_38 rfl (lv_at hl 1 rfl) ?_
  refine gX4_61 E.1 h dX4_weighWords_39 ?_
  refine lv_iload_n hx hb dX4_weighWords_42 rfl (lv_at hl 2 rfl) ?_
  refine lv_aload_n hx hb dX4_weighWords_43 rfl (lv_at hl 1 rfl) ?_
  refine gX4_18 E.1 h dX4_weighWords_44 ?_
  refine x_callv h (z_runVN (WW := CW q cy) (rest := []) E h (cC_X0_lastWords hw) yyX0_lastWords lX4_154 25 rfl rfl ⟨Nat.le_of_ble_eq_true rfl, Nat.le_of_ble_eq_true rfl⟩ rfl rfl hl.1 rfl (Nat.le_of_ble_eq_true rfl) dX4_weighWords_47 ⟨Nat.le_refl 0, Nat.le_refl 0⟩) (fun σ9 H locs hw h => ?_)
  refine lv_iconst (v := 0) hx hb dX4_weighWords_50 (by decide) ?_
  refine lv_istore_n (lv' := [(3, .int 0), (2, .ref (q 32)), (0, .ref (q 30)), (1, .int x1)]) hx hb dX4_weighWords_51 rfl hl (by decide) rfl (fun ls hl => ?_)
  obtain ⟨g, hw⟩ := hw
  exact wkC_X4_weighWords_52 E g _ _ _ _ _ _ h hw (lv_sub hl [2, 3, 1, 0] rfl)

abbrev rC_X6_inForce : Room := { frames := 0, cells := 0, slots := 0, locals := 0 }
def wpC_X6_inForce_8 (Post : Int32 → CS → Prop) : Nat → CS → Int32 → Int32 → Int32 → Int32 → Int32 → Prop
  | 0, _, _, _, _, _, _ => False
  | n + 1, σ, x1, x2, x3, x4, x5 => ((σ.1 122) ≤ x5 → Post x3 σ) ∧ (¬ (σ.1 122) ≤ x5 → vp_in x5 8 ∧ (∀ v3 : Nat, v3 = x5.toNatClampNeg + 1 → v3 < σ.2.2.1 → v3 < σ.2.2.1 ∧ (((σ.2.2.2 v3).1.1) = x1 → v3 < σ.2.2.1 ∧ (x2 < ((σ.2.2.2 v3).1.2) → ∀ y9 : Int32, y9 = x5 + 1 → wpC_X6_inForce_8 Post n σ x1 x2 x3 x4 y9) ∧ (¬ x2 < ((σ.2.2.2 v3).1.2) → v3 < σ.2.2.1 ∧ (((σ.2.2.2 v3).1.2) < x4 → ∀ y12 : Int32, y12 = x5 + 1 → wpC_X6_inForce_8 Post n σ x1 x2 x3 x4 y12) ∧ (¬ ((σ.2.2.2 v3).1.2) < x4 → v3 < σ.2.2.1 ∧ ∀ y14 : Int32, y14 = (σ.2.2.2 v3).1.2 → ∀ y15 : Int32, y15 = x5 + 1 → wpC_X6_inForce_8 Post n σ x1 x2 x5 y14 y15))) ∧ (¬ ((σ.2.2.2 v3).1.1) = x1 → ∀ y6 : Int32, y6 = x5 + 1 → wpC_X6_inForce_8 Post n σ x1 x2 x3 x4 y6)) ∧ (¬ x5.toNatClampNeg + 1 < σ.2.2.1 → ∀ y16 : Int32, y16 = x5 + 1 → wpC_X6_inForce_8 Post n σ x1 x2 x3 x4 y16))
set_option maxHeartbeats 1000000 in
set_option maxRecDepth 20000 in
theorem wkC_X6_inForce_8 {Post : Int32 → CS → Prop} (E : zE cX6_inForce RX6 7 (some .int) D cy ks A p s m args meth c) : ∀ n : Nat, ∀ (σ : CS) (x1 : Int32) (x2 : Int32) (x3 : Int32) (x4 : Int32) (x5 : Int32) (H : Heap) (locs : List Loc) (ls : Array Slot), xH D A s (CW q cy σ) H locs → wpC_X6_inForce_8 Post n σ x1 x2 x3 x4 x5 → lv_has ls 7 [(0, .ref (q 6)), (1, .int x1), (2, .int x2), (3, .int x3), (4, .int x4), (5, .int x5)] → W p l e rC_X6_inForce s m args below meth c H locs 0 0 (MQ below (va_Qi Post (xB D cy (CW q cy) A) A) args s 0 0 A) (F0 m 8 ls []) := by
  have hx := E.1.1
  have hb := E.1.2.1
  intro n
  induction n with
  | zero => intro σ x1 x2 x3 x4 x5 H locs ls h hw hl; exact False.elim hw
  | succ n ih =>
    intro σ x1 x2 x3 x4 x5 H locs ls h hw hl
    refine lv_iload hx hb dX6_inForce_8 (lv_at hl 5 rfl) ?_
    refine lv_aload_n hx hb dX6_inForce_10 rfl (lv_at hl 0 rfl) ?_
    refine gX6_24 E.1 h dX6_inForce_11 ?_
    refine lv_icmp_ge (tgt := 75) hx hb dX6_inForce_14 (by decide) (fun c1 => ?_) (fun c1 => ?_)
    · have hw := hw.1 c1
      refine lv_iload_n hx hb dX6_inForce_75 rfl (lv_at hl 3 rfl) ?_
      exact x_iret E.1 h hw dX6_inForce_76
    · have hw := hw.2 c1
      refine lv_aload_n hx hb dX6_inForce_17 rfl (lv_at hl 0 rfl) ?_
      refine gX6_11 E.1 h dX6_inForce_18 ?_
      refine lv_iload hx hb dX6_inForce_21 (lv_at hl 5 rfl) ?_
      have h2 := hw.1
      have hw := hw.2
      refine tC_texts E.1 h h2 dX6_inForce_23 (fun v3 ev3 lv3 => ?_) (fun cv3 => ?_)
      · have hw := hw.1 v3 ev3 lv3
        refine lv_astore (lv' := [(6, .ref (q (46 + 3 * v3))), (0, .ref (q 6)), (1, .int x1), (2, .int x2), (3, .int x3), (4, .int x4), (5, .int x5)]) hx hb dX6_inForce_24 hl (by decide) rfl (fun ls hl => ?_)
        refine lv_aload hx hb dX6_inForce_26 (lv_at hl 0 rfl) ?_
        refine lv_ifnull hx hb dX6_inForce_28 ?_
        refine lv_aload hx hb dX6_inForce_31 (lv_at hl 0 rfl) ?_
        have h4 := hw.1
        have hw := hw.2
        refine gX6_28 E.1 h h4 dX6_inForce_33 ?_
        refine lv_iload_n hx hb dX6_inForce_36 rfl (lv_at hl 2 rfl) ?_
        refine lv_icmp_ne (tgt := 69) hx hb dX6_inForce_37 (by decide) (fun c5 => ?_) (fun c5 => ?_)
        · have hw := hw.2 c5
          obtain ⟨y6, ey6⟩ : ∃ z : Int32, z = x5 + 1 := ⟨_, rfl⟩
          have hw := hw y6 ey6
          refine lv_iinc (v := y6) (lv' := [(5, .int y6), (6, .ref (q (46 + 3 * v3))), (0, .ref (q 6)), (1, .int x1), (2, .int x2), (3, .int x3), (4, .int x4)]) hx hb dX6_inForce_69 hl (k := 6) rfl (by rw [ey6]; rfl) (by decide) rfl (fun ls hl => ?_)
          refine lv_goto (tgt := 8) hx hb dX6_inForce_72 (by decide) ?_
          exact ih _ _ _ _ _ _ _ _ _ h hw (lv_sub hl [2, 3, 4, 5, 6, 0] rfl)
        · have hw := hw.1 c5
          refine lv_aload hx hb dX6_inForce_40 (lv_at hl 0 rfl) ?_
          have h7 := hw.1
          have hw := hw.2
          refine gX6_31 E.1 h h7 dX6_inForce_42 ?_
          refine lv_iload_n hx hb dX6_inForce_45 rfl (lv_at hl 3 rfl) ?_
          refine lv_icmp_gt (tgt := 69) hx hb dX6_inForce_46 (by decide) (fun c8 => ?_) (fun c8 => ?_)
          · have hw := hw.1 c8
            obtain ⟨y9, ey9⟩ : ∃ z : Int32, z = x5 + 1 := ⟨_, rfl⟩
            have hw := hw y9 ey9
            refine lv_iinc (v := y9) (lv' := [(5, .int y9), (6, .ref (q (46 + 3 * v3))), (0, .ref (q 6)), (1, .int x1), (2, .int x2), (3, .int x3), (4, .int x4)]) hx hb dX6_inForce_69 hl (k := 6) rfl (by rw [ey9]; rfl) (by decide) rfl (fun ls hl => ?_)
            refine lv_goto (tgt := 8) hx hb dX6_inForce_72 (by decide) ?_
            exact ih _ _ _ _ _ _ _ _ _ h hw (lv_sub hl [2, 3, 4, 5, 6, 0] rfl)
          · have hw := hw.2 c8
            refine lv_aload hx hb dX6_inForce_49 (lv_at hl 0 rfl) ?_
            have h10 := hw.1
            have hw := hw.2
            refine gX6_31 E.1 h h10 dX6_inForce_51 ?_
            refine lv_iload hx hb dX6_inForce_54 (lv_at hl 5 rfl) ?_
            refine lv_icmp_lt (tgt := 69) hx hb dX6_inForce_56 (by decide) (fun c11 => ?_) (fun c11 => ?_)
            · have hw := hw.1 c11
              obtain ⟨y12, ey12⟩ : ∃ z : Int32, z = x5 + 1 := ⟨_, rfl⟩
              have hw := hw y12 ey12
              refine lv_iinc (v := y12) (lv' := [(5, .int y12), (6, .ref (q (46 + 3 * v3))), (0, .ref (q 6)), (1, .int x1), (2, .int x2), (3, .int x3), (4, .int x4)]) hx hb dX6_inForce_69 hl (k := 6) rfl (by rw [ey12]; rfl) (by decide) rfl (fun ls hl => ?_)
              refine lv_goto (tgt := 8) hx hb dX6_inForce_72 (by decide) ?_
              exact ih _ _ _ _ _ _ _ _ _ h hw (lv_sub hl [2, 3, 4, 5, 6, 0] rfl)
            · have hw := hw.2 c11
              refine lv_iload hx hb dX6_inForce_59 (lv_at hl 6 rfl) ?_
              refine lv_istore_n (lv' := [(3, .int x5), (6, .ref (q (46 + 3 * v3))), (0, .ref (q 6)), (1, .int x1), (2, .int x2), (4, .int x4), (5, .int x5)]) hx hb dX6_inForce_61 rfl hl (by decide) rfl (fun ls hl => ?_)
              refine lv_aload hx hb dX6_inForce_62 (lv_at hl 1 rfl) ?_
              have h13 := hw.1
              have hw := hw.2
              refine gX6_31 E.1 h h13 dX6_inForce_64 ?_
              refine lv_topi (fun y14 ey14 => ?_)
              have hw := hw y14 ey14
              refine lv_istore (lv' := [(4, .int y14), (3, .int x5), (6, .ref (q (46 + 3 * v3))), (0, .ref (q 6)), (1, .int x1), (2, .int x2), (5, .int x5)]) hx hb dX6_inForce_67 hl (by decide) rfl (fun ls hl => ?_)
              obtain ⟨y15, ey15⟩ : ∃ z : Int32, z = x5 + 1 := ⟨_, rfl⟩
              have hw := hw y15 ey15
              refine lv_iinc (v := y15) (lv' := [(5, .int y15), (4, .int y14), (3, .int x5), (6, .ref (q (46 + 3 * v3))), (0, .ref (q 6)), (1, .int x1), (2, .int x2)]) hx hb dX6_inForce_69 hl (k := 6) rfl (by rw [ey15]; rfl) (by decide) rfl (fun ls hl => ?_)
              refine lv_goto (tgt := 8) hx hb dX6_inForce_72 (by decide) ?_
              exact ih _ _ _ _ _ _ _ _ _ h hw (lv_sub hl [4, 5, 6, 2, 1, 0] rfl)
      · have hw := hw.2 cv3
        refine lv_astoreN (lv' := [(6, .null), (0, .ref (q 6)), (1, .int x1), (2, .int x2), (3, .int x3), (4, .int x4), (5, .int x5)]) hx hb dX6_inForce_24 hl (by decide) rfl (fun ls hl => ?_)
        refine lv_aloadN hx hb dX6_inForce_26 (lv_at hl 0 rfl) ?_
        refine lv_ifnullN (tgt := 69) hx hb dX6_inForce_28 (by decide) ?_
        obtain ⟨y16, ey16⟩ : ∃ z : Int32, z = x5 + 1 := ⟨_, rfl⟩
        have hw := hw y16 ey16
        refine lv_iinc (v := y16) (lv' := [(5, .int y16), (6, .null), (0, .ref (q 6)), (1, .int x1), (2, .int x2), (3, .int x3), (4, .int x4)]) hx hb dX6_inForce_69 hl (k := 6) rfl (by rw [ey16]; rfl) (by decide) rfl (fun ls hl => ?_)
        refine lv_goto (tgt := 8) hx hb dX6_inForce_72 (by decide) ?_
        exact ih _ _ _ _ _ _ _ _ _ h hw (lv_sub hl [2, 3, 4, 5, 6, 0] rfl)

def wpC_X6_inForce (σ : CS) (x1 : Int32) (x2 : Int32) (Post : Int32 → CS → Prop) : Prop := ∃ g, wpC_X6_inForce_8 Post g σ x1 x2 ((-1)) ((-1)) 0
set_option maxHeartbeats 1000000 in
set_option maxRecDepth 20000 in
theorem cC_X6_inForce {l : Launch} {D : va_G} {cy : Nat → ClassId} {ks : Nat × Nat × Option Nat} {q : Nat → Nat} {σ : CS} {sz : Nat} {x1 : Int32} {x2 : Int32} {Post : Int32 → CS → Prop} (hw : wpC_X6_inForce σ x1 x2 Post) : Met l yX6_inForce (Cond.code yX6_inForce cX6_inForce 7 (some .int) :: wsA) rC_X6_inForce (zPc D cy ks (CW q cy σ) sz [.ref (q 6), .int x1, .int x2]) (va_Qi Post (xB D cy (CW q cy) (va_A (CW q cy σ) sz)) (va_A (CW q cy σ) sz)) 0 0 (va_A (CW q cy σ) sz) := by
  refine z_enter (own := RX6) (WW := CW q cy) (by decide) rfl (Nat.le_of_ble_eq_true rfl) ?_
  intro p e s m below meth c ls E h hl
  have hx := E.1.1
  have hb := E.1.2.1
  have hl : lv_has ls 7 [(0, .ref (q 6)), (1, .int x1), (2, .int x2)] := hl
  unfold wpC_X6_inForce at hw
  refine lv_iconst (v := (-1)) hx hb dX6_inForce_0 (by decide) ?_
  refine lv_istore_n (lv' := [(3, .int ((-1))), (0, .ref (q 6)), (1, .int x1), (2, .int x2)]) hx hb dX6_inForce_1 rfl hl (by decide) rfl (fun ls hl => ?_)
  refine lv_iconst (v := (-1)) hx hb dX6_inForce_2 (by decide) ?_
  refine lv_istore (lv' := [(4, .int ((-1))), (3, .int ((-1))), (0, .ref (q 6)), (1, .int x1), (2, .int x2)]) hx hb dX6_inForce_3 hl (by decide) rfl (fun ls hl => ?_)
  refine lv_iconst (v := 0) hx hb dX6_inForce_5 (by decide) ?_
  refine lv_istore (lv' := [(5, .int 0), (4, .int ((-1))), (3, .int ((-1))), (0, .ref (q 6)), (1, .int x1), (2, .int x2)]) hx hb dX6_inForce_6 hl (by decide) rfl (fun ls hl => ?_)
  obtain ⟨g, hw⟩ := hw
  exact wkC_X6_inForce_8 E g _ _ _ _ _ _ _ _ _ h hw (lv_sub hl [3, 4, 5, 2, 1, 0] rfl)

abbrev rC_X6_lawOn : Room := { frames := 1, cells := 0, slots := 0, locals := 26 }
def wpC_X6_lawOn (σ : CS) (x1 : Int32) (x2 : Int32) (Post : Nat → CS → Prop) : Prop := wpC_X6_inForce σ x1 x2 (fun r1 σ2 => (r1 < 0 → Post 0 σ2) ∧ (¬ r1 < 0 → vp_in r1 8 ∧ (∀ v5 : Nat, v5 = r1.toNatClampNeg + 1 → v5 < σ2.2.2.1 → vp_in r1 8 ∧ (∀ v7 : Nat, v7 = r1.toNatClampNeg + 1 → v7 < σ2.2.2.1 → Post v7 σ2) ∧ (¬ r1.toNatClampNeg + 1 < σ2.2.2.1 → False)) ∧ (¬ r1.toNatClampNeg + 1 < σ2.2.2.1 → Post 0 σ2)))
set_option maxHeartbeats 1000000 in
set_option maxRecDepth 20000 in
theorem cC_X6_lawOn {l : Launch} {D : va_G} {cy : Nat → ClassId} {ks : Nat × Nat × Option Nat} {q : Nat → Nat} {σ : CS} {sz : Nat} {x1 : Int32} {x2 : Int32} {Post : Nat → CS → Prop} (hw : wpC_X6_lawOn σ x1 x2 Post) : Met l yX6_lawOn (Cond.code yX6_lawOn cX6_lawOn 4 (some (.object "PromiseCourt$Law")) :: wsA) rC_X6_lawOn (zPc D cy ks (CW q cy σ) sz [.ref (q 6), .int x1, .int x2]) (va_Qr (fun u : Nat × CS => Post u.1 u.2) (zB D cy (fun r => q (46 + 3 * r)) (CW q cy) (va_A (CW q cy σ) sz)) (va_A (CW q cy σ) sz)) 0 0 (va_A (CW q cy σ) sz) := by
  refine z_enter (own := RX6) (WW := CW q cy) (by decide) rfl (Nat.le_of_ble_eq_true rfl) ?_
  intro p e s m below meth c ls E h hl
  have hx := E.1.1
  have hb := E.1.2.1
  have hl : lv_has ls 4 [(0, .ref (q 6)), (1, .int x1), (2, .int x2)] := hl
  unfold wpC_X6_lawOn at hw
  refine lv_aload_n hx hb dX6_lawOn_0 rfl (lv_at hl 0 rfl) ?_
  refine lv_iload_n hx hb dX6_lawOn_1 rfl (lv_at hl 1 rfl) ?_
  refine lv_iload_n hx hb dX6_lawOn_2 rfl (lv_at hl 2 rfl) ?_
  refine x_calli h (z_runV (WW := CW q cy) (rest := []) E h (cC_X6_inForce hw) yyX6_inForce lX6_34 6 rfl rfl ⟨Nat.le_of_ble_eq_true rfl, Nat.le_of_ble_eq_true rfl⟩ rfl rfl hl.1 rfl (Nat.le_of_ble_eq_true rfl) dX6_lawOn_3 ⟨Nat.le_refl 0, Nat.le_refl 0⟩) (fun r1 σ2 H locs hw h => ?_)
  refine lv_istore_n (lv' := [(3, .int r1), (0, .ref (q 6)), (1, .int x1), (2, .int x2)]) hx hb dX6_lawOn_6 rfl hl (by decide) rfl (fun ls hl => ?_)
  refine lv_iload_n hx hb dX6_lawOn_7 rfl (lv_at hl 0 rfl) ?_
  refine lv_if_lt (tgt := 20) hx hb dX6_lawOn_8 (by decide) (fun c3 => ?_) (fun c3 => ?_)
  · have hw := hw.1 c3
    refine lv_aload_n hx hb dX6_lawOn_20 rfl (lv_at hl 1 rfl) ?_
    refine gX6_20 E.1 h dX6_lawOn_21 ?_
    exact z_aret (at0 := fun r => q (46 + 3 * r)) E.1 h hw dX6_lawOn_24
  · have hw := hw.2 c3
    refine lv_aload_n hx hb dX6_lawOn_11 rfl (lv_at hl 1 rfl) ?_
    refine gX6_11 E.1 h dX6_lawOn_12 ?_
    refine lv_iload_n hx hb dX6_lawOn_15 rfl (lv_at hl 0 rfl) ?_
    have h4 := hw.1
    have hw := hw.2
    refine tC_texts E.1 h h4 dX6_lawOn_16 (fun v5 ev5 lv5 => ?_) (fun cv5 => ?_)
    · have hw := hw.1 v5 ev5 lv5
      refine lv_ifnonnull (tgt := 25) hx hb dX6_lawOn_17 (by decide) ?_
      refine lv_aload_n hx hb dX6_lawOn_25 rfl (lv_at hl 1 rfl) ?_
      refine gX6_11 E.1 h dX6_lawOn_26 ?_
      refine lv_iload_n hx hb dX6_lawOn_29 rfl (lv_at hl 0 rfl) ?_
      have h6 := hw.1
      have hw := hw.2
      refine tC_texts E.1 h h6 dX6_lawOn_30 (fun v7 ev7 lv7 => ?_) (fun cv7 => ?_)
      · have hw := hw.1 v7 ev7 lv7
        exact z_aret (at0 := fun r => q (46 + 3 * r)) E.1 h hw dX6_lawOn_31
      · have hw := hw.2 cv7
        exact False.elim hw
    · have hw := hw.2 cv5
      refine lv_ifnonnullN hx hb dX6_lawOn_17 ?_
      refine lv_aload_n hx hb dX6_lawOn_20 rfl (lv_at hl 1 rfl) ?_
      refine gX6_20 E.1 h dX6_lawOn_21 ?_
      exact z_aret (at0 := fun r => q (46 + 3 * r)) E.1 h hw dX6_lawOn_24

abbrev rC_X4_lawOf : Room := { frames := 2, cells := 0, slots := 0, locals := 49 }
def wpC_X4_lawOf (σ : CS) (x1 : Int32) (Post : Nat → CS → Prop) : Prop := vp_in x1 10 ∧ vp_in x1 10 ∧ wpC_X6_lawOn σ (σ.2.1 17 x1.toNatClampNeg) (σ.2.1 18 x1.toNatClampNeg) (fun r3 σ4 => Post r3 σ4)
set_option maxHeartbeats 1000000 in
set_option maxRecDepth 20000 in
theorem cC_X4_lawOf {l : Launch} {D : va_G} {cy : Nat → ClassId} {ks : Nat × Nat × Option Nat} {q : Nat → Nat} {σ : CS} {sz : Nat} {x1 : Int32} {Post : Nat → CS → Prop} (hw : wpC_X4_lawOf σ x1 Post) : Met l yX4_lawOf (Cond.code yX4_lawOf cX4_lawOf 2 (some (.object "PromiseCourt$Law")) :: wsA) rC_X4_lawOf (zPc D cy ks (CW q cy σ) sz [.ref (q 30), .int x1]) (va_Qr (fun u : Nat × CS => Post u.1 u.2) (zB D cy (fun r => q (46 + 3 * r)) (CW q cy) (va_A (CW q cy σ) sz)) (va_A (CW q cy σ) sz)) 0 0 (va_A (CW q cy σ) sz) := by
  refine z_enter (own := RX4) (WW := CW q cy) (by decide) rfl (Nat.le_of_ble_eq_true rfl) ?_
  intro p e s m below meth c ls E h hl
  have hx := E.1.1
  have hb := E.1.2.1
  have hl : lv_has ls 2 [(0, .ref (q 30)), (1, .int x1)] := hl
  unfold wpC_X4_lawOf at hw
  refine lv_aload_n hx hb dX4_lawOf_0 rfl (lv_at hl 0 rfl) ?_
  refine gX4_49 E.1 h dX4_lawOf_1 ?_
  refine lv_aload_n hx hb dX4_lawOf_4 rfl (lv_at hl 0 rfl) ?_
  refine gX4_57 E.1 h dX4_lawOf_5 ?_
  refine gX4_116 E.1 h dX4_lawOf_8 ?_
  refine lv_iload_n hx hb dX4_lawOf_11 rfl (lv_at hl 1 rfl) ?_
  have h1 := hw.1
  have hw := hw.2
  refine aC_17 E.1 h h1 dX4_lawOf_12 ?_
  refine lv_aload_n hx hb dX4_lawOf_13 rfl (lv_at hl 0 rfl) ?_
  refine gX4_57 E.1 h dX4_lawOf_14 ?_
  refine gX4_119 E.1 h dX4_lawOf_17 ?_
  refine lv_iload_n hx hb dX4_lawOf_20 rfl (lv_at hl 1 rfl) ?_
  have h2 := hw.1
  have hw := hw.2
  refine aC_18 E.1 h h2 dX4_lawOf_21 ?_
  refine z_callr (at0 := fun r => q (46 + 3 * r)) h (z_runVN (WW := CW q cy) (rest := []) E h (cC_X6_lawOn hw) yyX6_lawOn lX4_122 6 rfl rfl ⟨Nat.le_of_ble_eq_true rfl, Nat.le_of_ble_eq_true rfl⟩ rfl rfl hl.1 rfl (Nat.le_of_ble_eq_true rfl) dX4_lawOf_22 ⟨Nat.le_refl 0, Nat.le_refl 0⟩) (fun r3 σ4 H locs hw h => ?_)
  exact z_aret (at0 := fun r => q (46 + 3 * r)) E.1 h hw dX4_lawOf_25

abbrev rC_X5_tokenAt : Room := { frames := 0, cells := 0, slots := 0, locals := 0 }
def wpC_X5_tokenAt (σ : CS) (x0 : Nat) (x1 : Int32) (Post : Int32 → CS → Prop) : Prop := (x1 < 0 → Post ((-1)) σ) ∧ (¬ x1 < 0 → x0 < σ.2.2.1 ∧ x0 < σ.2.2.1 ∧ ((Int32.ofNat (σ.2.2.2 x0).2.1.1) ≤ x1 → Post ((-1)) σ) ∧ (¬ (Int32.ofNat (σ.2.2.2 x0).2.1.1) ≤ x1 → x0 < σ.2.2.1 ∧ x0 < σ.2.2.1 ∧ vp_in x1 (σ.2.2.2 x0).2.1.1 ∧ Post ((σ.2.2.2 x0).2.1.2 x1.toNatClampNeg) σ))
set_option maxHeartbeats 1000000 in
set_option maxRecDepth 20000 in
theorem cC_X5_tokenAt {l : Launch} {D : va_G} {cy : Nat → ClassId} {ks : Nat × Nat × Option Nat} {q : Nat → Nat} {σ : CS} {sz : Nat} {x0 : Nat} {x1 : Int32} {Post : Int32 → CS → Prop} (hw : wpC_X5_tokenAt σ x0 x1 Post) : Met l yX5_tokenAt (Cond.code yX5_tokenAt cX5_tokenAt 2 (some .int) :: wsA) rC_X5_tokenAt (zPc D cy ks (CW q cy σ) sz [.ref (q (46 + 3 * x0)), .int x1]) (va_Qi Post (xB D cy (CW q cy) (va_A (CW q cy σ) sz)) (va_A (CW q cy σ) sz)) 0 0 (va_A (CW q cy σ) sz) := by
  refine z_enter (own := RX5) (WW := CW q cy) (by decide) rfl (Nat.le_of_ble_eq_true rfl) ?_
  intro p e s m below meth c ls E h hl
  have hx := E.1.1
  have hb := E.1.2.1
  have hl : lv_has ls 2 [(0, .ref (q (46 + 3 * x0))), (1, .int x1)] := hl
  unfold wpC_X5_tokenAt at hw
  refine lv_iload_n hx hb dX5_tokenAt_0 rfl (lv_at hl 1 rfl) ?_
  refine lv_if_lt (tgt := 22) hx hb dX5_tokenAt_1 (by decide) (fun c1 => ?_) (fun c1 => ?_)
  · have hw := hw.1 c1
    refine lv_iconst (v := (-1)) hx hb dX5_tokenAt_22 (by decide) ?_
    exact x_iret E.1 h hw dX5_tokenAt_23
  · have hw := hw.2 c1
    refine lv_iload_n hx hb dX5_tokenAt_4 rfl (lv_at hl 1 rfl) ?_
    refine lv_aload_n hx hb dX5_tokenAt_5 rfl (lv_at hl 0 rfl) ?_
    have h2 := hw.1
    have hw := hw.2
    refine gX5_18 E.1 h h2 dX5_tokenAt_6 ?_
    have h3 := hw.1
    have hw := hw.2
    refine nC_LT E.1 h h3 dX5_tokenAt_9 ?_
    refine lv_icmp_ge (tgt := 22) hx hb dX5_tokenAt_10 (by decide) (fun c4 => ?_) (fun c4 => ?_)
    · have hw := hw.1 c4
      refine lv_iconst (v := (-1)) hx hb dX5_tokenAt_22 (by decide) ?_
      exact x_iret E.1 h hw dX5_tokenAt_23
    · have hw := hw.2 c4
      refine lv_aload_n hx hb dX5_tokenAt_13 rfl (lv_at hl 0 rfl) ?_
      have h5 := hw.1
      have hw := hw.2
      refine gX5_18 E.1 h h5 dX5_tokenAt_14 ?_
      refine lv_iload_n hx hb dX5_tokenAt_17 rfl (lv_at hl 1 rfl) ?_
      have h6 := hw.1
      have hw := hw.2
      have h7 := hw.1
      have hw := hw.2
      refine aC_LT E.1 h h6 h7 dX5_tokenAt_18 ?_
      refine lv_goto (tgt := 23) hx hb dX5_tokenAt_19 (by decide) ?_
      exact x_iret E.1 h hw dX5_tokenAt_23

abbrev rC_X8_valueOf : Room := { frames := 1, cells := 0, slots := 0, locals := 13 }
def wpC_X8_valueOf_251 (Post : Int32 → CS → Prop) (σ : CS) (x4 : Int32) : Prop := ∀ σ1 : CS, σ1 = cF σ 623 x4 → vp_in 0 7 ∧ vp_in 0 7 ∧ Post ((σ1.2.1 33 (0 : Int32).toNatClampNeg) + (σ1.2.1 34 (0 : Int32).toNatClampNeg)) σ1
set_option maxHeartbeats 1000000 in
set_option maxRecDepth 20000 in
theorem wkC_X8_valueOf_251 {Post : Int32 → CS → Prop} (E : zE cX8_valueOf RX8 6 (some .int) D cy ks A p s m args meth c) : ∀ (σ : CS) (x4 : Int32) (H : Heap) (locs : List Loc) (ls : Array Slot), xH D A s (CW q cy σ) H locs → wpC_X8_valueOf_251 Post σ x4 → lv_has ls 6 [(0, .ref (q 31)), (4, .int x4)] → W p l e rC_X8_valueOf s m args below meth c H locs 0 0 (MQ below (va_Qi Post (xB D cy (CW q cy) A) A) args s 0 0 A) (F0 m 251 ls []) := by
  have hx := E.1.1
  have hb := E.1.2.1
  intro σ x4 H locs ls h hw hl
  unfold wpC_X8_valueOf_251 at hw
  refine lv_aload_n hx hb dX8_valueOf_251 rfl (lv_at hl 0 rfl) ?_
  refine lv_iload hx hb dX8_valueOf_252 (lv_at hl 1 rfl) ?_
  refine pX8_21 E.1 h dX8_valueOf_254 (fun σ1 H locs eσ1 h => ?_)
  have hw := hw σ1 eσ1
  refine lv_aload_n hx hb dX8_valueOf_257 rfl (lv_at hl 0 rfl) ?_
  refine gX8_15 E.1 h dX8_valueOf_258 ?_
  refine lv_iconst (v := 0) hx hb dX8_valueOf_261 (by decide) ?_
  have h2 := hw.1
  have hw := hw.2
  refine aC_33 E.1 h h2 dX8_valueOf_262 ?_
  refine lv_aload_n hx hb dX8_valueOf_263 rfl (lv_at hl 0 rfl) ?_
  refine gX8_18 E.1 h dX8_valueOf_264 ?_
  refine lv_iconst (v := 0) hx hb dX8_valueOf_267 (by decide) ?_
  have h3 := hw.1
  have hw := hw.2
  refine aC_34 E.1 h h3 dX8_valueOf_268 ?_
  refine lv_iadd hx hb dX8_valueOf_269 ?_
  exact x_iret E.1 h hw dX8_valueOf_270

def wpC_X8_valueOf_152 (K23 : CS → Nat → Int32 → Int32 → Prop) (Post : Int32 → CS → Prop) (σ : CS) (x1 : Nat) (x3 : Int32) (x4 : Int32) (t1 : Int32) (t2 : Int32) : Prop := vp_in t1 7 ∧ ∀ σ1 : CS, σ1 = cA σ 34 (upd (σ.2.1 34) t1.toNatClampNeg t2) → ∀ y3 : Int32, y3 = x4 + 1 → K23 σ1 x1 x3 y3
set_option maxHeartbeats 1000000 in
set_option maxRecDepth 20000 in
theorem wkC_X8_valueOf_152 {Post : Int32 → CS → Prop} (E : zE cX8_valueOf RX8 6 (some .int) D cy ks A p s m args meth c) {K23 : CS → Nat → Int32 → Int32 → Prop} (hK23 : ∀ (σ : CS) (x1 : Nat) (x3 : Int32) (x4 : Int32) (H : Heap) (locs : List Loc) (ls : Array Slot), xH D A s (CW q cy σ) H locs → K23 σ x1 x3 x4 → lv_has ls 6 [(0, .ref (q 31)), (1, .ref (q (46 + 3 * x1))), (3, .int x3), (4, .int x4)] → W p l e rC_X8_valueOf s m args below meth c H locs 0 0 (MQ below (va_Qi Post (xB D cy (CW q cy) A) A) args s 0 0 A) (F0 m 23 ls [])) : ∀ (σ : CS) (x1 : Nat) (x3 : Int32) (x4 : Int32) (t1 : Int32) (t2 : Int32) (H : Heap) (locs : List Loc) (ls : Array Slot), xH D A s (CW q cy σ) H locs → wpC_X8_valueOf_152 K23 Post σ x1 x3 x4 t1 t2 → lv_has ls 6 [(0, .ref (q 31)), (1, .ref (q (46 + 3 * x1))), (3, .int x3), (4, .int x4)] → W p l e rC_X8_valueOf s m args below meth c H locs 0 0 (MQ below (va_Qi Post (xB D cy (CW q cy) A) A) args s 0 0 A) (F0 m 152 ls [.int t2, .int t1, .ref (q 34)]) := by
  have hx := E.1.1
  have hb := E.1.2.1
  intro σ x1 x3 x4 t1 t2 H locs ls h hw hl
  unfold wpC_X8_valueOf_152 at hw
  have h2 := hw.1
  have hw := hw.2
  refine sC_34 E.1 h h2 dX8_valueOf_152 (fun σ1 H locs eσ1 h => ?_)
  have hw := hw σ1 eσ1
  refine lv_goto (tgt := 245) hx hb dX8_valueOf_153 (by decide) ?_
  obtain ⟨y3, ey3⟩ : ∃ z : Int32, z = x4 + 1 := ⟨_, rfl⟩
  have hw := hw y3 ey3
  refine lv_iinc (v := y3) (lv' := [(4, .int y3), (0, .ref (q 31)), (1, .ref (q (46 + 3 * x1))), (3, .int x3)]) hx hb dX8_valueOf_245 hl (k := 3) rfl (by rw [ey3]; rfl) (by decide) rfl (fun ls hl => ?_)
  refine lv_goto (tgt := 23) hx hb dX8_valueOf_248 (by decide) ?_
  exact hK23 _ _ _ _ _ _ _ h hw (lv_sub hl [1, 2, 3, 0] rfl)

def wpC_X8_valueOf_119 (K23 : CS → Nat → Int32 → Int32 → Prop) (Post : Int32 → CS → Prop) (σ : CS) (x1 : Nat) (x3 : Int32) (x4 : Int32) (x5 : Int32) : Prop := vp_in x3 7 ∧ vp_in x3 7 ∧ vp_in x3 7 ∧ ∀ σ3 : CS, σ3 = cA σ 33 (upd (σ.2.1 33) x3.toNatClampNeg ((σ.2.1 33 x3.toNatClampNeg) + (σ.2.1 34 x3.toNatClampNeg))) → (x5 = 10021 → wpC_X8_valueOf_152 K23 Post σ3 x1 x3 x4 x3 1) ∧ (¬ x5 = 10021 → wpC_X8_valueOf_152 K23 Post σ3 x1 x3 x4 x3 ((-1)))
set_option maxHeartbeats 1000000 in
set_option maxRecDepth 20000 in
theorem wkC_X8_valueOf_119 {Post : Int32 → CS → Prop} (E : zE cX8_valueOf RX8 6 (some .int) D cy ks A p s m args meth c) {K23 : CS → Nat → Int32 → Int32 → Prop} (hK23 : ∀ (σ : CS) (x1 : Nat) (x3 : Int32) (x4 : Int32) (H : Heap) (locs : List Loc) (ls : Array Slot), xH D A s (CW q cy σ) H locs → K23 σ x1 x3 x4 → lv_has ls 6 [(0, .ref (q 31)), (1, .ref (q (46 + 3 * x1))), (3, .int x3), (4, .int x4)] → W p l e rC_X8_valueOf s m args below meth c H locs 0 0 (MQ below (va_Qi Post (xB D cy (CW q cy) A) A) args s 0 0 A) (F0 m 23 ls [])) : ∀ (σ : CS) (x1 : Nat) (x3 : Int32) (x4 : Int32) (x5 : Int32) (H : Heap) (locs : List Loc) (ls : Array Slot), xH D A s (CW q cy σ) H locs → wpC_X8_valueOf_119 K23 Post σ x1 x3 x4 x5 → lv_has ls 6 [(0, .ref (q 31)), (1, .ref (q (46 + 3 * x1))), (3, .int x3), (4, .int x4), (5, .int x5)] → W p l e rC_X8_valueOf s m args below meth c H locs 0 0 (MQ below (va_Qi Post (xB D cy (CW q cy) A) A) args s 0 0 A) (F0 m 119 ls []) := by
  have hx := E.1.1
  have hb := E.1.2.1
  intro σ x1 x3 x4 x5 H locs ls h hw hl
  unfold wpC_X8_valueOf_119 at hw
  refine lv_aload_n hx hb dX8_valueOf_119 rfl (lv_at hl 0 rfl) ?_
  refine gX8_15 E.1 h dX8_valueOf_120 ?_
  refine lv_iload_n hx hb dX8_valueOf_123 rfl (lv_at hl 2 rfl) ?_
  refine lv_dup2_11 hx hb dX8_valueOf_124 rfl rfl ?_
  have h1 := hw.1
  have hw := hw.2
  refine aC_33 E.1 h h1 dX8_valueOf_125 ?_
  refine lv_aload_n hx hb dX8_valueOf_126 rfl (lv_at hl 0 rfl) ?_
  refine gX8_18 E.1 h dX8_valueOf_127 ?_
  refine lv_iload_n hx hb dX8_valueOf_130 rfl (lv_at hl 2 rfl) ?_
  have h2 := hw.1
  have hw := hw.2
  refine aC_34 E.1 h h2 dX8_valueOf_131 ?_
  refine lv_iadd hx hb dX8_valueOf_132 ?_
  have h4 := hw.1
  have hw := hw.2
  refine sC_33 E.1 h h4 dX8_valueOf_133 (fun σ3 H locs eσ3 h => ?_)
  have hw := hw σ3 eσ3
  refine lv_aload_n hx hb dX8_valueOf_134 rfl (lv_at hl 0 rfl) ?_
  refine gX8_18 E.1 h dX8_valueOf_135 ?_
  refine lv_iload_n hx hb dX8_valueOf_138 rfl (lv_at hl 2 rfl) ?_
  refine lv_iload hx hb dX8_valueOf_139 (lv_at hl 4 rfl) ?_
  refine lv_sipush (v := 10021) hx hb dX8_valueOf_141 (by decide) ?_
  refine lv_icmp_ne (tgt := 151) hx hb dX8_valueOf_144 (by decide) (fun c5 => ?_) (fun c5 => ?_)
  · have hw := hw.2 c5
    refine lv_iconst (v := (-1)) hx hb dX8_valueOf_151 (by decide) ?_
    exact wkC_X8_valueOf_152 E hK23 _ _ _ _ _ _ _ _ _ h hw (lv_sub hl [0, 1, 2, 3] rfl)
  · have hw := hw.1 c5
    refine lv_iconst (v := 1) hx hb dX8_valueOf_147 (by decide) ?_
    refine lv_goto (tgt := 152) hx hb dX8_valueOf_148 (by decide) ?_
    exact wkC_X8_valueOf_152 E hK23 _ _ _ _ _ _ _ _ _ h hw (lv_sub hl [0, 1, 2, 3] rfl)

def wpC_X8_valueOf_234 (K23 : CS → Nat → Int32 → Int32 → Prop) (Post : Int32 → CS → Prop) (σ : CS) (x1 : Nat) (x3 : Int32) (x4 : Int32) (x5 : Int32) : Prop := (x5 = 10023 → ∀ y2 : Int32, y2 = x4 + 1 → K23 σ x1 x3 y2) ∧ (¬ x5 = 10023 → wpC_X8_valueOf_251 Post σ x4)
set_option maxHeartbeats 1000000 in
set_option maxRecDepth 20000 in
theorem wkC_X8_valueOf_234 {Post : Int32 → CS → Prop} (E : zE cX8_valueOf RX8 6 (some .int) D cy ks A p s m args meth c) {K23 : CS → Nat → Int32 → Int32 → Prop} (hK23 : ∀ (σ : CS) (x1 : Nat) (x3 : Int32) (x4 : Int32) (H : Heap) (locs : List Loc) (ls : Array Slot), xH D A s (CW q cy σ) H locs → K23 σ x1 x3 x4 → lv_has ls 6 [(0, .ref (q 31)), (1, .ref (q (46 + 3 * x1))), (3, .int x3), (4, .int x4)] → W p l e rC_X8_valueOf s m args below meth c H locs 0 0 (MQ below (va_Qi Post (xB D cy (CW q cy) A) A) args s 0 0 A) (F0 m 23 ls [])) : ∀ (σ : CS) (x1 : Nat) (x3 : Int32) (x4 : Int32) (x5 : Int32) (H : Heap) (locs : List Loc) (ls : Array Slot), xH D A s (CW q cy σ) H locs → wpC_X8_valueOf_234 K23 Post σ x1 x3 x4 x5 → lv_has ls 6 [(0, .ref (q 31)), (1, .ref (q (46 + 3 * x1))), (3, .int x3), (4, .int x4), (5, .int x5)] → W p l e rC_X8_valueOf s m args below meth c H locs 0 0 (MQ below (va_Qi Post (xB D cy (CW q cy) A) A) args s 0 0 A) (F0 m 234 ls []) := by
  have hx := E.1.1
  have hb := E.1.2.1
  intro σ x1 x3 x4 x5 H locs ls h hw hl
  unfold wpC_X8_valueOf_234 at hw
  refine lv_iload hx hb dX8_valueOf_234 (lv_at hl 4 rfl) ?_
  refine lv_sipush (v := 10023) hx hb dX8_valueOf_236 (by decide) ?_
  refine lv_icmp_eq (tgt := 245) hx hb dX8_valueOf_239 (by decide) (fun c1 => ?_) (fun c1 => ?_)
  · have hw := hw.1 c1
    obtain ⟨y2, ey2⟩ : ∃ z : Int32, z = x4 + 1 := ⟨_, rfl⟩
    have hw := hw y2 ey2
    refine lv_iinc (v := y2) (lv' := [(4, .int y2), (0, .ref (q 31)), (1, .ref (q (46 + 3 * x1))), (3, .int x3), (5, .int x5)]) hx hb dX8_valueOf_245 hl (k := 3) rfl (by rw [ey2]; rfl) (by decide) rfl (fun ls hl => ?_)
    refine lv_goto (tgt := 23) hx hb dX8_valueOf_248 (by decide) ?_
    exact hK23 _ _ _ _ _ _ _ h hw (lv_sub hl [1, 2, 3, 0] rfl)
  · have hw := hw.2 c1
    refine lv_goto (tgt := 251) hx hb dX8_valueOf_242 (by decide) ?_
    exact wkC_X8_valueOf_251 E _ _ _ _ _ h hw (lv_sub hl [0, 3] rfl)

def wpC_X8_valueOf_190 (K23 : CS → Nat → Int32 → Int32 → Prop) (Post : Int32 → CS → Prop) (σ : CS) (x1 : Nat) (x3 : Int32) (x4 : Int32) (x5 : Int32) : Prop := (x5 = 10029 → (x3 ≤ 0 → wpC_X8_valueOf_234 K23 Post σ x1 x3 x4 x5) ∧ (¬ x3 ≤ 0 → ∀ y3 : Int32, y3 = x3 + (-1) → vp_in y3 7 ∧ vp_in (y3 + 1) 7 ∧ vp_in (y3 + 1) 7 ∧ vp_in y3 7 ∧ ∀ σ7 : CS, σ7 = cA σ 34 (upd (σ.2.1 34) y3.toNatClampNeg ((σ.2.1 34 y3.toNatClampNeg) * ((σ.2.1 33 (y3 + 1).toNatClampNeg) + (σ.2.1 34 (y3 + 1).toNatClampNeg)))) → ∀ y9 : Int32, y9 = x4 + 1 → K23 σ7 x1 y3 y9)) ∧ (¬ x5 = 10029 → wpC_X8_valueOf_234 K23 Post σ x1 x3 x4 x5)
set_option maxHeartbeats 1000000 in
set_option maxRecDepth 20000 in
theorem wkC_X8_valueOf_190 {Post : Int32 → CS → Prop} (E : zE cX8_valueOf RX8 6 (some .int) D cy ks A p s m args meth c) {K23 : CS → Nat → Int32 → Int32 → Prop} (hK23 : ∀ (σ : CS) (x1 : Nat) (x3 : Int32) (x4 : Int32) (H : Heap) (locs : List Loc) (ls : Array Slot), xH D A s (CW q cy σ) H locs → K23 σ x1 x3 x4 → lv_has ls 6 [(0, .ref (q 31)), (1, .ref (q (46 + 3 * x1))), (3, .int x3), (4, .int x4)] → W p l e rC_X8_valueOf s m args below meth c H locs 0 0 (MQ below (va_Qi Post (xB D cy (CW q cy) A) A) args s 0 0 A) (F0 m 23 ls [])) : ∀ (σ : CS) (x1 : Nat) (x3 : Int32) (x4 : Int32) (x5 : Int32) (H : Heap) (locs : List Loc) (ls : Array Slot), xH D A s (CW q cy σ) H locs → wpC_X8_valueOf_190 K23 Post σ x1 x3 x4 x5 → lv_has ls 6 [(0, .ref (q 31)), (1, .ref (q (46 + 3 * x1))), (3, .int x3), (4, .int x4), (5, .int x5)] → W p l e rC_X8_valueOf s m args below meth c H locs 0 0 (MQ below (va_Qi Post (xB D cy (CW q cy) A) A) args s 0 0 A) (F0 m 190 ls []) := by
  have hx := E.1.1
  have hb := E.1.2.1
  intro σ x1 x3 x4 x5 H locs ls h hw hl
  unfold wpC_X8_valueOf_190 at hw
  refine lv_iload hx hb dX8_valueOf_190 (lv_at hl 4 rfl) ?_
  refine lv_sipush (v := 10029) hx hb dX8_valueOf_192 (by decide) ?_
  refine lv_icmp_ne (tgt := 234) hx hb dX8_valueOf_195 (by decide) (fun c1 => ?_) (fun c1 => ?_)
  · have hw := hw.2 c1
    exact wkC_X8_valueOf_234 E hK23 _ _ _ _ _ _ _ _ h hw (lv_sub hl [0, 1, 2, 3, 4] rfl)
  · have hw := hw.1 c1
    refine lv_iload_n hx hb dX8_valueOf_198 rfl (lv_at hl 2 rfl) ?_
    refine lv_if_le (tgt := 234) hx hb dX8_valueOf_199 (by decide) (fun c2 => ?_) (fun c2 => ?_)
    · have hw := hw.1 c2
      exact wkC_X8_valueOf_234 E hK23 _ _ _ _ _ _ _ _ h hw (lv_sub hl [0, 1, 2, 3, 4] rfl)
    · have hw := hw.2 c2
      obtain ⟨y3, ey3⟩ : ∃ z : Int32, z = x3 + (-1) := ⟨_, rfl⟩
      have hw := hw y3 ey3
      refine lv_iinc (v := y3) (lv' := [(3, .int y3), (0, .ref (q 31)), (1, .ref (q (46 + 3 * x1))), (4, .int x4), (5, .int x5)]) hx hb dX8_valueOf_202 hl (k := 2) rfl (by rw [ey3]; rfl) (by decide) rfl (fun ls hl => ?_)
      refine lv_aload_n hx hb dX8_valueOf_205 rfl (lv_at hl 1 rfl) ?_
      refine gX8_18 E.1 h dX8_valueOf_206 ?_
      refine lv_iload_n hx hb dX8_valueOf_209 rfl (lv_at hl 0 rfl) ?_
      refine lv_dup2_11 hx hb dX8_valueOf_210 rfl rfl ?_
      have h4 := hw.1
      have hw := hw.2
      refine aC_34 E.1 h h4 dX8_valueOf_211 ?_
      refine lv_aload_n hx hb dX8_valueOf_212 rfl (lv_at hl 1 rfl) ?_
      refine gX8_15 E.1 h dX8_valueOf_213 ?_
      refine lv_iload_n hx hb dX8_valueOf_216 rfl (lv_at hl 0 rfl) ?_
      refine lv_iconst (v := 1) hx hb dX8_valueOf_217 (by decide) ?_
      refine lv_iadd hx hb dX8_valueOf_218 ?_
      have h5 := hw.1
      have hw := hw.2
      refine aC_33 E.1 h h5 dX8_valueOf_219 ?_
      refine lv_aload_n hx hb dX8_valueOf_220 rfl (lv_at hl 1 rfl) ?_
      refine gX8_18 E.1 h dX8_valueOf_221 ?_
      refine lv_iload_n hx hb dX8_valueOf_224 rfl (lv_at hl 0 rfl) ?_
      refine lv_iconst (v := 1) hx hb dX8_valueOf_225 (by decide) ?_
      refine lv_iadd hx hb dX8_valueOf_226 ?_
      have h6 := hw.1
      have hw := hw.2
      refine aC_34 E.1 h h6 dX8_valueOf_227 ?_
      refine lv_iadd hx hb dX8_valueOf_228 ?_
      refine lv_imul hx hb dX8_valueOf_229 ?_
      have h8 := hw.1
      have hw := hw.2
      refine sC_34 E.1 h h8 dX8_valueOf_230 (fun σ7 H locs eσ7 h => ?_)
      have hw := hw σ7 eσ7
      refine lv_goto (tgt := 245) hx hb dX8_valueOf_231 (by decide) ?_
      obtain ⟨y9, ey9⟩ : ∃ z : Int32, z = x4 + 1 := ⟨_, rfl⟩
      have hw := hw y9 ey9
      refine lv_iinc (v := y9) (lv' := [(4, .int y9), (3, .int y3), (0, .ref (q 31)), (1, .ref (q (46 + 3 * x1))), (5, .int x5)]) hx hb dX8_valueOf_245 hl (k := 3) rfl (by rw [ey9]; rfl) (by decide) rfl (fun ls hl => ?_)
      refine lv_goto (tgt := 23) hx hb dX8_valueOf_248 (by decide) ?_
      exact hK23 _ _ _ _ _ _ _ h hw (lv_sub hl [2, 3, 1, 0] rfl)

def wpC_X8_valueOf_103 (K23 : CS → Nat → Int32 → Int32 → Prop) (Post : Int32 → CS → Prop) (σ : CS) (x1 : Nat) (x3 : Int32) (x4 : Int32) (x5 : Int32) : Prop := (x5 = 10021 → wpC_X8_valueOf_119 K23 Post σ x1 x3 x4 x5) ∧ (¬ x5 = 10021 → (x5 = 10022 → wpC_X8_valueOf_119 K23 Post σ x1 x3 x4 x5) ∧ (¬ x5 = 10022 → (x5 = 10028 → (6 ≤ x3 → wpC_X8_valueOf_190 K23 Post σ x1 x3 x4 x5) ∧ (¬ 6 ≤ x3 → ∀ y5 : Int32, y5 = x3 + 1 → vp_in y5 7 ∧ ∀ σ6 : CS, σ6 = cA σ 33 (upd (σ.2.1 33) y5.toNatClampNeg 0) → vp_in y5 7 ∧ ∀ σ8 : CS, σ8 = cA σ6 34 (upd (σ6.2.1 34) y5.toNatClampNeg 1) → ∀ y10 : Int32, y10 = x4 + 1 → K23 σ8 x1 y5 y10)) ∧ (¬ x5 = 10028 → wpC_X8_valueOf_190 K23 Post σ x1 x3 x4 x5)))
set_option maxHeartbeats 1000000 in
set_option maxRecDepth 20000 in
theorem wkC_X8_valueOf_103 {Post : Int32 → CS → Prop} (E : zE cX8_valueOf RX8 6 (some .int) D cy ks A p s m args meth c) {K23 : CS → Nat → Int32 → Int32 → Prop} (hK23 : ∀ (σ : CS) (x1 : Nat) (x3 : Int32) (x4 : Int32) (H : Heap) (locs : List Loc) (ls : Array Slot), xH D A s (CW q cy σ) H locs → K23 σ x1 x3 x4 → lv_has ls 6 [(0, .ref (q 31)), (1, .ref (q (46 + 3 * x1))), (3, .int x3), (4, .int x4)] → W p l e rC_X8_valueOf s m args below meth c H locs 0 0 (MQ below (va_Qi Post (xB D cy (CW q cy) A) A) args s 0 0 A) (F0 m 23 ls [])) : ∀ (σ : CS) (x1 : Nat) (x3 : Int32) (x4 : Int32) (x5 : Int32) (H : Heap) (locs : List Loc) (ls : Array Slot), xH D A s (CW q cy σ) H locs → wpC_X8_valueOf_103 K23 Post σ x1 x3 x4 x5 → lv_has ls 6 [(0, .ref (q 31)), (1, .ref (q (46 + 3 * x1))), (3, .int x3), (4, .int x4), (5, .int x5)] → W p l e rC_X8_valueOf s m args below meth c H locs 0 0 (MQ below (va_Qi Post (xB D cy (CW q cy) A) A) args s 0 0 A) (F0 m 103 ls []) := by
  have hx := E.1.1
  have hb := E.1.2.1
  intro σ x1 x3 x4 x5 H locs ls h hw hl
  unfold wpC_X8_valueOf_103 at hw
  refine lv_iload hx hb dX8_valueOf_103 (lv_at hl 4 rfl) ?_
  refine lv_sipush (v := 10021) hx hb dX8_valueOf_105 (by decide) ?_
  refine lv_icmp_eq (tgt := 119) hx hb dX8_valueOf_108 (by decide) (fun c1 => ?_) (fun c1 => ?_)
  · have hw := hw.1 c1
    exact wkC_X8_valueOf_119 E hK23 _ _ _ _ _ _ _ _ h hw (lv_sub hl [0, 1, 2, 3, 4] rfl)
  · have hw := hw.2 c1
    refine lv_iload hx hb dX8_valueOf_111 (lv_at hl 4 rfl) ?_
    refine lv_sipush (v := 10022) hx hb dX8_valueOf_113 (by decide) ?_
    refine lv_icmp_ne (tgt := 156) hx hb dX8_valueOf_116 (by decide) (fun c2 => ?_) (fun c2 => ?_)
    · have hw := hw.2 c2
      refine lv_iload hx hb dX8_valueOf_156 (lv_at hl 4 rfl) ?_
      refine lv_sipush (v := 10028) hx hb dX8_valueOf_158 (by decide) ?_
      refine lv_icmp_ne (tgt := 190) hx hb dX8_valueOf_161 (by decide) (fun c3 => ?_) (fun c3 => ?_)
      · have hw := hw.2 c3
        exact wkC_X8_valueOf_190 E hK23 _ _ _ _ _ _ _ _ h hw (lv_sub hl [0, 1, 2, 3, 4] rfl)
      · have hw := hw.1 c3
        refine lv_iload_n hx hb dX8_valueOf_164 rfl (lv_at hl 2 rfl) ?_
        refine lv_bipush (v := 6) hx hb dX8_valueOf_165 (by decide) ?_
        refine lv_icmp_ge (tgt := 190) hx hb dX8_valueOf_167 (by decide) (fun c4 => ?_) (fun c4 => ?_)
        · have hw := hw.1 c4
          exact wkC_X8_valueOf_190 E hK23 _ _ _ _ _ _ _ _ h hw (lv_sub hl [0, 1, 2, 3, 4] rfl)
        · have hw := hw.2 c4
          obtain ⟨y5, ey5⟩ : ∃ z : Int32, z = x3 + 1 := ⟨_, rfl⟩
          have hw := hw y5 ey5
          refine lv_iinc (v := y5) (lv' := [(3, .int y5), (0, .ref (q 31)), (1, .ref (q (46 + 3 * x1))), (4, .int x4), (5, .int x5)]) hx hb dX8_valueOf_170 hl (k := 2) rfl (by rw [ey5]; rfl) (by decide) rfl (fun ls hl => ?_)
          refine lv_aload_n hx hb dX8_valueOf_173 rfl (lv_at hl 1 rfl) ?_
          refine gX8_15 E.1 h dX8_valueOf_174 ?_
          refine lv_iload_n hx hb dX8_valueOf_177 rfl (lv_at hl 0 rfl) ?_
          refine lv_iconst (v := 0) hx hb dX8_valueOf_178 (by decide) ?_
          have h7 := hw.1
          have hw := hw.2
          refine sC_33 E.1 h h7 dX8_valueOf_179 (fun σ6 H locs eσ6 h => ?_)
          have hw := hw σ6 eσ6
          refine lv_aload_n hx hb dX8_valueOf_180 rfl (lv_at hl 1 rfl) ?_
          refine gX8_18 E.1 h dX8_valueOf_181 ?_
          refine lv_iload_n hx hb dX8_valueOf_184 rfl (lv_at hl 0 rfl) ?_
          refine lv_iconst (v := 1) hx hb dX8_valueOf_185 (by decide) ?_
          have h9 := hw.1
          have hw := hw.2
          refine sC_34 E.1 h h9 dX8_valueOf_186 (fun σ8 H locs eσ8 h => ?_)
          have hw := hw σ8 eσ8
          refine lv_goto (tgt := 245) hx hb dX8_valueOf_187 (by decide) ?_
          obtain ⟨y10, ey10⟩ : ∃ z : Int32, z = x4 + 1 := ⟨_, rfl⟩
          have hw := hw y10 ey10
          refine lv_iinc (v := y10) (lv' := [(4, .int y10), (3, .int y5), (0, .ref (q 31)), (1, .ref (q (46 + 3 * x1))), (5, .int x5)]) hx hb dX8_valueOf_245 hl (k := 3) rfl (by rw [ey10]; rfl) (by decide) rfl (fun ls hl => ?_)
          refine lv_goto (tgt := 23) hx hb dX8_valueOf_248 (by decide) ?_
          exact hK23 _ _ _ _ _ _ _ h hw (lv_sub hl [2, 3, 1, 0] rfl)
    · have hw := hw.1 c2
      exact wkC_X8_valueOf_119 E hK23 _ _ _ _ _ _ _ _ h hw (lv_sub hl [0, 1, 2, 3, 4] rfl)

def wpC_X8_valueOf_23 (Post : Int32 → CS → Prop) : Nat → CS → Nat → Int32 → Int32 → Prop
  | 0, _, _, _, _ => False
  | n + 1, σ, x1, x3, x4 => x1 < σ.2.2.1 ∧ x1 < σ.2.2.1 ∧ ((Int32.ofNat (σ.2.2.2 x1).2.1.1) ≤ x4 → wpC_X8_valueOf_251 Post σ x4) ∧ (¬ (Int32.ofNat (σ.2.2.2 x1).2.1.1) ≤ x4 → x1 < σ.2.2.1 ∧ x1 < σ.2.2.1 ∧ vp_in x4 (σ.2.2.2 x1).2.1.1 ∧ ∀ y7 : Int32, y7 = (σ.2.2.2 x1).2.1.2 x4.toNatClampNeg → (10000 ≤ y7 → (y7 < 10008 → wpC_X8_valueOf_103 (fun a0 a1 a2 a3 => wpC_X8_valueOf_23 Post n a0 a1 a2 a3) Post σ x1 x3 x4 y7) ∧ (¬ y7 < 10008 → (10020 ≤ y7 → wpC_X8_valueOf_103 (fun a0 a1 a2 a3 => wpC_X8_valueOf_23 Post n a0 a1 a2 a3) Post σ x1 x3 x4 y7) ∧ (¬ 10020 ≤ y7 → vp_in x3 7 ∧ vp_in (y7 - 10008) 12 ∧ vp_in x3 7 ∧ ∀ σ13 : CS, σ13 = cA σ 34 (upd (σ.2.1 34) x3.toNatClampNeg ((σ.2.1 34 x3.toNatClampNeg) * (σ.2.1 32 (y7 - 10008).toNatClampNeg))) → ∀ y15 : Int32, y15 = x4 + 1 → wpC_X8_valueOf_23 Post n σ13 x1 x3 y15))) ∧ (¬ 10000 ≤ y7 → vp_in x3 7 ∧ vp_in x3 7 ∧ ∀ σ17 : CS, σ17 = cA σ 34 (upd (σ.2.1 34) x3.toNatClampNeg ((σ.2.1 34 x3.toNatClampNeg) * y7)) → ∀ y19 : Int32, y19 = x4 + 1 → wpC_X8_valueOf_23 Post n σ17 x1 x3 y19))
set_option maxHeartbeats 1000000 in
set_option maxRecDepth 20000 in
theorem wkC_X8_valueOf_23 {Post : Int32 → CS → Prop} (E : zE cX8_valueOf RX8 6 (some .int) D cy ks A p s m args meth c) : ∀ n : Nat, ∀ (σ : CS) (x1 : Nat) (x3 : Int32) (x4 : Int32) (H : Heap) (locs : List Loc) (ls : Array Slot), xH D A s (CW q cy σ) H locs → wpC_X8_valueOf_23 Post n σ x1 x3 x4 → lv_has ls 6 [(0, .ref (q 31)), (1, .ref (q (46 + 3 * x1))), (3, .int x3), (4, .int x4)] → W p l e rC_X8_valueOf s m args below meth c H locs 0 0 (MQ below (va_Qi Post (xB D cy (CW q cy) A) A) args s 0 0 A) (F0 m 23 ls []) := by
  have hx := E.1.1
  have hb := E.1.2.1
  intro n
  induction n with
  | zero => intro σ x1 x3 x4 H locs ls h hw hl; exact False.elim hw
  | succ n ih =>
    intro σ x1 x3 x4 H locs ls h hw hl
    refine lv_iload hx hb dX8_valueOf_23 (lv_at hl 3 rfl) ?_
    refine lv_aload_n hx hb dX8_valueOf_25 rfl (lv_at hl 1 rfl) ?_
    have h1 := hw.1
    have hw := hw.2
    refine gX8_51 E.1 h h1 dX8_valueOf_26 ?_
    have h2 := hw.1
    have hw := hw.2
    refine nC_LT E.1 h h2 dX8_valueOf_29 ?_
    refine lv_icmp_ge (tgt := 251) hx hb dX8_valueOf_30 (by decide) (fun c3 => ?_) (fun c3 => ?_)
    · have hw := hw.1 c3
      exact wkC_X8_valueOf_251 E _ _ _ _ _ h hw (lv_sub hl [0, 3] rfl)
    · have hw := hw.2 c3
      refine lv_aload_n hx hb dX8_valueOf_33 rfl (lv_at hl 1 rfl) ?_
      have h4 := hw.1
      have hw := hw.2
      refine gX8_51 E.1 h h4 dX8_valueOf_34 ?_
      refine lv_iload hx hb dX8_valueOf_37 (lv_at hl 3 rfl) ?_
      have h5 := hw.1
      have hw := hw.2
      have h6 := hw.1
      have hw := hw.2
      refine aC_LT E.1 h h5 h6 dX8_valueOf_39 ?_
      refine lv_topi (fun y7 ey7 => ?_)
      have hw := hw y7 ey7
      refine lv_istore (lv' := [(5, .int y7), (0, .ref (q 31)), (1, .ref (q (46 + 3 * x1))), (3, .int x3), (4, .int x4)]) hx hb dX8_valueOf_40 hl (by decide) rfl (fun ls hl => ?_)
      refine lv_iload hx hb dX8_valueOf_42 (lv_at hl 0 rfl) ?_
      refine lv_sipush (v := 10000) hx hb dX8_valueOf_44 (by decide) ?_
      refine lv_icmp_ge (tgt := 64) hx hb dX8_valueOf_47 (by decide) (fun c8 => ?_) (fun c8 => ?_)
      · have hw := hw.1 c8
        refine lv_iload hx hb dX8_valueOf_64 (lv_at hl 0 rfl) ?_
        refine lv_sipush (v := 10008) hx hb dX8_valueOf_66 (by decide) ?_
        refine lv_icmp_lt (tgt := 103) hx hb dX8_valueOf_69 (by decide) (fun c9 => ?_) (fun c9 => ?_)
        · have hw := hw.1 c9
          exact wkC_X8_valueOf_103 E ih _ _ _ _ _ _ _ _ h hw (lv_sub hl [1, 2, 3, 4, 0] rfl)
        · have hw := hw.2 c9
          refine lv_iload hx hb dX8_valueOf_72 (lv_at hl 0 rfl) ?_
          refine lv_sipush (v := 10020) hx hb dX8_valueOf_74 (by decide) ?_
          refine lv_icmp_ge (tgt := 103) hx hb dX8_valueOf_77 (by decide) (fun c10 => ?_) (fun c10 => ?_)
          · have hw := hw.1 c10
            exact wkC_X8_valueOf_103 E ih _ _ _ _ _ _ _ _ h hw (lv_sub hl [1, 2, 3, 4, 0] rfl)
          · have hw := hw.2 c10
            refine lv_aload_n hx hb dX8_valueOf_80 rfl (lv_at hl 1 rfl) ?_
            refine gX8_18 E.1 h dX8_valueOf_81 ?_
            refine lv_iload_n hx hb dX8_valueOf_84 rfl (lv_at hl 3 rfl) ?_
            refine lv_dup2_11 hx hb dX8_valueOf_85 rfl rfl ?_
            have h11 := hw.1
            have hw := hw.2
            refine aC_34 E.1 h h11 dX8_valueOf_86 ?_
            refine lv_aload_n hx hb dX8_valueOf_87 rfl (lv_at hl 1 rfl) ?_
            refine gX8_9 E.1 h dX8_valueOf_88 ?_
            refine lv_iload hx hb dX8_valueOf_91 (lv_at hl 0 rfl) ?_
            refine lv_sipush (v := 10008) hx hb dX8_valueOf_93 (by decide) ?_
            refine lv_isub hx hb dX8_valueOf_96 ?_
            have h12 := hw.1
            have hw := hw.2
            refine aC_32 E.1 h h12 dX8_valueOf_97 ?_
            refine lv_imul hx hb dX8_valueOf_98 ?_
            have h14 := hw.1
            have hw := hw.2
            refine sC_34 E.1 h h14 dX8_valueOf_99 (fun σ13 H locs eσ13 h => ?_)
            have hw := hw σ13 eσ13
            refine lv_goto (tgt := 245) hx hb dX8_valueOf_100 (by decide) ?_
            obtain ⟨y15, ey15⟩ : ∃ z : Int32, z = x4 + 1 := ⟨_, rfl⟩
            have hw := hw y15 ey15
            refine lv_iinc (v := y15) (lv' := [(4, .int y15), (5, .int y7), (0, .ref (q 31)), (1, .ref (q (46 + 3 * x1))), (3, .int x3)]) hx hb dX8_valueOf_245 hl (k := 4) rfl (by rw [ey15]; rfl) (by decide) rfl (fun ls hl => ?_)
            refine lv_goto (tgt := 23) hx hb dX8_valueOf_248 (by decide) ?_
            exact ih _ _ _ _ _ _ _ h hw (lv_sub hl [2, 3, 4, 0] rfl)
      · have hw := hw.2 c8
        refine lv_aload_n hx hb dX8_valueOf_50 rfl (lv_at hl 1 rfl) ?_
        refine gX8_18 E.1 h dX8_valueOf_51 ?_
        refine lv_iload_n hx hb dX8_valueOf_54 rfl (lv_at hl 3 rfl) ?_
        refine lv_dup2_11 hx hb dX8_valueOf_55 rfl rfl ?_
        have h16 := hw.1
        have hw := hw.2
        refine aC_34 E.1 h h16 dX8_valueOf_56 ?_
        refine lv_iload hx hb dX8_valueOf_57 (lv_at hl 0 rfl) ?_
        refine lv_imul hx hb dX8_valueOf_59 ?_
        have h18 := hw.1
        have hw := hw.2
        refine sC_34 E.1 h h18 dX8_valueOf_60 (fun σ17 H locs eσ17 h => ?_)
        have hw := hw σ17 eσ17
        refine lv_goto (tgt := 245) hx hb dX8_valueOf_61 (by decide) ?_
        obtain ⟨y19, ey19⟩ : ∃ z : Int32, z = x4 + 1 := ⟨_, rfl⟩
        have hw := hw y19 ey19
        refine lv_iinc (v := y19) (lv' := [(4, .int y19), (5, .int y7), (0, .ref (q 31)), (1, .ref (q (46 + 3 * x1))), (3, .int x3)]) hx hb dX8_valueOf_245 hl (k := 4) rfl (by rw [ey19]; rfl) (by decide) rfl (fun ls hl => ?_)
        refine lv_goto (tgt := 23) hx hb dX8_valueOf_248 (by decide) ?_
        exact ih _ _ _ _ _ _ _ h hw (lv_sub hl [2, 3, 4, 0] rfl)

def wpC_X8_valueOf (σ : CS) (x1 : Nat) (x2 : Int32) (Post : Int32 → CS → Prop) : Prop := vp_in 0 7 ∧ ∀ σ1 : CS, σ1 = cA σ 33 (upd (σ.2.1 33) (0 : Int32).toNatClampNeg 0) → vp_in 0 7 ∧ ∀ σ3 : CS, σ3 = cA σ1 34 (upd (σ1.2.1 34) (0 : Int32).toNatClampNeg 1) → ∀ y5 : Int32, y5 = (if 0 < x2 then x2 else 0) → ∃ g, wpC_X8_valueOf_23 Post g σ3 x1 0 y5
set_option maxHeartbeats 1000000 in
set_option maxRecDepth 20000 in
theorem cC_X8_valueOf {l : Launch} {D : va_G} {cy : Nat → ClassId} {ks : Nat × Nat × Option Nat} {q : Nat → Nat} {σ : CS} {sz : Nat} {x1 : Nat} {x2 : Int32} {Post : Int32 → CS → Prop} (hw : wpC_X8_valueOf σ x1 x2 Post) : Met l yX8_valueOf (Cond.code yX8_valueOf cX8_valueOf 6 (some .int) :: wsA) rC_X8_valueOf (zPc D cy ks (CW q cy σ) sz [.ref (q 31), .ref (q (46 + 3 * x1)), .int x2]) (va_Qi Post (xB D cy (CW q cy) (va_A (CW q cy σ) sz)) (va_A (CW q cy σ) sz)) 0 0 (va_A (CW q cy σ) sz) := by
  refine z_enter (own := RX8) (WW := CW q cy) (by decide) rfl (Nat.le_of_ble_eq_true rfl) ?_
  intro p e s m below meth c ls E h hl
  have hx := E.1.1
  have hb := E.1.2.1
  have hl : lv_has ls 6 [(0, .ref (q 31)), (1, .ref (q (46 + 3 * x1))), (2, .int x2)] := hl
  unfold wpC_X8_valueOf at hw
  refine lv_iconst (v := 0) hx hb dX8_valueOf_0 (by decide) ?_
  refine lv_istore_n (lv' := [(3, .int 0), (0, .ref (q 31)), (1, .ref (q (46 + 3 * x1))), (2, .int x2)]) hx hb dX8_valueOf_1 rfl hl (by decide) rfl (fun ls hl => ?_)
  refine lv_aload_n hx hb dX8_valueOf_2 rfl (lv_at hl 1 rfl) ?_
  refine gX8_15 E.1 h dX8_valueOf_3 ?_
  refine lv_iconst (v := 0) hx hb dX8_valueOf_6 (by decide) ?_
  refine lv_iconst (v := 0) hx hb dX8_valueOf_7 (by decide) ?_
  have h2 := hw.1
  have hw := hw.2
  refine sC_33 E.1 h h2 dX8_valueOf_8 (fun σ1 H locs eσ1 h => ?_)
  have hw := hw σ1 eσ1
  refine lv_aload_n hx hb dX8_valueOf_9 rfl (lv_at hl 1 rfl) ?_
  refine gX8_18 E.1 h dX8_valueOf_10 ?_
  refine lv_iconst (v := 0) hx hb dX8_valueOf_13 (by decide) ?_
  refine lv_iconst (v := 1) hx hb dX8_valueOf_14 (by decide) ?_
  have h4 := hw.1
  have hw := hw.2
  refine sC_34 E.1 h h4 dX8_valueOf_15 (fun σ3 H locs eσ3 h => ?_)
  have hw := hw σ3 eσ3
  refine lv_iconst (v := 0) hx hb dX8_valueOf_16 (by decide) ?_
  refine lv_iload_n hx hb dX8_valueOf_17 rfl (lv_at hl 3 rfl) ?_
  refine z_max E.1 hl.1 lX8_45 (Nat.le_of_ble_eq_true rfl) (Nat.le_of_ble_eq_true rfl) (Nat.le_refl 0) (Nat.le_refl 0) dX8_valueOf_18 ?_
  refine lv_topi (fun y5 ey5 => ?_)
  have hw := hw y5 ey5
  refine lv_istore (lv' := [(4, .int y5), (3, .int 0), (0, .ref (q 31)), (1, .ref (q (46 + 3 * x1))), (2, .int x2)]) hx hb dX8_valueOf_21 hl (by decide) rfl (fun ls hl => ?_)
  obtain ⟨g, hw⟩ := hw
  exact wkC_X8_valueOf_23 E g _ _ _ _ _ _ _ h hw (lv_sub hl [2, 3, 1, 0] rfl)

abbrev rC_X8_compares : Room := { frames := 0, cells := 0, slots := 0, locals := 0 }
def wpC_X8_compares (σ : CS) (x0 : Int32) (x1 : Int32) (x2 : Int32) (Post : Int32 → CS → Prop) : Prop := (x1 = 10024 → (x0 = x2 → Post 1 σ) ∧ (¬ x0 = x2 → Post 0 σ)) ∧ (x1 = 10025 → (x0 = x2 → Post 0 σ) ∧ (¬ x0 = x2 → Post 1 σ)) ∧ (x1 = 10026 → (x2 ≤ x0 → Post 0 σ) ∧ (¬ x2 ≤ x0 → Post 1 σ)) ∧ (x1 = 10027 → (x2 < x0 → Post 0 σ) ∧ (¬ x2 < x0 → Post 1 σ)) ∧ (¬ x1 = 10024 ∧ ¬ x1 = 10025 ∧ ¬ x1 = 10026 ∧ ¬ x1 = 10027 → Post 0 σ)
set_option maxHeartbeats 1000000 in
set_option maxRecDepth 20000 in
theorem cC_X8_compares {l : Launch} {D : va_G} {cy : Nat → ClassId} {ks : Nat × Nat × Option Nat} {q : Nat → Nat} {σ : CS} {sz : Nat} {x0 : Int32} {x1 : Int32} {x2 : Int32} {Post : Int32 → CS → Prop} (hw : wpC_X8_compares σ x0 x1 x2 Post) : Met l yX8_compares (Cond.code yX8_compares cX8_compares 3 (some .boolean) :: wsA) rC_X8_compares (zPc D cy ks (CW q cy σ) sz [.int x0, .int x1, .int x2]) (va_Qi Post (xB D cy (CW q cy) (va_A (CW q cy σ) sz)) (va_A (CW q cy σ) sz)) 0 0 (va_A (CW q cy σ) sz) := by
  refine z_enter (own := RX8) (WW := CW q cy) (by decide) rfl (Nat.le_of_ble_eq_true rfl) ?_
  intro p e s m below meth c ls E h hl
  have hx := E.1.1
  have hb := E.1.2.1
  have hl : lv_has ls 3 [(0, .int x0), (1, .int x1), (2, .int x2)] := hl
  unfold wpC_X8_compares at hw
  refine lv_iload_n hx hb dX8_compares_0 rfl (lv_at hl 1 rfl) ?_
  by_cases c2 : x1 = 10024
  · have hw := hw.1 c2
    refine lv_tableIn (off := 31) (tgt := 32) hx hb dX8_compares_1 (by rw [c2]; decide) (by rw [c2]; decide) (by rw [c2]; rfl) (by decide) ?_
    refine lv_iload_n hx hb dX8_compares_32 rfl (lv_at hl 0 rfl) ?_
    refine lv_iload_n hx hb dX8_compares_33 rfl (lv_at hl 2 rfl) ?_
    refine lv_icmp_ne (tgt := 41) hx hb dX8_compares_34 (by decide) (fun c1 => ?_) (fun c1 => ?_)
    · have hw := hw.2 c1
      refine lv_iconst (v := 0) hx hb dX8_compares_41 (by decide) ?_
      exact x_zret E.1 h rfl hw dX8_compares_42
    · have hw := hw.1 c1
      refine lv_iconst (v := 1) hx hb dX8_compares_37 (by decide) ?_
      refine lv_goto (tgt := 42) hx hb dX8_compares_38 (by decide) ?_
      exact x_zret E.1 h rfl hw dX8_compares_42
  have hw := hw.2
  by_cases c4 : x1 = 10025
  · have hw := hw.1 c4
    refine lv_tableIn (off := 42) (tgt := 43) hx hb dX8_compares_1 (by rw [c4]; decide) (by rw [c4]; decide) (by rw [c4]; rfl) (by decide) ?_
    refine lv_iload_n hx hb dX8_compares_43 rfl (lv_at hl 0 rfl) ?_
    refine lv_iload_n hx hb dX8_compares_44 rfl (lv_at hl 2 rfl) ?_
    refine lv_icmp_eq (tgt := 52) hx hb dX8_compares_45 (by decide) (fun c3 => ?_) (fun c3 => ?_)
    · have hw := hw.1 c3
      refine lv_iconst (v := 0) hx hb dX8_compares_52 (by decide) ?_
      exact x_zret E.1 h rfl hw dX8_compares_53
    · have hw := hw.2 c3
      refine lv_iconst (v := 1) hx hb dX8_compares_48 (by decide) ?_
      refine lv_goto (tgt := 53) hx hb dX8_compares_49 (by decide) ?_
      exact x_zret E.1 h rfl hw dX8_compares_53
  have hw := hw.2
  by_cases c6 : x1 = 10026
  · have hw := hw.1 c6
    refine lv_tableIn (off := 53) (tgt := 54) hx hb dX8_compares_1 (by rw [c6]; decide) (by rw [c6]; decide) (by rw [c6]; rfl) (by decide) ?_
    refine lv_iload_n hx hb dX8_compares_54 rfl (lv_at hl 0 rfl) ?_
    refine lv_iload_n hx hb dX8_compares_55 rfl (lv_at hl 2 rfl) ?_
    refine lv_icmp_ge (tgt := 63) hx hb dX8_compares_56 (by decide) (fun c5 => ?_) (fun c5 => ?_)
    · have hw := hw.1 c5
      refine lv_iconst (v := 0) hx hb dX8_compares_63 (by decide) ?_
      exact x_zret E.1 h rfl hw dX8_compares_64
    · have hw := hw.2 c5
      refine lv_iconst (v := 1) hx hb dX8_compares_59 (by decide) ?_
      refine lv_goto (tgt := 64) hx hb dX8_compares_60 (by decide) ?_
      exact x_zret E.1 h rfl hw dX8_compares_64
  have hw := hw.2
  by_cases c8 : x1 = 10027
  · have hw := hw.1 c8
    refine lv_tableIn (off := 64) (tgt := 65) hx hb dX8_compares_1 (by rw [c8]; decide) (by rw [c8]; decide) (by rw [c8]; rfl) (by decide) ?_
    refine lv_iload_n hx hb dX8_compares_65 rfl (lv_at hl 0 rfl) ?_
    refine lv_iload_n hx hb dX8_compares_66 rfl (lv_at hl 2 rfl) ?_
    refine lv_icmp_gt (tgt := 74) hx hb dX8_compares_67 (by decide) (fun c7 => ?_) (fun c7 => ?_)
    · have hw := hw.1 c7
      refine lv_iconst (v := 0) hx hb dX8_compares_74 (by decide) ?_
      exact x_zret E.1 h rfl hw dX8_compares_75
    · have hw := hw.2 c7
      refine lv_iconst (v := 1) hx hb dX8_compares_70 (by decide) ?_
      refine lv_goto (tgt := 75) hx hb dX8_compares_71 (by decide) ?_
      exact x_zret E.1 h rfl hw dX8_compares_75
  have hw := hw.2
  have hw := hw ⟨c2, c4, c6, c8⟩
  refine lv_tableOut (tgt := 76) hx hb dX8_compares_1 (x_out 10024 10027 (fun k h1 h2 hk => by rcases (show k = 10024 ∨ k = 10025 ∨ k = 10026 ∨ k = 10027 by omega) with rfl | rfl | rfl | rfl <;> first | exact c2 (x_ofI hk rfl) | exact c4 (x_ofI hk rfl) | exact c6 (x_ofI hk rfl) | exact c8 (x_ofI hk rfl))) (by decide) ?_
  refine lv_iconst (v := 0) hx hb dX8_compares_76 (by decide) ?_
  exact x_zret E.1 h rfl hw dX8_compares_77

abbrev rC_X8_holds : Room := { frames := 2, cells := 0, slots := 0, locals := 38 }
def wpC_X8_holds_77 (K12 : CS → Nat → Int32 → Int32 → Prop) (Post : Int32 → CS → Prop) (σ : CS) (x1 : Nat) (x4 : Int32) (t0 : Int32) : Prop := x1 < σ.2.2.1 ∧ wpC_X5_tokenAt σ x1 (σ.1 623) (fun r2 σ3 => (r2 = 10007 → ∀ y5 : Int32, y5 = x4 + 1 → K12 σ3 x1 t0 y5) ∧ (¬ r2 = 10007 → (t0 = 0 → (r2 = 10006 → ∀ y8 : Int32, y8 = x4 + 1 → K12 σ3 x1 1 y8) ∧ (¬ r2 = 10006 → narrow .boolean (.int t0) = .int t0 ∧ Post t0 σ3)) ∧ (¬ t0 = 0 → narrow .boolean (.int t0) = .int t0 ∧ Post t0 σ3)))
set_option maxHeartbeats 1000000 in
set_option maxRecDepth 20000 in
theorem wkC_X8_holds_77 {Post : Int32 → CS → Prop} (E : zE cX8_holds RX8 9 (some .boolean) D cy ks A p s m args meth c) {K12 : CS → Nat → Int32 → Int32 → Prop} (hK12 : ∀ (σ : CS) (x1 : Nat) (x3 : Int32) (x4 : Int32) (H : Heap) (locs : List Loc) (ls : Array Slot), xH D A s (CW q cy σ) H locs → K12 σ x1 x3 x4 → lv_has ls 9 [(0, .ref (q 31)), (1, .ref (q (46 + 3 * x1))), (3, .int x3), (4, .int x4)] → W p l e rC_X8_holds s m args below meth c H locs 0 0 (MQ below (va_Qi Post (xB D cy (CW q cy) A) A) args s 0 0 A) (F0 m 12 ls [])) : ∀ (σ : CS) (x1 : Nat) (x4 : Int32) (t0 : Int32) (H : Heap) (locs : List Loc) (ls : Array Slot), xH D A s (CW q cy σ) H locs → wpC_X8_holds_77 K12 Post σ x1 x4 t0 → lv_has ls 9 [(0, .ref (q 31)), (1, .ref (q (46 + 3 * x1))), (4, .int x4)] → W p l e rC_X8_holds s m args below meth c H locs 0 0 (MQ below (va_Qi Post (xB D cy (CW q cy) A) A) args s 0 0 A) (F0 m 77 ls [.int t0]) := by
  have hx := E.1.1
  have hb := E.1.2.1
  intro σ x1 x4 t0 H locs ls h hw hl
  unfold wpC_X8_holds_77 at hw
  refine lv_istore_n (lv' := [(3, .int t0), (0, .ref (q 31)), (1, .ref (q (46 + 3 * x1))), (4, .int x4)]) hx hb dX8_holds_77 rfl hl (by decide) rfl (fun ls hl => ?_)
  refine lv_aload_n hx hb dX8_holds_78 rfl (lv_at hl 2 rfl) ?_
  refine lv_aload_n hx hb dX8_holds_79 rfl (lv_at hl 1 rfl) ?_
  refine gX8_21 E.1 h dX8_holds_80 ?_
  have h1 := hw.1
  have hw := hw.2
  refine x_calli h (z_runVN (WW := CW q cy) (rest := []) E h (cC_X5_tokenAt hw) yyX5_tokenAt lX8_35 (46 + 3 * x1) (cw_law h1) rfl ⟨Nat.le_of_ble_eq_true rfl, Nat.le_of_ble_eq_true rfl⟩ rfl rfl hl.1 rfl (Nat.le_of_ble_eq_true rfl) dX8_holds_83 ⟨Nat.le_refl 0, Nat.le_refl 0⟩) (fun r2 σ3 H locs hw h => ?_)
  refine lv_istore (lv' := [(8, .int r2), (3, .int t0), (0, .ref (q 31)), (1, .ref (q (46 + 3 * x1))), (4, .int x4)]) hx hb dX8_holds_86 hl (by decide) rfl (fun ls hl => ?_)
  refine lv_iload hx hb dX8_holds_88 (lv_at hl 0 rfl) ?_
  refine lv_sipush (v := 10007) hx hb dX8_holds_90 (by decide) ?_
  refine lv_icmp_eq (tgt := 112) hx hb dX8_holds_93 (by decide) (fun c4 => ?_) (fun c4 => ?_)
  · have hw := hw.1 c4
    obtain ⟨y5, ey5⟩ : ∃ z : Int32, z = x4 + 1 := ⟨_, rfl⟩
    have hw := hw y5 ey5
    refine lv_iinc (v := y5) (lv' := [(4, .int y5), (8, .int r2), (3, .int t0), (0, .ref (q 31)), (1, .ref (q (46 + 3 * x1)))]) hx hb dX8_holds_112 hl (k := 4) rfl (by rw [ey5]; rfl) (by decide) rfl (fun ls hl => ?_)
    refine lv_goto (tgt := 12) hx hb dX8_holds_115 (by decide) ?_
    exact hK12 _ _ _ _ _ _ _ h hw (lv_sub hl [3, 4, 2, 0] rfl)
  · have hw := hw.2 c4
    refine lv_iload_n hx hb dX8_holds_96 rfl (lv_at hl 1 rfl) ?_
    refine lv_if_ne (tgt := 108) hx hb dX8_holds_97 (by decide) (fun c6 => ?_) (fun c6 => ?_)
    · have hw := hw.2 c6
      refine lv_iload_n hx hb dX8_holds_108 rfl (lv_at hl 1 rfl) ?_
      exact x_zret E.1 h hw.1 hw.2 dX8_holds_109
    · have hw := hw.1 c6
      refine lv_iload hx hb dX8_holds_100 (lv_at hl 0 rfl) ?_
      refine lv_sipush (v := 10006) hx hb dX8_holds_102 (by decide) ?_
      refine lv_icmp_eq (tgt := 110) hx hb dX8_holds_105 (by decide) (fun c7 => ?_) (fun c7 => ?_)
      · have hw := hw.1 c7
        refine lv_iconst (v := 1) hx hb dX8_holds_110 (by decide) ?_
        refine lv_istore_n (lv' := [(3, .int 1), (8, .int r2), (0, .ref (q 31)), (1, .ref (q (46 + 3 * x1))), (4, .int x4)]) hx hb dX8_holds_111 rfl hl (by decide) rfl (fun ls hl => ?_)
        obtain ⟨y8, ey8⟩ : ∃ z : Int32, z = x4 + 1 := ⟨_, rfl⟩
        have hw := hw y8 ey8
        refine lv_iinc (v := y8) (lv' := [(4, .int y8), (3, .int 1), (8, .int r2), (0, .ref (q 31)), (1, .ref (q (46 + 3 * x1)))]) hx hb dX8_holds_112 hl (k := 4) rfl (by rw [ey8]; rfl) (by decide) rfl (fun ls hl => ?_)
        refine lv_goto (tgt := 12) hx hb dX8_holds_115 (by decide) ?_
        exact hK12 _ _ _ _ _ _ _ h hw (lv_sub hl [3, 4, 1, 0] rfl)
      · have hw := hw.2 c7
        refine lv_iload_n hx hb dX8_holds_108 rfl (lv_at hl 1 rfl) ?_
        exact x_zret E.1 h hw.1 hw.2 dX8_holds_109

def wpC_X8_holds_76 (K12 : CS → Nat → Int32 → Int32 → Prop) (Post : Int32 → CS → Prop) (σ : CS) (x1 : Nat) (x4 : Int32) : Prop := wpC_X8_holds_77 K12 Post σ x1 x4 0
set_option maxHeartbeats 1000000 in
set_option maxRecDepth 20000 in
theorem wkC_X8_holds_76 {Post : Int32 → CS → Prop} (E : zE cX8_holds RX8 9 (some .boolean) D cy ks A p s m args meth c) {K12 : CS → Nat → Int32 → Int32 → Prop} (hK12 : ∀ (σ : CS) (x1 : Nat) (x3 : Int32) (x4 : Int32) (H : Heap) (locs : List Loc) (ls : Array Slot), xH D A s (CW q cy σ) H locs → K12 σ x1 x3 x4 → lv_has ls 9 [(0, .ref (q 31)), (1, .ref (q (46 + 3 * x1))), (3, .int x3), (4, .int x4)] → W p l e rC_X8_holds s m args below meth c H locs 0 0 (MQ below (va_Qi Post (xB D cy (CW q cy) A) A) args s 0 0 A) (F0 m 12 ls [])) : ∀ (σ : CS) (x1 : Nat) (x4 : Int32) (H : Heap) (locs : List Loc) (ls : Array Slot), xH D A s (CW q cy σ) H locs → wpC_X8_holds_76 K12 Post σ x1 x4 → lv_has ls 9 [(0, .ref (q 31)), (1, .ref (q (46 + 3 * x1))), (4, .int x4)] → W p l e rC_X8_holds s m args below meth c H locs 0 0 (MQ below (va_Qi Post (xB D cy (CW q cy) A) A) args s 0 0 A) (F0 m 76 ls []) := by
  have hx := E.1.1
  have hb := E.1.2.1
  intro σ x1 x4 H locs ls h hw hl
  unfold wpC_X8_holds_76 at hw
  refine lv_iconst (v := 0) hx hb dX8_holds_76 (by decide) ?_
  exact wkC_X8_holds_77 E hK12 _ _ _ _ _ _ _ h hw (lv_sub hl [0, 1, 2] rfl)

def wpC_X8_holds_12 (Post : Int32 → CS → Prop) : Nat → CS → Nat → Int32 → Int32 → Prop
  | 0, _, _, _, _ => False
  | n + 1, σ, x1, x3, x4 => (400 ≤ x4 → Post 0 σ) ∧ (¬ 400 ≤ x4 → wpC_X8_valueOf σ x1 ((σ.1 623) + 1) (fun r2 σ3 => x1 < σ3.2.2.1 ∧ wpC_X5_tokenAt σ3 x1 (σ3.1 623) (fun r5 σ6 => wpC_X8_valueOf σ6 x1 ((σ6.1 623) + 1) (fun r7 σ8 => (x3 = 0 → wpC_X8_holds_76 (fun a0 a1 a2 a3 => wpC_X8_holds_12 Post n a0 a1 a2 a3) Post σ8 x1 x4) ∧ (¬ x3 = 0 → wpC_X8_compares σ8 r2 r5 r7 (fun r10 σ11 => (r10 = 0 → wpC_X8_holds_76 (fun a0 a1 a2 a3 => wpC_X8_holds_12 Post n a0 a1 a2 a3) Post σ11 x1 x4) ∧ (¬ r10 = 0 → wpC_X8_holds_77 (fun a0 a1 a2 a3 => wpC_X8_holds_12 Post n a0 a1 a2 a3) Post σ11 x1 x4 1)))))))
set_option maxHeartbeats 1000000 in
set_option maxRecDepth 20000 in
theorem wkC_X8_holds_12 {Post : Int32 → CS → Prop} (E : zE cX8_holds RX8 9 (some .boolean) D cy ks A p s m args meth c) : ∀ n : Nat, ∀ (σ : CS) (x1 : Nat) (x3 : Int32) (x4 : Int32) (H : Heap) (locs : List Loc) (ls : Array Slot), xH D A s (CW q cy σ) H locs → wpC_X8_holds_12 Post n σ x1 x3 x4 → lv_has ls 9 [(0, .ref (q 31)), (1, .ref (q (46 + 3 * x1))), (3, .int x3), (4, .int x4)] → W p l e rC_X8_holds s m args below meth c H locs 0 0 (MQ below (va_Qi Post (xB D cy (CW q cy) A) A) args s 0 0 A) (F0 m 12 ls []) := by
  have hx := E.1.1
  have hb := E.1.2.1
  intro n
  induction n with
  | zero => intro σ x1 x3 x4 H locs ls h hw hl; exact False.elim hw
  | succ n ih =>
    intro σ x1 x3 x4 H locs ls h hw hl
    refine lv_iload hx hb dX8_holds_12 (lv_at hl 3 rfl) ?_
    refine lv_sipush (v := 400) hx hb dX8_holds_14 (by decide) ?_
    refine lv_icmp_ge (tgt := 118) hx hb dX8_holds_17 (by decide) (fun c1 => ?_) (fun c1 => ?_)
    · have hw := hw.1 c1
      refine lv_iconst (v := 0) hx hb dX8_holds_118 (by decide) ?_
      exact x_zret E.1 h rfl hw dX8_holds_119
    · have hw := hw.2 c1
      refine lv_aload_n hx hb dX8_holds_20 rfl (lv_at hl 0 rfl) ?_
      refine lv_aload_n hx hb dX8_holds_21 rfl (lv_at hl 1 rfl) ?_
      refine lv_aload_n hx hb dX8_holds_22 rfl (lv_at hl 0 rfl) ?_
      refine gX8_21 E.1 h dX8_holds_23 ?_
      refine lv_iconst (v := 1) hx hb dX8_holds_26 (by decide) ?_
      refine lv_iadd hx hb dX8_holds_27 ?_
      refine x_calli h (z_runV (WW := CW q cy) (rest := []) E h (cC_X8_valueOf hw) yyX8_valueOf lX8_31 31 rfl rfl ⟨Nat.le_of_ble_eq_true rfl, Nat.le_of_ble_eq_true rfl⟩ rfl rfl hl.1 rfl (Nat.le_of_ble_eq_true rfl) dX8_holds_28 ⟨Nat.le_refl 0, Nat.le_refl 0⟩) (fun r2 σ3 H locs hw h => ?_)
      refine lv_istore (lv' := [(5, .int r2), (0, .ref (q 31)), (1, .ref (q (46 + 3 * x1))), (3, .int x3), (4, .int x4)]) hx hb dX8_holds_31 hl (by decide) rfl (fun ls hl => ?_)
      refine lv_aload_n hx hb dX8_holds_33 rfl (lv_at hl 2 rfl) ?_
      refine lv_aload_n hx hb dX8_holds_34 rfl (lv_at hl 1 rfl) ?_
      refine gX8_21 E.1 h dX8_holds_35 ?_
      have h4 := hw.1
      have hw := hw.2
      refine x_calli h (z_runVN (WW := CW q cy) (rest := []) E h (cC_X5_tokenAt hw) yyX5_tokenAt lX8_35 (46 + 3 * x1) (cw_law h4) rfl ⟨Nat.le_of_ble_eq_true rfl, Nat.le_of_ble_eq_true rfl⟩ rfl rfl hl.1 rfl (Nat.le_of_ble_eq_true rfl) dX8_holds_38 ⟨Nat.le_refl 0, Nat.le_refl 0⟩) (fun r5 σ6 H locs hw h => ?_)
      refine lv_istore (lv' := [(6, .int r5), (5, .int r2), (0, .ref (q 31)), (1, .ref (q (46 + 3 * x1))), (3, .int x3), (4, .int x4)]) hx hb dX8_holds_41 hl (by decide) rfl (fun ls hl => ?_)
      refine lv_aload_n hx hb dX8_holds_43 rfl (lv_at hl 2 rfl) ?_
      refine lv_aload_n hx hb dX8_holds_44 rfl (lv_at hl 3 rfl) ?_
      refine lv_aload_n hx hb dX8_holds_45 rfl (lv_at hl 2 rfl) ?_
      refine gX8_21 E.1 h dX8_holds_46 ?_
      refine lv_iconst (v := 1) hx hb dX8_holds_49 (by decide) ?_
      refine lv_iadd hx hb dX8_holds_50 ?_
      refine x_calli h (z_runV (WW := CW q cy) (rest := []) E h (cC_X8_valueOf hw) yyX8_valueOf lX8_31 31 rfl rfl ⟨Nat.le_of_ble_eq_true rfl, Nat.le_of_ble_eq_true rfl⟩ rfl rfl hl.1 rfl (Nat.le_of_ble_eq_true rfl) dX8_holds_51 ⟨Nat.le_refl 0, Nat.le_refl 0⟩) (fun r7 σ8 H locs hw h => ?_)
      refine lv_istore (lv' := [(7, .int r7), (6, .int r5), (5, .int r2), (0, .ref (q 31)), (1, .ref (q (46 + 3 * x1))), (3, .int x3), (4, .int x4)]) hx hb dX8_holds_54 hl (by decide) rfl (fun ls hl => ?_)
      refine lv_iload_n hx hb dX8_holds_56 rfl (lv_at hl 5 rfl) ?_
      refine lv_if_eq (tgt := 76) hx hb dX8_holds_57 (by decide) (fun c9 => ?_) (fun c9 => ?_)
      · have hw := hw.1 c9
        exact wkC_X8_holds_76 E ih _ _ _ _ _ _ h hw (lv_sub hl [3, 4, 6] rfl)
      · have hw := hw.2 c9
        refine lv_iload hx hb dX8_holds_60 (lv_at hl 2 rfl) ?_
        refine lv_iload hx hb dX8_holds_62 (lv_at hl 1 rfl) ?_
        refine lv_iload hx hb dX8_holds_64 (lv_at hl 0 rfl) ?_
        refine x_calli h (z_runS (WW := CW q cy) (rest := []) E h (cC_X8_compares hw) yyX8_compares lX8_41 ⟨Nat.le_of_ble_eq_true rfl, Nat.le_of_ble_eq_true rfl⟩ rfl rfl hl.1 rfl (Nat.le_of_ble_eq_true rfl) dX8_holds_66 ⟨Nat.le_refl 0, Nat.le_refl 0⟩) (fun r10 σ11 H locs hw h => ?_)
        refine lv_if_eq (tgt := 76) hx hb dX8_holds_69 (by decide) (fun c12 => ?_) (fun c12 => ?_)
        · have hw := hw.1 c12
          exact wkC_X8_holds_76 E ih _ _ _ _ _ _ h hw (lv_sub hl [3, 4, 6] rfl)
        · have hw := hw.2 c12
          refine lv_iconst (v := 1) hx hb dX8_holds_72 (by decide) ?_
          refine lv_goto (tgt := 77) hx hb dX8_holds_73 (by decide) ?_
          exact wkC_X8_holds_77 E ih _ _ _ _ _ _ _ h hw (lv_sub hl [3, 4, 6] rfl)

def wpC_X8_holds (σ : CS) (x1 : Nat) (x2 : Int32) (Post : Int32 → CS → Prop) : Prop := ∀ σ1 : CS, σ1 = cF σ 623 (x2 - 1) → ∃ g, wpC_X8_holds_12 Post g σ1 x1 1 0
set_option maxHeartbeats 1000000 in
set_option maxRecDepth 20000 in
theorem cC_X8_holds {l : Launch} {D : va_G} {cy : Nat → ClassId} {ks : Nat × Nat × Option Nat} {q : Nat → Nat} {σ : CS} {sz : Nat} {x1 : Nat} {x2 : Int32} {Post : Int32 → CS → Prop} (hw : wpC_X8_holds σ x1 x2 Post) : Met l yX8_holds (Cond.code yX8_holds cX8_holds 9 (some .boolean) :: wsA) rC_X8_holds (zPc D cy ks (CW q cy σ) sz [.ref (q 31), .ref (q (46 + 3 * x1)), .int x2]) (va_Qi Post (xB D cy (CW q cy) (va_A (CW q cy σ) sz)) (va_A (CW q cy σ) sz)) 0 0 (va_A (CW q cy σ) sz) := by
  refine z_enter (own := RX8) (WW := CW q cy) (by decide) rfl (Nat.le_of_ble_eq_true rfl) ?_
  intro p e s m below meth c ls E h hl
  have hx := E.1.1
  have hb := E.1.2.1
  have hl : lv_has ls 9 [(0, .ref (q 31)), (1, .ref (q (46 + 3 * x1))), (2, .int x2)] := hl
  unfold wpC_X8_holds at hw
  refine lv_iconst (v := 1) hx hb dX8_holds_0 (by decide) ?_
  refine lv_istore_n (lv' := [(3, .int 1), (0, .ref (q 31)), (1, .ref (q (46 + 3 * x1))), (2, .int x2)]) hx hb dX8_holds_1 rfl hl (by decide) rfl (fun ls hl => ?_)
  refine lv_aload_n hx hb dX8_holds_2 rfl (lv_at hl 1 rfl) ?_
  refine lv_iload_n hx hb dX8_holds_3 rfl (lv_at hl 3 rfl) ?_
  refine lv_iconst (v := 1) hx hb dX8_holds_4 (by decide) ?_
  refine lv_isub hx hb dX8_holds_5 ?_
  refine pX8_21 E.1 h dX8_holds_6 (fun σ1 H locs eσ1 h => ?_)
  have hw := hw σ1 eσ1
  refine lv_iconst (v := 0) hx hb dX8_holds_9 (by decide) ?_
  refine lv_istore (lv' := [(4, .int 0), (3, .int 1), (0, .ref (q 31)), (1, .ref (q (46 + 3 * x1))), (2, .int x2)]) hx hb dX8_holds_10 hl (by decide) rfl (fun ls hl => ?_)
  obtain ⟨g, hw⟩ := hw
  exact wkC_X8_holds_12 E g _ _ _ _ _ _ _ h hw (lv_sub hl [2, 3, 1, 0] rfl)

abbrev rC_X5_firstHolding : Room := { frames := 3, cells := 0, slots := 0, locals := 66 }
def wpC_X5_firstHolding_2 (Post : Int32 → CS → Prop) : Nat → CS → Nat → Int32 → Int32 → Prop
  | 0, _, _, _, _ => False
  | n + 1, σ, x0, x1, x3 => x0 < σ.2.2.1 ∧ x0 < σ.2.2.1 ∧ ((Int32.ofNat (σ.2.2.2 x0).2.2.1) ≤ x3 → Post ((-1)) σ) ∧ (¬ (Int32.ofNat (σ.2.2.2 x0).2.2.1) ≤ x3 → x0 < σ.2.2.1 ∧ x0 < σ.2.2.1 ∧ vp_in x3 (σ.2.2.2 x0).2.2.1 ∧ x0 < σ.2.2.1 ∧ wpC_X5_tokenAt σ x0 ((σ.2.2.2 x0).2.2.2 x3.toNatClampNeg) (fun r8 σ9 => (r8 = x1 → x0 < σ9.2.2.1 ∧ x0 < σ9.2.2.1 ∧ vp_in x3 (σ9.2.2.2 x0).2.2.1 ∧ wpC_X8_holds σ9 x0 (((σ9.2.2.2 x0).2.2.2 x3.toNatClampNeg) + 2) (fun r15 σ16 => (r15 = 0 → ∀ y18 : Int32, y18 = x3 + 1 → wpC_X5_firstHolding_2 Post n σ16 x0 x1 y18) ∧ (¬ r15 = 0 → Post x3 σ16))) ∧ (¬ r8 = x1 → ∀ y11 : Int32, y11 = x3 + 1 → wpC_X5_firstHolding_2 Post n σ9 x0 x1 y11)))
set_option maxHeartbeats 1000000 in
set_option maxRecDepth 20000 in
theorem wkC_X5_firstHolding_2 {Post : Int32 → CS → Prop} (E : zE cX5_firstHolding RX5 4 (some .int) D cy ks A p s m args meth c) : ∀ n : Nat, ∀ (σ : CS) (x0 : Nat) (x1 : Int32) (x3 : Int32) (H : Heap) (locs : List Loc) (ls : Array Slot), xH D A s (CW q cy σ) H locs → wpC_X5_firstHolding_2 Post n σ x0 x1 x3 → lv_has ls 4 [(0, .ref (q (46 + 3 * x0))), (1, .int x1), (2, .ref (q 31)), (3, .int x3)] → W p l e rC_X5_firstHolding s m args below meth c H locs 0 0 (MQ below (va_Qi Post (xB D cy (CW q cy) A) A) args s 0 0 A) (F0 m 2 ls []) := by
  have hx := E.1.1
  have hb := E.1.2.1
  intro n
  induction n with
  | zero => intro σ x0 x1 x3 H locs ls h hw hl; exact False.elim hw
  | succ n ih =>
    intro σ x0 x1 x3 H locs ls h hw hl
    refine lv_iload_n hx hb dX5_firstHolding_2 rfl (lv_at hl 3 rfl) ?_
    refine lv_aload_n hx hb dX5_firstHolding_3 rfl (lv_at hl 0 rfl) ?_
    have h1 := hw.1
    have hw := hw.2
    refine gX5_22 E.1 h h1 dX5_firstHolding_4 ?_
    have h2 := hw.1
    have hw := hw.2
    refine nC_LR E.1 h h2 dX5_firstHolding_7 ?_
    refine lv_icmp_ge (tgt := 49) hx hb dX5_firstHolding_8 (by decide) (fun c3 => ?_) (fun c3 => ?_)
    · have hw := hw.1 c3
      refine lv_iconst (v := (-1)) hx hb dX5_firstHolding_49 (by decide) ?_
      exact x_iret E.1 h hw dX5_firstHolding_50
    · have hw := hw.2 c3
      refine lv_aload_n hx hb dX5_firstHolding_11 rfl (lv_at hl 0 rfl) ?_
      refine lv_aload_n hx hb dX5_firstHolding_12 rfl (lv_at hl 0 rfl) ?_
      have h4 := hw.1
      have hw := hw.2
      refine gX5_22 E.1 h h4 dX5_firstHolding_13 ?_
      refine lv_iload_n hx hb dX5_firstHolding_16 rfl (lv_at hl 3 rfl) ?_
      have h5 := hw.1
      have hw := hw.2
      have h6 := hw.1
      have hw := hw.2
      refine aC_LR E.1 h h5 h6 dX5_firstHolding_17 ?_
      have h7 := hw.1
      have hw := hw.2
      refine x_calli h (z_runV (WW := CW q cy) (rest := []) E h (cC_X5_tokenAt hw) yyX5_tokenAt lX5_25 (46 + 3 * x0) (cw_law h7) rfl ⟨Nat.le_of_ble_eq_true rfl, Nat.le_of_ble_eq_true rfl⟩ rfl rfl hl.1 rfl (Nat.le_of_ble_eq_true rfl) dX5_firstHolding_18 ⟨Nat.le_refl 0, Nat.le_refl 0⟩) (fun r8 σ9 H locs hw h => ?_)
      refine lv_iload_n hx hb dX5_firstHolding_21 rfl (lv_at hl 1 rfl) ?_
      refine lv_icmp_ne (tgt := 43) hx hb dX5_firstHolding_22 (by decide) (fun c10 => ?_) (fun c10 => ?_)
      · have hw := hw.2 c10
        obtain ⟨y11, ey11⟩ : ∃ z : Int32, z = x3 + 1 := ⟨_, rfl⟩
        have hw := hw y11 ey11
        refine lv_iinc (v := y11) (lv' := [(3, .int y11), (0, .ref (q (46 + 3 * x0))), (1, .int x1), (2, .ref (q 31))]) hx hb dX5_firstHolding_43 hl (k := 3) rfl (by rw [ey11]; rfl) (by decide) rfl (fun ls hl => ?_)
        refine lv_goto (tgt := 2) hx hb dX5_firstHolding_46 (by decide) ?_
        exact ih _ _ _ _ _ _ _ h hw (lv_sub hl [1, 2, 3, 0] rfl)
      · have hw := hw.1 c10
        refine lv_aload_n hx hb dX5_firstHolding_25 rfl (lv_at hl 2 rfl) ?_
        refine lv_aload_n hx hb dX5_firstHolding_26 rfl (lv_at hl 0 rfl) ?_
        refine lv_aload_n hx hb dX5_firstHolding_27 rfl (lv_at hl 0 rfl) ?_
        have h12 := hw.1
        have hw := hw.2
        refine gX5_22 E.1 h h12 dX5_firstHolding_28 ?_
        refine lv_iload_n hx hb dX5_firstHolding_31 rfl (lv_at hl 3 rfl) ?_
        have h13 := hw.1
        have hw := hw.2
        have h14 := hw.1
        have hw := hw.2
        refine aC_LR E.1 h h13 h14 dX5_firstHolding_32 ?_
        refine lv_iconst (v := 2) hx hb dX5_firstHolding_33 (by decide) ?_
        refine lv_iadd hx hb dX5_firstHolding_34 ?_
        refine x_calli h (z_runVN (WW := CW q cy) (rest := []) E h (cC_X8_holds hw) yyX8_holds lX5_29 31 rfl rfl ⟨Nat.le_of_ble_eq_true rfl, Nat.le_of_ble_eq_true rfl⟩ rfl rfl hl.1 rfl (Nat.le_of_ble_eq_true rfl) dX5_firstHolding_35 ⟨Nat.le_refl 0, Nat.le_refl 0⟩) (fun r15 σ16 H locs hw h => ?_)
        refine lv_if_eq (tgt := 43) hx hb dX5_firstHolding_38 (by decide) (fun c17 => ?_) (fun c17 => ?_)
        · have hw := hw.1 c17
          obtain ⟨y18, ey18⟩ : ∃ z : Int32, z = x3 + 1 := ⟨_, rfl⟩
          have hw := hw y18 ey18
          refine lv_iinc (v := y18) (lv' := [(3, .int y18), (0, .ref (q (46 + 3 * x0))), (1, .int x1), (2, .ref (q 31))]) hx hb dX5_firstHolding_43 hl (k := 3) rfl (by rw [ey18]; rfl) (by decide) rfl (fun ls hl => ?_)
          refine lv_goto (tgt := 2) hx hb dX5_firstHolding_46 (by decide) ?_
          exact ih _ _ _ _ _ _ _ h hw (lv_sub hl [1, 2, 3, 0] rfl)
        · have hw := hw.2 c17
          refine lv_iload_n hx hb dX5_firstHolding_41 rfl (lv_at hl 3 rfl) ?_
          exact x_iret E.1 h hw dX5_firstHolding_42

def wpC_X5_firstHolding (σ : CS) (x0 : Nat) (x1 : Int32) (Post : Int32 → CS → Prop) : Prop := ∃ g, wpC_X5_firstHolding_2 Post g σ x0 x1 0
set_option maxHeartbeats 1000000 in
set_option maxRecDepth 20000 in
theorem cC_X5_firstHolding {l : Launch} {D : va_G} {cy : Nat → ClassId} {ks : Nat × Nat × Option Nat} {q : Nat → Nat} {σ : CS} {sz : Nat} {x0 : Nat} {x1 : Int32} {Post : Int32 → CS → Prop} (hw : wpC_X5_firstHolding σ x0 x1 Post) : Met l yX5_firstHolding (Cond.code yX5_firstHolding cX5_firstHolding 4 (some .int) :: wsA) rC_X5_firstHolding (zPc D cy ks (CW q cy σ) sz [.ref (q (46 + 3 * x0)), .int x1, .ref (q 31)]) (va_Qi Post (xB D cy (CW q cy) (va_A (CW q cy σ) sz)) (va_A (CW q cy σ) sz)) 0 0 (va_A (CW q cy σ) sz) := by
  refine z_enter (own := RX5) (WW := CW q cy) (by decide) rfl (Nat.le_of_ble_eq_true rfl) ?_
  intro p e s m below meth c ls E h hl
  have hx := E.1.1
  have hb := E.1.2.1
  have hl : lv_has ls 4 [(0, .ref (q (46 + 3 * x0))), (1, .int x1), (2, .ref (q 31))] := hl
  unfold wpC_X5_firstHolding at hw
  refine lv_iconst (v := 0) hx hb dX5_firstHolding_0 (by decide) ?_
  refine lv_istore_n (lv' := [(3, .int 0), (0, .ref (q (46 + 3 * x0))), (1, .int x1), (2, .ref (q 31))]) hx hb dX5_firstHolding_1 rfl hl (by decide) rfl (fun ls hl => ?_)
  obtain ⟨g, hw⟩ := hw
  exact wkC_X5_firstHolding_2 E g _ _ _ _ _ _ _ h hw (lv_sub hl [1, 2, 3, 0] rfl)

abbrev rC_X4_prepare : Room := { frames := 5, cells := 0, slots := 0, locals := 113 }
def wpC_X4_prepare (σ : CS) (x1 : Int32) (Post : CS → Prop) : Prop := vp_in x1 10 ∧ ∀ σ1 : CS, σ1 = cA σ 39 (upd (σ.2.1 39) x1.toNatClampNeg ((-1))) → vp_in x1 10 ∧ ∀ σ3 : CS, σ3 = cA σ1 40 (upd (σ1.2.1 40) x1.toNatClampNeg ((-1))) → vp_in x1 10 ∧ ∀ σ5 : CS, σ5 = cA σ3 41 (upd (σ3.2.1 41) x1.toNatClampNeg 10000) → vp_in x1 10 ∧ ∀ σ7 : CS, σ7 = cA σ5 42 (upd (σ5.2.1 42) x1.toNatClampNeg 0) → vp_in x1 10 ∧ ∀ σ9 : CS, σ9 = cA σ7 43 (upd (σ7.2.1 43) x1.toNatClampNeg ((-1))) → vp_in x1 10 ∧ ∀ σ11 : CS, σ11 = cA σ9 44 (upd (σ9.2.1 44) x1.toNatClampNeg 0) → wpC_X4_findEffect σ11 x1 (fun σ13 => wpC_X4_weighWords σ13 x1 (fun σ14 => wpC_X4_lawOf σ14 x1 (fun r15 σ16 => r15 < σ16.2.2.1 ∧ wpC_X5_firstHolding σ16 r15 10000 (fun r18 σ19 => vp_in x1 10 ∧ ∀ σ20 : CS, σ20 = cA σ19 36 (upd (σ19.2.1 36) x1.toNatClampNeg r18) → vp_in x1 10 ∧ ((σ20.2.1 36 x1.toNatClampNeg) = ((-1)) → vp_in x1 10 ∧ ∀ σ24 : CS, σ24 = cA σ20 38 (upd (σ20.2.1 38) x1.toNatClampNeg 0) → Post σ24) ∧ (¬ (σ20.2.1 36 x1.toNatClampNeg) = ((-1)) → Post σ20)))))
set_option maxHeartbeats 1000000 in
set_option maxRecDepth 20000 in
theorem cC_X4_prepare {l : Launch} {D : va_G} {cy : Nat → ClassId} {ks : Nat × Nat × Option Nat} {q : Nat → Nat} {σ : CS} {sz : Nat} {x1 : Int32} {Post : CS → Prop} (hw : wpC_X4_prepare σ x1 Post) : Met l yX4_prepare (Cond.code yX4_prepare cX4_prepare 2 none :: wsA) rC_X4_prepare (zPc D cy ks (CW q cy σ) sz [.ref (q 30), .int x1]) (va_Qv Post (xB D cy (CW q cy) (va_A (CW q cy σ) sz)) (va_A (CW q cy σ) sz)) 0 0 (va_A (CW q cy σ) sz) := by
  refine z_enter (own := RX4) (WW := CW q cy) (by decide) rfl (Nat.le_of_ble_eq_true rfl) ?_
  intro p e s m below meth c ls E h hl
  have hx := E.1.1
  have hb := E.1.2.1
  have hl : lv_has ls 2 [(0, .ref (q 30)), (1, .int x1)] := hl
  unfold wpC_X4_prepare at hw
  refine lv_aload_n hx hb dX4_prepare_0 rfl (lv_at hl 0 rfl) ?_
  refine gX4_31 E.1 h dX4_prepare_1 ?_
  refine lv_iload_n hx hb dX4_prepare_4 rfl (lv_at hl 1 rfl) ?_
  refine lv_iconst (v := (-1)) hx hb dX4_prepare_5 (by decide) ?_
  have h2 := hw.1
  have hw := hw.2
  refine sC_39 E.1 h h2 dX4_prepare_6 (fun σ1 H locs eσ1 h => ?_)
  have hw := hw σ1 eσ1
  refine lv_aload_n hx hb dX4_prepare_7 rfl (lv_at hl 0 rfl) ?_
  refine gX4_34 E.1 h dX4_prepare_8 ?_
  refine lv_iload_n hx hb dX4_prepare_11 rfl (lv_at hl 1 rfl) ?_
  refine lv_iconst (v := (-1)) hx hb dX4_prepare_12 (by decide) ?_
  have h4 := hw.1
  have hw := hw.2
  refine sC_40 E.1 h h4 dX4_prepare_13 (fun σ3 H locs eσ3 h => ?_)
  have hw := hw σ3 eσ3
  refine lv_aload_n hx hb dX4_prepare_14 rfl (lv_at hl 0 rfl) ?_
  refine gX4_37 E.1 h dX4_prepare_15 ?_
  refine lv_iload_n hx hb dX4_prepare_18 rfl (lv_at hl 1 rfl) ?_
  refine lv_sipush (v := 10000) hx hb dX4_prepare_19 (by decide) ?_
  have h6 := hw.1
  have hw := hw.2
  refine sC_41 E.1 h h6 dX4_prepare_22 (fun σ5 H locs eσ5 h => ?_)
  have hw := hw σ5 eσ5
  refine lv_aload_n hx hb dX4_prepare_23 rfl (lv_at hl 0 rfl) ?_
  refine gX4_40 E.1 h dX4_prepare_24 ?_
  refine lv_iload_n hx hb dX4_prepare_27 rfl (lv_at hl 1 rfl) ?_
  refine lv_iconst (v := 0) hx hb dX4_prepare_28 (by decide) ?_
  have h8 := hw.1
  have hw := hw.2
  refine sC_42 E.1 h h8 dX4_prepare_29 (fun σ7 H locs eσ7 h => ?_)
  have hw := hw σ7 eσ7
  refine lv_aload_n hx hb dX4_prepare_30 rfl (lv_at hl 0 rfl) ?_
  refine gX4_43 E.1 h dX4_prepare_31 ?_
  refine lv_iload_n hx hb dX4_prepare_34 rfl (lv_at hl 1 rfl) ?_
  refine lv_iconst (v := (-1)) hx hb dX4_prepare_35 (by decide) ?_
  have h10 := hw.1
  have hw := hw.2
  refine sC_43 E.1 h h10 dX4_prepare_36 (fun σ9 H locs eσ9 h => ?_)
  have hw := hw σ9 eσ9
  refine lv_aload_n hx hb dX4_prepare_37 rfl (lv_at hl 0 rfl) ?_
  refine gX4_46 E.1 h dX4_prepare_38 ?_
  refine lv_iload_n hx hb dX4_prepare_41 rfl (lv_at hl 1 rfl) ?_
  refine lv_iconst (v := 0) hx hb dX4_prepare_42 (by decide) ?_
  have h12 := hw.1
  have hw := hw.2
  refine sC_44 E.1 h h12 dX4_prepare_43 (fun σ11 H locs eσ11 h => ?_)
  have hw := hw σ11 eσ11
  refine lv_aload_n hx hb dX4_prepare_44 rfl (lv_at hl 0 rfl) ?_
  refine lv_iload_n hx hb dX4_prepare_45 rfl (lv_at hl 1 rfl) ?_
  refine x_callv h (z_runV (WW := CW q cy) (rest := []) E h (cC_X4_findEffect hw) yyX4_findEffect lX4_128 30 rfl rfl ⟨Nat.le_of_ble_eq_true rfl, Nat.le_of_ble_eq_true rfl⟩ rfl rfl hl.1 rfl (Nat.le_of_ble_eq_true rfl) dX4_prepare_46 ⟨Nat.le_refl 0, Nat.le_refl 0⟩) (fun σ13 H locs hw h => ?_)
  refine lv_aload_n hx hb dX4_prepare_49 rfl (lv_at hl 0 rfl) ?_
  refine lv_iload_n hx hb dX4_prepare_50 rfl (lv_at hl 1 rfl) ?_
  refine x_callv h (z_runV (WW := CW q cy) (rest := []) E h (cC_X4_weighWords hw) yyX4_weighWords lX4_131 30 rfl rfl ⟨Nat.le_of_ble_eq_true rfl, Nat.le_of_ble_eq_true rfl⟩ rfl rfl hl.1 rfl (Nat.le_of_ble_eq_true rfl) dX4_prepare_51 ⟨Nat.le_refl 0, Nat.le_refl 0⟩) (fun σ14 H locs hw h => ?_)
  refine lv_aload_n hx hb dX4_prepare_54 rfl (lv_at hl 0 rfl) ?_
  refine gX4_22 E.1 h dX4_prepare_55 ?_
  refine lv_iload_n hx hb dX4_prepare_58 rfl (lv_at hl 1 rfl) ?_
  refine lv_aload_n hx hb dX4_prepare_59 rfl (lv_at hl 0 rfl) ?_
  refine lv_iload_n hx hb dX4_prepare_60 rfl (lv_at hl 1 rfl) ?_
  refine z_callr (at0 := fun r => q (46 + 3 * r)) h (z_runV (WW := CW q cy) (rest := [.int x1, .ref (q 36)]) E h (cC_X4_lawOf hw) yyX4_lawOf lX4_106 30 rfl rfl ⟨Nat.le_of_ble_eq_true rfl, Nat.le_of_ble_eq_true rfl⟩ rfl rfl hl.1 rfl (Nat.le_of_ble_eq_true rfl) dX4_prepare_61 ⟨Nat.le_refl 0, Nat.le_refl 0⟩) (fun r15 σ16 H locs hw h => ?_)
  refine lv_sipush (v := 10000) hx hb dX4_prepare_64 (by decide) ?_
  refine lv_aload_n hx hb dX4_prepare_67 rfl (lv_at hl 0 rfl) ?_
  refine gX4_12 E.1 h dX4_prepare_68 ?_
  have h17 := hw.1
  have hw := hw.2
  refine x_calli h (z_runVN (WW := CW q cy) (rest := [.int x1, .ref (q 36)]) E h (cC_X5_firstHolding hw) yyX5_firstHolding lX4_134 (46 + 3 * r15) (cw_law h17) rfl ⟨Nat.le_of_ble_eq_true rfl, Nat.le_of_ble_eq_true rfl⟩ rfl rfl hl.1 rfl (Nat.le_of_ble_eq_true rfl) dX4_prepare_71 ⟨Nat.le_refl 0, Nat.le_refl 0⟩) (fun r18 σ19 H locs hw h => ?_)
  have h21 := hw.1
  have hw := hw.2
  refine sC_36 E.1 h h21 dX4_prepare_74 (fun σ20 H locs eσ20 h => ?_)
  have hw := hw σ20 eσ20
  refine lv_aload_n hx hb dX4_prepare_75 rfl (lv_at hl 0 rfl) ?_
  refine gX4_22 E.1 h dX4_prepare_76 ?_
  refine lv_iload_n hx hb dX4_prepare_79 rfl (lv_at hl 1 rfl) ?_
  have h22 := hw.1
  have hw := hw.2
  refine aC_36 E.1 h h22 dX4_prepare_80 ?_
  refine lv_iconst (v := (-1)) hx hb dX4_prepare_81 (by decide) ?_
  refine lv_icmp_ne (tgt := 92) hx hb dX4_prepare_82 (by decide) (fun c23 => ?_) (fun c23 => ?_)
  · have hw := hw.2 c23
    exact x_vret E.1 h hw dX4_prepare_92
  · have hw := hw.1 c23
    refine lv_aload_n hx hb dX4_prepare_85 rfl (lv_at hl 0 rfl) ?_
    refine gX4_28 E.1 h dX4_prepare_86 ?_
    refine lv_iload_n hx hb dX4_prepare_89 rfl (lv_at hl 1 rfl) ?_
    refine lv_iconst (v := 0) hx hb dX4_prepare_90 (by decide) ?_
    have h25 := hw.1
    have hw := hw.2
    refine sC_38 E.1 h h25 dX4_prepare_91 (fun σ24 H locs eσ24 h => ?_)
    have hw := hw σ24 eσ24
    exact x_vret E.1 h hw dX4_prepare_92

end CWalk
