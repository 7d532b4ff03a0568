section CWalk
variable {p : Program} {l : Launch} {e : Env} {s : State} {m : MethodId} {args : Array Value} {below : List Frame} {meth : Method} {c : Code} {D : va_G} {cy : Nat → ClassId} {ks : Nat × Nat × Option Nat} {q : Nat → Nat} {A : Nat → Prop}
abbrev rC_X9_rewind : Room := { frames := 0, cells := 0, slots := 0, locals := 0 }
def wpC_X9_rewind (σ : CS) (Post : CS → Prop) : Prop := ∀ σ1 : CS, σ1 = cF σ 22 0 → ∀ σ2 : CS, σ2 = cF σ1 23 0 → Post σ2
set_option maxHeartbeats 1000000 in
set_option maxRecDepth 20000 in
theorem cC_X9_rewind {l : Launch} {D : va_G} {cy : Nat → ClassId} {ks : Nat × Nat × Option Nat} {q : Nat → Nat} {σ : CS} {sz : Nat} {Post : CS → Prop} (hw : wpC_X9_rewind σ Post) : Met l yX9_rewind (Cond.code yX9_rewind cX9_rewind 1 none :: wsA) rC_X9_rewind (zPc D cy ks (CW q cy σ) sz [.ref (q 1)]) (va_Qv Post (xB D cy (CW q cy) (va_A (CW q cy σ) sz)) (va_A (CW q cy σ) sz)) 0 0 (va_A (CW q cy σ) sz) := by
  refine z_enter (own := RX9) (WW := CW q cy) (by decide) rfl (Nat.le_of_ble_eq_true rfl) ?_
  intro p e s m below meth c ls E h hl
  have hx := E.1.1
  have hb := E.1.2.1
  have hl : lv_has ls 1 [(0, .ref (q 1))] := hl
  unfold wpC_X9_rewind at hw
  refine lv_aload_n hx hb dX9_rewind_0 rfl (lv_at hl 0 rfl) ?_
  refine lv_iconst (v := 0) hx hb dX9_rewind_1 (by decide) ?_
  refine pX9_19 E.1 h dX9_rewind_2 (fun σ1 H locs eσ1 h => ?_)
  have hw := hw σ1 eσ1
  refine lv_aload_n hx hb dX9_rewind_5 rfl (lv_at hl 0 rfl) ?_
  refine lv_iconst (v := 0) hx hb dX9_rewind_6 (by decide) ?_
  refine pX9_22 E.1 h dX9_rewind_7 (fun σ2 H locs eσ2 h => ?_)
  have hw := hw σ2 eσ2
  exact x_vret E.1 h hw dX9_rewind_10

abbrev rC_X9_isBlank : Room := { frames := 0, cells := 0, slots := 0, locals := 0 }
def wpC_X9_isBlank (σ : CS) (x0 : Int32) (Post : Int32 → CS → Prop) : Prop := (x0 = 9 → Post 1 σ) ∧ (¬ x0 = 9 → (x0 = 10 → Post 1 σ) ∧ (¬ x0 = 10 → (x0 = 13 → Post 1 σ) ∧ (¬ x0 = 13 → (x0 = 32 → Post 1 σ) ∧ (¬ x0 = 32 → Post 0 σ))))
set_option maxHeartbeats 1000000 in
set_option maxRecDepth 20000 in
theorem cC_X9_isBlank {l : Launch} {D : va_G} {cy : Nat → ClassId} {ks : Nat × Nat × Option Nat} {q : Nat → Nat} {σ : CS} {sz : Nat} {x0 : Int32} {Post : Int32 → CS → Prop} (hw : wpC_X9_isBlank σ x0 Post) : Met l yX9_isBlank (Cond.code yX9_isBlank cX9_isBlank 1 (some .boolean) :: wsA) rC_X9_isBlank (zPc D cy ks (CW q cy σ) sz [.int x0]) (va_Qi Post (xB D cy (CW q cy) (va_A (CW q cy σ) sz)) (va_A (CW q cy σ) sz)) 0 0 (va_A (CW q cy σ) sz) := by
  refine z_enter (own := RX9) (WW := CW q cy) (by decide) rfl (Nat.le_of_ble_eq_true rfl) ?_
  intro p e s m below meth c ls E h hl
  have hx := E.1.1
  have hb := E.1.2.1
  have hl : lv_has ls 1 [(0, .int x0)] := hl
  unfold wpC_X9_isBlank at hw
  refine lv_iload_n hx hb dX9_isBlank_0 rfl (lv_at hl 0 rfl) ?_
  refine lv_bipush (v := 9) hx hb dX9_isBlank_1 (by decide) ?_
  refine lv_icmp_eq (tgt := 24) hx hb dX9_isBlank_3 (by decide) (fun c1 => ?_) (fun c1 => ?_)
  · have hw := hw.1 c1
    refine lv_iconst (v := 1) hx hb dX9_isBlank_24 (by decide) ?_
    refine lv_goto (tgt := 29) hx hb dX9_isBlank_25 (by decide) ?_
    exact x_zret E.1 h rfl hw dX9_isBlank_29
  · have hw := hw.2 c1
    refine lv_iload_n hx hb dX9_isBlank_6 rfl (lv_at hl 0 rfl) ?_
    refine lv_bipush (v := 10) hx hb dX9_isBlank_7 (by decide) ?_
    refine lv_icmp_eq (tgt := 24) hx hb dX9_isBlank_9 (by decide) (fun c2 => ?_) (fun c2 => ?_)
    · have hw := hw.1 c2
      refine lv_iconst (v := 1) hx hb dX9_isBlank_24 (by decide) ?_
      refine lv_goto (tgt := 29) hx hb dX9_isBlank_25 (by decide) ?_
      exact x_zret E.1 h rfl hw dX9_isBlank_29
    · have hw := hw.2 c2
      refine lv_iload_n hx hb dX9_isBlank_12 rfl (lv_at hl 0 rfl) ?_
      refine lv_bipush (v := 13) hx hb dX9_isBlank_13 (by decide) ?_
      refine lv_icmp_eq (tgt := 24) hx hb dX9_isBlank_15 (by decide) (fun c3 => ?_) (fun c3 => ?_)
      · have hw := hw.1 c3
        refine lv_iconst (v := 1) hx hb dX9_isBlank_24 (by decide) ?_
        refine lv_goto (tgt := 29) hx hb dX9_isBlank_25 (by decide) ?_
        exact x_zret E.1 h rfl hw dX9_isBlank_29
      · have hw := hw.2 c3
        refine lv_iload_n hx hb dX9_isBlank_18 rfl (lv_at hl 0 rfl) ?_
        refine lv_bipush (v := 32) hx hb dX9_isBlank_19 (by decide) ?_
        refine lv_icmp_ne (tgt := 28) hx hb dX9_isBlank_21 (by decide) (fun c4 => ?_) (fun c4 => ?_)
        · have hw := hw.2 c4
          refine lv_iconst (v := 0) hx hb dX9_isBlank_28 (by decide) ?_
          exact x_zret E.1 h rfl hw dX9_isBlank_29
        · have hw := hw.1 c4
          refine lv_iconst (v := 1) hx hb dX9_isBlank_24 (by decide) ?_
          refine lv_goto (tgt := 29) hx hb dX9_isBlank_25 (by decide) ?_
          exact x_zret E.1 h rfl hw dX9_isBlank_29

abbrev rC_X9_isLetter : Room := { frames := 0, cells := 0, slots := 0, locals := 0 }
def wpC_X9_isLetter (σ : CS) (x0 : Int32) (Post : Int32 → CS → Prop) : Prop := (x0 < 97 → Post 0 σ) ∧ (¬ x0 < 97 → (122 < x0 → Post 0 σ) ∧ (¬ 122 < x0 → Post 1 σ))
set_option maxHeartbeats 1000000 in
set_option maxRecDepth 20000 in
theorem cC_X9_isLetter {l : Launch} {D : va_G} {cy : Nat → ClassId} {ks : Nat × Nat × Option Nat} {q : Nat → Nat} {σ : CS} {sz : Nat} {x0 : Int32} {Post : Int32 → CS → Prop} (hw : wpC_X9_isLetter σ x0 Post) : Met l yX9_isLetter (Cond.code yX9_isLetter cX9_isLetter 1 (some .boolean) :: wsA) rC_X9_isLetter (zPc D cy ks (CW q cy σ) sz [.int x0]) (va_Qi Post (xB D cy (CW q cy) (va_A (CW q cy σ) sz)) (va_A (CW q cy σ) sz)) 0 0 (va_A (CW q cy σ) sz) := by
  refine z_enter (own := RX9) (WW := CW q cy) (by decide) rfl (Nat.le_of_ble_eq_true rfl) ?_
  intro p e s m below meth c ls E h hl
  have hx := E.1.1
  have hb := E.1.2.1
  have hl : lv_has ls 1 [(0, .int x0)] := hl
  unfold wpC_X9_isLetter at hw
  refine lv_iload_n hx hb dX9_isLetter_0 rfl (lv_at hl 0 rfl) ?_
  refine lv_bipush (v := 97) hx hb dX9_isLetter_1 (by decide) ?_
  refine lv_icmp_lt (tgt := 16) hx hb dX9_isLetter_3 (by decide) (fun c1 => ?_) (fun c1 => ?_)
  · have hw := hw.1 c1
    refine lv_iconst (v := 0) hx hb dX9_isLetter_16 (by decide) ?_
    exact x_zret E.1 h rfl hw dX9_isLetter_17
  · have hw := hw.2 c1
    refine lv_iload_n hx hb dX9_isLetter_6 rfl (lv_at hl 0 rfl) ?_
    refine lv_bipush (v := 122) hx hb dX9_isLetter_7 (by decide) ?_
    refine lv_icmp_gt (tgt := 16) hx hb dX9_isLetter_9 (by decide) (fun c2 => ?_) (fun c2 => ?_)
    · have hw := hw.1 c2
      refine lv_iconst (v := 0) hx hb dX9_isLetter_16 (by decide) ?_
      exact x_zret E.1 h rfl hw dX9_isLetter_17
    · have hw := hw.2 c2
      refine lv_iconst (v := 1) hx hb dX9_isLetter_12 (by decide) ?_
      refine lv_goto (tgt := 17) hx hb dX9_isLetter_13 (by decide) ?_
      exact x_zret E.1 h rfl hw dX9_isLetter_17

abbrev rC_J0_isLatin1_aae02 : Room := { frames := 0, cells := 0, slots := 0, locals := 0 }
def wpC_J0_isLatin1_aae02 (σ : CS) (Post : Int32 → CS → Prop) : Prop := ((1 : Int32) = 0 → Post 0 σ) ∧ (¬ (1 : Int32) = 0 → ((0 : Int32) = 0 → Post 1 σ) ∧ (¬ (0 : Int32) = 0 → Post 0 σ))
set_option maxHeartbeats 1000000 in
set_option maxRecDepth 20000 in
theorem cC_J0_isLatin1_aae02 {l : Launch} {D : va_G} {cy : Nat → ClassId} {ks : Nat × Nat × Option Nat} {q : Nat → Nat} {σ : CS} {sz : Nat} {Post : Int32 → CS → Prop} (hw : wpC_J0_isLatin1_aae02 σ Post) : Met l yJ0_isLatin1_aae02 (Cond.code yJ0_isLatin1_aae02 cJ0_isLatin1_aae02 1 (some .boolean) :: wsA) rC_J0_isLatin1_aae02 (zPc D cy ks (CW q cy σ) sz [.ref ks.1]) (va_Qi Post (xB D cy (CW q cy) (va_A (CW q cy σ) sz)) (va_A (CW q cy σ) sz)) 0 0 (va_A (CW q cy σ) sz) := by
  refine z_enter (own := RJ0) (WW := CW q cy) (by decide) rfl (Nat.le_of_ble_eq_true rfl) ?_
  intro p e s m below meth c ls E h hl
  have hx := E.1.1
  have hb := E.1.2.1
  have hl : lv_has ls 1 [(0, .ref ks.1)] := hl
  unfold wpC_J0_isLatin1_aae02 at hw
  refine va_gets hx hb E.2.2.2.1 h.2.2.1 E.1.2.2.2.1 (E.1.2.2.2.2.1 _ fJ0_38) (fun _ h9 => h9) dJ0_isLatin1_aae02_0 ?_
  refine lv_if_eq (tgt := 17) hx hb dJ0_isLatin1_aae02_3 (by decide) (fun c1 => ?_) (fun c1 => ?_)
  · have hw := hw.1 c1
    refine lv_iconst (v := 0) hx hb dJ0_isLatin1_aae02_17 (by decide) ?_
    exact x_zret E.1 h rfl hw dJ0_isLatin1_aae02_18
  · have hw := hw.2 c1
    refine lv_aload_n hx hb dJ0_isLatin1_aae02_6 rfl (lv_at hl 0 rfl) ?_
    refine vk_getf hx hb (E.2.2.1.1 0 (by decide)).2.1 h.2.2.1 E.1.2.2.2.1 (E.1.2.2.2.2.1 _ fJ0_15) (fun _ h9 => h9) dJ0_isLatin1_aae02_7 ?_
    refine lv_if_ne (tgt := 17) hx hb dJ0_isLatin1_aae02_10 (by decide) (fun c2 => ?_) (fun c2 => ?_)
    · have hw := hw.2 c2
      refine lv_iconst (v := 0) hx hb dJ0_isLatin1_aae02_17 (by decide) ?_
      exact x_zret E.1 h rfl hw dJ0_isLatin1_aae02_18
    · have hw := hw.1 c2
      refine lv_iconst (v := 1) hx hb dJ0_isLatin1_aae02_13 (by decide) ?_
      refine lv_goto (tgt := 18) hx hb dJ0_isLatin1_aae02_14 (by decide) ?_
      exact x_zret E.1 h rfl hw dJ0_isLatin1_aae02_18

abbrev rC_J3_checkIndex_8e157 : Room := { frames := 0, cells := 0, slots := 0, locals := 0 }
def wpC_J3_checkIndex_8e157 (σ : CS) (x0 : Int32) (x1 : Int32) (Post : Int32 → CS → Prop) : Prop := (x0 < 0 → False) ∧ (¬ x0 < 0 → (x0 < x1 → Post x0 σ) ∧ (¬ x0 < x1 → False))
set_option maxHeartbeats 1000000 in
set_option maxRecDepth 20000 in
theorem cC_J3_checkIndex_8e157 {l : Launch} {D : va_G} {cy : Nat → ClassId} {ks : Nat × Nat × Option Nat} {q : Nat → Nat} {σ : CS} {sz : Nat} {x0 : Int32} {x1 : Int32} {Post : Int32 → CS → Prop} (hw : wpC_J3_checkIndex_8e157 σ x0 x1 Post) : Met l yJ3_checkIndex_8e157 (Cond.code yJ3_checkIndex_8e157 cJ3_checkIndex_8e157 3 (some .int) :: wsA) rC_J3_checkIndex_8e157 (zPc D cy ks (CW q cy σ) sz [.int x0, .int x1, va_rf ks.2.2]) (va_Qi Post (xB D cy (CW q cy) (va_A (CW q cy σ) sz)) (va_A (CW q cy σ) sz)) 0 0 (va_A (CW q cy σ) sz) := by
  refine z_enter (own := RJ3) (WW := CW q cy) (by decide) rfl (by obtain ⟨k1, k2, o⟩ := ks; cases o <;> exact Nat.le_of_ble_eq_true rfl) ?_
  intro p e s m below meth c ls E h hl
  have hx := E.1.1
  have hb := E.1.2.1
  have hl : lv_has ls 3 [(0, .int x0), (1, .int x1), (2, va_rf ks.2.2)] := hl
  unfold wpC_J3_checkIndex_8e157 at hw
  refine lv_iload_n hx hb dJ3_checkIndex_8e157_0 rfl (lv_at hl 0 rfl) ?_
  refine lv_if_lt (tgt := 9) hx hb dJ3_checkIndex_8e157_1 (by decide) (fun c1 => ?_) (fun c1 => ?_)
  · have hw := hw.1 c1
    exact False.elim hw
  · have hw := hw.2 c1
    refine lv_iload_n hx hb dJ3_checkIndex_8e157_4 rfl (lv_at hl 0 rfl) ?_
    refine lv_iload_n hx hb dJ3_checkIndex_8e157_5 rfl (lv_at hl 1 rfl) ?_
    refine lv_icmp_lt (tgt := 16) hx hb dJ3_checkIndex_8e157_6 (by decide) (fun c2 => ?_) (fun c2 => ?_)
    · have hw := hw.1 c2
      refine lv_iload_n hx hb dJ3_checkIndex_8e157_16 rfl (lv_at hl 0 rfl) ?_
      exact x_iret E.1 h hw dJ3_checkIndex_8e157_17
    · have hw := hw.2 c2
      exact False.elim hw

abbrev rC_J0_checkIndex_df160 : Room := { frames := 1, cells := 0, slots := 0, locals := 22 }
def wpC_J0_checkIndex_df160 (σ : CS) (x0 : Int32) (x1 : Int32) (Post : CS → Prop) : Prop := wpC_J3_checkIndex_8e157 σ x0 x1 (fun r1 σ2 => Post σ2)
set_option maxHeartbeats 1000000 in
set_option maxRecDepth 20000 in
theorem cC_J0_checkIndex_df160 {l : Launch} {D : va_G} {cy : Nat → ClassId} {ks : Nat × Nat × Option Nat} {q : Nat → Nat} {σ : CS} {sz : Nat} {x0 : Int32} {x1 : Int32} {Post : CS → Prop} (hw : wpC_J0_checkIndex_df160 σ x0 x1 Post) : Met l yJ0_checkIndex_df160 (Cond.code yJ0_checkIndex_df160 cJ0_checkIndex_df160 2 none :: wsA) rC_J0_checkIndex_df160 (zPc D cy ks (CW q cy σ) sz [.int x0, .int x1]) (va_Qv Post (xB D cy (CW q cy) (va_A (CW q cy σ) sz)) (va_A (CW q cy σ) sz)) 0 0 (va_A (CW q cy σ) sz) := by
  refine z_enter (own := RJ0) (WW := CW q cy) (by decide) rfl (Nat.le_of_ble_eq_true rfl) ?_
  intro p e s m below meth c ls E h hl
  have hx := E.1.1
  have hb := E.1.2.1
  have hl : lv_has ls 2 [(0, .int x0), (1, .int x1)] := hl
  unfold wpC_J0_checkIndex_df160 at hw
  refine lv_iload_n hx hb dJ0_checkIndex_df160_0 rfl (lv_at hl 0 rfl) ?_
  refine lv_iload_n hx hb dJ0_checkIndex_df160_1 rfl (lv_at hl 1 rfl) ?_
  refine va_gets hx hb E.2.2.2.2 h.2.2.1 E.1.2.2.2.1 (E.1.2.2.2.2.1 _ fJ0_1053) (fun _ h9 => h9) dJ0_checkIndex_df160_2 ?_
  refine x_calli h (z_runSX (WW := CW q cy) (rest := []) E h (cC_J3_checkIndex_8e157 hw) yyJ3_checkIndex_8e157 lJ0_1059 ⟨Nat.le_of_ble_eq_true rfl, Nat.le_of_ble_eq_true rfl⟩ rfl rfl hl.1 rfl (Nat.le_of_ble_eq_true rfl) dJ0_checkIndex_df160_5 ⟨Nat.le_refl 0, Nat.le_refl 0⟩) (fun r1 σ2 H locs hw h => ?_)
  refine lv_pop hx hb dJ0_checkIndex_df160_8 rfl ?_
  exact x_vret E.1 h hw dJ0_checkIndex_df160_9

abbrev rC_J1_charAt_3b067 : Room := { frames := 2, cells := 0, slots := 0, locals := 43 }
def wpC_J1_charAt_3b067 (σ : CS) (x1 : Int32) (Post : Int32 → CS → Prop) : Prop := wpC_J0_checkIndex_df160 σ x1 140 (fun σ1 => vp_in x1 140 ∧ narrow .char (.int ((((kWb.getD x1.toNatClampNeg 0) &&& 255).toUInt32 % 65536).toInt32)) = .int ((((kWb.getD x1.toNatClampNeg 0) &&& 255).toUInt32 % 65536).toInt32) ∧ Post ((((kWb.getD x1.toNatClampNeg 0) &&& 255).toUInt32 % 65536).toInt32) σ1)
set_option maxHeartbeats 1000000 in
set_option maxRecDepth 20000 in
theorem cC_J1_charAt_3b067 {l : Launch} {D : va_G} {cy : Nat → ClassId} {ks : Nat × Nat × Option Nat} {q : Nat → Nat} {σ : CS} {sz : Nat} {x1 : Int32} {Post : Int32 → CS → Prop} (hw : wpC_J1_charAt_3b067 σ x1 Post) : Met l yJ1_charAt_3b067 (Cond.code yJ1_charAt_3b067 cJ1_charAt_3b067 2 (some .char) :: wsA) rC_J1_charAt_3b067 (zPc D cy ks (CW q cy σ) sz [.ref ks.2.1, .int x1]) (va_Qi Post (xB D cy (CW q cy) (va_A (CW q cy σ) sz)) (va_A (CW q cy σ) sz)) 0 0 (va_A (CW q cy σ) sz) := by
  refine z_enter (own := RJ1) (WW := CW q cy) (by decide) rfl (Nat.le_of_ble_eq_true rfl) ?_
  intro p e s m below meth c ls E h hl
  have hx := E.1.1
  have hb := E.1.2.1
  have hl : lv_has ls 2 [(0, .ref ks.2.1), (1, .int x1)] := hl
  unfold wpC_J1_charAt_3b067 at hw
  refine lv_iload_n hx hb dJ1_charAt_3b067_0 rfl (lv_at hl 1 rfl) ?_
  refine lv_aload_n hx hb dJ1_charAt_3b067_1 rfl (lv_at hl 0 rfl) ?_
  refine va_tlen (v := 140) hx hb (E.2.2.1.1 0 (by decide)).2.2.2 h.2.2.1 (by decide) dJ1_charAt_3b067_2 ?_
  refine x_callv h (z_runSX (WW := CW q cy) (rest := []) E h (cC_J0_checkIndex_df160 hw) yyJ0_checkIndex_df160 lJ1_9 ⟨Nat.le_of_ble_eq_true rfl, Nat.le_of_ble_eq_true rfl⟩ rfl rfl hl.1 rfl (Nat.le_of_ble_eq_true rfl) dJ1_charAt_3b067_3 ⟨Nat.le_refl 0, Nat.le_refl 0⟩) (fun σ1 H locs hw h => ?_)
  refine lv_aload_n hx hb dJ1_charAt_3b067_6 rfl (lv_at hl 0 rfl) ?_
  refine lv_iload_n hx hb dJ1_charAt_3b067_7 rfl (lv_at hl 1 rfl) ?_
  have h2 := hw.1
  have hw := hw.2
  refine va_tb (v := .int (kWb.getD x1.toNatClampNeg 0)) hx hb (E.2.2.1.1 0 (by decide)).2.2.2 h.2.2.1 h2 rfl dJ1_charAt_3b067_8 ?_
  refine lv_sipush (v := 255) hx hb dJ1_charAt_3b067_9 (by decide) ?_
  refine lv_iand hx hb dJ1_charAt_3b067_12 ?_
  refine lv_i2c (v := (((kWb.getD x1.toNatClampNeg 0) &&& 255).toUInt32 % 65536).toInt32) hx hb dJ1_charAt_3b067_13 rfl ?_
  exact z_tret E.1 h hw.1 hw.2 dJ1_charAt_3b067_14

abbrev rC_J0_charAt_5068e : Room := { frames := 3, cells := 0, slots := 0, locals := 64 }
def wpC_J0_charAt_5068e (σ : CS) (x1 : Int32) (Post : Int32 → CS → Prop) : Prop := wpC_J0_isLatin1_aae02 σ (fun r1 σ2 => (r1 = 0 → False) ∧ (¬ r1 = 0 → wpC_J1_charAt_3b067 σ2 x1 (fun r4 σ5 => narrow .char (.int r4) = .int r4 ∧ Post r4 σ5)))
set_option maxHeartbeats 1000000 in
set_option maxRecDepth 20000 in
theorem cC_J0_charAt_5068e {l : Launch} {D : va_G} {cy : Nat → ClassId} {ks : Nat × Nat × Option Nat} {q : Nat → Nat} {σ : CS} {sz : Nat} {x1 : Int32} {Post : Int32 → CS → Prop} (hw : wpC_J0_charAt_5068e σ x1 Post) : Met l yJ0_charAt_5068e (Cond.code yJ0_charAt_5068e cJ0_charAt_5068e 2 (some .char) :: wsA) rC_J0_charAt_5068e (zPc D cy ks (CW q cy σ) sz [.ref ks.1, .int x1]) (va_Qi Post (xB D cy (CW q cy) (va_A (CW q cy σ) sz)) (va_A (CW q cy σ) sz)) 0 0 (va_A (CW q cy σ) sz) := by
  refine z_enter (own := RJ0) (WW := CW q cy) (by decide) rfl (Nat.le_of_ble_eq_true rfl) ?_
  intro p e s m below meth c ls E h hl
  have hx := E.1.1
  have hb := E.1.2.1
  have hl : lv_has ls 2 [(0, .ref ks.1), (1, .int x1)] := hl
  unfold wpC_J0_charAt_5068e at hw
  refine lv_aload_n hx hb dJ0_charAt_5068e_0 rfl (lv_at hl 0 rfl) ?_
  refine x_calli h (z_runVR (WW := CW q cy) (rest := []) E h (cC_J0_isLatin1_aae02 hw) yyJ0_isLatin1_aae02 lJ0_492 (vk_recv (i := 0) E.2.2.1 (by decide) h.2.2.1) ⟨Nat.le_of_ble_eq_true rfl, Nat.le_of_ble_eq_true rfl⟩ rfl rfl hl.1 rfl (Nat.le_of_ble_eq_true rfl) dJ0_charAt_5068e_1 ⟨Nat.le_refl 0, Nat.le_refl 0⟩) (fun r1 σ2 H locs hw h => ?_)
  refine lv_if_eq (tgt := 16) hx hb dJ0_charAt_5068e_4 (by decide) (fun c3 => ?_) (fun c3 => ?_)
  · have hw := hw.1 c3
    exact False.elim hw
  · have hw := hw.2 c3
    refine lv_aload_n hx hb dJ0_charAt_5068e_7 rfl (lv_at hl 0 rfl) ?_
    refine vk_getf hx hb (E.2.2.1.1 0 (by decide)).2.2.1 h.2.2.1 E.1.2.2.2.1 (E.1.2.2.2.2.1 _ fJ0_9) (fun _ h9 => h9) dJ0_charAt_5068e_8 ?_
    refine lv_iload_n hx hb dJ0_charAt_5068e_11 rfl (lv_at hl 1 rfl) ?_
    refine x_calli h (z_runSX (WW := CW q cy) (rest := []) E h (cC_J1_charAt_3b067 hw) yyJ1_charAt_3b067 lJ0_495 ⟨Nat.le_of_ble_eq_true rfl, Nat.le_of_ble_eq_true rfl⟩ rfl rfl hl.1 rfl (Nat.le_of_ble_eq_true rfl) dJ0_charAt_5068e_12 ⟨Nat.le_refl 0, Nat.le_refl 0⟩) (fun r4 σ5 H locs hw h => ?_)
    exact z_tret E.1 h hw.1 hw.2 dJ0_charAt_5068e_15

abbrev rC_X9_isWord : Room := { frames := 4, cells := 0, slots := 0, locals := 85 }
def wpC_X9_isWord_23 (Post : Int32 → CS → Prop) : Nat → CS → Int32 → Int32 → Int32 → Prop
  | 0, _, _, _, _ => False
  | n + 1, σ, x1, x2, x3 => (x2 ≤ x3 → Post 1 σ) ∧ (¬ x2 ≤ x3 → wpC_J0_charAt_5068e σ (x1 + x3) (fun r2 σ3 => vp_in ((σ3.1 22) + x3) 2000 ∧ (r2 = (σ3.2.1 2 ((σ3.1 22) + x3).toNatClampNeg) → ∀ y6 : Int32, y6 = x3 + 1 → wpC_X9_isWord_23 Post n σ3 x1 x2 y6) ∧ (¬ r2 = (σ3.2.1 2 ((σ3.1 22) + x3).toNatClampNeg) → Post 0 σ3)))
set_option maxHeartbeats 1000000 in
set_option maxRecDepth 20000 in
theorem wkC_X9_isWord_23 {Post : Int32 → CS → Prop} (E : zE cX9_isWord RX9 4 (some .boolean) D cy ks A p s m args meth c) : ∀ n : Nat, ∀ (σ : CS) (x1 : Int32) (x2 : Int32) (x3 : Int32) (H : Heap) (locs : List Loc) (ls : Array Slot), xH D A s (CW q cy σ) H locs → wpC_X9_isWord_23 Post n σ x1 x2 x3 → lv_has ls 4 [(0, .ref (q 1)), (1, .int x1), (2, .int x2), (3, .int x3)] → W p l e rC_X9_isWord s m args below meth c H locs 0 0 (MQ below (va_Qi Post (xB D cy (CW q cy) A) A) args s 0 0 A) (F0 m 23 ls []) := by
  have hx := E.1.1
  have hb := E.1.2.1
  intro n
  induction n with
  | zero => intro σ x1 x2 x3 H locs ls h hw hl; exact False.elim hw
  | succ n ih =>
    intro σ x1 x2 x3 H locs ls h hw hl
    refine lv_iload_n hx hb dX9_isWord_23 rfl (lv_at hl 3 rfl) ?_
    refine lv_iload_n hx hb dX9_isWord_24 rfl (lv_at hl 2 rfl) ?_
    refine lv_icmp_ge (tgt := 58) hx hb dX9_isWord_25 (by decide) (fun c1 => ?_) (fun c1 => ?_)
    · have hw := hw.1 c1
      refine lv_iconst (v := 1) hx hb dX9_isWord_58 (by decide) ?_
      exact x_zret E.1 h rfl hw dX9_isWord_59
    · have hw := hw.2 c1
      refine va_ldcS hx hb E.1.2.2.2.1 E.2.1 dX9_isWord_28 ?_
      refine lv_iload_n hx hb dX9_isWord_30 rfl (lv_at hl 1 rfl) ?_
      refine lv_iload_n hx hb dX9_isWord_31 rfl (lv_at hl 3 rfl) ?_
      refine lv_iadd hx hb dX9_isWord_32 ?_
      refine x_calli h (z_runVR (WW := CW q cy) (rest := []) E h (cC_J0_charAt_5068e hw) yyJ0_charAt_5068e lX9_52 (vk_recv (i := 0) E.2.2.1 (by decide) h.2.2.1) ⟨Nat.le_of_ble_eq_true rfl, Nat.le_of_ble_eq_true rfl⟩ rfl rfl hl.1 rfl (Nat.le_of_ble_eq_true rfl) dX9_isWord_33 ⟨Nat.le_refl 0, Nat.le_refl 0⟩) (fun r2 σ3 H locs hw h => ?_)
      refine lv_aload_n hx hb dX9_isWord_36 rfl (lv_at hl 0 rfl) ?_
      refine gX9_9 E.1 h dX9_isWord_37 ?_
      refine lv_aload_n hx hb dX9_isWord_40 rfl (lv_at hl 0 rfl) ?_
      refine gX9_19 E.1 h dX9_isWord_41 ?_
      refine lv_iload_n hx hb dX9_isWord_44 rfl (lv_at hl 3 rfl) ?_
      refine lv_iadd hx hb dX9_isWord_45 ?_
      have h4 := hw.1
      have hw := hw.2
      refine aC_2 E.1 h h4 dX9_isWord_46 ?_
      refine lv_icmp_eq (tgt := 52) hx hb dX9_isWord_47 (by decide) (fun c5 => ?_) (fun c5 => ?_)
      · have hw := hw.1 c5
        obtain ⟨y6, ey6⟩ : ∃ z : Int32, z = x3 + 1 := ⟨_, rfl⟩
        have hw := hw y6 ey6
        refine lv_iinc (v := y6) (lv' := [(3, .int y6), (0, .ref (q 1)), (1, .int x1), (2, .int x2)]) hx hb dX9_isWord_52 hl (k := 3) rfl (by rw [ey6]; rfl) (by decide) rfl (fun ls hl => ?_)
        refine lv_goto (tgt := 23) hx hb dX9_isWord_55 (by decide) ?_
        exact ih _ _ _ _ _ _ _ h hw (lv_sub hl [1, 2, 3, 0] rfl)
      · have hw := hw.2 c5
        refine lv_iconst (v := 0) hx hb dX9_isWord_50 (by decide) ?_
        exact x_zret E.1 h rfl hw dX9_isWord_51

def wpC_X9_isWord (σ : CS) (x1 : Int32) (x2 : Int32) (Post : Int32 → CS → Prop) : Prop := (7 ≤ x2 → Post 0 σ) ∧ (¬ 7 ≤ x2 → wpC_J0_charAt_5068e σ (x1 + x2) (fun r2 σ3 => (r2 = 32 → ∃ g, wpC_X9_isWord_23 Post g σ3 x1 x2 0) ∧ (¬ r2 = 32 → Post 0 σ3)))
set_option maxHeartbeats 1000000 in
set_option maxRecDepth 20000 in
theorem cC_X9_isWord {l : Launch} {D : va_G} {cy : Nat → ClassId} {ks : Nat × Nat × Option Nat} {q : Nat → Nat} {σ : CS} {sz : Nat} {x1 : Int32} {x2 : Int32} {Post : Int32 → CS → Prop} (hw : wpC_X9_isWord σ x1 x2 Post) : Met l yX9_isWord (Cond.code yX9_isWord cX9_isWord 4 (some .boolean) :: wsA) rC_X9_isWord (zPc D cy ks (CW q cy σ) sz [.ref (q 1), .int x1, .int x2]) (va_Qi Post (xB D cy (CW q cy) (va_A (CW q cy σ) sz)) (va_A (CW q cy σ) sz)) 0 0 (va_A (CW q cy σ) sz) := by
  refine z_enter (own := RX9) (WW := CW q cy) (by decide) rfl (Nat.le_of_ble_eq_true rfl) ?_
  intro p e s m below meth c ls E h hl
  have hx := E.1.1
  have hb := E.1.2.1
  have hl : lv_has ls 4 [(0, .ref (q 1)), (1, .int x1), (2, .int x2)] := hl
  unfold wpC_X9_isWord at hw
  refine lv_iload_n hx hb dX9_isWord_0 rfl (lv_at hl 2 rfl) ?_
  refine lv_bipush (v := 7) hx hb dX9_isWord_1 (by decide) ?_
  refine lv_icmp_ge (tgt := 19) hx hb dX9_isWord_3 (by decide) (fun c1 => ?_) (fun c1 => ?_)
  · have hw := hw.1 c1
    refine lv_iconst (v := 0) hx hb dX9_isWord_19 (by decide) ?_
    exact x_zret E.1 h rfl hw dX9_isWord_20
  · have hw := hw.2 c1
    refine va_ldcS hx hb E.1.2.2.2.1 E.2.1 dX9_isWord_6 ?_
    refine lv_iload_n hx hb dX9_isWord_8 rfl (lv_at hl 1 rfl) ?_
    refine lv_iload_n hx hb dX9_isWord_9 rfl (lv_at hl 2 rfl) ?_
    refine lv_iadd hx hb dX9_isWord_10 ?_
    refine x_calli h (z_runVR (WW := CW q cy) (rest := []) E h (cC_J0_charAt_5068e hw) yyJ0_charAt_5068e lX9_52 (vk_recv (i := 0) E.2.2.1 (by decide) h.2.2.1) ⟨Nat.le_of_ble_eq_true rfl, Nat.le_of_ble_eq_true rfl⟩ rfl rfl hl.1 rfl (Nat.le_of_ble_eq_true rfl) dX9_isWord_11 ⟨Nat.le_refl 0, Nat.le_refl 0⟩) (fun r2 σ3 H locs hw h => ?_)
    refine lv_bipush (v := 32) hx hb dX9_isWord_14 (by decide) ?_
    refine lv_icmp_eq (tgt := 21) hx hb dX9_isWord_16 (by decide) (fun c4 => ?_) (fun c4 => ?_)
    · have hw := hw.1 c4
      refine lv_iconst (v := 0) hx hb dX9_isWord_21 (by decide) ?_
      refine lv_istore_n (lv' := [(3, .int 0), (0, .ref (q 1)), (1, .int x1), (2, .int x2)]) hx hb dX9_isWord_22 rfl hl (by decide) rfl (fun ls hl => ?_)
      obtain ⟨g, hw⟩ := hw
      exact wkC_X9_isWord_23 E g _ _ _ _ _ _ _ h hw (lv_sub hl [1, 2, 3, 0] rfl)
    · have hw := hw.2 c4
      refine lv_iconst (v := 0) hx hb dX9_isWord_19 (by decide) ?_
      exact x_zret E.1 h rfl hw dX9_isWord_20

abbrev rC_X9_word : Room := { frames := 5, cells := 0, slots := 0, locals := 108 }
def wpC_X9_word_41 (Post : Int32 → CS → Prop) : Nat → CS → Int32 → Prop
  | 0, _, _ => False
  | n + 1, σ, x1 => (20 ≤ x1 → Post ((-2)) σ) ∧ (¬ 20 ≤ x1 → wpC_X9_isWord σ (x1 * 7) ((σ.1 23) - (σ.1 22)) (fun r2 σ3 => (r2 = 0 → ∀ y5 : Int32, y5 = x1 + 1 → wpC_X9_word_41 Post n σ3 y5) ∧ (¬ r2 = 0 → Post (10000 + x1) σ3)))
set_option maxHeartbeats 1000000 in
set_option maxRecDepth 20000 in
theorem wkC_X9_word_41 {Post : Int32 → CS → Prop} (E : zE cX9_word RX9 2 (some .int) D cy ks A p s m args meth c) : ∀ n : Nat, ∀ (σ : CS) (x1 : Int32) (H : Heap) (locs : List Loc) (ls : Array Slot), xH D A s (CW q cy σ) H locs → wpC_X9_word_41 Post n σ x1 → lv_has ls 2 [(0, .ref (q 1)), (1, .int x1)] → W p l e rC_X9_word s m args below meth c H locs 0 0 (MQ below (va_Qi Post (xB D cy (CW q cy) A) A) args s 0 0 A) (F0 m 41 ls []) := by
  have hx := E.1.1
  have hb := E.1.2.1
  intro n
  induction n with
  | zero => intro σ x1 H locs ls h hw hl; exact False.elim hw
  | succ n ih =>
    intro σ x1 H locs ls h hw hl
    refine lv_iload_n hx hb dX9_word_41 rfl (lv_at hl 1 rfl) ?_
    refine lv_bipush (v := 20) hx hb dX9_word_42 (by decide) ?_
    refine lv_icmp_ge (tgt := 79) hx hb dX9_word_44 (by decide) (fun c1 => ?_) (fun c1 => ?_)
    · have hw := hw.1 c1
      refine lv_bipush (v := (-2)) hx hb dX9_word_79 (by decide) ?_
      exact x_iret E.1 h hw dX9_word_81
    · have hw := hw.2 c1
      refine lv_aload_n hx hb dX9_word_47 rfl (lv_at hl 0 rfl) ?_
      refine lv_iload_n hx hb dX9_word_48 rfl (lv_at hl 1 rfl) ?_
      refine lv_bipush (v := 7) hx hb dX9_word_49 (by decide) ?_
      refine lv_imul hx hb dX9_word_51 ?_
      refine lv_aload_n hx hb dX9_word_52 rfl (lv_at hl 0 rfl) ?_
      refine gX9_22 E.1 h dX9_word_53 ?_
      refine lv_aload_n hx hb dX9_word_56 rfl (lv_at hl 0 rfl) ?_
      refine gX9_19 E.1 h dX9_word_57 ?_
      refine lv_isub hx hb dX9_word_60 ?_
      refine x_calli h (z_runV (WW := CW q cy) (rest := []) E h (cC_X9_isWord hw) yyX9_isWord lX9_46 1 rfl rfl ⟨Nat.le_of_ble_eq_true rfl, Nat.le_of_ble_eq_true rfl⟩ rfl rfl hl.1 rfl (Nat.le_of_ble_eq_true rfl) dX9_word_61 ⟨Nat.le_refl 0, Nat.le_refl 0⟩) (fun r2 σ3 H locs hw h => ?_)
      refine lv_if_eq (tgt := 73) hx hb dX9_word_64 (by decide) (fun c4 => ?_) (fun c4 => ?_)
      · have hw := hw.1 c4
        obtain ⟨y5, ey5⟩ : ∃ z : Int32, z = x1 + 1 := ⟨_, rfl⟩
        have hw := hw y5 ey5
        refine lv_iinc (v := y5) (lv' := [(1, .int y5), (0, .ref (q 1))]) hx hb dX9_word_73 hl (k := 1) rfl (by rw [ey5]; rfl) (by decide) rfl (fun ls hl => ?_)
        refine lv_goto (tgt := 41) hx hb dX9_word_76 (by decide) ?_
        exact ih _ _ _ _ _ h hw (lv_sub hl [1, 0] rfl)
      · have hw := hw.2 c4
        refine lv_sipush (v := 10000) hx hb dX9_word_67 (by decide) ?_
        refine lv_iload_n hx hb dX9_word_70 rfl (lv_at hl 1 rfl) ?_
        refine lv_iadd hx hb dX9_word_71 ?_
        exact x_iret E.1 h hw dX9_word_72

def wpC_X9_word_39 (Post : Int32 → CS → Prop) (σ : CS) : Prop := ∃ g, wpC_X9_word_41 Post g σ 0
set_option maxHeartbeats 1000000 in
set_option maxRecDepth 20000 in
theorem wkC_X9_word_39 {Post : Int32 → CS → Prop} (E : zE cX9_word RX9 2 (some .int) D cy ks A p s m args meth c) : ∀ (σ : CS) (H : Heap) (locs : List Loc) (ls : Array Slot), xH D A s (CW q cy σ) H locs → wpC_X9_word_39 Post σ → lv_has ls 2 [(0, .ref (q 1))] → W p l e rC_X9_word s m args below meth c H locs 0 0 (MQ below (va_Qi Post (xB D cy (CW q cy) A) A) args s 0 0 A) (F0 m 39 ls []) := by
  have hx := E.1.1
  have hb := E.1.2.1
  intro σ H locs ls h hw hl
  unfold wpC_X9_word_39 at hw
  refine lv_iconst (v := 0) hx hb dX9_word_39 (by decide) ?_
  refine lv_istore_n (lv' := [(1, .int 0), (0, .ref (q 1))]) hx hb dX9_word_40 rfl hl (by decide) rfl (fun ls hl => ?_)
  obtain ⟨g, hw⟩ := hw
  exact wkC_X9_word_41 E g _ _ _ _ _ h hw (lv_sub hl [1, 0] rfl)

def wpC_X9_word_0 (Post : Int32 → CS → Prop) : Nat → CS → Prop
  | 0, _ => False
  | n + 1, σ => ((σ.1 21) ≤ (σ.1 23) → wpC_X9_word_39 Post σ) ∧ (¬ (σ.1 21) ≤ (σ.1 23) → vp_in (σ.1 23) 2000 ∧ wpC_X9_isLetter σ (σ.2.1 2 (σ.1 23).toNatClampNeg) (fun r3 σ4 => (r3 = 0 → wpC_X9_word_39 Post σ4) ∧ (¬ r3 = 0 → ∀ σ6 : CS, σ6 = cF σ4 23 ((σ4.1 23) + 1) → wpC_X9_word_0 Post n σ6)))
set_option maxHeartbeats 1000000 in
set_option maxRecDepth 20000 in
theorem wkC_X9_word_0 {Post : Int32 → CS → Prop} (E : zE cX9_word RX9 2 (some .int) D cy ks A p s m args meth c) : ∀ n : Nat, ∀ (σ : CS) (H : Heap) (locs : List Loc) (ls : Array Slot), xH D A s (CW q cy σ) H locs → wpC_X9_word_0 Post n σ → lv_has ls 2 [(0, .ref (q 1))] → W p l e rC_X9_word s m args below meth c H locs 0 0 (MQ below (va_Qi Post (xB D cy (CW q cy) A) A) args s 0 0 A) (F0 m 0 ls []) := by
  have hx := E.1.1
  have hb := E.1.2.1
  intro n
  induction n with
  | zero => intro σ H locs ls h hw hl; exact False.elim hw
  | succ n ih =>
    intro σ H locs ls h hw hl
    refine lv_aload_n hx hb dX9_word_0 rfl (lv_at hl 0 rfl) ?_
    refine gX9_22 E.1 h dX9_word_1 ?_
    refine lv_aload_n hx hb dX9_word_4 rfl (lv_at hl 0 rfl) ?_
    refine gX9_15 E.1 h dX9_word_5 ?_
    refine lv_icmp_ge (tgt := 39) hx hb dX9_word_8 (by decide) (fun c1 => ?_) (fun c1 => ?_)
    · have hw := hw.1 c1
      exact wkC_X9_word_39 E _ _ _ _ h hw (lv_sub hl [0] rfl)
    · have hw := hw.2 c1
      refine lv_aload_n hx hb dX9_word_11 rfl (lv_at hl 0 rfl) ?_
      refine gX9_9 E.1 h dX9_word_12 ?_
      refine lv_aload_n hx hb dX9_word_15 rfl (lv_at hl 0 rfl) ?_
      refine gX9_22 E.1 h dX9_word_16 ?_
      have h2 := hw.1
      have hw := hw.2
      refine aC_2 E.1 h h2 dX9_word_19 ?_
      refine x_calli h (z_runS (WW := CW q cy) (rest := []) E h (cC_X9_isLetter hw) yyX9_isLetter lX9_29 ⟨Nat.le_of_ble_eq_true rfl, Nat.le_of_ble_eq_true rfl⟩ rfl rfl hl.1 rfl (Nat.le_of_ble_eq_true rfl) dX9_word_20 ⟨Nat.le_refl 0, Nat.le_refl 0⟩) (fun r3 σ4 H locs hw h => ?_)
      refine lv_if_eq (tgt := 39) hx hb dX9_word_23 (by decide) (fun c5 => ?_) (fun c5 => ?_)
      · have hw := hw.1 c5
        exact wkC_X9_word_39 E _ _ _ _ h hw (lv_sub hl [0] rfl)
      · have hw := hw.2 c5
        refine lv_aload_n hx hb dX9_word_26 rfl (lv_at hl 0 rfl) ?_
        refine lv_dup hx hb dX9_word_27 rfl ?_
        refine gX9_22 E.1 h dX9_word_28 ?_
        refine lv_iconst (v := 1) hx hb dX9_word_31 (by decide) ?_
        refine lv_iadd hx hb dX9_word_32 ?_
        refine pX9_22 E.1 h dX9_word_33 (fun σ6 H locs eσ6 h => ?_)
        have hw := hw σ6 eσ6
        refine lv_goto (tgt := 0) hx hb dX9_word_36 (by decide) ?_
        exact ih _ _ _ _ h hw (lv_sub hl [0] rfl)

def wpC_X9_word (σ : CS) (Post : Int32 → CS → Prop) : Prop := ∃ g, wpC_X9_word_0 Post g σ
set_option maxHeartbeats 1000000 in
set_option maxRecDepth 20000 in
theorem cC_X9_word {l : Launch} {D : va_G} {cy : Nat → ClassId} {ks : Nat × Nat × Option Nat} {q : Nat → Nat} {σ : CS} {sz : Nat} {Post : Int32 → CS → Prop} (hw : wpC_X9_word σ Post) : Met l yX9_word (Cond.code yX9_word cX9_word 2 (some .int) :: wsA) rC_X9_word (zPc D cy ks (CW q cy σ) sz [.ref (q 1)]) (va_Qi Post (xB D cy (CW q cy) (va_A (CW q cy σ) sz)) (va_A (CW q cy σ) sz)) 0 0 (va_A (CW q cy σ) sz) := by
  refine z_enter (own := RX9) (WW := CW q cy) (by decide) rfl (Nat.le_of_ble_eq_true rfl) ?_
  intro p e s m below meth c ls E h hl
  have hx := E.1.1
  have hb := E.1.2.1
  have hl : lv_has ls 2 [(0, .ref (q 1))] := hl
  unfold wpC_X9_word at hw
  obtain ⟨g, hw⟩ := hw
  exact wkC_X9_word_0 E g _ _ _ _ h hw (lv_sub hl [0] rfl)

abbrev rC_X9_isDigit : Room := { frames := 0, cells := 0, slots := 0, locals := 0 }
def wpC_X9_isDigit (σ : CS) (x0 : Int32) (Post : Int32 → CS → Prop) : Prop := (x0 < 48 → Post 0 σ) ∧ (¬ x0 < 48 → (57 < x0 → Post 0 σ) ∧ (¬ 57 < x0 → Post 1 σ))
set_option maxHeartbeats 1000000 in
set_option maxRecDepth 20000 in
theorem cC_X9_isDigit {l : Launch} {D : va_G} {cy : Nat → ClassId} {ks : Nat × Nat × Option Nat} {q : Nat → Nat} {σ : CS} {sz : Nat} {x0 : Int32} {Post : Int32 → CS → Prop} (hw : wpC_X9_isDigit σ x0 Post) : Met l yX9_isDigit (Cond.code yX9_isDigit cX9_isDigit 1 (some .boolean) :: wsA) rC_X9_isDigit (zPc D cy ks (CW q cy σ) sz [.int x0]) (va_Qi Post (xB D cy (CW q cy) (va_A (CW q cy σ) sz)) (va_A (CW q cy σ) sz)) 0 0 (va_A (CW q cy σ) sz) := by
  refine z_enter (own := RX9) (WW := CW q cy) (by decide) rfl (Nat.le_of_ble_eq_true rfl) ?_
  intro p e s m below meth c ls E h hl
  have hx := E.1.1
  have hb := E.1.2.1
  have hl : lv_has ls 1 [(0, .int x0)] := hl
  unfold wpC_X9_isDigit at hw
  refine lv_iload_n hx hb dX9_isDigit_0 rfl (lv_at hl 0 rfl) ?_
  refine lv_bipush (v := 48) hx hb dX9_isDigit_1 (by decide) ?_
  refine lv_icmp_lt (tgt := 16) hx hb dX9_isDigit_3 (by decide) (fun c1 => ?_) (fun c1 => ?_)
  · have hw := hw.1 c1
    refine lv_iconst (v := 0) hx hb dX9_isDigit_16 (by decide) ?_
    exact x_zret E.1 h rfl hw dX9_isDigit_17
  · have hw := hw.2 c1
    refine lv_iload_n hx hb dX9_isDigit_6 rfl (lv_at hl 0 rfl) ?_
    refine lv_bipush (v := 57) hx hb dX9_isDigit_7 (by decide) ?_
    refine lv_icmp_gt (tgt := 16) hx hb dX9_isDigit_9 (by decide) (fun c2 => ?_) (fun c2 => ?_)
    · have hw := hw.1 c2
      refine lv_iconst (v := 0) hx hb dX9_isDigit_16 (by decide) ?_
      exact x_zret E.1 h rfl hw dX9_isDigit_17
    · have hw := hw.2 c2
      refine lv_iconst (v := 1) hx hb dX9_isDigit_12 (by decide) ?_
      refine lv_goto (tgt := 17) hx hb dX9_isDigit_13 (by decide) ?_
      exact x_zret E.1 h rfl hw dX9_isDigit_17

abbrev rC_X9_number : Room := { frames := 1, cells := 0, slots := 0, locals := 20 }
def wpC_X9_number_59 (Post : Int32 → CS → Prop) (σ : CS) (x1 : Int32) : Prop := (((σ.1 23) - (σ.1 22)) ≤ 4 → Post x1 σ) ∧ (¬ ((σ.1 23) - (σ.1 22)) ≤ 4 → Post ((-2)) σ)
set_option maxHeartbeats 1000000 in
set_option maxRecDepth 20000 in
theorem wkC_X9_number_59 {Post : Int32 → CS → Prop} (E : zE cX9_number RX9 2 (some .int) D cy ks A p s m args meth c) : ∀ (σ : CS) (x1 : Int32) (H : Heap) (locs : List Loc) (ls : Array Slot), xH D A s (CW q cy σ) H locs → wpC_X9_number_59 Post σ x1 → lv_has ls 2 [(0, .ref (q 1)), (1, .int x1)] → W p l e rC_X9_number s m args below meth c H locs 0 0 (MQ below (va_Qi Post (xB D cy (CW q cy) A) A) args s 0 0 A) (F0 m 59 ls []) := by
  have hx := E.1.1
  have hb := E.1.2.1
  intro σ x1 H locs ls h hw hl
  unfold wpC_X9_number_59 at hw
  refine lv_aload_n hx hb dX9_number_59 rfl (lv_at hl 0 rfl) ?_
  refine gX9_22 E.1 h dX9_number_60 ?_
  refine lv_aload_n hx hb dX9_number_63 rfl (lv_at hl 0 rfl) ?_
  refine gX9_19 E.1 h dX9_number_64 ?_
  refine lv_isub hx hb dX9_number_67 ?_
  refine lv_iconst (v := 4) hx hb dX9_number_68 (by decide) ?_
  refine lv_icmp_le (tgt := 77) hx hb dX9_number_69 (by decide) (fun c1 => ?_) (fun c1 => ?_)
  · have hw := hw.1 c1
    refine lv_iload_n hx hb dX9_number_77 rfl (lv_at hl 1 rfl) ?_
    exact x_iret E.1 h hw dX9_number_78
  · have hw := hw.2 c1
    refine lv_bipush (v := (-2)) hx hb dX9_number_72 (by decide) ?_
    refine lv_goto (tgt := 78) hx hb dX9_number_74 (by decide) ?_
    exact x_iret E.1 h hw dX9_number_78

def wpC_X9_number_2 (Post : Int32 → CS → Prop) : Nat → CS → Int32 → Prop
  | 0, _, _ => False
  | n + 1, σ, x1 => ((σ.1 21) ≤ (σ.1 23) → wpC_X9_number_59 Post σ x1) ∧ (¬ (σ.1 21) ≤ (σ.1 23) → vp_in (σ.1 23) 2000 ∧ wpC_X9_isDigit σ (σ.2.1 2 (σ.1 23).toNatClampNeg) (fun r3 σ4 => (r3 = 0 → wpC_X9_number_59 Post σ4 x1) ∧ (¬ r3 = 0 → vp_in (σ4.1 23) 2000 ∧ ∀ y7 : Int32, y7 = ((x1 * 10) + (σ4.2.1 2 (σ4.1 23).toNatClampNeg)) - 48 → ∀ σ8 : CS, σ8 = cF σ4 23 ((σ4.1 23) + 1) → wpC_X9_number_2 Post n σ8 y7)))
set_option maxHeartbeats 1000000 in
set_option maxRecDepth 20000 in
theorem wkC_X9_number_2 {Post : Int32 → CS → Prop} (E : zE cX9_number RX9 2 (some .int) D cy ks A p s m args meth c) : ∀ n : Nat, ∀ (σ : CS) (x1 : Int32) (H : Heap) (locs : List Loc) (ls : Array Slot), xH D A s (CW q cy σ) H locs → wpC_X9_number_2 Post n σ x1 → lv_has ls 2 [(0, .ref (q 1)), (1, .int x1)] → W p l e rC_X9_number s m args below meth c H locs 0 0 (MQ below (va_Qi Post (xB D cy (CW q cy) A) A) args s 0 0 A) (F0 m 2 ls []) := by
  have hx := E.1.1
  have hb := E.1.2.1
  intro n
  induction n with
  | zero => intro σ x1 H locs ls h hw hl; exact False.elim hw
  | succ n ih =>
    intro σ x1 H locs ls h hw hl
    refine lv_aload_n hx hb dX9_number_2 rfl (lv_at hl 0 rfl) ?_
    refine gX9_22 E.1 h dX9_number_3 ?_
    refine lv_aload_n hx hb dX9_number_6 rfl (lv_at hl 0 rfl) ?_
    refine gX9_15 E.1 h dX9_number_7 ?_
    refine lv_icmp_ge (tgt := 59) hx hb dX9_number_10 (by decide) (fun c1 => ?_) (fun c1 => ?_)
    · have hw := hw.1 c1
      exact wkC_X9_number_59 E _ _ _ _ _ h hw (lv_sub hl [0, 1] rfl)
    · have hw := hw.2 c1
      refine lv_aload_n hx hb dX9_number_13 rfl (lv_at hl 0 rfl) ?_
      refine gX9_9 E.1 h dX9_number_14 ?_
      refine lv_aload_n hx hb dX9_number_17 rfl (lv_at hl 0 rfl) ?_
      refine gX9_22 E.1 h dX9_number_18 ?_
      have h2 := hw.1
      have hw := hw.2
      refine aC_2 E.1 h h2 dX9_number_21 ?_
      refine x_calli h (z_runS (WW := CW q cy) (rest := []) E h (cC_X9_isDigit hw) yyX9_isDigit lX9_36 ⟨Nat.le_of_ble_eq_true rfl, Nat.le_of_ble_eq_true rfl⟩ rfl rfl hl.1 rfl (Nat.le_of_ble_eq_true rfl) dX9_number_22 ⟨Nat.le_refl 0, Nat.le_refl 0⟩) (fun r3 σ4 H locs hw h => ?_)
      refine lv_if_eq (tgt := 59) hx hb dX9_number_25 (by decide) (fun c5 => ?_) (fun c5 => ?_)
      · have hw := hw.1 c5
        exact wkC_X9_number_59 E _ _ _ _ _ h hw (lv_sub hl [0, 1] rfl)
      · have hw := hw.2 c5
        refine lv_iload_n hx hb dX9_number_28 rfl (lv_at hl 1 rfl) ?_
        refine lv_bipush (v := 10) hx hb dX9_number_29 (by decide) ?_
        refine lv_imul hx hb dX9_number_31 ?_
        refine lv_aload_n hx hb dX9_number_32 rfl (lv_at hl 0 rfl) ?_
        refine gX9_9 E.1 h dX9_number_33 ?_
        refine lv_aload_n hx hb dX9_number_36 rfl (lv_at hl 0 rfl) ?_
        refine gX9_22 E.1 h dX9_number_37 ?_
        have h6 := hw.1
        have hw := hw.2
        refine aC_2 E.1 h h6 dX9_number_40 ?_
        refine lv_iadd hx hb dX9_number_41 ?_
        refine lv_bipush (v := 48) hx hb dX9_number_42 (by decide) ?_
        refine lv_isub hx hb dX9_number_44 ?_
        refine lv_topi (fun y7 ey7 => ?_)
        have hw := hw y7 ey7
        refine lv_istore_n (lv' := [(1, .int y7), (0, .ref (q 1))]) hx hb dX9_number_45 rfl hl (by decide) rfl (fun ls hl => ?_)
        refine lv_aload_n hx hb dX9_number_46 rfl (lv_at hl 1 rfl) ?_
        refine lv_dup hx hb dX9_number_47 rfl ?_
        refine gX9_22 E.1 h dX9_number_48 ?_
        refine lv_iconst (v := 1) hx hb dX9_number_51 (by decide) ?_
        refine lv_iadd hx hb dX9_number_52 ?_
        refine pX9_22 E.1 h dX9_number_53 (fun σ8 H locs eσ8 h => ?_)
        have hw := hw σ8 eσ8
        refine lv_goto (tgt := 2) hx hb dX9_number_56 (by decide) ?_
        exact ih _ _ _ _ _ h hw (lv_sub hl [1, 0] rfl)

def wpC_X9_number (σ : CS) (Post : Int32 → CS → Prop) : Prop := ∃ g, wpC_X9_number_2 Post g σ 0
set_option maxHeartbeats 1000000 in
set_option maxRecDepth 20000 in
theorem cC_X9_number {l : Launch} {D : va_G} {cy : Nat → ClassId} {ks : Nat × Nat × Option Nat} {q : Nat → Nat} {σ : CS} {sz : Nat} {Post : Int32 → CS → Prop} (hw : wpC_X9_number σ Post) : Met l yX9_number (Cond.code yX9_number cX9_number 2 (some .int) :: wsA) rC_X9_number (zPc D cy ks (CW q cy σ) sz [.ref (q 1)]) (va_Qi Post (xB D cy (CW q cy) (va_A (CW q cy σ) sz)) (va_A (CW q cy σ) sz)) 0 0 (va_A (CW q cy σ) sz) := by
  refine z_enter (own := RX9) (WW := CW q cy) (by decide) rfl (Nat.le_of_ble_eq_true rfl) ?_
  intro p e s m below meth c ls E h hl
  have hx := E.1.1
  have hb := E.1.2.1
  have hl : lv_has ls 2 [(0, .ref (q 1))] := hl
  unfold wpC_X9_number at hw
  refine lv_iconst (v := 0) hx hb dX9_number_0 (by decide) ?_
  refine lv_istore_n (lv' := [(1, .int 0), (0, .ref (q 1))]) hx hb dX9_number_1 rfl hl (by decide) rfl (fun ls hl => ?_)
  obtain ⟨g, hw⟩ := hw
  exact wkC_X9_number_2 E g _ _ _ _ _ h hw (lv_sub hl [1, 0] rfl)

abbrev rC_X9_relation : Room := { frames := 0, cells := 0, slots := 0, locals := 0 }
def wpC_X9_relation_45 (Post : Int32 → CS → Prop) (σ : CS) (x1 : Int32) (x2 : Int32) : Prop := (x1 = 33 → (x2 = 0 → Post ((-2)) σ) ∧ (¬ x2 = 0 → Post 10025 σ)) ∧ (x1 = 60 → (x2 = 0 → Post 10026 σ) ∧ (¬ x2 = 0 → Post 10027 σ)) ∧ (x1 = 61 → (x2 = 0 → Post ((-2)) σ) ∧ (¬ x2 = 0 → Post 10024 σ)) ∧ (¬ x1 = 33 ∧ ¬ x1 = 60 ∧ ¬ x1 = 61 → Post ((-2)) σ)
set_option maxHeartbeats 1000000 in
set_option maxRecDepth 20000 in
theorem wkC_X9_relation_45 {Post : Int32 → CS → Prop} (E : zE cX9_relation RX9 3 (some .int) D cy ks A p s m args meth c) : ∀ (σ : CS) (x1 : Int32) (x2 : Int32) (H : Heap) (locs : List Loc) (ls : Array Slot), xH D A s (CW q cy σ) H locs → wpC_X9_relation_45 Post σ x1 x2 → lv_has ls 3 [(1, .int x1), (2, .int x2)] → W p l e rC_X9_relation s m args below meth c H locs 0 0 (MQ below (va_Qi Post (xB D cy (CW q cy) A) A) args s 0 0 A) (F0 m 45 ls []) := by
  have hx := E.1.1
  have hb := E.1.2.1
  intro σ x1 x2 H locs ls h hw hl
  unfold wpC_X9_relation_45 at hw
  refine lv_iload_n hx hb dX9_relation_45 rfl (lv_at hl 0 rfl) ?_
  by_cases c2 : x1 = 33
  · have hw := hw.1 c2
    refine lv_lookup (off := 47) (tgt := 93) hx hb dX9_relation_46 (by decide) (by rw [c2]; decide) (by decide) ?_
    refine lv_iload_n hx hb dX9_relation_93 rfl (lv_at hl 1 rfl) ?_
    refine lv_if_eq (tgt := 103) hx hb dX9_relation_94 (by decide) (fun c1 => ?_) (fun c1 => ?_)
    · have hw := hw.1 c1
      refine lv_bipush (v := (-2)) hx hb dX9_relation_103 (by decide) ?_
      exact x_iret E.1 h hw dX9_relation_105
    · have hw := hw.2 c1
      refine lv_sipush (v := 10025) hx hb dX9_relation_97 (by decide) ?_
      refine lv_goto (tgt := 105) hx hb dX9_relation_100 (by decide) ?_
      exact x_iret E.1 h hw dX9_relation_105
  have hw := hw.2
  by_cases c4 : x1 = 60
  · have hw := hw.1 c4
    refine lv_lookup (off := 60) (tgt := 106) hx hb dX9_relation_46 (by decide) (by rw [c4]; decide) (by decide) ?_
    refine lv_iload_n hx hb dX9_relation_106 rfl (lv_at hl 1 rfl) ?_
    refine lv_if_eq (tgt := 116) hx hb dX9_relation_107 (by decide) (fun c3 => ?_) (fun c3 => ?_)
    · have hw := hw.1 c3
      refine lv_sipush (v := 10026) hx hb dX9_relation_116 (by decide) ?_
      exact x_iret E.1 h hw dX9_relation_119
    · have hw := hw.2 c3
      refine lv_sipush (v := 10027) hx hb dX9_relation_110 (by decide) ?_
      refine lv_goto (tgt := 119) hx hb dX9_relation_113 (by decide) ?_
      exact x_iret E.1 h hw dX9_relation_119
  have hw := hw.2
  by_cases c6 : x1 = 61
  · have hw := hw.1 c6
    refine lv_lookup (off := 34) (tgt := 80) hx hb dX9_relation_46 (by decide) (by rw [c6]; decide) (by decide) ?_
    refine lv_iload_n hx hb dX9_relation_80 rfl (lv_at hl 1 rfl) ?_
    refine lv_if_eq (tgt := 90) hx hb dX9_relation_81 (by decide) (fun c5 => ?_) (fun c5 => ?_)
    · have hw := hw.1 c5
      refine lv_bipush (v := (-2)) hx hb dX9_relation_90 (by decide) ?_
      exact x_iret E.1 h hw dX9_relation_92
    · have hw := hw.2 c5
      refine lv_sipush (v := 10024) hx hb dX9_relation_84 (by decide) ?_
      refine lv_goto (tgt := 92) hx hb dX9_relation_87 (by decide) ?_
      exact x_iret E.1 h hw dX9_relation_92
  have hw := hw.2
  have hw := hw ⟨c2, c4, c6⟩
  refine lv_lookup (off := 74) (tgt := 120) hx hb dX9_relation_46 (by decide) (x_look3 (x_neI (by decide) c2) (x_neI (by decide) c4) (x_neI (by decide) c6)) (by decide) ?_
  refine lv_bipush (v := (-2)) hx hb dX9_relation_120 (by decide) ?_
  exact x_iret E.1 h hw dX9_relation_122

def wpC_X9_relation_30 (Post : Int32 → CS → Prop) (σ : CS) (x1 : Int32) (t0 : Int32) : Prop := (t0 = 0 → wpC_X9_relation_45 Post σ x1 t0) ∧ (¬ t0 = 0 → ∀ σ2 : CS, σ2 = cF σ 23 ((σ.1 23) + 1) → wpC_X9_relation_45 Post σ2 x1 t0)
set_option maxHeartbeats 1000000 in
set_option maxRecDepth 20000 in
theorem wkC_X9_relation_30 {Post : Int32 → CS → Prop} (E : zE cX9_relation RX9 3 (some .int) D cy ks A p s m args meth c) : ∀ (σ : CS) (x1 : Int32) (t0 : Int32) (H : Heap) (locs : List Loc) (ls : Array Slot), xH D A s (CW q cy σ) H locs → wpC_X9_relation_30 Post σ x1 t0 → lv_has ls 3 [(0, .ref (q 1)), (1, .int x1)] → W p l e rC_X9_relation s m args below meth c H locs 0 0 (MQ below (va_Qi Post (xB D cy (CW q cy) A) A) args s 0 0 A) (F0 m 30 ls [.int t0]) := by
  have hx := E.1.1
  have hb := E.1.2.1
  intro σ x1 t0 H locs ls h hw hl
  unfold wpC_X9_relation_30 at hw
  refine lv_istore_n (lv' := [(2, .int t0), (0, .ref (q 1)), (1, .int x1)]) hx hb dX9_relation_30 rfl hl (by decide) rfl (fun ls hl => ?_)
  refine lv_iload_n hx hb dX9_relation_31 rfl (lv_at hl 0 rfl) ?_
  refine lv_if_eq (tgt := 45) hx hb dX9_relation_32 (by decide) (fun c1 => ?_) (fun c1 => ?_)
  · have hw := hw.1 c1
    exact wkC_X9_relation_45 E _ _ _ _ _ _ h hw (lv_sub hl [2, 0] rfl)
  · have hw := hw.2 c1
    refine lv_aload_n hx hb dX9_relation_35 rfl (lv_at hl 1 rfl) ?_
    refine lv_dup hx hb dX9_relation_36 rfl ?_
    refine gX9_22 E.1 h dX9_relation_37 ?_
    refine lv_iconst (v := 1) hx hb dX9_relation_40 (by decide) ?_
    refine lv_iadd hx hb dX9_relation_41 ?_
    refine pX9_22 E.1 h dX9_relation_42 (fun σ2 H locs eσ2 h => ?_)
    have hw := hw σ2 eσ2
    exact wkC_X9_relation_45 E _ _ _ _ _ _ h hw (lv_sub hl [2, 0] rfl)

def wpC_X9_relation_29 (Post : Int32 → CS → Prop) (σ : CS) (x1 : Int32) : Prop := wpC_X9_relation_30 Post σ x1 0
set_option maxHeartbeats 1000000 in
set_option maxRecDepth 20000 in
theorem wkC_X9_relation_29 {Post : Int32 → CS → Prop} (E : zE cX9_relation RX9 3 (some .int) D cy ks A p s m args meth c) : ∀ (σ : CS) (x1 : Int32) (H : Heap) (locs : List Loc) (ls : Array Slot), xH D A s (CW q cy σ) H locs → wpC_X9_relation_29 Post σ x1 → lv_has ls 3 [(0, .ref (q 1)), (1, .int x1)] → W p l e rC_X9_relation s m args below meth c H locs 0 0 (MQ below (va_Qi Post (xB D cy (CW q cy) A) A) args s 0 0 A) (F0 m 29 ls []) := by
  have hx := E.1.1
  have hb := E.1.2.1
  intro σ x1 H locs ls h hw hl
  unfold wpC_X9_relation_29 at hw
  refine lv_iconst (v := 0) hx hb dX9_relation_29 (by decide) ?_
  exact wkC_X9_relation_30 E _ _ _ _ _ _ h hw (lv_sub hl [0, 1] rfl)

def wpC_X9_relation (σ : CS) (x1 : Int32) (Post : Int32 → CS → Prop) : Prop := ((σ.1 21) ≤ (σ.1 23) → wpC_X9_relation_29 Post σ x1) ∧ (¬ (σ.1 21) ≤ (σ.1 23) → vp_in (σ.1 23) 2000 ∧ ((σ.2.1 2 (σ.1 23).toNatClampNeg) = 61 → wpC_X9_relation_30 Post σ x1 1) ∧ (¬ (σ.2.1 2 (σ.1 23).toNatClampNeg) = 61 → wpC_X9_relation_29 Post σ x1))
set_option maxHeartbeats 1000000 in
set_option maxRecDepth 20000 in
theorem cC_X9_relation {l : Launch} {D : va_G} {cy : Nat → ClassId} {ks : Nat × Nat × Option Nat} {q : Nat → Nat} {σ : CS} {sz : Nat} {x1 : Int32} {Post : Int32 → CS → Prop} (hw : wpC_X9_relation σ x1 Post) : Met l yX9_relation (Cond.code yX9_relation cX9_relation 3 (some .int) :: wsA) rC_X9_relation (zPc D cy ks (CW q cy σ) sz [.ref (q 1), .int x1]) (va_Qi Post (xB D cy (CW q cy) (va_A (CW q cy σ) sz)) (va_A (CW q cy σ) sz)) 0 0 (va_A (CW q cy σ) sz) := by
  refine z_enter (own := RX9) (WW := CW q cy) (by decide) rfl (Nat.le_of_ble_eq_true rfl) ?_
  intro p e s m below meth c ls E h hl
  have hx := E.1.1
  have hb := E.1.2.1
  have hl : lv_has ls 3 [(0, .ref (q 1)), (1, .int x1)] := hl
  unfold wpC_X9_relation at hw
  refine lv_aload_n hx hb dX9_relation_0 rfl (lv_at hl 0 rfl) ?_
  refine gX9_22 E.1 h dX9_relation_1 ?_
  refine lv_aload_n hx hb dX9_relation_4 rfl (lv_at hl 0 rfl) ?_
  refine gX9_15 E.1 h dX9_relation_5 ?_
  refine lv_icmp_ge (tgt := 29) hx hb dX9_relation_8 (by decide) (fun c1 => ?_) (fun c1 => ?_)
  · have hw := hw.1 c1
    exact wkC_X9_relation_29 E _ _ _ _ _ h hw (lv_sub hl [0, 1] rfl)
  · have hw := hw.2 c1
    refine lv_aload_n hx hb dX9_relation_11 rfl (lv_at hl 0 rfl) ?_
    refine gX9_9 E.1 h dX9_relation_12 ?_
    refine lv_aload_n hx hb dX9_relation_15 rfl (lv_at hl 0 rfl) ?_
    refine gX9_22 E.1 h dX9_relation_16 ?_
    have h2 := hw.1
    have hw := hw.2
    refine aC_2 E.1 h h2 dX9_relation_19 ?_
    refine lv_bipush (v := 61) hx hb dX9_relation_20 (by decide) ?_
    refine lv_icmp_ne (tgt := 29) hx hb dX9_relation_22 (by decide) (fun c3 => ?_) (fun c3 => ?_)
    · have hw := hw.2 c3
      exact wkC_X9_relation_29 E _ _ _ _ _ h hw (lv_sub hl [0, 1] rfl)
    · have hw := hw.1 c3
      refine lv_iconst (v := 1) hx hb dX9_relation_25 (by decide) ?_
      refine lv_goto (tgt := 30) hx hb dX9_relation_26 (by decide) ?_
      exact wkC_X9_relation_30 E _ _ _ _ _ _ h hw (lv_sub hl [0, 1] rfl)

abbrev rC_X9_sign : Room := { frames := 1, cells := 0, slots := 0, locals := 22 }
def wpC_X9_sign (σ : CS) (x1 : Int32) (Post : Int32 → CS → Prop) : Prop := ∀ σ1 : CS, σ1 = cF σ 23 ((σ.1 23) + 1) → (x1 = 40 → Post 10028 σ1) ∧ (x1 = 41 → Post 10029 σ1) ∧ (x1 = 42 → Post 10023 σ1) ∧ (x1 = 43 → Post 10021 σ1) ∧ (x1 = 45 → Post 10022 σ1) ∧ (x1 = 59 → Post 10020 σ1) ∧ (¬ x1 = 40 ∧ ¬ x1 = 41 ∧ ¬ x1 = 42 ∧ ¬ x1 = 43 ∧ ¬ x1 = 45 ∧ ¬ x1 = 59 → wpC_X9_relation σ1 x1 (fun r8 σ9 => Post r8 σ9))
set_option maxHeartbeats 1000000 in
set_option maxRecDepth 20000 in
theorem cC_X9_sign {l : Launch} {D : va_G} {cy : Nat → ClassId} {ks : Nat × Nat × Option Nat} {q : Nat → Nat} {σ : CS} {sz : Nat} {x1 : Int32} {Post : Int32 → CS → Prop} (hw : wpC_X9_sign σ x1 Post) : Met l yX9_sign (Cond.code yX9_sign cX9_sign 2 (some .int) :: wsA) rC_X9_sign (zPc D cy ks (CW q cy σ) sz [.ref (q 1), .int x1]) (va_Qi Post (xB D cy (CW q cy) (va_A (CW q cy σ) sz)) (va_A (CW q cy σ) sz)) 0 0 (va_A (CW q cy σ) sz) := by
  refine z_enter (own := RX9) (WW := CW q cy) (by decide) rfl (Nat.le_of_ble_eq_true rfl) ?_
  intro p e s m below meth c ls E h hl
  have hx := E.1.1
  have hb := E.1.2.1
  have hl : lv_has ls 2 [(0, .ref (q 1)), (1, .int x1)] := hl
  unfold wpC_X9_sign at hw
  refine lv_aload_n hx hb dX9_sign_0 rfl (lv_at hl 0 rfl) ?_
  refine lv_dup hx hb dX9_sign_1 rfl ?_
  refine gX9_22 E.1 h dX9_sign_2 ?_
  refine lv_iconst (v := 1) hx hb dX9_sign_5 (by decide) ?_
  refine lv_iadd hx hb dX9_sign_6 ?_
  refine pX9_22 E.1 h dX9_sign_7 (fun σ1 H locs eσ1 h => ?_)
  have hw := hw σ1 eσ1
  refine lv_iload_n hx hb dX9_sign_10 rfl (lv_at hl 1 rfl) ?_
  by_cases c2 : x1 = 40
  · have hw := hw.1 c2
    refine lv_tableIn (off := 109) (tgt := 120) hx hb dX9_sign_11 (by rw [c2]; decide) (by rw [c2]; decide) (by rw [c2]; rfl) (by decide) ?_
    refine lv_sipush (v := 10028) hx hb dX9_sign_120 (by decide) ?_
    exact x_iret E.1 h hw dX9_sign_123
  have hw := hw.2
  by_cases c3 : x1 = 41
  · have hw := hw.1 c3
    refine lv_tableIn (off := 113) (tgt := 124) hx hb dX9_sign_11 (by rw [c3]; decide) (by rw [c3]; decide) (by rw [c3]; rfl) (by decide) ?_
    refine lv_sipush (v := 10029) hx hb dX9_sign_124 (by decide) ?_
    exact x_iret E.1 h hw dX9_sign_127
  have hw := hw.2
  by_cases c4 : x1 = 42
  · have hw := hw.1 c4
    refine lv_tableIn (off := 105) (tgt := 116) hx hb dX9_sign_11 (by rw [c4]; decide) (by rw [c4]; decide) (by rw [c4]; rfl) (by decide) ?_
    refine lv_sipush (v := 10023) hx hb dX9_sign_116 (by decide) ?_
    exact x_iret E.1 h hw dX9_sign_119
  have hw := hw.2
  by_cases c5 : x1 = 43
  · have hw := hw.1 c5
    refine lv_tableIn (off := 97) (tgt := 108) hx hb dX9_sign_11 (by rw [c5]; decide) (by rw [c5]; decide) (by rw [c5]; rfl) (by decide) ?_
    refine lv_sipush (v := 10021) hx hb dX9_sign_108 (by decide) ?_
    exact x_iret E.1 h hw dX9_sign_111
  have hw := hw.2
  by_cases c6 : x1 = 45
  · have hw := hw.1 c6
    refine lv_tableIn (off := 101) (tgt := 112) hx hb dX9_sign_11 (by rw [c6]; decide) (by rw [c6]; decide) (by rw [c6]; rfl) (by decide) ?_
    refine lv_sipush (v := 10022) hx hb dX9_sign_112 (by decide) ?_
    exact x_iret E.1 h hw dX9_sign_115
  have hw := hw.2
  by_cases c7 : x1 = 59
  · have hw := hw.1 c7
    refine lv_tableIn (off := 93) (tgt := 104) hx hb dX9_sign_11 (by rw [c7]; decide) (by rw [c7]; decide) (by rw [c7]; rfl) (by decide) ?_
    refine lv_sipush (v := 10020) hx hb dX9_sign_104 (by decide) ?_
    exact x_iret E.1 h hw dX9_sign_107
  have hw := hw.2
  have hw := hw ⟨c2, c3, c4, c5, c6, c7⟩
  by_cases c10 : x1 = 44
  · refine lv_tableIn (off := 117) (tgt := 128) hx hb dX9_sign_11 (by rw [c10]; decide) (by rw [c10]; decide) (by rw [c10]; rfl) (by decide) ?_
    refine lv_aload_n hx hb dX9_sign_128 rfl (lv_at hl 0 rfl) ?_
    refine lv_iload_n hx hb dX9_sign_129 rfl (lv_at hl 1 rfl) ?_
    refine x_calli h (z_runV (WW := CW q cy) (rest := []) E h (cC_X9_relation hw) yyX9_relation lX9_58 1 rfl rfl ⟨Nat.le_of_ble_eq_true rfl, Nat.le_of_ble_eq_true rfl⟩ rfl rfl hl.1 rfl (Nat.le_of_ble_eq_true rfl) dX9_sign_130 ⟨Nat.le_refl 0, Nat.le_refl 0⟩) (fun r8 σ9 H locs hw h => ?_)
    exact x_iret E.1 h hw dX9_sign_133
  by_cases c11 : x1 = 46
  · refine lv_tableIn (off := 117) (tgt := 128) hx hb dX9_sign_11 (by rw [c11]; decide) (by rw [c11]; decide) (by rw [c11]; rfl) (by decide) ?_
    refine lv_aload_n hx hb dX9_sign_128 rfl (lv_at hl 0 rfl) ?_
    refine lv_iload_n hx hb dX9_sign_129 rfl (lv_at hl 1 rfl) ?_
    refine x_calli h (z_runV (WW := CW q cy) (rest := []) E h (cC_X9_relation hw) yyX9_relation lX9_58 1 rfl rfl ⟨Nat.le_of_ble_eq_true rfl, Nat.le_of_ble_eq_true rfl⟩ rfl rfl hl.1 rfl (Nat.le_of_ble_eq_true rfl) dX9_sign_130 ⟨Nat.le_refl 0, Nat.le_refl 0⟩) (fun r8 σ9 H locs hw h => ?_)
    exact x_iret E.1 h hw dX9_sign_133
  by_cases c12 : x1 = 47
  · refine lv_tableIn (off := 117) (tgt := 128) hx hb dX9_sign_11 (by rw [c12]; decide) (by rw [c12]; decide) (by rw [c12]; rfl) (by decide) ?_
    refine lv_aload_n hx hb dX9_sign_128 rfl (lv_at hl 0 rfl) ?_
    refine lv_iload_n hx hb dX9_sign_129 rfl (lv_at hl 1 rfl) ?_
    refine x_calli h (z_runV (WW := CW q cy) (rest := []) E h (cC_X9_relation hw) yyX9_relation lX9_58 1 rfl rfl ⟨Nat.le_of_ble_eq_true rfl, Nat.le_of_ble_eq_true rfl⟩ rfl rfl hl.1 rfl (Nat.le_of_ble_eq_true rfl) dX9_sign_130 ⟨Nat.le_refl 0, Nat.le_refl 0⟩) (fun r8 σ9 H locs hw h => ?_)
    exact x_iret E.1 h hw dX9_sign_133
  by_cases c13 : x1 = 48
  · refine lv_tableIn (off := 117) (tgt := 128) hx hb dX9_sign_11 (by rw [c13]; decide) (by rw [c13]; decide) (by rw [c13]; rfl) (by decide) ?_
    refine lv_aload_n hx hb dX9_sign_128 rfl (lv_at hl 0 rfl) ?_
    refine lv_iload_n hx hb dX9_sign_129 rfl (lv_at hl 1 rfl) ?_
    refine x_calli h (z_runV (WW := CW q cy) (rest := []) E h (cC_X9_relation hw) yyX9_relation lX9_58 1 rfl rfl ⟨Nat.le_of_ble_eq_true rfl, Nat.le_of_ble_eq_true rfl⟩ rfl rfl hl.1 rfl (Nat.le_of_ble_eq_true rfl) dX9_sign_130 ⟨Nat.le_refl 0, Nat.le_refl 0⟩) (fun r8 σ9 H locs hw h => ?_)
    exact x_iret E.1 h hw dX9_sign_133
  by_cases c14 : x1 = 49
  · refine lv_tableIn (off := 117) (tgt := 128) hx hb dX9_sign_11 (by rw [c14]; decide) (by rw [c14]; decide) (by rw [c14]; rfl) (by decide) ?_
    refine lv_aload_n hx hb dX9_sign_128 rfl (lv_at hl 0 rfl) ?_
    refine lv_iload_n hx hb dX9_sign_129 rfl (lv_at hl 1 rfl) ?_
    refine x_calli h (z_runV (WW := CW q cy) (rest := []) E h (cC_X9_relation hw) yyX9_relation lX9_58 1 rfl rfl ⟨Nat.le_of_ble_eq_true rfl, Nat.le_of_ble_eq_true rfl⟩ rfl rfl hl.1 rfl (Nat.le_of_ble_eq_true rfl) dX9_sign_130 ⟨Nat.le_refl 0, Nat.le_refl 0⟩) (fun r8 σ9 H locs hw h => ?_)
    exact x_iret E.1 h hw dX9_sign_133
  by_cases c15 : x1 = 50
  · refine lv_tableIn (off := 117) (tgt := 128) hx hb dX9_sign_11 (by rw [c15]; decide) (by rw [c15]; decide) (by rw [c15]; rfl) (by decide) ?_
    refine lv_aload_n hx hb dX9_sign_128 rfl (lv_at hl 0 rfl) ?_
    refine lv_iload_n hx hb dX9_sign_129 rfl (lv_at hl 1 rfl) ?_
    refine x_calli h (z_runV (WW := CW q cy) (rest := []) E h (cC_X9_relation hw) yyX9_relation lX9_58 1 rfl rfl ⟨Nat.le_of_ble_eq_true rfl, Nat.le_of_ble_eq_true rfl⟩ rfl rfl hl.1 rfl (Nat.le_of_ble_eq_true rfl) dX9_sign_130 ⟨Nat.le_refl 0, Nat.le_refl 0⟩) (fun r8 σ9 H locs hw h => ?_)
    exact x_iret E.1 h hw dX9_sign_133
  by_cases c16 : x1 = 51
  · refine lv_tableIn (off := 117) (tgt := 128) hx hb dX9_sign_11 (by rw [c16]; decide) (by rw [c16]; decide) (by rw [c16]; rfl) (by decide) ?_
    refine lv_aload_n hx hb dX9_sign_128 rfl (lv_at hl 0 rfl) ?_
    refine lv_iload_n hx hb dX9_sign_129 rfl (lv_at hl 1 rfl) ?_
    refine x_calli h (z_runV (WW := CW q cy) (rest := []) E h (cC_X9_relation hw) yyX9_relation lX9_58 1 rfl rfl ⟨Nat.le_of_ble_eq_true rfl, Nat.le_of_ble_eq_true rfl⟩ rfl rfl hl.1 rfl (Nat.le_of_ble_eq_true rfl) dX9_sign_130 ⟨Nat.le_refl 0, Nat.le_refl 0⟩) (fun r8 σ9 H locs hw h => ?_)
    exact x_iret E.1 h hw dX9_sign_133
  by_cases c17 : x1 = 52
  · refine lv_tableIn (off := 117) (tgt := 128) hx hb dX9_sign_11 (by rw [c17]; decide) (by rw [c17]; decide) (by rw [c17]; rfl) (by decide) ?_
    refine lv_aload_n hx hb dX9_sign_128 rfl (lv_at hl 0 rfl) ?_
    refine lv_iload_n hx hb dX9_sign_129 rfl (lv_at hl 1 rfl) ?_
    refine x_calli h (z_runV (WW := CW q cy) (rest := []) E h (cC_X9_relation hw) yyX9_relation lX9_58 1 rfl rfl ⟨Nat.le_of_ble_eq_true rfl, Nat.le_of_ble_eq_true rfl⟩ rfl rfl hl.1 rfl (Nat.le_of_ble_eq_true rfl) dX9_sign_130 ⟨Nat.le_refl 0, Nat.le_refl 0⟩) (fun r8 σ9 H locs hw h => ?_)
    exact x_iret E.1 h hw dX9_sign_133
  by_cases c18 : x1 = 53
  · refine lv_tableIn (off := 117) (tgt := 128) hx hb dX9_sign_11 (by rw [c18]; decide) (by rw [c18]; decide) (by rw [c18]; rfl) (by decide) ?_
    refine lv_aload_n hx hb dX9_sign_128 rfl (lv_at hl 0 rfl) ?_
    refine lv_iload_n hx hb dX9_sign_129 rfl (lv_at hl 1 rfl) ?_
    refine x_calli h (z_runV (WW := CW q cy) (rest := []) E h (cC_X9_relation hw) yyX9_relation lX9_58 1 rfl rfl ⟨Nat.le_of_ble_eq_true rfl, Nat.le_of_ble_eq_true rfl⟩ rfl rfl hl.1 rfl (Nat.le_of_ble_eq_true rfl) dX9_sign_130 ⟨Nat.le_refl 0, Nat.le_refl 0⟩) (fun r8 σ9 H locs hw h => ?_)
    exact x_iret E.1 h hw dX9_sign_133
  by_cases c19 : x1 = 54
  · refine lv_tableIn (off := 117) (tgt := 128) hx hb dX9_sign_11 (by rw [c19]; decide) (by rw [c19]; decide) (by rw [c19]; rfl) (by decide) ?_
    refine lv_aload_n hx hb dX9_sign_128 rfl (lv_at hl 0 rfl) ?_
    refine lv_iload_n hx hb dX9_sign_129 rfl (lv_at hl 1 rfl) ?_
    refine x_calli h (z_runV (WW := CW q cy) (rest := []) E h (cC_X9_relation hw) yyX9_relation lX9_58 1 rfl rfl ⟨Nat.le_of_ble_eq_true rfl, Nat.le_of_ble_eq_true rfl⟩ rfl rfl hl.1 rfl (Nat.le_of_ble_eq_true rfl) dX9_sign_130 ⟨Nat.le_refl 0, Nat.le_refl 0⟩) (fun r8 σ9 H locs hw h => ?_)
    exact x_iret E.1 h hw dX9_sign_133
  by_cases c20 : x1 = 55
  · refine lv_tableIn (off := 117) (tgt := 128) hx hb dX9_sign_11 (by rw [c20]; decide) (by rw [c20]; decide) (by rw [c20]; rfl) (by decide) ?_
    refine lv_aload_n hx hb dX9_sign_128 rfl (lv_at hl 0 rfl) ?_
    refine lv_iload_n hx hb dX9_sign_129 rfl (lv_at hl 1 rfl) ?_
    refine x_calli h (z_runV (WW := CW q cy) (rest := []) E h (cC_X9_relation hw) yyX9_relation lX9_58 1 rfl rfl ⟨Nat.le_of_ble_eq_true rfl, Nat.le_of_ble_eq_true rfl⟩ rfl rfl hl.1 rfl (Nat.le_of_ble_eq_true rfl) dX9_sign_130 ⟨Nat.le_refl 0, Nat.le_refl 0⟩) (fun r8 σ9 H locs hw h => ?_)
    exact x_iret E.1 h hw dX9_sign_133
  by_cases c21 : x1 = 56
  · refine lv_tableIn (off := 117) (tgt := 128) hx hb dX9_sign_11 (by rw [c21]; decide) (by rw [c21]; decide) (by rw [c21]; rfl) (by decide) ?_
    refine lv_aload_n hx hb dX9_sign_128 rfl (lv_at hl 0 rfl) ?_
    refine lv_iload_n hx hb dX9_sign_129 rfl (lv_at hl 1 rfl) ?_
    refine x_calli h (z_runV (WW := CW q cy) (rest := []) E h (cC_X9_relation hw) yyX9_relation lX9_58 1 rfl rfl ⟨Nat.le_of_ble_eq_true rfl, Nat.le_of_ble_eq_true rfl⟩ rfl rfl hl.1 rfl (Nat.le_of_ble_eq_true rfl) dX9_sign_130 ⟨Nat.le_refl 0, Nat.le_refl 0⟩) (fun r8 σ9 H locs hw h => ?_)
    exact x_iret E.1 h hw dX9_sign_133
  by_cases c22 : x1 = 57
  · refine lv_tableIn (off := 117) (tgt := 128) hx hb dX9_sign_11 (by rw [c22]; decide) (by rw [c22]; decide) (by rw [c22]; rfl) (by decide) ?_
    refine lv_aload_n hx hb dX9_sign_128 rfl (lv_at hl 0 rfl) ?_
    refine lv_iload_n hx hb dX9_sign_129 rfl (lv_at hl 1 rfl) ?_
    refine x_calli h (z_runV (WW := CW q cy) (rest := []) E h (cC_X9_relation hw) yyX9_relation lX9_58 1 rfl rfl ⟨Nat.le_of_ble_eq_true rfl, Nat.le_of_ble_eq_true rfl⟩ rfl rfl hl.1 rfl (Nat.le_of_ble_eq_true rfl) dX9_sign_130 ⟨Nat.le_refl 0, Nat.le_refl 0⟩) (fun r8 σ9 H locs hw h => ?_)
    exact x_iret E.1 h hw dX9_sign_133
  by_cases c23 : x1 = 58
  · refine lv_tableIn (off := 117) (tgt := 128) hx hb dX9_sign_11 (by rw [c23]; decide) (by rw [c23]; decide) (by rw [c23]; rfl) (by decide) ?_
    refine lv_aload_n hx hb dX9_sign_128 rfl (lv_at hl 0 rfl) ?_
    refine lv_iload_n hx hb dX9_sign_129 rfl (lv_at hl 1 rfl) ?_
    refine x_calli h (z_runV (WW := CW q cy) (rest := []) E h (cC_X9_relation hw) yyX9_relation lX9_58 1 rfl rfl ⟨Nat.le_of_ble_eq_true rfl, Nat.le_of_ble_eq_true rfl⟩ rfl rfl hl.1 rfl (Nat.le_of_ble_eq_true rfl) dX9_sign_130 ⟨Nat.le_refl 0, Nat.le_refl 0⟩) (fun r8 σ9 H locs hw h => ?_)
    exact x_iret E.1 h hw dX9_sign_133
  refine lv_tableOut (tgt := 128) hx hb dX9_sign_11 (x_out 40 59 (fun k h1 h2 hk => by rcases (show k = 40 ∨ k = 41 ∨ k = 42 ∨ k = 43 ∨ k = 44 ∨ k = 45 ∨ k = 46 ∨ k = 47 ∨ k = 48 ∨ k = 49 ∨ k = 50 ∨ k = 51 ∨ k = 52 ∨ k = 53 ∨ k = 54 ∨ k = 55 ∨ k = 56 ∨ k = 57 ∨ k = 58 ∨ k = 59 by omega) with rfl | rfl | rfl | rfl | rfl | rfl | rfl | rfl | rfl | rfl | rfl | rfl | rfl | rfl | rfl | rfl | rfl | rfl | rfl | rfl <;> first | exact c2 (x_ofI hk rfl) | exact c3 (x_ofI hk rfl) | exact c4 (x_ofI hk rfl) | exact c5 (x_ofI hk rfl) | exact c10 (x_ofI hk rfl) | exact c6 (x_ofI hk rfl) | exact c11 (x_ofI hk rfl) | exact c12 (x_ofI hk rfl) | exact c13 (x_ofI hk rfl) | exact c14 (x_ofI hk rfl) | exact c15 (x_ofI hk rfl) | exact c16 (x_ofI hk rfl) | exact c17 (x_ofI hk rfl) | exact c18 (x_ofI hk rfl) | exact c19 (x_ofI hk rfl) | exact c20 (x_ofI hk rfl) | exact c21 (x_ofI hk rfl) | exact c22 (x_ofI hk rfl) | exact c23 (x_ofI hk rfl) | exact c7 (x_ofI hk rfl))) (by decide) ?_
  refine lv_aload_n hx hb dX9_sign_128 rfl (lv_at hl 0 rfl) ?_
  refine lv_iload_n hx hb dX9_sign_129 rfl (lv_at hl 1 rfl) ?_
  refine x_calli h (z_runV (WW := CW q cy) (rest := []) E h (cC_X9_relation hw) yyX9_relation lX9_58 1 rfl rfl ⟨Nat.le_of_ble_eq_true rfl, Nat.le_of_ble_eq_true rfl⟩ rfl rfl hl.1 rfl (Nat.le_of_ble_eq_true rfl) dX9_sign_130 ⟨Nat.le_refl 0, Nat.le_refl 0⟩) (fun r8 σ9 H locs hw h => ?_)
  exact x_iret E.1 h hw dX9_sign_133

abbrev rC_X9_token : Room := { frames := 6, cells := 0, slots := 0, locals := 129 }
def wpC_X9_token_39 (Post : Int32 → CS → Prop) (σ : CS) : Prop := ∀ σ1 : CS, σ1 = cF σ 22 (σ.1 23) → ((σ1.1 22) < (σ1.1 21) → vp_in (σ1.1 22) 2000 ∧ wpC_X9_isLetter σ1 (σ1.2.1 2 (σ1.1 22).toNatClampNeg) (fun r4 σ5 => (r4 = 0 → vp_in (σ5.1 22) 2000 ∧ wpC_X9_isDigit σ5 (σ5.2.1 2 (σ5.1 22).toNatClampNeg) (fun r8 σ9 => (r8 = 0 → vp_in (σ9.1 22) 2000 ∧ wpC_X9_sign σ9 (σ9.2.1 2 (σ9.1 22).toNatClampNeg) (fun r12 σ13 => Post r12 σ13)) ∧ (¬ r8 = 0 → wpC_X9_number σ9 (fun r14 σ15 => Post r14 σ15)))) ∧ (¬ r4 = 0 → wpC_X9_word σ5 (fun r16 σ17 => Post r16 σ17)))) ∧ (¬ (σ1.1 22) < (σ1.1 21) → Post ((-1)) σ1)
set_option maxHeartbeats 1000000 in
set_option maxRecDepth 20000 in
theorem wkC_X9_token_39 {Post : Int32 → CS → Prop} (E : zE cX9_token RX9 1 (some .int) D cy ks A p s m args meth c) : ∀ (σ : CS) (H : Heap) (locs : List Loc) (ls : Array Slot), xH D A s (CW q cy σ) H locs → wpC_X9_token_39 Post σ → lv_has ls 1 [(0, .ref (q 1))] → W p l e rC_X9_token s m args below meth c H locs 0 0 (MQ below (va_Qi Post (xB D cy (CW q cy) A) A) args s 0 0 A) (F0 m 39 ls []) := by
  have hx := E.1.1
  have hb := E.1.2.1
  intro σ H locs ls h hw hl
  unfold wpC_X9_token_39 at hw
  refine lv_aload_n hx hb dX9_token_39 rfl (lv_at hl 0 rfl) ?_
  refine lv_aload_n hx hb dX9_token_40 rfl (lv_at hl 0 rfl) ?_
  refine gX9_22 E.1 h dX9_token_41 ?_
  refine pX9_19 E.1 h dX9_token_44 (fun σ1 H locs eσ1 h => ?_)
  have hw := hw σ1 eσ1
  refine lv_aload_n hx hb dX9_token_47 rfl (lv_at hl 0 rfl) ?_
  refine gX9_19 E.1 h dX9_token_48 ?_
  refine lv_aload_n hx hb dX9_token_51 rfl (lv_at hl 0 rfl) ?_
  refine gX9_15 E.1 h dX9_token_52 ?_
  refine lv_icmp_lt (tgt := 60) hx hb dX9_token_55 (by decide) (fun c2 => ?_) (fun c2 => ?_)
  · have hw := hw.1 c2
    refine lv_aload_n hx hb dX9_token_60 rfl (lv_at hl 0 rfl) ?_
    refine gX9_9 E.1 h dX9_token_61 ?_
    refine lv_aload_n hx hb dX9_token_64 rfl (lv_at hl 0 rfl) ?_
    refine gX9_19 E.1 h dX9_token_65 ?_
    have h3 := hw.1
    have hw := hw.2
    refine aC_2 E.1 h h3 dX9_token_68 ?_
    refine x_calli h (z_runS (WW := CW q cy) (rest := []) E h (cC_X9_isLetter hw) yyX9_isLetter lX9_29 ⟨Nat.le_of_ble_eq_true rfl, Nat.le_of_ble_eq_true rfl⟩ rfl rfl hl.1 rfl (Nat.le_of_ble_eq_true rfl) dX9_token_69 ⟨Nat.le_refl 0, Nat.le_refl 0⟩) (fun r4 σ5 H locs hw h => ?_)
    refine lv_if_eq (tgt := 80) hx hb dX9_token_72 (by decide) (fun c6 => ?_) (fun c6 => ?_)
    · have hw := hw.1 c6
      refine lv_aload_n hx hb dX9_token_80 rfl (lv_at hl 0 rfl) ?_
      refine gX9_9 E.1 h dX9_token_81 ?_
      refine lv_aload_n hx hb dX9_token_84 rfl (lv_at hl 0 rfl) ?_
      refine gX9_19 E.1 h dX9_token_85 ?_
      have h7 := hw.1
      have hw := hw.2
      refine aC_2 E.1 h h7 dX9_token_88 ?_
      refine x_calli h (z_runS (WW := CW q cy) (rest := []) E h (cC_X9_isDigit hw) yyX9_isDigit lX9_36 ⟨Nat.le_of_ble_eq_true rfl, Nat.le_of_ble_eq_true rfl⟩ rfl rfl hl.1 rfl (Nat.le_of_ble_eq_true rfl) dX9_token_89 ⟨Nat.le_refl 0, Nat.le_refl 0⟩) (fun r8 σ9 H locs hw h => ?_)
      refine lv_if_eq (tgt := 100) hx hb dX9_token_92 (by decide) (fun c10 => ?_) (fun c10 => ?_)
      · have hw := hw.1 c10
        refine lv_aload_n hx hb dX9_token_100 rfl (lv_at hl 0 rfl) ?_
        refine lv_aload_n hx hb dX9_token_101 rfl (lv_at hl 0 rfl) ?_
        refine gX9_9 E.1 h dX9_token_102 ?_
        refine lv_aload_n hx hb dX9_token_105 rfl (lv_at hl 0 rfl) ?_
        refine gX9_19 E.1 h dX9_token_106 ?_
        have h11 := hw.1
        have hw := hw.2
        refine aC_2 E.1 h h11 dX9_token_109 ?_
        refine x_calli h (z_runV (WW := CW q cy) (rest := []) E h (cC_X9_sign hw) yyX9_sign lX9_42 1 rfl rfl ⟨Nat.le_of_ble_eq_true rfl, Nat.le_of_ble_eq_true rfl⟩ rfl rfl hl.1 rfl (Nat.le_of_ble_eq_true rfl) dX9_token_110 ⟨Nat.le_refl 0, Nat.le_refl 0⟩) (fun r12 σ13 H locs hw h => ?_)
        exact x_iret E.1 h hw dX9_token_113
      · have hw := hw.2 c10
        refine lv_aload_n hx hb dX9_token_95 rfl (lv_at hl 0 rfl) ?_
        refine x_calli h (z_runV (WW := CW q cy) (rest := []) E h (cC_X9_number hw) yyX9_number lX9_39 1 rfl rfl ⟨Nat.le_of_ble_eq_true rfl, Nat.le_of_ble_eq_true rfl⟩ rfl rfl hl.1 rfl (Nat.le_of_ble_eq_true rfl) dX9_token_96 ⟨Nat.le_refl 0, Nat.le_refl 0⟩) (fun r14 σ15 H locs hw h => ?_)
        exact x_iret E.1 h hw dX9_token_99
    · have hw := hw.2 c6
      refine lv_aload_n hx hb dX9_token_75 rfl (lv_at hl 0 rfl) ?_
      refine x_calli h (z_runV (WW := CW q cy) (rest := []) E h (cC_X9_word hw) yyX9_word lX9_32 1 rfl rfl ⟨Nat.le_of_ble_eq_true rfl, Nat.le_of_ble_eq_true rfl⟩ rfl rfl hl.1 rfl (Nat.le_of_ble_eq_true rfl) dX9_token_76 ⟨Nat.le_refl 0, Nat.le_refl 0⟩) (fun r16 σ17 H locs hw h => ?_)
      exact x_iret E.1 h hw dX9_token_79
  · have hw := hw.2 c2
    refine lv_iconst (v := (-1)) hx hb dX9_token_58 (by decide) ?_
    exact x_iret E.1 h hw dX9_token_59

def wpC_X9_token_0 (Post : Int32 → CS → Prop) : Nat → CS → Prop
  | 0, _ => False
  | n + 1, σ => ((σ.1 21) ≤ (σ.1 23) → wpC_X9_token_39 Post σ) ∧ (¬ (σ.1 21) ≤ (σ.1 23) → vp_in (σ.1 23) 2000 ∧ wpC_X9_isBlank σ (σ.2.1 2 (σ.1 23).toNatClampNeg) (fun r3 σ4 => (r3 = 0 → wpC_X9_token_39 Post σ4) ∧ (¬ r3 = 0 → ∀ σ6 : CS, σ6 = cF σ4 23 ((σ4.1 23) + 1) → wpC_X9_token_0 Post n σ6)))
set_option maxHeartbeats 1000000 in
set_option maxRecDepth 20000 in
theorem wkC_X9_token_0 {Post : Int32 → CS → Prop} (E : zE cX9_token RX9 1 (some .int) D cy ks A p s m args meth c) : ∀ n : Nat, ∀ (σ : CS) (H : Heap) (locs : List Loc) (ls : Array Slot), xH D A s (CW q cy σ) H locs → wpC_X9_token_0 Post n σ → lv_has ls 1 [(0, .ref (q 1))] → W p l e rC_X9_token s m args below meth c H locs 0 0 (MQ below (va_Qi Post (xB D cy (CW q cy) A) A) args s 0 0 A) (F0 m 0 ls []) := by
  have hx := E.1.1
  have hb := E.1.2.1
  intro n
  induction n with
  | zero => intro σ H locs ls h hw hl; exact False.elim hw
  | succ n ih =>
    intro σ H locs ls h hw hl
    refine lv_aload_n hx hb dX9_token_0 rfl (lv_at hl 0 rfl) ?_
    refine gX9_22 E.1 h dX9_token_1 ?_
    refine lv_aload_n hx hb dX9_token_4 rfl (lv_at hl 0 rfl) ?_
    refine gX9_15 E.1 h dX9_token_5 ?_
    refine lv_icmp_ge (tgt := 39) hx hb dX9_token_8 (by decide) (fun c1 => ?_) (fun c1 => ?_)
    · have hw := hw.1 c1
      exact wkC_X9_token_39 E _ _ _ _ h hw (lv_sub hl [0] rfl)
    · have hw := hw.2 c1
      refine lv_aload_n hx hb dX9_token_11 rfl (lv_at hl 0 rfl) ?_
      refine gX9_9 E.1 h dX9_token_12 ?_
      refine lv_aload_n hx hb dX9_token_15 rfl (lv_at hl 0 rfl) ?_
      refine gX9_22 E.1 h dX9_token_16 ?_
      have h2 := hw.1
      have hw := hw.2
      refine aC_2 E.1 h h2 dX9_token_19 ?_
      refine x_calli h (z_runS (WW := CW q cy) (rest := []) E h (cC_X9_isBlank hw) yyX9_isBlank lX9_25 ⟨Nat.le_of_ble_eq_true rfl, Nat.le_of_ble_eq_true rfl⟩ rfl rfl hl.1 rfl (Nat.le_of_ble_eq_true rfl) dX9_token_20 ⟨Nat.le_refl 0, Nat.le_refl 0⟩) (fun r3 σ4 H locs hw h => ?_)
      refine lv_if_eq (tgt := 39) hx hb dX9_token_23 (by decide) (fun c5 => ?_) (fun c5 => ?_)
      · have hw := hw.1 c5
        exact wkC_X9_token_39 E _ _ _ _ h hw (lv_sub hl [0] rfl)
      · have hw := hw.2 c5
        refine lv_aload_n hx hb dX9_token_26 rfl (lv_at hl 0 rfl) ?_
        refine lv_dup hx hb dX9_token_27 rfl ?_
        refine gX9_22 E.1 h dX9_token_28 ?_
        refine lv_iconst (v := 1) hx hb dX9_token_31 (by decide) ?_
        refine lv_iadd hx hb dX9_token_32 ?_
        refine pX9_22 E.1 h dX9_token_33 (fun σ6 H locs eσ6 h => ?_)
        have hw := hw σ6 eσ6
        refine lv_goto (tgt := 0) hx hb dX9_token_36 (by decide) ?_
        exact ih _ _ _ _ h hw (lv_sub hl [0] rfl)

def wpC_X9_token (σ : CS) (Post : Int32 → CS → Prop) : Prop := ∃ g, wpC_X9_token_0 Post g σ
set_option maxHeartbeats 1000000 in
set_option maxRecDepth 20000 in
theorem cC_X9_token {l : Launch} {D : va_G} {cy : Nat → ClassId} {ks : Nat × Nat × Option Nat} {q : Nat → Nat} {σ : CS} {sz : Nat} {Post : Int32 → CS → Prop} (hw : wpC_X9_token σ Post) : Met l yX9_token (Cond.code yX9_token cX9_token 1 (some .int) :: wsA) rC_X9_token (zPc D cy ks (CW q cy σ) sz [.ref (q 1)]) (va_Qi Post (xB D cy (CW q cy) (va_A (CW q cy σ) sz)) (va_A (CW q cy σ) sz)) 0 0 (va_A (CW q cy σ) sz) := by
  refine z_enter (own := RX9) (WW := CW q cy) (by decide) rfl (Nat.le_of_ble_eq_true rfl) ?_
  intro p e s m below meth c ls E h hl
  have hx := E.1.1
  have hb := E.1.2.1
  have hl : lv_has ls 1 [(0, .ref (q 1))] := hl
  unfold wpC_X9_token at hw
  obtain ⟨g, hw⟩ := hw
  exact wkC_X9_token_0 E g _ _ _ _ h hw (lv_sub hl [0] rfl)

abbrev rC_X3_begins : Room := { frames := 0, cells := 0, slots := 0, locals := 0 }
def wpC_X3_begins_22 (Post : Int32 → CS → Prop) (σ : CS) (x1 : Int32) : Prop := ∀ σ1 : CS, σ1 = cF σ 63 ((σ.1 63) + 1) → (x1 = 10003 → ∀ σ10 : CS, σ10 = cF σ1 64 2 → Post 1 σ10) ∧ (¬ x1 = 10003 → (x1 = 10004 → ∀ σ8 : CS, σ8 = cF σ1 65 2 → ∀ σ9 : CS, σ9 = cF σ8 64 4 → Post 1 σ9) ∧ (¬ x1 = 10004 → ∀ σ4 : CS, σ4 = cF σ1 64 1 → (x1 = 10000 → Post 1 σ4) ∧ (¬ x1 = 10000 → (x1 = 10001 → Post 1 σ4) ∧ (¬ x1 = 10001 → (x1 = 10002 → Post 1 σ4) ∧ (¬ x1 = 10002 → Post 0 σ4)))))
set_option maxHeartbeats 1000000 in
set_option maxRecDepth 20000 in
theorem wkC_X3_begins_22 {Post : Int32 → CS → Prop} (E : zE cX3_begins RX3 2 (some .boolean) D cy ks A p s m args meth c) : ∀ (σ : CS) (x1 : Int32) (H : Heap) (locs : List Loc) (ls : Array Slot), xH D A s (CW q cy σ) H locs → wpC_X3_begins_22 Post σ x1 → lv_has ls 2 [(0, .ref (q 3)), (1, .int x1)] → W p l e rC_X3_begins s m args below meth c H locs 0 0 (MQ below (va_Qi Post (xB D cy (CW q cy) A) A) args s 0 0 A) (F0 m 22 ls []) := by
  have hx := E.1.1
  have hb := E.1.2.1
  intro σ x1 H locs ls h hw hl
  unfold wpC_X3_begins_22 at hw
  refine lv_aload_n hx hb dX3_begins_22 rfl (lv_at hl 0 rfl) ?_
  refine lv_dup hx hb dX3_begins_23 rfl ?_
  refine gX3_22 E.1 h dX3_begins_24 ?_
  refine lv_iconst (v := 1) hx hb dX3_begins_27 (by decide) ?_
  refine lv_iadd hx hb dX3_begins_28 ?_
  refine pX3_22 E.1 h dX3_begins_29 (fun σ1 H locs eσ1 h => ?_)
  have hw := hw σ1 eσ1
  refine lv_iload_n hx hb dX3_begins_32 rfl (lv_at hl 1 rfl) ?_
  refine lv_sipush (v := 10003) hx hb dX3_begins_33 (by decide) ?_
  refine lv_icmp_ne (tgt := 46) hx hb dX3_begins_36 (by decide) (fun c2 => ?_) (fun c2 => ?_)
  · have hw := hw.2 c2
    refine lv_iload_n hx hb dX3_begins_46 rfl (lv_at hl 1 rfl) ?_
    refine lv_sipush (v := 10004) hx hb dX3_begins_47 (by decide) ?_
    refine lv_icmp_ne (tgt := 65) hx hb dX3_begins_50 (by decide) (fun c3 => ?_) (fun c3 => ?_)
    · have hw := hw.2 c3
      refine lv_aload_n hx hb dX3_begins_65 rfl (lv_at hl 0 rfl) ?_
      refine lv_iconst (v := 1) hx hb dX3_begins_66 (by decide) ?_
      refine pX3_25 E.1 h dX3_begins_67 (fun σ4 H locs eσ4 h => ?_)
      have hw := hw σ4 eσ4
      refine lv_iload_n hx hb dX3_begins_70 rfl (lv_at hl 1 rfl) ?_
      refine lv_sipush (v := 10000) hx hb dX3_begins_71 (by decide) ?_
      refine lv_icmp_eq (tgt := 91) hx hb dX3_begins_74 (by decide) (fun c5 => ?_) (fun c5 => ?_)
      · have hw := hw.1 c5
        refine lv_iconst (v := 1) hx hb dX3_begins_91 (by decide) ?_
        refine lv_goto (tgt := 96) hx hb dX3_begins_92 (by decide) ?_
        exact x_zret E.1 h rfl hw dX3_begins_96
      · have hw := hw.2 c5
        refine lv_iload_n hx hb dX3_begins_77 rfl (lv_at hl 1 rfl) ?_
        refine lv_sipush (v := 10001) hx hb dX3_begins_78 (by decide) ?_
        refine lv_icmp_eq (tgt := 91) hx hb dX3_begins_81 (by decide) (fun c6 => ?_) (fun c6 => ?_)
        · have hw := hw.1 c6
          refine lv_iconst (v := 1) hx hb dX3_begins_91 (by decide) ?_
          refine lv_goto (tgt := 96) hx hb dX3_begins_92 (by decide) ?_
          exact x_zret E.1 h rfl hw dX3_begins_96
        · have hw := hw.2 c6
          refine lv_iload_n hx hb dX3_begins_84 rfl (lv_at hl 1 rfl) ?_
          refine lv_sipush (v := 10002) hx hb dX3_begins_85 (by decide) ?_
          refine lv_icmp_ne (tgt := 95) hx hb dX3_begins_88 (by decide) (fun c7 => ?_) (fun c7 => ?_)
          · have hw := hw.2 c7
            refine lv_iconst (v := 0) hx hb dX3_begins_95 (by decide) ?_
            exact x_zret E.1 h rfl hw dX3_begins_96
          · have hw := hw.1 c7
            refine lv_iconst (v := 1) hx hb dX3_begins_91 (by decide) ?_
            refine lv_goto (tgt := 96) hx hb dX3_begins_92 (by decide) ?_
            exact x_zret E.1 h rfl hw dX3_begins_96
    · have hw := hw.1 c3
      refine lv_aload_n hx hb dX3_begins_53 rfl (lv_at hl 0 rfl) ?_
      refine lv_iconst (v := 2) hx hb dX3_begins_54 (by decide) ?_
      refine pX3_28 E.1 h dX3_begins_55 (fun σ8 H locs eσ8 h => ?_)
      have hw := hw σ8 eσ8
      refine lv_aload_n hx hb dX3_begins_58 rfl (lv_at hl 0 rfl) ?_
      refine lv_iconst (v := 4) hx hb dX3_begins_59 (by decide) ?_
      refine pX3_25 E.1 h dX3_begins_60 (fun σ9 H locs eσ9 h => ?_)
      have hw := hw σ9 eσ9
      refine lv_iconst (v := 1) hx hb dX3_begins_63 (by decide) ?_
      exact x_zret E.1 h rfl hw dX3_begins_64
  · have hw := hw.1 c2
    refine lv_aload_n hx hb dX3_begins_39 rfl (lv_at hl 0 rfl) ?_
    refine lv_iconst (v := 2) hx hb dX3_begins_40 (by decide) ?_
    refine pX3_25 E.1 h dX3_begins_41 (fun σ10 H locs eσ10 h => ?_)
    have hw := hw σ10 eσ10
    refine lv_iconst (v := 1) hx hb dX3_begins_44 (by decide) ?_
    exact x_zret E.1 h rfl hw dX3_begins_45

def wpC_X3_begins (σ : CS) (x1 : Int32) (Post : Int32 → CS → Prop) : Prop := (16 ≤ (σ.1 63) → wpC_X3_begins_22 Post σ x1) ∧ (¬ 16 ≤ (σ.1 63) → vp_in (σ.1 63) 16 ∧ ∀ σ2 : CS, σ2 = cA σ 5 (upd (σ.2.1 5) (σ.1 63).toNatClampNeg (σ.1 62)) → wpC_X3_begins_22 Post σ2 x1)
set_option maxHeartbeats 1000000 in
set_option maxRecDepth 20000 in
theorem cC_X3_begins {l : Launch} {D : va_G} {cy : Nat → ClassId} {ks : Nat × Nat × Option Nat} {q : Nat → Nat} {σ : CS} {sz : Nat} {x1 : Int32} {Post : Int32 → CS → Prop} (hw : wpC_X3_begins σ x1 Post) : Met l yX3_begins (Cond.code yX3_begins cX3_begins 2 (some .boolean) :: wsA) rC_X3_begins (zPc D cy ks (CW q cy σ) sz [.ref (q 3), .int x1]) (va_Qi Post (xB D cy (CW q cy) (va_A (CW q cy σ) sz)) (va_A (CW q cy σ) sz)) 0 0 (va_A (CW q cy σ) sz) := by
  refine z_enter (own := RX3) (WW := CW q cy) (by decide) rfl (Nat.le_of_ble_eq_true rfl) ?_
  intro p e s m below meth c ls E h hl
  have hx := E.1.1
  have hb := E.1.2.1
  have hl : lv_has ls 2 [(0, .ref (q 3)), (1, .int x1)] := hl
  unfold wpC_X3_begins at hw
  refine lv_aload_n hx hb dX3_begins_0 rfl (lv_at hl 0 rfl) ?_
  refine gX3_22 E.1 h dX3_begins_1 ?_
  refine lv_bipush (v := 16) hx hb dX3_begins_4 (by decide) ?_
  refine lv_icmp_ge (tgt := 22) hx hb dX3_begins_6 (by decide) (fun c1 => ?_) (fun c1 => ?_)
  · have hw := hw.1 c1
    exact wkC_X3_begins_22 E _ _ _ _ _ h hw (lv_sub hl [0, 1] rfl)
  · have hw := hw.2 c1
    refine lv_aload_n hx hb dX3_begins_9 rfl (lv_at hl 0 rfl) ?_
    refine gX3_15 E.1 h dX3_begins_10 ?_
    refine lv_aload_n hx hb dX3_begins_13 rfl (lv_at hl 0 rfl) ?_
    refine gX3_22 E.1 h dX3_begins_14 ?_
    refine lv_aload_n hx hb dX3_begins_17 rfl (lv_at hl 0 rfl) ?_
    refine gX3_18 E.1 h dX3_begins_18 ?_
    have h3 := hw.1
    have hw := hw.2
    refine sC_5 E.1 h h3 dX3_begins_21 (fun σ2 H locs eσ2 h => ?_)
    have hw := hw σ2 eσ2
    exact wkC_X3_begins_22 E _ _ _ _ _ h hw (lv_sub hl [0, 1] rfl)

abbrev rC_X10_isInt : Room := { frames := 0, cells := 0, slots := 0, locals := 0 }
def wpC_X10_isInt (σ : CS) (x0 : Int32) (Post : Int32 → CS → Prop) : Prop := (x0 < 0 → Post 0 σ) ∧ (¬ x0 < 0 → (10000 ≤ x0 → Post 0 σ) ∧ (¬ 10000 ≤ x0 → Post 1 σ))
set_option maxHeartbeats 1000000 in
set_option maxRecDepth 20000 in
theorem cC_X10_isInt {l : Launch} {D : va_G} {cy : Nat → ClassId} {ks : Nat × Nat × Option Nat} {q : Nat → Nat} {σ : CS} {sz : Nat} {x0 : Int32} {Post : Int32 → CS → Prop} (hw : wpC_X10_isInt σ x0 Post) : Met l yX10_isInt (Cond.code yX10_isInt cX10_isInt 1 (some .boolean) :: wsA) rC_X10_isInt (zPc D cy ks (CW q cy σ) sz [.int x0]) (va_Qi Post (xB D cy (CW q cy) (va_A (CW q cy σ) sz)) (va_A (CW q cy σ) sz)) 0 0 (va_A (CW q cy σ) sz) := by
  refine z_enter (own := RX10) (WW := CW q cy) (by decide) rfl (Nat.le_of_ble_eq_true rfl) ?_
  intro p e s m below meth c ls E h hl
  have hx := E.1.1
  have hb := E.1.2.1
  have hl : lv_has ls 1 [(0, .int x0)] := hl
  unfold wpC_X10_isInt at hw
  refine lv_iload_n hx hb dX10_isInt_0 rfl (lv_at hl 0 rfl) ?_
  refine lv_if_lt (tgt := 15) hx hb dX10_isInt_1 (by decide) (fun c1 => ?_) (fun c1 => ?_)
  · have hw := hw.1 c1
    refine lv_iconst (v := 0) hx hb dX10_isInt_15 (by decide) ?_
    exact x_zret E.1 h rfl hw dX10_isInt_16
  · have hw := hw.2 c1
    refine lv_iload_n hx hb dX10_isInt_4 rfl (lv_at hl 0 rfl) ?_
    refine lv_sipush (v := 10000) hx hb dX10_isInt_5 (by decide) ?_
    refine lv_icmp_ge (tgt := 15) hx hb dX10_isInt_8 (by decide) (fun c2 => ?_) (fun c2 => ?_)
    · have hw := hw.1 c2
      refine lv_iconst (v := 0) hx hb dX10_isInt_15 (by decide) ?_
      exact x_zret E.1 h rfl hw dX10_isInt_16
    · have hw := hw.2 c2
      refine lv_iconst (v := 1) hx hb dX10_isInt_11 (by decide) ?_
      refine lv_goto (tgt := 16) hx hb dX10_isInt_12 (by decide) ?_
      exact x_zret E.1 h rfl hw dX10_isInt_16

abbrev rC_X10_isVar : Room := { frames := 0, cells := 0, slots := 0, locals := 0 }
def wpC_X10_isVar (σ : CS) (x0 : Int32) (Post : Int32 → CS → Prop) : Prop := (x0 < 10008 → Post 0 σ) ∧ (¬ x0 < 10008 → (10020 ≤ x0 → Post 0 σ) ∧ (¬ 10020 ≤ x0 → Post 1 σ))
set_option maxHeartbeats 1000000 in
set_option maxRecDepth 20000 in
theorem cC_X10_isVar {l : Launch} {D : va_G} {cy : Nat → ClassId} {ks : Nat × Nat × Option Nat} {q : Nat → Nat} {σ : CS} {sz : Nat} {x0 : Int32} {Post : Int32 → CS → Prop} (hw : wpC_X10_isVar σ x0 Post) : Met l yX10_isVar (Cond.code yX10_isVar cX10_isVar 1 (some .boolean) :: wsA) rC_X10_isVar (zPc D cy ks (CW q cy σ) sz [.int x0]) (va_Qi Post (xB D cy (CW q cy) (va_A (CW q cy σ) sz)) (va_A (CW q cy σ) sz)) 0 0 (va_A (CW q cy σ) sz) := by
  refine z_enter (own := RX10) (WW := CW q cy) (by decide) rfl (Nat.le_of_ble_eq_true rfl) ?_
  intro p e s m below meth c ls E h hl
  have hx := E.1.1
  have hb := E.1.2.1
  have hl : lv_has ls 1 [(0, .int x0)] := hl
  unfold wpC_X10_isVar at hw
  refine lv_iload_n hx hb dX10_isVar_0 rfl (lv_at hl 0 rfl) ?_
  refine lv_sipush (v := 10008) hx hb dX10_isVar_1 (by decide) ?_
  refine lv_icmp_lt (tgt := 18) hx hb dX10_isVar_4 (by decide) (fun c1 => ?_) (fun c1 => ?_)
  · have hw := hw.1 c1
    refine lv_iconst (v := 0) hx hb dX10_isVar_18 (by decide) ?_
    exact x_zret E.1 h rfl hw dX10_isVar_19
  · have hw := hw.2 c1
    refine lv_iload_n hx hb dX10_isVar_7 rfl (lv_at hl 0 rfl) ?_
    refine lv_sipush (v := 10020) hx hb dX10_isVar_8 (by decide) ?_
    refine lv_icmp_ge (tgt := 18) hx hb dX10_isVar_11 (by decide) (fun c2 => ?_) (fun c2 => ?_)
    · have hw := hw.1 c2
      refine lv_iconst (v := 0) hx hb dX10_isVar_18 (by decide) ?_
      exact x_zret E.1 h rfl hw dX10_isVar_19
    · have hw := hw.2 c2
      refine lv_iconst (v := 1) hx hb dX10_isVar_14 (by decide) ?_
      refine lv_goto (tgt := 19) hx hb dX10_isVar_15 (by decide) ?_
      exact x_zret E.1 h rfl hw dX10_isVar_19

abbrev rC_X3_isUnit : Room := { frames := 1, cells := 0, slots := 0, locals := 20 }
def wpC_X3_isUnit (σ : CS) (x1 : Int32) (Post : Int32 → CS → Prop) : Prop := (x1 = 10028 → ∀ σ9 : CS, σ9 = cF σ 66 ((σ.1 66) + 1) → Post 1 σ9) ∧ (¬ x1 = 10028 → ∀ σ2 : CS, σ2 = cF σ 64 5 → wpC_X10_isInt σ2 x1 (fun r3 σ4 => (r3 = 0 → wpC_X10_isVar σ4 x1 (fun r6 σ7 => (r6 = 0 → Post 0 σ7) ∧ (¬ r6 = 0 → Post 1 σ7))) ∧ (¬ r3 = 0 → Post 1 σ4)))
set_option maxHeartbeats 1000000 in
set_option maxRecDepth 20000 in
theorem cC_X3_isUnit {l : Launch} {D : va_G} {cy : Nat → ClassId} {ks : Nat × Nat × Option Nat} {q : Nat → Nat} {σ : CS} {sz : Nat} {x1 : Int32} {Post : Int32 → CS → Prop} (hw : wpC_X3_isUnit σ x1 Post) : Met l yX3_isUnit (Cond.code yX3_isUnit cX3_isUnit 2 (some .boolean) :: wsA) rC_X3_isUnit (zPc D cy ks (CW q cy σ) sz [.ref (q 3), .int x1]) (va_Qi Post (xB D cy (CW q cy) (va_A (CW q cy σ) sz)) (va_A (CW q cy σ) sz)) 0 0 (va_A (CW q cy σ) sz) := by
  refine z_enter (own := RX3) (WW := CW q cy) (by decide) rfl (Nat.le_of_ble_eq_true rfl) ?_
  intro p e s m below meth c ls E h hl
  have hx := E.1.1
  have hb := E.1.2.1
  have hl : lv_has ls 2 [(0, .ref (q 3)), (1, .int x1)] := hl
  unfold wpC_X3_isUnit at hw
  refine lv_iload_n hx hb dX3_isUnit_0 rfl (lv_at hl 1 rfl) ?_
  refine lv_sipush (v := 10028) hx hb dX3_isUnit_1 (by decide) ?_
  refine lv_icmp_ne (tgt := 19) hx hb dX3_isUnit_4 (by decide) (fun c1 => ?_) (fun c1 => ?_)
  · have hw := hw.2 c1
    refine lv_aload_n hx hb dX3_isUnit_19 rfl (lv_at hl 0 rfl) ?_
    refine lv_iconst (v := 5) hx hb dX3_isUnit_20 (by decide) ?_
    refine pX3_25 E.1 h dX3_isUnit_21 (fun σ2 H locs eσ2 h => ?_)
    have hw := hw σ2 eσ2
    refine lv_iload_n hx hb dX3_isUnit_24 rfl (lv_at hl 1 rfl) ?_
    refine x_calli h (z_runSN (WW := CW q cy) (rest := []) E h (cC_X10_isInt hw) yyX10_isInt lX3_67 ⟨Nat.le_of_ble_eq_true rfl, Nat.le_of_ble_eq_true rfl⟩ rfl rfl hl.1 rfl (Nat.le_of_ble_eq_true rfl) dX3_isUnit_25 ⟨Nat.le_refl 0, Nat.le_refl 0⟩) (fun r3 σ4 H locs hw h => ?_)
    refine lv_if_ne (tgt := 38) hx hb dX3_isUnit_28 (by decide) (fun c5 => ?_) (fun c5 => ?_)
    · have hw := hw.2 c5
      refine lv_iconst (v := 1) hx hb dX3_isUnit_38 (by decide) ?_
      refine lv_goto (tgt := 43) hx hb dX3_isUnit_39 (by decide) ?_
      exact x_zret E.1 h rfl hw dX3_isUnit_43
    · have hw := hw.1 c5
      refine lv_iload_n hx hb dX3_isUnit_31 rfl (lv_at hl 1 rfl) ?_
      refine x_calli h (z_runSN (WW := CW q cy) (rest := []) E h (cC_X10_isVar hw) yyX10_isVar lX3_76 ⟨Nat.le_of_ble_eq_true rfl, Nat.le_of_ble_eq_true rfl⟩ rfl rfl hl.1 rfl (Nat.le_of_ble_eq_true rfl) dX3_isUnit_32 ⟨Nat.le_refl 0, Nat.le_refl 0⟩) (fun r6 σ7 H locs hw h => ?_)
      refine lv_if_eq (tgt := 42) hx hb dX3_isUnit_35 (by decide) (fun c8 => ?_) (fun c8 => ?_)
      · have hw := hw.1 c8
        refine lv_iconst (v := 0) hx hb dX3_isUnit_42 (by decide) ?_
        exact x_zret E.1 h rfl hw dX3_isUnit_43
      · have hw := hw.2 c8
        refine lv_iconst (v := 1) hx hb dX3_isUnit_38 (by decide) ?_
        refine lv_goto (tgt := 43) hx hb dX3_isUnit_39 (by decide) ?_
        exact x_zret E.1 h rfl hw dX3_isUnit_43
  · have hw := hw.1 c1
    refine lv_aload_n hx hb dX3_isUnit_7 rfl (lv_at hl 0 rfl) ?_
    refine lv_dup hx hb dX3_isUnit_8 rfl ?_
    refine gX3_31 E.1 h dX3_isUnit_9 ?_
    refine lv_iconst (v := 1) hx hb dX3_isUnit_12 (by decide) ?_
    refine lv_iadd hx hb dX3_isUnit_13 ?_
    refine pX3_31 E.1 h dX3_isUnit_14 (fun σ9 H locs eσ9 h => ?_)
    have hw := hw σ9 eσ9
    refine lv_iconst (v := 1) hx hb dX3_isUnit_17 (by decide) ?_
    exact x_zret E.1 h rfl hw dX3_isUnit_18

abbrev rC_X3_goesBehindE : Room := { frames := 0, cells := 0, slots := 0, locals := 0 }
def wpC_X3_goesBehindE_75 (Post : Int32 → CS → Prop) (σ : CS) (x1 : Int32) (t0 : Int32) : Prop := ∀ σ1 : CS, σ1 = cF σ 65 0 → (t0 = 0 → (x1 = 10007 → Post 1 σ1) ∧ (¬ x1 = 10007 → (x1 = 10006 → Post 1 σ1) ∧ (¬ x1 = 10006 → Post 0 σ1))) ∧ (¬ t0 = 0 → (x1 = 10005 → Post 1 σ1) ∧ (¬ x1 = 10005 → Post 0 σ1))
set_option maxHeartbeats 1000000 in
set_option maxRecDepth 20000 in
theorem wkC_X3_goesBehindE_75 {Post : Int32 → CS → Prop} (E : zE cX3_goesBehindE RX3 3 (some .boolean) D cy ks A p s m args meth c) : ∀ (σ : CS) (x1 : Int32) (t0 : Int32) (H : Heap) (locs : List Loc) (ls : Array Slot), xH D A s (CW q cy σ) H locs → wpC_X3_goesBehindE_75 Post σ x1 t0 → lv_has ls 3 [(0, .ref (q 3)), (1, .int x1)] → W p l e rC_X3_goesBehindE s m args below meth c H locs 0 0 (MQ below (va_Qi Post (xB D cy (CW q cy) A) A) args s 0 0 A) (F0 m 75 ls [.int t0]) := by
  have hx := E.1.1
  have hb := E.1.2.1
  intro σ x1 t0 H locs ls h hw hl
  unfold wpC_X3_goesBehindE_75 at hw
  refine lv_istore_n (lv' := [(2, .int t0), (0, .ref (q 3)), (1, .int x1)]) hx hb dX3_goesBehindE_75 rfl hl (by decide) rfl (fun ls hl => ?_)
  refine lv_aload_n hx hb dX3_goesBehindE_76 rfl (lv_at hl 1 rfl) ?_
  refine lv_iconst (v := 0) hx hb dX3_goesBehindE_77 (by decide) ?_
  refine pX3_28 E.1 h dX3_goesBehindE_78 (fun σ1 H locs eσ1 h => ?_)
  have hw := hw σ1 eσ1
  refine lv_iload_n hx hb dX3_goesBehindE_81 rfl (lv_at hl 0 rfl) ?_
  refine lv_if_eq (tgt := 100) hx hb dX3_goesBehindE_82 (by decide) (fun c2 => ?_) (fun c2 => ?_)
  · have hw := hw.1 c2
    refine lv_iload_n hx hb dX3_goesBehindE_100 rfl (lv_at hl 2 rfl) ?_
    refine lv_sipush (v := 10007) hx hb dX3_goesBehindE_101 (by decide) ?_
    refine lv_icmp_eq (tgt := 114) hx hb dX3_goesBehindE_104 (by decide) (fun c3 => ?_) (fun c3 => ?_)
    · have hw := hw.1 c3
      refine lv_iconst (v := 1) hx hb dX3_goesBehindE_114 (by decide) ?_
      refine lv_goto (tgt := 119) hx hb dX3_goesBehindE_115 (by decide) ?_
      exact x_zret E.1 h rfl hw dX3_goesBehindE_119
    · have hw := hw.2 c3
      refine lv_iload_n hx hb dX3_goesBehindE_107 rfl (lv_at hl 2 rfl) ?_
      refine lv_sipush (v := 10006) hx hb dX3_goesBehindE_108 (by decide) ?_
      refine lv_icmp_ne (tgt := 118) hx hb dX3_goesBehindE_111 (by decide) (fun c4 => ?_) (fun c4 => ?_)
      · have hw := hw.2 c4
        refine lv_iconst (v := 0) hx hb dX3_goesBehindE_118 (by decide) ?_
        exact x_zret E.1 h rfl hw dX3_goesBehindE_119
      · have hw := hw.1 c4
        refine lv_iconst (v := 1) hx hb dX3_goesBehindE_114 (by decide) ?_
        refine lv_goto (tgt := 119) hx hb dX3_goesBehindE_115 (by decide) ?_
        exact x_zret E.1 h rfl hw dX3_goesBehindE_119
  · have hw := hw.2 c2
    refine lv_iload_n hx hb dX3_goesBehindE_85 rfl (lv_at hl 2 rfl) ?_
    refine lv_sipush (v := 10005) hx hb dX3_goesBehindE_86 (by decide) ?_
    refine lv_icmp_ne (tgt := 96) hx hb dX3_goesBehindE_89 (by decide) (fun c5 => ?_) (fun c5 => ?_)
    · have hw := hw.2 c5
      refine lv_iconst (v := 0) hx hb dX3_goesBehindE_96 (by decide) ?_
      refine lv_goto (tgt := 119) hx hb dX3_goesBehindE_97 (by decide) ?_
      exact x_zret E.1 h rfl hw dX3_goesBehindE_119
    · have hw := hw.1 c5
      refine lv_iconst (v := 1) hx hb dX3_goesBehindE_92 (by decide) ?_
      refine lv_goto (tgt := 119) hx hb dX3_goesBehindE_93 (by decide) ?_
      exact x_zret E.1 h rfl hw dX3_goesBehindE_119

def wpC_X3_goesBehindE (σ : CS) (x1 : Int32) (Post : Int32 → CS → Prop) : Prop := (x1 = 10020 → ∀ σ8 : CS, σ8 = cF σ 64 0 → ((σ8.1 65) = 0 → Post 0 σ8) ∧ (¬ (σ8.1 65) = 0 → Post 1 σ8)) ∧ (¬ x1 = 10020 → ∀ σ2 : CS, σ2 = cF σ 64 4 → ((σ2.1 65) = 0 → ∀ σ5 : CS, σ5 = cF σ2 65 1 → (x1 < 10024 → Post 0 σ5) ∧ (¬ x1 < 10024 → (10027 < x1 → Post 0 σ5) ∧ (¬ 10027 < x1 → Post 1 σ5))) ∧ (¬ (σ2.1 65) = 0 → ((σ2.1 65) = 2 → wpC_X3_goesBehindE_75 Post σ2 x1 1) ∧ (¬ (σ2.1 65) = 2 → wpC_X3_goesBehindE_75 Post σ2 x1 0)))
set_option maxHeartbeats 1000000 in
set_option maxRecDepth 20000 in
theorem cC_X3_goesBehindE {l : Launch} {D : va_G} {cy : Nat → ClassId} {ks : Nat × Nat × Option Nat} {q : Nat → Nat} {σ : CS} {sz : Nat} {x1 : Int32} {Post : Int32 → CS → Prop} (hw : wpC_X3_goesBehindE σ x1 Post) : Met l yX3_goesBehindE (Cond.code yX3_goesBehindE cX3_goesBehindE 3 (some .boolean) :: wsA) rC_X3_goesBehindE (zPc D cy ks (CW q cy σ) sz [.ref (q 3), .int x1]) (va_Qi Post (xB D cy (CW q cy) (va_A (CW q cy σ) sz)) (va_A (CW q cy σ) sz)) 0 0 (va_A (CW q cy σ) sz) := by
  refine z_enter (own := RX3) (WW := CW q cy) (by decide) rfl (Nat.le_of_ble_eq_true rfl) ?_
  intro p e s m below meth c ls E h hl
  have hx := E.1.1
  have hb := E.1.2.1
  have hl : lv_has ls 3 [(0, .ref (q 3)), (1, .int x1)] := hl
  unfold wpC_X3_goesBehindE at hw
  refine lv_iload_n hx hb dX3_goesBehindE_0 rfl (lv_at hl 1 rfl) ?_
  refine lv_sipush (v := 10020) hx hb dX3_goesBehindE_1 (by decide) ?_
  refine lv_icmp_ne (tgt := 25) hx hb dX3_goesBehindE_4 (by decide) (fun c1 => ?_) (fun c1 => ?_)
  · have hw := hw.2 c1
    refine lv_aload_n hx hb dX3_goesBehindE_25 rfl (lv_at hl 0 rfl) ?_
    refine lv_iconst (v := 4) hx hb dX3_goesBehindE_26 (by decide) ?_
    refine pX3_25 E.1 h dX3_goesBehindE_27 (fun σ2 H locs eσ2 h => ?_)
    have hw := hw σ2 eσ2
    refine lv_aload_n hx hb dX3_goesBehindE_30 rfl (lv_at hl 0 rfl) ?_
    refine gX3_28 E.1 h dX3_goesBehindE_31 ?_
    refine lv_if_ne (tgt := 62) hx hb dX3_goesBehindE_34 (by decide) (fun c3 => ?_) (fun c3 => ?_)
    · have hw := hw.2 c3
      refine lv_aload_n hx hb dX3_goesBehindE_62 rfl (lv_at hl 0 rfl) ?_
      refine gX3_28 E.1 h dX3_goesBehindE_63 ?_
      refine lv_iconst (v := 2) hx hb dX3_goesBehindE_66 (by decide) ?_
      refine lv_icmp_ne (tgt := 74) hx hb dX3_goesBehindE_67 (by decide) (fun c4 => ?_) (fun c4 => ?_)
      · have hw := hw.2 c4
        refine lv_iconst (v := 0) hx hb dX3_goesBehindE_74 (by decide) ?_
        exact wkC_X3_goesBehindE_75 E _ _ _ _ _ _ h hw (lv_sub hl [0, 1] rfl)
      · have hw := hw.1 c4
        refine lv_iconst (v := 1) hx hb dX3_goesBehindE_70 (by decide) ?_
        refine lv_goto (tgt := 75) hx hb dX3_goesBehindE_71 (by decide) ?_
        exact wkC_X3_goesBehindE_75 E _ _ _ _ _ _ h hw (lv_sub hl [0, 1] rfl)
    · have hw := hw.1 c3
      refine lv_aload_n hx hb dX3_goesBehindE_37 rfl (lv_at hl 0 rfl) ?_
      refine lv_iconst (v := 1) hx hb dX3_goesBehindE_38 (by decide) ?_
      refine pX3_28 E.1 h dX3_goesBehindE_39 (fun σ5 H locs eσ5 h => ?_)
      have hw := hw σ5 eσ5
      refine lv_iload_n hx hb dX3_goesBehindE_42 rfl (lv_at hl 1 rfl) ?_
      refine lv_sipush (v := 10024) hx hb dX3_goesBehindE_43 (by decide) ?_
      refine lv_icmp_lt (tgt := 60) hx hb dX3_goesBehindE_46 (by decide) (fun c6 => ?_) (fun c6 => ?_)
      · have hw := hw.1 c6
        refine lv_iconst (v := 0) hx hb dX3_goesBehindE_60 (by decide) ?_
        exact x_zret E.1 h rfl hw dX3_goesBehindE_61
      · have hw := hw.2 c6
        refine lv_iload_n hx hb dX3_goesBehindE_49 rfl (lv_at hl 1 rfl) ?_
        refine lv_sipush (v := 10027) hx hb dX3_goesBehindE_50 (by decide) ?_
        refine lv_icmp_gt (tgt := 60) hx hb dX3_goesBehindE_53 (by decide) (fun c7 => ?_) (fun c7 => ?_)
        · have hw := hw.1 c7
          refine lv_iconst (v := 0) hx hb dX3_goesBehindE_60 (by decide) ?_
          exact x_zret E.1 h rfl hw dX3_goesBehindE_61
        · have hw := hw.2 c7
          refine lv_iconst (v := 1) hx hb dX3_goesBehindE_56 (by decide) ?_
          refine lv_goto (tgt := 61) hx hb dX3_goesBehindE_57 (by decide) ?_
          exact x_zret E.1 h rfl hw dX3_goesBehindE_61
  · have hw := hw.1 c1
    refine lv_aload_n hx hb dX3_goesBehindE_7 rfl (lv_at hl 0 rfl) ?_
    refine lv_iconst (v := 0) hx hb dX3_goesBehindE_8 (by decide) ?_
    refine pX3_25 E.1 h dX3_goesBehindE_9 (fun σ8 H locs eσ8 h => ?_)
    have hw := hw σ8 eσ8
    refine lv_aload_n hx hb dX3_goesBehindE_12 rfl (lv_at hl 0 rfl) ?_
    refine gX3_28 E.1 h dX3_goesBehindE_13 ?_
    refine lv_if_eq (tgt := 23) hx hb dX3_goesBehindE_16 (by decide) (fun c9 => ?_) (fun c9 => ?_)
    · have hw := hw.1 c9
      refine lv_iconst (v := 0) hx hb dX3_goesBehindE_23 (by decide) ?_
      exact x_zret E.1 h rfl hw dX3_goesBehindE_24
    · have hw := hw.2 c9
      refine lv_iconst (v := 1) hx hb dX3_goesBehindE_19 (by decide) ?_
      refine lv_goto (tgt := 24) hx hb dX3_goesBehindE_20 (by decide) ?_
      exact x_zret E.1 h rfl hw dX3_goesBehindE_24

abbrev rC_X3_goesBehindUnit : Room := { frames := 1, cells := 0, slots := 0, locals := 22 }
def wpC_X3_goesBehindUnit_51 (Post : Int32 → CS → Prop) (σ : CS) : Prop := ∀ σ1 : CS, σ1 = cF σ 64 4 → Post 1 σ1
set_option maxHeartbeats 1000000 in
set_option maxRecDepth 20000 in
theorem wkC_X3_goesBehindUnit_51 {Post : Int32 → CS → Prop} (E : zE cX3_goesBehindUnit RX3 2 (some .boolean) D cy ks A p s m args meth c) : ∀ (σ : CS) (H : Heap) (locs : List Loc) (ls : Array Slot), xH D A s (CW q cy σ) H locs → wpC_X3_goesBehindUnit_51 Post σ → lv_has ls 2 [(0, .ref (q 3))] → W p l e rC_X3_goesBehindUnit s m args below meth c H locs 0 0 (MQ below (va_Qi Post (xB D cy (CW q cy) A) A) args s 0 0 A) (F0 m 51 ls []) := by
  have hx := E.1.1
  have hb := E.1.2.1
  intro σ H locs ls h hw hl
  unfold wpC_X3_goesBehindUnit_51 at hw
  refine lv_aload_n hx hb dX3_goesBehindUnit_51 rfl (lv_at hl 0 rfl) ?_
  refine lv_iconst (v := 4) hx hb dX3_goesBehindUnit_52 (by decide) ?_
  refine pX3_25 E.1 h dX3_goesBehindUnit_53 (fun σ1 H locs eσ1 h => ?_)
  have hw := hw σ1 eσ1
  refine lv_iconst (v := 1) hx hb dX3_goesBehindUnit_56 (by decide) ?_
  exact x_zret E.1 h rfl hw dX3_goesBehindUnit_57

def wpC_X3_goesBehindUnit (σ : CS) (x1 : Int32) (Post : Int32 → CS → Prop) : Prop := (x1 = 10029 → ∀ σ9 : CS, σ9 = cF σ 66 ((σ.1 66) - 1) → ((σ9.1 66) < 0 → Post 0 σ9) ∧ (¬ (σ9.1 66) < 0 → Post 1 σ9)) ∧ (¬ x1 = 10029 → (x1 = 10021 → wpC_X3_goesBehindUnit_51 Post σ) ∧ (¬ x1 = 10021 → (x1 = 10022 → wpC_X3_goesBehindUnit_51 Post σ) ∧ (¬ x1 = 10022 → (x1 = 10023 → wpC_X3_goesBehindUnit_51 Post σ) ∧ (¬ x1 = 10023 → ((σ.1 66) = 0 → wpC_X3_goesBehindE σ x1 (fun r6 σ7 => (r6 = 0 → Post 0 σ7) ∧ (¬ r6 = 0 → Post 1 σ7))) ∧ (¬ (σ.1 66) = 0 → Post 0 σ)))))
set_option maxHeartbeats 1000000 in
set_option maxRecDepth 20000 in
theorem cC_X3_goesBehindUnit {l : Launch} {D : va_G} {cy : Nat → ClassId} {ks : Nat × Nat × Option Nat} {q : Nat → Nat} {σ : CS} {sz : Nat} {x1 : Int32} {Post : Int32 → CS → Prop} (hw : wpC_X3_goesBehindUnit σ x1 Post) : Met l yX3_goesBehindUnit (Cond.code yX3_goesBehindUnit cX3_goesBehindUnit 2 (some .boolean) :: wsA) rC_X3_goesBehindUnit (zPc D cy ks (CW q cy σ) sz [.ref (q 3), .int x1]) (va_Qi Post (xB D cy (CW q cy) (va_A (CW q cy σ) sz)) (va_A (CW q cy σ) sz)) 0 0 (va_A (CW q cy σ) sz) := by
  refine z_enter (own := RX3) (WW := CW q cy) (by decide) rfl (Nat.le_of_ble_eq_true rfl) ?_
  intro p e s m below meth c ls E h hl
  have hx := E.1.1
  have hb := E.1.2.1
  have hl : lv_has ls 2 [(0, .ref (q 3)), (1, .int x1)] := hl
  unfold wpC_X3_goesBehindUnit at hw
  refine lv_iload_n hx hb dX3_goesBehindUnit_0 rfl (lv_at hl 1 rfl) ?_
  refine lv_sipush (v := 10029) hx hb dX3_goesBehindUnit_1 (by decide) ?_
  refine lv_icmp_ne (tgt := 30) hx hb dX3_goesBehindUnit_4 (by decide) (fun c1 => ?_) (fun c1 => ?_)
  · have hw := hw.2 c1
    refine lv_iload_n hx hb dX3_goesBehindUnit_30 rfl (lv_at hl 1 rfl) ?_
    refine lv_sipush (v := 10021) hx hb dX3_goesBehindUnit_31 (by decide) ?_
    refine lv_icmp_eq (tgt := 51) hx hb dX3_goesBehindUnit_34 (by decide) (fun c2 => ?_) (fun c2 => ?_)
    · have hw := hw.1 c2
      exact wkC_X3_goesBehindUnit_51 E _ _ _ _ h hw (lv_sub hl [0] rfl)
    · have hw := hw.2 c2
      refine lv_iload_n hx hb dX3_goesBehindUnit_37 rfl (lv_at hl 1 rfl) ?_
      refine lv_sipush (v := 10022) hx hb dX3_goesBehindUnit_38 (by decide) ?_
      refine lv_icmp_eq (tgt := 51) hx hb dX3_goesBehindUnit_41 (by decide) (fun c3 => ?_) (fun c3 => ?_)
      · have hw := hw.1 c3
        exact wkC_X3_goesBehindUnit_51 E _ _ _ _ h hw (lv_sub hl [0] rfl)
      · have hw := hw.2 c3
        refine lv_iload_n hx hb dX3_goesBehindUnit_44 rfl (lv_at hl 1 rfl) ?_
        refine lv_sipush (v := 10023) hx hb dX3_goesBehindUnit_45 (by decide) ?_
        refine lv_icmp_ne (tgt := 58) hx hb dX3_goesBehindUnit_48 (by decide) (fun c4 => ?_) (fun c4 => ?_)
        · have hw := hw.2 c4
          refine lv_aload_n hx hb dX3_goesBehindUnit_58 rfl (lv_at hl 0 rfl) ?_
          refine gX3_31 E.1 h dX3_goesBehindUnit_59 ?_
          refine lv_if_ne (tgt := 77) hx hb dX3_goesBehindUnit_62 (by decide) (fun c5 => ?_) (fun c5 => ?_)
          · have hw := hw.2 c5
            refine lv_iconst (v := 0) hx hb dX3_goesBehindUnit_77 (by decide) ?_
            exact x_zret E.1 h rfl hw dX3_goesBehindUnit_78
          · have hw := hw.1 c5
            refine lv_aload_n hx hb dX3_goesBehindUnit_65 rfl (lv_at hl 0 rfl) ?_
            refine lv_iload_n hx hb dX3_goesBehindUnit_66 rfl (lv_at hl 1 rfl) ?_
            refine x_calli h (z_runV (WW := CW q cy) (rest := []) E h (cC_X3_goesBehindE hw) yyX3_goesBehindE lX3_79 3 rfl rfl ⟨Nat.le_of_ble_eq_true rfl, Nat.le_of_ble_eq_true rfl⟩ rfl rfl hl.1 rfl (Nat.le_of_ble_eq_true rfl) dX3_goesBehindUnit_67 ⟨Nat.le_refl 0, Nat.le_refl 0⟩) (fun r6 σ7 H locs hw h => ?_)
            refine lv_if_eq (tgt := 77) hx hb dX3_goesBehindUnit_70 (by decide) (fun c8 => ?_) (fun c8 => ?_)
            · have hw := hw.1 c8
              refine lv_iconst (v := 0) hx hb dX3_goesBehindUnit_77 (by decide) ?_
              exact x_zret E.1 h rfl hw dX3_goesBehindUnit_78
            · have hw := hw.2 c8
              refine lv_iconst (v := 1) hx hb dX3_goesBehindUnit_73 (by decide) ?_
              refine lv_goto (tgt := 78) hx hb dX3_goesBehindUnit_74 (by decide) ?_
              exact x_zret E.1 h rfl hw dX3_goesBehindUnit_78
        · have hw := hw.1 c4
          exact wkC_X3_goesBehindUnit_51 E _ _ _ _ h hw (lv_sub hl [0] rfl)
  · have hw := hw.1 c1
    refine lv_aload_n hx hb dX3_goesBehindUnit_7 rfl (lv_at hl 0 rfl) ?_
    refine lv_dup hx hb dX3_goesBehindUnit_8 rfl ?_
    refine gX3_31 E.1 h dX3_goesBehindUnit_9 ?_
    refine lv_iconst (v := 1) hx hb dX3_goesBehindUnit_12 (by decide) ?_
    refine lv_isub hx hb dX3_goesBehindUnit_13 ?_
    refine pX3_31 E.1 h dX3_goesBehindUnit_14 (fun σ9 H locs eσ9 h => ?_)
    have hw := hw σ9 eσ9
    refine lv_aload_n hx hb dX3_goesBehindUnit_17 rfl (lv_at hl 0 rfl) ?_
    refine gX3_31 E.1 h dX3_goesBehindUnit_18 ?_
    refine lv_if_lt (tgt := 28) hx hb dX3_goesBehindUnit_21 (by decide) (fun c10 => ?_) (fun c10 => ?_)
    · have hw := hw.1 c10
      refine lv_iconst (v := 0) hx hb dX3_goesBehindUnit_28 (by decide) ?_
      exact x_zret E.1 h rfl hw dX3_goesBehindUnit_29
    · have hw := hw.2 c10
      refine lv_iconst (v := 1) hx hb dX3_goesBehindUnit_24 (by decide) ?_
      refine lv_goto (tgt := 29) hx hb dX3_goesBehindUnit_25 (by decide) ?_
      exact x_zret E.1 h rfl hw dX3_goesBehindUnit_29

abbrev rC_X3_goesOn : Room := { frames := 2, cells := 0, slots := 0, locals := 43 }
def wpC_X3_goesOn (σ : CS) (x1 : Int32) (Post : Int32 → CS → Prop) : Prop := ((σ.1 64) = 0 → wpC_X3_begins σ x1 (fun r1 σ2 => narrow .boolean (.int r1) = .int r1 ∧ Post r1 σ2)) ∧ ((σ.1 64) = 1 → ∀ σ4 : CS, σ4 = cF σ 65 0 → ∀ σ5 : CS, σ5 = cF σ4 64 4 → (x1 = 10005 → Post 1 σ5) ∧ (¬ x1 = 10005 → Post 0 σ5)) ∧ ((σ.1 64) = 2 → ∀ σ8 : CS, σ8 = cF σ 64 3 → wpC_X10_isInt σ8 x1 (fun r9 σ10 => narrow .boolean (.int r9) = .int r9 ∧ Post r9 σ10)) ∧ ((σ.1 64) = 3 → ∀ σ12 : CS, σ12 = cF σ 64 0 → (x1 = 10020 → Post 1 σ12) ∧ (¬ x1 = 10020 → Post 0 σ12)) ∧ ((σ.1 64) = 4 → wpC_X3_isUnit σ x1 (fun r15 σ16 => narrow .boolean (.int r15) = .int r15 ∧ Post r15 σ16)) ∧ (¬ (σ.1 64) = 0 ∧ ¬ (σ.1 64) = 1 ∧ ¬ (σ.1 64) = 2 ∧ ¬ (σ.1 64) = 3 ∧ ¬ (σ.1 64) = 4 → wpC_X3_goesBehindUnit σ x1 (fun r18 σ19 => narrow .boolean (.int r18) = .int r18 ∧ Post r18 σ19))
set_option maxHeartbeats 1000000 in
set_option maxRecDepth 20000 in
theorem cC_X3_goesOn {l : Launch} {D : va_G} {cy : Nat → ClassId} {ks : Nat × Nat × Option Nat} {q : Nat → Nat} {σ : CS} {sz : Nat} {x1 : Int32} {Post : Int32 → CS → Prop} (hw : wpC_X3_goesOn σ x1 Post) : Met l yX3_goesOn (Cond.code yX3_goesOn cX3_goesOn 2 (some .boolean) :: wsA) rC_X3_goesOn (zPc D cy ks (CW q cy σ) sz [.ref (q 3), .int x1]) (va_Qi Post (xB D cy (CW q cy) (va_A (CW q cy σ) sz)) (va_A (CW q cy σ) sz)) 0 0 (va_A (CW q cy σ) sz) := by
  refine z_enter (own := RX3) (WW := CW q cy) (by decide) rfl (Nat.le_of_ble_eq_true rfl) ?_
  intro p e s m below meth c ls E h hl
  have hx := E.1.1
  have hb := E.1.2.1
  have hl : lv_has ls 2 [(0, .ref (q 3)), (1, .int x1)] := hl
  unfold wpC_X3_goesOn at hw
  refine lv_aload_n hx hb dX3_goesOn_0 rfl (lv_at hl 0 rfl) ?_
  refine gX3_25 E.1 h dX3_goesOn_1 ?_
  by_cases c3 : (σ.1 64) = 0
  · have hw := hw.1 c3
    refine lv_tableIn (off := 36) (tgt := 40) hx hb dX3_goesOn_4 (by rw [c3]; decide) (by rw [c3]; decide) (by rw [c3]; rfl) (by decide) ?_
    refine lv_aload_n hx hb dX3_goesOn_40 rfl (lv_at hl 0 rfl) ?_
    refine lv_iload_n hx hb dX3_goesOn_41 rfl (lv_at hl 1 rfl) ?_
    refine x_calli h (z_runV (WW := CW q cy) (rest := []) E h (cC_X3_begins hw) yyX3_begins lX3_64 3 rfl rfl ⟨Nat.le_of_ble_eq_true rfl, Nat.le_of_ble_eq_true rfl⟩ rfl rfl hl.1 rfl (Nat.le_of_ble_eq_true rfl) dX3_goesOn_42 ⟨Nat.le_refl 0, Nat.le_refl 0⟩) (fun r1 σ2 H locs hw h => ?_)
    exact x_zret E.1 h hw.1 hw.2 dX3_goesOn_45
  have hw := hw.2
  by_cases c7 : (σ.1 64) = 1
  · have hw := hw.1 c7
    refine lv_tableIn (off := 42) (tgt := 46) hx hb dX3_goesOn_4 (by rw [c7]; decide) (by rw [c7]; decide) (by rw [c7]; rfl) (by decide) ?_
    refine lv_aload_n hx hb dX3_goesOn_46 rfl (lv_at hl 0 rfl) ?_
    refine lv_iconst (v := 0) hx hb dX3_goesOn_47 (by decide) ?_
    refine pX3_28 E.1 h dX3_goesOn_48 (fun σ4 H locs eσ4 h => ?_)
    have hw := hw σ4 eσ4
    refine lv_aload_n hx hb dX3_goesOn_51 rfl (lv_at hl 0 rfl) ?_
    refine lv_iconst (v := 4) hx hb dX3_goesOn_52 (by decide) ?_
    refine pX3_25 E.1 h dX3_goesOn_53 (fun σ5 H locs eσ5 h => ?_)
    have hw := hw σ5 eσ5
    refine lv_iload_n hx hb dX3_goesOn_56 rfl (lv_at hl 1 rfl) ?_
    refine lv_sipush (v := 10005) hx hb dX3_goesOn_57 (by decide) ?_
    refine lv_icmp_ne (tgt := 67) hx hb dX3_goesOn_60 (by decide) (fun c6 => ?_) (fun c6 => ?_)
    · have hw := hw.2 c6
      refine lv_iconst (v := 0) hx hb dX3_goesOn_67 (by decide) ?_
      exact x_zret E.1 h rfl hw dX3_goesOn_68
    · have hw := hw.1 c6
      refine lv_iconst (v := 1) hx hb dX3_goesOn_63 (by decide) ?_
      refine lv_goto (tgt := 68) hx hb dX3_goesOn_64 (by decide) ?_
      exact x_zret E.1 h rfl hw dX3_goesOn_68
  have hw := hw.2
  by_cases c11 : (σ.1 64) = 2
  · have hw := hw.1 c11
    refine lv_tableIn (off := 65) (tgt := 69) hx hb dX3_goesOn_4 (by rw [c11]; decide) (by rw [c11]; decide) (by rw [c11]; rfl) (by decide) ?_
    refine lv_aload_n hx hb dX3_goesOn_69 rfl (lv_at hl 0 rfl) ?_
    refine lv_iconst (v := 3) hx hb dX3_goesOn_70 (by decide) ?_
    refine pX3_25 E.1 h dX3_goesOn_71 (fun σ8 H locs eσ8 h => ?_)
    have hw := hw σ8 eσ8
    refine lv_iload_n hx hb dX3_goesOn_74 rfl (lv_at hl 1 rfl) ?_
    refine x_calli h (z_runSN (WW := CW q cy) (rest := []) E h (cC_X10_isInt hw) yyX10_isInt lX3_67 ⟨Nat.le_of_ble_eq_true rfl, Nat.le_of_ble_eq_true rfl⟩ rfl rfl hl.1 rfl (Nat.le_of_ble_eq_true rfl) dX3_goesOn_75 ⟨Nat.le_refl 0, Nat.le_refl 0⟩) (fun r9 σ10 H locs hw h => ?_)
    exact x_zret E.1 h hw.1 hw.2 dX3_goesOn_78
  have hw := hw.2
  by_cases c14 : (σ.1 64) = 3
  · have hw := hw.1 c14
    refine lv_tableIn (off := 75) (tgt := 79) hx hb dX3_goesOn_4 (by rw [c14]; decide) (by rw [c14]; decide) (by rw [c14]; rfl) (by decide) ?_
    refine lv_aload_n hx hb dX3_goesOn_79 rfl (lv_at hl 0 rfl) ?_
    refine lv_iconst (v := 0) hx hb dX3_goesOn_80 (by decide) ?_
    refine pX3_25 E.1 h dX3_goesOn_81 (fun σ12 H locs eσ12 h => ?_)
    have hw := hw σ12 eσ12
    refine lv_iload_n hx hb dX3_goesOn_84 rfl (lv_at hl 1 rfl) ?_
    refine lv_sipush (v := 10020) hx hb dX3_goesOn_85 (by decide) ?_
    refine lv_icmp_ne (tgt := 95) hx hb dX3_goesOn_88 (by decide) (fun c13 => ?_) (fun c13 => ?_)
    · have hw := hw.2 c13
      refine lv_iconst (v := 0) hx hb dX3_goesOn_95 (by decide) ?_
      exact x_zret E.1 h rfl hw dX3_goesOn_96
    · have hw := hw.1 c13
      refine lv_iconst (v := 1) hx hb dX3_goesOn_91 (by decide) ?_
      refine lv_goto (tgt := 96) hx hb dX3_goesOn_92 (by decide) ?_
      exact x_zret E.1 h rfl hw dX3_goesOn_96
  have hw := hw.2
  by_cases c17 : (σ.1 64) = 4
  · have hw := hw.1 c17
    refine lv_tableIn (off := 93) (tgt := 97) hx hb dX3_goesOn_4 (by rw [c17]; decide) (by rw [c17]; decide) (by rw [c17]; rfl) (by decide) ?_
    refine lv_aload_n hx hb dX3_goesOn_97 rfl (lv_at hl 0 rfl) ?_
    refine lv_iload_n hx hb dX3_goesOn_98 rfl (lv_at hl 1 rfl) ?_
    refine x_calli h (z_runV (WW := CW q cy) (rest := []) E h (cC_X3_isUnit hw) yyX3_isUnit lX3_70 3 rfl rfl ⟨Nat.le_of_ble_eq_true rfl, Nat.le_of_ble_eq_true rfl⟩ rfl rfl hl.1 rfl (Nat.le_of_ble_eq_true rfl) dX3_goesOn_99 ⟨Nat.le_refl 0, Nat.le_refl 0⟩) (fun r15 σ16 H locs hw h => ?_)
    exact x_zret E.1 h hw.1 hw.2 dX3_goesOn_102
  have hw := hw.2
  have hw := hw ⟨c3, c7, c11, c14, c17⟩
  refine lv_tableOut (tgt := 103) hx hb dX3_goesOn_4 (x_out 0 4 (fun k h1 h2 hk => by rcases (show k = 0 ∨ k = 1 ∨ k = 2 ∨ k = 3 ∨ k = 4 by omega) with rfl | rfl | rfl | rfl | rfl <;> first | exact c3 (x_ofI hk rfl) | exact c7 (x_ofI hk rfl) | exact c11 (x_ofI hk rfl) | exact c14 (x_ofI hk rfl) | exact c17 (x_ofI hk rfl))) (by decide) ?_
  refine lv_aload_n hx hb dX3_goesOn_103 rfl (lv_at hl 0 rfl) ?_
  refine lv_iload_n hx hb dX3_goesOn_104 rfl (lv_at hl 1 rfl) ?_
  refine x_calli h (z_runV (WW := CW q cy) (rest := []) E h (cC_X3_goesBehindUnit hw) yyX3_goesBehindUnit lX3_73 3 rfl rfl ⟨Nat.le_of_ble_eq_true rfl, Nat.le_of_ble_eq_true rfl⟩ rfl rfl hl.1 rfl (Nat.le_of_ble_eq_true rfl) dX3_goesOn_105 ⟨Nat.le_refl 0, Nat.le_refl 0⟩) (fun r18 σ19 H locs hw h => ?_)
  exact x_zret E.1 h hw.1 hw.2 dX3_goesOn_108

abbrev rC_X3_parse : Room := { frames := 7, cells := 0, slots := 0, locals := 149 }
def wpC_X3_parse_26 (Post : Int32 → CS → Prop) : Nat → CS → Int32 → Prop
  | 0, _, _ => False
  | n + 1, σ, x2 => (400 < x2 → Post 2 σ) ∧ (¬ 400 < x2 → wpC_X9_token σ (fun r2 σ3 => (r2 = ((-1)) → ((σ3.1 64) = 0 → Post 0 σ3) ∧ (¬ (σ3.1 64) = 0 → Post 1 σ3)) ∧ (¬ r2 = ((-1)) → wpC_X3_goesOn σ3 r2 (fun r5 σ6 => (r5 = 0 → Post 1 σ6) ∧ (¬ r5 = 0 → (400 ≤ x2 → Post 2 σ6) ∧ (¬ 400 ≤ x2 → (16 < (σ6.1 63) → Post 2 σ6) ∧ (¬ 16 < (σ6.1 63) → ((σ6.1 66) ≤ 6 → vp_in x2 400 ∧ ∀ σ11 : CS, σ11 = cA σ6 4 (upd (σ6.2.1 4) x2.toNatClampNeg r2) → ∀ σ13 : CS, σ13 = cF σ11 62 (x2 + 1) → ∀ y14 : Int32, y14 = x2 + 1 → wpC_X3_parse_26 Post n σ13 y14) ∧ (¬ (σ6.1 66) ≤ 6 → Post 2 σ6))))))))
set_option maxHeartbeats 1000000 in
set_option maxRecDepth 20000 in
theorem wkC_X3_parse_26 {Post : Int32 → CS → Prop} (E : zE cX3_parse RX3 4 (some .int) D cy ks A p s m args meth c) : ∀ n : Nat, ∀ (σ : CS) (x2 : Int32) (H : Heap) (locs : List Loc) (ls : Array Slot), xH D A s (CW q cy σ) H locs → wpC_X3_parse_26 Post n σ x2 → lv_has ls 4 [(0, .ref (q 3)), (1, .ref (q 1)), (2, .int x2)] → W p l e rC_X3_parse s m args below meth c H locs 0 0 (MQ below (va_Qi Post (xB D cy (CW q cy) A) A) args s 0 0 A) (F0 m 26 ls []) := by
  have hx := E.1.1
  have hb := E.1.2.1
  intro n
  induction n with
  | zero => intro σ x2 H locs ls h hw hl; exact False.elim hw
  | succ n ih =>
    intro σ x2 H locs ls h hw hl
    refine lv_iload_n hx hb dX3_parse_26 rfl (lv_at hl 2 rfl) ?_
    refine lv_sipush (v := 400) hx hb dX3_parse_27 (by decide) ?_
    refine lv_icmp_gt (tgt := 113) hx hb dX3_parse_30 (by decide) (fun c1 => ?_) (fun c1 => ?_)
    · have hw := hw.1 c1
      refine lv_iconst (v := 2) hx hb dX3_parse_113 (by decide) ?_
      exact x_iret E.1 h hw dX3_parse_114
    · have hw := hw.2 c1
      refine lv_aload_n hx hb dX3_parse_33 rfl (lv_at hl 1 rfl) ?_
      refine x_calli h (z_runVN (WW := CW q cy) (rest := []) E h (cC_X9_token hw) yyX9_token lX3_39 1 rfl rfl ⟨Nat.le_of_ble_eq_true rfl, Nat.le_of_ble_eq_true rfl⟩ rfl rfl hl.1 rfl (Nat.le_of_ble_eq_true rfl) dX3_parse_34 ⟨Nat.le_refl 0, Nat.le_refl 0⟩) (fun r2 σ3 H locs hw h => ?_)
      refine lv_istore_n (lv' := [(3, .int r2), (0, .ref (q 3)), (1, .ref (q 1)), (2, .int x2)]) hx hb dX3_parse_37 rfl hl (by decide) rfl (fun ls hl => ?_)
      refine lv_iload_n hx hb dX3_parse_38 rfl (lv_at hl 0 rfl) ?_
      refine lv_iconst (v := (-1)) hx hb dX3_parse_39 (by decide) ?_
      refine lv_icmp_ne (tgt := 56) hx hb dX3_parse_40 (by decide) (fun c4 => ?_) (fun c4 => ?_)
      · have hw := hw.2 c4
        refine lv_aload_n hx hb dX3_parse_56 rfl (lv_at hl 1 rfl) ?_
        refine lv_iload_n hx hb dX3_parse_57 rfl (lv_at hl 0 rfl) ?_
        refine x_calli h (z_runV (WW := CW q cy) (rest := []) E h (cC_X3_goesOn hw) yyX3_goesOn lX3_43 3 rfl rfl ⟨Nat.le_of_ble_eq_true rfl, Nat.le_of_ble_eq_true rfl⟩ rfl rfl hl.1 rfl (Nat.le_of_ble_eq_true rfl) dX3_parse_58 ⟨Nat.le_refl 0, Nat.le_refl 0⟩) (fun r5 σ6 H locs hw h => ?_)
        refine lv_if_ne (tgt := 66) hx hb dX3_parse_61 (by decide) (fun c7 => ?_) (fun c7 => ?_)
        · have hw := hw.2 c7
          refine lv_iload_n hx hb dX3_parse_66 rfl (lv_at hl 3 rfl) ?_
          refine lv_sipush (v := 400) hx hb dX3_parse_67 (by decide) ?_
          refine lv_icmp_ge (tgt := 91) hx hb dX3_parse_70 (by decide) (fun c8 => ?_) (fun c8 => ?_)
          · have hw := hw.1 c8
            refine lv_iconst (v := 2) hx hb dX3_parse_91 (by decide) ?_
            exact x_iret E.1 h hw dX3_parse_92
          · have hw := hw.2 c8
            refine lv_aload_n hx hb dX3_parse_73 rfl (lv_at hl 1 rfl) ?_
            refine gX3_22 E.1 h dX3_parse_74 ?_
            refine lv_bipush (v := 16) hx hb dX3_parse_77 (by decide) ?_
            refine lv_icmp_gt (tgt := 91) hx hb dX3_parse_79 (by decide) (fun c9 => ?_) (fun c9 => ?_)
            · have hw := hw.1 c9
              refine lv_iconst (v := 2) hx hb dX3_parse_91 (by decide) ?_
              exact x_iret E.1 h hw dX3_parse_92
            · have hw := hw.2 c9
              refine lv_aload_n hx hb dX3_parse_82 rfl (lv_at hl 1 rfl) ?_
              refine gX3_31 E.1 h dX3_parse_83 ?_
              refine lv_bipush (v := 6) hx hb dX3_parse_86 (by decide) ?_
              refine lv_icmp_le (tgt := 93) hx hb dX3_parse_88 (by decide) (fun c10 => ?_) (fun c10 => ?_)
              · have hw := hw.1 c10
                refine lv_aload_n hx hb dX3_parse_93 rfl (lv_at hl 1 rfl) ?_
                refine gX3_9 E.1 h dX3_parse_94 ?_
                refine lv_iload_n hx hb dX3_parse_97 rfl (lv_at hl 3 rfl) ?_
                refine lv_iload_n hx hb dX3_parse_98 rfl (lv_at hl 0 rfl) ?_
                have h12 := hw.1
                have hw := hw.2
                refine sC_4 E.1 h h12 dX3_parse_99 (fun σ11 H locs eσ11 h => ?_)
                have hw := hw σ11 eσ11
                refine lv_aload_n hx hb dX3_parse_100 rfl (lv_at hl 1 rfl) ?_
                refine lv_iload_n hx hb dX3_parse_101 rfl (lv_at hl 3 rfl) ?_
                refine lv_iconst (v := 1) hx hb dX3_parse_102 (by decide) ?_
                refine lv_iadd hx hb dX3_parse_103 ?_
                refine pX3_18 E.1 h dX3_parse_104 (fun σ13 H locs eσ13 h => ?_)
                have hw := hw σ13 eσ13
                obtain ⟨y14, ey14⟩ : ∃ z : Int32, z = x2 + 1 := ⟨_, rfl⟩
                have hw := hw y14 ey14
                refine lv_iinc (v := y14) (lv' := [(2, .int y14), (3, .int r2), (0, .ref (q 3)), (1, .ref (q 1))]) hx hb dX3_parse_107 hl (k := 3) rfl (by rw [ey14]; rfl) (by decide) rfl (fun ls hl => ?_)
                refine lv_goto (tgt := 26) hx hb dX3_parse_110 (by decide) ?_
                exact ih _ _ _ _ _ h hw (lv_sub hl [2, 3, 0] rfl)
              · have hw := hw.2 c10
                refine lv_iconst (v := 2) hx hb dX3_parse_91 (by decide) ?_
                exact x_iret E.1 h hw dX3_parse_92
        · have hw := hw.1 c7
          refine lv_iconst (v := 1) hx hb dX3_parse_64 (by decide) ?_
          exact x_iret E.1 h hw dX3_parse_65
      · have hw := hw.1 c4
        refine lv_aload_n hx hb dX3_parse_43 rfl (lv_at hl 1 rfl) ?_
        refine gX3_25 E.1 h dX3_parse_44 ?_
        refine lv_if_ne (tgt := 54) hx hb dX3_parse_47 (by decide) (fun c15 => ?_) (fun c15 => ?_)
        · have hw := hw.2 c15
          refine lv_iconst (v := 1) hx hb dX3_parse_54 (by decide) ?_
          exact x_iret E.1 h hw dX3_parse_55
        · have hw := hw.1 c15
          refine lv_iconst (v := 0) hx hb dX3_parse_50 (by decide) ?_
          refine lv_goto (tgt := 55) hx hb dX3_parse_51 (by decide) ?_
          exact x_iret E.1 h hw dX3_parse_55

def wpC_X3_parse (σ : CS) (Post : Int32 → CS → Prop) : Prop := wpC_X9_rewind σ (fun σ1 => ∀ σ2 : CS, σ2 = cF σ1 62 0 → ∀ σ3 : CS, σ3 = cF σ2 63 0 → ∀ σ4 : CS, σ4 = cF σ3 64 0 → ∀ σ5 : CS, σ5 = cF σ4 66 0 → ∃ g, wpC_X3_parse_26 Post g σ5 0)
set_option maxHeartbeats 1000000 in
set_option maxRecDepth 20000 in
theorem cC_X3_parse {l : Launch} {D : va_G} {cy : Nat → ClassId} {ks : Nat × Nat × Option Nat} {q : Nat → Nat} {σ : CS} {sz : Nat} {Post : Int32 → CS → Prop} (hw : wpC_X3_parse σ Post) : Met l yX3_parse (Cond.code yX3_parse cX3_parse 4 (some .int) :: wsA) rC_X3_parse (zPc D cy ks (CW q cy σ) sz [.ref (q 3), .ref (q 1)]) (va_Qi Post (xB D cy (CW q cy) (va_A (CW q cy σ) sz)) (va_A (CW q cy σ) sz)) 0 0 (va_A (CW q cy σ) sz) := by
  refine z_enter (own := RX3) (WW := CW q cy) (by decide) rfl (Nat.le_of_ble_eq_true rfl) ?_
  intro p e s m below meth c ls E h hl
  have hx := E.1.1
  have hb := E.1.2.1
  have hl : lv_has ls 4 [(0, .ref (q 3)), (1, .ref (q 1))] := hl
  unfold wpC_X3_parse at hw
  refine lv_aload_n hx hb dX3_parse_0 rfl (lv_at hl 1 rfl) ?_
  refine x_callv h (z_runVN (WW := CW q cy) (rest := []) E h (cC_X9_rewind hw) yyX9_rewind lX3_34 1 rfl rfl ⟨Nat.le_of_ble_eq_true rfl, Nat.le_of_ble_eq_true rfl⟩ rfl rfl hl.1 rfl (Nat.le_of_ble_eq_true rfl) dX3_parse_1 ⟨Nat.le_refl 0, Nat.le_refl 0⟩) (fun σ1 H locs hw h => ?_)
  refine lv_aload_n hx hb dX3_parse_4 rfl (lv_at hl 0 rfl) ?_
  refine lv_iconst (v := 0) hx hb dX3_parse_5 (by decide) ?_
  refine pX3_18 E.1 h dX3_parse_6 (fun σ2 H locs eσ2 h => ?_)
  have hw := hw σ2 eσ2
  refine lv_aload_n hx hb dX3_parse_9 rfl (lv_at hl 0 rfl) ?_
  refine lv_iconst (v := 0) hx hb dX3_parse_10 (by decide) ?_
  refine pX3_22 E.1 h dX3_parse_11 (fun σ3 H locs eσ3 h => ?_)
  have hw := hw σ3 eσ3
  refine lv_aload_n hx hb dX3_parse_14 rfl (lv_at hl 0 rfl) ?_
  refine lv_iconst (v := 0) hx hb dX3_parse_15 (by decide) ?_
  refine pX3_25 E.1 h dX3_parse_16 (fun σ4 H locs eσ4 h => ?_)
  have hw := hw σ4 eσ4
  refine lv_aload_n hx hb dX3_parse_19 rfl (lv_at hl 0 rfl) ?_
  refine lv_iconst (v := 0) hx hb dX3_parse_20 (by decide) ?_
  refine pX3_31 E.1 h dX3_parse_21 (fun σ5 H locs eσ5 h => ?_)
  have hw := hw σ5 eσ5
  refine lv_iconst (v := 0) hx hb dX3_parse_24 (by decide) ?_
  refine lv_istore_n (lv' := [(2, .int 0), (0, .ref (q 3)), (1, .ref (q 1))]) hx hb dX3_parse_25 rfl hl (by decide) rfl (fun ls hl => ?_)
  obtain ⟨g, hw⟩ := hw
  exact wkC_X3_parse_26 E g _ _ _ _ _ h hw (lv_sub hl [1, 2, 0] rfl)

end CWalk
