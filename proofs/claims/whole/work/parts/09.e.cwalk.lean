section CWalk
variable {p : Program} {l : Launch} {e : Env} {s : State} {m : MethodId} {args : Array Value} {below : List Frame} {meth : Method} {c : Code} {D : va_G} {cy : Nat → ClassId} {ks : Nat × Nat × Option Nat} {q : Nat → Nat} {A : Nat → Prop}
abbrev rC_X4_breachFor : Room := { frames := 0, cells := 0, slots := 0, locals := 0 }
def wpC_X4_breachFor (σ : CS) (x1 : Int32) (x2 : Int32) (Post : Int32 → CS → Prop) : Prop := vp_in x1 10 ∧ ((σ.2.1 44 x1.toNatClampNeg) = (x2 + 1) → Post 9 σ) ∧ (¬ (σ.2.1 44 x1.toNatClampNeg) = (x2 + 1) → vp_in x1 10 ∧ ((σ.2.1 44 x1.toNatClampNeg) = (2 - x2) → Post 10 σ) ∧ (¬ (σ.2.1 44 x1.toNatClampNeg) = (2 - x2) → Post 11 σ))
set_option maxHeartbeats 1000000 in
set_option maxRecDepth 20000 in
theorem cC_X4_breachFor {l : Launch} {D : va_G} {cy : Nat → ClassId} {ks : Nat × Nat × Option Nat} {q : Nat → Nat} {σ : CS} {sz : Nat} {x1 : Int32} {x2 : Int32} {Post : Int32 → CS → Prop} (hw : wpC_X4_breachFor σ x1 x2 Post) : Met l yX4_breachFor (Cond.code yX4_breachFor cX4_breachFor 3 (some .int) :: wsA) rC_X4_breachFor (zPc D cy ks (CW q cy σ) sz [.ref (q 30), .int x1, .int x2]) (va_Qi Post (xB D cy (CW q cy) (va_A (CW q cy σ) sz)) (va_A (CW q cy σ) sz)) 0 0 (va_A (CW q cy σ) sz) := by
  refine z_enter (own := RX4) (WW := CW q cy) (by decide) rfl (Nat.le_of_ble_eq_true rfl) ?_
  intro p e s m below meth c ls E h hl
  have hx := E.1.1
  have hb := E.1.2.1
  have hl : lv_has ls 3 [(0, .ref (q 30)), (1, .int x1), (2, .int x2)] := hl
  unfold wpC_X4_breachFor at hw
  refine lv_aload_n hx hb dX4_breachFor_0 rfl (lv_at hl 0 rfl) ?_
  refine gX4_46 E.1 h dX4_breachFor_1 ?_
  refine lv_iload_n hx hb dX4_breachFor_4 rfl (lv_at hl 1 rfl) ?_
  have h1 := hw.1
  have hw := hw.2
  refine aC_44 E.1 h h1 dX4_breachFor_5 ?_
  refine lv_iload_n hx hb dX4_breachFor_6 rfl (lv_at hl 2 rfl) ?_
  refine lv_iconst (v := 1) hx hb dX4_breachFor_7 (by decide) ?_
  refine lv_iadd hx hb dX4_breachFor_8 ?_
  refine lv_icmp_ne (tgt := 15) hx hb dX4_breachFor_9 (by decide) (fun c2 => ?_) (fun c2 => ?_)
  · have hw := hw.2 c2
    refine lv_aload_n hx hb dX4_breachFor_15 rfl (lv_at hl 0 rfl) ?_
    refine gX4_46 E.1 h dX4_breachFor_16 ?_
    refine lv_iload_n hx hb dX4_breachFor_19 rfl (lv_at hl 1 rfl) ?_
    have h3 := hw.1
    have hw := hw.2
    refine aC_44 E.1 h h3 dX4_breachFor_20 ?_
    refine lv_iconst (v := 2) hx hb dX4_breachFor_21 (by decide) ?_
    refine lv_iload_n hx hb dX4_breachFor_22 rfl (lv_at hl 2 rfl) ?_
    refine lv_isub hx hb dX4_breachFor_23 ?_
    refine lv_icmp_ne (tgt := 32) hx hb dX4_breachFor_24 (by decide) (fun c4 => ?_) (fun c4 => ?_)
    · have hw := hw.2 c4
      refine lv_bipush (v := 11) hx hb dX4_breachFor_32 (by decide) ?_
      exact x_iret E.1 h hw dX4_breachFor_34
    · have hw := hw.1 c4
      refine lv_bipush (v := 10) hx hb dX4_breachFor_27 (by decide) ?_
      refine lv_goto (tgt := 34) hx hb dX4_breachFor_29 (by decide) ?_
      exact x_iret E.1 h hw dX4_breachFor_34
  · have hw := hw.1 c2
    refine lv_bipush (v := 9) hx hb dX4_breachFor_12 (by decide) ?_
    exact x_iret E.1 h hw dX4_breachFor_14

abbrev rC_X5_share : Room := { frames := 3, cells := 0, slots := 0, locals := 66 }
def wpC_X5_share_71 (Post : Int32 → CS → Prop) (σ : CS) (x3 : Int32) : Prop := ∀ y1 : Int32, y1 = (if x3 < 100 then x3 else 100) → ∀ y2 : Int32, y2 = (if 0 < y1 then y1 else 0) → Post y2 σ
set_option maxHeartbeats 1000000 in
set_option maxRecDepth 20000 in
theorem wkC_X5_share_71 {Post : Int32 → CS → Prop} (E : zE cX5_share RX5 5 (some .int) D cy ks A p s m args meth c) : ∀ (σ : CS) (x3 : Int32) (H : Heap) (locs : List Loc) (ls : Array Slot), xH D A s (CW q cy σ) H locs → wpC_X5_share_71 Post σ x3 → lv_has ls 5 [(3, .int x3)] → W p l e rC_X5_share s m args below meth c H locs 0 0 (MQ below (va_Qi Post (xB D cy (CW q cy) A) A) args s 0 0 A) (F0 m 71 ls []) := by
  have hx := E.1.1
  have hb := E.1.2.1
  intro σ x3 H locs ls h hw hl
  unfold wpC_X5_share_71 at hw
  refine lv_iconst (v := 0) hx hb dX5_share_71 (by decide) ?_
  refine lv_bipush (v := 100) hx hb dX5_share_72 (by decide) ?_
  refine lv_iload_n hx hb dX5_share_74 rfl (lv_at hl 0 rfl) ?_
  refine z_min E.1 hl.1 lX5_42 (Nat.le_of_ble_eq_true rfl) (Nat.le_of_ble_eq_true rfl) (Nat.le_refl 0) (Nat.le_refl 0) dX5_share_75 ?_
  refine lv_topi (fun y1 ey1 => ?_)
  have hw := hw y1 ey1
  refine z_max E.1 hl.1 lX5_48 (Nat.le_of_ble_eq_true rfl) (Nat.le_of_ble_eq_true rfl) (Nat.le_refl 0) (Nat.le_refl 0) dX5_share_78 ?_
  refine lv_topi (fun y2 ey2 => ?_)
  have hw := hw y2 ey2
  exact x_iret E.1 h hw dX5_share_81

def wpC_X5_share_2 (Post : Int32 → CS → Prop) : Nat → CS → Nat → Int32 → Prop
  | 0, _, _, _ => False
  | n + 1, σ, x0, x2 => x0 < σ.2.2.1 ∧ x0 < σ.2.2.1 ∧ ((Int32.ofNat (σ.2.2.2 x0).2.2.1) ≤ x2 → Post 0 σ) ∧ (¬ (Int32.ofNat (σ.2.2.2 x0).2.2.1) ≤ x2 → x0 < σ.2.2.1 ∧ x0 < σ.2.2.1 ∧ vp_in x2 (σ.2.2.2 x0).2.2.1 ∧ x0 < σ.2.2.1 ∧ wpC_X5_tokenAt σ x0 ((σ.2.2.2 x0).2.2.2 x2.toNatClampNeg) (fun r8 σ9 => (r8 = 10004 → x0 < σ9.2.2.1 ∧ x0 < σ9.2.2.1 ∧ vp_in x2 (σ9.2.2.2 x0).2.2.1 ∧ wpC_X8_valueOf σ9 x0 (((σ9.2.2.2 x0).2.2.2 x2.toNatClampNeg) + 1) (fun r15 σ16 => ∀ y17 : Int32, y17 = σ16.1 623 → x0 < σ16.2.2.1 ∧ wpC_X5_tokenAt σ16 x0 y17 (fun r19 σ20 => (r19 = 10005 → wpC_X8_holds σ20 x0 (y17 + 1) (fun r22 σ23 => (r22 = 0 → ∀ y25 : Int32, y25 = x2 + 1 → wpC_X5_share_2 Post n σ23 x0 y25) ∧ (¬ r22 = 0 → wpC_X5_share_71 Post σ23 r15))) ∧ (¬ r19 = 10005 → wpC_X5_share_71 Post σ20 r15)))) ∧ (¬ r8 = 10004 → ∀ y11 : Int32, y11 = x2 + 1 → wpC_X5_share_2 Post n σ9 x0 y11)))
set_option maxHeartbeats 1000000 in
set_option maxRecDepth 20000 in
theorem wkC_X5_share_2 {Post : Int32 → CS → Prop} (E : zE cX5_share RX5 5 (some .int) D cy ks A p s m args meth c) : ∀ n : Nat, ∀ (σ : CS) (x0 : Nat) (x2 : Int32) (H : Heap) (locs : List Loc) (ls : Array Slot), xH D A s (CW q cy σ) H locs → wpC_X5_share_2 Post n σ x0 x2 → lv_has ls 5 [(0, .ref (q (46 + 3 * x0))), (1, .ref (q 31)), (2, .int x2)] → W p l e rC_X5_share s m args below meth c H locs 0 0 (MQ below (va_Qi Post (xB D cy (CW q cy) A) A) args s 0 0 A) (F0 m 2 ls []) := by
  have hx := E.1.1
  have hb := E.1.2.1
  intro n
  induction n with
  | zero => intro σ x0 x2 H locs ls h hw hl; exact False.elim hw
  | succ n ih =>
    intro σ x0 x2 H locs ls h hw hl
    refine lv_iload_n hx hb dX5_share_2 rfl (lv_at hl 2 rfl) ?_
    refine lv_aload_n hx hb dX5_share_3 rfl (lv_at hl 0 rfl) ?_
    have h1 := hw.1
    have hw := hw.2
    refine gX5_22 E.1 h h1 dX5_share_4 ?_
    have h2 := hw.1
    have hw := hw.2
    refine nC_LR E.1 h h2 dX5_share_7 ?_
    refine lv_icmp_ge (tgt := 88) hx hb dX5_share_8 (by decide) (fun c3 => ?_) (fun c3 => ?_)
    · have hw := hw.1 c3
      refine lv_iconst (v := 0) hx hb dX5_share_88 (by decide) ?_
      exact x_iret E.1 h hw dX5_share_89
    · have hw := hw.2 c3
      refine lv_aload_n hx hb dX5_share_11 rfl (lv_at hl 0 rfl) ?_
      refine lv_aload_n hx hb dX5_share_12 rfl (lv_at hl 0 rfl) ?_
      have h4 := hw.1
      have hw := hw.2
      refine gX5_22 E.1 h h4 dX5_share_13 ?_
      refine lv_iload_n hx hb dX5_share_16 rfl (lv_at hl 2 rfl) ?_
      have h5 := hw.1
      have hw := hw.2
      have h6 := hw.1
      have hw := hw.2
      refine aC_LR E.1 h h5 h6 dX5_share_17 ?_
      have h7 := hw.1
      have hw := hw.2
      refine x_calli h (z_runV (WW := CW q cy) (rest := []) E h (cC_X5_tokenAt hw) yyX5_tokenAt lX5_25 (46 + 3 * x0) (cw_law h7) rfl ⟨Nat.le_of_ble_eq_true rfl, Nat.le_of_ble_eq_true rfl⟩ rfl rfl hl.1 rfl (Nat.le_of_ble_eq_true rfl) dX5_share_18 ⟨Nat.le_refl 0, Nat.le_refl 0⟩) (fun r8 σ9 H locs hw h => ?_)
      refine lv_sipush (v := 10004) hx hb dX5_share_21 (by decide) ?_
      refine lv_icmp_ne (tgt := 82) hx hb dX5_share_24 (by decide) (fun c10 => ?_) (fun c10 => ?_)
      · have hw := hw.2 c10
        obtain ⟨y11, ey11⟩ : ∃ z : Int32, z = x2 + 1 := ⟨_, rfl⟩
        have hw := hw y11 ey11
        refine lv_iinc (v := y11) (lv' := [(2, .int y11), (0, .ref (q (46 + 3 * x0))), (1, .ref (q 31))]) hx hb dX5_share_82 hl (k := 2) rfl (by rw [ey11]; rfl) (by decide) rfl (fun ls hl => ?_)
        refine lv_goto (tgt := 2) hx hb dX5_share_85 (by decide) ?_
        exact ih _ _ _ _ _ _ h hw (lv_sub hl [1, 2, 0] rfl)
      · have hw := hw.1 c10
        refine lv_aload_n hx hb dX5_share_27 rfl (lv_at hl 1 rfl) ?_
        refine lv_aload_n hx hb dX5_share_28 rfl (lv_at hl 0 rfl) ?_
        refine lv_aload_n hx hb dX5_share_29 rfl (lv_at hl 0 rfl) ?_
        have h12 := hw.1
        have hw := hw.2
        refine gX5_22 E.1 h h12 dX5_share_30 ?_
        refine lv_iload_n hx hb dX5_share_33 rfl (lv_at hl 2 rfl) ?_
        have h13 := hw.1
        have hw := hw.2
        have h14 := hw.1
        have hw := hw.2
        refine aC_LR E.1 h h13 h14 dX5_share_34 ?_
        refine lv_iconst (v := 1) hx hb dX5_share_35 (by decide) ?_
        refine lv_iadd hx hb dX5_share_36 ?_
        refine x_calli h (z_runVN (WW := CW q cy) (rest := []) E h (cC_X8_valueOf hw) yyX8_valueOf lX5_35 31 rfl rfl ⟨Nat.le_of_ble_eq_true rfl, Nat.le_of_ble_eq_true rfl⟩ rfl rfl hl.1 rfl (Nat.le_of_ble_eq_true rfl) dX5_share_37 ⟨Nat.le_refl 0, Nat.le_refl 0⟩) (fun r15 σ16 H locs hw h => ?_)
        refine lv_istore_n (lv' := [(3, .int r15), (0, .ref (q (46 + 3 * x0))), (1, .ref (q 31)), (2, .int x2)]) hx hb dX5_share_40 rfl hl (by decide) rfl (fun ls hl => ?_)
        refine lv_aload_n hx hb dX5_share_41 rfl (lv_at hl 2 rfl) ?_
        refine gX5_39 E.1 h dX5_share_42 ?_
        refine lv_topi (fun y17 ey17 => ?_)
        have hw := hw y17 ey17
        refine lv_istore (lv' := [(4, .int y17), (3, .int r15), (0, .ref (q (46 + 3 * x0))), (1, .ref (q 31)), (2, .int x2)]) hx hb dX5_share_45 hl (by decide) rfl (fun ls hl => ?_)
        refine lv_aload_n hx hb dX5_share_47 rfl (lv_at hl 2 rfl) ?_
        refine lv_iload hx hb dX5_share_48 (lv_at hl 0 rfl) ?_
        have h18 := hw.1
        have hw := hw.2
        refine x_calli h (z_runV (WW := CW q cy) (rest := []) E h (cC_X5_tokenAt hw) yyX5_tokenAt lX5_25 (46 + 3 * x0) (cw_law h18) rfl ⟨Nat.le_of_ble_eq_true rfl, Nat.le_of_ble_eq_true rfl⟩ rfl rfl hl.1 rfl (Nat.le_of_ble_eq_true rfl) dX5_share_50 ⟨Nat.le_refl 0, Nat.le_refl 0⟩) (fun r19 σ20 H locs hw h => ?_)
        refine lv_sipush (v := 10005) hx hb dX5_share_53 (by decide) ?_
        refine lv_icmp_ne (tgt := 71) hx hb dX5_share_56 (by decide) (fun c21 => ?_) (fun c21 => ?_)
        · have hw := hw.2 c21
          exact wkC_X5_share_71 E _ _ _ _ _ h hw (lv_sub hl [1] rfl)
        · have hw := hw.1 c21
          refine lv_aload_n hx hb dX5_share_59 rfl (lv_at hl 3 rfl) ?_
          refine lv_aload_n hx hb dX5_share_60 rfl (lv_at hl 2 rfl) ?_
          refine lv_iload hx hb dX5_share_61 (lv_at hl 0 rfl) ?_
          refine lv_iconst (v := 1) hx hb dX5_share_63 (by decide) ?_
          refine lv_iadd hx hb dX5_share_64 ?_
          refine x_calli h (z_runVN (WW := CW q cy) (rest := []) E h (cC_X8_holds hw) yyX8_holds lX5_29 31 rfl rfl ⟨Nat.le_of_ble_eq_true rfl, Nat.le_of_ble_eq_true rfl⟩ rfl rfl hl.1 rfl (Nat.le_of_ble_eq_true rfl) dX5_share_65 ⟨Nat.le_refl 0, Nat.le_refl 0⟩) (fun r22 σ23 H locs hw h => ?_)
          refine lv_if_eq (tgt := 82) hx hb dX5_share_68 (by decide) (fun c24 => ?_) (fun c24 => ?_)
          · have hw := hw.1 c24
            obtain ⟨y25, ey25⟩ : ∃ z : Int32, z = x2 + 1 := ⟨_, rfl⟩
            have hw := hw y25 ey25
            refine lv_iinc (v := y25) (lv' := [(2, .int y25), (4, .int y17), (3, .int r15), (0, .ref (q (46 + 3 * x0))), (1, .ref (q 31))]) hx hb dX5_share_82 hl (k := 4) rfl (by rw [ey25]; rfl) (by decide) rfl (fun ls hl => ?_)
            refine lv_goto (tgt := 2) hx hb dX5_share_85 (by decide) ?_
            exact ih _ _ _ _ _ _ h hw (lv_sub hl [3, 4, 0] rfl)
          · have hw := hw.2 c24
            exact wkC_X5_share_71 E _ _ _ _ _ h hw (lv_sub hl [1] rfl)

def wpC_X5_share (σ : CS) (x0 : Nat) (Post : Int32 → CS → Prop) : Prop := ∃ g, wpC_X5_share_2 Post g σ x0 0
set_option maxHeartbeats 1000000 in
set_option maxRecDepth 20000 in
theorem cC_X5_share {l : Launch} {D : va_G} {cy : Nat → ClassId} {ks : Nat × Nat × Option Nat} {q : Nat → Nat} {σ : CS} {sz : Nat} {x0 : Nat} {Post : Int32 → CS → Prop} (hw : wpC_X5_share σ x0 Post) : Met l yX5_share (Cond.code yX5_share cX5_share 5 (some .int) :: wsA) rC_X5_share (zPc D cy ks (CW q cy σ) sz [.ref (q (46 + 3 * x0)), .ref (q 31)]) (va_Qi Post (xB D cy (CW q cy) (va_A (CW q cy σ) sz)) (va_A (CW q cy σ) sz)) 0 0 (va_A (CW q cy σ) sz) := by
  refine z_enter (own := RX5) (WW := CW q cy) (by decide) rfl (Nat.le_of_ble_eq_true rfl) ?_
  intro p e s m below meth c ls E h hl
  have hx := E.1.1
  have hb := E.1.2.1
  have hl : lv_has ls 5 [(0, .ref (q (46 + 3 * x0))), (1, .ref (q 31))] := hl
  unfold wpC_X5_share at hw
  refine lv_iconst (v := 0) hx hb dX5_share_0 (by decide) ?_
  refine lv_istore_n (lv' := [(2, .int 0), (0, .ref (q (46 + 3 * x0))), (1, .ref (q 31))]) hx hb dX5_share_1 rfl hl (by decide) rfl (fun ls hl => ?_)
  obtain ⟨g, hw⟩ := hw
  exact wkC_X5_share_2 E g _ _ _ _ _ _ h hw (lv_sub hl [1, 2, 0] rfl)

abbrev rC_X4_shareBack : Room := { frames := 4, cells := 0, slots := 0, locals := 90 }
def wpC_X4_shareBack_109 (Post : Int32 → CS → Prop) (σ : CS) (x1 : Int32) (t1 : Int32) (t2 : Int32) : Prop := vp_in t1 12 ∧ ∀ σ1 : CS, σ1 = cA σ 32 (upd (σ.2.1 32) t1.toNatClampNeg t2) → wpC_X4_lawOf σ1 x1 (fun r3 σ4 => r3 < σ4.2.2.1 ∧ wpC_X5_share σ4 r3 (fun r6 σ7 => Post r6 σ7))
set_option maxHeartbeats 1000000 in
set_option maxRecDepth 20000 in
theorem wkC_X4_shareBack_109 {Post : Int32 → CS → Prop} (E : zE cX4_shareBack RX4 5 (some .int) D cy ks A p s m args meth c) : ∀ (σ : CS) (x1 : Int32) (t1 : Int32) (t2 : Int32) (H : Heap) (locs : List Loc) (ls : Array Slot), xH D A s (CW q cy σ) H locs → wpC_X4_shareBack_109 Post σ x1 t1 t2 → lv_has ls 5 [(0, .ref (q 30)), (1, .int x1)] → W p l e rC_X4_shareBack s m args below meth c H locs 0 0 (MQ below (va_Qi Post (xB D cy (CW q cy) A) A) args s 0 0 A) (F0 m 109 ls [.int t2, .int t1, .ref (q 32)]) := by
  have hx := E.1.1
  have hb := E.1.2.1
  intro σ x1 t1 t2 H locs ls h hw hl
  unfold wpC_X4_shareBack_109 at hw
  have h2 := hw.1
  have hw := hw.2
  refine sC_32 E.1 h h2 dX4_shareBack_109 (fun σ1 H locs eσ1 h => ?_)
  have hw := hw σ1 eσ1
  refine lv_aload_n hx hb dX4_shareBack_110 rfl (lv_at hl 0 rfl) ?_
  refine lv_iload_n hx hb dX4_shareBack_111 rfl (lv_at hl 1 rfl) ?_
  refine z_callr (at0 := fun r => q (46 + 3 * r)) h (z_runV (WW := CW q cy) (rest := []) E h (cC_X4_lawOf hw) yyX4_lawOf lX4_106 30 rfl rfl ⟨Nat.le_of_ble_eq_true rfl, Nat.le_of_ble_eq_true rfl⟩ rfl rfl hl.1 rfl (Nat.le_of_ble_eq_true rfl) dX4_shareBack_112 ⟨Nat.le_refl 0, Nat.le_refl 0⟩) (fun r3 σ4 H locs hw h => ?_)
  refine lv_aload_n hx hb dX4_shareBack_115 rfl (lv_at hl 0 rfl) ?_
  refine gX4_12 E.1 h dX4_shareBack_116 ?_
  have h5 := hw.1
  have hw := hw.2
  refine x_calli h (z_runVN (WW := CW q cy) (rest := []) E h (cC_X5_share hw) yyX5_share lX4_110 (46 + 3 * r3) (cw_law h5) rfl ⟨Nat.le_of_ble_eq_true rfl, Nat.le_of_ble_eq_true rfl⟩ rfl rfl hl.1 rfl (Nat.le_of_ble_eq_true rfl) dX4_shareBack_119 ⟨Nat.le_refl 0, Nat.le_refl 0⟩) (fun r6 σ7 H locs hw h => ?_)
  exact x_iret E.1 h hw dX4_shareBack_122

def wpC_X4_shareBack_57 (Post : Int32 → CS → Prop) (σ : CS) (x1 : Int32) (x4 : Int32) (t1 : Int32) (t2 : Int32) : Prop := vp_in t1 12 ∧ ∀ σ1 : CS, σ1 = cA σ 32 (upd (σ.2.1 32) t1.toNatClampNeg t2) → vp_in x1 10 ∧ vp_in 4 12 ∧ ∀ σ4 : CS, σ4 = cA σ1 32 (upd (σ1.2.1 32) (4 : Int32).toNatClampNeg (σ1.2.1 19 x1.toNatClampNeg)) → (x4 ≤ 6 → wpC_X4_shareBack_109 Post σ4 x1 11 0) ∧ (¬ x4 ≤ 6 → vp_in x1 10 ∧ vp_in x1 10 ∧ wpC_X4_shareBack_109 Post σ4 x1 11 ((σ4.2.1 41 x1.toNatClampNeg) - (σ4.2.1 37 x1.toNatClampNeg)))
set_option maxHeartbeats 1000000 in
set_option maxRecDepth 20000 in
theorem wkC_X4_shareBack_57 {Post : Int32 → CS → Prop} (E : zE cX4_shareBack RX4 5 (some .int) D cy ks A p s m args meth c) : ∀ (σ : CS) (x1 : Int32) (x4 : Int32) (t1 : Int32) (t2 : Int32) (H : Heap) (locs : List Loc) (ls : Array Slot), xH D A s (CW q cy σ) H locs → wpC_X4_shareBack_57 Post σ x1 x4 t1 t2 → lv_has ls 5 [(0, .ref (q 30)), (1, .int x1), (4, .int x4)] → W p l e rC_X4_shareBack s m args below meth c H locs 0 0 (MQ below (va_Qi Post (xB D cy (CW q cy) A) A) args s 0 0 A) (F0 m 57 ls [.int t2, .int t1, .ref (q 32)]) := by
  have hx := E.1.1
  have hb := E.1.2.1
  intro σ x1 x4 t1 t2 H locs ls h hw hl
  unfold wpC_X4_shareBack_57 at hw
  have h2 := hw.1
  have hw := hw.2
  refine sC_32 E.1 h h2 dX4_shareBack_57 (fun σ1 H locs eσ1 h => ?_)
  have hw := hw σ1 eσ1
  refine lv_aload_n hx hb dX4_shareBack_58 rfl (lv_at hl 0 rfl) ?_
  refine gX4_12 E.1 h dX4_shareBack_59 ?_
  refine gX4_97 E.1 h dX4_shareBack_62 ?_
  refine lv_iconst (v := 4) hx hb dX4_shareBack_65 (by decide) ?_
  refine lv_aload_n hx hb dX4_shareBack_66 rfl (lv_at hl 0 rfl) ?_
  refine gX4_57 E.1 h dX4_shareBack_67 ?_
  refine gX4_103 E.1 h dX4_shareBack_70 ?_
  refine lv_iload_n hx hb dX4_shareBack_73 rfl (lv_at hl 1 rfl) ?_
  have h3 := hw.1
  have hw := hw.2
  refine aC_19 E.1 h h3 dX4_shareBack_74 ?_
  have h5 := hw.1
  have hw := hw.2
  refine sC_32 E.1 h h5 dX4_shareBack_75 (fun σ4 H locs eσ4 h => ?_)
  have hw := hw σ4 eσ4
  refine lv_aload_n hx hb dX4_shareBack_76 rfl (lv_at hl 0 rfl) ?_
  refine gX4_12 E.1 h dX4_shareBack_77 ?_
  refine gX4_97 E.1 h dX4_shareBack_80 ?_
  refine lv_bipush (v := 11) hx hb dX4_shareBack_83 (by decide) ?_
  refine lv_iload hx hb dX4_shareBack_85 (lv_at hl 2 rfl) ?_
  refine lv_bipush (v := 6) hx hb dX4_shareBack_87 (by decide) ?_
  refine lv_icmp_le (tgt := 108) hx hb dX4_shareBack_89 (by decide) (fun c6 => ?_) (fun c6 => ?_)
  · have hw := hw.1 c6
    refine lv_iconst (v := 0) hx hb dX4_shareBack_108 (by decide) ?_
    exact wkC_X4_shareBack_109 E _ _ _ _ _ _ _ h hw (lv_sub hl [0, 1] rfl)
  · have hw := hw.2 c6
    refine lv_aload_n hx hb dX4_shareBack_92 rfl (lv_at hl 0 rfl) ?_
    refine gX4_37 E.1 h dX4_shareBack_93 ?_
    refine lv_iload_n hx hb dX4_shareBack_96 rfl (lv_at hl 1 rfl) ?_
    have h7 := hw.1
    have hw := hw.2
    refine aC_41 E.1 h h7 dX4_shareBack_97 ?_
    refine lv_aload_n hx hb dX4_shareBack_98 rfl (lv_at hl 0 rfl) ?_
    refine gX4_25 E.1 h dX4_shareBack_99 ?_
    refine lv_iload_n hx hb dX4_shareBack_102 rfl (lv_at hl 1 rfl) ?_
    have h8 := hw.1
    have hw := hw.2
    refine aC_37 E.1 h h8 dX4_shareBack_103 ?_
    refine lv_isub hx hb dX4_shareBack_104 ?_
    refine lv_goto (tgt := 109) hx hb dX4_shareBack_105 (by decide) ?_
    exact wkC_X4_shareBack_109 E _ _ _ _ _ _ _ h hw (lv_sub hl [0, 1] rfl)

def wpC_X4_shareBack (σ : CS) (x1 : Int32) (x2 : Int32) (x3 : Int32) (Post : Int32 → CS → Prop) : Prop := wpC_X4_stateOn σ x1 x3 (fun r1 σ2 => (r1 < 3 → Post 0 σ2) ∧ (¬ r1 < 3 → (r1 = 6 → Post 0 σ2) ∧ (¬ r1 = 6 → wpC_X8_clear σ2 (fun σ5 => (r1 = 9 → wpC_X4_breachFor σ5 x1 x2 (fun r7 σ8 => wpC_X4_shareBack_57 Post σ8 x1 r1 10 r7)) ∧ (¬ r1 = 9 → wpC_X4_shareBack_57 Post σ5 x1 r1 10 r1)))))
set_option maxHeartbeats 1000000 in
set_option maxRecDepth 20000 in
theorem cC_X4_shareBack {l : Launch} {D : va_G} {cy : Nat → ClassId} {ks : Nat × Nat × Option Nat} {q : Nat → Nat} {σ : CS} {sz : Nat} {x1 : Int32} {x2 : Int32} {x3 : Int32} {Post : Int32 → CS → Prop} (hw : wpC_X4_shareBack σ x1 x2 x3 Post) : Met l yX4_shareBack (Cond.code yX4_shareBack cX4_shareBack 5 (some .int) :: wsA) rC_X4_shareBack (zPc D cy ks (CW q cy σ) sz [.ref (q 30), .int x1, .int x2, .int x3]) (va_Qi Post (xB D cy (CW q cy) (va_A (CW q cy σ) sz)) (va_A (CW q cy σ) sz)) 0 0 (va_A (CW q cy σ) sz) := by
  refine z_enter (own := RX4) (WW := CW q cy) (by decide) rfl (Nat.le_of_ble_eq_true rfl) ?_
  intro p e s m below meth c ls E h hl
  have hx := E.1.1
  have hb := E.1.2.1
  have hl : lv_has ls 5 [(0, .ref (q 30)), (1, .int x1), (2, .int x2), (3, .int x3)] := hl
  unfold wpC_X4_shareBack at hw
  refine lv_aload_n hx hb dX4_shareBack_0 rfl (lv_at hl 0 rfl) ?_
  refine lv_iload_n hx hb dX4_shareBack_1 rfl (lv_at hl 1 rfl) ?_
  refine lv_iload_n hx hb dX4_shareBack_2 rfl (lv_at hl 3 rfl) ?_
  refine x_calli h (z_runV (WW := CW q cy) (rest := []) E h (cC_X4_stateOn hw) yyX4_stateOn lX4_90 30 rfl rfl ⟨Nat.le_of_ble_eq_true rfl, Nat.le_of_ble_eq_true rfl⟩ rfl rfl hl.1 rfl (Nat.le_of_ble_eq_true rfl) dX4_shareBack_3 ⟨Nat.le_refl 0, Nat.le_refl 0⟩) (fun r1 σ2 H locs hw h => ?_)
  refine lv_istore (lv' := [(4, .int r1), (0, .ref (q 30)), (1, .int x1), (2, .int x2), (3, .int x3)]) hx hb dX4_shareBack_6 hl (by decide) rfl (fun ls hl => ?_)
  refine lv_iload hx hb dX4_shareBack_8 (lv_at hl 0 rfl) ?_
  refine lv_iconst (v := 3) hx hb dX4_shareBack_10 (by decide) ?_
  refine lv_icmp_lt (tgt := 21) hx hb dX4_shareBack_11 (by decide) (fun c3 => ?_) (fun c3 => ?_)
  · have hw := hw.1 c3
    refine lv_iconst (v := 0) hx hb dX4_shareBack_21 (by decide) ?_
    exact x_iret E.1 h hw dX4_shareBack_22
  · have hw := hw.2 c3
    refine lv_iload hx hb dX4_shareBack_14 (lv_at hl 0 rfl) ?_
    refine lv_bipush (v := 6) hx hb dX4_shareBack_16 (by decide) ?_
    refine lv_icmp_ne (tgt := 23) hx hb dX4_shareBack_18 (by decide) (fun c4 => ?_) (fun c4 => ?_)
    · have hw := hw.2 c4
      refine lv_aload_n hx hb dX4_shareBack_23 rfl (lv_at hl 1 rfl) ?_
      refine gX4_12 E.1 h dX4_shareBack_24 ?_
      refine x_callv h (z_runVN (WW := CW q cy) (rest := []) E h (cC_X8_clear hw) yyX8_clear lX4_94 31 rfl rfl ⟨Nat.le_of_ble_eq_true rfl, Nat.le_of_ble_eq_true rfl⟩ rfl rfl hl.1 rfl (Nat.le_of_ble_eq_true rfl) dX4_shareBack_27 ⟨Nat.le_refl 0, Nat.le_refl 0⟩) (fun σ5 H locs hw h => ?_)
      refine lv_aload_n hx hb dX4_shareBack_30 rfl (lv_at hl 1 rfl) ?_
      refine gX4_12 E.1 h dX4_shareBack_31 ?_
      refine gX4_97 E.1 h dX4_shareBack_34 ?_
      refine lv_bipush (v := 10) hx hb dX4_shareBack_37 (by decide) ?_
      refine lv_iload hx hb dX4_shareBack_39 (lv_at hl 0 rfl) ?_
      refine lv_bipush (v := 9) hx hb dX4_shareBack_41 (by decide) ?_
      refine lv_icmp_ne (tgt := 55) hx hb dX4_shareBack_43 (by decide) (fun c6 => ?_) (fun c6 => ?_)
      · have hw := hw.2 c6
        refine lv_iload hx hb dX4_shareBack_55 (lv_at hl 0 rfl) ?_
        exact wkC_X4_shareBack_57 E _ _ _ _ _ _ _ _ h hw (lv_sub hl [1, 2, 0] rfl)
      · have hw := hw.1 c6
        refine lv_aload_n hx hb dX4_shareBack_46 rfl (lv_at hl 1 rfl) ?_
        refine lv_iload_n hx hb dX4_shareBack_47 rfl (lv_at hl 2 rfl) ?_
        refine lv_iload_n hx hb dX4_shareBack_48 rfl (lv_at hl 3 rfl) ?_
        refine x_calli h (z_runV (WW := CW q cy) (rest := [.int 10, .ref (q 32)]) E h (cC_X4_breachFor hw) yyX4_breachFor lX4_100 30 rfl rfl ⟨Nat.le_of_ble_eq_true rfl, Nat.le_of_ble_eq_true rfl⟩ rfl rfl hl.1 rfl (Nat.le_of_ble_eq_true rfl) dX4_shareBack_49 ⟨Nat.le_refl 0, Nat.le_refl 0⟩) (fun r7 σ8 H locs hw h => ?_)
        refine lv_goto (tgt := 57) hx hb dX4_shareBack_52 (by decide) ?_
        exact wkC_X4_shareBack_57 E _ _ _ _ _ _ _ _ h hw (lv_sub hl [1, 2, 0] rfl)
    · have hw := hw.1 c4
      refine lv_iconst (v := 0) hx hb dX4_shareBack_21 (by decide) ?_
      exact x_iret E.1 h hw dX4_shareBack_22

abbrev rC_X7_add : Room := { frames := 0, cells := 0, slots := 0, locals := 0 }
def wpC_X7_add (σ : CS) (x1 : Int32) (x2 : Int32) (x3 : Int32) (x4 : Int32) (x5 : Int32) (x6 : Int32) (Post : Int32 → CS → Prop) : Prop := ((σ.1 286) < 10 → vp_in (σ.1 286) 10 ∧ ∀ σ2 : CS, σ2 = cA σ 15 (upd (σ.2.1 15) (σ.1 286).toNatClampNeg x1) → vp_in (σ2.1 286) 10 ∧ ∀ σ4 : CS, σ4 = cA σ2 16 (upd (σ2.2.1 16) (σ2.1 286).toNatClampNeg x2) → vp_in (σ4.1 286) 10 ∧ ∀ σ6 : CS, σ6 = cA σ4 17 (upd (σ4.2.1 17) (σ4.1 286).toNatClampNeg x3) → vp_in (σ6.1 286) 10 ∧ ∀ σ8 : CS, σ8 = cA σ6 18 (upd (σ6.2.1 18) (σ6.1 286).toNatClampNeg x4) → vp_in (σ8.1 286) 10 ∧ ∀ σ10 : CS, σ10 = cA σ8 19 (upd (σ8.2.1 19) (σ8.1 286).toNatClampNeg x5) → vp_in (σ10.1 286) 10 ∧ ∀ σ12 : CS, σ12 = cA σ10 20 (upd (σ10.2.1 20) (σ10.1 286).toNatClampNeg x6) → ∀ σ14 : CS, σ14 = cF σ12 286 ((σ12.1 286) + 1) → Post ((σ14.1 286) - 1) σ14) ∧ (¬ (σ.1 286) < 10 → Post ((-1)) σ)
set_option maxHeartbeats 1000000 in
set_option maxRecDepth 20000 in
theorem cC_X7_add {l : Launch} {D : va_G} {cy : Nat → ClassId} {ks : Nat × Nat × Option Nat} {q : Nat → Nat} {σ : CS} {sz : Nat} {x1 : Int32} {x2 : Int32} {x3 : Int32} {x4 : Int32} {x5 : Int32} {x6 : Int32} {Post : Int32 → CS → Prop} (hw : wpC_X7_add σ x1 x2 x3 x4 x5 x6 Post) : Met l yX7_add (Cond.code yX7_add cX7_add 7 (some .int) :: wsA) rC_X7_add (zPc D cy ks (CW q cy σ) sz [.ref (q 14), .int x1, .int x2, .int x3, .int x4, .int x5, .int x6]) (va_Qi Post (xB D cy (CW q cy) (va_A (CW q cy σ) sz)) (va_A (CW q cy σ) sz)) 0 0 (va_A (CW q cy σ) sz) := by
  refine z_enter (own := RX7) (WW := CW q cy) (by decide) rfl (Nat.le_of_ble_eq_true rfl) ?_
  intro p e s m below meth c ls E h hl
  have hx := E.1.1
  have hb := E.1.2.1
  have hl : lv_has ls 7 [(0, .ref (q 14)), (1, .int x1), (2, .int x2), (3, .int x3), (4, .int x4), (5, .int x5), (6, .int x6)] := hl
  unfold wpC_X7_add at hw
  refine lv_aload_n hx hb dX7_add_0 rfl (lv_at hl 0 rfl) ?_
  refine gX7_30 E.1 h dX7_add_1 ?_
  refine lv_bipush (v := 10) hx hb dX7_add_4 (by decide) ?_
  refine lv_icmp_lt (tgt := 11) hx hb dX7_add_6 (by decide) (fun c1 => ?_) (fun c1 => ?_)
  · have hw := hw.1 c1
    refine lv_aload_n hx hb dX7_add_11 rfl (lv_at hl 0 rfl) ?_
    refine gX7_9 E.1 h dX7_add_12 ?_
    refine lv_aload_n hx hb dX7_add_15 rfl (lv_at hl 0 rfl) ?_
    refine gX7_30 E.1 h dX7_add_16 ?_
    refine lv_iload_n hx hb dX7_add_19 rfl (lv_at hl 1 rfl) ?_
    have h3 := hw.1
    have hw := hw.2
    refine sC_15 E.1 h h3 dX7_add_20 (fun σ2 H locs eσ2 h => ?_)
    have hw := hw σ2 eσ2
    refine lv_aload_n hx hb dX7_add_21 rfl (lv_at hl 0 rfl) ?_
    refine gX7_15 E.1 h dX7_add_22 ?_
    refine lv_aload_n hx hb dX7_add_25 rfl (lv_at hl 0 rfl) ?_
    refine gX7_30 E.1 h dX7_add_26 ?_
    refine lv_iload_n hx hb dX7_add_29 rfl (lv_at hl 2 rfl) ?_
    have h5 := hw.1
    have hw := hw.2
    refine sC_16 E.1 h h5 dX7_add_30 (fun σ4 H locs eσ4 h => ?_)
    have hw := hw σ4 eσ4
    refine lv_aload_n hx hb dX7_add_31 rfl (lv_at hl 0 rfl) ?_
    refine gX7_18 E.1 h dX7_add_32 ?_
    refine lv_aload_n hx hb dX7_add_35 rfl (lv_at hl 0 rfl) ?_
    refine gX7_30 E.1 h dX7_add_36 ?_
    refine lv_iload_n hx hb dX7_add_39 rfl (lv_at hl 3 rfl) ?_
    have h7 := hw.1
    have hw := hw.2
    refine sC_17 E.1 h h7 dX7_add_40 (fun σ6 H locs eσ6 h => ?_)
    have hw := hw σ6 eσ6
    refine lv_aload_n hx hb dX7_add_41 rfl (lv_at hl 0 rfl) ?_
    refine gX7_21 E.1 h dX7_add_42 ?_
    refine lv_aload_n hx hb dX7_add_45 rfl (lv_at hl 0 rfl) ?_
    refine gX7_30 E.1 h dX7_add_46 ?_
    refine lv_iload hx hb dX7_add_49 (lv_at hl 4 rfl) ?_
    have h9 := hw.1
    have hw := hw.2
    refine sC_18 E.1 h h9 dX7_add_51 (fun σ8 H locs eσ8 h => ?_)
    have hw := hw σ8 eσ8
    refine lv_aload_n hx hb dX7_add_52 rfl (lv_at hl 0 rfl) ?_
    refine gX7_24 E.1 h dX7_add_53 ?_
    refine lv_aload_n hx hb dX7_add_56 rfl (lv_at hl 0 rfl) ?_
    refine gX7_30 E.1 h dX7_add_57 ?_
    refine lv_iload hx hb dX7_add_60 (lv_at hl 5 rfl) ?_
    have h11 := hw.1
    have hw := hw.2
    refine sC_19 E.1 h h11 dX7_add_62 (fun σ10 H locs eσ10 h => ?_)
    have hw := hw σ10 eσ10
    refine lv_aload_n hx hb dX7_add_63 rfl (lv_at hl 0 rfl) ?_
    refine gX7_27 E.1 h dX7_add_64 ?_
    refine lv_aload_n hx hb dX7_add_67 rfl (lv_at hl 0 rfl) ?_
    refine gX7_30 E.1 h dX7_add_68 ?_
    refine lv_iload hx hb dX7_add_71 (lv_at hl 6 rfl) ?_
    have h13 := hw.1
    have hw := hw.2
    refine sC_20 E.1 h h13 dX7_add_73 (fun σ12 H locs eσ12 h => ?_)
    have hw := hw σ12 eσ12
    refine lv_aload_n hx hb dX7_add_74 rfl (lv_at hl 0 rfl) ?_
    refine lv_dup hx hb dX7_add_75 rfl ?_
    refine gX7_30 E.1 h dX7_add_76 ?_
    refine lv_iconst (v := 1) hx hb dX7_add_79 (by decide) ?_
    refine lv_iadd hx hb dX7_add_80 ?_
    refine pX7_30 E.1 h dX7_add_81 (fun σ14 H locs eσ14 h => ?_)
    have hw := hw σ14 eσ14
    refine lv_aload_n hx hb dX7_add_84 rfl (lv_at hl 0 rfl) ?_
    refine gX7_30 E.1 h dX7_add_85 ?_
    refine lv_iconst (v := 1) hx hb dX7_add_88 (by decide) ?_
    refine lv_isub hx hb dX7_add_89 ?_
    exact x_iret E.1 h hw dX7_add_90
  · have hw := hw.2 c1
    refine lv_iconst (v := (-1)) hx hb dX7_add_9 (by decide) ?_
    exact x_iret E.1 h hw dX7_add_10

abbrev rC_X7_otherOf : Room := { frames := 0, cells := 0, slots := 0, locals := 0 }
def wpC_X7_otherOf (σ : CS) (x1 : Int32) (x2 : Int32) (Post : Int32 → CS → Prop) : Prop := vp_in x1 10 ∧ ((σ.2.1 15 x1.toNatClampNeg) = x2 → vp_in x1 10 ∧ Post (σ.2.1 16 x1.toNatClampNeg) σ) ∧ (¬ (σ.2.1 15 x1.toNatClampNeg) = x2 → vp_in x1 10 ∧ Post (σ.2.1 15 x1.toNatClampNeg) σ)
set_option maxHeartbeats 1000000 in
set_option maxRecDepth 20000 in
theorem cC_X7_otherOf {l : Launch} {D : va_G} {cy : Nat → ClassId} {ks : Nat × Nat × Option Nat} {q : Nat → Nat} {σ : CS} {sz : Nat} {x1 : Int32} {x2 : Int32} {Post : Int32 → CS → Prop} (hw : wpC_X7_otherOf σ x1 x2 Post) : Met l yX7_otherOf (Cond.code yX7_otherOf cX7_otherOf 3 (some .int) :: wsA) rC_X7_otherOf (zPc D cy ks (CW q cy σ) sz [.ref (q 14), .int x1, .int x2]) (va_Qi Post (xB D cy (CW q cy) (va_A (CW q cy σ) sz)) (va_A (CW q cy σ) sz)) 0 0 (va_A (CW q cy σ) sz) := by
  refine z_enter (own := RX7) (WW := CW q cy) (by decide) rfl (Nat.le_of_ble_eq_true rfl) ?_
  intro p e s m below meth c ls E h hl
  have hx := E.1.1
  have hb := E.1.2.1
  have hl : lv_has ls 3 [(0, .ref (q 14)), (1, .int x1), (2, .int x2)] := hl
  unfold wpC_X7_otherOf at hw
  refine lv_aload_n hx hb dX7_otherOf_0 rfl (lv_at hl 0 rfl) ?_
  refine gX7_9 E.1 h dX7_otherOf_1 ?_
  refine lv_iload_n hx hb dX7_otherOf_4 rfl (lv_at hl 1 rfl) ?_
  have h1 := hw.1
  have hw := hw.2
  refine aC_15 E.1 h h1 dX7_otherOf_5 ?_
  refine lv_iload_n hx hb dX7_otherOf_6 rfl (lv_at hl 2 rfl) ?_
  refine lv_icmp_ne (tgt := 19) hx hb dX7_otherOf_7 (by decide) (fun c2 => ?_) (fun c2 => ?_)
  · have hw := hw.2 c2
    refine lv_aload_n hx hb dX7_otherOf_19 rfl (lv_at hl 0 rfl) ?_
    refine gX7_9 E.1 h dX7_otherOf_20 ?_
    refine lv_iload_n hx hb dX7_otherOf_23 rfl (lv_at hl 1 rfl) ?_
    have h3 := hw.1
    have hw := hw.2
    refine aC_15 E.1 h h3 dX7_otherOf_24 ?_
    exact x_iret E.1 h hw dX7_otherOf_25
  · have hw := hw.1 c2
    refine lv_aload_n hx hb dX7_otherOf_10 rfl (lv_at hl 0 rfl) ?_
    refine gX7_15 E.1 h dX7_otherOf_11 ?_
    refine lv_iload_n hx hb dX7_otherOf_14 rfl (lv_at hl 1 rfl) ?_
    have h4 := hw.1
    have hw := hw.2
    refine aC_16 E.1 h h4 dX7_otherOf_15 ?_
    refine lv_goto (tgt := 25) hx hb dX7_otherOf_16 (by decide) ?_
    exact x_iret E.1 h hw dX7_otherOf_25

abbrev rC_X7_sideOf : Room := { frames := 0, cells := 0, slots := 0, locals := 0 }
def wpC_X7_sideOf (σ : CS) (x1 : Int32) (x2 : Int32) (Post : Int32 → CS → Prop) : Prop := vp_in x1 10 ∧ ((σ.2.1 15 x1.toNatClampNeg) = x2 → Post 0 σ) ∧ (¬ (σ.2.1 15 x1.toNatClampNeg) = x2 → Post 1 σ)
set_option maxHeartbeats 1000000 in
set_option maxRecDepth 20000 in
theorem cC_X7_sideOf {l : Launch} {D : va_G} {cy : Nat → ClassId} {ks : Nat × Nat × Option Nat} {q : Nat → Nat} {σ : CS} {sz : Nat} {x1 : Int32} {x2 : Int32} {Post : Int32 → CS → Prop} (hw : wpC_X7_sideOf σ x1 x2 Post) : Met l yX7_sideOf (Cond.code yX7_sideOf cX7_sideOf 3 (some .int) :: wsA) rC_X7_sideOf (zPc D cy ks (CW q cy σ) sz [.ref (q 14), .int x1, .int x2]) (va_Qi Post (xB D cy (CW q cy) (va_A (CW q cy σ) sz)) (va_A (CW q cy σ) sz)) 0 0 (va_A (CW q cy σ) sz) := by
  refine z_enter (own := RX7) (WW := CW q cy) (by decide) rfl (Nat.le_of_ble_eq_true rfl) ?_
  intro p e s m below meth c ls E h hl
  have hx := E.1.1
  have hb := E.1.2.1
  have hl : lv_has ls 3 [(0, .ref (q 14)), (1, .int x1), (2, .int x2)] := hl
  unfold wpC_X7_sideOf at hw
  refine lv_aload_n hx hb dX7_sideOf_0 rfl (lv_at hl 0 rfl) ?_
  refine gX7_9 E.1 h dX7_sideOf_1 ?_
  refine lv_iload_n hx hb dX7_sideOf_4 rfl (lv_at hl 1 rfl) ?_
  have h1 := hw.1
  have hw := hw.2
  refine aC_15 E.1 h h1 dX7_sideOf_5 ?_
  refine lv_iload_n hx hb dX7_sideOf_6 rfl (lv_at hl 2 rfl) ?_
  refine lv_icmp_ne (tgt := 14) hx hb dX7_sideOf_7 (by decide) (fun c2 => ?_) (fun c2 => ?_)
  · have hw := hw.2 c2
    refine lv_iconst (v := 1) hx hb dX7_sideOf_14 (by decide) ?_
    exact x_iret E.1 h hw dX7_sideOf_15
  · have hw := hw.1 c2
    refine lv_iconst (v := 0) hx hb dX7_sideOf_10 (by decide) ?_
    refine lv_goto (tgt := 15) hx hb dX7_sideOf_11 (by decide) ?_
    exact x_iret E.1 h hw dX7_sideOf_15

abbrev rC_X9_append : Room := { frames := 0, cells := 0, slots := 0, locals := 0 }
def wpC_X9_append_3 (Post : CS → Prop) : Nat → CS → Int32 → Int32 → Prop
  | 0, _, _, _ => False
  | n + 1, σ, x1, x2 => (x2 < 0 → Post σ) ∧ (¬ x2 < 0 → (2000 ≤ (σ.1 21) → Post σ) ∧ (¬ 2000 ≤ (σ.1 21) → vp_in (σ.1 21) 2000 ∧ ∀ σ3 : CS, σ3 = cA σ 2 (upd (σ.2.1 2) (σ.1 21).toNatClampNeg (vp_nar .byte ((x1 >>> (x2 &&& 31)).toInt8.toInt32))) → ∀ σ5 : CS, σ5 = cF σ3 21 ((σ3.1 21) + 1) → ∀ y6 : Int32, y6 = x2 + (-8) → wpC_X9_append_3 Post n σ5 x1 y6))
set_option maxHeartbeats 1000000 in
set_option maxRecDepth 20000 in
theorem wkC_X9_append_3 {Post : CS → Prop} (E : zE cX9_append RX9 3 none D cy ks A p s m args meth c) : ∀ n : Nat, ∀ (σ : CS) (x1 : Int32) (x2 : Int32) (H : Heap) (locs : List Loc) (ls : Array Slot), xH D A s (CW q cy σ) H locs → wpC_X9_append_3 Post n σ x1 x2 → lv_has ls 3 [(0, .ref (q 1)), (1, .int x1), (2, .int x2)] → W p l e rC_X9_append s m args below meth c H locs 0 0 (MQ below (va_Qv Post (xB D cy (CW q cy) A) A) args s 0 0 A) (F0 m 3 ls []) := by
  have hx := E.1.1
  have hb := E.1.2.1
  intro n
  induction n with
  | zero => intro σ x1 x2 H locs ls h hw hl; exact False.elim hw
  | succ n ih =>
    intro σ x1 x2 H locs ls h hw hl
    refine lv_iload_n hx hb dX9_append_3 rfl (lv_at hl 2 rfl) ?_
    refine lv_if_lt (tgt := 48) hx hb dX9_append_4 (by decide) (fun c1 => ?_) (fun c1 => ?_)
    · have hw := hw.1 c1
      exact x_vret E.1 h hw dX9_append_48
    · have hw := hw.2 c1
      refine lv_aload_n hx hb dX9_append_7 rfl (lv_at hl 0 rfl) ?_
      refine gX9_15 E.1 h dX9_append_8 ?_
      refine lv_aload_n hx hb dX9_append_11 rfl (lv_at hl 0 rfl) ?_
      refine gX9_9 E.1 h dX9_append_12 ?_
      refine x_alenB (v := 2000) E.1 h 2 (show (CW q cy σ)[2]? = some (q 2, .inl (cy 0, 2000, .inl (σ.2.1 2))) from rfl) (by decide) dX9_append_15 ?_
      refine lv_icmp_ge (tgt := 48) hx hb dX9_append_16 (by decide) (fun c2 => ?_) (fun c2 => ?_)
      · have hw := hw.1 c2
        exact x_vret E.1 h hw dX9_append_48
      · have hw := hw.2 c2
        refine lv_aload_n hx hb dX9_append_19 rfl (lv_at hl 0 rfl) ?_
        refine gX9_9 E.1 h dX9_append_20 ?_
        refine lv_aload_n hx hb dX9_append_23 rfl (lv_at hl 0 rfl) ?_
        refine gX9_15 E.1 h dX9_append_24 ?_
        refine lv_iload_n hx hb dX9_append_27 rfl (lv_at hl 1 rfl) ?_
        refine lv_iload_n hx hb dX9_append_28 rfl (lv_at hl 2 rfl) ?_
        refine lv_ishr hx hb dX9_append_29 ?_
        refine lv_i2b (v := (x1 >>> (x2 &&& 31)).toInt8.toInt32) hx hb dX9_append_30 rfl ?_
        have h4 := hw.1
        have hw := hw.2
        refine sC_2 E.1 h h4 dX9_append_31 (fun σ3 H locs eσ3 h => ?_)
        have hw := hw σ3 eσ3
        refine lv_aload_n hx hb dX9_append_32 rfl (lv_at hl 0 rfl) ?_
        refine lv_dup hx hb dX9_append_33 rfl ?_
        refine gX9_15 E.1 h dX9_append_34 ?_
        refine lv_iconst (v := 1) hx hb dX9_append_37 (by decide) ?_
        refine lv_iadd hx hb dX9_append_38 ?_
        refine pX9_15 E.1 h dX9_append_39 (fun σ5 H locs eσ5 h => ?_)
        have hw := hw σ5 eσ5
        obtain ⟨y6, ey6⟩ : ∃ z : Int32, z = x2 + (-8) := ⟨_, rfl⟩
        have hw := hw y6 ey6
        refine lv_iinc (v := y6) (lv' := [(2, .int y6), (0, .ref (q 1)), (1, .int x1)]) hx hb dX9_append_42 hl (k := 2) rfl (by rw [ey6]; rfl) (by decide) rfl (fun ls hl => ?_)
        refine lv_goto (tgt := 3) hx hb dX9_append_45 (by decide) ?_
        exact ih _ _ _ _ _ _ h hw (lv_sub hl [1, 2, 0] rfl)

def wpC_X9_append (σ : CS) (x1 : Int32) (Post : CS → Prop) : Prop := ∃ g, wpC_X9_append_3 Post g σ x1 24
set_option maxHeartbeats 1000000 in
set_option maxRecDepth 20000 in
theorem cC_X9_append {l : Launch} {D : va_G} {cy : Nat → ClassId} {ks : Nat × Nat × Option Nat} {q : Nat → Nat} {σ : CS} {sz : Nat} {x1 : Int32} {Post : CS → Prop} (hw : wpC_X9_append σ x1 Post) : Met l yX9_append (Cond.code yX9_append cX9_append 3 none :: wsA) rC_X9_append (zPc D cy ks (CW q cy σ) sz [.ref (q 1), .int x1]) (va_Qv Post (xB D cy (CW q cy) (va_A (CW q cy σ) sz)) (va_A (CW q cy σ) sz)) 0 0 (va_A (CW q cy σ) sz) := by
  refine z_enter (own := RX9) (WW := CW q cy) (by decide) rfl (Nat.le_of_ble_eq_true rfl) ?_
  intro p e s m below meth c ls E h hl
  have hx := E.1.1
  have hb := E.1.2.1
  have hl : lv_has ls 3 [(0, .ref (q 1)), (1, .int x1)] := hl
  unfold wpC_X9_append at hw
  refine lv_bipush (v := 24) hx hb dX9_append_0 (by decide) ?_
  refine lv_istore_n (lv' := [(2, .int 24), (0, .ref (q 1)), (1, .int x1)]) hx hb dX9_append_2 rfl hl (by decide) rfl (fun ls hl => ?_)
  obtain ⟨g, hw⟩ := hw
  exact wkC_X9_append_3 E g _ _ _ _ _ _ h hw (lv_sub hl [1, 2, 0] rfl)

abbrev rC_X10_feed : Room := { frames := 1, cells := 0, slots := 0, locals := 22 }
def wpC_X10_feed (σ : CS) (x1 : Int32) (x2 : Int32) (x3 : Int32) (x4 : Int32) (x5 : Int32) (Post : Int32 → CS → Prop) : Prop := (((σ.1 21) + 20) ≤ 2000 → wpC_X9_append σ x1 (fun σ2 => wpC_X9_append σ2 x2 (fun σ3 => wpC_X9_append σ3 x3 (fun σ4 => wpC_X9_append σ4 x4 (fun σ5 => wpC_X9_append σ5 x5 (fun σ6 => Post (σ6.1 21) σ6)))))) ∧ (¬ ((σ.1 21) + 20) ≤ 2000 → Post ((-1)) σ)
set_option maxHeartbeats 1000000 in
set_option maxRecDepth 20000 in
theorem cC_X10_feed {l : Launch} {D : va_G} {cy : Nat → ClassId} {ks : Nat × Nat × Option Nat} {q : Nat → Nat} {σ : CS} {sz : Nat} {x1 : Int32} {x2 : Int32} {x3 : Int32} {x4 : Int32} {x5 : Int32} {Post : Int32 → CS → Prop} (hw : wpC_X10_feed σ x1 x2 x3 x4 x5 Post) : Met l yX10_feed (Cond.code yX10_feed cX10_feed 6 (some .int) :: wsA) rC_X10_feed (zPc D cy ks (CW q cy σ) sz [.ref (q 0), .int x1, .int x2, .int x3, .int x4, .int x5]) (va_Qi Post (xB D cy (CW q cy) (va_A (CW q cy σ) sz)) (va_A (CW q cy σ) sz)) 0 0 (va_A (CW q cy σ) sz) := by
  refine z_enter (own := RX10) (WW := CW q cy) (by decide) rfl (Nat.le_of_ble_eq_true rfl) ?_
  intro p e s m below meth c ls E h hl
  have hx := E.1.1
  have hb := E.1.2.1
  have hl : lv_has ls 6 [(0, .ref (q 0)), (1, .int x1), (2, .int x2), (3, .int x3), (4, .int x4), (5, .int x5)] := hl
  unfold wpC_X10_feed at hw
  refine lv_aload_n hx hb dX10_feed_0 rfl (lv_at hl 0 rfl) ?_
  refine gX10_12 E.1 h dX10_feed_1 ?_
  refine gX10_75 E.1 h dX10_feed_4 ?_
  refine lv_bipush (v := 20) hx hb dX10_feed_7 (by decide) ?_
  refine lv_iadd hx hb dX10_feed_9 ?_
  refine lv_sipush (v := 2000) hx hb dX10_feed_10 (by decide) ?_
  refine lv_icmp_le (tgt := 18) hx hb dX10_feed_13 (by decide) (fun c1 => ?_) (fun c1 => ?_)
  · have hw := hw.1 c1
    refine lv_aload_n hx hb dX10_feed_18 rfl (lv_at hl 0 rfl) ?_
    refine gX10_12 E.1 h dX10_feed_19 ?_
    refine lv_iload_n hx hb dX10_feed_22 rfl (lv_at hl 1 rfl) ?_
    refine x_callv h (z_runVN (WW := CW q cy) (rest := []) E h (cC_X9_append hw) yyX9_append lX10_78 1 rfl rfl ⟨Nat.le_of_ble_eq_true rfl, Nat.le_of_ble_eq_true rfl⟩ rfl rfl hl.1 rfl (Nat.le_of_ble_eq_true rfl) dX10_feed_23 ⟨Nat.le_refl 0, Nat.le_refl 0⟩) (fun σ2 H locs hw h => ?_)
    refine lv_aload_n hx hb dX10_feed_26 rfl (lv_at hl 0 rfl) ?_
    refine gX10_12 E.1 h dX10_feed_27 ?_
    refine lv_iload_n hx hb dX10_feed_30 rfl (lv_at hl 2 rfl) ?_
    refine x_callv h (z_runVN (WW := CW q cy) (rest := []) E h (cC_X9_append hw) yyX9_append lX10_78 1 rfl rfl ⟨Nat.le_of_ble_eq_true rfl, Nat.le_of_ble_eq_true rfl⟩ rfl rfl hl.1 rfl (Nat.le_of_ble_eq_true rfl) dX10_feed_31 ⟨Nat.le_refl 0, Nat.le_refl 0⟩) (fun σ3 H locs hw h => ?_)
    refine lv_aload_n hx hb dX10_feed_34 rfl (lv_at hl 0 rfl) ?_
    refine gX10_12 E.1 h dX10_feed_35 ?_
    refine lv_iload_n hx hb dX10_feed_38 rfl (lv_at hl 3 rfl) ?_
    refine x_callv h (z_runVN (WW := CW q cy) (rest := []) E h (cC_X9_append hw) yyX9_append lX10_78 1 rfl rfl ⟨Nat.le_of_ble_eq_true rfl, Nat.le_of_ble_eq_true rfl⟩ rfl rfl hl.1 rfl (Nat.le_of_ble_eq_true rfl) dX10_feed_39 ⟨Nat.le_refl 0, Nat.le_refl 0⟩) (fun σ4 H locs hw h => ?_)
    refine lv_aload_n hx hb dX10_feed_42 rfl (lv_at hl 0 rfl) ?_
    refine gX10_12 E.1 h dX10_feed_43 ?_
    refine lv_iload hx hb dX10_feed_46 (lv_at hl 4 rfl) ?_
    refine x_callv h (z_runVN (WW := CW q cy) (rest := []) E h (cC_X9_append hw) yyX9_append lX10_78 1 rfl rfl ⟨Nat.le_of_ble_eq_true rfl, Nat.le_of_ble_eq_true rfl⟩ rfl rfl hl.1 rfl (Nat.le_of_ble_eq_true rfl) dX10_feed_48 ⟨Nat.le_refl 0, Nat.le_refl 0⟩) (fun σ5 H locs hw h => ?_)
    refine lv_aload_n hx hb dX10_feed_51 rfl (lv_at hl 0 rfl) ?_
    refine gX10_12 E.1 h dX10_feed_52 ?_
    refine lv_iload hx hb dX10_feed_55 (lv_at hl 5 rfl) ?_
    refine x_callv h (z_runVN (WW := CW q cy) (rest := []) E h (cC_X9_append hw) yyX9_append lX10_78 1 rfl rfl ⟨Nat.le_of_ble_eq_true rfl, Nat.le_of_ble_eq_true rfl⟩ rfl rfl hl.1 rfl (Nat.le_of_ble_eq_true rfl) dX10_feed_57 ⟨Nat.le_refl 0, Nat.le_refl 0⟩) (fun σ6 H locs hw h => ?_)
    refine lv_aload_n hx hb dX10_feed_60 rfl (lv_at hl 0 rfl) ?_
    refine gX10_12 E.1 h dX10_feed_61 ?_
    refine gX10_75 E.1 h dX10_feed_64 ?_
    exact x_iret E.1 h hw dX10_feed_67
  · have hw := hw.2 c1
    refine lv_iconst (v := (-1)) hx hb dX10_feed_16 (by decide) ?_
    exact x_iret E.1 h hw dX10_feed_17

abbrev rC_X10_back : Room := { frames := 0, cells := 0, slots := 0, locals := 0 }
def wpC_X10_back (σ : CS) (x1 : Int32) (Post : Int32 → CS → Prop) : Prop := (x1 < 0 → Post ((-1)) σ) ∧ (¬ x1 < 0 → (x1 ≤ (σ.1 21) → ∀ σ3 : CS, σ3 = cF σ 21 ((σ.1 21) - x1) → Post (σ3.1 21) σ3) ∧ (¬ x1 ≤ (σ.1 21) → Post ((-1)) σ))
set_option maxHeartbeats 1000000 in
set_option maxRecDepth 20000 in
theorem cC_X10_back {l : Launch} {D : va_G} {cy : Nat → ClassId} {ks : Nat × Nat × Option Nat} {q : Nat → Nat} {σ : CS} {sz : Nat} {x1 : Int32} {Post : Int32 → CS → Prop} (hw : wpC_X10_back σ x1 Post) : Met l yX10_back (Cond.code yX10_back cX10_back 2 (some .int) :: wsA) rC_X10_back (zPc D cy ks (CW q cy σ) sz [.ref (q 0), .int x1]) (va_Qi Post (xB D cy (CW q cy) (va_A (CW q cy σ) sz)) (va_A (CW q cy σ) sz)) 0 0 (va_A (CW q cy σ) sz) := by
  refine z_enter (own := RX10) (WW := CW q cy) (by decide) rfl (Nat.le_of_ble_eq_true rfl) ?_
  intro p e s m below meth c ls E h hl
  have hx := E.1.1
  have hb := E.1.2.1
  have hl : lv_has ls 2 [(0, .ref (q 0)), (1, .int x1)] := hl
  unfold wpC_X10_back at hw
  refine lv_iload_n hx hb dX10_back_0 rfl (lv_at hl 1 rfl) ?_
  refine lv_if_lt (tgt := 15) hx hb dX10_back_1 (by decide) (fun c1 => ?_) (fun c1 => ?_)
  · have hw := hw.1 c1
    refine lv_iconst (v := (-1)) hx hb dX10_back_15 (by decide) ?_
    exact x_iret E.1 h hw dX10_back_16
  · have hw := hw.2 c1
    refine lv_iload_n hx hb dX10_back_4 rfl (lv_at hl 1 rfl) ?_
    refine lv_aload_n hx hb dX10_back_5 rfl (lv_at hl 0 rfl) ?_
    refine gX10_12 E.1 h dX10_back_6 ?_
    refine gX10_75 E.1 h dX10_back_9 ?_
    refine lv_icmp_le (tgt := 17) hx hb dX10_back_12 (by decide) (fun c2 => ?_) (fun c2 => ?_)
    · have hw := hw.1 c2
      refine lv_aload_n hx hb dX10_back_17 rfl (lv_at hl 0 rfl) ?_
      refine gX10_12 E.1 h dX10_back_18 ?_
      refine lv_dup hx hb dX10_back_21 rfl ?_
      refine gX10_75 E.1 h dX10_back_22 ?_
      refine lv_iload_n hx hb dX10_back_25 rfl (lv_at hl 1 rfl) ?_
      refine lv_isub hx hb dX10_back_26 ?_
      refine pX10_75 E.1 h dX10_back_27 (fun σ3 H locs eσ3 h => ?_)
      have hw := hw σ3 eσ3
      refine lv_aload_n hx hb dX10_back_30 rfl (lv_at hl 0 rfl) ?_
      refine gX10_12 E.1 h dX10_back_31 ?_
      refine gX10_75 E.1 h dX10_back_34 ?_
      exact x_iret E.1 h hw dX10_back_37
    · have hw := hw.2 c2
      refine lv_iconst (v := (-1)) hx hb dX10_back_15 (by decide) ?_
      exact x_iret E.1 h hw dX10_back_16

abbrev rC_X10_place : Room := { frames := 0, cells := 0, slots := 0, locals := 0 }
def wpC_X10_place (σ : CS) (Post : Int32 → CS → Prop) : Prop := Post (σ.1 9) σ
set_option maxHeartbeats 1000000 in
set_option maxRecDepth 20000 in
theorem cC_X10_place {l : Launch} {D : va_G} {cy : Nat → ClassId} {ks : Nat × Nat × Option Nat} {q : Nat → Nat} {σ : CS} {sz : Nat} {Post : Int32 → CS → Prop} (hw : wpC_X10_place σ Post) : Met l yX10_place (Cond.code yX10_place cX10_place 1 (some .int) :: wsA) rC_X10_place (zPc D cy ks (CW q cy σ) sz [.ref (q 0)]) (va_Qi Post (xB D cy (CW q cy) (va_A (CW q cy σ) sz)) (va_A (CW q cy σ) sz)) 0 0 (va_A (CW q cy σ) sz) := by
  refine z_enter (own := RX10) (WW := CW q cy) (by decide) rfl (Nat.le_of_ble_eq_true rfl) ?_
  intro p e s m below meth c ls E h hl
  have hx := E.1.1
  have hb := E.1.2.1
  have hl : lv_has ls 1 [(0, .ref (q 0))] := hl
  unfold wpC_X10_place at hw
  refine lv_aload_n hx hb dX10_place_0 rfl (lv_at hl 0 rfl) ?_
  refine gX10_71 E.1 h dX10_place_1 ?_
  exact x_iret E.1 h hw dX10_place_4

abbrev rC_X10_isDay : Room := { frames := 0, cells := 0, slots := 0, locals := 0 }
def wpC_X10_isDay (σ : CS) (x0 : Int32) (Post : Int32 → CS → Prop) : Prop := (x0 < 0 → Post 0 σ) ∧ (¬ x0 < 0 → (9999 < x0 → Post 0 σ) ∧ (¬ 9999 < x0 → Post 1 σ))
set_option maxHeartbeats 1000000 in
set_option maxRecDepth 20000 in
theorem cC_X10_isDay {l : Launch} {D : va_G} {cy : Nat → ClassId} {ks : Nat × Nat × Option Nat} {q : Nat → Nat} {σ : CS} {sz : Nat} {x0 : Int32} {Post : Int32 → CS → Prop} (hw : wpC_X10_isDay σ x0 Post) : Met l yX10_isDay (Cond.code yX10_isDay cX10_isDay 1 (some .boolean) :: wsA) rC_X10_isDay (zPc D cy ks (CW q cy σ) sz [.int x0]) (va_Qi Post (xB D cy (CW q cy) (va_A (CW q cy σ) sz)) (va_A (CW q cy σ) sz)) 0 0 (va_A (CW q cy σ) sz) := by
  refine z_enter (own := RX10) (WW := CW q cy) (by decide) rfl (Nat.le_of_ble_eq_true rfl) ?_
  intro p e s m below meth c ls E h hl
  have hx := E.1.1
  have hb := E.1.2.1
  have hl : lv_has ls 1 [(0, .int x0)] := hl
  unfold wpC_X10_isDay at hw
  refine lv_iload_n hx hb dX10_isDay_0 rfl (lv_at hl 0 rfl) ?_
  refine lv_if_lt (tgt := 15) hx hb dX10_isDay_1 (by decide) (fun c1 => ?_) (fun c1 => ?_)
  · have hw := hw.1 c1
    refine lv_iconst (v := 0) hx hb dX10_isDay_15 (by decide) ?_
    exact x_zret E.1 h rfl hw dX10_isDay_16
  · have hw := hw.2 c1
    refine lv_iload_n hx hb dX10_isDay_4 rfl (lv_at hl 0 rfl) ?_
    refine lv_sipush (v := 9999) hx hb dX10_isDay_5 (by decide) ?_
    refine lv_icmp_gt (tgt := 15) hx hb dX10_isDay_8 (by decide) (fun c2 => ?_) (fun c2 => ?_)
    · have hw := hw.1 c2
      refine lv_iconst (v := 0) hx hb dX10_isDay_15 (by decide) ?_
      exact x_zret E.1 h rfl hw dX10_isDay_16
    · have hw := hw.2 c2
      refine lv_iconst (v := 1) hx hb dX10_isDay_11 (by decide) ?_
      refine lv_goto (tgt := 16) hx hb dX10_isDay_12 (by decide) ?_
      exact x_zret E.1 h rfl hw dX10_isDay_16

abbrev rC_X10_person : Room := { frames := 3, cells := 0, slots := 0, locals := 69 }
def wpC_X10_person_19 (Post : Int32 → CS → Prop) (σ : CS) (x1 : Int32) (x2 : Int32) (x3 : Int32) : Prop := wpC_X1_canBear σ x1 x3 (fun r1 σ2 => (r1 = 0 → Post ((-1)) σ2) ∧ (¬ r1 = 0 → wpC_X1_canBear σ2 x2 x3 (fun r4 σ5 => (r4 = 0 → Post ((-1)) σ5) ∧ (¬ r4 = 0 → wpC_X1_add σ5 x1 x2 x3 (fun r7 σ8 => Post r7 σ8)))))
set_option maxHeartbeats 1000000 in
set_option maxRecDepth 20000 in
theorem wkC_X10_person_19 {Post : Int32 → CS → Prop} (E : zE cX10_person RX10 4 (some .int) D cy ks A p s m args meth c) : ∀ (σ : CS) (x1 : Int32) (x2 : Int32) (x3 : Int32) (H : Heap) (locs : List Loc) (ls : Array Slot), xH D A s (CW q cy σ) H locs → wpC_X10_person_19 Post σ x1 x2 x3 → lv_has ls 4 [(0, .ref (q 0)), (1, .int x1), (2, .int x2), (3, .int x3)] → W p l e rC_X10_person s m args below meth c H locs 0 0 (MQ below (va_Qi Post (xB D cy (CW q cy) A) A) args s 0 0 A) (F0 m 19 ls []) := by
  have hx := E.1.1
  have hb := E.1.2.1
  intro σ x1 x2 x3 H locs ls h hw hl
  unfold wpC_X10_person_19 at hw
  refine lv_aload_n hx hb dX10_person_19 rfl (lv_at hl 0 rfl) ?_
  refine gX10_33 E.1 h dX10_person_20 ?_
  refine lv_iload_n hx hb dX10_person_23 rfl (lv_at hl 1 rfl) ?_
  refine lv_iload_n hx hb dX10_person_24 rfl (lv_at hl 3 rfl) ?_
  refine x_calli h (z_runVN (WW := CW q cy) (rest := []) E h (cC_X1_canBear hw) yyX1_canBear lX10_107 8 rfl rfl ⟨Nat.le_of_ble_eq_true rfl, Nat.le_of_ble_eq_true rfl⟩ rfl rfl hl.1 rfl (Nat.le_of_ble_eq_true rfl) dX10_person_25 ⟨Nat.le_refl 0, Nat.le_refl 0⟩) (fun r1 σ2 H locs hw h => ?_)
  refine lv_if_eq (tgt := 43) hx hb dX10_person_28 (by decide) (fun c3 => ?_) (fun c3 => ?_)
  · have hw := hw.1 c3
    refine lv_iconst (v := (-1)) hx hb dX10_person_43 (by decide) ?_
    exact x_iret E.1 h hw dX10_person_44
  · have hw := hw.2 c3
    refine lv_aload_n hx hb dX10_person_31 rfl (lv_at hl 0 rfl) ?_
    refine gX10_33 E.1 h dX10_person_32 ?_
    refine lv_iload_n hx hb dX10_person_35 rfl (lv_at hl 2 rfl) ?_
    refine lv_iload_n hx hb dX10_person_36 rfl (lv_at hl 3 rfl) ?_
    refine x_calli h (z_runVN (WW := CW q cy) (rest := []) E h (cC_X1_canBear hw) yyX1_canBear lX10_107 8 rfl rfl ⟨Nat.le_of_ble_eq_true rfl, Nat.le_of_ble_eq_true rfl⟩ rfl rfl hl.1 rfl (Nat.le_of_ble_eq_true rfl) dX10_person_37 ⟨Nat.le_refl 0, Nat.le_refl 0⟩) (fun r4 σ5 H locs hw h => ?_)
    refine lv_if_ne (tgt := 45) hx hb dX10_person_40 (by decide) (fun c6 => ?_) (fun c6 => ?_)
    · have hw := hw.2 c6
      refine lv_aload_n hx hb dX10_person_45 rfl (lv_at hl 0 rfl) ?_
      refine gX10_33 E.1 h dX10_person_46 ?_
      refine lv_iload_n hx hb dX10_person_49 rfl (lv_at hl 1 rfl) ?_
      refine lv_iload_n hx hb dX10_person_50 rfl (lv_at hl 2 rfl) ?_
      refine lv_iload_n hx hb dX10_person_51 rfl (lv_at hl 3 rfl) ?_
      refine x_calli h (z_runVN (WW := CW q cy) (rest := []) E h (cC_X1_add hw) yyX1_add lX10_111 8 rfl rfl ⟨Nat.le_of_ble_eq_true rfl, Nat.le_of_ble_eq_true rfl⟩ rfl rfl hl.1 rfl (Nat.le_of_ble_eq_true rfl) dX10_person_52 ⟨Nat.le_refl 0, Nat.le_refl 0⟩) (fun r7 σ8 H locs hw h => ?_)
      exact x_iret E.1 h hw dX10_person_55
    · have hw := hw.1 c6
      refine lv_iconst (v := (-1)) hx hb dX10_person_43 (by decide) ?_
      exact x_iret E.1 h hw dX10_person_44

def wpC_X10_person (σ : CS) (x1 : Int32) (x2 : Int32) (x3 : Int32) (Post : Int32 → CS → Prop) : Prop := wpC_X10_isDay σ x3 (fun r1 σ2 => (r1 = 0 → Post ((-1)) σ2) ∧ (¬ r1 = 0 → (x1 = ((-1)) → wpC_X10_person_19 Post σ2 x1 x2 x3) ∧ (¬ x1 = ((-1)) → (x1 = x2 → Post ((-1)) σ2) ∧ (¬ x1 = x2 → wpC_X10_person_19 Post σ2 x1 x2 x3))))
set_option maxHeartbeats 1000000 in
set_option maxRecDepth 20000 in
theorem cC_X10_person {l : Launch} {D : va_G} {cy : Nat → ClassId} {ks : Nat × Nat × Option Nat} {q : Nat → Nat} {σ : CS} {sz : Nat} {x1 : Int32} {x2 : Int32} {x3 : Int32} {Post : Int32 → CS → Prop} (hw : wpC_X10_person σ x1 x2 x3 Post) : Met l yX10_person (Cond.code yX10_person cX10_person 4 (some .int) :: wsA) rC_X10_person (zPc D cy ks (CW q cy σ) sz [.ref (q 0), .int x1, .int x2, .int x3]) (va_Qi Post (xB D cy (CW q cy) (va_A (CW q cy σ) sz)) (va_A (CW q cy σ) sz)) 0 0 (va_A (CW q cy σ) sz) := by
  refine z_enter (own := RX10) (WW := CW q cy) (by decide) rfl (Nat.le_of_ble_eq_true rfl) ?_
  intro p e s m below meth c ls E h hl
  have hx := E.1.1
  have hb := E.1.2.1
  have hl : lv_has ls 4 [(0, .ref (q 0)), (1, .int x1), (2, .int x2), (3, .int x3)] := hl
  unfold wpC_X10_person at hw
  refine lv_iload_n hx hb dX10_person_0 rfl (lv_at hl 3 rfl) ?_
  refine x_calli h (z_runS (WW := CW q cy) (rest := []) E h (cC_X10_isDay hw) yyX10_isDay lX10_86 ⟨Nat.le_of_ble_eq_true rfl, Nat.le_of_ble_eq_true rfl⟩ rfl rfl hl.1 rfl (Nat.le_of_ble_eq_true rfl) dX10_person_1 ⟨Nat.le_refl 0, Nat.le_refl 0⟩) (fun r1 σ2 H locs hw h => ?_)
  refine lv_if_eq (tgt := 17) hx hb dX10_person_4 (by decide) (fun c3 => ?_) (fun c3 => ?_)
  · have hw := hw.1 c3
    refine lv_iconst (v := (-1)) hx hb dX10_person_17 (by decide) ?_
    exact x_iret E.1 h hw dX10_person_18
  · have hw := hw.2 c3
    refine lv_iload_n hx hb dX10_person_7 rfl (lv_at hl 1 rfl) ?_
    refine lv_iconst (v := (-1)) hx hb dX10_person_8 (by decide) ?_
    refine lv_icmp_eq (tgt := 19) hx hb dX10_person_9 (by decide) (fun c4 => ?_) (fun c4 => ?_)
    · have hw := hw.1 c4
      exact wkC_X10_person_19 E _ _ _ _ _ _ _ h hw (lv_sub hl [0, 1, 2, 3] rfl)
    · have hw := hw.2 c4
      refine lv_iload_n hx hb dX10_person_12 rfl (lv_at hl 1 rfl) ?_
      refine lv_iload_n hx hb dX10_person_13 rfl (lv_at hl 2 rfl) ?_
      refine lv_icmp_ne (tgt := 19) hx hb dX10_person_14 (by decide) (fun c5 => ?_) (fun c5 => ?_)
      · have hw := hw.2 c5
        exact wkC_X10_person_19 E _ _ _ _ _ _ _ h hw (lv_sub hl [0, 1, 2, 3] rfl)
      · have hw := hw.1 c5
        refine lv_iconst (v := (-1)) hx hb dX10_person_17 (by decide) ?_
        exact x_iret E.1 h hw dX10_person_18

abbrev rC_X10_areTwoPersons : Room := { frames := 1, cells := 0, slots := 0, locals := 21 }
def wpC_X10_areTwoPersons (σ : CS) (x1 : Int32) (x2 : Int32) (Post : Int32 → CS → Prop) : Prop := wpC_X1_has σ x1 (fun r1 σ2 => (r1 = 0 → Post 0 σ2) ∧ (¬ r1 = 0 → wpC_X1_has σ2 x2 (fun r4 σ5 => (r4 = 0 → Post 0 σ5) ∧ (¬ r4 = 0 → (x1 = x2 → Post 0 σ5) ∧ (¬ x1 = x2 → Post 1 σ5)))))
set_option maxHeartbeats 1000000 in
set_option maxRecDepth 20000 in
theorem cC_X10_areTwoPersons {l : Launch} {D : va_G} {cy : Nat → ClassId} {ks : Nat × Nat × Option Nat} {q : Nat → Nat} {σ : CS} {sz : Nat} {x1 : Int32} {x2 : Int32} {Post : Int32 → CS → Prop} (hw : wpC_X10_areTwoPersons σ x1 x2 Post) : Met l yX10_areTwoPersons (Cond.code yX10_areTwoPersons cX10_areTwoPersons 3 (some .boolean) :: wsA) rC_X10_areTwoPersons (zPc D cy ks (CW q cy σ) sz [.ref (q 0), .int x1, .int x2]) (va_Qi Post (xB D cy (CW q cy) (va_A (CW q cy σ) sz)) (va_A (CW q cy σ) sz)) 0 0 (va_A (CW q cy σ) sz) := by
  refine z_enter (own := RX10) (WW := CW q cy) (by decide) rfl (Nat.le_of_ble_eq_true rfl) ?_
  intro p e s m below meth c ls E h hl
  have hx := E.1.1
  have hb := E.1.2.1
  have hl : lv_has ls 3 [(0, .ref (q 0)), (1, .int x1), (2, .int x2)] := hl
  unfold wpC_X10_areTwoPersons at hw
  refine lv_aload_n hx hb dX10_areTwoPersons_0 rfl (lv_at hl 0 rfl) ?_
  refine gX10_33 E.1 h dX10_areTwoPersons_1 ?_
  refine lv_iload_n hx hb dX10_areTwoPersons_4 rfl (lv_at hl 1 rfl) ?_
  refine x_calli h (z_runVN (WW := CW q cy) (rest := []) E h (cC_X1_has hw) yyX1_has lX10_127 8 rfl rfl ⟨Nat.le_of_ble_eq_true rfl, Nat.le_of_ble_eq_true rfl⟩ rfl rfl hl.1 rfl (Nat.le_of_ble_eq_true rfl) dX10_areTwoPersons_5 ⟨Nat.le_refl 0, Nat.le_refl 0⟩) (fun r1 σ2 H locs hw h => ?_)
  refine lv_if_eq (tgt := 31) hx hb dX10_areTwoPersons_8 (by decide) (fun c3 => ?_) (fun c3 => ?_)
  · have hw := hw.1 c3
    refine lv_iconst (v := 0) hx hb dX10_areTwoPersons_31 (by decide) ?_
    exact x_zret E.1 h rfl hw dX10_areTwoPersons_32
  · have hw := hw.2 c3
    refine lv_aload_n hx hb dX10_areTwoPersons_11 rfl (lv_at hl 0 rfl) ?_
    refine gX10_33 E.1 h dX10_areTwoPersons_12 ?_
    refine lv_iload_n hx hb dX10_areTwoPersons_15 rfl (lv_at hl 2 rfl) ?_
    refine x_calli h (z_runVN (WW := CW q cy) (rest := []) E h (cC_X1_has hw) yyX1_has lX10_127 8 rfl rfl ⟨Nat.le_of_ble_eq_true rfl, Nat.le_of_ble_eq_true rfl⟩ rfl rfl hl.1 rfl (Nat.le_of_ble_eq_true rfl) dX10_areTwoPersons_16 ⟨Nat.le_refl 0, Nat.le_refl 0⟩) (fun r4 σ5 H locs hw h => ?_)
    refine lv_if_eq (tgt := 31) hx hb dX10_areTwoPersons_19 (by decide) (fun c6 => ?_) (fun c6 => ?_)
    · have hw := hw.1 c6
      refine lv_iconst (v := 0) hx hb dX10_areTwoPersons_31 (by decide) ?_
      exact x_zret E.1 h rfl hw dX10_areTwoPersons_32
    · have hw := hw.2 c6
      refine lv_iload_n hx hb dX10_areTwoPersons_22 rfl (lv_at hl 1 rfl) ?_
      refine lv_iload_n hx hb dX10_areTwoPersons_23 rfl (lv_at hl 2 rfl) ?_
      refine lv_icmp_eq (tgt := 31) hx hb dX10_areTwoPersons_24 (by decide) (fun c7 => ?_) (fun c7 => ?_)
      · have hw := hw.1 c7
        refine lv_iconst (v := 0) hx hb dX10_areTwoPersons_31 (by decide) ?_
        exact x_zret E.1 h rfl hw dX10_areTwoPersons_32
      · have hw := hw.2 c7
        refine lv_iconst (v := 1) hx hb dX10_areTwoPersons_27 (by decide) ?_
        refine lv_goto (tgt := 32) hx hb dX10_areTwoPersons_28 (by decide) ?_
        exact x_zret E.1 h rfl hw dX10_areTwoPersons_32

abbrev rC_X10_isPlace : Room := { frames := 0, cells := 0, slots := 0, locals := 0 }
def wpC_X10_isPlace (σ : CS) (x0 : Int32) (Post : Int32 → CS → Prop) : Prop := (x0 < 0 → Post 0 σ) ∧ (¬ x0 < 0 → (4 ≤ x0 → Post 0 σ) ∧ (¬ 4 ≤ x0 → Post 1 σ))
set_option maxHeartbeats 1000000 in
set_option maxRecDepth 20000 in
theorem cC_X10_isPlace {l : Launch} {D : va_G} {cy : Nat → ClassId} {ks : Nat × Nat × Option Nat} {q : Nat → Nat} {σ : CS} {sz : Nat} {x0 : Int32} {Post : Int32 → CS → Prop} (hw : wpC_X10_isPlace σ x0 Post) : Met l yX10_isPlace (Cond.code yX10_isPlace cX10_isPlace 1 (some .boolean) :: wsA) rC_X10_isPlace (zPc D cy ks (CW q cy σ) sz [.int x0]) (va_Qi Post (xB D cy (CW q cy) (va_A (CW q cy σ) sz)) (va_A (CW q cy σ) sz)) 0 0 (va_A (CW q cy σ) sz) := by
  refine z_enter (own := RX10) (WW := CW q cy) (by decide) rfl (Nat.le_of_ble_eq_true rfl) ?_
  intro p e s m below meth c ls E h hl
  have hx := E.1.1
  have hb := E.1.2.1
  have hl : lv_has ls 1 [(0, .int x0)] := hl
  unfold wpC_X10_isPlace at hw
  refine lv_iload_n hx hb dX10_isPlace_0 rfl (lv_at hl 0 rfl) ?_
  refine lv_if_lt (tgt := 13) hx hb dX10_isPlace_1 (by decide) (fun c1 => ?_) (fun c1 => ?_)
  · have hw := hw.1 c1
    refine lv_iconst (v := 0) hx hb dX10_isPlace_13 (by decide) ?_
    exact x_zret E.1 h rfl hw dX10_isPlace_14
  · have hw := hw.2 c1
    refine lv_iload_n hx hb dX10_isPlace_4 rfl (lv_at hl 0 rfl) ?_
    refine lv_iconst (v := 4) hx hb dX10_isPlace_5 (by decide) ?_
    refine lv_icmp_ge (tgt := 13) hx hb dX10_isPlace_6 (by decide) (fun c2 => ?_) (fun c2 => ?_)
    · have hw := hw.1 c2
      refine lv_iconst (v := 0) hx hb dX10_isPlace_13 (by decide) ?_
      exact x_zret E.1 h rfl hw dX10_isPlace_14
    · have hw := hw.2 c2
      refine lv_iconst (v := 1) hx hb dX10_isPlace_9 (by decide) ?_
      refine lv_goto (tgt := 14) hx hb dX10_isPlace_10 (by decide) ?_
      exact x_zret E.1 h rfl hw dX10_isPlace_14

abbrev rC_X10_isCondition : Room := { frames := 0, cells := 0, slots := 0, locals := 0 }
def wpC_X10_isCondition (σ : CS) (x0 : Int32) (Post : Int32 → CS → Prop) : Prop := (x0 < 0 → Post 0 σ) ∧ (¬ x0 < 0 → (6 ≤ x0 → Post 0 σ) ∧ (¬ 6 ≤ x0 → Post 1 σ))
set_option maxHeartbeats 1000000 in
set_option maxRecDepth 20000 in
theorem cC_X10_isCondition {l : Launch} {D : va_G} {cy : Nat → ClassId} {ks : Nat × Nat × Option Nat} {q : Nat → Nat} {σ : CS} {sz : Nat} {x0 : Int32} {Post : Int32 → CS → Prop} (hw : wpC_X10_isCondition σ x0 Post) : Met l yX10_isCondition (Cond.code yX10_isCondition cX10_isCondition 1 (some .boolean) :: wsA) rC_X10_isCondition (zPc D cy ks (CW q cy σ) sz [.int x0]) (va_Qi Post (xB D cy (CW q cy) (va_A (CW q cy σ) sz)) (va_A (CW q cy σ) sz)) 0 0 (va_A (CW q cy σ) sz) := by
  refine z_enter (own := RX10) (WW := CW q cy) (by decide) rfl (Nat.le_of_ble_eq_true rfl) ?_
  intro p e s m below meth c ls E h hl
  have hx := E.1.1
  have hb := E.1.2.1
  have hl : lv_has ls 1 [(0, .int x0)] := hl
  unfold wpC_X10_isCondition at hw
  refine lv_iload_n hx hb dX10_isCondition_0 rfl (lv_at hl 0 rfl) ?_
  refine lv_if_lt (tgt := 14) hx hb dX10_isCondition_1 (by decide) (fun c1 => ?_) (fun c1 => ?_)
  · have hw := hw.1 c1
    refine lv_iconst (v := 0) hx hb dX10_isCondition_14 (by decide) ?_
    exact x_zret E.1 h rfl hw dX10_isCondition_15
  · have hw := hw.2 c1
    refine lv_iload_n hx hb dX10_isCondition_4 rfl (lv_at hl 0 rfl) ?_
    refine lv_bipush (v := 6) hx hb dX10_isCondition_5 (by decide) ?_
    refine lv_icmp_ge (tgt := 14) hx hb dX10_isCondition_7 (by decide) (fun c2 => ?_) (fun c2 => ?_)
    · have hw := hw.1 c2
      refine lv_iconst (v := 0) hx hb dX10_isCondition_14 (by decide) ?_
      exact x_zret E.1 h rfl hw dX10_isCondition_15
    · have hw := hw.2 c2
      refine lv_iconst (v := 1) hx hb dX10_isCondition_10 (by decide) ?_
      refine lv_goto (tgt := 15) hx hb dX10_isCondition_11 (by decide) ?_
      exact x_zret E.1 h rfl hw dX10_isCondition_15

abbrev rC_X10_promise : Room := { frames := 2, cells := 0, slots := 0, locals := 43 }
def wpC_X10_promise_53 (Post : Int32 → CS → Prop) (σ : CS) (x1 : Int32) (x2 : Int32) (x3 : Int32) (x4 : Int32) (x5 : Int32) (x6 : Int32) : Prop := wpC_X7_add σ x1 x2 x3 x4 x5 x6 (fun r1 σ2 => Post r1 σ2)
set_option maxHeartbeats 1000000 in
set_option maxRecDepth 20000 in
theorem wkC_X10_promise_53 {Post : Int32 → CS → Prop} (E : zE cX10_promise RX10 7 (some .int) D cy ks A p s m args meth c) : ∀ (σ : CS) (x1 : Int32) (x2 : Int32) (x3 : Int32) (x4 : Int32) (x5 : Int32) (x6 : Int32) (H : Heap) (locs : List Loc) (ls : Array Slot), xH D A s (CW q cy σ) H locs → wpC_X10_promise_53 Post σ x1 x2 x3 x4 x5 x6 → lv_has ls 7 [(0, .ref (q 0)), (1, .int x1), (2, .int x2), (3, .int x3), (4, .int x4), (5, .int x5), (6, .int x6)] → W p l e rC_X10_promise s m args below meth c H locs 0 0 (MQ below (va_Qi Post (xB D cy (CW q cy) A) A) args s 0 0 A) (F0 m 53 ls []) := by
  have hx := E.1.1
  have hb := E.1.2.1
  intro σ x1 x2 x3 x4 x5 x6 H locs ls h hw hl
  unfold wpC_X10_promise_53 at hw
  refine lv_aload_n hx hb dX10_promise_53 rfl (lv_at hl 0 rfl) ?_
  refine gX10_40 E.1 h dX10_promise_54 ?_
  refine lv_iload_n hx hb dX10_promise_57 rfl (lv_at hl 1 rfl) ?_
  refine lv_iload_n hx hb dX10_promise_58 rfl (lv_at hl 2 rfl) ?_
  refine lv_iload_n hx hb dX10_promise_59 rfl (lv_at hl 3 rfl) ?_
  refine lv_iload hx hb dX10_promise_60 (lv_at hl 4 rfl) ?_
  refine lv_iload hx hb dX10_promise_62 (lv_at hl 5 rfl) ?_
  refine lv_iload hx hb dX10_promise_64 (lv_at hl 6 rfl) ?_
  refine x_calli h (z_runVN (WW := CW q cy) (rest := []) E h (cC_X7_add hw) yyX7_add lX10_120 14 rfl rfl ⟨Nat.le_of_ble_eq_true rfl, Nat.le_of_ble_eq_true rfl⟩ rfl rfl hl.1 rfl (Nat.le_of_ble_eq_true rfl) dX10_promise_66 ⟨Nat.le_refl 0, Nat.le_refl 0⟩) (fun r1 σ2 H locs hw h => ?_)
  exact x_iret E.1 h hw dX10_promise_69

def wpC_X10_promise (σ : CS) (x1 : Int32) (x2 : Int32) (x3 : Int32) (x4 : Int32) (x5 : Int32) (x6 : Int32) (Post : Int32 → CS → Prop) : Prop := wpC_X10_areTwoPersons σ x1 x2 (fun r1 σ2 => (r1 = 0 → Post ((-1)) σ2) ∧ (¬ r1 = 0 → wpC_X10_isPlace σ2 x3 (fun r4 σ5 => (r4 = 0 → Post ((-1)) σ5) ∧ (¬ r4 = 0 → wpC_X10_isDay σ5 x4 (fun r7 σ8 => (r7 = 0 → Post ((-1)) σ8) ∧ (¬ r7 = 0 → (x5 < 0 → Post ((-1)) σ8) ∧ (¬ x5 < 0 → (x5 ≤ 1 → (x6 = ((-1)) → wpC_X10_promise_53 Post σ8 x1 x2 x3 x4 x5 x6) ∧ (¬ x6 = ((-1)) → wpC_X10_isCondition σ8 x6 (fun r13 σ14 => (r13 = 0 → Post ((-1)) σ14) ∧ (¬ r13 = 0 → wpC_X10_promise_53 Post σ14 x1 x2 x3 x4 x5 x6)))) ∧ (¬ x5 ≤ 1 → Post ((-1)) σ8))))))))
set_option maxHeartbeats 1000000 in
set_option maxRecDepth 20000 in
theorem cC_X10_promise {l : Launch} {D : va_G} {cy : Nat → ClassId} {ks : Nat × Nat × Option Nat} {q : Nat → Nat} {σ : CS} {sz : Nat} {x1 : Int32} {x2 : Int32} {x3 : Int32} {x4 : Int32} {x5 : Int32} {x6 : Int32} {Post : Int32 → CS → Prop} (hw : wpC_X10_promise σ x1 x2 x3 x4 x5 x6 Post) : Met l yX10_promise (Cond.code yX10_promise cX10_promise 7 (some .int) :: wsA) rC_X10_promise (zPc D cy ks (CW q cy σ) sz [.ref (q 0), .int x1, .int x2, .int x3, .int x4, .int x5, .int x6]) (va_Qi Post (xB D cy (CW q cy) (va_A (CW q cy σ) sz)) (va_A (CW q cy σ) sz)) 0 0 (va_A (CW q cy σ) sz) := by
  refine z_enter (own := RX10) (WW := CW q cy) (by decide) rfl (Nat.le_of_ble_eq_true rfl) ?_
  intro p e s m below meth c ls E h hl
  have hx := E.1.1
  have hb := E.1.2.1
  have hl : lv_has ls 7 [(0, .ref (q 0)), (1, .int x1), (2, .int x2), (3, .int x3), (4, .int x4), (5, .int x5), (6, .int x6)] := hl
  unfold wpC_X10_promise at hw
  refine lv_aload_n hx hb dX10_promise_0 rfl (lv_at hl 0 rfl) ?_
  refine lv_iload_n hx hb dX10_promise_1 rfl (lv_at hl 1 rfl) ?_
  refine lv_iload_n hx hb dX10_promise_2 rfl (lv_at hl 2 rfl) ?_
  refine x_calli h (z_runV (WW := CW q cy) (rest := []) E h (cC_X10_areTwoPersons hw) yyX10_areTwoPersons lX10_114 0 rfl rfl ⟨Nat.le_of_ble_eq_true rfl, Nat.le_of_ble_eq_true rfl⟩ rfl rfl hl.1 rfl (Nat.le_of_ble_eq_true rfl) dX10_promise_3 ⟨Nat.le_refl 0, Nat.le_refl 0⟩) (fun r1 σ2 H locs hw h => ?_)
  refine lv_if_eq (tgt := 35) hx hb dX10_promise_6 (by decide) (fun c3 => ?_) (fun c3 => ?_)
  · have hw := hw.1 c3
    refine lv_iconst (v := (-1)) hx hb dX10_promise_35 (by decide) ?_
    exact x_iret E.1 h hw dX10_promise_36
  · have hw := hw.2 c3
    refine lv_iload_n hx hb dX10_promise_9 rfl (lv_at hl 3 rfl) ?_
    refine x_calli h (z_runS (WW := CW q cy) (rest := []) E h (cC_X10_isPlace hw) yyX10_isPlace lX10_82 ⟨Nat.le_of_ble_eq_true rfl, Nat.le_of_ble_eq_true rfl⟩ rfl rfl hl.1 rfl (Nat.le_of_ble_eq_true rfl) dX10_promise_10 ⟨Nat.le_refl 0, Nat.le_refl 0⟩) (fun r4 σ5 H locs hw h => ?_)
    refine lv_if_eq (tgt := 35) hx hb dX10_promise_13 (by decide) (fun c6 => ?_) (fun c6 => ?_)
    · have hw := hw.1 c6
      refine lv_iconst (v := (-1)) hx hb dX10_promise_35 (by decide) ?_
      exact x_iret E.1 h hw dX10_promise_36
    · have hw := hw.2 c6
      refine lv_iload hx hb dX10_promise_16 (lv_at hl 4 rfl) ?_
      refine x_calli h (z_runS (WW := CW q cy) (rest := []) E h (cC_X10_isDay hw) yyX10_isDay lX10_86 ⟨Nat.le_of_ble_eq_true rfl, Nat.le_of_ble_eq_true rfl⟩ rfl rfl hl.1 rfl (Nat.le_of_ble_eq_true rfl) dX10_promise_18 ⟨Nat.le_refl 0, Nat.le_refl 0⟩) (fun r7 σ8 H locs hw h => ?_)
      refine lv_if_eq (tgt := 35) hx hb dX10_promise_21 (by decide) (fun c9 => ?_) (fun c9 => ?_)
      · have hw := hw.1 c9
        refine lv_iconst (v := (-1)) hx hb dX10_promise_35 (by decide) ?_
        exact x_iret E.1 h hw dX10_promise_36
      · have hw := hw.2 c9
        refine lv_iload hx hb dX10_promise_24 (lv_at hl 5 rfl) ?_
        refine lv_if_lt (tgt := 35) hx hb dX10_promise_26 (by decide) (fun c10 => ?_) (fun c10 => ?_)
        · have hw := hw.1 c10
          refine lv_iconst (v := (-1)) hx hb dX10_promise_35 (by decide) ?_
          exact x_iret E.1 h hw dX10_promise_36
        · have hw := hw.2 c10
          refine lv_iload hx hb dX10_promise_29 (lv_at hl 5 rfl) ?_
          refine lv_iconst (v := 1) hx hb dX10_promise_31 (by decide) ?_
          refine lv_icmp_le (tgt := 37) hx hb dX10_promise_32 (by decide) (fun c11 => ?_) (fun c11 => ?_)
          · have hw := hw.1 c11
            refine lv_iload hx hb dX10_promise_37 (lv_at hl 6 rfl) ?_
            refine lv_iconst (v := (-1)) hx hb dX10_promise_39 (by decide) ?_
            refine lv_icmp_eq (tgt := 53) hx hb dX10_promise_40 (by decide) (fun c12 => ?_) (fun c12 => ?_)
            · have hw := hw.1 c12
              exact wkC_X10_promise_53 E _ _ _ _ _ _ _ _ _ _ h hw (lv_sub hl [0, 1, 2, 3, 4, 5, 6] rfl)
            · have hw := hw.2 c12
              refine lv_iload hx hb dX10_promise_43 (lv_at hl 6 rfl) ?_
              refine x_calli h (z_runS (WW := CW q cy) (rest := []) E h (cC_X10_isCondition hw) yyX10_isCondition lX10_117 ⟨Nat.le_of_ble_eq_true rfl, Nat.le_of_ble_eq_true rfl⟩ rfl rfl hl.1 rfl (Nat.le_of_ble_eq_true rfl) dX10_promise_45 ⟨Nat.le_refl 0, Nat.le_refl 0⟩) (fun r13 σ14 H locs hw h => ?_)
              refine lv_if_ne (tgt := 53) hx hb dX10_promise_48 (by decide) (fun c15 => ?_) (fun c15 => ?_)
              · have hw := hw.2 c15
                exact wkC_X10_promise_53 E _ _ _ _ _ _ _ _ _ _ h hw (lv_sub hl [0, 1, 2, 3, 4, 5, 6] rfl)
              · have hw := hw.1 c15
                refine lv_iconst (v := (-1)) hx hb dX10_promise_51 (by decide) ?_
                exact x_iret E.1 h hw dX10_promise_52
          · have hw := hw.2 c11
            refine lv_iconst (v := (-1)) hx hb dX10_promise_35 (by decide) ?_
            exact x_iret E.1 h hw dX10_promise_36

abbrev rC_X10_isPromise : Room := { frames := 0, cells := 0, slots := 0, locals := 0 }
def wpC_X10_isPromise (σ : CS) (x1 : Int32) (Post : Int32 → CS → Prop) : Prop := (x1 < 0 → Post 0 σ) ∧ (¬ x1 < 0 → ((σ.1 286) ≤ x1 → Post 0 σ) ∧ (¬ (σ.1 286) ≤ x1 → Post 1 σ))
set_option maxHeartbeats 1000000 in
set_option maxRecDepth 20000 in
theorem cC_X10_isPromise {l : Launch} {D : va_G} {cy : Nat → ClassId} {ks : Nat × Nat × Option Nat} {q : Nat → Nat} {σ : CS} {sz : Nat} {x1 : Int32} {Post : Int32 → CS → Prop} (hw : wpC_X10_isPromise σ x1 Post) : Met l yX10_isPromise (Cond.code yX10_isPromise cX10_isPromise 2 (some .boolean) :: wsA) rC_X10_isPromise (zPc D cy ks (CW q cy σ) sz [.ref (q 0), .int x1]) (va_Qi Post (xB D cy (CW q cy) (va_A (CW q cy σ) sz)) (va_A (CW q cy σ) sz)) 0 0 (va_A (CW q cy σ) sz) := by
  refine z_enter (own := RX10) (WW := CW q cy) (by decide) rfl (Nat.le_of_ble_eq_true rfl) ?_
  intro p e s m below meth c ls E h hl
  have hx := E.1.1
  have hb := E.1.2.1
  have hl : lv_has ls 2 [(0, .ref (q 0)), (1, .int x1)] := hl
  unfold wpC_X10_isPromise at hw
  refine lv_iload_n hx hb dX10_isPromise_0 rfl (lv_at hl 1 rfl) ?_
  refine lv_if_lt (tgt := 19) hx hb dX10_isPromise_1 (by decide) (fun c1 => ?_) (fun c1 => ?_)
  · have hw := hw.1 c1
    refine lv_iconst (v := 0) hx hb dX10_isPromise_19 (by decide) ?_
    exact x_zret E.1 h rfl hw dX10_isPromise_20
  · have hw := hw.2 c1
    refine lv_iload_n hx hb dX10_isPromise_4 rfl (lv_at hl 1 rfl) ?_
    refine lv_aload_n hx hb dX10_isPromise_5 rfl (lv_at hl 0 rfl) ?_
    refine gX10_40 E.1 h dX10_isPromise_6 ?_
    refine gX10_189 E.1 h dX10_isPromise_9 ?_
    refine lv_icmp_ge (tgt := 19) hx hb dX10_isPromise_12 (by decide) (fun c2 => ?_) (fun c2 => ?_)
    · have hw := hw.1 c2
      refine lv_iconst (v := 0) hx hb dX10_isPromise_19 (by decide) ?_
      exact x_zret E.1 h rfl hw dX10_isPromise_20
    · have hw := hw.2 c2
      refine lv_iconst (v := 1) hx hb dX10_isPromise_15 (by decide) ?_
      refine lv_goto (tgt := 20) hx hb dX10_isPromise_16 (by decide) ?_
      exact x_zret E.1 h rfl hw dX10_isPromise_20

abbrev rC_X10_gift : Room := { frames := 1, cells := 0, slots := 0, locals := 23 }
def wpC_X10_gift (σ : CS) (x1 : Int32) (x2 : Int32) (x3 : Int32) (Post : Int32 → CS → Prop) : Prop := wpC_X10_isPromise σ x1 (fun r1 σ2 => (r1 = 0 → Post ((-1)) σ2) ∧ (¬ r1 = 0 → (x2 < 0 → Post ((-1)) σ2) ∧ (¬ x2 < 0 → (1 < x2 → Post ((-1)) σ2) ∧ (¬ 1 < x2 → (x3 < 1 → Post ((-1)) σ2) ∧ (¬ x3 < 1 → (x3 ≤ 1000 → wpC_X2_add σ2 x1 x2 x3 (fun r8 σ9 => Post r8 σ9)) ∧ (¬ x3 ≤ 1000 → Post ((-1)) σ2))))))
set_option maxHeartbeats 1000000 in
set_option maxRecDepth 20000 in
theorem cC_X10_gift {l : Launch} {D : va_G} {cy : Nat → ClassId} {ks : Nat × Nat × Option Nat} {q : Nat → Nat} {σ : CS} {sz : Nat} {x1 : Int32} {x2 : Int32} {x3 : Int32} {Post : Int32 → CS → Prop} (hw : wpC_X10_gift σ x1 x2 x3 Post) : Met l yX10_gift (Cond.code yX10_gift cX10_gift 4 (some .int) :: wsA) rC_X10_gift (zPc D cy ks (CW q cy σ) sz [.ref (q 0), .int x1, .int x2, .int x3]) (va_Qi Post (xB D cy (CW q cy) (va_A (CW q cy σ) sz)) (va_A (CW q cy σ) sz)) 0 0 (va_A (CW q cy σ) sz) := by
  refine z_enter (own := RX10) (WW := CW q cy) (by decide) rfl (Nat.le_of_ble_eq_true rfl) ?_
  intro p e s m below meth c ls E h hl
  have hx := E.1.1
  have hb := E.1.2.1
  have hl : lv_has ls 4 [(0, .ref (q 0)), (1, .int x1), (2, .int x2), (3, .int x3)] := hl
  unfold wpC_X10_gift at hw
  refine lv_aload_n hx hb dX10_gift_0 rfl (lv_at hl 0 rfl) ?_
  refine lv_iload_n hx hb dX10_gift_1 rfl (lv_at hl 1 rfl) ?_
  refine x_calli h (z_runV (WW := CW q cy) (rest := []) E h (cC_X10_isPromise hw) yyX10_isPromise lX10_123 0 rfl rfl ⟨Nat.le_of_ble_eq_true rfl, Nat.le_of_ble_eq_true rfl⟩ rfl rfl hl.1 rfl (Nat.le_of_ble_eq_true rfl) dX10_gift_2 ⟨Nat.le_refl 0, Nat.le_refl 0⟩) (fun r1 σ2 H locs hw h => ?_)
  refine lv_if_eq (tgt := 29) hx hb dX10_gift_5 (by decide) (fun c3 => ?_) (fun c3 => ?_)
  · have hw := hw.1 c3
    refine lv_iconst (v := (-1)) hx hb dX10_gift_29 (by decide) ?_
    exact x_iret E.1 h hw dX10_gift_30
  · have hw := hw.2 c3
    refine lv_iload_n hx hb dX10_gift_8 rfl (lv_at hl 2 rfl) ?_
    refine lv_if_lt (tgt := 29) hx hb dX10_gift_9 (by decide) (fun c4 => ?_) (fun c4 => ?_)
    · have hw := hw.1 c4
      refine lv_iconst (v := (-1)) hx hb dX10_gift_29 (by decide) ?_
      exact x_iret E.1 h hw dX10_gift_30
    · have hw := hw.2 c4
      refine lv_iload_n hx hb dX10_gift_12 rfl (lv_at hl 2 rfl) ?_
      refine lv_iconst (v := 1) hx hb dX10_gift_13 (by decide) ?_
      refine lv_icmp_gt (tgt := 29) hx hb dX10_gift_14 (by decide) (fun c5 => ?_) (fun c5 => ?_)
      · have hw := hw.1 c5
        refine lv_iconst (v := (-1)) hx hb dX10_gift_29 (by decide) ?_
        exact x_iret E.1 h hw dX10_gift_30
      · have hw := hw.2 c5
        refine lv_iload_n hx hb dX10_gift_17 rfl (lv_at hl 3 rfl) ?_
        refine lv_iconst (v := 1) hx hb dX10_gift_18 (by decide) ?_
        refine lv_icmp_lt (tgt := 29) hx hb dX10_gift_19 (by decide) (fun c6 => ?_) (fun c6 => ?_)
        · have hw := hw.1 c6
          refine lv_iconst (v := (-1)) hx hb dX10_gift_29 (by decide) ?_
          exact x_iret E.1 h hw dX10_gift_30
        · have hw := hw.2 c6
          refine lv_iload_n hx hb dX10_gift_22 rfl (lv_at hl 3 rfl) ?_
          refine lv_sipush (v := 1000) hx hb dX10_gift_23 (by decide) ?_
          refine lv_icmp_le (tgt := 31) hx hb dX10_gift_26 (by decide) (fun c7 => ?_) (fun c7 => ?_)
          · have hw := hw.1 c7
            refine lv_aload_n hx hb dX10_gift_31 rfl (lv_at hl 0 rfl) ?_
            refine gX10_47 E.1 h dX10_gift_32 ?_
            refine lv_iload_n hx hb dX10_gift_35 rfl (lv_at hl 1 rfl) ?_
            refine lv_iload_n hx hb dX10_gift_36 rfl (lv_at hl 2 rfl) ?_
            refine lv_iload_n hx hb dX10_gift_37 rfl (lv_at hl 3 rfl) ?_
            refine x_calli h (z_runVN (WW := CW q cy) (rest := []) E h (cC_X2_add hw) yyX2_add lX10_126 21 rfl rfl ⟨Nat.le_of_ble_eq_true rfl, Nat.le_of_ble_eq_true rfl⟩ rfl rfl hl.1 rfl (Nat.le_of_ble_eq_true rfl) dX10_gift_38 ⟨Nat.le_refl 0, Nat.le_refl 0⟩) (fun r8 σ9 H locs hw h => ?_)
            exact x_iret E.1 h hw dX10_gift_41
          · have hw := hw.2 c7
            refine lv_iconst (v := (-1)) hx hb dX10_gift_29 (by decide) ?_
            exact x_iret E.1 h hw dX10_gift_30

abbrev rC_X10_says : Room := { frames := 1, cells := 0, slots := 0, locals := 24 }
def wpC_X10_says_92 (Post : Int32 → CS → Prop) (σ : CS) (x2 : Int32) (x5 : Int32) (t1 : Int32) : Prop := wpC_X0_add σ t1 x5 x2 0 (fun r1 σ2 => Post r1 σ2)
set_option maxHeartbeats 1000000 in
set_option maxRecDepth 20000 in
theorem wkC_X10_says_92 {Post : Int32 → CS → Prop} (E : zE cX10_says RX10 6 (some .int) D cy ks A p s m args meth c) : ∀ (σ : CS) (x2 : Int32) (x5 : Int32) (t1 : Int32) (H : Heap) (locs : List Loc) (ls : Array Slot), xH D A s (CW q cy σ) H locs → wpC_X10_says_92 Post σ x2 x5 t1 → lv_has ls 6 [(2, .int x2), (5, .int x5)] → W p l e rC_X10_says s m args below meth c H locs 0 0 (MQ below (va_Qi Post (xB D cy (CW q cy) A) A) args s 0 0 A) (F0 m 92 ls [.int t1, .ref (q 25)]) := by
  have hx := E.1.1
  have hb := E.1.2.1
  intro σ x2 x5 t1 H locs ls h hw hl
  unfold wpC_X10_says_92 at hw
  refine lv_iload hx hb dX10_says_92 (lv_at hl 1 rfl) ?_
  refine lv_iload_n hx hb dX10_says_94 rfl (lv_at hl 0 rfl) ?_
  refine lv_iconst (v := 0) hx hb dX10_says_95 (by decide) ?_
  refine x_calli h (z_runVN (WW := CW q cy) (rest := []) E h (cC_X0_add hw) yyX0_add lX10_133 25 rfl rfl ⟨Nat.le_of_ble_eq_true rfl, Nat.le_of_ble_eq_true rfl⟩ rfl rfl hl.1 rfl (Nat.le_of_ble_eq_true rfl) dX10_says_96 ⟨Nat.le_refl 0, Nat.le_refl 0⟩) (fun r1 σ2 H locs hw h => ?_)
  exact x_iret E.1 h hw dX10_says_99

def wpC_X10_says_75 (Post : Int32 → CS → Prop) (σ : CS) (x2 : Int32) (x3 : Int32) (t0 : Int32) : Prop := (x3 = 0 → wpC_X10_says_92 Post σ x2 t0 8) ∧ (¬ x3 = 0 → wpC_X10_says_92 Post σ x2 t0 7)
set_option maxHeartbeats 1000000 in
set_option maxRecDepth 20000 in
theorem wkC_X10_says_75 {Post : Int32 → CS → Prop} (E : zE cX10_says RX10 6 (some .int) D cy ks A p s m args meth c) : ∀ (σ : CS) (x2 : Int32) (x3 : Int32) (t0 : Int32) (H : Heap) (locs : List Loc) (ls : Array Slot), xH D A s (CW q cy σ) H locs → wpC_X10_says_75 Post σ x2 x3 t0 → lv_has ls 6 [(0, .ref (q 0)), (2, .int x2), (3, .int x3)] → W p l e rC_X10_says s m args below meth c H locs 0 0 (MQ below (va_Qi Post (xB D cy (CW q cy) A) A) args s 0 0 A) (F0 m 75 ls [.int t0]) := by
  have hx := E.1.1
  have hb := E.1.2.1
  intro σ x2 x3 t0 H locs ls h hw hl
  unfold wpC_X10_says_75 at hw
  refine lv_istore (lv' := [(5, .int t0), (0, .ref (q 0)), (2, .int x2), (3, .int x3)]) hx hb dX10_says_75 hl (by decide) rfl (fun ls hl => ?_)
  refine lv_aload_n hx hb dX10_says_77 rfl (lv_at hl 1 rfl) ?_
  refine gX10_54 E.1 h dX10_says_78 ?_
  refine lv_iload_n hx hb dX10_says_81 rfl (lv_at hl 3 rfl) ?_
  refine lv_if_eq (tgt := 90) hx hb dX10_says_82 (by decide) (fun c1 => ?_) (fun c1 => ?_)
  · have hw := hw.1 c1
    refine lv_bipush (v := 8) hx hb dX10_says_90 (by decide) ?_
    exact wkC_X10_says_92 E _ _ _ _ _ _ _ h hw (lv_sub hl [2, 0] rfl)
  · have hw := hw.2 c1
    refine lv_bipush (v := 7) hx hb dX10_says_85 (by decide) ?_
    refine lv_goto (tgt := 92) hx hb dX10_says_87 (by decide) ?_
    exact wkC_X10_says_92 E _ _ _ _ _ _ _ h hw (lv_sub hl [2, 0] rfl)

def wpC_X10_says_45 (Post : Int32 → CS → Prop) (σ : CS) (x1 : Int32) (x2 : Int32) (x3 : Int32) (x4 : Int32) : Prop := wpC_X7_binds σ x2 x1 (fun r1 σ2 => (r1 = 0 → (x4 = 0 → wpC_X10_says_75 Post σ2 x2 x3 x1) ∧ (¬ x4 = 0 → wpC_X10_says_75 Post σ2 x2 x3 ((12 + x1) - 100))) ∧ (¬ r1 = 0 → Post ((-1)) σ2))
set_option maxHeartbeats 1000000 in
set_option maxRecDepth 20000 in
theorem wkC_X10_says_45 {Post : Int32 → CS → Prop} (E : zE cX10_says RX10 6 (some .int) D cy ks A p s m args meth c) : ∀ (σ : CS) (x1 : Int32) (x2 : Int32) (x3 : Int32) (x4 : Int32) (H : Heap) (locs : List Loc) (ls : Array Slot), xH D A s (CW q cy σ) H locs → wpC_X10_says_45 Post σ x1 x2 x3 x4 → lv_has ls 6 [(0, .ref (q 0)), (1, .int x1), (2, .int x2), (3, .int x3), (4, .int x4)] → W p l e rC_X10_says s m args below meth c H locs 0 0 (MQ below (va_Qi Post (xB D cy (CW q cy) A) A) args s 0 0 A) (F0 m 45 ls []) := by
  have hx := E.1.1
  have hb := E.1.2.1
  intro σ x1 x2 x3 x4 H locs ls h hw hl
  unfold wpC_X10_says_45 at hw
  refine lv_aload_n hx hb dX10_says_45 rfl (lv_at hl 0 rfl) ?_
  refine gX10_40 E.1 h dX10_says_46 ?_
  refine lv_iload_n hx hb dX10_says_49 rfl (lv_at hl 2 rfl) ?_
  refine lv_iload_n hx hb dX10_says_50 rfl (lv_at hl 1 rfl) ?_
  refine x_calli h (z_runVN (WW := CW q cy) (rest := []) E h (cC_X7_binds hw) yyX7_binds lX10_130 14 rfl rfl ⟨Nat.le_of_ble_eq_true rfl, Nat.le_of_ble_eq_true rfl⟩ rfl rfl hl.1 rfl (Nat.le_of_ble_eq_true rfl) dX10_says_51 ⟨Nat.le_refl 0, Nat.le_refl 0⟩) (fun r1 σ2 H locs hw h => ?_)
  refine lv_if_eq (tgt := 59) hx hb dX10_says_54 (by decide) (fun c3 => ?_) (fun c3 => ?_)
  · have hw := hw.1 c3
    refine lv_iload hx hb dX10_says_59 (lv_at hl 4 rfl) ?_
    refine lv_if_eq (tgt := 74) hx hb dX10_says_61 (by decide) (fun c4 => ?_) (fun c4 => ?_)
    · have hw := hw.1 c4
      refine lv_iload_n hx hb dX10_says_74 rfl (lv_at hl 1 rfl) ?_
      exact wkC_X10_says_75 E _ _ _ _ _ _ _ h hw (lv_sub hl [0, 2, 3] rfl)
    · have hw := hw.2 c4
      refine lv_bipush (v := 12) hx hb dX10_says_64 (by decide) ?_
      refine lv_iload_n hx hb dX10_says_66 rfl (lv_at hl 1 rfl) ?_
      refine lv_iadd hx hb dX10_says_67 ?_
      refine lv_bipush (v := 100) hx hb dX10_says_68 (by decide) ?_
      refine lv_isub hx hb dX10_says_70 ?_
      refine lv_goto (tgt := 75) hx hb dX10_says_71 (by decide) ?_
      exact wkC_X10_says_75 E _ _ _ _ _ _ _ h hw (lv_sub hl [0, 2, 3] rfl)
  · have hw := hw.2 c3
    refine lv_iconst (v := (-1)) hx hb dX10_says_57 (by decide) ?_
    exact x_iret E.1 h hw dX10_says_58

def wpC_X10_says_17 (Post : Int32 → CS → Prop) (σ : CS) (x1 : Int32) (x2 : Int32) (x3 : Int32) (t0 : Int32) : Prop := wpC_X10_isPromise σ x2 (fun r1 σ2 => (r1 = 0 → Post ((-1)) σ2) ∧ (¬ r1 = 0 → (t0 = 0 → wpC_X1_has σ2 x1 (fun r5 σ6 => (r5 = 0 → Post ((-1)) σ6) ∧ (¬ r5 = 0 → wpC_X10_says_45 Post σ6 x1 x2 x3 t0))) ∧ (¬ t0 = 0 → wpC_X10_says_45 Post σ2 x1 x2 x3 t0)))
set_option maxHeartbeats 1000000 in
set_option maxRecDepth 20000 in
theorem wkC_X10_says_17 {Post : Int32 → CS → Prop} (E : zE cX10_says RX10 6 (some .int) D cy ks A p s m args meth c) : ∀ (σ : CS) (x1 : Int32) (x2 : Int32) (x3 : Int32) (t0 : Int32) (H : Heap) (locs : List Loc) (ls : Array Slot), xH D A s (CW q cy σ) H locs → wpC_X10_says_17 Post σ x1 x2 x3 t0 → lv_has ls 6 [(0, .ref (q 0)), (1, .int x1), (2, .int x2), (3, .int x3)] → W p l e rC_X10_says s m args below meth c H locs 0 0 (MQ below (va_Qi Post (xB D cy (CW q cy) A) A) args s 0 0 A) (F0 m 17 ls [.int t0]) := by
  have hx := E.1.1
  have hb := E.1.2.1
  intro σ x1 x2 x3 t0 H locs ls h hw hl
  unfold wpC_X10_says_17 at hw
  refine lv_istore (lv' := [(4, .int t0), (0, .ref (q 0)), (1, .int x1), (2, .int x2), (3, .int x3)]) hx hb dX10_says_17 hl (by decide) rfl (fun ls hl => ?_)
  refine lv_aload_n hx hb dX10_says_19 rfl (lv_at hl 1 rfl) ?_
  refine lv_iload_n hx hb dX10_says_20 rfl (lv_at hl 3 rfl) ?_
  refine x_calli h (z_runV (WW := CW q cy) (rest := []) E h (cC_X10_isPromise hw) yyX10_isPromise lX10_123 0 rfl rfl ⟨Nat.le_of_ble_eq_true rfl, Nat.le_of_ble_eq_true rfl⟩ rfl rfl hl.1 rfl (Nat.le_of_ble_eq_true rfl) dX10_says_21 ⟨Nat.le_refl 0, Nat.le_refl 0⟩) (fun r1 σ2 H locs hw h => ?_)
  refine lv_if_eq (tgt := 43) hx hb dX10_says_24 (by decide) (fun c3 => ?_) (fun c3 => ?_)
  · have hw := hw.1 c3
    refine lv_iconst (v := (-1)) hx hb dX10_says_43 (by decide) ?_
    exact x_iret E.1 h hw dX10_says_44
  · have hw := hw.2 c3
    refine lv_iload hx hb dX10_says_27 (lv_at hl 0 rfl) ?_
    refine lv_if_ne (tgt := 45) hx hb dX10_says_29 (by decide) (fun c4 => ?_) (fun c4 => ?_)
    · have hw := hw.2 c4
      exact wkC_X10_says_45 E _ _ _ _ _ _ _ _ h hw (lv_sub hl [1, 2, 3, 4, 0] rfl)
    · have hw := hw.1 c4
      refine lv_aload_n hx hb dX10_says_32 rfl (lv_at hl 1 rfl) ?_
      refine gX10_33 E.1 h dX10_says_33 ?_
      refine lv_iload_n hx hb dX10_says_36 rfl (lv_at hl 2 rfl) ?_
      refine x_calli h (z_runVN (WW := CW q cy) (rest := []) E h (cC_X1_has hw) yyX1_has lX10_127 8 rfl rfl ⟨Nat.le_of_ble_eq_true rfl, Nat.le_of_ble_eq_true rfl⟩ rfl rfl hl.1 rfl (Nat.le_of_ble_eq_true rfl) dX10_says_37 ⟨Nat.le_refl 0, Nat.le_refl 0⟩) (fun r5 σ6 H locs hw h => ?_)
      refine lv_if_ne (tgt := 45) hx hb dX10_says_40 (by decide) (fun c7 => ?_) (fun c7 => ?_)
      · have hw := hw.2 c7
        exact wkC_X10_says_45 E _ _ _ _ _ _ _ _ h hw (lv_sub hl [1, 2, 3, 4, 0] rfl)
      · have hw := hw.1 c7
        refine lv_iconst (v := (-1)) hx hb dX10_says_43 (by decide) ?_
        exact x_iret E.1 h hw dX10_says_44

def wpC_X10_says_16 (Post : Int32 → CS → Prop) (σ : CS) (x1 : Int32) (x2 : Int32) (x3 : Int32) : Prop := wpC_X10_says_17 Post σ x1 x2 x3 0
set_option maxHeartbeats 1000000 in
set_option maxRecDepth 20000 in
theorem wkC_X10_says_16 {Post : Int32 → CS → Prop} (E : zE cX10_says RX10 6 (some .int) D cy ks A p s m args meth c) : ∀ (σ : CS) (x1 : Int32) (x2 : Int32) (x3 : Int32) (H : Heap) (locs : List Loc) (ls : Array Slot), xH D A s (CW q cy σ) H locs → wpC_X10_says_16 Post σ x1 x2 x3 → lv_has ls 6 [(0, .ref (q 0)), (1, .int x1), (2, .int x2), (3, .int x3)] → W p l e rC_X10_says s m args below meth c H locs 0 0 (MQ below (va_Qi Post (xB D cy (CW q cy) A) A) args s 0 0 A) (F0 m 16 ls []) := by
  have hx := E.1.1
  have hb := E.1.2.1
  intro σ x1 x2 x3 H locs ls h hw hl
  unfold wpC_X10_says_16 at hw
  refine lv_iconst (v := 0) hx hb dX10_says_16 (by decide) ?_
  exact wkC_X10_says_17 E _ _ _ _ _ _ _ _ h hw (lv_sub hl [0, 1, 2, 3] rfl)

def wpC_X10_says (σ : CS) (x1 : Int32) (x2 : Int32) (x3 : Int32) (Post : Int32 → CS → Prop) : Prop := (x1 < 100 → wpC_X10_says_16 Post σ x1 x2 x3) ∧ (¬ x1 < 100 → (119 < x1 → wpC_X10_says_16 Post σ x1 x2 x3) ∧ (¬ 119 < x1 → wpC_X10_says_17 Post σ x1 x2 x3 1))
set_option maxHeartbeats 1000000 in
set_option maxRecDepth 20000 in
theorem cC_X10_says {l : Launch} {D : va_G} {cy : Nat → ClassId} {ks : Nat × Nat × Option Nat} {q : Nat → Nat} {σ : CS} {sz : Nat} {x1 : Int32} {x2 : Int32} {x3 : Int32} {Post : Int32 → CS → Prop} (hw : wpC_X10_says σ x1 x2 x3 Post) : Met l yX10_says (Cond.code yX10_says cX10_says 6 (some .int) :: wsA) rC_X10_says (zPc D cy ks (CW q cy σ) sz [.ref (q 0), .int x1, .int x2, .int x3]) (va_Qi Post (xB D cy (CW q cy) (va_A (CW q cy σ) sz)) (va_A (CW q cy σ) sz)) 0 0 (va_A (CW q cy σ) sz) := by
  refine z_enter (own := RX10) (WW := CW q cy) (by decide) rfl (Nat.le_of_ble_eq_true rfl) ?_
  intro p e s m below meth c ls E h hl
  have hx := E.1.1
  have hb := E.1.2.1
  have hl : lv_has ls 6 [(0, .ref (q 0)), (1, .int x1), (2, .int x2), (3, .int x3)] := hl
  unfold wpC_X10_says at hw
  refine lv_iload_n hx hb dX10_says_0 rfl (lv_at hl 1 rfl) ?_
  refine lv_bipush (v := 100) hx hb dX10_says_1 (by decide) ?_
  refine lv_icmp_lt (tgt := 16) hx hb dX10_says_3 (by decide) (fun c1 => ?_) (fun c1 => ?_)
  · have hw := hw.1 c1
    exact wkC_X10_says_16 E _ _ _ _ _ _ _ h hw (lv_sub hl [0, 1, 2, 3] rfl)
  · have hw := hw.2 c1
    refine lv_iload_n hx hb dX10_says_6 rfl (lv_at hl 1 rfl) ?_
    refine lv_bipush (v := 119) hx hb dX10_says_7 (by decide) ?_
    refine lv_icmp_gt (tgt := 16) hx hb dX10_says_9 (by decide) (fun c2 => ?_) (fun c2 => ?_)
    · have hw := hw.1 c2
      exact wkC_X10_says_16 E _ _ _ _ _ _ _ h hw (lv_sub hl [0, 1, 2, 3] rfl)
    · have hw := hw.2 c2
      refine lv_iconst (v := 1) hx hb dX10_says_12 (by decide) ?_
      refine lv_goto (tgt := 17) hx hb dX10_says_13 (by decide) ?_
      exact wkC_X10_says_17 E _ _ _ _ _ _ _ _ h hw (lv_sub hl [0, 1, 2, 3] rfl)

abbrev rC_X10_fame : Room := { frames := 1, cells := 0, slots := 0, locals := 24 }
def wpC_X10_fame (σ : CS) (x1 : Int32) (Post : Int32 → CS → Prop) : Prop := wpC_X10_isPromise σ x1 (fun r1 σ2 => (r1 = 0 → Post ((-1)) σ2) ∧ (¬ r1 = 0 → wpC_X0_add σ2 9 x1 ((-1)) 0 (fun r4 σ5 => Post r4 σ5)))
set_option maxHeartbeats 1000000 in
set_option maxRecDepth 20000 in
theorem cC_X10_fame {l : Launch} {D : va_G} {cy : Nat → ClassId} {ks : Nat × Nat × Option Nat} {q : Nat → Nat} {σ : CS} {sz : Nat} {x1 : Int32} {Post : Int32 → CS → Prop} (hw : wpC_X10_fame σ x1 Post) : Met l yX10_fame (Cond.code yX10_fame cX10_fame 2 (some .int) :: wsA) rC_X10_fame (zPc D cy ks (CW q cy σ) sz [.ref (q 0), .int x1]) (va_Qi Post (xB D cy (CW q cy) (va_A (CW q cy σ) sz)) (va_A (CW q cy σ) sz)) 0 0 (va_A (CW q cy σ) sz) := by
  refine z_enter (own := RX10) (WW := CW q cy) (by decide) rfl (Nat.le_of_ble_eq_true rfl) ?_
  intro p e s m below meth c ls E h hl
  have hx := E.1.1
  have hb := E.1.2.1
  have hl : lv_has ls 2 [(0, .ref (q 0)), (1, .int x1)] := hl
  unfold wpC_X10_fame at hw
  refine lv_aload_n hx hb dX10_fame_0 rfl (lv_at hl 0 rfl) ?_
  refine lv_iload_n hx hb dX10_fame_1 rfl (lv_at hl 1 rfl) ?_
  refine x_calli h (z_runV (WW := CW q cy) (rest := []) E h (cC_X10_isPromise hw) yyX10_isPromise lX10_123 0 rfl rfl ⟨Nat.le_of_ble_eq_true rfl, Nat.le_of_ble_eq_true rfl⟩ rfl rfl hl.1 rfl (Nat.le_of_ble_eq_true rfl) dX10_fame_2 ⟨Nat.le_refl 0, Nat.le_refl 0⟩) (fun r1 σ2 H locs hw h => ?_)
  refine lv_if_ne (tgt := 10) hx hb dX10_fame_5 (by decide) (fun c3 => ?_) (fun c3 => ?_)
  · have hw := hw.2 c3
    refine lv_aload_n hx hb dX10_fame_10 rfl (lv_at hl 0 rfl) ?_
    refine gX10_54 E.1 h dX10_fame_11 ?_
    refine lv_bipush (v := 9) hx hb dX10_fame_14 (by decide) ?_
    refine lv_iload_n hx hb dX10_fame_16 rfl (lv_at hl 1 rfl) ?_
    refine lv_iconst (v := (-1)) hx hb dX10_fame_17 (by decide) ?_
    refine lv_iconst (v := 0) hx hb dX10_fame_18 (by decide) ?_
    refine x_calli h (z_runVN (WW := CW q cy) (rest := []) E h (cC_X0_add hw) yyX0_add lX10_133 25 rfl rfl ⟨Nat.le_of_ble_eq_true rfl, Nat.le_of_ble_eq_true rfl⟩ rfl rfl hl.1 rfl (Nat.le_of_ble_eq_true rfl) dX10_fame_19 ⟨Nat.le_refl 0, Nat.le_refl 0⟩) (fun r4 σ5 H locs hw h => ?_)
    exact x_iret E.1 h hw dX10_fame_22
  · have hw := hw.1 c3
    refine lv_iconst (v := (-1)) hx hb dX10_fame_8 (by decide) ?_
    exact x_iret E.1 h hw dX10_fame_9

abbrev rC_X10_comes : Room := { frames := 1, cells := 0, slots := 0, locals := 24 }
def wpC_X10_comes_30 (Post : Int32 → CS → Prop) (σ : CS) (x1 : Int32) (x2 : Int32) (t1 : Int32) : Prop := wpC_X0_add σ t1 x1 ((-1)) x2 (fun r1 σ2 => Post r1 σ2)
set_option maxHeartbeats 1000000 in
set_option maxRecDepth 20000 in
theorem wkC_X10_comes_30 {Post : Int32 → CS → Prop} (E : zE cX10_comes RX10 4 (some .int) D cy ks A p s m args meth c) : ∀ (σ : CS) (x1 : Int32) (x2 : Int32) (t1 : Int32) (H : Heap) (locs : List Loc) (ls : Array Slot), xH D A s (CW q cy σ) H locs → wpC_X10_comes_30 Post σ x1 x2 t1 → lv_has ls 4 [(1, .int x1), (2, .int x2)] → W p l e rC_X10_comes s m args below meth c H locs 0 0 (MQ below (va_Qi Post (xB D cy (CW q cy) A) A) args s 0 0 A) (F0 m 30 ls [.int t1, .ref (q 25)]) := by
  have hx := E.1.1
  have hb := E.1.2.1
  intro σ x1 x2 t1 H locs ls h hw hl
  unfold wpC_X10_comes_30 at hw
  refine lv_iload_n hx hb dX10_comes_30 rfl (lv_at hl 0 rfl) ?_
  refine lv_iconst (v := (-1)) hx hb dX10_comes_31 (by decide) ?_
  refine lv_iload_n hx hb dX10_comes_32 rfl (lv_at hl 1 rfl) ?_
  refine x_calli h (z_runVN (WW := CW q cy) (rest := []) E h (cC_X0_add hw) yyX0_add lX10_133 25 rfl rfl ⟨Nat.le_of_ble_eq_true rfl, Nat.le_of_ble_eq_true rfl⟩ rfl rfl hl.1 rfl (Nat.le_of_ble_eq_true rfl) dX10_comes_33 ⟨Nat.le_refl 0, Nat.le_refl 0⟩) (fun r1 σ2 H locs hw h => ?_)
  exact x_iret E.1 h hw dX10_comes_36

def wpC_X10_comes (σ : CS) (x1 : Int32) (x2 : Int32) (x3 : Int32) (Post : Int32 → CS → Prop) : Prop := wpC_X10_isCondition σ x1 (fun r1 σ2 => (r1 = 0 → Post ((-1)) σ2) ∧ (¬ r1 = 0 → wpC_X10_isDay σ2 x2 (fun r4 σ5 => (r4 = 0 → Post ((-1)) σ5) ∧ (¬ r4 = 0 → (x3 = 0 → wpC_X10_comes_30 Post σ5 x1 x2 6) ∧ (¬ x3 = 0 → wpC_X10_comes_30 Post σ5 x1 x2 5)))))
set_option maxHeartbeats 1000000 in
set_option maxRecDepth 20000 in
theorem cC_X10_comes {l : Launch} {D : va_G} {cy : Nat → ClassId} {ks : Nat × Nat × Option Nat} {q : Nat → Nat} {σ : CS} {sz : Nat} {x1 : Int32} {x2 : Int32} {x3 : Int32} {Post : Int32 → CS → Prop} (hw : wpC_X10_comes σ x1 x2 x3 Post) : Met l yX10_comes (Cond.code yX10_comes cX10_comes 4 (some .int) :: wsA) rC_X10_comes (zPc D cy ks (CW q cy σ) sz [.ref (q 0), .int x1, .int x2, .int x3]) (va_Qi Post (xB D cy (CW q cy) (va_A (CW q cy σ) sz)) (va_A (CW q cy σ) sz)) 0 0 (va_A (CW q cy σ) sz) := by
  refine z_enter (own := RX10) (WW := CW q cy) (by decide) rfl (Nat.le_of_ble_eq_true rfl) ?_
  intro p e s m below meth c ls E h hl
  have hx := E.1.1
  have hb := E.1.2.1
  have hl : lv_has ls 4 [(0, .ref (q 0)), (1, .int x1), (2, .int x2), (3, .int x3)] := hl
  unfold wpC_X10_comes at hw
  refine lv_iload_n hx hb dX10_comes_0 rfl (lv_at hl 1 rfl) ?_
  refine x_calli h (z_runS (WW := CW q cy) (rest := []) E h (cC_X10_isCondition hw) yyX10_isCondition lX10_117 ⟨Nat.le_of_ble_eq_true rfl, Nat.le_of_ble_eq_true rfl⟩ rfl rfl hl.1 rfl (Nat.le_of_ble_eq_true rfl) dX10_comes_1 ⟨Nat.le_refl 0, Nat.le_refl 0⟩) (fun r1 σ2 H locs hw h => ?_)
  refine lv_if_eq (tgt := 14) hx hb dX10_comes_4 (by decide) (fun c3 => ?_) (fun c3 => ?_)
  · have hw := hw.1 c3
    refine lv_iconst (v := (-1)) hx hb dX10_comes_14 (by decide) ?_
    exact x_iret E.1 h hw dX10_comes_15
  · have hw := hw.2 c3
    refine lv_iload_n hx hb dX10_comes_7 rfl (lv_at hl 2 rfl) ?_
    refine x_calli h (z_runS (WW := CW q cy) (rest := []) E h (cC_X10_isDay hw) yyX10_isDay lX10_86 ⟨Nat.le_of_ble_eq_true rfl, Nat.le_of_ble_eq_true rfl⟩ rfl rfl hl.1 rfl (Nat.le_of_ble_eq_true rfl) dX10_comes_8 ⟨Nat.le_refl 0, Nat.le_refl 0⟩) (fun r4 σ5 H locs hw h => ?_)
    refine lv_if_ne (tgt := 16) hx hb dX10_comes_11 (by decide) (fun c6 => ?_) (fun c6 => ?_)
    · have hw := hw.2 c6
      refine lv_aload_n hx hb dX10_comes_16 rfl (lv_at hl 0 rfl) ?_
      refine gX10_54 E.1 h dX10_comes_17 ?_
      refine lv_iload_n hx hb dX10_comes_20 rfl (lv_at hl 3 rfl) ?_
      refine lv_if_eq (tgt := 28) hx hb dX10_comes_21 (by decide) (fun c7 => ?_) (fun c7 => ?_)
      · have hw := hw.1 c7
        refine lv_bipush (v := 6) hx hb dX10_comes_28 (by decide) ?_
        exact wkC_X10_comes_30 E _ _ _ _ _ _ _ h hw (lv_sub hl [1, 2] rfl)
      · have hw := hw.2 c7
        refine lv_iconst (v := 5) hx hb dX10_comes_24 (by decide) ?_
        refine lv_goto (tgt := 30) hx hb dX10_comes_25 (by decide) ?_
        exact wkC_X10_comes_30 E _ _ _ _ _ _ _ h hw (lv_sub hl [1, 2] rfl)
    · have hw := hw.1 c6
      refine lv_iconst (v := (-1)) hx hb dX10_comes_14 (by decide) ?_
      exact x_iret E.1 h hw dX10_comes_15

abbrev rC_X10_fate : Room := { frames := 1, cells := 0, slots := 0, locals := 24 }
def wpC_X10_fate (σ : CS) (x1 : Int32) (x2 : Int32) (x3 : Int32) (Post : Int32 → CS → Prop) : Prop := (x1 < 0 → Post ((-1)) σ) ∧ (¬ x1 < 0 → (4 ≤ x1 → Post ((-1)) σ) ∧ (¬ 4 ≤ x1 → wpC_X1_has σ x2 (fun r3 σ4 => (r3 = 0 → Post ((-1)) σ4) ∧ (¬ r3 = 0 → wpC_X10_isDay σ4 x3 (fun r6 σ7 => (r6 = 0 → Post ((-1)) σ7) ∧ (¬ r6 = 0 → wpC_X0_add σ7 x1 x2 ((-1)) x3 (fun r9 σ10 => Post r9 σ10)))))))
set_option maxHeartbeats 1000000 in
set_option maxRecDepth 20000 in
theorem cC_X10_fate {l : Launch} {D : va_G} {cy : Nat → ClassId} {ks : Nat × Nat × Option Nat} {q : Nat → Nat} {σ : CS} {sz : Nat} {x1 : Int32} {x2 : Int32} {x3 : Int32} {Post : Int32 → CS → Prop} (hw : wpC_X10_fate σ x1 x2 x3 Post) : Met l yX10_fate (Cond.code yX10_fate cX10_fate 4 (some .int) :: wsA) rC_X10_fate (zPc D cy ks (CW q cy σ) sz [.ref (q 0), .int x1, .int x2, .int x3]) (va_Qi Post (xB D cy (CW q cy) (va_A (CW q cy σ) sz)) (va_A (CW q cy σ) sz)) 0 0 (va_A (CW q cy σ) sz) := by
  refine z_enter (own := RX10) (WW := CW q cy) (by decide) rfl (Nat.le_of_ble_eq_true rfl) ?_
  intro p e s m below meth c ls E h hl
  have hx := E.1.1
  have hb := E.1.2.1
  have hl : lv_has ls 4 [(0, .ref (q 0)), (1, .int x1), (2, .int x2), (3, .int x3)] := hl
  unfold wpC_X10_fate at hw
  refine lv_iload_n hx hb dX10_fate_0 rfl (lv_at hl 1 rfl) ?_
  refine lv_if_lt (tgt := 27) hx hb dX10_fate_1 (by decide) (fun c1 => ?_) (fun c1 => ?_)
  · have hw := hw.1 c1
    refine lv_iconst (v := (-1)) hx hb dX10_fate_27 (by decide) ?_
    exact x_iret E.1 h hw dX10_fate_28
  · have hw := hw.2 c1
    refine lv_iload_n hx hb dX10_fate_4 rfl (lv_at hl 1 rfl) ?_
    refine lv_iconst (v := 4) hx hb dX10_fate_5 (by decide) ?_
    refine lv_icmp_ge (tgt := 27) hx hb dX10_fate_6 (by decide) (fun c2 => ?_) (fun c2 => ?_)
    · have hw := hw.1 c2
      refine lv_iconst (v := (-1)) hx hb dX10_fate_27 (by decide) ?_
      exact x_iret E.1 h hw dX10_fate_28
    · have hw := hw.2 c2
      refine lv_aload_n hx hb dX10_fate_9 rfl (lv_at hl 0 rfl) ?_
      refine gX10_33 E.1 h dX10_fate_10 ?_
      refine lv_iload_n hx hb dX10_fate_13 rfl (lv_at hl 2 rfl) ?_
      refine x_calli h (z_runVN (WW := CW q cy) (rest := []) E h (cC_X1_has hw) yyX1_has lX10_127 8 rfl rfl ⟨Nat.le_of_ble_eq_true rfl, Nat.le_of_ble_eq_true rfl⟩ rfl rfl hl.1 rfl (Nat.le_of_ble_eq_true rfl) dX10_fate_14 ⟨Nat.le_refl 0, Nat.le_refl 0⟩) (fun r3 σ4 H locs hw h => ?_)
      refine lv_if_eq (tgt := 27) hx hb dX10_fate_17 (by decide) (fun c5 => ?_) (fun c5 => ?_)
      · have hw := hw.1 c5
        refine lv_iconst (v := (-1)) hx hb dX10_fate_27 (by decide) ?_
        exact x_iret E.1 h hw dX10_fate_28
      · have hw := hw.2 c5
        refine lv_iload_n hx hb dX10_fate_20 rfl (lv_at hl 3 rfl) ?_
        refine x_calli h (z_runS (WW := CW q cy) (rest := []) E h (cC_X10_isDay hw) yyX10_isDay lX10_86 ⟨Nat.le_of_ble_eq_true rfl, Nat.le_of_ble_eq_true rfl⟩ rfl rfl hl.1 rfl (Nat.le_of_ble_eq_true rfl) dX10_fate_21 ⟨Nat.le_refl 0, Nat.le_refl 0⟩) (fun r6 σ7 H locs hw h => ?_)
        refine lv_if_ne (tgt := 29) hx hb dX10_fate_24 (by decide) (fun c8 => ?_) (fun c8 => ?_)
        · have hw := hw.2 c8
          refine lv_aload_n hx hb dX10_fate_29 rfl (lv_at hl 0 rfl) ?_
          refine gX10_54 E.1 h dX10_fate_30 ?_
          refine lv_iload_n hx hb dX10_fate_33 rfl (lv_at hl 1 rfl) ?_
          refine lv_iload_n hx hb dX10_fate_34 rfl (lv_at hl 2 rfl) ?_
          refine lv_iconst (v := (-1)) hx hb dX10_fate_35 (by decide) ?_
          refine lv_iload_n hx hb dX10_fate_36 rfl (lv_at hl 3 rfl) ?_
          refine x_calli h (z_runVN (WW := CW q cy) (rest := []) E h (cC_X0_add hw) yyX0_add lX10_133 25 rfl rfl ⟨Nat.le_of_ble_eq_true rfl, Nat.le_of_ble_eq_true rfl⟩ rfl rfl hl.1 rfl (Nat.le_of_ble_eq_true rfl) dX10_fate_37 ⟨Nat.le_refl 0, Nat.le_refl 0⟩) (fun r9 σ10 H locs hw h => ?_)
          exact x_iret E.1 h hw dX10_fate_40
        · have hw := hw.1 c8
          refine lv_iconst (v := (-1)) hx hb dX10_fate_27 (by decide) ?_
          exact x_iret E.1 h hw dX10_fate_28

abbrev rC_X10_leave : Room := { frames := 2, cells := 0, slots := 0, locals := 43 }
def wpC_X10_leave (σ : CS) (x1 : Int32) (x2 : Int32) (x3 : Int32) (Post : Int32 → CS → Prop) : Prop := wpC_X10_areTwoPersons σ x1 x2 (fun r1 σ2 => (r1 = 0 → Post ((-1)) σ2) ∧ (¬ r1 = 0 → wpC_X10_isDay σ2 x3 (fun r4 σ5 => (r4 = 0 → Post ((-1)) σ5) ∧ (¬ r4 = 0 → wpC_X0_add σ5 4 x1 x2 x3 (fun r7 σ8 => Post r7 σ8)))))
set_option maxHeartbeats 1000000 in
set_option maxRecDepth 20000 in
theorem cC_X10_leave {l : Launch} {D : va_G} {cy : Nat → ClassId} {ks : Nat × Nat × Option Nat} {q : Nat → Nat} {σ : CS} {sz : Nat} {x1 : Int32} {x2 : Int32} {x3 : Int32} {Post : Int32 → CS → Prop} (hw : wpC_X10_leave σ x1 x2 x3 Post) : Met l yX10_leave (Cond.code yX10_leave cX10_leave 4 (some .int) :: wsA) rC_X10_leave (zPc D cy ks (CW q cy σ) sz [.ref (q 0), .int x1, .int x2, .int x3]) (va_Qi Post (xB D cy (CW q cy) (va_A (CW q cy σ) sz)) (va_A (CW q cy σ) sz)) 0 0 (va_A (CW q cy σ) sz) := by
  refine z_enter (own := RX10) (WW := CW q cy) (by decide) rfl (Nat.le_of_ble_eq_true rfl) ?_
  intro p e s m below meth c ls E h hl
  have hx := E.1.1
  have hb := E.1.2.1
  have hl : lv_has ls 4 [(0, .ref (q 0)), (1, .int x1), (2, .int x2), (3, .int x3)] := hl
  unfold wpC_X10_leave at hw
  refine lv_aload_n hx hb dX10_leave_0 rfl (lv_at hl 0 rfl) ?_
  refine lv_iload_n hx hb dX10_leave_1 rfl (lv_at hl 1 rfl) ?_
  refine lv_iload_n hx hb dX10_leave_2 rfl (lv_at hl 2 rfl) ?_
  refine x_calli h (z_runV (WW := CW q cy) (rest := []) E h (cC_X10_areTwoPersons hw) yyX10_areTwoPersons lX10_114 0 rfl rfl ⟨Nat.le_of_ble_eq_true rfl, Nat.le_of_ble_eq_true rfl⟩ rfl rfl hl.1 rfl (Nat.le_of_ble_eq_true rfl) dX10_leave_3 ⟨Nat.le_refl 0, Nat.le_refl 0⟩) (fun r1 σ2 H locs hw h => ?_)
  refine lv_if_eq (tgt := 16) hx hb dX10_leave_6 (by decide) (fun c3 => ?_) (fun c3 => ?_)
  · have hw := hw.1 c3
    refine lv_iconst (v := (-1)) hx hb dX10_leave_16 (by decide) ?_
    exact x_iret E.1 h hw dX10_leave_17
  · have hw := hw.2 c3
    refine lv_iload_n hx hb dX10_leave_9 rfl (lv_at hl 3 rfl) ?_
    refine x_calli h (z_runS (WW := CW q cy) (rest := []) E h (cC_X10_isDay hw) yyX10_isDay lX10_86 ⟨Nat.le_of_ble_eq_true rfl, Nat.le_of_ble_eq_true rfl⟩ rfl rfl hl.1 rfl (Nat.le_of_ble_eq_true rfl) dX10_leave_10 ⟨Nat.le_refl 0, Nat.le_refl 0⟩) (fun r4 σ5 H locs hw h => ?_)
    refine lv_if_ne (tgt := 18) hx hb dX10_leave_13 (by decide) (fun c6 => ?_) (fun c6 => ?_)
    · have hw := hw.2 c6
      refine lv_aload_n hx hb dX10_leave_18 rfl (lv_at hl 0 rfl) ?_
      refine gX10_54 E.1 h dX10_leave_19 ?_
      refine lv_iconst (v := 4) hx hb dX10_leave_22 (by decide) ?_
      refine lv_iload_n hx hb dX10_leave_23 rfl (lv_at hl 1 rfl) ?_
      refine lv_iload_n hx hb dX10_leave_24 rfl (lv_at hl 2 rfl) ?_
      refine lv_iload_n hx hb dX10_leave_25 rfl (lv_at hl 3 rfl) ?_
      refine x_calli h (z_runVN (WW := CW q cy) (rest := []) E h (cC_X0_add hw) yyX0_add lX10_133 25 rfl rfl ⟨Nat.le_of_ble_eq_true rfl, Nat.le_of_ble_eq_true rfl⟩ rfl rfl hl.1 rfl (Nat.le_of_ble_eq_true rfl) dX10_leave_26 ⟨Nat.le_refl 0, Nat.le_refl 0⟩) (fun r7 σ8 H locs hw h => ?_)
      exact x_iret E.1 h hw dX10_leave_29
    · have hw := hw.1 c6
      refine lv_iconst (v := (-1)) hx hb dX10_leave_16 (by decide) ?_
      exact x_iret E.1 h hw dX10_leave_17

abbrev rC_X10_degree : Room := { frames := 3, cells := 0, slots := 0, locals := 67 }
def wpC_X10_degree (σ : CS) (x1 : Int32) (x2 : Int32) (Post : Int32 → CS → Prop) : Prop := wpC_X1_has σ x1 (fun r1 σ2 => (r1 = 0 → Post ((-1)) σ2) ∧ (¬ r1 = 0 → wpC_X1_has σ2 x2 (fun r4 σ5 => (r4 = 0 → Post ((-1)) σ5) ∧ (¬ r4 = 0 → wpC_X1_degreeOf σ5 x1 x2 (fun r7 σ8 => Post r7 σ8)))))
set_option maxHeartbeats 1000000 in
set_option maxRecDepth 20000 in
theorem cC_X10_degree {l : Launch} {D : va_G} {cy : Nat → ClassId} {ks : Nat × Nat × Option Nat} {q : Nat → Nat} {σ : CS} {sz : Nat} {x1 : Int32} {x2 : Int32} {Post : Int32 → CS → Prop} (hw : wpC_X10_degree σ x1 x2 Post) : Met l yX10_degree (Cond.code yX10_degree cX10_degree 3 (some .int) :: wsA) rC_X10_degree (zPc D cy ks (CW q cy σ) sz [.ref (q 0), .int x1, .int x2]) (va_Qi Post (xB D cy (CW q cy) (va_A (CW q cy σ) sz)) (va_A (CW q cy σ) sz)) 0 0 (va_A (CW q cy σ) sz) := by
  refine z_enter (own := RX10) (WW := CW q cy) (by decide) rfl (Nat.le_of_ble_eq_true rfl) ?_
  intro p e s m below meth c ls E h hl
  have hx := E.1.1
  have hb := E.1.2.1
  have hl : lv_has ls 3 [(0, .ref (q 0)), (1, .int x1), (2, .int x2)] := hl
  unfold wpC_X10_degree at hw
  refine lv_aload_n hx hb dX10_degree_0 rfl (lv_at hl 0 rfl) ?_
  refine gX10_33 E.1 h dX10_degree_1 ?_
  refine lv_iload_n hx hb dX10_degree_4 rfl (lv_at hl 1 rfl) ?_
  refine x_calli h (z_runVN (WW := CW q cy) (rest := []) E h (cC_X1_has hw) yyX1_has lX10_127 8 rfl rfl ⟨Nat.le_of_ble_eq_true rfl, Nat.le_of_ble_eq_true rfl⟩ rfl rfl hl.1 rfl (Nat.le_of_ble_eq_true rfl) dX10_degree_5 ⟨Nat.le_refl 0, Nat.le_refl 0⟩) (fun r1 σ2 H locs hw h => ?_)
  refine lv_if_eq (tgt := 22) hx hb dX10_degree_8 (by decide) (fun c3 => ?_) (fun c3 => ?_)
  · have hw := hw.1 c3
    refine lv_iconst (v := (-1)) hx hb dX10_degree_22 (by decide) ?_
    exact x_iret E.1 h hw dX10_degree_23
  · have hw := hw.2 c3
    refine lv_aload_n hx hb dX10_degree_11 rfl (lv_at hl 0 rfl) ?_
    refine gX10_33 E.1 h dX10_degree_12 ?_
    refine lv_iload_n hx hb dX10_degree_15 rfl (lv_at hl 2 rfl) ?_
    refine x_calli h (z_runVN (WW := CW q cy) (rest := []) E h (cC_X1_has hw) yyX1_has lX10_127 8 rfl rfl ⟨Nat.le_of_ble_eq_true rfl, Nat.le_of_ble_eq_true rfl⟩ rfl rfl hl.1 rfl (Nat.le_of_ble_eq_true rfl) dX10_degree_16 ⟨Nat.le_refl 0, Nat.le_refl 0⟩) (fun r4 σ5 H locs hw h => ?_)
    refine lv_if_ne (tgt := 24) hx hb dX10_degree_19 (by decide) (fun c6 => ?_) (fun c6 => ?_)
    · have hw := hw.2 c6
      refine lv_aload_n hx hb dX10_degree_24 rfl (lv_at hl 0 rfl) ?_
      refine gX10_33 E.1 h dX10_degree_25 ?_
      refine lv_iload_n hx hb dX10_degree_28 rfl (lv_at hl 1 rfl) ?_
      refine lv_iload_n hx hb dX10_degree_29 rfl (lv_at hl 2 rfl) ?_
      refine x_calli h (z_runVN (WW := CW q cy) (rest := []) E h (cC_X1_degreeOf hw) yyX1_degreeOf lX10_136 8 rfl rfl ⟨Nat.le_of_ble_eq_true rfl, Nat.le_of_ble_eq_true rfl⟩ rfl rfl hl.1 rfl (Nat.le_of_ble_eq_true rfl) dX10_degree_30 ⟨Nat.le_refl 0, Nat.le_refl 0⟩) (fun r7 σ8 H locs hw h => ?_)
      exact x_iret E.1 h hw dX10_degree_33
    · have hw := hw.1 c6
      refine lv_iconst (v := (-1)) hx hb dX10_degree_22 (by decide) ?_
      exact x_iret E.1 h hw dX10_degree_23

abbrev rC_X10_gaps : Room := { frames := 2, cells := 0, slots := 0, locals := 46 }
def wpC_X10_gaps (σ : CS) (x1 : Int32) (Post : Int32 → CS → Prop) : Prop := wpC_X1_has σ x1 (fun r1 σ2 => (r1 = 0 → Post ((-1)) σ2) ∧ (¬ r1 = 0 → wpC_X1_gapsOf σ2 x1 (fun r4 σ5 => Post r4 σ5)))
set_option maxHeartbeats 1000000 in
set_option maxRecDepth 20000 in
theorem cC_X10_gaps {l : Launch} {D : va_G} {cy : Nat → ClassId} {ks : Nat × Nat × Option Nat} {q : Nat → Nat} {σ : CS} {sz : Nat} {x1 : Int32} {Post : Int32 → CS → Prop} (hw : wpC_X10_gaps σ x1 Post) : Met l yX10_gaps (Cond.code yX10_gaps cX10_gaps 2 (some .int) :: wsA) rC_X10_gaps (zPc D cy ks (CW q cy σ) sz [.ref (q 0), .int x1]) (va_Qi Post (xB D cy (CW q cy) (va_A (CW q cy σ) sz)) (va_A (CW q cy σ) sz)) 0 0 (va_A (CW q cy σ) sz) := by
  refine z_enter (own := RX10) (WW := CW q cy) (by decide) rfl (Nat.le_of_ble_eq_true rfl) ?_
  intro p e s m below meth c ls E h hl
  have hx := E.1.1
  have hb := E.1.2.1
  have hl : lv_has ls 2 [(0, .ref (q 0)), (1, .int x1)] := hl
  unfold wpC_X10_gaps at hw
  refine lv_aload_n hx hb dX10_gaps_0 rfl (lv_at hl 0 rfl) ?_
  refine gX10_33 E.1 h dX10_gaps_1 ?_
  refine lv_iload_n hx hb dX10_gaps_4 rfl (lv_at hl 1 rfl) ?_
  refine x_calli h (z_runVN (WW := CW q cy) (rest := []) E h (cC_X1_has hw) yyX1_has lX10_127 8 rfl rfl ⟨Nat.le_of_ble_eq_true rfl, Nat.le_of_ble_eq_true rfl⟩ rfl rfl hl.1 rfl (Nat.le_of_ble_eq_true rfl) dX10_gaps_5 ⟨Nat.le_refl 0, Nat.le_refl 0⟩) (fun r1 σ2 H locs hw h => ?_)
  refine lv_if_ne (tgt := 13) hx hb dX10_gaps_8 (by decide) (fun c3 => ?_) (fun c3 => ?_)
  · have hw := hw.2 c3
    refine lv_aload_n hx hb dX10_gaps_13 rfl (lv_at hl 0 rfl) ?_
    refine gX10_33 E.1 h dX10_gaps_14 ?_
    refine lv_iload_n hx hb dX10_gaps_17 rfl (lv_at hl 1 rfl) ?_
    refine x_calli h (z_runVN (WW := CW q cy) (rest := []) E h (cC_X1_gapsOf hw) yyX1_gapsOf lX10_140 8 rfl rfl ⟨Nat.le_of_ble_eq_true rfl, Nat.le_of_ble_eq_true rfl⟩ rfl rfl hl.1 rfl (Nat.le_of_ble_eq_true rfl) dX10_gaps_18 ⟨Nat.le_refl 0, Nat.le_refl 0⟩) (fun r4 σ5 H locs hw h => ?_)
    exact x_iret E.1 h hw dX10_gaps_21
  · have hw := hw.1 c3
    refine lv_iconst (v := (-1)) hx hb dX10_gaps_11 (by decide) ?_
    exact x_iret E.1 h hw dX10_gaps_12

end CWalk
