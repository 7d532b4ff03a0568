section CWalk
variable {p : Program} {l : Launch} {e : Env} {s : State} {m : MethodId} {args : Array Value} {below : List Frame} {meth : Method} {c : Code} {D : va_G} {cy : Nat → ClassId} {ks : Nat × Nat × Option Nat} {q : Nat → Nat} {A : Nat → Prop}
abbrev rC_X0_add : Room := { frames := 0, cells := 0, slots := 0, locals := 0 }
def wpC_X0_add (σ : CS) (x1 : Int32) (x2 : Int32) (x3 : Int32) (x4 : Int32) (Post : Int32 → CS → Prop) : Prop := ((σ.1 504) < 200 → vp_in (σ.1 504) 200 ∧ ∀ σ2 : CS, σ2 = cA σ 26 (upd (σ.2.1 26) (σ.1 504).toNatClampNeg x1) → vp_in (σ2.1 504) 200 ∧ ∀ σ4 : CS, σ4 = cA σ2 27 (upd (σ2.2.1 27) (σ2.1 504).toNatClampNeg x2) → vp_in (σ4.1 504) 200 ∧ ∀ σ6 : CS, σ6 = cA σ4 28 (upd (σ4.2.1 28) (σ4.1 504).toNatClampNeg x3) → vp_in (σ6.1 504) 200 ∧ ∀ σ8 : CS, σ8 = cA σ6 29 (upd (σ6.2.1 29) (σ6.1 504).toNatClampNeg x4) → ∀ σ10 : CS, σ10 = cF σ8 504 ((σ8.1 504) + 1) → Post ((σ10.1 504) - 1) σ10) ∧ (¬ (σ.1 504) < 200 → Post ((-1)) σ)
set_option maxHeartbeats 1000000 in
set_option maxRecDepth 20000 in
theorem cC_X0_add {l : Launch} {D : va_G} {cy : Nat → ClassId} {ks : Nat × Nat × Option Nat} {q : Nat → Nat} {σ : CS} {sz : Nat} {x1 : Int32} {x2 : Int32} {x3 : Int32} {x4 : Int32} {Post : Int32 → CS → Prop} (hw : wpC_X0_add σ x1 x2 x3 x4 Post) : Met l yX0_add (Cond.code yX0_add cX0_add 5 (some .int) :: wsA) rC_X0_add (zPc D cy ks (CW q cy σ) sz [.ref (q 25), .int x1, .int x2, .int x3, .int x4]) (va_Qi Post (xB D cy (CW q cy) (va_A (CW q cy σ) sz)) (va_A (CW q cy σ) sz)) 0 0 (va_A (CW q cy σ) sz) := by
  refine z_enter (own := RX0) (WW := CW q cy) (by decide) rfl (Nat.le_of_ble_eq_true rfl) ?_
  intro p e s m below meth c ls E h hl
  have hx := E.1.1
  have hb := E.1.2.1
  have hl : lv_has ls 5 [(0, .ref (q 25)), (1, .int x1), (2, .int x2), (3, .int x3), (4, .int x4)] := hl
  unfold wpC_X0_add at hw
  refine lv_aload_n hx hb dX0_add_0 rfl (lv_at hl 0 rfl) ?_
  refine gX0_24 E.1 h dX0_add_1 ?_
  refine lv_sipush (v := 200) hx hb dX0_add_4 (by decide) ?_
  refine lv_icmp_lt (tgt := 12) hx hb dX0_add_7 (by decide) (fun c1 => ?_) (fun c1 => ?_)
  · have hw := hw.1 c1
    refine lv_aload_n hx hb dX0_add_12 rfl (lv_at hl 0 rfl) ?_
    refine gX0_9 E.1 h dX0_add_13 ?_
    refine lv_aload_n hx hb dX0_add_16 rfl (lv_at hl 0 rfl) ?_
    refine gX0_24 E.1 h dX0_add_17 ?_
    refine lv_iload_n hx hb dX0_add_20 rfl (lv_at hl 1 rfl) ?_
    have h3 := hw.1
    have hw := hw.2
    refine sC_26 E.1 h h3 dX0_add_21 (fun σ2 H locs eσ2 h => ?_)
    have hw := hw σ2 eσ2
    refine lv_aload_n hx hb dX0_add_22 rfl (lv_at hl 0 rfl) ?_
    refine gX0_15 E.1 h dX0_add_23 ?_
    refine lv_aload_n hx hb dX0_add_26 rfl (lv_at hl 0 rfl) ?_
    refine gX0_24 E.1 h dX0_add_27 ?_
    refine lv_iload_n hx hb dX0_add_30 rfl (lv_at hl 2 rfl) ?_
    have h5 := hw.1
    have hw := hw.2
    refine sC_27 E.1 h h5 dX0_add_31 (fun σ4 H locs eσ4 h => ?_)
    have hw := hw σ4 eσ4
    refine lv_aload_n hx hb dX0_add_32 rfl (lv_at hl 0 rfl) ?_
    refine gX0_18 E.1 h dX0_add_33 ?_
    refine lv_aload_n hx hb dX0_add_36 rfl (lv_at hl 0 rfl) ?_
    refine gX0_24 E.1 h dX0_add_37 ?_
    refine lv_iload_n hx hb dX0_add_40 rfl (lv_at hl 3 rfl) ?_
    have h7 := hw.1
    have hw := hw.2
    refine sC_28 E.1 h h7 dX0_add_41 (fun σ6 H locs eσ6 h => ?_)
    have hw := hw σ6 eσ6
    refine lv_aload_n hx hb dX0_add_42 rfl (lv_at hl 0 rfl) ?_
    refine gX0_21 E.1 h dX0_add_43 ?_
    refine lv_aload_n hx hb dX0_add_46 rfl (lv_at hl 0 rfl) ?_
    refine gX0_24 E.1 h dX0_add_47 ?_
    refine lv_iload hx hb dX0_add_50 (lv_at hl 4 rfl) ?_
    have h9 := hw.1
    have hw := hw.2
    refine sC_29 E.1 h h9 dX0_add_52 (fun σ8 H locs eσ8 h => ?_)
    have hw := hw σ8 eσ8
    refine lv_aload_n hx hb dX0_add_53 rfl (lv_at hl 0 rfl) ?_
    refine lv_dup hx hb dX0_add_54 rfl ?_
    refine gX0_24 E.1 h dX0_add_55 ?_
    refine lv_iconst (v := 1) hx hb dX0_add_58 (by decide) ?_
    refine lv_iadd hx hb dX0_add_59 ?_
    refine pX0_24 E.1 h dX0_add_60 (fun σ10 H locs eσ10 h => ?_)
    have hw := hw σ10 eσ10
    refine lv_aload_n hx hb dX0_add_63 rfl (lv_at hl 0 rfl) ?_
    refine gX0_24 E.1 h dX0_add_64 ?_
    refine lv_iconst (v := 1) hx hb dX0_add_67 (by decide) ?_
    refine lv_isub hx hb dX0_add_68 ?_
    exact x_iret E.1 h hw dX0_add_69
  · have hw := hw.2 c1
    refine lv_iconst (v := (-1)) hx hb dX0_add_10 (by decide) ?_
    exact x_iret E.1 h hw dX0_add_11

abbrev rC_X0_recall : Room := { frames := 1, cells := 0, slots := 0, locals := 15 }
def wpC_X0_recall (σ : CS) (x1 : Int32) (Post : CS → Prop) : Prop := ∀ y1 : Int32, y1 = (if (σ.1 504) < x1 then (σ.1 504) else x1) → ∀ y2 : Int32, y2 = (if 0 < y1 then y1 else 0) → ∀ σ3 : CS, σ3 = cF σ 505 y2 → Post σ3
set_option maxHeartbeats 1000000 in
set_option maxRecDepth 20000 in
theorem cC_X0_recall {l : Launch} {D : va_G} {cy : Nat → ClassId} {ks : Nat × Nat × Option Nat} {q : Nat → Nat} {σ : CS} {sz : Nat} {x1 : Int32} {Post : CS → Prop} (hw : wpC_X0_recall σ x1 Post) : Met l yX0_recall (Cond.code yX0_recall cX0_recall 2 none :: wsA) rC_X0_recall (zPc D cy ks (CW q cy σ) sz [.ref (q 25), .int x1]) (va_Qv Post (xB D cy (CW q cy) (va_A (CW q cy σ) sz)) (va_A (CW q cy σ) sz)) 0 0 (va_A (CW q cy σ) sz) := by
  refine z_enter (own := RX0) (WW := CW q cy) (by decide) rfl (Nat.le_of_ble_eq_true rfl) ?_
  intro p e s m below meth c ls E h hl
  have hx := E.1.1
  have hb := E.1.2.1
  have hl : lv_has ls 2 [(0, .ref (q 25)), (1, .int x1)] := hl
  unfold wpC_X0_recall at hw
  refine lv_aload_n hx hb dX0_recall_0 rfl (lv_at hl 0 rfl) ?_
  refine lv_iconst (v := 0) hx hb dX0_recall_1 (by decide) ?_
  refine lv_iload_n hx hb dX0_recall_2 rfl (lv_at hl 1 rfl) ?_
  refine lv_aload_n hx hb dX0_recall_3 rfl (lv_at hl 0 rfl) ?_
  refine gX0_24 E.1 h dX0_recall_4 ?_
  refine z_min E.1 hl.1 lX0_31 (Nat.le_of_ble_eq_true rfl) (Nat.le_of_ble_eq_true rfl) (Nat.le_refl 0) (Nat.le_refl 0) dX0_recall_7 ?_
  refine lv_topi (fun y1 ey1 => ?_)
  have hw := hw y1 ey1
  refine z_max E.1 hl.1 lX0_37 (Nat.le_of_ble_eq_true rfl) (Nat.le_of_ble_eq_true rfl) (Nat.le_refl 0) (Nat.le_refl 0) dX0_recall_10 ?_
  refine lv_topi (fun y2 ey2 => ?_)
  have hw := hw y2 ey2
  refine pX0_28 E.1 h dX0_recall_13 (fun σ3 H locs eσ3 h => ?_)
  have hw := hw σ3 eσ3
  exact x_vret E.1 h hw dX0_recall_16

abbrev rC_X0_firstDay : Room := { frames := 1, cells := 0, slots := 0, locals := 13 }
def wpC_X0_firstDay_7 (Post : Int32 → CS → Prop) : Nat → CS → Int32 → Int32 → Int32 → Int32 → Prop
  | 0, _, _, _, _, _ => False
  | n + 1, σ, x1, x2, x3, x4 => ((σ.1 505) ≤ x4 → Post x3 σ) ∧ (¬ (σ.1 505) ≤ x4 → vp_in x4 200 ∧ ((σ.2.1 26 x4.toNatClampNeg) = x1 → vp_in x4 200 ∧ ((σ.2.1 27 x4.toNatClampNeg) = x2 → vp_in x4 200 ∧ ∀ y9 : Int32, y9 = (if (σ.2.1 29 x4.toNatClampNeg) < x3 then (σ.2.1 29 x4.toNatClampNeg) else x3) → ∀ y10 : Int32, y10 = x4 + 1 → wpC_X0_firstDay_7 Post n σ x1 x2 y9 y10) ∧ (¬ (σ.2.1 27 x4.toNatClampNeg) = x2 → ∀ y7 : Int32, y7 = x4 + 1 → wpC_X0_firstDay_7 Post n σ x1 x2 x3 y7)) ∧ (¬ (σ.2.1 26 x4.toNatClampNeg) = x1 → ∀ y4 : Int32, y4 = x4 + 1 → wpC_X0_firstDay_7 Post n σ x1 x2 x3 y4))
set_option maxHeartbeats 1000000 in
set_option maxRecDepth 20000 in
theorem wkC_X0_firstDay_7 {Post : Int32 → CS → Prop} (E : zE cX0_firstDay RX0 5 (some .int) D cy ks A p s m args meth c) : ∀ n : Nat, ∀ (σ : CS) (x1 : Int32) (x2 : Int32) (x3 : Int32) (x4 : Int32) (H : Heap) (locs : List Loc) (ls : Array Slot), xH D A s (CW q cy σ) H locs → wpC_X0_firstDay_7 Post n σ x1 x2 x3 x4 → lv_has ls 5 [(0, .ref (q 25)), (1, .int x1), (2, .int x2), (3, .int x3), (4, .int x4)] → W p l e rC_X0_firstDay s m args below meth c H locs 0 0 (MQ below (va_Qi Post (xB D cy (CW q cy) A) A) args s 0 0 A) (F0 m 7 ls []) := by
  have hx := E.1.1
  have hb := E.1.2.1
  intro n
  induction n with
  | zero => intro σ x1 x2 x3 x4 H locs ls h hw hl; exact False.elim hw
  | succ n ih =>
    intro σ x1 x2 x3 x4 H locs ls h hw hl
    refine lv_iload hx hb dX0_firstDay_7 (lv_at hl 4 rfl) ?_
    refine lv_aload_n hx hb dX0_firstDay_9 rfl (lv_at hl 0 rfl) ?_
    refine gX0_28 E.1 h dX0_firstDay_10 ?_
    refine lv_icmp_ge (tgt := 56) hx hb dX0_firstDay_13 (by decide) (fun c1 => ?_) (fun c1 => ?_)
    · have hw := hw.1 c1
      refine lv_iload_n hx hb dX0_firstDay_56 rfl (lv_at hl 3 rfl) ?_
      exact x_iret E.1 h hw dX0_firstDay_57
    · have hw := hw.2 c1
      refine lv_aload_n hx hb dX0_firstDay_16 rfl (lv_at hl 0 rfl) ?_
      refine gX0_9 E.1 h dX0_firstDay_17 ?_
      refine lv_iload hx hb dX0_firstDay_20 (lv_at hl 4 rfl) ?_
      have h2 := hw.1
      have hw := hw.2
      refine aC_26 E.1 h h2 dX0_firstDay_22 ?_
      refine lv_iload_n hx hb dX0_firstDay_23 rfl (lv_at hl 1 rfl) ?_
      refine lv_icmp_ne (tgt := 50) hx hb dX0_firstDay_24 (by decide) (fun c3 => ?_) (fun c3 => ?_)
      · have hw := hw.2 c3
        obtain ⟨y4, ey4⟩ : ∃ z : Int32, z = x4 + 1 := ⟨_, rfl⟩
        have hw := hw y4 ey4
        refine lv_iinc (v := y4) (lv' := [(4, .int y4), (0, .ref (q 25)), (1, .int x1), (2, .int x2), (3, .int x3)]) hx hb dX0_firstDay_50 hl (k := 4) rfl (by rw [ey4]; rfl) (by decide) rfl (fun ls hl => ?_)
        refine lv_goto (tgt := 7) hx hb dX0_firstDay_53 (by decide) ?_
        exact ih _ _ _ _ _ _ _ _ h hw (lv_sub hl [1, 2, 3, 4, 0] rfl)
      · have hw := hw.1 c3
        refine lv_aload_n hx hb dX0_firstDay_27 rfl (lv_at hl 0 rfl) ?_
        refine gX0_15 E.1 h dX0_firstDay_28 ?_
        refine lv_iload hx hb dX0_firstDay_31 (lv_at hl 4 rfl) ?_
        have h5 := hw.1
        have hw := hw.2
        refine aC_27 E.1 h h5 dX0_firstDay_33 ?_
        refine lv_iload_n hx hb dX0_firstDay_34 rfl (lv_at hl 2 rfl) ?_
        refine lv_icmp_ne (tgt := 50) hx hb dX0_firstDay_35 (by decide) (fun c6 => ?_) (fun c6 => ?_)
        · have hw := hw.2 c6
          obtain ⟨y7, ey7⟩ : ∃ z : Int32, z = x4 + 1 := ⟨_, rfl⟩
          have hw := hw y7 ey7
          refine lv_iinc (v := y7) (lv' := [(4, .int y7), (0, .ref (q 25)), (1, .int x1), (2, .int x2), (3, .int x3)]) hx hb dX0_firstDay_50 hl (k := 4) rfl (by rw [ey7]; rfl) (by decide) rfl (fun ls hl => ?_)
          refine lv_goto (tgt := 7) hx hb dX0_firstDay_53 (by decide) ?_
          exact ih _ _ _ _ _ _ _ _ h hw (lv_sub hl [1, 2, 3, 4, 0] rfl)
        · have hw := hw.1 c6
          refine lv_iload_n hx hb dX0_firstDay_38 rfl (lv_at hl 3 rfl) ?_
          refine lv_aload_n hx hb dX0_firstDay_39 rfl (lv_at hl 0 rfl) ?_
          refine gX0_21 E.1 h dX0_firstDay_40 ?_
          refine lv_iload hx hb dX0_firstDay_43 (lv_at hl 4 rfl) ?_
          have h8 := hw.1
          have hw := hw.2
          refine aC_29 E.1 h h8 dX0_firstDay_45 ?_
          refine z_min E.1 hl.1 lX0_31 (Nat.le_of_ble_eq_true rfl) (Nat.le_of_ble_eq_true rfl) (Nat.le_refl 0) (Nat.le_refl 0) dX0_firstDay_46 ?_
          refine lv_topi (fun y9 ey9 => ?_)
          have hw := hw y9 ey9
          refine lv_istore_n (lv' := [(3, .int y9), (0, .ref (q 25)), (1, .int x1), (2, .int x2), (4, .int x4)]) hx hb dX0_firstDay_49 rfl hl (by decide) rfl (fun ls hl => ?_)
          obtain ⟨y10, ey10⟩ : ∃ z : Int32, z = x4 + 1 := ⟨_, rfl⟩
          have hw := hw y10 ey10
          refine lv_iinc (v := y10) (lv' := [(4, .int y10), (3, .int y9), (0, .ref (q 25)), (1, .int x1), (2, .int x2)]) hx hb dX0_firstDay_50 hl (k := 4) rfl (by rw [ey10]; rfl) (by decide) rfl (fun ls hl => ?_)
          refine lv_goto (tgt := 7) hx hb dX0_firstDay_53 (by decide) ?_
          exact ih _ _ _ _ _ _ _ _ h hw (lv_sub hl [2, 3, 4, 1, 0] rfl)

def wpC_X0_firstDay (σ : CS) (x1 : Int32) (x2 : Int32) (Post : Int32 → CS → Prop) : Prop := ∃ g, wpC_X0_firstDay_7 Post g σ x1 x2 10000 0
set_option maxHeartbeats 1000000 in
set_option maxRecDepth 20000 in
theorem cC_X0_firstDay {l : Launch} {D : va_G} {cy : Nat → ClassId} {ks : Nat × Nat × Option Nat} {q : Nat → Nat} {σ : CS} {sz : Nat} {x1 : Int32} {x2 : Int32} {Post : Int32 → CS → Prop} (hw : wpC_X0_firstDay σ x1 x2 Post) : Met l yX0_firstDay (Cond.code yX0_firstDay cX0_firstDay 5 (some .int) :: wsA) rC_X0_firstDay (zPc D cy ks (CW q cy σ) sz [.ref (q 25), .int x1, .int x2]) (va_Qi Post (xB D cy (CW q cy) (va_A (CW q cy σ) sz)) (va_A (CW q cy σ) sz)) 0 0 (va_A (CW q cy σ) sz) := by
  refine z_enter (own := RX0) (WW := CW q cy) (by decide) rfl (Nat.le_of_ble_eq_true rfl) ?_
  intro p e s m below meth c ls E h hl
  have hx := E.1.1
  have hb := E.1.2.1
  have hl : lv_has ls 5 [(0, .ref (q 25)), (1, .int x1), (2, .int x2)] := hl
  unfold wpC_X0_firstDay at hw
  refine lv_sipush (v := 10000) hx hb dX0_firstDay_0 (by decide) ?_
  refine lv_istore_n (lv' := [(3, .int 10000), (0, .ref (q 25)), (1, .int x1), (2, .int x2)]) hx hb dX0_firstDay_3 rfl hl (by decide) rfl (fun ls hl => ?_)
  refine lv_iconst (v := 0) hx hb dX0_firstDay_4 (by decide) ?_
  refine lv_istore (lv' := [(4, .int 0), (3, .int 10000), (0, .ref (q 25)), (1, .int x1), (2, .int x2)]) hx hb dX0_firstDay_5 hl (by decide) rfl (fun ls hl => ?_)
  obtain ⟨g, hw⟩ := hw
  exact wkC_X0_firstDay_7 E g _ _ _ _ _ _ _ _ h hw (lv_sub hl [2, 3, 4, 1, 0] rfl)

abbrev rC_X0_firstLeave : Room := { frames := 1, cells := 0, slots := 0, locals := 13 }
def wpC_X0_firstLeave_65 (K7 : CS → Int32 → Int32 → Int32 → Int32 → Prop) (Post : Int32 → CS → Prop) (σ : CS) (x1 : Int32) (x2 : Int32) (x3 : Int32) (x4 : Int32) (t0 : Int32) : Prop := vp_in x4 200 ∧ ((σ.2.1 26 x4.toNatClampNeg) = 4 → (t0 = 0 → ∀ y5 : Int32, y5 = x4 + 1 → K7 σ x1 x2 x3 y5) ∧ (¬ t0 = 0 → vp_in x4 200 ∧ ∀ y7 : Int32, y7 = (if (σ.2.1 29 x4.toNatClampNeg) < x3 then (σ.2.1 29 x4.toNatClampNeg) else x3) → ∀ y8 : Int32, y8 = x4 + 1 → K7 σ x1 x2 y7 y8)) ∧ (¬ (σ.2.1 26 x4.toNatClampNeg) = 4 → ∀ y3 : Int32, y3 = x4 + 1 → K7 σ x1 x2 x3 y3)
set_option maxHeartbeats 1000000 in
set_option maxRecDepth 20000 in
theorem wkC_X0_firstLeave_65 {Post : Int32 → CS → Prop} (E : zE cX0_firstLeave RX0 6 (some .int) D cy ks A p s m args meth c) {K7 : CS → Int32 → Int32 → Int32 → Int32 → Prop} (hK7 : ∀ (σ : CS) (x1 : Int32) (x2 : Int32) (x3 : Int32) (x4 : Int32) (H : Heap) (locs : List Loc) (ls : Array Slot), xH D A s (CW q cy σ) H locs → K7 σ x1 x2 x3 x4 → lv_has ls 6 [(0, .ref (q 25)), (1, .int x1), (2, .int x2), (3, .int x3), (4, .int x4)] → W p l e rC_X0_firstLeave s m args below meth c H locs 0 0 (MQ below (va_Qi Post (xB D cy (CW q cy) A) A) args s 0 0 A) (F0 m 7 ls [])) : ∀ (σ : CS) (x1 : Int32) (x2 : Int32) (x3 : Int32) (x4 : Int32) (t0 : Int32) (H : Heap) (locs : List Loc) (ls : Array Slot), xH D A s (CW q cy σ) H locs → wpC_X0_firstLeave_65 K7 Post σ x1 x2 x3 x4 t0 → lv_has ls 6 [(0, .ref (q 25)), (1, .int x1), (2, .int x2), (3, .int x3), (4, .int x4)] → W p l e rC_X0_firstLeave s m args below meth c H locs 0 0 (MQ below (va_Qi Post (xB D cy (CW q cy) A) A) args s 0 0 A) (F0 m 65 ls [.int t0]) := by
  have hx := E.1.1
  have hb := E.1.2.1
  intro σ x1 x2 x3 x4 t0 H locs ls h hw hl
  unfold wpC_X0_firstLeave_65 at hw
  refine lv_istore (lv' := [(5, .int t0), (0, .ref (q 25)), (1, .int x1), (2, .int x2), (3, .int x3), (4, .int x4)]) hx hb dX0_firstLeave_65 hl (by decide) rfl (fun ls hl => ?_)
  refine lv_aload_n hx hb dX0_firstLeave_67 rfl (lv_at hl 1 rfl) ?_
  refine gX0_9 E.1 h dX0_firstLeave_68 ?_
  refine lv_iload hx hb dX0_firstLeave_71 (lv_at hl 5 rfl) ?_
  have h1 := hw.1
  have hw := hw.2
  refine aC_26 E.1 h h1 dX0_firstLeave_73 ?_
  refine lv_iconst (v := 4) hx hb dX0_firstLeave_74 (by decide) ?_
  refine lv_icmp_ne (tgt := 95) hx hb dX0_firstLeave_75 (by decide) (fun c2 => ?_) (fun c2 => ?_)
  · have hw := hw.2 c2
    obtain ⟨y3, ey3⟩ : ∃ z : Int32, z = x4 + 1 := ⟨_, rfl⟩
    have hw := hw y3 ey3
    refine lv_iinc (v := y3) (lv' := [(4, .int y3), (5, .int t0), (0, .ref (q 25)), (1, .int x1), (2, .int x2), (3, .int x3)]) hx hb dX0_firstLeave_95 hl (k := 5) rfl (by rw [ey3]; rfl) (by decide) rfl (fun ls hl => ?_)
    refine lv_goto (tgt := 7) hx hb dX0_firstLeave_98 (by decide) ?_
    exact hK7 _ _ _ _ _ _ _ _ h hw (lv_sub hl [2, 3, 4, 5, 0] rfl)
  · have hw := hw.1 c2
    refine lv_iload hx hb dX0_firstLeave_78 (lv_at hl 0 rfl) ?_
    refine lv_if_eq (tgt := 95) hx hb dX0_firstLeave_80 (by decide) (fun c4 => ?_) (fun c4 => ?_)
    · have hw := hw.1 c4
      obtain ⟨y5, ey5⟩ : ∃ z : Int32, z = x4 + 1 := ⟨_, rfl⟩
      have hw := hw y5 ey5
      refine lv_iinc (v := y5) (lv' := [(4, .int y5), (5, .int t0), (0, .ref (q 25)), (1, .int x1), (2, .int x2), (3, .int x3)]) hx hb dX0_firstLeave_95 hl (k := 5) rfl (by rw [ey5]; rfl) (by decide) rfl (fun ls hl => ?_)
      refine lv_goto (tgt := 7) hx hb dX0_firstLeave_98 (by decide) ?_
      exact hK7 _ _ _ _ _ _ _ _ h hw (lv_sub hl [2, 3, 4, 5, 0] rfl)
    · have hw := hw.2 c4
      refine lv_iload_n hx hb dX0_firstLeave_83 rfl (lv_at hl 4 rfl) ?_
      refine lv_aload_n hx hb dX0_firstLeave_84 rfl (lv_at hl 1 rfl) ?_
      refine gX0_21 E.1 h dX0_firstLeave_85 ?_
      refine lv_iload hx hb dX0_firstLeave_88 (lv_at hl 5 rfl) ?_
      have h6 := hw.1
      have hw := hw.2
      refine aC_29 E.1 h h6 dX0_firstLeave_90 ?_
      refine z_min E.1 hl.1 lX0_31 (Nat.le_of_ble_eq_true rfl) (Nat.le_of_ble_eq_true rfl) (Nat.le_refl 0) (Nat.le_refl 0) dX0_firstLeave_91 ?_
      refine lv_topi (fun y7 ey7 => ?_)
      have hw := hw y7 ey7
      refine lv_istore_n (lv' := [(3, .int y7), (5, .int t0), (0, .ref (q 25)), (1, .int x1), (2, .int x2), (4, .int x4)]) hx hb dX0_firstLeave_94 rfl hl (by decide) rfl (fun ls hl => ?_)
      obtain ⟨y8, ey8⟩ : ∃ z : Int32, z = x4 + 1 := ⟨_, rfl⟩
      have hw := hw y8 ey8
      refine lv_iinc (v := y8) (lv' := [(4, .int y8), (3, .int y7), (5, .int t0), (0, .ref (q 25)), (1, .int x1), (2, .int x2)]) hx hb dX0_firstLeave_95 hl (k := 5) rfl (by rw [ey8]; rfl) (by decide) rfl (fun ls hl => ?_)
      refine lv_goto (tgt := 7) hx hb dX0_firstLeave_98 (by decide) ?_
      exact hK7 _ _ _ _ _ _ _ _ h hw (lv_sub hl [3, 4, 5, 1, 0] rfl)

def wpC_X0_firstLeave_64 (K7 : CS → Int32 → Int32 → Int32 → Int32 → Prop) (Post : Int32 → CS → Prop) (σ : CS) (x1 : Int32) (x2 : Int32) (x3 : Int32) (x4 : Int32) : Prop := wpC_X0_firstLeave_65 K7 Post σ x1 x2 x3 x4 0
set_option maxHeartbeats 1000000 in
set_option maxRecDepth 20000 in
theorem wkC_X0_firstLeave_64 {Post : Int32 → CS → Prop} (E : zE cX0_firstLeave RX0 6 (some .int) D cy ks A p s m args meth c) {K7 : CS → Int32 → Int32 → Int32 → Int32 → Prop} (hK7 : ∀ (σ : CS) (x1 : Int32) (x2 : Int32) (x3 : Int32) (x4 : Int32) (H : Heap) (locs : List Loc) (ls : Array Slot), xH D A s (CW q cy σ) H locs → K7 σ x1 x2 x3 x4 → lv_has ls 6 [(0, .ref (q 25)), (1, .int x1), (2, .int x2), (3, .int x3), (4, .int x4)] → W p l e rC_X0_firstLeave s m args below meth c H locs 0 0 (MQ below (va_Qi Post (xB D cy (CW q cy) A) A) args s 0 0 A) (F0 m 7 ls [])) : ∀ (σ : CS) (x1 : Int32) (x2 : Int32) (x3 : Int32) (x4 : Int32) (H : Heap) (locs : List Loc) (ls : Array Slot), xH D A s (CW q cy σ) H locs → wpC_X0_firstLeave_64 K7 Post σ x1 x2 x3 x4 → lv_has ls 6 [(0, .ref (q 25)), (1, .int x1), (2, .int x2), (3, .int x3), (4, .int x4)] → W p l e rC_X0_firstLeave s m args below meth c H locs 0 0 (MQ below (va_Qi Post (xB D cy (CW q cy) A) A) args s 0 0 A) (F0 m 64 ls []) := by
  have hx := E.1.1
  have hb := E.1.2.1
  intro σ x1 x2 x3 x4 H locs ls h hw hl
  unfold wpC_X0_firstLeave_64 at hw
  refine lv_iconst (v := 0) hx hb dX0_firstLeave_64 (by decide) ?_
  exact wkC_X0_firstLeave_65 E hK7 _ _ _ _ _ _ _ _ _ h hw (lv_sub hl [0, 1, 2, 3, 4] rfl)

def wpC_X0_firstLeave_38 (K7 : CS → Int32 → Int32 → Int32 → Int32 → Prop) (Post : Int32 → CS → Prop) (σ : CS) (x1 : Int32) (x2 : Int32) (x3 : Int32) (x4 : Int32) : Prop := vp_in x4 200 ∧ ((σ.2.1 27 x4.toNatClampNeg) = x2 → vp_in x4 200 ∧ ((σ.2.1 28 x4.toNatClampNeg) = x1 → wpC_X0_firstLeave_65 K7 Post σ x1 x2 x3 x4 1) ∧ (¬ (σ.2.1 28 x4.toNatClampNeg) = x1 → wpC_X0_firstLeave_64 K7 Post σ x1 x2 x3 x4)) ∧ (¬ (σ.2.1 27 x4.toNatClampNeg) = x2 → wpC_X0_firstLeave_64 K7 Post σ x1 x2 x3 x4)
set_option maxHeartbeats 1000000 in
set_option maxRecDepth 20000 in
theorem wkC_X0_firstLeave_38 {Post : Int32 → CS → Prop} (E : zE cX0_firstLeave RX0 6 (some .int) D cy ks A p s m args meth c) {K7 : CS → Int32 → Int32 → Int32 → Int32 → Prop} (hK7 : ∀ (σ : CS) (x1 : Int32) (x2 : Int32) (x3 : Int32) (x4 : Int32) (H : Heap) (locs : List Loc) (ls : Array Slot), xH D A s (CW q cy σ) H locs → K7 σ x1 x2 x3 x4 → lv_has ls 6 [(0, .ref (q 25)), (1, .int x1), (2, .int x2), (3, .int x3), (4, .int x4)] → W p l e rC_X0_firstLeave s m args below meth c H locs 0 0 (MQ below (va_Qi Post (xB D cy (CW q cy) A) A) args s 0 0 A) (F0 m 7 ls [])) : ∀ (σ : CS) (x1 : Int32) (x2 : Int32) (x3 : Int32) (x4 : Int32) (H : Heap) (locs : List Loc) (ls : Array Slot), xH D A s (CW q cy σ) H locs → wpC_X0_firstLeave_38 K7 Post σ x1 x2 x3 x4 → lv_has ls 6 [(0, .ref (q 25)), (1, .int x1), (2, .int x2), (3, .int x3), (4, .int x4)] → W p l e rC_X0_firstLeave s m args below meth c H locs 0 0 (MQ below (va_Qi Post (xB D cy (CW q cy) A) A) args s 0 0 A) (F0 m 38 ls []) := by
  have hx := E.1.1
  have hb := E.1.2.1
  intro σ x1 x2 x3 x4 H locs ls h hw hl
  unfold wpC_X0_firstLeave_38 at hw
  refine lv_aload_n hx hb dX0_firstLeave_38 rfl (lv_at hl 0 rfl) ?_
  refine gX0_15 E.1 h dX0_firstLeave_39 ?_
  refine lv_iload hx hb dX0_firstLeave_42 (lv_at hl 4 rfl) ?_
  have h1 := hw.1
  have hw := hw.2
  refine aC_27 E.1 h h1 dX0_firstLeave_44 ?_
  refine lv_iload_n hx hb dX0_firstLeave_45 rfl (lv_at hl 2 rfl) ?_
  refine lv_icmp_ne (tgt := 64) hx hb dX0_firstLeave_46 (by decide) (fun c2 => ?_) (fun c2 => ?_)
  · have hw := hw.2 c2
    exact wkC_X0_firstLeave_64 E hK7 _ _ _ _ _ _ _ _ h hw (lv_sub hl [0, 1, 2, 3, 4] rfl)
  · have hw := hw.1 c2
    refine lv_aload_n hx hb dX0_firstLeave_49 rfl (lv_at hl 0 rfl) ?_
    refine gX0_18 E.1 h dX0_firstLeave_50 ?_
    refine lv_iload hx hb dX0_firstLeave_53 (lv_at hl 4 rfl) ?_
    have h3 := hw.1
    have hw := hw.2
    refine aC_28 E.1 h h3 dX0_firstLeave_55 ?_
    refine lv_iload_n hx hb dX0_firstLeave_56 rfl (lv_at hl 1 rfl) ?_
    refine lv_icmp_ne (tgt := 64) hx hb dX0_firstLeave_57 (by decide) (fun c4 => ?_) (fun c4 => ?_)
    · have hw := hw.2 c4
      exact wkC_X0_firstLeave_64 E hK7 _ _ _ _ _ _ _ _ h hw (lv_sub hl [0, 1, 2, 3, 4] rfl)
    · have hw := hw.1 c4
      refine lv_iconst (v := 1) hx hb dX0_firstLeave_60 (by decide) ?_
      refine lv_goto (tgt := 65) hx hb dX0_firstLeave_61 (by decide) ?_
      exact wkC_X0_firstLeave_65 E hK7 _ _ _ _ _ _ _ _ _ h hw (lv_sub hl [0, 1, 2, 3, 4] rfl)

def wpC_X0_firstLeave_7 (Post : Int32 → CS → Prop) : Nat → CS → Int32 → Int32 → Int32 → Int32 → Prop
  | 0, _, _, _, _, _ => False
  | n + 1, σ, x1, x2, x3, x4 => ((σ.1 505) ≤ x4 → Post x3 σ) ∧ (¬ (σ.1 505) ≤ x4 → vp_in x4 200 ∧ ((σ.2.1 27 x4.toNatClampNeg) = x1 → vp_in x4 200 ∧ ((σ.2.1 28 x4.toNatClampNeg) = x2 → wpC_X0_firstLeave_65 (fun a0 a1 a2 a3 a4 => wpC_X0_firstLeave_7 Post n a0 a1 a2 a3 a4) Post σ x1 x2 x3 x4 1) ∧ (¬ (σ.2.1 28 x4.toNatClampNeg) = x2 → wpC_X0_firstLeave_38 (fun a0 a1 a2 a3 a4 => wpC_X0_firstLeave_7 Post n a0 a1 a2 a3 a4) Post σ x1 x2 x3 x4)) ∧ (¬ (σ.2.1 27 x4.toNatClampNeg) = x1 → wpC_X0_firstLeave_38 (fun a0 a1 a2 a3 a4 => wpC_X0_firstLeave_7 Post n a0 a1 a2 a3 a4) Post σ x1 x2 x3 x4))
set_option maxHeartbeats 1000000 in
set_option maxRecDepth 20000 in
theorem wkC_X0_firstLeave_7 {Post : Int32 → CS → Prop} (E : zE cX0_firstLeave RX0 6 (some .int) D cy ks A p s m args meth c) : ∀ n : Nat, ∀ (σ : CS) (x1 : Int32) (x2 : Int32) (x3 : Int32) (x4 : Int32) (H : Heap) (locs : List Loc) (ls : Array Slot), xH D A s (CW q cy σ) H locs → wpC_X0_firstLeave_7 Post n σ x1 x2 x3 x4 → lv_has ls 6 [(0, .ref (q 25)), (1, .int x1), (2, .int x2), (3, .int x3), (4, .int x4)] → W p l e rC_X0_firstLeave s m args below meth c H locs 0 0 (MQ below (va_Qi Post (xB D cy (CW q cy) A) A) args s 0 0 A) (F0 m 7 ls []) := by
  have hx := E.1.1
  have hb := E.1.2.1
  intro n
  induction n with
  | zero => intro σ x1 x2 x3 x4 H locs ls h hw hl; exact False.elim hw
  | succ n ih =>
    intro σ x1 x2 x3 x4 H locs ls h hw hl
    refine lv_iload hx hb dX0_firstLeave_7 (lv_at hl 4 rfl) ?_
    refine lv_aload_n hx hb dX0_firstLeave_9 rfl (lv_at hl 0 rfl) ?_
    refine gX0_28 E.1 h dX0_firstLeave_10 ?_
    refine lv_icmp_ge (tgt := 101) hx hb dX0_firstLeave_13 (by decide) (fun c1 => ?_) (fun c1 => ?_)
    · have hw := hw.1 c1
      refine lv_iload_n hx hb dX0_firstLeave_101 rfl (lv_at hl 3 rfl) ?_
      exact x_iret E.1 h hw dX0_firstLeave_102
    · have hw := hw.2 c1
      refine lv_aload_n hx hb dX0_firstLeave_16 rfl (lv_at hl 0 rfl) ?_
      refine gX0_15 E.1 h dX0_firstLeave_17 ?_
      refine lv_iload hx hb dX0_firstLeave_20 (lv_at hl 4 rfl) ?_
      have h2 := hw.1
      have hw := hw.2
      refine aC_27 E.1 h h2 dX0_firstLeave_22 ?_
      refine lv_iload_n hx hb dX0_firstLeave_23 rfl (lv_at hl 1 rfl) ?_
      refine lv_icmp_ne (tgt := 38) hx hb dX0_firstLeave_24 (by decide) (fun c3 => ?_) (fun c3 => ?_)
      · have hw := hw.2 c3
        exact wkC_X0_firstLeave_38 E ih _ _ _ _ _ _ _ _ h hw (lv_sub hl [0, 1, 2, 3, 4] rfl)
      · have hw := hw.1 c3
        refine lv_aload_n hx hb dX0_firstLeave_27 rfl (lv_at hl 0 rfl) ?_
        refine gX0_18 E.1 h dX0_firstLeave_28 ?_
        refine lv_iload hx hb dX0_firstLeave_31 (lv_at hl 4 rfl) ?_
        have h4 := hw.1
        have hw := hw.2
        refine aC_28 E.1 h h4 dX0_firstLeave_33 ?_
        refine lv_iload_n hx hb dX0_firstLeave_34 rfl (lv_at hl 2 rfl) ?_
        refine lv_icmp_eq (tgt := 60) hx hb dX0_firstLeave_35 (by decide) (fun c5 => ?_) (fun c5 => ?_)
        · have hw := hw.1 c5
          refine lv_iconst (v := 1) hx hb dX0_firstLeave_60 (by decide) ?_
          refine lv_goto (tgt := 65) hx hb dX0_firstLeave_61 (by decide) ?_
          exact wkC_X0_firstLeave_65 E ih _ _ _ _ _ _ _ _ _ h hw (lv_sub hl [0, 1, 2, 3, 4] rfl)
        · have hw := hw.2 c5
          exact wkC_X0_firstLeave_38 E ih _ _ _ _ _ _ _ _ h hw (lv_sub hl [0, 1, 2, 3, 4] rfl)

def wpC_X0_firstLeave (σ : CS) (x1 : Int32) (x2 : Int32) (Post : Int32 → CS → Prop) : Prop := ∃ g, wpC_X0_firstLeave_7 Post g σ x1 x2 10000 0
set_option maxHeartbeats 1000000 in
set_option maxRecDepth 20000 in
theorem cC_X0_firstLeave {l : Launch} {D : va_G} {cy : Nat → ClassId} {ks : Nat × Nat × Option Nat} {q : Nat → Nat} {σ : CS} {sz : Nat} {x1 : Int32} {x2 : Int32} {Post : Int32 → CS → Prop} (hw : wpC_X0_firstLeave σ x1 x2 Post) : Met l yX0_firstLeave (Cond.code yX0_firstLeave cX0_firstLeave 6 (some .int) :: wsA) rC_X0_firstLeave (zPc D cy ks (CW q cy σ) sz [.ref (q 25), .int x1, .int x2]) (va_Qi Post (xB D cy (CW q cy) (va_A (CW q cy σ) sz)) (va_A (CW q cy σ) sz)) 0 0 (va_A (CW q cy σ) sz) := by
  refine z_enter (own := RX0) (WW := CW q cy) (by decide) rfl (Nat.le_of_ble_eq_true rfl) ?_
  intro p e s m below meth c ls E h hl
  have hx := E.1.1
  have hb := E.1.2.1
  have hl : lv_has ls 6 [(0, .ref (q 25)), (1, .int x1), (2, .int x2)] := hl
  unfold wpC_X0_firstLeave at hw
  refine lv_sipush (v := 10000) hx hb dX0_firstLeave_0 (by decide) ?_
  refine lv_istore_n (lv' := [(3, .int 10000), (0, .ref (q 25)), (1, .int x1), (2, .int x2)]) hx hb dX0_firstLeave_3 rfl hl (by decide) rfl (fun ls hl => ?_)
  refine lv_iconst (v := 0) hx hb dX0_firstLeave_4 (by decide) ?_
  refine lv_istore (lv' := [(4, .int 0), (3, .int 10000), (0, .ref (q 25)), (1, .int x1), (2, .int x2)]) hx hb dX0_firstLeave_5 hl (by decide) rfl (fun ls hl => ?_)
  obtain ⟨g, hw⟩ := hw
  exact wkC_X0_firstLeave_7 E g _ _ _ _ _ _ _ _ h hw (lv_sub hl [2, 3, 4, 1, 0] rfl)

abbrev rC_X0_famesOf : Room := { frames := 0, cells := 0, slots := 0, locals := 0 }
def wpC_X0_famesOf_4 (Post : Int32 → CS → Prop) : Nat → CS → Int32 → Int32 → Int32 → Prop
  | 0, _, _, _, _ => False
  | n + 1, σ, x1, x2, x3 => ((σ.1 505) ≤ x3 → Post x2 σ) ∧ (¬ (σ.1 505) ≤ x3 → vp_in x3 200 ∧ ((σ.2.1 26 x3.toNatClampNeg) = 9 → vp_in x3 200 ∧ ((σ.2.1 27 x3.toNatClampNeg) = x1 → ∀ y8 : Int32, y8 = x2 + 1 → ∀ y9 : Int32, y9 = x3 + 1 → wpC_X0_famesOf_4 Post n σ x1 y8 y9) ∧ (¬ (σ.2.1 27 x3.toNatClampNeg) = x1 → ∀ y7 : Int32, y7 = x3 + 1 → wpC_X0_famesOf_4 Post n σ x1 x2 y7)) ∧ (¬ (σ.2.1 26 x3.toNatClampNeg) = 9 → ∀ y4 : Int32, y4 = x3 + 1 → wpC_X0_famesOf_4 Post n σ x1 x2 y4))
set_option maxHeartbeats 1000000 in
set_option maxRecDepth 20000 in
theorem wkC_X0_famesOf_4 {Post : Int32 → CS → Prop} (E : zE cX0_famesOf RX0 4 (some .int) D cy ks A p s m args meth c) : ∀ n : Nat, ∀ (σ : CS) (x1 : Int32) (x2 : Int32) (x3 : Int32) (H : Heap) (locs : List Loc) (ls : Array Slot), xH D A s (CW q cy σ) H locs → wpC_X0_famesOf_4 Post n σ x1 x2 x3 → lv_has ls 4 [(0, .ref (q 25)), (1, .int x1), (2, .int x2), (3, .int x3)] → W p l e rC_X0_famesOf s m args below meth c H locs 0 0 (MQ below (va_Qi Post (xB D cy (CW q cy) A) A) args s 0 0 A) (F0 m 4 ls []) := by
  have hx := E.1.1
  have hb := E.1.2.1
  intro n
  induction n with
  | zero => intro σ x1 x2 x3 H locs ls h hw hl; exact False.elim hw
  | succ n ih =>
    intro σ x1 x2 x3 H locs ls h hw hl
    refine lv_iload_n hx hb dX0_famesOf_4 rfl (lv_at hl 3 rfl) ?_
    refine lv_aload_n hx hb dX0_famesOf_5 rfl (lv_at hl 0 rfl) ?_
    refine gX0_28 E.1 h dX0_famesOf_6 ?_
    refine lv_icmp_ge (tgt := 42) hx hb dX0_famesOf_9 (by decide) (fun c1 => ?_) (fun c1 => ?_)
    · have hw := hw.1 c1
      refine lv_iload_n hx hb dX0_famesOf_42 rfl (lv_at hl 2 rfl) ?_
      exact x_iret E.1 h hw dX0_famesOf_43
    · have hw := hw.2 c1
      refine lv_aload_n hx hb dX0_famesOf_12 rfl (lv_at hl 0 rfl) ?_
      refine gX0_9 E.1 h dX0_famesOf_13 ?_
      refine lv_iload_n hx hb dX0_famesOf_16 rfl (lv_at hl 3 rfl) ?_
      have h2 := hw.1
      have hw := hw.2
      refine aC_26 E.1 h h2 dX0_famesOf_17 ?_
      refine lv_bipush (v := 9) hx hb dX0_famesOf_18 (by decide) ?_
      refine lv_icmp_ne (tgt := 36) hx hb dX0_famesOf_20 (by decide) (fun c3 => ?_) (fun c3 => ?_)
      · have hw := hw.2 c3
        obtain ⟨y4, ey4⟩ : ∃ z : Int32, z = x3 + 1 := ⟨_, rfl⟩
        have hw := hw y4 ey4
        refine lv_iinc (v := y4) (lv' := [(3, .int y4), (0, .ref (q 25)), (1, .int x1), (2, .int x2)]) hx hb dX0_famesOf_36 hl (k := 3) rfl (by rw [ey4]; rfl) (by decide) rfl (fun ls hl => ?_)
        refine lv_goto (tgt := 4) hx hb dX0_famesOf_39 (by decide) ?_
        exact ih _ _ _ _ _ _ _ h hw (lv_sub hl [1, 2, 3, 0] rfl)
      · have hw := hw.1 c3
        refine lv_aload_n hx hb dX0_famesOf_23 rfl (lv_at hl 0 rfl) ?_
        refine gX0_15 E.1 h dX0_famesOf_24 ?_
        refine lv_iload_n hx hb dX0_famesOf_27 rfl (lv_at hl 3 rfl) ?_
        have h5 := hw.1
        have hw := hw.2
        refine aC_27 E.1 h h5 dX0_famesOf_28 ?_
        refine lv_iload_n hx hb dX0_famesOf_29 rfl (lv_at hl 1 rfl) ?_
        refine lv_icmp_ne (tgt := 36) hx hb dX0_famesOf_30 (by decide) (fun c6 => ?_) (fun c6 => ?_)
        · have hw := hw.2 c6
          obtain ⟨y7, ey7⟩ : ∃ z : Int32, z = x3 + 1 := ⟨_, rfl⟩
          have hw := hw y7 ey7
          refine lv_iinc (v := y7) (lv' := [(3, .int y7), (0, .ref (q 25)), (1, .int x1), (2, .int x2)]) hx hb dX0_famesOf_36 hl (k := 3) rfl (by rw [ey7]; rfl) (by decide) rfl (fun ls hl => ?_)
          refine lv_goto (tgt := 4) hx hb dX0_famesOf_39 (by decide) ?_
          exact ih _ _ _ _ _ _ _ h hw (lv_sub hl [1, 2, 3, 0] rfl)
        · have hw := hw.1 c6
          obtain ⟨y8, ey8⟩ : ∃ z : Int32, z = x2 + 1 := ⟨_, rfl⟩
          have hw := hw y8 ey8
          refine lv_iinc (v := y8) (lv' := [(2, .int y8), (0, .ref (q 25)), (1, .int x1), (3, .int x3)]) hx hb dX0_famesOf_33 hl (k := 2) rfl (by rw [ey8]; rfl) (by decide) rfl (fun ls hl => ?_)
          obtain ⟨y9, ey9⟩ : ∃ z : Int32, z = x3 + 1 := ⟨_, rfl⟩
          have hw := hw y9 ey9
          refine lv_iinc (v := y9) (lv' := [(3, .int y9), (2, .int y8), (0, .ref (q 25)), (1, .int x1)]) hx hb dX0_famesOf_36 hl (k := 3) rfl (by rw [ey9]; rfl) (by decide) rfl (fun ls hl => ?_)
          refine lv_goto (tgt := 4) hx hb dX0_famesOf_39 (by decide) ?_
          exact ih _ _ _ _ _ _ _ h hw (lv_sub hl [2, 3, 1, 0] rfl)

def wpC_X0_famesOf (σ : CS) (x1 : Int32) (Post : Int32 → CS → Prop) : Prop := ∃ g, wpC_X0_famesOf_4 Post g σ x1 0 0
set_option maxHeartbeats 1000000 in
set_option maxRecDepth 20000 in
theorem cC_X0_famesOf {l : Launch} {D : va_G} {cy : Nat → ClassId} {ks : Nat × Nat × Option Nat} {q : Nat → Nat} {σ : CS} {sz : Nat} {x1 : Int32} {Post : Int32 → CS → Prop} (hw : wpC_X0_famesOf σ x1 Post) : Met l yX0_famesOf (Cond.code yX0_famesOf cX0_famesOf 4 (some .int) :: wsA) rC_X0_famesOf (zPc D cy ks (CW q cy σ) sz [.ref (q 25), .int x1]) (va_Qi Post (xB D cy (CW q cy) (va_A (CW q cy σ) sz)) (va_A (CW q cy σ) sz)) 0 0 (va_A (CW q cy σ) sz) := by
  refine z_enter (own := RX0) (WW := CW q cy) (by decide) rfl (Nat.le_of_ble_eq_true rfl) ?_
  intro p e s m below meth c ls E h hl
  have hx := E.1.1
  have hb := E.1.2.1
  have hl : lv_has ls 4 [(0, .ref (q 25)), (1, .int x1)] := hl
  unfold wpC_X0_famesOf at hw
  refine lv_iconst (v := 0) hx hb dX0_famesOf_0 (by decide) ?_
  refine lv_istore_n (lv' := [(2, .int 0), (0, .ref (q 25)), (1, .int x1)]) hx hb dX0_famesOf_1 rfl hl (by decide) rfl (fun ls hl => ?_)
  refine lv_iconst (v := 0) hx hb dX0_famesOf_2 (by decide) ?_
  refine lv_istore_n (lv' := [(3, .int 0), (2, .int 0), (0, .ref (q 25)), (1, .int x1)]) hx hb dX0_famesOf_3 rfl hl (by decide) rfl (fun ls hl => ?_)
  obtain ⟨g, hw⟩ := hw
  exact wkC_X0_famesOf_4 E g _ _ _ _ _ _ _ h hw (lv_sub hl [2, 3, 1, 0] rfl)

abbrev rC_X0_deciding : Room := { frames := 0, cells := 0, slots := 0, locals := 0 }
def wpC_X0_deciding_75 (K4 : CS → Int32 → Int32 → Int32 → Prop) (Post : Int32 → CS → Prop) (σ : CS) (x1 : Int32) (x3 : Int32) : Prop := ∀ y1 : Int32, y1 = x3 + 1 → K4 σ x1 x3 y1
set_option maxHeartbeats 1000000 in
set_option maxRecDepth 20000 in
theorem wkC_X0_deciding_75 {Post : Int32 → CS → Prop} (E : zE cX0_deciding RX0 5 (some .int) D cy ks A p s m args meth c) {K4 : CS → Int32 → Int32 → Int32 → Prop} (hK4 : ∀ (σ : CS) (x1 : Int32) (x2 : Int32) (x3 : Int32) (H : Heap) (locs : List Loc) (ls : Array Slot), xH D A s (CW q cy σ) H locs → K4 σ x1 x2 x3 → lv_has ls 5 [(0, .ref (q 25)), (1, .int x1), (2, .int x2), (3, .int x3)] → W p l e rC_X0_deciding s m args below meth c H locs 0 0 (MQ below (va_Qi Post (xB D cy (CW q cy) A) A) args s 0 0 A) (F0 m 4 ls [])) : ∀ (σ : CS) (x1 : Int32) (x3 : Int32) (H : Heap) (locs : List Loc) (ls : Array Slot), xH D A s (CW q cy σ) H locs → wpC_X0_deciding_75 K4 Post σ x1 x3 → lv_has ls 5 [(0, .ref (q 25)), (1, .int x1), (3, .int x3)] → W p l e rC_X0_deciding s m args below meth c H locs 0 0 (MQ below (va_Qi Post (xB D cy (CW q cy) A) A) args s 0 0 A) (F0 m 75 ls []) := by
  have hx := E.1.1
  have hb := E.1.2.1
  intro σ x1 x3 H locs ls h hw hl
  unfold wpC_X0_deciding_75 at hw
  refine lv_iload_n hx hb dX0_deciding_75 rfl (lv_at hl 2 rfl) ?_
  refine lv_istore_n (lv' := [(2, .int x3), (0, .ref (q 25)), (1, .int x1), (3, .int x3)]) hx hb dX0_deciding_76 rfl hl (by decide) rfl (fun ls hl => ?_)
  obtain ⟨y1, ey1⟩ : ∃ z : Int32, z = x3 + 1 := ⟨_, rfl⟩
  have hw := hw y1 ey1
  refine lv_iinc (v := y1) (lv' := [(3, .int y1), (2, .int x3), (0, .ref (q 25)), (1, .int x1)]) hx hb dX0_deciding_77 hl (k := 3) rfl (by rw [ey1]; rfl) (by decide) rfl (fun ls hl => ?_)
  refine lv_goto (tgt := 4) hx hb dX0_deciding_80 (by decide) ?_
  exact hK4 _ _ _ _ _ _ _ h hw (lv_sub hl [2, 3, 1, 0] rfl)

def wpC_X0_deciding_48 (K4 : CS → Int32 → Int32 → Int32 → Prop) (Post : Int32 → CS → Prop) (σ : CS) (x1 : Int32) (x2 : Int32) (x3 : Int32) (t0 : Int32) : Prop := (t0 = 0 → ∀ y2 : Int32, y2 = x3 + 1 → K4 σ x1 x2 y2) ∧ (¬ t0 = 0 → (x2 = ((-1)) → wpC_X0_deciding_75 K4 Post σ x1 x3) ∧ (¬ x2 = ((-1)) → vp_in x3 200 ∧ vp_in x2 200 ∧ ((σ.2.1 29 x2.toNatClampNeg) ≤ (σ.2.1 29 x3.toNatClampNeg) → ∀ y7 : Int32, y7 = x3 + 1 → K4 σ x1 x2 y7) ∧ (¬ (σ.2.1 29 x2.toNatClampNeg) ≤ (σ.2.1 29 x3.toNatClampNeg) → wpC_X0_deciding_75 K4 Post σ x1 x3)))
set_option maxHeartbeats 1000000 in
set_option maxRecDepth 20000 in
theorem wkC_X0_deciding_48 {Post : Int32 → CS → Prop} (E : zE cX0_deciding RX0 5 (some .int) D cy ks A p s m args meth c) {K4 : CS → Int32 → Int32 → Int32 → Prop} (hK4 : ∀ (σ : CS) (x1 : Int32) (x2 : Int32) (x3 : Int32) (H : Heap) (locs : List Loc) (ls : Array Slot), xH D A s (CW q cy σ) H locs → K4 σ x1 x2 x3 → lv_has ls 5 [(0, .ref (q 25)), (1, .int x1), (2, .int x2), (3, .int x3)] → W p l e rC_X0_deciding s m args below meth c H locs 0 0 (MQ below (va_Qi Post (xB D cy (CW q cy) A) A) args s 0 0 A) (F0 m 4 ls [])) : ∀ (σ : CS) (x1 : Int32) (x2 : Int32) (x3 : Int32) (t0 : Int32) (H : Heap) (locs : List Loc) (ls : Array Slot), xH D A s (CW q cy σ) H locs → wpC_X0_deciding_48 K4 Post σ x1 x2 x3 t0 → lv_has ls 5 [(0, .ref (q 25)), (1, .int x1), (2, .int x2), (3, .int x3)] → W p l e rC_X0_deciding s m args below meth c H locs 0 0 (MQ below (va_Qi Post (xB D cy (CW q cy) A) A) args s 0 0 A) (F0 m 48 ls [.int t0]) := by
  have hx := E.1.1
  have hb := E.1.2.1
  intro σ x1 x2 x3 t0 H locs ls h hw hl
  unfold wpC_X0_deciding_48 at hw
  refine lv_istore (lv' := [(4, .int t0), (0, .ref (q 25)), (1, .int x1), (2, .int x2), (3, .int x3)]) hx hb dX0_deciding_48 hl (by decide) rfl (fun ls hl => ?_)
  refine lv_iload hx hb dX0_deciding_50 (lv_at hl 0 rfl) ?_
  refine lv_if_eq (tgt := 77) hx hb dX0_deciding_52 (by decide) (fun c1 => ?_) (fun c1 => ?_)
  · have hw := hw.1 c1
    obtain ⟨y2, ey2⟩ : ∃ z : Int32, z = x3 + 1 := ⟨_, rfl⟩
    have hw := hw y2 ey2
    refine lv_iinc (v := y2) (lv' := [(3, .int y2), (4, .int t0), (0, .ref (q 25)), (1, .int x1), (2, .int x2)]) hx hb dX0_deciding_77 hl (k := 4) rfl (by rw [ey2]; rfl) (by decide) rfl (fun ls hl => ?_)
    refine lv_goto (tgt := 4) hx hb dX0_deciding_80 (by decide) ?_
    exact hK4 _ _ _ _ _ _ _ h hw (lv_sub hl [2, 3, 4, 0] rfl)
  · have hw := hw.2 c1
    refine lv_iload_n hx hb dX0_deciding_55 rfl (lv_at hl 3 rfl) ?_
    refine lv_iconst (v := (-1)) hx hb dX0_deciding_56 (by decide) ?_
    refine lv_icmp_eq (tgt := 75) hx hb dX0_deciding_57 (by decide) (fun c3 => ?_) (fun c3 => ?_)
    · have hw := hw.1 c3
      exact wkC_X0_deciding_75 E hK4 _ _ _ _ _ _ h hw (lv_sub hl [1, 2, 4] rfl)
    · have hw := hw.2 c3
      refine lv_aload_n hx hb dX0_deciding_60 rfl (lv_at hl 1 rfl) ?_
      refine gX0_21 E.1 h dX0_deciding_61 ?_
      refine lv_iload_n hx hb dX0_deciding_64 rfl (lv_at hl 4 rfl) ?_
      have h4 := hw.1
      have hw := hw.2
      refine aC_29 E.1 h h4 dX0_deciding_65 ?_
      refine lv_aload_n hx hb dX0_deciding_66 rfl (lv_at hl 1 rfl) ?_
      refine gX0_21 E.1 h dX0_deciding_67 ?_
      refine lv_iload_n hx hb dX0_deciding_70 rfl (lv_at hl 3 rfl) ?_
      have h5 := hw.1
      have hw := hw.2
      refine aC_29 E.1 h h5 dX0_deciding_71 ?_
      refine lv_icmp_ge (tgt := 77) hx hb dX0_deciding_72 (by decide) (fun c6 => ?_) (fun c6 => ?_)
      · have hw := hw.1 c6
        obtain ⟨y7, ey7⟩ : ∃ z : Int32, z = x3 + 1 := ⟨_, rfl⟩
        have hw := hw y7 ey7
        refine lv_iinc (v := y7) (lv' := [(3, .int y7), (4, .int t0), (0, .ref (q 25)), (1, .int x1), (2, .int x2)]) hx hb dX0_deciding_77 hl (k := 4) rfl (by rw [ey7]; rfl) (by decide) rfl (fun ls hl => ?_)
        refine lv_goto (tgt := 4) hx hb dX0_deciding_80 (by decide) ?_
        exact hK4 _ _ _ _ _ _ _ h hw (lv_sub hl [2, 3, 4, 0] rfl)
      · have hw := hw.2 c6
        exact wkC_X0_deciding_75 E hK4 _ _ _ _ _ _ h hw (lv_sub hl [1, 2, 4] rfl)

def wpC_X0_deciding_47 (K4 : CS → Int32 → Int32 → Int32 → Prop) (Post : Int32 → CS → Prop) (σ : CS) (x1 : Int32) (x2 : Int32) (x3 : Int32) : Prop := wpC_X0_deciding_48 K4 Post σ x1 x2 x3 0
set_option maxHeartbeats 1000000 in
set_option maxRecDepth 20000 in
theorem wkC_X0_deciding_47 {Post : Int32 → CS → Prop} (E : zE cX0_deciding RX0 5 (some .int) D cy ks A p s m args meth c) {K4 : CS → Int32 → Int32 → Int32 → Prop} (hK4 : ∀ (σ : CS) (x1 : Int32) (x2 : Int32) (x3 : Int32) (H : Heap) (locs : List Loc) (ls : Array Slot), xH D A s (CW q cy σ) H locs → K4 σ x1 x2 x3 → lv_has ls 5 [(0, .ref (q 25)), (1, .int x1), (2, .int x2), (3, .int x3)] → W p l e rC_X0_deciding s m args below meth c H locs 0 0 (MQ below (va_Qi Post (xB D cy (CW q cy) A) A) args s 0 0 A) (F0 m 4 ls [])) : ∀ (σ : CS) (x1 : Int32) (x2 : Int32) (x3 : Int32) (H : Heap) (locs : List Loc) (ls : Array Slot), xH D A s (CW q cy σ) H locs → wpC_X0_deciding_47 K4 Post σ x1 x2 x3 → lv_has ls 5 [(0, .ref (q 25)), (1, .int x1), (2, .int x2), (3, .int x3)] → W p l e rC_X0_deciding s m args below meth c H locs 0 0 (MQ below (va_Qi Post (xB D cy (CW q cy) A) A) args s 0 0 A) (F0 m 47 ls []) := by
  have hx := E.1.1
  have hb := E.1.2.1
  intro σ x1 x2 x3 H locs ls h hw hl
  unfold wpC_X0_deciding_47 at hw
  refine lv_iconst (v := 0) hx hb dX0_deciding_47 (by decide) ?_
  exact wkC_X0_deciding_48 E hK4 _ _ _ _ _ _ _ _ h hw (lv_sub hl [0, 1, 2, 3] rfl)

def wpC_X0_deciding_33 (K4 : CS → Int32 → Int32 → Int32 → Prop) (Post : Int32 → CS → Prop) (σ : CS) (x1 : Int32) (x2 : Int32) (x3 : Int32) : Prop := vp_in x3 200 ∧ ((σ.2.1 27 x3.toNatClampNeg) = x1 → wpC_X0_deciding_48 K4 Post σ x1 x2 x3 1) ∧ (¬ (σ.2.1 27 x3.toNatClampNeg) = x1 → wpC_X0_deciding_47 K4 Post σ x1 x2 x3)
set_option maxHeartbeats 1000000 in
set_option maxRecDepth 20000 in
theorem wkC_X0_deciding_33 {Post : Int32 → CS → Prop} (E : zE cX0_deciding RX0 5 (some .int) D cy ks A p s m args meth c) {K4 : CS → Int32 → Int32 → Int32 → Prop} (hK4 : ∀ (σ : CS) (x1 : Int32) (x2 : Int32) (x3 : Int32) (H : Heap) (locs : List Loc) (ls : Array Slot), xH D A s (CW q cy σ) H locs → K4 σ x1 x2 x3 → lv_has ls 5 [(0, .ref (q 25)), (1, .int x1), (2, .int x2), (3, .int x3)] → W p l e rC_X0_deciding s m args below meth c H locs 0 0 (MQ below (va_Qi Post (xB D cy (CW q cy) A) A) args s 0 0 A) (F0 m 4 ls [])) : ∀ (σ : CS) (x1 : Int32) (x2 : Int32) (x3 : Int32) (H : Heap) (locs : List Loc) (ls : Array Slot), xH D A s (CW q cy σ) H locs → wpC_X0_deciding_33 K4 Post σ x1 x2 x3 → lv_has ls 5 [(0, .ref (q 25)), (1, .int x1), (2, .int x2), (3, .int x3)] → W p l e rC_X0_deciding s m args below meth c H locs 0 0 (MQ below (va_Qi Post (xB D cy (CW q cy) A) A) args s 0 0 A) (F0 m 33 ls []) := by
  have hx := E.1.1
  have hb := E.1.2.1
  intro σ x1 x2 x3 H locs ls h hw hl
  unfold wpC_X0_deciding_33 at hw
  refine lv_aload_n hx hb dX0_deciding_33 rfl (lv_at hl 0 rfl) ?_
  refine gX0_15 E.1 h dX0_deciding_34 ?_
  refine lv_iload_n hx hb dX0_deciding_37 rfl (lv_at hl 3 rfl) ?_
  have h1 := hw.1
  have hw := hw.2
  refine aC_27 E.1 h h1 dX0_deciding_38 ?_
  refine lv_iload_n hx hb dX0_deciding_39 rfl (lv_at hl 1 rfl) ?_
  refine lv_icmp_ne (tgt := 47) hx hb dX0_deciding_40 (by decide) (fun c2 => ?_) (fun c2 => ?_)
  · have hw := hw.2 c2
    exact wkC_X0_deciding_47 E hK4 _ _ _ _ _ _ _ h hw (lv_sub hl [0, 1, 2, 3] rfl)
  · have hw := hw.1 c2
    refine lv_iconst (v := 1) hx hb dX0_deciding_43 (by decide) ?_
    refine lv_goto (tgt := 48) hx hb dX0_deciding_44 (by decide) ?_
    exact wkC_X0_deciding_48 E hK4 _ _ _ _ _ _ _ _ h hw (lv_sub hl [0, 1, 2, 3] rfl)

def wpC_X0_deciding_4 (Post : Int32 → CS → Prop) : Nat → CS → Int32 → Int32 → Int32 → Prop
  | 0, _, _, _, _ => False
  | n + 1, σ, x1, x2, x3 => ((σ.1 505) ≤ x3 → Post x2 σ) ∧ (¬ (σ.1 505) ≤ x3 → vp_in x3 200 ∧ ((σ.2.1 26 x3.toNatClampNeg) = 5 → wpC_X0_deciding_33 (fun a0 a1 a2 a3 => wpC_X0_deciding_4 Post n a0 a1 a2 a3) Post σ x1 x2 x3) ∧ (¬ (σ.2.1 26 x3.toNatClampNeg) = 5 → vp_in x3 200 ∧ ((σ.2.1 26 x3.toNatClampNeg) = 6 → wpC_X0_deciding_33 (fun a0 a1 a2 a3 => wpC_X0_deciding_4 Post n a0 a1 a2 a3) Post σ x1 x2 x3) ∧ (¬ (σ.2.1 26 x3.toNatClampNeg) = 6 → wpC_X0_deciding_47 (fun a0 a1 a2 a3 => wpC_X0_deciding_4 Post n a0 a1 a2 a3) Post σ x1 x2 x3)))
set_option maxHeartbeats 1000000 in
set_option maxRecDepth 20000 in
theorem wkC_X0_deciding_4 {Post : Int32 → CS → Prop} (E : zE cX0_deciding RX0 5 (some .int) D cy ks A p s m args meth c) : ∀ n : Nat, ∀ (σ : CS) (x1 : Int32) (x2 : Int32) (x3 : Int32) (H : Heap) (locs : List Loc) (ls : Array Slot), xH D A s (CW q cy σ) H locs → wpC_X0_deciding_4 Post n σ x1 x2 x3 → lv_has ls 5 [(0, .ref (q 25)), (1, .int x1), (2, .int x2), (3, .int x3)] → W p l e rC_X0_deciding s m args below meth c H locs 0 0 (MQ below (va_Qi Post (xB D cy (CW q cy) A) A) args s 0 0 A) (F0 m 4 ls []) := by
  have hx := E.1.1
  have hb := E.1.2.1
  intro n
  induction n with
  | zero => intro σ x1 x2 x3 H locs ls h hw hl; exact False.elim hw
  | succ n ih =>
    intro σ x1 x2 x3 H locs ls h hw hl
    refine lv_iload_n hx hb dX0_deciding_4 rfl (lv_at hl 3 rfl) ?_
    refine lv_aload_n hx hb dX0_deciding_5 rfl (lv_at hl 0 rfl) ?_
    refine gX0_28 E.1 h dX0_deciding_6 ?_
    refine lv_icmp_ge (tgt := 83) hx hb dX0_deciding_9 (by decide) (fun c1 => ?_) (fun c1 => ?_)
    · have hw := hw.1 c1
      refine lv_iload_n hx hb dX0_deciding_83 rfl (lv_at hl 2 rfl) ?_
      exact x_iret E.1 h hw dX0_deciding_84
    · have hw := hw.2 c1
      refine lv_aload_n hx hb dX0_deciding_12 rfl (lv_at hl 0 rfl) ?_
      refine gX0_9 E.1 h dX0_deciding_13 ?_
      refine lv_iload_n hx hb dX0_deciding_16 rfl (lv_at hl 3 rfl) ?_
      have h2 := hw.1
      have hw := hw.2
      refine aC_26 E.1 h h2 dX0_deciding_17 ?_
      refine lv_iconst (v := 5) hx hb dX0_deciding_18 (by decide) ?_
      refine lv_icmp_eq (tgt := 33) hx hb dX0_deciding_19 (by decide) (fun c3 => ?_) (fun c3 => ?_)
      · have hw := hw.1 c3
        exact wkC_X0_deciding_33 E ih _ _ _ _ _ _ _ h hw (lv_sub hl [0, 1, 2, 3] rfl)
      · have hw := hw.2 c3
        refine lv_aload_n hx hb dX0_deciding_22 rfl (lv_at hl 0 rfl) ?_
        refine gX0_9 E.1 h dX0_deciding_23 ?_
        refine lv_iload_n hx hb dX0_deciding_26 rfl (lv_at hl 3 rfl) ?_
        have h4 := hw.1
        have hw := hw.2
        refine aC_26 E.1 h h4 dX0_deciding_27 ?_
        refine lv_bipush (v := 6) hx hb dX0_deciding_28 (by decide) ?_
        refine lv_icmp_ne (tgt := 47) hx hb dX0_deciding_30 (by decide) (fun c5 => ?_) (fun c5 => ?_)
        · have hw := hw.2 c5
          exact wkC_X0_deciding_47 E ih _ _ _ _ _ _ _ h hw (lv_sub hl [0, 1, 2, 3] rfl)
        · have hw := hw.1 c5
          exact wkC_X0_deciding_33 E ih _ _ _ _ _ _ _ h hw (lv_sub hl [0, 1, 2, 3] rfl)

def wpC_X0_deciding (σ : CS) (x1 : Int32) (Post : Int32 → CS → Prop) : Prop := ∃ g, wpC_X0_deciding_4 Post g σ x1 ((-1)) 0
set_option maxHeartbeats 1000000 in
set_option maxRecDepth 20000 in
theorem cC_X0_deciding {l : Launch} {D : va_G} {cy : Nat → ClassId} {ks : Nat × Nat × Option Nat} {q : Nat → Nat} {σ : CS} {sz : Nat} {x1 : Int32} {Post : Int32 → CS → Prop} (hw : wpC_X0_deciding σ x1 Post) : Met l yX0_deciding (Cond.code yX0_deciding cX0_deciding 5 (some .int) :: wsA) rC_X0_deciding (zPc D cy ks (CW q cy σ) sz [.ref (q 25), .int x1]) (va_Qi Post (xB D cy (CW q cy) (va_A (CW q cy σ) sz)) (va_A (CW q cy σ) sz)) 0 0 (va_A (CW q cy σ) sz) := by
  refine z_enter (own := RX0) (WW := CW q cy) (by decide) rfl (Nat.le_of_ble_eq_true rfl) ?_
  intro p e s m below meth c ls E h hl
  have hx := E.1.1
  have hb := E.1.2.1
  have hl : lv_has ls 5 [(0, .ref (q 25)), (1, .int x1)] := hl
  unfold wpC_X0_deciding at hw
  refine lv_iconst (v := (-1)) hx hb dX0_deciding_0 (by decide) ?_
  refine lv_istore_n (lv' := [(2, .int ((-1))), (0, .ref (q 25)), (1, .int x1)]) hx hb dX0_deciding_1 rfl hl (by decide) rfl (fun ls hl => ?_)
  refine lv_iconst (v := 0) hx hb dX0_deciding_2 (by decide) ?_
  refine lv_istore_n (lv' := [(3, .int 0), (2, .int ((-1))), (0, .ref (q 25)), (1, .int x1)]) hx hb dX0_deciding_3 rfl hl (by decide) rfl (fun ls hl => ?_)
  obtain ⟨g, hw⟩ := hw
  exact wkC_X0_deciding_4 E g _ _ _ _ _ _ _ h hw (lv_sub hl [2, 3, 1, 0] rfl)

abbrev rC_J7_fill_32 : Room := { frames := 0, cells := 0, slots := 0, locals := 0 }
def wpC_J7_fill_32_5 (Post : CS → Prop) : Nat → CS → Int32 → Int32 → Int32 → Prop
  | 0, _, _, _, _ => False
  | n + 1, σ, x1, x2, x3 => (x3 ≤ x2 → Post σ) ∧ (¬ x3 ≤ x2 → vp_in x2 12 ∧ ∀ σ2 : CS, σ2 = cA σ 32 (upd (σ.2.1 32) x2.toNatClampNeg x1) → ∀ y4 : Int32, y4 = x2 + 1 → wpC_J7_fill_32_5 Post n σ2 x1 y4 x3)
set_option maxHeartbeats 1000000 in
set_option maxRecDepth 20000 in
theorem wkC_J7_fill_32_5 {Post : CS → Prop} (E : zE cJ7_fill_53178 RJ7 4 none D cy ks A p s m args meth c) : ∀ n : Nat, ∀ (σ : CS) (x1 : Int32) (x2 : Int32) (x3 : Int32) (H : Heap) (locs : List Loc) (ls : Array Slot), xH D A s (CW q cy σ) H locs → wpC_J7_fill_32_5 Post n σ x1 x2 x3 → lv_has ls 4 [(0, .ref (q 32)), (1, .int x1), (2, .int x2), (3, .int x3)] → W p l e rC_J7_fill_32 s m args below meth c H locs 0 0 (MQ below (va_Qv Post (xB D cy (CW q cy) A) A) args s 0 0 A) (F0 m 5 ls []) := by
  have hx := E.1.1
  have hb := E.1.2.1
  intro n
  induction n with
  | zero => intro σ x1 x2 x3 H locs ls h hw hl; exact False.elim hw
  | succ n ih =>
    intro σ x1 x2 x3 H locs ls h hw hl
    refine lv_iload_n hx hb dJ7_fill_53178_5 rfl (lv_at hl 2 rfl) ?_
    refine lv_iload_n hx hb dJ7_fill_53178_6 rfl (lv_at hl 3 rfl) ?_
    refine lv_icmp_ge (tgt := 20) hx hb dJ7_fill_53178_7 (by decide) (fun c1 => ?_) (fun c1 => ?_)
    · have hw := hw.1 c1
      exact x_vret E.1 h hw dJ7_fill_53178_20
    · have hw := hw.2 c1
      refine lv_aload_n hx hb dJ7_fill_53178_10 rfl (lv_at hl 0 rfl) ?_
      refine lv_iload_n hx hb dJ7_fill_53178_11 rfl (lv_at hl 2 rfl) ?_
      refine lv_iload_n hx hb dJ7_fill_53178_12 rfl (lv_at hl 1 rfl) ?_
      have h3 := hw.1
      have hw := hw.2
      refine sC_32 E.1 h h3 dJ7_fill_53178_13 (fun σ2 H locs eσ2 h => ?_)
      have hw := hw σ2 eσ2
      obtain ⟨y4, ey4⟩ : ∃ z : Int32, z = x2 + 1 := ⟨_, rfl⟩
      have hw := hw y4 ey4
      refine lv_iinc (v := y4) (lv' := [(2, .int y4), (0, .ref (q 32)), (1, .int x1), (3, .int x3)]) hx hb dJ7_fill_53178_14 hl (k := 2) rfl (by rw [ey4]; rfl) (by decide) rfl (fun ls hl => ?_)
      refine lv_goto (tgt := 5) hx hb dJ7_fill_53178_17 (by decide) ?_
      exact ih _ _ _ _ _ _ _ h hw (lv_sub hl [1, 2, 0, 3] rfl)

def wpC_J7_fill_32 (σ : CS) (x1 : Int32) (Post : CS → Prop) : Prop := ∃ g, wpC_J7_fill_32_5 Post g σ x1 0 12
set_option maxHeartbeats 1000000 in
set_option maxRecDepth 20000 in
theorem cC_J7_fill_32 {l : Launch} {D : va_G} {cy : Nat → ClassId} {ks : Nat × Nat × Option Nat} {q : Nat → Nat} {σ : CS} {sz : Nat} {x1 : Int32} {Post : CS → Prop} (hw : wpC_J7_fill_32 σ x1 Post) : Met l yJ7_fill_53178 (Cond.code yJ7_fill_53178 cJ7_fill_53178 4 none :: wsA) rC_J7_fill_32 (zPc D cy ks (CW q cy σ) sz [.ref (q 32), .int x1]) (va_Qv Post (xB D cy (CW q cy) (va_A (CW q cy σ) sz)) (va_A (CW q cy σ) sz)) 0 0 (va_A (CW q cy σ) sz) := by
  refine z_enter (own := RJ7) (WW := CW q cy) (by decide) rfl (Nat.le_of_ble_eq_true rfl) ?_
  intro p e s m below meth c ls E h hl
  have hx := E.1.1
  have hb := E.1.2.1
  have hl : lv_has ls 4 [(0, .ref (q 32)), (1, .int x1)] := hl
  unfold wpC_J7_fill_32 at hw
  refine lv_iconst (v := 0) hx hb dJ7_fill_53178_0 (by decide) ?_
  refine lv_istore_n (lv' := [(2, .int 0), (0, .ref (q 32)), (1, .int x1)]) hx hb dJ7_fill_53178_1 rfl hl (by decide) rfl (fun ls hl => ?_)
  refine lv_aload_n hx hb dJ7_fill_53178_2 rfl (lv_at hl 1 rfl) ?_
  refine x_alen (v := 12) E.1 h 32 (show (CW q cy σ)[32]? = some (q 32, .inl (cy 1, 12, .inl (σ.2.1 32))) from rfl) (by decide) dJ7_fill_53178_3 ?_
  refine lv_istore_n (lv' := [(3, .int 12), (2, .int 0), (0, .ref (q 32)), (1, .int x1)]) hx hb dJ7_fill_53178_4 rfl hl (by decide) rfl (fun ls hl => ?_)
  obtain ⟨g, hw⟩ := hw
  exact wkC_J7_fill_32_5 E g _ _ _ _ _ _ _ h hw (lv_sub hl [2, 3, 1, 0] rfl)

abbrev rC_J7_fill_35 : Room := { frames := 0, cells := 0, slots := 0, locals := 0 }
def wpC_J7_fill_35_5 (Post : CS → Prop) : Nat → CS → Int32 → Int32 → Int32 → Prop
  | 0, _, _, _, _ => False
  | n + 1, σ, x1, x2, x3 => (x3 ≤ x2 → Post σ) ∧ (¬ x3 ≤ x2 → vp_in x2 32 ∧ ∀ σ2 : CS, σ2 = cA σ 35 (upd (σ.2.1 35) x2.toNatClampNeg x1) → ∀ y4 : Int32, y4 = x2 + 1 → wpC_J7_fill_35_5 Post n σ2 x1 y4 x3)
set_option maxHeartbeats 1000000 in
set_option maxRecDepth 20000 in
theorem wkC_J7_fill_35_5 {Post : CS → Prop} (E : zE cJ7_fill_53178 RJ7 4 none D cy ks A p s m args meth c) : ∀ n : Nat, ∀ (σ : CS) (x1 : Int32) (x2 : Int32) (x3 : Int32) (H : Heap) (locs : List Loc) (ls : Array Slot), xH D A s (CW q cy σ) H locs → wpC_J7_fill_35_5 Post n σ x1 x2 x3 → lv_has ls 4 [(0, .ref (q 35)), (1, .int x1), (2, .int x2), (3, .int x3)] → W p l e rC_J7_fill_35 s m args below meth c H locs 0 0 (MQ below (va_Qv Post (xB D cy (CW q cy) A) A) args s 0 0 A) (F0 m 5 ls []) := by
  have hx := E.1.1
  have hb := E.1.2.1
  intro n
  induction n with
  | zero => intro σ x1 x2 x3 H locs ls h hw hl; exact False.elim hw
  | succ n ih =>
    intro σ x1 x2 x3 H locs ls h hw hl
    refine lv_iload_n hx hb dJ7_fill_53178_5 rfl (lv_at hl 2 rfl) ?_
    refine lv_iload_n hx hb dJ7_fill_53178_6 rfl (lv_at hl 3 rfl) ?_
    refine lv_icmp_ge (tgt := 20) hx hb dJ7_fill_53178_7 (by decide) (fun c1 => ?_) (fun c1 => ?_)
    · have hw := hw.1 c1
      exact x_vret E.1 h hw dJ7_fill_53178_20
    · have hw := hw.2 c1
      refine lv_aload_n hx hb dJ7_fill_53178_10 rfl (lv_at hl 0 rfl) ?_
      refine lv_iload_n hx hb dJ7_fill_53178_11 rfl (lv_at hl 2 rfl) ?_
      refine lv_iload_n hx hb dJ7_fill_53178_12 rfl (lv_at hl 1 rfl) ?_
      have h3 := hw.1
      have hw := hw.2
      refine sC_35 E.1 h h3 dJ7_fill_53178_13 (fun σ2 H locs eσ2 h => ?_)
      have hw := hw σ2 eσ2
      obtain ⟨y4, ey4⟩ : ∃ z : Int32, z = x2 + 1 := ⟨_, rfl⟩
      have hw := hw y4 ey4
      refine lv_iinc (v := y4) (lv' := [(2, .int y4), (0, .ref (q 35)), (1, .int x1), (3, .int x3)]) hx hb dJ7_fill_53178_14 hl (k := 2) rfl (by rw [ey4]; rfl) (by decide) rfl (fun ls hl => ?_)
      refine lv_goto (tgt := 5) hx hb dJ7_fill_53178_17 (by decide) ?_
      exact ih _ _ _ _ _ _ _ h hw (lv_sub hl [1, 2, 0, 3] rfl)

def wpC_J7_fill_35 (σ : CS) (x1 : Int32) (Post : CS → Prop) : Prop := ∃ g, wpC_J7_fill_35_5 Post g σ x1 0 32
set_option maxHeartbeats 1000000 in
set_option maxRecDepth 20000 in
theorem cC_J7_fill_35 {l : Launch} {D : va_G} {cy : Nat → ClassId} {ks : Nat × Nat × Option Nat} {q : Nat → Nat} {σ : CS} {sz : Nat} {x1 : Int32} {Post : CS → Prop} (hw : wpC_J7_fill_35 σ x1 Post) : Met l yJ7_fill_53178 (Cond.code yJ7_fill_53178 cJ7_fill_53178 4 none :: wsA) rC_J7_fill_35 (zPc D cy ks (CW q cy σ) sz [.ref (q 35), .int x1]) (va_Qv Post (xB D cy (CW q cy) (va_A (CW q cy σ) sz)) (va_A (CW q cy σ) sz)) 0 0 (va_A (CW q cy σ) sz) := by
  refine z_enter (own := RJ7) (WW := CW q cy) (by decide) rfl (Nat.le_of_ble_eq_true rfl) ?_
  intro p e s m below meth c ls E h hl
  have hx := E.1.1
  have hb := E.1.2.1
  have hl : lv_has ls 4 [(0, .ref (q 35)), (1, .int x1)] := hl
  unfold wpC_J7_fill_35 at hw
  refine lv_iconst (v := 0) hx hb dJ7_fill_53178_0 (by decide) ?_
  refine lv_istore_n (lv' := [(2, .int 0), (0, .ref (q 35)), (1, .int x1)]) hx hb dJ7_fill_53178_1 rfl hl (by decide) rfl (fun ls hl => ?_)
  refine lv_aload_n hx hb dJ7_fill_53178_2 rfl (lv_at hl 1 rfl) ?_
  refine x_alen (v := 32) E.1 h 35 (show (CW q cy σ)[35]? = some (q 35, .inl (cy 1, 32, .inl (σ.2.1 35))) from rfl) (by decide) dJ7_fill_53178_3 ?_
  refine lv_istore_n (lv' := [(3, .int 32), (2, .int 0), (0, .ref (q 35)), (1, .int x1)]) hx hb dJ7_fill_53178_4 rfl hl (by decide) rfl (fun ls hl => ?_)
  obtain ⟨g, hw⟩ := hw
  exact wkC_J7_fill_35_5 E g _ _ _ _ _ _ _ h hw (lv_sub hl [2, 3, 1, 0] rfl)

abbrev rC_X0_lastWords : Room := { frames := 1, cells := 0, slots := 0, locals := 23 }
def wpC_X0_lastWords_42 (K7 : CS → Int32 → Int32 → Prop) (Post : CS → Prop) (σ : CS) (x1 : Int32) (x3 : Int32) (t0 : Int32) : Prop := (t0 = 0 → ∀ y2 : Int32, y2 = x3 + 1 → K7 σ x1 y2) ∧ (¬ t0 = 0 → vp_in x3 200 ∧ ((σ.2.1 28 x3.toNatClampNeg) = x1 → vp_in x3 200 ∧ ((σ.2.1 27 x3.toNatClampNeg) < 0 → ∀ y8 : Int32, y8 = x3 + 1 → K7 σ x1 y8) ∧ (¬ (σ.2.1 27 x3.toNatClampNeg) < 0 → vp_in x3 200 ∧ (32 ≤ (σ.2.1 27 x3.toNatClampNeg) → ∀ y11 : Int32, y11 = x3 + 1 → K7 σ x1 y11) ∧ (¬ 32 ≤ (σ.2.1 27 x3.toNatClampNeg) → vp_in x3 200 ∧ vp_in x3 200 ∧ vp_in (σ.2.1 27 x3.toNatClampNeg) 32 ∧ ∀ σ14 : CS, σ14 = cA σ 35 (upd (σ.2.1 35) (σ.2.1 27 x3.toNatClampNeg).toNatClampNeg (σ.2.1 26 x3.toNatClampNeg)) → ∀ y16 : Int32, y16 = x3 + 1 → K7 σ14 x1 y16))) ∧ (¬ (σ.2.1 28 x3.toNatClampNeg) = x1 → ∀ y5 : Int32, y5 = x3 + 1 → K7 σ x1 y5))
set_option maxHeartbeats 1000000 in
set_option maxRecDepth 20000 in
theorem wkC_X0_lastWords_42 {Post : CS → Prop} (E : zE cX0_lastWords RX0 5 none D cy ks A p s m args meth c) {K7 : CS → Int32 → Int32 → Prop} (hK7 : ∀ (σ : CS) (x1 : Int32) (x3 : Int32) (H : Heap) (locs : List Loc) (ls : Array Slot), xH D A s (CW q cy σ) H locs → K7 σ x1 x3 → lv_has ls 5 [(0, .ref (q 25)), (1, .int x1), (2, .ref (q 35)), (3, .int x3)] → W p l e rC_X0_lastWords s m args below meth c H locs 0 0 (MQ below (va_Qv Post (xB D cy (CW q cy) A) A) args s 0 0 A) (F0 m 7 ls [])) : ∀ (σ : CS) (x1 : Int32) (x3 : Int32) (t0 : Int32) (H : Heap) (locs : List Loc) (ls : Array Slot), xH D A s (CW q cy σ) H locs → wpC_X0_lastWords_42 K7 Post σ x1 x3 t0 → lv_has ls 5 [(0, .ref (q 25)), (1, .int x1), (2, .ref (q 35)), (3, .int x3)] → W p l e rC_X0_lastWords s m args below meth c H locs 0 0 (MQ below (va_Qv Post (xB D cy (CW q cy) A) A) args s 0 0 A) (F0 m 42 ls [.int t0]) := by
  have hx := E.1.1
  have hb := E.1.2.1
  intro σ x1 x3 t0 H locs ls h hw hl
  unfold wpC_X0_lastWords_42 at hw
  refine lv_istore (lv' := [(4, .int t0), (0, .ref (q 25)), (1, .int x1), (2, .ref (q 35)), (3, .int x3)]) hx hb dX0_lastWords_42 hl (by decide) rfl (fun ls hl => ?_)
  refine lv_iload hx hb dX0_lastWords_44 (lv_at hl 0 rfl) ?_
  refine lv_if_eq (tgt := 93) hx hb dX0_lastWords_46 (by decide) (fun c1 => ?_) (fun c1 => ?_)
  · have hw := hw.1 c1
    obtain ⟨y2, ey2⟩ : ∃ z : Int32, z = x3 + 1 := ⟨_, rfl⟩
    have hw := hw y2 ey2
    refine lv_iinc (v := y2) (lv' := [(3, .int y2), (4, .int t0), (0, .ref (q 25)), (1, .int x1), (2, .ref (q 35))]) hx hb dX0_lastWords_93 hl (k := 4) rfl (by rw [ey2]; rfl) (by decide) rfl (fun ls hl => ?_)
    refine lv_goto (tgt := 7) hx hb dX0_lastWords_96 (by decide) ?_
    exact hK7 _ _ _ _ _ _ h hw (lv_sub hl [2, 3, 4, 0] rfl)
  · have hw := hw.2 c1
    refine lv_aload_n hx hb dX0_lastWords_49 rfl (lv_at hl 1 rfl) ?_
    refine gX0_18 E.1 h dX0_lastWords_50 ?_
    refine lv_iload_n hx hb dX0_lastWords_53 rfl (lv_at hl 4 rfl) ?_
    have h3 := hw.1
    have hw := hw.2
    refine aC_28 E.1 h h3 dX0_lastWords_54 ?_
    refine lv_iload_n hx hb dX0_lastWords_55 rfl (lv_at hl 2 rfl) ?_
    refine lv_icmp_ne (tgt := 93) hx hb dX0_lastWords_56 (by decide) (fun c4 => ?_) (fun c4 => ?_)
    · have hw := hw.2 c4
      obtain ⟨y5, ey5⟩ : ∃ z : Int32, z = x3 + 1 := ⟨_, rfl⟩
      have hw := hw y5 ey5
      refine lv_iinc (v := y5) (lv' := [(3, .int y5), (4, .int t0), (0, .ref (q 25)), (1, .int x1), (2, .ref (q 35))]) hx hb dX0_lastWords_93 hl (k := 4) rfl (by rw [ey5]; rfl) (by decide) rfl (fun ls hl => ?_)
      refine lv_goto (tgt := 7) hx hb dX0_lastWords_96 (by decide) ?_
      exact hK7 _ _ _ _ _ _ h hw (lv_sub hl [2, 3, 4, 0] rfl)
    · have hw := hw.1 c4
      refine lv_aload_n hx hb dX0_lastWords_59 rfl (lv_at hl 1 rfl) ?_
      refine gX0_15 E.1 h dX0_lastWords_60 ?_
      refine lv_iload_n hx hb dX0_lastWords_63 rfl (lv_at hl 4 rfl) ?_
      have h6 := hw.1
      have hw := hw.2
      refine aC_27 E.1 h h6 dX0_lastWords_64 ?_
      refine lv_if_lt (tgt := 93) hx hb dX0_lastWords_65 (by decide) (fun c7 => ?_) (fun c7 => ?_)
      · have hw := hw.1 c7
        obtain ⟨y8, ey8⟩ : ∃ z : Int32, z = x3 + 1 := ⟨_, rfl⟩
        have hw := hw y8 ey8
        refine lv_iinc (v := y8) (lv' := [(3, .int y8), (4, .int t0), (0, .ref (q 25)), (1, .int x1), (2, .ref (q 35))]) hx hb dX0_lastWords_93 hl (k := 4) rfl (by rw [ey8]; rfl) (by decide) rfl (fun ls hl => ?_)
        refine lv_goto (tgt := 7) hx hb dX0_lastWords_96 (by decide) ?_
        exact hK7 _ _ _ _ _ _ h hw (lv_sub hl [2, 3, 4, 0] rfl)
      · have hw := hw.2 c7
        refine lv_aload_n hx hb dX0_lastWords_68 rfl (lv_at hl 1 rfl) ?_
        refine gX0_15 E.1 h dX0_lastWords_69 ?_
        refine lv_iload_n hx hb dX0_lastWords_72 rfl (lv_at hl 4 rfl) ?_
        have h9 := hw.1
        have hw := hw.2
        refine aC_27 E.1 h h9 dX0_lastWords_73 ?_
        refine lv_aload_n hx hb dX0_lastWords_74 rfl (lv_at hl 3 rfl) ?_
        refine x_alen (v := 32) E.1 h 35 (show (CW q cy σ)[35]? = some (q 35, .inl (cy 1, 32, .inl (σ.2.1 35))) from rfl) (by decide) dX0_lastWords_75 ?_
        refine lv_icmp_ge (tgt := 93) hx hb dX0_lastWords_76 (by decide) (fun c10 => ?_) (fun c10 => ?_)
        · have hw := hw.1 c10
          obtain ⟨y11, ey11⟩ : ∃ z : Int32, z = x3 + 1 := ⟨_, rfl⟩
          have hw := hw y11 ey11
          refine lv_iinc (v := y11) (lv' := [(3, .int y11), (4, .int t0), (0, .ref (q 25)), (1, .int x1), (2, .ref (q 35))]) hx hb dX0_lastWords_93 hl (k := 4) rfl (by rw [ey11]; rfl) (by decide) rfl (fun ls hl => ?_)
          refine lv_goto (tgt := 7) hx hb dX0_lastWords_96 (by decide) ?_
          exact hK7 _ _ _ _ _ _ h hw (lv_sub hl [2, 3, 4, 0] rfl)
        · have hw := hw.2 c10
          refine lv_aload_n hx hb dX0_lastWords_79 rfl (lv_at hl 3 rfl) ?_
          refine lv_aload_n hx hb dX0_lastWords_80 rfl (lv_at hl 1 rfl) ?_
          refine gX0_15 E.1 h dX0_lastWords_81 ?_
          refine lv_iload_n hx hb dX0_lastWords_84 rfl (lv_at hl 4 rfl) ?_
          have h12 := hw.1
          have hw := hw.2
          refine aC_27 E.1 h h12 dX0_lastWords_85 ?_
          refine lv_aload_n hx hb dX0_lastWords_86 rfl (lv_at hl 1 rfl) ?_
          refine gX0_9 E.1 h dX0_lastWords_87 ?_
          refine lv_iload_n hx hb dX0_lastWords_90 rfl (lv_at hl 4 rfl) ?_
          have h13 := hw.1
          have hw := hw.2
          refine aC_26 E.1 h h13 dX0_lastWords_91 ?_
          have h15 := hw.1
          have hw := hw.2
          refine sC_35 E.1 h h15 dX0_lastWords_92 (fun σ14 H locs eσ14 h => ?_)
          have hw := hw σ14 eσ14
          obtain ⟨y16, ey16⟩ : ∃ z : Int32, z = x3 + 1 := ⟨_, rfl⟩
          have hw := hw y16 ey16
          refine lv_iinc (v := y16) (lv' := [(3, .int y16), (4, .int t0), (0, .ref (q 25)), (1, .int x1), (2, .ref (q 35))]) hx hb dX0_lastWords_93 hl (k := 4) rfl (by rw [ey16]; rfl) (by decide) rfl (fun ls hl => ?_)
          refine lv_goto (tgt := 7) hx hb dX0_lastWords_96 (by decide) ?_
          exact hK7 _ _ _ _ _ _ h hw (lv_sub hl [2, 3, 4, 0] rfl)

def wpC_X0_lastWords_7 (Post : CS → Prop) : Nat → CS → Int32 → Int32 → Prop
  | 0, _, _, _ => False
  | n + 1, σ, x1, x3 => ((σ.1 505) ≤ x3 → Post σ) ∧ (¬ (σ.1 505) ≤ x3 → vp_in x3 200 ∧ ((σ.2.1 26 x3.toNatClampNeg) = 7 → wpC_X0_lastWords_42 (fun a0 a1 a2 => wpC_X0_lastWords_7 Post n a0 a1 a2) Post σ x1 x3 1) ∧ (¬ (σ.2.1 26 x3.toNatClampNeg) = 7 → vp_in x3 200 ∧ ((σ.2.1 26 x3.toNatClampNeg) = 8 → wpC_X0_lastWords_42 (fun a0 a1 a2 => wpC_X0_lastWords_7 Post n a0 a1 a2) Post σ x1 x3 1) ∧ (¬ (σ.2.1 26 x3.toNatClampNeg) = 8 → wpC_X0_lastWords_42 (fun a0 a1 a2 => wpC_X0_lastWords_7 Post n a0 a1 a2) Post σ x1 x3 0)))
set_option maxHeartbeats 1000000 in
set_option maxRecDepth 20000 in
theorem wkC_X0_lastWords_7 {Post : CS → Prop} (E : zE cX0_lastWords RX0 5 none D cy ks A p s m args meth c) : ∀ n : Nat, ∀ (σ : CS) (x1 : Int32) (x3 : Int32) (H : Heap) (locs : List Loc) (ls : Array Slot), xH D A s (CW q cy σ) H locs → wpC_X0_lastWords_7 Post n σ x1 x3 → lv_has ls 5 [(0, .ref (q 25)), (1, .int x1), (2, .ref (q 35)), (3, .int x3)] → W p l e rC_X0_lastWords s m args below meth c H locs 0 0 (MQ below (va_Qv Post (xB D cy (CW q cy) A) A) args s 0 0 A) (F0 m 7 ls []) := by
  have hx := E.1.1
  have hb := E.1.2.1
  intro n
  induction n with
  | zero => intro σ x1 x3 H locs ls h hw hl; exact False.elim hw
  | succ n ih =>
    intro σ x1 x3 H locs ls h hw hl
    refine lv_iload_n hx hb dX0_lastWords_7 rfl (lv_at hl 3 rfl) ?_
    refine lv_aload_n hx hb dX0_lastWords_8 rfl (lv_at hl 0 rfl) ?_
    refine gX0_28 E.1 h dX0_lastWords_9 ?_
    refine lv_icmp_ge (tgt := 99) hx hb dX0_lastWords_12 (by decide) (fun c1 => ?_) (fun c1 => ?_)
    · have hw := hw.1 c1
      exact x_vret E.1 h hw dX0_lastWords_99
    · have hw := hw.2 c1
      refine lv_aload_n hx hb dX0_lastWords_15 rfl (lv_at hl 0 rfl) ?_
      refine gX0_9 E.1 h dX0_lastWords_16 ?_
      refine lv_iload_n hx hb dX0_lastWords_19 rfl (lv_at hl 3 rfl) ?_
      have h2 := hw.1
      have hw := hw.2
      refine aC_26 E.1 h h2 dX0_lastWords_20 ?_
      refine lv_bipush (v := 7) hx hb dX0_lastWords_21 (by decide) ?_
      refine lv_icmp_eq (tgt := 37) hx hb dX0_lastWords_23 (by decide) (fun c3 => ?_) (fun c3 => ?_)
      · have hw := hw.1 c3
        refine lv_iconst (v := 1) hx hb dX0_lastWords_37 (by decide) ?_
        refine lv_goto (tgt := 42) hx hb dX0_lastWords_38 (by decide) ?_
        exact wkC_X0_lastWords_42 E ih _ _ _ _ _ _ _ h hw (lv_sub hl [0, 1, 2, 3] rfl)
      · have hw := hw.2 c3
        refine lv_aload_n hx hb dX0_lastWords_26 rfl (lv_at hl 0 rfl) ?_
        refine gX0_9 E.1 h dX0_lastWords_27 ?_
        refine lv_iload_n hx hb dX0_lastWords_30 rfl (lv_at hl 3 rfl) ?_
        have h4 := hw.1
        have hw := hw.2
        refine aC_26 E.1 h h4 dX0_lastWords_31 ?_
        refine lv_bipush (v := 8) hx hb dX0_lastWords_32 (by decide) ?_
        refine lv_icmp_ne (tgt := 41) hx hb dX0_lastWords_34 (by decide) (fun c5 => ?_) (fun c5 => ?_)
        · have hw := hw.2 c5
          refine lv_iconst (v := 0) hx hb dX0_lastWords_41 (by decide) ?_
          exact wkC_X0_lastWords_42 E ih _ _ _ _ _ _ _ h hw (lv_sub hl [0, 1, 2, 3] rfl)
        · have hw := hw.1 c5
          refine lv_iconst (v := 1) hx hb dX0_lastWords_37 (by decide) ?_
          refine lv_goto (tgt := 42) hx hb dX0_lastWords_38 (by decide) ?_
          exact wkC_X0_lastWords_42 E ih _ _ _ _ _ _ _ h hw (lv_sub hl [0, 1, 2, 3] rfl)

def wpC_X0_lastWords (σ : CS) (x1 : Int32) (Post : CS → Prop) : Prop := wpC_J7_fill_35 σ ((-1)) (fun σ1 => ∃ g, wpC_X0_lastWords_7 Post g σ1 x1 0)
set_option maxHeartbeats 1000000 in
set_option maxRecDepth 20000 in
theorem cC_X0_lastWords {l : Launch} {D : va_G} {cy : Nat → ClassId} {ks : Nat × Nat × Option Nat} {q : Nat → Nat} {σ : CS} {sz : Nat} {x1 : Int32} {Post : CS → Prop} (hw : wpC_X0_lastWords σ x1 Post) : Met l yX0_lastWords (Cond.code yX0_lastWords cX0_lastWords 5 none :: wsA) rC_X0_lastWords (zPc D cy ks (CW q cy σ) sz [.ref (q 25), .int x1, .ref (q 35)]) (va_Qv Post (xB D cy (CW q cy) (va_A (CW q cy σ) sz)) (va_A (CW q cy σ) sz)) 0 0 (va_A (CW q cy σ) sz) := by
  refine z_enter (own := RX0) (WW := CW q cy) (by decide) rfl (Nat.le_of_ble_eq_true rfl) ?_
  intro p e s m below meth c ls E h hl
  have hx := E.1.1
  have hb := E.1.2.1
  have hl : lv_has ls 5 [(0, .ref (q 25)), (1, .int x1), (2, .ref (q 35))] := hl
  unfold wpC_X0_lastWords at hw
  refine lv_aload_n hx hb dX0_lastWords_0 rfl (lv_at hl 2 rfl) ?_
  refine lv_iconst (v := (-1)) hx hb dX0_lastWords_1 (by decide) ?_
  refine x_callv h (z_runSX (WW := CW q cy) (rest := []) E h (cC_J7_fill_35 hw) yyJ7_fill_53178 lX0_40 ⟨Nat.le_of_ble_eq_true rfl, Nat.le_of_ble_eq_true rfl⟩ rfl rfl hl.1 rfl (Nat.le_of_ble_eq_true rfl) dX0_lastWords_2 ⟨Nat.le_refl 0, Nat.le_refl 0⟩) (fun σ1 H locs hw h => ?_)
  refine lv_iconst (v := 0) hx hb dX0_lastWords_5 (by decide) ?_
  refine lv_istore_n (lv' := [(3, .int 0), (0, .ref (q 25)), (1, .int x1), (2, .ref (q 35))]) hx hb dX0_lastWords_6 rfl hl (by decide) rfl (fun ls hl => ?_)
  obtain ⟨g, hw⟩ := hw
  exact wkC_X0_lastWords_7 E g _ _ _ _ _ _ h hw (lv_sub hl [1, 2, 3, 0] rfl)

abbrev rC_X0_returns : Room := { frames := 0, cells := 0, slots := 0, locals := 0 }
def wpC_X0_returns_3 (Post : Int32 → CS → Prop) : Nat → CS → Int32 → Int32 → Int32 → Int32 → Prop
  | 0, _, _, _, _, _ => False
  | n + 1, σ, x1, x2, x3, x4 => ((σ.1 505) ≤ x4 → Post 0 σ) ∧ (¬ (σ.1 505) ≤ x4 → vp_in x4 200 ∧ ((σ.2.1 26 x4.toNatClampNeg) = 3 → vp_in x4 200 ∧ ((σ.2.1 27 x4.toNatClampNeg) = x1 → vp_in x4 200 ∧ ((σ.2.1 29 x4.toNatClampNeg) < x2 → ∀ y10 : Int32, y10 = x4 + 1 → wpC_X0_returns_3 Post n σ x1 x2 x3 y10) ∧ (¬ (σ.2.1 29 x4.toNatClampNeg) < x2 → vp_in x4 200 ∧ (x3 < (σ.2.1 29 x4.toNatClampNeg) → ∀ y13 : Int32, y13 = x4 + 1 → wpC_X0_returns_3 Post n σ x1 x2 x3 y13) ∧ (¬ x3 < (σ.2.1 29 x4.toNatClampNeg) → Post 1 σ))) ∧ (¬ (σ.2.1 27 x4.toNatClampNeg) = x1 → ∀ y7 : Int32, y7 = x4 + 1 → wpC_X0_returns_3 Post n σ x1 x2 x3 y7)) ∧ (¬ (σ.2.1 26 x4.toNatClampNeg) = 3 → ∀ y4 : Int32, y4 = x4 + 1 → wpC_X0_returns_3 Post n σ x1 x2 x3 y4))
set_option maxHeartbeats 1000000 in
set_option maxRecDepth 20000 in
theorem wkC_X0_returns_3 {Post : Int32 → CS → Prop} (E : zE cX0_returns RX0 5 (some .boolean) D cy ks A p s m args meth c) : ∀ n : Nat, ∀ (σ : CS) (x1 : Int32) (x2 : Int32) (x3 : Int32) (x4 : Int32) (H : Heap) (locs : List Loc) (ls : Array Slot), xH D A s (CW q cy σ) H locs → wpC_X0_returns_3 Post n σ x1 x2 x3 x4 → lv_has ls 5 [(0, .ref (q 25)), (1, .int x1), (2, .int x2), (3, .int x3), (4, .int x4)] → W p l e rC_X0_returns s m args below meth c H locs 0 0 (MQ below (va_Qi Post (xB D cy (CW q cy) A) A) args s 0 0 A) (F0 m 3 ls []) := by
  have hx := E.1.1
  have hb := E.1.2.1
  intro n
  induction n with
  | zero => intro σ x1 x2 x3 x4 H locs ls h hw hl; exact False.elim hw
  | succ n ih =>
    intro σ x1 x2 x3 x4 H locs ls h hw hl
    refine lv_iload hx hb dX0_returns_3 (lv_at hl 4 rfl) ?_
    refine lv_aload_n hx hb dX0_returns_5 rfl (lv_at hl 0 rfl) ?_
    refine gX0_28 E.1 h dX0_returns_6 ?_
    refine lv_icmp_ge (tgt := 64) hx hb dX0_returns_9 (by decide) (fun c1 => ?_) (fun c1 => ?_)
    · have hw := hw.1 c1
      refine lv_iconst (v := 0) hx hb dX0_returns_64 (by decide) ?_
      exact x_zret E.1 h rfl hw dX0_returns_65
    · have hw := hw.2 c1
      refine lv_aload_n hx hb dX0_returns_12 rfl (lv_at hl 0 rfl) ?_
      refine gX0_9 E.1 h dX0_returns_13 ?_
      refine lv_iload hx hb dX0_returns_16 (lv_at hl 4 rfl) ?_
      have h2 := hw.1
      have hw := hw.2
      refine aC_26 E.1 h h2 dX0_returns_18 ?_
      refine lv_iconst (v := 3) hx hb dX0_returns_19 (by decide) ?_
      refine lv_icmp_ne (tgt := 58) hx hb dX0_returns_20 (by decide) (fun c3 => ?_) (fun c3 => ?_)
      · have hw := hw.2 c3
        obtain ⟨y4, ey4⟩ : ∃ z : Int32, z = x4 + 1 := ⟨_, rfl⟩
        have hw := hw y4 ey4
        refine lv_iinc (v := y4) (lv' := [(4, .int y4), (0, .ref (q 25)), (1, .int x1), (2, .int x2), (3, .int x3)]) hx hb dX0_returns_58 hl (k := 4) rfl (by rw [ey4]; rfl) (by decide) rfl (fun ls hl => ?_)
        refine lv_goto (tgt := 3) hx hb dX0_returns_61 (by decide) ?_
        exact ih _ _ _ _ _ _ _ _ h hw (lv_sub hl [1, 2, 3, 4, 0] rfl)
      · have hw := hw.1 c3
        refine lv_aload_n hx hb dX0_returns_23 rfl (lv_at hl 0 rfl) ?_
        refine gX0_15 E.1 h dX0_returns_24 ?_
        refine lv_iload hx hb dX0_returns_27 (lv_at hl 4 rfl) ?_
        have h5 := hw.1
        have hw := hw.2
        refine aC_27 E.1 h h5 dX0_returns_29 ?_
        refine lv_iload_n hx hb dX0_returns_30 rfl (lv_at hl 1 rfl) ?_
        refine lv_icmp_ne (tgt := 58) hx hb dX0_returns_31 (by decide) (fun c6 => ?_) (fun c6 => ?_)
        · have hw := hw.2 c6
          obtain ⟨y7, ey7⟩ : ∃ z : Int32, z = x4 + 1 := ⟨_, rfl⟩
          have hw := hw y7 ey7
          refine lv_iinc (v := y7) (lv' := [(4, .int y7), (0, .ref (q 25)), (1, .int x1), (2, .int x2), (3, .int x3)]) hx hb dX0_returns_58 hl (k := 4) rfl (by rw [ey7]; rfl) (by decide) rfl (fun ls hl => ?_)
          refine lv_goto (tgt := 3) hx hb dX0_returns_61 (by decide) ?_
          exact ih _ _ _ _ _ _ _ _ h hw (lv_sub hl [1, 2, 3, 4, 0] rfl)
        · have hw := hw.1 c6
          refine lv_aload_n hx hb dX0_returns_34 rfl (lv_at hl 0 rfl) ?_
          refine gX0_21 E.1 h dX0_returns_35 ?_
          refine lv_iload hx hb dX0_returns_38 (lv_at hl 4 rfl) ?_
          have h8 := hw.1
          have hw := hw.2
          refine aC_29 E.1 h h8 dX0_returns_40 ?_
          refine lv_iload_n hx hb dX0_returns_41 rfl (lv_at hl 2 rfl) ?_
          refine lv_icmp_lt (tgt := 58) hx hb dX0_returns_42 (by decide) (fun c9 => ?_) (fun c9 => ?_)
          · have hw := hw.1 c9
            obtain ⟨y10, ey10⟩ : ∃ z : Int32, z = x4 + 1 := ⟨_, rfl⟩
            have hw := hw y10 ey10
            refine lv_iinc (v := y10) (lv' := [(4, .int y10), (0, .ref (q 25)), (1, .int x1), (2, .int x2), (3, .int x3)]) hx hb dX0_returns_58 hl (k := 4) rfl (by rw [ey10]; rfl) (by decide) rfl (fun ls hl => ?_)
            refine lv_goto (tgt := 3) hx hb dX0_returns_61 (by decide) ?_
            exact ih _ _ _ _ _ _ _ _ h hw (lv_sub hl [1, 2, 3, 4, 0] rfl)
          · have hw := hw.2 c9
            refine lv_aload_n hx hb dX0_returns_45 rfl (lv_at hl 0 rfl) ?_
            refine gX0_21 E.1 h dX0_returns_46 ?_
            refine lv_iload hx hb dX0_returns_49 (lv_at hl 4 rfl) ?_
            have h11 := hw.1
            have hw := hw.2
            refine aC_29 E.1 h h11 dX0_returns_51 ?_
            refine lv_iload_n hx hb dX0_returns_52 rfl (lv_at hl 3 rfl) ?_
            refine lv_icmp_gt (tgt := 58) hx hb dX0_returns_53 (by decide) (fun c12 => ?_) (fun c12 => ?_)
            · have hw := hw.1 c12
              obtain ⟨y13, ey13⟩ : ∃ z : Int32, z = x4 + 1 := ⟨_, rfl⟩
              have hw := hw y13 ey13
              refine lv_iinc (v := y13) (lv' := [(4, .int y13), (0, .ref (q 25)), (1, .int x1), (2, .int x2), (3, .int x3)]) hx hb dX0_returns_58 hl (k := 4) rfl (by rw [ey13]; rfl) (by decide) rfl (fun ls hl => ?_)
              refine lv_goto (tgt := 3) hx hb dX0_returns_61 (by decide) ?_
              exact ih _ _ _ _ _ _ _ _ h hw (lv_sub hl [1, 2, 3, 4, 0] rfl)
            · have hw := hw.2 c12
              refine lv_iconst (v := 1) hx hb dX0_returns_56 (by decide) ?_
              exact x_zret E.1 h rfl hw dX0_returns_57

def wpC_X0_returns (σ : CS) (x1 : Int32) (x2 : Int32) (x3 : Int32) (Post : Int32 → CS → Prop) : Prop := ∃ g, wpC_X0_returns_3 Post g σ x1 x2 x3 0
set_option maxHeartbeats 1000000 in
set_option maxRecDepth 20000 in
theorem cC_X0_returns {l : Launch} {D : va_G} {cy : Nat → ClassId} {ks : Nat × Nat × Option Nat} {q : Nat → Nat} {σ : CS} {sz : Nat} {x1 : Int32} {x2 : Int32} {x3 : Int32} {Post : Int32 → CS → Prop} (hw : wpC_X0_returns σ x1 x2 x3 Post) : Met l yX0_returns (Cond.code yX0_returns cX0_returns 5 (some .boolean) :: wsA) rC_X0_returns (zPc D cy ks (CW q cy σ) sz [.ref (q 25), .int x1, .int x2, .int x3]) (va_Qi Post (xB D cy (CW q cy) (va_A (CW q cy σ) sz)) (va_A (CW q cy σ) sz)) 0 0 (va_A (CW q cy σ) sz) := by
  refine z_enter (own := RX0) (WW := CW q cy) (by decide) rfl (Nat.le_of_ble_eq_true rfl) ?_
  intro p e s m below meth c ls E h hl
  have hx := E.1.1
  have hb := E.1.2.1
  have hl : lv_has ls 5 [(0, .ref (q 25)), (1, .int x1), (2, .int x2), (3, .int x3)] := hl
  unfold wpC_X0_returns at hw
  refine lv_iconst (v := 0) hx hb dX0_returns_0 (by decide) ?_
  refine lv_istore (lv' := [(4, .int 0), (0, .ref (q 25)), (1, .int x1), (2, .int x2), (3, .int x3)]) hx hb dX0_returns_1 hl (by decide) rfl (fun ls hl => ?_)
  obtain ⟨g, hw⟩ := hw
  exact wkC_X0_returns_3 E g _ _ _ _ _ _ _ _ h hw (lv_sub hl [1, 2, 3, 4, 0] rfl)

abbrev rC_X0_firstLapse : Room := { frames := 1, cells := 0, slots := 0, locals := 24 }
def wpC_X0_firstLapse_8 (Post : Int32 → CS → Prop) : Nat → CS → Int32 → Int32 → Int32 → Int32 → Int32 → Prop
  | 0, _, _, _, _, _, _ => False
  | n + 1, σ, x1, x2, x3, x4, x5 => ((σ.1 505) ≤ x5 → Post x4 σ) ∧ (¬ (σ.1 505) ≤ x5 → vp_in x5 200 ∧ ((σ.2.1 26 x5.toNatClampNeg) = 2 → vp_in x5 200 ∧ ((σ.2.1 27 x5.toNatClampNeg) = x1 → vp_in x5 200 ∧ ∀ y9 : Int32, y9 = (if x3 < ((σ.2.1 29 x5.toNatClampNeg) + x2) then ((σ.2.1 29 x5.toNatClampNeg) + x2) else x3) → (x4 ≤ y9 → ∀ y11 : Int32, y11 = x5 + 1 → wpC_X0_firstLapse_8 Post n σ x1 x2 x3 x4 y11) ∧ (¬ x4 ≤ y9 → vp_in x5 200 ∧ wpC_X0_returns σ x1 (σ.2.1 29 x5.toNatClampNeg) y9 (fun r13 σ14 => (r13 = 0 → ∀ y17 : Int32, y17 = x5 + 1 → wpC_X0_firstLapse_8 Post n σ14 x1 x2 x3 y9 y17) ∧ (¬ r13 = 0 → ∀ y16 : Int32, y16 = x5 + 1 → wpC_X0_firstLapse_8 Post n σ14 x1 x2 x3 x4 y16)))) ∧ (¬ (σ.2.1 27 x5.toNatClampNeg) = x1 → ∀ y7 : Int32, y7 = x5 + 1 → wpC_X0_firstLapse_8 Post n σ x1 x2 x3 x4 y7)) ∧ (¬ (σ.2.1 26 x5.toNatClampNeg) = 2 → ∀ y4 : Int32, y4 = x5 + 1 → wpC_X0_firstLapse_8 Post n σ x1 x2 x3 x4 y4))
set_option maxHeartbeats 1000000 in
set_option maxRecDepth 20000 in
theorem wkC_X0_firstLapse_8 {Post : Int32 → CS → Prop} (E : zE cX0_firstLapse RX0 7 (some .int) D cy ks A p s m args meth c) : ∀ n : Nat, ∀ (σ : CS) (x1 : Int32) (x2 : Int32) (x3 : Int32) (x4 : Int32) (x5 : Int32) (H : Heap) (locs : List Loc) (ls : Array Slot), xH D A s (CW q cy σ) H locs → wpC_X0_firstLapse_8 Post n σ x1 x2 x3 x4 x5 → lv_has ls 7 [(0, .ref (q 25)), (1, .int x1), (2, .int x2), (3, .int x3), (4, .int x4), (5, .int x5)] → W p l e rC_X0_firstLapse s m args below meth c H locs 0 0 (MQ below (va_Qi Post (xB D cy (CW q cy) A) A) args s 0 0 A) (F0 m 8 ls []) := by
  have hx := E.1.1
  have hb := E.1.2.1
  intro n
  induction n with
  | zero => intro σ x1 x2 x3 x4 x5 H locs ls h hw hl; exact False.elim hw
  | succ n ih =>
    intro σ x1 x2 x3 x4 x5 H locs ls h hw hl
    refine lv_iload hx hb dX0_firstLapse_8 (lv_at hl 5 rfl) ?_
    refine lv_aload_n hx hb dX0_firstLapse_10 rfl (lv_at hl 0 rfl) ?_
    refine gX0_28 E.1 h dX0_firstLapse_11 ?_
    refine lv_icmp_ge (tgt := 88) hx hb dX0_firstLapse_14 (by decide) (fun c1 => ?_) (fun c1 => ?_)
    · have hw := hw.1 c1
      refine lv_iload hx hb dX0_firstLapse_88 (lv_at hl 4 rfl) ?_
      exact x_iret E.1 h hw dX0_firstLapse_90
    · have hw := hw.2 c1
      refine lv_aload_n hx hb dX0_firstLapse_17 rfl (lv_at hl 0 rfl) ?_
      refine gX0_9 E.1 h dX0_firstLapse_18 ?_
      refine lv_iload hx hb dX0_firstLapse_21 (lv_at hl 5 rfl) ?_
      have h2 := hw.1
      have hw := hw.2
      refine aC_26 E.1 h h2 dX0_firstLapse_23 ?_
      refine lv_iconst (v := 2) hx hb dX0_firstLapse_24 (by decide) ?_
      refine lv_icmp_ne (tgt := 82) hx hb dX0_firstLapse_25 (by decide) (fun c3 => ?_) (fun c3 => ?_)
      · have hw := hw.2 c3
        obtain ⟨y4, ey4⟩ : ∃ z : Int32, z = x5 + 1 := ⟨_, rfl⟩
        have hw := hw y4 ey4
        refine lv_iinc (v := y4) (lv' := [(5, .int y4), (0, .ref (q 25)), (1, .int x1), (2, .int x2), (3, .int x3), (4, .int x4)]) hx hb dX0_firstLapse_82 hl (k := 5) rfl (by rw [ey4]; rfl) (by decide) rfl (fun ls hl => ?_)
        refine lv_goto (tgt := 8) hx hb dX0_firstLapse_85 (by decide) ?_
        exact ih _ _ _ _ _ _ _ _ _ h hw (lv_sub hl [1, 2, 3, 4, 5, 0] rfl)
      · have hw := hw.1 c3
        refine lv_aload_n hx hb dX0_firstLapse_28 rfl (lv_at hl 0 rfl) ?_
        refine gX0_15 E.1 h dX0_firstLapse_29 ?_
        refine lv_iload hx hb dX0_firstLapse_32 (lv_at hl 5 rfl) ?_
        have h5 := hw.1
        have hw := hw.2
        refine aC_27 E.1 h h5 dX0_firstLapse_34 ?_
        refine lv_iload_n hx hb dX0_firstLapse_35 rfl (lv_at hl 1 rfl) ?_
        refine lv_icmp_ne (tgt := 82) hx hb dX0_firstLapse_36 (by decide) (fun c6 => ?_) (fun c6 => ?_)
        · have hw := hw.2 c6
          obtain ⟨y7, ey7⟩ : ∃ z : Int32, z = x5 + 1 := ⟨_, rfl⟩
          have hw := hw y7 ey7
          refine lv_iinc (v := y7) (lv' := [(5, .int y7), (0, .ref (q 25)), (1, .int x1), (2, .int x2), (3, .int x3), (4, .int x4)]) hx hb dX0_firstLapse_82 hl (k := 5) rfl (by rw [ey7]; rfl) (by decide) rfl (fun ls hl => ?_)
          refine lv_goto (tgt := 8) hx hb dX0_firstLapse_85 (by decide) ?_
          exact ih _ _ _ _ _ _ _ _ _ h hw (lv_sub hl [1, 2, 3, 4, 5, 0] rfl)
        · have hw := hw.1 c6
          refine lv_iload_n hx hb dX0_firstLapse_39 rfl (lv_at hl 3 rfl) ?_
          refine lv_aload_n hx hb dX0_firstLapse_40 rfl (lv_at hl 0 rfl) ?_
          refine gX0_21 E.1 h dX0_firstLapse_41 ?_
          refine lv_iload hx hb dX0_firstLapse_44 (lv_at hl 5 rfl) ?_
          have h8 := hw.1
          have hw := hw.2
          refine aC_29 E.1 h h8 dX0_firstLapse_46 ?_
          refine lv_iload_n hx hb dX0_firstLapse_47 rfl (lv_at hl 2 rfl) ?_
          refine lv_iadd hx hb dX0_firstLapse_48 ?_
          refine z_max E.1 hl.1 lX0_37 (Nat.le_of_ble_eq_true rfl) (Nat.le_of_ble_eq_true rfl) (Nat.le_refl 0) (Nat.le_refl 0) dX0_firstLapse_49 ?_
          refine lv_topi (fun y9 ey9 => ?_)
          have hw := hw y9 ey9
          refine lv_istore (lv' := [(6, .int y9), (0, .ref (q 25)), (1, .int x1), (2, .int x2), (3, .int x3), (4, .int x4), (5, .int x5)]) hx hb dX0_firstLapse_52 hl (by decide) rfl (fun ls hl => ?_)
          refine lv_iload hx hb dX0_firstLapse_54 (lv_at hl 0 rfl) ?_
          refine lv_iload hx hb dX0_firstLapse_56 (lv_at hl 5 rfl) ?_
          refine lv_icmp_ge (tgt := 82) hx hb dX0_firstLapse_58 (by decide) (fun c10 => ?_) (fun c10 => ?_)
          · have hw := hw.1 c10
            obtain ⟨y11, ey11⟩ : ∃ z : Int32, z = x5 + 1 := ⟨_, rfl⟩
            have hw := hw y11 ey11
            refine lv_iinc (v := y11) (lv' := [(5, .int y11), (6, .int y9), (0, .ref (q 25)), (1, .int x1), (2, .int x2), (3, .int x3), (4, .int x4)]) hx hb dX0_firstLapse_82 hl (k := 6) rfl (by rw [ey11]; rfl) (by decide) rfl (fun ls hl => ?_)
            refine lv_goto (tgt := 8) hx hb dX0_firstLapse_85 (by decide) ?_
            exact ih _ _ _ _ _ _ _ _ _ h hw (lv_sub hl [2, 3, 4, 5, 6, 0] rfl)
          · have hw := hw.2 c10
            refine lv_aload_n hx hb dX0_firstLapse_61 rfl (lv_at hl 1 rfl) ?_
            refine lv_iload_n hx hb dX0_firstLapse_62 rfl (lv_at hl 2 rfl) ?_
            refine lv_aload_n hx hb dX0_firstLapse_63 rfl (lv_at hl 1 rfl) ?_
            refine gX0_21 E.1 h dX0_firstLapse_64 ?_
            refine lv_iload hx hb dX0_firstLapse_67 (lv_at hl 6 rfl) ?_
            have h12 := hw.1
            have hw := hw.2
            refine aC_29 E.1 h h12 dX0_firstLapse_69 ?_
            refine lv_iload hx hb dX0_firstLapse_70 (lv_at hl 0 rfl) ?_
            refine x_calli h (z_runV (WW := CW q cy) (rest := []) E h (cC_X0_returns hw) yyX0_returns lX0_46 25 rfl rfl ⟨Nat.le_of_ble_eq_true rfl, Nat.le_of_ble_eq_true rfl⟩ rfl rfl hl.1 rfl (Nat.le_of_ble_eq_true rfl) dX0_firstLapse_72 ⟨Nat.le_refl 0, Nat.le_refl 0⟩) (fun r13 σ14 H locs hw h => ?_)
            refine lv_if_ne (tgt := 82) hx hb dX0_firstLapse_75 (by decide) (fun c15 => ?_) (fun c15 => ?_)
            · have hw := hw.2 c15
              obtain ⟨y16, ey16⟩ : ∃ z : Int32, z = x5 + 1 := ⟨_, rfl⟩
              have hw := hw y16 ey16
              refine lv_iinc (v := y16) (lv' := [(5, .int y16), (6, .int y9), (0, .ref (q 25)), (1, .int x1), (2, .int x2), (3, .int x3), (4, .int x4)]) hx hb dX0_firstLapse_82 hl (k := 6) rfl (by rw [ey16]; rfl) (by decide) rfl (fun ls hl => ?_)
              refine lv_goto (tgt := 8) hx hb dX0_firstLapse_85 (by decide) ?_
              exact ih _ _ _ _ _ _ _ _ _ h hw (lv_sub hl [2, 3, 4, 5, 6, 0] rfl)
            · have hw := hw.1 c15
              refine lv_iload hx hb dX0_firstLapse_78 (lv_at hl 0 rfl) ?_
              refine lv_istore (lv' := [(4, .int y9), (6, .int y9), (0, .ref (q 25)), (1, .int x1), (2, .int x2), (3, .int x3), (5, .int x5)]) hx hb dX0_firstLapse_80 hl (by decide) rfl (fun ls hl => ?_)
              obtain ⟨y17, ey17⟩ : ∃ z : Int32, z = x5 + 1 := ⟨_, rfl⟩
              have hw := hw y17 ey17
              refine lv_iinc (v := y17) (lv' := [(5, .int y17), (4, .int y9), (6, .int y9), (0, .ref (q 25)), (1, .int x1), (2, .int x2), (3, .int x3)]) hx hb dX0_firstLapse_82 hl (k := 6) rfl (by rw [ey17]; rfl) (by decide) rfl (fun ls hl => ?_)
              refine lv_goto (tgt := 8) hx hb dX0_firstLapse_85 (by decide) ?_
              exact ih _ _ _ _ _ _ _ _ _ h hw (lv_sub hl [3, 4, 5, 6, 1, 0] rfl)

def wpC_X0_firstLapse (σ : CS) (x1 : Int32) (x2 : Int32) (x3 : Int32) (Post : Int32 → CS → Prop) : Prop := ∃ g, wpC_X0_firstLapse_8 Post g σ x1 x2 x3 10000 0
set_option maxHeartbeats 1000000 in
set_option maxRecDepth 20000 in
theorem cC_X0_firstLapse {l : Launch} {D : va_G} {cy : Nat → ClassId} {ks : Nat × Nat × Option Nat} {q : Nat → Nat} {σ : CS} {sz : Nat} {x1 : Int32} {x2 : Int32} {x3 : Int32} {Post : Int32 → CS → Prop} (hw : wpC_X0_firstLapse σ x1 x2 x3 Post) : Met l yX0_firstLapse (Cond.code yX0_firstLapse cX0_firstLapse 7 (some .int) :: wsA) rC_X0_firstLapse (zPc D cy ks (CW q cy σ) sz [.ref (q 25), .int x1, .int x2, .int x3]) (va_Qi Post (xB D cy (CW q cy) (va_A (CW q cy σ) sz)) (va_A (CW q cy σ) sz)) 0 0 (va_A (CW q cy σ) sz) := by
  refine z_enter (own := RX0) (WW := CW q cy) (by decide) rfl (Nat.le_of_ble_eq_true rfl) ?_
  intro p e s m below meth c ls E h hl
  have hx := E.1.1
  have hb := E.1.2.1
  have hl : lv_has ls 7 [(0, .ref (q 25)), (1, .int x1), (2, .int x2), (3, .int x3)] := hl
  unfold wpC_X0_firstLapse at hw
  refine lv_sipush (v := 10000) hx hb dX0_firstLapse_0 (by decide) ?_
  refine lv_istore (lv' := [(4, .int 10000), (0, .ref (q 25)), (1, .int x1), (2, .int x2), (3, .int x3)]) hx hb dX0_firstLapse_3 hl (by decide) rfl (fun ls hl => ?_)
  refine lv_iconst (v := 0) hx hb dX0_firstLapse_5 (by decide) ?_
  refine lv_istore (lv' := [(5, .int 0), (4, .int 10000), (0, .ref (q 25)), (1, .int x1), (2, .int x2), (3, .int x3)]) hx hb dX0_firstLapse_6 hl (by decide) rfl (fun ls hl => ?_)
  obtain ⟨g, hw⟩ := hw
  exact wkC_X0_firstLapse_8 E g _ _ _ _ _ _ _ _ _ h hw (lv_sub hl [2, 3, 4, 5, 1, 0] rfl)

abbrev rC_X1_has : Room := { frames := 0, cells := 0, slots := 0, locals := 0 }
def wpC_X1_has (σ : CS) (x1 : Int32) (Post : Int32 → CS → Prop) : Prop := (x1 < 0 → Post 0 σ) ∧ (¬ x1 < 0 → ((σ.1 165) ≤ x1 → Post 0 σ) ∧ (¬ (σ.1 165) ≤ x1 → Post 1 σ))
set_option maxHeartbeats 1000000 in
set_option maxRecDepth 20000 in
theorem cC_X1_has {l : Launch} {D : va_G} {cy : Nat → ClassId} {ks : Nat × Nat × Option Nat} {q : Nat → Nat} {σ : CS} {sz : Nat} {x1 : Int32} {Post : Int32 → CS → Prop} (hw : wpC_X1_has σ x1 Post) : Met l yX1_has (Cond.code yX1_has cX1_has 2 (some .boolean) :: wsA) rC_X1_has (zPc D cy ks (CW q cy σ) sz [.ref (q 8), .int x1]) (va_Qi Post (xB D cy (CW q cy) (va_A (CW q cy σ) sz)) (va_A (CW q cy σ) sz)) 0 0 (va_A (CW q cy σ) sz) := by
  refine z_enter (own := RX1) (WW := CW q cy) (by decide) rfl (Nat.le_of_ble_eq_true rfl) ?_
  intro p e s m below meth c ls E h hl
  have hx := E.1.1
  have hb := E.1.2.1
  have hl : lv_has ls 2 [(0, .ref (q 8)), (1, .int x1)] := hl
  unfold wpC_X1_has at hw
  refine lv_iload_n hx hb dX1_has_0 rfl (lv_at hl 1 rfl) ?_
  refine lv_if_lt (tgt := 16) hx hb dX1_has_1 (by decide) (fun c1 => ?_) (fun c1 => ?_)
  · have hw := hw.1 c1
    refine lv_iconst (v := 0) hx hb dX1_has_16 (by decide) ?_
    exact x_zret E.1 h rfl hw dX1_has_17
  · have hw := hw.2 c1
    refine lv_iload_n hx hb dX1_has_4 rfl (lv_at hl 1 rfl) ?_
    refine lv_aload_n hx hb dX1_has_5 rfl (lv_at hl 0 rfl) ?_
    refine gX1_27 E.1 h dX1_has_6 ?_
    refine lv_icmp_ge (tgt := 16) hx hb dX1_has_9 (by decide) (fun c2 => ?_) (fun c2 => ?_)
    · have hw := hw.1 c2
      refine lv_iconst (v := 0) hx hb dX1_has_16 (by decide) ?_
      exact x_zret E.1 h rfl hw dX1_has_17
    · have hw := hw.2 c2
      refine lv_iconst (v := 1) hx hb dX1_has_12 (by decide) ?_
      refine lv_goto (tgt := 17) hx hb dX1_has_13 (by decide) ?_
      exact x_zret E.1 h rfl hw dX1_has_17

abbrev rC_X1_canBear : Room := { frames := 1, cells := 0, slots := 0, locals := 21 }
def wpC_X1_canBear (σ : CS) (x1 : Int32) (x2 : Int32) (Post : Int32 → CS → Prop) : Prop := (x1 = ((-1)) → Post 1 σ) ∧ (¬ x1 = ((-1)) → wpC_X1_has σ x1 (fun r2 σ3 => (r2 = 0 → Post 0 σ3) ∧ (¬ r2 = 0 → vp_in x1 12 ∧ (x2 ≤ (σ3.2.1 11 x1.toNatClampNeg) → Post 0 σ3) ∧ (¬ x2 ≤ (σ3.2.1 11 x1.toNatClampNeg) → Post 1 σ3))))
set_option maxHeartbeats 1000000 in
set_option maxRecDepth 20000 in
theorem cC_X1_canBear {l : Launch} {D : va_G} {cy : Nat → ClassId} {ks : Nat × Nat × Option Nat} {q : Nat → Nat} {σ : CS} {sz : Nat} {x1 : Int32} {x2 : Int32} {Post : Int32 → CS → Prop} (hw : wpC_X1_canBear σ x1 x2 Post) : Met l yX1_canBear (Cond.code yX1_canBear cX1_canBear 3 (some .boolean) :: wsA) rC_X1_canBear (zPc D cy ks (CW q cy σ) sz [.ref (q 8), .int x1, .int x2]) (va_Qi Post (xB D cy (CW q cy) (va_A (CW q cy σ) sz)) (va_A (CW q cy σ) sz)) 0 0 (va_A (CW q cy σ) sz) := by
  refine z_enter (own := RX1) (WW := CW q cy) (by decide) rfl (Nat.le_of_ble_eq_true rfl) ?_
  intro p e s m below meth c ls E h hl
  have hx := E.1.1
  have hb := E.1.2.1
  have hl : lv_has ls 3 [(0, .ref (q 8)), (1, .int x1), (2, .int x2)] := hl
  unfold wpC_X1_canBear at hw
  refine lv_iload_n hx hb dX1_canBear_0 rfl (lv_at hl 1 rfl) ?_
  refine lv_iconst (v := (-1)) hx hb dX1_canBear_1 (by decide) ?_
  refine lv_icmp_eq (tgt := 23) hx hb dX1_canBear_2 (by decide) (fun c1 => ?_) (fun c1 => ?_)
  · have hw := hw.1 c1
    refine lv_iconst (v := 1) hx hb dX1_canBear_23 (by decide) ?_
    refine lv_goto (tgt := 28) hx hb dX1_canBear_24 (by decide) ?_
    exact x_zret E.1 h rfl hw dX1_canBear_28
  · have hw := hw.2 c1
    refine lv_aload_n hx hb dX1_canBear_5 rfl (lv_at hl 0 rfl) ?_
    refine lv_iload_n hx hb dX1_canBear_6 rfl (lv_at hl 1 rfl) ?_
    refine x_calli h (z_runV (WW := CW q cy) (rest := []) E h (cC_X1_has hw) yyX1_has lX1_31 8 rfl rfl ⟨Nat.le_of_ble_eq_true rfl, Nat.le_of_ble_eq_true rfl⟩ rfl rfl hl.1 rfl (Nat.le_of_ble_eq_true rfl) dX1_canBear_7 ⟨Nat.le_refl 0, Nat.le_refl 0⟩) (fun r2 σ3 H locs hw h => ?_)
    refine lv_if_eq (tgt := 27) hx hb dX1_canBear_10 (by decide) (fun c4 => ?_) (fun c4 => ?_)
    · have hw := hw.1 c4
      refine lv_iconst (v := 0) hx hb dX1_canBear_27 (by decide) ?_
      exact x_zret E.1 h rfl hw dX1_canBear_28
    · have hw := hw.2 c4
      refine lv_aload_n hx hb dX1_canBear_13 rfl (lv_at hl 0 rfl) ?_
      refine gX1_18 E.1 h dX1_canBear_14 ?_
      refine lv_iload_n hx hb dX1_canBear_17 rfl (lv_at hl 1 rfl) ?_
      have h5 := hw.1
      have hw := hw.2
      refine aC_11 E.1 h h5 dX1_canBear_18 ?_
      refine lv_iload_n hx hb dX1_canBear_19 rfl (lv_at hl 2 rfl) ?_
      refine lv_icmp_ge (tgt := 27) hx hb dX1_canBear_20 (by decide) (fun c6 => ?_) (fun c6 => ?_)
      · have hw := hw.1 c6
        refine lv_iconst (v := 0) hx hb dX1_canBear_27 (by decide) ?_
        exact x_zret E.1 h rfl hw dX1_canBear_28
      · have hw := hw.2 c6
        refine lv_iconst (v := 1) hx hb dX1_canBear_23 (by decide) ?_
        refine lv_goto (tgt := 28) hx hb dX1_canBear_24 (by decide) ?_
        exact x_zret E.1 h rfl hw dX1_canBear_28

abbrev rC_X1_stepsTo : Room := { frames := 1, cells := 0, slots := 0, locals := 21 }
def wpC_X1_stepsTo (σ : CS) (x1 : Int32) (x2 : Int32) (Post : Int32 → CS → Prop) : Prop := wpC_X1_has σ x1 (fun r1 σ2 => (r1 = 0 → Post 99 σ2) ∧ (¬ r1 = 0 → vp_in ((x1 * 12) + x2) 144 ∧ Post (σ2.2.1 12 ((x1 * 12) + x2).toNatClampNeg) σ2))
set_option maxHeartbeats 1000000 in
set_option maxRecDepth 20000 in
theorem cC_X1_stepsTo {l : Launch} {D : va_G} {cy : Nat → ClassId} {ks : Nat × Nat × Option Nat} {q : Nat → Nat} {σ : CS} {sz : Nat} {x1 : Int32} {x2 : Int32} {Post : Int32 → CS → Prop} (hw : wpC_X1_stepsTo σ x1 x2 Post) : Met l yX1_stepsTo (Cond.code yX1_stepsTo cX1_stepsTo 3 (some .int) :: wsA) rC_X1_stepsTo (zPc D cy ks (CW q cy σ) sz [.ref (q 8), .int x1, .int x2]) (va_Qi Post (xB D cy (CW q cy) (va_A (CW q cy σ) sz)) (va_A (CW q cy σ) sz)) 0 0 (va_A (CW q cy σ) sz) := by
  refine z_enter (own := RX1) (WW := CW q cy) (by decide) rfl (Nat.le_of_ble_eq_true rfl) ?_
  intro p e s m below meth c ls E h hl
  have hx := E.1.1
  have hb := E.1.2.1
  have hl : lv_has ls 3 [(0, .ref (q 8)), (1, .int x1), (2, .int x2)] := hl
  unfold wpC_X1_stepsTo at hw
  refine lv_aload_n hx hb dX1_stepsTo_0 rfl (lv_at hl 0 rfl) ?_
  refine lv_iload_n hx hb dX1_stepsTo_1 rfl (lv_at hl 1 rfl) ?_
  refine x_calli h (z_runV (WW := CW q cy) (rest := []) E h (cC_X1_has hw) yyX1_has lX1_31 8 rfl rfl ⟨Nat.le_of_ble_eq_true rfl, Nat.le_of_ble_eq_true rfl⟩ rfl rfl hl.1 rfl (Nat.le_of_ble_eq_true rfl) dX1_stepsTo_2 ⟨Nat.le_refl 0, Nat.le_refl 0⟩) (fun r1 σ2 H locs hw h => ?_)
  refine lv_if_eq (tgt := 22) hx hb dX1_stepsTo_5 (by decide) (fun c3 => ?_) (fun c3 => ?_)
  · have hw := hw.1 c3
    refine lv_bipush (v := 99) hx hb dX1_stepsTo_22 (by decide) ?_
    exact x_iret E.1 h hw dX1_stepsTo_24
  · have hw := hw.2 c3
    refine lv_aload_n hx hb dX1_stepsTo_8 rfl (lv_at hl 0 rfl) ?_
    refine gX1_21 E.1 h dX1_stepsTo_9 ?_
    refine lv_iload_n hx hb dX1_stepsTo_12 rfl (lv_at hl 1 rfl) ?_
    refine lv_bipush (v := 12) hx hb dX1_stepsTo_13 (by decide) ?_
    refine lv_imul hx hb dX1_stepsTo_15 ?_
    refine lv_iload_n hx hb dX1_stepsTo_16 rfl (lv_at hl 2 rfl) ?_
    refine lv_iadd hx hb dX1_stepsTo_17 ?_
    have h4 := hw.1
    have hw := hw.2
    refine aC_12 E.1 h h4 dX1_stepsTo_18 ?_
    refine lv_goto (tgt := 24) hx hb dX1_stepsTo_19 (by decide) ?_
    exact x_iret E.1 h hw dX1_stepsTo_24

abbrev rC_X1_add : Room := { frames := 2, cells := 0, slots := 0, locals := 43 }
def wpC_X1_add_54 (Post : Int32 → CS → Prop) : Nat → CS → Int32 → Int32 → Int32 → Int32 → Prop
  | 0, _, _, _, _, _ => False
  | n + 1, σ, x1, x2, x4, x5 => (12 ≤ x5 → vp_in ((x4 * 12) + x4) 144 ∧ ∀ σ2 : CS, σ2 = cA σ 12 (upd (σ.2.1 12) ((x4 * 12) + x4).toNatClampNeg 0) → Post x4 σ2) ∧ (¬ 12 ≤ x5 → wpC_X1_stepsTo σ x1 x5 (fun r4 σ5 => wpC_X1_stepsTo σ5 x2 x5 (fun r6 σ7 => ∀ y8 : Int32, y8 = (if r6 < r4 then r6 else r4) → ∀ y9 : Int32, y9 = (if (y8 + 1) < 99 then (y8 + 1) else 99) → vp_in ((x4 * 12) + x5) 144 ∧ ∀ σ10 : CS, σ10 = cA σ7 12 (upd (σ7.2.1 12) ((x4 * 12) + x5).toNatClampNeg y9) → ∀ y12 : Int32, y12 = x5 + 1 → wpC_X1_add_54 Post n σ10 x1 x2 x4 y12)))
set_option maxHeartbeats 1000000 in
set_option maxRecDepth 20000 in
theorem wkC_X1_add_54 {Post : Int32 → CS → Prop} (E : zE cX1_add RX1 7 (some .int) D cy ks A p s m args meth c) : ∀ n : Nat, ∀ (σ : CS) (x1 : Int32) (x2 : Int32) (x4 : Int32) (x5 : Int32) (H : Heap) (locs : List Loc) (ls : Array Slot), xH D A s (CW q cy σ) H locs → wpC_X1_add_54 Post n σ x1 x2 x4 x5 → lv_has ls 7 [(0, .ref (q 8)), (1, .int x1), (2, .int x2), (4, .int x4), (5, .int x5)] → W p l e rC_X1_add s m args below meth c H locs 0 0 (MQ below (va_Qi Post (xB D cy (CW q cy) A) A) args s 0 0 A) (F0 m 54 ls []) := by
  have hx := E.1.1
  have hb := E.1.2.1
  intro n
  induction n with
  | zero => intro σ x1 x2 x4 x5 H locs ls h hw hl; exact False.elim hw
  | succ n ih =>
    intro σ x1 x2 x4 x5 H locs ls h hw hl
    refine lv_iload hx hb dX1_add_54 (lv_at hl 4 rfl) ?_
    refine lv_bipush (v := 12) hx hb dX1_add_56 (by decide) ?_
    refine lv_icmp_ge (tgt := 108) hx hb dX1_add_58 (by decide) (fun c1 => ?_) (fun c1 => ?_)
    · have hw := hw.1 c1
      refine lv_aload_n hx hb dX1_add_108 rfl (lv_at hl 0 rfl) ?_
      refine gX1_21 E.1 h dX1_add_109 ?_
      refine lv_iload hx hb dX1_add_112 (lv_at hl 3 rfl) ?_
      refine lv_bipush (v := 12) hx hb dX1_add_114 (by decide) ?_
      refine lv_imul hx hb dX1_add_116 ?_
      refine lv_iload hx hb dX1_add_117 (lv_at hl 3 rfl) ?_
      refine lv_iadd hx hb dX1_add_119 ?_
      refine lv_iconst (v := 0) hx hb dX1_add_120 (by decide) ?_
      have h3 := hw.1
      have hw := hw.2
      refine sC_12 E.1 h h3 dX1_add_121 (fun σ2 H locs eσ2 h => ?_)
      have hw := hw σ2 eσ2
      refine lv_iload hx hb dX1_add_122 (lv_at hl 3 rfl) ?_
      exact x_iret E.1 h hw dX1_add_124
    · have hw := hw.2 c1
      refine lv_aload_n hx hb dX1_add_61 rfl (lv_at hl 0 rfl) ?_
      refine lv_iload_n hx hb dX1_add_62 rfl (lv_at hl 1 rfl) ?_
      refine lv_iload hx hb dX1_add_63 (lv_at hl 4 rfl) ?_
      refine x_calli h (z_runV (WW := CW q cy) (rest := []) E h (cC_X1_stepsTo hw) yyX1_stepsTo lX1_35 8 rfl rfl ⟨Nat.le_of_ble_eq_true rfl, Nat.le_of_ble_eq_true rfl⟩ rfl rfl hl.1 rfl (Nat.le_of_ble_eq_true rfl) dX1_add_65 ⟨Nat.le_refl 0, Nat.le_refl 0⟩) (fun r4 σ5 H locs hw h => ?_)
      refine lv_aload_n hx hb dX1_add_68 rfl (lv_at hl 0 rfl) ?_
      refine lv_iload_n hx hb dX1_add_69 rfl (lv_at hl 2 rfl) ?_
      refine lv_iload hx hb dX1_add_70 (lv_at hl 4 rfl) ?_
      refine x_calli h (z_runV (WW := CW q cy) (rest := [.int r4]) E h (cC_X1_stepsTo hw) yyX1_stepsTo lX1_35 8 rfl rfl ⟨Nat.le_of_ble_eq_true rfl, Nat.le_of_ble_eq_true rfl⟩ rfl rfl hl.1 rfl (Nat.le_of_ble_eq_true rfl) dX1_add_72 ⟨Nat.le_refl 0, Nat.le_refl 0⟩) (fun r6 σ7 H locs hw h => ?_)
      refine z_min E.1 hl.1 lX1_39 (Nat.le_of_ble_eq_true rfl) (Nat.le_of_ble_eq_true rfl) (Nat.le_refl 0) (Nat.le_refl 0) dX1_add_75 ?_
      refine lv_topi (fun y8 ey8 => ?_)
      have hw := hw y8 ey8
      refine lv_istore (lv' := [(6, .int y8), (0, .ref (q 8)), (1, .int x1), (2, .int x2), (4, .int x4), (5, .int x5)]) hx hb dX1_add_78 hl (by decide) rfl (fun ls hl => ?_)
      refine lv_aload_n hx hb dX1_add_80 rfl (lv_at hl 1 rfl) ?_
      refine gX1_21 E.1 h dX1_add_81 ?_
      refine lv_iload hx hb dX1_add_84 (lv_at hl 4 rfl) ?_
      refine lv_bipush (v := 12) hx hb dX1_add_86 (by decide) ?_
      refine lv_imul hx hb dX1_add_88 ?_
      refine lv_iload hx hb dX1_add_89 (lv_at hl 5 rfl) ?_
      refine lv_iadd hx hb dX1_add_91 ?_
      refine lv_bipush (v := 99) hx hb dX1_add_92 (by decide) ?_
      refine lv_iload hx hb dX1_add_94 (lv_at hl 0 rfl) ?_
      refine lv_iconst (v := 1) hx hb dX1_add_96 (by decide) ?_
      refine lv_iadd hx hb dX1_add_97 ?_
      refine z_min E.1 hl.1 lX1_39 (Nat.le_of_ble_eq_true rfl) (Nat.le_of_ble_eq_true rfl) (Nat.le_refl 0) (Nat.le_refl 0) dX1_add_98 ?_
      refine lv_topi (fun y9 ey9 => ?_)
      have hw := hw y9 ey9
      have h11 := hw.1
      have hw := hw.2
      refine sC_12 E.1 h h11 dX1_add_101 (fun σ10 H locs eσ10 h => ?_)
      have hw := hw σ10 eσ10
      obtain ⟨y12, ey12⟩ : ∃ z : Int32, z = x5 + 1 := ⟨_, rfl⟩
      have hw := hw y12 ey12
      refine lv_iinc (v := y12) (lv' := [(5, .int y12), (6, .int y8), (0, .ref (q 8)), (1, .int x1), (2, .int x2), (4, .int x4)]) hx hb dX1_add_102 hl (k := 5) rfl (by rw [ey12]; rfl) (by decide) rfl (fun ls hl => ?_)
      refine lv_goto (tgt := 54) hx hb dX1_add_105 (by decide) ?_
      exact ih _ _ _ _ _ _ _ _ h hw (lv_sub hl [2, 3, 4, 5, 0] rfl)

def wpC_X1_add (σ : CS) (x1 : Int32) (x2 : Int32) (x3 : Int32) (Post : Int32 → CS → Prop) : Prop := ((σ.1 165) < 12 → ∀ y2 : Int32, y2 = σ.1 165 → vp_in y2 12 ∧ ∀ σ3 : CS, σ3 = cA σ 9 (upd (σ.2.1 9) y2.toNatClampNeg x1) → vp_in y2 12 ∧ ∀ σ5 : CS, σ5 = cA σ3 10 (upd (σ3.2.1 10) y2.toNatClampNeg x2) → vp_in y2 12 ∧ ∀ σ7 : CS, σ7 = cA σ5 11 (upd (σ5.2.1 11) y2.toNatClampNeg x3) → ∀ σ9 : CS, σ9 = cF σ7 165 ((σ7.1 165) + 1) → ∃ g, wpC_X1_add_54 Post g σ9 x1 x2 y2 0) ∧ (¬ (σ.1 165) < 12 → Post ((-1)) σ)
set_option maxHeartbeats 1000000 in
set_option maxRecDepth 20000 in
theorem cC_X1_add {l : Launch} {D : va_G} {cy : Nat → ClassId} {ks : Nat × Nat × Option Nat} {q : Nat → Nat} {σ : CS} {sz : Nat} {x1 : Int32} {x2 : Int32} {x3 : Int32} {Post : Int32 → CS → Prop} (hw : wpC_X1_add σ x1 x2 x3 Post) : Met l yX1_add (Cond.code yX1_add cX1_add 7 (some .int) :: wsA) rC_X1_add (zPc D cy ks (CW q cy σ) sz [.ref (q 8), .int x1, .int x2, .int x3]) (va_Qi Post (xB D cy (CW q cy) (va_A (CW q cy σ) sz)) (va_A (CW q cy σ) sz)) 0 0 (va_A (CW q cy σ) sz) := by
  refine z_enter (own := RX1) (WW := CW q cy) (by decide) rfl (Nat.le_of_ble_eq_true rfl) ?_
  intro p e s m below meth c ls E h hl
  have hx := E.1.1
  have hb := E.1.2.1
  have hl : lv_has ls 7 [(0, .ref (q 8)), (1, .int x1), (2, .int x2), (3, .int x3)] := hl
  unfold wpC_X1_add at hw
  refine lv_aload_n hx hb dX1_add_0 rfl (lv_at hl 0 rfl) ?_
  refine gX1_27 E.1 h dX1_add_1 ?_
  refine lv_bipush (v := 12) hx hb dX1_add_4 (by decide) ?_
  refine lv_icmp_lt (tgt := 11) hx hb dX1_add_6 (by decide) (fun c1 => ?_) (fun c1 => ?_)
  · have hw := hw.1 c1
    refine lv_aload_n hx hb dX1_add_11 rfl (lv_at hl 0 rfl) ?_
    refine gX1_27 E.1 h dX1_add_12 ?_
    refine lv_topi (fun y2 ey2 => ?_)
    have hw := hw y2 ey2
    refine lv_istore (lv' := [(4, .int y2), (0, .ref (q 8)), (1, .int x1), (2, .int x2), (3, .int x3)]) hx hb dX1_add_15 hl (by decide) rfl (fun ls hl => ?_)
    refine lv_aload_n hx hb dX1_add_17 rfl (lv_at hl 1 rfl) ?_
    refine gX1_9 E.1 h dX1_add_18 ?_
    refine lv_iload hx hb dX1_add_21 (lv_at hl 0 rfl) ?_
    refine lv_iload_n hx hb dX1_add_23 rfl (lv_at hl 2 rfl) ?_
    have h4 := hw.1
    have hw := hw.2
    refine sC_9 E.1 h h4 dX1_add_24 (fun σ3 H locs eσ3 h => ?_)
    have hw := hw σ3 eσ3
    refine lv_aload_n hx hb dX1_add_25 rfl (lv_at hl 1 rfl) ?_
    refine gX1_15 E.1 h dX1_add_26 ?_
    refine lv_iload hx hb dX1_add_29 (lv_at hl 0 rfl) ?_
    refine lv_iload_n hx hb dX1_add_31 rfl (lv_at hl 3 rfl) ?_
    have h6 := hw.1
    have hw := hw.2
    refine sC_10 E.1 h h6 dX1_add_32 (fun σ5 H locs eσ5 h => ?_)
    have hw := hw σ5 eσ5
    refine lv_aload_n hx hb dX1_add_33 rfl (lv_at hl 1 rfl) ?_
    refine gX1_18 E.1 h dX1_add_34 ?_
    refine lv_iload hx hb dX1_add_37 (lv_at hl 0 rfl) ?_
    refine lv_iload_n hx hb dX1_add_39 rfl (lv_at hl 4 rfl) ?_
    have h8 := hw.1
    have hw := hw.2
    refine sC_11 E.1 h h8 dX1_add_40 (fun σ7 H locs eσ7 h => ?_)
    have hw := hw σ7 eσ7
    refine lv_aload_n hx hb dX1_add_41 rfl (lv_at hl 1 rfl) ?_
    refine lv_dup hx hb dX1_add_42 rfl ?_
    refine gX1_27 E.1 h dX1_add_43 ?_
    refine lv_iconst (v := 1) hx hb dX1_add_46 (by decide) ?_
    refine lv_iadd hx hb dX1_add_47 ?_
    refine pX1_27 E.1 h dX1_add_48 (fun σ9 H locs eσ9 h => ?_)
    have hw := hw σ9 eσ9
    refine lv_iconst (v := 0) hx hb dX1_add_51 (by decide) ?_
    refine lv_istore (lv' := [(5, .int 0), (4, .int y2), (0, .ref (q 8)), (1, .int x1), (2, .int x2), (3, .int x3)]) hx hb dX1_add_52 hl (by decide) rfl (fun ls hl => ?_)
    obtain ⟨g, hw⟩ := hw
    exact wkC_X1_add_54 E g _ _ _ _ _ _ _ _ h hw (lv_sub hl [2, 3, 4, 1, 0] rfl)
  · have hw := hw.2 c1
    refine lv_iconst (v := (-1)) hx hb dX1_add_9 (by decide) ?_
    exact x_iret E.1 h hw dX1_add_10

abbrev rC_X1_degreeOf : Room := { frames := 2, cells := 0, slots := 0, locals := 43 }
def wpC_X1_degreeOf_6 (Post : Int32 → CS → Prop) : Nat → CS → Int32 → Int32 → Int32 → Int32 → Prop
  | 0, _, _, _, _, _ => False
  | n + 1, σ, x1, x2, x3, x4 => ((σ.1 165) ≤ x4 → Post x3 σ) ∧ (¬ (σ.1 165) ≤ x4 → wpC_X1_stepsTo σ x1 x4 (fun r2 σ3 => wpC_X1_stepsTo σ3 x2 x4 (fun r4 σ5 => ∀ y6 : Int32, y6 = (if r2 < r4 then r4 else r2) → ∀ y7 : Int32, y7 = (if y6 < x3 then y6 else x3) → ∀ y8 : Int32, y8 = x4 + 1 → wpC_X1_degreeOf_6 Post n σ5 x1 x2 y7 y8)))
set_option maxHeartbeats 1000000 in
set_option maxRecDepth 20000 in
theorem wkC_X1_degreeOf_6 {Post : Int32 → CS → Prop} (E : zE cX1_degreeOf RX1 5 (some .int) D cy ks A p s m args meth c) : ∀ n : Nat, ∀ (σ : CS) (x1 : Int32) (x2 : Int32) (x3 : Int32) (x4 : Int32) (H : Heap) (locs : List Loc) (ls : Array Slot), xH D A s (CW q cy σ) H locs → wpC_X1_degreeOf_6 Post n σ x1 x2 x3 x4 → lv_has ls 5 [(0, .ref (q 8)), (1, .int x1), (2, .int x2), (3, .int x3), (4, .int x4)] → W p l e rC_X1_degreeOf s m args below meth c H locs 0 0 (MQ below (va_Qi Post (xB D cy (CW q cy) A) A) args s 0 0 A) (F0 m 6 ls []) := by
  have hx := E.1.1
  have hb := E.1.2.1
  intro n
  induction n with
  | zero => intro σ x1 x2 x3 x4 H locs ls h hw hl; exact False.elim hw
  | succ n ih =>
    intro σ x1 x2 x3 x4 H locs ls h hw hl
    refine lv_iload hx hb dX1_degreeOf_6 (lv_at hl 4 rfl) ?_
    refine lv_aload_n hx hb dX1_degreeOf_8 rfl (lv_at hl 0 rfl) ?_
    refine gX1_27 E.1 h dX1_degreeOf_9 ?_
    refine lv_icmp_ge (tgt := 43) hx hb dX1_degreeOf_12 (by decide) (fun c1 => ?_) (fun c1 => ?_)
    · have hw := hw.1 c1
      refine lv_iload_n hx hb dX1_degreeOf_43 rfl (lv_at hl 3 rfl) ?_
      exact x_iret E.1 h hw dX1_degreeOf_44
    · have hw := hw.2 c1
      refine lv_iload_n hx hb dX1_degreeOf_15 rfl (lv_at hl 3 rfl) ?_
      refine lv_aload_n hx hb dX1_degreeOf_16 rfl (lv_at hl 0 rfl) ?_
      refine lv_iload_n hx hb dX1_degreeOf_17 rfl (lv_at hl 1 rfl) ?_
      refine lv_iload hx hb dX1_degreeOf_18 (lv_at hl 4 rfl) ?_
      refine x_calli h (z_runV (WW := CW q cy) (rest := [.int x3]) E h (cC_X1_stepsTo hw) yyX1_stepsTo lX1_35 8 rfl rfl ⟨Nat.le_of_ble_eq_true rfl, Nat.le_of_ble_eq_true rfl⟩ rfl rfl hl.1 rfl (Nat.le_of_ble_eq_true rfl) dX1_degreeOf_20 ⟨Nat.le_refl 0, Nat.le_refl 0⟩) (fun r2 σ3 H locs hw h => ?_)
      refine lv_aload_n hx hb dX1_degreeOf_23 rfl (lv_at hl 0 rfl) ?_
      refine lv_iload_n hx hb dX1_degreeOf_24 rfl (lv_at hl 2 rfl) ?_
      refine lv_iload hx hb dX1_degreeOf_25 (lv_at hl 4 rfl) ?_
      refine x_calli h (z_runV (WW := CW q cy) (rest := [.int r2, .int x3]) E h (cC_X1_stepsTo hw) yyX1_stepsTo lX1_35 8 rfl rfl ⟨Nat.le_of_ble_eq_true rfl, Nat.le_of_ble_eq_true rfl⟩ rfl rfl hl.1 rfl (Nat.le_of_ble_eq_true rfl) dX1_degreeOf_27 ⟨Nat.le_refl 0, Nat.le_refl 0⟩) (fun r4 σ5 H locs hw h => ?_)
      refine z_max E.1 hl.1 lX1_44 (Nat.le_of_ble_eq_true rfl) (Nat.le_of_ble_eq_true rfl) (Nat.le_refl 0) (Nat.le_refl 0) dX1_degreeOf_30 ?_
      refine lv_topi (fun y6 ey6 => ?_)
      have hw := hw y6 ey6
      refine z_min E.1 hl.1 lX1_39 (Nat.le_of_ble_eq_true rfl) (Nat.le_of_ble_eq_true rfl) (Nat.le_refl 0) (Nat.le_refl 0) dX1_degreeOf_33 ?_
      refine lv_topi (fun y7 ey7 => ?_)
      have hw := hw y7 ey7
      refine lv_istore_n (lv' := [(3, .int y7), (0, .ref (q 8)), (1, .int x1), (2, .int x2), (4, .int x4)]) hx hb dX1_degreeOf_36 rfl hl (by decide) rfl (fun ls hl => ?_)
      obtain ⟨y8, ey8⟩ : ∃ z : Int32, z = x4 + 1 := ⟨_, rfl⟩
      have hw := hw y8 ey8
      refine lv_iinc (v := y8) (lv' := [(4, .int y8), (3, .int y7), (0, .ref (q 8)), (1, .int x1), (2, .int x2)]) hx hb dX1_degreeOf_37 hl (k := 4) rfl (by rw [ey8]; rfl) (by decide) rfl (fun ls hl => ?_)
      refine lv_goto (tgt := 6) hx hb dX1_degreeOf_40 (by decide) ?_
      exact ih _ _ _ _ _ _ _ _ h hw (lv_sub hl [2, 3, 4, 1, 0] rfl)

def wpC_X1_degreeOf (σ : CS) (x1 : Int32) (x2 : Int32) (Post : Int32 → CS → Prop) : Prop := ∃ g, wpC_X1_degreeOf_6 Post g σ x1 x2 99 0
set_option maxHeartbeats 1000000 in
set_option maxRecDepth 20000 in
theorem cC_X1_degreeOf {l : Launch} {D : va_G} {cy : Nat → ClassId} {ks : Nat × Nat × Option Nat} {q : Nat → Nat} {σ : CS} {sz : Nat} {x1 : Int32} {x2 : Int32} {Post : Int32 → CS → Prop} (hw : wpC_X1_degreeOf σ x1 x2 Post) : Met l yX1_degreeOf (Cond.code yX1_degreeOf cX1_degreeOf 5 (some .int) :: wsA) rC_X1_degreeOf (zPc D cy ks (CW q cy σ) sz [.ref (q 8), .int x1, .int x2]) (va_Qi Post (xB D cy (CW q cy) (va_A (CW q cy σ) sz)) (va_A (CW q cy σ) sz)) 0 0 (va_A (CW q cy σ) sz) := by
  refine z_enter (own := RX1) (WW := CW q cy) (by decide) rfl (Nat.le_of_ble_eq_true rfl) ?_
  intro p e s m below meth c ls E h hl
  have hx := E.1.1
  have hb := E.1.2.1
  have hl : lv_has ls 5 [(0, .ref (q 8)), (1, .int x1), (2, .int x2)] := hl
  unfold wpC_X1_degreeOf at hw
  refine lv_bipush (v := 99) hx hb dX1_degreeOf_0 (by decide) ?_
  refine lv_istore_n (lv' := [(3, .int 99), (0, .ref (q 8)), (1, .int x1), (2, .int x2)]) hx hb dX1_degreeOf_2 rfl hl (by decide) rfl (fun ls hl => ?_)
  refine lv_iconst (v := 0) hx hb dX1_degreeOf_3 (by decide) ?_
  refine lv_istore (lv' := [(4, .int 0), (3, .int 99), (0, .ref (q 8)), (1, .int x1), (2, .int x2)]) hx hb dX1_degreeOf_4 hl (by decide) rfl (fun ls hl => ?_)
  obtain ⟨g, hw⟩ := hw
  exact wkC_X1_degreeOf_6 E g _ _ _ _ _ _ _ _ h hw (lv_sub hl [2, 3, 4, 1, 0] rfl)

abbrev rC_X1_parentOf : Room := { frames := 0, cells := 0, slots := 0, locals := 0 }
def wpC_X1_parentOf (σ : CS) (x1 : Int32) (x2 : Int32) (Post : Int32 → CS → Prop) : Prop := (x2 = 0 → vp_in x1 12 ∧ Post (σ.2.1 9 x1.toNatClampNeg) σ) ∧ (¬ x2 = 0 → vp_in x1 12 ∧ Post (σ.2.1 10 x1.toNatClampNeg) σ)
set_option maxHeartbeats 1000000 in
set_option maxRecDepth 20000 in
theorem cC_X1_parentOf {l : Launch} {D : va_G} {cy : Nat → ClassId} {ks : Nat × Nat × Option Nat} {q : Nat → Nat} {σ : CS} {sz : Nat} {x1 : Int32} {x2 : Int32} {Post : Int32 → CS → Prop} (hw : wpC_X1_parentOf σ x1 x2 Post) : Met l yX1_parentOf (Cond.code yX1_parentOf cX1_parentOf 3 (some .int) :: wsA) rC_X1_parentOf (zPc D cy ks (CW q cy σ) sz [.ref (q 8), .int x1, .int x2]) (va_Qi Post (xB D cy (CW q cy) (va_A (CW q cy σ) sz)) (va_A (CW q cy σ) sz)) 0 0 (va_A (CW q cy σ) sz) := by
  refine z_enter (own := RX1) (WW := CW q cy) (by decide) rfl (Nat.le_of_ble_eq_true rfl) ?_
  intro p e s m below meth c ls E h hl
  have hx := E.1.1
  have hb := E.1.2.1
  have hl : lv_has ls 3 [(0, .ref (q 8)), (1, .int x1), (2, .int x2)] := hl
  unfold wpC_X1_parentOf at hw
  refine lv_iload_n hx hb dX1_parentOf_0 rfl (lv_at hl 2 rfl) ?_
  refine lv_if_ne (tgt := 13) hx hb dX1_parentOf_1 (by decide) (fun c1 => ?_) (fun c1 => ?_)
  · have hw := hw.2 c1
    refine lv_aload_n hx hb dX1_parentOf_13 rfl (lv_at hl 0 rfl) ?_
    refine gX1_15 E.1 h dX1_parentOf_14 ?_
    refine lv_iload_n hx hb dX1_parentOf_17 rfl (lv_at hl 1 rfl) ?_
    have h2 := hw.1
    have hw := hw.2
    refine aC_10 E.1 h h2 dX1_parentOf_18 ?_
    exact x_iret E.1 h hw dX1_parentOf_19
  · have hw := hw.1 c1
    refine lv_aload_n hx hb dX1_parentOf_4 rfl (lv_at hl 0 rfl) ?_
    refine gX1_9 E.1 h dX1_parentOf_5 ?_
    refine lv_iload_n hx hb dX1_parentOf_8 rfl (lv_at hl 1 rfl) ?_
    have h3 := hw.1
    have hw := hw.2
    refine aC_9 E.1 h h3 dX1_parentOf_9 ?_
    refine lv_goto (tgt := 19) hx hb dX1_parentOf_10 (by decide) ?_
    exact x_iret E.1 h hw dX1_parentOf_19

abbrev rC_X1_gapsOf : Room := { frames := 1, cells := 0, slots := 0, locals := 22 }
def wpC_X1_gapsOf_57 (K11 : CS → Int32 → Int32 → Prop) (Post : Int32 → CS → Prop) (σ : CS) (x2 : Int32) (x3 : Int32) (t1 : Int32) (t2 : Int32) : Prop := vp_in t1 16 ∧ ∀ σ1 : CS, σ1 = cA σ 13 (upd (σ.2.1 13) t1.toNatClampNeg t2) → vp_in x3 16 ∧ ((σ1.2.1 13 x3.toNatClampNeg) = ((-1)) → ∀ y6 : Int32, y6 = x2 + 1 → ∀ y7 : Int32, y7 = x3 + 1 → K11 σ1 y6 y7) ∧ (¬ (σ1.2.1 13 x3.toNatClampNeg) = ((-1)) → ∀ y5 : Int32, y5 = x3 + 1 → K11 σ1 x2 y5)
set_option maxHeartbeats 1000000 in
set_option maxRecDepth 20000 in
theorem wkC_X1_gapsOf_57 {Post : Int32 → CS → Prop} (E : zE cX1_gapsOf RX1 5 (some .int) D cy ks A p s m args meth c) {K11 : CS → Int32 → Int32 → Prop} (hK11 : ∀ (σ : CS) (x2 : Int32) (x3 : Int32) (H : Heap) (locs : List Loc) (ls : Array Slot), xH D A s (CW q cy σ) H locs → K11 σ x2 x3 → lv_has ls 5 [(0, .ref (q 8)), (2, .int x2), (3, .int x3)] → W p l e rC_X1_gapsOf s m args below meth c H locs 0 0 (MQ below (va_Qi Post (xB D cy (CW q cy) A) A) args s 0 0 A) (F0 m 11 ls [])) : ∀ (σ : CS) (x2 : Int32) (x3 : Int32) (t1 : Int32) (t2 : Int32) (H : Heap) (locs : List Loc) (ls : Array Slot), xH D A s (CW q cy σ) H locs → wpC_X1_gapsOf_57 K11 Post σ x2 x3 t1 t2 → lv_has ls 5 [(0, .ref (q 8)), (2, .int x2), (3, .int x3)] → W p l e rC_X1_gapsOf s m args below meth c H locs 0 0 (MQ below (va_Qi Post (xB D cy (CW q cy) A) A) args s 0 0 A) (F0 m 57 ls [.int t2, .int t1, .ref (q 13)]) := by
  have hx := E.1.1
  have hb := E.1.2.1
  intro σ x2 x3 t1 t2 H locs ls h hw hl
  unfold wpC_X1_gapsOf_57 at hw
  have h2 := hw.1
  have hw := hw.2
  refine sC_13 E.1 h h2 dX1_gapsOf_57 (fun σ1 H locs eσ1 h => ?_)
  have hw := hw σ1 eσ1
  refine lv_aload_n hx hb dX1_gapsOf_58 rfl (lv_at hl 0 rfl) ?_
  refine gX1_24 E.1 h dX1_gapsOf_59 ?_
  refine lv_iload_n hx hb dX1_gapsOf_62 rfl (lv_at hl 2 rfl) ?_
  have h3 := hw.1
  have hw := hw.2
  refine aC_13 E.1 h h3 dX1_gapsOf_63 ?_
  refine lv_iconst (v := (-1)) hx hb dX1_gapsOf_64 (by decide) ?_
  refine lv_icmp_ne (tgt := 71) hx hb dX1_gapsOf_65 (by decide) (fun c4 => ?_) (fun c4 => ?_)
  · have hw := hw.2 c4
    obtain ⟨y5, ey5⟩ : ∃ z : Int32, z = x3 + 1 := ⟨_, rfl⟩
    have hw := hw y5 ey5
    refine lv_iinc (v := y5) (lv' := [(3, .int y5), (0, .ref (q 8)), (2, .int x2)]) hx hb dX1_gapsOf_71 hl (k := 2) rfl (by rw [ey5]; rfl) (by decide) rfl (fun ls hl => ?_)
    refine lv_goto (tgt := 11) hx hb dX1_gapsOf_74 (by decide) ?_
    exact hK11 _ _ _ _ _ _ h hw (lv_sub hl [1, 2, 0] rfl)
  · have hw := hw.1 c4
    obtain ⟨y6, ey6⟩ : ∃ z : Int32, z = x2 + 1 := ⟨_, rfl⟩
    have hw := hw y6 ey6
    refine lv_iinc (v := y6) (lv' := [(2, .int y6), (0, .ref (q 8)), (3, .int x3)]) hx hb dX1_gapsOf_68 hl (k := 1) rfl (by rw [ey6]; rfl) (by decide) rfl (fun ls hl => ?_)
    obtain ⟨y7, ey7⟩ : ∃ z : Int32, z = x3 + 1 := ⟨_, rfl⟩
    have hw := hw y7 ey7
    refine lv_iinc (v := y7) (lv' := [(3, .int y7), (2, .int y6), (0, .ref (q 8))]) hx hb dX1_gapsOf_71 hl (k := 2) rfl (by rw [ey7]; rfl) (by decide) rfl (fun ls hl => ?_)
    refine lv_goto (tgt := 11) hx hb dX1_gapsOf_74 (by decide) ?_
    exact hK11 _ _ _ _ _ _ h hw (lv_sub hl [2, 1, 0] rfl)

def wpC_X1_gapsOf_11 (Post : Int32 → CS → Prop) : Nat → CS → Int32 → Int32 → Prop
  | 0, _, _, _ => False
  | n + 1, σ, x2, x3 => (16 ≤ x3 → Post x2 σ) ∧ (¬ 16 ≤ x3 → vp_in (x3 / 2) 16 ∧ ∀ y3 : Int32, y3 = σ.2.1 13 (x3 / 2).toNatClampNeg → wpC_X1_has σ y3 (fun r4 σ5 => (r4 = 0 → wpC_X1_gapsOf_57 (fun a0 a1 a2 => wpC_X1_gapsOf_11 Post n a0 a1 a2) Post σ5 x2 x3 x3 ((-1))) ∧ (¬ r4 = 0 → wpC_X1_parentOf σ5 y3 (x3 - x3 / 2 * 2) (fun r7 σ8 => wpC_X1_gapsOf_57 (fun a0 a1 a2 => wpC_X1_gapsOf_11 Post n a0 a1 a2) Post σ8 x2 x3 x3 r7))))
set_option maxHeartbeats 1000000 in
set_option maxRecDepth 20000 in
theorem wkC_X1_gapsOf_11 {Post : Int32 → CS → Prop} (E : zE cX1_gapsOf RX1 5 (some .int) D cy ks A p s m args meth c) : ∀ n : Nat, ∀ (σ : CS) (x2 : Int32) (x3 : Int32) (H : Heap) (locs : List Loc) (ls : Array Slot), xH D A s (CW q cy σ) H locs → wpC_X1_gapsOf_11 Post n σ x2 x3 → lv_has ls 5 [(0, .ref (q 8)), (2, .int x2), (3, .int x3)] → W p l e rC_X1_gapsOf s m args below meth c H locs 0 0 (MQ below (va_Qi Post (xB D cy (CW q cy) A) A) args s 0 0 A) (F0 m 11 ls []) := by
  have hx := E.1.1
  have hb := E.1.2.1
  intro n
  induction n with
  | zero => intro σ x2 x3 H locs ls h hw hl; exact False.elim hw
  | succ n ih =>
    intro σ x2 x3 H locs ls h hw hl
    refine lv_iload_n hx hb dX1_gapsOf_11 rfl (lv_at hl 2 rfl) ?_
    refine lv_aload_n hx hb dX1_gapsOf_12 rfl (lv_at hl 0 rfl) ?_
    refine gX1_24 E.1 h dX1_gapsOf_13 ?_
    refine x_alen (v := 16) E.1 h 13 (show (CW q cy σ)[13]? = some (q 13, .inl (cy 1, 16, .inl (σ.2.1 13))) from rfl) (by decide) dX1_gapsOf_16 ?_
    refine lv_icmp_ge (tgt := 77) hx hb dX1_gapsOf_17 (by decide) (fun c1 => ?_) (fun c1 => ?_)
    · have hw := hw.1 c1
      refine lv_iload_n hx hb dX1_gapsOf_77 rfl (lv_at hl 1 rfl) ?_
      exact x_iret E.1 h hw dX1_gapsOf_78
    · have hw := hw.2 c1
      refine lv_aload_n hx hb dX1_gapsOf_20 rfl (lv_at hl 0 rfl) ?_
      refine gX1_24 E.1 h dX1_gapsOf_21 ?_
      refine lv_iload_n hx hb dX1_gapsOf_24 rfl (lv_at hl 2 rfl) ?_
      refine lv_iconst (v := 2) hx hb dX1_gapsOf_25 (by decide) ?_
      refine lv_idiv hx hb dX1_gapsOf_26 (by decide) ?_
      have h2 := hw.1
      have hw := hw.2
      refine aC_13 E.1 h h2 dX1_gapsOf_27 ?_
      refine lv_topi (fun y3 ey3 => ?_)
      have hw := hw y3 ey3
      refine lv_istore (lv' := [(4, .int y3), (0, .ref (q 8)), (2, .int x2), (3, .int x3)]) hx hb dX1_gapsOf_28 hl (by decide) rfl (fun ls hl => ?_)
      refine lv_aload_n hx hb dX1_gapsOf_30 rfl (lv_at hl 1 rfl) ?_
      refine gX1_24 E.1 h dX1_gapsOf_31 ?_
      refine lv_iload_n hx hb dX1_gapsOf_34 rfl (lv_at hl 3 rfl) ?_
      refine lv_aload_n hx hb dX1_gapsOf_35 rfl (lv_at hl 1 rfl) ?_
      refine lv_iload hx hb dX1_gapsOf_36 (lv_at hl 0 rfl) ?_
      refine x_calli h (z_runV (WW := CW q cy) (rest := [.int x3, .ref (q 13)]) E h (cC_X1_has hw) yyX1_has lX1_31 8 rfl rfl ⟨Nat.le_of_ble_eq_true rfl, Nat.le_of_ble_eq_true rfl⟩ rfl rfl hl.1 rfl (Nat.le_of_ble_eq_true rfl) dX1_gapsOf_38 ⟨Nat.le_refl 0, Nat.le_refl 0⟩) (fun r4 σ5 H locs hw h => ?_)
      refine lv_if_eq (tgt := 56) hx hb dX1_gapsOf_41 (by decide) (fun c6 => ?_) (fun c6 => ?_)
      · have hw := hw.1 c6
        refine lv_iconst (v := (-1)) hx hb dX1_gapsOf_56 (by decide) ?_
        exact wkC_X1_gapsOf_57 E ih _ _ _ _ _ _ _ _ h hw (lv_sub hl [1, 2, 3] rfl)
      · have hw := hw.2 c6
        refine lv_aload_n hx hb dX1_gapsOf_44 rfl (lv_at hl 1 rfl) ?_
        refine lv_iload hx hb dX1_gapsOf_45 (lv_at hl 0 rfl) ?_
        refine lv_iload_n hx hb dX1_gapsOf_47 rfl (lv_at hl 3 rfl) ?_
        refine lv_iconst (v := 2) hx hb dX1_gapsOf_48 (by decide) ?_
        refine lv_irem hx hb dX1_gapsOf_49 (by decide) ?_
        refine x_calli h (z_runV (WW := CW q cy) (rest := [.int x3, .ref (q 13)]) E h (cC_X1_parentOf hw) yyX1_parentOf lX1_47 8 rfl rfl ⟨Nat.le_of_ble_eq_true rfl, Nat.le_of_ble_eq_true rfl⟩ rfl rfl hl.1 rfl (Nat.le_of_ble_eq_true rfl) dX1_gapsOf_50 ⟨Nat.le_refl 0, Nat.le_refl 0⟩) (fun r7 σ8 H locs hw h => ?_)
        refine lv_goto (tgt := 57) hx hb dX1_gapsOf_53 (by decide) ?_
        exact wkC_X1_gapsOf_57 E ih _ _ _ _ _ _ _ _ h hw (lv_sub hl [1, 2, 3] rfl)

def wpC_X1_gapsOf (σ : CS) (x1 : Int32) (Post : Int32 → CS → Prop) : Prop := vp_in 1 16 ∧ ∀ σ1 : CS, σ1 = cA σ 13 (upd (σ.2.1 13) (1 : Int32).toNatClampNeg x1) → ∃ g, wpC_X1_gapsOf_11 Post g σ1 0 2
set_option maxHeartbeats 1000000 in
set_option maxRecDepth 20000 in
theorem cC_X1_gapsOf {l : Launch} {D : va_G} {cy : Nat → ClassId} {ks : Nat × Nat × Option Nat} {q : Nat → Nat} {σ : CS} {sz : Nat} {x1 : Int32} {Post : Int32 → CS → Prop} (hw : wpC_X1_gapsOf σ x1 Post) : Met l yX1_gapsOf (Cond.code yX1_gapsOf cX1_gapsOf 5 (some .int) :: wsA) rC_X1_gapsOf (zPc D cy ks (CW q cy σ) sz [.ref (q 8), .int x1]) (va_Qi Post (xB D cy (CW q cy) (va_A (CW q cy σ) sz)) (va_A (CW q cy σ) sz)) 0 0 (va_A (CW q cy σ) sz) := by
  refine z_enter (own := RX1) (WW := CW q cy) (by decide) rfl (Nat.le_of_ble_eq_true rfl) ?_
  intro p e s m below meth c ls E h hl
  have hx := E.1.1
  have hb := E.1.2.1
  have hl : lv_has ls 5 [(0, .ref (q 8)), (1, .int x1)] := hl
  unfold wpC_X1_gapsOf at hw
  refine lv_iconst (v := 0) hx hb dX1_gapsOf_0 (by decide) ?_
  refine lv_istore_n (lv' := [(2, .int 0), (0, .ref (q 8)), (1, .int x1)]) hx hb dX1_gapsOf_1 rfl hl (by decide) rfl (fun ls hl => ?_)
  refine lv_aload_n hx hb dX1_gapsOf_2 rfl (lv_at hl 1 rfl) ?_
  refine gX1_24 E.1 h dX1_gapsOf_3 ?_
  refine lv_iconst (v := 1) hx hb dX1_gapsOf_6 (by decide) ?_
  refine lv_iload_n hx hb dX1_gapsOf_7 rfl (lv_at hl 2 rfl) ?_
  have h2 := hw.1
  have hw := hw.2
  refine sC_13 E.1 h h2 dX1_gapsOf_8 (fun σ1 H locs eσ1 h => ?_)
  have hw := hw σ1 eσ1
  refine lv_iconst (v := 2) hx hb dX1_gapsOf_9 (by decide) ?_
  refine lv_istore_n (lv' := [(3, .int 2), (2, .int 0), (0, .ref (q 8)), (1, .int x1)]) hx hb dX1_gapsOf_10 rfl hl (by decide) rfl (fun ls hl => ?_)
  obtain ⟨g, hw⟩ := hw
  exact wkC_X1_gapsOf_11 E g _ _ _ _ _ _ h hw (lv_sub hl [2, 1, 0] rfl)

abbrev rC_X2_add : Room := { frames := 0, cells := 0, slots := 0, locals := 0 }
def wpC_X2_add (σ : CS) (x1 : Int32) (x2 : Int32) (x3 : Int32) (Post : Int32 → CS → Prop) : Prop := ((σ.1 423) < 20 → vp_in (σ.1 423) 20 ∧ ∀ σ2 : CS, σ2 = cA σ 22 (upd (σ.2.1 22) (σ.1 423).toNatClampNeg x1) → vp_in (σ2.1 423) 20 ∧ ∀ σ4 : CS, σ4 = cA σ2 23 (upd (σ2.2.1 23) (σ2.1 423).toNatClampNeg x2) → vp_in (σ4.1 423) 20 ∧ ∀ σ6 : CS, σ6 = cA σ4 24 (upd (σ4.2.1 24) (σ4.1 423).toNatClampNeg x3) → ∀ σ8 : CS, σ8 = cF σ6 423 ((σ6.1 423) + 1) → Post ((σ8.1 423) - 1) σ8) ∧ (¬ (σ.1 423) < 20 → Post ((-1)) σ)
set_option maxHeartbeats 1000000 in
set_option maxRecDepth 20000 in
theorem cC_X2_add {l : Launch} {D : va_G} {cy : Nat → ClassId} {ks : Nat × Nat × Option Nat} {q : Nat → Nat} {σ : CS} {sz : Nat} {x1 : Int32} {x2 : Int32} {x3 : Int32} {Post : Int32 → CS → Prop} (hw : wpC_X2_add σ x1 x2 x3 Post) : Met l yX2_add (Cond.code yX2_add cX2_add 4 (some .int) :: wsA) rC_X2_add (zPc D cy ks (CW q cy σ) sz [.ref (q 21), .int x1, .int x2, .int x3]) (va_Qi Post (xB D cy (CW q cy) (va_A (CW q cy σ) sz)) (va_A (CW q cy σ) sz)) 0 0 (va_A (CW q cy σ) sz) := by
  refine z_enter (own := RX2) (WW := CW q cy) (by decide) rfl (Nat.le_of_ble_eq_true rfl) ?_
  intro p e s m below meth c ls E h hl
  have hx := E.1.1
  have hb := E.1.2.1
  have hl : lv_has ls 4 [(0, .ref (q 21)), (1, .int x1), (2, .int x2), (3, .int x3)] := hl
  unfold wpC_X2_add at hw
  refine lv_aload_n hx hb dX2_add_0 rfl (lv_at hl 0 rfl) ?_
  refine gX2_21 E.1 h dX2_add_1 ?_
  refine lv_bipush (v := 20) hx hb dX2_add_4 (by decide) ?_
  refine lv_icmp_lt (tgt := 11) hx hb dX2_add_6 (by decide) (fun c1 => ?_) (fun c1 => ?_)
  · have hw := hw.1 c1
    refine lv_aload_n hx hb dX2_add_11 rfl (lv_at hl 0 rfl) ?_
    refine gX2_9 E.1 h dX2_add_12 ?_
    refine lv_aload_n hx hb dX2_add_15 rfl (lv_at hl 0 rfl) ?_
    refine gX2_21 E.1 h dX2_add_16 ?_
    refine lv_iload_n hx hb dX2_add_19 rfl (lv_at hl 1 rfl) ?_
    have h3 := hw.1
    have hw := hw.2
    refine sC_22 E.1 h h3 dX2_add_20 (fun σ2 H locs eσ2 h => ?_)
    have hw := hw σ2 eσ2
    refine lv_aload_n hx hb dX2_add_21 rfl (lv_at hl 0 rfl) ?_
    refine gX2_15 E.1 h dX2_add_22 ?_
    refine lv_aload_n hx hb dX2_add_25 rfl (lv_at hl 0 rfl) ?_
    refine gX2_21 E.1 h dX2_add_26 ?_
    refine lv_iload_n hx hb dX2_add_29 rfl (lv_at hl 2 rfl) ?_
    have h5 := hw.1
    have hw := hw.2
    refine sC_23 E.1 h h5 dX2_add_30 (fun σ4 H locs eσ4 h => ?_)
    have hw := hw σ4 eσ4
    refine lv_aload_n hx hb dX2_add_31 rfl (lv_at hl 0 rfl) ?_
    refine gX2_18 E.1 h dX2_add_32 ?_
    refine lv_aload_n hx hb dX2_add_35 rfl (lv_at hl 0 rfl) ?_
    refine gX2_21 E.1 h dX2_add_36 ?_
    refine lv_iload_n hx hb dX2_add_39 rfl (lv_at hl 3 rfl) ?_
    have h7 := hw.1
    have hw := hw.2
    refine sC_24 E.1 h h7 dX2_add_40 (fun σ6 H locs eσ6 h => ?_)
    have hw := hw σ6 eσ6
    refine lv_aload_n hx hb dX2_add_41 rfl (lv_at hl 0 rfl) ?_
    refine lv_dup hx hb dX2_add_42 rfl ?_
    refine gX2_21 E.1 h dX2_add_43 ?_
    refine lv_iconst (v := 1) hx hb dX2_add_46 (by decide) ?_
    refine lv_iadd hx hb dX2_add_47 ?_
    refine pX2_21 E.1 h dX2_add_48 (fun σ8 H locs eσ8 h => ?_)
    have hw := hw σ8 eσ8
    refine lv_aload_n hx hb dX2_add_51 rfl (lv_at hl 0 rfl) ?_
    refine gX2_21 E.1 h dX2_add_52 ?_
    refine lv_iconst (v := 1) hx hb dX2_add_55 (by decide) ?_
    refine lv_isub hx hb dX2_add_56 ?_
    exact x_iret E.1 h hw dX2_add_57
  · have hw := hw.2 c1
    refine lv_iconst (v := (-1)) hx hb dX2_add_9 (by decide) ?_
    exact x_iret E.1 h hw dX2_add_10

end CWalk
