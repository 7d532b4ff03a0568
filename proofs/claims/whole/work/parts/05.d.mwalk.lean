section MWalk
variable {p : Program} {l : Launch} {e : Env} {s : State} {m : MethodId} {args : Array Value} {below : List Frame} {meth : Method} {c : Code} {D : va_G} {cy : Nat → ClassId} {q : Nat → Nat} {A : Nat → Prop}
abbrev rM_nothing : Room := { frames := 0, cells := 0, slots := 0, locals := 0 }
def wpM_nothing_2 (Post : MS → Prop) : Nat → MS → Int32 → Int32 → Prop
  | 0, _, _, _ => False
  | n + 1, σ, x1, x2 => (12 ≤ x2 → vp_in x1 10 ∧ vp_in 4 12 ∧ ∀ σ3 : MS, σ3 = mA σ 44 (upd (σ.2.1 44) (4 : Int32).toNatClampNeg (σ.2.1 35 x1.toNatClampNeg)) → Post σ3) ∧ (¬ 12 ≤ x2 → vp_in x2 12 ∧ ∀ σ5 : MS, σ5 = mA σ 44 (upd (σ.2.1 44) x2.toNatClampNeg 0) → ∀ y7 : Int32, y7 = x2 + 1 → wpM_nothing_2 Post n σ5 x1 y7)
set_option maxHeartbeats 1000000 in
set_option maxRecDepth 20000 in
theorem wkM_nothing_2 {Post : MS → Prop} (E : xE cX11_nothing RX11 3 none D cy p s m args meth c) : ∀ n : Nat, ∀ (σ : MS) (x1 : Int32) (x2 : Int32) (H : Heap) (locs : List Loc) (ls : Array Slot), xH D A s (MW q cy σ) H locs → wpM_nothing_2 Post n σ x1 x2 → lv_has ls 3 [(0, .ref (q 0)), (1, .int x1), (2, .int x2)] → W p l e rM_nothing s m args below meth c H locs 0 0 (MQ below (va_Qv Post (xB D cy (MW q cy) A) A) args s 0 0 A) (F0 m 2 ls []) := by
  have hx := E.1
  have hb := E.2.1
  intro n
  induction n with
  | zero => intro σ x1 x2 H locs ls h hw hl; exact False.elim hw
  | succ n ih =>
    intro σ x1 x2 H locs ls h hw hl
    refine lv_iload_n hx hb dX11_nothing_2 rfl (lv_at hl 2 rfl) ?_
    refine lv_bipush (v := 12) hx hb dX11_nothing_3 (by decide) ?_
    refine lv_icmp_ge (tgt := 21) hx hb dX11_nothing_5 (by decide) (fun c1 => ?_) (fun c1 => ?_)
    · have hw := hw.1 c1
      refine lv_aload_n hx hb dX11_nothing_21 rfl (lv_at hl 0 rfl) ?_
      refine gX11_149 E h dX11_nothing_22 ?_
      refine lv_iconst (v := 4) hx hb dX11_nothing_25 (by decide) ?_
      refine lv_aload_n hx hb dX11_nothing_26 rfl (lv_at hl 0 rfl) ?_
      refine gX11_122 E h dX11_nothing_27 ?_
      refine lv_iload_n hx hb dX11_nothing_30 rfl (lv_at hl 1 rfl) ?_
      have h2 := hw.1
      have hw := hw.2
      refine aM_35 E h h2 dX11_nothing_31 ?_
      have h4 := hw.1
      have hw := hw.2
      refine sM_44 E h h4 dX11_nothing_32 (fun σ3 H locs eσ3 h => ?_)
      have hw := hw σ3 eσ3
      exact x_vret E h hw dX11_nothing_33
    · have hw := hw.2 c1
      refine lv_aload_n hx hb dX11_nothing_8 rfl (lv_at hl 0 rfl) ?_
      refine gX11_149 E h dX11_nothing_9 ?_
      refine lv_iload_n hx hb dX11_nothing_12 rfl (lv_at hl 2 rfl) ?_
      refine lv_iconst (v := 0) hx hb dX11_nothing_13 (by decide) ?_
      have h6 := hw.1
      have hw := hw.2
      refine sM_44 E h h6 dX11_nothing_14 (fun σ5 H locs eσ5 h => ?_)
      have hw := hw σ5 eσ5
      obtain ⟨y7, ey7⟩ : ∃ z : Int32, z = x2 + 1 := ⟨_, rfl⟩
      have hw := hw y7 ey7
      refine lv_iinc (v := y7) (lv' := [(2, .int y7), (0, .ref (q 0)), (1, .int x1)]) hx hb dX11_nothing_15 hl (k := 2) rfl (by rw [ey7]; rfl) (by decide) rfl (fun ls hl => ?_)
      refine lv_goto (tgt := 2) hx hb dX11_nothing_18 (by decide) ?_
      exact ih _ _ _ _ _ _ h hw (lv_sub hl [1, 2, 0] rfl)

def wpM_nothing (σ : MS) (x1 : Int32) (Post : MS → Prop) : Prop := ∃ g, wpM_nothing_2 Post g σ x1 0
set_option maxHeartbeats 1000000 in
set_option maxRecDepth 20000 in
theorem cM_nothing {l : Launch} {D : va_G} {cy : Nat → ClassId} {q : Nat → Nat} {σ : MS} {sz : Nat} {x1 : Int32} {Post : MS → Prop} (hw : wpM_nothing σ x1 Post) : Met l yX11_nothing (Cond.code yX11_nothing cX11_nothing 3 none :: wsA) rM_nothing (xPc D cy (MW q cy σ) sz [.ref (q 0), .int x1]) (va_Qv Post (xB D cy (MW q cy) (va_A (MW q cy σ) sz)) (va_A (MW q cy σ) sz)) 0 0 (va_A (MW q cy σ) sz) := by
  refine x_enter (own := RX11) (WW := MW q cy) (by decide) rfl (Nat.le_of_ble_eq_true rfl) ?_
  intro p e s m below meth c ls E h hl
  have hx := E.1
  have hb := E.2.1
  have hl : lv_has ls 3 [(0, .ref (q 0)), (1, .int x1)] := hl
  unfold wpM_nothing at hw
  refine lv_iconst (v := 0) hx hb dX11_nothing_0 (by decide) ?_
  refine lv_istore_n (lv' := [(2, .int 0), (0, .ref (q 0)), (1, .int x1)]) hx hb dX11_nothing_1 rfl hl (by decide) rfl (fun ls hl => ?_)
  obtain ⟨g, hw⟩ := hw
  exact wkM_nothing_2 E g _ _ _ _ _ _ h hw (lv_sub hl [1, 2, 0] rfl)

abbrev rM_ruleOf : Room := { frames := 2, cells := 0, slots := 0, locals := 53 }
def wpM_ruleOf_16 (Post : Int32 → MS → Prop) : Nat → MS → Int32 → Int32 → Int32 → Prop
  | 0, _, _, _, _ => False
  | n + 1, σ, x2, x3, x4 => vp_in x3 9 ∧ ((σ.2.1 10 x3.toNatClampNeg) ≤ x4 → Post ((-1)) σ) ∧ (¬ (σ.2.1 10 x3.toNatClampNeg) ≤ x4 → vp_in ((16 * x3) + x4) 144 ∧ ((σ.2.1 11 ((16 * x3) + x4).toNatClampNeg) = x2 → wpM_holds σ ((16 * x3) + x4) x3 (fun r6 σ7 => (r6 = 0 → ∀ y9 : Int32, y9 = x4 + 1 → wpM_ruleOf_16 Post n σ7 x2 x3 y9) ∧ (¬ r6 = 0 → Post x4 σ7))) ∧ (¬ (σ.2.1 11 ((16 * x3) + x4).toNatClampNeg) = x2 → ∀ y5 : Int32, y5 = x4 + 1 → wpM_ruleOf_16 Post n σ x2 x3 y5))
set_option maxHeartbeats 1000000 in
set_option maxRecDepth 20000 in
theorem wkM_ruleOf_16 {Post : Int32 → MS → Prop} (E : xE cX11_ruleOf RX11 5 (some .int) D cy p s m args meth c) : ∀ n : Nat, ∀ (σ : MS) (x2 : Int32) (x3 : Int32) (x4 : Int32) (H : Heap) (locs : List Loc) (ls : Array Slot), xH D A s (MW q cy σ) H locs → wpM_ruleOf_16 Post n σ x2 x3 x4 → lv_has ls 5 [(0, .ref (q 0)), (2, .int x2), (3, .int x3), (4, .int x4)] → W p l e rM_ruleOf s m args below meth c H locs 0 0 (MQ below (va_Qi Post (xB D cy (MW q cy) A) A) args s 0 0 A) (F0 m 16 ls []) := by
  have hx := E.1
  have hb := E.2.1
  intro n
  induction n with
  | zero => intro σ x2 x3 x4 H locs ls h hw hl; exact False.elim hw
  | succ n ih =>
    intro σ x2 x3 x4 H locs ls h hw hl
    refine lv_iload hx hb dX11_ruleOf_16 (lv_at hl 3 rfl) ?_
    refine lv_aload_n hx hb dX11_ruleOf_18 rfl (lv_at hl 0 rfl) ?_
    refine gX11_46 E h dX11_ruleOf_19 ?_
    refine lv_iload_n hx hb dX11_ruleOf_22 rfl (lv_at hl 2 rfl) ?_
    have h1 := hw.1
    have hw := hw.2
    refine aM_10 E h h1 dX11_ruleOf_23 ?_
    refine lv_icmp_ge (tgt := 67) hx hb dX11_ruleOf_24 (by decide) (fun c2 => ?_) (fun c2 => ?_)
    · have hw := hw.1 c2
      refine lv_iconst (v := (-1)) hx hb dX11_ruleOf_67 (by decide) ?_
      exact x_iret E h hw dX11_ruleOf_68
    · have hw := hw.2 c2
      refine lv_aload_n hx hb dX11_ruleOf_27 rfl (lv_at hl 0 rfl) ?_
      refine gX11_49 E h dX11_ruleOf_28 ?_
      refine lv_bipush (v := 16) hx hb dX11_ruleOf_31 (by decide) ?_
      refine lv_iload_n hx hb dX11_ruleOf_33 rfl (lv_at hl 2 rfl) ?_
      refine lv_imul hx hb dX11_ruleOf_34 ?_
      refine lv_iload hx hb dX11_ruleOf_35 (lv_at hl 3 rfl) ?_
      refine lv_iadd hx hb dX11_ruleOf_37 ?_
      have h3 := hw.1
      have hw := hw.2
      refine aM_11 E h h3 dX11_ruleOf_38 ?_
      refine lv_iload_n hx hb dX11_ruleOf_39 rfl (lv_at hl 1 rfl) ?_
      refine lv_icmp_ne (tgt := 61) hx hb dX11_ruleOf_40 (by decide) (fun c4 => ?_) (fun c4 => ?_)
      · have hw := hw.2 c4
        obtain ⟨y5, ey5⟩ : ∃ z : Int32, z = x4 + 1 := ⟨_, rfl⟩
        have hw := hw y5 ey5
        refine lv_iinc (v := y5) (lv' := [(4, .int y5), (0, .ref (q 0)), (2, .int x2), (3, .int x3)]) hx hb dX11_ruleOf_61 hl (k := 3) rfl (by rw [ey5]; rfl) (by decide) rfl (fun ls hl => ?_)
        refine lv_goto (tgt := 16) hx hb dX11_ruleOf_64 (by decide) ?_
        exact ih _ _ _ _ _ _ _ h hw (lv_sub hl [1, 2, 3, 0] rfl)
      · have hw := hw.1 c4
        refine lv_aload_n hx hb dX11_ruleOf_43 rfl (lv_at hl 0 rfl) ?_
        refine lv_bipush (v := 16) hx hb dX11_ruleOf_44 (by decide) ?_
        refine lv_iload_n hx hb dX11_ruleOf_46 rfl (lv_at hl 2 rfl) ?_
        refine lv_imul hx hb dX11_ruleOf_47 ?_
        refine lv_iload hx hb dX11_ruleOf_48 (lv_at hl 3 rfl) ?_
        refine lv_iadd hx hb dX11_ruleOf_50 ?_
        refine lv_iload_n hx hb dX11_ruleOf_51 rfl (lv_at hl 2 rfl) ?_
        refine x_calli h (x_runV (WW := MW q cy) (rest := []) E h (cM_holds hw) yyX11_holds lX11_332 0 rfl rfl ⟨Nat.le_of_ble_eq_true rfl, Nat.le_of_ble_eq_true rfl⟩ rfl rfl hl.1 rfl (Nat.le_of_ble_eq_true rfl) dX11_ruleOf_52 ⟨Nat.le_refl 0, Nat.le_refl 0⟩) (fun r6 σ7 H locs hw h => ?_)
        refine lv_if_eq (tgt := 61) hx hb dX11_ruleOf_55 (by decide) (fun c8 => ?_) (fun c8 => ?_)
        · have hw := hw.1 c8
          obtain ⟨y9, ey9⟩ : ∃ z : Int32, z = x4 + 1 := ⟨_, rfl⟩
          have hw := hw y9 ey9
          refine lv_iinc (v := y9) (lv' := [(4, .int y9), (0, .ref (q 0)), (2, .int x2), (3, .int x3)]) hx hb dX11_ruleOf_61 hl (k := 3) rfl (by rw [ey9]; rfl) (by decide) rfl (fun ls hl => ?_)
          refine lv_goto (tgt := 16) hx hb dX11_ruleOf_64 (by decide) ?_
          exact ih _ _ _ _ _ _ _ h hw (lv_sub hl [1, 2, 3, 0] rfl)
        · have hw := hw.2 c8
          refine lv_iload hx hb dX11_ruleOf_58 (lv_at hl 3 rfl) ?_
          exact x_iret E h hw dX11_ruleOf_60

def wpM_ruleOf (σ : MS) (x1 : Int32) (x2 : Int32) (Post : Int32 → MS → Prop) : Prop := wpM_lawOf σ x1 (fun r1 σ2 => (r1 = ((-1)) → Post ((-1)) σ2) ∧ (¬ r1 = ((-1)) → ∃ g, wpM_ruleOf_16 Post g σ2 x2 r1 0))
set_option maxHeartbeats 1000000 in
set_option maxRecDepth 20000 in
theorem cM_ruleOf {l : Launch} {D : va_G} {cy : Nat → ClassId} {q : Nat → Nat} {σ : MS} {sz : Nat} {x1 : Int32} {x2 : Int32} {Post : Int32 → MS → Prop} (hw : wpM_ruleOf σ x1 x2 Post) : Met l yX11_ruleOf (Cond.code yX11_ruleOf cX11_ruleOf 5 (some .int) :: wsA) rM_ruleOf (xPc D cy (MW q cy σ) sz [.ref (q 0), .int x1, .int x2]) (va_Qi Post (xB D cy (MW q cy) (va_A (MW q cy σ) sz)) (va_A (MW q cy σ) sz)) 0 0 (va_A (MW q cy σ) sz) := by
  refine x_enter (own := RX11) (WW := MW q cy) (by decide) rfl (Nat.le_of_ble_eq_true rfl) ?_
  intro p e s m below meth c ls E h hl
  have hx := E.1
  have hb := E.2.1
  have hl : lv_has ls 5 [(0, .ref (q 0)), (1, .int x1), (2, .int x2)] := hl
  unfold wpM_ruleOf at hw
  refine lv_aload_n hx hb dX11_ruleOf_0 rfl (lv_at hl 0 rfl) ?_
  refine lv_iload_n hx hb dX11_ruleOf_1 rfl (lv_at hl 1 rfl) ?_
  refine x_calli h (x_runV (WW := MW q cy) (rest := []) E h (cM_lawOf hw) yyX11_lawOf lX11_326 0 rfl rfl ⟨Nat.le_of_ble_eq_true rfl, Nat.le_of_ble_eq_true rfl⟩ rfl rfl hl.1 rfl (Nat.le_of_ble_eq_true rfl) dX11_ruleOf_2 ⟨Nat.le_refl 0, Nat.le_refl 0⟩) (fun r1 σ2 H locs hw h => ?_)
  refine lv_istore_n (lv' := [(3, .int r1), (0, .ref (q 0)), (1, .int x1), (2, .int x2)]) hx hb dX11_ruleOf_5 rfl hl (by decide) rfl (fun ls hl => ?_)
  refine lv_iload_n hx hb dX11_ruleOf_6 rfl (lv_at hl 0 rfl) ?_
  refine lv_iconst (v := (-1)) hx hb dX11_ruleOf_7 (by decide) ?_
  refine lv_icmp_ne (tgt := 13) hx hb dX11_ruleOf_8 (by decide) (fun c3 => ?_) (fun c3 => ?_)
  · have hw := hw.2 c3
    refine lv_iconst (v := 0) hx hb dX11_ruleOf_13 (by decide) ?_
    refine lv_istore (lv' := [(4, .int 0), (3, .int r1), (0, .ref (q 0)), (1, .int x1), (2, .int x2)]) hx hb dX11_ruleOf_14 hl (by decide) rfl (fun ls hl => ?_)
    obtain ⟨g, hw⟩ := hw
    exact wkM_ruleOf_16 E g _ _ _ _ _ _ _ h hw (lv_sub hl [2, 4, 1, 0] rfl)
  · have hw := hw.1 c3
    refine lv_iconst (v := (-1)) hx hb dX11_ruleOf_11 (by decide) ?_
    exact x_iret E h hw dX11_ruleOf_12

abbrev rM_isKin : Room := { frames := 1, cells := 0, slots := 0, locals := 27 }
def wpM_isKin (σ : MS) (x1 : Int32) (x2 : Int32) (Post : Int32 → MS → Prop) : Prop := vp_in x1 10 ∧ wpM_degreeOf σ x2 (σ.2.1 31 x1.toNatClampNeg) (fun r2 σ3 => (r2 ≤ 4 → Post 1 σ3) ∧ (¬ r2 ≤ 4 → vp_in x1 10 ∧ wpM_degreeOf σ3 x2 (σ3.2.1 32 x1.toNatClampNeg) (fun r6 σ7 => (4 < r6 → Post 0 σ7) ∧ (¬ 4 < r6 → Post 1 σ7))))
set_option maxHeartbeats 1000000 in
set_option maxRecDepth 20000 in
theorem cM_isKin {l : Launch} {D : va_G} {cy : Nat → ClassId} {q : Nat → Nat} {σ : MS} {sz : Nat} {x1 : Int32} {x2 : Int32} {Post : Int32 → MS → Prop} (hw : wpM_isKin σ x1 x2 Post) : Met l yX11_isKin (Cond.code yX11_isKin cX11_isKin 3 (some .boolean) :: wsA) rM_isKin (xPc D cy (MW q cy σ) sz [.ref (q 0), .int x1, .int x2]) (va_Qi Post (xB D cy (MW q cy) (va_A (MW q cy σ) sz)) (va_A (MW q cy σ) sz)) 0 0 (va_A (MW q cy σ) sz) := by
  refine x_enter (own := RX11) (WW := MW q cy) (by decide) rfl (Nat.le_of_ble_eq_true rfl) ?_
  intro p e s m below meth c ls E h hl
  have hx := E.1
  have hb := E.2.1
  have hl : lv_has ls 3 [(0, .ref (q 0)), (1, .int x1), (2, .int x2)] := hl
  unfold wpM_isKin at hw
  refine lv_aload_n hx hb dX11_isKin_0 rfl (lv_at hl 0 rfl) ?_
  refine lv_iload_n hx hb dX11_isKin_1 rfl (lv_at hl 2 rfl) ?_
  refine lv_aload_n hx hb dX11_isKin_2 rfl (lv_at hl 0 rfl) ?_
  refine gX11_110 E h dX11_isKin_3 ?_
  refine lv_iload_n hx hb dX11_isKin_6 rfl (lv_at hl 1 rfl) ?_
  have h1 := hw.1
  have hw := hw.2
  refine aM_31 E h h1 dX11_isKin_7 ?_
  refine x_calli h (x_runV (WW := MW q cy) (rest := []) E h (cM_degreeOf hw) yyX11_degreeOf lX11_306 0 rfl rfl ⟨Nat.le_of_ble_eq_true rfl, Nat.le_of_ble_eq_true rfl⟩ rfl rfl hl.1 rfl (Nat.le_of_ble_eq_true rfl) dX11_isKin_8 ⟨Nat.le_refl 0, Nat.le_refl 0⟩) (fun r2 σ3 H locs hw h => ?_)
  refine lv_iconst (v := 4) hx hb dX11_isKin_11 (by decide) ?_
  refine lv_icmp_le (tgt := 30) hx hb dX11_isKin_12 (by decide) (fun c4 => ?_) (fun c4 => ?_)
  · have hw := hw.1 c4
    refine lv_iconst (v := 1) hx hb dX11_isKin_30 (by decide) ?_
    refine lv_goto (tgt := 35) hx hb dX11_isKin_31 (by decide) ?_
    exact x_zret E h rfl hw dX11_isKin_35
  · have hw := hw.2 c4
    refine lv_aload_n hx hb dX11_isKin_15 rfl (lv_at hl 0 rfl) ?_
    refine lv_iload_n hx hb dX11_isKin_16 rfl (lv_at hl 2 rfl) ?_
    refine lv_aload_n hx hb dX11_isKin_17 rfl (lv_at hl 0 rfl) ?_
    refine gX11_113 E h dX11_isKin_18 ?_
    refine lv_iload_n hx hb dX11_isKin_21 rfl (lv_at hl 1 rfl) ?_
    have h5 := hw.1
    have hw := hw.2
    refine aM_32 E h h5 dX11_isKin_22 ?_
    refine x_calli h (x_runV (WW := MW q cy) (rest := []) E h (cM_degreeOf hw) yyX11_degreeOf lX11_306 0 rfl rfl ⟨Nat.le_of_ble_eq_true rfl, Nat.le_of_ble_eq_true rfl⟩ rfl rfl hl.1 rfl (Nat.le_of_ble_eq_true rfl) dX11_isKin_23 ⟨Nat.le_refl 0, Nat.le_refl 0⟩) (fun r6 σ7 H locs hw h => ?_)
    refine lv_iconst (v := 4) hx hb dX11_isKin_26 (by decide) ?_
    refine lv_icmp_gt (tgt := 34) hx hb dX11_isKin_27 (by decide) (fun c8 => ?_) (fun c8 => ?_)
    · have hw := hw.1 c8
      refine lv_iconst (v := 0) hx hb dX11_isKin_34 (by decide) ?_
      exact x_zret E h rfl hw dX11_isKin_35
    · have hw := hw.2 c8
      refine lv_iconst (v := 1) hx hb dX11_isKin_30 (by decide) ?_
      refine lv_goto (tgt := 35) hx hb dX11_isKin_31 (by decide) ?_
      exact x_zret E h rfl hw dX11_isKin_35

abbrev rM_proofOf : Room := { frames := 3, cells := 0, slots := 0, locals := 77 }
def wpM_proofOf_47 (K7 : MS → Int32 → Int32 → Int32 → Prop) (K19 : MS → Int32 → Int32 → Int32 → Int32 → Int32 → Prop) (Post : Int32 → MS → Prop) (σ : MS) (x1 : Int32) (x2 : Int32) (x3 : Int32) (x4 : Int32) (x5 : Int32) : Prop := vp_in x5 200 ∧ ((σ.2.1 41 x5.toNatClampNeg) = x3 → vp_in x5 200 ∧ ((σ.2.1 42 x5.toNatClampNeg) = x1 → ∀ y7 : Int32, y7 = x5 + 1 → K19 σ x1 x2 x3 x5 y7) ∧ (¬ (σ.2.1 42 x5.toNatClampNeg) = x1 → ∀ y6 : Int32, y6 = x5 + 1 → K19 σ x1 x2 x3 x4 y6)) ∧ (¬ (σ.2.1 41 x5.toNatClampNeg) = x3 → ∀ y3 : Int32, y3 = x5 + 1 → K19 σ x1 x2 x3 x4 y3)
set_option maxHeartbeats 1000000 in
set_option maxRecDepth 20000 in
theorem wkM_proofOf_47 {Post : Int32 → MS → Prop} (E : xE cX11_proofOf RX11 6 (some .int) D cy p s m args meth c) {K7 : MS → Int32 → Int32 → Int32 → Prop} (hK7 : ∀ (σ : MS) (x1 : Int32) (x2 : Int32) (x3 : Int32) (H : Heap) (locs : List Loc) (ls : Array Slot), xH D A s (MW q cy σ) H locs → K7 σ x1 x2 x3 → lv_has ls 6 [(0, .ref (q 0)), (1, .int x1), (2, .int x2), (3, .int x3)] → W p l e rM_proofOf s m args below meth c H locs 0 0 (MQ below (va_Qi Post (xB D cy (MW q cy) A) A) args s 0 0 A) (F0 m 7 ls [])) {K19 : MS → Int32 → Int32 → Int32 → Int32 → Int32 → Prop} (hK19 : ∀ (σ : MS) (x1 : Int32) (x2 : Int32) (x3 : Int32) (x4 : Int32) (x5 : Int32) (H : Heap) (locs : List Loc) (ls : Array Slot), xH D A s (MW q cy σ) H locs → K19 σ x1 x2 x3 x4 x5 → lv_has ls 6 [(0, .ref (q 0)), (1, .int x1), (2, .int x2), (3, .int x3), (4, .int x4), (5, .int x5)] → W p l e rM_proofOf s m args below meth c H locs 0 0 (MQ below (va_Qi Post (xB D cy (MW q cy) A) A) args s 0 0 A) (F0 m 19 ls [])) : ∀ (σ : MS) (x1 : Int32) (x2 : Int32) (x3 : Int32) (x4 : Int32) (x5 : Int32) (H : Heap) (locs : List Loc) (ls : Array Slot), xH D A s (MW q cy σ) H locs → wpM_proofOf_47 K7 K19 Post σ x1 x2 x3 x4 x5 → lv_has ls 6 [(0, .ref (q 0)), (1, .int x1), (2, .int x2), (3, .int x3), (4, .int x4), (5, .int x5)] → W p l e rM_proofOf s m args below meth c H locs 0 0 (MQ below (va_Qi Post (xB D cy (MW q cy) A) A) args s 0 0 A) (F0 m 47 ls []) := by
  have hx := E.1
  have hb := E.2.1
  intro σ x1 x2 x3 x4 x5 H locs ls h hw hl
  unfold wpM_proofOf_47 at hw
  refine lv_aload_n hx hb dX11_proofOf_47 rfl (lv_at hl 0 rfl) ?_
  refine gX11_140 E h dX11_proofOf_48 ?_
  refine lv_iload hx hb dX11_proofOf_51 (lv_at hl 5 rfl) ?_
  have h1 := hw.1
  have hw := hw.2
  refine aM_41 E h h1 dX11_proofOf_53 ?_
  refine lv_iload_n hx hb dX11_proofOf_54 rfl (lv_at hl 3 rfl) ?_
  refine lv_icmp_ne (tgt := 73) hx hb dX11_proofOf_55 (by decide) (fun c2 => ?_) (fun c2 => ?_)
  · have hw := hw.2 c2
    obtain ⟨y3, ey3⟩ : ∃ z : Int32, z = x5 + 1 := ⟨_, rfl⟩
    have hw := hw y3 ey3
    refine lv_iinc (v := y3) (lv' := [(5, .int y3), (0, .ref (q 0)), (1, .int x1), (2, .int x2), (3, .int x3), (4, .int x4)]) hx hb dX11_proofOf_73 hl (k := 5) rfl (by rw [ey3]; rfl) (by decide) rfl (fun ls hl => ?_)
    refine lv_goto (tgt := 19) hx hb dX11_proofOf_76 (by decide) ?_
    exact hK19 _ _ _ _ _ _ _ _ _ h hw (lv_sub hl [1, 2, 3, 4, 5, 0] rfl)
  · have hw := hw.1 c2
    refine lv_aload_n hx hb dX11_proofOf_58 rfl (lv_at hl 0 rfl) ?_
    refine gX11_143 E h dX11_proofOf_59 ?_
    refine lv_iload hx hb dX11_proofOf_62 (lv_at hl 5 rfl) ?_
    have h4 := hw.1
    have hw := hw.2
    refine aM_42 E h h4 dX11_proofOf_64 ?_
    refine lv_iload_n hx hb dX11_proofOf_65 rfl (lv_at hl 1 rfl) ?_
    refine lv_icmp_ne (tgt := 73) hx hb dX11_proofOf_66 (by decide) (fun c5 => ?_) (fun c5 => ?_)
    · have hw := hw.2 c5
      obtain ⟨y6, ey6⟩ : ∃ z : Int32, z = x5 + 1 := ⟨_, rfl⟩
      have hw := hw y6 ey6
      refine lv_iinc (v := y6) (lv' := [(5, .int y6), (0, .ref (q 0)), (1, .int x1), (2, .int x2), (3, .int x3), (4, .int x4)]) hx hb dX11_proofOf_73 hl (k := 5) rfl (by rw [ey6]; rfl) (by decide) rfl (fun ls hl => ?_)
      refine lv_goto (tgt := 19) hx hb dX11_proofOf_76 (by decide) ?_
      exact hK19 _ _ _ _ _ _ _ _ _ h hw (lv_sub hl [1, 2, 3, 4, 5, 0] rfl)
    · have hw := hw.1 c5
      refine lv_iload hx hb dX11_proofOf_69 (lv_at hl 5 rfl) ?_
      refine lv_istore (lv' := [(4, .int x5), (0, .ref (q 0)), (1, .int x1), (2, .int x2), (3, .int x3), (5, .int x5)]) hx hb dX11_proofOf_71 hl (by decide) rfl (fun ls hl => ?_)
      obtain ⟨y7, ey7⟩ : ∃ z : Int32, z = x5 + 1 := ⟨_, rfl⟩
      have hw := hw y7 ey7
      refine lv_iinc (v := y7) (lv' := [(5, .int y7), (4, .int x5), (0, .ref (q 0)), (1, .int x1), (2, .int x2), (3, .int x3)]) hx hb dX11_proofOf_73 hl (k := 5) rfl (by rw [ey7]; rfl) (by decide) rfl (fun ls hl => ?_)
      refine lv_goto (tgt := 19) hx hb dX11_proofOf_76 (by decide) ?_
      exact hK19 _ _ _ _ _ _ _ _ _ h hw (lv_sub hl [2, 3, 4, 5, 1, 0] rfl)

def wpM_proofOf_157 (K7 : MS → Int32 → Int32 → Int32 → Prop) (Post : Int32 → MS → Prop) (σ : MS) (x1 : Int32) (x2 : Int32) (x3 : Int32) (t1 : Int32) : Prop := vp_in t1 12 ∧ vp_in t1 12 ∧ ∀ σ2 : MS, σ2 = mA σ 44 (upd (σ.2.1 44) t1.toNatClampNeg ((σ.2.1 44 t1.toNatClampNeg) + 1)) → ∀ y4 : Int32, y4 = x3 + 1 → K7 σ2 x1 x2 y4
set_option maxHeartbeats 1000000 in
set_option maxRecDepth 20000 in
theorem wkM_proofOf_157 {Post : Int32 → MS → Prop} (E : xE cX11_proofOf RX11 6 (some .int) D cy p s m args meth c) {K7 : MS → Int32 → Int32 → Int32 → Prop} (hK7 : ∀ (σ : MS) (x1 : Int32) (x2 : Int32) (x3 : Int32) (H : Heap) (locs : List Loc) (ls : Array Slot), xH D A s (MW q cy σ) H locs → K7 σ x1 x2 x3 → lv_has ls 6 [(0, .ref (q 0)), (1, .int x1), (2, .int x2), (3, .int x3)] → W p l e rM_proofOf s m args below meth c H locs 0 0 (MQ below (va_Qi Post (xB D cy (MW q cy) A) A) args s 0 0 A) (F0 m 7 ls [])) : ∀ (σ : MS) (x1 : Int32) (x2 : Int32) (x3 : Int32) (t1 : Int32) (H : Heap) (locs : List Loc) (ls : Array Slot), xH D A s (MW q cy σ) H locs → wpM_proofOf_157 K7 Post σ x1 x2 x3 t1 → lv_has ls 6 [(0, .ref (q 0)), (1, .int x1), (2, .int x2), (3, .int x3)] → W p l e rM_proofOf s m args below meth c H locs 0 0 (MQ below (va_Qi Post (xB D cy (MW q cy) A) A) args s 0 0 A) (F0 m 157 ls [.int t1, .ref (q 44)]) := by
  have hx := E.1
  have hb := E.2.1
  intro σ x1 x2 x3 t1 H locs ls h hw hl
  unfold wpM_proofOf_157 at hw
  refine lv_dup2_11 hx hb dX11_proofOf_157 rfl rfl ?_
  have h1 := hw.1
  have hw := hw.2
  refine aM_44 E h h1 dX11_proofOf_158 ?_
  refine lv_iconst (v := 1) hx hb dX11_proofOf_159 (by decide) ?_
  refine lv_iadd hx hb dX11_proofOf_160 ?_
  have h3 := hw.1
  have hw := hw.2
  refine sM_44 E h h3 dX11_proofOf_161 (fun σ2 H locs eσ2 h => ?_)
  have hw := hw σ2 eσ2
  obtain ⟨y4, ey4⟩ : ∃ z : Int32, z = x3 + 1 := ⟨_, rfl⟩
  have hw := hw y4 ey4
  refine lv_iinc (v := y4) (lv' := [(3, .int y4), (0, .ref (q 0)), (1, .int x1), (2, .int x2)]) hx hb dX11_proofOf_162 hl (k := 3) rfl (by rw [ey4]; rfl) (by decide) rfl (fun ls hl => ?_)
  refine lv_goto (tgt := 7) hx hb dX11_proofOf_165 (by decide) ?_
  exact hK7 _ _ _ _ _ _ _ h hw (lv_sub hl [1, 2, 3, 0] rfl)

def wpM_proofOf_143 (K7 : MS → Int32 → Int32 → Int32 → Prop) (Post : Int32 → MS → Prop) (σ : MS) (x1 : Int32) (x2 : Int32) (x3 : Int32) (x5 : Int32) : Prop := (x5 = 0 → wpM_proofOf_157 K7 Post σ x1 x2 x3 1) ∧ (¬ x5 = 0 → wpM_proofOf_157 K7 Post σ x1 x2 x3 0)
set_option maxHeartbeats 1000000 in
set_option maxRecDepth 20000 in
theorem wkM_proofOf_143 {Post : Int32 → MS → Prop} (E : xE cX11_proofOf RX11 6 (some .int) D cy p s m args meth c) {K7 : MS → Int32 → Int32 → Int32 → Prop} (hK7 : ∀ (σ : MS) (x1 : Int32) (x2 : Int32) (x3 : Int32) (H : Heap) (locs : List Loc) (ls : Array Slot), xH D A s (MW q cy σ) H locs → K7 σ x1 x2 x3 → lv_has ls 6 [(0, .ref (q 0)), (1, .int x1), (2, .int x2), (3, .int x3)] → W p l e rM_proofOf s m args below meth c H locs 0 0 (MQ below (va_Qi Post (xB D cy (MW q cy) A) A) args s 0 0 A) (F0 m 7 ls [])) : ∀ (σ : MS) (x1 : Int32) (x2 : Int32) (x3 : Int32) (x5 : Int32) (H : Heap) (locs : List Loc) (ls : Array Slot), xH D A s (MW q cy σ) H locs → wpM_proofOf_143 K7 Post σ x1 x2 x3 x5 → lv_has ls 6 [(0, .ref (q 0)), (1, .int x1), (2, .int x2), (3, .int x3), (5, .int x5)] → W p l e rM_proofOf s m args below meth c H locs 0 0 (MQ below (va_Qi Post (xB D cy (MW q cy) A) A) args s 0 0 A) (F0 m 143 ls []) := by
  have hx := E.1
  have hb := E.2.1
  intro σ x1 x2 x3 x5 H locs ls h hw hl
  unfold wpM_proofOf_143 at hw
  refine lv_aload_n hx hb dX11_proofOf_143 rfl (lv_at hl 0 rfl) ?_
  refine gX11_149 E h dX11_proofOf_144 ?_
  refine lv_iload hx hb dX11_proofOf_147 (lv_at hl 4 rfl) ?_
  refine lv_if_eq (tgt := 156) hx hb dX11_proofOf_149 (by decide) (fun c1 => ?_) (fun c1 => ?_)
  · have hw := hw.1 c1
    refine lv_iconst (v := 1) hx hb dX11_proofOf_156 (by decide) ?_
    exact wkM_proofOf_157 E hK7 _ _ _ _ _ _ _ _ h hw (lv_sub hl [0, 1, 2, 3] rfl)
  · have hw := hw.2 c1
    refine lv_iconst (v := 0) hx hb dX11_proofOf_152 (by decide) ?_
    refine lv_goto (tgt := 157) hx hb dX11_proofOf_153 (by decide) ?_
    exact wkM_proofOf_157 E hK7 _ _ _ _ _ _ _ _ h hw (lv_sub hl [0, 1, 2, 3] rfl)

def wpM_proofOf_138 (K7 : MS → Int32 → Int32 → Int32 → Prop) (Post : Int32 → MS → Prop) (σ : MS) (x1 : Int32) (x2 : Int32) (x3 : Int32) (t1 : Int32) (t2 : Int32) (t3 : Int32) : Prop := vp_in t1 12 ∧ ∀ σ1 : MS, σ1 = mA σ 44 (upd (σ.2.1 44) t1.toNatClampNeg (t2 + t3)) → ∀ y3 : Int32, y3 = x3 + 1 → K7 σ1 x1 x2 y3
set_option maxHeartbeats 1000000 in
set_option maxRecDepth 20000 in
theorem wkM_proofOf_138 {Post : Int32 → MS → Prop} (E : xE cX11_proofOf RX11 6 (some .int) D cy p s m args meth c) {K7 : MS → Int32 → Int32 → Int32 → Prop} (hK7 : ∀ (σ : MS) (x1 : Int32) (x2 : Int32) (x3 : Int32) (H : Heap) (locs : List Loc) (ls : Array Slot), xH D A s (MW q cy σ) H locs → K7 σ x1 x2 x3 → lv_has ls 6 [(0, .ref (q 0)), (1, .int x1), (2, .int x2), (3, .int x3)] → W p l e rM_proofOf s m args below meth c H locs 0 0 (MQ below (va_Qi Post (xB D cy (MW q cy) A) A) args s 0 0 A) (F0 m 7 ls [])) : ∀ (σ : MS) (x1 : Int32) (x2 : Int32) (x3 : Int32) (t1 : Int32) (t2 : Int32) (t3 : Int32) (H : Heap) (locs : List Loc) (ls : Array Slot), xH D A s (MW q cy σ) H locs → wpM_proofOf_138 K7 Post σ x1 x2 x3 t1 t2 t3 → lv_has ls 6 [(0, .ref (q 0)), (1, .int x1), (2, .int x2), (3, .int x3)] → W p l e rM_proofOf s m args below meth c H locs 0 0 (MQ below (va_Qi Post (xB D cy (MW q cy) A) A) args s 0 0 A) (F0 m 138 ls [.int t3, .int t2, .int t1, .ref (q 44)]) := by
  have hx := E.1
  have hb := E.2.1
  intro σ x1 x2 x3 t1 t2 t3 H locs ls h hw hl
  unfold wpM_proofOf_138 at hw
  refine lv_iadd hx hb dX11_proofOf_138 ?_
  have h2 := hw.1
  have hw := hw.2
  refine sM_44 E h h2 dX11_proofOf_139 (fun σ1 H locs eσ1 h => ?_)
  have hw := hw σ1 eσ1
  refine lv_goto (tgt := 162) hx hb dX11_proofOf_140 (by decide) ?_
  obtain ⟨y3, ey3⟩ : ∃ z : Int32, z = x3 + 1 := ⟨_, rfl⟩
  have hw := hw y3 ey3
  refine lv_iinc (v := y3) (lv' := [(3, .int y3), (0, .ref (q 0)), (1, .int x1), (2, .int x2)]) hx hb dX11_proofOf_162 hl (k := 3) rfl (by rw [ey3]; rfl) (by decide) rfl (fun ls hl => ?_)
  refine lv_goto (tgt := 7) hx hb dX11_proofOf_165 (by decide) ?_
  exact hK7 _ _ _ _ _ _ _ h hw (lv_sub hl [1, 2, 3, 0] rfl)

def wpM_proofOf_104 (K7 : MS → Int32 → Int32 → Int32 → Prop) (Post : Int32 → MS → Prop) (σ : MS) (x1 : Int32) (x2 : Int32) (x3 : Int32) (t0 : Int32) : Prop := (100 ≤ x3 → wpM_proofOf_143 K7 Post σ x1 x2 x3 t0) ∧ (¬ 100 ≤ x3 → wpM_isKin σ x1 x3 (fun r2 σ3 => (r2 = 0 → wpM_proofOf_143 K7 Post σ3 x1 x2 x3 t0) ∧ (¬ r2 = 0 → vp_in 2 12 ∧ (t0 = 0 → wpM_proofOf_138 K7 Post σ3 x1 x2 x3 2 (σ3.2.1 44 (2 : Int32).toNatClampNeg) 0) ∧ (¬ t0 = 0 → wpM_proofOf_138 K7 Post σ3 x1 x2 x3 2 (σ3.2.1 44 (2 : Int32).toNatClampNeg) 1))))
set_option maxHeartbeats 1000000 in
set_option maxRecDepth 20000 in
theorem wkM_proofOf_104 {Post : Int32 → MS → Prop} (E : xE cX11_proofOf RX11 6 (some .int) D cy p s m args meth c) {K7 : MS → Int32 → Int32 → Int32 → Prop} (hK7 : ∀ (σ : MS) (x1 : Int32) (x2 : Int32) (x3 : Int32) (H : Heap) (locs : List Loc) (ls : Array Slot), xH D A s (MW q cy σ) H locs → K7 σ x1 x2 x3 → lv_has ls 6 [(0, .ref (q 0)), (1, .int x1), (2, .int x2), (3, .int x3)] → W p l e rM_proofOf s m args below meth c H locs 0 0 (MQ below (va_Qi Post (xB D cy (MW q cy) A) A) args s 0 0 A) (F0 m 7 ls [])) : ∀ (σ : MS) (x1 : Int32) (x2 : Int32) (x3 : Int32) (t0 : Int32) (H : Heap) (locs : List Loc) (ls : Array Slot), xH D A s (MW q cy σ) H locs → wpM_proofOf_104 K7 Post σ x1 x2 x3 t0 → lv_has ls 6 [(0, .ref (q 0)), (1, .int x1), (2, .int x2), (3, .int x3)] → W p l e rM_proofOf s m args below meth c H locs 0 0 (MQ below (va_Qi Post (xB D cy (MW q cy) A) A) args s 0 0 A) (F0 m 104 ls [.int t0]) := by
  have hx := E.1
  have hb := E.2.1
  intro σ x1 x2 x3 t0 H locs ls h hw hl
  unfold wpM_proofOf_104 at hw
  refine lv_istore (lv' := [(5, .int t0), (0, .ref (q 0)), (1, .int x1), (2, .int x2), (3, .int x3)]) hx hb dX11_proofOf_104 hl (by decide) rfl (fun ls hl => ?_)
  refine lv_iload_n hx hb dX11_proofOf_106 rfl (lv_at hl 4 rfl) ?_
  refine lv_bipush (v := 100) hx hb dX11_proofOf_107 (by decide) ?_
  refine lv_icmp_ge (tgt := 143) hx hb dX11_proofOf_109 (by decide) (fun c1 => ?_) (fun c1 => ?_)
  · have hw := hw.1 c1
    exact wkM_proofOf_143 E hK7 _ _ _ _ _ _ _ _ h hw (lv_sub hl [1, 2, 3, 4, 0] rfl)
  · have hw := hw.2 c1
    refine lv_aload_n hx hb dX11_proofOf_112 rfl (lv_at hl 1 rfl) ?_
    refine lv_iload_n hx hb dX11_proofOf_113 rfl (lv_at hl 2 rfl) ?_
    refine lv_iload_n hx hb dX11_proofOf_114 rfl (lv_at hl 4 rfl) ?_
    refine x_calli h (x_runV (WW := MW q cy) (rest := []) E h (cM_isKin hw) yyX11_isKin lX11_339 0 rfl rfl ⟨Nat.le_of_ble_eq_true rfl, Nat.le_of_ble_eq_true rfl⟩ rfl rfl hl.1 rfl (Nat.le_of_ble_eq_true rfl) dX11_proofOf_115 ⟨Nat.le_refl 0, Nat.le_refl 0⟩) (fun r2 σ3 H locs hw h => ?_)
    refine lv_if_eq (tgt := 143) hx hb dX11_proofOf_118 (by decide) (fun c4 => ?_) (fun c4 => ?_)
    · have hw := hw.1 c4
      exact wkM_proofOf_143 E hK7 _ _ _ _ _ _ _ _ h hw (lv_sub hl [1, 2, 3, 4, 0] rfl)
    · have hw := hw.2 c4
      refine lv_aload_n hx hb dX11_proofOf_121 rfl (lv_at hl 1 rfl) ?_
      refine gX11_149 E h dX11_proofOf_122 ?_
      refine lv_iconst (v := 2) hx hb dX11_proofOf_125 (by decide) ?_
      refine lv_dup2_11 hx hb dX11_proofOf_126 rfl rfl ?_
      have h5 := hw.1
      have hw := hw.2
      refine aM_44 E h h5 dX11_proofOf_127 ?_
      refine lv_iload hx hb dX11_proofOf_128 (lv_at hl 0 rfl) ?_
      refine lv_if_eq (tgt := 137) hx hb dX11_proofOf_130 (by decide) (fun c6 => ?_) (fun c6 => ?_)
      · have hw := hw.1 c6
        refine lv_iconst (v := 0) hx hb dX11_proofOf_137 (by decide) ?_
        exact wkM_proofOf_138 E hK7 _ _ _ _ _ _ _ _ _ _ h hw (lv_sub hl [1, 2, 3, 4] rfl)
      · have hw := hw.2 c6
        refine lv_iconst (v := 1) hx hb dX11_proofOf_133 (by decide) ?_
        refine lv_goto (tgt := 138) hx hb dX11_proofOf_134 (by decide) ?_
        exact wkM_proofOf_138 E hK7 _ _ _ _ _ _ _ _ _ _ h hw (lv_sub hl [1, 2, 3, 4] rfl)

def wpM_proofOf_19 (K7 : MS → Int32 → Int32 → Int32 → Prop) (Post : Int32 → MS → Prop) : Nat → MS → Int32 → Int32 → Int32 → Int32 → Int32 → Prop
  | 0, _, _, _, _, _, _ => False
  | n + 1, σ, x1, x2, x3, x4, x5 => (x2 ≤ x5 → (x4 = ((-1)) → ∀ y5 : Int32, y5 = x3 + 1 → K7 σ x1 x2 y5) ∧ (¬ x4 = ((-1)) → vp_in x4 200 ∧ ((σ.2.1 40 x4.toNatClampNeg) = 4 → wpM_proofOf_104 K7 Post σ x1 x2 x3 1) ∧ (¬ (σ.2.1 40 x4.toNatClampNeg) = 4 → wpM_proofOf_104 K7 Post σ x1 x2 x3 0))) ∧ (¬ x2 ≤ x5 → vp_in x5 200 ∧ ((σ.2.1 40 x5.toNatClampNeg) = 4 → wpM_proofOf_47 K7 (fun a0 a1 a2 a3 a4 a5 => wpM_proofOf_19 K7 Post n a0 a1 a2 a3 a4 a5) Post σ x1 x2 x3 x4 x5) ∧ (¬ (σ.2.1 40 x5.toNatClampNeg) = 4 → vp_in x5 200 ∧ ((σ.2.1 40 x5.toNatClampNeg) = 5 → wpM_proofOf_47 K7 (fun a0 a1 a2 a3 a4 a5 => wpM_proofOf_19 K7 Post n a0 a1 a2 a3 a4 a5) Post σ x1 x2 x3 x4 x5) ∧ (¬ (σ.2.1 40 x5.toNatClampNeg) = 5 → ∀ y10 : Int32, y10 = x5 + 1 → wpM_proofOf_19 K7 Post n σ x1 x2 x3 x4 y10)))
set_option maxHeartbeats 1000000 in
set_option maxRecDepth 20000 in
theorem wkM_proofOf_19 {Post : Int32 → MS → Prop} (E : xE cX11_proofOf RX11 6 (some .int) D cy p s m args meth c) {K7 : MS → Int32 → Int32 → Int32 → Prop} (hK7 : ∀ (σ : MS) (x1 : Int32) (x2 : Int32) (x3 : Int32) (H : Heap) (locs : List Loc) (ls : Array Slot), xH D A s (MW q cy σ) H locs → K7 σ x1 x2 x3 → lv_has ls 6 [(0, .ref (q 0)), (1, .int x1), (2, .int x2), (3, .int x3)] → W p l e rM_proofOf s m args below meth c H locs 0 0 (MQ below (va_Qi Post (xB D cy (MW q cy) A) A) args s 0 0 A) (F0 m 7 ls [])) : ∀ n : Nat, ∀ (σ : MS) (x1 : Int32) (x2 : Int32) (x3 : Int32) (x4 : Int32) (x5 : Int32) (H : Heap) (locs : List Loc) (ls : Array Slot), xH D A s (MW q cy σ) H locs → wpM_proofOf_19 K7 Post n σ x1 x2 x3 x4 x5 → lv_has ls 6 [(0, .ref (q 0)), (1, .int x1), (2, .int x2), (3, .int x3), (4, .int x4), (5, .int x5)] → W p l e rM_proofOf s m args below meth c H locs 0 0 (MQ below (va_Qi Post (xB D cy (MW q cy) A) A) args s 0 0 A) (F0 m 19 ls []) := by
  have hx := E.1
  have hb := E.2.1
  intro n
  induction n with
  | zero => intro σ x1 x2 x3 x4 x5 H locs ls h hw hl; exact False.elim hw
  | succ n ih =>
    intro σ x1 x2 x3 x4 x5 H locs ls h hw hl
    refine lv_iload hx hb dX11_proofOf_19 (lv_at hl 5 rfl) ?_
    refine lv_iload_n hx hb dX11_proofOf_21 rfl (lv_at hl 2 rfl) ?_
    refine lv_icmp_ge (tgt := 79) hx hb dX11_proofOf_22 (by decide) (fun c1 => ?_) (fun c1 => ?_)
    · have hw := hw.1 c1
      refine lv_iload hx hb dX11_proofOf_79 (lv_at hl 4 rfl) ?_
      refine lv_iconst (v := (-1)) hx hb dX11_proofOf_81 (by decide) ?_
      refine lv_icmp_ne (tgt := 88) hx hb dX11_proofOf_82 (by decide) (fun c2 => ?_) (fun c2 => ?_)
      · have hw := hw.2 c2
        refine lv_aload_n hx hb dX11_proofOf_88 rfl (lv_at hl 0 rfl) ?_
        refine gX11_137 E h dX11_proofOf_89 ?_
        refine lv_iload hx hb dX11_proofOf_92 (lv_at hl 4 rfl) ?_
        have h3 := hw.1
        have hw := hw.2
        refine aM_40 E h h3 dX11_proofOf_94 ?_
        refine lv_iconst (v := 4) hx hb dX11_proofOf_95 (by decide) ?_
        refine lv_icmp_ne (tgt := 103) hx hb dX11_proofOf_96 (by decide) (fun c4 => ?_) (fun c4 => ?_)
        · have hw := hw.2 c4
          refine lv_iconst (v := 0) hx hb dX11_proofOf_103 (by decide) ?_
          exact wkM_proofOf_104 E hK7 _ _ _ _ _ _ _ _ h hw (lv_sub hl [0, 1, 2, 3] rfl)
        · have hw := hw.1 c4
          refine lv_iconst (v := 1) hx hb dX11_proofOf_99 (by decide) ?_
          refine lv_goto (tgt := 104) hx hb dX11_proofOf_100 (by decide) ?_
          exact wkM_proofOf_104 E hK7 _ _ _ _ _ _ _ _ h hw (lv_sub hl [0, 1, 2, 3] rfl)
      · have hw := hw.1 c2
        refine lv_goto (tgt := 162) hx hb dX11_proofOf_85 (by decide) ?_
        obtain ⟨y5, ey5⟩ : ∃ z : Int32, z = x3 + 1 := ⟨_, rfl⟩
        have hw := hw y5 ey5
        refine lv_iinc (v := y5) (lv' := [(3, .int y5), (0, .ref (q 0)), (1, .int x1), (2, .int x2), (4, .int x4), (5, .int x5)]) hx hb dX11_proofOf_162 hl (k := 3) rfl (by rw [ey5]; rfl) (by decide) rfl (fun ls hl => ?_)
        refine lv_goto (tgt := 7) hx hb dX11_proofOf_165 (by decide) ?_
        exact hK7 _ _ _ _ _ _ _ h hw (lv_sub hl [1, 2, 3, 0] rfl)
    · have hw := hw.2 c1
      refine lv_aload_n hx hb dX11_proofOf_25 rfl (lv_at hl 0 rfl) ?_
      refine gX11_137 E h dX11_proofOf_26 ?_
      refine lv_iload hx hb dX11_proofOf_29 (lv_at hl 5 rfl) ?_
      have h6 := hw.1
      have hw := hw.2
      refine aM_40 E h h6 dX11_proofOf_31 ?_
      refine lv_iconst (v := 4) hx hb dX11_proofOf_32 (by decide) ?_
      refine lv_icmp_eq (tgt := 47) hx hb dX11_proofOf_33 (by decide) (fun c7 => ?_) (fun c7 => ?_)
      · have hw := hw.1 c7
        exact wkM_proofOf_47 E hK7 ih _ _ _ _ _ _ _ _ _ h hw (lv_sub hl [0, 1, 2, 3, 4, 5] rfl)
      · have hw := hw.2 c7
        refine lv_aload_n hx hb dX11_proofOf_36 rfl (lv_at hl 0 rfl) ?_
        refine gX11_137 E h dX11_proofOf_37 ?_
        refine lv_iload hx hb dX11_proofOf_40 (lv_at hl 5 rfl) ?_
        have h8 := hw.1
        have hw := hw.2
        refine aM_40 E h h8 dX11_proofOf_42 ?_
        refine lv_iconst (v := 5) hx hb dX11_proofOf_43 (by decide) ?_
        refine lv_icmp_ne (tgt := 73) hx hb dX11_proofOf_44 (by decide) (fun c9 => ?_) (fun c9 => ?_)
        · have hw := hw.2 c9
          obtain ⟨y10, ey10⟩ : ∃ z : Int32, z = x5 + 1 := ⟨_, rfl⟩
          have hw := hw y10 ey10
          refine lv_iinc (v := y10) (lv' := [(5, .int y10), (0, .ref (q 0)), (1, .int x1), (2, .int x2), (3, .int x3), (4, .int x4)]) hx hb dX11_proofOf_73 hl (k := 5) rfl (by rw [ey10]; rfl) (by decide) rfl (fun ls hl => ?_)
          refine lv_goto (tgt := 19) hx hb dX11_proofOf_76 (by decide) ?_
          exact ih _ _ _ _ _ _ _ _ _ h hw (lv_sub hl [1, 2, 3, 4, 5, 0] rfl)
        · have hw := hw.1 c9
          exact wkM_proofOf_47 E hK7 ih _ _ _ _ _ _ _ _ _ h hw (lv_sub hl [0, 1, 2, 3, 4, 5] rfl)

def wpM_proofOf_170 (Post : Int32 → MS → Prop) : Nat → MS → Int32 → Int32 → Int32 → Prop
  | 0, _, _, _, _ => False
  | n + 1, σ, x1, x2, x3 => (x2 ≤ x3 → wpM_ruleOf σ x1 0 (fun r2 σ3 => Post r2 σ3)) ∧ (¬ x2 ≤ x3 → vp_in x3 200 ∧ ((σ.2.1 40 x3.toNatClampNeg) = 6 → vp_in x3 200 ∧ ((σ.2.1 41 x3.toNatClampNeg) = x1 → vp_in 3 12 ∧ vp_in 3 12 ∧ ∀ σ11 : MS, σ11 = mA σ 44 (upd (σ.2.1 44) (3 : Int32).toNatClampNeg ((σ.2.1 44 (3 : Int32).toNatClampNeg) + 1)) → ∀ y13 : Int32, y13 = x3 + 1 → wpM_proofOf_170 Post n σ11 x1 x2 y13) ∧ (¬ (σ.2.1 41 x3.toNatClampNeg) = x1 → ∀ y9 : Int32, y9 = x3 + 1 → wpM_proofOf_170 Post n σ x1 x2 y9)) ∧ (¬ (σ.2.1 40 x3.toNatClampNeg) = 6 → ∀ y6 : Int32, y6 = x3 + 1 → wpM_proofOf_170 Post n σ x1 x2 y6))
set_option maxHeartbeats 1000000 in
set_option maxRecDepth 20000 in
theorem wkM_proofOf_170 {Post : Int32 → MS → Prop} (E : xE cX11_proofOf RX11 6 (some .int) D cy p s m args meth c) : ∀ n : Nat, ∀ (σ : MS) (x1 : Int32) (x2 : Int32) (x3 : Int32) (H : Heap) (locs : List Loc) (ls : Array Slot), xH D A s (MW q cy σ) H locs → wpM_proofOf_170 Post n σ x1 x2 x3 → lv_has ls 6 [(0, .ref (q 0)), (1, .int x1), (2, .int x2), (3, .int x3)] → W p l e rM_proofOf s m args below meth c H locs 0 0 (MQ below (va_Qi Post (xB D cy (MW q cy) A) A) args s 0 0 A) (F0 m 170 ls []) := by
  have hx := E.1
  have hb := E.2.1
  intro n
  induction n with
  | zero => intro σ x1 x2 x3 H locs ls h hw hl; exact False.elim hw
  | succ n ih =>
    intro σ x1 x2 x3 H locs ls h hw hl
    refine lv_iload_n hx hb dX11_proofOf_170 rfl (lv_at hl 3 rfl) ?_
    refine lv_iload_n hx hb dX11_proofOf_171 rfl (lv_at hl 2 rfl) ?_
    refine lv_icmp_ge (tgt := 212) hx hb dX11_proofOf_172 (by decide) (fun c1 => ?_) (fun c1 => ?_)
    · have hw := hw.1 c1
      refine lv_aload_n hx hb dX11_proofOf_212 rfl (lv_at hl 0 rfl) ?_
      refine lv_iload_n hx hb dX11_proofOf_213 rfl (lv_at hl 1 rfl) ?_
      refine lv_iconst (v := 0) hx hb dX11_proofOf_214 (by decide) ?_
      refine x_calli h (x_runV (WW := MW q cy) (rest := []) E h (cM_ruleOf hw) yyX11_ruleOf lX11_342 0 rfl rfl ⟨Nat.le_of_ble_eq_true rfl, Nat.le_of_ble_eq_true rfl⟩ rfl rfl hl.1 rfl (Nat.le_of_ble_eq_true rfl) dX11_proofOf_215 ⟨Nat.le_refl 0, Nat.le_refl 0⟩) (fun r2 σ3 H locs hw h => ?_)
      exact x_iret E h hw dX11_proofOf_218
    · have hw := hw.2 c1
      refine lv_aload_n hx hb dX11_proofOf_175 rfl (lv_at hl 0 rfl) ?_
      refine gX11_137 E h dX11_proofOf_176 ?_
      refine lv_iload_n hx hb dX11_proofOf_179 rfl (lv_at hl 3 rfl) ?_
      have h4 := hw.1
      have hw := hw.2
      refine aM_40 E h h4 dX11_proofOf_180 ?_
      refine lv_bipush (v := 6) hx hb dX11_proofOf_181 (by decide) ?_
      refine lv_icmp_ne (tgt := 206) hx hb dX11_proofOf_183 (by decide) (fun c5 => ?_) (fun c5 => ?_)
      · have hw := hw.2 c5
        obtain ⟨y6, ey6⟩ : ∃ z : Int32, z = x3 + 1 := ⟨_, rfl⟩
        have hw := hw y6 ey6
        refine lv_iinc (v := y6) (lv' := [(3, .int y6), (0, .ref (q 0)), (1, .int x1), (2, .int x2)]) hx hb dX11_proofOf_206 hl (k := 3) rfl (by rw [ey6]; rfl) (by decide) rfl (fun ls hl => ?_)
        refine lv_goto (tgt := 170) hx hb dX11_proofOf_209 (by decide) ?_
        exact ih _ _ _ _ _ _ _ h hw (lv_sub hl [1, 2, 3, 0] rfl)
      · have hw := hw.1 c5
        refine lv_aload_n hx hb dX11_proofOf_186 rfl (lv_at hl 0 rfl) ?_
        refine gX11_140 E h dX11_proofOf_187 ?_
        refine lv_iload_n hx hb dX11_proofOf_190 rfl (lv_at hl 3 rfl) ?_
        have h7 := hw.1
        have hw := hw.2
        refine aM_41 E h h7 dX11_proofOf_191 ?_
        refine lv_iload_n hx hb dX11_proofOf_192 rfl (lv_at hl 1 rfl) ?_
        refine lv_icmp_ne (tgt := 206) hx hb dX11_proofOf_193 (by decide) (fun c8 => ?_) (fun c8 => ?_)
        · have hw := hw.2 c8
          obtain ⟨y9, ey9⟩ : ∃ z : Int32, z = x3 + 1 := ⟨_, rfl⟩
          have hw := hw y9 ey9
          refine lv_iinc (v := y9) (lv' := [(3, .int y9), (0, .ref (q 0)), (1, .int x1), (2, .int x2)]) hx hb dX11_proofOf_206 hl (k := 3) rfl (by rw [ey9]; rfl) (by decide) rfl (fun ls hl => ?_)
          refine lv_goto (tgt := 170) hx hb dX11_proofOf_209 (by decide) ?_
          exact ih _ _ _ _ _ _ _ h hw (lv_sub hl [1, 2, 3, 0] rfl)
        · have hw := hw.1 c8
          refine lv_aload_n hx hb dX11_proofOf_196 rfl (lv_at hl 0 rfl) ?_
          refine gX11_149 E h dX11_proofOf_197 ?_
          refine lv_iconst (v := 3) hx hb dX11_proofOf_200 (by decide) ?_
          refine lv_dup2_11 hx hb dX11_proofOf_201 rfl rfl ?_
          have h10 := hw.1
          have hw := hw.2
          refine aM_44 E h h10 dX11_proofOf_202 ?_
          refine lv_iconst (v := 1) hx hb dX11_proofOf_203 (by decide) ?_
          refine lv_iadd hx hb dX11_proofOf_204 ?_
          have h12 := hw.1
          have hw := hw.2
          refine sM_44 E h h12 dX11_proofOf_205 (fun σ11 H locs eσ11 h => ?_)
          have hw := hw σ11 eσ11
          obtain ⟨y13, ey13⟩ : ∃ z : Int32, z = x3 + 1 := ⟨_, rfl⟩
          have hw := hw y13 ey13
          refine lv_iinc (v := y13) (lv' := [(3, .int y13), (0, .ref (q 0)), (1, .int x1), (2, .int x2)]) hx hb dX11_proofOf_206 hl (k := 3) rfl (by rw [ey13]; rfl) (by decide) rfl (fun ls hl => ?_)
          refine lv_goto (tgt := 170) hx hb dX11_proofOf_209 (by decide) ?_
          exact ih _ _ _ _ _ _ _ h hw (lv_sub hl [1, 2, 3, 0] rfl)

def wpM_proofOf_7 (Post : Int32 → MS → Prop) : Nat → MS → Int32 → Int32 → Int32 → Prop
  | 0, _, _, _, _ => False
  | n + 1, σ, x1, x2, x3 => (120 ≤ x3 → ∃ g, wpM_proofOf_170 Post g σ x1 x2 0) ∧ (¬ 120 ≤ x3 → ∃ g, wpM_proofOf_19 (fun a0 a1 a2 a3 => wpM_proofOf_7 Post n a0 a1 a2 a3) Post g σ x1 x2 x3 ((-1)) 0)
set_option maxHeartbeats 1000000 in
set_option maxRecDepth 20000 in
theorem wkM_proofOf_7 {Post : Int32 → MS → Prop} (E : xE cX11_proofOf RX11 6 (some .int) D cy p s m args meth c) : ∀ n : Nat, ∀ (σ : MS) (x1 : Int32) (x2 : Int32) (x3 : Int32) (H : Heap) (locs : List Loc) (ls : Array Slot), xH D A s (MW q cy σ) H locs → wpM_proofOf_7 Post n σ x1 x2 x3 → lv_has ls 6 [(0, .ref (q 0)), (1, .int x1), (2, .int x2), (3, .int x3)] → W p l e rM_proofOf s m args below meth c H locs 0 0 (MQ below (va_Qi Post (xB D cy (MW q cy) A) A) args s 0 0 A) (F0 m 7 ls []) := by
  have hx := E.1
  have hb := E.2.1
  intro n
  induction n with
  | zero => intro σ x1 x2 x3 H locs ls h hw hl; exact False.elim hw
  | succ n ih =>
    intro σ x1 x2 x3 H locs ls h hw hl
    refine lv_iload_n hx hb dX11_proofOf_7 rfl (lv_at hl 3 rfl) ?_
    refine lv_bipush (v := 120) hx hb dX11_proofOf_8 (by decide) ?_
    refine lv_icmp_ge (tgt := 168) hx hb dX11_proofOf_10 (by decide) (fun c1 => ?_) (fun c1 => ?_)
    · have hw := hw.1 c1
      refine lv_iconst (v := 0) hx hb dX11_proofOf_168 (by decide) ?_
      refine lv_istore_n (lv' := [(3, .int 0), (0, .ref (q 0)), (1, .int x1), (2, .int x2)]) hx hb dX11_proofOf_169 rfl hl (by decide) rfl (fun ls hl => ?_)
      obtain ⟨g, hw⟩ := hw
      exact wkM_proofOf_170 E g _ _ _ _ _ _ _ h hw (lv_sub hl [1, 2, 3, 0] rfl)
    · have hw := hw.2 c1
      refine lv_iconst (v := (-1)) hx hb dX11_proofOf_13 (by decide) ?_
      refine lv_istore (lv' := [(4, .int ((-1))), (0, .ref (q 0)), (1, .int x1), (2, .int x2), (3, .int x3)]) hx hb dX11_proofOf_14 hl (by decide) rfl (fun ls hl => ?_)
      refine lv_iconst (v := 0) hx hb dX11_proofOf_16 (by decide) ?_
      refine lv_istore (lv' := [(5, .int 0), (4, .int ((-1))), (0, .ref (q 0)), (1, .int x1), (2, .int x2), (3, .int x3)]) hx hb dX11_proofOf_17 hl (by decide) rfl (fun ls hl => ?_)
      obtain ⟨g, hw⟩ := hw
      exact wkM_proofOf_19 E ih g _ _ _ _ _ _ _ _ _ h hw (lv_sub hl [2, 3, 4, 5, 1, 0] rfl)

def wpM_proofOf (σ : MS) (x1 : Int32) (x2 : Int32) (Post : Int32 → MS → Prop) : Prop := wpM_nothing σ x1 (fun σ1 => ∃ g, wpM_proofOf_7 Post g σ1 x1 x2 0)
set_option maxHeartbeats 1000000 in
set_option maxRecDepth 20000 in
theorem cM_proofOf {l : Launch} {D : va_G} {cy : Nat → ClassId} {q : Nat → Nat} {σ : MS} {sz : Nat} {x1 : Int32} {x2 : Int32} {Post : Int32 → MS → Prop} (hw : wpM_proofOf σ x1 x2 Post) : Met l yX11_proofOf (Cond.code yX11_proofOf cX11_proofOf 6 (some .int) :: wsA) rM_proofOf (xPc D cy (MW q cy σ) sz [.ref (q 0), .int x1, .int x2]) (va_Qi Post (xB D cy (MW q cy) (va_A (MW q cy σ) sz)) (va_A (MW q cy σ) sz)) 0 0 (va_A (MW q cy σ) sz) := by
  refine x_enter (own := RX11) (WW := MW q cy) (by decide) rfl (Nat.le_of_ble_eq_true rfl) ?_
  intro p e s m below meth c ls E h hl
  have hx := E.1
  have hb := E.2.1
  have hl : lv_has ls 6 [(0, .ref (q 0)), (1, .int x1), (2, .int x2)] := hl
  unfold wpM_proofOf at hw
  refine lv_aload_n hx hb dX11_proofOf_0 rfl (lv_at hl 0 rfl) ?_
  refine lv_iload_n hx hb dX11_proofOf_1 rfl (lv_at hl 1 rfl) ?_
  refine x_callv h (x_runV (WW := MW q cy) (rest := []) E h (cM_nothing hw) yyX11_nothing lX11_336 0 rfl rfl ⟨Nat.le_of_ble_eq_true rfl, Nat.le_of_ble_eq_true rfl⟩ rfl rfl hl.1 rfl (Nat.le_of_ble_eq_true rfl) dX11_proofOf_2 ⟨Nat.le_refl 0, Nat.le_refl 0⟩) (fun σ1 H locs hw h => ?_)
  refine lv_iconst (v := 0) hx hb dX11_proofOf_5 (by decide) ?_
  refine lv_istore_n (lv' := [(3, .int 0), (0, .ref (q 0)), (1, .int x1), (2, .int x2)]) hx hb dX11_proofOf_6 rfl hl (by decide) rfl (fun ls hl => ?_)
  obtain ⟨g, hw⟩ := hw
  exact wkM_proofOf_7 E g _ _ _ _ _ _ _ h hw (lv_sub hl [1, 2, 3, 0] rfl)

abbrev rM_effects : Room := { frames := 0, cells := 0, slots := 0, locals := 0 }
def wpM_effects_102 (K35 : MS → Int32 → Int32 → Int32 → Int32 → Prop) (Post : MS → Prop) (σ : MS) (x1 : Int32) (x2 : Int32) (x4 : Int32) : Prop := ∀ y1 : Int32, y1 = x4 + 1 → K35 σ x1 x2 x4 y1
set_option maxHeartbeats 1000000 in
set_option maxRecDepth 20000 in
theorem wkM_effects_102 {Post : MS → Prop} (E : xE cX11_effects RX11 5 none D cy p s m args meth c) {K35 : MS → Int32 → Int32 → Int32 → Int32 → Prop} (hK35 : ∀ (σ : MS) (x1 : Int32) (x2 : Int32) (x3 : Int32) (x4 : Int32) (H : Heap) (locs : List Loc) (ls : Array Slot), xH D A s (MW q cy σ) H locs → K35 σ x1 x2 x3 x4 → lv_has ls 5 [(0, .ref (q 0)), (1, .int x1), (2, .int x2), (3, .int x3), (4, .int x4)] → W p l e rM_effects s m args below meth c H locs 0 0 (MQ below (va_Qv Post (xB D cy (MW q cy) A) A) args s 0 0 A) (F0 m 35 ls [])) : ∀ (σ : MS) (x1 : Int32) (x2 : Int32) (x4 : Int32) (H : Heap) (locs : List Loc) (ls : Array Slot), xH D A s (MW q cy σ) H locs → wpM_effects_102 K35 Post σ x1 x2 x4 → lv_has ls 5 [(0, .ref (q 0)), (1, .int x1), (2, .int x2), (4, .int x4)] → W p l e rM_effects s m args below meth c H locs 0 0 (MQ below (va_Qv Post (xB D cy (MW q cy) A) A) args s 0 0 A) (F0 m 102 ls []) := by
  have hx := E.1
  have hb := E.2.1
  intro σ x1 x2 x4 H locs ls h hw hl
  unfold wpM_effects_102 at hw
  refine lv_iload hx hb dX11_effects_102 (lv_at hl 3 rfl) ?_
  refine lv_istore_n (lv' := [(3, .int x4), (0, .ref (q 0)), (1, .int x1), (2, .int x2), (4, .int x4)]) hx hb dX11_effects_104 rfl hl (by decide) rfl (fun ls hl => ?_)
  obtain ⟨y1, ey1⟩ : ∃ z : Int32, z = x4 + 1 := ⟨_, rfl⟩
  have hw := hw y1 ey1
  refine lv_iinc (v := y1) (lv' := [(4, .int y1), (3, .int x4), (0, .ref (q 0)), (1, .int x1), (2, .int x2)]) hx hb dX11_effects_105 hl (k := 4) rfl (by rw [ey1]; rfl) (by decide) rfl (fun ls hl => ?_)
  refine lv_goto (tgt := 35) hx hb dX11_effects_108 (by decide) ?_
  exact hK35 _ _ _ _ _ _ _ _ h hw (lv_sub hl [2, 3, 4, 1, 0] rfl)

def wpM_effects_65 (K35 : MS → Int32 → Int32 → Int32 → Int32 → Prop) (Post : MS → Prop) (σ : MS) (x1 : Int32) (x2 : Int32) (x3 : Int32) (x4 : Int32) : Prop := vp_in x4 200 ∧ vp_in x1 10 ∧ ((σ.2.1 41 x4.toNatClampNeg) = (σ.2.1 36 x1.toNatClampNeg) → (x3 = ((-1)) → wpM_effects_102 K35 Post σ x1 x2 x4) ∧ (¬ x3 = ((-1)) → vp_in x4 200 ∧ vp_in x3 200 ∧ ((σ.2.1 43 x3.toNatClampNeg) ≤ (σ.2.1 43 x4.toNatClampNeg) → ∀ y9 : Int32, y9 = x4 + 1 → K35 σ x1 x2 x3 y9) ∧ (¬ (σ.2.1 43 x3.toNatClampNeg) ≤ (σ.2.1 43 x4.toNatClampNeg) → wpM_effects_102 K35 Post σ x1 x2 x4))) ∧ (¬ (σ.2.1 41 x4.toNatClampNeg) = (σ.2.1 36 x1.toNatClampNeg) → ∀ y4 : Int32, y4 = x4 + 1 → K35 σ x1 x2 x3 y4)
set_option maxHeartbeats 1000000 in
set_option maxRecDepth 20000 in
theorem wkM_effects_65 {Post : MS → Prop} (E : xE cX11_effects RX11 5 none D cy p s m args meth c) {K35 : MS → Int32 → Int32 → Int32 → Int32 → Prop} (hK35 : ∀ (σ : MS) (x1 : Int32) (x2 : Int32) (x3 : Int32) (x4 : Int32) (H : Heap) (locs : List Loc) (ls : Array Slot), xH D A s (MW q cy σ) H locs → K35 σ x1 x2 x3 x4 → lv_has ls 5 [(0, .ref (q 0)), (1, .int x1), (2, .int x2), (3, .int x3), (4, .int x4)] → W p l e rM_effects s m args below meth c H locs 0 0 (MQ below (va_Qv Post (xB D cy (MW q cy) A) A) args s 0 0 A) (F0 m 35 ls [])) : ∀ (σ : MS) (x1 : Int32) (x2 : Int32) (x3 : Int32) (x4 : Int32) (H : Heap) (locs : List Loc) (ls : Array Slot), xH D A s (MW q cy σ) H locs → wpM_effects_65 K35 Post σ x1 x2 x3 x4 → lv_has ls 5 [(0, .ref (q 0)), (1, .int x1), (2, .int x2), (3, .int x3), (4, .int x4)] → W p l e rM_effects s m args below meth c H locs 0 0 (MQ below (va_Qv Post (xB D cy (MW q cy) A) A) args s 0 0 A) (F0 m 65 ls []) := by
  have hx := E.1
  have hb := E.2.1
  intro σ x1 x2 x3 x4 H locs ls h hw hl
  unfold wpM_effects_65 at hw
  refine lv_aload_n hx hb dX11_effects_65 rfl (lv_at hl 0 rfl) ?_
  refine gX11_140 E h dX11_effects_66 ?_
  refine lv_iload hx hb dX11_effects_69 (lv_at hl 4 rfl) ?_
  have h1 := hw.1
  have hw := hw.2
  refine aM_41 E h h1 dX11_effects_71 ?_
  refine lv_aload_n hx hb dX11_effects_72 rfl (lv_at hl 0 rfl) ?_
  refine gX11_125 E h dX11_effects_73 ?_
  refine lv_iload_n hx hb dX11_effects_76 rfl (lv_at hl 1 rfl) ?_
  have h2 := hw.1
  have hw := hw.2
  refine aM_36 E h h2 dX11_effects_77 ?_
  refine lv_icmp_ne (tgt := 105) hx hb dX11_effects_78 (by decide) (fun c3 => ?_) (fun c3 => ?_)
  · have hw := hw.2 c3
    obtain ⟨y4, ey4⟩ : ∃ z : Int32, z = x4 + 1 := ⟨_, rfl⟩
    have hw := hw y4 ey4
    refine lv_iinc (v := y4) (lv' := [(4, .int y4), (0, .ref (q 0)), (1, .int x1), (2, .int x2), (3, .int x3)]) hx hb dX11_effects_105 hl (k := 4) rfl (by rw [ey4]; rfl) (by decide) rfl (fun ls hl => ?_)
    refine lv_goto (tgt := 35) hx hb dX11_effects_108 (by decide) ?_
    exact hK35 _ _ _ _ _ _ _ _ h hw (lv_sub hl [1, 2, 3, 4, 0] rfl)
  · have hw := hw.1 c3
    refine lv_iload_n hx hb dX11_effects_81 rfl (lv_at hl 3 rfl) ?_
    refine lv_iconst (v := (-1)) hx hb dX11_effects_82 (by decide) ?_
    refine lv_icmp_eq (tgt := 102) hx hb dX11_effects_83 (by decide) (fun c5 => ?_) (fun c5 => ?_)
    · have hw := hw.1 c5
      exact wkM_effects_102 E hK35 _ _ _ _ _ _ _ h hw (lv_sub hl [0, 1, 2, 4] rfl)
    · have hw := hw.2 c5
      refine lv_aload_n hx hb dX11_effects_86 rfl (lv_at hl 0 rfl) ?_
      refine gX11_146 E h dX11_effects_87 ?_
      refine lv_iload hx hb dX11_effects_90 (lv_at hl 4 rfl) ?_
      have h6 := hw.1
      have hw := hw.2
      refine aM_43 E h h6 dX11_effects_92 ?_
      refine lv_aload_n hx hb dX11_effects_93 rfl (lv_at hl 0 rfl) ?_
      refine gX11_146 E h dX11_effects_94 ?_
      refine lv_iload_n hx hb dX11_effects_97 rfl (lv_at hl 3 rfl) ?_
      have h7 := hw.1
      have hw := hw.2
      refine aM_43 E h h7 dX11_effects_98 ?_
      refine lv_icmp_ge (tgt := 105) hx hb dX11_effects_99 (by decide) (fun c8 => ?_) (fun c8 => ?_)
      · have hw := hw.1 c8
        obtain ⟨y9, ey9⟩ : ∃ z : Int32, z = x4 + 1 := ⟨_, rfl⟩
        have hw := hw y9 ey9
        refine lv_iinc (v := y9) (lv' := [(4, .int y9), (0, .ref (q 0)), (1, .int x1), (2, .int x2), (3, .int x3)]) hx hb dX11_effects_105 hl (k := 4) rfl (by rw [ey9]; rfl) (by decide) rfl (fun ls hl => ?_)
        refine lv_goto (tgt := 35) hx hb dX11_effects_108 (by decide) ?_
        exact hK35 _ _ _ _ _ _ _ _ h hw (lv_sub hl [1, 2, 3, 4, 0] rfl)
      · have hw := hw.2 c8
        exact wkM_effects_102 E hK35 _ _ _ _ _ _ _ h hw (lv_sub hl [0, 1, 2, 4] rfl)

def wpM_effects_141 (Post : MS → Prop) (σ : MS) (x1 : Int32) (x3 : Int32) (t1 : Int32) (t2 : Int32) : Prop := vp_in t1 10 ∧ ∀ σ1 : MS, σ1 = mA σ 48 (upd (σ.2.1 48) t1.toNatClampNeg t2) → (x3 = ((-1)) → vp_in x1 10 ∧ ∀ σ10 : MS, σ10 = mA σ1 47 (upd (σ1.2.1 47) x1.toNatClampNeg 1000000) → Post σ10) ∧ (¬ x3 = ((-1)) → vp_in x3 200 ∧ vp_in x1 10 ∧ ((σ1.2.1 43 x3.toNatClampNeg) ≤ (σ1.2.1 34 x1.toNatClampNeg) → Post σ1) ∧ (¬ (σ1.2.1 43 x3.toNatClampNeg) ≤ (σ1.2.1 34 x1.toNatClampNeg) → vp_in x3 200 ∧ vp_in x1 10 ∧ ∀ σ8 : MS, σ8 = mA σ1 47 (upd (σ1.2.1 47) x1.toNatClampNeg (σ1.2.1 43 x3.toNatClampNeg)) → Post σ8))
set_option maxHeartbeats 1000000 in
set_option maxRecDepth 20000 in
theorem wkM_effects_141 {Post : MS → Prop} (E : xE cX11_effects RX11 5 none D cy p s m args meth c) : ∀ (σ : MS) (x1 : Int32) (x3 : Int32) (t1 : Int32) (t2 : Int32) (H : Heap) (locs : List Loc) (ls : Array Slot), xH D A s (MW q cy σ) H locs → wpM_effects_141 Post σ x1 x3 t1 t2 → lv_has ls 5 [(0, .ref (q 0)), (1, .int x1), (3, .int x3)] → W p l e rM_effects s m args below meth c H locs 0 0 (MQ below (va_Qv Post (xB D cy (MW q cy) A) A) args s 0 0 A) (F0 m 141 ls [.int t2, .int t1, .ref (q 48)]) := by
  have hx := E.1
  have hb := E.2.1
  intro σ x1 x3 t1 t2 H locs ls h hw hl
  unfold wpM_effects_141 at hw
  have h2 := hw.1
  have hw := hw.2
  refine sM_48 E h h2 dX11_effects_141 (fun σ1 H locs eσ1 h => ?_)
  have hw := hw σ1 eσ1
  refine lv_iload_n hx hb dX11_effects_142 rfl (lv_at hl 2 rfl) ?_
  refine lv_iconst (v := (-1)) hx hb dX11_effects_143 (by decide) ?_
  refine lv_icmp_ne (tgt := 159) hx hb dX11_effects_144 (by decide) (fun c3 => ?_) (fun c3 => ?_)
  · have hw := hw.2 c3
    refine lv_aload_n hx hb dX11_effects_159 rfl (lv_at hl 0 rfl) ?_
    refine gX11_146 E h dX11_effects_160 ?_
    refine lv_iload_n hx hb dX11_effects_163 rfl (lv_at hl 2 rfl) ?_
    have h4 := hw.1
    have hw := hw.2
    refine aM_43 E h h4 dX11_effects_164 ?_
    refine lv_aload_n hx hb dX11_effects_165 rfl (lv_at hl 0 rfl) ?_
    refine gX11_119 E h dX11_effects_166 ?_
    refine lv_iload_n hx hb dX11_effects_169 rfl (lv_at hl 1 rfl) ?_
    have h5 := hw.1
    have hw := hw.2
    refine aM_34 E h h5 dX11_effects_170 ?_
    refine lv_icmp_le (tgt := 186) hx hb dX11_effects_171 (by decide) (fun c6 => ?_) (fun c6 => ?_)
    · have hw := hw.1 c6
      exact x_vret E h hw dX11_effects_186
    · have hw := hw.2 c6
      refine lv_aload_n hx hb dX11_effects_174 rfl (lv_at hl 0 rfl) ?_
      refine gX11_161 E h dX11_effects_175 ?_
      refine lv_iload_n hx hb dX11_effects_178 rfl (lv_at hl 1 rfl) ?_
      refine lv_aload_n hx hb dX11_effects_179 rfl (lv_at hl 0 rfl) ?_
      refine gX11_146 E h dX11_effects_180 ?_
      refine lv_iload_n hx hb dX11_effects_183 rfl (lv_at hl 2 rfl) ?_
      have h7 := hw.1
      have hw := hw.2
      refine aM_43 E h h7 dX11_effects_184 ?_
      have h9 := hw.1
      have hw := hw.2
      refine sM_47 E h h9 dX11_effects_185 (fun σ8 H locs eσ8 h => ?_)
      have hw := hw σ8 eσ8
      exact x_vret E h hw dX11_effects_186
  · have hw := hw.1 c3
    refine lv_aload_n hx hb dX11_effects_147 rfl (lv_at hl 0 rfl) ?_
    refine gX11_161 E h dX11_effects_148 ?_
    refine lv_iload_n hx hb dX11_effects_151 rfl (lv_at hl 1 rfl) ?_
    refine lv_ldcw (own := RX11) (v := 1000000) hx hb E.2.2.2.1 (E.2.2.2.2.1 _ kX11_345) dX11_effects_152 ?_
    have h11 := hw.1
    have hw := hw.2
    refine sM_47 E h h11 dX11_effects_155 (fun σ10 H locs eσ10 h => ?_)
    have hw := hw σ10 eσ10
    refine lv_goto (tgt := 186) hx hb dX11_effects_156 (by decide) ?_
    exact x_vret E h hw dX11_effects_186

def wpM_effects_35 (Post : MS → Prop) : Nat → MS → Int32 → Int32 → Int32 → Int32 → Prop
  | 0, _, _, _, _, _ => False
  | n + 1, σ, x1, x2, x3, x4 => (x2 ≤ x4 → (x3 = ((-1)) → wpM_effects_141 Post σ x1 x3 x1 0) ∧ (¬ x3 = ((-1)) → vp_in x3 200 ∧ ((σ.2.1 40 x3.toNatClampNeg) = 7 → wpM_effects_141 Post σ x1 x3 x1 1) ∧ (¬ (σ.2.1 40 x3.toNatClampNeg) = 7 → wpM_effects_141 Post σ x1 x3 x1 2))) ∧ (¬ x2 ≤ x4 → vp_in x4 200 ∧ ((σ.2.1 40 x4.toNatClampNeg) = 7 → wpM_effects_65 (fun a0 a1 a2 a3 a4 => wpM_effects_35 Post n a0 a1 a2 a3 a4) Post σ x1 x2 x3 x4) ∧ (¬ (σ.2.1 40 x4.toNatClampNeg) = 7 → vp_in x4 200 ∧ ((σ.2.1 40 x4.toNatClampNeg) = 8 → wpM_effects_65 (fun a0 a1 a2 a3 a4 => wpM_effects_35 Post n a0 a1 a2 a3 a4) Post σ x1 x2 x3 x4) ∧ (¬ (σ.2.1 40 x4.toNatClampNeg) = 8 → ∀ y9 : Int32, y9 = x4 + 1 → wpM_effects_35 Post n σ x1 x2 x3 y9)))
set_option maxHeartbeats 1000000 in
set_option maxRecDepth 20000 in
theorem wkM_effects_35 {Post : MS → Prop} (E : xE cX11_effects RX11 5 none D cy p s m args meth c) : ∀ n : Nat, ∀ (σ : MS) (x1 : Int32) (x2 : Int32) (x3 : Int32) (x4 : Int32) (H : Heap) (locs : List Loc) (ls : Array Slot), xH D A s (MW q cy σ) H locs → wpM_effects_35 Post n σ x1 x2 x3 x4 → lv_has ls 5 [(0, .ref (q 0)), (1, .int x1), (2, .int x2), (3, .int x3), (4, .int x4)] → W p l e rM_effects s m args below meth c H locs 0 0 (MQ below (va_Qv Post (xB D cy (MW q cy) A) A) args s 0 0 A) (F0 m 35 ls []) := by
  have hx := E.1
  have hb := E.2.1
  intro n
  induction n with
  | zero => intro σ x1 x2 x3 x4 H locs ls h hw hl; exact False.elim hw
  | succ n ih =>
    intro σ x1 x2 x3 x4 H locs ls h hw hl
    refine lv_iload hx hb dX11_effects_35 (lv_at hl 4 rfl) ?_
    refine lv_iload_n hx hb dX11_effects_37 rfl (lv_at hl 2 rfl) ?_
    refine lv_icmp_ge (tgt := 111) hx hb dX11_effects_38 (by decide) (fun c1 => ?_) (fun c1 => ?_)
    · have hw := hw.1 c1
      refine lv_aload_n hx hb dX11_effects_111 rfl (lv_at hl 0 rfl) ?_
      refine gX11_164 E h dX11_effects_112 ?_
      refine lv_iload_n hx hb dX11_effects_115 rfl (lv_at hl 1 rfl) ?_
      refine lv_iload_n hx hb dX11_effects_116 rfl (lv_at hl 3 rfl) ?_
      refine lv_iconst (v := (-1)) hx hb dX11_effects_117 (by decide) ?_
      refine lv_icmp_ne (tgt := 125) hx hb dX11_effects_118 (by decide) (fun c2 => ?_) (fun c2 => ?_)
      · have hw := hw.2 c2
        refine lv_aload_n hx hb dX11_effects_125 rfl (lv_at hl 0 rfl) ?_
        refine gX11_137 E h dX11_effects_126 ?_
        refine lv_iload_n hx hb dX11_effects_129 rfl (lv_at hl 3 rfl) ?_
        have h3 := hw.1
        have hw := hw.2
        refine aM_40 E h h3 dX11_effects_130 ?_
        refine lv_bipush (v := 7) hx hb dX11_effects_131 (by decide) ?_
        refine lv_icmp_ne (tgt := 140) hx hb dX11_effects_133 (by decide) (fun c4 => ?_) (fun c4 => ?_)
        · have hw := hw.2 c4
          refine lv_iconst (v := 2) hx hb dX11_effects_140 (by decide) ?_
          exact wkM_effects_141 E _ _ _ _ _ _ _ _ h hw (lv_sub hl [0, 1, 3] rfl)
        · have hw := hw.1 c4
          refine lv_iconst (v := 1) hx hb dX11_effects_136 (by decide) ?_
          refine lv_goto (tgt := 141) hx hb dX11_effects_137 (by decide) ?_
          exact wkM_effects_141 E _ _ _ _ _ _ _ _ h hw (lv_sub hl [0, 1, 3] rfl)
      · have hw := hw.1 c2
        refine lv_iconst (v := 0) hx hb dX11_effects_121 (by decide) ?_
        refine lv_goto (tgt := 141) hx hb dX11_effects_122 (by decide) ?_
        exact wkM_effects_141 E _ _ _ _ _ _ _ _ h hw (lv_sub hl [0, 1, 3] rfl)
    · have hw := hw.2 c1
      refine lv_aload_n hx hb dX11_effects_41 rfl (lv_at hl 0 rfl) ?_
      refine gX11_137 E h dX11_effects_42 ?_
      refine lv_iload hx hb dX11_effects_45 (lv_at hl 4 rfl) ?_
      have h5 := hw.1
      have hw := hw.2
      refine aM_40 E h h5 dX11_effects_47 ?_
      refine lv_bipush (v := 7) hx hb dX11_effects_48 (by decide) ?_
      refine lv_icmp_eq (tgt := 65) hx hb dX11_effects_50 (by decide) (fun c6 => ?_) (fun c6 => ?_)
      · have hw := hw.1 c6
        exact wkM_effects_65 E ih _ _ _ _ _ _ _ _ h hw (lv_sub hl [0, 1, 2, 3, 4] rfl)
      · have hw := hw.2 c6
        refine lv_aload_n hx hb dX11_effects_53 rfl (lv_at hl 0 rfl) ?_
        refine gX11_137 E h dX11_effects_54 ?_
        refine lv_iload hx hb dX11_effects_57 (lv_at hl 4 rfl) ?_
        have h7 := hw.1
        have hw := hw.2
        refine aM_40 E h h7 dX11_effects_59 ?_
        refine lv_bipush (v := 8) hx hb dX11_effects_60 (by decide) ?_
        refine lv_icmp_ne (tgt := 105) hx hb dX11_effects_62 (by decide) (fun c8 => ?_) (fun c8 => ?_)
        · have hw := hw.2 c8
          obtain ⟨y9, ey9⟩ : ∃ z : Int32, z = x4 + 1 := ⟨_, rfl⟩
          have hw := hw y9 ey9
          refine lv_iinc (v := y9) (lv' := [(4, .int y9), (0, .ref (q 0)), (1, .int x1), (2, .int x2), (3, .int x3)]) hx hb dX11_effects_105 hl (k := 4) rfl (by rw [ey9]; rfl) (by decide) rfl (fun ls hl => ?_)
          refine lv_goto (tgt := 35) hx hb dX11_effects_108 (by decide) ?_
          exact ih _ _ _ _ _ _ _ _ h hw (lv_sub hl [1, 2, 3, 4, 0] rfl)
        · have hw := hw.1 c8
          exact wkM_effects_65 E ih _ _ _ _ _ _ _ _ h hw (lv_sub hl [0, 1, 2, 3, 4] rfl)

def wpM_effects (σ : MS) (x1 : Int32) (x2 : Int32) (Post : MS → Prop) : Prop := vp_in x1 10 ∧ vp_in x1 10 ∧ ∀ σ2 : MS, σ2 = mA σ 47 (upd (σ.2.1 47) x1.toNatClampNeg (σ.2.1 34 x1.toNatClampNeg)) → vp_in x1 10 ∧ ∀ σ4 : MS, σ4 = mA σ2 48 (upd (σ2.2.1 48) x1.toNatClampNeg 1) → vp_in x1 10 ∧ ((σ4.2.1 36 x1.toNatClampNeg) = ((-1)) → Post σ4) ∧ (¬ (σ4.2.1 36 x1.toNatClampNeg) = ((-1)) → ∃ g, wpM_effects_35 Post g σ4 x1 x2 ((-1)) 0)
set_option maxHeartbeats 1000000 in
set_option maxRecDepth 20000 in
theorem cM_effects {l : Launch} {D : va_G} {cy : Nat → ClassId} {q : Nat → Nat} {σ : MS} {sz : Nat} {x1 : Int32} {x2 : Int32} {Post : MS → Prop} (hw : wpM_effects σ x1 x2 Post) : Met l yX11_effects (Cond.code yX11_effects cX11_effects 5 none :: wsA) rM_effects (xPc D cy (MW q cy σ) sz [.ref (q 0), .int x1, .int x2]) (va_Qv Post (xB D cy (MW q cy) (va_A (MW q cy σ) sz)) (va_A (MW q cy σ) sz)) 0 0 (va_A (MW q cy σ) sz) := by
  refine x_enter (own := RX11) (WW := MW q cy) (by decide) rfl (Nat.le_of_ble_eq_true rfl) ?_
  intro p e s m below meth c ls E h hl
  have hx := E.1
  have hb := E.2.1
  have hl : lv_has ls 5 [(0, .ref (q 0)), (1, .int x1), (2, .int x2)] := hl
  unfold wpM_effects at hw
  refine lv_aload_n hx hb dX11_effects_0 rfl (lv_at hl 0 rfl) ?_
  refine gX11_161 E h dX11_effects_1 ?_
  refine lv_iload_n hx hb dX11_effects_4 rfl (lv_at hl 1 rfl) ?_
  refine lv_aload_n hx hb dX11_effects_5 rfl (lv_at hl 0 rfl) ?_
  refine gX11_119 E h dX11_effects_6 ?_
  refine lv_iload_n hx hb dX11_effects_9 rfl (lv_at hl 1 rfl) ?_
  have h1 := hw.1
  have hw := hw.2
  refine aM_34 E h h1 dX11_effects_10 ?_
  have h3 := hw.1
  have hw := hw.2
  refine sM_47 E h h3 dX11_effects_11 (fun σ2 H locs eσ2 h => ?_)
  have hw := hw σ2 eσ2
  refine lv_aload_n hx hb dX11_effects_12 rfl (lv_at hl 0 rfl) ?_
  refine gX11_164 E h dX11_effects_13 ?_
  refine lv_iload_n hx hb dX11_effects_16 rfl (lv_at hl 1 rfl) ?_
  refine lv_iconst (v := 1) hx hb dX11_effects_17 (by decide) ?_
  have h5 := hw.1
  have hw := hw.2
  refine sM_48 E h h5 dX11_effects_18 (fun σ4 H locs eσ4 h => ?_)
  have hw := hw σ4 eσ4
  refine lv_aload_n hx hb dX11_effects_19 rfl (lv_at hl 0 rfl) ?_
  refine gX11_125 E h dX11_effects_20 ?_
  refine lv_iload_n hx hb dX11_effects_23 rfl (lv_at hl 1 rfl) ?_
  have h6 := hw.1
  have hw := hw.2
  refine aM_36 E h h6 dX11_effects_24 ?_
  refine lv_iconst (v := (-1)) hx hb dX11_effects_25 (by decide) ?_
  refine lv_icmp_ne (tgt := 30) hx hb dX11_effects_26 (by decide) (fun c7 => ?_) (fun c7 => ?_)
  · have hw := hw.2 c7
    refine lv_iconst (v := (-1)) hx hb dX11_effects_30 (by decide) ?_
    refine lv_istore_n (lv' := [(3, .int ((-1))), (0, .ref (q 0)), (1, .int x1), (2, .int x2)]) hx hb dX11_effects_31 rfl hl (by decide) rfl (fun ls hl => ?_)
    refine lv_iconst (v := 0) hx hb dX11_effects_32 (by decide) ?_
    refine lv_istore (lv' := [(4, .int 0), (3, .int ((-1))), (0, .ref (q 0)), (1, .int x1), (2, .int x2)]) hx hb dX11_effects_33 hl (by decide) rfl (fun ls hl => ?_)
    obtain ⟨g, hw⟩ := hw
    exact wkM_effects_35 E g _ _ _ _ _ _ _ _ h hw (lv_sub hl [2, 3, 4, 1, 0] rfl)
  · have hw := hw.1 c7
    exact x_vret E h hw dX11_effects_29

abbrev rM_fateOf : Room := { frames := 0, cells := 0, slots := 0, locals := 0 }
def wpM_fateOf_57 (K8 : MS → Int32 → Int32 → Int32 → Int32 → Int32 → Prop) (Post : Int32 → MS → Prop) (σ : MS) (x1 : Int32) (x2 : Int32) (x3 : Int32) (x4 : Int32) (x5 : Int32) : Prop := vp_in x5 200 ∧ (x4 ≤ (σ.2.1 43 x5.toNatClampNeg) → ∀ y3 : Int32, y3 = x5 + 1 → K8 σ x1 x2 x3 x4 y3) ∧ (¬ x4 ≤ (σ.2.1 43 x5.toNatClampNeg) → vp_in x5 200 ∧ ∀ y5 : Int32, y5 = σ.2.1 43 x5.toNatClampNeg → ∀ y6 : Int32, y6 = x5 + 1 → K8 σ x1 x2 x3 y5 y6)
set_option maxHeartbeats 1000000 in
set_option maxRecDepth 20000 in
theorem wkM_fateOf_57 {Post : Int32 → MS → Prop} (E : xE cX11_fateOf RX11 6 (some .int) D cy p s m args meth c) {K8 : MS → Int32 → Int32 → Int32 → Int32 → Int32 → Prop} (hK8 : ∀ (σ : MS) (x1 : Int32) (x2 : Int32) (x3 : Int32) (x4 : Int32) (x5 : Int32) (H : Heap) (locs : List Loc) (ls : Array Slot), xH D A s (MW q cy σ) H locs → K8 σ x1 x2 x3 x4 x5 → lv_has ls 6 [(0, .ref (q 0)), (1, .int x1), (2, .int x2), (3, .int x3), (4, .int x4), (5, .int x5)] → W p l e rM_fateOf s m args below meth c H locs 0 0 (MQ below (va_Qi Post (xB D cy (MW q cy) A) A) args s 0 0 A) (F0 m 8 ls [])) : ∀ (σ : MS) (x1 : Int32) (x2 : Int32) (x3 : Int32) (x4 : Int32) (x5 : Int32) (H : Heap) (locs : List Loc) (ls : Array Slot), xH D A s (MW q cy σ) H locs → wpM_fateOf_57 K8 Post σ x1 x2 x3 x4 x5 → lv_has ls 6 [(0, .ref (q 0)), (1, .int x1), (2, .int x2), (3, .int x3), (4, .int x4), (5, .int x5)] → W p l e rM_fateOf s m args below meth c H locs 0 0 (MQ below (va_Qi Post (xB D cy (MW q cy) A) A) args s 0 0 A) (F0 m 57 ls []) := by
  have hx := E.1
  have hb := E.2.1
  intro σ x1 x2 x3 x4 x5 H locs ls h hw hl
  unfold wpM_fateOf_57 at hw
  refine lv_aload_n hx hb dX11_fateOf_57 rfl (lv_at hl 0 rfl) ?_
  refine gX11_146 E h dX11_fateOf_58 ?_
  refine lv_iload hx hb dX11_fateOf_61 (lv_at hl 5 rfl) ?_
  have h1 := hw.1
  have hw := hw.2
  refine aM_43 E h h1 dX11_fateOf_63 ?_
  refine lv_iload hx hb dX11_fateOf_64 (lv_at hl 4 rfl) ?_
  refine lv_icmp_ge (tgt := 78) hx hb dX11_fateOf_66 (by decide) (fun c2 => ?_) (fun c2 => ?_)
  · have hw := hw.1 c2
    obtain ⟨y3, ey3⟩ : ∃ z : Int32, z = x5 + 1 := ⟨_, rfl⟩
    have hw := hw y3 ey3
    refine lv_iinc (v := y3) (lv' := [(5, .int y3), (0, .ref (q 0)), (1, .int x1), (2, .int x2), (3, .int x3), (4, .int x4)]) hx hb dX11_fateOf_78 hl (k := 5) rfl (by rw [ey3]; rfl) (by decide) rfl (fun ls hl => ?_)
    refine lv_goto (tgt := 8) hx hb dX11_fateOf_81 (by decide) ?_
    exact hK8 _ _ _ _ _ _ _ _ _ h hw (lv_sub hl [1, 2, 3, 4, 5, 0] rfl)
  · have hw := hw.2 c2
    refine lv_aload_n hx hb dX11_fateOf_69 rfl (lv_at hl 0 rfl) ?_
    refine gX11_146 E h dX11_fateOf_70 ?_
    refine lv_iload hx hb dX11_fateOf_73 (lv_at hl 5 rfl) ?_
    have h4 := hw.1
    have hw := hw.2
    refine aM_43 E h h4 dX11_fateOf_75 ?_
    refine lv_topi (fun y5 ey5 => ?_)
    have hw := hw y5 ey5
    refine lv_istore (lv' := [(4, .int y5), (0, .ref (q 0)), (1, .int x1), (2, .int x2), (3, .int x3), (5, .int x5)]) hx hb dX11_fateOf_76 hl (by decide) rfl (fun ls hl => ?_)
    obtain ⟨y6, ey6⟩ : ∃ z : Int32, z = x5 + 1 := ⟨_, rfl⟩
    have hw := hw y6 ey6
    refine lv_iinc (v := y6) (lv' := [(5, .int y6), (4, .int y5), (0, .ref (q 0)), (1, .int x1), (2, .int x2), (3, .int x3)]) hx hb dX11_fateOf_78 hl (k := 5) rfl (by rw [ey6]; rfl) (by decide) rfl (fun ls hl => ?_)
    refine lv_goto (tgt := 8) hx hb dX11_fateOf_81 (by decide) ?_
    exact hK8 _ _ _ _ _ _ _ _ _ h hw (lv_sub hl [2, 3, 4, 5, 1, 0] rfl)

def wpM_fateOf_8 (Post : Int32 → MS → Prop) : Nat → MS → Int32 → Int32 → Int32 → Int32 → Int32 → Prop
  | 0, _, _, _, _, _, _ => False
  | n + 1, σ, x1, x2, x3, x4, x5 => (x3 ≤ x5 → Post x4 σ) ∧ (¬ x3 ≤ x5 → vp_in x5 200 ∧ ((σ.2.1 40 x5.toNatClampNeg) = x2 → vp_in x5 200 ∧ vp_in x1 10 ∧ ((σ.2.1 41 x5.toNatClampNeg) = (σ.2.1 31 x1.toNatClampNeg) → wpM_fateOf_57 (fun a0 a1 a2 a3 a4 a5 => wpM_fateOf_8 Post n a0 a1 a2 a3 a4 a5) Post σ x1 x2 x3 x4 x5) ∧ (¬ (σ.2.1 41 x5.toNatClampNeg) = (σ.2.1 31 x1.toNatClampNeg) → vp_in x5 200 ∧ vp_in x1 10 ∧ ((σ.2.1 41 x5.toNatClampNeg) = (σ.2.1 32 x1.toNatClampNeg) → wpM_fateOf_57 (fun a0 a1 a2 a3 a4 a5 => wpM_fateOf_8 Post n a0 a1 a2 a3 a4 a5) Post σ x1 x2 x3 x4 x5) ∧ (¬ (σ.2.1 41 x5.toNatClampNeg) = (σ.2.1 32 x1.toNatClampNeg) → ∀ y11 : Int32, y11 = x5 + 1 → wpM_fateOf_8 Post n σ x1 x2 x3 x4 y11))) ∧ (¬ (σ.2.1 40 x5.toNatClampNeg) = x2 → ∀ y4 : Int32, y4 = x5 + 1 → wpM_fateOf_8 Post n σ x1 x2 x3 x4 y4))
set_option maxHeartbeats 1000000 in
set_option maxRecDepth 20000 in
theorem wkM_fateOf_8 {Post : Int32 → MS → Prop} (E : xE cX11_fateOf RX11 6 (some .int) D cy p s m args meth c) : ∀ n : Nat, ∀ (σ : MS) (x1 : Int32) (x2 : Int32) (x3 : Int32) (x4 : Int32) (x5 : Int32) (H : Heap) (locs : List Loc) (ls : Array Slot), xH D A s (MW q cy σ) H locs → wpM_fateOf_8 Post n σ x1 x2 x3 x4 x5 → lv_has ls 6 [(0, .ref (q 0)), (1, .int x1), (2, .int x2), (3, .int x3), (4, .int x4), (5, .int x5)] → W p l e rM_fateOf s m args below meth c H locs 0 0 (MQ below (va_Qi Post (xB D cy (MW q cy) A) A) args s 0 0 A) (F0 m 8 ls []) := by
  have hx := E.1
  have hb := E.2.1
  intro n
  induction n with
  | zero => intro σ x1 x2 x3 x4 x5 H locs ls h hw hl; exact False.elim hw
  | succ n ih =>
    intro σ x1 x2 x3 x4 x5 H locs ls h hw hl
    refine lv_iload hx hb dX11_fateOf_8 (lv_at hl 5 rfl) ?_
    refine lv_iload_n hx hb dX11_fateOf_10 rfl (lv_at hl 3 rfl) ?_
    refine lv_icmp_ge (tgt := 84) hx hb dX11_fateOf_11 (by decide) (fun c1 => ?_) (fun c1 => ?_)
    · have hw := hw.1 c1
      refine lv_iload hx hb dX11_fateOf_84 (lv_at hl 4 rfl) ?_
      exact x_iret E h hw dX11_fateOf_86
    · have hw := hw.2 c1
      refine lv_aload_n hx hb dX11_fateOf_14 rfl (lv_at hl 0 rfl) ?_
      refine gX11_137 E h dX11_fateOf_15 ?_
      refine lv_iload hx hb dX11_fateOf_18 (lv_at hl 5 rfl) ?_
      have h2 := hw.1
      have hw := hw.2
      refine aM_40 E h h2 dX11_fateOf_20 ?_
      refine lv_iload_n hx hb dX11_fateOf_21 rfl (lv_at hl 2 rfl) ?_
      refine lv_icmp_ne (tgt := 78) hx hb dX11_fateOf_22 (by decide) (fun c3 => ?_) (fun c3 => ?_)
      · have hw := hw.2 c3
        obtain ⟨y4, ey4⟩ : ∃ z : Int32, z = x5 + 1 := ⟨_, rfl⟩
        have hw := hw y4 ey4
        refine lv_iinc (v := y4) (lv' := [(5, .int y4), (0, .ref (q 0)), (1, .int x1), (2, .int x2), (3, .int x3), (4, .int x4)]) hx hb dX11_fateOf_78 hl (k := 5) rfl (by rw [ey4]; rfl) (by decide) rfl (fun ls hl => ?_)
        refine lv_goto (tgt := 8) hx hb dX11_fateOf_81 (by decide) ?_
        exact ih _ _ _ _ _ _ _ _ _ h hw (lv_sub hl [1, 2, 3, 4, 5, 0] rfl)
      · have hw := hw.1 c3
        refine lv_aload_n hx hb dX11_fateOf_25 rfl (lv_at hl 0 rfl) ?_
        refine gX11_140 E h dX11_fateOf_26 ?_
        refine lv_iload hx hb dX11_fateOf_29 (lv_at hl 5 rfl) ?_
        have h5 := hw.1
        have hw := hw.2
        refine aM_41 E h h5 dX11_fateOf_31 ?_
        refine lv_aload_n hx hb dX11_fateOf_32 rfl (lv_at hl 0 rfl) ?_
        refine gX11_110 E h dX11_fateOf_33 ?_
        refine lv_iload_n hx hb dX11_fateOf_36 rfl (lv_at hl 1 rfl) ?_
        have h6 := hw.1
        have hw := hw.2
        refine aM_31 E h h6 dX11_fateOf_37 ?_
        refine lv_icmp_eq (tgt := 57) hx hb dX11_fateOf_38 (by decide) (fun c7 => ?_) (fun c7 => ?_)
        · have hw := hw.1 c7
          exact wkM_fateOf_57 E ih _ _ _ _ _ _ _ _ _ h hw (lv_sub hl [0, 1, 2, 3, 4, 5] rfl)
        · have hw := hw.2 c7
          refine lv_aload_n hx hb dX11_fateOf_41 rfl (lv_at hl 0 rfl) ?_
          refine gX11_140 E h dX11_fateOf_42 ?_
          refine lv_iload hx hb dX11_fateOf_45 (lv_at hl 5 rfl) ?_
          have h8 := hw.1
          have hw := hw.2
          refine aM_41 E h h8 dX11_fateOf_47 ?_
          refine lv_aload_n hx hb dX11_fateOf_48 rfl (lv_at hl 0 rfl) ?_
          refine gX11_113 E h dX11_fateOf_49 ?_
          refine lv_iload_n hx hb dX11_fateOf_52 rfl (lv_at hl 1 rfl) ?_
          have h9 := hw.1
          have hw := hw.2
          refine aM_32 E h h9 dX11_fateOf_53 ?_
          refine lv_icmp_ne (tgt := 78) hx hb dX11_fateOf_54 (by decide) (fun c10 => ?_) (fun c10 => ?_)
          · have hw := hw.2 c10
            obtain ⟨y11, ey11⟩ : ∃ z : Int32, z = x5 + 1 := ⟨_, rfl⟩
            have hw := hw y11 ey11
            refine lv_iinc (v := y11) (lv' := [(5, .int y11), (0, .ref (q 0)), (1, .int x1), (2, .int x2), (3, .int x3), (4, .int x4)]) hx hb dX11_fateOf_78 hl (k := 5) rfl (by rw [ey11]; rfl) (by decide) rfl (fun ls hl => ?_)
            refine lv_goto (tgt := 8) hx hb dX11_fateOf_81 (by decide) ?_
            exact ih _ _ _ _ _ _ _ _ _ h hw (lv_sub hl [1, 2, 3, 4, 5, 0] rfl)
          · have hw := hw.1 c10
            exact wkM_fateOf_57 E ih _ _ _ _ _ _ _ _ _ h hw (lv_sub hl [0, 1, 2, 3, 4, 5] rfl)

def wpM_fateOf (σ : MS) (x1 : Int32) (x2 : Int32) (x3 : Int32) (Post : Int32 → MS → Prop) : Prop := ∃ g, wpM_fateOf_8 Post g σ x1 x2 x3 1000000 0
set_option maxHeartbeats 1000000 in
set_option maxRecDepth 20000 in
theorem cM_fateOf {l : Launch} {D : va_G} {cy : Nat → ClassId} {q : Nat → Nat} {σ : MS} {sz : Nat} {x1 : Int32} {x2 : Int32} {x3 : Int32} {Post : Int32 → MS → Prop} (hw : wpM_fateOf σ x1 x2 x3 Post) : Met l yX11_fateOf (Cond.code yX11_fateOf cX11_fateOf 6 (some .int) :: wsA) rM_fateOf (xPc D cy (MW q cy σ) sz [.ref (q 0), .int x1, .int x2, .int x3]) (va_Qi Post (xB D cy (MW q cy) (va_A (MW q cy σ) sz)) (va_A (MW q cy σ) sz)) 0 0 (va_A (MW q cy σ) sz) := by
  refine x_enter (own := RX11) (WW := MW q cy) (by decide) rfl (Nat.le_of_ble_eq_true rfl) ?_
  intro p e s m below meth c ls E h hl
  have hx := E.1
  have hb := E.2.1
  have hl : lv_has ls 6 [(0, .ref (q 0)), (1, .int x1), (2, .int x2), (3, .int x3)] := hl
  unfold wpM_fateOf at hw
  refine lv_ldcw (own := RX11) (v := 1000000) hx hb E.2.2.2.1 (E.2.2.2.2.1 _ kX11_345) dX11_fateOf_0 ?_
  refine lv_istore (lv' := [(4, .int 1000000), (0, .ref (q 0)), (1, .int x1), (2, .int x2), (3, .int x3)]) hx hb dX11_fateOf_3 hl (by decide) rfl (fun ls hl => ?_)
  refine lv_iconst (v := 0) hx hb dX11_fateOf_5 (by decide) ?_
  refine lv_istore (lv' := [(5, .int 0), (4, .int 1000000), (0, .ref (q 0)), (1, .int x1), (2, .int x2), (3, .int x3)]) hx hb dX11_fateOf_6 hl (by decide) rfl (fun ls hl => ?_)
  obtain ⟨g, hw⟩ := hw
  exact wkM_fateOf_8 E g _ _ _ _ _ _ _ _ _ h hw (lv_sub hl [2, 3, 4, 5, 1, 0] rfl)

abbrev rM_lapseOf : Room := { frames := 1, cells := 0, slots := 0, locals := 23 }
def wpM_lapseOf_198 (K88 : MS → Int32 → Int32 → Int32 → Int32 → Int32 → Prop) (Post : Int32 → MS → Prop) : Nat → MS → Int32 → Int32 → Int32 → Int32 → Int32 → Int32 → Int32 → Int32 → Prop
  | 0, _, _, _, _, _, _, _, _, _ => False
  | n + 1, σ, x1, x2, x4, x5, x6, x7, x8, x9 => (x2 ≤ x9 → (x8 = 0 → (x5 ≤ x7 → ∀ y5 : Int32, y5 = x6 + 1 → K88 σ x1 x2 x4 x5 y5) ∧ (¬ x5 ≤ x7 → ∀ y6 : Int32, y6 = x6 + 1 → K88 σ x1 x2 x4 x7 y6)) ∧ (¬ x8 = 0 → ∀ y3 : Int32, y3 = x6 + 1 → K88 σ x1 x2 x4 x5 y3)) ∧ (¬ x2 ≤ x9 → vp_in x9 200 ∧ ((σ.2.1 40 x9.toNatClampNeg) = 3 → vp_in x9 200 ∧ vp_in x6 200 ∧ ((σ.2.1 41 x9.toNatClampNeg) = (σ.2.1 41 x6.toNatClampNeg) → vp_in x9 200 ∧ vp_in x6 200 ∧ ((σ.2.1 43 x9.toNatClampNeg) < (σ.2.1 43 x6.toNatClampNeg) → ∀ y17 : Int32, y17 = x9 + 1 → wpM_lapseOf_198 K88 Post n σ x1 x2 x4 x5 x6 x7 x8 y17) ∧ (¬ (σ.2.1 43 x9.toNatClampNeg) < (σ.2.1 43 x6.toNatClampNeg) → vp_in x9 200 ∧ (x7 < (σ.2.1 43 x9.toNatClampNeg) → ∀ y20 : Int32, y20 = x9 + 1 → wpM_lapseOf_198 K88 Post n σ x1 x2 x4 x5 x6 x7 x8 y20) ∧ (¬ x7 < (σ.2.1 43 x9.toNatClampNeg) → ∀ y21 : Int32, y21 = x9 + 1 → wpM_lapseOf_198 K88 Post n σ x1 x2 x4 x5 x6 x7 1 y21))) ∧ (¬ (σ.2.1 41 x9.toNatClampNeg) = (σ.2.1 41 x6.toNatClampNeg) → ∀ y13 : Int32, y13 = x9 + 1 → wpM_lapseOf_198 K88 Post n σ x1 x2 x4 x5 x6 x7 x8 y13)) ∧ (¬ (σ.2.1 40 x9.toNatClampNeg) = 3 → ∀ y9 : Int32, y9 = x9 + 1 → wpM_lapseOf_198 K88 Post n σ x1 x2 x4 x5 x6 x7 x8 y9))
set_option maxHeartbeats 1000000 in
set_option maxRecDepth 20000 in
theorem wkM_lapseOf_198 {Post : Int32 → MS → Prop} (E : xE cX11_lapseOf RX11 10 (some .int) D cy p s m args meth c) {K88 : MS → Int32 → Int32 → Int32 → Int32 → Int32 → Prop} (hK88 : ∀ (σ : MS) (x1 : Int32) (x2 : Int32) (x4 : Int32) (x5 : Int32) (x6 : Int32) (H : Heap) (locs : List Loc) (ls : Array Slot), xH D A s (MW q cy σ) H locs → K88 σ x1 x2 x4 x5 x6 → lv_has ls 10 [(0, .ref (q 0)), (1, .int x1), (2, .int x2), (4, .int x4), (5, .int x5), (6, .int x6)] → W p l e rM_lapseOf s m args below meth c H locs 0 0 (MQ below (va_Qi Post (xB D cy (MW q cy) A) A) args s 0 0 A) (F0 m 88 ls [])) : ∀ n : Nat, ∀ (σ : MS) (x1 : Int32) (x2 : Int32) (x4 : Int32) (x5 : Int32) (x6 : Int32) (x7 : Int32) (x8 : Int32) (x9 : Int32) (H : Heap) (locs : List Loc) (ls : Array Slot), xH D A s (MW q cy σ) H locs → wpM_lapseOf_198 K88 Post n σ x1 x2 x4 x5 x6 x7 x8 x9 → lv_has ls 10 [(0, .ref (q 0)), (1, .int x1), (2, .int x2), (4, .int x4), (5, .int x5), (6, .int x6), (7, .int x7), (8, .int x8), (9, .int x9)] → W p l e rM_lapseOf s m args below meth c H locs 0 0 (MQ below (va_Qi Post (xB D cy (MW q cy) A) A) args s 0 0 A) (F0 m 198 ls []) := by
  have hx := E.1
  have hb := E.2.1
  intro n
  induction n with
  | zero => intro σ x1 x2 x4 x5 x6 x7 x8 x9 H locs ls h hw hl; exact False.elim hw
  | succ n ih =>
    intro σ x1 x2 x4 x5 x6 x7 x8 x9 H locs ls h hw hl
    refine lv_iload hx hb dX11_lapseOf_198 (lv_at hl 8 rfl) ?_
    refine lv_iload_n hx hb dX11_lapseOf_200 rfl (lv_at hl 2 rfl) ?_
    refine lv_icmp_ge (tgt := 270) hx hb dX11_lapseOf_201 (by decide) (fun c1 => ?_) (fun c1 => ?_)
    · have hw := hw.1 c1
      refine lv_iload hx hb dX11_lapseOf_270 (lv_at hl 7 rfl) ?_
      refine lv_if_ne (tgt := 286) hx hb dX11_lapseOf_272 (by decide) (fun c2 => ?_) (fun c2 => ?_)
      · have hw := hw.2 c2
        obtain ⟨y3, ey3⟩ : ∃ z : Int32, z = x6 + 1 := ⟨_, rfl⟩
        have hw := hw y3 ey3
        refine lv_iinc (v := y3) (lv' := [(6, .int y3), (0, .ref (q 0)), (1, .int x1), (2, .int x2), (4, .int x4), (5, .int x5), (7, .int x7), (8, .int x8), (9, .int x9)]) hx hb dX11_lapseOf_286 hl (k := 5) rfl (by rw [ey3]; rfl) (by decide) rfl (fun ls hl => ?_)
        refine lv_goto (tgt := 88) hx hb dX11_lapseOf_289 (by decide) ?_
        exact hK88 _ _ _ _ _ _ _ _ _ h hw (lv_sub hl [1, 2, 3, 4, 5, 0] rfl)
      · have hw := hw.1 c2
        refine lv_iload hx hb dX11_lapseOf_275 (lv_at hl 6 rfl) ?_
        refine lv_iload hx hb dX11_lapseOf_277 (lv_at hl 4 rfl) ?_
        refine lv_icmp_ge (tgt := 286) hx hb dX11_lapseOf_279 (by decide) (fun c4 => ?_) (fun c4 => ?_)
        · have hw := hw.1 c4
          obtain ⟨y5, ey5⟩ : ∃ z : Int32, z = x6 + 1 := ⟨_, rfl⟩
          have hw := hw y5 ey5
          refine lv_iinc (v := y5) (lv' := [(6, .int y5), (0, .ref (q 0)), (1, .int x1), (2, .int x2), (4, .int x4), (5, .int x5), (7, .int x7), (8, .int x8), (9, .int x9)]) hx hb dX11_lapseOf_286 hl (k := 5) rfl (by rw [ey5]; rfl) (by decide) rfl (fun ls hl => ?_)
          refine lv_goto (tgt := 88) hx hb dX11_lapseOf_289 (by decide) ?_
          exact hK88 _ _ _ _ _ _ _ _ _ h hw (lv_sub hl [1, 2, 3, 4, 5, 0] rfl)
        · have hw := hw.2 c4
          refine lv_iload hx hb dX11_lapseOf_282 (lv_at hl 6 rfl) ?_
          refine lv_istore (lv' := [(5, .int x7), (0, .ref (q 0)), (1, .int x1), (2, .int x2), (4, .int x4), (6, .int x6), (7, .int x7), (8, .int x8), (9, .int x9)]) hx hb dX11_lapseOf_284 hl (by decide) rfl (fun ls hl => ?_)
          obtain ⟨y6, ey6⟩ : ∃ z : Int32, z = x6 + 1 := ⟨_, rfl⟩
          have hw := hw y6 ey6
          refine lv_iinc (v := y6) (lv' := [(6, .int y6), (5, .int x7), (0, .ref (q 0)), (1, .int x1), (2, .int x2), (4, .int x4), (7, .int x7), (8, .int x8), (9, .int x9)]) hx hb dX11_lapseOf_286 hl (k := 5) rfl (by rw [ey6]; rfl) (by decide) rfl (fun ls hl => ?_)
          refine lv_goto (tgt := 88) hx hb dX11_lapseOf_289 (by decide) ?_
          exact hK88 _ _ _ _ _ _ _ _ _ h hw (lv_sub hl [2, 3, 4, 5, 1, 0] rfl)
    · have hw := hw.2 c1
      refine lv_aload_n hx hb dX11_lapseOf_204 rfl (lv_at hl 0 rfl) ?_
      refine gX11_137 E h dX11_lapseOf_205 ?_
      refine lv_iload hx hb dX11_lapseOf_208 (lv_at hl 8 rfl) ?_
      have h7 := hw.1
      have hw := hw.2
      refine aM_40 E h h7 dX11_lapseOf_210 ?_
      refine lv_iconst (v := 3) hx hb dX11_lapseOf_211 (by decide) ?_
      refine lv_icmp_ne (tgt := 264) hx hb dX11_lapseOf_212 (by decide) (fun c8 => ?_) (fun c8 => ?_)
      · have hw := hw.2 c8
        obtain ⟨y9, ey9⟩ : ∃ z : Int32, z = x9 + 1 := ⟨_, rfl⟩
        have hw := hw y9 ey9
        refine lv_iinc (v := y9) (lv' := [(9, .int y9), (0, .ref (q 0)), (1, .int x1), (2, .int x2), (4, .int x4), (5, .int x5), (6, .int x6), (7, .int x7), (8, .int x8)]) hx hb dX11_lapseOf_264 hl (k := 8) rfl (by rw [ey9]; rfl) (by decide) rfl (fun ls hl => ?_)
        refine lv_goto (tgt := 198) hx hb dX11_lapseOf_267 (by decide) ?_
        exact ih _ _ _ _ _ _ _ _ _ _ _ _ h hw (lv_sub hl [1, 2, 3, 4, 5, 6, 7, 8, 0] rfl)
      · have hw := hw.1 c8
        refine lv_aload_n hx hb dX11_lapseOf_215 rfl (lv_at hl 0 rfl) ?_
        refine gX11_140 E h dX11_lapseOf_216 ?_
        refine lv_iload hx hb dX11_lapseOf_219 (lv_at hl 8 rfl) ?_
        have h10 := hw.1
        have hw := hw.2
        refine aM_41 E h h10 dX11_lapseOf_221 ?_
        refine lv_aload_n hx hb dX11_lapseOf_222 rfl (lv_at hl 0 rfl) ?_
        refine gX11_140 E h dX11_lapseOf_223 ?_
        refine lv_iload hx hb dX11_lapseOf_226 (lv_at hl 5 rfl) ?_
        have h11 := hw.1
        have hw := hw.2
        refine aM_41 E h h11 dX11_lapseOf_228 ?_
        refine lv_icmp_ne (tgt := 264) hx hb dX11_lapseOf_229 (by decide) (fun c12 => ?_) (fun c12 => ?_)
        · have hw := hw.2 c12
          obtain ⟨y13, ey13⟩ : ∃ z : Int32, z = x9 + 1 := ⟨_, rfl⟩
          have hw := hw y13 ey13
          refine lv_iinc (v := y13) (lv' := [(9, .int y13), (0, .ref (q 0)), (1, .int x1), (2, .int x2), (4, .int x4), (5, .int x5), (6, .int x6), (7, .int x7), (8, .int x8)]) hx hb dX11_lapseOf_264 hl (k := 8) rfl (by rw [ey13]; rfl) (by decide) rfl (fun ls hl => ?_)
          refine lv_goto (tgt := 198) hx hb dX11_lapseOf_267 (by decide) ?_
          exact ih _ _ _ _ _ _ _ _ _ _ _ _ h hw (lv_sub hl [1, 2, 3, 4, 5, 6, 7, 8, 0] rfl)
        · have hw := hw.1 c12
          refine lv_aload_n hx hb dX11_lapseOf_232 rfl (lv_at hl 0 rfl) ?_
          refine gX11_146 E h dX11_lapseOf_233 ?_
          refine lv_iload hx hb dX11_lapseOf_236 (lv_at hl 8 rfl) ?_
          have h14 := hw.1
          have hw := hw.2
          refine aM_43 E h h14 dX11_lapseOf_238 ?_
          refine lv_aload_n hx hb dX11_lapseOf_239 rfl (lv_at hl 0 rfl) ?_
          refine gX11_146 E h dX11_lapseOf_240 ?_
          refine lv_iload hx hb dX11_lapseOf_243 (lv_at hl 5 rfl) ?_
          have h15 := hw.1
          have hw := hw.2
          refine aM_43 E h h15 dX11_lapseOf_245 ?_
          refine lv_icmp_lt (tgt := 264) hx hb dX11_lapseOf_246 (by decide) (fun c16 => ?_) (fun c16 => ?_)
          · have hw := hw.1 c16
            obtain ⟨y17, ey17⟩ : ∃ z : Int32, z = x9 + 1 := ⟨_, rfl⟩
            have hw := hw y17 ey17
            refine lv_iinc (v := y17) (lv' := [(9, .int y17), (0, .ref (q 0)), (1, .int x1), (2, .int x2), (4, .int x4), (5, .int x5), (6, .int x6), (7, .int x7), (8, .int x8)]) hx hb dX11_lapseOf_264 hl (k := 8) rfl (by rw [ey17]; rfl) (by decide) rfl (fun ls hl => ?_)
            refine lv_goto (tgt := 198) hx hb dX11_lapseOf_267 (by decide) ?_
            exact ih _ _ _ _ _ _ _ _ _ _ _ _ h hw (lv_sub hl [1, 2, 3, 4, 5, 6, 7, 8, 0] rfl)
          · have hw := hw.2 c16
            refine lv_aload_n hx hb dX11_lapseOf_249 rfl (lv_at hl 0 rfl) ?_
            refine gX11_146 E h dX11_lapseOf_250 ?_
            refine lv_iload hx hb dX11_lapseOf_253 (lv_at hl 8 rfl) ?_
            have h18 := hw.1
            have hw := hw.2
            refine aM_43 E h h18 dX11_lapseOf_255 ?_
            refine lv_iload hx hb dX11_lapseOf_256 (lv_at hl 6 rfl) ?_
            refine lv_icmp_gt (tgt := 264) hx hb dX11_lapseOf_258 (by decide) (fun c19 => ?_) (fun c19 => ?_)
            · have hw := hw.1 c19
              obtain ⟨y20, ey20⟩ : ∃ z : Int32, z = x9 + 1 := ⟨_, rfl⟩
              have hw := hw y20 ey20
              refine lv_iinc (v := y20) (lv' := [(9, .int y20), (0, .ref (q 0)), (1, .int x1), (2, .int x2), (4, .int x4), (5, .int x5), (6, .int x6), (7, .int x7), (8, .int x8)]) hx hb dX11_lapseOf_264 hl (k := 8) rfl (by rw [ey20]; rfl) (by decide) rfl (fun ls hl => ?_)
              refine lv_goto (tgt := 198) hx hb dX11_lapseOf_267 (by decide) ?_
              exact ih _ _ _ _ _ _ _ _ _ _ _ _ h hw (lv_sub hl [1, 2, 3, 4, 5, 6, 7, 8, 0] rfl)
            · have hw := hw.2 c19
              refine lv_iconst (v := 1) hx hb dX11_lapseOf_261 (by decide) ?_
              refine lv_istore (lv' := [(8, .int 1), (0, .ref (q 0)), (1, .int x1), (2, .int x2), (4, .int x4), (5, .int x5), (6, .int x6), (7, .int x7), (9, .int x9)]) hx hb dX11_lapseOf_262 hl (by decide) rfl (fun ls hl => ?_)
              obtain ⟨y21, ey21⟩ : ∃ z : Int32, z = x9 + 1 := ⟨_, rfl⟩
              have hw := hw y21 ey21
              refine lv_iinc (v := y21) (lv' := [(9, .int y21), (8, .int 1), (0, .ref (q 0)), (1, .int x1), (2, .int x2), (4, .int x4), (5, .int x5), (6, .int x6), (7, .int x7)]) hx hb dX11_lapseOf_264 hl (k := 8) rfl (by rw [ey21]; rfl) (by decide) rfl (fun ls hl => ?_)
              refine lv_goto (tgt := 198) hx hb dX11_lapseOf_267 (by decide) ?_
              exact ih _ _ _ _ _ _ _ _ _ _ _ _ h hw (lv_sub hl [2, 3, 4, 5, 6, 7, 8, 1, 0] rfl)

def wpM_lapseOf_193 (K88 : MS → Int32 → Int32 → Int32 → Int32 → Int32 → Prop) (Post : Int32 → MS → Prop) (σ : MS) (x1 : Int32) (x2 : Int32) (x4 : Int32) (x5 : Int32) (x6 : Int32) (x7 : Int32) (t0 : Int32) : Prop := ∃ g, wpM_lapseOf_198 K88 Post g σ x1 x2 x4 x5 x6 x7 t0 0
set_option maxHeartbeats 1000000 in
set_option maxRecDepth 20000 in
theorem wkM_lapseOf_193 {Post : Int32 → MS → Prop} (E : xE cX11_lapseOf RX11 10 (some .int) D cy p s m args meth c) {K88 : MS → Int32 → Int32 → Int32 → Int32 → Int32 → Prop} (hK88 : ∀ (σ : MS) (x1 : Int32) (x2 : Int32) (x4 : Int32) (x5 : Int32) (x6 : Int32) (H : Heap) (locs : List Loc) (ls : Array Slot), xH D A s (MW q cy σ) H locs → K88 σ x1 x2 x4 x5 x6 → lv_has ls 10 [(0, .ref (q 0)), (1, .int x1), (2, .int x2), (4, .int x4), (5, .int x5), (6, .int x6)] → W p l e rM_lapseOf s m args below meth c H locs 0 0 (MQ below (va_Qi Post (xB D cy (MW q cy) A) A) args s 0 0 A) (F0 m 88 ls [])) : ∀ (σ : MS) (x1 : Int32) (x2 : Int32) (x4 : Int32) (x5 : Int32) (x6 : Int32) (x7 : Int32) (t0 : Int32) (H : Heap) (locs : List Loc) (ls : Array Slot), xH D A s (MW q cy σ) H locs → wpM_lapseOf_193 K88 Post σ x1 x2 x4 x5 x6 x7 t0 → lv_has ls 10 [(0, .ref (q 0)), (1, .int x1), (2, .int x2), (4, .int x4), (5, .int x5), (6, .int x6), (7, .int x7)] → W p l e rM_lapseOf s m args below meth c H locs 0 0 (MQ below (va_Qi Post (xB D cy (MW q cy) A) A) args s 0 0 A) (F0 m 193 ls [.int t0]) := by
  have hx := E.1
  have hb := E.2.1
  intro σ x1 x2 x4 x5 x6 x7 t0 H locs ls h hw hl
  unfold wpM_lapseOf_193 at hw
  refine lv_istore (lv' := [(8, .int t0), (0, .ref (q 0)), (1, .int x1), (2, .int x2), (4, .int x4), (5, .int x5), (6, .int x6), (7, .int x7)]) hx hb dX11_lapseOf_193 hl (by decide) rfl (fun ls hl => ?_)
  refine lv_iconst (v := 0) hx hb dX11_lapseOf_195 (by decide) ?_
  refine lv_istore (lv' := [(9, .int 0), (8, .int t0), (0, .ref (q 0)), (1, .int x1), (2, .int x2), (4, .int x4), (5, .int x5), (6, .int x6), (7, .int x7)]) hx hb dX11_lapseOf_196 hl (by decide) rfl (fun ls hl => ?_)
  obtain ⟨g, hw⟩ := hw
  exact wkM_lapseOf_198 E hK88 g _ _ _ _ _ _ _ _ _ _ _ _ h hw (lv_sub hl [2, 3, 4, 5, 6, 7, 8, 1, 0] rfl)

def wpM_lapseOf_178 (K88 : MS → Int32 → Int32 → Int32 → Int32 → Int32 → Prop) (Post : Int32 → MS → Prop) (σ : MS) (x1 : Int32) (x2 : Int32) (x4 : Int32) (x5 : Int32) (x6 : Int32) (t0 : Int32) : Prop := (t0 ≤ 9999 → wpM_lapseOf_193 K88 Post σ x1 x2 x4 x5 x6 t0 0) ∧ (¬ t0 ≤ 9999 → wpM_lapseOf_193 K88 Post σ x1 x2 x4 x5 x6 t0 1)
set_option maxHeartbeats 1000000 in
set_option maxRecDepth 20000 in
theorem wkM_lapseOf_178 {Post : Int32 → MS → Prop} (E : xE cX11_lapseOf RX11 10 (some .int) D cy p s m args meth c) {K88 : MS → Int32 → Int32 → Int32 → Int32 → Int32 → Prop} (hK88 : ∀ (σ : MS) (x1 : Int32) (x2 : Int32) (x4 : Int32) (x5 : Int32) (x6 : Int32) (H : Heap) (locs : List Loc) (ls : Array Slot), xH D A s (MW q cy σ) H locs → K88 σ x1 x2 x4 x5 x6 → lv_has ls 10 [(0, .ref (q 0)), (1, .int x1), (2, .int x2), (4, .int x4), (5, .int x5), (6, .int x6)] → W p l e rM_lapseOf s m args below meth c H locs 0 0 (MQ below (va_Qi Post (xB D cy (MW q cy) A) A) args s 0 0 A) (F0 m 88 ls [])) : ∀ (σ : MS) (x1 : Int32) (x2 : Int32) (x4 : Int32) (x5 : Int32) (x6 : Int32) (t0 : Int32) (H : Heap) (locs : List Loc) (ls : Array Slot), xH D A s (MW q cy σ) H locs → wpM_lapseOf_178 K88 Post σ x1 x2 x4 x5 x6 t0 → lv_has ls 10 [(0, .ref (q 0)), (1, .int x1), (2, .int x2), (4, .int x4), (5, .int x5), (6, .int x6)] → W p l e rM_lapseOf s m args below meth c H locs 0 0 (MQ below (va_Qi Post (xB D cy (MW q cy) A) A) args s 0 0 A) (F0 m 178 ls [.int t0]) := by
  have hx := E.1
  have hb := E.2.1
  intro σ x1 x2 x4 x5 x6 t0 H locs ls h hw hl
  unfold wpM_lapseOf_178 at hw
  refine lv_istore (lv' := [(7, .int t0), (0, .ref (q 0)), (1, .int x1), (2, .int x2), (4, .int x4), (5, .int x5), (6, .int x6)]) hx hb dX11_lapseOf_178 hl (by decide) rfl (fun ls hl => ?_)
  refine lv_iload hx hb dX11_lapseOf_180 (lv_at hl 0 rfl) ?_
  refine lv_sipush (v := 9999) hx hb dX11_lapseOf_182 (by decide) ?_
  refine lv_icmp_le (tgt := 192) hx hb dX11_lapseOf_185 (by decide) (fun c1 => ?_) (fun c1 => ?_)
  · have hw := hw.1 c1
    refine lv_iconst (v := 0) hx hb dX11_lapseOf_192 (by decide) ?_
    exact wkM_lapseOf_193 E hK88 _ _ _ _ _ _ _ _ _ _ _ h hw (lv_sub hl [1, 2, 3, 4, 5, 6, 0] rfl)
  · have hw := hw.2 c1
    refine lv_iconst (v := 1) hx hb dX11_lapseOf_188 (by decide) ?_
    refine lv_goto (tgt := 193) hx hb dX11_lapseOf_189 (by decide) ?_
    exact wkM_lapseOf_193 E hK88 _ _ _ _ _ _ _ _ _ _ _ h hw (lv_sub hl [1, 2, 3, 4, 5, 6, 0] rfl)

def wpM_lapseOf_140 (K88 : MS → Int32 → Int32 → Int32 → Int32 → Int32 → Prop) (Post : Int32 → MS → Prop) (σ : MS) (x1 : Int32) (x2 : Int32) (x4 : Int32) (x5 : Int32) (x6 : Int32) : Prop := vp_in x6 200 ∧ vp_in x1 10 ∧ (((σ.2.1 43 x6.toNatClampNeg) + x4) ≤ (σ.2.1 47 x1.toNatClampNeg) → vp_in x1 10 ∧ wpM_lapseOf_178 K88 Post σ x1 x2 x4 x5 x6 (σ.2.1 47 x1.toNatClampNeg)) ∧ (¬ ((σ.2.1 43 x6.toNatClampNeg) + x4) ≤ (σ.2.1 47 x1.toNatClampNeg) → vp_in x6 200 ∧ wpM_lapseOf_178 K88 Post σ x1 x2 x4 x5 x6 ((σ.2.1 43 x6.toNatClampNeg) + x4))
set_option maxHeartbeats 1000000 in
set_option maxRecDepth 20000 in
theorem wkM_lapseOf_140 {Post : Int32 → MS → Prop} (E : xE cX11_lapseOf RX11 10 (some .int) D cy p s m args meth c) {K88 : MS → Int32 → Int32 → Int32 → Int32 → Int32 → Prop} (hK88 : ∀ (σ : MS) (x1 : Int32) (x2 : Int32) (x4 : Int32) (x5 : Int32) (x6 : Int32) (H : Heap) (locs : List Loc) (ls : Array Slot), xH D A s (MW q cy σ) H locs → K88 σ x1 x2 x4 x5 x6 → lv_has ls 10 [(0, .ref (q 0)), (1, .int x1), (2, .int x2), (4, .int x4), (5, .int x5), (6, .int x6)] → W p l e rM_lapseOf s m args below meth c H locs 0 0 (MQ below (va_Qi Post (xB D cy (MW q cy) A) A) args s 0 0 A) (F0 m 88 ls [])) : ∀ (σ : MS) (x1 : Int32) (x2 : Int32) (x4 : Int32) (x5 : Int32) (x6 : Int32) (H : Heap) (locs : List Loc) (ls : Array Slot), xH D A s (MW q cy σ) H locs → wpM_lapseOf_140 K88 Post σ x1 x2 x4 x5 x6 → lv_has ls 10 [(0, .ref (q 0)), (1, .int x1), (2, .int x2), (4, .int x4), (5, .int x5), (6, .int x6)] → W p l e rM_lapseOf s m args below meth c H locs 0 0 (MQ below (va_Qi Post (xB D cy (MW q cy) A) A) args s 0 0 A) (F0 m 140 ls []) := by
  have hx := E.1
  have hb := E.2.1
  intro σ x1 x2 x4 x5 x6 H locs ls h hw hl
  unfold wpM_lapseOf_140 at hw
  refine lv_aload_n hx hb dX11_lapseOf_140 rfl (lv_at hl 0 rfl) ?_
  refine gX11_146 E h dX11_lapseOf_141 ?_
  refine lv_iload hx hb dX11_lapseOf_144 (lv_at hl 5 rfl) ?_
  have h1 := hw.1
  have hw := hw.2
  refine aM_43 E h h1 dX11_lapseOf_146 ?_
  refine lv_iload hx hb dX11_lapseOf_147 (lv_at hl 3 rfl) ?_
  refine lv_iadd hx hb dX11_lapseOf_149 ?_
  refine lv_aload_n hx hb dX11_lapseOf_150 rfl (lv_at hl 0 rfl) ?_
  refine gX11_161 E h dX11_lapseOf_151 ?_
  refine lv_iload_n hx hb dX11_lapseOf_154 rfl (lv_at hl 1 rfl) ?_
  have h2 := hw.1
  have hw := hw.2
  refine aM_47 E h h2 dX11_lapseOf_155 ?_
  refine lv_icmp_le (tgt := 172) hx hb dX11_lapseOf_156 (by decide) (fun c3 => ?_) (fun c3 => ?_)
  · have hw := hw.1 c3
    refine lv_aload_n hx hb dX11_lapseOf_172 rfl (lv_at hl 0 rfl) ?_
    refine gX11_161 E h dX11_lapseOf_173 ?_
    refine lv_iload_n hx hb dX11_lapseOf_176 rfl (lv_at hl 1 rfl) ?_
    have h4 := hw.1
    have hw := hw.2
    refine aM_47 E h h4 dX11_lapseOf_177 ?_
    exact wkM_lapseOf_178 E hK88 _ _ _ _ _ _ _ _ _ _ h hw (lv_sub hl [0, 1, 2, 3, 4, 5] rfl)
  · have hw := hw.2 c3
    refine lv_aload_n hx hb dX11_lapseOf_159 rfl (lv_at hl 0 rfl) ?_
    refine gX11_146 E h dX11_lapseOf_160 ?_
    refine lv_iload hx hb dX11_lapseOf_163 (lv_at hl 5 rfl) ?_
    have h5 := hw.1
    have hw := hw.2
    refine aM_43 E h h5 dX11_lapseOf_165 ?_
    refine lv_iload hx hb dX11_lapseOf_166 (lv_at hl 3 rfl) ?_
    refine lv_iadd hx hb dX11_lapseOf_168 ?_
    refine lv_goto (tgt := 178) hx hb dX11_lapseOf_169 (by decide) ?_
    exact wkM_lapseOf_178 E hK88 _ _ _ _ _ _ _ _ _ _ h hw (lv_sub hl [0, 1, 2, 3, 4, 5] rfl)

def wpM_lapseOf_88 (Post : Int32 → MS → Prop) : Nat → MS → Int32 → Int32 → Int32 → Int32 → Int32 → Prop
  | 0, _, _, _, _, _, _ => False
  | n + 1, σ, x1, x2, x4, x5, x6 => (x2 ≤ x6 → Post x5 σ) ∧ (¬ x2 ≤ x6 → vp_in x6 200 ∧ ((σ.2.1 40 x6.toNatClampNeg) = 2 → vp_in x6 200 ∧ vp_in x1 10 ∧ ((σ.2.1 41 x6.toNatClampNeg) = (σ.2.1 31 x1.toNatClampNeg) → wpM_lapseOf_140 (fun a0 a1 a2 a3 a4 a5 => wpM_lapseOf_88 Post n a0 a1 a2 a3 a4 a5) Post σ x1 x2 x4 x5 x6) ∧ (¬ (σ.2.1 41 x6.toNatClampNeg) = (σ.2.1 31 x1.toNatClampNeg) → vp_in x6 200 ∧ vp_in x1 10 ∧ ((σ.2.1 41 x6.toNatClampNeg) = (σ.2.1 32 x1.toNatClampNeg) → wpM_lapseOf_140 (fun a0 a1 a2 a3 a4 a5 => wpM_lapseOf_88 Post n a0 a1 a2 a3 a4 a5) Post σ x1 x2 x4 x5 x6) ∧ (¬ (σ.2.1 41 x6.toNatClampNeg) = (σ.2.1 32 x1.toNatClampNeg) → ∀ y11 : Int32, y11 = x6 + 1 → wpM_lapseOf_88 Post n σ x1 x2 x4 x5 y11))) ∧ (¬ (σ.2.1 40 x6.toNatClampNeg) = 2 → ∀ y4 : Int32, y4 = x6 + 1 → wpM_lapseOf_88 Post n σ x1 x2 x4 x5 y4))
set_option maxHeartbeats 1000000 in
set_option maxRecDepth 20000 in
theorem wkM_lapseOf_88 {Post : Int32 → MS → Prop} (E : xE cX11_lapseOf RX11 10 (some .int) D cy p s m args meth c) : ∀ n : Nat, ∀ (σ : MS) (x1 : Int32) (x2 : Int32) (x4 : Int32) (x5 : Int32) (x6 : Int32) (H : Heap) (locs : List Loc) (ls : Array Slot), xH D A s (MW q cy σ) H locs → wpM_lapseOf_88 Post n σ x1 x2 x4 x5 x6 → lv_has ls 10 [(0, .ref (q 0)), (1, .int x1), (2, .int x2), (4, .int x4), (5, .int x5), (6, .int x6)] → W p l e rM_lapseOf s m args below meth c H locs 0 0 (MQ below (va_Qi Post (xB D cy (MW q cy) A) A) args s 0 0 A) (F0 m 88 ls []) := by
  have hx := E.1
  have hb := E.2.1
  intro n
  induction n with
  | zero => intro σ x1 x2 x4 x5 x6 H locs ls h hw hl; exact False.elim hw
  | succ n ih =>
    intro σ x1 x2 x4 x5 x6 H locs ls h hw hl
    refine lv_iload hx hb dX11_lapseOf_88 (lv_at hl 5 rfl) ?_
    refine lv_iload_n hx hb dX11_lapseOf_90 rfl (lv_at hl 2 rfl) ?_
    refine lv_icmp_ge (tgt := 292) hx hb dX11_lapseOf_91 (by decide) (fun c1 => ?_) (fun c1 => ?_)
    · have hw := hw.1 c1
      refine lv_iload hx hb dX11_lapseOf_292 (lv_at hl 4 rfl) ?_
      exact x_iret E h hw dX11_lapseOf_294
    · have hw := hw.2 c1
      refine lv_aload_n hx hb dX11_lapseOf_94 rfl (lv_at hl 0 rfl) ?_
      refine gX11_137 E h dX11_lapseOf_95 ?_
      refine lv_iload hx hb dX11_lapseOf_98 (lv_at hl 5 rfl) ?_
      have h2 := hw.1
      have hw := hw.2
      refine aM_40 E h h2 dX11_lapseOf_100 ?_
      refine lv_iconst (v := 2) hx hb dX11_lapseOf_101 (by decide) ?_
      refine lv_icmp_ne (tgt := 286) hx hb dX11_lapseOf_102 (by decide) (fun c3 => ?_) (fun c3 => ?_)
      · have hw := hw.2 c3
        obtain ⟨y4, ey4⟩ : ∃ z : Int32, z = x6 + 1 := ⟨_, rfl⟩
        have hw := hw y4 ey4
        refine lv_iinc (v := y4) (lv' := [(6, .int y4), (0, .ref (q 0)), (1, .int x1), (2, .int x2), (4, .int x4), (5, .int x5)]) hx hb dX11_lapseOf_286 hl (k := 5) rfl (by rw [ey4]; rfl) (by decide) rfl (fun ls hl => ?_)
        refine lv_goto (tgt := 88) hx hb dX11_lapseOf_289 (by decide) ?_
        exact ih _ _ _ _ _ _ _ _ _ h hw (lv_sub hl [1, 2, 3, 4, 5, 0] rfl)
      · have hw := hw.1 c3
        refine lv_aload_n hx hb dX11_lapseOf_105 rfl (lv_at hl 0 rfl) ?_
        refine gX11_140 E h dX11_lapseOf_106 ?_
        refine lv_iload hx hb dX11_lapseOf_109 (lv_at hl 5 rfl) ?_
        have h5 := hw.1
        have hw := hw.2
        refine aM_41 E h h5 dX11_lapseOf_111 ?_
        refine lv_aload_n hx hb dX11_lapseOf_112 rfl (lv_at hl 0 rfl) ?_
        refine gX11_110 E h dX11_lapseOf_113 ?_
        refine lv_iload_n hx hb dX11_lapseOf_116 rfl (lv_at hl 1 rfl) ?_
        have h6 := hw.1
        have hw := hw.2
        refine aM_31 E h h6 dX11_lapseOf_117 ?_
        refine lv_icmp_eq (tgt := 140) hx hb dX11_lapseOf_118 (by decide) (fun c7 => ?_) (fun c7 => ?_)
        · have hw := hw.1 c7
          exact wkM_lapseOf_140 E ih _ _ _ _ _ _ _ _ _ h hw (lv_sub hl [0, 1, 2, 3, 4, 5] rfl)
        · have hw := hw.2 c7
          refine lv_aload_n hx hb dX11_lapseOf_121 rfl (lv_at hl 0 rfl) ?_
          refine gX11_140 E h dX11_lapseOf_122 ?_
          refine lv_iload hx hb dX11_lapseOf_125 (lv_at hl 5 rfl) ?_
          have h8 := hw.1
          have hw := hw.2
          refine aM_41 E h h8 dX11_lapseOf_127 ?_
          refine lv_aload_n hx hb dX11_lapseOf_128 rfl (lv_at hl 0 rfl) ?_
          refine gX11_113 E h dX11_lapseOf_129 ?_
          refine lv_iload_n hx hb dX11_lapseOf_132 rfl (lv_at hl 1 rfl) ?_
          have h9 := hw.1
          have hw := hw.2
          refine aM_32 E h h9 dX11_lapseOf_133 ?_
          refine lv_icmp_eq (tgt := 140) hx hb dX11_lapseOf_134 (by decide) (fun c10 => ?_) (fun c10 => ?_)
          · have hw := hw.1 c10
            exact wkM_lapseOf_140 E ih _ _ _ _ _ _ _ _ _ h hw (lv_sub hl [0, 1, 2, 3, 4, 5] rfl)
          · have hw := hw.2 c10
            refine lv_goto (tgt := 286) hx hb dX11_lapseOf_137 (by decide) ?_
            obtain ⟨y11, ey11⟩ : ∃ z : Int32, z = x6 + 1 := ⟨_, rfl⟩
            have hw := hw y11 ey11
            refine lv_iinc (v := y11) (lv' := [(6, .int y11), (0, .ref (q 0)), (1, .int x1), (2, .int x2), (4, .int x4), (5, .int x5)]) hx hb dX11_lapseOf_286 hl (k := 5) rfl (by rw [ey11]; rfl) (by decide) rfl (fun ls hl => ?_)
            refine lv_goto (tgt := 88) hx hb dX11_lapseOf_289 (by decide) ?_
            exact ih _ _ _ _ _ _ _ _ _ h hw (lv_sub hl [1, 2, 3, 4, 5, 0] rfl)

def wpM_lapseOf_70 (Post : Int32 → MS → Prop) (σ : MS) (x1 : Int32) (x2 : Int32) (x4 : Int32) : Prop := (x4 = ((-1)) → Post 1000000 σ) ∧ (¬ x4 = ((-1)) → ∃ g, wpM_lapseOf_88 Post g σ x1 x2 x4 1000000 0)
set_option maxHeartbeats 1000000 in
set_option maxRecDepth 20000 in
theorem wkM_lapseOf_70 {Post : Int32 → MS → Prop} (E : xE cX11_lapseOf RX11 10 (some .int) D cy p s m args meth c) : ∀ (σ : MS) (x1 : Int32) (x2 : Int32) (x4 : Int32) (H : Heap) (locs : List Loc) (ls : Array Slot), xH D A s (MW q cy σ) H locs → wpM_lapseOf_70 Post σ x1 x2 x4 → lv_has ls 10 [(0, .ref (q 0)), (1, .int x1), (2, .int x2), (4, .int x4)] → W p l e rM_lapseOf s m args below meth c H locs 0 0 (MQ below (va_Qi Post (xB D cy (MW q cy) A) A) args s 0 0 A) (F0 m 70 ls []) := by
  have hx := E.1
  have hb := E.2.1
  intro σ x1 x2 x4 H locs ls h hw hl
  unfold wpM_lapseOf_70 at hw
  refine lv_iload hx hb dX11_lapseOf_70 (lv_at hl 3 rfl) ?_
  refine lv_iconst (v := (-1)) hx hb dX11_lapseOf_72 (by decide) ?_
  refine lv_icmp_ne (tgt := 80) hx hb dX11_lapseOf_73 (by decide) (fun c1 => ?_) (fun c1 => ?_)
  · have hw := hw.2 c1
    refine lv_ldcw (own := RX11) (v := 1000000) hx hb E.2.2.2.1 (E.2.2.2.2.1 _ kX11_345) dX11_lapseOf_80 ?_
    refine lv_istore (lv' := [(5, .int 1000000), (0, .ref (q 0)), (1, .int x1), (2, .int x2), (4, .int x4)]) hx hb dX11_lapseOf_83 hl (by decide) rfl (fun ls hl => ?_)
    refine lv_iconst (v := 0) hx hb dX11_lapseOf_85 (by decide) ?_
    refine lv_istore (lv' := [(6, .int 0), (5, .int 1000000), (0, .ref (q 0)), (1, .int x1), (2, .int x2), (4, .int x4)]) hx hb dX11_lapseOf_86 hl (by decide) rfl (fun ls hl => ?_)
    obtain ⟨g, hw⟩ := hw
    exact wkM_lapseOf_88 E g _ _ _ _ _ _ _ _ _ h hw (lv_sub hl [2, 3, 4, 5, 1, 0] rfl)
  · have hw := hw.1 c1
    refine lv_ldcw (own := RX11) (v := 1000000) hx hb E.2.2.2.1 (E.2.2.2.2.1 _ kX11_345) dX11_lapseOf_76 ?_
    exact x_iret E h hw dX11_lapseOf_79

def wpM_lapseOf_12 (Post : Int32 → MS → Prop) : Nat → MS → Int32 → Int32 → Int32 → Int32 → Int32 → Prop
  | 0, _, _, _, _, _, _ => False
  | n + 1, σ, x1, x2, x3, x4, x5 => (x3 = ((-1)) → wpM_lapseOf_70 Post σ x1 x2 x4) ∧ (¬ x3 = ((-1)) → vp_in x3 9 ∧ ((σ.2.1 10 x3.toNatClampNeg) ≤ x5 → wpM_lapseOf_70 Post σ x1 x2 x4) ∧ (¬ (σ.2.1 10 x3.toNatClampNeg) ≤ x5 → (x4 = ((-1)) → vp_in ((16 * x3) + x5) 144 ∧ ((σ.2.1 11 ((16 * x3) + x5).toNatClampNeg) = 3 → vp_in ((16 * x3) + x5) 144 ∧ ∀ y9 : Int32, y9 = σ.2.1 12 ((16 * x3) + x5).toNatClampNeg → ∀ y10 : Int32, y10 = x5 + 1 → wpM_lapseOf_12 Post n σ x1 x2 x3 y9 y10) ∧ (¬ (σ.2.1 11 ((16 * x3) + x5).toNatClampNeg) = 3 → ∀ y7 : Int32, y7 = x5 + 1 → wpM_lapseOf_12 Post n σ x1 x2 x3 x4 y7)) ∧ (¬ x4 = ((-1)) → wpM_lapseOf_70 Post σ x1 x2 x4)))
set_option maxHeartbeats 1000000 in
set_option maxRecDepth 20000 in
theorem wkM_lapseOf_12 {Post : Int32 → MS → Prop} (E : xE cX11_lapseOf RX11 10 (some .int) D cy p s m args meth c) : ∀ n : Nat, ∀ (σ : MS) (x1 : Int32) (x2 : Int32) (x3 : Int32) (x4 : Int32) (x5 : Int32) (H : Heap) (locs : List Loc) (ls : Array Slot), xH D A s (MW q cy σ) H locs → wpM_lapseOf_12 Post n σ x1 x2 x3 x4 x5 → lv_has ls 10 [(0, .ref (q 0)), (1, .int x1), (2, .int x2), (3, .int x3), (4, .int x4), (5, .int x5)] → W p l e rM_lapseOf s m args below meth c H locs 0 0 (MQ below (va_Qi Post (xB D cy (MW q cy) A) A) args s 0 0 A) (F0 m 12 ls []) := by
  have hx := E.1
  have hb := E.2.1
  intro n
  induction n with
  | zero => intro σ x1 x2 x3 x4 x5 H locs ls h hw hl; exact False.elim hw
  | succ n ih =>
    intro σ x1 x2 x3 x4 x5 H locs ls h hw hl
    refine lv_iload_n hx hb dX11_lapseOf_12 rfl (lv_at hl 3 rfl) ?_
    refine lv_iconst (v := (-1)) hx hb dX11_lapseOf_13 (by decide) ?_
    refine lv_icmp_eq (tgt := 70) hx hb dX11_lapseOf_14 (by decide) (fun c1 => ?_) (fun c1 => ?_)
    · have hw := hw.1 c1
      exact wkM_lapseOf_70 E _ _ _ _ _ _ _ h hw (lv_sub hl [0, 1, 2, 4] rfl)
    · have hw := hw.2 c1
      refine lv_iload hx hb dX11_lapseOf_17 (lv_at hl 5 rfl) ?_
      refine lv_aload_n hx hb dX11_lapseOf_19 rfl (lv_at hl 0 rfl) ?_
      refine gX11_46 E h dX11_lapseOf_20 ?_
      refine lv_iload_n hx hb dX11_lapseOf_23 rfl (lv_at hl 3 rfl) ?_
      have h2 := hw.1
      have hw := hw.2
      refine aM_10 E h h2 dX11_lapseOf_24 ?_
      refine lv_icmp_ge (tgt := 70) hx hb dX11_lapseOf_25 (by decide) (fun c3 => ?_) (fun c3 => ?_)
      · have hw := hw.1 c3
        exact wkM_lapseOf_70 E _ _ _ _ _ _ _ h hw (lv_sub hl [0, 1, 2, 4] rfl)
      · have hw := hw.2 c3
        refine lv_iload hx hb dX11_lapseOf_28 (lv_at hl 4 rfl) ?_
        refine lv_iconst (v := (-1)) hx hb dX11_lapseOf_30 (by decide) ?_
        refine lv_icmp_ne (tgt := 70) hx hb dX11_lapseOf_31 (by decide) (fun c4 => ?_) (fun c4 => ?_)
        · have hw := hw.2 c4
          exact wkM_lapseOf_70 E _ _ _ _ _ _ _ h hw (lv_sub hl [0, 1, 2, 4] rfl)
        · have hw := hw.1 c4
          refine lv_aload_n hx hb dX11_lapseOf_34 rfl (lv_at hl 0 rfl) ?_
          refine gX11_49 E h dX11_lapseOf_35 ?_
          refine lv_bipush (v := 16) hx hb dX11_lapseOf_38 (by decide) ?_
          refine lv_iload_n hx hb dX11_lapseOf_40 rfl (lv_at hl 3 rfl) ?_
          refine lv_imul hx hb dX11_lapseOf_41 ?_
          refine lv_iload hx hb dX11_lapseOf_42 (lv_at hl 5 rfl) ?_
          refine lv_iadd hx hb dX11_lapseOf_44 ?_
          have h5 := hw.1
          have hw := hw.2
          refine aM_11 E h h5 dX11_lapseOf_45 ?_
          refine lv_iconst (v := 3) hx hb dX11_lapseOf_46 (by decide) ?_
          refine lv_icmp_ne (tgt := 64) hx hb dX11_lapseOf_47 (by decide) (fun c6 => ?_) (fun c6 => ?_)
          · have hw := hw.2 c6
            obtain ⟨y7, ey7⟩ : ∃ z : Int32, z = x5 + 1 := ⟨_, rfl⟩
            have hw := hw y7 ey7
            refine lv_iinc (v := y7) (lv' := [(5, .int y7), (0, .ref (q 0)), (1, .int x1), (2, .int x2), (3, .int x3), (4, .int x4)]) hx hb dX11_lapseOf_64 hl (k := 5) rfl (by rw [ey7]; rfl) (by decide) rfl (fun ls hl => ?_)
            refine lv_goto (tgt := 12) hx hb dX11_lapseOf_67 (by decide) ?_
            exact ih _ _ _ _ _ _ _ _ _ h hw (lv_sub hl [1, 2, 3, 4, 5, 0] rfl)
          · have hw := hw.1 c6
            refine lv_aload_n hx hb dX11_lapseOf_50 rfl (lv_at hl 0 rfl) ?_
            refine gX11_52 E h dX11_lapseOf_51 ?_
            refine lv_bipush (v := 16) hx hb dX11_lapseOf_54 (by decide) ?_
            refine lv_iload_n hx hb dX11_lapseOf_56 rfl (lv_at hl 3 rfl) ?_
            refine lv_imul hx hb dX11_lapseOf_57 ?_
            refine lv_iload hx hb dX11_lapseOf_58 (lv_at hl 5 rfl) ?_
            refine lv_iadd hx hb dX11_lapseOf_60 ?_
            have h8 := hw.1
            have hw := hw.2
            refine aM_12 E h h8 dX11_lapseOf_61 ?_
            refine lv_topi (fun y9 ey9 => ?_)
            have hw := hw y9 ey9
            refine lv_istore (lv' := [(4, .int y9), (0, .ref (q 0)), (1, .int x1), (2, .int x2), (3, .int x3), (5, .int x5)]) hx hb dX11_lapseOf_62 hl (by decide) rfl (fun ls hl => ?_)
            obtain ⟨y10, ey10⟩ : ∃ z : Int32, z = x5 + 1 := ⟨_, rfl⟩
            have hw := hw y10 ey10
            refine lv_iinc (v := y10) (lv' := [(5, .int y10), (4, .int y9), (0, .ref (q 0)), (1, .int x1), (2, .int x2), (3, .int x3)]) hx hb dX11_lapseOf_64 hl (k := 5) rfl (by rw [ey10]; rfl) (by decide) rfl (fun ls hl => ?_)
            refine lv_goto (tgt := 12) hx hb dX11_lapseOf_67 (by decide) ?_
            exact ih _ _ _ _ _ _ _ _ _ h hw (lv_sub hl [2, 3, 4, 5, 1, 0] rfl)

def wpM_lapseOf (σ : MS) (x1 : Int32) (x2 : Int32) (Post : Int32 → MS → Prop) : Prop := wpM_lawOf σ x1 (fun r1 σ2 => ∃ g, wpM_lapseOf_12 Post g σ2 x1 x2 r1 ((-1)) 0)
set_option maxHeartbeats 1000000 in
set_option maxRecDepth 20000 in
theorem cM_lapseOf {l : Launch} {D : va_G} {cy : Nat → ClassId} {q : Nat → Nat} {σ : MS} {sz : Nat} {x1 : Int32} {x2 : Int32} {Post : Int32 → MS → Prop} (hw : wpM_lapseOf σ x1 x2 Post) : Met l yX11_lapseOf (Cond.code yX11_lapseOf cX11_lapseOf 10 (some .int) :: wsA) rM_lapseOf (xPc D cy (MW q cy σ) sz [.ref (q 0), .int x1, .int x2]) (va_Qi Post (xB D cy (MW q cy) (va_A (MW q cy σ) sz)) (va_A (MW q cy σ) sz)) 0 0 (va_A (MW q cy σ) sz) := by
  refine x_enter (own := RX11) (WW := MW q cy) (by decide) rfl (Nat.le_of_ble_eq_true rfl) ?_
  intro p e s m below meth c ls E h hl
  have hx := E.1
  have hb := E.2.1
  have hl : lv_has ls 10 [(0, .ref (q 0)), (1, .int x1), (2, .int x2)] := hl
  unfold wpM_lapseOf at hw
  refine lv_aload_n hx hb dX11_lapseOf_0 rfl (lv_at hl 0 rfl) ?_
  refine lv_iload_n hx hb dX11_lapseOf_1 rfl (lv_at hl 1 rfl) ?_
  refine x_calli h (x_runV (WW := MW q cy) (rest := []) E h (cM_lawOf hw) yyX11_lawOf lX11_326 0 rfl rfl ⟨Nat.le_of_ble_eq_true rfl, Nat.le_of_ble_eq_true rfl⟩ rfl rfl hl.1 rfl (Nat.le_of_ble_eq_true rfl) dX11_lapseOf_2 ⟨Nat.le_refl 0, Nat.le_refl 0⟩) (fun r1 σ2 H locs hw h => ?_)
  refine lv_istore_n (lv' := [(3, .int r1), (0, .ref (q 0)), (1, .int x1), (2, .int x2)]) hx hb dX11_lapseOf_5 rfl hl (by decide) rfl (fun ls hl => ?_)
  refine lv_iconst (v := (-1)) hx hb dX11_lapseOf_6 (by decide) ?_
  refine lv_istore (lv' := [(4, .int ((-1))), (3, .int r1), (0, .ref (q 0)), (1, .int x1), (2, .int x2)]) hx hb dX11_lapseOf_7 hl (by decide) rfl (fun ls hl => ?_)
  refine lv_iconst (v := 0) hx hb dX11_lapseOf_9 (by decide) ?_
  refine lv_istore (lv' := [(5, .int 0), (4, .int ((-1))), (3, .int r1), (0, .ref (q 0)), (1, .int x1), (2, .int x2)]) hx hb dX11_lapseOf_10 hl (by decide) rfl (fun ls hl => ?_)
  obtain ⟨g, hw⟩ := hw
  exact wkM_lapseOf_12 E g _ _ _ _ _ _ _ _ _ h hw (lv_sub hl [3, 4, 5, 2, 1, 0] rfl)

abbrev rM_vows : Room := { frames := 0, cells := 0, slots := 0, locals := 0 }
def wpM_vows_3 (Post : Int32 → MS → Prop) : Nat → MS → Int32 → Int32 → Int32 → Int32 → Prop
  | 0, _, _, _, _, _ => False
  | n + 1, σ, x1, x2, x3, x4 => (x3 ≤ x4 → Post 0 σ) ∧ (¬ x3 ≤ x4 → vp_in x4 200 ∧ ((σ.2.1 40 x4.toNatClampNeg) = 1 → vp_in x4 200 ∧ ((σ.2.1 41 x4.toNatClampNeg) = x1 → vp_in x4 200 ∧ (x2 < (σ.2.1 43 x4.toNatClampNeg) → ∀ y10 : Int32, y10 = x4 + 1 → wpM_vows_3 Post n σ x1 x2 x3 y10) ∧ (¬ x2 < (σ.2.1 43 x4.toNatClampNeg) → Post 1 σ)) ∧ (¬ (σ.2.1 41 x4.toNatClampNeg) = x1 → ∀ y7 : Int32, y7 = x4 + 1 → wpM_vows_3 Post n σ x1 x2 x3 y7)) ∧ (¬ (σ.2.1 40 x4.toNatClampNeg) = 1 → ∀ y4 : Int32, y4 = x4 + 1 → wpM_vows_3 Post n σ x1 x2 x3 y4))
set_option maxHeartbeats 1000000 in
set_option maxRecDepth 20000 in
theorem wkM_vows_3 {Post : Int32 → MS → Prop} (E : xE cX11_vows RX11 5 (some .int) D cy p s m args meth c) : ∀ n : Nat, ∀ (σ : MS) (x1 : Int32) (x2 : Int32) (x3 : Int32) (x4 : Int32) (H : Heap) (locs : List Loc) (ls : Array Slot), xH D A s (MW q cy σ) H locs → wpM_vows_3 Post n σ x1 x2 x3 x4 → lv_has ls 5 [(0, .ref (q 0)), (1, .int x1), (2, .int x2), (3, .int x3), (4, .int x4)] → W p l e rM_vows s m args below meth c H locs 0 0 (MQ below (va_Qi Post (xB D cy (MW q cy) A) A) args s 0 0 A) (F0 m 3 ls []) := by
  have hx := E.1
  have hb := E.2.1
  intro n
  induction n with
  | zero => intro σ x1 x2 x3 x4 H locs ls h hw hl; exact False.elim hw
  | succ n ih =>
    intro σ x1 x2 x3 x4 H locs ls h hw hl
    refine lv_iload hx hb dX11_vows_3 (lv_at hl 4 rfl) ?_
    refine lv_iload_n hx hb dX11_vows_5 rfl (lv_at hl 3 rfl) ?_
    refine lv_icmp_ge (tgt := 50) hx hb dX11_vows_6 (by decide) (fun c1 => ?_) (fun c1 => ?_)
    · have hw := hw.1 c1
      refine lv_iconst (v := 0) hx hb dX11_vows_50 (by decide) ?_
      exact x_iret E h hw dX11_vows_51
    · have hw := hw.2 c1
      refine lv_aload_n hx hb dX11_vows_9 rfl (lv_at hl 0 rfl) ?_
      refine gX11_137 E h dX11_vows_10 ?_
      refine lv_iload hx hb dX11_vows_13 (lv_at hl 4 rfl) ?_
      have h2 := hw.1
      have hw := hw.2
      refine aM_40 E h h2 dX11_vows_15 ?_
      refine lv_iconst (v := 1) hx hb dX11_vows_16 (by decide) ?_
      refine lv_icmp_ne (tgt := 44) hx hb dX11_vows_17 (by decide) (fun c3 => ?_) (fun c3 => ?_)
      · have hw := hw.2 c3
        obtain ⟨y4, ey4⟩ : ∃ z : Int32, z = x4 + 1 := ⟨_, rfl⟩
        have hw := hw y4 ey4
        refine lv_iinc (v := y4) (lv' := [(4, .int y4), (0, .ref (q 0)), (1, .int x1), (2, .int x2), (3, .int x3)]) hx hb dX11_vows_44 hl (k := 4) rfl (by rw [ey4]; rfl) (by decide) rfl (fun ls hl => ?_)
        refine lv_goto (tgt := 3) hx hb dX11_vows_47 (by decide) ?_
        exact ih _ _ _ _ _ _ _ _ h hw (lv_sub hl [1, 2, 3, 4, 0] rfl)
      · have hw := hw.1 c3
        refine lv_aload_n hx hb dX11_vows_20 rfl (lv_at hl 0 rfl) ?_
        refine gX11_140 E h dX11_vows_21 ?_
        refine lv_iload hx hb dX11_vows_24 (lv_at hl 4 rfl) ?_
        have h5 := hw.1
        have hw := hw.2
        refine aM_41 E h h5 dX11_vows_26 ?_
        refine lv_iload_n hx hb dX11_vows_27 rfl (lv_at hl 1 rfl) ?_
        refine lv_icmp_ne (tgt := 44) hx hb dX11_vows_28 (by decide) (fun c6 => ?_) (fun c6 => ?_)
        · have hw := hw.2 c6
          obtain ⟨y7, ey7⟩ : ∃ z : Int32, z = x4 + 1 := ⟨_, rfl⟩
          have hw := hw y7 ey7
          refine lv_iinc (v := y7) (lv' := [(4, .int y7), (0, .ref (q 0)), (1, .int x1), (2, .int x2), (3, .int x3)]) hx hb dX11_vows_44 hl (k := 4) rfl (by rw [ey7]; rfl) (by decide) rfl (fun ls hl => ?_)
          refine lv_goto (tgt := 3) hx hb dX11_vows_47 (by decide) ?_
          exact ih _ _ _ _ _ _ _ _ h hw (lv_sub hl [1, 2, 3, 4, 0] rfl)
        · have hw := hw.1 c6
          refine lv_aload_n hx hb dX11_vows_31 rfl (lv_at hl 0 rfl) ?_
          refine gX11_146 E h dX11_vows_32 ?_
          refine lv_iload hx hb dX11_vows_35 (lv_at hl 4 rfl) ?_
          have h8 := hw.1
          have hw := hw.2
          refine aM_43 E h h8 dX11_vows_37 ?_
          refine lv_iload_n hx hb dX11_vows_38 rfl (lv_at hl 2 rfl) ?_
          refine lv_icmp_gt (tgt := 44) hx hb dX11_vows_39 (by decide) (fun c9 => ?_) (fun c9 => ?_)
          · have hw := hw.1 c9
            obtain ⟨y10, ey10⟩ : ∃ z : Int32, z = x4 + 1 := ⟨_, rfl⟩
            have hw := hw y10 ey10
            refine lv_iinc (v := y10) (lv' := [(4, .int y10), (0, .ref (q 0)), (1, .int x1), (2, .int x2), (3, .int x3)]) hx hb dX11_vows_44 hl (k := 4) rfl (by rw [ey10]; rfl) (by decide) rfl (fun ls hl => ?_)
            refine lv_goto (tgt := 3) hx hb dX11_vows_47 (by decide) ?_
            exact ih _ _ _ _ _ _ _ _ h hw (lv_sub hl [1, 2, 3, 4, 0] rfl)
          · have hw := hw.2 c9
            refine lv_iconst (v := 1) hx hb dX11_vows_42 (by decide) ?_
            exact x_iret E h hw dX11_vows_43

def wpM_vows (σ : MS) (x1 : Int32) (x2 : Int32) (x3 : Int32) (Post : Int32 → MS → Prop) : Prop := ∃ g, wpM_vows_3 Post g σ x1 x2 x3 0
set_option maxHeartbeats 1000000 in
set_option maxRecDepth 20000 in
theorem cM_vows {l : Launch} {D : va_G} {cy : Nat → ClassId} {q : Nat → Nat} {σ : MS} {sz : Nat} {x1 : Int32} {x2 : Int32} {x3 : Int32} {Post : Int32 → MS → Prop} (hw : wpM_vows σ x1 x2 x3 Post) : Met l yX11_vows (Cond.code yX11_vows cX11_vows 5 (some .int) :: wsA) rM_vows (xPc D cy (MW q cy σ) sz [.ref (q 0), .int x1, .int x2, .int x3]) (va_Qi Post (xB D cy (MW q cy) (va_A (MW q cy σ) sz)) (va_A (MW q cy σ) sz)) 0 0 (va_A (MW q cy σ) sz) := by
  refine x_enter (own := RX11) (WW := MW q cy) (by decide) rfl (Nat.le_of_ble_eq_true rfl) ?_
  intro p e s m below meth c ls E h hl
  have hx := E.1
  have hb := E.2.1
  have hl : lv_has ls 5 [(0, .ref (q 0)), (1, .int x1), (2, .int x2), (3, .int x3)] := hl
  unfold wpM_vows at hw
  refine lv_iconst (v := 0) hx hb dX11_vows_0 (by decide) ?_
  refine lv_istore (lv' := [(4, .int 0), (0, .ref (q 0)), (1, .int x1), (2, .int x2), (3, .int x3)]) hx hb dX11_vows_1 hl (by decide) rfl (fun ls hl => ?_)
  obtain ⟨g, hw⟩ := hw
  exact wkM_vows_3 E g _ _ _ _ _ _ _ _ h hw (lv_sub hl [1, 2, 3, 4, 0] rfl)

abbrev rM_barOf : Room := { frames := 3, cells := 0, slots := 0, locals := 77 }
def wpM_barOf_273 (K175 : MS → Int32 → Int32 → Int32 → Prop) (Post : Int32 → MS → Prop) (σ : MS) (x1 : Int32) (x2 : Int32) (x4 : Int32) : Prop := vp_in 8 12 ∧ ∀ σ1 : MS, σ1 = mA σ 44 (upd (σ.2.1 44) (8 : Int32).toNatClampNeg 1) → ∀ y3 : Int32, y3 = x4 + 1 → K175 σ1 x1 x2 y3
set_option maxHeartbeats 1000000 in
set_option maxRecDepth 20000 in
theorem wkM_barOf_273 {Post : Int32 → MS → Prop} (E : xE cX11_barOf RX11 5 (some .int) D cy p s m args meth c) {K175 : MS → Int32 → Int32 → Int32 → Prop} (hK175 : ∀ (σ : MS) (x1 : Int32) (x2 : Int32) (x4 : Int32) (H : Heap) (locs : List Loc) (ls : Array Slot), xH D A s (MW q cy σ) H locs → K175 σ x1 x2 x4 → lv_has ls 5 [(0, .ref (q 0)), (1, .int x1), (2, .int x2), (4, .int x4)] → W p l e rM_barOf s m args below meth c H locs 0 0 (MQ below (va_Qi Post (xB D cy (MW q cy) A) A) args s 0 0 A) (F0 m 175 ls [])) : ∀ (σ : MS) (x1 : Int32) (x2 : Int32) (x4 : Int32) (H : Heap) (locs : List Loc) (ls : Array Slot), xH D A s (MW q cy σ) H locs → wpM_barOf_273 K175 Post σ x1 x2 x4 → lv_has ls 5 [(0, .ref (q 0)), (1, .int x1), (2, .int x2), (4, .int x4)] → W p l e rM_barOf s m args below meth c H locs 0 0 (MQ below (va_Qi Post (xB D cy (MW q cy) A) A) args s 0 0 A) (F0 m 273 ls []) := by
  have hx := E.1
  have hb := E.2.1
  intro σ x1 x2 x4 H locs ls h hw hl
  unfold wpM_barOf_273 at hw
  refine lv_aload_n hx hb dX11_barOf_273 rfl (lv_at hl 0 rfl) ?_
  refine gX11_149 E h dX11_barOf_274 ?_
  refine lv_bipush (v := 8) hx hb dX11_barOf_277 (by decide) ?_
  refine lv_iconst (v := 1) hx hb dX11_barOf_279 (by decide) ?_
  have h2 := hw.1
  have hw := hw.2
  refine sM_44 E h h2 dX11_barOf_280 (fun σ1 H locs eσ1 h => ?_)
  have hw := hw σ1 eσ1
  obtain ⟨y3, ey3⟩ : ∃ z : Int32, z = x4 + 1 := ⟨_, rfl⟩
  have hw := hw y3 ey3
  refine lv_iinc (v := y3) (lv' := [(4, .int y3), (0, .ref (q 0)), (1, .int x1), (2, .int x2)]) hx hb dX11_barOf_281 hl (k := 3) rfl (by rw [ey3]; rfl) (by decide) rfl (fun ls hl => ?_)
  refine lv_goto (tgt := 175) hx hb dX11_barOf_284 (by decide) ?_
  exact hK175 _ _ _ _ _ _ _ h hw (lv_sub hl [1, 2, 3, 0] rfl)

def wpM_barOf_241 (K175 : MS → Int32 → Int32 → Int32 → Prop) (Post : Int32 → MS → Prop) (σ : MS) (x1 : Int32) (x2 : Int32) (x4 : Int32) : Prop := vp_in x4 200 ∧ vp_in x1 10 ∧ ((σ.2.1 41 x4.toNatClampNeg) = (σ.2.1 32 x1.toNatClampNeg) → vp_in x4 200 ∧ vp_in x1 10 ∧ ((σ.2.1 42 x4.toNatClampNeg) = (σ.2.1 31 x1.toNatClampNeg) → wpM_barOf_273 K175 Post σ x1 x2 x4) ∧ (¬ (σ.2.1 42 x4.toNatClampNeg) = (σ.2.1 31 x1.toNatClampNeg) → ∀ y8 : Int32, y8 = x4 + 1 → K175 σ x1 x2 y8)) ∧ (¬ (σ.2.1 41 x4.toNatClampNeg) = (σ.2.1 32 x1.toNatClampNeg) → ∀ y4 : Int32, y4 = x4 + 1 → K175 σ x1 x2 y4)
set_option maxHeartbeats 1000000 in
set_option maxRecDepth 20000 in
theorem wkM_barOf_241 {Post : Int32 → MS → Prop} (E : xE cX11_barOf RX11 5 (some .int) D cy p s m args meth c) {K175 : MS → Int32 → Int32 → Int32 → Prop} (hK175 : ∀ (σ : MS) (x1 : Int32) (x2 : Int32) (x4 : Int32) (H : Heap) (locs : List Loc) (ls : Array Slot), xH D A s (MW q cy σ) H locs → K175 σ x1 x2 x4 → lv_has ls 5 [(0, .ref (q 0)), (1, .int x1), (2, .int x2), (4, .int x4)] → W p l e rM_barOf s m args below meth c H locs 0 0 (MQ below (va_Qi Post (xB D cy (MW q cy) A) A) args s 0 0 A) (F0 m 175 ls [])) : ∀ (σ : MS) (x1 : Int32) (x2 : Int32) (x4 : Int32) (H : Heap) (locs : List Loc) (ls : Array Slot), xH D A s (MW q cy σ) H locs → wpM_barOf_241 K175 Post σ x1 x2 x4 → lv_has ls 5 [(0, .ref (q 0)), (1, .int x1), (2, .int x2), (4, .int x4)] → W p l e rM_barOf s m args below meth c H locs 0 0 (MQ below (va_Qi Post (xB D cy (MW q cy) A) A) args s 0 0 A) (F0 m 241 ls []) := by
  have hx := E.1
  have hb := E.2.1
  intro σ x1 x2 x4 H locs ls h hw hl
  unfold wpM_barOf_241 at hw
  refine lv_aload_n hx hb dX11_barOf_241 rfl (lv_at hl 0 rfl) ?_
  refine gX11_140 E h dX11_barOf_242 ?_
  refine lv_iload hx hb dX11_barOf_245 (lv_at hl 3 rfl) ?_
  have h1 := hw.1
  have hw := hw.2
  refine aM_41 E h h1 dX11_barOf_247 ?_
  refine lv_aload_n hx hb dX11_barOf_248 rfl (lv_at hl 0 rfl) ?_
  refine gX11_113 E h dX11_barOf_249 ?_
  refine lv_iload_n hx hb dX11_barOf_252 rfl (lv_at hl 1 rfl) ?_
  have h2 := hw.1
  have hw := hw.2
  refine aM_32 E h h2 dX11_barOf_253 ?_
  refine lv_icmp_ne (tgt := 281) hx hb dX11_barOf_254 (by decide) (fun c3 => ?_) (fun c3 => ?_)
  · have hw := hw.2 c3
    obtain ⟨y4, ey4⟩ : ∃ z : Int32, z = x4 + 1 := ⟨_, rfl⟩
    have hw := hw y4 ey4
    refine lv_iinc (v := y4) (lv' := [(4, .int y4), (0, .ref (q 0)), (1, .int x1), (2, .int x2)]) hx hb dX11_barOf_281 hl (k := 3) rfl (by rw [ey4]; rfl) (by decide) rfl (fun ls hl => ?_)
    refine lv_goto (tgt := 175) hx hb dX11_barOf_284 (by decide) ?_
    exact hK175 _ _ _ _ _ _ _ h hw (lv_sub hl [1, 2, 3, 0] rfl)
  · have hw := hw.1 c3
    refine lv_aload_n hx hb dX11_barOf_257 rfl (lv_at hl 0 rfl) ?_
    refine gX11_143 E h dX11_barOf_258 ?_
    refine lv_iload hx hb dX11_barOf_261 (lv_at hl 3 rfl) ?_
    have h5 := hw.1
    have hw := hw.2
    refine aM_42 E h h5 dX11_barOf_263 ?_
    refine lv_aload_n hx hb dX11_barOf_264 rfl (lv_at hl 0 rfl) ?_
    refine gX11_110 E h dX11_barOf_265 ?_
    refine lv_iload_n hx hb dX11_barOf_268 rfl (lv_at hl 1 rfl) ?_
    have h6 := hw.1
    have hw := hw.2
    refine aM_31 E h h6 dX11_barOf_269 ?_
    refine lv_icmp_ne (tgt := 281) hx hb dX11_barOf_270 (by decide) (fun c7 => ?_) (fun c7 => ?_)
    · have hw := hw.2 c7
      obtain ⟨y8, ey8⟩ : ∃ z : Int32, z = x4 + 1 := ⟨_, rfl⟩
      have hw := hw y8 ey8
      refine lv_iinc (v := y8) (lv' := [(4, .int y8), (0, .ref (q 0)), (1, .int x1), (2, .int x2)]) hx hb dX11_barOf_281 hl (k := 3) rfl (by rw [ey8]; rfl) (by decide) rfl (fun ls hl => ?_)
      refine lv_goto (tgt := 175) hx hb dX11_barOf_284 (by decide) ?_
      exact hK175 _ _ _ _ _ _ _ h hw (lv_sub hl [1, 2, 3, 0] rfl)
    · have hw := hw.1 c7
      exact wkM_barOf_273 E hK175 _ _ _ _ _ _ _ h hw (lv_sub hl [0, 1, 2, 3] rfl)

def wpM_barOf_175 (Post : Int32 → MS → Prop) : Nat → MS → Int32 → Int32 → Int32 → Prop
  | 0, _, _, _, _ => False
  | n + 1, σ, x1, x2, x4 => (x2 ≤ x4 → wpM_ruleOf σ x1 1 (fun r2 σ3 => Post r2 σ3)) ∧ (¬ x2 ≤ x4 → vp_in x4 200 ∧ ((σ.2.1 40 x4.toNatClampNeg) = 9 → vp_in x4 200 ∧ vp_in x1 10 ∧ ((σ.2.1 47 x1.toNatClampNeg) < (σ.2.1 43 x4.toNatClampNeg) → ∀ y10 : Int32, y10 = x4 + 1 → wpM_barOf_175 Post n σ x1 x2 y10) ∧ (¬ (σ.2.1 47 x1.toNatClampNeg) < (σ.2.1 43 x4.toNatClampNeg) → vp_in x4 200 ∧ vp_in x1 10 ∧ ((σ.2.1 41 x4.toNatClampNeg) = (σ.2.1 31 x1.toNatClampNeg) → vp_in x4 200 ∧ vp_in x1 10 ∧ ((σ.2.1 42 x4.toNatClampNeg) = (σ.2.1 32 x1.toNatClampNeg) → wpM_barOf_273 (fun a0 a1 a2 a3 => wpM_barOf_175 Post n a0 a1 a2 a3) Post σ x1 x2 x4) ∧ (¬ (σ.2.1 42 x4.toNatClampNeg) = (σ.2.1 32 x1.toNatClampNeg) → wpM_barOf_241 (fun a0 a1 a2 a3 => wpM_barOf_175 Post n a0 a1 a2 a3) Post σ x1 x2 x4)) ∧ (¬ (σ.2.1 41 x4.toNatClampNeg) = (σ.2.1 31 x1.toNatClampNeg) → wpM_barOf_241 (fun a0 a1 a2 a3 => wpM_barOf_175 Post n a0 a1 a2 a3) Post σ x1 x2 x4))) ∧ (¬ (σ.2.1 40 x4.toNatClampNeg) = 9 → ∀ y6 : Int32, y6 = x4 + 1 → wpM_barOf_175 Post n σ x1 x2 y6))
set_option maxHeartbeats 1000000 in
set_option maxRecDepth 20000 in
theorem wkM_barOf_175 {Post : Int32 → MS → Prop} (E : xE cX11_barOf RX11 5 (some .int) D cy p s m args meth c) : ∀ n : Nat, ∀ (σ : MS) (x1 : Int32) (x2 : Int32) (x4 : Int32) (H : Heap) (locs : List Loc) (ls : Array Slot), xH D A s (MW q cy σ) H locs → wpM_barOf_175 Post n σ x1 x2 x4 → lv_has ls 5 [(0, .ref (q 0)), (1, .int x1), (2, .int x2), (4, .int x4)] → W p l e rM_barOf s m args below meth c H locs 0 0 (MQ below (va_Qi Post (xB D cy (MW q cy) A) A) args s 0 0 A) (F0 m 175 ls []) := by
  have hx := E.1
  have hb := E.2.1
  intro n
  induction n with
  | zero => intro σ x1 x2 x4 H locs ls h hw hl; exact False.elim hw
  | succ n ih =>
    intro σ x1 x2 x4 H locs ls h hw hl
    refine lv_iload hx hb dX11_barOf_175 (lv_at hl 3 rfl) ?_
    refine lv_iload_n hx hb dX11_barOf_177 rfl (lv_at hl 2 rfl) ?_
    refine lv_icmp_ge (tgt := 287) hx hb dX11_barOf_178 (by decide) (fun c1 => ?_) (fun c1 => ?_)
    · have hw := hw.1 c1
      refine lv_aload_n hx hb dX11_barOf_287 rfl (lv_at hl 0 rfl) ?_
      refine lv_iload_n hx hb dX11_barOf_288 rfl (lv_at hl 1 rfl) ?_
      refine lv_iconst (v := 1) hx hb dX11_barOf_289 (by decide) ?_
      refine x_calli h (x_runV (WW := MW q cy) (rest := []) E h (cM_ruleOf hw) yyX11_ruleOf lX11_342 0 rfl rfl ⟨Nat.le_of_ble_eq_true rfl, Nat.le_of_ble_eq_true rfl⟩ rfl rfl hl.1 rfl (Nat.le_of_ble_eq_true rfl) dX11_barOf_290 ⟨Nat.le_refl 0, Nat.le_refl 0⟩) (fun r2 σ3 H locs hw h => ?_)
      exact x_iret E h hw dX11_barOf_293
    · have hw := hw.2 c1
      refine lv_aload_n hx hb dX11_barOf_181 rfl (lv_at hl 0 rfl) ?_
      refine gX11_137 E h dX11_barOf_182 ?_
      refine lv_iload hx hb dX11_barOf_185 (lv_at hl 3 rfl) ?_
      have h4 := hw.1
      have hw := hw.2
      refine aM_40 E h h4 dX11_barOf_187 ?_
      refine lv_bipush (v := 9) hx hb dX11_barOf_188 (by decide) ?_
      refine lv_icmp_ne (tgt := 281) hx hb dX11_barOf_190 (by decide) (fun c5 => ?_) (fun c5 => ?_)
      · have hw := hw.2 c5
        obtain ⟨y6, ey6⟩ : ∃ z : Int32, z = x4 + 1 := ⟨_, rfl⟩
        have hw := hw y6 ey6
        refine lv_iinc (v := y6) (lv' := [(4, .int y6), (0, .ref (q 0)), (1, .int x1), (2, .int x2)]) hx hb dX11_barOf_281 hl (k := 3) rfl (by rw [ey6]; rfl) (by decide) rfl (fun ls hl => ?_)
        refine lv_goto (tgt := 175) hx hb dX11_barOf_284 (by decide) ?_
        exact ih _ _ _ _ _ _ _ h hw (lv_sub hl [1, 2, 3, 0] rfl)
      · have hw := hw.1 c5
        refine lv_aload_n hx hb dX11_barOf_193 rfl (lv_at hl 0 rfl) ?_
        refine gX11_146 E h dX11_barOf_194 ?_
        refine lv_iload hx hb dX11_barOf_197 (lv_at hl 3 rfl) ?_
        have h7 := hw.1
        have hw := hw.2
        refine aM_43 E h h7 dX11_barOf_199 ?_
        refine lv_aload_n hx hb dX11_barOf_200 rfl (lv_at hl 0 rfl) ?_
        refine gX11_161 E h dX11_barOf_201 ?_
        refine lv_iload_n hx hb dX11_barOf_204 rfl (lv_at hl 1 rfl) ?_
        have h8 := hw.1
        have hw := hw.2
        refine aM_47 E h h8 dX11_barOf_205 ?_
        refine lv_icmp_gt (tgt := 281) hx hb dX11_barOf_206 (by decide) (fun c9 => ?_) (fun c9 => ?_)
        · have hw := hw.1 c9
          obtain ⟨y10, ey10⟩ : ∃ z : Int32, z = x4 + 1 := ⟨_, rfl⟩
          have hw := hw y10 ey10
          refine lv_iinc (v := y10) (lv' := [(4, .int y10), (0, .ref (q 0)), (1, .int x1), (2, .int x2)]) hx hb dX11_barOf_281 hl (k := 3) rfl (by rw [ey10]; rfl) (by decide) rfl (fun ls hl => ?_)
          refine lv_goto (tgt := 175) hx hb dX11_barOf_284 (by decide) ?_
          exact ih _ _ _ _ _ _ _ h hw (lv_sub hl [1, 2, 3, 0] rfl)
        · have hw := hw.2 c9
          refine lv_aload_n hx hb dX11_barOf_209 rfl (lv_at hl 0 rfl) ?_
          refine gX11_140 E h dX11_barOf_210 ?_
          refine lv_iload hx hb dX11_barOf_213 (lv_at hl 3 rfl) ?_
          have h11 := hw.1
          have hw := hw.2
          refine aM_41 E h h11 dX11_barOf_215 ?_
          refine lv_aload_n hx hb dX11_barOf_216 rfl (lv_at hl 0 rfl) ?_
          refine gX11_110 E h dX11_barOf_217 ?_
          refine lv_iload_n hx hb dX11_barOf_220 rfl (lv_at hl 1 rfl) ?_
          have h12 := hw.1
          have hw := hw.2
          refine aM_31 E h h12 dX11_barOf_221 ?_
          refine lv_icmp_ne (tgt := 241) hx hb dX11_barOf_222 (by decide) (fun c13 => ?_) (fun c13 => ?_)
          · have hw := hw.2 c13
            exact wkM_barOf_241 E ih _ _ _ _ _ _ _ h hw (lv_sub hl [0, 1, 2, 3] rfl)
          · have hw := hw.1 c13
            refine lv_aload_n hx hb dX11_barOf_225 rfl (lv_at hl 0 rfl) ?_
            refine gX11_143 E h dX11_barOf_226 ?_
            refine lv_iload hx hb dX11_barOf_229 (lv_at hl 3 rfl) ?_
            have h14 := hw.1
            have hw := hw.2
            refine aM_42 E h h14 dX11_barOf_231 ?_
            refine lv_aload_n hx hb dX11_barOf_232 rfl (lv_at hl 0 rfl) ?_
            refine gX11_113 E h dX11_barOf_233 ?_
            refine lv_iload_n hx hb dX11_barOf_236 rfl (lv_at hl 1 rfl) ?_
            have h15 := hw.1
            have hw := hw.2
            refine aM_32 E h h15 dX11_barOf_237 ?_
            refine lv_icmp_eq (tgt := 273) hx hb dX11_barOf_238 (by decide) (fun c16 => ?_) (fun c16 => ?_)
            · have hw := hw.1 c16
              exact wkM_barOf_273 E ih _ _ _ _ _ _ _ h hw (lv_sub hl [0, 1, 2, 3] rfl)
            · have hw := hw.2 c16
              exact wkM_barOf_241 E ih _ _ _ _ _ _ _ h hw (lv_sub hl [0, 1, 2, 3] rfl)

def wpM_barOf_106 (Post : Int32 → MS → Prop) (σ : MS) (x1 : Int32) (x2 : Int32) (t1 : Int32) (t2 : Int32) : Prop := vp_in t1 12 ∧ ∀ σ1 : MS, σ1 = mA σ 44 (upd (σ.2.1 44) t1.toNatClampNeg t2) → vp_in x1 10 ∧ vp_in x1 10 ∧ wpM_degreeOf σ1 (σ1.2.1 31 x1.toNatClampNeg) (σ1.2.1 32 x1.toNatClampNeg) (fun r5 σ6 => vp_in 6 12 ∧ ∀ σ7 : MS, σ7 = mA σ6 44 (upd (σ6.2.1 44) (6 : Int32).toNatClampNeg r5) → vp_in x1 10 ∧ vp_in x1 10 ∧ wpM_vows σ7 (σ7.2.1 31 x1.toNatClampNeg) (σ7.2.1 47 x1.toNatClampNeg) x2 (fun r11 σ12 => vp_in x1 10 ∧ vp_in x1 10 ∧ wpM_vows σ12 (σ12.2.1 32 x1.toNatClampNeg) (σ12.2.1 47 x1.toNatClampNeg) x2 (fun r15 σ16 => vp_in 7 12 ∧ ∀ σ17 : MS, σ17 = mA σ16 44 (upd (σ16.2.1 44) (7 : Int32).toNatClampNeg (r11 + r15)) → ∃ g, wpM_barOf_175 Post g σ17 x1 x2 0)))
set_option maxHeartbeats 1000000 in
set_option maxRecDepth 20000 in
theorem wkM_barOf_106 {Post : Int32 → MS → Prop} (E : xE cX11_barOf RX11 5 (some .int) D cy p s m args meth c) : ∀ (σ : MS) (x1 : Int32) (x2 : Int32) (t1 : Int32) (t2 : Int32) (H : Heap) (locs : List Loc) (ls : Array Slot), xH D A s (MW q cy σ) H locs → wpM_barOf_106 Post σ x1 x2 t1 t2 → lv_has ls 5 [(0, .ref (q 0)), (1, .int x1), (2, .int x2)] → W p l e rM_barOf s m args below meth c H locs 0 0 (MQ below (va_Qi Post (xB D cy (MW q cy) A) A) args s 0 0 A) (F0 m 106 ls [.int t2, .int t1, .ref (q 44)]) := by
  have hx := E.1
  have hb := E.2.1
  intro σ x1 x2 t1 t2 H locs ls h hw hl
  unfold wpM_barOf_106 at hw
  have h2 := hw.1
  have hw := hw.2
  refine sM_44 E h h2 dX11_barOf_106 (fun σ1 H locs eσ1 h => ?_)
  have hw := hw σ1 eσ1
  refine lv_aload_n hx hb dX11_barOf_107 rfl (lv_at hl 0 rfl) ?_
  refine gX11_149 E h dX11_barOf_108 ?_
  refine lv_bipush (v := 6) hx hb dX11_barOf_111 (by decide) ?_
  refine lv_aload_n hx hb dX11_barOf_113 rfl (lv_at hl 0 rfl) ?_
  refine lv_aload_n hx hb dX11_barOf_114 rfl (lv_at hl 0 rfl) ?_
  refine gX11_110 E h dX11_barOf_115 ?_
  refine lv_iload_n hx hb dX11_barOf_118 rfl (lv_at hl 1 rfl) ?_
  have h3 := hw.1
  have hw := hw.2
  refine aM_31 E h h3 dX11_barOf_119 ?_
  refine lv_aload_n hx hb dX11_barOf_120 rfl (lv_at hl 0 rfl) ?_
  refine gX11_113 E h dX11_barOf_121 ?_
  refine lv_iload_n hx hb dX11_barOf_124 rfl (lv_at hl 1 rfl) ?_
  have h4 := hw.1
  have hw := hw.2
  refine aM_32 E h h4 dX11_barOf_125 ?_
  refine x_calli h (x_runV (WW := MW q cy) (rest := [.int 6, .ref (q 44)]) E h (cM_degreeOf hw) yyX11_degreeOf lX11_306 0 rfl rfl ⟨Nat.le_of_ble_eq_true rfl, Nat.le_of_ble_eq_true rfl⟩ rfl rfl hl.1 rfl (Nat.le_of_ble_eq_true rfl) dX11_barOf_126 ⟨Nat.le_refl 0, Nat.le_refl 0⟩) (fun r5 σ6 H locs hw h => ?_)
  have h8 := hw.1
  have hw := hw.2
  refine sM_44 E h h8 dX11_barOf_129 (fun σ7 H locs eσ7 h => ?_)
  have hw := hw σ7 eσ7
  refine lv_aload_n hx hb dX11_barOf_130 rfl (lv_at hl 0 rfl) ?_
  refine gX11_149 E h dX11_barOf_131 ?_
  refine lv_bipush (v := 7) hx hb dX11_barOf_134 (by decide) ?_
  refine lv_aload_n hx hb dX11_barOf_136 rfl (lv_at hl 0 rfl) ?_
  refine lv_aload_n hx hb dX11_barOf_137 rfl (lv_at hl 0 rfl) ?_
  refine gX11_110 E h dX11_barOf_138 ?_
  refine lv_iload_n hx hb dX11_barOf_141 rfl (lv_at hl 1 rfl) ?_
  have h9 := hw.1
  have hw := hw.2
  refine aM_31 E h h9 dX11_barOf_142 ?_
  refine lv_aload_n hx hb dX11_barOf_143 rfl (lv_at hl 0 rfl) ?_
  refine gX11_161 E h dX11_barOf_144 ?_
  refine lv_iload_n hx hb dX11_barOf_147 rfl (lv_at hl 1 rfl) ?_
  have h10 := hw.1
  have hw := hw.2
  refine aM_47 E h h10 dX11_barOf_148 ?_
  refine lv_iload_n hx hb dX11_barOf_149 rfl (lv_at hl 2 rfl) ?_
  refine x_calli h (x_runV (WW := MW q cy) (rest := [.int 7, .ref (q 44)]) E h (cM_vows hw) yyX11_vows lX11_349 0 rfl rfl ⟨Nat.le_of_ble_eq_true rfl, Nat.le_of_ble_eq_true rfl⟩ rfl rfl hl.1 rfl (Nat.le_of_ble_eq_true rfl) dX11_barOf_150 ⟨Nat.le_refl 0, Nat.le_refl 0⟩) (fun r11 σ12 H locs hw h => ?_)
  refine lv_aload_n hx hb dX11_barOf_153 rfl (lv_at hl 0 rfl) ?_
  refine lv_aload_n hx hb dX11_barOf_154 rfl (lv_at hl 0 rfl) ?_
  refine gX11_113 E h dX11_barOf_155 ?_
  refine lv_iload_n hx hb dX11_barOf_158 rfl (lv_at hl 1 rfl) ?_
  have h13 := hw.1
  have hw := hw.2
  refine aM_32 E h h13 dX11_barOf_159 ?_
  refine lv_aload_n hx hb dX11_barOf_160 rfl (lv_at hl 0 rfl) ?_
  refine gX11_161 E h dX11_barOf_161 ?_
  refine lv_iload_n hx hb dX11_barOf_164 rfl (lv_at hl 1 rfl) ?_
  have h14 := hw.1
  have hw := hw.2
  refine aM_47 E h h14 dX11_barOf_165 ?_
  refine lv_iload_n hx hb dX11_barOf_166 rfl (lv_at hl 2 rfl) ?_
  refine x_calli h (x_runV (WW := MW q cy) (rest := [.int r11, .int 7, .ref (q 44)]) E h (cM_vows hw) yyX11_vows lX11_349 0 rfl rfl ⟨Nat.le_of_ble_eq_true rfl, Nat.le_of_ble_eq_true rfl⟩ rfl rfl hl.1 rfl (Nat.le_of_ble_eq_true rfl) dX11_barOf_167 ⟨Nat.le_refl 0, Nat.le_refl 0⟩) (fun r15 σ16 H locs hw h => ?_)
  refine lv_iadd hx hb dX11_barOf_170 ?_
  have h18 := hw.1
  have hw := hw.2
  refine sM_44 E h h18 dX11_barOf_171 (fun σ17 H locs eσ17 h => ?_)
  have hw := hw σ17 eσ17
  refine lv_iconst (v := 0) hx hb dX11_barOf_172 (by decide) ?_
  refine lv_istore (lv' := [(4, .int 0), (0, .ref (q 0)), (1, .int x1), (2, .int x2)]) hx hb dX11_barOf_173 hl (by decide) rfl (fun ls hl => ?_)
  obtain ⟨g, hw⟩ := hw
  exact wkM_barOf_175 E g _ _ _ _ _ _ _ h hw (lv_sub hl [1, 2, 3, 0] rfl)

def wpM_barOf_74 (Post : Int32 → MS → Prop) (σ : MS) (x1 : Int32) (x2 : Int32) (t0 : Int32) : Prop := vp_in x1 10 ∧ (t0 ≤ (σ.2.1 47 x1.toNatClampNeg) → vp_in x1 10 ∧ wpM_barOf_106 Post σ x1 x2 5 (((σ.2.1 47 x1.toNatClampNeg) - t0) / 365)) ∧ (¬ t0 ≤ (σ.2.1 47 x1.toNatClampNeg) → wpM_barOf_106 Post σ x1 x2 5 0)
set_option maxHeartbeats 1000000 in
set_option maxRecDepth 20000 in
theorem wkM_barOf_74 {Post : Int32 → MS → Prop} (E : xE cX11_barOf RX11 5 (some .int) D cy p s m args meth c) : ∀ (σ : MS) (x1 : Int32) (x2 : Int32) (t0 : Int32) (H : Heap) (locs : List Loc) (ls : Array Slot), xH D A s (MW q cy σ) H locs → wpM_barOf_74 Post σ x1 x2 t0 → lv_has ls 5 [(0, .ref (q 0)), (1, .int x1), (2, .int x2)] → W p l e rM_barOf s m args below meth c H locs 0 0 (MQ below (va_Qi Post (xB D cy (MW q cy) A) A) args s 0 0 A) (F0 m 74 ls [.int t0]) := by
  have hx := E.1
  have hb := E.2.1
  intro σ x1 x2 t0 H locs ls h hw hl
  unfold wpM_barOf_74 at hw
  refine lv_istore_n (lv' := [(3, .int t0), (0, .ref (q 0)), (1, .int x1), (2, .int x2)]) hx hb dX11_barOf_74 rfl hl (by decide) rfl (fun ls hl => ?_)
  refine lv_aload_n hx hb dX11_barOf_75 rfl (lv_at hl 1 rfl) ?_
  refine gX11_149 E h dX11_barOf_76 ?_
  refine lv_iconst (v := 5) hx hb dX11_barOf_79 (by decide) ?_
  refine lv_aload_n hx hb dX11_barOf_80 rfl (lv_at hl 1 rfl) ?_
  refine gX11_161 E h dX11_barOf_81 ?_
  refine lv_iload_n hx hb dX11_barOf_84 rfl (lv_at hl 2 rfl) ?_
  have h1 := hw.1
  have hw := hw.2
  refine aM_47 E h h1 dX11_barOf_85 ?_
  refine lv_iload_n hx hb dX11_barOf_86 rfl (lv_at hl 0 rfl) ?_
  refine lv_icmp_ge (tgt := 94) hx hb dX11_barOf_87 (by decide) (fun c2 => ?_) (fun c2 => ?_)
  · have hw := hw.1 c2
    refine lv_aload_n hx hb dX11_barOf_94 rfl (lv_at hl 1 rfl) ?_
    refine gX11_161 E h dX11_barOf_95 ?_
    refine lv_iload_n hx hb dX11_barOf_98 rfl (lv_at hl 2 rfl) ?_
    have h3 := hw.1
    have hw := hw.2
    refine aM_47 E h h3 dX11_barOf_99 ?_
    refine lv_iload_n hx hb dX11_barOf_100 rfl (lv_at hl 0 rfl) ?_
    refine lv_isub hx hb dX11_barOf_101 ?_
    refine lv_sipush (v := 365) hx hb dX11_barOf_102 (by decide) ?_
    refine lv_idiv hx hb dX11_barOf_105 (by decide) ?_
    exact wkM_barOf_106 E _ _ _ _ _ _ _ _ h hw (lv_sub hl [1, 2, 3] rfl)
  · have hw := hw.2 c2
    refine lv_iconst (v := 0) hx hb dX11_barOf_90 (by decide) ?_
    refine lv_goto (tgt := 106) hx hb dX11_barOf_91 (by decide) ?_
    exact wkM_barOf_106 E _ _ _ _ _ _ _ _ h hw (lv_sub hl [1, 2, 3] rfl)

def wpM_barOf (σ : MS) (x1 : Int32) (x2 : Int32) (Post : Int32 → MS → Prop) : Prop := wpM_fateOf σ x1 0 x2 (fun r1 σ2 => vp_in x1 10 ∧ ((σ2.2.1 47 x1.toNatClampNeg) < r1 → wpM_nothing σ2 x1 (fun σ5 => vp_in x1 10 ∧ vp_in (σ5.2.1 31 x1.toNatClampNeg) 12 ∧ vp_in x1 10 ∧ vp_in (σ5.2.1 32 x1.toNatClampNeg) 12 ∧ ((σ5.2.1 28 (σ5.2.1 31 x1.toNatClampNeg).toNatClampNeg) ≤ (σ5.2.1 28 (σ5.2.1 32 x1.toNatClampNeg).toNatClampNeg) → vp_in x1 10 ∧ vp_in (σ5.2.1 32 x1.toNatClampNeg) 12 ∧ wpM_barOf_74 Post σ5 x1 x2 (σ5.2.1 28 (σ5.2.1 32 x1.toNatClampNeg).toNatClampNeg)) ∧ (¬ (σ5.2.1 28 (σ5.2.1 31 x1.toNatClampNeg).toNatClampNeg) ≤ (σ5.2.1 28 (σ5.2.1 32 x1.toNatClampNeg).toNatClampNeg) → vp_in x1 10 ∧ vp_in (σ5.2.1 31 x1.toNatClampNeg) 12 ∧ wpM_barOf_74 Post σ5 x1 x2 (σ5.2.1 28 (σ5.2.1 31 x1.toNatClampNeg).toNatClampNeg)))) ∧ (¬ (σ2.2.1 47 x1.toNatClampNeg) < r1 → Post ((-2)) σ2))
set_option maxHeartbeats 1000000 in
set_option maxRecDepth 20000 in
theorem cM_barOf {l : Launch} {D : va_G} {cy : Nat → ClassId} {q : Nat → Nat} {σ : MS} {sz : Nat} {x1 : Int32} {x2 : Int32} {Post : Int32 → MS → Prop} (hw : wpM_barOf σ x1 x2 Post) : Met l yX11_barOf (Cond.code yX11_barOf cX11_barOf 5 (some .int) :: wsA) rM_barOf (xPc D cy (MW q cy σ) sz [.ref (q 0), .int x1, .int x2]) (va_Qi Post (xB D cy (MW q cy) (va_A (MW q cy σ) sz)) (va_A (MW q cy σ) sz)) 0 0 (va_A (MW q cy σ) sz) := by
  refine x_enter (own := RX11) (WW := MW q cy) (by decide) rfl (Nat.le_of_ble_eq_true rfl) ?_
  intro p e s m below meth c ls E h hl
  have hx := E.1
  have hb := E.2.1
  have hl : lv_has ls 5 [(0, .ref (q 0)), (1, .int x1), (2, .int x2)] := hl
  unfold wpM_barOf at hw
  refine lv_aload_n hx hb dX11_barOf_0 rfl (lv_at hl 0 rfl) ?_
  refine lv_iload_n hx hb dX11_barOf_1 rfl (lv_at hl 1 rfl) ?_
  refine lv_iconst (v := 0) hx hb dX11_barOf_2 (by decide) ?_
  refine lv_iload_n hx hb dX11_barOf_3 rfl (lv_at hl 2 rfl) ?_
  refine x_calli h (x_runV (WW := MW q cy) (rest := []) E h (cM_fateOf hw) yyX11_fateOf lX11_346 0 rfl rfl ⟨Nat.le_of_ble_eq_true rfl, Nat.le_of_ble_eq_true rfl⟩ rfl rfl hl.1 rfl (Nat.le_of_ble_eq_true rfl) dX11_barOf_4 ⟨Nat.le_refl 0, Nat.le_refl 0⟩) (fun r1 σ2 H locs hw h => ?_)
  refine lv_aload_n hx hb dX11_barOf_7 rfl (lv_at hl 0 rfl) ?_
  refine gX11_161 E h dX11_barOf_8 ?_
  refine lv_iload_n hx hb dX11_barOf_11 rfl (lv_at hl 1 rfl) ?_
  have h3 := hw.1
  have hw := hw.2
  refine aM_47 E h h3 dX11_barOf_12 ?_
  refine lv_icmp_gt (tgt := 19) hx hb dX11_barOf_13 (by decide) (fun c4 => ?_) (fun c4 => ?_)
  · have hw := hw.1 c4
    refine lv_aload_n hx hb dX11_barOf_19 rfl (lv_at hl 0 rfl) ?_
    refine lv_iload_n hx hb dX11_barOf_20 rfl (lv_at hl 1 rfl) ?_
    refine x_callv h (x_runV (WW := MW q cy) (rest := []) E h (cM_nothing hw) yyX11_nothing lX11_336 0 rfl rfl ⟨Nat.le_of_ble_eq_true rfl, Nat.le_of_ble_eq_true rfl⟩ rfl rfl hl.1 rfl (Nat.le_of_ble_eq_true rfl) dX11_barOf_21 ⟨Nat.le_refl 0, Nat.le_refl 0⟩) (fun σ5 H locs hw h => ?_)
    refine lv_aload_n hx hb dX11_barOf_24 rfl (lv_at hl 0 rfl) ?_
    refine gX11_101 E h dX11_barOf_25 ?_
    refine lv_aload_n hx hb dX11_barOf_28 rfl (lv_at hl 0 rfl) ?_
    refine gX11_110 E h dX11_barOf_29 ?_
    refine lv_iload_n hx hb dX11_barOf_32 rfl (lv_at hl 1 rfl) ?_
    have h6 := hw.1
    have hw := hw.2
    refine aM_31 E h h6 dX11_barOf_33 ?_
    have h7 := hw.1
    have hw := hw.2
    refine aM_28 E h h7 dX11_barOf_34 ?_
    refine lv_aload_n hx hb dX11_barOf_35 rfl (lv_at hl 0 rfl) ?_
    refine gX11_101 E h dX11_barOf_36 ?_
    refine lv_aload_n hx hb dX11_barOf_39 rfl (lv_at hl 0 rfl) ?_
    refine gX11_113 E h dX11_barOf_40 ?_
    refine lv_iload_n hx hb dX11_barOf_43 rfl (lv_at hl 1 rfl) ?_
    have h8 := hw.1
    have hw := hw.2
    refine aM_32 E h h8 dX11_barOf_44 ?_
    have h9 := hw.1
    have hw := hw.2
    refine aM_28 E h h9 dX11_barOf_45 ?_
    refine lv_icmp_le (tgt := 63) hx hb dX11_barOf_46 (by decide) (fun c10 => ?_) (fun c10 => ?_)
    · have hw := hw.1 c10
      refine lv_aload_n hx hb dX11_barOf_63 rfl (lv_at hl 0 rfl) ?_
      refine gX11_101 E h dX11_barOf_64 ?_
      refine lv_aload_n hx hb dX11_barOf_67 rfl (lv_at hl 0 rfl) ?_
      refine gX11_113 E h dX11_barOf_68 ?_
      refine lv_iload_n hx hb dX11_barOf_71 rfl (lv_at hl 1 rfl) ?_
      have h11 := hw.1
      have hw := hw.2
      refine aM_32 E h h11 dX11_barOf_72 ?_
      have h12 := hw.1
      have hw := hw.2
      refine aM_28 E h h12 dX11_barOf_73 ?_
      exact wkM_barOf_74 E _ _ _ _ _ _ _ h hw (lv_sub hl [0, 1, 2] rfl)
    · have hw := hw.2 c10
      refine lv_aload_n hx hb dX11_barOf_49 rfl (lv_at hl 0 rfl) ?_
      refine gX11_101 E h dX11_barOf_50 ?_
      refine lv_aload_n hx hb dX11_barOf_53 rfl (lv_at hl 0 rfl) ?_
      refine gX11_110 E h dX11_barOf_54 ?_
      refine lv_iload_n hx hb dX11_barOf_57 rfl (lv_at hl 1 rfl) ?_
      have h13 := hw.1
      have hw := hw.2
      refine aM_31 E h h13 dX11_barOf_58 ?_
      have h14 := hw.1
      have hw := hw.2
      refine aM_28 E h h14 dX11_barOf_59 ?_
      refine lv_goto (tgt := 74) hx hb dX11_barOf_60 (by decide) ?_
      exact wkM_barOf_74 E _ _ _ _ _ _ _ h hw (lv_sub hl [0, 1, 2] rfl)
  · have hw := hw.2 c4
    refine lv_bipush (v := (-2)) hx hb dX11_barOf_16 (by decide) ?_
    exact x_iret E h hw dX11_barOf_18

end MWalk
