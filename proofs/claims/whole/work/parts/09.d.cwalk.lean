section CWalk
variable {p : Program} {l : Launch} {e : Env} {s : State} {m : MethodId} {args : Array Value} {below : List Frame} {meth : Method} {c : Code} {D : va_G} {cy : Nat → ClassId} {ks : Nat × Nat × Option Nat} {q : Nat → Nat} {A : Nat → Prop}
abbrev rC_X4_nextWaiting : Room := { frames := 0, cells := 0, slots := 0, locals := 0 }
def wpC_X4_nextWaiting_45 (K4 : CS → Int32 → Int32 → Prop) (Post : Int32 → CS → Prop) (σ : CS) (x2 : Int32) : Prop := ∀ y1 : Int32, y1 = x2 + 1 → K4 σ x2 y1
set_option maxHeartbeats 1000000 in
set_option maxRecDepth 20000 in
theorem wkC_X4_nextWaiting_45 {Post : Int32 → CS → Prop} (E : zE cX4_nextWaiting RX4 3 (some .int) D cy ks A p s m args meth c) {K4 : CS → Int32 → Int32 → Prop} (hK4 : ∀ (σ : CS) (x1 : Int32) (x2 : Int32) (H : Heap) (locs : List Loc) (ls : Array Slot), xH D A s (CW q cy σ) H locs → K4 σ x1 x2 → lv_has ls 3 [(0, .ref (q 30)), (1, .int x1), (2, .int x2)] → W p l e rC_X4_nextWaiting s m args below meth c H locs 0 0 (MQ below (va_Qi Post (xB D cy (CW q cy) A) A) args s 0 0 A) (F0 m 4 ls [])) : ∀ (σ : CS) (x2 : Int32) (H : Heap) (locs : List Loc) (ls : Array Slot), xH D A s (CW q cy σ) H locs → wpC_X4_nextWaiting_45 K4 Post σ x2 → lv_has ls 3 [(0, .ref (q 30)), (2, .int x2)] → W p l e rC_X4_nextWaiting s m args below meth c H locs 0 0 (MQ below (va_Qi Post (xB D cy (CW q cy) A) A) args s 0 0 A) (F0 m 45 ls []) := by
  have hx := E.1.1
  have hb := E.1.2.1
  intro σ x2 H locs ls h hw hl
  unfold wpC_X4_nextWaiting_45 at hw
  refine lv_iload_n hx hb dX4_nextWaiting_45 rfl (lv_at hl 1 rfl) ?_
  refine lv_istore_n (lv' := [(1, .int x2), (0, .ref (q 30)), (2, .int x2)]) hx hb dX4_nextWaiting_46 rfl hl (by decide) rfl (fun ls hl => ?_)
  obtain ⟨y1, ey1⟩ : ∃ z : Int32, z = x2 + 1 := ⟨_, rfl⟩
  have hw := hw y1 ey1
  refine lv_iinc (v := y1) (lv' := [(2, .int y1), (1, .int x2), (0, .ref (q 30))]) hx hb dX4_nextWaiting_47 hl (k := 2) rfl (by rw [ey1]; rfl) (by decide) rfl (fun ls hl => ?_)
  refine lv_goto (tgt := 4) hx hb dX4_nextWaiting_50 (by decide) ?_
  exact hK4 _ _ _ _ _ _ h hw (lv_sub hl [2, 1, 0] rfl)

def wpC_X4_nextWaiting_4 (Post : Int32 → CS → Prop) : Nat → CS → Int32 → Int32 → Prop
  | 0, _, _, _ => False
  | n + 1, σ, x1, x2 => ((σ.1 286) ≤ x2 → Post x1 σ) ∧ (¬ (σ.1 286) ≤ x2 → vp_in x2 10 ∧ ((σ.2.1 38 x2.toNatClampNeg) = ((-1)) → (x1 = ((-1)) → wpC_X4_nextWaiting_45 (fun a0 a1 a2 => wpC_X4_nextWaiting_4 Post n a0 a1 a2) Post σ x2) ∧ (¬ x1 = ((-1)) → vp_in x2 10 ∧ vp_in x1 10 ∧ ((σ.2.1 37 x1.toNatClampNeg) ≤ (σ.2.1 37 x2.toNatClampNeg) → ∀ y9 : Int32, y9 = x2 + 1 → wpC_X4_nextWaiting_4 Post n σ x1 y9) ∧ (¬ (σ.2.1 37 x1.toNatClampNeg) ≤ (σ.2.1 37 x2.toNatClampNeg) → wpC_X4_nextWaiting_45 (fun a0 a1 a2 => wpC_X4_nextWaiting_4 Post n a0 a1 a2) Post σ x2))) ∧ (¬ (σ.2.1 38 x2.toNatClampNeg) = ((-1)) → ∀ y4 : Int32, y4 = x2 + 1 → wpC_X4_nextWaiting_4 Post n σ x1 y4))
set_option maxHeartbeats 1000000 in
set_option maxRecDepth 20000 in
theorem wkC_X4_nextWaiting_4 {Post : Int32 → CS → Prop} (E : zE cX4_nextWaiting RX4 3 (some .int) D cy ks A p s m args meth c) : ∀ n : Nat, ∀ (σ : CS) (x1 : Int32) (x2 : Int32) (H : Heap) (locs : List Loc) (ls : Array Slot), xH D A s (CW q cy σ) H locs → wpC_X4_nextWaiting_4 Post n σ x1 x2 → lv_has ls 3 [(0, .ref (q 30)), (1, .int x1), (2, .int x2)] → W p l e rC_X4_nextWaiting s m args below meth c H locs 0 0 (MQ below (va_Qi Post (xB D cy (CW q cy) A) A) args s 0 0 A) (F0 m 4 ls []) := by
  have hx := E.1.1
  have hb := E.1.2.1
  intro n
  induction n with
  | zero => intro σ x1 x2 H locs ls h hw hl; exact False.elim hw
  | succ n ih =>
    intro σ x1 x2 H locs ls h hw hl
    refine lv_iload_n hx hb dX4_nextWaiting_4 rfl (lv_at hl 2 rfl) ?_
    refine lv_aload_n hx hb dX4_nextWaiting_5 rfl (lv_at hl 0 rfl) ?_
    refine gX4_57 E.1 h dX4_nextWaiting_6 ?_
    refine gX4_71 E.1 h dX4_nextWaiting_9 ?_
    refine lv_icmp_ge (tgt := 53) hx hb dX4_nextWaiting_12 (by decide) (fun c1 => ?_) (fun c1 => ?_)
    · have hw := hw.1 c1
      refine lv_iload_n hx hb dX4_nextWaiting_53 rfl (lv_at hl 1 rfl) ?_
      exact x_iret E.1 h hw dX4_nextWaiting_54
    · have hw := hw.2 c1
      refine lv_aload_n hx hb dX4_nextWaiting_15 rfl (lv_at hl 0 rfl) ?_
      refine gX4_28 E.1 h dX4_nextWaiting_16 ?_
      refine lv_iload_n hx hb dX4_nextWaiting_19 rfl (lv_at hl 2 rfl) ?_
      have h2 := hw.1
      have hw := hw.2
      refine aC_38 E.1 h h2 dX4_nextWaiting_20 ?_
      refine lv_iconst (v := (-1)) hx hb dX4_nextWaiting_21 (by decide) ?_
      refine lv_icmp_ne (tgt := 47) hx hb dX4_nextWaiting_22 (by decide) (fun c3 => ?_) (fun c3 => ?_)
      · have hw := hw.2 c3
        obtain ⟨y4, ey4⟩ : ∃ z : Int32, z = x2 + 1 := ⟨_, rfl⟩
        have hw := hw y4 ey4
        refine lv_iinc (v := y4) (lv' := [(2, .int y4), (0, .ref (q 30)), (1, .int x1)]) hx hb dX4_nextWaiting_47 hl (k := 2) rfl (by rw [ey4]; rfl) (by decide) rfl (fun ls hl => ?_)
        refine lv_goto (tgt := 4) hx hb dX4_nextWaiting_50 (by decide) ?_
        exact ih _ _ _ _ _ _ h hw (lv_sub hl [1, 2, 0] rfl)
      · have hw := hw.1 c3
        refine lv_iload_n hx hb dX4_nextWaiting_25 rfl (lv_at hl 1 rfl) ?_
        refine lv_iconst (v := (-1)) hx hb dX4_nextWaiting_26 (by decide) ?_
        refine lv_icmp_eq (tgt := 45) hx hb dX4_nextWaiting_27 (by decide) (fun c5 => ?_) (fun c5 => ?_)
        · have hw := hw.1 c5
          exact wkC_X4_nextWaiting_45 E ih _ _ _ _ _ h hw (lv_sub hl [0, 2] rfl)
        · have hw := hw.2 c5
          refine lv_aload_n hx hb dX4_nextWaiting_30 rfl (lv_at hl 0 rfl) ?_
          refine gX4_25 E.1 h dX4_nextWaiting_31 ?_
          refine lv_iload_n hx hb dX4_nextWaiting_34 rfl (lv_at hl 2 rfl) ?_
          have h6 := hw.1
          have hw := hw.2
          refine aC_37 E.1 h h6 dX4_nextWaiting_35 ?_
          refine lv_aload_n hx hb dX4_nextWaiting_36 rfl (lv_at hl 0 rfl) ?_
          refine gX4_25 E.1 h dX4_nextWaiting_37 ?_
          refine lv_iload_n hx hb dX4_nextWaiting_40 rfl (lv_at hl 1 rfl) ?_
          have h7 := hw.1
          have hw := hw.2
          refine aC_37 E.1 h h7 dX4_nextWaiting_41 ?_
          refine lv_icmp_ge (tgt := 47) hx hb dX4_nextWaiting_42 (by decide) (fun c8 => ?_) (fun c8 => ?_)
          · have hw := hw.1 c8
            obtain ⟨y9, ey9⟩ : ∃ z : Int32, z = x2 + 1 := ⟨_, rfl⟩
            have hw := hw y9 ey9
            refine lv_iinc (v := y9) (lv' := [(2, .int y9), (0, .ref (q 30)), (1, .int x1)]) hx hb dX4_nextWaiting_47 hl (k := 2) rfl (by rw [ey9]; rfl) (by decide) rfl (fun ls hl => ?_)
            refine lv_goto (tgt := 4) hx hb dX4_nextWaiting_50 (by decide) ?_
            exact ih _ _ _ _ _ _ h hw (lv_sub hl [1, 2, 0] rfl)
          · have hw := hw.2 c8
            exact wkC_X4_nextWaiting_45 E ih _ _ _ _ _ h hw (lv_sub hl [0, 2] rfl)

def wpC_X4_nextWaiting (σ : CS) (Post : Int32 → CS → Prop) : Prop := ∃ g, wpC_X4_nextWaiting_4 Post g σ ((-1)) 0
set_option maxHeartbeats 1000000 in
set_option maxRecDepth 20000 in
theorem cC_X4_nextWaiting {l : Launch} {D : va_G} {cy : Nat → ClassId} {ks : Nat × Nat × Option Nat} {q : Nat → Nat} {σ : CS} {sz : Nat} {Post : Int32 → CS → Prop} (hw : wpC_X4_nextWaiting σ Post) : Met l yX4_nextWaiting (Cond.code yX4_nextWaiting cX4_nextWaiting 3 (some .int) :: wsA) rC_X4_nextWaiting (zPc D cy ks (CW q cy σ) sz [.ref (q 30)]) (va_Qi Post (xB D cy (CW q cy) (va_A (CW q cy σ) sz)) (va_A (CW q cy σ) sz)) 0 0 (va_A (CW q cy σ) sz) := by
  refine z_enter (own := RX4) (WW := CW q cy) (by decide) rfl (Nat.le_of_ble_eq_true rfl) ?_
  intro p e s m below meth c ls E h hl
  have hx := E.1.1
  have hb := E.1.2.1
  have hl : lv_has ls 3 [(0, .ref (q 30))] := hl
  unfold wpC_X4_nextWaiting at hw
  refine lv_iconst (v := (-1)) hx hb dX4_nextWaiting_0 (by decide) ?_
  refine lv_istore_n (lv' := [(1, .int ((-1))), (0, .ref (q 30))]) hx hb dX4_nextWaiting_1 rfl hl (by decide) rfl (fun ls hl => ?_)
  refine lv_iconst (v := 0) hx hb dX4_nextWaiting_2 (by decide) ?_
  refine lv_istore_n (lv' := [(2, .int 0), (1, .int ((-1))), (0, .ref (q 30))]) hx hb dX4_nextWaiting_3 rfl hl (by decide) rfl (fun ls hl => ?_)
  obtain ⟨g, hw⟩ := hw
  exact wkC_X4_nextWaiting_4 E g _ _ _ _ _ _ h hw (lv_sub hl [2, 1, 0] rfl)

abbrev rC_X4_firstOfBoth : Room := { frames := 2, cells := 0, slots := 0, locals := 37 }
def wpC_X4_firstOfBoth (σ : CS) (x1 : Int32) (x2 : Int32) (Post : Int32 → CS → Prop) : Prop := vp_in x2 10 ∧ wpC_X0_firstDay σ x1 (σ.2.1 15 x2.toNatClampNeg) (fun r2 σ3 => vp_in x2 10 ∧ wpC_X0_firstDay σ3 x1 (σ3.2.1 16 x2.toNatClampNeg) (fun r5 σ6 => ∀ y7 : Int32, y7 = (if r5 < r2 then r5 else r2) → Post y7 σ6))
set_option maxHeartbeats 1000000 in
set_option maxRecDepth 20000 in
theorem cC_X4_firstOfBoth {l : Launch} {D : va_G} {cy : Nat → ClassId} {ks : Nat × Nat × Option Nat} {q : Nat → Nat} {σ : CS} {sz : Nat} {x1 : Int32} {x2 : Int32} {Post : Int32 → CS → Prop} (hw : wpC_X4_firstOfBoth σ x1 x2 Post) : Met l yX4_firstOfBoth (Cond.code yX4_firstOfBoth cX4_firstOfBoth 3 (some .int) :: wsA) rC_X4_firstOfBoth (zPc D cy ks (CW q cy σ) sz [.ref (q 30), .int x1, .int x2]) (va_Qi Post (xB D cy (CW q cy) (va_A (CW q cy σ) sz)) (va_A (CW q cy σ) sz)) 0 0 (va_A (CW q cy σ) sz) := by
  refine z_enter (own := RX4) (WW := CW q cy) (by decide) rfl (Nat.le_of_ble_eq_true rfl) ?_
  intro p e s m below meth c ls E h hl
  have hx := E.1.1
  have hb := E.1.2.1
  have hl : lv_has ls 3 [(0, .ref (q 30)), (1, .int x1), (2, .int x2)] := hl
  unfold wpC_X4_firstOfBoth at hw
  refine lv_aload_n hx hb dX4_firstOfBoth_0 rfl (lv_at hl 0 rfl) ?_
  refine gX4_61 E.1 h dX4_firstOfBoth_1 ?_
  refine lv_iload_n hx hb dX4_firstOfBoth_4 rfl (lv_at hl 1 rfl) ?_
  refine lv_aload_n hx hb dX4_firstOfBoth_5 rfl (lv_at hl 0 rfl) ?_
  refine gX4_57 E.1 h dX4_firstOfBoth_6 ?_
  refine gX4_168 E.1 h dX4_firstOfBoth_9 ?_
  refine lv_iload_n hx hb dX4_firstOfBoth_12 rfl (lv_at hl 2 rfl) ?_
  have h1 := hw.1
  have hw := hw.2
  refine aC_15 E.1 h h1 dX4_firstOfBoth_13 ?_
  refine x_calli h (z_runVN (WW := CW q cy) (rest := []) E h (cC_X0_firstDay hw) yyX0_firstDay lX4_201 25 rfl rfl ⟨Nat.le_of_ble_eq_true rfl, Nat.le_of_ble_eq_true rfl⟩ rfl rfl hl.1 rfl (Nat.le_of_ble_eq_true rfl) dX4_firstOfBoth_14 ⟨Nat.le_refl 0, Nat.le_refl 0⟩) (fun r2 σ3 H locs hw h => ?_)
  refine lv_aload_n hx hb dX4_firstOfBoth_17 rfl (lv_at hl 0 rfl) ?_
  refine gX4_61 E.1 h dX4_firstOfBoth_18 ?_
  refine lv_iload_n hx hb dX4_firstOfBoth_21 rfl (lv_at hl 1 rfl) ?_
  refine lv_aload_n hx hb dX4_firstOfBoth_22 rfl (lv_at hl 0 rfl) ?_
  refine gX4_57 E.1 h dX4_firstOfBoth_23 ?_
  refine gX4_174 E.1 h dX4_firstOfBoth_26 ?_
  refine lv_iload_n hx hb dX4_firstOfBoth_29 rfl (lv_at hl 2 rfl) ?_
  have h4 := hw.1
  have hw := hw.2
  refine aC_16 E.1 h h4 dX4_firstOfBoth_30 ?_
  refine x_calli h (z_runVN (WW := CW q cy) (rest := [.int r2]) E h (cC_X0_firstDay hw) yyX0_firstDay lX4_201 25 rfl rfl ⟨Nat.le_of_ble_eq_true rfl, Nat.le_of_ble_eq_true rfl⟩ rfl rfl hl.1 rfl (Nat.le_of_ble_eq_true rfl) dX4_firstOfBoth_31 ⟨Nat.le_refl 0, Nat.le_refl 0⟩) (fun r5 σ6 H locs hw h => ?_)
  refine z_min E.1 hl.1 lX4_204 (Nat.le_of_ble_eq_true rfl) (Nat.le_of_ble_eq_true rfl) (Nat.le_refl 0) (Nat.le_refl 0) dX4_firstOfBoth_34 ?_
  refine lv_topi (fun y7 ey7 => ?_)
  have hw := hw y7 ey7
  exact x_iret E.1 h hw dX4_firstOfBoth_37

abbrev rC_X4_vowed : Room := { frames := 2, cells := 0, slots := 0, locals := 37 }
def wpC_X4_vowed (σ : CS) (x1 : Int32) (x2 : Int32) (Post : Int32 → CS → Prop) : Prop := wpC_X0_firstDay σ 1 x1 (fun r1 σ2 => (x2 < r1 → Post 0 σ2) ∧ (¬ x2 < r1 → Post 1 σ2))
set_option maxHeartbeats 1000000 in
set_option maxRecDepth 20000 in
theorem cC_X4_vowed {l : Launch} {D : va_G} {cy : Nat → ClassId} {ks : Nat × Nat × Option Nat} {q : Nat → Nat} {σ : CS} {sz : Nat} {x1 : Int32} {x2 : Int32} {Post : Int32 → CS → Prop} (hw : wpC_X4_vowed σ x1 x2 Post) : Met l yX4_vowed (Cond.code yX4_vowed cX4_vowed 3 (some .int) :: wsA) rC_X4_vowed (zPc D cy ks (CW q cy σ) sz [.ref (q 30), .int x1, .int x2]) (va_Qi Post (xB D cy (CW q cy) (va_A (CW q cy σ) sz)) (va_A (CW q cy σ) sz)) 0 0 (va_A (CW q cy σ) sz) := by
  refine z_enter (own := RX4) (WW := CW q cy) (by decide) rfl (Nat.le_of_ble_eq_true rfl) ?_
  intro p e s m below meth c ls E h hl
  have hx := E.1.1
  have hb := E.1.2.1
  have hl : lv_has ls 3 [(0, .ref (q 30)), (1, .int x1), (2, .int x2)] := hl
  unfold wpC_X4_vowed at hw
  refine lv_aload_n hx hb dX4_vowed_0 rfl (lv_at hl 0 rfl) ?_
  refine gX4_61 E.1 h dX4_vowed_1 ?_
  refine lv_iconst (v := 1) hx hb dX4_vowed_4 (by decide) ?_
  refine lv_iload_n hx hb dX4_vowed_5 rfl (lv_at hl 1 rfl) ?_
  refine x_calli h (z_runVN (WW := CW q cy) (rest := []) E h (cC_X0_firstDay hw) yyX0_firstDay lX4_201 25 rfl rfl ⟨Nat.le_of_ble_eq_true rfl, Nat.le_of_ble_eq_true rfl⟩ rfl rfl hl.1 rfl (Nat.le_of_ble_eq_true rfl) dX4_vowed_6 ⟨Nat.le_refl 0, Nat.le_refl 0⟩) (fun r1 σ2 H locs hw h => ?_)
  refine lv_iload_n hx hb dX4_vowed_9 rfl (lv_at hl 2 rfl) ?_
  refine lv_icmp_gt (tgt := 17) hx hb dX4_vowed_10 (by decide) (fun c3 => ?_) (fun c3 => ?_)
  · have hw := hw.1 c3
    refine lv_iconst (v := 0) hx hb dX4_vowed_17 (by decide) ?_
    exact x_iret E.1 h hw dX4_vowed_18
  · have hw := hw.2 c3
    refine lv_iconst (v := 1) hx hb dX4_vowed_13 (by decide) ?_
    refine lv_goto (tgt := 18) hx hb dX4_vowed_14 (by decide) ?_
    exact x_iret E.1 h hw dX4_vowed_18

abbrev rC_X4_firstBar : Room := { frames := 4, cells := 0, slots := 0, locals := 89 }
def wpC_X4_firstBar_123 (Post : Int32 → CS → Prop) (σ : CS) (x1 : Int32) (x2 : Int32) (x3 : Int32) (t1 : Int32) (t2 : Int32) : Prop := vp_in t1 12 ∧ ∀ σ1 : CS, σ1 = cA σ 32 (upd (σ.2.1 32) t1.toNatClampNeg t2) → vp_in x1 10 ∧ vp_in x2 12 ∧ vp_in x3 12 ∧ ∀ y6 : Int32, y6 = (if (σ1.2.1 11 x2.toNatClampNeg) < (σ1.2.1 11 x3.toNatClampNeg) then (σ1.2.1 11 x3.toNatClampNeg) else (σ1.2.1 11 x2.toNatClampNeg)) → ∀ y7 : Int32, y7 = (σ1.2.1 37 x1.toNatClampNeg) - y6 → ∀ y8 : Int32, y8 = (if 0 < y7 then y7 else 0) → vp_in 5 12 ∧ ∀ σ9 : CS, σ9 = cA σ1 32 (upd (σ1.2.1 32) (5 : Int32).toNatClampNeg (y8 / 365)) → vp_in x1 10 ∧ vp_in 4 12 ∧ ∀ σ12 : CS, σ12 = cA σ9 32 (upd (σ9.2.1 32) (4 : Int32).toNatClampNeg (σ9.2.1 19 x1.toNatClampNeg)) → wpC_X4_lawOf σ12 x1 (fun r14 σ15 => r14 < σ15.2.2.1 ∧ wpC_X5_firstHolding σ15 r14 10001 (fun r17 σ18 => Post r17 σ18))
set_option maxHeartbeats 1000000 in
set_option maxRecDepth 20000 in
theorem wkC_X4_firstBar_123 {Post : Int32 → CS → Prop} (E : zE cX4_firstBar RX4 6 (some .int) D cy ks A p s m args meth c) : ∀ (σ : CS) (x1 : Int32) (x2 : Int32) (x3 : Int32) (t1 : Int32) (t2 : Int32) (H : Heap) (locs : List Loc) (ls : Array Slot), xH D A s (CW q cy σ) H locs → wpC_X4_firstBar_123 Post σ x1 x2 x3 t1 t2 → lv_has ls 6 [(0, .ref (q 30)), (1, .int x1), (2, .int x2), (3, .int x3), (4, .ref (q 32))] → W p l e rC_X4_firstBar s m args below meth c H locs 0 0 (MQ below (va_Qi Post (xB D cy (CW q cy) A) A) args s 0 0 A) (F0 m 123 ls [.int t2, .int t1, .ref (q 32)]) := by
  have hx := E.1.1
  have hb := E.1.2.1
  intro σ x1 x2 x3 t1 t2 H locs ls h hw hl
  unfold wpC_X4_firstBar_123 at hw
  have h2 := hw.1
  have hw := hw.2
  refine sC_32 E.1 h h2 dX4_firstBar_123 (fun σ1 H locs eσ1 h => ?_)
  have hw := hw σ1 eσ1
  refine lv_aload_n hx hb dX4_firstBar_124 rfl (lv_at hl 0 rfl) ?_
  refine gX4_25 E.1 h dX4_firstBar_125 ?_
  refine lv_iload_n hx hb dX4_firstBar_128 rfl (lv_at hl 1 rfl) ?_
  have h3 := hw.1
  have hw := hw.2
  refine aC_37 E.1 h h3 dX4_firstBar_129 ?_
  refine lv_aload_n hx hb dX4_firstBar_130 rfl (lv_at hl 0 rfl) ?_
  refine gX4_53 E.1 h dX4_firstBar_131 ?_
  refine gX4_198 E.1 h dX4_firstBar_134 ?_
  refine lv_iload_n hx hb dX4_firstBar_137 rfl (lv_at hl 2 rfl) ?_
  have h4 := hw.1
  have hw := hw.2
  refine aC_11 E.1 h h4 dX4_firstBar_138 ?_
  refine lv_aload_n hx hb dX4_firstBar_139 rfl (lv_at hl 0 rfl) ?_
  refine gX4_53 E.1 h dX4_firstBar_140 ?_
  refine gX4_198 E.1 h dX4_firstBar_143 ?_
  refine lv_iload_n hx hb dX4_firstBar_146 rfl (lv_at hl 3 rfl) ?_
  have h5 := hw.1
  have hw := hw.2
  refine aC_11 E.1 h h5 dX4_firstBar_147 ?_
  refine z_max E.1 hl.1 lX4_143 (Nat.le_of_ble_eq_true rfl) (Nat.le_of_ble_eq_true rfl) (Nat.le_refl 0) (Nat.le_refl 0) dX4_firstBar_148 ?_
  refine lv_topi (fun y6 ey6 => ?_)
  have hw := hw y6 ey6
  refine lv_isub hx hb dX4_firstBar_151 ?_
  refine lv_topi (fun y7 ey7 => ?_)
  have hw := hw y7 ey7
  refine lv_istore (lv' := [(5, .int y7), (0, .ref (q 30)), (1, .int x1), (2, .int x2), (3, .int x3), (4, .ref (q 32))]) hx hb dX4_firstBar_152 hl (by decide) rfl (fun ls hl => ?_)
  refine lv_aload hx hb dX4_firstBar_154 (lv_at hl 5 rfl) ?_
  refine lv_iconst (v := 5) hx hb dX4_firstBar_156 (by decide) ?_
  refine lv_iconst (v := 0) hx hb dX4_firstBar_157 (by decide) ?_
  refine lv_iload hx hb dX4_firstBar_158 (lv_at hl 0 rfl) ?_
  refine z_max E.1 hl.1 lX4_143 (Nat.le_of_ble_eq_true rfl) (Nat.le_of_ble_eq_true rfl) (Nat.le_refl 0) (Nat.le_refl 0) dX4_firstBar_160 ?_
  refine lv_topi (fun y8 ey8 => ?_)
  have hw := hw y8 ey8
  refine lv_sipush (v := 365) hx hb dX4_firstBar_163 (by decide) ?_
  refine lv_idiv hx hb dX4_firstBar_166 (by decide) ?_
  have h10 := hw.1
  have hw := hw.2
  refine sC_32 E.1 h h10 dX4_firstBar_167 (fun σ9 H locs eσ9 h => ?_)
  have hw := hw σ9 eσ9
  refine lv_aload hx hb dX4_firstBar_168 (lv_at hl 5 rfl) ?_
  refine lv_iconst (v := 4) hx hb dX4_firstBar_170 (by decide) ?_
  refine lv_aload_n hx hb dX4_firstBar_171 rfl (lv_at hl 1 rfl) ?_
  refine gX4_57 E.1 h dX4_firstBar_172 ?_
  refine gX4_103 E.1 h dX4_firstBar_175 ?_
  refine lv_iload_n hx hb dX4_firstBar_178 rfl (lv_at hl 2 rfl) ?_
  have h11 := hw.1
  have hw := hw.2
  refine aC_19 E.1 h h11 dX4_firstBar_179 ?_
  have h13 := hw.1
  have hw := hw.2
  refine sC_32 E.1 h h13 dX4_firstBar_180 (fun σ12 H locs eσ12 h => ?_)
  have hw := hw σ12 eσ12
  refine lv_aload_n hx hb dX4_firstBar_181 rfl (lv_at hl 1 rfl) ?_
  refine lv_iload_n hx hb dX4_firstBar_182 rfl (lv_at hl 2 rfl) ?_
  refine z_callr (at0 := fun r => q (46 + 3 * r)) h (z_runV (WW := CW q cy) (rest := []) E h (cC_X4_lawOf hw) yyX4_lawOf lX4_106 30 rfl rfl ⟨Nat.le_of_ble_eq_true rfl, Nat.le_of_ble_eq_true rfl⟩ rfl rfl hl.1 rfl (Nat.le_of_ble_eq_true rfl) dX4_firstBar_183 ⟨Nat.le_refl 0, Nat.le_refl 0⟩) (fun r14 σ15 H locs hw h => ?_)
  refine lv_sipush (v := 10001) hx hb dX4_firstBar_186 (by decide) ?_
  refine lv_aload_n hx hb dX4_firstBar_189 rfl (lv_at hl 1 rfl) ?_
  refine gX4_12 E.1 h dX4_firstBar_190 ?_
  have h16 := hw.1
  have hw := hw.2
  refine x_calli h (z_runVN (WW := CW q cy) (rest := []) E h (cC_X5_firstHolding hw) yyX5_firstHolding lX4_134 (46 + 3 * r14) (cw_law h16) rfl ⟨Nat.le_of_ble_eq_true rfl, Nat.le_of_ble_eq_true rfl⟩ rfl rfl hl.1 rfl (Nat.le_of_ble_eq_true rfl) dX4_firstBar_193 ⟨Nat.le_refl 0, Nat.le_refl 0⟩) (fun r17 σ18 H locs hw h => ?_)
  exact x_iret E.1 h hw dX4_firstBar_196

def wpC_X4_firstBar (σ : CS) (x1 : Int32) (Post : Int32 → CS → Prop) : Prop := vp_in x1 10 ∧ ∀ y2 : Int32, y2 = σ.2.1 15 x1.toNatClampNeg → vp_in x1 10 ∧ ∀ y4 : Int32, y4 = σ.2.1 16 x1.toNatClampNeg → wpC_X4_firstOfBoth σ 0 x1 (fun r5 σ6 => vp_in x1 10 ∧ ((σ6.2.1 37 x1.toNatClampNeg) < r5 → wpC_X8_clear σ6 (fun σ9 => wpC_X1_degreeOf σ9 y2 y4 (fun r10 σ11 => vp_in 6 12 ∧ ∀ σ12 : CS, σ12 = cA σ11 32 (upd (σ11.2.1 32) (6 : Int32).toNatClampNeg r10) → vp_in x1 10 ∧ wpC_X4_vowed σ12 y2 (σ12.2.1 37 x1.toNatClampNeg) (fun r15 σ16 => vp_in x1 10 ∧ wpC_X4_vowed σ16 y4 (σ16.2.1 37 x1.toNatClampNeg) (fun r18 σ19 => vp_in 7 12 ∧ ∀ σ20 : CS, σ20 = cA σ19 32 (upd (σ19.2.1 32) (7 : Int32).toNatClampNeg (r15 + r18)) → wpC_X0_firstLeave σ20 y2 y4 (fun r22 σ23 => vp_in x1 10 ∧ ((σ23.2.1 37 x1.toNatClampNeg) < r22 → wpC_X4_firstBar_123 Post σ23 x1 y2 y4 8 0) ∧ (¬ (σ23.2.1 37 x1.toNatClampNeg) < r22 → wpC_X4_firstBar_123 Post σ23 x1 y2 y4 8 1))))))) ∧ (¬ (σ6.2.1 37 x1.toNatClampNeg) < r5 → Post ((-2)) σ6))
set_option maxHeartbeats 1000000 in
set_option maxRecDepth 20000 in
theorem cC_X4_firstBar {l : Launch} {D : va_G} {cy : Nat → ClassId} {ks : Nat × Nat × Option Nat} {q : Nat → Nat} {σ : CS} {sz : Nat} {x1 : Int32} {Post : Int32 → CS → Prop} (hw : wpC_X4_firstBar σ x1 Post) : Met l yX4_firstBar (Cond.code yX4_firstBar cX4_firstBar 6 (some .int) :: wsA) rC_X4_firstBar (zPc D cy ks (CW q cy σ) sz [.ref (q 30), .int x1]) (va_Qi Post (xB D cy (CW q cy) (va_A (CW q cy σ) sz)) (va_A (CW q cy σ) sz)) 0 0 (va_A (CW q cy σ) sz) := by
  refine z_enter (own := RX4) (WW := CW q cy) (by decide) rfl (Nat.le_of_ble_eq_true rfl) ?_
  intro p e s m below meth c ls E h hl
  have hx := E.1.1
  have hb := E.1.2.1
  have hl : lv_has ls 6 [(0, .ref (q 30)), (1, .int x1)] := hl
  unfold wpC_X4_firstBar at hw
  refine lv_aload_n hx hb dX4_firstBar_0 rfl (lv_at hl 0 rfl) ?_
  refine gX4_57 E.1 h dX4_firstBar_1 ?_
  refine gX4_168 E.1 h dX4_firstBar_4 ?_
  refine lv_iload_n hx hb dX4_firstBar_7 rfl (lv_at hl 1 rfl) ?_
  have h1 := hw.1
  have hw := hw.2
  refine aC_15 E.1 h h1 dX4_firstBar_8 ?_
  refine lv_topi (fun y2 ey2 => ?_)
  have hw := hw y2 ey2
  refine lv_istore_n (lv' := [(2, .int y2), (0, .ref (q 30)), (1, .int x1)]) hx hb dX4_firstBar_9 rfl hl (by decide) rfl (fun ls hl => ?_)
  refine lv_aload_n hx hb dX4_firstBar_10 rfl (lv_at hl 1 rfl) ?_
  refine gX4_57 E.1 h dX4_firstBar_11 ?_
  refine gX4_174 E.1 h dX4_firstBar_14 ?_
  refine lv_iload_n hx hb dX4_firstBar_17 rfl (lv_at hl 2 rfl) ?_
  have h3 := hw.1
  have hw := hw.2
  refine aC_16 E.1 h h3 dX4_firstBar_18 ?_
  refine lv_topi (fun y4 ey4 => ?_)
  have hw := hw y4 ey4
  refine lv_istore_n (lv' := [(3, .int y4), (2, .int y2), (0, .ref (q 30)), (1, .int x1)]) hx hb dX4_firstBar_19 rfl hl (by decide) rfl (fun ls hl => ?_)
  refine lv_aload_n hx hb dX4_firstBar_20 rfl (lv_at hl 2 rfl) ?_
  refine lv_iconst (v := 0) hx hb dX4_firstBar_21 (by decide) ?_
  refine lv_iload_n hx hb dX4_firstBar_22 rfl (lv_at hl 3 rfl) ?_
  refine x_calli h (z_runV (WW := CW q cy) (rest := []) E h (cC_X4_firstOfBoth hw) yyX4_firstOfBoth lX4_189 30 rfl rfl ⟨Nat.le_of_ble_eq_true rfl, Nat.le_of_ble_eq_true rfl⟩ rfl rfl hl.1 rfl (Nat.le_of_ble_eq_true rfl) dX4_firstBar_23 ⟨Nat.le_refl 0, Nat.le_refl 0⟩) (fun r5 σ6 H locs hw h => ?_)
  refine lv_aload_n hx hb dX4_firstBar_26 rfl (lv_at hl 2 rfl) ?_
  refine gX4_25 E.1 h dX4_firstBar_27 ?_
  refine lv_iload_n hx hb dX4_firstBar_30 rfl (lv_at hl 3 rfl) ?_
  have h7 := hw.1
  have hw := hw.2
  refine aC_37 E.1 h h7 dX4_firstBar_31 ?_
  refine lv_icmp_gt (tgt := 38) hx hb dX4_firstBar_32 (by decide) (fun c8 => ?_) (fun c8 => ?_)
  · have hw := hw.1 c8
    refine lv_aload_n hx hb dX4_firstBar_38 rfl (lv_at hl 2 rfl) ?_
    refine gX4_12 E.1 h dX4_firstBar_39 ?_
    refine gX4_97 E.1 h dX4_firstBar_42 ?_
    refine lv_astore (lv' := [(4, .ref (q 32)), (3, .int y4), (2, .int y2), (0, .ref (q 30)), (1, .int x1)]) hx hb dX4_firstBar_45 hl (by decide) rfl (fun ls hl => ?_)
    refine lv_aload_n hx hb dX4_firstBar_47 rfl (lv_at hl 3 rfl) ?_
    refine gX4_12 E.1 h dX4_firstBar_48 ?_
    refine x_callv h (z_runVN (WW := CW q cy) (rest := []) E h (cC_X8_clear hw) yyX8_clear lX4_94 31 rfl rfl ⟨Nat.le_of_ble_eq_true rfl, Nat.le_of_ble_eq_true rfl⟩ rfl rfl hl.1 rfl (Nat.le_of_ble_eq_true rfl) dX4_firstBar_51 ⟨Nat.le_refl 0, Nat.le_refl 0⟩) (fun σ9 H locs hw h => ?_)
    refine lv_aload hx hb dX4_firstBar_54 (lv_at hl 0 rfl) ?_
    refine lv_bipush (v := 6) hx hb dX4_firstBar_56 (by decide) ?_
    refine lv_aload_n hx hb dX4_firstBar_58 rfl (lv_at hl 3 rfl) ?_
    refine gX4_53 E.1 h dX4_firstBar_59 ?_
    refine lv_iload_n hx hb dX4_firstBar_62 rfl (lv_at hl 2 rfl) ?_
    refine lv_iload_n hx hb dX4_firstBar_63 rfl (lv_at hl 1 rfl) ?_
    refine x_calli h (z_runVN (WW := CW q cy) (rest := [.int 6, .ref (q 32)]) E h (cC_X1_degreeOf hw) yyX1_degreeOf lX4_171 8 rfl rfl ⟨Nat.le_of_ble_eq_true rfl, Nat.le_of_ble_eq_true rfl⟩ rfl rfl hl.1 rfl (Nat.le_of_ble_eq_true rfl) dX4_firstBar_64 ⟨Nat.le_refl 0, Nat.le_refl 0⟩) (fun r10 σ11 H locs hw h => ?_)
    have h13 := hw.1
    have hw := hw.2
    refine sC_32 E.1 h h13 dX4_firstBar_67 (fun σ12 H locs eσ12 h => ?_)
    have hw := hw σ12 eσ12
    refine lv_aload hx hb dX4_firstBar_68 (lv_at hl 0 rfl) ?_
    refine lv_bipush (v := 7) hx hb dX4_firstBar_70 (by decide) ?_
    refine lv_aload_n hx hb dX4_firstBar_72 rfl (lv_at hl 3 rfl) ?_
    refine lv_iload_n hx hb dX4_firstBar_73 rfl (lv_at hl 2 rfl) ?_
    refine lv_aload_n hx hb dX4_firstBar_74 rfl (lv_at hl 3 rfl) ?_
    refine gX4_25 E.1 h dX4_firstBar_75 ?_
    refine lv_iload_n hx hb dX4_firstBar_78 rfl (lv_at hl 4 rfl) ?_
    have h14 := hw.1
    have hw := hw.2
    refine aC_37 E.1 h h14 dX4_firstBar_79 ?_
    refine x_calli h (z_runV (WW := CW q cy) (rest := [.int 7, .ref (q 32)]) E h (cC_X4_vowed hw) yyX4_vowed lX4_192 30 rfl rfl ⟨Nat.le_of_ble_eq_true rfl, Nat.le_of_ble_eq_true rfl⟩ rfl rfl hl.1 rfl (Nat.le_of_ble_eq_true rfl) dX4_firstBar_80 ⟨Nat.le_refl 0, Nat.le_refl 0⟩) (fun r15 σ16 H locs hw h => ?_)
    refine lv_aload_n hx hb dX4_firstBar_83 rfl (lv_at hl 3 rfl) ?_
    refine lv_iload_n hx hb dX4_firstBar_84 rfl (lv_at hl 1 rfl) ?_
    refine lv_aload_n hx hb dX4_firstBar_85 rfl (lv_at hl 3 rfl) ?_
    refine gX4_25 E.1 h dX4_firstBar_86 ?_
    refine lv_iload_n hx hb dX4_firstBar_89 rfl (lv_at hl 4 rfl) ?_
    have h17 := hw.1
    have hw := hw.2
    refine aC_37 E.1 h h17 dX4_firstBar_90 ?_
    refine x_calli h (z_runV (WW := CW q cy) (rest := [.int r15, .int 7, .ref (q 32)]) E h (cC_X4_vowed hw) yyX4_vowed lX4_192 30 rfl rfl ⟨Nat.le_of_ble_eq_true rfl, Nat.le_of_ble_eq_true rfl⟩ rfl rfl hl.1 rfl (Nat.le_of_ble_eq_true rfl) dX4_firstBar_91 ⟨Nat.le_refl 0, Nat.le_refl 0⟩) (fun r18 σ19 H locs hw h => ?_)
    refine lv_iadd hx hb dX4_firstBar_94 ?_
    have h21 := hw.1
    have hw := hw.2
    refine sC_32 E.1 h h21 dX4_firstBar_95 (fun σ20 H locs eσ20 h => ?_)
    have hw := hw σ20 eσ20
    refine lv_aload hx hb dX4_firstBar_96 (lv_at hl 0 rfl) ?_
    refine lv_bipush (v := 8) hx hb dX4_firstBar_98 (by decide) ?_
    refine lv_aload_n hx hb dX4_firstBar_100 rfl (lv_at hl 3 rfl) ?_
    refine gX4_61 E.1 h dX4_firstBar_101 ?_
    refine lv_iload_n hx hb dX4_firstBar_104 rfl (lv_at hl 2 rfl) ?_
    refine lv_iload_n hx hb dX4_firstBar_105 rfl (lv_at hl 1 rfl) ?_
    refine x_calli h (z_runVN (WW := CW q cy) (rest := [.int 8, .ref (q 32)]) E h (cC_X0_firstLeave hw) yyX0_firstLeave lX4_195 25 rfl rfl ⟨Nat.le_of_ble_eq_true rfl, Nat.le_of_ble_eq_true rfl⟩ rfl rfl hl.1 rfl (Nat.le_of_ble_eq_true rfl) dX4_firstBar_106 ⟨Nat.le_refl 0, Nat.le_refl 0⟩) (fun r22 σ23 H locs hw h => ?_)
    refine lv_aload_n hx hb dX4_firstBar_109 rfl (lv_at hl 3 rfl) ?_
    refine gX4_25 E.1 h dX4_firstBar_110 ?_
    refine lv_iload_n hx hb dX4_firstBar_113 rfl (lv_at hl 4 rfl) ?_
    have h24 := hw.1
    have hw := hw.2
    refine aC_37 E.1 h h24 dX4_firstBar_114 ?_
    refine lv_icmp_gt (tgt := 122) hx hb dX4_firstBar_115 (by decide) (fun c25 => ?_) (fun c25 => ?_)
    · have hw := hw.1 c25
      refine lv_iconst (v := 0) hx hb dX4_firstBar_122 (by decide) ?_
      exact wkC_X4_firstBar_123 E _ _ _ _ _ _ _ _ _ h hw (lv_sub hl [3, 4, 2, 1, 0] rfl)
    · have hw := hw.2 c25
      refine lv_iconst (v := 1) hx hb dX4_firstBar_118 (by decide) ?_
      refine lv_goto (tgt := 123) hx hb dX4_firstBar_119 (by decide) ?_
      exact wkC_X4_firstBar_123 E _ _ _ _ _ _ _ _ _ h hw (lv_sub hl [3, 4, 2, 1, 0] rfl)
  · have hw := hw.2 c8
    refine lv_bipush (v := (-2)) hx hb dX4_firstBar_35 (by decide) ?_
    exact x_iret E.1 h hw dX4_firstBar_37

abbrev rC_X7_binds : Room := { frames := 0, cells := 0, slots := 0, locals := 0 }
def wpC_X7_binds (σ : CS) (x1 : Int32) (x2 : Int32) (Post : Int32 → CS → Prop) : Prop := vp_in x1 10 ∧ ((σ.2.1 15 x1.toNatClampNeg) = x2 → Post 1 σ) ∧ (¬ (σ.2.1 15 x1.toNatClampNeg) = x2 → vp_in x1 10 ∧ ((σ.2.1 16 x1.toNatClampNeg) = x2 → Post 1 σ) ∧ (¬ (σ.2.1 16 x1.toNatClampNeg) = x2 → Post 0 σ))
set_option maxHeartbeats 1000000 in
set_option maxRecDepth 20000 in
theorem cC_X7_binds {l : Launch} {D : va_G} {cy : Nat → ClassId} {ks : Nat × Nat × Option Nat} {q : Nat → Nat} {σ : CS} {sz : Nat} {x1 : Int32} {x2 : Int32} {Post : Int32 → CS → Prop} (hw : wpC_X7_binds σ x1 x2 Post) : Met l yX7_binds (Cond.code yX7_binds cX7_binds 3 (some .boolean) :: wsA) rC_X7_binds (zPc D cy ks (CW q cy σ) sz [.ref (q 14), .int x1, .int x2]) (va_Qi Post (xB D cy (CW q cy) (va_A (CW q cy σ) sz)) (va_A (CW q cy σ) sz)) 0 0 (va_A (CW q cy σ) sz) := by
  refine z_enter (own := RX7) (WW := CW q cy) (by decide) rfl (Nat.le_of_ble_eq_true rfl) ?_
  intro p e s m below meth c ls E h hl
  have hx := E.1.1
  have hb := E.1.2.1
  have hl : lv_has ls 3 [(0, .ref (q 14)), (1, .int x1), (2, .int x2)] := hl
  unfold wpC_X7_binds at hw
  refine lv_aload_n hx hb dX7_binds_0 rfl (lv_at hl 0 rfl) ?_
  refine gX7_9 E.1 h dX7_binds_1 ?_
  refine lv_iload_n hx hb dX7_binds_4 rfl (lv_at hl 1 rfl) ?_
  have h1 := hw.1
  have hw := hw.2
  refine aC_15 E.1 h h1 dX7_binds_5 ?_
  refine lv_iload_n hx hb dX7_binds_6 rfl (lv_at hl 2 rfl) ?_
  refine lv_icmp_eq (tgt := 20) hx hb dX7_binds_7 (by decide) (fun c2 => ?_) (fun c2 => ?_)
  · have hw := hw.1 c2
    refine lv_iconst (v := 1) hx hb dX7_binds_20 (by decide) ?_
    refine lv_goto (tgt := 25) hx hb dX7_binds_21 (by decide) ?_
    exact x_zret E.1 h rfl hw dX7_binds_25
  · have hw := hw.2 c2
    refine lv_aload_n hx hb dX7_binds_10 rfl (lv_at hl 0 rfl) ?_
    refine gX7_15 E.1 h dX7_binds_11 ?_
    refine lv_iload_n hx hb dX7_binds_14 rfl (lv_at hl 1 rfl) ?_
    have h3 := hw.1
    have hw := hw.2
    refine aC_16 E.1 h h3 dX7_binds_15 ?_
    refine lv_iload_n hx hb dX7_binds_16 rfl (lv_at hl 2 rfl) ?_
    refine lv_icmp_ne (tgt := 24) hx hb dX7_binds_17 (by decide) (fun c4 => ?_) (fun c4 => ?_)
    · have hw := hw.2 c4
      refine lv_iconst (v := 0) hx hb dX7_binds_24 (by decide) ?_
      exact x_zret E.1 h rfl hw dX7_binds_25
    · have hw := hw.1 c4
      refine lv_iconst (v := 1) hx hb dX7_binds_20 (by decide) ?_
      refine lv_goto (tgt := 25) hx hb dX7_binds_21 (by decide) ?_
      exact x_zret E.1 h rfl hw dX7_binds_25

abbrev rC_X7_shared : Room := { frames := 1, cells := 0, slots := 0, locals := 22 }
def wpC_X7_shared_19 (Post : Int32 → CS → Prop) (σ : CS) (x1 : Int32) (x2 : Int32) (t0 : Int32) : Prop := vp_in x1 10 ∧ wpC_X7_binds σ x2 (σ.2.1 16 x1.toNatClampNeg) (fun r2 σ3 => (r2 = 0 → Post (t0 + 0) σ3) ∧ (¬ r2 = 0 → Post (t0 + 2) σ3))
set_option maxHeartbeats 1000000 in
set_option maxRecDepth 20000 in
theorem wkC_X7_shared_19 {Post : Int32 → CS → Prop} (E : zE cX7_shared RX7 3 (some .int) D cy ks A p s m args meth c) : ∀ (σ : CS) (x1 : Int32) (x2 : Int32) (t0 : Int32) (H : Heap) (locs : List Loc) (ls : Array Slot), xH D A s (CW q cy σ) H locs → wpC_X7_shared_19 Post σ x1 x2 t0 → lv_has ls 3 [(0, .ref (q 14)), (1, .int x1), (2, .int x2)] → W p l e rC_X7_shared s m args below meth c H locs 0 0 (MQ below (va_Qi Post (xB D cy (CW q cy) A) A) args s 0 0 A) (F0 m 19 ls [.int t0]) := by
  have hx := E.1.1
  have hb := E.1.2.1
  intro σ x1 x2 t0 H locs ls h hw hl
  unfold wpC_X7_shared_19 at hw
  refine lv_aload_n hx hb dX7_shared_19 rfl (lv_at hl 0 rfl) ?_
  refine lv_iload_n hx hb dX7_shared_20 rfl (lv_at hl 2 rfl) ?_
  refine lv_aload_n hx hb dX7_shared_21 rfl (lv_at hl 0 rfl) ?_
  refine gX7_15 E.1 h dX7_shared_22 ?_
  refine lv_iload_n hx hb dX7_shared_25 rfl (lv_at hl 1 rfl) ?_
  have h1 := hw.1
  have hw := hw.2
  refine aC_16 E.1 h h1 dX7_shared_26 ?_
  refine x_calli h (z_runV (WW := CW q cy) (rest := [.int t0]) E h (cC_X7_binds hw) yyX7_binds lX7_34 14 rfl rfl ⟨Nat.le_of_ble_eq_true rfl, Nat.le_of_ble_eq_true rfl⟩ rfl rfl hl.1 rfl (Nat.le_of_ble_eq_true rfl) dX7_shared_27 ⟨Nat.le_refl 0, Nat.le_refl 0⟩) (fun r2 σ3 H locs hw h => ?_)
  refine lv_if_eq (tgt := 37) hx hb dX7_shared_30 (by decide) (fun c4 => ?_) (fun c4 => ?_)
  · have hw := hw.1 c4
    refine lv_iconst (v := 0) hx hb dX7_shared_37 (by decide) ?_
    refine lv_iadd hx hb dX7_shared_38 ?_
    exact x_iret E.1 h hw dX7_shared_39
  · have hw := hw.2 c4
    refine lv_iconst (v := 2) hx hb dX7_shared_33 (by decide) ?_
    refine lv_goto (tgt := 38) hx hb dX7_shared_34 (by decide) ?_
    refine lv_iadd hx hb dX7_shared_38 ?_
    exact x_iret E.1 h hw dX7_shared_39

def wpC_X7_shared (σ : CS) (x1 : Int32) (x2 : Int32) (Post : Int32 → CS → Prop) : Prop := vp_in x1 10 ∧ wpC_X7_binds σ x2 (σ.2.1 15 x1.toNatClampNeg) (fun r2 σ3 => (r2 = 0 → wpC_X7_shared_19 Post σ3 x1 x2 0) ∧ (¬ r2 = 0 → wpC_X7_shared_19 Post σ3 x1 x2 1))
set_option maxHeartbeats 1000000 in
set_option maxRecDepth 20000 in
theorem cC_X7_shared {l : Launch} {D : va_G} {cy : Nat → ClassId} {ks : Nat × Nat × Option Nat} {q : Nat → Nat} {σ : CS} {sz : Nat} {x1 : Int32} {x2 : Int32} {Post : Int32 → CS → Prop} (hw : wpC_X7_shared σ x1 x2 Post) : Met l yX7_shared (Cond.code yX7_shared cX7_shared 3 (some .int) :: wsA) rC_X7_shared (zPc D cy ks (CW q cy σ) sz [.ref (q 14), .int x1, .int x2]) (va_Qi Post (xB D cy (CW q cy) (va_A (CW q cy σ) sz)) (va_A (CW q cy σ) sz)) 0 0 (va_A (CW q cy σ) sz) := by
  refine z_enter (own := RX7) (WW := CW q cy) (by decide) rfl (Nat.le_of_ble_eq_true rfl) ?_
  intro p e s m below meth c ls E h hl
  have hx := E.1.1
  have hb := E.1.2.1
  have hl : lv_has ls 3 [(0, .ref (q 14)), (1, .int x1), (2, .int x2)] := hl
  unfold wpC_X7_shared at hw
  refine lv_aload_n hx hb dX7_shared_0 rfl (lv_at hl 0 rfl) ?_
  refine lv_iload_n hx hb dX7_shared_1 rfl (lv_at hl 2 rfl) ?_
  refine lv_aload_n hx hb dX7_shared_2 rfl (lv_at hl 0 rfl) ?_
  refine gX7_9 E.1 h dX7_shared_3 ?_
  refine lv_iload_n hx hb dX7_shared_6 rfl (lv_at hl 1 rfl) ?_
  have h1 := hw.1
  have hw := hw.2
  refine aC_15 E.1 h h1 dX7_shared_7 ?_
  refine x_calli h (z_runV (WW := CW q cy) (rest := []) E h (cC_X7_binds hw) yyX7_binds lX7_34 14 rfl rfl ⟨Nat.le_of_ble_eq_true rfl, Nat.le_of_ble_eq_true rfl⟩ rfl rfl hl.1 rfl (Nat.le_of_ble_eq_true rfl) dX7_shared_8 ⟨Nat.le_refl 0, Nat.le_refl 0⟩) (fun r2 σ3 H locs hw h => ?_)
  refine lv_if_eq (tgt := 18) hx hb dX7_shared_11 (by decide) (fun c4 => ?_) (fun c4 => ?_)
  · have hw := hw.1 c4
    refine lv_iconst (v := 0) hx hb dX7_shared_18 (by decide) ?_
    exact wkC_X7_shared_19 E _ _ _ _ _ _ _ h hw (lv_sub hl [0, 1, 2] rfl)
  · have hw := hw.2 c4
    refine lv_iconst (v := 1) hx hb dX7_shared_14 (by decide) ?_
    refine lv_goto (tgt := 19) hx hb dX7_shared_15 (by decide) ?_
    exact wkC_X7_shared_19 E _ _ _ _ _ _ _ h hw (lv_sub hl [0, 1, 2] rfl)

abbrev rC_X4_isRival : Room := { frames := 2, cells := 0, slots := 0, locals := 44 }
def wpC_X4_isRival (σ : CS) (x1 : Int32) (x2 : Int32) (Post : Int32 → CS → Prop) : Prop := vp_in x1 10 ∧ ((σ.2.1 38 x1.toNatClampNeg) = 6 → vp_in x1 10 ∧ vp_in x2 10 ∧ ((σ.2.1 41 x1.toNatClampNeg) ≤ (σ.2.1 37 x2.toNatClampNeg) → Post 0 σ) ∧ (¬ (σ.2.1 41 x1.toNatClampNeg) ≤ (σ.2.1 37 x2.toNatClampNeg) → wpC_X7_shared σ x1 x2 (fun r6 σ7 => (r6 = 0 → Post 0 σ7) ∧ (¬ r6 = 0 → Post 1 σ7)))) ∧ (¬ (σ.2.1 38 x1.toNatClampNeg) = 6 → Post 0 σ)
set_option maxHeartbeats 1000000 in
set_option maxRecDepth 20000 in
theorem cC_X4_isRival {l : Launch} {D : va_G} {cy : Nat → ClassId} {ks : Nat × Nat × Option Nat} {q : Nat → Nat} {σ : CS} {sz : Nat} {x1 : Int32} {x2 : Int32} {Post : Int32 → CS → Prop} (hw : wpC_X4_isRival σ x1 x2 Post) : Met l yX4_isRival (Cond.code yX4_isRival cX4_isRival 3 (some .boolean) :: wsA) rC_X4_isRival (zPc D cy ks (CW q cy σ) sz [.ref (q 30), .int x1, .int x2]) (va_Qi Post (xB D cy (CW q cy) (va_A (CW q cy σ) sz)) (va_A (CW q cy σ) sz)) 0 0 (va_A (CW q cy σ) sz) := by
  refine z_enter (own := RX4) (WW := CW q cy) (by decide) rfl (Nat.le_of_ble_eq_true rfl) ?_
  intro p e s m below meth c ls E h hl
  have hx := E.1.1
  have hb := E.1.2.1
  have hl : lv_has ls 3 [(0, .ref (q 30)), (1, .int x1), (2, .int x2)] := hl
  unfold wpC_X4_isRival at hw
  refine lv_aload_n hx hb dX4_isRival_0 rfl (lv_at hl 0 rfl) ?_
  refine gX4_28 E.1 h dX4_isRival_1 ?_
  refine lv_iload_n hx hb dX4_isRival_4 rfl (lv_at hl 1 rfl) ?_
  have h1 := hw.1
  have hw := hw.2
  refine aC_38 E.1 h h1 dX4_isRival_5 ?_
  refine lv_bipush (v := 6) hx hb dX4_isRival_6 (by decide) ?_
  refine lv_icmp_ne (tgt := 42) hx hb dX4_isRival_8 (by decide) (fun c2 => ?_) (fun c2 => ?_)
  · have hw := hw.2 c2
    refine lv_iconst (v := 0) hx hb dX4_isRival_42 (by decide) ?_
    exact x_zret E.1 h rfl hw dX4_isRival_43
  · have hw := hw.1 c2
    refine lv_aload_n hx hb dX4_isRival_11 rfl (lv_at hl 0 rfl) ?_
    refine gX4_37 E.1 h dX4_isRival_12 ?_
    refine lv_iload_n hx hb dX4_isRival_15 rfl (lv_at hl 1 rfl) ?_
    have h3 := hw.1
    have hw := hw.2
    refine aC_41 E.1 h h3 dX4_isRival_16 ?_
    refine lv_aload_n hx hb dX4_isRival_17 rfl (lv_at hl 0 rfl) ?_
    refine gX4_25 E.1 h dX4_isRival_18 ?_
    refine lv_iload_n hx hb dX4_isRival_21 rfl (lv_at hl 2 rfl) ?_
    have h4 := hw.1
    have hw := hw.2
    refine aC_37 E.1 h h4 dX4_isRival_22 ?_
    refine lv_icmp_le (tgt := 42) hx hb dX4_isRival_23 (by decide) (fun c5 => ?_) (fun c5 => ?_)
    · have hw := hw.1 c5
      refine lv_iconst (v := 0) hx hb dX4_isRival_42 (by decide) ?_
      exact x_zret E.1 h rfl hw dX4_isRival_43
    · have hw := hw.2 c5
      refine lv_aload_n hx hb dX4_isRival_26 rfl (lv_at hl 0 rfl) ?_
      refine gX4_57 E.1 h dX4_isRival_27 ?_
      refine lv_iload_n hx hb dX4_isRival_30 rfl (lv_at hl 1 rfl) ?_
      refine lv_iload_n hx hb dX4_isRival_31 rfl (lv_at hl 2 rfl) ?_
      refine x_calli h (z_runVN (WW := CW q cy) (rest := []) E h (cC_X7_shared hw) yyX7_shared lX4_207 14 rfl rfl ⟨Nat.le_of_ble_eq_true rfl, Nat.le_of_ble_eq_true rfl⟩ rfl rfl hl.1 rfl (Nat.le_of_ble_eq_true rfl) dX4_isRival_32 ⟨Nat.le_refl 0, Nat.le_refl 0⟩) (fun r6 σ7 H locs hw h => ?_)
      refine lv_if_eq (tgt := 42) hx hb dX4_isRival_35 (by decide) (fun c8 => ?_) (fun c8 => ?_)
      · have hw := hw.1 c8
        refine lv_iconst (v := 0) hx hb dX4_isRival_42 (by decide) ?_
        exact x_zret E.1 h rfl hw dX4_isRival_43
      · have hw := hw.2 c8
        refine lv_iconst (v := 1) hx hb dX4_isRival_38 (by decide) ?_
        refine lv_goto (tgt := 43) hx hb dX4_isRival_39 (by decide) ?_
        exact x_zret E.1 h rfl hw dX4_isRival_43

abbrev rC_X4_firstUnyielding : Room := { frames := 4, cells := 0, slots := 0, locals := 89 }
def wpC_X4_firstUnyielding_8 (Post : Int32 → CS → Prop) : Nat → CS → Int32 → Nat → Int32 → Prop
  | 0, _, _, _, _ => False
  | n + 1, σ, x1, x2, x3 => ((σ.1 286) ≤ x3 → Post ((-1)) σ) ∧ (¬ (σ.1 286) ≤ x3 → wpC_X4_isRival σ x3 x1 (fun r2 σ3 => (r2 = 0 → ∀ y5 : Int32, y5 = x3 + 1 → wpC_X4_firstUnyielding_8 Post n σ3 x1 x2 y5) ∧ (¬ r2 = 0 → wpC_X7_shared σ3 x3 x1 (fun r6 σ7 => (r6 = 3 → ∀ y9 : Int32, y9 = x3 + 1 → wpC_X4_firstUnyielding_8 Post n σ7 x1 x2 y9) ∧ (¬ r6 = 3 → wpC_X8_clear σ7 (fun σ10 => vp_in x3 10 ∧ vp_in 9 12 ∧ ∀ σ12 : CS, σ12 = cA σ10 32 (upd (σ10.2.1 32) (9 : Int32).toNatClampNeg (σ10.2.1 19 x3.toNatClampNeg)) → vp_in x1 10 ∧ vp_in 4 12 ∧ ∀ σ15 : CS, σ15 = cA σ12 32 (upd (σ12.2.1 32) (4 : Int32).toNatClampNeg (σ12.2.1 19 x1.toNatClampNeg)) → vp_in x1 10 ∧ vp_in x3 10 ∧ vp_in 11 12 ∧ ∀ σ19 : CS, σ19 = cA σ15 32 (upd (σ15.2.1 32) (11 : Int32).toNatClampNeg ((σ15.2.1 37 x1.toNatClampNeg) - (σ15.2.1 37 x3.toNatClampNeg))) → x2 < σ19.2.2.1 ∧ wpC_X5_firstHolding σ19 x2 10002 (fun r22 σ23 => (r22 = ((-1)) → Post x3 σ23) ∧ (¬ r22 = ((-1)) → ∀ y25 : Int32, y25 = x3 + 1 → wpC_X4_firstUnyielding_8 Post n σ23 x1 x2 y25))))))))
set_option maxHeartbeats 1000000 in
set_option maxRecDepth 20000 in
theorem wkC_X4_firstUnyielding_8 {Post : Int32 → CS → Prop} (E : zE cX4_firstUnyielding RX4 4 (some .int) D cy ks A p s m args meth c) : ∀ n : Nat, ∀ (σ : CS) (x1 : Int32) (x2 : Nat) (x3 : Int32) (H : Heap) (locs : List Loc) (ls : Array Slot), xH D A s (CW q cy σ) H locs → wpC_X4_firstUnyielding_8 Post n σ x1 x2 x3 → lv_has ls 4 [(0, .ref (q 30)), (1, .int x1), (2, .ref (q (46 + 3 * x2))), (3, .int x3)] → W p l e rC_X4_firstUnyielding s m args below meth c H locs 0 0 (MQ below (va_Qi Post (xB D cy (CW q cy) A) A) args s 0 0 A) (F0 m 8 ls []) := by
  have hx := E.1.1
  have hb := E.1.2.1
  intro n
  induction n with
  | zero => intro σ x1 x2 x3 H locs ls h hw hl; exact False.elim hw
  | succ n ih =>
    intro σ x1 x2 x3 H locs ls h hw hl
    refine lv_iload_n hx hb dX4_firstUnyielding_8 rfl (lv_at hl 3 rfl) ?_
    refine lv_aload_n hx hb dX4_firstUnyielding_9 rfl (lv_at hl 0 rfl) ?_
    refine gX4_57 E.1 h dX4_firstUnyielding_10 ?_
    refine gX4_71 E.1 h dX4_firstUnyielding_13 ?_
    refine lv_icmp_ge (tgt := 131) hx hb dX4_firstUnyielding_16 (by decide) (fun c1 => ?_) (fun c1 => ?_)
    · have hw := hw.1 c1
      refine lv_iconst (v := (-1)) hx hb dX4_firstUnyielding_131 (by decide) ?_
      exact x_iret E.1 h hw dX4_firstUnyielding_132
    · have hw := hw.2 c1
      refine lv_aload_n hx hb dX4_firstUnyielding_19 rfl (lv_at hl 0 rfl) ?_
      refine lv_iload_n hx hb dX4_firstUnyielding_20 rfl (lv_at hl 3 rfl) ?_
      refine lv_iload_n hx hb dX4_firstUnyielding_21 rfl (lv_at hl 1 rfl) ?_
      refine x_calli h (z_runV (WW := CW q cy) (rest := []) E h (cC_X4_isRival hw) yyX4_isRival lX4_210 30 rfl rfl ⟨Nat.le_of_ble_eq_true rfl, Nat.le_of_ble_eq_true rfl⟩ rfl rfl hl.1 rfl (Nat.le_of_ble_eq_true rfl) dX4_firstUnyielding_22 ⟨Nat.le_refl 0, Nat.le_refl 0⟩) (fun r2 σ3 H locs hw h => ?_)
      refine lv_if_eq (tgt := 125) hx hb dX4_firstUnyielding_25 (by decide) (fun c4 => ?_) (fun c4 => ?_)
      · have hw := hw.1 c4
        obtain ⟨y5, ey5⟩ : ∃ z : Int32, z = x3 + 1 := ⟨_, rfl⟩
        have hw := hw y5 ey5
        refine lv_iinc (v := y5) (lv' := [(3, .int y5), (0, .ref (q 30)), (1, .int x1), (2, .ref (q (46 + 3 * x2)))]) hx hb dX4_firstUnyielding_125 hl (k := 3) rfl (by rw [ey5]; rfl) (by decide) rfl (fun ls hl => ?_)
        refine lv_goto (tgt := 8) hx hb dX4_firstUnyielding_128 (by decide) ?_
        exact ih _ _ _ _ _ _ _ h hw (lv_sub hl [1, 2, 3, 0] rfl)
      · have hw := hw.2 c4
        refine lv_aload_n hx hb dX4_firstUnyielding_28 rfl (lv_at hl 0 rfl) ?_
        refine gX4_57 E.1 h dX4_firstUnyielding_29 ?_
        refine lv_iload_n hx hb dX4_firstUnyielding_32 rfl (lv_at hl 3 rfl) ?_
        refine lv_iload_n hx hb dX4_firstUnyielding_33 rfl (lv_at hl 1 rfl) ?_
        refine x_calli h (z_runVN (WW := CW q cy) (rest := []) E h (cC_X7_shared hw) yyX7_shared lX4_207 14 rfl rfl ⟨Nat.le_of_ble_eq_true rfl, Nat.le_of_ble_eq_true rfl⟩ rfl rfl hl.1 rfl (Nat.le_of_ble_eq_true rfl) dX4_firstUnyielding_34 ⟨Nat.le_refl 0, Nat.le_refl 0⟩) (fun r6 σ7 H locs hw h => ?_)
        refine lv_iconst (v := 3) hx hb dX4_firstUnyielding_37 (by decide) ?_
        refine lv_icmp_eq (tgt := 125) hx hb dX4_firstUnyielding_38 (by decide) (fun c8 => ?_) (fun c8 => ?_)
        · have hw := hw.1 c8
          obtain ⟨y9, ey9⟩ : ∃ z : Int32, z = x3 + 1 := ⟨_, rfl⟩
          have hw := hw y9 ey9
          refine lv_iinc (v := y9) (lv' := [(3, .int y9), (0, .ref (q 30)), (1, .int x1), (2, .ref (q (46 + 3 * x2)))]) hx hb dX4_firstUnyielding_125 hl (k := 3) rfl (by rw [ey9]; rfl) (by decide) rfl (fun ls hl => ?_)
          refine lv_goto (tgt := 8) hx hb dX4_firstUnyielding_128 (by decide) ?_
          exact ih _ _ _ _ _ _ _ h hw (lv_sub hl [1, 2, 3, 0] rfl)
        · have hw := hw.2 c8
          refine lv_aload_n hx hb dX4_firstUnyielding_41 rfl (lv_at hl 0 rfl) ?_
          refine gX4_12 E.1 h dX4_firstUnyielding_42 ?_
          refine x_callv h (z_runVN (WW := CW q cy) (rest := []) E h (cC_X8_clear hw) yyX8_clear lX4_94 31 rfl rfl ⟨Nat.le_of_ble_eq_true rfl, Nat.le_of_ble_eq_true rfl⟩ rfl rfl hl.1 rfl (Nat.le_of_ble_eq_true rfl) dX4_firstUnyielding_45 ⟨Nat.le_refl 0, Nat.le_refl 0⟩) (fun σ10 H locs hw h => ?_)
          refine lv_aload_n hx hb dX4_firstUnyielding_48 rfl (lv_at hl 0 rfl) ?_
          refine gX4_12 E.1 h dX4_firstUnyielding_49 ?_
          refine gX4_97 E.1 h dX4_firstUnyielding_52 ?_
          refine lv_bipush (v := 9) hx hb dX4_firstUnyielding_55 (by decide) ?_
          refine lv_aload_n hx hb dX4_firstUnyielding_57 rfl (lv_at hl 0 rfl) ?_
          refine gX4_57 E.1 h dX4_firstUnyielding_58 ?_
          refine gX4_103 E.1 h dX4_firstUnyielding_61 ?_
          refine lv_iload_n hx hb dX4_firstUnyielding_64 rfl (lv_at hl 3 rfl) ?_
          have h11 := hw.1
          have hw := hw.2
          refine aC_19 E.1 h h11 dX4_firstUnyielding_65 ?_
          have h13 := hw.1
          have hw := hw.2
          refine sC_32 E.1 h h13 dX4_firstUnyielding_66 (fun σ12 H locs eσ12 h => ?_)
          have hw := hw σ12 eσ12
          refine lv_aload_n hx hb dX4_firstUnyielding_67 rfl (lv_at hl 0 rfl) ?_
          refine gX4_12 E.1 h dX4_firstUnyielding_68 ?_
          refine gX4_97 E.1 h dX4_firstUnyielding_71 ?_
          refine lv_iconst (v := 4) hx hb dX4_firstUnyielding_74 (by decide) ?_
          refine lv_aload_n hx hb dX4_firstUnyielding_75 rfl (lv_at hl 0 rfl) ?_
          refine gX4_57 E.1 h dX4_firstUnyielding_76 ?_
          refine gX4_103 E.1 h dX4_firstUnyielding_79 ?_
          refine lv_iload_n hx hb dX4_firstUnyielding_82 rfl (lv_at hl 1 rfl) ?_
          have h14 := hw.1
          have hw := hw.2
          refine aC_19 E.1 h h14 dX4_firstUnyielding_83 ?_
          have h16 := hw.1
          have hw := hw.2
          refine sC_32 E.1 h h16 dX4_firstUnyielding_84 (fun σ15 H locs eσ15 h => ?_)
          have hw := hw σ15 eσ15
          refine lv_aload_n hx hb dX4_firstUnyielding_85 rfl (lv_at hl 0 rfl) ?_
          refine gX4_12 E.1 h dX4_firstUnyielding_86 ?_
          refine gX4_97 E.1 h dX4_firstUnyielding_89 ?_
          refine lv_bipush (v := 11) hx hb dX4_firstUnyielding_92 (by decide) ?_
          refine lv_aload_n hx hb dX4_firstUnyielding_94 rfl (lv_at hl 0 rfl) ?_
          refine gX4_25 E.1 h dX4_firstUnyielding_95 ?_
          refine lv_iload_n hx hb dX4_firstUnyielding_98 rfl (lv_at hl 1 rfl) ?_
          have h17 := hw.1
          have hw := hw.2
          refine aC_37 E.1 h h17 dX4_firstUnyielding_99 ?_
          refine lv_aload_n hx hb dX4_firstUnyielding_100 rfl (lv_at hl 0 rfl) ?_
          refine gX4_25 E.1 h dX4_firstUnyielding_101 ?_
          refine lv_iload_n hx hb dX4_firstUnyielding_104 rfl (lv_at hl 3 rfl) ?_
          have h18 := hw.1
          have hw := hw.2
          refine aC_37 E.1 h h18 dX4_firstUnyielding_105 ?_
          refine lv_isub hx hb dX4_firstUnyielding_106 ?_
          have h20 := hw.1
          have hw := hw.2
          refine sC_32 E.1 h h20 dX4_firstUnyielding_107 (fun σ19 H locs eσ19 h => ?_)
          have hw := hw σ19 eσ19
          refine lv_aload_n hx hb dX4_firstUnyielding_108 rfl (lv_at hl 2 rfl) ?_
          refine lv_sipush (v := 10002) hx hb dX4_firstUnyielding_109 (by decide) ?_
          refine lv_aload_n hx hb dX4_firstUnyielding_112 rfl (lv_at hl 0 rfl) ?_
          refine gX4_12 E.1 h dX4_firstUnyielding_113 ?_
          have h21 := hw.1
          have hw := hw.2
          refine x_calli h (z_runVN (WW := CW q cy) (rest := []) E h (cC_X5_firstHolding hw) yyX5_firstHolding lX4_134 (46 + 3 * x2) (cw_law h21) rfl ⟨Nat.le_of_ble_eq_true rfl, Nat.le_of_ble_eq_true rfl⟩ rfl rfl hl.1 rfl (Nat.le_of_ble_eq_true rfl) dX4_firstUnyielding_116 ⟨Nat.le_refl 0, Nat.le_refl 0⟩) (fun r22 σ23 H locs hw h => ?_)
          refine lv_iconst (v := (-1)) hx hb dX4_firstUnyielding_119 (by decide) ?_
          refine lv_icmp_ne (tgt := 125) hx hb dX4_firstUnyielding_120 (by decide) (fun c24 => ?_) (fun c24 => ?_)
          · have hw := hw.2 c24
            obtain ⟨y25, ey25⟩ : ∃ z : Int32, z = x3 + 1 := ⟨_, rfl⟩
            have hw := hw y25 ey25
            refine lv_iinc (v := y25) (lv' := [(3, .int y25), (0, .ref (q 30)), (1, .int x1), (2, .ref (q (46 + 3 * x2)))]) hx hb dX4_firstUnyielding_125 hl (k := 3) rfl (by rw [ey25]; rfl) (by decide) rfl (fun ls hl => ?_)
            refine lv_goto (tgt := 8) hx hb dX4_firstUnyielding_128 (by decide) ?_
            exact ih _ _ _ _ _ _ _ h hw (lv_sub hl [1, 2, 3, 0] rfl)
          · have hw := hw.1 c24
            refine lv_iload_n hx hb dX4_firstUnyielding_123 rfl (lv_at hl 3 rfl) ?_
            exact x_iret E.1 h hw dX4_firstUnyielding_124

def wpC_X4_firstUnyielding (σ : CS) (x1 : Int32) (Post : Int32 → CS → Prop) : Prop := wpC_X4_lawOf σ x1 (fun r1 σ2 => ∃ g, wpC_X4_firstUnyielding_8 Post g σ2 x1 r1 0)
set_option maxHeartbeats 1000000 in
set_option maxRecDepth 20000 in
theorem cC_X4_firstUnyielding {l : Launch} {D : va_G} {cy : Nat → ClassId} {ks : Nat × Nat × Option Nat} {q : Nat → Nat} {σ : CS} {sz : Nat} {x1 : Int32} {Post : Int32 → CS → Prop} (hw : wpC_X4_firstUnyielding σ x1 Post) : Met l yX4_firstUnyielding (Cond.code yX4_firstUnyielding cX4_firstUnyielding 4 (some .int) :: wsA) rC_X4_firstUnyielding (zPc D cy ks (CW q cy σ) sz [.ref (q 30), .int x1]) (va_Qi Post (xB D cy (CW q cy) (va_A (CW q cy σ) sz)) (va_A (CW q cy σ) sz)) 0 0 (va_A (CW q cy σ) sz) := by
  refine z_enter (own := RX4) (WW := CW q cy) (by decide) rfl (Nat.le_of_ble_eq_true rfl) ?_
  intro p e s m below meth c ls E h hl
  have hx := E.1.1
  have hb := E.1.2.1
  have hl : lv_has ls 4 [(0, .ref (q 30)), (1, .int x1)] := hl
  unfold wpC_X4_firstUnyielding at hw
  refine lv_aload_n hx hb dX4_firstUnyielding_0 rfl (lv_at hl 0 rfl) ?_
  refine lv_iload_n hx hb dX4_firstUnyielding_1 rfl (lv_at hl 1 rfl) ?_
  refine z_callr (at0 := fun r => q (46 + 3 * r)) h (z_runV (WW := CW q cy) (rest := []) E h (cC_X4_lawOf hw) yyX4_lawOf lX4_106 30 rfl rfl ⟨Nat.le_of_ble_eq_true rfl, Nat.le_of_ble_eq_true rfl⟩ rfl rfl hl.1 rfl (Nat.le_of_ble_eq_true rfl) dX4_firstUnyielding_2 ⟨Nat.le_refl 0, Nat.le_refl 0⟩) (fun r1 σ2 H locs hw h => ?_)
  refine lv_astore_n (lv' := [(2, .ref (q (46 + 3 * r1))), (0, .ref (q 30)), (1, .int x1)]) hx hb dX4_firstUnyielding_5 rfl hl (by decide) rfl (fun ls hl => ?_)
  refine lv_iconst (v := 0) hx hb dX4_firstUnyielding_6 (by decide) ?_
  refine lv_istore_n (lv' := [(3, .int 0), (2, .ref (q (46 + 3 * r1))), (0, .ref (q 30)), (1, .int x1)]) hx hb dX4_firstUnyielding_7 rfl hl (by decide) rfl (fun ls hl => ?_)
  obtain ⟨g, hw⟩ := hw
  exact wkC_X4_firstUnyielding_8 E g _ _ _ _ _ _ _ h hw (lv_sub hl [2, 3, 1, 0] rfl)

abbrev rC_X4_endRivals : Room := { frames := 3, cells := 0, slots := 0, locals := 66 }
def wpC_X4_endRivals_74 (K2 : CS → Int32 → Int32 → Prop) (Post : CS → Prop) (σ : CS) (x1 : Int32) (x2 : Int32) (t1 : Int32) (t2 : Int32) : Prop := vp_in t1 10 ∧ ∀ σ1 : CS, σ1 = cA σ 44 (upd (σ.2.1 44) t1.toNatClampNeg t2) → ∀ y3 : Int32, y3 = x2 + 1 → K2 σ1 x1 y3
set_option maxHeartbeats 1000000 in
set_option maxRecDepth 20000 in
theorem wkC_X4_endRivals_74 {Post : CS → Prop} (E : zE cX4_endRivals RX4 4 none D cy ks A p s m args meth c) {K2 : CS → Int32 → Int32 → Prop} (hK2 : ∀ (σ : CS) (x1 : Int32) (x2 : Int32) (H : Heap) (locs : List Loc) (ls : Array Slot), xH D A s (CW q cy σ) H locs → K2 σ x1 x2 → lv_has ls 4 [(0, .ref (q 30)), (1, .int x1), (2, .int x2)] → W p l e rC_X4_endRivals s m args below meth c H locs 0 0 (MQ below (va_Qv Post (xB D cy (CW q cy) A) A) args s 0 0 A) (F0 m 2 ls [])) : ∀ (σ : CS) (x1 : Int32) (x2 : Int32) (t1 : Int32) (t2 : Int32) (H : Heap) (locs : List Loc) (ls : Array Slot), xH D A s (CW q cy σ) H locs → wpC_X4_endRivals_74 K2 Post σ x1 x2 t1 t2 → lv_has ls 4 [(0, .ref (q 30)), (1, .int x1), (2, .int x2)] → W p l e rC_X4_endRivals s m args below meth c H locs 0 0 (MQ below (va_Qv Post (xB D cy (CW q cy) A) A) args s 0 0 A) (F0 m 74 ls [.int t2, .int t1, .ref (q 44)]) := by
  have hx := E.1.1
  have hb := E.1.2.1
  intro σ x1 x2 t1 t2 H locs ls h hw hl
  unfold wpC_X4_endRivals_74 at hw
  have h2 := hw.1
  have hw := hw.2
  refine sC_44 E.1 h h2 dX4_endRivals_74 (fun σ1 H locs eσ1 h => ?_)
  have hw := hw σ1 eσ1
  obtain ⟨y3, ey3⟩ : ∃ z : Int32, z = x2 + 1 := ⟨_, rfl⟩
  have hw := hw y3 ey3
  refine lv_iinc (v := y3) (lv' := [(2, .int y3), (0, .ref (q 30)), (1, .int x1)]) hx hb dX4_endRivals_75 hl (k := 2) rfl (by rw [ey3]; rfl) (by decide) rfl (fun ls hl => ?_)
  refine lv_goto (tgt := 2) hx hb dX4_endRivals_78 (by decide) ?_
  exact hK2 _ _ _ _ _ _ h hw (lv_sub hl [1, 2, 0] rfl)

def wpC_X4_endRivals_2 (Post : CS → Prop) : Nat → CS → Int32 → Int32 → Prop
  | 0, _, _, _ => False
  | n + 1, σ, x1, x2 => ((σ.1 286) ≤ x2 → Post σ) ∧ (¬ (σ.1 286) ≤ x2 → wpC_X4_isRival σ x2 x1 (fun r2 σ3 => (r2 = 0 → ∀ y5 : Int32, y5 = x2 + 1 → wpC_X4_endRivals_2 Post n σ3 x1 y5) ∧ (¬ r2 = 0 → wpC_X7_shared σ3 x2 x1 (fun r6 σ7 => vp_in x1 10 ∧ vp_in x2 10 ∧ ∀ σ9 : CS, σ9 = cA σ7 41 (upd (σ7.2.1 41) x2.toNatClampNeg (σ7.2.1 37 x1.toNatClampNeg)) → vp_in x2 10 ∧ ∀ σ11 : CS, σ11 = cA σ9 42 (upd (σ9.2.1 42) x2.toNatClampNeg 9) → vp_in x2 10 ∧ ∀ σ13 : CS, σ13 = cA σ11 43 (upd (σ11.2.1 43) x2.toNatClampNeg x1) → (r6 = 3 → wpC_X4_endRivals_74 (fun a0 a1 a2 => wpC_X4_endRivals_2 Post n a0 a1 a2) Post σ13 x1 x2 x2 0) ∧ (¬ r6 = 3 → wpC_X4_endRivals_74 (fun a0 a1 a2 => wpC_X4_endRivals_2 Post n a0 a1 a2) Post σ13 x1 x2 x2 r6)))))
set_option maxHeartbeats 1000000 in
set_option maxRecDepth 20000 in
theorem wkC_X4_endRivals_2 {Post : CS → Prop} (E : zE cX4_endRivals RX4 4 none D cy ks A p s m args meth c) : ∀ n : Nat, ∀ (σ : CS) (x1 : Int32) (x2 : Int32) (H : Heap) (locs : List Loc) (ls : Array Slot), xH D A s (CW q cy σ) H locs → wpC_X4_endRivals_2 Post n σ x1 x2 → lv_has ls 4 [(0, .ref (q 30)), (1, .int x1), (2, .int x2)] → W p l e rC_X4_endRivals s m args below meth c H locs 0 0 (MQ below (va_Qv Post (xB D cy (CW q cy) A) A) args s 0 0 A) (F0 m 2 ls []) := by
  have hx := E.1.1
  have hb := E.1.2.1
  intro n
  induction n with
  | zero => intro σ x1 x2 H locs ls h hw hl; exact False.elim hw
  | succ n ih =>
    intro σ x1 x2 H locs ls h hw hl
    refine lv_iload_n hx hb dX4_endRivals_2 rfl (lv_at hl 2 rfl) ?_
    refine lv_aload_n hx hb dX4_endRivals_3 rfl (lv_at hl 0 rfl) ?_
    refine gX4_57 E.1 h dX4_endRivals_4 ?_
    refine gX4_71 E.1 h dX4_endRivals_7 ?_
    refine lv_icmp_ge (tgt := 81) hx hb dX4_endRivals_10 (by decide) (fun c1 => ?_) (fun c1 => ?_)
    · have hw := hw.1 c1
      exact x_vret E.1 h hw dX4_endRivals_81
    · have hw := hw.2 c1
      refine lv_aload_n hx hb dX4_endRivals_13 rfl (lv_at hl 0 rfl) ?_
      refine lv_iload_n hx hb dX4_endRivals_14 rfl (lv_at hl 2 rfl) ?_
      refine lv_iload_n hx hb dX4_endRivals_15 rfl (lv_at hl 1 rfl) ?_
      refine x_calli h (z_runV (WW := CW q cy) (rest := []) E h (cC_X4_isRival hw) yyX4_isRival lX4_210 30 rfl rfl ⟨Nat.le_of_ble_eq_true rfl, Nat.le_of_ble_eq_true rfl⟩ rfl rfl hl.1 rfl (Nat.le_of_ble_eq_true rfl) dX4_endRivals_16 ⟨Nat.le_refl 0, Nat.le_refl 0⟩) (fun r2 σ3 H locs hw h => ?_)
      refine lv_if_eq (tgt := 75) hx hb dX4_endRivals_19 (by decide) (fun c4 => ?_) (fun c4 => ?_)
      · have hw := hw.1 c4
        obtain ⟨y5, ey5⟩ : ∃ z : Int32, z = x2 + 1 := ⟨_, rfl⟩
        have hw := hw y5 ey5
        refine lv_iinc (v := y5) (lv' := [(2, .int y5), (0, .ref (q 30)), (1, .int x1)]) hx hb dX4_endRivals_75 hl (k := 2) rfl (by rw [ey5]; rfl) (by decide) rfl (fun ls hl => ?_)
        refine lv_goto (tgt := 2) hx hb dX4_endRivals_78 (by decide) ?_
        exact ih _ _ _ _ _ _ h hw (lv_sub hl [1, 2, 0] rfl)
      · have hw := hw.2 c4
        refine lv_aload_n hx hb dX4_endRivals_22 rfl (lv_at hl 0 rfl) ?_
        refine gX4_57 E.1 h dX4_endRivals_23 ?_
        refine lv_iload_n hx hb dX4_endRivals_26 rfl (lv_at hl 2 rfl) ?_
        refine lv_iload_n hx hb dX4_endRivals_27 rfl (lv_at hl 1 rfl) ?_
        refine x_calli h (z_runVN (WW := CW q cy) (rest := []) E h (cC_X7_shared hw) yyX7_shared lX4_207 14 rfl rfl ⟨Nat.le_of_ble_eq_true rfl, Nat.le_of_ble_eq_true rfl⟩ rfl rfl hl.1 rfl (Nat.le_of_ble_eq_true rfl) dX4_endRivals_28 ⟨Nat.le_refl 0, Nat.le_refl 0⟩) (fun r6 σ7 H locs hw h => ?_)
        refine lv_istore_n (lv' := [(3, .int r6), (0, .ref (q 30)), (1, .int x1), (2, .int x2)]) hx hb dX4_endRivals_31 rfl hl (by decide) rfl (fun ls hl => ?_)
        refine lv_aload_n hx hb dX4_endRivals_32 rfl (lv_at hl 1 rfl) ?_
        refine gX4_37 E.1 h dX4_endRivals_33 ?_
        refine lv_iload_n hx hb dX4_endRivals_36 rfl (lv_at hl 3 rfl) ?_
        refine lv_aload_n hx hb dX4_endRivals_37 rfl (lv_at hl 1 rfl) ?_
        refine gX4_25 E.1 h dX4_endRivals_38 ?_
        refine lv_iload_n hx hb dX4_endRivals_41 rfl (lv_at hl 2 rfl) ?_
        have h8 := hw.1
        have hw := hw.2
        refine aC_37 E.1 h h8 dX4_endRivals_42 ?_
        have h10 := hw.1
        have hw := hw.2
        refine sC_41 E.1 h h10 dX4_endRivals_43 (fun σ9 H locs eσ9 h => ?_)
        have hw := hw σ9 eσ9
        refine lv_aload_n hx hb dX4_endRivals_44 rfl (lv_at hl 1 rfl) ?_
        refine gX4_40 E.1 h dX4_endRivals_45 ?_
        refine lv_iload_n hx hb dX4_endRivals_48 rfl (lv_at hl 3 rfl) ?_
        refine lv_bipush (v := 9) hx hb dX4_endRivals_49 (by decide) ?_
        have h12 := hw.1
        have hw := hw.2
        refine sC_42 E.1 h h12 dX4_endRivals_51 (fun σ11 H locs eσ11 h => ?_)
        have hw := hw σ11 eσ11
        refine lv_aload_n hx hb dX4_endRivals_52 rfl (lv_at hl 1 rfl) ?_
        refine gX4_43 E.1 h dX4_endRivals_53 ?_
        refine lv_iload_n hx hb dX4_endRivals_56 rfl (lv_at hl 3 rfl) ?_
        refine lv_iload_n hx hb dX4_endRivals_57 rfl (lv_at hl 2 rfl) ?_
        have h14 := hw.1
        have hw := hw.2
        refine sC_43 E.1 h h14 dX4_endRivals_58 (fun σ13 H locs eσ13 h => ?_)
        have hw := hw σ13 eσ13
        refine lv_aload_n hx hb dX4_endRivals_59 rfl (lv_at hl 1 rfl) ?_
        refine gX4_46 E.1 h dX4_endRivals_60 ?_
        refine lv_iload_n hx hb dX4_endRivals_63 rfl (lv_at hl 3 rfl) ?_
        refine lv_iload_n hx hb dX4_endRivals_64 rfl (lv_at hl 0 rfl) ?_
        refine lv_iconst (v := 3) hx hb dX4_endRivals_65 (by decide) ?_
        refine lv_icmp_ne (tgt := 73) hx hb dX4_endRivals_66 (by decide) (fun c15 => ?_) (fun c15 => ?_)
        · have hw := hw.2 c15
          refine lv_iload_n hx hb dX4_endRivals_73 rfl (lv_at hl 0 rfl) ?_
          exact wkC_X4_endRivals_74 E ih _ _ _ _ _ _ _ _ h hw (lv_sub hl [1, 2, 3] rfl)
        · have hw := hw.1 c15
          refine lv_iconst (v := 0) hx hb dX4_endRivals_69 (by decide) ?_
          refine lv_goto (tgt := 74) hx hb dX4_endRivals_70 (by decide) ?_
          exact wkC_X4_endRivals_74 E ih _ _ _ _ _ _ _ _ h hw (lv_sub hl [1, 2, 3] rfl)

def wpC_X4_endRivals (σ : CS) (x1 : Int32) (Post : CS → Prop) : Prop := ∃ g, wpC_X4_endRivals_2 Post g σ x1 0
set_option maxHeartbeats 1000000 in
set_option maxRecDepth 20000 in
theorem cC_X4_endRivals {l : Launch} {D : va_G} {cy : Nat → ClassId} {ks : Nat × Nat × Option Nat} {q : Nat → Nat} {σ : CS} {sz : Nat} {x1 : Int32} {Post : CS → Prop} (hw : wpC_X4_endRivals σ x1 Post) : Met l yX4_endRivals (Cond.code yX4_endRivals cX4_endRivals 4 none :: wsA) rC_X4_endRivals (zPc D cy ks (CW q cy σ) sz [.ref (q 30), .int x1]) (va_Qv Post (xB D cy (CW q cy) (va_A (CW q cy σ) sz)) (va_A (CW q cy σ) sz)) 0 0 (va_A (CW q cy σ) sz) := by
  refine z_enter (own := RX4) (WW := CW q cy) (by decide) rfl (Nat.le_of_ble_eq_true rfl) ?_
  intro p e s m below meth c ls E h hl
  have hx := E.1.1
  have hb := E.1.2.1
  have hl : lv_has ls 4 [(0, .ref (q 30)), (1, .int x1)] := hl
  unfold wpC_X4_endRivals at hw
  refine lv_iconst (v := 0) hx hb dX4_endRivals_0 (by decide) ?_
  refine lv_istore_n (lv' := [(2, .int 0), (0, .ref (q 30)), (1, .int x1)]) hx hb dX4_endRivals_1 rfl hl (by decide) rfl (fun ls hl => ?_)
  obtain ⟨g, hw⟩ := hw
  exact wkC_X4_endRivals_2 E g _ _ _ _ _ _ h hw (lv_sub hl [1, 2, 0] rfl)

abbrev rC_X5_lapseDays : Room := { frames := 1, cells := 0, slots := 0, locals := 21 }
def wpC_X5_lapseDays_2 (Post : Int32 → CS → Prop) : Nat → CS → Nat → Int32 → Prop
  | 0, _, _, _ => False
  | n + 1, σ, x0, x1 => x0 < σ.2.2.1 ∧ x0 < σ.2.2.1 ∧ ((Int32.ofNat (σ.2.2.2 x0).2.2.1) ≤ x1 → Post ((-1)) σ) ∧ (¬ (Int32.ofNat (σ.2.2.2 x0).2.2.1) ≤ x1 → x0 < σ.2.2.1 ∧ x0 < σ.2.2.1 ∧ vp_in x1 (σ.2.2.2 x0).2.2.1 ∧ x0 < σ.2.2.1 ∧ wpC_X5_tokenAt σ x0 ((σ.2.2.2 x0).2.2.2 x1.toNatClampNeg) (fun r8 σ9 => (r8 = 10003 → x0 < σ9.2.2.1 ∧ x0 < σ9.2.2.1 ∧ vp_in x1 (σ9.2.2.2 x0).2.2.1 ∧ x0 < σ9.2.2.1 ∧ wpC_X5_tokenAt σ9 x0 (((σ9.2.2.2 x0).2.2.2 x1.toNatClampNeg) + 1) (fun r16 σ17 => Post r16 σ17)) ∧ (¬ r8 = 10003 → ∀ y11 : Int32, y11 = x1 + 1 → wpC_X5_lapseDays_2 Post n σ9 x0 y11)))
set_option maxHeartbeats 1000000 in
set_option maxRecDepth 20000 in
theorem wkC_X5_lapseDays_2 {Post : Int32 → CS → Prop} (E : zE cX5_lapseDays RX5 2 (some .int) D cy ks A p s m args meth c) : ∀ n : Nat, ∀ (σ : CS) (x0 : Nat) (x1 : Int32) (H : Heap) (locs : List Loc) (ls : Array Slot), xH D A s (CW q cy σ) H locs → wpC_X5_lapseDays_2 Post n σ x0 x1 → lv_has ls 2 [(0, .ref (q (46 + 3 * x0))), (1, .int x1)] → W p l e rC_X5_lapseDays s m args below meth c H locs 0 0 (MQ below (va_Qi Post (xB D cy (CW q cy) A) A) args s 0 0 A) (F0 m 2 ls []) := by
  have hx := E.1.1
  have hb := E.1.2.1
  intro n
  induction n with
  | zero => intro σ x0 x1 H locs ls h hw hl; exact False.elim hw
  | succ n ih =>
    intro σ x0 x1 H locs ls h hw hl
    refine lv_iload_n hx hb dX5_lapseDays_2 rfl (lv_at hl 1 rfl) ?_
    refine lv_aload_n hx hb dX5_lapseDays_3 rfl (lv_at hl 0 rfl) ?_
    have h1 := hw.1
    have hw := hw.2
    refine gX5_22 E.1 h h1 dX5_lapseDays_4 ?_
    have h2 := hw.1
    have hw := hw.2
    refine nC_LR E.1 h h2 dX5_lapseDays_7 ?_
    refine lv_icmp_ge (tgt := 46) hx hb dX5_lapseDays_8 (by decide) (fun c3 => ?_) (fun c3 => ?_)
    · have hw := hw.1 c3
      refine lv_iconst (v := (-1)) hx hb dX5_lapseDays_46 (by decide) ?_
      exact x_iret E.1 h hw dX5_lapseDays_47
    · have hw := hw.2 c3
      refine lv_aload_n hx hb dX5_lapseDays_11 rfl (lv_at hl 0 rfl) ?_
      refine lv_aload_n hx hb dX5_lapseDays_12 rfl (lv_at hl 0 rfl) ?_
      have h4 := hw.1
      have hw := hw.2
      refine gX5_22 E.1 h h4 dX5_lapseDays_13 ?_
      refine lv_iload_n hx hb dX5_lapseDays_16 rfl (lv_at hl 1 rfl) ?_
      have h5 := hw.1
      have hw := hw.2
      have h6 := hw.1
      have hw := hw.2
      refine aC_LR E.1 h h5 h6 dX5_lapseDays_17 ?_
      have h7 := hw.1
      have hw := hw.2
      refine x_calli h (z_runV (WW := CW q cy) (rest := []) E h (cC_X5_tokenAt hw) yyX5_tokenAt lX5_25 (46 + 3 * x0) (cw_law h7) rfl ⟨Nat.le_of_ble_eq_true rfl, Nat.le_of_ble_eq_true rfl⟩ rfl rfl hl.1 rfl (Nat.le_of_ble_eq_true rfl) dX5_lapseDays_18 ⟨Nat.le_refl 0, Nat.le_refl 0⟩) (fun r8 σ9 H locs hw h => ?_)
      refine lv_sipush (v := 10003) hx hb dX5_lapseDays_21 (by decide) ?_
      refine lv_icmp_ne (tgt := 40) hx hb dX5_lapseDays_24 (by decide) (fun c10 => ?_) (fun c10 => ?_)
      · have hw := hw.2 c10
        obtain ⟨y11, ey11⟩ : ∃ z : Int32, z = x1 + 1 := ⟨_, rfl⟩
        have hw := hw y11 ey11
        refine lv_iinc (v := y11) (lv' := [(1, .int y11), (0, .ref (q (46 + 3 * x0)))]) hx hb dX5_lapseDays_40 hl (k := 1) rfl (by rw [ey11]; rfl) (by decide) rfl (fun ls hl => ?_)
        refine lv_goto (tgt := 2) hx hb dX5_lapseDays_43 (by decide) ?_
        exact ih _ _ _ _ _ _ h hw (lv_sub hl [1, 0] rfl)
      · have hw := hw.1 c10
        refine lv_aload_n hx hb dX5_lapseDays_27 rfl (lv_at hl 0 rfl) ?_
        refine lv_aload_n hx hb dX5_lapseDays_28 rfl (lv_at hl 0 rfl) ?_
        have h12 := hw.1
        have hw := hw.2
        refine gX5_22 E.1 h h12 dX5_lapseDays_29 ?_
        refine lv_iload_n hx hb dX5_lapseDays_32 rfl (lv_at hl 1 rfl) ?_
        have h13 := hw.1
        have hw := hw.2
        have h14 := hw.1
        have hw := hw.2
        refine aC_LR E.1 h h13 h14 dX5_lapseDays_33 ?_
        refine lv_iconst (v := 1) hx hb dX5_lapseDays_34 (by decide) ?_
        refine lv_iadd hx hb dX5_lapseDays_35 ?_
        have h15 := hw.1
        have hw := hw.2
        refine x_calli h (z_runV (WW := CW q cy) (rest := []) E h (cC_X5_tokenAt hw) yyX5_tokenAt lX5_25 (46 + 3 * x0) (cw_law h15) rfl ⟨Nat.le_of_ble_eq_true rfl, Nat.le_of_ble_eq_true rfl⟩ rfl rfl hl.1 rfl (Nat.le_of_ble_eq_true rfl) dX5_lapseDays_36 ⟨Nat.le_refl 0, Nat.le_refl 0⟩) (fun r16 σ17 H locs hw h => ?_)
        exact x_iret E.1 h hw dX5_lapseDays_39

def wpC_X5_lapseDays (σ : CS) (x0 : Nat) (Post : Int32 → CS → Prop) : Prop := ∃ g, wpC_X5_lapseDays_2 Post g σ x0 0
set_option maxHeartbeats 1000000 in
set_option maxRecDepth 20000 in
theorem cC_X5_lapseDays {l : Launch} {D : va_G} {cy : Nat → ClassId} {ks : Nat × Nat × Option Nat} {q : Nat → Nat} {σ : CS} {sz : Nat} {x0 : Nat} {Post : Int32 → CS → Prop} (hw : wpC_X5_lapseDays σ x0 Post) : Met l yX5_lapseDays (Cond.code yX5_lapseDays cX5_lapseDays 2 (some .int) :: wsA) rC_X5_lapseDays (zPc D cy ks (CW q cy σ) sz [.ref (q (46 + 3 * x0))]) (va_Qi Post (xB D cy (CW q cy) (va_A (CW q cy σ) sz)) (va_A (CW q cy σ) sz)) 0 0 (va_A (CW q cy σ) sz) := by
  refine z_enter (own := RX5) (WW := CW q cy) (by decide) rfl (Nat.le_of_ble_eq_true rfl) ?_
  intro p e s m below meth c ls E h hl
  have hx := E.1.1
  have hb := E.1.2.1
  have hl : lv_has ls 2 [(0, .ref (q (46 + 3 * x0)))] := hl
  unfold wpC_X5_lapseDays at hw
  refine lv_iconst (v := 0) hx hb dX5_lapseDays_0 (by decide) ?_
  refine lv_istore_n (lv' := [(1, .int 0), (0, .ref (q (46 + 3 * x0)))]) hx hb dX5_lapseDays_1 rfl hl (by decide) rfl (fun ls hl => ?_)
  obtain ⟨g, hw⟩ := hw
  exact wkC_X5_lapseDays_2 E g _ _ _ _ _ _ h hw (lv_sub hl [1, 0] rfl)

abbrev rC_X4_findEnd : Room := { frames := 3, cells := 0, slots := 0, locals := 70 }
def wpC_X4_findEnd_29 (Post : CS → Prop) (σ : CS) (x1 : Int32) : Prop := wpC_X4_lawOf σ x1 (fun r1 σ2 => r1 < σ2.2.2.1 ∧ wpC_X5_lapseDays σ2 r1 (fun r4 σ5 => (r4 = ((-1)) → Post σ5) ∧ (¬ r4 = ((-1)) → vp_in x1 10 ∧ vp_in x1 10 ∧ wpC_X0_firstLapse σ5 (σ5.2.1 15 x1.toNatClampNeg) r4 (σ5.2.1 37 x1.toNatClampNeg) (fun r9 σ10 => vp_in x1 10 ∧ vp_in x1 10 ∧ wpC_X0_firstLapse σ10 (σ10.2.1 16 x1.toNatClampNeg) r4 (σ10.2.1 37 x1.toNatClampNeg) (fun r13 σ14 => ∀ y15 : Int32, y15 = (if r13 < r9 then r13 else r9) → vp_in x1 10 ∧ ((σ14.2.1 41 x1.toNatClampNeg) ≤ y15 → Post σ14) ∧ (¬ (σ14.2.1 41 x1.toNatClampNeg) ≤ y15 → vp_in x1 10 ∧ ∀ σ18 : CS, σ18 = cA σ14 41 (upd (σ14.2.1 41) x1.toNatClampNeg y15) → vp_in x1 10 ∧ ∀ σ20 : CS, σ20 = cA σ18 42 (upd (σ18.2.1 42) x1.toNatClampNeg 8) → Post σ20))))))
set_option maxHeartbeats 1000000 in
set_option maxRecDepth 20000 in
theorem wkC_X4_findEnd_29 {Post : CS → Prop} (E : zE cX4_findEnd RX4 5 none D cy ks A p s m args meth c) : ∀ (σ : CS) (x1 : Int32) (H : Heap) (locs : List Loc) (ls : Array Slot), xH D A s (CW q cy σ) H locs → wpC_X4_findEnd_29 Post σ x1 → lv_has ls 5 [(0, .ref (q 30)), (1, .int x1)] → W p l e rC_X4_findEnd s m args below meth c H locs 0 0 (MQ below (va_Qv Post (xB D cy (CW q cy) A) A) args s 0 0 A) (F0 m 29 ls []) := by
  have hx := E.1.1
  have hb := E.1.2.1
  intro σ x1 H locs ls h hw hl
  unfold wpC_X4_findEnd_29 at hw
  refine lv_aload_n hx hb dX4_findEnd_29 rfl (lv_at hl 0 rfl) ?_
  refine lv_iload_n hx hb dX4_findEnd_30 rfl (lv_at hl 1 rfl) ?_
  refine z_callr (at0 := fun r => q (46 + 3 * r)) h (z_runV (WW := CW q cy) (rest := []) E h (cC_X4_lawOf hw) yyX4_lawOf lX4_106 30 rfl rfl ⟨Nat.le_of_ble_eq_true rfl, Nat.le_of_ble_eq_true rfl⟩ rfl rfl hl.1 rfl (Nat.le_of_ble_eq_true rfl) dX4_findEnd_31 ⟨Nat.le_refl 0, Nat.le_refl 0⟩) (fun r1 σ2 H locs hw h => ?_)
  have h3 := hw.1
  have hw := hw.2
  refine x_calli h (z_runVN (WW := CW q cy) (rest := []) E h (cC_X5_lapseDays hw) yyX5_lapseDays lX4_213 (46 + 3 * r1) (cw_law h3) rfl ⟨Nat.le_of_ble_eq_true rfl, Nat.le_of_ble_eq_true rfl⟩ rfl rfl hl.1 rfl (Nat.le_of_ble_eq_true rfl) dX4_findEnd_34 ⟨Nat.le_refl 0, Nat.le_refl 0⟩) (fun r4 σ5 H locs hw h => ?_)
  refine lv_istore_n (lv' := [(3, .int r4), (0, .ref (q 30)), (1, .int x1)]) hx hb dX4_findEnd_37 rfl hl (by decide) rfl (fun ls hl => ?_)
  refine lv_iload_n hx hb dX4_findEnd_38 rfl (lv_at hl 0 rfl) ?_
  refine lv_iconst (v := (-1)) hx hb dX4_findEnd_39 (by decide) ?_
  refine lv_icmp_ne (tgt := 44) hx hb dX4_findEnd_40 (by decide) (fun c6 => ?_) (fun c6 => ?_)
  · have hw := hw.2 c6
    refine lv_aload_n hx hb dX4_findEnd_44 rfl (lv_at hl 1 rfl) ?_
    refine gX4_61 E.1 h dX4_findEnd_45 ?_
    refine lv_aload_n hx hb dX4_findEnd_48 rfl (lv_at hl 1 rfl) ?_
    refine gX4_57 E.1 h dX4_findEnd_49 ?_
    refine gX4_168 E.1 h dX4_findEnd_52 ?_
    refine lv_iload_n hx hb dX4_findEnd_55 rfl (lv_at hl 2 rfl) ?_
    have h7 := hw.1
    have hw := hw.2
    refine aC_15 E.1 h h7 dX4_findEnd_56 ?_
    refine lv_iload_n hx hb dX4_findEnd_57 rfl (lv_at hl 0 rfl) ?_
    refine lv_aload_n hx hb dX4_findEnd_58 rfl (lv_at hl 1 rfl) ?_
    refine gX4_25 E.1 h dX4_findEnd_59 ?_
    refine lv_iload_n hx hb dX4_findEnd_62 rfl (lv_at hl 2 rfl) ?_
    have h8 := hw.1
    have hw := hw.2
    refine aC_37 E.1 h h8 dX4_findEnd_63 ?_
    refine x_calli h (z_runVN (WW := CW q cy) (rest := []) E h (cC_X0_firstLapse hw) yyX0_firstLapse lX4_216 25 rfl rfl ⟨Nat.le_of_ble_eq_true rfl, Nat.le_of_ble_eq_true rfl⟩ rfl rfl hl.1 rfl (Nat.le_of_ble_eq_true rfl) dX4_findEnd_64 ⟨Nat.le_refl 0, Nat.le_refl 0⟩) (fun r9 σ10 H locs hw h => ?_)
    refine lv_aload_n hx hb dX4_findEnd_67 rfl (lv_at hl 1 rfl) ?_
    refine gX4_61 E.1 h dX4_findEnd_68 ?_
    refine lv_aload_n hx hb dX4_findEnd_71 rfl (lv_at hl 1 rfl) ?_
    refine gX4_57 E.1 h dX4_findEnd_72 ?_
    refine gX4_174 E.1 h dX4_findEnd_75 ?_
    refine lv_iload_n hx hb dX4_findEnd_78 rfl (lv_at hl 2 rfl) ?_
    have h11 := hw.1
    have hw := hw.2
    refine aC_16 E.1 h h11 dX4_findEnd_79 ?_
    refine lv_iload_n hx hb dX4_findEnd_80 rfl (lv_at hl 0 rfl) ?_
    refine lv_aload_n hx hb dX4_findEnd_81 rfl (lv_at hl 1 rfl) ?_
    refine gX4_25 E.1 h dX4_findEnd_82 ?_
    refine lv_iload_n hx hb dX4_findEnd_85 rfl (lv_at hl 2 rfl) ?_
    have h12 := hw.1
    have hw := hw.2
    refine aC_37 E.1 h h12 dX4_findEnd_86 ?_
    refine x_calli h (z_runVN (WW := CW q cy) (rest := [.int r9]) E h (cC_X0_firstLapse hw) yyX0_firstLapse lX4_216 25 rfl rfl ⟨Nat.le_of_ble_eq_true rfl, Nat.le_of_ble_eq_true rfl⟩ rfl rfl hl.1 rfl (Nat.le_of_ble_eq_true rfl) dX4_findEnd_87 ⟨Nat.le_refl 0, Nat.le_refl 0⟩) (fun r13 σ14 H locs hw h => ?_)
    refine z_min E.1 hl.1 lX4_204 (Nat.le_of_ble_eq_true rfl) (Nat.le_of_ble_eq_true rfl) (Nat.le_refl 0) (Nat.le_refl 0) dX4_findEnd_90 ?_
    refine lv_topi (fun y15 ey15 => ?_)
    have hw := hw y15 ey15
    refine lv_istore (lv' := [(4, .int y15), (3, .int r4), (0, .ref (q 30)), (1, .int x1)]) hx hb dX4_findEnd_93 hl (by decide) rfl (fun ls hl => ?_)
    refine lv_iload hx hb dX4_findEnd_95 (lv_at hl 0 rfl) ?_
    refine lv_aload_n hx hb dX4_findEnd_97 rfl (lv_at hl 2 rfl) ?_
    refine gX4_37 E.1 h dX4_findEnd_98 ?_
    refine lv_iload_n hx hb dX4_findEnd_101 rfl (lv_at hl 3 rfl) ?_
    have h16 := hw.1
    have hw := hw.2
    refine aC_41 E.1 h h16 dX4_findEnd_102 ?_
    refine lv_icmp_ge (tgt := 122) hx hb dX4_findEnd_103 (by decide) (fun c17 => ?_) (fun c17 => ?_)
    · have hw := hw.1 c17
      exact x_vret E.1 h hw dX4_findEnd_122
    · have hw := hw.2 c17
      refine lv_aload_n hx hb dX4_findEnd_106 rfl (lv_at hl 2 rfl) ?_
      refine gX4_37 E.1 h dX4_findEnd_107 ?_
      refine lv_iload_n hx hb dX4_findEnd_110 rfl (lv_at hl 3 rfl) ?_
      refine lv_iload hx hb dX4_findEnd_111 (lv_at hl 0 rfl) ?_
      have h19 := hw.1
      have hw := hw.2
      refine sC_41 E.1 h h19 dX4_findEnd_113 (fun σ18 H locs eσ18 h => ?_)
      have hw := hw σ18 eσ18
      refine lv_aload_n hx hb dX4_findEnd_114 rfl (lv_at hl 2 rfl) ?_
      refine gX4_40 E.1 h dX4_findEnd_115 ?_
      refine lv_iload_n hx hb dX4_findEnd_118 rfl (lv_at hl 3 rfl) ?_
      refine lv_bipush (v := 8) hx hb dX4_findEnd_119 (by decide) ?_
      have h21 := hw.1
      have hw := hw.2
      refine sC_42 E.1 h h21 dX4_findEnd_121 (fun σ20 H locs eσ20 h => ?_)
      have hw := hw σ20 eσ20
      exact x_vret E.1 h hw dX4_findEnd_122
  · have hw := hw.1 c6
    exact x_vret E.1 h hw dX4_findEnd_43

def wpC_X4_findEnd (σ : CS) (x1 : Int32) (Post : CS → Prop) : Prop := wpC_X4_firstOfBoth σ 0 x1 (fun r1 σ2 => (10000 ≤ r1 → wpC_X4_findEnd_29 Post σ2 x1) ∧ (¬ 10000 ≤ r1 → vp_in x1 10 ∧ ∀ σ4 : CS, σ4 = cA σ2 41 (upd (σ2.2.1 41) x1.toNatClampNeg r1) → vp_in x1 10 ∧ ∀ σ6 : CS, σ6 = cA σ4 42 (upd (σ4.2.1 42) x1.toNatClampNeg 7) → wpC_X4_findEnd_29 Post σ6 x1))
set_option maxHeartbeats 1000000 in
set_option maxRecDepth 20000 in
theorem cC_X4_findEnd {l : Launch} {D : va_G} {cy : Nat → ClassId} {ks : Nat × Nat × Option Nat} {q : Nat → Nat} {σ : CS} {sz : Nat} {x1 : Int32} {Post : CS → Prop} (hw : wpC_X4_findEnd σ x1 Post) : Met l yX4_findEnd (Cond.code yX4_findEnd cX4_findEnd 5 none :: wsA) rC_X4_findEnd (zPc D cy ks (CW q cy σ) sz [.ref (q 30), .int x1]) (va_Qv Post (xB D cy (CW q cy) (va_A (CW q cy σ) sz)) (va_A (CW q cy σ) sz)) 0 0 (va_A (CW q cy σ) sz) := by
  refine z_enter (own := RX4) (WW := CW q cy) (by decide) rfl (Nat.le_of_ble_eq_true rfl) ?_
  intro p e s m below meth c ls E h hl
  have hx := E.1.1
  have hb := E.1.2.1
  have hl : lv_has ls 5 [(0, .ref (q 30)), (1, .int x1)] := hl
  unfold wpC_X4_findEnd at hw
  refine lv_aload_n hx hb dX4_findEnd_0 rfl (lv_at hl 0 rfl) ?_
  refine lv_iconst (v := 0) hx hb dX4_findEnd_1 (by decide) ?_
  refine lv_iload_n hx hb dX4_findEnd_2 rfl (lv_at hl 1 rfl) ?_
  refine x_calli h (z_runV (WW := CW q cy) (rest := []) E h (cC_X4_firstOfBoth hw) yyX4_firstOfBoth lX4_189 30 rfl rfl ⟨Nat.le_of_ble_eq_true rfl, Nat.le_of_ble_eq_true rfl⟩ rfl rfl hl.1 rfl (Nat.le_of_ble_eq_true rfl) dX4_findEnd_3 ⟨Nat.le_refl 0, Nat.le_refl 0⟩) (fun r1 σ2 H locs hw h => ?_)
  refine lv_istore_n (lv' := [(2, .int r1), (0, .ref (q 30)), (1, .int x1)]) hx hb dX4_findEnd_6 rfl hl (by decide) rfl (fun ls hl => ?_)
  refine lv_iload_n hx hb dX4_findEnd_7 rfl (lv_at hl 0 rfl) ?_
  refine lv_sipush (v := 10000) hx hb dX4_findEnd_8 (by decide) ?_
  refine lv_icmp_ge (tgt := 29) hx hb dX4_findEnd_11 (by decide) (fun c3 => ?_) (fun c3 => ?_)
  · have hw := hw.1 c3
    exact wkC_X4_findEnd_29 E _ _ _ _ _ h hw (lv_sub hl [1, 2] rfl)
  · have hw := hw.2 c3
    refine lv_aload_n hx hb dX4_findEnd_14 rfl (lv_at hl 1 rfl) ?_
    refine gX4_37 E.1 h dX4_findEnd_15 ?_
    refine lv_iload_n hx hb dX4_findEnd_18 rfl (lv_at hl 2 rfl) ?_
    refine lv_iload_n hx hb dX4_findEnd_19 rfl (lv_at hl 0 rfl) ?_
    have h5 := hw.1
    have hw := hw.2
    refine sC_41 E.1 h h5 dX4_findEnd_20 (fun σ4 H locs eσ4 h => ?_)
    have hw := hw σ4 eσ4
    refine lv_aload_n hx hb dX4_findEnd_21 rfl (lv_at hl 1 rfl) ?_
    refine gX4_40 E.1 h dX4_findEnd_22 ?_
    refine lv_iload_n hx hb dX4_findEnd_25 rfl (lv_at hl 2 rfl) ?_
    refine lv_bipush (v := 7) hx hb dX4_findEnd_26 (by decide) ?_
    have h7 := hw.1
    have hw := hw.2
    refine sC_42 E.1 h h7 dX4_findEnd_28 (fun σ6 H locs eσ6 h => ?_)
    have hw := hw σ6 eσ6
    exact wkC_X4_findEnd_29 E _ _ _ _ _ h hw (lv_sub hl [1, 2] rfl)

abbrev rC_X4_settle : Room := { frames := 5, cells := 0, slots := 0, locals := 114 }
def wpC_X4_settle (σ : CS) (x1 : Int32) (Post : CS → Prop) : Prop := wpC_X4_firstBar σ x1 (fun r1 σ2 => vp_in x1 10 ∧ ∀ σ3 : CS, σ3 = cA σ2 39 (upd (σ2.2.1 39) x1.toNatClampNeg r1) → vp_in x1 10 ∧ ((σ3.2.1 39 x1.toNatClampNeg) = ((-1)) → wpC_X4_firstUnyielding σ3 x1 (fun r7 σ8 => vp_in x1 10 ∧ ∀ σ9 : CS, σ9 = cA σ8 40 (upd (σ8.2.1 40) x1.toNatClampNeg r7) → vp_in x1 10 ∧ ((σ9.2.1 40 x1.toNatClampNeg) = ((-1)) → wpC_X4_endRivals σ9 x1 (fun σ13 => vp_in x1 10 ∧ ∀ σ14 : CS, σ14 = cA σ13 38 (upd (σ13.2.1 38) x1.toNatClampNeg 6) → wpC_X4_findEnd σ14 x1 (fun σ16 => Post σ16))) ∧ (¬ (σ9.2.1 40 x1.toNatClampNeg) = ((-1)) → vp_in x1 10 ∧ ∀ σ17 : CS, σ17 = cA σ9 38 (upd (σ9.2.1 38) x1.toNatClampNeg 5) → Post σ17))) ∧ (¬ (σ3.2.1 39 x1.toNatClampNeg) = ((-1)) → vp_in x1 10 ∧ ∀ σ19 : CS, σ19 = cA σ3 38 (upd (σ3.2.1 38) x1.toNatClampNeg 4) → Post σ19))
set_option maxHeartbeats 1000000 in
set_option maxRecDepth 20000 in
theorem cC_X4_settle {l : Launch} {D : va_G} {cy : Nat → ClassId} {ks : Nat × Nat × Option Nat} {q : Nat → Nat} {σ : CS} {sz : Nat} {x1 : Int32} {Post : CS → Prop} (hw : wpC_X4_settle σ x1 Post) : Met l yX4_settle (Cond.code yX4_settle cX4_settle 2 none :: wsA) rC_X4_settle (zPc D cy ks (CW q cy σ) sz [.ref (q 30), .int x1]) (va_Qv Post (xB D cy (CW q cy) (va_A (CW q cy σ) sz)) (va_A (CW q cy σ) sz)) 0 0 (va_A (CW q cy σ) sz) := by
  refine z_enter (own := RX4) (WW := CW q cy) (by decide) rfl (Nat.le_of_ble_eq_true rfl) ?_
  intro p e s m below meth c ls E h hl
  have hx := E.1.1
  have hb := E.1.2.1
  have hl : lv_has ls 2 [(0, .ref (q 30)), (1, .int x1)] := hl
  unfold wpC_X4_settle at hw
  refine lv_aload_n hx hb dX4_settle_0 rfl (lv_at hl 0 rfl) ?_
  refine gX4_31 E.1 h dX4_settle_1 ?_
  refine lv_iload_n hx hb dX4_settle_4 rfl (lv_at hl 1 rfl) ?_
  refine lv_aload_n hx hb dX4_settle_5 rfl (lv_at hl 0 rfl) ?_
  refine lv_iload_n hx hb dX4_settle_6 rfl (lv_at hl 1 rfl) ?_
  refine x_calli h (z_runV (WW := CW q cy) (rest := [.int x1, .ref (q 39)]) E h (cC_X4_firstBar hw) yyX4_firstBar lX4_177 30 rfl rfl ⟨Nat.le_of_ble_eq_true rfl, Nat.le_of_ble_eq_true rfl⟩ rfl rfl hl.1 rfl (Nat.le_of_ble_eq_true rfl) dX4_settle_7 ⟨Nat.le_refl 0, Nat.le_refl 0⟩) (fun r1 σ2 H locs hw h => ?_)
  have h4 := hw.1
  have hw := hw.2
  refine sC_39 E.1 h h4 dX4_settle_10 (fun σ3 H locs eσ3 h => ?_)
  have hw := hw σ3 eσ3
  refine lv_aload_n hx hb dX4_settle_11 rfl (lv_at hl 0 rfl) ?_
  refine gX4_31 E.1 h dX4_settle_12 ?_
  refine lv_iload_n hx hb dX4_settle_15 rfl (lv_at hl 1 rfl) ?_
  have h5 := hw.1
  have hw := hw.2
  refine aC_39 E.1 h h5 dX4_settle_16 ?_
  refine lv_iconst (v := (-1)) hx hb dX4_settle_17 (by decide) ?_
  refine lv_icmp_eq (tgt := 29) hx hb dX4_settle_18 (by decide) (fun c6 => ?_) (fun c6 => ?_)
  · have hw := hw.1 c6
    refine lv_aload_n hx hb dX4_settle_29 rfl (lv_at hl 0 rfl) ?_
    refine gX4_34 E.1 h dX4_settle_30 ?_
    refine lv_iload_n hx hb dX4_settle_33 rfl (lv_at hl 1 rfl) ?_
    refine lv_aload_n hx hb dX4_settle_34 rfl (lv_at hl 0 rfl) ?_
    refine lv_iload_n hx hb dX4_settle_35 rfl (lv_at hl 1 rfl) ?_
    refine x_calli h (z_runV (WW := CW q cy) (rest := [.int x1, .ref (q 40)]) E h (cC_X4_firstUnyielding hw) yyX4_firstUnyielding lX4_180 30 rfl rfl ⟨Nat.le_of_ble_eq_true rfl, Nat.le_of_ble_eq_true rfl⟩ rfl rfl hl.1 rfl (Nat.le_of_ble_eq_true rfl) dX4_settle_36 ⟨Nat.le_refl 0, Nat.le_refl 0⟩) (fun r7 σ8 H locs hw h => ?_)
    have h10 := hw.1
    have hw := hw.2
    refine sC_40 E.1 h h10 dX4_settle_39 (fun σ9 H locs eσ9 h => ?_)
    have hw := hw σ9 eσ9
    refine lv_aload_n hx hb dX4_settle_40 rfl (lv_at hl 0 rfl) ?_
    refine gX4_34 E.1 h dX4_settle_41 ?_
    refine lv_iload_n hx hb dX4_settle_44 rfl (lv_at hl 1 rfl) ?_
    have h11 := hw.1
    have hw := hw.2
    refine aC_40 E.1 h h11 dX4_settle_45 ?_
    refine lv_iconst (v := (-1)) hx hb dX4_settle_46 (by decide) ?_
    refine lv_icmp_eq (tgt := 58) hx hb dX4_settle_47 (by decide) (fun c12 => ?_) (fun c12 => ?_)
    · have hw := hw.1 c12
      refine lv_aload_n hx hb dX4_settle_58 rfl (lv_at hl 0 rfl) ?_
      refine lv_iload_n hx hb dX4_settle_59 rfl (lv_at hl 1 rfl) ?_
      refine x_callv h (z_runV (WW := CW q cy) (rest := []) E h (cC_X4_endRivals hw) yyX4_endRivals lX4_183 30 rfl rfl ⟨Nat.le_of_ble_eq_true rfl, Nat.le_of_ble_eq_true rfl⟩ rfl rfl hl.1 rfl (Nat.le_of_ble_eq_true rfl) dX4_settle_60 ⟨Nat.le_refl 0, Nat.le_refl 0⟩) (fun σ13 H locs hw h => ?_)
      refine lv_aload_n hx hb dX4_settle_63 rfl (lv_at hl 0 rfl) ?_
      refine gX4_28 E.1 h dX4_settle_64 ?_
      refine lv_iload_n hx hb dX4_settle_67 rfl (lv_at hl 1 rfl) ?_
      refine lv_bipush (v := 6) hx hb dX4_settle_68 (by decide) ?_
      have h15 := hw.1
      have hw := hw.2
      refine sC_38 E.1 h h15 dX4_settle_70 (fun σ14 H locs eσ14 h => ?_)
      have hw := hw σ14 eσ14
      refine lv_aload_n hx hb dX4_settle_71 rfl (lv_at hl 0 rfl) ?_
      refine lv_iload_n hx hb dX4_settle_72 rfl (lv_at hl 1 rfl) ?_
      refine x_callv h (z_runV (WW := CW q cy) (rest := []) E h (cC_X4_findEnd hw) yyX4_findEnd lX4_186 30 rfl rfl ⟨Nat.le_of_ble_eq_true rfl, Nat.le_of_ble_eq_true rfl⟩ rfl rfl hl.1 rfl (Nat.le_of_ble_eq_true rfl) dX4_settle_73 ⟨Nat.le_refl 0, Nat.le_refl 0⟩) (fun σ16 H locs hw h => ?_)
      exact x_vret E.1 h hw dX4_settle_76
    · have hw := hw.2 c12
      refine lv_aload_n hx hb dX4_settle_50 rfl (lv_at hl 0 rfl) ?_
      refine gX4_28 E.1 h dX4_settle_51 ?_
      refine lv_iload_n hx hb dX4_settle_54 rfl (lv_at hl 1 rfl) ?_
      refine lv_iconst (v := 5) hx hb dX4_settle_55 (by decide) ?_
      have h18 := hw.1
      have hw := hw.2
      refine sC_38 E.1 h h18 dX4_settle_56 (fun σ17 H locs eσ17 h => ?_)
      have hw := hw σ17 eσ17
      exact x_vret E.1 h hw dX4_settle_57
  · have hw := hw.2 c6
    refine lv_aload_n hx hb dX4_settle_21 rfl (lv_at hl 0 rfl) ?_
    refine gX4_28 E.1 h dX4_settle_22 ?_
    refine lv_iload_n hx hb dX4_settle_25 rfl (lv_at hl 1 rfl) ?_
    refine lv_iconst (v := 4) hx hb dX4_settle_26 (by decide) ?_
    have h20 := hw.1
    have hw := hw.2
    refine sC_38 E.1 h h20 dX4_settle_27 (fun σ19 H locs eσ19 h => ?_)
    have hw := hw σ19 eσ19
    exact x_vret E.1 h hw dX4_settle_28

abbrev rC_X4_hear : Room := { frames := 6, cells := 0, slots := 0, locals := 135 }
def wpC_X4_hear_34 (Post : CS → Prop) : Nat → CS → Int32 → Prop
  | 0, _, _ => False
  | n + 1, σ, x2 => ((σ.1 286) ≤ x2 → Post σ) ∧ (¬ (σ.1 286) ≤ x2 → wpC_X4_nextWaiting σ (fun r2 σ3 => (r2 = ((-1)) → Post σ3) ∧ (¬ r2 = ((-1)) → wpC_X4_settle σ3 r2 (fun σ5 => ∀ y6 : Int32, y6 = x2 + 1 → wpC_X4_hear_34 Post n σ5 y6))))
set_option maxHeartbeats 1000000 in
set_option maxRecDepth 20000 in
theorem wkC_X4_hear_34 {Post : CS → Prop} (E : zE cX4_hear RX4 4 none D cy ks A p s m args meth c) : ∀ n : Nat, ∀ (σ : CS) (x2 : Int32) (H : Heap) (locs : List Loc) (ls : Array Slot), xH D A s (CW q cy σ) H locs → wpC_X4_hear_34 Post n σ x2 → lv_has ls 4 [(0, .ref (q 30)), (2, .int x2)] → W p l e rC_X4_hear s m args below meth c H locs 0 0 (MQ below (va_Qv Post (xB D cy (CW q cy) A) A) args s 0 0 A) (F0 m 34 ls []) := by
  have hx := E.1.1
  have hb := E.1.2.1
  intro n
  induction n with
  | zero => intro σ x2 H locs ls h hw hl; exact False.elim hw
  | succ n ih =>
    intro σ x2 H locs ls h hw hl
    refine lv_iload_n hx hb dX4_hear_34 rfl (lv_at hl 1 rfl) ?_
    refine lv_aload_n hx hb dX4_hear_35 rfl (lv_at hl 0 rfl) ?_
    refine gX4_57 E.1 h dX4_hear_36 ?_
    refine gX4_71 E.1 h dX4_hear_39 ?_
    refine lv_icmp_ge (tgt := 67) hx hb dX4_hear_42 (by decide) (fun c1 => ?_) (fun c1 => ?_)
    · have hw := hw.1 c1
      exact x_vret E.1 h hw dX4_hear_67
    · have hw := hw.2 c1
      refine lv_aload_n hx hb dX4_hear_45 rfl (lv_at hl 0 rfl) ?_
      refine x_calli h (z_runV (WW := CW q cy) (rest := []) E h (cC_X4_nextWaiting hw) yyX4_nextWaiting lX4_80 30 rfl rfl ⟨Nat.le_of_ble_eq_true rfl, Nat.le_of_ble_eq_true rfl⟩ rfl rfl hl.1 rfl (Nat.le_of_ble_eq_true rfl) dX4_hear_46 ⟨Nat.le_refl 0, Nat.le_refl 0⟩) (fun r2 σ3 H locs hw h => ?_)
      refine lv_istore_n (lv' := [(3, .int r2), (0, .ref (q 30)), (2, .int x2)]) hx hb dX4_hear_49 rfl hl (by decide) rfl (fun ls hl => ?_)
      refine lv_iload_n hx hb dX4_hear_50 rfl (lv_at hl 0 rfl) ?_
      refine lv_iconst (v := (-1)) hx hb dX4_hear_51 (by decide) ?_
      refine lv_icmp_ne (tgt := 56) hx hb dX4_hear_52 (by decide) (fun c4 => ?_) (fun c4 => ?_)
      · have hw := hw.2 c4
        refine lv_aload_n hx hb dX4_hear_56 rfl (lv_at hl 1 rfl) ?_
        refine lv_iload_n hx hb dX4_hear_57 rfl (lv_at hl 0 rfl) ?_
        refine x_callv h (z_runV (WW := CW q cy) (rest := []) E h (cC_X4_settle hw) yyX4_settle lX4_84 30 rfl rfl ⟨Nat.le_of_ble_eq_true rfl, Nat.le_of_ble_eq_true rfl⟩ rfl rfl hl.1 rfl (Nat.le_of_ble_eq_true rfl) dX4_hear_58 ⟨Nat.le_refl 0, Nat.le_refl 0⟩) (fun σ5 H locs hw h => ?_)
        obtain ⟨y6, ey6⟩ : ∃ z : Int32, z = x2 + 1 := ⟨_, rfl⟩
        have hw := hw y6 ey6
        refine lv_iinc (v := y6) (lv' := [(2, .int y6), (3, .int r2), (0, .ref (q 30))]) hx hb dX4_hear_61 hl (k := 2) rfl (by rw [ey6]; rfl) (by decide) rfl (fun ls hl => ?_)
        refine lv_goto (tgt := 34) hx hb dX4_hear_64 (by decide) ?_
        exact ih _ _ _ _ _ h hw (lv_sub hl [2, 0] rfl)
      · have hw := hw.1 c4
        exact x_vret E.1 h hw dX4_hear_55

def wpC_X4_hear_10 (Post : CS → Prop) : Nat → CS → Int32 → Prop
  | 0, _, _ => False
  | n + 1, σ, x2 => ((σ.1 286) ≤ x2 → ∃ g, wpC_X4_hear_34 Post g σ 0) ∧ (¬ (σ.1 286) ≤ x2 → wpC_X4_prepare σ x2 (fun σ2 => ∀ y3 : Int32, y3 = x2 + 1 → wpC_X4_hear_10 Post n σ2 y3))
set_option maxHeartbeats 1000000 in
set_option maxRecDepth 20000 in
theorem wkC_X4_hear_10 {Post : CS → Prop} (E : zE cX4_hear RX4 4 none D cy ks A p s m args meth c) : ∀ n : Nat, ∀ (σ : CS) (x2 : Int32) (H : Heap) (locs : List Loc) (ls : Array Slot), xH D A s (CW q cy σ) H locs → wpC_X4_hear_10 Post n σ x2 → lv_has ls 4 [(0, .ref (q 30)), (2, .int x2)] → W p l e rC_X4_hear s m args below meth c H locs 0 0 (MQ below (va_Qv Post (xB D cy (CW q cy) A) A) args s 0 0 A) (F0 m 10 ls []) := by
  have hx := E.1.1
  have hb := E.1.2.1
  intro n
  induction n with
  | zero => intro σ x2 H locs ls h hw hl; exact False.elim hw
  | succ n ih =>
    intro σ x2 H locs ls h hw hl
    refine lv_iload_n hx hb dX4_hear_10 rfl (lv_at hl 1 rfl) ?_
    refine lv_aload_n hx hb dX4_hear_11 rfl (lv_at hl 0 rfl) ?_
    refine gX4_57 E.1 h dX4_hear_12 ?_
    refine gX4_71 E.1 h dX4_hear_15 ?_
    refine lv_icmp_ge (tgt := 32) hx hb dX4_hear_18 (by decide) (fun c1 => ?_) (fun c1 => ?_)
    · have hw := hw.1 c1
      refine lv_iconst (v := 0) hx hb dX4_hear_32 (by decide) ?_
      refine lv_istore_n (lv' := [(2, .int 0), (0, .ref (q 30))]) hx hb dX4_hear_33 rfl hl (by decide) rfl (fun ls hl => ?_)
      obtain ⟨g, hw⟩ := hw
      exact wkC_X4_hear_34 E g _ _ _ _ _ h hw (lv_sub hl [1, 0] rfl)
    · have hw := hw.2 c1
      refine lv_aload_n hx hb dX4_hear_21 rfl (lv_at hl 0 rfl) ?_
      refine lv_iload_n hx hb dX4_hear_22 rfl (lv_at hl 1 rfl) ?_
      refine x_callv h (z_runV (WW := CW q cy) (rest := []) E h (cC_X4_prepare hw) yyX4_prepare lX4_77 30 rfl rfl ⟨Nat.le_of_ble_eq_true rfl, Nat.le_of_ble_eq_true rfl⟩ rfl rfl hl.1 rfl (Nat.le_of_ble_eq_true rfl) dX4_hear_23 ⟨Nat.le_refl 0, Nat.le_refl 0⟩) (fun σ2 H locs hw h => ?_)
      obtain ⟨y3, ey3⟩ : ∃ z : Int32, z = x2 + 1 := ⟨_, rfl⟩
      have hw := hw y3 ey3
      refine lv_iinc (v := y3) (lv' := [(2, .int y3), (0, .ref (q 30))]) hx hb dX4_hear_26 hl (k := 1) rfl (by rw [ey3]; rfl) (by decide) rfl (fun ls hl => ?_)
      refine lv_goto (tgt := 10) hx hb dX4_hear_29 (by decide) ?_
      exact ih _ _ _ _ _ h hw (lv_sub hl [1, 0] rfl)

def wpC_X4_hear (σ : CS) (x1 : Int32) (Post : CS → Prop) : Prop := wpC_X0_recall σ x1 (fun σ1 => ∃ g, wpC_X4_hear_10 Post g σ1 0)
set_option maxHeartbeats 1000000 in
set_option maxRecDepth 20000 in
theorem cC_X4_hear {l : Launch} {D : va_G} {cy : Nat → ClassId} {ks : Nat × Nat × Option Nat} {q : Nat → Nat} {σ : CS} {sz : Nat} {x1 : Int32} {Post : CS → Prop} (hw : wpC_X4_hear σ x1 Post) : Met l yX4_hear (Cond.code yX4_hear cX4_hear 4 none :: wsA) rC_X4_hear (zPc D cy ks (CW q cy σ) sz [.ref (q 30), .int x1]) (va_Qv Post (xB D cy (CW q cy) (va_A (CW q cy σ) sz)) (va_A (CW q cy σ) sz)) 0 0 (va_A (CW q cy σ) sz) := by
  refine z_enter (own := RX4) (WW := CW q cy) (by decide) rfl (Nat.le_of_ble_eq_true rfl) ?_
  intro p e s m below meth c ls E h hl
  have hx := E.1.1
  have hb := E.1.2.1
  have hl : lv_has ls 4 [(0, .ref (q 30)), (1, .int x1)] := hl
  unfold wpC_X4_hear at hw
  refine lv_aload_n hx hb dX4_hear_0 rfl (lv_at hl 0 rfl) ?_
  refine gX4_61 E.1 h dX4_hear_1 ?_
  refine lv_iload_n hx hb dX4_hear_4 rfl (lv_at hl 1 rfl) ?_
  refine x_callv h (z_runVN (WW := CW q cy) (rest := []) E h (cC_X0_recall hw) yyX0_recall lX4_65 25 rfl rfl ⟨Nat.le_of_ble_eq_true rfl, Nat.le_of_ble_eq_true rfl⟩ rfl rfl hl.1 rfl (Nat.le_of_ble_eq_true rfl) dX4_hear_5 ⟨Nat.le_refl 0, Nat.le_refl 0⟩) (fun σ1 H locs hw h => ?_)
  refine lv_iconst (v := 0) hx hb dX4_hear_8 (by decide) ?_
  refine lv_istore_n (lv' := [(2, .int 0), (0, .ref (q 30)), (1, .int x1)]) hx hb dX4_hear_9 rfl hl (by decide) rfl (fun ls hl => ?_)
  obtain ⟨g, hw⟩ := hw
  exact wkC_X4_hear_10 E g _ _ _ _ _ h hw (lv_sub hl [1, 0] rfl)

abbrev rC_X4_stateOn : Room := { frames := 0, cells := 0, slots := 0, locals := 0 }
def wpC_X4_stateOn_68 (Post : Int32 → CS → Prop) (σ : CS) (x1 : Int32) : Prop := vp_in x1 10 ∧ Post (σ.2.1 38 x1.toNatClampNeg) σ
set_option maxHeartbeats 1000000 in
set_option maxRecDepth 20000 in
theorem wkC_X4_stateOn_68 {Post : Int32 → CS → Prop} (E : zE cX4_stateOn RX4 3 (some .int) D cy ks A p s m args meth c) : ∀ (σ : CS) (x1 : Int32) (H : Heap) (locs : List Loc) (ls : Array Slot), xH D A s (CW q cy σ) H locs → wpC_X4_stateOn_68 Post σ x1 → lv_has ls 3 [(0, .ref (q 30)), (1, .int x1)] → W p l e rC_X4_stateOn s m args below meth c H locs 0 0 (MQ below (va_Qi Post (xB D cy (CW q cy) A) A) args s 0 0 A) (F0 m 68 ls []) := by
  have hx := E.1.1
  have hb := E.1.2.1
  intro σ x1 H locs ls h hw hl
  unfold wpC_X4_stateOn_68 at hw
  refine lv_aload_n hx hb dX4_stateOn_68 rfl (lv_at hl 0 rfl) ?_
  refine gX4_28 E.1 h dX4_stateOn_69 ?_
  refine lv_iload_n hx hb dX4_stateOn_72 rfl (lv_at hl 1 rfl) ?_
  have h1 := hw.1
  have hw := hw.2
  refine aC_38 E.1 h h1 dX4_stateOn_73 ?_
  exact x_iret E.1 h hw dX4_stateOn_74

def wpC_X4_stateOn (σ : CS) (x1 : Int32) (x2 : Int32) (Post : Int32 → CS → Prop) : Prop := vp_in x1 10 ∧ ((σ.2.1 38 x1.toNatClampNeg) = 0 → Post 0 σ) ∧ (¬ (σ.2.1 38 x1.toNatClampNeg) = 0 → vp_in x1 10 ∧ ((σ.2.1 37 x1.toNatClampNeg) ≤ x2 → vp_in x1 10 ∧ ((σ.2.1 38 x1.toNatClampNeg) = 6 → vp_in x1 10 ∧ (x2 < (σ.2.1 41 x1.toNatClampNeg) → wpC_X4_stateOn_68 Post σ x1) ∧ (¬ x2 < (σ.2.1 41 x1.toNatClampNeg) → vp_in x1 10 ∧ Post (σ.2.1 42 x1.toNatClampNeg) σ)) ∧ (¬ (σ.2.1 38 x1.toNatClampNeg) = 6 → wpC_X4_stateOn_68 Post σ x1)) ∧ (¬ (σ.2.1 37 x1.toNatClampNeg) ≤ x2 → vp_in x1 10 ∧ ((σ.2.1 20 x1.toNatClampNeg) = ((-1)) → Post 1 σ) ∧ (¬ (σ.2.1 20 x1.toNatClampNeg) = ((-1)) → Post 2 σ)))
set_option maxHeartbeats 1000000 in
set_option maxRecDepth 20000 in
theorem cC_X4_stateOn {l : Launch} {D : va_G} {cy : Nat → ClassId} {ks : Nat × Nat × Option Nat} {q : Nat → Nat} {σ : CS} {sz : Nat} {x1 : Int32} {x2 : Int32} {Post : Int32 → CS → Prop} (hw : wpC_X4_stateOn σ x1 x2 Post) : Met l yX4_stateOn (Cond.code yX4_stateOn cX4_stateOn 3 (some .int) :: wsA) rC_X4_stateOn (zPc D cy ks (CW q cy σ) sz [.ref (q 30), .int x1, .int x2]) (va_Qi Post (xB D cy (CW q cy) (va_A (CW q cy σ) sz)) (va_A (CW q cy σ) sz)) 0 0 (va_A (CW q cy σ) sz) := by
  refine z_enter (own := RX4) (WW := CW q cy) (by decide) rfl (Nat.le_of_ble_eq_true rfl) ?_
  intro p e s m below meth c ls E h hl
  have hx := E.1.1
  have hb := E.1.2.1
  have hl : lv_has ls 3 [(0, .ref (q 30)), (1, .int x1), (2, .int x2)] := hl
  unfold wpC_X4_stateOn at hw
  refine lv_aload_n hx hb dX4_stateOn_0 rfl (lv_at hl 0 rfl) ?_
  refine gX4_28 E.1 h dX4_stateOn_1 ?_
  refine lv_iload_n hx hb dX4_stateOn_4 rfl (lv_at hl 1 rfl) ?_
  have h1 := hw.1
  have hw := hw.2
  refine aC_38 E.1 h h1 dX4_stateOn_5 ?_
  refine lv_if_ne (tgt := 11) hx hb dX4_stateOn_6 (by decide) (fun c2 => ?_) (fun c2 => ?_)
  · have hw := hw.2 c2
    refine lv_iload_n hx hb dX4_stateOn_11 rfl (lv_at hl 2 rfl) ?_
    refine lv_aload_n hx hb dX4_stateOn_12 rfl (lv_at hl 0 rfl) ?_
    refine gX4_25 E.1 h dX4_stateOn_13 ?_
    refine lv_iload_n hx hb dX4_stateOn_16 rfl (lv_at hl 1 rfl) ?_
    have h3 := hw.1
    have hw := hw.2
    refine aC_37 E.1 h h3 dX4_stateOn_17 ?_
    refine lv_icmp_ge (tgt := 40) hx hb dX4_stateOn_18 (by decide) (fun c4 => ?_) (fun c4 => ?_)
    · have hw := hw.1 c4
      refine lv_aload_n hx hb dX4_stateOn_40 rfl (lv_at hl 0 rfl) ?_
      refine gX4_28 E.1 h dX4_stateOn_41 ?_
      refine lv_iload_n hx hb dX4_stateOn_44 rfl (lv_at hl 1 rfl) ?_
      have h5 := hw.1
      have hw := hw.2
      refine aC_38 E.1 h h5 dX4_stateOn_45 ?_
      refine lv_bipush (v := 6) hx hb dX4_stateOn_46 (by decide) ?_
      refine lv_icmp_ne (tgt := 68) hx hb dX4_stateOn_48 (by decide) (fun c6 => ?_) (fun c6 => ?_)
      · have hw := hw.2 c6
        exact wkC_X4_stateOn_68 E _ _ _ _ _ h hw (lv_sub hl [0, 1] rfl)
      · have hw := hw.1 c6
        refine lv_aload_n hx hb dX4_stateOn_51 rfl (lv_at hl 0 rfl) ?_
        refine gX4_37 E.1 h dX4_stateOn_52 ?_
        refine lv_iload_n hx hb dX4_stateOn_55 rfl (lv_at hl 1 rfl) ?_
        have h7 := hw.1
        have hw := hw.2
        refine aC_41 E.1 h h7 dX4_stateOn_56 ?_
        refine lv_iload_n hx hb dX4_stateOn_57 rfl (lv_at hl 2 rfl) ?_
        refine lv_icmp_gt (tgt := 68) hx hb dX4_stateOn_58 (by decide) (fun c8 => ?_) (fun c8 => ?_)
        · have hw := hw.1 c8
          exact wkC_X4_stateOn_68 E _ _ _ _ _ h hw (lv_sub hl [0, 1] rfl)
        · have hw := hw.2 c8
          refine lv_aload_n hx hb dX4_stateOn_61 rfl (lv_at hl 0 rfl) ?_
          refine gX4_40 E.1 h dX4_stateOn_62 ?_
          refine lv_iload_n hx hb dX4_stateOn_65 rfl (lv_at hl 1 rfl) ?_
          have h9 := hw.1
          have hw := hw.2
          refine aC_42 E.1 h h9 dX4_stateOn_66 ?_
          exact x_iret E.1 h hw dX4_stateOn_67
    · have hw := hw.2 c4
      refine lv_aload_n hx hb dX4_stateOn_21 rfl (lv_at hl 0 rfl) ?_
      refine gX4_57 E.1 h dX4_stateOn_22 ?_
      refine gX4_87 E.1 h dX4_stateOn_25 ?_
      refine lv_iload_n hx hb dX4_stateOn_28 rfl (lv_at hl 1 rfl) ?_
      have h10 := hw.1
      have hw := hw.2
      refine aC_20 E.1 h h10 dX4_stateOn_29 ?_
      refine lv_iconst (v := (-1)) hx hb dX4_stateOn_30 (by decide) ?_
      refine lv_icmp_ne (tgt := 38) hx hb dX4_stateOn_31 (by decide) (fun c11 => ?_) (fun c11 => ?_)
      · have hw := hw.2 c11
        refine lv_iconst (v := 2) hx hb dX4_stateOn_38 (by decide) ?_
        exact x_iret E.1 h hw dX4_stateOn_39
      · have hw := hw.1 c11
        refine lv_iconst (v := 1) hx hb dX4_stateOn_34 (by decide) ?_
        refine lv_goto (tgt := 39) hx hb dX4_stateOn_35 (by decide) ?_
        exact x_iret E.1 h hw dX4_stateOn_39
  · have hw := hw.1 c2
    refine lv_iconst (v := 0) hx hb dX4_stateOn_9 (by decide) ?_
    exact x_iret E.1 h hw dX4_stateOn_10

abbrev rC_X4_wasInForce : Room := { frames := 0, cells := 0, slots := 0, locals := 0 }
def wpC_X4_wasInForce (σ : CS) (x1 : Int32) (Post : Int32 → CS → Prop) : Prop := vp_in x1 10 ∧ ((σ.2.1 38 x1.toNatClampNeg) = 6 → vp_in x1 10 ∧ vp_in x1 10 ∧ ((σ.2.1 41 x1.toNatClampNeg) ≤ (σ.2.1 37 x1.toNatClampNeg) → Post 0 σ) ∧ (¬ (σ.2.1 41 x1.toNatClampNeg) ≤ (σ.2.1 37 x1.toNatClampNeg) → Post 1 σ)) ∧ (¬ (σ.2.1 38 x1.toNatClampNeg) = 6 → Post 0 σ)
set_option maxHeartbeats 1000000 in
set_option maxRecDepth 20000 in
theorem cC_X4_wasInForce {l : Launch} {D : va_G} {cy : Nat → ClassId} {ks : Nat × Nat × Option Nat} {q : Nat → Nat} {σ : CS} {sz : Nat} {x1 : Int32} {Post : Int32 → CS → Prop} (hw : wpC_X4_wasInForce σ x1 Post) : Met l yX4_wasInForce (Cond.code yX4_wasInForce cX4_wasInForce 2 (some .boolean) :: wsA) rC_X4_wasInForce (zPc D cy ks (CW q cy σ) sz [.ref (q 30), .int x1]) (va_Qi Post (xB D cy (CW q cy) (va_A (CW q cy σ) sz)) (va_A (CW q cy σ) sz)) 0 0 (va_A (CW q cy σ) sz) := by
  refine z_enter (own := RX4) (WW := CW q cy) (by decide) rfl (Nat.le_of_ble_eq_true rfl) ?_
  intro p e s m below meth c ls E h hl
  have hx := E.1.1
  have hb := E.1.2.1
  have hl : lv_has ls 2 [(0, .ref (q 30)), (1, .int x1)] := hl
  unfold wpC_X4_wasInForce at hw
  refine lv_aload_n hx hb dX4_wasInForce_0 rfl (lv_at hl 0 rfl) ?_
  refine gX4_28 E.1 h dX4_wasInForce_1 ?_
  refine lv_iload_n hx hb dX4_wasInForce_4 rfl (lv_at hl 1 rfl) ?_
  have h1 := hw.1
  have hw := hw.2
  refine aC_38 E.1 h h1 dX4_wasInForce_5 ?_
  refine lv_bipush (v := 6) hx hb dX4_wasInForce_6 (by decide) ?_
  refine lv_icmp_ne (tgt := 30) hx hb dX4_wasInForce_8 (by decide) (fun c2 => ?_) (fun c2 => ?_)
  · have hw := hw.2 c2
    refine lv_iconst (v := 0) hx hb dX4_wasInForce_30 (by decide) ?_
    exact x_zret E.1 h rfl hw dX4_wasInForce_31
  · have hw := hw.1 c2
    refine lv_aload_n hx hb dX4_wasInForce_11 rfl (lv_at hl 0 rfl) ?_
    refine gX4_37 E.1 h dX4_wasInForce_12 ?_
    refine lv_iload_n hx hb dX4_wasInForce_15 rfl (lv_at hl 1 rfl) ?_
    have h3 := hw.1
    have hw := hw.2
    refine aC_41 E.1 h h3 dX4_wasInForce_16 ?_
    refine lv_aload_n hx hb dX4_wasInForce_17 rfl (lv_at hl 0 rfl) ?_
    refine gX4_25 E.1 h dX4_wasInForce_18 ?_
    refine lv_iload_n hx hb dX4_wasInForce_21 rfl (lv_at hl 1 rfl) ?_
    have h4 := hw.1
    have hw := hw.2
    refine aC_37 E.1 h h4 dX4_wasInForce_22 ?_
    refine lv_icmp_le (tgt := 30) hx hb dX4_wasInForce_23 (by decide) (fun c5 => ?_) (fun c5 => ?_)
    · have hw := hw.1 c5
      refine lv_iconst (v := 0) hx hb dX4_wasInForce_30 (by decide) ?_
      exact x_zret E.1 h rfl hw dX4_wasInForce_31
    · have hw := hw.2 c5
      refine lv_iconst (v := 1) hx hb dX4_wasInForce_26 (by decide) ?_
      refine lv_goto (tgt := 31) hx hb dX4_wasInForce_27 (by decide) ?_
      exact x_zret E.1 h rfl hw dX4_wasInForce_31

end CWalk
