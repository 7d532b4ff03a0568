section MWalk
variable {p : Program} {l : Launch} {e : Env} {s : State} {m : MethodId} {args : Array Value} {below : List Frame} {meth : Method} {c : Code} {D : va_G} {cy : Nat → ClassId} {q : Nat → Nat} {A : Nat → Prop}
abbrev rM_put : Room := { frames := 0, cells := 0, slots := 0, locals := 0 }
def wpM_put_3 (Post : MS → Prop) : Nat → MS → Int32 → Int32 → Prop
  | 0, _, _, _ => False
  | n + 1, σ, x1, x2 => (x2 < 0 → Post σ) ∧ (¬ x2 < 0 → vp_in (σ.1 2) 2000 ∧ ∀ σ2 : MS, σ2 = mA σ 1 (upd (σ.2.1 1) (σ.1 2).toNatClampNeg (vp_nar .byte ((x1 >>> (x2 &&& 31)).toInt8.toInt32))) → ∀ σ4 : MS, σ4 = mF σ2 2 ((σ2.1 2) + 1) → ∀ y5 : Int32, y5 = x2 + (-8) → wpM_put_3 Post n σ4 x1 y5)
set_option maxHeartbeats 1000000 in
set_option maxRecDepth 20000 in
theorem wkM_put_3 {Post : MS → Prop} (E : xE cX11_put RX11 3 none D cy p s m args meth c) : ∀ n : Nat, ∀ (σ : MS) (x1 : Int32) (x2 : Int32) (H : Heap) (locs : List Loc) (ls : Array Slot), xH D A s (MW q cy σ) H locs → wpM_put_3 Post n σ x1 x2 → lv_has ls 3 [(0, .ref (q 0)), (1, .int x1), (2, .int x2)] → W p l e rM_put s m args below meth c H locs 0 0 (MQ below (va_Qv Post (xB D cy (MW q cy) A) A) args s 0 0 A) (F0 m 3 ls []) := by
  have hx := E.1
  have hb := E.2.1
  intro n
  induction n with
  | zero => intro σ x1 x2 H locs ls h hw hl; exact False.elim hw
  | succ n ih =>
    intro σ x1 x2 H locs ls h hw hl
    refine lv_iload_n hx hb dX11_put_3 rfl (lv_at hl 2 rfl) ?_
    refine lv_if_lt (tgt := 36) hx hb dX11_put_4 (by decide) (fun c1 => ?_) (fun c1 => ?_)
    · have hw := hw.1 c1
      exact x_vret E h hw dX11_put_36
    · have hw := hw.2 c1
      refine lv_aload_n hx hb dX11_put_7 rfl (lv_at hl 0 rfl) ?_
      refine gX11_13 E h dX11_put_8 ?_
      refine lv_aload_n hx hb dX11_put_11 rfl (lv_at hl 0 rfl) ?_
      refine gX11_198 E h dX11_put_12 ?_
      refine lv_iload_n hx hb dX11_put_15 rfl (lv_at hl 1 rfl) ?_
      refine lv_iload_n hx hb dX11_put_16 rfl (lv_at hl 2 rfl) ?_
      refine lv_ishr hx hb dX11_put_17 ?_
      refine lv_i2b (v := (x1 >>> (x2 &&& 31)).toInt8.toInt32) hx hb dX11_put_18 rfl ?_
      have h3 := hw.1
      have hw := hw.2
      refine sM_1 E h h3 dX11_put_19 (fun σ2 H locs eσ2 h => ?_)
      have hw := hw σ2 eσ2
      refine lv_aload_n hx hb dX11_put_20 rfl (lv_at hl 0 rfl) ?_
      refine lv_dup hx hb dX11_put_21 rfl ?_
      refine gX11_198 E h dX11_put_22 ?_
      refine lv_iconst (v := 1) hx hb dX11_put_25 (by decide) ?_
      refine lv_iadd hx hb dX11_put_26 ?_
      refine pX11_198 E h dX11_put_27 (fun σ4 H locs eσ4 h => ?_)
      have hw := hw σ4 eσ4
      obtain ⟨y5, ey5⟩ : ∃ z : Int32, z = x2 + (-8) := ⟨_, rfl⟩
      have hw := hw y5 ey5
      refine lv_iinc (v := y5) (lv' := [(2, .int y5), (0, .ref (q 0)), (1, .int x1)]) hx hb dX11_put_30 hl (k := 2) rfl (by rw [ey5]; rfl) (by decide) rfl (fun ls hl => ?_)
      refine lv_goto (tgt := 3) hx hb dX11_put_33 (by decide) ?_
      exact ih _ _ _ _ _ _ h hw (lv_sub hl [1, 2, 0] rfl)

def wpM_put (σ : MS) (x1 : Int32) (Post : MS → Prop) : Prop := ∃ g, wpM_put_3 Post g σ x1 24
set_option maxHeartbeats 1000000 in
set_option maxRecDepth 20000 in
theorem cM_put {l : Launch} {D : va_G} {cy : Nat → ClassId} {q : Nat → Nat} {σ : MS} {sz : Nat} {x1 : Int32} {Post : MS → Prop} (hw : wpM_put σ x1 Post) : Met l yX11_put (Cond.code yX11_put cX11_put 3 none :: wsA) rM_put (xPc D cy (MW q cy σ) sz [.ref (q 0), .int x1]) (va_Qv Post (xB D cy (MW q cy) (va_A (MW q cy σ) sz)) (va_A (MW q cy σ) sz)) 0 0 (va_A (MW q cy σ) sz) := by
  refine x_enter (own := RX11) (WW := MW q cy) (by decide) rfl (Nat.le_of_ble_eq_true rfl) ?_
  intro p e s m below meth c ls E h hl
  have hx := E.1
  have hb := E.2.1
  have hl : lv_has ls 3 [(0, .ref (q 0)), (1, .int x1)] := hl
  unfold wpM_put at hw
  refine lv_bipush (v := 24) hx hb dX11_put_0 (by decide) ?_
  refine lv_istore_n (lv' := [(2, .int 24), (0, .ref (q 0)), (1, .int x1)]) hx hb dX11_put_2 rfl hl (by decide) rfl (fun ls hl => ?_)
  obtain ⟨g, hw⟩ := hw
  exact wkM_put_3 E g _ _ _ _ _ _ h hw (lv_sub hl [1, 2, 0] rfl)

abbrev rM_feed : Room := { frames := 1, cells := 0, slots := 0, locals := 22 }
def wpM_feed (σ : MS) (x1 : Int32) (x2 : Int32) (x3 : Int32) (x4 : Int32) (x5 : Int32) (Post : Int32 → MS → Prop) : Prop := (((σ.1 2) + 20) ≤ 2000 → wpM_put σ x1 (fun σ2 => wpM_put σ2 x2 (fun σ3 => wpM_put σ3 x3 (fun σ4 => wpM_put σ4 x4 (fun σ5 => wpM_put σ5 x5 (fun σ6 => Post (σ6.1 2) σ6)))))) ∧ (¬ ((σ.1 2) + 20) ≤ 2000 → Post ((-1)) σ)
set_option maxHeartbeats 1000000 in
set_option maxRecDepth 20000 in
theorem cM_feed {l : Launch} {D : va_G} {cy : Nat → ClassId} {q : Nat → Nat} {σ : MS} {sz : Nat} {x1 : Int32} {x2 : Int32} {x3 : Int32} {x4 : Int32} {x5 : Int32} {Post : Int32 → MS → Prop} (hw : wpM_feed σ x1 x2 x3 x4 x5 Post) : Met l yX11_feed (Cond.code yX11_feed cX11_feed 6 (some .int) :: wsA) rM_feed (xPc D cy (MW q cy σ) sz [.ref (q 0), .int x1, .int x2, .int x3, .int x4, .int x5]) (va_Qi Post (xB D cy (MW q cy) (va_A (MW q cy σ) sz)) (va_A (MW q cy σ) sz)) 0 0 (va_A (MW q cy σ) sz) := by
  refine x_enter (own := RX11) (WW := MW q cy) (by decide) rfl (Nat.le_of_ble_eq_true rfl) ?_
  intro p e s m below meth c ls E h hl
  have hx := E.1
  have hb := E.2.1
  have hl : lv_has ls 6 [(0, .ref (q 0)), (1, .int x1), (2, .int x2), (3, .int x3), (4, .int x4), (5, .int x5)] := hl
  unfold wpM_feed at hw
  refine lv_aload_n hx hb dX11_feed_0 rfl (lv_at hl 0 rfl) ?_
  refine gX11_198 E h dX11_feed_1 ?_
  refine lv_bipush (v := 20) hx hb dX11_feed_4 (by decide) ?_
  refine lv_iadd hx hb dX11_feed_6 ?_
  refine lv_sipush (v := 2000) hx hb dX11_feed_7 (by decide) ?_
  refine lv_icmp_le (tgt := 15) hx hb dX11_feed_10 (by decide) (fun c1 => ?_) (fun c1 => ?_)
  · have hw := hw.1 c1
    refine lv_aload_n hx hb dX11_feed_15 rfl (lv_at hl 0 rfl) ?_
    refine lv_iload_n hx hb dX11_feed_16 rfl (lv_at hl 1 rfl) ?_
    refine x_callv h (x_runV (WW := MW q cy) (rest := []) E h (cM_put hw) yyX11_put lX11_201 0 rfl rfl ⟨Nat.le_of_ble_eq_true rfl, Nat.le_of_ble_eq_true rfl⟩ rfl rfl hl.1 rfl (Nat.le_of_ble_eq_true rfl) dX11_feed_17 ⟨Nat.le_refl 0, Nat.le_refl 0⟩) (fun σ2 H locs hw h => ?_)
    refine lv_aload_n hx hb dX11_feed_20 rfl (lv_at hl 0 rfl) ?_
    refine lv_iload_n hx hb dX11_feed_21 rfl (lv_at hl 2 rfl) ?_
    refine x_callv h (x_runV (WW := MW q cy) (rest := []) E h (cM_put hw) yyX11_put lX11_201 0 rfl rfl ⟨Nat.le_of_ble_eq_true rfl, Nat.le_of_ble_eq_true rfl⟩ rfl rfl hl.1 rfl (Nat.le_of_ble_eq_true rfl) dX11_feed_22 ⟨Nat.le_refl 0, Nat.le_refl 0⟩) (fun σ3 H locs hw h => ?_)
    refine lv_aload_n hx hb dX11_feed_25 rfl (lv_at hl 0 rfl) ?_
    refine lv_iload_n hx hb dX11_feed_26 rfl (lv_at hl 3 rfl) ?_
    refine x_callv h (x_runV (WW := MW q cy) (rest := []) E h (cM_put hw) yyX11_put lX11_201 0 rfl rfl ⟨Nat.le_of_ble_eq_true rfl, Nat.le_of_ble_eq_true rfl⟩ rfl rfl hl.1 rfl (Nat.le_of_ble_eq_true rfl) dX11_feed_27 ⟨Nat.le_refl 0, Nat.le_refl 0⟩) (fun σ4 H locs hw h => ?_)
    refine lv_aload_n hx hb dX11_feed_30 rfl (lv_at hl 0 rfl) ?_
    refine lv_iload hx hb dX11_feed_31 (lv_at hl 4 rfl) ?_
    refine x_callv h (x_runV (WW := MW q cy) (rest := []) E h (cM_put hw) yyX11_put lX11_201 0 rfl rfl ⟨Nat.le_of_ble_eq_true rfl, Nat.le_of_ble_eq_true rfl⟩ rfl rfl hl.1 rfl (Nat.le_of_ble_eq_true rfl) dX11_feed_33 ⟨Nat.le_refl 0, Nat.le_refl 0⟩) (fun σ5 H locs hw h => ?_)
    refine lv_aload_n hx hb dX11_feed_36 rfl (lv_at hl 0 rfl) ?_
    refine lv_iload hx hb dX11_feed_37 (lv_at hl 5 rfl) ?_
    refine x_callv h (x_runV (WW := MW q cy) (rest := []) E h (cM_put hw) yyX11_put lX11_201 0 rfl rfl ⟨Nat.le_of_ble_eq_true rfl, Nat.le_of_ble_eq_true rfl⟩ rfl rfl hl.1 rfl (Nat.le_of_ble_eq_true rfl) dX11_feed_39 ⟨Nat.le_refl 0, Nat.le_refl 0⟩) (fun σ6 H locs hw h => ?_)
    refine lv_aload_n hx hb dX11_feed_42 rfl (lv_at hl 0 rfl) ?_
    refine gX11_198 E h dX11_feed_43 ?_
    exact x_iret E h hw dX11_feed_46
  · have hw := hw.2 c1
    refine lv_iconst (v := (-1)) hx hb dX11_feed_13 (by decide) ?_
    exact x_iret E h hw dX11_feed_14

abbrev rM_back : Room := { frames := 0, cells := 0, slots := 0, locals := 0 }
def wpM_back (σ : MS) (x1 : Int32) (Post : Int32 → MS → Prop) : Prop := (x1 < 0 → Post ((-1)) σ) ∧ (¬ x1 < 0 → (x1 ≤ (σ.1 2) → ∀ σ3 : MS, σ3 = mF σ 2 ((σ.1 2) - x1) → Post (σ3.1 2) σ3) ∧ (¬ x1 ≤ (σ.1 2) → Post ((-1)) σ))
set_option maxHeartbeats 1000000 in
set_option maxRecDepth 20000 in
theorem cM_back {l : Launch} {D : va_G} {cy : Nat → ClassId} {q : Nat → Nat} {σ : MS} {sz : Nat} {x1 : Int32} {Post : Int32 → MS → Prop} (hw : wpM_back σ x1 Post) : Met l yX11_back (Cond.code yX11_back cX11_back 2 (some .int) :: wsA) rM_back (xPc D cy (MW q cy σ) sz [.ref (q 0), .int x1]) (va_Qi Post (xB D cy (MW q cy) (va_A (MW q cy σ) sz)) (va_A (MW q cy σ) sz)) 0 0 (va_A (MW q cy σ) sz) := by
  refine x_enter (own := RX11) (WW := MW q cy) (by decide) rfl (Nat.le_of_ble_eq_true rfl) ?_
  intro p e s m below meth c ls E h hl
  have hx := E.1
  have hb := E.2.1
  have hl : lv_has ls 2 [(0, .ref (q 0)), (1, .int x1)] := hl
  unfold wpM_back at hw
  refine lv_iload_n hx hb dX11_back_0 rfl (lv_at hl 1 rfl) ?_
  refine lv_if_lt (tgt := 12) hx hb dX11_back_1 (by decide) (fun c1 => ?_) (fun c1 => ?_)
  · have hw := hw.1 c1
    refine lv_iconst (v := (-1)) hx hb dX11_back_12 (by decide) ?_
    exact x_iret E h hw dX11_back_13
  · have hw := hw.2 c1
    refine lv_iload_n hx hb dX11_back_4 rfl (lv_at hl 1 rfl) ?_
    refine lv_aload_n hx hb dX11_back_5 rfl (lv_at hl 0 rfl) ?_
    refine gX11_198 E h dX11_back_6 ?_
    refine lv_icmp_le (tgt := 14) hx hb dX11_back_9 (by decide) (fun c2 => ?_) (fun c2 => ?_)
    · have hw := hw.1 c2
      refine lv_aload_n hx hb dX11_back_14 rfl (lv_at hl 0 rfl) ?_
      refine lv_dup hx hb dX11_back_15 rfl ?_
      refine gX11_198 E h dX11_back_16 ?_
      refine lv_iload_n hx hb dX11_back_19 rfl (lv_at hl 1 rfl) ?_
      refine lv_isub hx hb dX11_back_20 ?_
      refine pX11_198 E h dX11_back_21 (fun σ3 H locs eσ3 h => ?_)
      have hw := hw σ3 eσ3
      refine lv_aload_n hx hb dX11_back_24 rfl (lv_at hl 0 rfl) ?_
      refine gX11_198 E h dX11_back_25 ?_
      exact x_iret E h hw dX11_back_28
    · have hw := hw.2 c2
      refine lv_iconst (v := (-1)) hx hb dX11_back_12 (by decide) ?_
      exact x_iret E h hw dX11_back_13

abbrev rM_at : Room := { frames := 0, cells := 0, slots := 0, locals := 0 }
def wpM_at (σ : MS) (x1 : Int32) (Post : Int32 → MS → Prop) : Prop := ((σ.1 4) ≤ x1 → Post 0 σ) ∧ (¬ (σ.1 4) ≤ x1 → vp_in x1 2000 ∧ Post ((σ.2.1 2 x1.toNatClampNeg) &&& 255) σ)
set_option maxHeartbeats 1000000 in
set_option maxRecDepth 20000 in
theorem cM_at {l : Launch} {D : va_G} {cy : Nat → ClassId} {q : Nat → Nat} {σ : MS} {sz : Nat} {x1 : Int32} {Post : Int32 → MS → Prop} (hw : wpM_at σ x1 Post) : Met l yX11_at (Cond.code yX11_at cX11_at 2 (some .int) :: wsA) rM_at (xPc D cy (MW q cy σ) sz [.ref (q 0), .int x1]) (va_Qi Post (xB D cy (MW q cy) (va_A (MW q cy σ) sz)) (va_A (MW q cy σ) sz)) 0 0 (va_A (MW q cy σ) sz) := by
  refine x_enter (own := RX11) (WW := MW q cy) (by decide) rfl (Nat.le_of_ble_eq_true rfl) ?_
  intro p e s m below meth c ls E h hl
  have hx := E.1
  have hb := E.2.1
  have hl : lv_has ls 2 [(0, .ref (q 0)), (1, .int x1)] := hl
  unfold wpM_at at hw
  refine lv_iload_n hx hb dX11_at_0 rfl (lv_at hl 1 rfl) ?_
  refine lv_aload_n hx hb dX11_at_1 rfl (lv_at hl 0 rfl) ?_
  refine gX11_205 E h dX11_at_2 ?_
  refine lv_icmp_ge (tgt := 21) hx hb dX11_at_5 (by decide) (fun c1 => ?_) (fun c1 => ?_)
  · have hw := hw.1 c1
    refine lv_iconst (v := 0) hx hb dX11_at_21 (by decide) ?_
    exact x_iret E h hw dX11_at_22
  · have hw := hw.2 c1
    refine lv_aload_n hx hb dX11_at_8 rfl (lv_at hl 0 rfl) ?_
    refine gX11_17 E h dX11_at_9 ?_
    refine lv_iload_n hx hb dX11_at_12 rfl (lv_at hl 1 rfl) ?_
    have h2 := hw.1
    have hw := hw.2
    refine aM_2 E h h2 dX11_at_13 ?_
    refine lv_sipush (v := 255) hx hb dX11_at_14 (by decide) ?_
    refine lv_iand hx hb dX11_at_17 ?_
    refine lv_goto (tgt := 22) hx hb dX11_at_18 (by decide) ?_
    exact x_iret E h hw dX11_at_22

abbrev rM_isDigit : Room := { frames := 0, cells := 0, slots := 0, locals := 0 }
def wpM_isDigit (σ : MS) (x0 : Int32) (Post : Int32 → MS → Prop) : Prop := (x0 < 48 → Post 0 σ) ∧ (¬ x0 < 48 → (57 < x0 → Post 0 σ) ∧ (¬ 57 < x0 → Post 1 σ))
set_option maxHeartbeats 1000000 in
set_option maxRecDepth 20000 in
theorem cM_isDigit {l : Launch} {D : va_G} {cy : Nat → ClassId} {q : Nat → Nat} {σ : MS} {sz : Nat} {x0 : Int32} {Post : Int32 → MS → Prop} (hw : wpM_isDigit σ x0 Post) : Met l yX11_isDigit (Cond.code yX11_isDigit cX11_isDigit 1 (some .boolean) :: wsA) rM_isDigit (xPc D cy (MW q cy σ) sz [.int x0]) (va_Qi Post (xB D cy (MW q cy) (va_A (MW q cy σ) sz)) (va_A (MW q cy σ) sz)) 0 0 (va_A (MW q cy σ) sz) := by
  refine x_enter (own := RX11) (WW := MW q cy) (by decide) rfl (Nat.le_of_ble_eq_true rfl) ?_
  intro p e s m below meth c ls E h hl
  have hx := E.1
  have hb := E.2.1
  have hl : lv_has ls 1 [(0, .int x0)] := hl
  unfold wpM_isDigit at hw
  refine lv_iload_n hx hb dX11_isDigit_0 rfl (lv_at hl 0 rfl) ?_
  refine lv_bipush (v := 48) hx hb dX11_isDigit_1 (by decide) ?_
  refine lv_icmp_lt (tgt := 16) hx hb dX11_isDigit_3 (by decide) (fun c1 => ?_) (fun c1 => ?_)
  · have hw := hw.1 c1
    refine lv_iconst (v := 0) hx hb dX11_isDigit_16 (by decide) ?_
    exact x_zret E h rfl hw dX11_isDigit_17
  · have hw := hw.2 c1
    refine lv_iload_n hx hb dX11_isDigit_6 rfl (lv_at hl 0 rfl) ?_
    refine lv_bipush (v := 57) hx hb dX11_isDigit_7 (by decide) ?_
    refine lv_icmp_gt (tgt := 16) hx hb dX11_isDigit_9 (by decide) (fun c2 => ?_) (fun c2 => ?_)
    · have hw := hw.1 c2
      refine lv_iconst (v := 0) hx hb dX11_isDigit_16 (by decide) ?_
      exact x_zret E h rfl hw dX11_isDigit_17
    · have hw := hw.2 c2
      refine lv_iconst (v := 1) hx hb dX11_isDigit_12 (by decide) ?_
      refine lv_goto (tgt := 17) hx hb dX11_isDigit_13 (by decide) ?_
      exact x_zret E h rfl hw dX11_isDigit_17

abbrev rM_isLetter : Room := { frames := 0, cells := 0, slots := 0, locals := 0 }
def wpM_isLetter (σ : MS) (x0 : Int32) (Post : Int32 → MS → Prop) : Prop := (x0 < 97 → Post 0 σ) ∧ (¬ x0 < 97 → (122 < x0 → Post 0 σ) ∧ (¬ 122 < x0 → Post 1 σ))
set_option maxHeartbeats 1000000 in
set_option maxRecDepth 20000 in
theorem cM_isLetter {l : Launch} {D : va_G} {cy : Nat → ClassId} {q : Nat → Nat} {σ : MS} {sz : Nat} {x0 : Int32} {Post : Int32 → MS → Prop} (hw : wpM_isLetter σ x0 Post) : Met l yX11_isLetter (Cond.code yX11_isLetter cX11_isLetter 1 (some .boolean) :: wsA) rM_isLetter (xPc D cy (MW q cy σ) sz [.int x0]) (va_Qi Post (xB D cy (MW q cy) (va_A (MW q cy σ) sz)) (va_A (MW q cy σ) sz)) 0 0 (va_A (MW q cy σ) sz) := by
  refine x_enter (own := RX11) (WW := MW q cy) (by decide) rfl (Nat.le_of_ble_eq_true rfl) ?_
  intro p e s m below meth c ls E h hl
  have hx := E.1
  have hb := E.2.1
  have hl : lv_has ls 1 [(0, .int x0)] := hl
  unfold wpM_isLetter at hw
  refine lv_iload_n hx hb dX11_isLetter_0 rfl (lv_at hl 0 rfl) ?_
  refine lv_bipush (v := 97) hx hb dX11_isLetter_1 (by decide) ?_
  refine lv_icmp_lt (tgt := 16) hx hb dX11_isLetter_3 (by decide) (fun c1 => ?_) (fun c1 => ?_)
  · have hw := hw.1 c1
    refine lv_iconst (v := 0) hx hb dX11_isLetter_16 (by decide) ?_
    exact x_zret E h rfl hw dX11_isLetter_17
  · have hw := hw.2 c1
    refine lv_iload_n hx hb dX11_isLetter_6 rfl (lv_at hl 0 rfl) ?_
    refine lv_bipush (v := 122) hx hb dX11_isLetter_7 (by decide) ?_
    refine lv_icmp_gt (tgt := 16) hx hb dX11_isLetter_9 (by decide) (fun c2 => ?_) (fun c2 => ?_)
    · have hw := hw.1 c2
      refine lv_iconst (v := 0) hx hb dX11_isLetter_16 (by decide) ?_
      exact x_zret E h rfl hw dX11_isLetter_17
    · have hw := hw.2 c2
      refine lv_iconst (v := 1) hx hb dX11_isLetter_12 (by decide) ?_
      refine lv_goto (tgt := 17) hx hb dX11_isLetter_13 (by decide) ?_
      exact x_zret E h rfl hw dX11_isLetter_17

abbrev rM_more : Room := { frames := 0, cells := 0, slots := 0, locals := 0 }
def wpM_more (σ : MS) (x0 : Int64) (x2 : Int32) (Post : Int64 → MS → Prop) : Prop := (x2 = 0 → Post x0 σ) ∧ (¬ x2 = 0 → Post ((27 * x0) + (((x2 - 97) + 1).toInt64)) σ)
set_option maxHeartbeats 1000000 in
set_option maxRecDepth 20000 in
theorem cM_more {l : Launch} {D : va_G} {cy : Nat → ClassId} {q : Nat → Nat} {σ : MS} {sz : Nat} {x0 : Int64} {x2 : Int32} {Post : Int64 → MS → Prop} (hw : wpM_more σ x0 x2 Post) : Met l yX11_more (Cond.code yX11_more cX11_more 3 (some .long) :: wsA) rM_more (xPc D cy (MW q cy σ) sz [.long x0, .int x2]) (va_Ql Post (xB D cy (MW q cy) (va_A (MW q cy σ) sz)) (va_A (MW q cy σ) sz)) 0 0 (va_A (MW q cy σ) sz) := by
  refine x_enter (own := RX11) (WW := MW q cy) (by decide) rfl (Nat.le_of_ble_eq_true rfl) ?_
  intro p e s m below meth c ls E h hl
  have hx := E.1
  have hb := E.2.1
  have hl : lv_has ls 3 [(0, .long x0), (2, .int x2)] := hl
  unfold wpM_more at hw
  refine lv_iload_n hx hb dX11_more_0 rfl (lv_at hl 1 rfl) ?_
  refine lv_if_ne (tgt := 8) hx hb dX11_more_1 (by decide) (fun c1 => ?_) (fun c1 => ?_)
  · have hw := hw.2 c1
    refine lv_ldc2 (own := RX11) (v := 27) hx hb E.2.2.2.1 (E.2.2.2.2.1 _ kX11_208) dX11_more_8 ?_
    refine lv_lload_n hx hb dX11_more_11 rfl (lv_at hl 0 rfl) ?_
    refine lv_lmul hx hb dX11_more_12 ?_
    refine lv_iload_n hx hb dX11_more_13 rfl (lv_at hl 1 rfl) ?_
    refine lv_bipush (v := 97) hx hb dX11_more_14 (by decide) ?_
    refine lv_isub hx hb dX11_more_16 ?_
    refine lv_iconst (v := 1) hx hb dX11_more_17 (by decide) ?_
    refine lv_iadd hx hb dX11_more_18 ?_
    refine lv_i2l (v := ((x2 - 97) + 1).toInt64) hx hb dX11_more_19 rfl ?_
    refine lv_ladd hx hb dX11_more_20 ?_
    exact x_lret E h hw dX11_more_21
  · have hw := hw.1 c1
    refine lv_lload_n hx hb dX11_more_4 rfl (lv_at hl 0 rfl) ?_
    refine lv_goto (tgt := 21) hx hb dX11_more_5 (by decide) ?_
    exact x_lret E h hw dX11_more_21

abbrev rM_word : Room := { frames := 1, cells := 0, slots := 0, locals := 22 }
def wpM_word (σ : MS) (x0 : Int32) (x1 : Int32) (x2 : Int32) (x3 : Int32) (x4 : Int32) (x5 : Int32) (x6 : Int32) (Post : Int64 → MS → Prop) : Prop := wpM_more σ 0 x0 (fun r1 σ2 => wpM_more σ2 r1 x1 (fun r3 σ4 => wpM_more σ4 r3 x2 (fun r5 σ6 => wpM_more σ6 r5 x3 (fun r7 σ8 => wpM_more σ8 r7 x4 (fun r9 σ10 => wpM_more σ10 r9 x5 (fun r11 σ12 => wpM_more σ12 r11 x6 (fun r13 σ14 => Post r13 σ14)))))))
set_option maxHeartbeats 1000000 in
set_option maxRecDepth 20000 in
theorem cM_word {l : Launch} {D : va_G} {cy : Nat → ClassId} {q : Nat → Nat} {σ : MS} {sz : Nat} {x0 : Int32} {x1 : Int32} {x2 : Int32} {x3 : Int32} {x4 : Int32} {x5 : Int32} {x6 : Int32} {Post : Int64 → MS → Prop} (hw : wpM_word σ x0 x1 x2 x3 x4 x5 x6 Post) : Met l yX11_word (Cond.code yX11_word cX11_word 7 (some .long) :: wsA) rM_word (xPc D cy (MW q cy σ) sz [.int x0, .int x1, .int x2, .int x3, .int x4, .int x5, .int x6]) (va_Ql Post (xB D cy (MW q cy) (va_A (MW q cy σ) sz)) (va_A (MW q cy σ) sz)) 0 0 (va_A (MW q cy σ) sz) := by
  refine x_enter (own := RX11) (WW := MW q cy) (by decide) rfl (Nat.le_of_ble_eq_true rfl) ?_
  intro p e s m below meth c ls E h hl
  have hx := E.1
  have hb := E.2.1
  have hl : lv_has ls 7 [(0, .int x0), (1, .int x1), (2, .int x2), (3, .int x3), (4, .int x4), (5, .int x5), (6, .int x6)] := hl
  unfold wpM_word at hw
  refine lv_lconst (v := 0) hx hb dX11_word_0 (by decide) ?_
  refine lv_iload_n hx hb dX11_word_1 rfl (lv_at hl 0 rfl) ?_
  refine x_calll h (x_runS (WW := MW q cy) (rest := []) E h (cM_more hw) yyX11_more lX11_210 ⟨Nat.le_of_ble_eq_true rfl, Nat.le_of_ble_eq_true rfl⟩ rfl rfl hl.1 rfl (Nat.le_of_ble_eq_true rfl) dX11_word_2 ⟨Nat.le_refl 0, Nat.le_refl 0⟩) (fun r1 σ2 H locs hw h => ?_)
  refine lv_iload_n hx hb dX11_word_5 rfl (lv_at hl 1 rfl) ?_
  refine x_calll h (x_runS (WW := MW q cy) (rest := []) E h (cM_more hw) yyX11_more lX11_210 ⟨Nat.le_of_ble_eq_true rfl, Nat.le_of_ble_eq_true rfl⟩ rfl rfl hl.1 rfl (Nat.le_of_ble_eq_true rfl) dX11_word_6 ⟨Nat.le_refl 0, Nat.le_refl 0⟩) (fun r3 σ4 H locs hw h => ?_)
  refine lv_iload_n hx hb dX11_word_9 rfl (lv_at hl 2 rfl) ?_
  refine x_calll h (x_runS (WW := MW q cy) (rest := []) E h (cM_more hw) yyX11_more lX11_210 ⟨Nat.le_of_ble_eq_true rfl, Nat.le_of_ble_eq_true rfl⟩ rfl rfl hl.1 rfl (Nat.le_of_ble_eq_true rfl) dX11_word_10 ⟨Nat.le_refl 0, Nat.le_refl 0⟩) (fun r5 σ6 H locs hw h => ?_)
  refine lv_iload_n hx hb dX11_word_13 rfl (lv_at hl 3 rfl) ?_
  refine x_calll h (x_runS (WW := MW q cy) (rest := []) E h (cM_more hw) yyX11_more lX11_210 ⟨Nat.le_of_ble_eq_true rfl, Nat.le_of_ble_eq_true rfl⟩ rfl rfl hl.1 rfl (Nat.le_of_ble_eq_true rfl) dX11_word_14 ⟨Nat.le_refl 0, Nat.le_refl 0⟩) (fun r7 σ8 H locs hw h => ?_)
  refine lv_iload hx hb dX11_word_17 (lv_at hl 4 rfl) ?_
  refine x_calll h (x_runS (WW := MW q cy) (rest := []) E h (cM_more hw) yyX11_more lX11_210 ⟨Nat.le_of_ble_eq_true rfl, Nat.le_of_ble_eq_true rfl⟩ rfl rfl hl.1 rfl (Nat.le_of_ble_eq_true rfl) dX11_word_19 ⟨Nat.le_refl 0, Nat.le_refl 0⟩) (fun r9 σ10 H locs hw h => ?_)
  refine lv_iload hx hb dX11_word_22 (lv_at hl 5 rfl) ?_
  refine x_calll h (x_runS (WW := MW q cy) (rest := []) E h (cM_more hw) yyX11_more lX11_210 ⟨Nat.le_of_ble_eq_true rfl, Nat.le_of_ble_eq_true rfl⟩ rfl rfl hl.1 rfl (Nat.le_of_ble_eq_true rfl) dX11_word_24 ⟨Nat.le_refl 0, Nat.le_refl 0⟩) (fun r11 σ12 H locs hw h => ?_)
  refine lv_iload hx hb dX11_word_27 (lv_at hl 6 rfl) ?_
  refine x_calll h (x_runS (WW := MW q cy) (rest := []) E h (cM_more hw) yyX11_more lX11_210 ⟨Nat.le_of_ble_eq_true rfl, Nat.le_of_ble_eq_true rfl⟩ rfl rfl hl.1 rfl (Nat.le_of_ble_eq_true rfl) dX11_word_29 ⟨Nat.le_refl 0, Nat.le_refl 0⟩) (fun r13 σ14 H locs hw h => ?_)
  exact x_lret E h hw dX11_word_32

abbrev rM_token : Room := { frames := 0, cells := 0, slots := 0, locals := 0 }
def wpM_token (σ : MS) (x1 : Int32) (x2 : Int32) (x3 : Int32) (x4 : Int64) (Post : MS → Prop) : Prop := vp_in (σ.1 10) 403 ∧ ∀ σ1 : MS, σ1 = mA σ 3 (upd (σ.2.1 3) (σ.1 10).toNatClampNeg x1) → vp_in (σ1.1 10) 403 ∧ ∀ σ3 : MS, σ3 = mA σ1 4 (upd (σ1.2.1 4) (σ1.1 10).toNatClampNeg x2) → vp_in (σ3.1 10) 403 ∧ ∀ σ5 : MS, σ5 = mA σ3 5 (upd (σ3.2.1 5) (σ3.1 10).toNatClampNeg x3) → vp_in (σ5.1 10) 403 ∧ ∀ σ7 : MS, σ7 = mL σ5 6 (vp_updL (σ5.2.2 6) (σ5.1 10).toNatClampNeg x4) → ∀ σ9 : MS, σ9 = mF σ7 10 ((σ7.1 10) + 1) → Post σ9
set_option maxHeartbeats 1000000 in
set_option maxRecDepth 20000 in
theorem cM_token {l : Launch} {D : va_G} {cy : Nat → ClassId} {q : Nat → Nat} {σ : MS} {sz : Nat} {x1 : Int32} {x2 : Int32} {x3 : Int32} {x4 : Int64} {Post : MS → Prop} (hw : wpM_token σ x1 x2 x3 x4 Post) : Met l yX11_token (Cond.code yX11_token cX11_token 6 none :: wsA) rM_token (xPc D cy (MW q cy σ) sz [.ref (q 0), .int x1, .int x2, .int x3, .long x4]) (va_Qv Post (xB D cy (MW q cy) (va_A (MW q cy σ) sz)) (va_A (MW q cy σ) sz)) 0 0 (va_A (MW q cy σ) sz) := by
  refine x_enter (own := RX11) (WW := MW q cy) (by decide) rfl (Nat.le_of_ble_eq_true rfl) ?_
  intro p e s m below meth c ls E h hl
  have hx := E.1
  have hb := E.2.1
  have hl : lv_has ls 6 [(0, .ref (q 0)), (1, .int x1), (2, .int x2), (3, .int x3), (4, .long x4)] := hl
  unfold wpM_token at hw
  refine lv_aload_n hx hb dX11_token_0 rfl (lv_at hl 0 rfl) ?_
  refine gX11_20 E h dX11_token_1 ?_
  refine lv_aload_n hx hb dX11_token_4 rfl (lv_at hl 0 rfl) ?_
  refine gX11_214 E h dX11_token_5 ?_
  refine lv_iload_n hx hb dX11_token_8 rfl (lv_at hl 1 rfl) ?_
  have h2 := hw.1
  have hw := hw.2
  refine sM_3 E h h2 dX11_token_9 (fun σ1 H locs eσ1 h => ?_)
  have hw := hw σ1 eσ1
  refine lv_aload_n hx hb dX11_token_10 rfl (lv_at hl 0 rfl) ?_
  refine gX11_24 E h dX11_token_11 ?_
  refine lv_aload_n hx hb dX11_token_14 rfl (lv_at hl 0 rfl) ?_
  refine gX11_214 E h dX11_token_15 ?_
  refine lv_iload_n hx hb dX11_token_18 rfl (lv_at hl 2 rfl) ?_
  have h4 := hw.1
  have hw := hw.2
  refine sM_4 E h h4 dX11_token_19 (fun σ3 H locs eσ3 h => ?_)
  have hw := hw σ3 eσ3
  refine lv_aload_n hx hb dX11_token_20 rfl (lv_at hl 0 rfl) ?_
  refine gX11_27 E h dX11_token_21 ?_
  refine lv_aload_n hx hb dX11_token_24 rfl (lv_at hl 0 rfl) ?_
  refine gX11_214 E h dX11_token_25 ?_
  refine lv_iload_n hx hb dX11_token_28 rfl (lv_at hl 3 rfl) ?_
  have h6 := hw.1
  have hw := hw.2
  refine sM_5 E h h6 dX11_token_29 (fun σ5 H locs eσ5 h => ?_)
  have hw := hw σ5 eσ5
  refine lv_aload_n hx hb dX11_token_30 rfl (lv_at hl 0 rfl) ?_
  refine gX11_30 E h dX11_token_31 ?_
  refine lv_aload_n hx hb dX11_token_34 rfl (lv_at hl 0 rfl) ?_
  refine gX11_214 E h dX11_token_35 ?_
  refine lv_lload hx hb dX11_token_38 (lv_at hl 4 rfl) ?_
  have h8 := hw.1
  have hw := hw.2
  refine sM_6 E h h8 dX11_token_40 (fun σ7 H locs eσ7 h => ?_)
  have hw := hw σ7 eσ7
  refine lv_aload_n hx hb dX11_token_41 rfl (lv_at hl 0 rfl) ?_
  refine lv_dup hx hb dX11_token_42 rfl ?_
  refine gX11_214 E h dX11_token_43 ?_
  refine lv_iconst (v := 1) hx hb dX11_token_46 (by decide) ?_
  refine lv_iadd hx hb dX11_token_47 ?_
  refine pX11_214 E h dX11_token_48 (fun σ9 H locs eσ9 h => ?_)
  have hw := hw σ9 eσ9
  exact x_vret E h hw dX11_token_51

abbrev rM_sign : Room := { frames := 1, cells := 0, slots := 0, locals := 25 }
def wpM_sign_148 (Post : Int32 → MS → Prop) (σ : MS) (x1 : Int32) (x4 : Int32) (x5 : Int32) : Prop := wpM_token σ x5 x1 0 0 (fun σ1 => (x4 ≤ 0 → Post 1 σ1) ∧ (¬ x4 ≤ 0 → Post 2 σ1))
set_option maxHeartbeats 1000000 in
set_option maxRecDepth 20000 in
theorem wkM_sign_148 {Post : Int32 → MS → Prop} (E : xE cX11_sign RX11 6 (some .int) D cy p s m args meth c) : ∀ (σ : MS) (x1 : Int32) (x4 : Int32) (x5 : Int32) (H : Heap) (locs : List Loc) (ls : Array Slot), xH D A s (MW q cy σ) H locs → wpM_sign_148 Post σ x1 x4 x5 → lv_has ls 6 [(0, .ref (q 0)), (1, .int x1), (4, .int x4), (5, .int x5)] → W p l e rM_sign s m args below meth c H locs 0 0 (MQ below (va_Qi Post (xB D cy (MW q cy) A) A) args s 0 0 A) (F0 m 148 ls []) := by
  have hx := E.1
  have hb := E.2.1
  intro σ x1 x4 x5 H locs ls h hw hl
  unfold wpM_sign_148 at hw
  refine lv_aload_n hx hb dX11_sign_148 rfl (lv_at hl 0 rfl) ?_
  refine lv_iload hx hb dX11_sign_149 (lv_at hl 3 rfl) ?_
  refine lv_iload_n hx hb dX11_sign_151 rfl (lv_at hl 1 rfl) ?_
  refine lv_iconst (v := 0) hx hb dX11_sign_152 (by decide) ?_
  refine lv_lconst (v := 0) hx hb dX11_sign_153 (by decide) ?_
  refine x_callv h (x_runV (WW := MW q cy) (rest := []) E h (cM_token hw) yyX11_token lX11_220 0 rfl rfl ⟨Nat.le_of_ble_eq_true rfl, Nat.le_of_ble_eq_true rfl⟩ rfl rfl hl.1 rfl (Nat.le_of_ble_eq_true rfl) dX11_sign_154 ⟨Nat.le_refl 0, Nat.le_refl 0⟩) (fun σ1 H locs hw h => ?_)
  refine lv_iload hx hb dX11_sign_157 (lv_at hl 2 rfl) ?_
  refine lv_if_le (tgt := 166) hx hb dX11_sign_159 (by decide) (fun c2 => ?_) (fun c2 => ?_)
  · have hw := hw.1 c2
    refine lv_iconst (v := 1) hx hb dX11_sign_166 (by decide) ?_
    exact x_iret E h hw dX11_sign_167
  · have hw := hw.2 c2
    refine lv_iconst (v := 2) hx hb dX11_sign_162 (by decide) ?_
    refine lv_goto (tgt := 167) hx hb dX11_sign_163 (by decide) ?_
    exact x_iret E h hw dX11_sign_167

def wpM_sign_44 (Post : Int32 → MS → Prop) (σ : MS) (x1 : Int32) (x2 : Int32) (t0 : Int32) : Prop := (t0 ≤ 0 → (x2 = 59 → wpM_sign_148 Post σ x1 t0 4) ∧ (¬ x2 = 59 → (x2 = 40 → wpM_sign_148 Post σ x1 t0 6) ∧ (¬ x2 = 40 → (x2 = 41 → wpM_sign_148 Post σ x1 t0 7) ∧ (¬ x2 = 41 → (x2 = 43 → wpM_sign_148 Post σ x1 t0 8) ∧ (¬ x2 = 43 → (x2 = 45 → wpM_sign_148 Post σ x1 t0 9) ∧ (¬ x2 = 45 → (x2 = 42 → wpM_sign_148 Post σ x1 t0 10) ∧ (¬ x2 = 42 → (x2 = 60 → wpM_sign_148 Post σ x1 t0 13) ∧ (¬ x2 = 60 → wpM_sign_148 Post σ x1 t0 3)))))))) ∧ (¬ t0 ≤ 0 → wpM_sign_148 Post σ x1 t0 t0)
set_option maxHeartbeats 1000000 in
set_option maxRecDepth 20000 in
theorem wkM_sign_44 {Post : Int32 → MS → Prop} (E : xE cX11_sign RX11 6 (some .int) D cy p s m args meth c) : ∀ (σ : MS) (x1 : Int32) (x2 : Int32) (t0 : Int32) (H : Heap) (locs : List Loc) (ls : Array Slot), xH D A s (MW q cy σ) H locs → wpM_sign_44 Post σ x1 x2 t0 → lv_has ls 6 [(0, .ref (q 0)), (1, .int x1), (2, .int x2)] → W p l e rM_sign s m args below meth c H locs 0 0 (MQ below (va_Qi Post (xB D cy (MW q cy) A) A) args s 0 0 A) (F0 m 44 ls [.int t0]) := by
  have hx := E.1
  have hb := E.2.1
  intro σ x1 x2 t0 H locs ls h hw hl
  unfold wpM_sign_44 at hw
  refine lv_istore (lv' := [(4, .int t0), (0, .ref (q 0)), (1, .int x1), (2, .int x2)]) hx hb dX11_sign_44 hl (by decide) rfl (fun ls hl => ?_)
  refine lv_iconst (v := 3) hx hb dX11_sign_46 (by decide) ?_
  refine lv_istore (lv' := [(5, .int 3), (4, .int t0), (0, .ref (q 0)), (1, .int x1), (2, .int x2)]) hx hb dX11_sign_47 hl (by decide) rfl (fun ls hl => ?_)
  refine lv_iload hx hb dX11_sign_49 (lv_at hl 1 rfl) ?_
  refine lv_if_le (tgt := 61) hx hb dX11_sign_51 (by decide) (fun c1 => ?_) (fun c1 => ?_)
  · have hw := hw.1 c1
    refine lv_iload_n hx hb dX11_sign_61 rfl (lv_at hl 4 rfl) ?_
    refine lv_bipush (v := 59) hx hb dX11_sign_62 (by decide) ?_
    refine lv_icmp_ne (tgt := 73) hx hb dX11_sign_64 (by decide) (fun c2 => ?_) (fun c2 => ?_)
    · have hw := hw.2 c2
      refine lv_iload_n hx hb dX11_sign_73 rfl (lv_at hl 4 rfl) ?_
      refine lv_bipush (v := 40) hx hb dX11_sign_74 (by decide) ?_
      refine lv_icmp_ne (tgt := 86) hx hb dX11_sign_76 (by decide) (fun c3 => ?_) (fun c3 => ?_)
      · have hw := hw.2 c3
        refine lv_iload_n hx hb dX11_sign_86 rfl (lv_at hl 4 rfl) ?_
        refine lv_bipush (v := 41) hx hb dX11_sign_87 (by decide) ?_
        refine lv_icmp_ne (tgt := 99) hx hb dX11_sign_89 (by decide) (fun c4 => ?_) (fun c4 => ?_)
        · have hw := hw.2 c4
          refine lv_iload_n hx hb dX11_sign_99 rfl (lv_at hl 4 rfl) ?_
          refine lv_bipush (v := 43) hx hb dX11_sign_100 (by decide) ?_
          refine lv_icmp_ne (tgt := 112) hx hb dX11_sign_102 (by decide) (fun c5 => ?_) (fun c5 => ?_)
          · have hw := hw.2 c5
            refine lv_iload_n hx hb dX11_sign_112 rfl (lv_at hl 4 rfl) ?_
            refine lv_bipush (v := 45) hx hb dX11_sign_113 (by decide) ?_
            refine lv_icmp_ne (tgt := 125) hx hb dX11_sign_115 (by decide) (fun c6 => ?_) (fun c6 => ?_)
            · have hw := hw.2 c6
              refine lv_iload_n hx hb dX11_sign_125 rfl (lv_at hl 4 rfl) ?_
              refine lv_bipush (v := 42) hx hb dX11_sign_126 (by decide) ?_
              refine lv_icmp_ne (tgt := 138) hx hb dX11_sign_128 (by decide) (fun c7 => ?_) (fun c7 => ?_)
              · have hw := hw.2 c7
                refine lv_iload_n hx hb dX11_sign_138 rfl (lv_at hl 4 rfl) ?_
                refine lv_bipush (v := 60) hx hb dX11_sign_139 (by decide) ?_
                refine lv_icmp_ne (tgt := 148) hx hb dX11_sign_141 (by decide) (fun c8 => ?_) (fun c8 => ?_)
                · have hw := hw.2 c8
                  exact wkM_sign_148 E _ _ _ _ _ _ _ h hw (lv_sub hl [2, 3, 1, 0] rfl)
                · have hw := hw.1 c8
                  refine lv_bipush (v := 13) hx hb dX11_sign_144 (by decide) ?_
                  refine lv_istore (lv' := [(5, .int 13), (4, .int t0), (0, .ref (q 0)), (1, .int x1), (2, .int x2)]) hx hb dX11_sign_146 hl (by decide) rfl (fun ls hl => ?_)
                  exact wkM_sign_148 E _ _ _ _ _ _ _ h hw (lv_sub hl [2, 3, 1, 0] rfl)
              · have hw := hw.1 c7
                refine lv_bipush (v := 10) hx hb dX11_sign_131 (by decide) ?_
                refine lv_istore (lv' := [(5, .int 10), (4, .int t0), (0, .ref (q 0)), (1, .int x1), (2, .int x2)]) hx hb dX11_sign_133 hl (by decide) rfl (fun ls hl => ?_)
                refine lv_goto (tgt := 148) hx hb dX11_sign_135 (by decide) ?_
                exact wkM_sign_148 E _ _ _ _ _ _ _ h hw (lv_sub hl [2, 3, 1, 0] rfl)
            · have hw := hw.1 c6
              refine lv_bipush (v := 9) hx hb dX11_sign_118 (by decide) ?_
              refine lv_istore (lv' := [(5, .int 9), (4, .int t0), (0, .ref (q 0)), (1, .int x1), (2, .int x2)]) hx hb dX11_sign_120 hl (by decide) rfl (fun ls hl => ?_)
              refine lv_goto (tgt := 148) hx hb dX11_sign_122 (by decide) ?_
              exact wkM_sign_148 E _ _ _ _ _ _ _ h hw (lv_sub hl [2, 3, 1, 0] rfl)
          · have hw := hw.1 c5
            refine lv_bipush (v := 8) hx hb dX11_sign_105 (by decide) ?_
            refine lv_istore (lv' := [(5, .int 8), (4, .int t0), (0, .ref (q 0)), (1, .int x1), (2, .int x2)]) hx hb dX11_sign_107 hl (by decide) rfl (fun ls hl => ?_)
            refine lv_goto (tgt := 148) hx hb dX11_sign_109 (by decide) ?_
            exact wkM_sign_148 E _ _ _ _ _ _ _ h hw (lv_sub hl [2, 3, 1, 0] rfl)
        · have hw := hw.1 c4
          refine lv_bipush (v := 7) hx hb dX11_sign_92 (by decide) ?_
          refine lv_istore (lv' := [(5, .int 7), (4, .int t0), (0, .ref (q 0)), (1, .int x1), (2, .int x2)]) hx hb dX11_sign_94 hl (by decide) rfl (fun ls hl => ?_)
          refine lv_goto (tgt := 148) hx hb dX11_sign_96 (by decide) ?_
          exact wkM_sign_148 E _ _ _ _ _ _ _ h hw (lv_sub hl [2, 3, 1, 0] rfl)
      · have hw := hw.1 c3
        refine lv_bipush (v := 6) hx hb dX11_sign_79 (by decide) ?_
        refine lv_istore (lv' := [(5, .int 6), (4, .int t0), (0, .ref (q 0)), (1, .int x1), (2, .int x2)]) hx hb dX11_sign_81 hl (by decide) rfl (fun ls hl => ?_)
        refine lv_goto (tgt := 148) hx hb dX11_sign_83 (by decide) ?_
        exact wkM_sign_148 E _ _ _ _ _ _ _ h hw (lv_sub hl [2, 3, 1, 0] rfl)
    · have hw := hw.1 c2
      refine lv_iconst (v := 4) hx hb dX11_sign_67 (by decide) ?_
      refine lv_istore (lv' := [(5, .int 4), (4, .int t0), (0, .ref (q 0)), (1, .int x1), (2, .int x2)]) hx hb dX11_sign_68 hl (by decide) rfl (fun ls hl => ?_)
      refine lv_goto (tgt := 148) hx hb dX11_sign_70 (by decide) ?_
      exact wkM_sign_148 E _ _ _ _ _ _ _ h hw (lv_sub hl [2, 3, 1, 0] rfl)
  · have hw := hw.2 c1
    refine lv_iload hx hb dX11_sign_54 (lv_at hl 1 rfl) ?_
    refine lv_istore (lv' := [(5, .int t0), (4, .int t0), (0, .ref (q 0)), (1, .int x1), (2, .int x2)]) hx hb dX11_sign_56 hl (by decide) rfl (fun ls hl => ?_)
    refine lv_goto (tgt := 148) hx hb dX11_sign_58 (by decide) ?_
    exact wkM_sign_148 E _ _ _ _ _ _ _ h hw (lv_sub hl [2, 3, 1, 0] rfl)

def wpM_sign (σ : MS) (x1 : Int32) (x2 : Int32) (x3 : Int32) (Post : Int32 → MS → Prop) : Prop := (x3 = 61 → (x2 = 61 → wpM_sign_44 Post σ x1 x2 11) ∧ (¬ x2 = 61 → (x2 = 33 → wpM_sign_44 Post σ x1 x2 12) ∧ (¬ x2 = 33 → (x2 = 60 → wpM_sign_44 Post σ x1 x2 14) ∧ (¬ x2 = 60 → wpM_sign_44 Post σ x1 x2 0)))) ∧ (¬ x3 = 61 → wpM_sign_44 Post σ x1 x2 0)
set_option maxHeartbeats 1000000 in
set_option maxRecDepth 20000 in
theorem cM_sign {l : Launch} {D : va_G} {cy : Nat → ClassId} {q : Nat → Nat} {σ : MS} {sz : Nat} {x1 : Int32} {x2 : Int32} {x3 : Int32} {Post : Int32 → MS → Prop} (hw : wpM_sign σ x1 x2 x3 Post) : Met l yX11_sign (Cond.code yX11_sign cX11_sign 6 (some .int) :: wsA) rM_sign (xPc D cy (MW q cy σ) sz [.ref (q 0), .int x1, .int x2, .int x3]) (va_Qi Post (xB D cy (MW q cy) (va_A (MW q cy σ) sz)) (va_A (MW q cy σ) sz)) 0 0 (va_A (MW q cy σ) sz) := by
  refine x_enter (own := RX11) (WW := MW q cy) (by decide) rfl (Nat.le_of_ble_eq_true rfl) ?_
  intro p e s m below meth c ls E h hl
  have hx := E.1
  have hb := E.2.1
  have hl : lv_has ls 6 [(0, .ref (q 0)), (1, .int x1), (2, .int x2), (3, .int x3)] := hl
  unfold wpM_sign at hw
  refine lv_iload_n hx hb dX11_sign_0 rfl (lv_at hl 3 rfl) ?_
  refine lv_bipush (v := 61) hx hb dX11_sign_1 (by decide) ?_
  refine lv_icmp_eq (tgt := 10) hx hb dX11_sign_3 (by decide) (fun c1 => ?_) (fun c1 => ?_)
  · have hw := hw.1 c1
    refine lv_iload_n hx hb dX11_sign_10 rfl (lv_at hl 2 rfl) ?_
    refine lv_bipush (v := 61) hx hb dX11_sign_11 (by decide) ?_
    refine lv_icmp_ne (tgt := 21) hx hb dX11_sign_13 (by decide) (fun c2 => ?_) (fun c2 => ?_)
    · have hw := hw.2 c2
      refine lv_iload_n hx hb dX11_sign_21 rfl (lv_at hl 2 rfl) ?_
      refine lv_bipush (v := 33) hx hb dX11_sign_22 (by decide) ?_
      refine lv_icmp_ne (tgt := 32) hx hb dX11_sign_24 (by decide) (fun c3 => ?_) (fun c3 => ?_)
      · have hw := hw.2 c3
        refine lv_iload_n hx hb dX11_sign_32 rfl (lv_at hl 2 rfl) ?_
        refine lv_bipush (v := 60) hx hb dX11_sign_33 (by decide) ?_
        refine lv_icmp_ne (tgt := 43) hx hb dX11_sign_35 (by decide) (fun c4 => ?_) (fun c4 => ?_)
        · have hw := hw.2 c4
          refine lv_iconst (v := 0) hx hb dX11_sign_43 (by decide) ?_
          exact wkM_sign_44 E _ _ _ _ _ _ _ h hw (lv_sub hl [0, 1, 2] rfl)
        · have hw := hw.1 c4
          refine lv_bipush (v := 14) hx hb dX11_sign_38 (by decide) ?_
          refine lv_goto (tgt := 44) hx hb dX11_sign_40 (by decide) ?_
          exact wkM_sign_44 E _ _ _ _ _ _ _ h hw (lv_sub hl [0, 1, 2] rfl)
      · have hw := hw.1 c3
        refine lv_bipush (v := 12) hx hb dX11_sign_27 (by decide) ?_
        refine lv_goto (tgt := 44) hx hb dX11_sign_29 (by decide) ?_
        exact wkM_sign_44 E _ _ _ _ _ _ _ h hw (lv_sub hl [0, 1, 2] rfl)
    · have hw := hw.1 c2
      refine lv_bipush (v := 11) hx hb dX11_sign_16 (by decide) ?_
      refine lv_goto (tgt := 44) hx hb dX11_sign_18 (by decide) ?_
      exact wkM_sign_44 E _ _ _ _ _ _ _ h hw (lv_sub hl [0, 1, 2] rfl)
  · have hw := hw.2 c1
    refine lv_iconst (v := 0) hx hb dX11_sign_6 (by decide) ?_
    refine lv_goto (tgt := 44) hx hb dX11_sign_7 (by decide) ?_
    exact wkM_sign_44 E _ _ _ _ _ _ _ h hw (lv_sub hl [0, 1, 2] rfl)

abbrev rM_cut : Room := { frames := 2, cells := 0, slots := 0, locals := 50 }
def wpM_cut_179 (K7 : MS → Int32 → Prop) (Post : MS → Prop) (σ : MS) (x1 : Int32) (x3 : Int32) (x4 : Int64) (x6 : Int32) : Prop := wpM_token σ x6 x1 0 x4 (fun σ1 => ∀ y2 : Int32, y2 = x1 + x3 → K7 σ1 y2)
set_option maxHeartbeats 1000000 in
set_option maxRecDepth 20000 in
theorem wkM_cut_179 {Post : MS → Prop} (E : xE cX11_cut RX11 8 none D cy p s m args meth c) {K7 : MS → Int32 → Prop} (hK7 : ∀ (σ : MS) (x1 : Int32) (H : Heap) (locs : List Loc) (ls : Array Slot), xH D A s (MW q cy σ) H locs → K7 σ x1 → lv_has ls 8 [(0, .ref (q 0)), (1, .int x1)] → W p l e rM_cut s m args below meth c H locs 0 0 (MQ below (va_Qv Post (xB D cy (MW q cy) A) A) args s 0 0 A) (F0 m 7 ls [])) : ∀ (σ : MS) (x1 : Int32) (x3 : Int32) (x4 : Int64) (x6 : Int32) (H : Heap) (locs : List Loc) (ls : Array Slot), xH D A s (MW q cy σ) H locs → wpM_cut_179 K7 Post σ x1 x3 x4 x6 → lv_has ls 8 [(0, .ref (q 0)), (1, .int x1), (3, .int x3), (4, .long x4), (6, .int x6)] → W p l e rM_cut s m args below meth c H locs 0 0 (MQ below (va_Qv Post (xB D cy (MW q cy) A) A) args s 0 0 A) (F0 m 179 ls []) := by
  have hx := E.1
  have hb := E.2.1
  intro σ x1 x3 x4 x6 H locs ls h hw hl
  unfold wpM_cut_179 at hw
  refine lv_aload_n hx hb dX11_cut_179 rfl (lv_at hl 0 rfl) ?_
  refine lv_iload hx hb dX11_cut_180 (lv_at hl 4 rfl) ?_
  refine lv_iload_n hx hb dX11_cut_182 rfl (lv_at hl 1 rfl) ?_
  refine lv_iconst (v := 0) hx hb dX11_cut_183 (by decide) ?_
  refine lv_lload hx hb dX11_cut_184 (lv_at hl 3 rfl) ?_
  refine x_callv h (x_runV (WW := MW q cy) (rest := []) E h (cM_token hw) yyX11_token lX11_220 0 rfl rfl ⟨Nat.le_of_ble_eq_true rfl, Nat.le_of_ble_eq_true rfl⟩ rfl rfl hl.1 rfl (Nat.le_of_ble_eq_true rfl) dX11_cut_186 ⟨Nat.le_refl 0, Nat.le_refl 0⟩) (fun σ1 H locs hw h => ?_)
  refine lv_iload_n hx hb dX11_cut_189 rfl (lv_at hl 1 rfl) ?_
  refine lv_iload_n hx hb dX11_cut_190 rfl (lv_at hl 2 rfl) ?_
  refine lv_iadd hx hb dX11_cut_191 ?_
  refine lv_topi (fun y2 ey2 => ?_)
  have hw := hw y2 ey2
  refine lv_istore_n (lv' := [(1, .int y2), (0, .ref (q 0)), (3, .int x3), (4, .long x4), (6, .int x6)]) hx hb dX11_cut_192 rfl hl (by decide) rfl (fun ls hl => ?_)
  refine lv_goto (tgt := 291) hx hb dX11_cut_193 (by decide) ?_
  refine lv_goto (tgt := 7) hx hb dX11_cut_291 (by decide) ?_
  exact hK7 _ _ _ _ _ h hw (lv_sub hl [1, 0] rfl)

def wpM_cut_146 (K7 : MS → Int32 → Prop) (Post : MS → Prop) : Nat → MS → Int32 → Int32 → Int64 → Int32 → Int32 → Prop
  | 0, _, _, _, _, _, _ => False
  | n + 1, σ, x1, x3, x4, x6, x7 => (20 ≤ x7 → wpM_cut_179 K7 Post σ x1 x3 x4 x6) ∧ (¬ 20 ≤ x7 → vp_in x7 20 ∧ ((lg_cmp (σ.2.2 7 x7.toNatClampNeg) x4) = 0 → ∀ y5 : Int32, y5 = 20 + x7 → ∀ y6 : Int32, y6 = x7 + 1 → wpM_cut_146 K7 Post n σ x1 x3 x4 y5 y6) ∧ (¬ (lg_cmp (σ.2.2 7 x7.toNatClampNeg) x4) = 0 → ∀ y4 : Int32, y4 = x7 + 1 → wpM_cut_146 K7 Post n σ x1 x3 x4 x6 y4))
set_option maxHeartbeats 1000000 in
set_option maxRecDepth 20000 in
theorem wkM_cut_146 {Post : MS → Prop} (E : xE cX11_cut RX11 8 none D cy p s m args meth c) {K7 : MS → Int32 → Prop} (hK7 : ∀ (σ : MS) (x1 : Int32) (H : Heap) (locs : List Loc) (ls : Array Slot), xH D A s (MW q cy σ) H locs → K7 σ x1 → lv_has ls 8 [(0, .ref (q 0)), (1, .int x1)] → W p l e rM_cut s m args below meth c H locs 0 0 (MQ below (va_Qv Post (xB D cy (MW q cy) A) A) args s 0 0 A) (F0 m 7 ls [])) : ∀ n : Nat, ∀ (σ : MS) (x1 : Int32) (x3 : Int32) (x4 : Int64) (x6 : Int32) (x7 : Int32) (H : Heap) (locs : List Loc) (ls : Array Slot), xH D A s (MW q cy σ) H locs → wpM_cut_146 K7 Post n σ x1 x3 x4 x6 x7 → lv_has ls 8 [(0, .ref (q 0)), (1, .int x1), (3, .int x3), (4, .long x4), (6, .int x6), (7, .int x7)] → W p l e rM_cut s m args below meth c H locs 0 0 (MQ below (va_Qv Post (xB D cy (MW q cy) A) A) args s 0 0 A) (F0 m 146 ls []) := by
  have hx := E.1
  have hb := E.2.1
  intro n
  induction n with
  | zero => intro σ x1 x3 x4 x6 x7 H locs ls h hw hl; exact False.elim hw
  | succ n ih =>
    intro σ x1 x3 x4 x6 x7 H locs ls h hw hl
    refine lv_iload hx hb dX11_cut_146 (lv_at hl 5 rfl) ?_
    refine lv_bipush (v := 20) hx hb dX11_cut_148 (by decide) ?_
    refine lv_icmp_ge (tgt := 179) hx hb dX11_cut_150 (by decide) (fun c1 => ?_) (fun c1 => ?_)
    · have hw := hw.1 c1
      exact wkM_cut_179 E hK7 _ _ _ _ _ _ _ _ h hw (lv_sub hl [0, 1, 2, 3, 4] rfl)
    · have hw := hw.2 c1
      refine lv_aload_n hx hb dX11_cut_153 rfl (lv_at hl 0 rfl) ?_
      refine gX11_34 E h dX11_cut_154 ?_
      refine lv_iload hx hb dX11_cut_157 (lv_at hl 5 rfl) ?_
      have h2 := hw.1
      have hw := hw.2
      refine aM_7 E h h2 dX11_cut_159 ?_
      refine lv_lload hx hb dX11_cut_160 (lv_at hl 3 rfl) ?_
      refine W.lcmp hx hb dX11_cut_162 ?_
      refine lv_if_ne (tgt := 173) hx hb dX11_cut_163 (by decide) (fun c3 => ?_) (fun c3 => ?_)
      · have hw := hw.2 c3
        obtain ⟨y4, ey4⟩ : ∃ z : Int32, z = x7 + 1 := ⟨_, rfl⟩
        have hw := hw y4 ey4
        refine lv_iinc (v := y4) (lv' := [(7, .int y4), (0, .ref (q 0)), (1, .int x1), (3, .int x3), (4, .long x4), (6, .int x6)]) hx hb dX11_cut_173 hl (k := 5) rfl (by rw [ey4]; rfl) (by decide) rfl (fun ls hl => ?_)
        refine lv_goto (tgt := 146) hx hb dX11_cut_176 (by decide) ?_
        exact ih _ _ _ _ _ _ _ _ _ h hw (lv_sub hl [1, 2, 3, 4, 5, 0] rfl)
      · have hw := hw.1 c3
        refine lv_bipush (v := 20) hx hb dX11_cut_166 (by decide) ?_
        refine lv_iload hx hb dX11_cut_168 (lv_at hl 5 rfl) ?_
        refine lv_iadd hx hb dX11_cut_170 ?_
        refine lv_topi (fun y5 ey5 => ?_)
        have hw := hw y5 ey5
        refine lv_istore (lv' := [(6, .int y5), (0, .ref (q 0)), (1, .int x1), (3, .int x3), (4, .long x4), (7, .int x7)]) hx hb dX11_cut_171 hl (by decide) rfl (fun ls hl => ?_)
        obtain ⟨y6, ey6⟩ : ∃ z : Int32, z = x7 + 1 := ⟨_, rfl⟩
        have hw := hw y6 ey6
        refine lv_iinc (v := y6) (lv' := [(7, .int y6), (6, .int y5), (0, .ref (q 0)), (1, .int x1), (3, .int x3), (4, .long x4)]) hx hb dX11_cut_173 hl (k := 5) rfl (by rw [ey6]; rfl) (by decide) rfl (fun ls hl => ?_)
        refine lv_goto (tgt := 146) hx hb dX11_cut_176 (by decide) ?_
        exact ih _ _ _ _ _ _ _ _ _ h hw (lv_sub hl [2, 3, 4, 5, 1, 0] rfl)

def wpM_cut_135 (K7 : MS → Int32 → Prop) (Post : MS → Prop) (σ : MS) (x1 : Int32) (x3 : Int32) (x4 : Int64) (t0 : Int32) : Prop := (7 < x3 → wpM_cut_179 K7 Post σ x1 x3 x4 t0) ∧ (¬ 7 < x3 → ∃ g, wpM_cut_146 K7 Post g σ x1 x3 x4 t0 0)
set_option maxHeartbeats 1000000 in
set_option maxRecDepth 20000 in
theorem wkM_cut_135 {Post : MS → Prop} (E : xE cX11_cut RX11 8 none D cy p s m args meth c) {K7 : MS → Int32 → Prop} (hK7 : ∀ (σ : MS) (x1 : Int32) (H : Heap) (locs : List Loc) (ls : Array Slot), xH D A s (MW q cy σ) H locs → K7 σ x1 → lv_has ls 8 [(0, .ref (q 0)), (1, .int x1)] → W p l e rM_cut s m args below meth c H locs 0 0 (MQ below (va_Qv Post (xB D cy (MW q cy) A) A) args s 0 0 A) (F0 m 7 ls [])) : ∀ (σ : MS) (x1 : Int32) (x3 : Int32) (x4 : Int64) (t0 : Int32) (H : Heap) (locs : List Loc) (ls : Array Slot), xH D A s (MW q cy σ) H locs → wpM_cut_135 K7 Post σ x1 x3 x4 t0 → lv_has ls 8 [(0, .ref (q 0)), (1, .int x1), (3, .int x3), (4, .long x4)] → W p l e rM_cut s m args below meth c H locs 0 0 (MQ below (va_Qv Post (xB D cy (MW q cy) A) A) args s 0 0 A) (F0 m 135 ls [.int t0]) := by
  have hx := E.1
  have hb := E.2.1
  intro σ x1 x3 x4 t0 H locs ls h hw hl
  unfold wpM_cut_135 at hw
  refine lv_istore (lv' := [(6, .int t0), (0, .ref (q 0)), (1, .int x1), (3, .int x3), (4, .long x4)]) hx hb dX11_cut_135 hl (by decide) rfl (fun ls hl => ?_)
  refine lv_iload_n hx hb dX11_cut_137 rfl (lv_at hl 3 rfl) ?_
  refine lv_bipush (v := 7) hx hb dX11_cut_138 (by decide) ?_
  refine lv_icmp_gt (tgt := 179) hx hb dX11_cut_140 (by decide) (fun c1 => ?_) (fun c1 => ?_)
  · have hw := hw.1 c1
    exact wkM_cut_179 E hK7 _ _ _ _ _ _ _ _ h hw (lv_sub hl [1, 2, 3, 4, 0] rfl)
  · have hw := hw.2 c1
    refine lv_iconst (v := 0) hx hb dX11_cut_143 (by decide) ?_
    refine lv_istore (lv' := [(7, .int 0), (6, .int t0), (0, .ref (q 0)), (1, .int x1), (3, .int x3), (4, .long x4)]) hx hb dX11_cut_144 hl (by decide) rfl (fun ls hl => ?_)
    obtain ⟨g, hw⟩ := hw
    exact wkM_cut_146 E hK7 g _ _ _ _ _ _ _ _ _ h hw (lv_sub hl [2, 3, 4, 5, 1, 0] rfl)

def wpM_cut_85 (K7 : MS → Int32 → Prop) (Post : MS → Prop) : Nat → MS → Int32 → Int32 → Int64 → Prop
  | 0, _, _, _, _ => False
  | n + 1, σ, x1, x3, x4 => wpM_at σ (x1 + x3) (fun r1 σ2 => wpM_isLetter σ2 r1 (fun r3 σ4 => (r3 = 0 → (x3 ≤ 8 → wpM_cut_135 K7 Post σ4 x1 x3 x4 1) ∧ (¬ x3 ≤ 8 → wpM_cut_135 K7 Post σ4 x1 x3 x4 3)) ∧ (¬ r3 = 0 → (8 ≤ x3 → ∀ y8 : Int32, y8 = x3 + 1 → wpM_cut_85 K7 Post n σ4 x1 y8 x4) ∧ (¬ 8 ≤ x3 → wpM_at σ4 (x1 + x3) (fun r9 σ10 => wpM_more σ10 x4 r9 (fun r11 σ12 => ∀ y13 : Int32, y13 = x3 + 1 → wpM_cut_85 K7 Post n σ12 x1 y13 r11))))))
set_option maxHeartbeats 1000000 in
set_option maxRecDepth 20000 in
theorem wkM_cut_85 {Post : MS → Prop} (E : xE cX11_cut RX11 8 none D cy p s m args meth c) {K7 : MS → Int32 → Prop} (hK7 : ∀ (σ : MS) (x1 : Int32) (H : Heap) (locs : List Loc) (ls : Array Slot), xH D A s (MW q cy σ) H locs → K7 σ x1 → lv_has ls 8 [(0, .ref (q 0)), (1, .int x1)] → W p l e rM_cut s m args below meth c H locs 0 0 (MQ below (va_Qv Post (xB D cy (MW q cy) A) A) args s 0 0 A) (F0 m 7 ls [])) : ∀ n : Nat, ∀ (σ : MS) (x1 : Int32) (x3 : Int32) (x4 : Int64) (H : Heap) (locs : List Loc) (ls : Array Slot), xH D A s (MW q cy σ) H locs → wpM_cut_85 K7 Post n σ x1 x3 x4 → lv_has ls 8 [(0, .ref (q 0)), (1, .int x1), (3, .int x3), (4, .long x4)] → W p l e rM_cut s m args below meth c H locs 0 0 (MQ below (va_Qv Post (xB D cy (MW q cy) A) A) args s 0 0 A) (F0 m 85 ls []) := by
  have hx := E.1
  have hb := E.2.1
  intro n
  induction n with
  | zero => intro σ x1 x3 x4 H locs ls h hw hl; exact False.elim hw
  | succ n ih =>
    intro σ x1 x3 x4 H locs ls h hw hl
    refine lv_aload_n hx hb dX11_cut_85 rfl (lv_at hl 0 rfl) ?_
    refine lv_iload_n hx hb dX11_cut_86 rfl (lv_at hl 1 rfl) ?_
    refine lv_iload_n hx hb dX11_cut_87 rfl (lv_at hl 2 rfl) ?_
    refine lv_iadd hx hb dX11_cut_88 ?_
    refine x_calli h (x_runV (WW := MW q cy) (rest := []) E h (cM_at hw) yyX11_at lX11_217 0 rfl rfl ⟨Nat.le_of_ble_eq_true rfl, Nat.le_of_ble_eq_true rfl⟩ rfl rfl hl.1 rfl (Nat.le_of_ble_eq_true rfl) dX11_cut_89 ⟨Nat.le_refl 0, Nat.le_refl 0⟩) (fun r1 σ2 H locs hw h => ?_)
    refine x_calli h (x_runS (WW := MW q cy) (rest := []) E h (cM_isLetter hw) yyX11_isLetter lX11_224 ⟨Nat.le_of_ble_eq_true rfl, Nat.le_of_ble_eq_true rfl⟩ rfl rfl hl.1 rfl (Nat.le_of_ble_eq_true rfl) dX11_cut_92 ⟨Nat.le_refl 0, Nat.le_refl 0⟩) (fun r3 σ4 H locs hw h => ?_)
    refine lv_if_eq (tgt := 124) hx hb dX11_cut_95 (by decide) (fun c5 => ?_) (fun c5 => ?_)
    · have hw := hw.1 c5
      refine lv_iload_n hx hb dX11_cut_124 rfl (lv_at hl 2 rfl) ?_
      refine lv_bipush (v := 8) hx hb dX11_cut_125 (by decide) ?_
      refine lv_icmp_le (tgt := 134) hx hb dX11_cut_127 (by decide) (fun c6 => ?_) (fun c6 => ?_)
      · have hw := hw.1 c6
        refine lv_iconst (v := 1) hx hb dX11_cut_134 (by decide) ?_
        exact wkM_cut_135 E hK7 _ _ _ _ _ _ _ _ h hw (lv_sub hl [0, 1, 2, 3] rfl)
      · have hw := hw.2 c6
        refine lv_iconst (v := 3) hx hb dX11_cut_130 (by decide) ?_
        refine lv_goto (tgt := 135) hx hb dX11_cut_131 (by decide) ?_
        exact wkM_cut_135 E hK7 _ _ _ _ _ _ _ _ h hw (lv_sub hl [0, 1, 2, 3] rfl)
    · have hw := hw.2 c5
      refine lv_iload_n hx hb dX11_cut_98 rfl (lv_at hl 2 rfl) ?_
      refine lv_bipush (v := 8) hx hb dX11_cut_99 (by decide) ?_
      refine lv_icmp_ge (tgt := 118) hx hb dX11_cut_101 (by decide) (fun c7 => ?_) (fun c7 => ?_)
      · have hw := hw.1 c7
        obtain ⟨y8, ey8⟩ : ∃ z : Int32, z = x3 + 1 := ⟨_, rfl⟩
        have hw := hw y8 ey8
        refine lv_iinc (v := y8) (lv' := [(3, .int y8), (0, .ref (q 0)), (1, .int x1), (4, .long x4)]) hx hb dX11_cut_118 hl (k := 2) rfl (by rw [ey8]; rfl) (by decide) rfl (fun ls hl => ?_)
        refine lv_goto (tgt := 85) hx hb dX11_cut_121 (by decide) ?_
        exact ih _ _ _ _ _ _ _ h hw (lv_sub hl [1, 2, 0, 3] rfl)
      · have hw := hw.2 c7
        refine lv_lload hx hb dX11_cut_104 (lv_at hl 3 rfl) ?_
        refine lv_aload_n hx hb dX11_cut_106 rfl (lv_at hl 0 rfl) ?_
        refine lv_iload_n hx hb dX11_cut_107 rfl (lv_at hl 1 rfl) ?_
        refine lv_iload_n hx hb dX11_cut_108 rfl (lv_at hl 2 rfl) ?_
        refine lv_iadd hx hb dX11_cut_109 ?_
        refine x_calli h (x_runV (WW := MW q cy) (rest := [.long x4]) E h (cM_at hw) yyX11_at lX11_217 0 rfl rfl ⟨Nat.le_of_ble_eq_true rfl, Nat.le_of_ble_eq_true rfl⟩ rfl rfl hl.1 rfl (Nat.le_of_ble_eq_true rfl) dX11_cut_110 ⟨Nat.le_refl 0, Nat.le_refl 0⟩) (fun r9 σ10 H locs hw h => ?_)
        refine x_calll h (x_runS (WW := MW q cy) (rest := []) E h (cM_more hw) yyX11_more lX11_210 ⟨Nat.le_of_ble_eq_true rfl, Nat.le_of_ble_eq_true rfl⟩ rfl rfl hl.1 rfl (Nat.le_of_ble_eq_true rfl) dX11_cut_113 ⟨Nat.le_refl 0, Nat.le_refl 0⟩) (fun r11 σ12 H locs hw h => ?_)
        refine lv_lstore (lv' := [(4, .long r11), (0, .ref (q 0)), (1, .int x1), (3, .int x3)]) hx hb dX11_cut_116 hl (by decide) rfl (fun ls hl => ?_)
        obtain ⟨y13, ey13⟩ : ∃ z : Int32, z = x3 + 1 := ⟨_, rfl⟩
        have hw := hw y13 ey13
        refine lv_iinc (v := y13) (lv' := [(3, .int y13), (4, .long r11), (0, .ref (q 0)), (1, .int x1)]) hx hb dX11_cut_118 hl (k := 3) rfl (by rw [ey13]; rfl) (by decide) rfl (fun ls hl => ?_)
        refine lv_goto (tgt := 85) hx hb dX11_cut_121 (by decide) ?_
        exact ih _ _ _ _ _ _ _ h hw (lv_sub hl [2, 3, 0, 1] rfl)

def wpM_cut_261 (K7 : MS → Int32 → Prop) (Post : MS → Prop) (σ : MS) (x1 : Int32) (x3 : Int32) (x4 : Int32) (t1 : Int32) : Prop := wpM_token σ t1 x1 x4 0 (fun σ1 => ∀ y2 : Int32, y2 = x1 + x3 → K7 σ1 y2)
set_option maxHeartbeats 1000000 in
set_option maxRecDepth 20000 in
theorem wkM_cut_261 {Post : MS → Prop} (E : xE cX11_cut RX11 8 none D cy p s m args meth c) {K7 : MS → Int32 → Prop} (hK7 : ∀ (σ : MS) (x1 : Int32) (H : Heap) (locs : List Loc) (ls : Array Slot), xH D A s (MW q cy σ) H locs → K7 σ x1 → lv_has ls 8 [(0, .ref (q 0)), (1, .int x1)] → W p l e rM_cut s m args below meth c H locs 0 0 (MQ below (va_Qv Post (xB D cy (MW q cy) A) A) args s 0 0 A) (F0 m 7 ls [])) : ∀ (σ : MS) (x1 : Int32) (x3 : Int32) (x4 : Int32) (t1 : Int32) (H : Heap) (locs : List Loc) (ls : Array Slot), xH D A s (MW q cy σ) H locs → wpM_cut_261 K7 Post σ x1 x3 x4 t1 → lv_has ls 8 [(0, .ref (q 0)), (1, .int x1), (3, .int x3), (4, .int x4)] → W p l e rM_cut s m args below meth c H locs 0 0 (MQ below (va_Qv Post (xB D cy (MW q cy) A) A) args s 0 0 A) (F0 m 261 ls [.int t1, .ref (q 0)]) := by
  have hx := E.1
  have hb := E.2.1
  intro σ x1 x3 x4 t1 H locs ls h hw hl
  unfold wpM_cut_261 at hw
  refine lv_iload_n hx hb dX11_cut_261 rfl (lv_at hl 1 rfl) ?_
  refine lv_iload hx hb dX11_cut_262 (lv_at hl 3 rfl) ?_
  refine lv_lconst (v := 0) hx hb dX11_cut_264 (by decide) ?_
  refine x_callv h (x_runV (WW := MW q cy) (rest := []) E h (cM_token hw) yyX11_token lX11_220 0 rfl rfl ⟨Nat.le_of_ble_eq_true rfl, Nat.le_of_ble_eq_true rfl⟩ rfl rfl hl.1 rfl (Nat.le_of_ble_eq_true rfl) dX11_cut_265 ⟨Nat.le_refl 0, Nat.le_refl 0⟩) (fun σ1 H locs hw h => ?_)
  refine lv_iload_n hx hb dX11_cut_268 rfl (lv_at hl 1 rfl) ?_
  refine lv_iload_n hx hb dX11_cut_269 rfl (lv_at hl 2 rfl) ?_
  refine lv_iadd hx hb dX11_cut_270 ?_
  refine lv_topi (fun y2 ey2 => ?_)
  have hw := hw y2 ey2
  refine lv_istore_n (lv' := [(1, .int y2), (0, .ref (q 0)), (3, .int x3), (4, .int x4)]) hx hb dX11_cut_271 rfl hl (by decide) rfl (fun ls hl => ?_)
  refine lv_goto (tgt := 291) hx hb dX11_cut_272 (by decide) ?_
  refine lv_goto (tgt := 7) hx hb dX11_cut_291 (by decide) ?_
  exact hK7 _ _ _ _ _ h hw (lv_sub hl [1, 0] rfl)

def wpM_cut_208 (K7 : MS → Int32 → Prop) (Post : MS → Prop) : Nat → MS → Int32 → Int32 → Int32 → Prop
  | 0, _, _, _, _ => False
  | n + 1, σ, x1, x3, x4 => wpM_at σ (x1 + x3) (fun r1 σ2 => wpM_isDigit σ2 r1 (fun r3 σ4 => (r3 = 0 → (x3 ≤ 4 → wpM_cut_261 K7 Post σ4 x1 x3 x4 2) ∧ (¬ x3 ≤ 4 → wpM_cut_261 K7 Post σ4 x1 x3 x4 3)) ∧ (¬ r3 = 0 → (4 ≤ x3 → ∀ y8 : Int32, y8 = x3 + 1 → wpM_cut_208 K7 Post n σ4 x1 y8 x4) ∧ (¬ 4 ≤ x3 → wpM_at σ4 (x1 + x3) (fun r9 σ10 => ∀ y11 : Int32, y11 = ((10 * x4) + r9) - 48 → ∀ y12 : Int32, y12 = x3 + 1 → wpM_cut_208 K7 Post n σ10 x1 y12 y11)))))
set_option maxHeartbeats 1000000 in
set_option maxRecDepth 20000 in
theorem wkM_cut_208 {Post : MS → Prop} (E : xE cX11_cut RX11 8 none D cy p s m args meth c) {K7 : MS → Int32 → Prop} (hK7 : ∀ (σ : MS) (x1 : Int32) (H : Heap) (locs : List Loc) (ls : Array Slot), xH D A s (MW q cy σ) H locs → K7 σ x1 → lv_has ls 8 [(0, .ref (q 0)), (1, .int x1)] → W p l e rM_cut s m args below meth c H locs 0 0 (MQ below (va_Qv Post (xB D cy (MW q cy) A) A) args s 0 0 A) (F0 m 7 ls [])) : ∀ n : Nat, ∀ (σ : MS) (x1 : Int32) (x3 : Int32) (x4 : Int32) (H : Heap) (locs : List Loc) (ls : Array Slot), xH D A s (MW q cy σ) H locs → wpM_cut_208 K7 Post n σ x1 x3 x4 → lv_has ls 8 [(0, .ref (q 0)), (1, .int x1), (3, .int x3), (4, .int x4)] → W p l e rM_cut s m args below meth c H locs 0 0 (MQ below (va_Qv Post (xB D cy (MW q cy) A) A) args s 0 0 A) (F0 m 208 ls []) := by
  have hx := E.1
  have hb := E.2.1
  intro n
  induction n with
  | zero => intro σ x1 x3 x4 H locs ls h hw hl; exact False.elim hw
  | succ n ih =>
    intro σ x1 x3 x4 H locs ls h hw hl
    refine lv_aload_n hx hb dX11_cut_208 rfl (lv_at hl 0 rfl) ?_
    refine lv_iload_n hx hb dX11_cut_209 rfl (lv_at hl 1 rfl) ?_
    refine lv_iload_n hx hb dX11_cut_210 rfl (lv_at hl 2 rfl) ?_
    refine lv_iadd hx hb dX11_cut_211 ?_
    refine x_calli h (x_runV (WW := MW q cy) (rest := []) E h (cM_at hw) yyX11_at lX11_217 0 rfl rfl ⟨Nat.le_of_ble_eq_true rfl, Nat.le_of_ble_eq_true rfl⟩ rfl rfl hl.1 rfl (Nat.le_of_ble_eq_true rfl) dX11_cut_212 ⟨Nat.le_refl 0, Nat.le_refl 0⟩) (fun r1 σ2 H locs hw h => ?_)
    refine x_calli h (x_runS (WW := MW q cy) (rest := []) E h (cM_isDigit hw) yyX11_isDigit lX11_228 ⟨Nat.le_of_ble_eq_true rfl, Nat.le_of_ble_eq_true rfl⟩ rfl rfl hl.1 rfl (Nat.le_of_ble_eq_true rfl) dX11_cut_215 ⟨Nat.le_refl 0, Nat.le_refl 0⟩) (fun r3 σ4 H locs hw h => ?_)
    refine lv_if_eq (tgt := 250) hx hb dX11_cut_218 (by decide) (fun c5 => ?_) (fun c5 => ?_)
    · have hw := hw.1 c5
      refine lv_aload_n hx hb dX11_cut_250 rfl (lv_at hl 0 rfl) ?_
      refine lv_iload_n hx hb dX11_cut_251 rfl (lv_at hl 2 rfl) ?_
      refine lv_iconst (v := 4) hx hb dX11_cut_252 (by decide) ?_
      refine lv_icmp_le (tgt := 260) hx hb dX11_cut_253 (by decide) (fun c6 => ?_) (fun c6 => ?_)
      · have hw := hw.1 c6
        refine lv_iconst (v := 2) hx hb dX11_cut_260 (by decide) ?_
        exact wkM_cut_261 E hK7 _ _ _ _ _ _ _ _ h hw (lv_sub hl [0, 1, 2, 3] rfl)
      · have hw := hw.2 c6
        refine lv_iconst (v := 3) hx hb dX11_cut_256 (by decide) ?_
        refine lv_goto (tgt := 261) hx hb dX11_cut_257 (by decide) ?_
        exact wkM_cut_261 E hK7 _ _ _ _ _ _ _ _ h hw (lv_sub hl [0, 1, 2, 3] rfl)
    · have hw := hw.2 c5
      refine lv_iload_n hx hb dX11_cut_221 rfl (lv_at hl 2 rfl) ?_
      refine lv_iconst (v := 4) hx hb dX11_cut_222 (by decide) ?_
      refine lv_icmp_ge (tgt := 244) hx hb dX11_cut_223 (by decide) (fun c7 => ?_) (fun c7 => ?_)
      · have hw := hw.1 c7
        obtain ⟨y8, ey8⟩ : ∃ z : Int32, z = x3 + 1 := ⟨_, rfl⟩
        have hw := hw y8 ey8
        refine lv_iinc (v := y8) (lv' := [(3, .int y8), (0, .ref (q 0)), (1, .int x1), (4, .int x4)]) hx hb dX11_cut_244 hl (k := 2) rfl (by rw [ey8]; rfl) (by decide) rfl (fun ls hl => ?_)
        refine lv_goto (tgt := 208) hx hb dX11_cut_247 (by decide) ?_
        exact ih _ _ _ _ _ _ _ h hw (lv_sub hl [1, 2, 0, 3] rfl)
      · have hw := hw.2 c7
        refine lv_bipush (v := 10) hx hb dX11_cut_226 (by decide) ?_
        refine lv_iload hx hb dX11_cut_228 (lv_at hl 3 rfl) ?_
        refine lv_imul hx hb dX11_cut_230 ?_
        refine lv_aload_n hx hb dX11_cut_231 rfl (lv_at hl 0 rfl) ?_
        refine lv_iload_n hx hb dX11_cut_232 rfl (lv_at hl 1 rfl) ?_
        refine lv_iload_n hx hb dX11_cut_233 rfl (lv_at hl 2 rfl) ?_
        refine lv_iadd hx hb dX11_cut_234 ?_
        refine x_calli h (x_runV (WW := MW q cy) (rest := [.int (10 * x4)]) E h (cM_at hw) yyX11_at lX11_217 0 rfl rfl ⟨Nat.le_of_ble_eq_true rfl, Nat.le_of_ble_eq_true rfl⟩ rfl rfl hl.1 rfl (Nat.le_of_ble_eq_true rfl) dX11_cut_235 ⟨Nat.le_refl 0, Nat.le_refl 0⟩) (fun r9 σ10 H locs hw h => ?_)
        refine lv_iadd hx hb dX11_cut_238 ?_
        refine lv_bipush (v := 48) hx hb dX11_cut_239 (by decide) ?_
        refine lv_isub hx hb dX11_cut_241 ?_
        refine lv_topi (fun y11 ey11 => ?_)
        have hw := hw y11 ey11
        refine lv_istore (lv' := [(4, .int y11), (0, .ref (q 0)), (1, .int x1), (3, .int x3)]) hx hb dX11_cut_242 hl (by decide) rfl (fun ls hl => ?_)
        obtain ⟨y12, ey12⟩ : ∃ z : Int32, z = x3 + 1 := ⟨_, rfl⟩
        have hw := hw y12 ey12
        refine lv_iinc (v := y12) (lv' := [(3, .int y12), (4, .int y11), (0, .ref (q 0)), (1, .int x1)]) hx hb dX11_cut_244 hl (k := 3) rfl (by rw [ey12]; rfl) (by decide) rfl (fun ls hl => ?_)
        refine lv_goto (tgt := 208) hx hb dX11_cut_247 (by decide) ?_
        exact ih _ _ _ _ _ _ _ h hw (lv_sub hl [2, 3, 0, 1] rfl)

def wpM_cut_7 (Post : MS → Prop) : Nat → MS → Int32 → Prop
  | 0, _, _ => False
  | n + 1, σ, x1 => (400 < (σ.1 10) → Post σ) ∧ (¬ 400 < (σ.1 10) → wpM_at σ x1 (fun r2 σ3 => (x1 < (σ3.1 4) → (r2 = 9 → ∀ y6 : Int32, y6 = x1 + 1 → wpM_cut_7 Post n σ3 y6) ∧ (¬ r2 = 9 → (r2 = 10 → ∀ y8 : Int32, y8 = x1 + 1 → wpM_cut_7 Post n σ3 y8) ∧ (¬ r2 = 10 → (r2 = 13 → ∀ y10 : Int32, y10 = x1 + 1 → wpM_cut_7 Post n σ3 y10) ∧ (¬ r2 = 13 → (r2 = 32 → ∀ y23 : Int32, y23 = x1 + 1 → wpM_cut_7 Post n σ3 y23) ∧ (¬ r2 = 32 → wpM_isLetter σ3 r2 (fun r12 σ13 => (r12 = 0 → wpM_isDigit σ13 r2 (fun r15 σ16 => (r15 = 0 → wpM_at σ16 (x1 + 1) (fun r18 σ19 => wpM_sign σ19 x1 r2 r18 (fun r20 σ21 => ∀ y22 : Int32, y22 = x1 + r20 → wpM_cut_7 Post n σ21 y22))) ∧ (¬ r15 = 0 → ∃ g, wpM_cut_208 (fun a0 a1 => wpM_cut_7 Post n a0 a1) Post g σ16 x1 0 0))) ∧ (¬ r12 = 0 → ∃ g, wpM_cut_85 (fun a0 a1 => wpM_cut_7 Post n a0 a1) Post g σ13 x1 0 0))))))) ∧ (¬ x1 < (σ3.1 4) → wpM_token σ3 0 (σ3.1 4) 0 0 (fun σ24 => Post σ24))))
set_option maxHeartbeats 1000000 in
set_option maxRecDepth 20000 in
theorem wkM_cut_7 {Post : MS → Prop} (E : xE cX11_cut RX11 8 none D cy p s m args meth c) : ∀ n : Nat, ∀ (σ : MS) (x1 : Int32) (H : Heap) (locs : List Loc) (ls : Array Slot), xH D A s (MW q cy σ) H locs → wpM_cut_7 Post n σ x1 → lv_has ls 8 [(0, .ref (q 0)), (1, .int x1)] → W p l e rM_cut s m args below meth c H locs 0 0 (MQ below (va_Qv Post (xB D cy (MW q cy) A) A) args s 0 0 A) (F0 m 7 ls []) := by
  have hx := E.1
  have hb := E.2.1
  intro n
  induction n with
  | zero => intro σ x1 H locs ls h hw hl; exact False.elim hw
  | succ n ih =>
    intro σ x1 H locs ls h hw hl
    refine lv_aload_n hx hb dX11_cut_7 rfl (lv_at hl 0 rfl) ?_
    refine gX11_214 E h dX11_cut_8 ?_
    refine lv_sipush (v := 400) hx hb dX11_cut_11 (by decide) ?_
    refine lv_icmp_gt (tgt := 294) hx hb dX11_cut_14 (by decide) (fun c1 => ?_) (fun c1 => ?_)
    · have hw := hw.1 c1
      exact x_vret E h hw dX11_cut_294
    · have hw := hw.2 c1
      refine lv_aload_n hx hb dX11_cut_17 rfl (lv_at hl 0 rfl) ?_
      refine lv_iload_n hx hb dX11_cut_18 rfl (lv_at hl 1 rfl) ?_
      refine x_calli h (x_runV (WW := MW q cy) (rest := []) E h (cM_at hw) yyX11_at lX11_217 0 rfl rfl ⟨Nat.le_of_ble_eq_true rfl, Nat.le_of_ble_eq_true rfl⟩ rfl rfl hl.1 rfl (Nat.le_of_ble_eq_true rfl) dX11_cut_19 ⟨Nat.le_refl 0, Nat.le_refl 0⟩) (fun r2 σ3 H locs hw h => ?_)
      refine lv_istore_n (lv' := [(2, .int r2), (0, .ref (q 0)), (1, .int x1)]) hx hb dX11_cut_22 rfl hl (by decide) rfl (fun ls hl => ?_)
      refine lv_iload_n hx hb dX11_cut_23 rfl (lv_at hl 2 rfl) ?_
      refine lv_aload_n hx hb dX11_cut_24 rfl (lv_at hl 1 rfl) ?_
      refine gX11_205 E h dX11_cut_25 ?_
      refine lv_icmp_lt (tgt := 43) hx hb dX11_cut_28 (by decide) (fun c4 => ?_) (fun c4 => ?_)
      · have hw := hw.1 c4
        refine lv_iload_n hx hb dX11_cut_43 rfl (lv_at hl 0 rfl) ?_
        refine lv_bipush (v := 9) hx hb dX11_cut_44 (by decide) ?_
        refine lv_icmp_eq (tgt := 67) hx hb dX11_cut_46 (by decide) (fun c5 => ?_) (fun c5 => ?_)
        · have hw := hw.1 c5
          obtain ⟨y6, ey6⟩ : ∃ z : Int32, z = x1 + 1 := ⟨_, rfl⟩
          have hw := hw y6 ey6
          refine lv_iinc (v := y6) (lv' := [(1, .int y6), (2, .int r2), (0, .ref (q 0))]) hx hb dX11_cut_67 hl (k := 2) rfl (by rw [ey6]; rfl) (by decide) rfl (fun ls hl => ?_)
          refine lv_goto (tgt := 291) hx hb dX11_cut_70 (by decide) ?_
          refine lv_goto (tgt := 7) hx hb dX11_cut_291 (by decide) ?_
          exact ih _ _ _ _ _ h hw (lv_sub hl [2, 0] rfl)
        · have hw := hw.2 c5
          refine lv_iload_n hx hb dX11_cut_49 rfl (lv_at hl 0 rfl) ?_
          refine lv_bipush (v := 10) hx hb dX11_cut_50 (by decide) ?_
          refine lv_icmp_eq (tgt := 67) hx hb dX11_cut_52 (by decide) (fun c7 => ?_) (fun c7 => ?_)
          · have hw := hw.1 c7
            obtain ⟨y8, ey8⟩ : ∃ z : Int32, z = x1 + 1 := ⟨_, rfl⟩
            have hw := hw y8 ey8
            refine lv_iinc (v := y8) (lv' := [(1, .int y8), (2, .int r2), (0, .ref (q 0))]) hx hb dX11_cut_67 hl (k := 2) rfl (by rw [ey8]; rfl) (by decide) rfl (fun ls hl => ?_)
            refine lv_goto (tgt := 291) hx hb dX11_cut_70 (by decide) ?_
            refine lv_goto (tgt := 7) hx hb dX11_cut_291 (by decide) ?_
            exact ih _ _ _ _ _ h hw (lv_sub hl [2, 0] rfl)
          · have hw := hw.2 c7
            refine lv_iload_n hx hb dX11_cut_55 rfl (lv_at hl 0 rfl) ?_
            refine lv_bipush (v := 13) hx hb dX11_cut_56 (by decide) ?_
            refine lv_icmp_eq (tgt := 67) hx hb dX11_cut_58 (by decide) (fun c9 => ?_) (fun c9 => ?_)
            · have hw := hw.1 c9
              obtain ⟨y10, ey10⟩ : ∃ z : Int32, z = x1 + 1 := ⟨_, rfl⟩
              have hw := hw y10 ey10
              refine lv_iinc (v := y10) (lv' := [(1, .int y10), (2, .int r2), (0, .ref (q 0))]) hx hb dX11_cut_67 hl (k := 2) rfl (by rw [ey10]; rfl) (by decide) rfl (fun ls hl => ?_)
              refine lv_goto (tgt := 291) hx hb dX11_cut_70 (by decide) ?_
              refine lv_goto (tgt := 7) hx hb dX11_cut_291 (by decide) ?_
              exact ih _ _ _ _ _ h hw (lv_sub hl [2, 0] rfl)
            · have hw := hw.2 c9
              refine lv_iload_n hx hb dX11_cut_61 rfl (lv_at hl 0 rfl) ?_
              refine lv_bipush (v := 32) hx hb dX11_cut_62 (by decide) ?_
              refine lv_icmp_ne (tgt := 73) hx hb dX11_cut_64 (by decide) (fun c11 => ?_) (fun c11 => ?_)
              · have hw := hw.2 c11
                refine lv_iload_n hx hb dX11_cut_73 rfl (lv_at hl 0 rfl) ?_
                refine x_calli h (x_runS (WW := MW q cy) (rest := []) E h (cM_isLetter hw) yyX11_isLetter lX11_224 ⟨Nat.le_of_ble_eq_true rfl, Nat.le_of_ble_eq_true rfl⟩ rfl rfl hl.1 rfl (Nat.le_of_ble_eq_true rfl) dX11_cut_74 ⟨Nat.le_refl 0, Nat.le_refl 0⟩) (fun r12 σ13 H locs hw h => ?_)
                refine lv_if_eq (tgt := 196) hx hb dX11_cut_77 (by decide) (fun c14 => ?_) (fun c14 => ?_)
                · have hw := hw.1 c14
                  refine lv_iload_n hx hb dX11_cut_196 rfl (lv_at hl 0 rfl) ?_
                  refine x_calli h (x_runS (WW := MW q cy) (rest := []) E h (cM_isDigit hw) yyX11_isDigit lX11_228 ⟨Nat.le_of_ble_eq_true rfl, Nat.le_of_ble_eq_true rfl⟩ rfl rfl hl.1 rfl (Nat.le_of_ble_eq_true rfl) dX11_cut_197 ⟨Nat.le_refl 0, Nat.le_refl 0⟩) (fun r15 σ16 H locs hw h => ?_)
                  refine lv_if_eq (tgt := 275) hx hb dX11_cut_200 (by decide) (fun c17 => ?_) (fun c17 => ?_)
                  · have hw := hw.1 c17
                    refine lv_iload_n hx hb dX11_cut_275 rfl (lv_at hl 2 rfl) ?_
                    refine lv_aload_n hx hb dX11_cut_276 rfl (lv_at hl 1 rfl) ?_
                    refine lv_iload_n hx hb dX11_cut_277 rfl (lv_at hl 2 rfl) ?_
                    refine lv_iload_n hx hb dX11_cut_278 rfl (lv_at hl 0 rfl) ?_
                    refine lv_aload_n hx hb dX11_cut_279 rfl (lv_at hl 1 rfl) ?_
                    refine lv_iload_n hx hb dX11_cut_280 rfl (lv_at hl 2 rfl) ?_
                    refine lv_iconst (v := 1) hx hb dX11_cut_281 (by decide) ?_
                    refine lv_iadd hx hb dX11_cut_282 ?_
                    refine x_calli h (x_runV (WW := MW q cy) (rest := [.int r2, .int x1, .ref (q 0), .int x1]) E h (cM_at hw) yyX11_at lX11_217 0 rfl rfl ⟨Nat.le_of_ble_eq_true rfl, Nat.le_of_ble_eq_true rfl⟩ rfl rfl hl.1 rfl (Nat.le_of_ble_eq_true rfl) dX11_cut_283 ⟨Nat.le_refl 0, Nat.le_refl 0⟩) (fun r18 σ19 H locs hw h => ?_)
                    refine x_calli h (x_runV (WW := MW q cy) (rest := [.int x1]) E h (cM_sign hw) yyX11_sign lX11_231 0 rfl rfl ⟨Nat.le_of_ble_eq_true rfl, Nat.le_of_ble_eq_true rfl⟩ rfl rfl hl.1 rfl (Nat.le_of_ble_eq_true rfl) dX11_cut_286 ⟨Nat.le_refl 0, Nat.le_refl 0⟩) (fun r20 σ21 H locs hw h => ?_)
                    refine lv_iadd hx hb dX11_cut_289 ?_
                    refine lv_topi (fun y22 ey22 => ?_)
                    have hw := hw y22 ey22
                    refine lv_istore_n (lv' := [(1, .int y22), (2, .int r2), (0, .ref (q 0))]) hx hb dX11_cut_290 rfl hl (by decide) rfl (fun ls hl => ?_)
                    refine lv_goto (tgt := 7) hx hb dX11_cut_291 (by decide) ?_
                    exact ih _ _ _ _ _ h hw (lv_sub hl [2, 0] rfl)
                  · have hw := hw.2 c17
                    refine lv_iconst (v := 0) hx hb dX11_cut_203 (by decide) ?_
                    refine lv_istore_n (lv' := [(3, .int 0), (2, .int r2), (0, .ref (q 0)), (1, .int x1)]) hx hb dX11_cut_204 rfl hl (by decide) rfl (fun ls hl => ?_)
                    refine lv_iconst (v := 0) hx hb dX11_cut_205 (by decide) ?_
                    refine lv_istore (lv' := [(4, .int 0), (3, .int 0), (2, .int r2), (0, .ref (q 0)), (1, .int x1)]) hx hb dX11_cut_206 hl (by decide) rfl (fun ls hl => ?_)
                    obtain ⟨g, hw⟩ := hw
                    exact wkM_cut_208 E ih g _ _ _ _ _ _ _ h hw (lv_sub hl [3, 4, 1, 0] rfl)
                · have hw := hw.2 c14
                  refine lv_iconst (v := 0) hx hb dX11_cut_80 (by decide) ?_
                  refine lv_istore_n (lv' := [(3, .int 0), (2, .int r2), (0, .ref (q 0)), (1, .int x1)]) hx hb dX11_cut_81 rfl hl (by decide) rfl (fun ls hl => ?_)
                  refine lv_lconst (v := 0) hx hb dX11_cut_82 (by decide) ?_
                  refine lv_lstore (lv' := [(4, .long 0), (3, .int 0), (2, .int r2), (0, .ref (q 0)), (1, .int x1)]) hx hb dX11_cut_83 hl (by decide) rfl (fun ls hl => ?_)
                  obtain ⟨g, hw⟩ := hw
                  exact wkM_cut_85 E ih g _ _ _ _ _ _ _ h hw (lv_sub hl [3, 4, 1, 0] rfl)
              · have hw := hw.1 c11
                obtain ⟨y23, ey23⟩ : ∃ z : Int32, z = x1 + 1 := ⟨_, rfl⟩
                have hw := hw y23 ey23
                refine lv_iinc (v := y23) (lv' := [(1, .int y23), (2, .int r2), (0, .ref (q 0))]) hx hb dX11_cut_67 hl (k := 2) rfl (by rw [ey23]; rfl) (by decide) rfl (fun ls hl => ?_)
                refine lv_goto (tgt := 291) hx hb dX11_cut_70 (by decide) ?_
                refine lv_goto (tgt := 7) hx hb dX11_cut_291 (by decide) ?_
                exact ih _ _ _ _ _ h hw (lv_sub hl [2, 0] rfl)
      · have hw := hw.2 c4
        refine lv_aload_n hx hb dX11_cut_31 rfl (lv_at hl 1 rfl) ?_
        refine lv_iconst (v := 0) hx hb dX11_cut_32 (by decide) ?_
        refine lv_aload_n hx hb dX11_cut_33 rfl (lv_at hl 1 rfl) ?_
        refine gX11_205 E h dX11_cut_34 ?_
        refine lv_iconst (v := 0) hx hb dX11_cut_37 (by decide) ?_
        refine lv_lconst (v := 0) hx hb dX11_cut_38 (by decide) ?_
        refine x_callv h (x_runV (WW := MW q cy) (rest := []) E h (cM_token hw) yyX11_token lX11_220 0 rfl rfl ⟨Nat.le_of_ble_eq_true rfl, Nat.le_of_ble_eq_true rfl⟩ rfl rfl hl.1 rfl (Nat.le_of_ble_eq_true rfl) dX11_cut_39 ⟨Nat.le_refl 0, Nat.le_refl 0⟩) (fun σ24 H locs hw h => ?_)
        exact x_vret E h hw dX11_cut_42

def wpM_cut (σ : MS) (Post : MS → Prop) : Prop := ∀ σ1 : MS, σ1 = mF σ 10 0 → ∃ g, wpM_cut_7 Post g σ1 0
set_option maxHeartbeats 1000000 in
set_option maxRecDepth 20000 in
theorem cM_cut {l : Launch} {D : va_G} {cy : Nat → ClassId} {q : Nat → Nat} {σ : MS} {sz : Nat} {Post : MS → Prop} (hw : wpM_cut σ Post) : Met l yX11_cut (Cond.code yX11_cut cX11_cut 8 none :: wsA) rM_cut (xPc D cy (MW q cy σ) sz [.ref (q 0)]) (va_Qv Post (xB D cy (MW q cy) (va_A (MW q cy σ) sz)) (va_A (MW q cy σ) sz)) 0 0 (va_A (MW q cy σ) sz) := by
  refine x_enter (own := RX11) (WW := MW q cy) (by decide) rfl (Nat.le_of_ble_eq_true rfl) ?_
  intro p e s m below meth c ls E h hl
  have hx := E.1
  have hb := E.2.1
  have hl : lv_has ls 8 [(0, .ref (q 0))] := hl
  unfold wpM_cut at hw
  refine lv_aload_n hx hb dX11_cut_0 rfl (lv_at hl 0 rfl) ?_
  refine lv_iconst (v := 0) hx hb dX11_cut_1 (by decide) ?_
  refine pX11_214 E h dX11_cut_2 (fun σ1 H locs eσ1 h => ?_)
  have hw := hw σ1 eσ1
  refine lv_iconst (v := 0) hx hb dX11_cut_5 (by decide) ?_
  refine lv_istore_n (lv' := [(1, .int 0), (0, .ref (q 0))]) hx hb dX11_cut_6 rfl hl (by decide) rfl (fun ls hl => ?_)
  obtain ⟨g, hw⟩ := hw
  exact wkM_cut_7 E g _ _ _ _ _ h hw (lv_sub hl [1, 0] rfl)

abbrev rM_is : Room := { frames := 0, cells := 0, slots := 0, locals := 0 }
def wpM_is (σ : MS) (x1 : Int32) (Post : Int32 → MS → Prop) : Prop := ((σ.1 13) = 0 → vp_in (σ.1 11) 403 ∧ ((σ.2.1 3 (σ.1 11).toNatClampNeg) = x1 → Post 1 σ) ∧ (¬ (σ.2.1 3 (σ.1 11).toNatClampNeg) = x1 → Post 0 σ)) ∧ (¬ (σ.1 13) = 0 → Post 0 σ)
set_option maxHeartbeats 1000000 in
set_option maxRecDepth 20000 in
theorem cM_is {l : Launch} {D : va_G} {cy : Nat → ClassId} {q : Nat → Nat} {σ : MS} {sz : Nat} {x1 : Int32} {Post : Int32 → MS → Prop} (hw : wpM_is σ x1 Post) : Met l yX11_is (Cond.code yX11_is cX11_is 2 (some .boolean) :: wsA) rM_is (xPc D cy (MW q cy σ) sz [.ref (q 0), .int x1]) (va_Qi Post (xB D cy (MW q cy) (va_A (MW q cy σ) sz)) (va_A (MW q cy σ) sz)) 0 0 (va_A (MW q cy σ) sz) := by
  refine x_enter (own := RX11) (WW := MW q cy) (by decide) rfl (Nat.le_of_ble_eq_true rfl) ?_
  intro p e s m below meth c ls E h hl
  have hx := E.1
  have hb := E.2.1
  have hl : lv_has ls 2 [(0, .ref (q 0)), (1, .int x1)] := hl
  unfold wpM_is at hw
  refine lv_aload_n hx hb dX11_is_0 rfl (lv_at hl 0 rfl) ?_
  refine gX11_235 E h dX11_is_1 ?_
  refine lv_if_ne (tgt := 24) hx hb dX11_is_4 (by decide) (fun c1 => ?_) (fun c1 => ?_)
  · have hw := hw.2 c1
    refine lv_iconst (v := 0) hx hb dX11_is_24 (by decide) ?_
    exact x_zret E h rfl hw dX11_is_25
  · have hw := hw.1 c1
    refine lv_aload_n hx hb dX11_is_7 rfl (lv_at hl 0 rfl) ?_
    refine gX11_20 E h dX11_is_8 ?_
    refine lv_aload_n hx hb dX11_is_11 rfl (lv_at hl 0 rfl) ?_
    refine gX11_238 E h dX11_is_12 ?_
    have h2 := hw.1
    have hw := hw.2
    refine aM_3 E h h2 dX11_is_15 ?_
    refine lv_iload_n hx hb dX11_is_16 rfl (lv_at hl 1 rfl) ?_
    refine lv_icmp_ne (tgt := 24) hx hb dX11_is_17 (by decide) (fun c3 => ?_) (fun c3 => ?_)
    · have hw := hw.2 c3
      refine lv_iconst (v := 0) hx hb dX11_is_24 (by decide) ?_
      exact x_zret E h rfl hw dX11_is_25
    · have hw := hw.1 c3
      refine lv_iconst (v := 1) hx hb dX11_is_20 (by decide) ?_
      refine lv_goto (tgt := 25) hx hb dX11_is_21 (by decide) ?_
      exact x_zret E h rfl hw dX11_is_25

abbrev rM_fail : Room := { frames := 0, cells := 0, slots := 0, locals := 0 }
def wpM_fail (σ : MS) (x1 : Int32) (Post : MS → Prop) : Prop := ((σ.1 13) ≤ 0 → ∀ σ2 : MS, σ2 = mF σ 13 x1 → vp_in (σ2.1 11) 403 ∧ ∀ σ4 : MS, σ4 = mF σ2 14 (σ2.2.1 4 (σ2.1 11).toNatClampNeg) → Post σ4) ∧ (¬ (σ.1 13) ≤ 0 → Post σ)
set_option maxHeartbeats 1000000 in
set_option maxRecDepth 20000 in
theorem cM_fail {l : Launch} {D : va_G} {cy : Nat → ClassId} {q : Nat → Nat} {σ : MS} {sz : Nat} {x1 : Int32} {Post : MS → Prop} (hw : wpM_fail σ x1 Post) : Met l yX11_fail (Cond.code yX11_fail cX11_fail 2 none :: wsA) rM_fail (xPc D cy (MW q cy σ) sz [.ref (q 0), .int x1]) (va_Qv Post (xB D cy (MW q cy) (va_A (MW q cy σ) sz)) (va_A (MW q cy σ) sz)) 0 0 (va_A (MW q cy σ) sz) := by
  refine x_enter (own := RX11) (WW := MW q cy) (by decide) rfl (Nat.le_of_ble_eq_true rfl) ?_
  intro p e s m below meth c ls E h hl
  have hx := E.1
  have hb := E.2.1
  have hl : lv_has ls 2 [(0, .ref (q 0)), (1, .int x1)] := hl
  unfold wpM_fail at hw
  refine lv_aload_n hx hb dX11_fail_0 rfl (lv_at hl 0 rfl) ?_
  refine gX11_235 E h dX11_fail_1 ?_
  refine lv_if_le (tgt := 8) hx hb dX11_fail_4 (by decide) (fun c1 => ?_) (fun c1 => ?_)
  · have hw := hw.1 c1
    refine lv_aload_n hx hb dX11_fail_8 rfl (lv_at hl 0 rfl) ?_
    refine lv_iload_n hx hb dX11_fail_9 rfl (lv_at hl 1 rfl) ?_
    refine pX11_235 E h dX11_fail_10 (fun σ2 H locs eσ2 h => ?_)
    have hw := hw σ2 eσ2
    refine lv_aload_n hx hb dX11_fail_13 rfl (lv_at hl 0 rfl) ?_
    refine lv_aload_n hx hb dX11_fail_14 rfl (lv_at hl 0 rfl) ?_
    refine gX11_24 E h dX11_fail_15 ?_
    refine lv_aload_n hx hb dX11_fail_18 rfl (lv_at hl 0 rfl) ?_
    refine gX11_238 E h dX11_fail_19 ?_
    have h3 := hw.1
    have hw := hw.2
    refine aM_4 E h h3 dX11_fail_22 ?_
    refine pX11_241 E h dX11_fail_23 (fun σ4 H locs eσ4 h => ?_)
    have hw := hw σ4 eσ4
    exact x_vret E h hw dX11_fail_26
  · have hw := hw.2 c1
    exact x_vret E h hw dX11_fail_7

abbrev rM_next : Room := { frames := 1, cells := 0, slots := 0, locals := 21 }
def wpM_next (σ : MS) (Post : MS → Prop) : Prop := ((σ.1 11) = 400 → wpM_fail σ 2 (fun σ3 => Post σ3)) ∧ (¬ (σ.1 11) = 400 → ∀ σ2 : MS, σ2 = mF σ 11 ((σ.1 11) + 1) → Post σ2)
set_option maxHeartbeats 1000000 in
set_option maxRecDepth 20000 in
theorem cM_next {l : Launch} {D : va_G} {cy : Nat → ClassId} {q : Nat → Nat} {σ : MS} {sz : Nat} {Post : MS → Prop} (hw : wpM_next σ Post) : Met l yX11_next (Cond.code yX11_next cX11_next 1 none :: wsA) rM_next (xPc D cy (MW q cy σ) sz [.ref (q 0)]) (va_Qv Post (xB D cy (MW q cy) (va_A (MW q cy σ) sz)) (va_A (MW q cy σ) sz)) 0 0 (va_A (MW q cy σ) sz) := by
  refine x_enter (own := RX11) (WW := MW q cy) (by decide) rfl (Nat.le_of_ble_eq_true rfl) ?_
  intro p e s m below meth c ls E h hl
  have hx := E.1
  have hb := E.2.1
  have hl : lv_has ls 1 [(0, .ref (q 0))] := hl
  unfold wpM_next at hw
  refine lv_aload_n hx hb dX11_next_0 rfl (lv_at hl 0 rfl) ?_
  refine gX11_238 E h dX11_next_1 ?_
  refine lv_sipush (v := 400) hx hb dX11_next_4 (by decide) ?_
  refine lv_icmp_ne (tgt := 18) hx hb dX11_next_7 (by decide) (fun c1 => ?_) (fun c1 => ?_)
  · have hw := hw.2 c1
    refine lv_aload_n hx hb dX11_next_18 rfl (lv_at hl 0 rfl) ?_
    refine lv_dup hx hb dX11_next_19 rfl ?_
    refine gX11_238 E h dX11_next_20 ?_
    refine lv_iconst (v := 1) hx hb dX11_next_23 (by decide) ?_
    refine lv_iadd hx hb dX11_next_24 ?_
    refine pX11_238 E h dX11_next_25 (fun σ2 H locs eσ2 h => ?_)
    have hw := hw σ2 eσ2
    exact x_vret E h hw dX11_next_28
  · have hw := hw.1 c1
    refine lv_aload_n hx hb dX11_next_10 rfl (lv_at hl 0 rfl) ?_
    refine lv_iconst (v := 2) hx hb dX11_next_11 (by decide) ?_
    refine x_callv h (x_runV (WW := MW q cy) (rest := []) E h (cM_fail hw) yyX11_fail lX11_250 0 rfl rfl ⟨Nat.le_of_ble_eq_true rfl, Nat.le_of_ble_eq_true rfl⟩ rfl rfl hl.1 rfl (Nat.le_of_ble_eq_true rfl) dX11_next_12 ⟨Nat.le_refl 0, Nat.le_refl 0⟩) (fun σ3 H locs hw h => ?_)
    refine lv_goto (tgt := 28) hx hb dX11_next_15 (by decide) ?_
    exact x_vret E h hw dX11_next_28

abbrev rM_must : Room := { frames := 2, cells := 0, slots := 0, locals := 41 }
def wpM_must (σ : MS) (x1 : Int32) (Post : MS → Prop) : Prop := wpM_is σ x1 (fun r1 σ2 => (r1 = 0 → wpM_fail σ2 1 (fun σ4 => Post σ4)) ∧ (¬ r1 = 0 → wpM_next σ2 (fun σ5 => Post σ5)))
set_option maxHeartbeats 1000000 in
set_option maxRecDepth 20000 in
theorem cM_must {l : Launch} {D : va_G} {cy : Nat → ClassId} {q : Nat → Nat} {σ : MS} {sz : Nat} {x1 : Int32} {Post : MS → Prop} (hw : wpM_must σ x1 Post) : Met l yX11_must (Cond.code yX11_must cX11_must 2 none :: wsA) rM_must (xPc D cy (MW q cy σ) sz [.ref (q 0), .int x1]) (va_Qv Post (xB D cy (MW q cy) (va_A (MW q cy σ) sz)) (va_A (MW q cy σ) sz)) 0 0 (va_A (MW q cy σ) sz) := by
  refine x_enter (own := RX11) (WW := MW q cy) (by decide) rfl (Nat.le_of_ble_eq_true rfl) ?_
  intro p e s m below meth c ls E h hl
  have hx := E.1
  have hb := E.2.1
  have hl : lv_has ls 2 [(0, .ref (q 0)), (1, .int x1)] := hl
  unfold wpM_must at hw
  refine lv_aload_n hx hb dX11_must_0 rfl (lv_at hl 0 rfl) ?_
  refine lv_iload_n hx hb dX11_must_1 rfl (lv_at hl 1 rfl) ?_
  refine x_calli h (x_runV (WW := MW q cy) (rest := []) E h (cM_is hw) yyX11_is lX11_253 0 rfl rfl ⟨Nat.le_of_ble_eq_true rfl, Nat.le_of_ble_eq_true rfl⟩ rfl rfl hl.1 rfl (Nat.le_of_ble_eq_true rfl) dX11_must_2 ⟨Nat.le_refl 0, Nat.le_refl 0⟩) (fun r1 σ2 H locs hw h => ?_)
  refine lv_if_eq (tgt := 15) hx hb dX11_must_5 (by decide) (fun c3 => ?_) (fun c3 => ?_)
  · have hw := hw.1 c3
    refine lv_aload_n hx hb dX11_must_15 rfl (lv_at hl 0 rfl) ?_
    refine lv_iconst (v := 1) hx hb dX11_must_16 (by decide) ?_
    refine x_callv h (x_runV (WW := MW q cy) (rest := []) E h (cM_fail hw) yyX11_fail lX11_250 0 rfl rfl ⟨Nat.le_of_ble_eq_true rfl, Nat.le_of_ble_eq_true rfl⟩ rfl rfl hl.1 rfl (Nat.le_of_ble_eq_true rfl) dX11_must_17 ⟨Nat.le_refl 0, Nat.le_refl 0⟩) (fun σ4 H locs hw h => ?_)
    exact x_vret E h hw dX11_must_20
  · have hw := hw.2 c3
    refine lv_aload_n hx hb dX11_must_8 rfl (lv_at hl 0 rfl) ?_
    refine x_callv h (x_runV (WW := MW q cy) (rest := []) E h (cM_next hw) yyX11_next lX11_256 0 rfl rfl ⟨Nat.le_of_ble_eq_true rfl, Nat.le_of_ble_eq_true rfl⟩ rfl rfl hl.1 rfl (Nat.le_of_ble_eq_true rfl) dX11_must_9 ⟨Nat.le_refl 0, Nat.le_refl 0⟩) (fun σ5 H locs hw h => ?_)
    refine lv_goto (tgt := 20) hx hb dX11_must_12 (by decide) ?_
    exact x_vret E h hw dX11_must_20

abbrev rM_isDay : Room := { frames := 0, cells := 0, slots := 0, locals := 0 }
def wpM_isDay (σ : MS) (x0 : Int32) (Post : Int32 → MS → Prop) : Prop := (x0 < 0 → Post 0 σ) ∧ (¬ x0 < 0 → (9999 < x0 → Post 0 σ) ∧ (¬ 9999 < x0 → Post 1 σ))
set_option maxHeartbeats 1000000 in
set_option maxRecDepth 20000 in
theorem cM_isDay {l : Launch} {D : va_G} {cy : Nat → ClassId} {q : Nat → Nat} {σ : MS} {sz : Nat} {x0 : Int32} {Post : Int32 → MS → Prop} (hw : wpM_isDay σ x0 Post) : Met l yX11_isDay (Cond.code yX11_isDay cX11_isDay 1 (some .boolean) :: wsA) rM_isDay (xPc D cy (MW q cy σ) sz [.int x0]) (va_Qi Post (xB D cy (MW q cy) (va_A (MW q cy σ) sz)) (va_A (MW q cy σ) sz)) 0 0 (va_A (MW q cy σ) sz) := by
  refine x_enter (own := RX11) (WW := MW q cy) (by decide) rfl (Nat.le_of_ble_eq_true rfl) ?_
  intro p e s m below meth c ls E h hl
  have hx := E.1
  have hb := E.2.1
  have hl : lv_has ls 1 [(0, .int x0)] := hl
  unfold wpM_isDay at hw
  refine lv_iload_n hx hb dX11_isDay_0 rfl (lv_at hl 0 rfl) ?_
  refine lv_if_lt (tgt := 15) hx hb dX11_isDay_1 (by decide) (fun c1 => ?_) (fun c1 => ?_)
  · have hw := hw.1 c1
    refine lv_iconst (v := 0) hx hb dX11_isDay_15 (by decide) ?_
    exact x_zret E h rfl hw dX11_isDay_16
  · have hw := hw.2 c1
    refine lv_iload_n hx hb dX11_isDay_4 rfl (lv_at hl 0 rfl) ?_
    refine lv_sipush (v := 9999) hx hb dX11_isDay_5 (by decide) ?_
    refine lv_icmp_gt (tgt := 15) hx hb dX11_isDay_8 (by decide) (fun c2 => ?_) (fun c2 => ?_)
    · have hw := hw.1 c2
      refine lv_iconst (v := 0) hx hb dX11_isDay_15 (by decide) ?_
      exact x_zret E h rfl hw dX11_isDay_16
    · have hw := hw.2 c2
      refine lv_iconst (v := 1) hx hb dX11_isDay_11 (by decide) ?_
      refine lv_goto (tgt := 16) hx hb dX11_isDay_12 (by decide) ?_
      exact x_zret E h rfl hw dX11_isDay_16

abbrev rM_emit : Room := { frames := 0, cells := 0, slots := 0, locals := 0 }
def wpM_emit (σ : MS) (x1 : Int32) (x2 : Int32) (Post : MS → Prop) : Prop := vp_in (σ.1 35) 4500 ∧ ∀ σ1 : MS, σ1 = mA σ 23 (upd (σ.2.1 23) (σ.1 35).toNatClampNeg x1) → vp_in (σ1.1 35) 4500 ∧ ∀ σ3 : MS, σ3 = mA σ1 24 (upd (σ1.2.1 24) (σ1.1 35).toNatClampNeg x2) → ∀ σ5 : MS, σ5 = mF σ3 35 ((σ3.1 35) + 1) → Post σ5
set_option maxHeartbeats 1000000 in
set_option maxRecDepth 20000 in
theorem cM_emit {l : Launch} {D : va_G} {cy : Nat → ClassId} {q : Nat → Nat} {σ : MS} {sz : Nat} {x1 : Int32} {x2 : Int32} {Post : MS → Prop} (hw : wpM_emit σ x1 x2 Post) : Met l yX11_emit (Cond.code yX11_emit cX11_emit 3 none :: wsA) rM_emit (xPc D cy (MW q cy σ) sz [.ref (q 0), .int x1, .int x2]) (va_Qv Post (xB D cy (MW q cy) (va_A (MW q cy σ) sz)) (va_A (MW q cy σ) sz)) 0 0 (va_A (MW q cy σ) sz) := by
  refine x_enter (own := RX11) (WW := MW q cy) (by decide) rfl (Nat.le_of_ble_eq_true rfl) ?_
  intro p e s m below meth c ls E h hl
  have hx := E.1
  have hb := E.2.1
  have hl : lv_has ls 3 [(0, .ref (q 0)), (1, .int x1), (2, .int x2)] := hl
  unfold wpM_emit at hw
  refine lv_aload_n hx hb dX11_emit_0 rfl (lv_at hl 0 rfl) ?_
  refine gX11_86 E h dX11_emit_1 ?_
  refine lv_aload_n hx hb dX11_emit_4 rfl (lv_at hl 0 rfl) ?_
  refine gX11_274 E h dX11_emit_5 ?_
  refine lv_iload_n hx hb dX11_emit_8 rfl (lv_at hl 1 rfl) ?_
  have h2 := hw.1
  have hw := hw.2
  refine sM_23 E h h2 dX11_emit_9 (fun σ1 H locs eσ1 h => ?_)
  have hw := hw σ1 eσ1
  refine lv_aload_n hx hb dX11_emit_10 rfl (lv_at hl 0 rfl) ?_
  refine gX11_89 E h dX11_emit_11 ?_
  refine lv_aload_n hx hb dX11_emit_14 rfl (lv_at hl 0 rfl) ?_
  refine gX11_274 E h dX11_emit_15 ?_
  refine lv_iload_n hx hb dX11_emit_18 rfl (lv_at hl 2 rfl) ?_
  have h4 := hw.1
  have hw := hw.2
  refine sM_24 E h h4 dX11_emit_19 (fun σ3 H locs eσ3 h => ?_)
  have hw := hw σ3 eσ3
  refine lv_aload_n hx hb dX11_emit_20 rfl (lv_at hl 0 rfl) ?_
  refine lv_dup hx hb dX11_emit_21 rfl ?_
  refine gX11_274 E h dX11_emit_22 ?_
  refine lv_iconst (v := 1) hx hb dX11_emit_25 (by decide) ?_
  refine lv_iadd hx hb dX11_emit_26 ?_
  refine pX11_274 E h dX11_emit_27 (fun σ5 H locs eσ5 h => ?_)
  have hw := hw σ5 eσ5
  exact x_vret E h hw dX11_emit_30

abbrev rM_comesOut : Room := { frames := 1, cells := 0, slots := 0, locals := 22 }
def wpM_comesOut_85 (K0 : MS → Int32 → Prop) (Post : MS → Prop) (σ : MS) (x1 : Int32) (t1 : Int32) : Prop := wpM_emit σ t1 0 (fun σ1 => K0 σ1 x1)
set_option maxHeartbeats 1000000 in
set_option maxRecDepth 20000 in
theorem wkM_comesOut_85 {Post : MS → Prop} (E : xE cX11_comesOut RX11 3 none D cy p s m args meth c) {K0 : MS → Int32 → Prop} (hK0 : ∀ (σ : MS) (x1 : Int32) (H : Heap) (locs : List Loc) (ls : Array Slot), xH D A s (MW q cy σ) H locs → K0 σ x1 → lv_has ls 3 [(0, .ref (q 0)), (1, .int x1)] → W p l e rM_comesOut s m args below meth c H locs 0 0 (MQ below (va_Qv Post (xB D cy (MW q cy) A) A) args s 0 0 A) (F0 m 0 ls [])) : ∀ (σ : MS) (x1 : Int32) (t1 : Int32) (H : Heap) (locs : List Loc) (ls : Array Slot), xH D A s (MW q cy σ) H locs → wpM_comesOut_85 K0 Post σ x1 t1 → lv_has ls 3 [(0, .ref (q 0)), (1, .int x1)] → W p l e rM_comesOut s m args below meth c H locs 0 0 (MQ below (va_Qv Post (xB D cy (MW q cy) A) A) args s 0 0 A) (F0 m 85 ls [.int t1, .ref (q 0)]) := by
  have hx := E.1
  have hb := E.2.1
  intro σ x1 t1 H locs ls h hw hl
  unfold wpM_comesOut_85 at hw
  refine lv_iconst (v := 0) hx hb dX11_comesOut_85 (by decide) ?_
  refine x_callv h (x_runV (WW := MW q cy) (rest := []) E h (cM_emit hw) yyX11_emit lX11_293 0 rfl rfl ⟨Nat.le_of_ble_eq_true rfl, Nat.le_of_ble_eq_true rfl⟩ rfl rfl hl.1 rfl (Nat.le_of_ble_eq_true rfl) dX11_comesOut_86 ⟨Nat.le_refl 0, Nat.le_refl 0⟩) (fun σ1 H locs hw h => ?_)
  refine lv_goto (tgt := 0) hx hb dX11_comesOut_89 (by decide) ?_
  exact hK0 _ _ _ _ _ h hw (lv_sub hl [0, 1] rfl)

def wpM_comesOut_43 (K0 : MS → Int32 → Prop) (Post : MS → Prop) (σ : MS) (x1 : Int32) : Prop := ∀ σ1 : MS, σ1 = mF σ 39 ((σ.1 39) - 1) → vp_in (σ1.1 39) 48 ∧ ∀ y3 : Int32, y3 = σ1.2.1 25 (σ1.1 39).toNatClampNeg → (y3 = 8 → wpM_comesOut_85 K0 Post σ1 x1 2) ∧ (¬ y3 = 8 → (y3 = 9 → wpM_comesOut_85 K0 Post σ1 x1 3) ∧ (¬ y3 = 9 → wpM_comesOut_85 K0 Post σ1 x1 4))
set_option maxHeartbeats 1000000 in
set_option maxRecDepth 20000 in
theorem wkM_comesOut_43 {Post : MS → Prop} (E : xE cX11_comesOut RX11 3 none D cy p s m args meth c) {K0 : MS → Int32 → Prop} (hK0 : ∀ (σ : MS) (x1 : Int32) (H : Heap) (locs : List Loc) (ls : Array Slot), xH D A s (MW q cy σ) H locs → K0 σ x1 → lv_has ls 3 [(0, .ref (q 0)), (1, .int x1)] → W p l e rM_comesOut s m args below meth c H locs 0 0 (MQ below (va_Qv Post (xB D cy (MW q cy) A) A) args s 0 0 A) (F0 m 0 ls [])) : ∀ (σ : MS) (x1 : Int32) (H : Heap) (locs : List Loc) (ls : Array Slot), xH D A s (MW q cy σ) H locs → wpM_comesOut_43 K0 Post σ x1 → lv_has ls 3 [(0, .ref (q 0)), (1, .int x1)] → W p l e rM_comesOut s m args below meth c H locs 0 0 (MQ below (va_Qv Post (xB D cy (MW q cy) A) A) args s 0 0 A) (F0 m 43 ls []) := by
  have hx := E.1
  have hb := E.2.1
  intro σ x1 H locs ls h hw hl
  unfold wpM_comesOut_43 at hw
  refine lv_aload_n hx hb dX11_comesOut_43 rfl (lv_at hl 0 rfl) ?_
  refine lv_dup hx hb dX11_comesOut_44 rfl ?_
  refine gX11_290 E h dX11_comesOut_45 ?_
  refine lv_iconst (v := 1) hx hb dX11_comesOut_48 (by decide) ?_
  refine lv_isub hx hb dX11_comesOut_49 ?_
  refine pX11_290 E h dX11_comesOut_50 (fun σ1 H locs eσ1 h => ?_)
  have hw := hw σ1 eσ1
  refine lv_aload_n hx hb dX11_comesOut_53 rfl (lv_at hl 0 rfl) ?_
  refine gX11_92 E h dX11_comesOut_54 ?_
  refine lv_aload_n hx hb dX11_comesOut_57 rfl (lv_at hl 0 rfl) ?_
  refine gX11_290 E h dX11_comesOut_58 ?_
  have h2 := hw.1
  have hw := hw.2
  refine aM_25 E h h2 dX11_comesOut_61 ?_
  refine lv_topi (fun y3 ey3 => ?_)
  have hw := hw y3 ey3
  refine lv_istore_n (lv' := [(2, .int y3), (0, .ref (q 0)), (1, .int x1)]) hx hb dX11_comesOut_62 rfl hl (by decide) rfl (fun ls hl => ?_)
  refine lv_aload_n hx hb dX11_comesOut_63 rfl (lv_at hl 1 rfl) ?_
  refine lv_iload_n hx hb dX11_comesOut_64 rfl (lv_at hl 0 rfl) ?_
  refine lv_bipush (v := 8) hx hb dX11_comesOut_65 (by decide) ?_
  refine lv_icmp_ne (tgt := 74) hx hb dX11_comesOut_67 (by decide) (fun c4 => ?_) (fun c4 => ?_)
  · have hw := hw.2 c4
    refine lv_iload_n hx hb dX11_comesOut_74 rfl (lv_at hl 0 rfl) ?_
    refine lv_bipush (v := 9) hx hb dX11_comesOut_75 (by decide) ?_
    refine lv_icmp_ne (tgt := 84) hx hb dX11_comesOut_77 (by decide) (fun c5 => ?_) (fun c5 => ?_)
    · have hw := hw.2 c5
      refine lv_iconst (v := 4) hx hb dX11_comesOut_84 (by decide) ?_
      exact wkM_comesOut_85 E hK0 _ _ _ _ _ _ h hw (lv_sub hl [1, 2] rfl)
    · have hw := hw.1 c5
      refine lv_iconst (v := 3) hx hb dX11_comesOut_80 (by decide) ?_
      refine lv_goto (tgt := 85) hx hb dX11_comesOut_81 (by decide) ?_
      exact wkM_comesOut_85 E hK0 _ _ _ _ _ _ h hw (lv_sub hl [1, 2] rfl)
  · have hw := hw.1 c4
    refine lv_iconst (v := 2) hx hb dX11_comesOut_70 (by decide) ?_
    refine lv_goto (tgt := 85) hx hb dX11_comesOut_71 (by decide) ?_
    exact wkM_comesOut_85 E hK0 _ _ _ _ _ _ h hw (lv_sub hl [1, 2] rfl)

def wpM_comesOut_0 (Post : MS → Prop) : Nat → MS → Int32 → Prop
  | 0, _, _ => False
  | n + 1, σ, x1 => ((σ.1 39) ≤ 0 → Post σ) ∧ (¬ (σ.1 39) ≤ 0 → vp_in ((σ.1 39) - 1) 48 ∧ ((σ.2.1 25 ((σ.1 39) - 1).toNatClampNeg) = 6 → Post σ) ∧ (¬ (σ.2.1 25 ((σ.1 39) - 1).toNatClampNeg) = 6 → (x1 = 0 → wpM_comesOut_43 (fun a0 a1 => wpM_comesOut_0 Post n a0 a1) Post σ x1) ∧ (¬ x1 = 0 → vp_in ((σ.1 39) - 1) 48 ∧ ((σ.2.1 25 ((σ.1 39) - 1).toNatClampNeg) = 10 → wpM_comesOut_43 (fun a0 a1 => wpM_comesOut_0 Post n a0 a1) Post σ x1) ∧ (¬ (σ.2.1 25 ((σ.1 39) - 1).toNatClampNeg) = 10 → Post σ))))
set_option maxHeartbeats 1000000 in
set_option maxRecDepth 20000 in
theorem wkM_comesOut_0 {Post : MS → Prop} (E : xE cX11_comesOut RX11 3 none D cy p s m args meth c) : ∀ n : Nat, ∀ (σ : MS) (x1 : Int32) (H : Heap) (locs : List Loc) (ls : Array Slot), xH D A s (MW q cy σ) H locs → wpM_comesOut_0 Post n σ x1 → lv_has ls 3 [(0, .ref (q 0)), (1, .int x1)] → W p l e rM_comesOut s m args below meth c H locs 0 0 (MQ below (va_Qv Post (xB D cy (MW q cy) A) A) args s 0 0 A) (F0 m 0 ls []) := by
  have hx := E.1
  have hb := E.2.1
  intro n
  induction n with
  | zero => intro σ x1 H locs ls h hw hl; exact False.elim hw
  | succ n ih =>
    intro σ x1 H locs ls h hw hl
    refine lv_aload_n hx hb dX11_comesOut_0 rfl (lv_at hl 0 rfl) ?_
    refine gX11_290 E h dX11_comesOut_1 ?_
    refine lv_if_le (tgt := 92) hx hb dX11_comesOut_4 (by decide) (fun c1 => ?_) (fun c1 => ?_)
    · have hw := hw.1 c1
      exact x_vret E h hw dX11_comesOut_92
    · have hw := hw.2 c1
      refine lv_aload_n hx hb dX11_comesOut_7 rfl (lv_at hl 0 rfl) ?_
      refine gX11_92 E h dX11_comesOut_8 ?_
      refine lv_aload_n hx hb dX11_comesOut_11 rfl (lv_at hl 0 rfl) ?_
      refine gX11_290 E h dX11_comesOut_12 ?_
      refine lv_iconst (v := 1) hx hb dX11_comesOut_15 (by decide) ?_
      refine lv_isub hx hb dX11_comesOut_16 ?_
      have h2 := hw.1
      have hw := hw.2
      refine aM_25 E h h2 dX11_comesOut_17 ?_
      refine lv_bipush (v := 6) hx hb dX11_comesOut_18 (by decide) ?_
      refine lv_icmp_eq (tgt := 92) hx hb dX11_comesOut_20 (by decide) (fun c3 => ?_) (fun c3 => ?_)
      · have hw := hw.1 c3
        exact x_vret E h hw dX11_comesOut_92
      · have hw := hw.2 c3
        refine lv_iload_n hx hb dX11_comesOut_23 rfl (lv_at hl 1 rfl) ?_
        refine lv_if_eq (tgt := 43) hx hb dX11_comesOut_24 (by decide) (fun c4 => ?_) (fun c4 => ?_)
        · have hw := hw.1 c4
          exact wkM_comesOut_43 E ih _ _ _ _ _ h hw (lv_sub hl [0, 1] rfl)
        · have hw := hw.2 c4
          refine lv_aload_n hx hb dX11_comesOut_27 rfl (lv_at hl 0 rfl) ?_
          refine gX11_92 E h dX11_comesOut_28 ?_
          refine lv_aload_n hx hb dX11_comesOut_31 rfl (lv_at hl 0 rfl) ?_
          refine gX11_290 E h dX11_comesOut_32 ?_
          refine lv_iconst (v := 1) hx hb dX11_comesOut_35 (by decide) ?_
          refine lv_isub hx hb dX11_comesOut_36 ?_
          have h5 := hw.1
          have hw := hw.2
          refine aM_25 E h h5 dX11_comesOut_37 ?_
          refine lv_bipush (v := 10) hx hb dX11_comesOut_38 (by decide) ?_
          refine lv_icmp_ne (tgt := 92) hx hb dX11_comesOut_40 (by decide) (fun c6 => ?_) (fun c6 => ?_)
          · have hw := hw.2 c6
            exact x_vret E h hw dX11_comesOut_92
          · have hw := hw.1 c6
            exact wkM_comesOut_43 E ih _ _ _ _ _ h hw (lv_sub hl [0, 1] rfl)

def wpM_comesOut (σ : MS) (x1 : Int32) (Post : MS → Prop) : Prop := ∃ g, wpM_comesOut_0 Post g σ x1
set_option maxHeartbeats 1000000 in
set_option maxRecDepth 20000 in
theorem cM_comesOut {l : Launch} {D : va_G} {cy : Nat → ClassId} {q : Nat → Nat} {σ : MS} {sz : Nat} {x1 : Int32} {Post : MS → Prop} (hw : wpM_comesOut σ x1 Post) : Met l yX11_comesOut (Cond.code yX11_comesOut cX11_comesOut 3 none :: wsA) rM_comesOut (xPc D cy (MW q cy σ) sz [.ref (q 0), .int x1]) (va_Qv Post (xB D cy (MW q cy) (va_A (MW q cy σ) sz)) (va_A (MW q cy σ) sz)) 0 0 (va_A (MW q cy σ) sz) := by
  refine x_enter (own := RX11) (WW := MW q cy) (by decide) rfl (Nat.le_of_ble_eq_true rfl) ?_
  intro p e s m below meth c ls E h hl
  have hx := E.1
  have hb := E.2.1
  have hl : lv_has ls 3 [(0, .ref (q 0)), (1, .int x1)] := hl
  unfold wpM_comesOut at hw
  obtain ⟨g, hw⟩ := hw
  exact wkM_comesOut_0 E g _ _ _ _ _ h hw (lv_sub hl [0, 1] rfl)

abbrev rM_expression : Room := { frames := 2, cells := 0, slots := 0, locals := 44 }
def wpM_expression_46 (K12 : MS → Int32 → Int32 → Prop) (Post : MS → Prop) (σ : MS) (x1 : Int32) (x2 : Int32) : Prop := ((σ.1 13) ≤ 0 → ∀ σ2 : MS, σ2 = mF σ 12 ((σ.1 12) + 1) → wpM_next σ2 (fun σ3 => vp_in (σ3.1 39) 48 ∧ ∀ σ4 : MS, σ4 = mA σ3 25 (upd (σ3.2.1 25) (σ3.1 39).toNatClampNeg 6) → ∀ σ6 : MS, σ6 = mF σ4 39 ((σ4.1 39) + 1) → K12 σ6 x1 x2)) ∧ (¬ (σ.1 13) ≤ 0 → Post σ)
set_option maxHeartbeats 1000000 in
set_option maxRecDepth 20000 in
theorem wkM_expression_46 {Post : MS → Prop} (E : xE cX11_expression RX11 5 none D cy p s m args meth c) {K12 : MS → Int32 → Int32 → Prop} (hK12 : ∀ (σ : MS) (x1 : Int32) (x2 : Int32) (H : Heap) (locs : List Loc) (ls : Array Slot), xH D A s (MW q cy σ) H locs → K12 σ x1 x2 → lv_has ls 5 [(0, .ref (q 0)), (1, .int x1), (2, .int x2)] → W p l e rM_expression s m args below meth c H locs 0 0 (MQ below (va_Qv Post (xB D cy (MW q cy) A) A) args s 0 0 A) (F0 m 12 ls [])) : ∀ (σ : MS) (x1 : Int32) (x2 : Int32) (H : Heap) (locs : List Loc) (ls : Array Slot), xH D A s (MW q cy σ) H locs → wpM_expression_46 K12 Post σ x1 x2 → lv_has ls 5 [(0, .ref (q 0)), (1, .int x1), (2, .int x2)] → W p l e rM_expression s m args below meth c H locs 0 0 (MQ below (va_Qv Post (xB D cy (MW q cy) A) A) args s 0 0 A) (F0 m 46 ls []) := by
  have hx := E.1
  have hb := E.2.1
  intro σ x1 x2 H locs ls h hw hl
  unfold wpM_expression_46 at hw
  refine lv_aload_n hx hb dX11_expression_46 rfl (lv_at hl 0 rfl) ?_
  refine gX11_235 E h dX11_expression_47 ?_
  refine lv_if_le (tgt := 54) hx hb dX11_expression_50 (by decide) (fun c1 => ?_) (fun c1 => ?_)
  · have hw := hw.1 c1
    refine lv_aload_n hx hb dX11_expression_54 rfl (lv_at hl 0 rfl) ?_
    refine lv_dup hx hb dX11_expression_55 rfl ?_
    refine gX11_268 E h dX11_expression_56 ?_
    refine lv_iconst (v := 1) hx hb dX11_expression_59 (by decide) ?_
    refine lv_iadd hx hb dX11_expression_60 ?_
    refine pX11_268 E h dX11_expression_61 (fun σ2 H locs eσ2 h => ?_)
    have hw := hw σ2 eσ2
    refine lv_aload_n hx hb dX11_expression_64 rfl (lv_at hl 0 rfl) ?_
    refine x_callv h (x_runV (WW := MW q cy) (rest := []) E h (cM_next hw) yyX11_next lX11_256 0 rfl rfl ⟨Nat.le_of_ble_eq_true rfl, Nat.le_of_ble_eq_true rfl⟩ rfl rfl hl.1 rfl (Nat.le_of_ble_eq_true rfl) dX11_expression_65 ⟨Nat.le_refl 0, Nat.le_refl 0⟩) (fun σ3 H locs hw h => ?_)
    refine lv_aload_n hx hb dX11_expression_68 rfl (lv_at hl 0 rfl) ?_
    refine gX11_92 E h dX11_expression_69 ?_
    refine lv_aload_n hx hb dX11_expression_72 rfl (lv_at hl 0 rfl) ?_
    refine gX11_290 E h dX11_expression_73 ?_
    refine lv_bipush (v := 6) hx hb dX11_expression_76 (by decide) ?_
    have h5 := hw.1
    have hw := hw.2
    refine sM_25 E h h5 dX11_expression_78 (fun σ4 H locs eσ4 h => ?_)
    have hw := hw σ4 eσ4
    refine lv_aload_n hx hb dX11_expression_79 rfl (lv_at hl 0 rfl) ?_
    refine lv_dup hx hb dX11_expression_80 rfl ?_
    refine gX11_290 E h dX11_expression_81 ?_
    refine lv_iconst (v := 1) hx hb dX11_expression_84 (by decide) ?_
    refine lv_iadd hx hb dX11_expression_85 ?_
    refine pX11_290 E h dX11_expression_86 (fun σ6 H locs eσ6 h => ?_)
    have hw := hw σ6 eσ6
    refine lv_goto (tgt := 12) hx hb dX11_expression_89 (by decide) ?_
    exact hK12 _ _ _ _ _ _ h hw (lv_sub hl [0, 1, 2] rfl)
  · have hw := hw.2 c1
    exact x_vret E h hw dX11_expression_53

def wpM_expression_299 (Post : MS → Prop) (σ : MS) : Prop := wpM_comesOut σ 0 (fun σ1 => Post σ1)
set_option maxHeartbeats 1000000 in
set_option maxRecDepth 20000 in
theorem wkM_expression_299 {Post : MS → Prop} (E : xE cX11_expression RX11 5 none D cy p s m args meth c) : ∀ (σ : MS) (H : Heap) (locs : List Loc) (ls : Array Slot), xH D A s (MW q cy σ) H locs → wpM_expression_299 Post σ → lv_has ls 5 [(0, .ref (q 0))] → W p l e rM_expression s m args below meth c H locs 0 0 (MQ below (va_Qv Post (xB D cy (MW q cy) A) A) args s 0 0 A) (F0 m 299 ls []) := by
  have hx := E.1
  have hb := E.2.1
  intro σ H locs ls h hw hl
  unfold wpM_expression_299 at hw
  refine lv_aload_n hx hb dX11_expression_299 rfl (lv_at hl 0 rfl) ?_
  refine lv_iconst (v := 0) hx hb dX11_expression_300 (by decide) ?_
  refine x_callv h (x_runV (WW := MW q cy) (rest := []) E h (cM_comesOut hw) yyX11_comesOut lX11_297 0 rfl rfl ⟨Nat.le_of_ble_eq_true rfl, Nat.le_of_ble_eq_true rfl⟩ rfl rfl hl.1 rfl (Nat.le_of_ble_eq_true rfl) dX11_expression_301 ⟨Nat.le_refl 0, Nat.le_refl 0⟩) (fun σ1 H locs hw h => ?_)
  exact x_vret E h hw dX11_expression_304

def wpM_expression_329 (K12 : MS → Int32 → Int32 → Prop) (Post : MS → Prop) (σ : MS) (x1 : Int32) (x2 : Int32) (x4 : Int32) (t1 : Int32) : Prop := wpM_comesOut σ t1 (fun σ1 => vp_in (σ1.1 39) 48 ∧ ∀ σ2 : MS, σ2 = mA σ1 25 (upd (σ1.2.1 25) (σ1.1 39).toNatClampNeg x4) → ∀ σ4 : MS, σ4 = mF σ2 39 ((σ2.1 39) + 1) → wpM_next σ4 (fun σ5 => K12 σ5 x1 x2))
set_option maxHeartbeats 1000000 in
set_option maxRecDepth 20000 in
theorem wkM_expression_329 {Post : MS → Prop} (E : xE cX11_expression RX11 5 none D cy p s m args meth c) {K12 : MS → Int32 → Int32 → Prop} (hK12 : ∀ (σ : MS) (x1 : Int32) (x2 : Int32) (H : Heap) (locs : List Loc) (ls : Array Slot), xH D A s (MW q cy σ) H locs → K12 σ x1 x2 → lv_has ls 5 [(0, .ref (q 0)), (1, .int x1), (2, .int x2)] → W p l e rM_expression s m args below meth c H locs 0 0 (MQ below (va_Qv Post (xB D cy (MW q cy) A) A) args s 0 0 A) (F0 m 12 ls [])) : ∀ (σ : MS) (x1 : Int32) (x2 : Int32) (x4 : Int32) (t1 : Int32) (H : Heap) (locs : List Loc) (ls : Array Slot), xH D A s (MW q cy σ) H locs → wpM_expression_329 K12 Post σ x1 x2 x4 t1 → lv_has ls 5 [(0, .ref (q 0)), (1, .int x1), (2, .int x2), (4, .int x4)] → W p l e rM_expression s m args below meth c H locs 0 0 (MQ below (va_Qv Post (xB D cy (MW q cy) A) A) args s 0 0 A) (F0 m 329 ls [.int t1, .ref (q 0)]) := by
  have hx := E.1
  have hb := E.2.1
  intro σ x1 x2 x4 t1 H locs ls h hw hl
  unfold wpM_expression_329 at hw
  refine x_callv h (x_runV (WW := MW q cy) (rest := []) E h (cM_comesOut hw) yyX11_comesOut lX11_297 0 rfl rfl ⟨Nat.le_of_ble_eq_true rfl, Nat.le_of_ble_eq_true rfl⟩ rfl rfl hl.1 rfl (Nat.le_of_ble_eq_true rfl) dX11_expression_329 ⟨Nat.le_refl 0, Nat.le_refl 0⟩) (fun σ1 H locs hw h => ?_)
  refine lv_aload_n hx hb dX11_expression_332 rfl (lv_at hl 0 rfl) ?_
  refine gX11_92 E h dX11_expression_333 ?_
  refine lv_aload_n hx hb dX11_expression_336 rfl (lv_at hl 0 rfl) ?_
  refine gX11_290 E h dX11_expression_337 ?_
  refine lv_iload hx hb dX11_expression_340 (lv_at hl 3 rfl) ?_
  have h3 := hw.1
  have hw := hw.2
  refine sM_25 E h h3 dX11_expression_342 (fun σ2 H locs eσ2 h => ?_)
  have hw := hw σ2 eσ2
  refine lv_aload_n hx hb dX11_expression_343 rfl (lv_at hl 0 rfl) ?_
  refine lv_dup hx hb dX11_expression_344 rfl ?_
  refine gX11_290 E h dX11_expression_345 ?_
  refine lv_iconst (v := 1) hx hb dX11_expression_348 (by decide) ?_
  refine lv_iadd hx hb dX11_expression_349 ?_
  refine pX11_290 E h dX11_expression_350 (fun σ4 H locs eσ4 h => ?_)
  have hw := hw σ4 eσ4
  refine lv_aload_n hx hb dX11_expression_353 rfl (lv_at hl 0 rfl) ?_
  refine x_callv h (x_runV (WW := MW q cy) (rest := []) E h (cM_next hw) yyX11_next lX11_256 0 rfl rfl ⟨Nat.le_of_ble_eq_true rfl, Nat.le_of_ble_eq_true rfl⟩ rfl rfl hl.1 rfl (Nat.le_of_ble_eq_true rfl) dX11_expression_354 ⟨Nat.le_refl 0, Nat.le_refl 0⟩) (fun σ5 H locs hw h => ?_)
  refine lv_goto (tgt := 12) hx hb dX11_expression_357 (by decide) ?_
  exact hK12 _ _ _ _ _ _ h hw (lv_sub hl [0, 1, 2] rfl)

def wpM_expression_281 (K12 : MS → Int32 → Int32 → Prop) (Post : MS → Prop) (σ : MS) (x1 : Int32) (t0 : Int32) : Prop := (t0 = 0 → ((σ.1 12) ≤ x1 → wpM_expression_299 Post σ) ∧ (¬ (σ.1 12) ≤ x1 → wpM_fail σ 1 (fun σ6 => wpM_expression_299 Post σ6))) ∧ (¬ t0 = 0 → vp_in (σ.1 11) 403 ∧ ∀ y3 : Int32, y3 = σ.2.1 3 (σ.1 11).toNatClampNeg → (y3 = 10 → wpM_expression_329 K12 Post σ x1 t0 y3 1) ∧ (¬ y3 = 10 → wpM_expression_329 K12 Post σ x1 t0 y3 0))
set_option maxHeartbeats 1000000 in
set_option maxRecDepth 20000 in
theorem wkM_expression_281 {Post : MS → Prop} (E : xE cX11_expression RX11 5 none D cy p s m args meth c) {K12 : MS → Int32 → Int32 → Prop} (hK12 : ∀ (σ : MS) (x1 : Int32) (x2 : Int32) (H : Heap) (locs : List Loc) (ls : Array Slot), xH D A s (MW q cy σ) H locs → K12 σ x1 x2 → lv_has ls 5 [(0, .ref (q 0)), (1, .int x1), (2, .int x2)] → W p l e rM_expression s m args below meth c H locs 0 0 (MQ below (va_Qv Post (xB D cy (MW q cy) A) A) args s 0 0 A) (F0 m 12 ls [])) : ∀ (σ : MS) (x1 : Int32) (t0 : Int32) (H : Heap) (locs : List Loc) (ls : Array Slot), xH D A s (MW q cy σ) H locs → wpM_expression_281 K12 Post σ x1 t0 → lv_has ls 5 [(0, .ref (q 0)), (1, .int x1)] → W p l e rM_expression s m args below meth c H locs 0 0 (MQ below (va_Qv Post (xB D cy (MW q cy) A) A) args s 0 0 A) (F0 m 281 ls [.int t0]) := by
  have hx := E.1
  have hb := E.2.1
  intro σ x1 t0 H locs ls h hw hl
  unfold wpM_expression_281 at hw
  refine lv_istore_n (lv' := [(2, .int t0), (0, .ref (q 0)), (1, .int x1)]) hx hb dX11_expression_281 rfl hl (by decide) rfl (fun ls hl => ?_)
  refine lv_iload_n hx hb dX11_expression_282 rfl (lv_at hl 0 rfl) ?_
  refine lv_if_ne (tgt := 305) hx hb dX11_expression_283 (by decide) (fun c1 => ?_) (fun c1 => ?_)
  · have hw := hw.2 c1
    refine lv_aload_n hx hb dX11_expression_305 rfl (lv_at hl 1 rfl) ?_
    refine gX11_20 E h dX11_expression_306 ?_
    refine lv_aload_n hx hb dX11_expression_309 rfl (lv_at hl 1 rfl) ?_
    refine gX11_238 E h dX11_expression_310 ?_
    have h2 := hw.1
    have hw := hw.2
    refine aM_3 E h h2 dX11_expression_313 ?_
    refine lv_topi (fun y3 ey3 => ?_)
    have hw := hw y3 ey3
    refine lv_istore (lv' := [(4, .int y3), (2, .int t0), (0, .ref (q 0)), (1, .int x1)]) hx hb dX11_expression_314 hl (by decide) rfl (fun ls hl => ?_)
    refine lv_aload_n hx hb dX11_expression_316 rfl (lv_at hl 2 rfl) ?_
    refine lv_iload hx hb dX11_expression_317 (lv_at hl 0 rfl) ?_
    refine lv_bipush (v := 10) hx hb dX11_expression_319 (by decide) ?_
    refine lv_icmp_ne (tgt := 328) hx hb dX11_expression_321 (by decide) (fun c4 => ?_) (fun c4 => ?_)
    · have hw := hw.2 c4
      refine lv_iconst (v := 0) hx hb dX11_expression_328 (by decide) ?_
      exact wkM_expression_329 E hK12 _ _ _ _ _ _ _ _ h hw (lv_sub hl [2, 3, 1, 0] rfl)
    · have hw := hw.1 c4
      refine lv_iconst (v := 1) hx hb dX11_expression_324 (by decide) ?_
      refine lv_goto (tgt := 329) hx hb dX11_expression_325 (by decide) ?_
      exact wkM_expression_329 E hK12 _ _ _ _ _ _ _ _ h hw (lv_sub hl [2, 3, 1, 0] rfl)
  · have hw := hw.1 c1
    refine lv_aload_n hx hb dX11_expression_286 rfl (lv_at hl 1 rfl) ?_
    refine gX11_268 E h dX11_expression_287 ?_
    refine lv_iload_n hx hb dX11_expression_290 rfl (lv_at hl 2 rfl) ?_
    refine lv_icmp_le (tgt := 299) hx hb dX11_expression_291 (by decide) (fun c5 => ?_) (fun c5 => ?_)
    · have hw := hw.1 c5
      exact wkM_expression_299 E _ _ _ _ h hw (lv_sub hl [1] rfl)
    · have hw := hw.2 c5
      refine lv_aload_n hx hb dX11_expression_294 rfl (lv_at hl 1 rfl) ?_
      refine lv_iconst (v := 1) hx hb dX11_expression_295 (by decide) ?_
      refine x_callv h (x_runV (WW := MW q cy) (rest := []) E h (cM_fail hw) yyX11_fail lX11_250 0 rfl rfl ⟨Nat.le_of_ble_eq_true rfl, Nat.le_of_ble_eq_true rfl⟩ rfl rfl hl.1 rfl (Nat.le_of_ble_eq_true rfl) dX11_expression_296 ⟨Nat.le_refl 0, Nat.le_refl 0⟩) (fun σ6 H locs hw h => ?_)
      exact wkM_expression_299 E _ _ _ _ h hw (lv_sub hl [1] rfl)

def wpM_expression_249 (K12 : MS → Int32 → Int32 → Prop) (Post : MS → Prop) (σ : MS) (x1 : Int32) : Prop := wpM_is σ 8 (fun r1 σ2 => (r1 = 0 → wpM_is σ2 9 (fun r4 σ5 => (r4 = 0 → wpM_is σ5 10 (fun r7 σ8 => (r7 = 0 → wpM_expression_281 K12 Post σ8 x1 0) ∧ (¬ r7 = 0 → wpM_expression_281 K12 Post σ8 x1 1))) ∧ (¬ r4 = 0 → wpM_expression_281 K12 Post σ5 x1 1))) ∧ (¬ r1 = 0 → wpM_expression_281 K12 Post σ2 x1 1))
set_option maxHeartbeats 1000000 in
set_option maxRecDepth 20000 in
theorem wkM_expression_249 {Post : MS → Prop} (E : xE cX11_expression RX11 5 none D cy p s m args meth c) {K12 : MS → Int32 → Int32 → Prop} (hK12 : ∀ (σ : MS) (x1 : Int32) (x2 : Int32) (H : Heap) (locs : List Loc) (ls : Array Slot), xH D A s (MW q cy σ) H locs → K12 σ x1 x2 → lv_has ls 5 [(0, .ref (q 0)), (1, .int x1), (2, .int x2)] → W p l e rM_expression s m args below meth c H locs 0 0 (MQ below (va_Qv Post (xB D cy (MW q cy) A) A) args s 0 0 A) (F0 m 12 ls [])) : ∀ (σ : MS) (x1 : Int32) (H : Heap) (locs : List Loc) (ls : Array Slot), xH D A s (MW q cy σ) H locs → wpM_expression_249 K12 Post σ x1 → lv_has ls 5 [(0, .ref (q 0)), (1, .int x1)] → W p l e rM_expression s m args below meth c H locs 0 0 (MQ below (va_Qv Post (xB D cy (MW q cy) A) A) args s 0 0 A) (F0 m 249 ls []) := by
  have hx := E.1
  have hb := E.2.1
  intro σ x1 H locs ls h hw hl
  unfold wpM_expression_249 at hw
  refine lv_aload_n hx hb dX11_expression_249 rfl (lv_at hl 0 rfl) ?_
  refine lv_bipush (v := 8) hx hb dX11_expression_250 (by decide) ?_
  refine x_calli h (x_runV (WW := MW q cy) (rest := []) E h (cM_is hw) yyX11_is lX11_253 0 rfl rfl ⟨Nat.le_of_ble_eq_true rfl, Nat.le_of_ble_eq_true rfl⟩ rfl rfl hl.1 rfl (Nat.le_of_ble_eq_true rfl) dX11_expression_252 ⟨Nat.le_refl 0, Nat.le_refl 0⟩) (fun r1 σ2 H locs hw h => ?_)
  refine lv_if_ne (tgt := 276) hx hb dX11_expression_255 (by decide) (fun c3 => ?_) (fun c3 => ?_)
  · have hw := hw.2 c3
    refine lv_iconst (v := 1) hx hb dX11_expression_276 (by decide) ?_
    refine lv_goto (tgt := 281) hx hb dX11_expression_277 (by decide) ?_
    exact wkM_expression_281 E hK12 _ _ _ _ _ _ h hw (lv_sub hl [0, 1] rfl)
  · have hw := hw.1 c3
    refine lv_aload_n hx hb dX11_expression_258 rfl (lv_at hl 0 rfl) ?_
    refine lv_bipush (v := 9) hx hb dX11_expression_259 (by decide) ?_
    refine x_calli h (x_runV (WW := MW q cy) (rest := []) E h (cM_is hw) yyX11_is lX11_253 0 rfl rfl ⟨Nat.le_of_ble_eq_true rfl, Nat.le_of_ble_eq_true rfl⟩ rfl rfl hl.1 rfl (Nat.le_of_ble_eq_true rfl) dX11_expression_261 ⟨Nat.le_refl 0, Nat.le_refl 0⟩) (fun r4 σ5 H locs hw h => ?_)
    refine lv_if_ne (tgt := 276) hx hb dX11_expression_264 (by decide) (fun c6 => ?_) (fun c6 => ?_)
    · have hw := hw.2 c6
      refine lv_iconst (v := 1) hx hb dX11_expression_276 (by decide) ?_
      refine lv_goto (tgt := 281) hx hb dX11_expression_277 (by decide) ?_
      exact wkM_expression_281 E hK12 _ _ _ _ _ _ h hw (lv_sub hl [0, 1] rfl)
    · have hw := hw.1 c6
      refine lv_aload_n hx hb dX11_expression_267 rfl (lv_at hl 0 rfl) ?_
      refine lv_bipush (v := 10) hx hb dX11_expression_268 (by decide) ?_
      refine x_calli h (x_runV (WW := MW q cy) (rest := []) E h (cM_is hw) yyX11_is lX11_253 0 rfl rfl ⟨Nat.le_of_ble_eq_true rfl, Nat.le_of_ble_eq_true rfl⟩ rfl rfl hl.1 rfl (Nat.le_of_ble_eq_true rfl) dX11_expression_270 ⟨Nat.le_refl 0, Nat.le_refl 0⟩) (fun r7 σ8 H locs hw h => ?_)
      refine lv_if_eq (tgt := 280) hx hb dX11_expression_273 (by decide) (fun c9 => ?_) (fun c9 => ?_)
      · have hw := hw.1 c9
        refine lv_iconst (v := 0) hx hb dX11_expression_280 (by decide) ?_
        exact wkM_expression_281 E hK12 _ _ _ _ _ _ h hw (lv_sub hl [0, 1] rfl)
      · have hw := hw.2 c9
        refine lv_iconst (v := 1) hx hb dX11_expression_276 (by decide) ?_
        refine lv_goto (tgt := 281) hx hb dX11_expression_277 (by decide) ?_
        exact wkM_expression_281 E hK12 _ _ _ _ _ _ h hw (lv_sub hl [0, 1] rfl)

def wpM_expression_200 (K12 : MS → Int32 → Int32 → Prop) (Post : MS → Prop) : Nat → MS → Int32 → Prop
  | 0, _, _ => False
  | n + 1, σ, x1 => wpM_is σ 7 (fun r1 σ2 => (r1 = 0 → wpM_expression_249 K12 Post σ2 x1) ∧ (¬ r1 = 0 → ((σ2.1 12) ≤ x1 → wpM_expression_249 K12 Post σ2 x1) ∧ (¬ (σ2.1 12) ≤ x1 → wpM_comesOut σ2 0 (fun σ5 => ∀ σ6 : MS, σ6 = mF σ5 39 ((σ5.1 39) - 1) → ∀ σ7 : MS, σ7 = mF σ6 12 ((σ6.1 12) - 1) → wpM_next σ7 (fun σ8 => wpM_expression_200 K12 Post n σ8 x1)))))
set_option maxHeartbeats 1000000 in
set_option maxRecDepth 20000 in
theorem wkM_expression_200 {Post : MS → Prop} (E : xE cX11_expression RX11 5 none D cy p s m args meth c) {K12 : MS → Int32 → Int32 → Prop} (hK12 : ∀ (σ : MS) (x1 : Int32) (x2 : Int32) (H : Heap) (locs : List Loc) (ls : Array Slot), xH D A s (MW q cy σ) H locs → K12 σ x1 x2 → lv_has ls 5 [(0, .ref (q 0)), (1, .int x1), (2, .int x2)] → W p l e rM_expression s m args below meth c H locs 0 0 (MQ below (va_Qv Post (xB D cy (MW q cy) A) A) args s 0 0 A) (F0 m 12 ls [])) : ∀ n : Nat, ∀ (σ : MS) (x1 : Int32) (H : Heap) (locs : List Loc) (ls : Array Slot), xH D A s (MW q cy σ) H locs → wpM_expression_200 K12 Post n σ x1 → lv_has ls 5 [(0, .ref (q 0)), (1, .int x1)] → W p l e rM_expression s m args below meth c H locs 0 0 (MQ below (va_Qv Post (xB D cy (MW q cy) A) A) args s 0 0 A) (F0 m 200 ls []) := by
  have hx := E.1
  have hb := E.2.1
  intro n
  induction n with
  | zero => intro σ x1 H locs ls h hw hl; exact False.elim hw
  | succ n ih =>
    intro σ x1 H locs ls h hw hl
    refine lv_aload_n hx hb dX11_expression_200 rfl (lv_at hl 0 rfl) ?_
    refine lv_bipush (v := 7) hx hb dX11_expression_201 (by decide) ?_
    refine x_calli h (x_runV (WW := MW q cy) (rest := []) E h (cM_is hw) yyX11_is lX11_253 0 rfl rfl ⟨Nat.le_of_ble_eq_true rfl, Nat.le_of_ble_eq_true rfl⟩ rfl rfl hl.1 rfl (Nat.le_of_ble_eq_true rfl) dX11_expression_203 ⟨Nat.le_refl 0, Nat.le_refl 0⟩) (fun r1 σ2 H locs hw h => ?_)
    refine lv_if_eq (tgt := 249) hx hb dX11_expression_206 (by decide) (fun c3 => ?_) (fun c3 => ?_)
    · have hw := hw.1 c3
      exact wkM_expression_249 E hK12 _ _ _ _ _ h hw (lv_sub hl [0, 1] rfl)
    · have hw := hw.2 c3
      refine lv_aload_n hx hb dX11_expression_209 rfl (lv_at hl 0 rfl) ?_
      refine gX11_268 E h dX11_expression_210 ?_
      refine lv_iload_n hx hb dX11_expression_213 rfl (lv_at hl 1 rfl) ?_
      refine lv_icmp_le (tgt := 249) hx hb dX11_expression_214 (by decide) (fun c4 => ?_) (fun c4 => ?_)
      · have hw := hw.1 c4
        exact wkM_expression_249 E hK12 _ _ _ _ _ h hw (lv_sub hl [0, 1] rfl)
      · have hw := hw.2 c4
        refine lv_aload_n hx hb dX11_expression_217 rfl (lv_at hl 0 rfl) ?_
        refine lv_iconst (v := 0) hx hb dX11_expression_218 (by decide) ?_
        refine x_callv h (x_runV (WW := MW q cy) (rest := []) E h (cM_comesOut hw) yyX11_comesOut lX11_297 0 rfl rfl ⟨Nat.le_of_ble_eq_true rfl, Nat.le_of_ble_eq_true rfl⟩ rfl rfl hl.1 rfl (Nat.le_of_ble_eq_true rfl) dX11_expression_219 ⟨Nat.le_refl 0, Nat.le_refl 0⟩) (fun σ5 H locs hw h => ?_)
        refine lv_aload_n hx hb dX11_expression_222 rfl (lv_at hl 0 rfl) ?_
        refine lv_dup hx hb dX11_expression_223 rfl ?_
        refine gX11_290 E h dX11_expression_224 ?_
        refine lv_iconst (v := 1) hx hb dX11_expression_227 (by decide) ?_
        refine lv_isub hx hb dX11_expression_228 ?_
        refine pX11_290 E h dX11_expression_229 (fun σ6 H locs eσ6 h => ?_)
        have hw := hw σ6 eσ6
        refine lv_aload_n hx hb dX11_expression_232 rfl (lv_at hl 0 rfl) ?_
        refine lv_dup hx hb dX11_expression_233 rfl ?_
        refine gX11_268 E h dX11_expression_234 ?_
        refine lv_iconst (v := 1) hx hb dX11_expression_237 (by decide) ?_
        refine lv_isub hx hb dX11_expression_238 ?_
        refine pX11_268 E h dX11_expression_239 (fun σ7 H locs eσ7 h => ?_)
        have hw := hw σ7 eσ7
        refine lv_aload_n hx hb dX11_expression_242 rfl (lv_at hl 0 rfl) ?_
        refine x_callv h (x_runV (WW := MW q cy) (rest := []) E h (cM_next hw) yyX11_next lX11_256 0 rfl rfl ⟨Nat.le_of_ble_eq_true rfl, Nat.le_of_ble_eq_true rfl⟩ rfl rfl hl.1 rfl (Nat.le_of_ble_eq_true rfl) dX11_expression_243 ⟨Nat.le_refl 0, Nat.le_refl 0⟩) (fun σ8 H locs hw h => ?_)
        refine lv_goto (tgt := 200) hx hb dX11_expression_246 (by decide) ?_
        exact ih _ _ _ _ _ h hw (lv_sub hl [0, 1] rfl)

def wpM_expression_196 (K12 : MS → Int32 → Int32 → Prop) (Post : MS → Prop) (σ : MS) (x1 : Int32) : Prop := wpM_next σ (fun σ1 => ∃ g, wpM_expression_200 K12 Post g σ1 x1)
set_option maxHeartbeats 1000000 in
set_option maxRecDepth 20000 in
theorem wkM_expression_196 {Post : MS → Prop} (E : xE cX11_expression RX11 5 none D cy p s m args meth c) {K12 : MS → Int32 → Int32 → Prop} (hK12 : ∀ (σ : MS) (x1 : Int32) (x2 : Int32) (H : Heap) (locs : List Loc) (ls : Array Slot), xH D A s (MW q cy σ) H locs → K12 σ x1 x2 → lv_has ls 5 [(0, .ref (q 0)), (1, .int x1), (2, .int x2)] → W p l e rM_expression s m args below meth c H locs 0 0 (MQ below (va_Qv Post (xB D cy (MW q cy) A) A) args s 0 0 A) (F0 m 12 ls [])) : ∀ (σ : MS) (x1 : Int32) (H : Heap) (locs : List Loc) (ls : Array Slot), xH D A s (MW q cy σ) H locs → wpM_expression_196 K12 Post σ x1 → lv_has ls 5 [(0, .ref (q 0)), (1, .int x1)] → W p l e rM_expression s m args below meth c H locs 0 0 (MQ below (va_Qv Post (xB D cy (MW q cy) A) A) args s 0 0 A) (F0 m 196 ls []) := by
  have hx := E.1
  have hb := E.2.1
  intro σ x1 H locs ls h hw hl
  unfold wpM_expression_196 at hw
  refine lv_aload_n hx hb dX11_expression_196 rfl (lv_at hl 0 rfl) ?_
  refine x_callv h (x_runV (WW := MW q cy) (rest := []) E h (cM_next hw) yyX11_next lX11_256 0 rfl rfl ⟨Nat.le_of_ble_eq_true rfl, Nat.le_of_ble_eq_true rfl⟩ rfl rfl hl.1 rfl (Nat.le_of_ble_eq_true rfl) dX11_expression_197 ⟨Nat.le_refl 0, Nat.le_refl 0⟩) (fun σ1 H locs hw h => ?_)
  obtain ⟨g, hw⟩ := hw
  exact wkM_expression_200 E hK12 g _ _ _ _ _ h hw (lv_sub hl [0, 1] rfl)

def wpM_expression_150 (K12 : MS → Int32 → Int32 → Prop) (Post : MS → Prop) (σ : MS) (x1 : Int32) (x3 : Int32) : Prop := ((σ.1 13) ≤ 0 → (x3 = 0 → vp_in (σ.1 11) 403 ∧ wpM_emit σ 0 (σ.2.1 5 (σ.1 11).toNatClampNeg) (fun σ4 => wpM_expression_196 K12 Post σ4 x1)) ∧ (¬ x3 = 0 → vp_in (σ.1 11) 403 ∧ wpM_emit σ 1 ((σ.2.1 3 (σ.1 11).toNatClampNeg) - 28) (fun σ6 => wpM_expression_196 K12 Post σ6 x1))) ∧ (¬ (σ.1 13) ≤ 0 → Post σ)
set_option maxHeartbeats 1000000 in
set_option maxRecDepth 20000 in
theorem wkM_expression_150 {Post : MS → Prop} (E : xE cX11_expression RX11 5 none D cy p s m args meth c) {K12 : MS → Int32 → Int32 → Prop} (hK12 : ∀ (σ : MS) (x1 : Int32) (x2 : Int32) (H : Heap) (locs : List Loc) (ls : Array Slot), xH D A s (MW q cy σ) H locs → K12 σ x1 x2 → lv_has ls 5 [(0, .ref (q 0)), (1, .int x1), (2, .int x2)] → W p l e rM_expression s m args below meth c H locs 0 0 (MQ below (va_Qv Post (xB D cy (MW q cy) A) A) args s 0 0 A) (F0 m 12 ls [])) : ∀ (σ : MS) (x1 : Int32) (x3 : Int32) (H : Heap) (locs : List Loc) (ls : Array Slot), xH D A s (MW q cy σ) H locs → wpM_expression_150 K12 Post σ x1 x3 → lv_has ls 5 [(0, .ref (q 0)), (1, .int x1), (3, .int x3)] → W p l e rM_expression s m args below meth c H locs 0 0 (MQ below (va_Qv Post (xB D cy (MW q cy) A) A) args s 0 0 A) (F0 m 150 ls []) := by
  have hx := E.1
  have hb := E.2.1
  intro σ x1 x3 H locs ls h hw hl
  unfold wpM_expression_150 at hw
  refine lv_aload_n hx hb dX11_expression_150 rfl (lv_at hl 0 rfl) ?_
  refine gX11_235 E h dX11_expression_151 ?_
  refine lv_if_le (tgt := 158) hx hb dX11_expression_154 (by decide) (fun c1 => ?_) (fun c1 => ?_)
  · have hw := hw.1 c1
    refine lv_iload_n hx hb dX11_expression_158 rfl (lv_at hl 2 rfl) ?_
    refine lv_if_eq (tgt := 182) hx hb dX11_expression_159 (by decide) (fun c2 => ?_) (fun c2 => ?_)
    · have hw := hw.1 c2
      refine lv_aload_n hx hb dX11_expression_182 rfl (lv_at hl 0 rfl) ?_
      refine lv_iconst (v := 0) hx hb dX11_expression_183 (by decide) ?_
      refine lv_aload_n hx hb dX11_expression_184 rfl (lv_at hl 0 rfl) ?_
      refine gX11_27 E h dX11_expression_185 ?_
      refine lv_aload_n hx hb dX11_expression_188 rfl (lv_at hl 0 rfl) ?_
      refine gX11_238 E h dX11_expression_189 ?_
      have h3 := hw.1
      have hw := hw.2
      refine aM_5 E h h3 dX11_expression_192 ?_
      refine x_callv h (x_runV (WW := MW q cy) (rest := []) E h (cM_emit hw) yyX11_emit lX11_293 0 rfl rfl ⟨Nat.le_of_ble_eq_true rfl, Nat.le_of_ble_eq_true rfl⟩ rfl rfl hl.1 rfl (Nat.le_of_ble_eq_true rfl) dX11_expression_193 ⟨Nat.le_refl 0, Nat.le_refl 0⟩) (fun σ4 H locs hw h => ?_)
      exact wkM_expression_196 E hK12 _ _ _ _ _ h hw (lv_sub hl [0, 1] rfl)
    · have hw := hw.2 c2
      refine lv_aload_n hx hb dX11_expression_162 rfl (lv_at hl 0 rfl) ?_
      refine lv_iconst (v := 1) hx hb dX11_expression_163 (by decide) ?_
      refine lv_aload_n hx hb dX11_expression_164 rfl (lv_at hl 0 rfl) ?_
      refine gX11_20 E h dX11_expression_165 ?_
      refine lv_aload_n hx hb dX11_expression_168 rfl (lv_at hl 0 rfl) ?_
      refine gX11_238 E h dX11_expression_169 ?_
      have h5 := hw.1
      have hw := hw.2
      refine aM_3 E h h5 dX11_expression_172 ?_
      refine lv_bipush (v := 28) hx hb dX11_expression_173 (by decide) ?_
      refine lv_isub hx hb dX11_expression_175 ?_
      refine x_callv h (x_runV (WW := MW q cy) (rest := []) E h (cM_emit hw) yyX11_emit lX11_293 0 rfl rfl ⟨Nat.le_of_ble_eq_true rfl, Nat.le_of_ble_eq_true rfl⟩ rfl rfl hl.1 rfl (Nat.le_of_ble_eq_true rfl) dX11_expression_176 ⟨Nat.le_refl 0, Nat.le_refl 0⟩) (fun σ6 H locs hw h => ?_)
      refine lv_goto (tgt := 196) hx hb dX11_expression_179 (by decide) ?_
      exact wkM_expression_196 E hK12 _ _ _ _ _ h hw (lv_sub hl [0, 1] rfl)
  · have hw := hw.2 c1
    exact x_vret E h hw dX11_expression_157

def wpM_expression_132 (K12 : MS → Int32 → Int32 → Prop) (Post : MS → Prop) (σ : MS) (x1 : Int32) (t0 : Int32) : Prop := wpM_is σ 2 (fun r1 σ2 => (r1 = 0 → (t0 = 0 → wpM_fail σ2 1 (fun σ5 => wpM_expression_150 K12 Post σ5 x1 t0)) ∧ (¬ t0 = 0 → wpM_expression_150 K12 Post σ2 x1 t0)) ∧ (¬ r1 = 0 → wpM_expression_150 K12 Post σ2 x1 t0))
set_option maxHeartbeats 1000000 in
set_option maxRecDepth 20000 in
theorem wkM_expression_132 {Post : MS → Prop} (E : xE cX11_expression RX11 5 none D cy p s m args meth c) {K12 : MS → Int32 → Int32 → Prop} (hK12 : ∀ (σ : MS) (x1 : Int32) (x2 : Int32) (H : Heap) (locs : List Loc) (ls : Array Slot), xH D A s (MW q cy σ) H locs → K12 σ x1 x2 → lv_has ls 5 [(0, .ref (q 0)), (1, .int x1), (2, .int x2)] → W p l e rM_expression s m args below meth c H locs 0 0 (MQ below (va_Qv Post (xB D cy (MW q cy) A) A) args s 0 0 A) (F0 m 12 ls [])) : ∀ (σ : MS) (x1 : Int32) (t0 : Int32) (H : Heap) (locs : List Loc) (ls : Array Slot), xH D A s (MW q cy σ) H locs → wpM_expression_132 K12 Post σ x1 t0 → lv_has ls 5 [(0, .ref (q 0)), (1, .int x1)] → W p l e rM_expression s m args below meth c H locs 0 0 (MQ below (va_Qv Post (xB D cy (MW q cy) A) A) args s 0 0 A) (F0 m 132 ls [.int t0]) := by
  have hx := E.1
  have hb := E.2.1
  intro σ x1 t0 H locs ls h hw hl
  unfold wpM_expression_132 at hw
  refine lv_istore_n (lv' := [(3, .int t0), (0, .ref (q 0)), (1, .int x1)]) hx hb dX11_expression_132 rfl hl (by decide) rfl (fun ls hl => ?_)
  refine lv_aload_n hx hb dX11_expression_133 rfl (lv_at hl 1 rfl) ?_
  refine lv_iconst (v := 2) hx hb dX11_expression_134 (by decide) ?_
  refine x_calli h (x_runV (WW := MW q cy) (rest := []) E h (cM_is hw) yyX11_is lX11_253 0 rfl rfl ⟨Nat.le_of_ble_eq_true rfl, Nat.le_of_ble_eq_true rfl⟩ rfl rfl hl.1 rfl (Nat.le_of_ble_eq_true rfl) dX11_expression_135 ⟨Nat.le_refl 0, Nat.le_refl 0⟩) (fun r1 σ2 H locs hw h => ?_)
  refine lv_if_ne (tgt := 150) hx hb dX11_expression_138 (by decide) (fun c3 => ?_) (fun c3 => ?_)
  · have hw := hw.2 c3
    exact wkM_expression_150 E hK12 _ _ _ _ _ _ h hw (lv_sub hl [1, 2, 0] rfl)
  · have hw := hw.1 c3
    refine lv_iload_n hx hb dX11_expression_141 rfl (lv_at hl 0 rfl) ?_
    refine lv_if_ne (tgt := 150) hx hb dX11_expression_142 (by decide) (fun c4 => ?_) (fun c4 => ?_)
    · have hw := hw.2 c4
      exact wkM_expression_150 E hK12 _ _ _ _ _ _ h hw (lv_sub hl [1, 2, 0] rfl)
    · have hw := hw.1 c4
      refine lv_aload_n hx hb dX11_expression_145 rfl (lv_at hl 1 rfl) ?_
      refine lv_iconst (v := 1) hx hb dX11_expression_146 (by decide) ?_
      refine x_callv h (x_runV (WW := MW q cy) (rest := []) E h (cM_fail hw) yyX11_fail lX11_250 0 rfl rfl ⟨Nat.le_of_ble_eq_true rfl, Nat.le_of_ble_eq_true rfl⟩ rfl rfl hl.1 rfl (Nat.le_of_ble_eq_true rfl) dX11_expression_147 ⟨Nat.le_refl 0, Nat.le_refl 0⟩) (fun σ5 H locs hw h => ?_)
      exact wkM_expression_150 E hK12 _ _ _ _ _ _ h hw (lv_sub hl [1, 2, 0] rfl)

def wpM_expression_131 (K12 : MS → Int32 → Int32 → Prop) (Post : MS → Prop) (σ : MS) (x1 : Int32) : Prop := wpM_expression_132 K12 Post σ x1 0
set_option maxHeartbeats 1000000 in
set_option maxRecDepth 20000 in
theorem wkM_expression_131 {Post : MS → Prop} (E : xE cX11_expression RX11 5 none D cy p s m args meth c) {K12 : MS → Int32 → Int32 → Prop} (hK12 : ∀ (σ : MS) (x1 : Int32) (x2 : Int32) (H : Heap) (locs : List Loc) (ls : Array Slot), xH D A s (MW q cy σ) H locs → K12 σ x1 x2 → lv_has ls 5 [(0, .ref (q 0)), (1, .int x1), (2, .int x2)] → W p l e rM_expression s m args below meth c H locs 0 0 (MQ below (va_Qv Post (xB D cy (MW q cy) A) A) args s 0 0 A) (F0 m 12 ls [])) : ∀ (σ : MS) (x1 : Int32) (H : Heap) (locs : List Loc) (ls : Array Slot), xH D A s (MW q cy σ) H locs → wpM_expression_131 K12 Post σ x1 → lv_has ls 5 [(0, .ref (q 0)), (1, .int x1)] → W p l e rM_expression s m args below meth c H locs 0 0 (MQ below (va_Qv Post (xB D cy (MW q cy) A) A) args s 0 0 A) (F0 m 131 ls []) := by
  have hx := E.1
  have hb := E.2.1
  intro σ x1 H locs ls h hw hl
  unfold wpM_expression_131 at hw
  refine lv_iconst (v := 0) hx hb dX11_expression_131 (by decide) ?_
  exact wkM_expression_132 E hK12 _ _ _ _ _ _ h hw (lv_sub hl [0, 1] rfl)

def wpM_expression_12 (Post : MS → Prop) : Nat → MS → Int32 → Int32 → Prop
  | 0, _, _, _ => False
  | n + 1, σ, x1, x2 => (x2 = 0 → Post σ) ∧ (¬ x2 = 0 → ((σ.1 13) = 0 → wpM_is σ 6 (fun r3 σ4 => (r3 = 0 → ((σ4.1 13) = 0 → vp_in (σ4.1 11) 403 ∧ ((σ4.2.1 3 (σ4.1 11).toNatClampNeg) < 28 → wpM_expression_131 (fun a0 a1 a2 => wpM_expression_12 Post n a0 a1 a2) Post σ4 x1) ∧ (¬ (σ4.2.1 3 (σ4.1 11).toNatClampNeg) < 28 → vp_in (σ4.1 11) 403 ∧ (39 < (σ4.2.1 3 (σ4.1 11).toNatClampNeg) → wpM_expression_131 (fun a0 a1 a2 => wpM_expression_12 Post n a0 a1 a2) Post σ4 x1) ∧ (¬ 39 < (σ4.2.1 3 (σ4.1 11).toNatClampNeg) → wpM_expression_132 (fun a0 a1 a2 => wpM_expression_12 Post n a0 a1 a2) Post σ4 x1 1))) ∧ (¬ (σ4.1 13) = 0 → wpM_expression_131 (fun a0 a1 a2 => wpM_expression_12 Post n a0 a1 a2) Post σ4 x1)) ∧ (¬ r3 = 0 → ((σ4.1 12) = 6 → wpM_fail σ4 2 (fun σ12 => wpM_expression_46 (fun a0 a1 a2 => wpM_expression_12 Post n a0 a1 a2) Post σ12 x1 x2)) ∧ (¬ (σ4.1 12) = 6 → wpM_expression_46 (fun a0 a1 a2 => wpM_expression_12 Post n a0 a1 a2) Post σ4 x1 x2)))) ∧ (¬ (σ.1 13) = 0 → Post σ))
set_option maxHeartbeats 1000000 in
set_option maxRecDepth 20000 in
theorem wkM_expression_12 {Post : MS → Prop} (E : xE cX11_expression RX11 5 none D cy p s m args meth c) : ∀ n : Nat, ∀ (σ : MS) (x1 : Int32) (x2 : Int32) (H : Heap) (locs : List Loc) (ls : Array Slot), xH D A s (MW q cy σ) H locs → wpM_expression_12 Post n σ x1 x2 → lv_has ls 5 [(0, .ref (q 0)), (1, .int x1), (2, .int x2)] → W p l e rM_expression s m args below meth c H locs 0 0 (MQ below (va_Qv Post (xB D cy (MW q cy) A) A) args s 0 0 A) (F0 m 12 ls []) := by
  have hx := E.1
  have hb := E.2.1
  intro n
  induction n with
  | zero => intro σ x1 x2 H locs ls h hw hl; exact False.elim hw
  | succ n ih =>
    intro σ x1 x2 H locs ls h hw hl
    refine lv_iload_n hx hb dX11_expression_12 rfl (lv_at hl 2 rfl) ?_
    refine lv_if_eq (tgt := 360) hx hb dX11_expression_13 (by decide) (fun c1 => ?_) (fun c1 => ?_)
    · have hw := hw.1 c1
      exact x_vret E h hw dX11_expression_360
    · have hw := hw.2 c1
      refine lv_aload_n hx hb dX11_expression_16 rfl (lv_at hl 0 rfl) ?_
      refine gX11_235 E h dX11_expression_17 ?_
      refine lv_if_ne (tgt := 360) hx hb dX11_expression_20 (by decide) (fun c2 => ?_) (fun c2 => ?_)
      · have hw := hw.2 c2
        exact x_vret E h hw dX11_expression_360
      · have hw := hw.1 c2
        refine lv_aload_n hx hb dX11_expression_23 rfl (lv_at hl 0 rfl) ?_
        refine lv_bipush (v := 6) hx hb dX11_expression_24 (by decide) ?_
        refine x_calli h (x_runV (WW := MW q cy) (rest := []) E h (cM_is hw) yyX11_is lX11_253 0 rfl rfl ⟨Nat.le_of_ble_eq_true rfl, Nat.le_of_ble_eq_true rfl⟩ rfl rfl hl.1 rfl (Nat.le_of_ble_eq_true rfl) dX11_expression_26 ⟨Nat.le_refl 0, Nat.le_refl 0⟩) (fun r3 σ4 H locs hw h => ?_)
        refine lv_if_eq (tgt := 92) hx hb dX11_expression_29 (by decide) (fun c5 => ?_) (fun c5 => ?_)
        · have hw := hw.1 c5
          refine lv_aload_n hx hb dX11_expression_92 rfl (lv_at hl 0 rfl) ?_
          refine gX11_235 E h dX11_expression_93 ?_
          refine lv_if_ne (tgt := 131) hx hb dX11_expression_96 (by decide) (fun c6 => ?_) (fun c6 => ?_)
          · have hw := hw.2 c6
            exact wkM_expression_131 E ih _ _ _ _ _ h hw (lv_sub hl [0, 1] rfl)
          · have hw := hw.1 c6
            refine lv_aload_n hx hb dX11_expression_99 rfl (lv_at hl 0 rfl) ?_
            refine gX11_20 E h dX11_expression_100 ?_
            refine lv_aload_n hx hb dX11_expression_103 rfl (lv_at hl 0 rfl) ?_
            refine gX11_238 E h dX11_expression_104 ?_
            have h7 := hw.1
            have hw := hw.2
            refine aM_3 E h h7 dX11_expression_107 ?_
            refine lv_bipush (v := 28) hx hb dX11_expression_108 (by decide) ?_
            refine lv_icmp_lt (tgt := 131) hx hb dX11_expression_110 (by decide) (fun c8 => ?_) (fun c8 => ?_)
            · have hw := hw.1 c8
              exact wkM_expression_131 E ih _ _ _ _ _ h hw (lv_sub hl [0, 1] rfl)
            · have hw := hw.2 c8
              refine lv_aload_n hx hb dX11_expression_113 rfl (lv_at hl 0 rfl) ?_
              refine gX11_20 E h dX11_expression_114 ?_
              refine lv_aload_n hx hb dX11_expression_117 rfl (lv_at hl 0 rfl) ?_
              refine gX11_238 E h dX11_expression_118 ?_
              have h9 := hw.1
              have hw := hw.2
              refine aM_3 E h h9 dX11_expression_121 ?_
              refine lv_bipush (v := 39) hx hb dX11_expression_122 (by decide) ?_
              refine lv_icmp_gt (tgt := 131) hx hb dX11_expression_124 (by decide) (fun c10 => ?_) (fun c10 => ?_)
              · have hw := hw.1 c10
                exact wkM_expression_131 E ih _ _ _ _ _ h hw (lv_sub hl [0, 1] rfl)
              · have hw := hw.2 c10
                refine lv_iconst (v := 1) hx hb dX11_expression_127 (by decide) ?_
                refine lv_goto (tgt := 132) hx hb dX11_expression_128 (by decide) ?_
                exact wkM_expression_132 E ih _ _ _ _ _ _ h hw (lv_sub hl [0, 1] rfl)
        · have hw := hw.2 c5
          refine lv_aload_n hx hb dX11_expression_32 rfl (lv_at hl 0 rfl) ?_
          refine gX11_268 E h dX11_expression_33 ?_
          refine lv_bipush (v := 6) hx hb dX11_expression_36 (by decide) ?_
          refine lv_icmp_ne (tgt := 46) hx hb dX11_expression_38 (by decide) (fun c11 => ?_) (fun c11 => ?_)
          · have hw := hw.2 c11
            exact wkM_expression_46 E ih _ _ _ _ _ _ h hw (lv_sub hl [0, 1, 2] rfl)
          · have hw := hw.1 c11
            refine lv_aload_n hx hb dX11_expression_41 rfl (lv_at hl 0 rfl) ?_
            refine lv_iconst (v := 2) hx hb dX11_expression_42 (by decide) ?_
            refine x_callv h (x_runV (WW := MW q cy) (rest := []) E h (cM_fail hw) yyX11_fail lX11_250 0 rfl rfl ⟨Nat.le_of_ble_eq_true rfl, Nat.le_of_ble_eq_true rfl⟩ rfl rfl hl.1 rfl (Nat.le_of_ble_eq_true rfl) dX11_expression_43 ⟨Nat.le_refl 0, Nat.le_refl 0⟩) (fun σ12 H locs hw h => ?_)
            exact wkM_expression_46 E ih _ _ _ _ _ _ h hw (lv_sub hl [0, 1, 2] rfl)

def wpM_expression (σ : MS) (Post : MS → Prop) : Prop := ∀ σ1 : MS, σ1 = mF σ 39 0 → ∀ y2 : Int32, y2 = σ1.1 12 → ∃ g, wpM_expression_12 Post g σ1 y2 1
set_option maxHeartbeats 1000000 in
set_option maxRecDepth 20000 in
theorem cM_expression {l : Launch} {D : va_G} {cy : Nat → ClassId} {q : Nat → Nat} {σ : MS} {sz : Nat} {Post : MS → Prop} (hw : wpM_expression σ Post) : Met l yX11_expression (Cond.code yX11_expression cX11_expression 5 none :: wsA) rM_expression (xPc D cy (MW q cy σ) sz [.ref (q 0)]) (va_Qv Post (xB D cy (MW q cy) (va_A (MW q cy σ) sz)) (va_A (MW q cy σ) sz)) 0 0 (va_A (MW q cy σ) sz) := by
  refine x_enter (own := RX11) (WW := MW q cy) (by decide) rfl (Nat.le_of_ble_eq_true rfl) ?_
  intro p e s m below meth c ls E h hl
  have hx := E.1
  have hb := E.2.1
  have hl : lv_has ls 5 [(0, .ref (q 0))] := hl
  unfold wpM_expression at hw
  refine lv_aload_n hx hb dX11_expression_0 rfl (lv_at hl 0 rfl) ?_
  refine lv_iconst (v := 0) hx hb dX11_expression_1 (by decide) ?_
  refine pX11_290 E h dX11_expression_2 (fun σ1 H locs eσ1 h => ?_)
  have hw := hw σ1 eσ1
  refine lv_aload_n hx hb dX11_expression_5 rfl (lv_at hl 0 rfl) ?_
  refine gX11_268 E h dX11_expression_6 ?_
  refine lv_topi (fun y2 ey2 => ?_)
  have hw := hw y2 ey2
  refine lv_istore_n (lv' := [(1, .int y2), (0, .ref (q 0))]) hx hb dX11_expression_9 rfl hl (by decide) rfl (fun ls hl => ?_)
  refine lv_iconst (v := 1) hx hb dX11_expression_10 (by decide) ?_
  refine lv_istore_n (lv' := [(2, .int 1), (1, .int y2), (0, .ref (q 0))]) hx hb dX11_expression_11 rfl hl (by decide) rfl (fun ls hl => ?_)
  obtain ⟨g, hw⟩ := hw
  exact wkM_expression_12 E g _ _ _ _ _ _ h hw (lv_sub hl [2, 1, 0] rfl)

end MWalk
