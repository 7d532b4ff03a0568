section MWalk
variable {p : Program} {l : Launch} {e : Env} {s : State} {m : MethodId} {args : Array Value} {below : List Frame} {meth : Method} {c : Code} {D : va_G} {cy : Nat → ClassId} {q : Nat → Nat} {A : Nat → Prop}
abbrev rM_degree : Room := { frames := 1, cells := 0, slots := 0, locals := 27 }
def wpM_degree (σ : MS) (x1 : Int32) (x2 : Int32) (Post : Int32 → MS → Prop) : Prop := wpM_isPerson σ x1 (fun r1 σ2 => (r1 = 0 → Post ((-1)) σ2) ∧ (¬ r1 = 0 → wpM_isPerson σ2 x2 (fun r4 σ5 => (r4 = 0 → Post ((-1)) σ5) ∧ (¬ r4 = 0 → wpM_degreeOf σ5 x1 x2 (fun r7 σ8 => Post r7 σ8)))))
set_option maxHeartbeats 1000000 in
set_option maxRecDepth 20000 in
theorem cM_degree {l : Launch} {D : va_G} {cy : Nat → ClassId} {q : Nat → Nat} {σ : MS} {sz : Nat} {x1 : Int32} {x2 : Int32} {Post : Int32 → MS → Prop} (hw : wpM_degree σ x1 x2 Post) : Met l yX11_degree (Cond.code yX11_degree cX11_degree 3 (some .int) :: wsA) rM_degree (xPc D cy (MW q cy σ) sz [.ref (q 0), .int x1, .int x2]) (va_Qi Post (xB D cy (MW q cy) (va_A (MW q cy σ) sz)) (va_A (MW q cy σ) sz)) 0 0 (va_A (MW q cy σ) sz) := by
  refine x_enter (own := RX11) (WW := MW q cy) (by decide) rfl (Nat.le_of_ble_eq_true rfl) ?_
  intro p e s m below meth c ls E h hl
  have hx := E.1
  have hb := E.2.1
  have hl : lv_has ls 3 [(0, .ref (q 0)), (1, .int x1), (2, .int x2)] := hl
  unfold wpM_degree at hw
  refine lv_aload_n hx hb dX11_degree_0 rfl (lv_at hl 0 rfl) ?_
  refine lv_iload_n hx hb dX11_degree_1 rfl (lv_at hl 1 rfl) ?_
  refine x_calli h (x_runV (WW := MW q cy) (rest := []) E h (cM_isPerson hw) yyX11_isPerson lX11_303 0 rfl rfl ⟨Nat.le_of_ble_eq_true rfl, Nat.le_of_ble_eq_true rfl⟩ rfl rfl hl.1 rfl (Nat.le_of_ble_eq_true rfl) dX11_degree_2 ⟨Nat.le_refl 0, Nat.le_refl 0⟩) (fun r1 σ2 H locs hw h => ?_)
  refine lv_if_eq (tgt := 25) hx hb dX11_degree_5 (by decide) (fun c3 => ?_) (fun c3 => ?_)
  · have hw := hw.1 c3
    refine lv_iconst (v := (-1)) hx hb dX11_degree_25 (by decide) ?_
    exact x_iret E h hw dX11_degree_26
  · have hw := hw.2 c3
    refine lv_aload_n hx hb dX11_degree_8 rfl (lv_at hl 0 rfl) ?_
    refine lv_iload_n hx hb dX11_degree_9 rfl (lv_at hl 2 rfl) ?_
    refine x_calli h (x_runV (WW := MW q cy) (rest := []) E h (cM_isPerson hw) yyX11_isPerson lX11_303 0 rfl rfl ⟨Nat.le_of_ble_eq_true rfl, Nat.le_of_ble_eq_true rfl⟩ rfl rfl hl.1 rfl (Nat.le_of_ble_eq_true rfl) dX11_degree_10 ⟨Nat.le_refl 0, Nat.le_refl 0⟩) (fun r4 σ5 H locs hw h => ?_)
    refine lv_if_eq (tgt := 25) hx hb dX11_degree_13 (by decide) (fun c6 => ?_) (fun c6 => ?_)
    · have hw := hw.1 c6
      refine lv_iconst (v := (-1)) hx hb dX11_degree_25 (by decide) ?_
      exact x_iret E h hw dX11_degree_26
    · have hw := hw.2 c6
      refine lv_aload_n hx hb dX11_degree_16 rfl (lv_at hl 0 rfl) ?_
      refine lv_iload_n hx hb dX11_degree_17 rfl (lv_at hl 1 rfl) ?_
      refine lv_iload_n hx hb dX11_degree_18 rfl (lv_at hl 2 rfl) ?_
      refine x_calli h (x_runV (WW := MW q cy) (rest := []) E h (cM_degreeOf hw) yyX11_degreeOf lX11_306 0 rfl rfl ⟨Nat.le_of_ble_eq_true rfl, Nat.le_of_ble_eq_true rfl⟩ rfl rfl hl.1 rfl (Nat.le_of_ble_eq_true rfl) dX11_degree_19 ⟨Nat.le_refl 0, Nat.le_refl 0⟩) (fun r7 σ8 H locs hw h => ?_)
      refine lv_goto (tgt := 26) hx hb dX11_degree_22 (by decide) ?_
      exact x_iret E h hw dX11_degree_26

abbrev rM_gaps : Room := { frames := 1, cells := 0, slots := 0, locals := 21 }
def wpM_gaps_78 (K21 : MS → Int32 → Int32 → Prop) (Post : Int32 → MS → Prop) (σ : MS) (x2 : Int32) (x3 : Int32) (t1 : Int32) (t2 : Int32) : Prop := vp_in t1 15 ∧ ∀ σ1 : MS, σ1 = mA σ 30 (upd (σ.2.1 30) t1.toNatClampNeg t2) → vp_in x3 15 ∧ ((σ1.2.1 30 x3.toNatClampNeg) = ((-1)) → ∀ y6 : Int32, y6 = x2 + 1 → ∀ y7 : Int32, y7 = x3 + 1 → K21 σ1 y6 y7) ∧ (¬ (σ1.2.1 30 x3.toNatClampNeg) = ((-1)) → ∀ y5 : Int32, y5 = x3 + 1 → K21 σ1 x2 y5)
set_option maxHeartbeats 1000000 in
set_option maxRecDepth 20000 in
theorem wkM_gaps_78 {Post : Int32 → MS → Prop} (E : xE cX11_gaps RX11 5 (some .int) D cy p s m args meth c) {K21 : MS → Int32 → Int32 → Prop} (hK21 : ∀ (σ : MS) (x2 : Int32) (x3 : Int32) (H : Heap) (locs : List Loc) (ls : Array Slot), xH D A s (MW q cy σ) H locs → K21 σ x2 x3 → lv_has ls 5 [(0, .ref (q 0)), (2, .int x2), (3, .int x3)] → W p l e rM_gaps s m args below meth c H locs 0 0 (MQ below (va_Qi Post (xB D cy (MW q cy) A) A) args s 0 0 A) (F0 m 21 ls [])) : ∀ (σ : MS) (x2 : Int32) (x3 : Int32) (t1 : Int32) (t2 : Int32) (H : Heap) (locs : List Loc) (ls : Array Slot), xH D A s (MW q cy σ) H locs → wpM_gaps_78 K21 Post σ x2 x3 t1 t2 → lv_has ls 5 [(0, .ref (q 0)), (2, .int x2), (3, .int x3)] → W p l e rM_gaps s m args below meth c H locs 0 0 (MQ below (va_Qi Post (xB D cy (MW q cy) A) A) args s 0 0 A) (F0 m 78 ls [.int t2, .int t1, .ref (q 30)]) := by
  have hx := E.1
  have hb := E.2.1
  intro σ x2 x3 t1 t2 H locs ls h hw hl
  unfold wpM_gaps_78 at hw
  have h2 := hw.1
  have hw := hw.2
  refine sM_30 E h h2 dX11_gaps_78 (fun σ1 H locs eσ1 h => ?_)
  have hw := hw σ1 eσ1
  refine lv_aload_n hx hb dX11_gaps_79 rfl (lv_at hl 0 rfl) ?_
  refine gX11_107 E h dX11_gaps_80 ?_
  refine lv_iload_n hx hb dX11_gaps_83 rfl (lv_at hl 2 rfl) ?_
  have h3 := hw.1
  have hw := hw.2
  refine aM_30 E h h3 dX11_gaps_84 ?_
  refine lv_iconst (v := (-1)) hx hb dX11_gaps_85 (by decide) ?_
  refine lv_icmp_ne (tgt := 92) hx hb dX11_gaps_86 (by decide) (fun c4 => ?_) (fun c4 => ?_)
  · have hw := hw.2 c4
    obtain ⟨y5, ey5⟩ : ∃ z : Int32, z = x3 + 1 := ⟨_, rfl⟩
    have hw := hw y5 ey5
    refine lv_iinc (v := y5) (lv' := [(3, .int y5), (0, .ref (q 0)), (2, .int x2)]) hx hb dX11_gaps_92 hl (k := 2) rfl (by rw [ey5]; rfl) (by decide) rfl (fun ls hl => ?_)
    refine lv_goto (tgt := 21) hx hb dX11_gaps_95 (by decide) ?_
    exact hK21 _ _ _ _ _ _ h hw (lv_sub hl [1, 2, 0] rfl)
  · have hw := hw.1 c4
    obtain ⟨y6, ey6⟩ : ∃ z : Int32, z = x2 + 1 := ⟨_, rfl⟩
    have hw := hw y6 ey6
    refine lv_iinc (v := y6) (lv' := [(2, .int y6), (0, .ref (q 0)), (3, .int x3)]) hx hb dX11_gaps_89 hl (k := 1) rfl (by rw [ey6]; rfl) (by decide) rfl (fun ls hl => ?_)
    obtain ⟨y7, ey7⟩ : ∃ z : Int32, z = x3 + 1 := ⟨_, rfl⟩
    have hw := hw y7 ey7
    refine lv_iinc (v := y7) (lv' := [(3, .int y7), (2, .int y6), (0, .ref (q 0))]) hx hb dX11_gaps_92 hl (k := 2) rfl (by rw [ey7]; rfl) (by decide) rfl (fun ls hl => ?_)
    refine lv_goto (tgt := 21) hx hb dX11_gaps_95 (by decide) ?_
    exact hK21 _ _ _ _ _ _ h hw (lv_sub hl [2, 1, 0] rfl)

def wpM_gaps_21 (Post : Int32 → MS → Prop) : Nat → MS → Int32 → Int32 → Prop
  | 0, _, _, _ => False
  | n + 1, σ, x2, x3 => (15 ≤ x3 → Post x2 σ) ∧ (¬ 15 ≤ x3 → vp_in ((x3 - 1) / 2) 15 ∧ ∀ y3 : Int32, y3 = σ.2.1 30 ((x3 - 1) / 2).toNatClampNeg → (y3 = ((-1)) → wpM_gaps_78 (fun a0 a1 a2 => wpM_gaps_21 Post n a0 a1 a2) Post σ x2 x3 x3 ((-1))) ∧ (¬ y3 = ((-1)) → ((x3 - x3 / 2 * 2) = 1 → vp_in y3 12 ∧ wpM_gaps_78 (fun a0 a1 a2 => wpM_gaps_21 Post n a0 a1 a2) Post σ x2 x3 x3 (σ.2.1 26 y3.toNatClampNeg)) ∧ (¬ (x3 - x3 / 2 * 2) = 1 → vp_in y3 12 ∧ wpM_gaps_78 (fun a0 a1 a2 => wpM_gaps_21 Post n a0 a1 a2) Post σ x2 x3 x3 (σ.2.1 27 y3.toNatClampNeg))))
set_option maxHeartbeats 1000000 in
set_option maxRecDepth 20000 in
theorem wkM_gaps_21 {Post : Int32 → MS → Prop} (E : xE cX11_gaps RX11 5 (some .int) D cy p s m args meth c) : ∀ n : Nat, ∀ (σ : MS) (x2 : Int32) (x3 : Int32) (H : Heap) (locs : List Loc) (ls : Array Slot), xH D A s (MW q cy σ) H locs → wpM_gaps_21 Post n σ x2 x3 → lv_has ls 5 [(0, .ref (q 0)), (2, .int x2), (3, .int x3)] → W p l e rM_gaps s m args below meth c H locs 0 0 (MQ below (va_Qi Post (xB D cy (MW q cy) A) A) args s 0 0 A) (F0 m 21 ls []) := by
  have hx := E.1
  have hb := E.2.1
  intro n
  induction n with
  | zero => intro σ x2 x3 H locs ls h hw hl; exact False.elim hw
  | succ n ih =>
    intro σ x2 x3 H locs ls h hw hl
    refine lv_iload_n hx hb dX11_gaps_21 rfl (lv_at hl 2 rfl) ?_
    refine lv_bipush (v := 15) hx hb dX11_gaps_22 (by decide) ?_
    refine lv_icmp_ge (tgt := 98) hx hb dX11_gaps_24 (by decide) (fun c1 => ?_) (fun c1 => ?_)
    · have hw := hw.1 c1
      refine lv_iload_n hx hb dX11_gaps_98 rfl (lv_at hl 1 rfl) ?_
      exact x_iret E h hw dX11_gaps_99
    · have hw := hw.2 c1
      refine lv_aload_n hx hb dX11_gaps_27 rfl (lv_at hl 0 rfl) ?_
      refine gX11_107 E h dX11_gaps_28 ?_
      refine lv_iload_n hx hb dX11_gaps_31 rfl (lv_at hl 2 rfl) ?_
      refine lv_iconst (v := 1) hx hb dX11_gaps_32 (by decide) ?_
      refine lv_isub hx hb dX11_gaps_33 ?_
      refine lv_iconst (v := 2) hx hb dX11_gaps_34 (by decide) ?_
      refine lv_idiv hx hb dX11_gaps_35 (by decide) ?_
      have h2 := hw.1
      have hw := hw.2
      refine aM_30 E h h2 dX11_gaps_36 ?_
      refine lv_topi (fun y3 ey3 => ?_)
      have hw := hw y3 ey3
      refine lv_istore (lv' := [(4, .int y3), (0, .ref (q 0)), (2, .int x2), (3, .int x3)]) hx hb dX11_gaps_37 hl (by decide) rfl (fun ls hl => ?_)
      refine lv_aload_n hx hb dX11_gaps_39 rfl (lv_at hl 1 rfl) ?_
      refine gX11_107 E h dX11_gaps_40 ?_
      refine lv_iload_n hx hb dX11_gaps_43 rfl (lv_at hl 3 rfl) ?_
      refine lv_iload hx hb dX11_gaps_44 (lv_at hl 0 rfl) ?_
      refine lv_iconst (v := (-1)) hx hb dX11_gaps_46 (by decide) ?_
      refine lv_icmp_ne (tgt := 54) hx hb dX11_gaps_47 (by decide) (fun c4 => ?_) (fun c4 => ?_)
      · have hw := hw.2 c4
        refine lv_iload_n hx hb dX11_gaps_54 rfl (lv_at hl 3 rfl) ?_
        refine lv_iconst (v := 2) hx hb dX11_gaps_55 (by decide) ?_
        refine lv_irem hx hb dX11_gaps_56 (by decide) ?_
        refine lv_iconst (v := 1) hx hb dX11_gaps_57 (by decide) ?_
        refine lv_icmp_ne (tgt := 71) hx hb dX11_gaps_58 (by decide) (fun c5 => ?_) (fun c5 => ?_)
        · have hw := hw.2 c5
          refine lv_aload_n hx hb dX11_gaps_71 rfl (lv_at hl 1 rfl) ?_
          refine gX11_98 E h dX11_gaps_72 ?_
          refine lv_iload hx hb dX11_gaps_75 (lv_at hl 0 rfl) ?_
          have h6 := hw.1
          have hw := hw.2
          refine aM_27 E h h6 dX11_gaps_77 ?_
          exact wkM_gaps_78 E ih _ _ _ _ _ _ _ _ h hw (lv_sub hl [1, 2, 3] rfl)
        · have hw := hw.1 c5
          refine lv_aload_n hx hb dX11_gaps_61 rfl (lv_at hl 1 rfl) ?_
          refine gX11_95 E h dX11_gaps_62 ?_
          refine lv_iload hx hb dX11_gaps_65 (lv_at hl 0 rfl) ?_
          have h7 := hw.1
          have hw := hw.2
          refine aM_26 E h h7 dX11_gaps_67 ?_
          refine lv_goto (tgt := 78) hx hb dX11_gaps_68 (by decide) ?_
          exact wkM_gaps_78 E ih _ _ _ _ _ _ _ _ h hw (lv_sub hl [1, 2, 3] rfl)
      · have hw := hw.1 c4
        refine lv_iconst (v := (-1)) hx hb dX11_gaps_50 (by decide) ?_
        refine lv_goto (tgt := 78) hx hb dX11_gaps_51 (by decide) ?_
        exact wkM_gaps_78 E ih _ _ _ _ _ _ _ _ h hw (lv_sub hl [1, 2, 3] rfl)

def wpM_gaps (σ : MS) (x1 : Int32) (Post : Int32 → MS → Prop) : Prop := wpM_isPerson σ x1 (fun r1 σ2 => (r1 = 0 → Post ((-1)) σ2) ∧ (¬ r1 = 0 → vp_in 0 15 ∧ ∀ σ4 : MS, σ4 = mA σ2 30 (upd (σ2.2.1 30) (0 : Int32).toNatClampNeg x1) → ∃ g, wpM_gaps_21 Post g σ4 0 1))
set_option maxHeartbeats 1000000 in
set_option maxRecDepth 20000 in
theorem cM_gaps {l : Launch} {D : va_G} {cy : Nat → ClassId} {q : Nat → Nat} {σ : MS} {sz : Nat} {x1 : Int32} {Post : Int32 → MS → Prop} (hw : wpM_gaps σ x1 Post) : Met l yX11_gaps (Cond.code yX11_gaps cX11_gaps 5 (some .int) :: wsA) rM_gaps (xPc D cy (MW q cy σ) sz [.ref (q 0), .int x1]) (va_Qi Post (xB D cy (MW q cy) (va_A (MW q cy σ) sz)) (va_A (MW q cy σ) sz)) 0 0 (va_A (MW q cy σ) sz) := by
  refine x_enter (own := RX11) (WW := MW q cy) (by decide) rfl (Nat.le_of_ble_eq_true rfl) ?_
  intro p e s m below meth c ls E h hl
  have hx := E.1
  have hb := E.2.1
  have hl : lv_has ls 5 [(0, .ref (q 0)), (1, .int x1)] := hl
  unfold wpM_gaps at hw
  refine lv_aload_n hx hb dX11_gaps_0 rfl (lv_at hl 0 rfl) ?_
  refine lv_iload_n hx hb dX11_gaps_1 rfl (lv_at hl 1 rfl) ?_
  refine x_calli h (x_runV (WW := MW q cy) (rest := []) E h (cM_isPerson hw) yyX11_isPerson lX11_303 0 rfl rfl ⟨Nat.le_of_ble_eq_true rfl, Nat.le_of_ble_eq_true rfl⟩ rfl rfl hl.1 rfl (Nat.le_of_ble_eq_true rfl) dX11_gaps_2 ⟨Nat.le_refl 0, Nat.le_refl 0⟩) (fun r1 σ2 H locs hw h => ?_)
  refine lv_if_ne (tgt := 10) hx hb dX11_gaps_5 (by decide) (fun c3 => ?_) (fun c3 => ?_)
  · have hw := hw.2 c3
    refine lv_iconst (v := 0) hx hb dX11_gaps_10 (by decide) ?_
    refine lv_istore_n (lv' := [(2, .int 0), (0, .ref (q 0)), (1, .int x1)]) hx hb dX11_gaps_11 rfl hl (by decide) rfl (fun ls hl => ?_)
    refine lv_aload_n hx hb dX11_gaps_12 rfl (lv_at hl 1 rfl) ?_
    refine gX11_107 E h dX11_gaps_13 ?_
    refine lv_iconst (v := 0) hx hb dX11_gaps_16 (by decide) ?_
    refine lv_iload_n hx hb dX11_gaps_17 rfl (lv_at hl 2 rfl) ?_
    have h5 := hw.1
    have hw := hw.2
    refine sM_30 E h h5 dX11_gaps_18 (fun σ4 H locs eσ4 h => ?_)
    have hw := hw σ4 eσ4
    refine lv_iconst (v := 1) hx hb dX11_gaps_19 (by decide) ?_
    refine lv_istore_n (lv' := [(3, .int 1), (2, .int 0), (0, .ref (q 0)), (1, .int x1)]) hx hb dX11_gaps_20 rfl hl (by decide) rfl (fun ls hl => ?_)
    obtain ⟨g, hw⟩ := hw
    exact wkM_gaps_21 E g _ _ _ _ _ _ h hw (lv_sub hl [2, 1, 0] rfl)
  · have hw := hw.1 c3
    refine lv_iconst (v := (-1)) hx hb dX11_gaps_8 (by decide) ?_
    exact x_iret E h hw dX11_gaps_9

abbrev rM_isPromise : Room := { frames := 0, cells := 0, slots := 0, locals := 0 }
def wpM_isPromise (σ : MS) (x1 : Int32) (Post : Int32 → MS → Prop) : Prop := (x1 < 0 → Post 0 σ) ∧ (¬ x1 < 0 → ((σ.1 46) ≤ x1 → Post 0 σ) ∧ (¬ (σ.1 46) ≤ x1 → Post 1 σ))
set_option maxHeartbeats 1000000 in
set_option maxRecDepth 20000 in
theorem cM_isPromise {l : Launch} {D : va_G} {cy : Nat → ClassId} {q : Nat → Nat} {σ : MS} {sz : Nat} {x1 : Int32} {Post : Int32 → MS → Prop} (hw : wpM_isPromise σ x1 Post) : Met l yX11_isPromise (Cond.code yX11_isPromise cX11_isPromise 2 (some .boolean) :: wsA) rM_isPromise (xPc D cy (MW q cy σ) sz [.ref (q 0), .int x1]) (va_Qi Post (xB D cy (MW q cy) (va_A (MW q cy σ) sz)) (va_A (MW q cy σ) sz)) 0 0 (va_A (MW q cy σ) sz) := by
  refine x_enter (own := RX11) (WW := MW q cy) (by decide) rfl (Nat.le_of_ble_eq_true rfl) ?_
  intro p e s m below meth c ls E h hl
  have hx := E.1
  have hb := E.2.1
  have hl : lv_has ls 2 [(0, .ref (q 0)), (1, .int x1)] := hl
  unfold wpM_isPromise at hw
  refine lv_iload_n hx hb dX11_isPromise_0 rfl (lv_at hl 1 rfl) ?_
  refine lv_if_lt (tgt := 16) hx hb dX11_isPromise_1 (by decide) (fun c1 => ?_) (fun c1 => ?_)
  · have hw := hw.1 c1
    refine lv_iconst (v := 0) hx hb dX11_isPromise_16 (by decide) ?_
    exact x_zret E h rfl hw dX11_isPromise_17
  · have hw := hw.2 c1
    refine lv_iload_n hx hb dX11_isPromise_4 rfl (lv_at hl 1 rfl) ?_
    refine lv_aload_n hx hb dX11_isPromise_5 rfl (lv_at hl 0 rfl) ?_
    refine gX11_310 E h dX11_isPromise_6 ?_
    refine lv_icmp_ge (tgt := 16) hx hb dX11_isPromise_9 (by decide) (fun c2 => ?_) (fun c2 => ?_)
    · have hw := hw.1 c2
      refine lv_iconst (v := 0) hx hb dX11_isPromise_16 (by decide) ?_
      exact x_zret E h rfl hw dX11_isPromise_17
    · have hw := hw.2 c2
      refine lv_iconst (v := 1) hx hb dX11_isPromise_12 (by decide) ?_
      refine lv_goto (tgt := 17) hx hb dX11_isPromise_13 (by decide) ?_
      exact x_zret E h rfl hw dX11_isPromise_17

abbrev rM_isKnown : Room := { frames := 0, cells := 0, slots := 0, locals := 0 }
def wpM_isKnown (σ : MS) (x1 : Int32) (Post : Int32 → MS → Prop) : Prop := (x1 < 0 → Post 0 σ) ∧ (¬ x1 < 0 → ((σ.1 57) < x1 → Post 0 σ) ∧ (¬ (σ.1 57) < x1 → Post 1 σ))
set_option maxHeartbeats 1000000 in
set_option maxRecDepth 20000 in
theorem cM_isKnown {l : Launch} {D : va_G} {cy : Nat → ClassId} {q : Nat → Nat} {σ : MS} {sz : Nat} {x1 : Int32} {Post : Int32 → MS → Prop} (hw : wpM_isKnown σ x1 Post) : Met l yX11_isKnown (Cond.code yX11_isKnown cX11_isKnown 2 (some .boolean) :: wsA) rM_isKnown (xPc D cy (MW q cy σ) sz [.ref (q 0), .int x1]) (va_Qi Post (xB D cy (MW q cy) (va_A (MW q cy σ) sz)) (va_A (MW q cy σ) sz)) 0 0 (va_A (MW q cy σ) sz) := by
  refine x_enter (own := RX11) (WW := MW q cy) (by decide) rfl (Nat.le_of_ble_eq_true rfl) ?_
  intro p e s m below meth c ls E h hl
  have hx := E.1
  have hb := E.2.1
  have hl : lv_has ls 2 [(0, .ref (q 0)), (1, .int x1)] := hl
  unfold wpM_isKnown at hw
  refine lv_iload_n hx hb dX11_isKnown_0 rfl (lv_at hl 1 rfl) ?_
  refine lv_if_lt (tgt := 16) hx hb dX11_isKnown_1 (by decide) (fun c1 => ?_) (fun c1 => ?_)
  · have hw := hw.1 c1
    refine lv_iconst (v := 0) hx hb dX11_isKnown_16 (by decide) ?_
    exact x_zret E h rfl hw dX11_isKnown_17
  · have hw := hw.2 c1
    refine lv_iload_n hx hb dX11_isKnown_4 rfl (lv_at hl 1 rfl) ?_
    refine lv_aload_n hx hb dX11_isKnown_5 rfl (lv_at hl 0 rfl) ?_
    refine gX11_313 E h dX11_isKnown_6 ?_
    refine lv_icmp_gt (tgt := 16) hx hb dX11_isKnown_9 (by decide) (fun c2 => ?_) (fun c2 => ?_)
    · have hw := hw.1 c2
      refine lv_iconst (v := 0) hx hb dX11_isKnown_16 (by decide) ?_
      exact x_zret E h rfl hw dX11_isKnown_17
    · have hw := hw.2 c2
      refine lv_iconst (v := 1) hx hb dX11_isKnown_12 (by decide) ?_
      refine lv_goto (tgt := 17) hx hb dX11_isKnown_13 (by decide) ?_
      exact x_zret E h rfl hw dX11_isKnown_17

abbrev rM_promise : Room := { frames := 1, cells := 0, slots := 0, locals := 21 }
def wpM_promise (σ : MS) (x1 : Int32) (x2 : Int32) (x3 : Int32) (x4 : Int32) (x5 : Int32) (x6 : Int32) (Post : Int32 → MS → Prop) : Prop := ((σ.1 46) = 10 → Post ((-1)) σ) ∧ (¬ (σ.1 46) = 10 → wpM_isPerson σ x1 (fun r2 σ3 => (r2 = 0 → Post ((-1)) σ3) ∧ (¬ r2 = 0 → wpM_isPerson σ3 x2 (fun r5 σ6 => (r5 = 0 → Post ((-1)) σ6) ∧ (¬ r5 = 0 → (x1 = x2 → Post ((-1)) σ6) ∧ (¬ x1 = x2 → (x3 < 0 → Post ((-1)) σ6) ∧ (¬ x3 < 0 → (3 < x3 → Post ((-1)) σ6) ∧ (¬ 3 < x3 → wpM_isDay σ6 x4 (fun r11 σ12 => (r11 = 0 → Post ((-1)) σ12) ∧ (¬ r11 = 0 → (x5 < 0 → Post ((-1)) σ12) ∧ (¬ x5 < 0 → (1 < x5 → Post ((-1)) σ12) ∧ (¬ 1 < x5 → (x6 < ((-1)) → Post ((-1)) σ12) ∧ (¬ x6 < ((-1)) → (x6 ≤ 5 → vp_in (σ12.1 46) 10 ∧ ∀ σ18 : MS, σ18 = mA σ12 31 (upd (σ12.2.1 31) (σ12.1 46).toNatClampNeg x1) → vp_in (σ18.1 46) 10 ∧ ∀ σ20 : MS, σ20 = mA σ18 32 (upd (σ18.2.1 32) (σ18.1 46).toNatClampNeg x2) → vp_in (σ20.1 46) 10 ∧ ∀ σ22 : MS, σ22 = mA σ20 33 (upd (σ20.2.1 33) (σ20.1 46).toNatClampNeg x3) → vp_in (σ22.1 46) 10 ∧ ∀ σ24 : MS, σ24 = mA σ22 34 (upd (σ22.2.1 34) (σ22.1 46).toNatClampNeg x4) → vp_in (σ24.1 46) 10 ∧ ∀ σ26 : MS, σ26 = mA σ24 35 (upd (σ24.2.1 35) (σ24.1 46).toNatClampNeg x5) → vp_in (σ26.1 46) 10 ∧ ∀ σ28 : MS, σ28 = mA σ26 36 (upd (σ26.2.1 36) (σ26.1 46).toNatClampNeg x6) → ∀ σ30 : MS, σ30 = mF σ28 46 ((σ28.1 46) + 1) → ∀ σ31 : MS, σ31 = mF σ30 64 ((-1)) → Post ((σ31.1 46) - 1) σ31) ∧ (¬ x6 ≤ 5 → Post ((-1)) σ12))))))))))))))
set_option maxHeartbeats 1000000 in
set_option maxRecDepth 20000 in
theorem cM_promise {l : Launch} {D : va_G} {cy : Nat → ClassId} {q : Nat → Nat} {σ : MS} {sz : Nat} {x1 : Int32} {x2 : Int32} {x3 : Int32} {x4 : Int32} {x5 : Int32} {x6 : Int32} {Post : Int32 → MS → Prop} (hw : wpM_promise σ x1 x2 x3 x4 x5 x6 Post) : Met l yX11_promise (Cond.code yX11_promise cX11_promise 7 (some .int) :: wsA) rM_promise (xPc D cy (MW q cy σ) sz [.ref (q 0), .int x1, .int x2, .int x3, .int x4, .int x5, .int x6]) (va_Qi Post (xB D cy (MW q cy) (va_A (MW q cy σ) sz)) (va_A (MW q cy σ) sz)) 0 0 (va_A (MW q cy σ) sz) := by
  refine x_enter (own := RX11) (WW := MW q cy) (by decide) rfl (Nat.le_of_ble_eq_true rfl) ?_
  intro p e s m below meth c ls E h hl
  have hx := E.1
  have hb := E.2.1
  have hl : lv_has ls 7 [(0, .ref (q 0)), (1, .int x1), (2, .int x2), (3, .int x3), (4, .int x4), (5, .int x5), (6, .int x6)] := hl
  unfold wpM_promise at hw
  refine lv_aload_n hx hb dX11_promise_0 rfl (lv_at hl 0 rfl) ?_
  refine gX11_310 E h dX11_promise_1 ?_
  refine lv_bipush (v := 10) hx hb dX11_promise_4 (by decide) ?_
  refine lv_icmp_eq (tgt := 70) hx hb dX11_promise_6 (by decide) (fun c1 => ?_) (fun c1 => ?_)
  · have hw := hw.1 c1
    refine lv_iconst (v := (-1)) hx hb dX11_promise_70 (by decide) ?_
    exact x_iret E h hw dX11_promise_71
  · have hw := hw.2 c1
    refine lv_aload_n hx hb dX11_promise_9 rfl (lv_at hl 0 rfl) ?_
    refine lv_iload_n hx hb dX11_promise_10 rfl (lv_at hl 1 rfl) ?_
    refine x_calli h (x_runV (WW := MW q cy) (rest := []) E h (cM_isPerson hw) yyX11_isPerson lX11_303 0 rfl rfl ⟨Nat.le_of_ble_eq_true rfl, Nat.le_of_ble_eq_true rfl⟩ rfl rfl hl.1 rfl (Nat.le_of_ble_eq_true rfl) dX11_promise_11 ⟨Nat.le_refl 0, Nat.le_refl 0⟩) (fun r2 σ3 H locs hw h => ?_)
    refine lv_if_eq (tgt := 70) hx hb dX11_promise_14 (by decide) (fun c4 => ?_) (fun c4 => ?_)
    · have hw := hw.1 c4
      refine lv_iconst (v := (-1)) hx hb dX11_promise_70 (by decide) ?_
      exact x_iret E h hw dX11_promise_71
    · have hw := hw.2 c4
      refine lv_aload_n hx hb dX11_promise_17 rfl (lv_at hl 0 rfl) ?_
      refine lv_iload_n hx hb dX11_promise_18 rfl (lv_at hl 2 rfl) ?_
      refine x_calli h (x_runV (WW := MW q cy) (rest := []) E h (cM_isPerson hw) yyX11_isPerson lX11_303 0 rfl rfl ⟨Nat.le_of_ble_eq_true rfl, Nat.le_of_ble_eq_true rfl⟩ rfl rfl hl.1 rfl (Nat.le_of_ble_eq_true rfl) dX11_promise_19 ⟨Nat.le_refl 0, Nat.le_refl 0⟩) (fun r5 σ6 H locs hw h => ?_)
      refine lv_if_eq (tgt := 70) hx hb dX11_promise_22 (by decide) (fun c7 => ?_) (fun c7 => ?_)
      · have hw := hw.1 c7
        refine lv_iconst (v := (-1)) hx hb dX11_promise_70 (by decide) ?_
        exact x_iret E h hw dX11_promise_71
      · have hw := hw.2 c7
        refine lv_iload_n hx hb dX11_promise_25 rfl (lv_at hl 1 rfl) ?_
        refine lv_iload_n hx hb dX11_promise_26 rfl (lv_at hl 2 rfl) ?_
        refine lv_icmp_eq (tgt := 70) hx hb dX11_promise_27 (by decide) (fun c8 => ?_) (fun c8 => ?_)
        · have hw := hw.1 c8
          refine lv_iconst (v := (-1)) hx hb dX11_promise_70 (by decide) ?_
          exact x_iret E h hw dX11_promise_71
        · have hw := hw.2 c8
          refine lv_iload_n hx hb dX11_promise_30 rfl (lv_at hl 3 rfl) ?_
          refine lv_if_lt (tgt := 70) hx hb dX11_promise_31 (by decide) (fun c9 => ?_) (fun c9 => ?_)
          · have hw := hw.1 c9
            refine lv_iconst (v := (-1)) hx hb dX11_promise_70 (by decide) ?_
            exact x_iret E h hw dX11_promise_71
          · have hw := hw.2 c9
            refine lv_iload_n hx hb dX11_promise_34 rfl (lv_at hl 3 rfl) ?_
            refine lv_iconst (v := 3) hx hb dX11_promise_35 (by decide) ?_
            refine lv_icmp_gt (tgt := 70) hx hb dX11_promise_36 (by decide) (fun c10 => ?_) (fun c10 => ?_)
            · have hw := hw.1 c10
              refine lv_iconst (v := (-1)) hx hb dX11_promise_70 (by decide) ?_
              exact x_iret E h hw dX11_promise_71
            · have hw := hw.2 c10
              refine lv_iload hx hb dX11_promise_39 (lv_at hl 4 rfl) ?_
              refine x_calli h (x_runS (WW := MW q cy) (rest := []) E h (cM_isDay hw) yyX11_isDay lX11_259 ⟨Nat.le_of_ble_eq_true rfl, Nat.le_of_ble_eq_true rfl⟩ rfl rfl hl.1 rfl (Nat.le_of_ble_eq_true rfl) dX11_promise_41 ⟨Nat.le_refl 0, Nat.le_refl 0⟩) (fun r11 σ12 H locs hw h => ?_)
              refine lv_if_eq (tgt := 70) hx hb dX11_promise_44 (by decide) (fun c13 => ?_) (fun c13 => ?_)
              · have hw := hw.1 c13
                refine lv_iconst (v := (-1)) hx hb dX11_promise_70 (by decide) ?_
                exact x_iret E h hw dX11_promise_71
              · have hw := hw.2 c13
                refine lv_iload hx hb dX11_promise_47 (lv_at hl 5 rfl) ?_
                refine lv_if_lt (tgt := 70) hx hb dX11_promise_49 (by decide) (fun c14 => ?_) (fun c14 => ?_)
                · have hw := hw.1 c14
                  refine lv_iconst (v := (-1)) hx hb dX11_promise_70 (by decide) ?_
                  exact x_iret E h hw dX11_promise_71
                · have hw := hw.2 c14
                  refine lv_iload hx hb dX11_promise_52 (lv_at hl 5 rfl) ?_
                  refine lv_iconst (v := 1) hx hb dX11_promise_54 (by decide) ?_
                  refine lv_icmp_gt (tgt := 70) hx hb dX11_promise_55 (by decide) (fun c15 => ?_) (fun c15 => ?_)
                  · have hw := hw.1 c15
                    refine lv_iconst (v := (-1)) hx hb dX11_promise_70 (by decide) ?_
                    exact x_iret E h hw dX11_promise_71
                  · have hw := hw.2 c15
                    refine lv_iload hx hb dX11_promise_58 (lv_at hl 6 rfl) ?_
                    refine lv_iconst (v := (-1)) hx hb dX11_promise_60 (by decide) ?_
                    refine lv_icmp_lt (tgt := 70) hx hb dX11_promise_61 (by decide) (fun c16 => ?_) (fun c16 => ?_)
                    · have hw := hw.1 c16
                      refine lv_iconst (v := (-1)) hx hb dX11_promise_70 (by decide) ?_
                      exact x_iret E h hw dX11_promise_71
                    · have hw := hw.2 c16
                      refine lv_iload hx hb dX11_promise_64 (lv_at hl 6 rfl) ?_
                      refine lv_iconst (v := 5) hx hb dX11_promise_66 (by decide) ?_
                      refine lv_icmp_le (tgt := 72) hx hb dX11_promise_67 (by decide) (fun c17 => ?_) (fun c17 => ?_)
                      · have hw := hw.1 c17
                        refine lv_aload_n hx hb dX11_promise_72 rfl (lv_at hl 0 rfl) ?_
                        refine gX11_110 E h dX11_promise_73 ?_
                        refine lv_aload_n hx hb dX11_promise_76 rfl (lv_at hl 0 rfl) ?_
                        refine gX11_310 E h dX11_promise_77 ?_
                        refine lv_iload_n hx hb dX11_promise_80 rfl (lv_at hl 1 rfl) ?_
                        have h19 := hw.1
                        have hw := hw.2
                        refine sM_31 E h h19 dX11_promise_81 (fun σ18 H locs eσ18 h => ?_)
                        have hw := hw σ18 eσ18
                        refine lv_aload_n hx hb dX11_promise_82 rfl (lv_at hl 0 rfl) ?_
                        refine gX11_113 E h dX11_promise_83 ?_
                        refine lv_aload_n hx hb dX11_promise_86 rfl (lv_at hl 0 rfl) ?_
                        refine gX11_310 E h dX11_promise_87 ?_
                        refine lv_iload_n hx hb dX11_promise_90 rfl (lv_at hl 2 rfl) ?_
                        have h21 := hw.1
                        have hw := hw.2
                        refine sM_32 E h h21 dX11_promise_91 (fun σ20 H locs eσ20 h => ?_)
                        have hw := hw σ20 eσ20
                        refine lv_aload_n hx hb dX11_promise_92 rfl (lv_at hl 0 rfl) ?_
                        refine gX11_116 E h dX11_promise_93 ?_
                        refine lv_aload_n hx hb dX11_promise_96 rfl (lv_at hl 0 rfl) ?_
                        refine gX11_310 E h dX11_promise_97 ?_
                        refine lv_iload_n hx hb dX11_promise_100 rfl (lv_at hl 3 rfl) ?_
                        have h23 := hw.1
                        have hw := hw.2
                        refine sM_33 E h h23 dX11_promise_101 (fun σ22 H locs eσ22 h => ?_)
                        have hw := hw σ22 eσ22
                        refine lv_aload_n hx hb dX11_promise_102 rfl (lv_at hl 0 rfl) ?_
                        refine gX11_119 E h dX11_promise_103 ?_
                        refine lv_aload_n hx hb dX11_promise_106 rfl (lv_at hl 0 rfl) ?_
                        refine gX11_310 E h dX11_promise_107 ?_
                        refine lv_iload hx hb dX11_promise_110 (lv_at hl 4 rfl) ?_
                        have h25 := hw.1
                        have hw := hw.2
                        refine sM_34 E h h25 dX11_promise_112 (fun σ24 H locs eσ24 h => ?_)
                        have hw := hw σ24 eσ24
                        refine lv_aload_n hx hb dX11_promise_113 rfl (lv_at hl 0 rfl) ?_
                        refine gX11_122 E h dX11_promise_114 ?_
                        refine lv_aload_n hx hb dX11_promise_117 rfl (lv_at hl 0 rfl) ?_
                        refine gX11_310 E h dX11_promise_118 ?_
                        refine lv_iload hx hb dX11_promise_121 (lv_at hl 5 rfl) ?_
                        have h27 := hw.1
                        have hw := hw.2
                        refine sM_35 E h h27 dX11_promise_123 (fun σ26 H locs eσ26 h => ?_)
                        have hw := hw σ26 eσ26
                        refine lv_aload_n hx hb dX11_promise_124 rfl (lv_at hl 0 rfl) ?_
                        refine gX11_125 E h dX11_promise_125 ?_
                        refine lv_aload_n hx hb dX11_promise_128 rfl (lv_at hl 0 rfl) ?_
                        refine gX11_310 E h dX11_promise_129 ?_
                        refine lv_iload hx hb dX11_promise_132 (lv_at hl 6 rfl) ?_
                        have h29 := hw.1
                        have hw := hw.2
                        refine sM_36 E h h29 dX11_promise_134 (fun σ28 H locs eσ28 h => ?_)
                        have hw := hw σ28 eσ28
                        refine lv_aload_n hx hb dX11_promise_135 rfl (lv_at hl 0 rfl) ?_
                        refine lv_dup hx hb dX11_promise_136 rfl ?_
                        refine gX11_310 E h dX11_promise_137 ?_
                        refine lv_iconst (v := 1) hx hb dX11_promise_140 (by decide) ?_
                        refine lv_iadd hx hb dX11_promise_141 ?_
                        refine pX11_310 E h dX11_promise_142 (fun σ30 H locs eσ30 h => ?_)
                        have hw := hw σ30 eσ30
                        refine lv_aload_n hx hb dX11_promise_145 rfl (lv_at hl 0 rfl) ?_
                        refine lv_iconst (v := (-1)) hx hb dX11_promise_146 (by decide) ?_
                        refine pX11_155 E h dX11_promise_147 (fun σ31 H locs eσ31 h => ?_)
                        have hw := hw σ31 eσ31
                        refine lv_aload_n hx hb dX11_promise_150 rfl (lv_at hl 0 rfl) ?_
                        refine gX11_310 E h dX11_promise_151 ?_
                        refine lv_iconst (v := 1) hx hb dX11_promise_154 (by decide) ?_
                        refine lv_isub hx hb dX11_promise_155 ?_
                        exact x_iret E h hw dX11_promise_156
                      · have hw := hw.2 c17
                        refine lv_iconst (v := (-1)) hx hb dX11_promise_70 (by decide) ?_
                        exact x_iret E h hw dX11_promise_71

abbrev rM_gift : Room := { frames := 1, cells := 0, slots := 0, locals := 21 }
def wpM_gift (σ : MS) (x1 : Int32) (x2 : Int32) (x3 : Int32) (Post : Int32 → MS → Prop) : Prop := ((σ.1 53) = 20 → Post ((-1)) σ) ∧ (¬ (σ.1 53) = 20 → wpM_isPromise σ x1 (fun r2 σ3 => (r2 = 0 → Post ((-1)) σ3) ∧ (¬ r2 = 0 → (x2 < 0 → Post ((-1)) σ3) ∧ (¬ x2 < 0 → (1 < x2 → Post ((-1)) σ3) ∧ (¬ 1 < x2 → (x3 < 1 → Post ((-1)) σ3) ∧ (¬ x3 < 1 → (x3 ≤ 1000 → vp_in (σ3.1 53) 20 ∧ ∀ σ9 : MS, σ9 = mA σ3 37 (upd (σ3.2.1 37) (σ3.1 53).toNatClampNeg x1) → vp_in (σ9.1 53) 20 ∧ ∀ σ11 : MS, σ11 = mA σ9 38 (upd (σ9.2.1 38) (σ9.1 53).toNatClampNeg x2) → vp_in (σ11.1 53) 20 ∧ ∀ σ13 : MS, σ13 = mA σ11 39 (upd (σ11.2.1 39) (σ11.1 53).toNatClampNeg x3) → ∀ σ15 : MS, σ15 = mF σ13 53 ((σ13.1 53) + 1) → Post ((σ15.1 53) - 1) σ15) ∧ (¬ x3 ≤ 1000 → Post ((-1)) σ3)))))))
set_option maxHeartbeats 1000000 in
set_option maxRecDepth 20000 in
theorem cM_gift {l : Launch} {D : va_G} {cy : Nat → ClassId} {q : Nat → Nat} {σ : MS} {sz : Nat} {x1 : Int32} {x2 : Int32} {x3 : Int32} {Post : Int32 → MS → Prop} (hw : wpM_gift σ x1 x2 x3 Post) : Met l yX11_gift (Cond.code yX11_gift cX11_gift 4 (some .int) :: wsA) rM_gift (xPc D cy (MW q cy σ) sz [.ref (q 0), .int x1, .int x2, .int x3]) (va_Qi Post (xB D cy (MW q cy) (va_A (MW q cy σ) sz)) (va_A (MW q cy σ) sz)) 0 0 (va_A (MW q cy σ) sz) := by
  refine x_enter (own := RX11) (WW := MW q cy) (by decide) rfl (Nat.le_of_ble_eq_true rfl) ?_
  intro p e s m below meth c ls E h hl
  have hx := E.1
  have hb := E.2.1
  have hl : lv_has ls 4 [(0, .ref (q 0)), (1, .int x1), (2, .int x2), (3, .int x3)] := hl
  unfold wpM_gift at hw
  refine lv_aload_n hx hb dX11_gift_0 rfl (lv_at hl 0 rfl) ?_
  refine gX11_316 E h dX11_gift_1 ?_
  refine lv_bipush (v := 20) hx hb dX11_gift_4 (by decide) ?_
  refine lv_icmp_eq (tgt := 38) hx hb dX11_gift_6 (by decide) (fun c1 => ?_) (fun c1 => ?_)
  · have hw := hw.1 c1
    refine lv_iconst (v := (-1)) hx hb dX11_gift_38 (by decide) ?_
    exact x_iret E h hw dX11_gift_39
  · have hw := hw.2 c1
    refine lv_aload_n hx hb dX11_gift_9 rfl (lv_at hl 0 rfl) ?_
    refine lv_iload_n hx hb dX11_gift_10 rfl (lv_at hl 1 rfl) ?_
    refine x_calli h (x_runV (WW := MW q cy) (rest := []) E h (cM_isPromise hw) yyX11_isPromise lX11_319 0 rfl rfl ⟨Nat.le_of_ble_eq_true rfl, Nat.le_of_ble_eq_true rfl⟩ rfl rfl hl.1 rfl (Nat.le_of_ble_eq_true rfl) dX11_gift_11 ⟨Nat.le_refl 0, Nat.le_refl 0⟩) (fun r2 σ3 H locs hw h => ?_)
    refine lv_if_eq (tgt := 38) hx hb dX11_gift_14 (by decide) (fun c4 => ?_) (fun c4 => ?_)
    · have hw := hw.1 c4
      refine lv_iconst (v := (-1)) hx hb dX11_gift_38 (by decide) ?_
      exact x_iret E h hw dX11_gift_39
    · have hw := hw.2 c4
      refine lv_iload_n hx hb dX11_gift_17 rfl (lv_at hl 2 rfl) ?_
      refine lv_if_lt (tgt := 38) hx hb dX11_gift_18 (by decide) (fun c5 => ?_) (fun c5 => ?_)
      · have hw := hw.1 c5
        refine lv_iconst (v := (-1)) hx hb dX11_gift_38 (by decide) ?_
        exact x_iret E h hw dX11_gift_39
      · have hw := hw.2 c5
        refine lv_iload_n hx hb dX11_gift_21 rfl (lv_at hl 2 rfl) ?_
        refine lv_iconst (v := 1) hx hb dX11_gift_22 (by decide) ?_
        refine lv_icmp_gt (tgt := 38) hx hb dX11_gift_23 (by decide) (fun c6 => ?_) (fun c6 => ?_)
        · have hw := hw.1 c6
          refine lv_iconst (v := (-1)) hx hb dX11_gift_38 (by decide) ?_
          exact x_iret E h hw dX11_gift_39
        · have hw := hw.2 c6
          refine lv_iload_n hx hb dX11_gift_26 rfl (lv_at hl 3 rfl) ?_
          refine lv_iconst (v := 1) hx hb dX11_gift_27 (by decide) ?_
          refine lv_icmp_lt (tgt := 38) hx hb dX11_gift_28 (by decide) (fun c7 => ?_) (fun c7 => ?_)
          · have hw := hw.1 c7
            refine lv_iconst (v := (-1)) hx hb dX11_gift_38 (by decide) ?_
            exact x_iret E h hw dX11_gift_39
          · have hw := hw.2 c7
            refine lv_iload_n hx hb dX11_gift_31 rfl (lv_at hl 3 rfl) ?_
            refine lv_sipush (v := 1000) hx hb dX11_gift_32 (by decide) ?_
            refine lv_icmp_le (tgt := 40) hx hb dX11_gift_35 (by decide) (fun c8 => ?_) (fun c8 => ?_)
            · have hw := hw.1 c8
              refine lv_aload_n hx hb dX11_gift_40 rfl (lv_at hl 0 rfl) ?_
              refine gX11_128 E h dX11_gift_41 ?_
              refine lv_aload_n hx hb dX11_gift_44 rfl (lv_at hl 0 rfl) ?_
              refine gX11_316 E h dX11_gift_45 ?_
              refine lv_iload_n hx hb dX11_gift_48 rfl (lv_at hl 1 rfl) ?_
              have h10 := hw.1
              have hw := hw.2
              refine sM_37 E h h10 dX11_gift_49 (fun σ9 H locs eσ9 h => ?_)
              have hw := hw σ9 eσ9
              refine lv_aload_n hx hb dX11_gift_50 rfl (lv_at hl 0 rfl) ?_
              refine gX11_131 E h dX11_gift_51 ?_
              refine lv_aload_n hx hb dX11_gift_54 rfl (lv_at hl 0 rfl) ?_
              refine gX11_316 E h dX11_gift_55 ?_
              refine lv_iload_n hx hb dX11_gift_58 rfl (lv_at hl 2 rfl) ?_
              have h12 := hw.1
              have hw := hw.2
              refine sM_38 E h h12 dX11_gift_59 (fun σ11 H locs eσ11 h => ?_)
              have hw := hw σ11 eσ11
              refine lv_aload_n hx hb dX11_gift_60 rfl (lv_at hl 0 rfl) ?_
              refine gX11_134 E h dX11_gift_61 ?_
              refine lv_aload_n hx hb dX11_gift_64 rfl (lv_at hl 0 rfl) ?_
              refine gX11_316 E h dX11_gift_65 ?_
              refine lv_iload_n hx hb dX11_gift_68 rfl (lv_at hl 3 rfl) ?_
              have h14 := hw.1
              have hw := hw.2
              refine sM_39 E h h14 dX11_gift_69 (fun σ13 H locs eσ13 h => ?_)
              have hw := hw σ13 eσ13
              refine lv_aload_n hx hb dX11_gift_70 rfl (lv_at hl 0 rfl) ?_
              refine lv_dup hx hb dX11_gift_71 rfl ?_
              refine gX11_316 E h dX11_gift_72 ?_
              refine lv_iconst (v := 1) hx hb dX11_gift_75 (by decide) ?_
              refine lv_iadd hx hb dX11_gift_76 ?_
              refine pX11_316 E h dX11_gift_77 (fun σ15 H locs eσ15 h => ?_)
              have hw := hw σ15 eσ15
              refine lv_aload_n hx hb dX11_gift_80 rfl (lv_at hl 0 rfl) ?_
              refine gX11_316 E h dX11_gift_81 ?_
              refine lv_iconst (v := 1) hx hb dX11_gift_84 (by decide) ?_
              refine lv_isub hx hb dX11_gift_85 ?_
              exact x_iret E h hw dX11_gift_86
            · have hw := hw.2 c8
              refine lv_iconst (v := (-1)) hx hb dX11_gift_38 (by decide) ?_
              exact x_iret E h hw dX11_gift_39

abbrev rM_fact : Room := { frames := 0, cells := 0, slots := 0, locals := 0 }
def wpM_fact (σ : MS) (x1 : Int32) (x2 : Int32) (x3 : Int32) (x4 : Int32) (Post : Int32 → MS → Prop) : Prop := vp_in (σ.1 57) 200 ∧ ∀ σ1 : MS, σ1 = mA σ 40 (upd (σ.2.1 40) (σ.1 57).toNatClampNeg x1) → vp_in (σ1.1 57) 200 ∧ ∀ σ3 : MS, σ3 = mA σ1 41 (upd (σ1.2.1 41) (σ1.1 57).toNatClampNeg x2) → vp_in (σ3.1 57) 200 ∧ ∀ σ5 : MS, σ5 = mA σ3 42 (upd (σ3.2.1 42) (σ3.1 57).toNatClampNeg x3) → vp_in (σ5.1 57) 200 ∧ ∀ σ7 : MS, σ7 = mA σ5 43 (upd (σ5.2.1 43) (σ5.1 57).toNatClampNeg x4) → ∀ σ9 : MS, σ9 = mF σ7 57 ((σ7.1 57) + 1) → Post ((σ9.1 57) - 1) σ9
set_option maxHeartbeats 1000000 in
set_option maxRecDepth 20000 in
theorem cM_fact {l : Launch} {D : va_G} {cy : Nat → ClassId} {q : Nat → Nat} {σ : MS} {sz : Nat} {x1 : Int32} {x2 : Int32} {x3 : Int32} {x4 : Int32} {Post : Int32 → MS → Prop} (hw : wpM_fact σ x1 x2 x3 x4 Post) : Met l yX11_fact (Cond.code yX11_fact cX11_fact 5 (some .int) :: wsA) rM_fact (xPc D cy (MW q cy σ) sz [.ref (q 0), .int x1, .int x2, .int x3, .int x4]) (va_Qi Post (xB D cy (MW q cy) (va_A (MW q cy σ) sz)) (va_A (MW q cy σ) sz)) 0 0 (va_A (MW q cy σ) sz) := by
  refine x_enter (own := RX11) (WW := MW q cy) (by decide) rfl (Nat.le_of_ble_eq_true rfl) ?_
  intro p e s m below meth c ls E h hl
  have hx := E.1
  have hb := E.2.1
  have hl : lv_has ls 5 [(0, .ref (q 0)), (1, .int x1), (2, .int x2), (3, .int x3), (4, .int x4)] := hl
  unfold wpM_fact at hw
  refine lv_aload_n hx hb dX11_fact_0 rfl (lv_at hl 0 rfl) ?_
  refine gX11_137 E h dX11_fact_1 ?_
  refine lv_aload_n hx hb dX11_fact_4 rfl (lv_at hl 0 rfl) ?_
  refine gX11_313 E h dX11_fact_5 ?_
  refine lv_iload_n hx hb dX11_fact_8 rfl (lv_at hl 1 rfl) ?_
  have h2 := hw.1
  have hw := hw.2
  refine sM_40 E h h2 dX11_fact_9 (fun σ1 H locs eσ1 h => ?_)
  have hw := hw σ1 eσ1
  refine lv_aload_n hx hb dX11_fact_10 rfl (lv_at hl 0 rfl) ?_
  refine gX11_140 E h dX11_fact_11 ?_
  refine lv_aload_n hx hb dX11_fact_14 rfl (lv_at hl 0 rfl) ?_
  refine gX11_313 E h dX11_fact_15 ?_
  refine lv_iload_n hx hb dX11_fact_18 rfl (lv_at hl 2 rfl) ?_
  have h4 := hw.1
  have hw := hw.2
  refine sM_41 E h h4 dX11_fact_19 (fun σ3 H locs eσ3 h => ?_)
  have hw := hw σ3 eσ3
  refine lv_aload_n hx hb dX11_fact_20 rfl (lv_at hl 0 rfl) ?_
  refine gX11_143 E h dX11_fact_21 ?_
  refine lv_aload_n hx hb dX11_fact_24 rfl (lv_at hl 0 rfl) ?_
  refine gX11_313 E h dX11_fact_25 ?_
  refine lv_iload_n hx hb dX11_fact_28 rfl (lv_at hl 3 rfl) ?_
  have h6 := hw.1
  have hw := hw.2
  refine sM_42 E h h6 dX11_fact_29 (fun σ5 H locs eσ5 h => ?_)
  have hw := hw σ5 eσ5
  refine lv_aload_n hx hb dX11_fact_30 rfl (lv_at hl 0 rfl) ?_
  refine gX11_146 E h dX11_fact_31 ?_
  refine lv_aload_n hx hb dX11_fact_34 rfl (lv_at hl 0 rfl) ?_
  refine gX11_313 E h dX11_fact_35 ?_
  refine lv_iload hx hb dX11_fact_38 (lv_at hl 4 rfl) ?_
  have h8 := hw.1
  have hw := hw.2
  refine sM_43 E h h8 dX11_fact_40 (fun σ7 H locs eσ7 h => ?_)
  have hw := hw σ7 eσ7
  refine lv_aload_n hx hb dX11_fact_41 rfl (lv_at hl 0 rfl) ?_
  refine lv_dup hx hb dX11_fact_42 rfl ?_
  refine gX11_313 E h dX11_fact_43 ?_
  refine lv_iconst (v := 1) hx hb dX11_fact_46 (by decide) ?_
  refine lv_iadd hx hb dX11_fact_47 ?_
  refine pX11_313 E h dX11_fact_48 (fun σ9 H locs eσ9 h => ?_)
  have hw := hw σ9 eσ9
  refine lv_aload_n hx hb dX11_fact_51 rfl (lv_at hl 0 rfl) ?_
  refine gX11_313 E h dX11_fact_52 ?_
  refine lv_iconst (v := 1) hx hb dX11_fact_55 (by decide) ?_
  refine lv_isub hx hb dX11_fact_56 ?_
  exact x_iret E h hw dX11_fact_57

abbrev rM_says : Room := { frames := 1, cells := 0, slots := 0, locals := 24 }
def wpM_says_70 (Post : Int32 → MS → Prop) (σ : MS) (x1 : Int32) (x2 : Int32) (t1 : Int32) : Prop := wpM_fact σ t1 x1 x2 0 (fun r1 σ2 => Post r1 σ2)
set_option maxHeartbeats 1000000 in
set_option maxRecDepth 20000 in
theorem wkM_says_70 {Post : Int32 → MS → Prop} (E : xE cX11_says RX11 4 (some .int) D cy p s m args meth c) : ∀ (σ : MS) (x1 : Int32) (x2 : Int32) (t1 : Int32) (H : Heap) (locs : List Loc) (ls : Array Slot), xH D A s (MW q cy σ) H locs → wpM_says_70 Post σ x1 x2 t1 → lv_has ls 4 [(1, .int x1), (2, .int x2)] → W p l e rM_says s m args below meth c H locs 0 0 (MQ below (va_Qi Post (xB D cy (MW q cy) A) A) args s 0 0 A) (F0 m 70 ls [.int t1, .ref (q 0)]) := by
  have hx := E.1
  have hb := E.2.1
  intro σ x1 x2 t1 H locs ls h hw hl
  unfold wpM_says_70 at hw
  refine lv_iload_n hx hb dX11_says_70 rfl (lv_at hl 0 rfl) ?_
  refine lv_iload_n hx hb dX11_says_71 rfl (lv_at hl 1 rfl) ?_
  refine lv_iconst (v := 0) hx hb dX11_says_72 (by decide) ?_
  refine x_calli h (x_runV (WW := MW q cy) (rest := []) E h (cM_fact hw) yyX11_fact lX11_322 0 rfl rfl ⟨Nat.le_of_ble_eq_true rfl, Nat.le_of_ble_eq_true rfl⟩ rfl rfl hl.1 rfl (Nat.le_of_ble_eq_true rfl) dX11_says_73 ⟨Nat.le_refl 0, Nat.le_refl 0⟩) (fun r1 σ2 H locs hw h => ?_)
  exact x_iret E h hw dX11_says_76

def wpM_says_30 (Post : Int32 → MS → Prop) (σ : MS) (x1 : Int32) (x2 : Int32) (x3 : Int32) : Prop := wpM_isPromise σ x2 (fun r1 σ2 => (r1 = 0 → Post ((-1)) σ2) ∧ (¬ r1 = 0 → vp_in x2 10 ∧ (x1 = (σ2.2.1 31 x2.toNatClampNeg) → Post ((-1)) σ2) ∧ (¬ x1 = (σ2.2.1 31 x2.toNatClampNeg) → vp_in x2 10 ∧ (x1 = (σ2.2.1 32 x2.toNatClampNeg) → Post ((-1)) σ2) ∧ (¬ x1 = (σ2.2.1 32 x2.toNatClampNeg) → (x3 = 0 → wpM_says_70 Post σ2 x1 x2 5) ∧ (¬ x3 = 0 → wpM_says_70 Post σ2 x1 x2 4)))))
set_option maxHeartbeats 1000000 in
set_option maxRecDepth 20000 in
theorem wkM_says_30 {Post : Int32 → MS → Prop} (E : xE cX11_says RX11 4 (some .int) D cy p s m args meth c) : ∀ (σ : MS) (x1 : Int32) (x2 : Int32) (x3 : Int32) (H : Heap) (locs : List Loc) (ls : Array Slot), xH D A s (MW q cy σ) H locs → wpM_says_30 Post σ x1 x2 x3 → lv_has ls 4 [(0, .ref (q 0)), (1, .int x1), (2, .int x2), (3, .int x3)] → W p l e rM_says s m args below meth c H locs 0 0 (MQ below (va_Qi Post (xB D cy (MW q cy) A) A) args s 0 0 A) (F0 m 30 ls []) := by
  have hx := E.1
  have hb := E.2.1
  intro σ x1 x2 x3 H locs ls h hw hl
  unfold wpM_says_30 at hw
  refine lv_aload_n hx hb dX11_says_30 rfl (lv_at hl 0 rfl) ?_
  refine lv_iload_n hx hb dX11_says_31 rfl (lv_at hl 2 rfl) ?_
  refine x_calli h (x_runV (WW := MW q cy) (rest := []) E h (cM_isPromise hw) yyX11_isPromise lX11_319 0 rfl rfl ⟨Nat.le_of_ble_eq_true rfl, Nat.le_of_ble_eq_true rfl⟩ rfl rfl hl.1 rfl (Nat.le_of_ble_eq_true rfl) dX11_says_32 ⟨Nat.le_refl 0, Nat.le_refl 0⟩) (fun r1 σ2 H locs hw h => ?_)
  refine lv_if_eq (tgt := 58) hx hb dX11_says_35 (by decide) (fun c3 => ?_) (fun c3 => ?_)
  · have hw := hw.1 c3
    refine lv_iconst (v := (-1)) hx hb dX11_says_58 (by decide) ?_
    exact x_iret E h hw dX11_says_59
  · have hw := hw.2 c3
    refine lv_iload_n hx hb dX11_says_38 rfl (lv_at hl 1 rfl) ?_
    refine lv_aload_n hx hb dX11_says_39 rfl (lv_at hl 0 rfl) ?_
    refine gX11_110 E h dX11_says_40 ?_
    refine lv_iload_n hx hb dX11_says_43 rfl (lv_at hl 2 rfl) ?_
    have h4 := hw.1
    have hw := hw.2
    refine aM_31 E h h4 dX11_says_44 ?_
    refine lv_icmp_eq (tgt := 58) hx hb dX11_says_45 (by decide) (fun c5 => ?_) (fun c5 => ?_)
    · have hw := hw.1 c5
      refine lv_iconst (v := (-1)) hx hb dX11_says_58 (by decide) ?_
      exact x_iret E h hw dX11_says_59
    · have hw := hw.2 c5
      refine lv_iload_n hx hb dX11_says_48 rfl (lv_at hl 1 rfl) ?_
      refine lv_aload_n hx hb dX11_says_49 rfl (lv_at hl 0 rfl) ?_
      refine gX11_113 E h dX11_says_50 ?_
      refine lv_iload_n hx hb dX11_says_53 rfl (lv_at hl 2 rfl) ?_
      have h6 := hw.1
      have hw := hw.2
      refine aM_32 E h h6 dX11_says_54 ?_
      refine lv_icmp_ne (tgt := 60) hx hb dX11_says_55 (by decide) (fun c7 => ?_) (fun c7 => ?_)
      · have hw := hw.2 c7
        refine lv_aload_n hx hb dX11_says_60 rfl (lv_at hl 0 rfl) ?_
        refine lv_iload_n hx hb dX11_says_61 rfl (lv_at hl 3 rfl) ?_
        refine lv_if_eq (tgt := 69) hx hb dX11_says_62 (by decide) (fun c8 => ?_) (fun c8 => ?_)
        · have hw := hw.1 c8
          refine lv_iconst (v := 5) hx hb dX11_says_69 (by decide) ?_
          exact wkM_says_70 E _ _ _ _ _ _ _ h hw (lv_sub hl [1, 2] rfl)
        · have hw := hw.2 c8
          refine lv_iconst (v := 4) hx hb dX11_says_65 (by decide) ?_
          refine lv_goto (tgt := 70) hx hb dX11_says_66 (by decide) ?_
          exact wkM_says_70 E _ _ _ _ _ _ _ h hw (lv_sub hl [1, 2] rfl)
      · have hw := hw.1 c7
        refine lv_iconst (v := (-1)) hx hb dX11_says_58 (by decide) ?_
        exact x_iret E h hw dX11_says_59

def wpM_says (σ : MS) (x1 : Int32) (x2 : Int32) (x3 : Int32) (Post : Int32 → MS → Prop) : Prop := ((σ.1 57) = 200 → Post ((-1)) σ) ∧ (¬ (σ.1 57) = 200 → wpM_isPerson σ x1 (fun r2 σ3 => (r2 = 0 → (x1 < 100 → Post ((-1)) σ3) ∧ (¬ x1 < 100 → (119 < x1 → Post ((-1)) σ3) ∧ (¬ 119 < x1 → wpM_says_30 Post σ3 x1 x2 x3))) ∧ (¬ r2 = 0 → wpM_says_30 Post σ3 x1 x2 x3)))
set_option maxHeartbeats 1000000 in
set_option maxRecDepth 20000 in
theorem cM_says {l : Launch} {D : va_G} {cy : Nat → ClassId} {q : Nat → Nat} {σ : MS} {sz : Nat} {x1 : Int32} {x2 : Int32} {x3 : Int32} {Post : Int32 → MS → Prop} (hw : wpM_says σ x1 x2 x3 Post) : Met l yX11_says (Cond.code yX11_says cX11_says 4 (some .int) :: wsA) rM_says (xPc D cy (MW q cy σ) sz [.ref (q 0), .int x1, .int x2, .int x3]) (va_Qi Post (xB D cy (MW q cy) (va_A (MW q cy σ) sz)) (va_A (MW q cy σ) sz)) 0 0 (va_A (MW q cy σ) sz) := by
  refine x_enter (own := RX11) (WW := MW q cy) (by decide) rfl (Nat.le_of_ble_eq_true rfl) ?_
  intro p e s m below meth c ls E h hl
  have hx := E.1
  have hb := E.2.1
  have hl : lv_has ls 4 [(0, .ref (q 0)), (1, .int x1), (2, .int x2), (3, .int x3)] := hl
  unfold wpM_says at hw
  refine lv_aload_n hx hb dX11_says_0 rfl (lv_at hl 0 rfl) ?_
  refine gX11_313 E h dX11_says_1 ?_
  refine lv_sipush (v := 200) hx hb dX11_says_4 (by decide) ?_
  refine lv_icmp_eq (tgt := 58) hx hb dX11_says_7 (by decide) (fun c1 => ?_) (fun c1 => ?_)
  · have hw := hw.1 c1
    refine lv_iconst (v := (-1)) hx hb dX11_says_58 (by decide) ?_
    exact x_iret E h hw dX11_says_59
  · have hw := hw.2 c1
    refine lv_aload_n hx hb dX11_says_10 rfl (lv_at hl 0 rfl) ?_
    refine lv_iload_n hx hb dX11_says_11 rfl (lv_at hl 1 rfl) ?_
    refine x_calli h (x_runV (WW := MW q cy) (rest := []) E h (cM_isPerson hw) yyX11_isPerson lX11_303 0 rfl rfl ⟨Nat.le_of_ble_eq_true rfl, Nat.le_of_ble_eq_true rfl⟩ rfl rfl hl.1 rfl (Nat.le_of_ble_eq_true rfl) dX11_says_12 ⟨Nat.le_refl 0, Nat.le_refl 0⟩) (fun r2 σ3 H locs hw h => ?_)
    refine lv_if_ne (tgt := 30) hx hb dX11_says_15 (by decide) (fun c4 => ?_) (fun c4 => ?_)
    · have hw := hw.2 c4
      exact wkM_says_30 E _ _ _ _ _ _ _ h hw (lv_sub hl [0, 1, 2, 3] rfl)
    · have hw := hw.1 c4
      refine lv_iload_n hx hb dX11_says_18 rfl (lv_at hl 1 rfl) ?_
      refine lv_bipush (v := 100) hx hb dX11_says_19 (by decide) ?_
      refine lv_icmp_lt (tgt := 58) hx hb dX11_says_21 (by decide) (fun c5 => ?_) (fun c5 => ?_)
      · have hw := hw.1 c5
        refine lv_iconst (v := (-1)) hx hb dX11_says_58 (by decide) ?_
        exact x_iret E h hw dX11_says_59
      · have hw := hw.2 c5
        refine lv_iload_n hx hb dX11_says_24 rfl (lv_at hl 1 rfl) ?_
        refine lv_bipush (v := 119) hx hb dX11_says_25 (by decide) ?_
        refine lv_icmp_gt (tgt := 58) hx hb dX11_says_27 (by decide) (fun c6 => ?_) (fun c6 => ?_)
        · have hw := hw.1 c6
          refine lv_iconst (v := (-1)) hx hb dX11_says_58 (by decide) ?_
          exact x_iret E h hw dX11_says_59
        · have hw := hw.2 c6
          exact wkM_says_30 E _ _ _ _ _ _ _ h hw (lv_sub hl [0, 1, 2, 3] rfl)

abbrev rM_fame : Room := { frames := 1, cells := 0, slots := 0, locals := 24 }
def wpM_fame (σ : MS) (x1 : Int32) (Post : Int32 → MS → Prop) : Prop := ((σ.1 57) = 200 → Post ((-1)) σ) ∧ (¬ (σ.1 57) = 200 → wpM_isPromise σ x1 (fun r2 σ3 => (r2 = 0 → Post ((-1)) σ3) ∧ (¬ r2 = 0 → wpM_fact σ3 6 x1 x1 0 (fun r5 σ6 => Post r5 σ6))))
set_option maxHeartbeats 1000000 in
set_option maxRecDepth 20000 in
theorem cM_fame {l : Launch} {D : va_G} {cy : Nat → ClassId} {q : Nat → Nat} {σ : MS} {sz : Nat} {x1 : Int32} {Post : Int32 → MS → Prop} (hw : wpM_fame σ x1 Post) : Met l yX11_fame (Cond.code yX11_fame cX11_fame 2 (some .int) :: wsA) rM_fame (xPc D cy (MW q cy σ) sz [.ref (q 0), .int x1]) (va_Qi Post (xB D cy (MW q cy) (va_A (MW q cy σ) sz)) (va_A (MW q cy σ) sz)) 0 0 (va_A (MW q cy σ) sz) := by
  refine x_enter (own := RX11) (WW := MW q cy) (by decide) rfl (Nat.le_of_ble_eq_true rfl) ?_
  intro p e s m below meth c ls E h hl
  have hx := E.1
  have hb := E.2.1
  have hl : lv_has ls 2 [(0, .ref (q 0)), (1, .int x1)] := hl
  unfold wpM_fame at hw
  refine lv_aload_n hx hb dX11_fame_0 rfl (lv_at hl 0 rfl) ?_
  refine gX11_313 E h dX11_fame_1 ?_
  refine lv_sipush (v := 200) hx hb dX11_fame_4 (by decide) ?_
  refine lv_icmp_eq (tgt := 18) hx hb dX11_fame_7 (by decide) (fun c1 => ?_) (fun c1 => ?_)
  · have hw := hw.1 c1
    refine lv_iconst (v := (-1)) hx hb dX11_fame_18 (by decide) ?_
    refine lv_goto (tgt := 31) hx hb dX11_fame_19 (by decide) ?_
    exact x_iret E h hw dX11_fame_31
  · have hw := hw.2 c1
    refine lv_aload_n hx hb dX11_fame_10 rfl (lv_at hl 0 rfl) ?_
    refine lv_iload_n hx hb dX11_fame_11 rfl (lv_at hl 1 rfl) ?_
    refine x_calli h (x_runV (WW := MW q cy) (rest := []) E h (cM_isPromise hw) yyX11_isPromise lX11_319 0 rfl rfl ⟨Nat.le_of_ble_eq_true rfl, Nat.le_of_ble_eq_true rfl⟩ rfl rfl hl.1 rfl (Nat.le_of_ble_eq_true rfl) dX11_fame_12 ⟨Nat.le_refl 0, Nat.le_refl 0⟩) (fun r2 σ3 H locs hw h => ?_)
    refine lv_if_ne (tgt := 22) hx hb dX11_fame_15 (by decide) (fun c4 => ?_) (fun c4 => ?_)
    · have hw := hw.2 c4
      refine lv_aload_n hx hb dX11_fame_22 rfl (lv_at hl 0 rfl) ?_
      refine lv_bipush (v := 6) hx hb dX11_fame_23 (by decide) ?_
      refine lv_iload_n hx hb dX11_fame_25 rfl (lv_at hl 1 rfl) ?_
      refine lv_iload_n hx hb dX11_fame_26 rfl (lv_at hl 1 rfl) ?_
      refine lv_iconst (v := 0) hx hb dX11_fame_27 (by decide) ?_
      refine x_calli h (x_runV (WW := MW q cy) (rest := []) E h (cM_fact hw) yyX11_fact lX11_322 0 rfl rfl ⟨Nat.le_of_ble_eq_true rfl, Nat.le_of_ble_eq_true rfl⟩ rfl rfl hl.1 rfl (Nat.le_of_ble_eq_true rfl) dX11_fame_28 ⟨Nat.le_refl 0, Nat.le_refl 0⟩) (fun r5 σ6 H locs hw h => ?_)
      exact x_iret E h hw dX11_fame_31
    · have hw := hw.1 c4
      refine lv_iconst (v := (-1)) hx hb dX11_fame_18 (by decide) ?_
      refine lv_goto (tgt := 31) hx hb dX11_fame_19 (by decide) ?_
      exact x_iret E h hw dX11_fame_31

abbrev rM_comes : Room := { frames := 1, cells := 0, slots := 0, locals := 24 }
def wpM_comes_42 (Post : Int32 → MS → Prop) (σ : MS) (x1 : Int32) (x2 : Int32) (t1 : Int32) : Prop := wpM_fact σ t1 x1 x1 x2 (fun r1 σ2 => Post r1 σ2)
set_option maxHeartbeats 1000000 in
set_option maxRecDepth 20000 in
theorem wkM_comes_42 {Post : Int32 → MS → Prop} (E : xE cX11_comes RX11 4 (some .int) D cy p s m args meth c) : ∀ (σ : MS) (x1 : Int32) (x2 : Int32) (t1 : Int32) (H : Heap) (locs : List Loc) (ls : Array Slot), xH D A s (MW q cy σ) H locs → wpM_comes_42 Post σ x1 x2 t1 → lv_has ls 4 [(1, .int x1), (2, .int x2)] → W p l e rM_comes s m args below meth c H locs 0 0 (MQ below (va_Qi Post (xB D cy (MW q cy) A) A) args s 0 0 A) (F0 m 42 ls [.int t1, .ref (q 0)]) := by
  have hx := E.1
  have hb := E.2.1
  intro σ x1 x2 t1 H locs ls h hw hl
  unfold wpM_comes_42 at hw
  refine lv_iload_n hx hb dX11_comes_42 rfl (lv_at hl 0 rfl) ?_
  refine lv_iload_n hx hb dX11_comes_43 rfl (lv_at hl 0 rfl) ?_
  refine lv_iload_n hx hb dX11_comes_44 rfl (lv_at hl 1 rfl) ?_
  refine x_calli h (x_runV (WW := MW q cy) (rest := []) E h (cM_fact hw) yyX11_fact lX11_322 0 rfl rfl ⟨Nat.le_of_ble_eq_true rfl, Nat.le_of_ble_eq_true rfl⟩ rfl rfl hl.1 rfl (Nat.le_of_ble_eq_true rfl) dX11_comes_45 ⟨Nat.le_refl 0, Nat.le_refl 0⟩) (fun r1 σ2 H locs hw h => ?_)
  exact x_iret E h hw dX11_comes_48

def wpM_comes (σ : MS) (x1 : Int32) (x2 : Int32) (x3 : Int32) (Post : Int32 → MS → Prop) : Prop := ((σ.1 57) = 200 → Post ((-1)) σ) ∧ (¬ (σ.1 57) = 200 → (x1 < 0 → Post ((-1)) σ) ∧ (¬ x1 < 0 → (5 < x1 → Post ((-1)) σ) ∧ (¬ 5 < x1 → wpM_isDay σ x2 (fun r4 σ5 => (r4 = 0 → Post ((-1)) σ5) ∧ (¬ r4 = 0 → (x3 = 0 → wpM_comes_42 Post σ5 x1 x2 8) ∧ (¬ x3 = 0 → wpM_comes_42 Post σ5 x1 x2 7))))))
set_option maxHeartbeats 1000000 in
set_option maxRecDepth 20000 in
theorem cM_comes {l : Launch} {D : va_G} {cy : Nat → ClassId} {q : Nat → Nat} {σ : MS} {sz : Nat} {x1 : Int32} {x2 : Int32} {x3 : Int32} {Post : Int32 → MS → Prop} (hw : wpM_comes σ x1 x2 x3 Post) : Met l yX11_comes (Cond.code yX11_comes cX11_comes 4 (some .int) :: wsA) rM_comes (xPc D cy (MW q cy σ) sz [.ref (q 0), .int x1, .int x2, .int x3]) (va_Qi Post (xB D cy (MW q cy) (va_A (MW q cy σ) sz)) (va_A (MW q cy σ) sz)) 0 0 (va_A (MW q cy σ) sz) := by
  refine x_enter (own := RX11) (WW := MW q cy) (by decide) rfl (Nat.le_of_ble_eq_true rfl) ?_
  intro p e s m below meth c ls E h hl
  have hx := E.1
  have hb := E.2.1
  have hl : lv_has ls 4 [(0, .ref (q 0)), (1, .int x1), (2, .int x2), (3, .int x3)] := hl
  unfold wpM_comes at hw
  refine lv_aload_n hx hb dX11_comes_0 rfl (lv_at hl 0 rfl) ?_
  refine gX11_313 E h dX11_comes_1 ?_
  refine lv_sipush (v := 200) hx hb dX11_comes_4 (by decide) ?_
  refine lv_icmp_eq (tgt := 26) hx hb dX11_comes_7 (by decide) (fun c1 => ?_) (fun c1 => ?_)
  · have hw := hw.1 c1
    refine lv_iconst (v := (-1)) hx hb dX11_comes_26 (by decide) ?_
    refine lv_goto (tgt := 48) hx hb dX11_comes_27 (by decide) ?_
    exact x_iret E h hw dX11_comes_48
  · have hw := hw.2 c1
    refine lv_iload_n hx hb dX11_comes_10 rfl (lv_at hl 1 rfl) ?_
    refine lv_if_lt (tgt := 26) hx hb dX11_comes_11 (by decide) (fun c2 => ?_) (fun c2 => ?_)
    · have hw := hw.1 c2
      refine lv_iconst (v := (-1)) hx hb dX11_comes_26 (by decide) ?_
      refine lv_goto (tgt := 48) hx hb dX11_comes_27 (by decide) ?_
      exact x_iret E h hw dX11_comes_48
    · have hw := hw.2 c2
      refine lv_iload_n hx hb dX11_comes_14 rfl (lv_at hl 1 rfl) ?_
      refine lv_iconst (v := 5) hx hb dX11_comes_15 (by decide) ?_
      refine lv_icmp_gt (tgt := 26) hx hb dX11_comes_16 (by decide) (fun c3 => ?_) (fun c3 => ?_)
      · have hw := hw.1 c3
        refine lv_iconst (v := (-1)) hx hb dX11_comes_26 (by decide) ?_
        refine lv_goto (tgt := 48) hx hb dX11_comes_27 (by decide) ?_
        exact x_iret E h hw dX11_comes_48
      · have hw := hw.2 c3
        refine lv_iload_n hx hb dX11_comes_19 rfl (lv_at hl 2 rfl) ?_
        refine x_calli h (x_runS (WW := MW q cy) (rest := []) E h (cM_isDay hw) yyX11_isDay lX11_259 ⟨Nat.le_of_ble_eq_true rfl, Nat.le_of_ble_eq_true rfl⟩ rfl rfl hl.1 rfl (Nat.le_of_ble_eq_true rfl) dX11_comes_20 ⟨Nat.le_refl 0, Nat.le_refl 0⟩) (fun r4 σ5 H locs hw h => ?_)
        refine lv_if_ne (tgt := 30) hx hb dX11_comes_23 (by decide) (fun c6 => ?_) (fun c6 => ?_)
        · have hw := hw.2 c6
          refine lv_aload_n hx hb dX11_comes_30 rfl (lv_at hl 0 rfl) ?_
          refine lv_iload_n hx hb dX11_comes_31 rfl (lv_at hl 3 rfl) ?_
          refine lv_if_eq (tgt := 40) hx hb dX11_comes_32 (by decide) (fun c7 => ?_) (fun c7 => ?_)
          · have hw := hw.1 c7
            refine lv_bipush (v := 8) hx hb dX11_comes_40 (by decide) ?_
            exact wkM_comes_42 E _ _ _ _ _ _ _ h hw (lv_sub hl [1, 2] rfl)
          · have hw := hw.2 c7
            refine lv_bipush (v := 7) hx hb dX11_comes_35 (by decide) ?_
            refine lv_goto (tgt := 42) hx hb dX11_comes_37 (by decide) ?_
            exact wkM_comes_42 E _ _ _ _ _ _ _ h hw (lv_sub hl [1, 2] rfl)
        · have hw := hw.1 c6
          refine lv_iconst (v := (-1)) hx hb dX11_comes_26 (by decide) ?_
          refine lv_goto (tgt := 48) hx hb dX11_comes_27 (by decide) ?_
          exact x_iret E h hw dX11_comes_48

abbrev rM_fate : Room := { frames := 1, cells := 0, slots := 0, locals := 24 }
def wpM_fate (σ : MS) (x1 : Int32) (x2 : Int32) (x3 : Int32) (Post : Int32 → MS → Prop) : Prop := ((σ.1 57) = 200 → Post ((-1)) σ) ∧ (¬ (σ.1 57) = 200 → (x1 < 0 → Post ((-1)) σ) ∧ (¬ x1 < 0 → (3 < x1 → Post ((-1)) σ) ∧ (¬ 3 < x1 → wpM_isPerson σ x2 (fun r4 σ5 => (r4 = 0 → Post ((-1)) σ5) ∧ (¬ r4 = 0 → wpM_isDay σ5 x3 (fun r7 σ8 => (r7 = 0 → Post ((-1)) σ8) ∧ (¬ r7 = 0 → wpM_fact σ8 x1 x2 x2 x3 (fun r10 σ11 => Post r10 σ11))))))))
set_option maxHeartbeats 1000000 in
set_option maxRecDepth 20000 in
theorem cM_fate {l : Launch} {D : va_G} {cy : Nat → ClassId} {q : Nat → Nat} {σ : MS} {sz : Nat} {x1 : Int32} {x2 : Int32} {x3 : Int32} {Post : Int32 → MS → Prop} (hw : wpM_fate σ x1 x2 x3 Post) : Met l yX11_fate (Cond.code yX11_fate cX11_fate 4 (some .int) :: wsA) rM_fate (xPc D cy (MW q cy σ) sz [.ref (q 0), .int x1, .int x2, .int x3]) (va_Qi Post (xB D cy (MW q cy) (va_A (MW q cy σ) sz)) (va_A (MW q cy σ) sz)) 0 0 (va_A (MW q cy σ) sz) := by
  refine x_enter (own := RX11) (WW := MW q cy) (by decide) rfl (Nat.le_of_ble_eq_true rfl) ?_
  intro p e s m below meth c ls E h hl
  have hx := E.1
  have hb := E.2.1
  have hl : lv_has ls 4 [(0, .ref (q 0)), (1, .int x1), (2, .int x2), (3, .int x3)] := hl
  unfold wpM_fate at hw
  refine lv_aload_n hx hb dX11_fate_0 rfl (lv_at hl 0 rfl) ?_
  refine gX11_313 E h dX11_fate_1 ?_
  refine lv_sipush (v := 200) hx hb dX11_fate_4 (by decide) ?_
  refine lv_icmp_eq (tgt := 34) hx hb dX11_fate_7 (by decide) (fun c1 => ?_) (fun c1 => ?_)
  · have hw := hw.1 c1
    refine lv_iconst (v := (-1)) hx hb dX11_fate_34 (by decide) ?_
    refine lv_goto (tgt := 46) hx hb dX11_fate_35 (by decide) ?_
    exact x_iret E h hw dX11_fate_46
  · have hw := hw.2 c1
    refine lv_iload_n hx hb dX11_fate_10 rfl (lv_at hl 1 rfl) ?_
    refine lv_if_lt (tgt := 34) hx hb dX11_fate_11 (by decide) (fun c2 => ?_) (fun c2 => ?_)
    · have hw := hw.1 c2
      refine lv_iconst (v := (-1)) hx hb dX11_fate_34 (by decide) ?_
      refine lv_goto (tgt := 46) hx hb dX11_fate_35 (by decide) ?_
      exact x_iret E h hw dX11_fate_46
    · have hw := hw.2 c2
      refine lv_iload_n hx hb dX11_fate_14 rfl (lv_at hl 1 rfl) ?_
      refine lv_iconst (v := 3) hx hb dX11_fate_15 (by decide) ?_
      refine lv_icmp_gt (tgt := 34) hx hb dX11_fate_16 (by decide) (fun c3 => ?_) (fun c3 => ?_)
      · have hw := hw.1 c3
        refine lv_iconst (v := (-1)) hx hb dX11_fate_34 (by decide) ?_
        refine lv_goto (tgt := 46) hx hb dX11_fate_35 (by decide) ?_
        exact x_iret E h hw dX11_fate_46
      · have hw := hw.2 c3
        refine lv_aload_n hx hb dX11_fate_19 rfl (lv_at hl 0 rfl) ?_
        refine lv_iload_n hx hb dX11_fate_20 rfl (lv_at hl 2 rfl) ?_
        refine x_calli h (x_runV (WW := MW q cy) (rest := []) E h (cM_isPerson hw) yyX11_isPerson lX11_303 0 rfl rfl ⟨Nat.le_of_ble_eq_true rfl, Nat.le_of_ble_eq_true rfl⟩ rfl rfl hl.1 rfl (Nat.le_of_ble_eq_true rfl) dX11_fate_21 ⟨Nat.le_refl 0, Nat.le_refl 0⟩) (fun r4 σ5 H locs hw h => ?_)
        refine lv_if_eq (tgt := 34) hx hb dX11_fate_24 (by decide) (fun c6 => ?_) (fun c6 => ?_)
        · have hw := hw.1 c6
          refine lv_iconst (v := (-1)) hx hb dX11_fate_34 (by decide) ?_
          refine lv_goto (tgt := 46) hx hb dX11_fate_35 (by decide) ?_
          exact x_iret E h hw dX11_fate_46
        · have hw := hw.2 c6
          refine lv_iload_n hx hb dX11_fate_27 rfl (lv_at hl 3 rfl) ?_
          refine x_calli h (x_runS (WW := MW q cy) (rest := []) E h (cM_isDay hw) yyX11_isDay lX11_259 ⟨Nat.le_of_ble_eq_true rfl, Nat.le_of_ble_eq_true rfl⟩ rfl rfl hl.1 rfl (Nat.le_of_ble_eq_true rfl) dX11_fate_28 ⟨Nat.le_refl 0, Nat.le_refl 0⟩) (fun r7 σ8 H locs hw h => ?_)
          refine lv_if_ne (tgt := 38) hx hb dX11_fate_31 (by decide) (fun c9 => ?_) (fun c9 => ?_)
          · have hw := hw.2 c9
            refine lv_aload_n hx hb dX11_fate_38 rfl (lv_at hl 0 rfl) ?_
            refine lv_iload_n hx hb dX11_fate_39 rfl (lv_at hl 1 rfl) ?_
            refine lv_iload_n hx hb dX11_fate_40 rfl (lv_at hl 2 rfl) ?_
            refine lv_iload_n hx hb dX11_fate_41 rfl (lv_at hl 2 rfl) ?_
            refine lv_iload_n hx hb dX11_fate_42 rfl (lv_at hl 3 rfl) ?_
            refine x_calli h (x_runV (WW := MW q cy) (rest := []) E h (cM_fact hw) yyX11_fact lX11_322 0 rfl rfl ⟨Nat.le_of_ble_eq_true rfl, Nat.le_of_ble_eq_true rfl⟩ rfl rfl hl.1 rfl (Nat.le_of_ble_eq_true rfl) dX11_fate_43 ⟨Nat.le_refl 0, Nat.le_refl 0⟩) (fun r10 σ11 H locs hw h => ?_)
            exact x_iret E h hw dX11_fate_46
          · have hw := hw.1 c9
            refine lv_iconst (v := (-1)) hx hb dX11_fate_34 (by decide) ?_
            refine lv_goto (tgt := 46) hx hb dX11_fate_35 (by decide) ?_
            exact x_iret E h hw dX11_fate_46

abbrev rM_leave : Room := { frames := 1, cells := 0, slots := 0, locals := 24 }
def wpM_leave (σ : MS) (x1 : Int32) (x2 : Int32) (x3 : Int32) (Post : Int32 → MS → Prop) : Prop := ((σ.1 57) = 200 → Post ((-1)) σ) ∧ (¬ (σ.1 57) = 200 → wpM_isPerson σ x1 (fun r2 σ3 => (r2 = 0 → Post ((-1)) σ3) ∧ (¬ r2 = 0 → wpM_isPerson σ3 x2 (fun r5 σ6 => (r5 = 0 → Post ((-1)) σ6) ∧ (¬ r5 = 0 → (x1 = x2 → Post ((-1)) σ6) ∧ (¬ x1 = x2 → wpM_isDay σ6 x3 (fun r9 σ10 => (r9 = 0 → Post ((-1)) σ10) ∧ (¬ r9 = 0 → wpM_fact σ10 9 x1 x2 x3 (fun r12 σ13 => Post r12 σ13)))))))))
set_option maxHeartbeats 1000000 in
set_option maxRecDepth 20000 in
theorem cM_leave {l : Launch} {D : va_G} {cy : Nat → ClassId} {q : Nat → Nat} {σ : MS} {sz : Nat} {x1 : Int32} {x2 : Int32} {x3 : Int32} {Post : Int32 → MS → Prop} (hw : wpM_leave σ x1 x2 x3 Post) : Met l yX11_leave (Cond.code yX11_leave cX11_leave 4 (some .int) :: wsA) rM_leave (xPc D cy (MW q cy σ) sz [.ref (q 0), .int x1, .int x2, .int x3]) (va_Qi Post (xB D cy (MW q cy) (va_A (MW q cy σ) sz)) (va_A (MW q cy σ) sz)) 0 0 (va_A (MW q cy σ) sz) := by
  refine x_enter (own := RX11) (WW := MW q cy) (by decide) rfl (Nat.le_of_ble_eq_true rfl) ?_
  intro p e s m below meth c ls E h hl
  have hx := E.1
  have hb := E.2.1
  have hl : lv_has ls 4 [(0, .ref (q 0)), (1, .int x1), (2, .int x2), (3, .int x3)] := hl
  unfold wpM_leave at hw
  refine lv_aload_n hx hb dX11_leave_0 rfl (lv_at hl 0 rfl) ?_
  refine gX11_313 E h dX11_leave_1 ?_
  refine lv_sipush (v := 200) hx hb dX11_leave_4 (by decide) ?_
  refine lv_icmp_eq (tgt := 38) hx hb dX11_leave_7 (by decide) (fun c1 => ?_) (fun c1 => ?_)
  · have hw := hw.1 c1
    refine lv_iconst (v := (-1)) hx hb dX11_leave_38 (by decide) ?_
    refine lv_goto (tgt := 51) hx hb dX11_leave_39 (by decide) ?_
    exact x_iret E h hw dX11_leave_51
  · have hw := hw.2 c1
    refine lv_aload_n hx hb dX11_leave_10 rfl (lv_at hl 0 rfl) ?_
    refine lv_iload_n hx hb dX11_leave_11 rfl (lv_at hl 1 rfl) ?_
    refine x_calli h (x_runV (WW := MW q cy) (rest := []) E h (cM_isPerson hw) yyX11_isPerson lX11_303 0 rfl rfl ⟨Nat.le_of_ble_eq_true rfl, Nat.le_of_ble_eq_true rfl⟩ rfl rfl hl.1 rfl (Nat.le_of_ble_eq_true rfl) dX11_leave_12 ⟨Nat.le_refl 0, Nat.le_refl 0⟩) (fun r2 σ3 H locs hw h => ?_)
    refine lv_if_eq (tgt := 38) hx hb dX11_leave_15 (by decide) (fun c4 => ?_) (fun c4 => ?_)
    · have hw := hw.1 c4
      refine lv_iconst (v := (-1)) hx hb dX11_leave_38 (by decide) ?_
      refine lv_goto (tgt := 51) hx hb dX11_leave_39 (by decide) ?_
      exact x_iret E h hw dX11_leave_51
    · have hw := hw.2 c4
      refine lv_aload_n hx hb dX11_leave_18 rfl (lv_at hl 0 rfl) ?_
      refine lv_iload_n hx hb dX11_leave_19 rfl (lv_at hl 2 rfl) ?_
      refine x_calli h (x_runV (WW := MW q cy) (rest := []) E h (cM_isPerson hw) yyX11_isPerson lX11_303 0 rfl rfl ⟨Nat.le_of_ble_eq_true rfl, Nat.le_of_ble_eq_true rfl⟩ rfl rfl hl.1 rfl (Nat.le_of_ble_eq_true rfl) dX11_leave_20 ⟨Nat.le_refl 0, Nat.le_refl 0⟩) (fun r5 σ6 H locs hw h => ?_)
      refine lv_if_eq (tgt := 38) hx hb dX11_leave_23 (by decide) (fun c7 => ?_) (fun c7 => ?_)
      · have hw := hw.1 c7
        refine lv_iconst (v := (-1)) hx hb dX11_leave_38 (by decide) ?_
        refine lv_goto (tgt := 51) hx hb dX11_leave_39 (by decide) ?_
        exact x_iret E h hw dX11_leave_51
      · have hw := hw.2 c7
        refine lv_iload_n hx hb dX11_leave_26 rfl (lv_at hl 1 rfl) ?_
        refine lv_iload_n hx hb dX11_leave_27 rfl (lv_at hl 2 rfl) ?_
        refine lv_icmp_eq (tgt := 38) hx hb dX11_leave_28 (by decide) (fun c8 => ?_) (fun c8 => ?_)
        · have hw := hw.1 c8
          refine lv_iconst (v := (-1)) hx hb dX11_leave_38 (by decide) ?_
          refine lv_goto (tgt := 51) hx hb dX11_leave_39 (by decide) ?_
          exact x_iret E h hw dX11_leave_51
        · have hw := hw.2 c8
          refine lv_iload_n hx hb dX11_leave_31 rfl (lv_at hl 3 rfl) ?_
          refine x_calli h (x_runS (WW := MW q cy) (rest := []) E h (cM_isDay hw) yyX11_isDay lX11_259 ⟨Nat.le_of_ble_eq_true rfl, Nat.le_of_ble_eq_true rfl⟩ rfl rfl hl.1 rfl (Nat.le_of_ble_eq_true rfl) dX11_leave_32 ⟨Nat.le_refl 0, Nat.le_refl 0⟩) (fun r9 σ10 H locs hw h => ?_)
          refine lv_if_ne (tgt := 42) hx hb dX11_leave_35 (by decide) (fun c11 => ?_) (fun c11 => ?_)
          · have hw := hw.2 c11
            refine lv_aload_n hx hb dX11_leave_42 rfl (lv_at hl 0 rfl) ?_
            refine lv_bipush (v := 9) hx hb dX11_leave_43 (by decide) ?_
            refine lv_iload_n hx hb dX11_leave_45 rfl (lv_at hl 1 rfl) ?_
            refine lv_iload_n hx hb dX11_leave_46 rfl (lv_at hl 2 rfl) ?_
            refine lv_iload_n hx hb dX11_leave_47 rfl (lv_at hl 3 rfl) ?_
            refine x_calli h (x_runV (WW := MW q cy) (rest := []) E h (cM_fact hw) yyX11_fact lX11_322 0 rfl rfl ⟨Nat.le_of_ble_eq_true rfl, Nat.le_of_ble_eq_true rfl⟩ rfl rfl hl.1 rfl (Nat.le_of_ble_eq_true rfl) dX11_leave_48 ⟨Nat.le_refl 0, Nat.le_refl 0⟩) (fun r12 σ13 H locs hw h => ?_)
            exact x_iret E h hw dX11_leave_51
          · have hw := hw.1 c11
            refine lv_iconst (v := (-1)) hx hb dX11_leave_38 (by decide) ?_
            refine lv_goto (tgt := 51) hx hb dX11_leave_39 (by decide) ?_
            exact x_iret E h hw dX11_leave_51

abbrev rM_lawOf : Room := { frames := 0, cells := 0, slots := 0, locals := 0 }
def wpM_lawOf_62 (K4 : MS → Int32 → Int32 → Int32 → Prop) (Post : Int32 → MS → Prop) (σ : MS) (x1 : Int32) (x3 : Int32) : Prop := ∀ y1 : Int32, y1 = x3 + 1 → K4 σ x1 x3 y1
set_option maxHeartbeats 1000000 in
set_option maxRecDepth 20000 in
theorem wkM_lawOf_62 {Post : Int32 → MS → Prop} (E : xE cX11_lawOf RX11 4 (some .int) D cy p s m args meth c) {K4 : MS → Int32 → Int32 → Int32 → Prop} (hK4 : ∀ (σ : MS) (x1 : Int32) (x2 : Int32) (x3 : Int32) (H : Heap) (locs : List Loc) (ls : Array Slot), xH D A s (MW q cy σ) H locs → K4 σ x1 x2 x3 → lv_has ls 4 [(0, .ref (q 0)), (1, .int x1), (2, .int x2), (3, .int x3)] → W p l e rM_lawOf s m args below meth c H locs 0 0 (MQ below (va_Qi Post (xB D cy (MW q cy) A) A) args s 0 0 A) (F0 m 4 ls [])) : ∀ (σ : MS) (x1 : Int32) (x3 : Int32) (H : Heap) (locs : List Loc) (ls : Array Slot), xH D A s (MW q cy σ) H locs → wpM_lawOf_62 K4 Post σ x1 x3 → lv_has ls 4 [(0, .ref (q 0)), (1, .int x1), (3, .int x3)] → W p l e rM_lawOf s m args below meth c H locs 0 0 (MQ below (va_Qi Post (xB D cy (MW q cy) A) A) args s 0 0 A) (F0 m 62 ls []) := by
  have hx := E.1
  have hb := E.2.1
  intro σ x1 x3 H locs ls h hw hl
  unfold wpM_lawOf_62 at hw
  refine lv_iload_n hx hb dX11_lawOf_62 rfl (lv_at hl 2 rfl) ?_
  refine lv_istore_n (lv' := [(2, .int x3), (0, .ref (q 0)), (1, .int x1), (3, .int x3)]) hx hb dX11_lawOf_63 rfl hl (by decide) rfl (fun ls hl => ?_)
  obtain ⟨y1, ey1⟩ : ∃ z : Int32, z = x3 + 1 := ⟨_, rfl⟩
  have hw := hw y1 ey1
  refine lv_iinc (v := y1) (lv' := [(3, .int y1), (2, .int x3), (0, .ref (q 0)), (1, .int x1)]) hx hb dX11_lawOf_64 hl (k := 3) rfl (by rw [ey1]; rfl) (by decide) rfl (fun ls hl => ?_)
  refine lv_goto (tgt := 4) hx hb dX11_lawOf_67 (by decide) ?_
  exact hK4 _ _ _ _ _ _ _ h hw (lv_sub hl [2, 3, 1, 0] rfl)

def wpM_lawOf_4 (Post : Int32 → MS → Prop) : Nat → MS → Int32 → Int32 → Int32 → Prop
  | 0, _, _, _, _ => False
  | n + 1, σ, x1, x2, x3 => ((σ.1 18) ≤ x3 → Post x2 σ) ∧ (¬ (σ.1 18) ≤ x3 → vp_in x3 9 ∧ vp_in x1 10 ∧ ((σ.2.1 8 x3.toNatClampNeg) = (σ.2.1 33 x1.toNatClampNeg) → vp_in x3 9 ∧ vp_in x1 10 ∧ ((σ.2.1 34 x1.toNatClampNeg) < (σ.2.1 9 x3.toNatClampNeg) → ∀ y9 : Int32, y9 = x3 + 1 → wpM_lawOf_4 Post n σ x1 x2 y9) ∧ (¬ (σ.2.1 34 x1.toNatClampNeg) < (σ.2.1 9 x3.toNatClampNeg) → (x2 = ((-1)) → wpM_lawOf_62 (fun a0 a1 a2 a3 => wpM_lawOf_4 Post n a0 a1 a2 a3) Post σ x1 x3) ∧ (¬ x2 = ((-1)) → vp_in x3 9 ∧ vp_in x2 9 ∧ ((σ.2.1 9 x3.toNatClampNeg) < (σ.2.1 9 x2.toNatClampNeg) → ∀ y14 : Int32, y14 = x3 + 1 → wpM_lawOf_4 Post n σ x1 x2 y14) ∧ (¬ (σ.2.1 9 x3.toNatClampNeg) < (σ.2.1 9 x2.toNatClampNeg) → wpM_lawOf_62 (fun a0 a1 a2 a3 => wpM_lawOf_4 Post n a0 a1 a2 a3) Post σ x1 x3)))) ∧ (¬ (σ.2.1 8 x3.toNatClampNeg) = (σ.2.1 33 x1.toNatClampNeg) → ∀ y5 : Int32, y5 = x3 + 1 → wpM_lawOf_4 Post n σ x1 x2 y5))
set_option maxHeartbeats 1000000 in
set_option maxRecDepth 20000 in
theorem wkM_lawOf_4 {Post : Int32 → MS → Prop} (E : xE cX11_lawOf RX11 4 (some .int) D cy p s m args meth c) : ∀ n : Nat, ∀ (σ : MS) (x1 : Int32) (x2 : Int32) (x3 : Int32) (H : Heap) (locs : List Loc) (ls : Array Slot), xH D A s (MW q cy σ) H locs → wpM_lawOf_4 Post n σ x1 x2 x3 → lv_has ls 4 [(0, .ref (q 0)), (1, .int x1), (2, .int x2), (3, .int x3)] → W p l e rM_lawOf s m args below meth c H locs 0 0 (MQ below (va_Qi Post (xB D cy (MW q cy) A) A) args s 0 0 A) (F0 m 4 ls []) := by
  have hx := E.1
  have hb := E.2.1
  intro n
  induction n with
  | zero => intro σ x1 x2 x3 H locs ls h hw hl; exact False.elim hw
  | succ n ih =>
    intro σ x1 x2 x3 H locs ls h hw hl
    refine lv_iload_n hx hb dX11_lawOf_4 rfl (lv_at hl 3 rfl) ?_
    refine lv_aload_n hx hb dX11_lawOf_5 rfl (lv_at hl 0 rfl) ?_
    refine gX11_262 E h dX11_lawOf_6 ?_
    refine lv_icmp_ge (tgt := 70) hx hb dX11_lawOf_9 (by decide) (fun c1 => ?_) (fun c1 => ?_)
    · have hw := hw.1 c1
      refine lv_iload_n hx hb dX11_lawOf_70 rfl (lv_at hl 2 rfl) ?_
      exact x_iret E h hw dX11_lawOf_71
    · have hw := hw.2 c1
      refine lv_aload_n hx hb dX11_lawOf_12 rfl (lv_at hl 0 rfl) ?_
      refine gX11_40 E h dX11_lawOf_13 ?_
      refine lv_iload_n hx hb dX11_lawOf_16 rfl (lv_at hl 3 rfl) ?_
      have h2 := hw.1
      have hw := hw.2
      refine aM_8 E h h2 dX11_lawOf_17 ?_
      refine lv_aload_n hx hb dX11_lawOf_18 rfl (lv_at hl 0 rfl) ?_
      refine gX11_116 E h dX11_lawOf_19 ?_
      refine lv_iload_n hx hb dX11_lawOf_22 rfl (lv_at hl 1 rfl) ?_
      have h3 := hw.1
      have hw := hw.2
      refine aM_33 E h h3 dX11_lawOf_23 ?_
      refine lv_icmp_ne (tgt := 64) hx hb dX11_lawOf_24 (by decide) (fun c4 => ?_) (fun c4 => ?_)
      · have hw := hw.2 c4
        obtain ⟨y5, ey5⟩ : ∃ z : Int32, z = x3 + 1 := ⟨_, rfl⟩
        have hw := hw y5 ey5
        refine lv_iinc (v := y5) (lv' := [(3, .int y5), (0, .ref (q 0)), (1, .int x1), (2, .int x2)]) hx hb dX11_lawOf_64 hl (k := 3) rfl (by rw [ey5]; rfl) (by decide) rfl (fun ls hl => ?_)
        refine lv_goto (tgt := 4) hx hb dX11_lawOf_67 (by decide) ?_
        exact ih _ _ _ _ _ _ _ h hw (lv_sub hl [1, 2, 3, 0] rfl)
      · have hw := hw.1 c4
        refine lv_aload_n hx hb dX11_lawOf_27 rfl (lv_at hl 0 rfl) ?_
        refine gX11_43 E h dX11_lawOf_28 ?_
        refine lv_iload_n hx hb dX11_lawOf_31 rfl (lv_at hl 3 rfl) ?_
        have h6 := hw.1
        have hw := hw.2
        refine aM_9 E h h6 dX11_lawOf_32 ?_
        refine lv_aload_n hx hb dX11_lawOf_33 rfl (lv_at hl 0 rfl) ?_
        refine gX11_119 E h dX11_lawOf_34 ?_
        refine lv_iload_n hx hb dX11_lawOf_37 rfl (lv_at hl 1 rfl) ?_
        have h7 := hw.1
        have hw := hw.2
        refine aM_34 E h h7 dX11_lawOf_38 ?_
        refine lv_icmp_gt (tgt := 64) hx hb dX11_lawOf_39 (by decide) (fun c8 => ?_) (fun c8 => ?_)
        · have hw := hw.1 c8
          obtain ⟨y9, ey9⟩ : ∃ z : Int32, z = x3 + 1 := ⟨_, rfl⟩
          have hw := hw y9 ey9
          refine lv_iinc (v := y9) (lv' := [(3, .int y9), (0, .ref (q 0)), (1, .int x1), (2, .int x2)]) hx hb dX11_lawOf_64 hl (k := 3) rfl (by rw [ey9]; rfl) (by decide) rfl (fun ls hl => ?_)
          refine lv_goto (tgt := 4) hx hb dX11_lawOf_67 (by decide) ?_
          exact ih _ _ _ _ _ _ _ h hw (lv_sub hl [1, 2, 3, 0] rfl)
        · have hw := hw.2 c8
          refine lv_iload_n hx hb dX11_lawOf_42 rfl (lv_at hl 2 rfl) ?_
          refine lv_iconst (v := (-1)) hx hb dX11_lawOf_43 (by decide) ?_
          refine lv_icmp_eq (tgt := 62) hx hb dX11_lawOf_44 (by decide) (fun c10 => ?_) (fun c10 => ?_)
          · have hw := hw.1 c10
            exact wkM_lawOf_62 E ih _ _ _ _ _ _ h hw (lv_sub hl [0, 1, 3] rfl)
          · have hw := hw.2 c10
            refine lv_aload_n hx hb dX11_lawOf_47 rfl (lv_at hl 0 rfl) ?_
            refine gX11_43 E h dX11_lawOf_48 ?_
            refine lv_iload_n hx hb dX11_lawOf_51 rfl (lv_at hl 3 rfl) ?_
            have h11 := hw.1
            have hw := hw.2
            refine aM_9 E h h11 dX11_lawOf_52 ?_
            refine lv_aload_n hx hb dX11_lawOf_53 rfl (lv_at hl 0 rfl) ?_
            refine gX11_43 E h dX11_lawOf_54 ?_
            refine lv_iload_n hx hb dX11_lawOf_57 rfl (lv_at hl 2 rfl) ?_
            have h12 := hw.1
            have hw := hw.2
            refine aM_9 E h h12 dX11_lawOf_58 ?_
            refine lv_icmp_lt (tgt := 64) hx hb dX11_lawOf_59 (by decide) (fun c13 => ?_) (fun c13 => ?_)
            · have hw := hw.1 c13
              obtain ⟨y14, ey14⟩ : ∃ z : Int32, z = x3 + 1 := ⟨_, rfl⟩
              have hw := hw y14 ey14
              refine lv_iinc (v := y14) (lv' := [(3, .int y14), (0, .ref (q 0)), (1, .int x1), (2, .int x2)]) hx hb dX11_lawOf_64 hl (k := 3) rfl (by rw [ey14]; rfl) (by decide) rfl (fun ls hl => ?_)
              refine lv_goto (tgt := 4) hx hb dX11_lawOf_67 (by decide) ?_
              exact ih _ _ _ _ _ _ _ h hw (lv_sub hl [1, 2, 3, 0] rfl)
            · have hw := hw.2 c13
              exact wkM_lawOf_62 E ih _ _ _ _ _ _ h hw (lv_sub hl [0, 1, 3] rfl)

def wpM_lawOf (σ : MS) (x1 : Int32) (Post : Int32 → MS → Prop) : Prop := ∃ g, wpM_lawOf_4 Post g σ x1 ((-1)) 0
set_option maxHeartbeats 1000000 in
set_option maxRecDepth 20000 in
theorem cM_lawOf {l : Launch} {D : va_G} {cy : Nat → ClassId} {q : Nat → Nat} {σ : MS} {sz : Nat} {x1 : Int32} {Post : Int32 → MS → Prop} (hw : wpM_lawOf σ x1 Post) : Met l yX11_lawOf (Cond.code yX11_lawOf cX11_lawOf 4 (some .int) :: wsA) rM_lawOf (xPc D cy (MW q cy σ) sz [.ref (q 0), .int x1]) (va_Qi Post (xB D cy (MW q cy) (va_A (MW q cy σ) sz)) (va_A (MW q cy σ) sz)) 0 0 (va_A (MW q cy σ) sz) := by
  refine x_enter (own := RX11) (WW := MW q cy) (by decide) rfl (Nat.le_of_ble_eq_true rfl) ?_
  intro p e s m below meth c ls E h hl
  have hx := E.1
  have hb := E.2.1
  have hl : lv_has ls 4 [(0, .ref (q 0)), (1, .int x1)] := hl
  unfold wpM_lawOf at hw
  refine lv_iconst (v := (-1)) hx hb dX11_lawOf_0 (by decide) ?_
  refine lv_istore_n (lv' := [(2, .int ((-1))), (0, .ref (q 0)), (1, .int x1)]) hx hb dX11_lawOf_1 rfl hl (by decide) rfl (fun ls hl => ?_)
  refine lv_iconst (v := 0) hx hb dX11_lawOf_2 (by decide) ?_
  refine lv_istore_n (lv' := [(3, .int 0), (2, .int ((-1))), (0, .ref (q 0)), (1, .int x1)]) hx hb dX11_lawOf_3 rfl hl (by decide) rfl (fun ls hl => ?_)
  obtain ⟨g, hw⟩ := hw
  exact wkM_lawOf_4 E g _ _ _ _ _ _ _ h hw (lv_sub hl [2, 3, 1, 0] rfl)

abbrev rM_law : Room := { frames := 1, cells := 0, slots := 0, locals := 23 }
def wpM_law (σ : MS) (x1 : Int32) (Post : Int32 → MS → Prop) : Prop := wpM_isPromise σ x1 (fun r1 σ2 => (r1 = 0 → Post ((-1)) σ2) ∧ (¬ r1 = 0 → wpM_lawOf σ2 x1 (fun r4 σ5 => Post r4 σ5)))
set_option maxHeartbeats 1000000 in
set_option maxRecDepth 20000 in
theorem cM_law {l : Launch} {D : va_G} {cy : Nat → ClassId} {q : Nat → Nat} {σ : MS} {sz : Nat} {x1 : Int32} {Post : Int32 → MS → Prop} (hw : wpM_law σ x1 Post) : Met l yX11_law (Cond.code yX11_law cX11_law 2 (some .int) :: wsA) rM_law (xPc D cy (MW q cy σ) sz [.ref (q 0), .int x1]) (va_Qi Post (xB D cy (MW q cy) (va_A (MW q cy σ) sz)) (va_A (MW q cy σ) sz)) 0 0 (va_A (MW q cy σ) sz) := by
  refine x_enter (own := RX11) (WW := MW q cy) (by decide) rfl (Nat.le_of_ble_eq_true rfl) ?_
  intro p e s m below meth c ls E h hl
  have hx := E.1
  have hb := E.2.1
  have hl : lv_has ls 2 [(0, .ref (q 0)), (1, .int x1)] := hl
  unfold wpM_law at hw
  refine lv_aload_n hx hb dX11_law_0 rfl (lv_at hl 0 rfl) ?_
  refine lv_iload_n hx hb dX11_law_1 rfl (lv_at hl 1 rfl) ?_
  refine x_calli h (x_runV (WW := MW q cy) (rest := []) E h (cM_isPromise hw) yyX11_isPromise lX11_319 0 rfl rfl ⟨Nat.le_of_ble_eq_true rfl, Nat.le_of_ble_eq_true rfl⟩ rfl rfl hl.1 rfl (Nat.le_of_ble_eq_true rfl) dX11_law_2 ⟨Nat.le_refl 0, Nat.le_refl 0⟩) (fun r1 σ2 H locs hw h => ?_)
  refine lv_if_eq (tgt := 16) hx hb dX11_law_5 (by decide) (fun c3 => ?_) (fun c3 => ?_)
  · have hw := hw.1 c3
    refine lv_iconst (v := (-1)) hx hb dX11_law_16 (by decide) ?_
    exact x_iret E h hw dX11_law_17
  · have hw := hw.2 c3
    refine lv_aload_n hx hb dX11_law_8 rfl (lv_at hl 0 rfl) ?_
    refine lv_iload_n hx hb dX11_law_9 rfl (lv_at hl 1 rfl) ?_
    refine x_calli h (x_runV (WW := MW q cy) (rest := []) E h (cM_lawOf hw) yyX11_lawOf lX11_326 0 rfl rfl ⟨Nat.le_of_ble_eq_true rfl, Nat.le_of_ble_eq_true rfl⟩ rfl rfl hl.1 rfl (Nat.le_of_ble_eq_true rfl) dX11_law_10 ⟨Nat.le_refl 0, Nat.le_refl 0⟩) (fun r4 σ5 H locs hw h => ?_)
    refine lv_goto (tgt := 17) hx hb dX11_law_13 (by decide) ?_
    exact x_iret E h hw dX11_law_17

abbrev rM_value : Room := { frames := 0, cells := 0, slots := 0, locals := 0 }
def wpM_value_59 (K5 : MS → Int32 → Int32 → Int32 → Prop) (Post : Int32 → MS → Prop) (σ : MS) (x2 : Int32) (x3 : Int32) (x4 : Int32) (t1 : Int32) (t2 : Int32) : Prop := vp_in t1 500 ∧ ∀ σ1 : MS, σ1 = mA σ 45 (upd (σ.2.1 45) t1.toNatClampNeg t2) → ∀ y3 : Int32, y3 = x3 + 1 → ∀ y4 : Int32, y4 = x4 + 1 → K5 σ1 x2 y3 y4
set_option maxHeartbeats 1000000 in
set_option maxRecDepth 20000 in
theorem wkM_value_59 {Post : Int32 → MS → Prop} (E : xE cX11_value RX11 7 (some .int) D cy p s m args meth c) {K5 : MS → Int32 → Int32 → Int32 → Prop} (hK5 : ∀ (σ : MS) (x2 : Int32) (x3 : Int32) (x4 : Int32) (H : Heap) (locs : List Loc) (ls : Array Slot), xH D A s (MW q cy σ) H locs → K5 σ x2 x3 x4 → lv_has ls 7 [(0, .ref (q 0)), (2, .int x2), (3, .int x3), (4, .int x4)] → W p l e rM_value s m args below meth c H locs 0 0 (MQ below (va_Qi Post (xB D cy (MW q cy) A) A) args s 0 0 A) (F0 m 5 ls [])) : ∀ (σ : MS) (x2 : Int32) (x3 : Int32) (x4 : Int32) (t1 : Int32) (t2 : Int32) (H : Heap) (locs : List Loc) (ls : Array Slot), xH D A s (MW q cy σ) H locs → wpM_value_59 K5 Post σ x2 x3 x4 t1 t2 → lv_has ls 7 [(0, .ref (q 0)), (2, .int x2), (3, .int x3), (4, .int x4)] → W p l e rM_value s m args below meth c H locs 0 0 (MQ below (va_Qi Post (xB D cy (MW q cy) A) A) args s 0 0 A) (F0 m 59 ls [.int t2, .int t1, .ref (q 45)]) := by
  have hx := E.1
  have hb := E.2.1
  intro σ x2 x3 x4 t1 t2 H locs ls h hw hl
  unfold wpM_value_59 at hw
  have h2 := hw.1
  have hw := hw.2
  refine sM_45 E h h2 dX11_value_59 (fun σ1 H locs eσ1 h => ?_)
  have hw := hw σ1 eσ1
  obtain ⟨y3, ey3⟩ : ∃ z : Int32, z = x3 + 1 := ⟨_, rfl⟩
  have hw := hw y3 ey3
  refine lv_iinc (v := y3) (lv' := [(3, .int y3), (0, .ref (q 0)), (2, .int x2), (4, .int x4)]) hx hb dX11_value_60 hl (k := 2) rfl (by rw [ey3]; rfl) (by decide) rfl (fun ls hl => ?_)
  refine lv_goto (tgt := 138) hx hb dX11_value_63 (by decide) ?_
  obtain ⟨y4, ey4⟩ : ∃ z : Int32, z = x4 + 1 := ⟨_, rfl⟩
  have hw := hw y4 ey4
  refine lv_iinc (v := y4) (lv' := [(4, .int y4), (3, .int y3), (0, .ref (q 0)), (2, .int x2)]) hx hb dX11_value_138 hl (k := 3) rfl (by rw [ey4]; rfl) (by decide) rfl (fun ls hl => ?_)
  refine lv_goto (tgt := 5) hx hb dX11_value_141 (by decide) ?_
  exact hK5 _ _ _ _ _ _ _ h hw (lv_sub hl [2, 3, 1, 0] rfl)

def wpM_value_137 (K5 : MS → Int32 → Int32 → Int32 → Prop) (Post : Int32 → MS → Prop) (σ : MS) (x2 : Int32) (x3 : Int32) (x4 : Int32) (t1 : Int32) (t2 : Int32) : Prop := vp_in t1 500 ∧ ∀ σ1 : MS, σ1 = mA σ 45 (upd (σ.2.1 45) t1.toNatClampNeg t2) → ∀ y3 : Int32, y3 = x4 + 1 → K5 σ1 x2 x3 y3
set_option maxHeartbeats 1000000 in
set_option maxRecDepth 20000 in
theorem wkM_value_137 {Post : Int32 → MS → Prop} (E : xE cX11_value RX11 7 (some .int) D cy p s m args meth c) {K5 : MS → Int32 → Int32 → Int32 → Prop} (hK5 : ∀ (σ : MS) (x2 : Int32) (x3 : Int32) (x4 : Int32) (H : Heap) (locs : List Loc) (ls : Array Slot), xH D A s (MW q cy σ) H locs → K5 σ x2 x3 x4 → lv_has ls 7 [(0, .ref (q 0)), (2, .int x2), (3, .int x3), (4, .int x4)] → W p l e rM_value s m args below meth c H locs 0 0 (MQ below (va_Qi Post (xB D cy (MW q cy) A) A) args s 0 0 A) (F0 m 5 ls [])) : ∀ (σ : MS) (x2 : Int32) (x3 : Int32) (x4 : Int32) (t1 : Int32) (t2 : Int32) (H : Heap) (locs : List Loc) (ls : Array Slot), xH D A s (MW q cy σ) H locs → wpM_value_137 K5 Post σ x2 x3 x4 t1 t2 → lv_has ls 7 [(0, .ref (q 0)), (2, .int x2), (3, .int x3), (4, .int x4)] → W p l e rM_value s m args below meth c H locs 0 0 (MQ below (va_Qi Post (xB D cy (MW q cy) A) A) args s 0 0 A) (F0 m 137 ls [.int t2, .int t1, .ref (q 45)]) := by
  have hx := E.1
  have hb := E.2.1
  intro σ x2 x3 x4 t1 t2 H locs ls h hw hl
  unfold wpM_value_137 at hw
  have h2 := hw.1
  have hw := hw.2
  refine sM_45 E h h2 dX11_value_137 (fun σ1 H locs eσ1 h => ?_)
  have hw := hw σ1 eσ1
  obtain ⟨y3, ey3⟩ : ∃ z : Int32, z = x4 + 1 := ⟨_, rfl⟩
  have hw := hw y3 ey3
  refine lv_iinc (v := y3) (lv' := [(4, .int y3), (0, .ref (q 0)), (2, .int x2), (3, .int x3)]) hx hb dX11_value_138 hl (k := 3) rfl (by rw [ey3]; rfl) (by decide) rfl (fun ls hl => ?_)
  refine lv_goto (tgt := 5) hx hb dX11_value_141 (by decide) ?_
  exact hK5 _ _ _ _ _ _ _ h hw (lv_sub hl [1, 2, 3, 0] rfl)

def wpM_value_5 (Post : Int32 → MS → Prop) : Nat → MS → Int32 → Int32 → Int32 → Prop
  | 0, _, _, _, _ => False
  | n + 1, σ, x2, x3, x4 => (x2 ≤ x4 → vp_in 0 500 ∧ Post (σ.2.1 45 (0 : Int32).toNatClampNeg) σ) ∧ (¬ x2 ≤ x4 → vp_in x4 4500 ∧ (2 ≤ (σ.2.1 23 x4.toNatClampNeg) → ∀ y5 : Int32, y5 = x3 + (-1) → vp_in (y5 - 1) 500 ∧ ∀ y7 : Int32, y7 = σ.2.1 45 (y5 - 1).toNatClampNeg → vp_in y5 500 ∧ ∀ y9 : Int32, y9 = σ.2.1 45 y5.toNatClampNeg → vp_in x4 4500 ∧ ((σ.2.1 23 x4.toNatClampNeg) = 2 → wpM_value_137 (fun a0 a1 a2 a3 => wpM_value_5 Post n a0 a1 a2 a3) Post σ x2 y5 x4 (y5 - 1) (y7 + y9)) ∧ (¬ (σ.2.1 23 x4.toNatClampNeg) = 2 → vp_in x4 4500 ∧ ((σ.2.1 23 x4.toNatClampNeg) = 3 → wpM_value_137 (fun a0 a1 a2 a3 => wpM_value_5 Post n a0 a1 a2 a3) Post σ x2 y5 x4 (y5 - 1) (y7 - y9)) ∧ (¬ (σ.2.1 23 x4.toNatClampNeg) = 3 → wpM_value_137 (fun a0 a1 a2 a3 => wpM_value_5 Post n a0 a1 a2 a3) Post σ x2 y5 x4 (y5 - 1) (y7 * y9)))) ∧ (¬ 2 ≤ (σ.2.1 23 x4.toNatClampNeg) → vp_in x4 4500 ∧ ((σ.2.1 23 x4.toNatClampNeg) = 0 → vp_in x4 4500 ∧ wpM_value_59 (fun a0 a1 a2 a3 => wpM_value_5 Post n a0 a1 a2 a3) Post σ x2 x3 x4 x3 (σ.2.1 24 x4.toNatClampNeg)) ∧ (¬ (σ.2.1 23 x4.toNatClampNeg) = 0 → vp_in x4 4500 ∧ vp_in (σ.2.1 24 x4.toNatClampNeg) 12 ∧ wpM_value_59 (fun a0 a1 a2 a3 => wpM_value_5 Post n a0 a1 a2 a3) Post σ x2 x3 x4 x3 (σ.2.1 44 (σ.2.1 24 x4.toNatClampNeg).toNatClampNeg))))
set_option maxHeartbeats 1000000 in
set_option maxRecDepth 20000 in
theorem wkM_value_5 {Post : Int32 → MS → Prop} (E : xE cX11_value RX11 7 (some .int) D cy p s m args meth c) : ∀ n : Nat, ∀ (σ : MS) (x2 : Int32) (x3 : Int32) (x4 : Int32) (H : Heap) (locs : List Loc) (ls : Array Slot), xH D A s (MW q cy σ) H locs → wpM_value_5 Post n σ x2 x3 x4 → lv_has ls 7 [(0, .ref (q 0)), (2, .int x2), (3, .int x3), (4, .int x4)] → W p l e rM_value s m args below meth c H locs 0 0 (MQ below (va_Qi Post (xB D cy (MW q cy) A) A) args s 0 0 A) (F0 m 5 ls []) := by
  have hx := E.1
  have hb := E.2.1
  intro n
  induction n with
  | zero => intro σ x2 x3 x4 H locs ls h hw hl; exact False.elim hw
  | succ n ih =>
    intro σ x2 x3 x4 H locs ls h hw hl
    refine lv_iload hx hb dX11_value_5 (lv_at hl 3 rfl) ?_
    refine lv_iload_n hx hb dX11_value_7 rfl (lv_at hl 1 rfl) ?_
    refine lv_icmp_ge (tgt := 144) hx hb dX11_value_8 (by decide) (fun c1 => ?_) (fun c1 => ?_)
    · have hw := hw.1 c1
      refine lv_aload_n hx hb dX11_value_144 rfl (lv_at hl 0 rfl) ?_
      refine gX11_152 E h dX11_value_145 ?_
      refine lv_iconst (v := 0) hx hb dX11_value_148 (by decide) ?_
      have h2 := hw.1
      have hw := hw.2
      refine aM_45 E h h2 dX11_value_149 ?_
      exact x_iret E h hw dX11_value_150
    · have hw := hw.2 c1
      refine lv_aload_n hx hb dX11_value_11 rfl (lv_at hl 0 rfl) ?_
      refine gX11_86 E h dX11_value_12 ?_
      refine lv_iload hx hb dX11_value_15 (lv_at hl 3 rfl) ?_
      have h3 := hw.1
      have hw := hw.2
      refine aM_23 E h h3 dX11_value_17 ?_
      refine lv_iconst (v := 2) hx hb dX11_value_18 (by decide) ?_
      refine lv_icmp_ge (tgt := 66) hx hb dX11_value_19 (by decide) (fun c4 => ?_) (fun c4 => ?_)
      · have hw := hw.1 c4
        obtain ⟨y5, ey5⟩ : ∃ z : Int32, z = x3 + (-1) := ⟨_, rfl⟩
        have hw := hw y5 ey5
        refine lv_iinc (v := y5) (lv' := [(3, .int y5), (0, .ref (q 0)), (2, .int x2), (4, .int x4)]) hx hb dX11_value_66 hl (k := 2) rfl (by rw [ey5]; rfl) (by decide) rfl (fun ls hl => ?_)
        refine lv_aload_n hx hb dX11_value_69 rfl (lv_at hl 1 rfl) ?_
        refine gX11_152 E h dX11_value_70 ?_
        refine lv_iload_n hx hb dX11_value_73 rfl (lv_at hl 0 rfl) ?_
        refine lv_iconst (v := 1) hx hb dX11_value_74 (by decide) ?_
        refine lv_isub hx hb dX11_value_75 ?_
        have h6 := hw.1
        have hw := hw.2
        refine aM_45 E h h6 dX11_value_76 ?_
        refine lv_topi (fun y7 ey7 => ?_)
        have hw := hw y7 ey7
        refine lv_istore (lv' := [(5, .int y7), (3, .int y5), (0, .ref (q 0)), (2, .int x2), (4, .int x4)]) hx hb dX11_value_77 hl (by decide) rfl (fun ls hl => ?_)
        refine lv_aload_n hx hb dX11_value_79 rfl (lv_at hl 2 rfl) ?_
        refine gX11_152 E h dX11_value_80 ?_
        refine lv_iload_n hx hb dX11_value_83 rfl (lv_at hl 1 rfl) ?_
        have h8 := hw.1
        have hw := hw.2
        refine aM_45 E h h8 dX11_value_84 ?_
        refine lv_topi (fun y9 ey9 => ?_)
        have hw := hw y9 ey9
        refine lv_istore (lv' := [(6, .int y9), (5, .int y7), (3, .int y5), (0, .ref (q 0)), (2, .int x2), (4, .int x4)]) hx hb dX11_value_85 hl (by decide) rfl (fun ls hl => ?_)
        refine lv_aload_n hx hb dX11_value_87 rfl (lv_at hl 3 rfl) ?_
        refine gX11_152 E h dX11_value_88 ?_
        refine lv_iload_n hx hb dX11_value_91 rfl (lv_at hl 2 rfl) ?_
        refine lv_iconst (v := 1) hx hb dX11_value_92 (by decide) ?_
        refine lv_isub hx hb dX11_value_93 ?_
        refine lv_aload_n hx hb dX11_value_94 rfl (lv_at hl 3 rfl) ?_
        refine gX11_86 E h dX11_value_95 ?_
        refine lv_iload hx hb dX11_value_98 (lv_at hl 5 rfl) ?_
        have h10 := hw.1
        have hw := hw.2
        refine aM_23 E h h10 dX11_value_100 ?_
        refine lv_iconst (v := 2) hx hb dX11_value_101 (by decide) ?_
        refine lv_icmp_ne (tgt := 113) hx hb dX11_value_102 (by decide) (fun c11 => ?_) (fun c11 => ?_)
        · have hw := hw.2 c11
          refine lv_aload_n hx hb dX11_value_113 rfl (lv_at hl 3 rfl) ?_
          refine gX11_86 E h dX11_value_114 ?_
          refine lv_iload hx hb dX11_value_117 (lv_at hl 5 rfl) ?_
          have h12 := hw.1
          have hw := hw.2
          refine aM_23 E h h12 dX11_value_119 ?_
          refine lv_iconst (v := 3) hx hb dX11_value_120 (by decide) ?_
          refine lv_icmp_ne (tgt := 132) hx hb dX11_value_121 (by decide) (fun c13 => ?_) (fun c13 => ?_)
          · have hw := hw.2 c13
            refine lv_iload hx hb dX11_value_132 (lv_at hl 1 rfl) ?_
            refine lv_iload hx hb dX11_value_134 (lv_at hl 0 rfl) ?_
            refine lv_imul hx hb dX11_value_136 ?_
            exact wkM_value_137 E ih _ _ _ _ _ _ _ _ _ h hw (lv_sub hl [3, 4, 2, 5] rfl)
          · have hw := hw.1 c13
            refine lv_iload hx hb dX11_value_124 (lv_at hl 1 rfl) ?_
            refine lv_iload hx hb dX11_value_126 (lv_at hl 0 rfl) ?_
            refine lv_isub hx hb dX11_value_128 ?_
            refine lv_goto (tgt := 137) hx hb dX11_value_129 (by decide) ?_
            exact wkM_value_137 E ih _ _ _ _ _ _ _ _ _ h hw (lv_sub hl [3, 4, 2, 5] rfl)
        · have hw := hw.1 c11
          refine lv_iload hx hb dX11_value_105 (lv_at hl 1 rfl) ?_
          refine lv_iload hx hb dX11_value_107 (lv_at hl 0 rfl) ?_
          refine lv_iadd hx hb dX11_value_109 ?_
          refine lv_goto (tgt := 137) hx hb dX11_value_110 (by decide) ?_
          exact wkM_value_137 E ih _ _ _ _ _ _ _ _ _ h hw (lv_sub hl [3, 4, 2, 5] rfl)
      · have hw := hw.2 c4
        refine lv_aload_n hx hb dX11_value_22 rfl (lv_at hl 0 rfl) ?_
        refine gX11_152 E h dX11_value_23 ?_
        refine lv_iload_n hx hb dX11_value_26 rfl (lv_at hl 2 rfl) ?_
        refine lv_aload_n hx hb dX11_value_27 rfl (lv_at hl 0 rfl) ?_
        refine gX11_86 E h dX11_value_28 ?_
        refine lv_iload hx hb dX11_value_31 (lv_at hl 3 rfl) ?_
        have h14 := hw.1
        have hw := hw.2
        refine aM_23 E h h14 dX11_value_33 ?_
        refine lv_if_ne (tgt := 47) hx hb dX11_value_34 (by decide) (fun c15 => ?_) (fun c15 => ?_)
        · have hw := hw.2 c15
          refine lv_aload_n hx hb dX11_value_47 rfl (lv_at hl 0 rfl) ?_
          refine gX11_149 E h dX11_value_48 ?_
          refine lv_aload_n hx hb dX11_value_51 rfl (lv_at hl 0 rfl) ?_
          refine gX11_89 E h dX11_value_52 ?_
          refine lv_iload hx hb dX11_value_55 (lv_at hl 3 rfl) ?_
          have h16 := hw.1
          have hw := hw.2
          refine aM_24 E h h16 dX11_value_57 ?_
          have h17 := hw.1
          have hw := hw.2
          refine aM_44 E h h17 dX11_value_58 ?_
          exact wkM_value_59 E ih _ _ _ _ _ _ _ _ _ h hw (lv_sub hl [0, 1, 2, 3] rfl)
        · have hw := hw.1 c15
          refine lv_aload_n hx hb dX11_value_37 rfl (lv_at hl 0 rfl) ?_
          refine gX11_89 E h dX11_value_38 ?_
          refine lv_iload hx hb dX11_value_41 (lv_at hl 3 rfl) ?_
          have h18 := hw.1
          have hw := hw.2
          refine aM_24 E h h18 dX11_value_43 ?_
          refine lv_goto (tgt := 59) hx hb dX11_value_44 (by decide) ?_
          exact wkM_value_59 E ih _ _ _ _ _ _ _ _ _ h hw (lv_sub hl [0, 1, 2, 3] rfl)

def wpM_value (σ : MS) (x1 : Int32) (x2 : Int32) (Post : Int32 → MS → Prop) : Prop := ∃ g, wpM_value_5 Post g σ x2 0 x1
set_option maxHeartbeats 1000000 in
set_option maxRecDepth 20000 in
theorem cM_value {l : Launch} {D : va_G} {cy : Nat → ClassId} {q : Nat → Nat} {σ : MS} {sz : Nat} {x1 : Int32} {x2 : Int32} {Post : Int32 → MS → Prop} (hw : wpM_value σ x1 x2 Post) : Met l yX11_value (Cond.code yX11_value cX11_value 7 (some .int) :: wsA) rM_value (xPc D cy (MW q cy σ) sz [.ref (q 0), .int x1, .int x2]) (va_Qi Post (xB D cy (MW q cy) (va_A (MW q cy σ) sz)) (va_A (MW q cy σ) sz)) 0 0 (va_A (MW q cy σ) sz) := by
  refine x_enter (own := RX11) (WW := MW q cy) (by decide) rfl (Nat.le_of_ble_eq_true rfl) ?_
  intro p e s m below meth c ls E h hl
  have hx := E.1
  have hb := E.2.1
  have hl : lv_has ls 7 [(0, .ref (q 0)), (1, .int x1), (2, .int x2)] := hl
  unfold wpM_value at hw
  refine lv_iconst (v := 0) hx hb dX11_value_0 (by decide) ?_
  refine lv_istore_n (lv' := [(3, .int 0), (0, .ref (q 0)), (1, .int x1), (2, .int x2)]) hx hb dX11_value_1 rfl hl (by decide) rfl (fun ls hl => ?_)
  refine lv_iload_n hx hb dX11_value_2 rfl (lv_at hl 2 rfl) ?_
  refine lv_istore (lv' := [(4, .int x1), (3, .int 0), (0, .ref (q 0)), (1, .int x1), (2, .int x2)]) hx hb dX11_value_3 hl (by decide) rfl (fun ls hl => ?_)
  obtain ⟨g, hw⟩ := hw
  exact wkM_value_5 E g _ _ _ _ _ _ _ h hw (lv_sub hl [2, 4, 1, 0] rfl)

abbrev rM_holds : Room := { frames := 1, cells := 0, slots := 0, locals := 26 }
def wpM_holds_212 (K27 : MS → Int32 → Int32 → Int32 → Int32 → Prop) (Post : Int32 → MS → Prop) (σ : MS) (x1 : Int32) (x2 : Int32) (x4 : Int32) (t0 : Int32) : Prop := ∀ y1 : Int32, y1 = x4 + 1 → K27 σ x1 x2 t0 y1
set_option maxHeartbeats 1000000 in
set_option maxRecDepth 20000 in
theorem wkM_holds_212 {Post : Int32 → MS → Prop} (E : xE cX11_holds RX11 8 (some .boolean) D cy p s m args meth c) {K27 : MS → Int32 → Int32 → Int32 → Int32 → Prop} (hK27 : ∀ (σ : MS) (x1 : Int32) (x2 : Int32) (x3 : Int32) (x4 : Int32) (H : Heap) (locs : List Loc) (ls : Array Slot), xH D A s (MW q cy σ) H locs → K27 σ x1 x2 x3 x4 → lv_has ls 8 [(0, .ref (q 0)), (1, .int x1), (2, .int x2), (3, .int x3), (4, .int x4)] → W p l e rM_holds s m args below meth c H locs 0 0 (MQ below (va_Qi Post (xB D cy (MW q cy) A) A) args s 0 0 A) (F0 m 27 ls [])) : ∀ (σ : MS) (x1 : Int32) (x2 : Int32) (x4 : Int32) (t0 : Int32) (H : Heap) (locs : List Loc) (ls : Array Slot), xH D A s (MW q cy σ) H locs → wpM_holds_212 K27 Post σ x1 x2 x4 t0 → lv_has ls 8 [(0, .ref (q 0)), (1, .int x1), (2, .int x2), (4, .int x4)] → W p l e rM_holds s m args below meth c H locs 0 0 (MQ below (va_Qi Post (xB D cy (MW q cy) A) A) args s 0 0 A) (F0 m 212 ls [.int t0]) := by
  have hx := E.1
  have hb := E.2.1
  intro σ x1 x2 x4 t0 H locs ls h hw hl
  unfold wpM_holds_212 at hw
  refine lv_istore_n (lv' := [(3, .int t0), (0, .ref (q 0)), (1, .int x1), (2, .int x2), (4, .int x4)]) hx hb dX11_holds_212 rfl hl (by decide) rfl (fun ls hl => ?_)
  obtain ⟨y1, ey1⟩ : ∃ z : Int32, z = x4 + 1 := ⟨_, rfl⟩
  have hw := hw y1 ey1
  refine lv_iinc (v := y1) (lv' := [(4, .int y1), (3, .int t0), (0, .ref (q 0)), (1, .int x1), (2, .int x2)]) hx hb dX11_holds_213 hl (k := 4) rfl (by rw [ey1]; rfl) (by decide) rfl (fun ls hl => ?_)
  refine lv_goto (tgt := 27) hx hb dX11_holds_216 (by decide) ?_
  exact hK27 _ _ _ _ _ _ _ _ h hw (lv_sub hl [2, 3, 4, 1, 0] rfl)

def wpM_holds_76 (K27 : MS → Int32 → Int32 → Int32 → Int32 → Prop) (Post : Int32 → MS → Prop) (σ : MS) (x1 : Int32) (x2 : Int32) (x3 : Int32) (x4 : Int32) (x5 : Int32) : Prop := (x3 = 0 → ∀ y20 : Int32, y20 = x4 + 1 → K27 σ x1 x2 x3 y20) ∧ (¬ x3 = 0 → vp_in x5 1800 ∧ vp_in x5 1800 ∧ wpM_value σ (σ.2.1 19 x5.toNatClampNeg) (σ.2.1 20 x5.toNatClampNeg) (fun r4 σ5 => vp_in x5 1800 ∧ vp_in x5 1800 ∧ wpM_value σ5 (σ5.2.1 20 x5.toNatClampNeg) (σ5.2.1 21 x5.toNatClampNeg) (fun r8 σ9 => vp_in x5 1800 ∧ ((σ9.2.1 18 x5.toNatClampNeg) = 0 → (r4 = r8 → wpM_holds_212 K27 Post σ9 x1 x2 x4 1) ∧ (¬ r4 = r8 → wpM_holds_212 K27 Post σ9 x1 x2 x4 0)) ∧ (¬ (σ9.2.1 18 x5.toNatClampNeg) = 0 → vp_in x5 1800 ∧ ((σ9.2.1 18 x5.toNatClampNeg) = 1 → (r4 = r8 → wpM_holds_212 K27 Post σ9 x1 x2 x4 0) ∧ (¬ r4 = r8 → wpM_holds_212 K27 Post σ9 x1 x2 x4 1)) ∧ (¬ (σ9.2.1 18 x5.toNatClampNeg) = 1 → vp_in x5 1800 ∧ ((σ9.2.1 18 x5.toNatClampNeg) = 2 → (r8 ≤ r4 → wpM_holds_212 K27 Post σ9 x1 x2 x4 0) ∧ (¬ r8 ≤ r4 → wpM_holds_212 K27 Post σ9 x1 x2 x4 1)) ∧ (¬ (σ9.2.1 18 x5.toNatClampNeg) = 2 → (r8 < r4 → wpM_holds_212 K27 Post σ9 x1 x2 x4 0) ∧ (¬ r8 < r4 → wpM_holds_212 K27 Post σ9 x1 x2 x4 1)))))))
set_option maxHeartbeats 1000000 in
set_option maxRecDepth 20000 in
theorem wkM_holds_76 {Post : Int32 → MS → Prop} (E : xE cX11_holds RX11 8 (some .boolean) D cy p s m args meth c) {K27 : MS → Int32 → Int32 → Int32 → Int32 → Prop} (hK27 : ∀ (σ : MS) (x1 : Int32) (x2 : Int32) (x3 : Int32) (x4 : Int32) (H : Heap) (locs : List Loc) (ls : Array Slot), xH D A s (MW q cy σ) H locs → K27 σ x1 x2 x3 x4 → lv_has ls 8 [(0, .ref (q 0)), (1, .int x1), (2, .int x2), (3, .int x3), (4, .int x4)] → W p l e rM_holds s m args below meth c H locs 0 0 (MQ below (va_Qi Post (xB D cy (MW q cy) A) A) args s 0 0 A) (F0 m 27 ls [])) : ∀ (σ : MS) (x1 : Int32) (x2 : Int32) (x3 : Int32) (x4 : Int32) (x5 : Int32) (H : Heap) (locs : List Loc) (ls : Array Slot), xH D A s (MW q cy σ) H locs → wpM_holds_76 K27 Post σ x1 x2 x3 x4 x5 → lv_has ls 8 [(0, .ref (q 0)), (1, .int x1), (2, .int x2), (3, .int x3), (4, .int x4), (5, .int x5)] → W p l e rM_holds s m args below meth c H locs 0 0 (MQ below (va_Qi Post (xB D cy (MW q cy) A) A) args s 0 0 A) (F0 m 76 ls []) := by
  have hx := E.1
  have hb := E.2.1
  intro σ x1 x2 x3 x4 x5 H locs ls h hw hl
  unfold wpM_holds_76 at hw
  refine lv_iload_n hx hb dX11_holds_76 rfl (lv_at hl 3 rfl) ?_
  refine lv_if_ne (tgt := 83) hx hb dX11_holds_77 (by decide) (fun c1 => ?_) (fun c1 => ?_)
  · have hw := hw.2 c1
    refine lv_aload_n hx hb dX11_holds_83 rfl (lv_at hl 0 rfl) ?_
    refine lv_aload_n hx hb dX11_holds_84 rfl (lv_at hl 0 rfl) ?_
    refine gX11_73 E h dX11_holds_85 ?_
    refine lv_iload hx hb dX11_holds_88 (lv_at hl 5 rfl) ?_
    have h2 := hw.1
    have hw := hw.2
    refine aM_19 E h h2 dX11_holds_90 ?_
    refine lv_aload_n hx hb dX11_holds_91 rfl (lv_at hl 0 rfl) ?_
    refine gX11_76 E h dX11_holds_92 ?_
    refine lv_iload hx hb dX11_holds_95 (lv_at hl 5 rfl) ?_
    have h3 := hw.1
    have hw := hw.2
    refine aM_20 E h h3 dX11_holds_97 ?_
    refine x_calli h (x_runV (WW := MW q cy) (rest := []) E h (cM_value hw) yyX11_value lX11_329 0 rfl rfl ⟨Nat.le_of_ble_eq_true rfl, Nat.le_of_ble_eq_true rfl⟩ rfl rfl hl.1 rfl (Nat.le_of_ble_eq_true rfl) dX11_holds_98 ⟨Nat.le_refl 0, Nat.le_refl 0⟩) (fun r4 σ5 H locs hw h => ?_)
    refine lv_istore (lv' := [(6, .int r4), (0, .ref (q 0)), (1, .int x1), (2, .int x2), (3, .int x3), (4, .int x4), (5, .int x5)]) hx hb dX11_holds_101 hl (by decide) rfl (fun ls hl => ?_)
    refine lv_aload_n hx hb dX11_holds_103 rfl (lv_at hl 1 rfl) ?_
    refine lv_aload_n hx hb dX11_holds_104 rfl (lv_at hl 1 rfl) ?_
    refine gX11_76 E h dX11_holds_105 ?_
    refine lv_iload hx hb dX11_holds_108 (lv_at hl 6 rfl) ?_
    have h6 := hw.1
    have hw := hw.2
    refine aM_20 E h h6 dX11_holds_110 ?_
    refine lv_aload_n hx hb dX11_holds_111 rfl (lv_at hl 1 rfl) ?_
    refine gX11_79 E h dX11_holds_112 ?_
    refine lv_iload hx hb dX11_holds_115 (lv_at hl 6 rfl) ?_
    have h7 := hw.1
    have hw := hw.2
    refine aM_21 E h h7 dX11_holds_117 ?_
    refine x_calli h (x_runV (WW := MW q cy) (rest := []) E h (cM_value hw) yyX11_value lX11_329 0 rfl rfl ⟨Nat.le_of_ble_eq_true rfl, Nat.le_of_ble_eq_true rfl⟩ rfl rfl hl.1 rfl (Nat.le_of_ble_eq_true rfl) dX11_holds_118 ⟨Nat.le_refl 0, Nat.le_refl 0⟩) (fun r8 σ9 H locs hw h => ?_)
    refine lv_istore (lv' := [(7, .int r8), (6, .int r4), (0, .ref (q 0)), (1, .int x1), (2, .int x2), (3, .int x3), (4, .int x4), (5, .int x5)]) hx hb dX11_holds_121 hl (by decide) rfl (fun ls hl => ?_)
    refine lv_aload_n hx hb dX11_holds_123 rfl (lv_at hl 2 rfl) ?_
    refine gX11_70 E h dX11_holds_124 ?_
    refine lv_iload hx hb dX11_holds_127 (lv_at hl 7 rfl) ?_
    have h10 := hw.1
    have hw := hw.2
    refine aM_18 E h h10 dX11_holds_129 ?_
    refine lv_if_ne (tgt := 148) hx hb dX11_holds_130 (by decide) (fun c11 => ?_) (fun c11 => ?_)
    · have hw := hw.2 c11
      refine lv_aload_n hx hb dX11_holds_148 rfl (lv_at hl 2 rfl) ?_
      refine gX11_70 E h dX11_holds_149 ?_
      refine lv_iload hx hb dX11_holds_152 (lv_at hl 7 rfl) ?_
      have h12 := hw.1
      have hw := hw.2
      refine aM_18 E h h12 dX11_holds_154 ?_
      refine lv_iconst (v := 1) hx hb dX11_holds_155 (by decide) ?_
      refine lv_icmp_ne (tgt := 174) hx hb dX11_holds_156 (by decide) (fun c13 => ?_) (fun c13 => ?_)
      · have hw := hw.2 c13
        refine lv_aload_n hx hb dX11_holds_174 rfl (lv_at hl 2 rfl) ?_
        refine gX11_70 E h dX11_holds_175 ?_
        refine lv_iload hx hb dX11_holds_178 (lv_at hl 7 rfl) ?_
        have h14 := hw.1
        have hw := hw.2
        refine aM_18 E h h14 dX11_holds_180 ?_
        refine lv_iconst (v := 2) hx hb dX11_holds_181 (by decide) ?_
        refine lv_icmp_ne (tgt := 200) hx hb dX11_holds_182 (by decide) (fun c15 => ?_) (fun c15 => ?_)
        · have hw := hw.2 c15
          refine lv_iload hx hb dX11_holds_200 (lv_at hl 1 rfl) ?_
          refine lv_iload hx hb dX11_holds_202 (lv_at hl 0 rfl) ?_
          refine lv_icmp_gt (tgt := 211) hx hb dX11_holds_204 (by decide) (fun c16 => ?_) (fun c16 => ?_)
          · have hw := hw.1 c16
            refine lv_iconst (v := 0) hx hb dX11_holds_211 (by decide) ?_
            exact wkM_holds_212 E hK27 _ _ _ _ _ _ _ _ h hw (lv_sub hl [2, 3, 4, 6] rfl)
          · have hw := hw.2 c16
            refine lv_iconst (v := 1) hx hb dX11_holds_207 (by decide) ?_
            refine lv_goto (tgt := 212) hx hb dX11_holds_208 (by decide) ?_
            exact wkM_holds_212 E hK27 _ _ _ _ _ _ _ _ h hw (lv_sub hl [2, 3, 4, 6] rfl)
        · have hw := hw.1 c15
          refine lv_iload hx hb dX11_holds_185 (lv_at hl 1 rfl) ?_
          refine lv_iload hx hb dX11_holds_187 (lv_at hl 0 rfl) ?_
          refine lv_icmp_ge (tgt := 196) hx hb dX11_holds_189 (by decide) (fun c17 => ?_) (fun c17 => ?_)
          · have hw := hw.1 c17
            refine lv_iconst (v := 0) hx hb dX11_holds_196 (by decide) ?_
            refine lv_goto (tgt := 212) hx hb dX11_holds_197 (by decide) ?_
            exact wkM_holds_212 E hK27 _ _ _ _ _ _ _ _ h hw (lv_sub hl [2, 3, 4, 6] rfl)
          · have hw := hw.2 c17
            refine lv_iconst (v := 1) hx hb dX11_holds_192 (by decide) ?_
            refine lv_goto (tgt := 212) hx hb dX11_holds_193 (by decide) ?_
            exact wkM_holds_212 E hK27 _ _ _ _ _ _ _ _ h hw (lv_sub hl [2, 3, 4, 6] rfl)
      · have hw := hw.1 c13
        refine lv_iload hx hb dX11_holds_159 (lv_at hl 1 rfl) ?_
        refine lv_iload hx hb dX11_holds_161 (lv_at hl 0 rfl) ?_
        refine lv_icmp_eq (tgt := 170) hx hb dX11_holds_163 (by decide) (fun c18 => ?_) (fun c18 => ?_)
        · have hw := hw.1 c18
          refine lv_iconst (v := 0) hx hb dX11_holds_170 (by decide) ?_
          refine lv_goto (tgt := 212) hx hb dX11_holds_171 (by decide) ?_
          exact wkM_holds_212 E hK27 _ _ _ _ _ _ _ _ h hw (lv_sub hl [2, 3, 4, 6] rfl)
        · have hw := hw.2 c18
          refine lv_iconst (v := 1) hx hb dX11_holds_166 (by decide) ?_
          refine lv_goto (tgt := 212) hx hb dX11_holds_167 (by decide) ?_
          exact wkM_holds_212 E hK27 _ _ _ _ _ _ _ _ h hw (lv_sub hl [2, 3, 4, 6] rfl)
    · have hw := hw.1 c11
      refine lv_iload hx hb dX11_holds_133 (lv_at hl 1 rfl) ?_
      refine lv_iload hx hb dX11_holds_135 (lv_at hl 0 rfl) ?_
      refine lv_icmp_ne (tgt := 144) hx hb dX11_holds_137 (by decide) (fun c19 => ?_) (fun c19 => ?_)
      · have hw := hw.2 c19
        refine lv_iconst (v := 0) hx hb dX11_holds_144 (by decide) ?_
        refine lv_goto (tgt := 212) hx hb dX11_holds_145 (by decide) ?_
        exact wkM_holds_212 E hK27 _ _ _ _ _ _ _ _ h hw (lv_sub hl [2, 3, 4, 6] rfl)
      · have hw := hw.1 c19
        refine lv_iconst (v := 1) hx hb dX11_holds_140 (by decide) ?_
        refine lv_goto (tgt := 212) hx hb dX11_holds_141 (by decide) ?_
        exact wkM_holds_212 E hK27 _ _ _ _ _ _ _ _ h hw (lv_sub hl [2, 3, 4, 6] rfl)
  · have hw := hw.1 c1
    refine lv_goto (tgt := 213) hx hb dX11_holds_80 (by decide) ?_
    obtain ⟨y20, ey20⟩ : ∃ z : Int32, z = x4 + 1 := ⟨_, rfl⟩
    have hw := hw y20 ey20
    refine lv_iinc (v := y20) (lv' := [(4, .int y20), (0, .ref (q 0)), (1, .int x1), (2, .int x2), (3, .int x3), (5, .int x5)]) hx hb dX11_holds_213 hl (k := 4) rfl (by rw [ey20]; rfl) (by decide) rfl (fun ls hl => ?_)
    refine lv_goto (tgt := 27) hx hb dX11_holds_216 (by decide) ?_
    exact hK27 _ _ _ _ _ _ _ _ h hw (lv_sub hl [1, 2, 3, 4, 0] rfl)

def wpM_holds_64 (K27 : MS → Int32 → Int32 → Int32 → Int32 → Prop) (Post : Int32 → MS → Prop) (σ : MS) (x1 : Int32) (x2 : Int32) (x3 : Int32) (x4 : Int32) (x5 : Int32) : Prop := vp_in x5 1800 ∧ ((σ.2.1 22 x5.toNatClampNeg) = 0 → wpM_holds_76 K27 Post σ x1 x2 x3 x4 x5) ∧ (¬ (σ.2.1 22 x5.toNatClampNeg) = 0 → wpM_holds_76 K27 Post σ x1 x2 1 x4 x5)
set_option maxHeartbeats 1000000 in
set_option maxRecDepth 20000 in
theorem wkM_holds_64 {Post : Int32 → MS → Prop} (E : xE cX11_holds RX11 8 (some .boolean) D cy p s m args meth c) {K27 : MS → Int32 → Int32 → Int32 → Int32 → Prop} (hK27 : ∀ (σ : MS) (x1 : Int32) (x2 : Int32) (x3 : Int32) (x4 : Int32) (H : Heap) (locs : List Loc) (ls : Array Slot), xH D A s (MW q cy σ) H locs → K27 σ x1 x2 x3 x4 → lv_has ls 8 [(0, .ref (q 0)), (1, .int x1), (2, .int x2), (3, .int x3), (4, .int x4)] → W p l e rM_holds s m args below meth c H locs 0 0 (MQ below (va_Qi Post (xB D cy (MW q cy) A) A) args s 0 0 A) (F0 m 27 ls [])) : ∀ (σ : MS) (x1 : Int32) (x2 : Int32) (x3 : Int32) (x4 : Int32) (x5 : Int32) (H : Heap) (locs : List Loc) (ls : Array Slot), xH D A s (MW q cy σ) H locs → wpM_holds_64 K27 Post σ x1 x2 x3 x4 x5 → lv_has ls 8 [(0, .ref (q 0)), (1, .int x1), (2, .int x2), (3, .int x3), (4, .int x4), (5, .int x5)] → W p l e rM_holds s m args below meth c H locs 0 0 (MQ below (va_Qi Post (xB D cy (MW q cy) A) A) args s 0 0 A) (F0 m 64 ls []) := by
  have hx := E.1
  have hb := E.2.1
  intro σ x1 x2 x3 x4 x5 H locs ls h hw hl
  unfold wpM_holds_64 at hw
  refine lv_aload_n hx hb dX11_holds_64 rfl (lv_at hl 0 rfl) ?_
  refine gX11_82 E h dX11_holds_65 ?_
  refine lv_iload hx hb dX11_holds_68 (lv_at hl 5 rfl) ?_
  have h1 := hw.1
  have hw := hw.2
  refine aM_22 E h h1 dX11_holds_70 ?_
  refine lv_if_eq (tgt := 76) hx hb dX11_holds_71 (by decide) (fun c2 => ?_) (fun c2 => ?_)
  · have hw := hw.1 c2
    exact wkM_holds_76 E hK27 _ _ _ _ _ _ _ _ _ h hw (lv_sub hl [0, 1, 2, 3, 4, 5] rfl)
  · have hw := hw.2 c2
    refine lv_iconst (v := 1) hx hb dX11_holds_74 (by decide) ?_
    refine lv_istore_n (lv' := [(3, .int 1), (0, .ref (q 0)), (1, .int x1), (2, .int x2), (4, .int x4), (5, .int x5)]) hx hb dX11_holds_75 rfl hl (by decide) rfl (fun ls hl => ?_)
    exact wkM_holds_76 E hK27 _ _ _ _ _ _ _ _ _ h hw (lv_sub hl [1, 2, 3, 0, 4, 5] rfl)

def wpM_holds_27 (Post : Int32 → MS → Prop) : Nat → MS → Int32 → Int32 → Int32 → Int32 → Prop
  | 0, _, _, _, _, _ => False
  | n + 1, σ, x1, x2, x3, x4 => vp_in x1 144 ∧ ((σ.2.1 16 x1.toNatClampNeg) ≤ x4 → narrow .boolean (.int x3) = .int x3 ∧ Post x3 σ) ∧ (¬ (σ.2.1 16 x1.toNatClampNeg) ≤ x4 → ∀ y3 : Int32, y3 = (200 * x2) + x4 → vp_in y3 1800 ∧ ((σ.2.1 22 y3.toNatClampNeg) = 0 → wpM_holds_64 (fun a0 a1 a2 a3 a4 => wpM_holds_27 Post n a0 a1 a2 a3 a4) Post σ x1 x2 x3 x4 y3) ∧ (¬ (σ.2.1 22 y3.toNatClampNeg) = 0 → (x3 = 0 → wpM_holds_64 (fun a0 a1 a2 a3 a4 => wpM_holds_27 Post n a0 a1 a2 a3 a4) Post σ x1 x2 x3 x4 y3) ∧ (¬ x3 = 0 → Post 1 σ)))
set_option maxHeartbeats 1000000 in
set_option maxRecDepth 20000 in
theorem wkM_holds_27 {Post : Int32 → MS → Prop} (E : xE cX11_holds RX11 8 (some .boolean) D cy p s m args meth c) : ∀ n : Nat, ∀ (σ : MS) (x1 : Int32) (x2 : Int32) (x3 : Int32) (x4 : Int32) (H : Heap) (locs : List Loc) (ls : Array Slot), xH D A s (MW q cy σ) H locs → wpM_holds_27 Post n σ x1 x2 x3 x4 → lv_has ls 8 [(0, .ref (q 0)), (1, .int x1), (2, .int x2), (3, .int x3), (4, .int x4)] → W p l e rM_holds s m args below meth c H locs 0 0 (MQ below (va_Qi Post (xB D cy (MW q cy) A) A) args s 0 0 A) (F0 m 27 ls []) := by
  have hx := E.1
  have hb := E.2.1
  intro n
  induction n with
  | zero => intro σ x1 x2 x3 x4 H locs ls h hw hl; exact False.elim hw
  | succ n ih =>
    intro σ x1 x2 x3 x4 H locs ls h hw hl
    refine lv_iload hx hb dX11_holds_27 (lv_at hl 4 rfl) ?_
    refine lv_aload_n hx hb dX11_holds_29 rfl (lv_at hl 0 rfl) ?_
    refine gX11_64 E h dX11_holds_30 ?_
    refine lv_iload_n hx hb dX11_holds_33 rfl (lv_at hl 1 rfl) ?_
    have h1 := hw.1
    have hw := hw.2
    refine aM_16 E h h1 dX11_holds_34 ?_
    refine lv_icmp_ge (tgt := 219) hx hb dX11_holds_35 (by decide) (fun c2 => ?_) (fun c2 => ?_)
    · have hw := hw.1 c2
      refine lv_iload_n hx hb dX11_holds_219 rfl (lv_at hl 3 rfl) ?_
      exact x_zret E h hw.1 hw.2 dX11_holds_220
    · have hw := hw.2 c2
      refine lv_sipush (v := 200) hx hb dX11_holds_38 (by decide) ?_
      refine lv_iload_n hx hb dX11_holds_41 rfl (lv_at hl 2 rfl) ?_
      refine lv_imul hx hb dX11_holds_42 ?_
      refine lv_iload hx hb dX11_holds_43 (lv_at hl 4 rfl) ?_
      refine lv_iadd hx hb dX11_holds_45 ?_
      refine lv_topi (fun y3 ey3 => ?_)
      have hw := hw y3 ey3
      refine lv_istore (lv' := [(5, .int y3), (0, .ref (q 0)), (1, .int x1), (2, .int x2), (3, .int x3), (4, .int x4)]) hx hb dX11_holds_46 hl (by decide) rfl (fun ls hl => ?_)
      refine lv_aload_n hx hb dX11_holds_48 rfl (lv_at hl 1 rfl) ?_
      refine gX11_82 E h dX11_holds_49 ?_
      refine lv_iload hx hb dX11_holds_52 (lv_at hl 0 rfl) ?_
      have h4 := hw.1
      have hw := hw.2
      refine aM_22 E h h4 dX11_holds_54 ?_
      refine lv_if_eq (tgt := 64) hx hb dX11_holds_55 (by decide) (fun c5 => ?_) (fun c5 => ?_)
      · have hw := hw.1 c5
        exact wkM_holds_64 E ih _ _ _ _ _ _ _ _ _ h hw (lv_sub hl [1, 2, 3, 4, 5, 0] rfl)
      · have hw := hw.2 c5
        refine lv_iload_n hx hb dX11_holds_58 rfl (lv_at hl 4 rfl) ?_
        refine lv_if_eq (tgt := 64) hx hb dX11_holds_59 (by decide) (fun c6 => ?_) (fun c6 => ?_)
        · have hw := hw.1 c6
          exact wkM_holds_64 E ih _ _ _ _ _ _ _ _ _ h hw (lv_sub hl [1, 2, 3, 4, 5, 0] rfl)
        · have hw := hw.2 c6
          refine lv_iconst (v := 1) hx hb dX11_holds_62 (by decide) ?_
          exact x_zret E h rfl hw dX11_holds_63

def wpM_holds (σ : MS) (x1 : Int32) (x2 : Int32) (Post : Int32 → MS → Prop) : Prop := vp_in x1 144 ∧ vp_in x1 144 ∧ ((σ.2.1 15 x1.toNatClampNeg) = (σ.2.1 16 x1.toNatClampNeg) → Post 1 σ) ∧ (¬ (σ.2.1 15 x1.toNatClampNeg) = (σ.2.1 16 x1.toNatClampNeg) → vp_in x1 144 ∧ ∀ y5 : Int32, y5 = σ.2.1 15 x1.toNatClampNeg → ∃ g, wpM_holds_27 Post g σ x1 x2 0 y5)
set_option maxHeartbeats 1000000 in
set_option maxRecDepth 20000 in
theorem cM_holds {l : Launch} {D : va_G} {cy : Nat → ClassId} {q : Nat → Nat} {σ : MS} {sz : Nat} {x1 : Int32} {x2 : Int32} {Post : Int32 → MS → Prop} (hw : wpM_holds σ x1 x2 Post) : Met l yX11_holds (Cond.code yX11_holds cX11_holds 8 (some .boolean) :: wsA) rM_holds (xPc D cy (MW q cy σ) sz [.ref (q 0), .int x1, .int x2]) (va_Qi Post (xB D cy (MW q cy) (va_A (MW q cy σ) sz)) (va_A (MW q cy σ) sz)) 0 0 (va_A (MW q cy σ) sz) := by
  refine x_enter (own := RX11) (WW := MW q cy) (by decide) rfl (Nat.le_of_ble_eq_true rfl) ?_
  intro p e s m below meth c ls E h hl
  have hx := E.1
  have hb := E.2.1
  have hl : lv_has ls 8 [(0, .ref (q 0)), (1, .int x1), (2, .int x2)] := hl
  unfold wpM_holds at hw
  refine lv_aload_n hx hb dX11_holds_0 rfl (lv_at hl 0 rfl) ?_
  refine gX11_61 E h dX11_holds_1 ?_
  refine lv_iload_n hx hb dX11_holds_4 rfl (lv_at hl 1 rfl) ?_
  have h1 := hw.1
  have hw := hw.2
  refine aM_15 E h h1 dX11_holds_5 ?_
  refine lv_aload_n hx hb dX11_holds_6 rfl (lv_at hl 0 rfl) ?_
  refine gX11_64 E h dX11_holds_7 ?_
  refine lv_iload_n hx hb dX11_holds_10 rfl (lv_at hl 1 rfl) ?_
  have h2 := hw.1
  have hw := hw.2
  refine aM_16 E h h2 dX11_holds_11 ?_
  refine lv_icmp_ne (tgt := 17) hx hb dX11_holds_12 (by decide) (fun c3 => ?_) (fun c3 => ?_)
  · have hw := hw.2 c3
    refine lv_iconst (v := 0) hx hb dX11_holds_17 (by decide) ?_
    refine lv_istore_n (lv' := [(3, .int 0), (0, .ref (q 0)), (1, .int x1), (2, .int x2)]) hx hb dX11_holds_18 rfl hl (by decide) rfl (fun ls hl => ?_)
    refine lv_aload_n hx hb dX11_holds_19 rfl (lv_at hl 1 rfl) ?_
    refine gX11_61 E h dX11_holds_20 ?_
    refine lv_iload_n hx hb dX11_holds_23 rfl (lv_at hl 2 rfl) ?_
    have h4 := hw.1
    have hw := hw.2
    refine aM_15 E h h4 dX11_holds_24 ?_
    refine lv_topi (fun y5 ey5 => ?_)
    have hw := hw y5 ey5
    refine lv_istore (lv' := [(4, .int y5), (3, .int 0), (0, .ref (q 0)), (1, .int x1), (2, .int x2)]) hx hb dX11_holds_25 hl (by decide) rfl (fun ls hl => ?_)
    obtain ⟨g, hw⟩ := hw
    exact wkM_holds_27 E g _ _ _ _ _ _ _ _ h hw (lv_sub hl [2, 3, 4, 1, 0] rfl)
  · have hw := hw.1 c3
    refine lv_iconst (v := 1) hx hb dX11_holds_15 (by decide) ?_
    exact x_zret E h rfl hw dX11_holds_16

end MWalk
