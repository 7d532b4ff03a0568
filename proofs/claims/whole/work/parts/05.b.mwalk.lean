section MWalk
variable {p : Program} {l : Launch} {e : Env} {s : State} {m : MethodId} {args : Array Value} {below : List Frame} {meth : Method} {c : Code} {D : va_G} {cy : Nat → ClassId} {q : Nat → Nat} {A : Nat → Prop}
abbrev rM_relation : Room := { frames := 3, cells := 0, slots := 0, locals := 68 }
def wpM_relation_54 (Post : MS → Prop) (σ : MS) (x1 : Int32) (x2 : Int32) (x3 : Int32) : Prop := wpM_next σ (fun σ1 => ∀ y2 : Int32, y2 = σ1.1 35 → wpM_expression σ1 (fun σ3 => ((σ3.1 13) ≤ 0 → vp_in (σ3.1 19) 9 ∧ ∀ y6 : Int32, y6 = (200 * (σ3.1 19)) + (σ3.2.1 17 (σ3.1 19).toNatClampNeg) → vp_in y6 1800 ∧ ∀ σ7 : MS, σ7 = mA σ3 18 (upd (σ3.2.1 18) y6.toNatClampNeg x3) → vp_in y6 1800 ∧ ∀ σ9 : MS, σ9 = mA σ7 19 (upd (σ7.2.1 19) y6.toNatClampNeg x2) → vp_in y6 1800 ∧ ∀ σ11 : MS, σ11 = mA σ9 20 (upd (σ9.2.1 20) y6.toNatClampNeg y2) → vp_in y6 1800 ∧ ∀ σ13 : MS, σ13 = mA σ11 21 (upd (σ11.2.1 21) y6.toNatClampNeg (σ11.1 35)) → vp_in y6 1800 ∧ ∀ σ15 : MS, σ15 = mA σ13 22 (upd (σ13.2.1 22) y6.toNatClampNeg (vp_nar .boolean x1)) → vp_in (σ15.1 19) 9 ∧ vp_in (σ15.1 19) 9 ∧ ∀ σ18 : MS, σ18 = mA σ15 17 (upd (σ15.2.1 17) (σ15.1 19).toNatClampNeg ((σ15.2.1 17 (σ15.1 19).toNatClampNeg) + 1)) → Post σ18) ∧ (¬ (σ3.1 13) ≤ 0 → Post σ3)))
set_option maxHeartbeats 1000000 in
set_option maxRecDepth 20000 in
theorem wkM_relation_54 {Post : MS → Prop} (E : xE cX11_relation RX11 6 none D cy p s m args meth c) : ∀ (σ : MS) (x1 : Int32) (x2 : Int32) (x3 : Int32) (H : Heap) (locs : List Loc) (ls : Array Slot), xH D A s (MW q cy σ) H locs → wpM_relation_54 Post σ x1 x2 x3 → lv_has ls 6 [(0, .ref (q 0)), (1, .int x1), (2, .int x2), (3, .int x3)] → W p l e rM_relation s m args below meth c H locs 0 0 (MQ below (va_Qv Post (xB D cy (MW q cy) A) A) args s 0 0 A) (F0 m 54 ls []) := by
  have hx := E.1
  have hb := E.2.1
  intro σ x1 x2 x3 H locs ls h hw hl
  unfold wpM_relation_54 at hw
  refine lv_aload_n hx hb dX11_relation_54 rfl (lv_at hl 0 rfl) ?_
  refine x_callv h (x_runV (WW := MW q cy) (rest := []) E h (cM_next hw) yyX11_next lX11_256 0 rfl rfl ⟨Nat.le_of_ble_eq_true rfl, Nat.le_of_ble_eq_true rfl⟩ rfl rfl hl.1 rfl (Nat.le_of_ble_eq_true rfl) dX11_relation_55 ⟨Nat.le_refl 0, Nat.le_refl 0⟩) (fun σ1 H locs hw h => ?_)
  refine lv_aload_n hx hb dX11_relation_58 rfl (lv_at hl 0 rfl) ?_
  refine gX11_274 E h dX11_relation_59 ?_
  refine lv_topi (fun y2 ey2 => ?_)
  have hw := hw y2 ey2
  refine lv_istore (lv' := [(4, .int y2), (0, .ref (q 0)), (1, .int x1), (2, .int x2), (3, .int x3)]) hx hb dX11_relation_62 hl (by decide) rfl (fun ls hl => ?_)
  refine lv_aload_n hx hb dX11_relation_64 rfl (lv_at hl 1 rfl) ?_
  refine x_callv h (x_runV (WW := MW q cy) (rest := []) E h (cM_expression hw) yyX11_expression lX11_283 0 rfl rfl ⟨Nat.le_of_ble_eq_true rfl, Nat.le_of_ble_eq_true rfl⟩ rfl rfl hl.1 rfl (Nat.le_of_ble_eq_true rfl) dX11_relation_65 ⟨Nat.le_refl 0, Nat.le_refl 0⟩) (fun σ3 H locs hw h => ?_)
  refine lv_aload_n hx hb dX11_relation_68 rfl (lv_at hl 1 rfl) ?_
  refine gX11_235 E h dX11_relation_69 ?_
  refine lv_if_le (tgt := 76) hx hb dX11_relation_72 (by decide) (fun c4 => ?_) (fun c4 => ?_)
  · have hw := hw.1 c4
    refine lv_sipush (v := 200) hx hb dX11_relation_76 (by decide) ?_
    refine lv_aload_n hx hb dX11_relation_79 rfl (lv_at hl 1 rfl) ?_
    refine gX11_271 E h dX11_relation_80 ?_
    refine lv_imul hx hb dX11_relation_83 ?_
    refine lv_aload_n hx hb dX11_relation_84 rfl (lv_at hl 1 rfl) ?_
    refine gX11_67 E h dX11_relation_85 ?_
    refine lv_aload_n hx hb dX11_relation_88 rfl (lv_at hl 1 rfl) ?_
    refine gX11_271 E h dX11_relation_89 ?_
    have h5 := hw.1
    have hw := hw.2
    refine aM_17 E h h5 dX11_relation_92 ?_
    refine lv_iadd hx hb dX11_relation_93 ?_
    refine lv_topi (fun y6 ey6 => ?_)
    have hw := hw y6 ey6
    refine lv_istore (lv' := [(5, .int y6), (4, .int y2), (0, .ref (q 0)), (1, .int x1), (2, .int x2), (3, .int x3)]) hx hb dX11_relation_94 hl (by decide) rfl (fun ls hl => ?_)
    refine lv_aload_n hx hb dX11_relation_96 rfl (lv_at hl 2 rfl) ?_
    refine gX11_70 E h dX11_relation_97 ?_
    refine lv_iload hx hb dX11_relation_100 (lv_at hl 0 rfl) ?_
    refine lv_iload_n hx hb dX11_relation_102 rfl (lv_at hl 5 rfl) ?_
    have h8 := hw.1
    have hw := hw.2
    refine sM_18 E h h8 dX11_relation_103 (fun σ7 H locs eσ7 h => ?_)
    have hw := hw σ7 eσ7
    refine lv_aload_n hx hb dX11_relation_104 rfl (lv_at hl 2 rfl) ?_
    refine gX11_73 E h dX11_relation_105 ?_
    refine lv_iload hx hb dX11_relation_108 (lv_at hl 0 rfl) ?_
    refine lv_iload_n hx hb dX11_relation_110 rfl (lv_at hl 4 rfl) ?_
    have h10 := hw.1
    have hw := hw.2
    refine sM_19 E h h10 dX11_relation_111 (fun σ9 H locs eσ9 h => ?_)
    have hw := hw σ9 eσ9
    refine lv_aload_n hx hb dX11_relation_112 rfl (lv_at hl 2 rfl) ?_
    refine gX11_76 E h dX11_relation_113 ?_
    refine lv_iload hx hb dX11_relation_116 (lv_at hl 0 rfl) ?_
    refine lv_iload hx hb dX11_relation_118 (lv_at hl 1 rfl) ?_
    have h12 := hw.1
    have hw := hw.2
    refine sM_20 E h h12 dX11_relation_120 (fun σ11 H locs eσ11 h => ?_)
    have hw := hw σ11 eσ11
    refine lv_aload_n hx hb dX11_relation_121 rfl (lv_at hl 2 rfl) ?_
    refine gX11_79 E h dX11_relation_122 ?_
    refine lv_iload hx hb dX11_relation_125 (lv_at hl 0 rfl) ?_
    refine lv_aload_n hx hb dX11_relation_127 rfl (lv_at hl 2 rfl) ?_
    refine gX11_274 E h dX11_relation_128 ?_
    have h14 := hw.1
    have hw := hw.2
    refine sM_21 E h h14 dX11_relation_131 (fun σ13 H locs eσ13 h => ?_)
    have hw := hw σ13 eσ13
    refine lv_aload_n hx hb dX11_relation_132 rfl (lv_at hl 2 rfl) ?_
    refine gX11_82 E h dX11_relation_133 ?_
    refine lv_iload hx hb dX11_relation_136 (lv_at hl 0 rfl) ?_
    refine lv_iload_n hx hb dX11_relation_138 rfl (lv_at hl 3 rfl) ?_
    have h16 := hw.1
    have hw := hw.2
    refine sM_22 E h h16 dX11_relation_139 (fun σ15 H locs eσ15 h => ?_)
    have hw := hw σ15 eσ15
    refine lv_aload_n hx hb dX11_relation_140 rfl (lv_at hl 2 rfl) ?_
    refine gX11_67 E h dX11_relation_141 ?_
    refine lv_aload_n hx hb dX11_relation_144 rfl (lv_at hl 2 rfl) ?_
    refine gX11_271 E h dX11_relation_145 ?_
    refine lv_dup2_11 hx hb dX11_relation_148 rfl rfl ?_
    have h17 := hw.1
    have hw := hw.2
    refine aM_17 E h h17 dX11_relation_149 ?_
    refine lv_iconst (v := 1) hx hb dX11_relation_150 (by decide) ?_
    refine lv_iadd hx hb dX11_relation_151 ?_
    have h19 := hw.1
    have hw := hw.2
    refine sM_17 E h h19 dX11_relation_152 (fun σ18 H locs eσ18 h => ?_)
    have hw := hw σ18 eσ18
    exact x_vret E h hw dX11_relation_153
  · have hw := hw.2 c4
    exact x_vret E h hw dX11_relation_75

def wpM_relation_49 (Post : MS → Prop) (σ : MS) (x1 : Int32) (x2 : Int32) (x3 : Int32) : Prop := wpM_fail σ 1 (fun σ1 => wpM_relation_54 Post σ1 x1 x2 x3)
set_option maxHeartbeats 1000000 in
set_option maxRecDepth 20000 in
theorem wkM_relation_49 {Post : MS → Prop} (E : xE cX11_relation RX11 6 none D cy p s m args meth c) : ∀ (σ : MS) (x1 : Int32) (x2 : Int32) (x3 : Int32) (H : Heap) (locs : List Loc) (ls : Array Slot), xH D A s (MW q cy σ) H locs → wpM_relation_49 Post σ x1 x2 x3 → lv_has ls 6 [(0, .ref (q 0)), (1, .int x1), (2, .int x2), (3, .int x3)] → W p l e rM_relation s m args below meth c H locs 0 0 (MQ below (va_Qv Post (xB D cy (MW q cy) A) A) args s 0 0 A) (F0 m 49 ls []) := by
  have hx := E.1
  have hb := E.2.1
  intro σ x1 x2 x3 H locs ls h hw hl
  unfold wpM_relation_49 at hw
  refine lv_aload_n hx hb dX11_relation_49 rfl (lv_at hl 0 rfl) ?_
  refine lv_iconst (v := 1) hx hb dX11_relation_50 (by decide) ?_
  refine x_callv h (x_runV (WW := MW q cy) (rest := []) E h (cM_fail hw) yyX11_fail lX11_250 0 rfl rfl ⟨Nat.le_of_ble_eq_true rfl, Nat.le_of_ble_eq_true rfl⟩ rfl rfl hl.1 rfl (Nat.le_of_ble_eq_true rfl) dX11_relation_51 ⟨Nat.le_refl 0, Nat.le_refl 0⟩) (fun σ1 H locs hw h => ?_)
  exact wkM_relation_54 E _ _ _ _ _ _ _ h hw (lv_sub hl [0, 1, 2, 3] rfl)

def wpM_relation_32 (Post : MS → Prop) (σ : MS) (x1 : Int32) (x2 : Int32) (t0 : Int32) : Prop := ((σ.1 13) = 0 → (t0 < 0 → wpM_relation_49 Post σ x1 x2 t0) ∧ (¬ t0 < 0 → (t0 ≤ 3 → wpM_relation_54 Post σ x1 x2 t0) ∧ (¬ t0 ≤ 3 → wpM_relation_49 Post σ x1 x2 t0))) ∧ (¬ (σ.1 13) = 0 → wpM_relation_54 Post σ x1 x2 t0)
set_option maxHeartbeats 1000000 in
set_option maxRecDepth 20000 in
theorem wkM_relation_32 {Post : MS → Prop} (E : xE cX11_relation RX11 6 none D cy p s m args meth c) : ∀ (σ : MS) (x1 : Int32) (x2 : Int32) (t0 : Int32) (H : Heap) (locs : List Loc) (ls : Array Slot), xH D A s (MW q cy σ) H locs → wpM_relation_32 Post σ x1 x2 t0 → lv_has ls 6 [(0, .ref (q 0)), (1, .int x1), (2, .int x2)] → W p l e rM_relation s m args below meth c H locs 0 0 (MQ below (va_Qv Post (xB D cy (MW q cy) A) A) args s 0 0 A) (F0 m 32 ls [.int t0]) := by
  have hx := E.1
  have hb := E.2.1
  intro σ x1 x2 t0 H locs ls h hw hl
  unfold wpM_relation_32 at hw
  refine lv_istore_n (lv' := [(3, .int t0), (0, .ref (q 0)), (1, .int x1), (2, .int x2)]) hx hb dX11_relation_32 rfl hl (by decide) rfl (fun ls hl => ?_)
  refine lv_aload_n hx hb dX11_relation_33 rfl (lv_at hl 1 rfl) ?_
  refine gX11_235 E h dX11_relation_34 ?_
  refine lv_if_ne (tgt := 54) hx hb dX11_relation_37 (by decide) (fun c1 => ?_) (fun c1 => ?_)
  · have hw := hw.2 c1
    exact wkM_relation_54 E _ _ _ _ _ _ _ h hw (lv_sub hl [1, 2, 3, 0] rfl)
  · have hw := hw.1 c1
    refine lv_iload_n hx hb dX11_relation_40 rfl (lv_at hl 0 rfl) ?_
    refine lv_if_lt (tgt := 49) hx hb dX11_relation_41 (by decide) (fun c2 => ?_) (fun c2 => ?_)
    · have hw := hw.1 c2
      exact wkM_relation_49 E _ _ _ _ _ _ _ h hw (lv_sub hl [1, 2, 3, 0] rfl)
    · have hw := hw.2 c2
      refine lv_iload_n hx hb dX11_relation_44 rfl (lv_at hl 0 rfl) ?_
      refine lv_iconst (v := 3) hx hb dX11_relation_45 (by decide) ?_
      refine lv_icmp_le (tgt := 54) hx hb dX11_relation_46 (by decide) (fun c3 => ?_) (fun c3 => ?_)
      · have hw := hw.1 c3
        exact wkM_relation_54 E _ _ _ _ _ _ _ h hw (lv_sub hl [1, 2, 3, 0] rfl)
      · have hw := hw.2 c3
        exact wkM_relation_49 E _ _ _ _ _ _ _ h hw (lv_sub hl [1, 2, 3, 0] rfl)

def wpM_relation (σ : MS) (x1 : Int32) (Post : MS → Prop) : Prop := ∀ y1 : Int32, y1 = σ.1 35 → wpM_expression σ (fun σ2 => ((σ2.1 13) ≤ 0 → vp_in (σ2.1 11) 403 ∧ wpM_relation_32 Post σ2 x1 y1 ((σ2.2.1 3 (σ2.1 11).toNatClampNeg) - 11)) ∧ (¬ (σ2.1 13) ≤ 0 → wpM_relation_32 Post σ2 x1 y1 0))
set_option maxHeartbeats 1000000 in
set_option maxRecDepth 20000 in
theorem cM_relation {l : Launch} {D : va_G} {cy : Nat → ClassId} {q : Nat → Nat} {σ : MS} {sz : Nat} {x1 : Int32} {Post : MS → Prop} (hw : wpM_relation σ x1 Post) : Met l yX11_relation (Cond.code yX11_relation cX11_relation 6 none :: wsA) rM_relation (xPc D cy (MW q cy σ) sz [.ref (q 0), .int x1]) (va_Qv Post (xB D cy (MW q cy) (va_A (MW q cy σ) sz)) (va_A (MW q cy σ) sz)) 0 0 (va_A (MW q cy σ) sz) := by
  refine x_enter (own := RX11) (WW := MW q cy) (by decide) rfl (Nat.le_of_ble_eq_true rfl) ?_
  intro p e s m below meth c ls E h hl
  have hx := E.1
  have hb := E.2.1
  have hl : lv_has ls 6 [(0, .ref (q 0)), (1, .int x1)] := hl
  unfold wpM_relation at hw
  refine lv_aload_n hx hb dX11_relation_0 rfl (lv_at hl 0 rfl) ?_
  refine gX11_274 E h dX11_relation_1 ?_
  refine lv_topi (fun y1 ey1 => ?_)
  have hw := hw y1 ey1
  refine lv_istore_n (lv' := [(2, .int y1), (0, .ref (q 0)), (1, .int x1)]) hx hb dX11_relation_4 rfl hl (by decide) rfl (fun ls hl => ?_)
  refine lv_aload_n hx hb dX11_relation_5 rfl (lv_at hl 1 rfl) ?_
  refine x_callv h (x_runV (WW := MW q cy) (rest := []) E h (cM_expression hw) yyX11_expression lX11_283 0 rfl rfl ⟨Nat.le_of_ble_eq_true rfl, Nat.le_of_ble_eq_true rfl⟩ rfl rfl hl.1 rfl (Nat.le_of_ble_eq_true rfl) dX11_relation_6 ⟨Nat.le_refl 0, Nat.le_refl 0⟩) (fun σ2 H locs hw h => ?_)
  refine lv_aload_n hx hb dX11_relation_9 rfl (lv_at hl 1 rfl) ?_
  refine gX11_235 E h dX11_relation_10 ?_
  refine lv_if_le (tgt := 20) hx hb dX11_relation_13 (by decide) (fun c3 => ?_) (fun c3 => ?_)
  · have hw := hw.1 c3
    refine lv_aload_n hx hb dX11_relation_20 rfl (lv_at hl 1 rfl) ?_
    refine gX11_20 E h dX11_relation_21 ?_
    refine lv_aload_n hx hb dX11_relation_24 rfl (lv_at hl 1 rfl) ?_
    refine gX11_238 E h dX11_relation_25 ?_
    have h4 := hw.1
    have hw := hw.2
    refine aM_3 E h h4 dX11_relation_28 ?_
    refine lv_bipush (v := 11) hx hb dX11_relation_29 (by decide) ?_
    refine lv_isub hx hb dX11_relation_31 ?_
    exact wkM_relation_32 E _ _ _ _ _ _ _ h hw (lv_sub hl [1, 2, 0] rfl)
  · have hw := hw.2 c3
    refine lv_iconst (v := 0) hx hb dX11_relation_16 (by decide) ?_
    refine lv_goto (tgt := 32) hx hb dX11_relation_17 (by decide) ?_
    exact wkM_relation_32 E _ _ _ _ _ _ _ h hw (lv_sub hl [1, 2, 0] rfl)

abbrev rM_tellRule : Room := { frames := 4, cells := 0, slots := 0, locals := 93 }
def wpM_tellRule_330 (Post : MS → Prop) (σ : MS) (x2 : Int32) : Prop := wpM_must σ 4 (fun σ1 => ((σ1.1 13) ≤ 0 → vp_in (σ1.1 19) 9 ∧ vp_in x2 144 ∧ ∀ σ4 : MS, σ4 = mA σ1 16 (upd (σ1.2.1 16) x2.toNatClampNeg (σ1.2.1 17 (σ1.1 19).toNatClampNeg)) → vp_in (σ4.1 19) 9 ∧ vp_in (σ4.1 19) 9 ∧ ∀ σ7 : MS, σ7 = mA σ4 10 (upd (σ4.2.1 10) (σ4.1 19).toNatClampNeg ((σ4.2.1 10 (σ4.1 19).toNatClampNeg) + 1)) → Post σ7) ∧ (¬ (σ1.1 13) ≤ 0 → Post σ1))
set_option maxHeartbeats 1000000 in
set_option maxRecDepth 20000 in
theorem wkM_tellRule_330 {Post : MS → Prop} (E : xE cX11_tellRule RX11 5 none D cy p s m args meth c) : ∀ (σ : MS) (x2 : Int32) (H : Heap) (locs : List Loc) (ls : Array Slot), xH D A s (MW q cy σ) H locs → wpM_tellRule_330 Post σ x2 → lv_has ls 5 [(0, .ref (q 0)), (2, .int x2)] → W p l e rM_tellRule s m args below meth c H locs 0 0 (MQ below (va_Qv Post (xB D cy (MW q cy) A) A) args s 0 0 A) (F0 m 330 ls []) := by
  have hx := E.1
  have hb := E.2.1
  intro σ x2 H locs ls h hw hl
  unfold wpM_tellRule_330 at hw
  refine lv_aload_n hx hb dX11_tellRule_330 rfl (lv_at hl 0 rfl) ?_
  refine lv_iconst (v := 4) hx hb dX11_tellRule_331 (by decide) ?_
  refine x_callv h (x_runV (WW := MW q cy) (rest := []) E h (cM_must hw) yyX11_must lX11_280 0 rfl rfl ⟨Nat.le_of_ble_eq_true rfl, Nat.le_of_ble_eq_true rfl⟩ rfl rfl hl.1 rfl (Nat.le_of_ble_eq_true rfl) dX11_tellRule_332 ⟨Nat.le_refl 0, Nat.le_refl 0⟩) (fun σ1 H locs hw h => ?_)
  refine lv_aload_n hx hb dX11_tellRule_335 rfl (lv_at hl 0 rfl) ?_
  refine gX11_235 E h dX11_tellRule_336 ?_
  refine lv_if_le (tgt := 343) hx hb dX11_tellRule_339 (by decide) (fun c2 => ?_) (fun c2 => ?_)
  · have hw := hw.1 c2
    refine lv_aload_n hx hb dX11_tellRule_343 rfl (lv_at hl 0 rfl) ?_
    refine gX11_64 E h dX11_tellRule_344 ?_
    refine lv_iload_n hx hb dX11_tellRule_347 rfl (lv_at hl 1 rfl) ?_
    refine lv_aload_n hx hb dX11_tellRule_348 rfl (lv_at hl 0 rfl) ?_
    refine gX11_67 E h dX11_tellRule_349 ?_
    refine lv_aload_n hx hb dX11_tellRule_352 rfl (lv_at hl 0 rfl) ?_
    refine gX11_271 E h dX11_tellRule_353 ?_
    have h3 := hw.1
    have hw := hw.2
    refine aM_17 E h h3 dX11_tellRule_356 ?_
    have h5 := hw.1
    have hw := hw.2
    refine sM_16 E h h5 dX11_tellRule_357 (fun σ4 H locs eσ4 h => ?_)
    have hw := hw σ4 eσ4
    refine lv_aload_n hx hb dX11_tellRule_358 rfl (lv_at hl 0 rfl) ?_
    refine gX11_46 E h dX11_tellRule_359 ?_
    refine lv_aload_n hx hb dX11_tellRule_362 rfl (lv_at hl 0 rfl) ?_
    refine gX11_271 E h dX11_tellRule_363 ?_
    refine lv_dup2_11 hx hb dX11_tellRule_366 rfl rfl ?_
    have h6 := hw.1
    have hw := hw.2
    refine aM_10 E h h6 dX11_tellRule_367 ?_
    refine lv_iconst (v := 1) hx hb dX11_tellRule_368 (by decide) ?_
    refine lv_iadd hx hb dX11_tellRule_369 ?_
    have h8 := hw.1
    have hw := hw.2
    refine sM_10 E h h8 dX11_tellRule_370 (fun σ7 H locs eσ7 h => ?_)
    have hw := hw σ7 eσ7
    exact x_vret E h hw dX11_tellRule_371
  · have hw := hw.2 c2
    exact x_vret E h hw dX11_tellRule_342

def wpM_tellRule_318 (K274 : MS → Int32 → Int32 → Int32 → Prop) (Post : MS → Prop) (σ : MS) (x2 : Int32) (x4 : Int32) (t0 : Int32) : Prop := (t0 = 0 → K274 σ x2 t0 x4) ∧ (¬ t0 = 0 → wpM_next σ (fun σ2 => K274 σ2 x2 t0 x4))
set_option maxHeartbeats 1000000 in
set_option maxRecDepth 20000 in
theorem wkM_tellRule_318 {Post : MS → Prop} (E : xE cX11_tellRule RX11 5 none D cy p s m args meth c) {K274 : MS → Int32 → Int32 → Int32 → Prop} (hK274 : ∀ (σ : MS) (x2 : Int32) (x3 : Int32) (x4 : Int32) (H : Heap) (locs : List Loc) (ls : Array Slot), xH D A s (MW q cy σ) H locs → K274 σ x2 x3 x4 → lv_has ls 5 [(0, .ref (q 0)), (2, .int x2), (3, .int x3), (4, .int x4)] → W p l e rM_tellRule s m args below meth c H locs 0 0 (MQ below (va_Qv Post (xB D cy (MW q cy) A) A) args s 0 0 A) (F0 m 274 ls [])) : ∀ (σ : MS) (x2 : Int32) (x4 : Int32) (t0 : Int32) (H : Heap) (locs : List Loc) (ls : Array Slot), xH D A s (MW q cy σ) H locs → wpM_tellRule_318 K274 Post σ x2 x4 t0 → lv_has ls 5 [(0, .ref (q 0)), (2, .int x2), (4, .int x4)] → W p l e rM_tellRule s m args below meth c H locs 0 0 (MQ below (va_Qv Post (xB D cy (MW q cy) A) A) args s 0 0 A) (F0 m 318 ls [.int t0]) := by
  have hx := E.1
  have hb := E.2.1
  intro σ x2 x4 t0 H locs ls h hw hl
  unfold wpM_tellRule_318 at hw
  refine lv_istore_n (lv' := [(3, .int t0), (0, .ref (q 0)), (2, .int x2), (4, .int x4)]) hx hb dX11_tellRule_318 rfl hl (by decide) rfl (fun ls hl => ?_)
  refine lv_iload_n hx hb dX11_tellRule_319 rfl (lv_at hl 0 rfl) ?_
  refine lv_if_eq (tgt := 274) hx hb dX11_tellRule_320 (by decide) (fun c1 => ?_) (fun c1 => ?_)
  · have hw := hw.1 c1
    exact hK274 _ _ _ _ _ _ _ h hw (lv_sub hl [1, 2, 0, 3] rfl)
  · have hw := hw.2 c1
    refine lv_aload_n hx hb dX11_tellRule_323 rfl (lv_at hl 1 rfl) ?_
    refine x_callv h (x_runV (WW := MW q cy) (rest := []) E h (cM_next hw) yyX11_next lX11_256 0 rfl rfl ⟨Nat.le_of_ble_eq_true rfl, Nat.le_of_ble_eq_true rfl⟩ rfl rfl hl.1 rfl (Nat.le_of_ble_eq_true rfl) dX11_tellRule_324 ⟨Nat.le_refl 0, Nat.le_refl 0⟩) (fun σ2 H locs hw h => ?_)
    refine lv_goto (tgt := 274) hx hb dX11_tellRule_327 (by decide) ?_
    exact hK274 _ _ _ _ _ _ _ h hw (lv_sub hl [1, 2, 0, 3] rfl)

def wpM_tellRule_274 (Post : MS → Prop) : Nat → MS → Int32 → Int32 → Int32 → Prop
  | 0, _, _, _, _ => False
  | n + 1, σ, x2, x3, x4 => (x3 = 0 → wpM_tellRule_330 Post σ x2) ∧ (¬ x3 = 0 → ((σ.1 13) = 0 → wpM_relation σ x4 (fun σ3 => wpM_is σ3 26 (fun r4 σ5 => (r4 = 0 → wpM_is σ5 27 (fun r7 σ8 => (r7 = 0 → wpM_tellRule_318 (fun a0 a1 a2 a3 => wpM_tellRule_274 Post n a0 a1 a2 a3) Post σ8 x2 r4 0) ∧ (¬ r7 = 0 → wpM_tellRule_318 (fun a0 a1 a2 a3 => wpM_tellRule_274 Post n a0 a1 a2 a3) Post σ8 x2 r4 1))) ∧ (¬ r4 = 0 → wpM_tellRule_318 (fun a0 a1 a2 a3 => wpM_tellRule_274 Post n a0 a1 a2 a3) Post σ5 x2 r4 1)))) ∧ (¬ (σ.1 13) = 0 → wpM_tellRule_330 Post σ x2))
set_option maxHeartbeats 1000000 in
set_option maxRecDepth 20000 in
theorem wkM_tellRule_274 {Post : MS → Prop} (E : xE cX11_tellRule RX11 5 none D cy p s m args meth c) : ∀ n : Nat, ∀ (σ : MS) (x2 : Int32) (x3 : Int32) (x4 : Int32) (H : Heap) (locs : List Loc) (ls : Array Slot), xH D A s (MW q cy σ) H locs → wpM_tellRule_274 Post n σ x2 x3 x4 → lv_has ls 5 [(0, .ref (q 0)), (2, .int x2), (3, .int x3), (4, .int x4)] → W p l e rM_tellRule s m args below meth c H locs 0 0 (MQ below (va_Qv Post (xB D cy (MW q cy) A) A) args s 0 0 A) (F0 m 274 ls []) := by
  have hx := E.1
  have hb := E.2.1
  intro n
  induction n with
  | zero => intro σ x2 x3 x4 H locs ls h hw hl; exact False.elim hw
  | succ n ih =>
    intro σ x2 x3 x4 H locs ls h hw hl
    refine lv_iload_n hx hb dX11_tellRule_274 rfl (lv_at hl 2 rfl) ?_
    refine lv_if_eq (tgt := 330) hx hb dX11_tellRule_275 (by decide) (fun c1 => ?_) (fun c1 => ?_)
    · have hw := hw.1 c1
      exact wkM_tellRule_330 E _ _ _ _ _ h hw (lv_sub hl [0, 1] rfl)
    · have hw := hw.2 c1
      refine lv_aload_n hx hb dX11_tellRule_278 rfl (lv_at hl 0 rfl) ?_
      refine gX11_235 E h dX11_tellRule_279 ?_
      refine lv_if_ne (tgt := 330) hx hb dX11_tellRule_282 (by decide) (fun c2 => ?_) (fun c2 => ?_)
      · have hw := hw.2 c2
        exact wkM_tellRule_330 E _ _ _ _ _ h hw (lv_sub hl [0, 1] rfl)
      · have hw := hw.1 c2
        refine lv_aload_n hx hb dX11_tellRule_285 rfl (lv_at hl 0 rfl) ?_
        refine lv_iload hx hb dX11_tellRule_286 (lv_at hl 3 rfl) ?_
        refine x_callv h (x_runV (WW := MW q cy) (rest := []) E h (cM_relation hw) yyX11_relation lX11_286 0 rfl rfl ⟨Nat.le_of_ble_eq_true rfl, Nat.le_of_ble_eq_true rfl⟩ rfl rfl hl.1 rfl (Nat.le_of_ble_eq_true rfl) dX11_tellRule_288 ⟨Nat.le_refl 0, Nat.le_refl 0⟩) (fun σ3 H locs hw h => ?_)
        refine lv_aload_n hx hb dX11_tellRule_291 rfl (lv_at hl 0 rfl) ?_
        refine lv_bipush (v := 26) hx hb dX11_tellRule_292 (by decide) ?_
        refine x_calli h (x_runV (WW := MW q cy) (rest := []) E h (cM_is hw) yyX11_is lX11_253 0 rfl rfl ⟨Nat.le_of_ble_eq_true rfl, Nat.le_of_ble_eq_true rfl⟩ rfl rfl hl.1 rfl (Nat.le_of_ble_eq_true rfl) dX11_tellRule_294 ⟨Nat.le_refl 0, Nat.le_refl 0⟩) (fun r4 σ5 H locs hw h => ?_)
        refine lv_istore (lv' := [(4, .int r4), (0, .ref (q 0)), (2, .int x2), (3, .int x3)]) hx hb dX11_tellRule_297 hl (by decide) rfl (fun ls hl => ?_)
        refine lv_iload hx hb dX11_tellRule_299 (lv_at hl 0 rfl) ?_
        refine lv_if_ne (tgt := 313) hx hb dX11_tellRule_301 (by decide) (fun c6 => ?_) (fun c6 => ?_)
        · have hw := hw.2 c6
          refine lv_iconst (v := 1) hx hb dX11_tellRule_313 (by decide) ?_
          refine lv_goto (tgt := 318) hx hb dX11_tellRule_314 (by decide) ?_
          exact wkM_tellRule_318 E ih _ _ _ _ _ _ _ h hw (lv_sub hl [1, 2, 0] rfl)
        · have hw := hw.1 c6
          refine lv_aload_n hx hb dX11_tellRule_304 rfl (lv_at hl 1 rfl) ?_
          refine lv_bipush (v := 27) hx hb dX11_tellRule_305 (by decide) ?_
          refine x_calli h (x_runV (WW := MW q cy) (rest := []) E h (cM_is hw) yyX11_is lX11_253 0 rfl rfl ⟨Nat.le_of_ble_eq_true rfl, Nat.le_of_ble_eq_true rfl⟩ rfl rfl hl.1 rfl (Nat.le_of_ble_eq_true rfl) dX11_tellRule_307 ⟨Nat.le_refl 0, Nat.le_refl 0⟩) (fun r7 σ8 H locs hw h => ?_)
          refine lv_if_eq (tgt := 317) hx hb dX11_tellRule_310 (by decide) (fun c9 => ?_) (fun c9 => ?_)
          · have hw := hw.1 c9
            refine lv_iconst (v := 0) hx hb dX11_tellRule_317 (by decide) ?_
            exact wkM_tellRule_318 E ih _ _ _ _ _ _ _ h hw (lv_sub hl [1, 2, 0] rfl)
          · have hw := hw.2 c9
            refine lv_iconst (v := 1) hx hb dX11_tellRule_313 (by decide) ?_
            refine lv_goto (tgt := 318) hx hb dX11_tellRule_314 (by decide) ?_
            exact wkM_tellRule_318 E ih _ _ _ _ _ _ _ h hw (lv_sub hl [1, 2, 0] rfl)

def wpM_tellRule_271 (Post : MS → Prop) (σ : MS) (x2 : Int32) (x3 : Int32) : Prop := ∃ g, wpM_tellRule_274 Post g σ x2 x3 1
set_option maxHeartbeats 1000000 in
set_option maxRecDepth 20000 in
theorem wkM_tellRule_271 {Post : MS → Prop} (E : xE cX11_tellRule RX11 5 none D cy p s m args meth c) : ∀ (σ : MS) (x2 : Int32) (x3 : Int32) (H : Heap) (locs : List Loc) (ls : Array Slot), xH D A s (MW q cy σ) H locs → wpM_tellRule_271 Post σ x2 x3 → lv_has ls 5 [(0, .ref (q 0)), (2, .int x2), (3, .int x3)] → W p l e rM_tellRule s m args below meth c H locs 0 0 (MQ below (va_Qv Post (xB D cy (MW q cy) A) A) args s 0 0 A) (F0 m 271 ls []) := by
  have hx := E.1
  have hb := E.2.1
  intro σ x2 x3 H locs ls h hw hl
  unfold wpM_tellRule_271 at hw
  refine lv_iconst (v := 1) hx hb dX11_tellRule_271 (by decide) ?_
  refine lv_istore (lv' := [(4, .int 1), (0, .ref (q 0)), (2, .int x2), (3, .int x3)]) hx hb dX11_tellRule_272 hl (by decide) rfl (fun ls hl => ?_)
  obtain ⟨g, hw⟩ := hw
  exact wkM_tellRule_274 E g _ _ _ _ _ _ _ h hw (lv_sub hl [1, 2, 3, 0] rfl)

def wpM_tellRule_260 (Post : MS → Prop) (σ : MS) (x2 : Int32) (t0 : Int32) : Prop := (t0 = 0 → wpM_tellRule_271 Post σ x2 t0) ∧ (¬ t0 = 0 → wpM_must σ 25 (fun σ2 => wpM_tellRule_271 Post σ2 x2 t0))
set_option maxHeartbeats 1000000 in
set_option maxRecDepth 20000 in
theorem wkM_tellRule_260 {Post : MS → Prop} (E : xE cX11_tellRule RX11 5 none D cy p s m args meth c) : ∀ (σ : MS) (x2 : Int32) (t0 : Int32) (H : Heap) (locs : List Loc) (ls : Array Slot), xH D A s (MW q cy σ) H locs → wpM_tellRule_260 Post σ x2 t0 → lv_has ls 5 [(0, .ref (q 0)), (2, .int x2)] → W p l e rM_tellRule s m args below meth c H locs 0 0 (MQ below (va_Qv Post (xB D cy (MW q cy) A) A) args s 0 0 A) (F0 m 260 ls [.int t0]) := by
  have hx := E.1
  have hb := E.2.1
  intro σ x2 t0 H locs ls h hw hl
  unfold wpM_tellRule_260 at hw
  refine lv_istore_n (lv' := [(3, .int t0), (0, .ref (q 0)), (2, .int x2)]) hx hb dX11_tellRule_260 rfl hl (by decide) rfl (fun ls hl => ?_)
  refine lv_iload_n hx hb dX11_tellRule_261 rfl (lv_at hl 0 rfl) ?_
  refine lv_if_eq (tgt := 271) hx hb dX11_tellRule_262 (by decide) (fun c1 => ?_) (fun c1 => ?_)
  · have hw := hw.1 c1
    exact wkM_tellRule_271 E _ _ _ _ _ _ h hw (lv_sub hl [1, 2, 0] rfl)
  · have hw := hw.2 c1
    refine lv_aload_n hx hb dX11_tellRule_265 rfl (lv_at hl 1 rfl) ?_
    refine lv_bipush (v := 25) hx hb dX11_tellRule_266 (by decide) ?_
    refine x_callv h (x_runV (WW := MW q cy) (rest := []) E h (cM_must hw) yyX11_must lX11_280 0 rfl rfl ⟨Nat.le_of_ble_eq_true rfl, Nat.le_of_ble_eq_true rfl⟩ rfl rfl hl.1 rfl (Nat.le_of_ble_eq_true rfl) dX11_tellRule_268 ⟨Nat.le_refl 0, Nat.le_refl 0⟩) (fun σ2 H locs hw h => ?_)
    exact wkM_tellRule_271 E _ _ _ _ _ _ h hw (lv_sub hl [1, 2, 0] rfl)

def wpM_tellRule_259 (Post : MS → Prop) (σ : MS) (x2 : Int32) : Prop := wpM_tellRule_260 Post σ x2 0
set_option maxHeartbeats 1000000 in
set_option maxRecDepth 20000 in
theorem wkM_tellRule_259 {Post : MS → Prop} (E : xE cX11_tellRule RX11 5 none D cy p s m args meth c) : ∀ (σ : MS) (x2 : Int32) (H : Heap) (locs : List Loc) (ls : Array Slot), xH D A s (MW q cy σ) H locs → wpM_tellRule_259 Post σ x2 → lv_has ls 5 [(0, .ref (q 0)), (2, .int x2)] → W p l e rM_tellRule s m args below meth c H locs 0 0 (MQ below (va_Qv Post (xB D cy (MW q cy) A) A) args s 0 0 A) (F0 m 259 ls []) := by
  have hx := E.1
  have hb := E.2.1
  intro σ x2 H locs ls h hw hl
  unfold wpM_tellRule_259 at hw
  refine lv_iconst (v := 0) hx hb dX11_tellRule_259 (by decide) ?_
  exact wkM_tellRule_260 E _ _ _ _ _ _ h hw (lv_sub hl [0, 1] rfl)

def wpM_tellRule_201 (Post : MS → Prop) (σ : MS) (x2 : Int32) : Prop := vp_in x2 144 ∧ ∀ σ1 : MS, σ1 = mA σ 14 (upd (σ.2.1 14) x2.toNatClampNeg (σ.1 35)) → vp_in (σ1.1 19) 9 ∧ vp_in x2 144 ∧ ∀ σ4 : MS, σ4 = mA σ1 15 (upd (σ1.2.1 15) x2.toNatClampNeg (σ1.2.1 17 (σ1.1 19).toNatClampNeg)) → vp_in x2 144 ∧ ((σ4.2.1 11 x2.toNatClampNeg) < 3 → wpM_tellRule_260 Post σ4 x2 1) ∧ (¬ (σ4.2.1 11 x2.toNatClampNeg) < 3 → vp_in x2 144 ∧ ((σ4.2.1 11 x2.toNatClampNeg) = 4 → wpM_is σ4 25 (fun r10 σ11 => (r10 = 0 → wpM_tellRule_259 Post σ11 x2) ∧ (¬ r10 = 0 → wpM_tellRule_260 Post σ11 x2 1))) ∧ (¬ (σ4.2.1 11 x2.toNatClampNeg) = 4 → wpM_tellRule_259 Post σ4 x2))
set_option maxHeartbeats 1000000 in
set_option maxRecDepth 20000 in
theorem wkM_tellRule_201 {Post : MS → Prop} (E : xE cX11_tellRule RX11 5 none D cy p s m args meth c) : ∀ (σ : MS) (x2 : Int32) (H : Heap) (locs : List Loc) (ls : Array Slot), xH D A s (MW q cy σ) H locs → wpM_tellRule_201 Post σ x2 → lv_has ls 5 [(0, .ref (q 0)), (2, .int x2)] → W p l e rM_tellRule s m args below meth c H locs 0 0 (MQ below (va_Qv Post (xB D cy (MW q cy) A) A) args s 0 0 A) (F0 m 201 ls []) := by
  have hx := E.1
  have hb := E.2.1
  intro σ x2 H locs ls h hw hl
  unfold wpM_tellRule_201 at hw
  refine lv_aload_n hx hb dX11_tellRule_201 rfl (lv_at hl 0 rfl) ?_
  refine gX11_58 E h dX11_tellRule_202 ?_
  refine lv_iload_n hx hb dX11_tellRule_205 rfl (lv_at hl 1 rfl) ?_
  refine lv_aload_n hx hb dX11_tellRule_206 rfl (lv_at hl 0 rfl) ?_
  refine gX11_274 E h dX11_tellRule_207 ?_
  have h2 := hw.1
  have hw := hw.2
  refine sM_14 E h h2 dX11_tellRule_210 (fun σ1 H locs eσ1 h => ?_)
  have hw := hw σ1 eσ1
  refine lv_aload_n hx hb dX11_tellRule_211 rfl (lv_at hl 0 rfl) ?_
  refine gX11_61 E h dX11_tellRule_212 ?_
  refine lv_iload_n hx hb dX11_tellRule_215 rfl (lv_at hl 1 rfl) ?_
  refine lv_aload_n hx hb dX11_tellRule_216 rfl (lv_at hl 0 rfl) ?_
  refine gX11_67 E h dX11_tellRule_217 ?_
  refine lv_aload_n hx hb dX11_tellRule_220 rfl (lv_at hl 0 rfl) ?_
  refine gX11_271 E h dX11_tellRule_221 ?_
  have h3 := hw.1
  have hw := hw.2
  refine aM_17 E h h3 dX11_tellRule_224 ?_
  have h5 := hw.1
  have hw := hw.2
  refine sM_15 E h h5 dX11_tellRule_225 (fun σ4 H locs eσ4 h => ?_)
  have hw := hw σ4 eσ4
  refine lv_aload_n hx hb dX11_tellRule_226 rfl (lv_at hl 0 rfl) ?_
  refine gX11_49 E h dX11_tellRule_227 ?_
  refine lv_iload_n hx hb dX11_tellRule_230 rfl (lv_at hl 1 rfl) ?_
  have h6 := hw.1
  have hw := hw.2
  refine aM_11 E h h6 dX11_tellRule_231 ?_
  refine lv_iconst (v := 3) hx hb dX11_tellRule_232 (by decide) ?_
  refine lv_icmp_lt (tgt := 255) hx hb dX11_tellRule_233 (by decide) (fun c7 => ?_) (fun c7 => ?_)
  · have hw := hw.1 c7
    refine lv_iconst (v := 1) hx hb dX11_tellRule_255 (by decide) ?_
    refine lv_goto (tgt := 260) hx hb dX11_tellRule_256 (by decide) ?_
    exact wkM_tellRule_260 E _ _ _ _ _ _ h hw (lv_sub hl [0, 1] rfl)
  · have hw := hw.2 c7
    refine lv_aload_n hx hb dX11_tellRule_236 rfl (lv_at hl 0 rfl) ?_
    refine gX11_49 E h dX11_tellRule_237 ?_
    refine lv_iload_n hx hb dX11_tellRule_240 rfl (lv_at hl 1 rfl) ?_
    have h8 := hw.1
    have hw := hw.2
    refine aM_11 E h h8 dX11_tellRule_241 ?_
    refine lv_iconst (v := 4) hx hb dX11_tellRule_242 (by decide) ?_
    refine lv_icmp_ne (tgt := 259) hx hb dX11_tellRule_243 (by decide) (fun c9 => ?_) (fun c9 => ?_)
    · have hw := hw.2 c9
      exact wkM_tellRule_259 E _ _ _ _ _ h hw (lv_sub hl [0, 1] rfl)
    · have hw := hw.1 c9
      refine lv_aload_n hx hb dX11_tellRule_246 rfl (lv_at hl 0 rfl) ?_
      refine lv_bipush (v := 25) hx hb dX11_tellRule_247 (by decide) ?_
      refine x_calli h (x_runV (WW := MW q cy) (rest := []) E h (cM_is hw) yyX11_is lX11_253 0 rfl rfl ⟨Nat.le_of_ble_eq_true rfl, Nat.le_of_ble_eq_true rfl⟩ rfl rfl hl.1 rfl (Nat.le_of_ble_eq_true rfl) dX11_tellRule_249 ⟨Nat.le_refl 0, Nat.le_refl 0⟩) (fun r10 σ11 H locs hw h => ?_)
      refine lv_if_eq (tgt := 259) hx hb dX11_tellRule_252 (by decide) (fun c12 => ?_) (fun c12 => ?_)
      · have hw := hw.1 c12
        exact wkM_tellRule_259 E _ _ _ _ _ h hw (lv_sub hl [0, 1] rfl)
      · have hw := hw.2 c12
        refine lv_iconst (v := 1) hx hb dX11_tellRule_255 (by decide) ?_
        refine lv_goto (tgt := 260) hx hb dX11_tellRule_256 (by decide) ?_
        exact wkM_tellRule_260 E _ _ _ _ _ _ h hw (lv_sub hl [0, 1] rfl)

def wpM_tellRule_187 (Post : MS → Prop) (σ : MS) (x2 : Int32) : Prop := vp_in x2 144 ∧ ((σ.2.1 11 x2.toNatClampNeg) = 4 → wpM_expression σ (fun σ3 => wpM_tellRule_201 Post σ3 x2)) ∧ (¬ (σ.2.1 11 x2.toNatClampNeg) = 4 → wpM_tellRule_201 Post σ x2)
set_option maxHeartbeats 1000000 in
set_option maxRecDepth 20000 in
theorem wkM_tellRule_187 {Post : MS → Prop} (E : xE cX11_tellRule RX11 5 none D cy p s m args meth c) : ∀ (σ : MS) (x2 : Int32) (H : Heap) (locs : List Loc) (ls : Array Slot), xH D A s (MW q cy σ) H locs → wpM_tellRule_187 Post σ x2 → lv_has ls 5 [(0, .ref (q 0)), (2, .int x2)] → W p l e rM_tellRule s m args below meth c H locs 0 0 (MQ below (va_Qv Post (xB D cy (MW q cy) A) A) args s 0 0 A) (F0 m 187 ls []) := by
  have hx := E.1
  have hb := E.2.1
  intro σ x2 H locs ls h hw hl
  unfold wpM_tellRule_187 at hw
  refine lv_aload_n hx hb dX11_tellRule_187 rfl (lv_at hl 0 rfl) ?_
  refine gX11_49 E h dX11_tellRule_188 ?_
  refine lv_iload_n hx hb dX11_tellRule_191 rfl (lv_at hl 1 rfl) ?_
  have h1 := hw.1
  have hw := hw.2
  refine aM_11 E h h1 dX11_tellRule_192 ?_
  refine lv_iconst (v := 4) hx hb dX11_tellRule_193 (by decide) ?_
  refine lv_icmp_ne (tgt := 201) hx hb dX11_tellRule_194 (by decide) (fun c2 => ?_) (fun c2 => ?_)
  · have hw := hw.2 c2
    exact wkM_tellRule_201 E _ _ _ _ _ h hw (lv_sub hl [0, 1] rfl)
  · have hw := hw.1 c2
    refine lv_aload_n hx hb dX11_tellRule_197 rfl (lv_at hl 0 rfl) ?_
    refine x_callv h (x_runV (WW := MW q cy) (rest := []) E h (cM_expression hw) yyX11_expression lX11_283 0 rfl rfl ⟨Nat.le_of_ble_eq_true rfl, Nat.le_of_ble_eq_true rfl⟩ rfl rfl hl.1 rfl (Nat.le_of_ble_eq_true rfl) dX11_tellRule_198 ⟨Nat.le_refl 0, Nat.le_refl 0⟩) (fun σ3 H locs hw h => ?_)
    exact wkM_tellRule_201 E _ _ _ _ _ h hw (lv_sub hl [0, 1] rfl)

def wpM_tellRule_82 (Post : MS → Prop) (σ : MS) : Prop := ((σ.1 13) ≤ 0 → vp_in (σ.1 19) 9 ∧ ∀ y3 : Int32, y3 = (16 * (σ.1 19)) + (σ.2.1 10 (σ.1 19).toNatClampNeg) → vp_in (σ.1 11) 403 ∧ vp_in y3 144 ∧ ∀ σ5 : MS, σ5 = mA σ 11 (upd (σ.2.1 11) y3.toNatClampNeg ((σ.2.1 3 (σ.1 11).toNatClampNeg) - 20)) → vp_in y3 144 ∧ ∀ σ7 : MS, σ7 = mA σ5 12 (upd (σ5.2.1 12) y3.toNatClampNeg 0) → wpM_next σ7 (fun σ9 => vp_in y3 144 ∧ ∀ σ10 : MS, σ10 = mA σ9 13 (upd (σ9.2.1 13) y3.toNatClampNeg (σ9.1 35)) → vp_in y3 144 ∧ ((σ10.2.1 11 y3.toNatClampNeg) = 3 → ∀ y14 : Int32, y14 = σ10.1 11 → wpM_must σ10 2 (fun σ15 => ((σ15.1 13) ≤ 0 → vp_in y14 403 ∧ vp_in y3 144 ∧ ∀ σ18 : MS, σ18 = mA σ15 12 (upd (σ15.2.1 12) y3.toNatClampNeg (σ15.2.1 5 y14.toNatClampNeg)) → wpM_tellRule_187 Post σ18 y3) ∧ (¬ (σ15.1 13) ≤ 0 → Post σ15))) ∧ (¬ (σ10.2.1 11 y3.toNatClampNeg) = 3 → wpM_tellRule_187 Post σ10 y3))) ∧ (¬ (σ.1 13) ≤ 0 → Post σ)
set_option maxHeartbeats 1000000 in
set_option maxRecDepth 20000 in
theorem wkM_tellRule_82 {Post : MS → Prop} (E : xE cX11_tellRule RX11 5 none D cy p s m args meth c) : ∀ (σ : MS) (H : Heap) (locs : List Loc) (ls : Array Slot), xH D A s (MW q cy σ) H locs → wpM_tellRule_82 Post σ → lv_has ls 5 [(0, .ref (q 0))] → W p l e rM_tellRule s m args below meth c H locs 0 0 (MQ below (va_Qv Post (xB D cy (MW q cy) A) A) args s 0 0 A) (F0 m 82 ls []) := by
  have hx := E.1
  have hb := E.2.1
  intro σ H locs ls h hw hl
  unfold wpM_tellRule_82 at hw
  refine lv_aload_n hx hb dX11_tellRule_82 rfl (lv_at hl 0 rfl) ?_
  refine gX11_235 E h dX11_tellRule_83 ?_
  refine lv_if_le (tgt := 90) hx hb dX11_tellRule_86 (by decide) (fun c1 => ?_) (fun c1 => ?_)
  · have hw := hw.1 c1
    refine lv_bipush (v := 16) hx hb dX11_tellRule_90 (by decide) ?_
    refine lv_aload_n hx hb dX11_tellRule_92 rfl (lv_at hl 0 rfl) ?_
    refine gX11_271 E h dX11_tellRule_93 ?_
    refine lv_imul hx hb dX11_tellRule_96 ?_
    refine lv_aload_n hx hb dX11_tellRule_97 rfl (lv_at hl 0 rfl) ?_
    refine gX11_46 E h dX11_tellRule_98 ?_
    refine lv_aload_n hx hb dX11_tellRule_101 rfl (lv_at hl 0 rfl) ?_
    refine gX11_271 E h dX11_tellRule_102 ?_
    have h2 := hw.1
    have hw := hw.2
    refine aM_10 E h h2 dX11_tellRule_105 ?_
    refine lv_iadd hx hb dX11_tellRule_106 ?_
    refine lv_topi (fun y3 ey3 => ?_)
    have hw := hw y3 ey3
    refine lv_istore_n (lv' := [(2, .int y3), (0, .ref (q 0))]) hx hb dX11_tellRule_107 rfl hl (by decide) rfl (fun ls hl => ?_)
    refine lv_aload_n hx hb dX11_tellRule_108 rfl (lv_at hl 1 rfl) ?_
    refine gX11_49 E h dX11_tellRule_109 ?_
    refine lv_iload_n hx hb dX11_tellRule_112 rfl (lv_at hl 0 rfl) ?_
    refine lv_aload_n hx hb dX11_tellRule_113 rfl (lv_at hl 1 rfl) ?_
    refine gX11_20 E h dX11_tellRule_114 ?_
    refine lv_aload_n hx hb dX11_tellRule_117 rfl (lv_at hl 1 rfl) ?_
    refine gX11_238 E h dX11_tellRule_118 ?_
    have h4 := hw.1
    have hw := hw.2
    refine aM_3 E h h4 dX11_tellRule_121 ?_
    refine lv_bipush (v := 20) hx hb dX11_tellRule_122 (by decide) ?_
    refine lv_isub hx hb dX11_tellRule_124 ?_
    have h6 := hw.1
    have hw := hw.2
    refine sM_11 E h h6 dX11_tellRule_125 (fun σ5 H locs eσ5 h => ?_)
    have hw := hw σ5 eσ5
    refine lv_aload_n hx hb dX11_tellRule_126 rfl (lv_at hl 1 rfl) ?_
    refine gX11_52 E h dX11_tellRule_127 ?_
    refine lv_iload_n hx hb dX11_tellRule_130 rfl (lv_at hl 0 rfl) ?_
    refine lv_iconst (v := 0) hx hb dX11_tellRule_131 (by decide) ?_
    have h8 := hw.1
    have hw := hw.2
    refine sM_12 E h h8 dX11_tellRule_132 (fun σ7 H locs eσ7 h => ?_)
    have hw := hw σ7 eσ7
    refine lv_aload_n hx hb dX11_tellRule_133 rfl (lv_at hl 1 rfl) ?_
    refine x_callv h (x_runV (WW := MW q cy) (rest := []) E h (cM_next hw) yyX11_next lX11_256 0 rfl rfl ⟨Nat.le_of_ble_eq_true rfl, Nat.le_of_ble_eq_true rfl⟩ rfl rfl hl.1 rfl (Nat.le_of_ble_eq_true rfl) dX11_tellRule_134 ⟨Nat.le_refl 0, Nat.le_refl 0⟩) (fun σ9 H locs hw h => ?_)
    refine lv_aload_n hx hb dX11_tellRule_137 rfl (lv_at hl 1 rfl) ?_
    refine gX11_55 E h dX11_tellRule_138 ?_
    refine lv_iload_n hx hb dX11_tellRule_141 rfl (lv_at hl 0 rfl) ?_
    refine lv_aload_n hx hb dX11_tellRule_142 rfl (lv_at hl 1 rfl) ?_
    refine gX11_274 E h dX11_tellRule_143 ?_
    have h11 := hw.1
    have hw := hw.2
    refine sM_13 E h h11 dX11_tellRule_146 (fun σ10 H locs eσ10 h => ?_)
    have hw := hw σ10 eσ10
    refine lv_aload_n hx hb dX11_tellRule_147 rfl (lv_at hl 1 rfl) ?_
    refine gX11_49 E h dX11_tellRule_148 ?_
    refine lv_iload_n hx hb dX11_tellRule_151 rfl (lv_at hl 0 rfl) ?_
    have h12 := hw.1
    have hw := hw.2
    refine aM_11 E h h12 dX11_tellRule_152 ?_
    refine lv_iconst (v := 3) hx hb dX11_tellRule_153 (by decide) ?_
    refine lv_icmp_ne (tgt := 187) hx hb dX11_tellRule_154 (by decide) (fun c13 => ?_) (fun c13 => ?_)
    · have hw := hw.2 c13
      exact wkM_tellRule_187 E _ _ _ _ _ h hw (lv_sub hl [1, 0] rfl)
    · have hw := hw.1 c13
      refine lv_aload_n hx hb dX11_tellRule_157 rfl (lv_at hl 1 rfl) ?_
      refine gX11_238 E h dX11_tellRule_158 ?_
      refine lv_topi (fun y14 ey14 => ?_)
      have hw := hw y14 ey14
      refine lv_istore_n (lv' := [(3, .int y14), (2, .int y3), (0, .ref (q 0))]) hx hb dX11_tellRule_161 rfl hl (by decide) rfl (fun ls hl => ?_)
      refine lv_aload_n hx hb dX11_tellRule_162 rfl (lv_at hl 2 rfl) ?_
      refine lv_iconst (v := 2) hx hb dX11_tellRule_163 (by decide) ?_
      refine x_callv h (x_runV (WW := MW q cy) (rest := []) E h (cM_must hw) yyX11_must lX11_280 0 rfl rfl ⟨Nat.le_of_ble_eq_true rfl, Nat.le_of_ble_eq_true rfl⟩ rfl rfl hl.1 rfl (Nat.le_of_ble_eq_true rfl) dX11_tellRule_164 ⟨Nat.le_refl 0, Nat.le_refl 0⟩) (fun σ15 H locs hw h => ?_)
      refine lv_aload_n hx hb dX11_tellRule_167 rfl (lv_at hl 2 rfl) ?_
      refine gX11_235 E h dX11_tellRule_168 ?_
      refine lv_if_le (tgt := 175) hx hb dX11_tellRule_171 (by decide) (fun c16 => ?_) (fun c16 => ?_)
      · have hw := hw.1 c16
        refine lv_aload_n hx hb dX11_tellRule_175 rfl (lv_at hl 2 rfl) ?_
        refine gX11_52 E h dX11_tellRule_176 ?_
        refine lv_iload_n hx hb dX11_tellRule_179 rfl (lv_at hl 1 rfl) ?_
        refine lv_aload_n hx hb dX11_tellRule_180 rfl (lv_at hl 2 rfl) ?_
        refine gX11_27 E h dX11_tellRule_181 ?_
        refine lv_iload_n hx hb dX11_tellRule_184 rfl (lv_at hl 0 rfl) ?_
        have h17 := hw.1
        have hw := hw.2
        refine aM_5 E h h17 dX11_tellRule_185 ?_
        have h19 := hw.1
        have hw := hw.2
        refine sM_12 E h h19 dX11_tellRule_186 (fun σ18 H locs eσ18 h => ?_)
        have hw := hw σ18 eσ18
        exact wkM_tellRule_187 E _ _ _ _ _ h hw (lv_sub hl [2, 1] rfl)
      · have hw := hw.2 c16
        exact x_vret E h hw dX11_tellRule_174
  · have hw := hw.2 c1
    exact x_vret E h hw dX11_tellRule_89

def wpM_tellRule_50 (Post : MS → Prop) (σ : MS) (t0 : Int32) : Prop := (t0 = 0 → wpM_fail σ 1 (fun σ5 => wpM_tellRule_82 Post σ5)) ∧ (¬ t0 = 0 → vp_in (σ.1 19) 9 ∧ ((σ.2.1 10 (σ.1 19).toNatClampNeg) = 16 → wpM_fail σ 2 (fun σ4 => wpM_tellRule_82 Post σ4)) ∧ (¬ (σ.2.1 10 (σ.1 19).toNatClampNeg) = 16 → wpM_tellRule_82 Post σ))
set_option maxHeartbeats 1000000 in
set_option maxRecDepth 20000 in
theorem wkM_tellRule_50 {Post : MS → Prop} (E : xE cX11_tellRule RX11 5 none D cy p s m args meth c) : ∀ (σ : MS) (t0 : Int32) (H : Heap) (locs : List Loc) (ls : Array Slot), xH D A s (MW q cy σ) H locs → wpM_tellRule_50 Post σ t0 → lv_has ls 5 [(0, .ref (q 0))] → W p l e rM_tellRule s m args below meth c H locs 0 0 (MQ below (va_Qv Post (xB D cy (MW q cy) A) A) args s 0 0 A) (F0 m 50 ls [.int t0]) := by
  have hx := E.1
  have hb := E.2.1
  intro σ t0 H locs ls h hw hl
  unfold wpM_tellRule_50 at hw
  refine lv_istore_n (lv' := [(1, .int t0), (0, .ref (q 0))]) hx hb dX11_tellRule_50 rfl hl (by decide) rfl (fun ls hl => ?_)
  refine lv_iload_n hx hb dX11_tellRule_51 rfl (lv_at hl 0 rfl) ?_
  refine lv_if_ne (tgt := 63) hx hb dX11_tellRule_52 (by decide) (fun c1 => ?_) (fun c1 => ?_)
  · have hw := hw.2 c1
    refine lv_aload_n hx hb dX11_tellRule_63 rfl (lv_at hl 1 rfl) ?_
    refine gX11_46 E h dX11_tellRule_64 ?_
    refine lv_aload_n hx hb dX11_tellRule_67 rfl (lv_at hl 1 rfl) ?_
    refine gX11_271 E h dX11_tellRule_68 ?_
    have h2 := hw.1
    have hw := hw.2
    refine aM_10 E h h2 dX11_tellRule_71 ?_
    refine lv_bipush (v := 16) hx hb dX11_tellRule_72 (by decide) ?_
    refine lv_icmp_ne (tgt := 82) hx hb dX11_tellRule_74 (by decide) (fun c3 => ?_) (fun c3 => ?_)
    · have hw := hw.2 c3
      exact wkM_tellRule_82 E _ _ _ _ h hw (lv_sub hl [1] rfl)
    · have hw := hw.1 c3
      refine lv_aload_n hx hb dX11_tellRule_77 rfl (lv_at hl 1 rfl) ?_
      refine lv_iconst (v := 2) hx hb dX11_tellRule_78 (by decide) ?_
      refine x_callv h (x_runV (WW := MW q cy) (rest := []) E h (cM_fail hw) yyX11_fail lX11_250 0 rfl rfl ⟨Nat.le_of_ble_eq_true rfl, Nat.le_of_ble_eq_true rfl⟩ rfl rfl hl.1 rfl (Nat.le_of_ble_eq_true rfl) dX11_tellRule_79 ⟨Nat.le_refl 0, Nat.le_refl 0⟩) (fun σ4 H locs hw h => ?_)
      exact wkM_tellRule_82 E _ _ _ _ h hw (lv_sub hl [1] rfl)
  · have hw := hw.1 c1
    refine lv_aload_n hx hb dX11_tellRule_55 rfl (lv_at hl 1 rfl) ?_
    refine lv_iconst (v := 1) hx hb dX11_tellRule_56 (by decide) ?_
    refine x_callv h (x_runV (WW := MW q cy) (rest := []) E h (cM_fail hw) yyX11_fail lX11_250 0 rfl rfl ⟨Nat.le_of_ble_eq_true rfl, Nat.le_of_ble_eq_true rfl⟩ rfl rfl hl.1 rfl (Nat.le_of_ble_eq_true rfl) dX11_tellRule_57 ⟨Nat.le_refl 0, Nat.le_refl 0⟩) (fun σ5 H locs hw h => ?_)
    refine lv_goto (tgt := 82) hx hb dX11_tellRule_60 (by decide) ?_
    exact wkM_tellRule_82 E _ _ _ _ h hw (lv_sub hl [1] rfl)

def wpM_tellRule (σ : MS) (Post : MS → Prop) : Prop := wpM_is σ 20 (fun r1 σ2 => (r1 = 0 → wpM_is σ2 21 (fun r4 σ5 => (r4 = 0 → wpM_is σ5 22 (fun r7 σ8 => (r7 = 0 → wpM_is σ8 23 (fun r10 σ11 => (r10 = 0 → wpM_is σ11 24 (fun r13 σ14 => (r13 = 0 → wpM_tellRule_50 Post σ14 0) ∧ (¬ r13 = 0 → wpM_tellRule_50 Post σ14 1))) ∧ (¬ r10 = 0 → wpM_tellRule_50 Post σ11 1))) ∧ (¬ r7 = 0 → wpM_tellRule_50 Post σ8 1))) ∧ (¬ r4 = 0 → wpM_tellRule_50 Post σ5 1))) ∧ (¬ r1 = 0 → wpM_tellRule_50 Post σ2 1))
set_option maxHeartbeats 1000000 in
set_option maxRecDepth 20000 in
theorem cM_tellRule {l : Launch} {D : va_G} {cy : Nat → ClassId} {q : Nat → Nat} {σ : MS} {sz : Nat} {Post : MS → Prop} (hw : wpM_tellRule σ Post) : Met l yX11_tellRule (Cond.code yX11_tellRule cX11_tellRule 5 none :: wsA) rM_tellRule (xPc D cy (MW q cy σ) sz [.ref (q 0)]) (va_Qv Post (xB D cy (MW q cy) (va_A (MW q cy σ) sz)) (va_A (MW q cy σ) sz)) 0 0 (va_A (MW q cy σ) sz) := by
  refine x_enter (own := RX11) (WW := MW q cy) (by decide) rfl (Nat.le_of_ble_eq_true rfl) ?_
  intro p e s m below meth c ls E h hl
  have hx := E.1
  have hb := E.2.1
  have hl : lv_has ls 5 [(0, .ref (q 0))] := hl
  unfold wpM_tellRule at hw
  refine lv_aload_n hx hb dX11_tellRule_0 rfl (lv_at hl 0 rfl) ?_
  refine lv_bipush (v := 20) hx hb dX11_tellRule_1 (by decide) ?_
  refine x_calli h (x_runV (WW := MW q cy) (rest := []) E h (cM_is hw) yyX11_is lX11_253 0 rfl rfl ⟨Nat.le_of_ble_eq_true rfl, Nat.le_of_ble_eq_true rfl⟩ rfl rfl hl.1 rfl (Nat.le_of_ble_eq_true rfl) dX11_tellRule_3 ⟨Nat.le_refl 0, Nat.le_refl 0⟩) (fun r1 σ2 H locs hw h => ?_)
  refine lv_if_ne (tgt := 45) hx hb dX11_tellRule_6 (by decide) (fun c3 => ?_) (fun c3 => ?_)
  · have hw := hw.2 c3
    refine lv_iconst (v := 1) hx hb dX11_tellRule_45 (by decide) ?_
    refine lv_goto (tgt := 50) hx hb dX11_tellRule_46 (by decide) ?_
    exact wkM_tellRule_50 E _ _ _ _ _ h hw (lv_sub hl [0] rfl)
  · have hw := hw.1 c3
    refine lv_aload_n hx hb dX11_tellRule_9 rfl (lv_at hl 0 rfl) ?_
    refine lv_bipush (v := 21) hx hb dX11_tellRule_10 (by decide) ?_
    refine x_calli h (x_runV (WW := MW q cy) (rest := []) E h (cM_is hw) yyX11_is lX11_253 0 rfl rfl ⟨Nat.le_of_ble_eq_true rfl, Nat.le_of_ble_eq_true rfl⟩ rfl rfl hl.1 rfl (Nat.le_of_ble_eq_true rfl) dX11_tellRule_12 ⟨Nat.le_refl 0, Nat.le_refl 0⟩) (fun r4 σ5 H locs hw h => ?_)
    refine lv_if_ne (tgt := 45) hx hb dX11_tellRule_15 (by decide) (fun c6 => ?_) (fun c6 => ?_)
    · have hw := hw.2 c6
      refine lv_iconst (v := 1) hx hb dX11_tellRule_45 (by decide) ?_
      refine lv_goto (tgt := 50) hx hb dX11_tellRule_46 (by decide) ?_
      exact wkM_tellRule_50 E _ _ _ _ _ h hw (lv_sub hl [0] rfl)
    · have hw := hw.1 c6
      refine lv_aload_n hx hb dX11_tellRule_18 rfl (lv_at hl 0 rfl) ?_
      refine lv_bipush (v := 22) hx hb dX11_tellRule_19 (by decide) ?_
      refine x_calli h (x_runV (WW := MW q cy) (rest := []) E h (cM_is hw) yyX11_is lX11_253 0 rfl rfl ⟨Nat.le_of_ble_eq_true rfl, Nat.le_of_ble_eq_true rfl⟩ rfl rfl hl.1 rfl (Nat.le_of_ble_eq_true rfl) dX11_tellRule_21 ⟨Nat.le_refl 0, Nat.le_refl 0⟩) (fun r7 σ8 H locs hw h => ?_)
      refine lv_if_ne (tgt := 45) hx hb dX11_tellRule_24 (by decide) (fun c9 => ?_) (fun c9 => ?_)
      · have hw := hw.2 c9
        refine lv_iconst (v := 1) hx hb dX11_tellRule_45 (by decide) ?_
        refine lv_goto (tgt := 50) hx hb dX11_tellRule_46 (by decide) ?_
        exact wkM_tellRule_50 E _ _ _ _ _ h hw (lv_sub hl [0] rfl)
      · have hw := hw.1 c9
        refine lv_aload_n hx hb dX11_tellRule_27 rfl (lv_at hl 0 rfl) ?_
        refine lv_bipush (v := 23) hx hb dX11_tellRule_28 (by decide) ?_
        refine x_calli h (x_runV (WW := MW q cy) (rest := []) E h (cM_is hw) yyX11_is lX11_253 0 rfl rfl ⟨Nat.le_of_ble_eq_true rfl, Nat.le_of_ble_eq_true rfl⟩ rfl rfl hl.1 rfl (Nat.le_of_ble_eq_true rfl) dX11_tellRule_30 ⟨Nat.le_refl 0, Nat.le_refl 0⟩) (fun r10 σ11 H locs hw h => ?_)
        refine lv_if_ne (tgt := 45) hx hb dX11_tellRule_33 (by decide) (fun c12 => ?_) (fun c12 => ?_)
        · have hw := hw.2 c12
          refine lv_iconst (v := 1) hx hb dX11_tellRule_45 (by decide) ?_
          refine lv_goto (tgt := 50) hx hb dX11_tellRule_46 (by decide) ?_
          exact wkM_tellRule_50 E _ _ _ _ _ h hw (lv_sub hl [0] rfl)
        · have hw := hw.1 c12
          refine lv_aload_n hx hb dX11_tellRule_36 rfl (lv_at hl 0 rfl) ?_
          refine lv_bipush (v := 24) hx hb dX11_tellRule_37 (by decide) ?_
          refine x_calli h (x_runV (WW := MW q cy) (rest := []) E h (cM_is hw) yyX11_is lX11_253 0 rfl rfl ⟨Nat.le_of_ble_eq_true rfl, Nat.le_of_ble_eq_true rfl⟩ rfl rfl hl.1 rfl (Nat.le_of_ble_eq_true rfl) dX11_tellRule_39 ⟨Nat.le_refl 0, Nat.le_refl 0⟩) (fun r13 σ14 H locs hw h => ?_)
          refine lv_if_eq (tgt := 49) hx hb dX11_tellRule_42 (by decide) (fun c15 => ?_) (fun c15 => ?_)
          · have hw := hw.1 c15
            refine lv_iconst (v := 0) hx hb dX11_tellRule_49 (by decide) ?_
            exact wkM_tellRule_50 E _ _ _ _ _ h hw (lv_sub hl [0] rfl)
          · have hw := hw.2 c15
            refine lv_iconst (v := 1) hx hb dX11_tellRule_45 (by decide) ?_
            refine lv_goto (tgt := 50) hx hb dX11_tellRule_46 (by decide) ?_
            exact wkM_tellRule_50 E _ _ _ _ _ h hw (lv_sub hl [0] rfl)

abbrev rM_read : Room := { frames := 5, cells := 0, slots := 0, locals := 117 }
def wpM_read_170 (Post : Int32 → MS → Prop) (σ : MS) (x1 : Int32) (x2 : Int32) (t1 : Int32) : Prop := ∀ σ1 : MS, σ1 = mF σ 17 t1 → ((σ1.1 13) ≤ 0 → vp_in (σ1.1 18) 9 ∧ ∀ σ3 : MS, σ3 = mA σ1 8 (upd (σ1.2.1 8) (σ1.1 18).toNatClampNeg x1) → vp_in (σ3.1 18) 9 ∧ ∀ σ5 : MS, σ5 = mA σ3 9 (upd (σ3.2.1 9) (σ3.1 18).toNatClampNeg x2) → ∀ σ7 : MS, σ7 = mF σ5 18 ((σ5.1 18) + 1) → ∀ σ8 : MS, σ8 = mF σ7 64 ((-1)) → Post 0 σ8) ∧ (¬ (σ1.1 13) ≤ 0 → Post (σ1.1 13) σ1)
set_option maxHeartbeats 1000000 in
set_option maxRecDepth 20000 in
theorem wkM_read_170 {Post : Int32 → MS → Prop} (E : xE cX11_read RX11 4 (some .int) D cy p s m args meth c) : ∀ (σ : MS) (x1 : Int32) (x2 : Int32) (t1 : Int32) (H : Heap) (locs : List Loc) (ls : Array Slot), xH D A s (MW q cy σ) H locs → wpM_read_170 Post σ x1 x2 t1 → lv_has ls 4 [(0, .ref (q 0)), (1, .int x1), (2, .int x2)] → W p l e rM_read s m args below meth c H locs 0 0 (MQ below (va_Qi Post (xB D cy (MW q cy) A) A) args s 0 0 A) (F0 m 170 ls [.int t1, .ref (q 0)]) := by
  have hx := E.1
  have hb := E.2.1
  intro σ x1 x2 t1 H locs ls h hw hl
  unfold wpM_read_170 at hw
  refine pX11_37 E h dX11_read_170 (fun σ1 H locs eσ1 h => ?_)
  have hw := hw σ1 eσ1
  refine lv_aload_n hx hb dX11_read_173 rfl (lv_at hl 0 rfl) ?_
  refine gX11_235 E h dX11_read_174 ?_
  refine lv_if_le (tgt := 185) hx hb dX11_read_177 (by decide) (fun c2 => ?_) (fun c2 => ?_)
  · have hw := hw.1 c2
    refine lv_aload_n hx hb dX11_read_185 rfl (lv_at hl 0 rfl) ?_
    refine gX11_40 E h dX11_read_186 ?_
    refine lv_aload_n hx hb dX11_read_189 rfl (lv_at hl 0 rfl) ?_
    refine gX11_262 E h dX11_read_190 ?_
    refine lv_iload_n hx hb dX11_read_193 rfl (lv_at hl 1 rfl) ?_
    have h4 := hw.1
    have hw := hw.2
    refine sM_8 E h h4 dX11_read_194 (fun σ3 H locs eσ3 h => ?_)
    have hw := hw σ3 eσ3
    refine lv_aload_n hx hb dX11_read_195 rfl (lv_at hl 0 rfl) ?_
    refine gX11_43 E h dX11_read_196 ?_
    refine lv_aload_n hx hb dX11_read_199 rfl (lv_at hl 0 rfl) ?_
    refine gX11_262 E h dX11_read_200 ?_
    refine lv_iload_n hx hb dX11_read_203 rfl (lv_at hl 2 rfl) ?_
    have h6 := hw.1
    have hw := hw.2
    refine sM_9 E h h6 dX11_read_204 (fun σ5 H locs eσ5 h => ?_)
    have hw := hw σ5 eσ5
    refine lv_aload_n hx hb dX11_read_205 rfl (lv_at hl 0 rfl) ?_
    refine lv_dup hx hb dX11_read_206 rfl ?_
    refine gX11_262 E h dX11_read_207 ?_
    refine lv_iconst (v := 1) hx hb dX11_read_210 (by decide) ?_
    refine lv_iadd hx hb dX11_read_211 ?_
    refine pX11_262 E h dX11_read_212 (fun σ7 H locs eσ7 h => ?_)
    have hw := hw σ7 eσ7
    refine lv_aload_n hx hb dX11_read_215 rfl (lv_at hl 0 rfl) ?_
    refine lv_iconst (v := (-1)) hx hb dX11_read_216 (by decide) ?_
    refine pX11_155 E h dX11_read_217 (fun σ8 H locs eσ8 h => ?_)
    have hw := hw σ8 eσ8
    refine lv_iconst (v := 0) hx hb dX11_read_220 (by decide) ?_
    exact x_iret E h hw dX11_read_221
  · have hw := hw.2 c2
    refine lv_aload_n hx hb dX11_read_180 rfl (lv_at hl 0 rfl) ?_
    refine gX11_235 E h dX11_read_181 ?_
    exact x_iret E h hw dX11_read_184

def wpM_read_154 (Post : Int32 → MS → Prop) (σ : MS) (x1 : Int32) (x2 : Int32) : Prop := ((σ.1 13) ≤ 0 → wpM_read_170 Post σ x1 x2 ((-1))) ∧ (¬ (σ.1 13) ≤ 0 → wpM_read_170 Post σ x1 x2 (σ.1 14))
set_option maxHeartbeats 1000000 in
set_option maxRecDepth 20000 in
theorem wkM_read_154 {Post : Int32 → MS → Prop} (E : xE cX11_read RX11 4 (some .int) D cy p s m args meth c) : ∀ (σ : MS) (x1 : Int32) (x2 : Int32) (H : Heap) (locs : List Loc) (ls : Array Slot), xH D A s (MW q cy σ) H locs → wpM_read_154 Post σ x1 x2 → lv_has ls 4 [(0, .ref (q 0)), (1, .int x1), (2, .int x2)] → W p l e rM_read s m args below meth c H locs 0 0 (MQ below (va_Qi Post (xB D cy (MW q cy) A) A) args s 0 0 A) (F0 m 154 ls []) := by
  have hx := E.1
  have hb := E.2.1
  intro σ x1 x2 H locs ls h hw hl
  unfold wpM_read_154 at hw
  refine lv_aload_n hx hb dX11_read_154 rfl (lv_at hl 0 rfl) ?_
  refine lv_aload_n hx hb dX11_read_155 rfl (lv_at hl 0 rfl) ?_
  refine gX11_235 E h dX11_read_156 ?_
  refine lv_if_le (tgt := 169) hx hb dX11_read_159 (by decide) (fun c1 => ?_) (fun c1 => ?_)
  · have hw := hw.1 c1
    refine lv_iconst (v := (-1)) hx hb dX11_read_169 (by decide) ?_
    exact wkM_read_170 E _ _ _ _ _ _ _ h hw (lv_sub hl [0, 1, 2] rfl)
  · have hw := hw.2 c1
    refine lv_aload_n hx hb dX11_read_162 rfl (lv_at hl 0 rfl) ?_
    refine gX11_241 E h dX11_read_163 ?_
    refine lv_goto (tgt := 170) hx hb dX11_read_166 (by decide) ?_
    exact wkM_read_170 E _ _ _ _ _ _ _ h hw (lv_sub hl [0, 1, 2] rfl)

def wpM_read_132 (Post : Int32 → MS → Prop) : Nat → MS → Int32 → Int32 → Prop
  | 0, _, _, _ => False
  | n + 1, σ, x1, x2 => ((σ.1 13) = 0 → wpM_is σ 0 (fun r2 σ3 => (r2 = 0 → wpM_tellRule σ3 (fun σ5 => wpM_read_132 Post n σ5 x1 x2)) ∧ (¬ r2 = 0 → wpM_read_154 Post σ3 x1 x2))) ∧ (¬ (σ.1 13) = 0 → wpM_read_154 Post σ x1 x2)
set_option maxHeartbeats 1000000 in
set_option maxRecDepth 20000 in
theorem wkM_read_132 {Post : Int32 → MS → Prop} (E : xE cX11_read RX11 4 (some .int) D cy p s m args meth c) : ∀ n : Nat, ∀ (σ : MS) (x1 : Int32) (x2 : Int32) (H : Heap) (locs : List Loc) (ls : Array Slot), xH D A s (MW q cy σ) H locs → wpM_read_132 Post n σ x1 x2 → lv_has ls 4 [(0, .ref (q 0)), (1, .int x1), (2, .int x2)] → W p l e rM_read s m args below meth c H locs 0 0 (MQ below (va_Qi Post (xB D cy (MW q cy) A) A) args s 0 0 A) (F0 m 132 ls []) := by
  have hx := E.1
  have hb := E.2.1
  intro n
  induction n with
  | zero => intro σ x1 x2 H locs ls h hw hl; exact False.elim hw
  | succ n ih =>
    intro σ x1 x2 H locs ls h hw hl
    refine lv_aload_n hx hb dX11_read_132 rfl (lv_at hl 0 rfl) ?_
    refine gX11_235 E h dX11_read_133 ?_
    refine lv_if_ne (tgt := 154) hx hb dX11_read_136 (by decide) (fun c1 => ?_) (fun c1 => ?_)
    · have hw := hw.2 c1
      exact wkM_read_154 E _ _ _ _ _ _ h hw (lv_sub hl [0, 1, 2] rfl)
    · have hw := hw.1 c1
      refine lv_aload_n hx hb dX11_read_139 rfl (lv_at hl 0 rfl) ?_
      refine lv_iconst (v := 0) hx hb dX11_read_140 (by decide) ?_
      refine x_calli h (x_runV (WW := MW q cy) (rest := []) E h (cM_is hw) yyX11_is lX11_253 0 rfl rfl ⟨Nat.le_of_ble_eq_true rfl, Nat.le_of_ble_eq_true rfl⟩ rfl rfl hl.1 rfl (Nat.le_of_ble_eq_true rfl) dX11_read_141 ⟨Nat.le_refl 0, Nat.le_refl 0⟩) (fun r2 σ3 H locs hw h => ?_)
      refine lv_if_ne (tgt := 154) hx hb dX11_read_144 (by decide) (fun c4 => ?_) (fun c4 => ?_)
      · have hw := hw.2 c4
        exact wkM_read_154 E _ _ _ _ _ _ h hw (lv_sub hl [0, 1, 2] rfl)
      · have hw := hw.1 c4
        refine lv_aload_n hx hb dX11_read_147 rfl (lv_at hl 0 rfl) ?_
        refine x_callv h (x_runV (WW := MW q cy) (rest := []) E h (cM_tellRule hw) yyX11_tellRule lX11_277 0 rfl rfl ⟨Nat.le_of_ble_eq_true rfl, Nat.le_of_ble_eq_true rfl⟩ rfl rfl hl.1 rfl (Nat.le_of_ble_eq_true rfl) dX11_read_148 ⟨Nat.le_refl 0, Nat.le_refl 0⟩) (fun σ5 H locs hw h => ?_)
        refine lv_goto (tgt := 132) hx hb dX11_read_151 (by decide) ?_
        exact ih _ _ _ _ _ _ h hw (lv_sub hl [0, 1, 2] rfl)

def wpM_read_37 (Post : Int32 → MS → Prop) : Nat → MS → Int32 → Int32 → Int32 → Prop
  | 0, _, _, _, _ => False
  | n + 1, σ, x1, x2, x3 => ((σ.1 4) ≤ x3 → ∀ σ2 : MS, σ2 = mF σ 2 0 → wpM_cut σ2 (fun σ3 => ∀ σ4 : MS, σ4 = mF σ3 11 0 → ∀ σ5 : MS, σ5 = mF σ4 12 0 → ∀ σ6 : MS, σ6 = mF σ5 13 0 → ∀ σ7 : MS, σ7 = mF σ6 15 0 → ∀ σ8 : MS, σ8 = mF σ7 19 (σ7.1 18) → vp_in (σ8.1 19) 9 ∧ ∀ σ9 : MS, σ9 = mA σ8 10 (upd (σ8.2.1 10) (σ8.1 19).toNatClampNeg 0) → vp_in (σ9.1 19) 9 ∧ ∀ σ11 : MS, σ11 = mA σ9 17 (upd (σ9.2.1 17) (σ9.1 19).toNatClampNeg 0) → ∀ σ13 : MS, σ13 = mF σ11 35 (500 * (σ11.1 19)) → ∃ g, wpM_read_132 Post g σ13 x1 x2)) ∧ (¬ (σ.1 4) ≤ x3 → vp_in x3 2000 ∧ vp_in x3 2000 ∧ ∀ σ15 : MS, σ15 = mA σ 2 (upd (σ.2.1 2) x3.toNatClampNeg (vp_nar .byte (σ.2.1 1 x3.toNatClampNeg))) → ∀ y17 : Int32, y17 = x3 + 1 → wpM_read_37 Post n σ15 x1 x2 y17)
set_option maxHeartbeats 1000000 in
set_option maxRecDepth 20000 in
theorem wkM_read_37 {Post : Int32 → MS → Prop} (E : xE cX11_read RX11 4 (some .int) D cy p s m args meth c) : ∀ n : Nat, ∀ (σ : MS) (x1 : Int32) (x2 : Int32) (x3 : Int32) (H : Heap) (locs : List Loc) (ls : Array Slot), xH D A s (MW q cy σ) H locs → wpM_read_37 Post n σ x1 x2 x3 → lv_has ls 4 [(0, .ref (q 0)), (1, .int x1), (2, .int x2), (3, .int x3)] → W p l e rM_read s m args below meth c H locs 0 0 (MQ below (va_Qi Post (xB D cy (MW q cy) A) A) args s 0 0 A) (F0 m 37 ls []) := by
  have hx := E.1
  have hb := E.2.1
  intro n
  induction n with
  | zero => intro σ x1 x2 x3 H locs ls h hw hl; exact False.elim hw
  | succ n ih =>
    intro σ x1 x2 x3 H locs ls h hw hl
    refine lv_iload_n hx hb dX11_read_37 rfl (lv_at hl 3 rfl) ?_
    refine lv_aload_n hx hb dX11_read_38 rfl (lv_at hl 0 rfl) ?_
    refine gX11_205 E h dX11_read_39 ?_
    refine lv_icmp_ge (tgt := 63) hx hb dX11_read_42 (by decide) (fun c1 => ?_) (fun c1 => ?_)
    · have hw := hw.1 c1
      refine lv_aload_n hx hb dX11_read_63 rfl (lv_at hl 0 rfl) ?_
      refine lv_iconst (v := 0) hx hb dX11_read_64 (by decide) ?_
      refine pX11_198 E h dX11_read_65 (fun σ2 H locs eσ2 h => ?_)
      have hw := hw σ2 eσ2
      refine lv_aload_n hx hb dX11_read_68 rfl (lv_at hl 0 rfl) ?_
      refine x_callv h (x_runV (WW := MW q cy) (rest := []) E h (cM_cut hw) yyX11_cut lX11_265 0 rfl rfl ⟨Nat.le_of_ble_eq_true rfl, Nat.le_of_ble_eq_true rfl⟩ rfl rfl hl.1 rfl (Nat.le_of_ble_eq_true rfl) dX11_read_69 ⟨Nat.le_refl 0, Nat.le_refl 0⟩) (fun σ3 H locs hw h => ?_)
      refine lv_aload_n hx hb dX11_read_72 rfl (lv_at hl 0 rfl) ?_
      refine lv_iconst (v := 0) hx hb dX11_read_73 (by decide) ?_
      refine pX11_238 E h dX11_read_74 (fun σ4 H locs eσ4 h => ?_)
      have hw := hw σ4 eσ4
      refine lv_aload_n hx hb dX11_read_77 rfl (lv_at hl 0 rfl) ?_
      refine lv_iconst (v := 0) hx hb dX11_read_78 (by decide) ?_
      refine pX11_268 E h dX11_read_79 (fun σ5 H locs eσ5 h => ?_)
      have hw := hw σ5 eσ5
      refine lv_aload_n hx hb dX11_read_82 rfl (lv_at hl 0 rfl) ?_
      refine lv_iconst (v := 0) hx hb dX11_read_83 (by decide) ?_
      refine pX11_235 E h dX11_read_84 (fun σ6 H locs eσ6 h => ?_)
      have hw := hw σ6 eσ6
      refine lv_aload_n hx hb dX11_read_87 rfl (lv_at hl 0 rfl) ?_
      refine lv_iconst (v := 0) hx hb dX11_read_88 (by decide) ?_
      refine pX11_244 E h dX11_read_89 (fun σ7 H locs eσ7 h => ?_)
      have hw := hw σ7 eσ7
      refine lv_aload_n hx hb dX11_read_92 rfl (lv_at hl 0 rfl) ?_
      refine lv_aload_n hx hb dX11_read_93 rfl (lv_at hl 0 rfl) ?_
      refine gX11_262 E h dX11_read_94 ?_
      refine pX11_271 E h dX11_read_97 (fun σ8 H locs eσ8 h => ?_)
      have hw := hw σ8 eσ8
      refine lv_aload_n hx hb dX11_read_100 rfl (lv_at hl 0 rfl) ?_
      refine gX11_46 E h dX11_read_101 ?_
      refine lv_aload_n hx hb dX11_read_104 rfl (lv_at hl 0 rfl) ?_
      refine gX11_271 E h dX11_read_105 ?_
      refine lv_iconst (v := 0) hx hb dX11_read_108 (by decide) ?_
      have h10 := hw.1
      have hw := hw.2
      refine sM_10 E h h10 dX11_read_109 (fun σ9 H locs eσ9 h => ?_)
      have hw := hw σ9 eσ9
      refine lv_aload_n hx hb dX11_read_110 rfl (lv_at hl 0 rfl) ?_
      refine gX11_67 E h dX11_read_111 ?_
      refine lv_aload_n hx hb dX11_read_114 rfl (lv_at hl 0 rfl) ?_
      refine gX11_271 E h dX11_read_115 ?_
      refine lv_iconst (v := 0) hx hb dX11_read_118 (by decide) ?_
      have h12 := hw.1
      have hw := hw.2
      refine sM_17 E h h12 dX11_read_119 (fun σ11 H locs eσ11 h => ?_)
      have hw := hw σ11 eσ11
      refine lv_aload_n hx hb dX11_read_120 rfl (lv_at hl 0 rfl) ?_
      refine lv_sipush (v := 500) hx hb dX11_read_121 (by decide) ?_
      refine lv_aload_n hx hb dX11_read_124 rfl (lv_at hl 0 rfl) ?_
      refine gX11_271 E h dX11_read_125 ?_
      refine lv_imul hx hb dX11_read_128 ?_
      refine pX11_274 E h dX11_read_129 (fun σ13 H locs eσ13 h => ?_)
      have hw := hw σ13 eσ13
      obtain ⟨g, hw⟩ := hw
      exact wkM_read_132 E g _ _ _ _ _ _ h hw (lv_sub hl [0, 1, 2] rfl)
    · have hw := hw.2 c1
      refine lv_aload_n hx hb dX11_read_45 rfl (lv_at hl 0 rfl) ?_
      refine gX11_17 E h dX11_read_46 ?_
      refine lv_iload_n hx hb dX11_read_49 rfl (lv_at hl 3 rfl) ?_
      refine lv_aload_n hx hb dX11_read_50 rfl (lv_at hl 0 rfl) ?_
      refine gX11_13 E h dX11_read_51 ?_
      refine lv_iload_n hx hb dX11_read_54 rfl (lv_at hl 3 rfl) ?_
      have h14 := hw.1
      have hw := hw.2
      refine aM_1 E h h14 dX11_read_55 ?_
      have h16 := hw.1
      have hw := hw.2
      refine sM_2 E h h16 dX11_read_56 (fun σ15 H locs eσ15 h => ?_)
      have hw := hw σ15 eσ15
      obtain ⟨y17, ey17⟩ : ∃ z : Int32, z = x3 + 1 := ⟨_, rfl⟩
      have hw := hw y17 ey17
      refine lv_iinc (v := y17) (lv' := [(3, .int y17), (0, .ref (q 0)), (1, .int x1), (2, .int x2)]) hx hb dX11_read_57 hl (k := 3) rfl (by rw [ey17]; rfl) (by decide) rfl (fun ls hl => ?_)
      refine lv_goto (tgt := 37) hx hb dX11_read_60 (by decide) ?_
      exact ih _ _ _ _ _ _ _ h hw (lv_sub hl [1, 2, 3, 0] rfl)

def wpM_read (σ : MS) (x1 : Int32) (x2 : Int32) (Post : Int32 → MS → Prop) : Prop := (x1 < 0 → Post ((-1)) σ) ∧ (¬ x1 < 0 → (3 < x1 → Post ((-1)) σ) ∧ (¬ 3 < x1 → wpM_isDay σ x2 (fun r3 σ4 => (r3 = 0 → Post ((-1)) σ4) ∧ (¬ r3 = 0 → ((σ4.1 18) = 8 → Post ((-1)) σ4) ∧ (¬ (σ4.1 18) = 8 → ∀ σ7 : MS, σ7 = mF σ4 4 (σ4.1 2) → ∃ g, wpM_read_37 Post g σ7 x1 x2 0)))))
set_option maxHeartbeats 1000000 in
set_option maxRecDepth 20000 in
theorem cM_read {l : Launch} {D : va_G} {cy : Nat → ClassId} {q : Nat → Nat} {σ : MS} {sz : Nat} {x1 : Int32} {x2 : Int32} {Post : Int32 → MS → Prop} (hw : wpM_read σ x1 x2 Post) : Met l yX11_read (Cond.code yX11_read cX11_read 4 (some .int) :: wsA) rM_read (xPc D cy (MW q cy σ) sz [.ref (q 0), .int x1, .int x2]) (va_Qi Post (xB D cy (MW q cy) (va_A (MW q cy σ) sz)) (va_A (MW q cy σ) sz)) 0 0 (va_A (MW q cy σ) sz) := by
  refine x_enter (own := RX11) (WW := MW q cy) (by decide) rfl (Nat.le_of_ble_eq_true rfl) ?_
  intro p e s m below meth c ls E h hl
  have hx := E.1
  have hb := E.2.1
  have hl : lv_has ls 4 [(0, .ref (q 0)), (1, .int x1), (2, .int x2)] := hl
  unfold wpM_read at hw
  refine lv_iload_n hx hb dX11_read_0 rfl (lv_at hl 1 rfl) ?_
  refine lv_if_lt (tgt := 25) hx hb dX11_read_1 (by decide) (fun c1 => ?_) (fun c1 => ?_)
  · have hw := hw.1 c1
    refine lv_iconst (v := (-1)) hx hb dX11_read_25 (by decide) ?_
    exact x_iret E h hw dX11_read_26
  · have hw := hw.2 c1
    refine lv_iload_n hx hb dX11_read_4 rfl (lv_at hl 1 rfl) ?_
    refine lv_iconst (v := 3) hx hb dX11_read_5 (by decide) ?_
    refine lv_icmp_gt (tgt := 25) hx hb dX11_read_6 (by decide) (fun c2 => ?_) (fun c2 => ?_)
    · have hw := hw.1 c2
      refine lv_iconst (v := (-1)) hx hb dX11_read_25 (by decide) ?_
      exact x_iret E h hw dX11_read_26
    · have hw := hw.2 c2
      refine lv_iload_n hx hb dX11_read_9 rfl (lv_at hl 2 rfl) ?_
      refine x_calli h (x_runS (WW := MW q cy) (rest := []) E h (cM_isDay hw) yyX11_isDay lX11_259 ⟨Nat.le_of_ble_eq_true rfl, Nat.le_of_ble_eq_true rfl⟩ rfl rfl hl.1 rfl (Nat.le_of_ble_eq_true rfl) dX11_read_10 ⟨Nat.le_refl 0, Nat.le_refl 0⟩) (fun r3 σ4 H locs hw h => ?_)
      refine lv_if_eq (tgt := 25) hx hb dX11_read_13 (by decide) (fun c5 => ?_) (fun c5 => ?_)
      · have hw := hw.1 c5
        refine lv_iconst (v := (-1)) hx hb dX11_read_25 (by decide) ?_
        exact x_iret E h hw dX11_read_26
      · have hw := hw.2 c5
        refine lv_aload_n hx hb dX11_read_16 rfl (lv_at hl 0 rfl) ?_
        refine gX11_262 E h dX11_read_17 ?_
        refine lv_bipush (v := 8) hx hb dX11_read_20 (by decide) ?_
        refine lv_icmp_ne (tgt := 27) hx hb dX11_read_22 (by decide) (fun c6 => ?_) (fun c6 => ?_)
        · have hw := hw.2 c6
          refine lv_aload_n hx hb dX11_read_27 rfl (lv_at hl 0 rfl) ?_
          refine lv_aload_n hx hb dX11_read_28 rfl (lv_at hl 0 rfl) ?_
          refine gX11_198 E h dX11_read_29 ?_
          refine pX11_205 E h dX11_read_32 (fun σ7 H locs eσ7 h => ?_)
          have hw := hw σ7 eσ7
          refine lv_iconst (v := 0) hx hb dX11_read_35 (by decide) ?_
          refine lv_istore_n (lv' := [(3, .int 0), (0, .ref (q 0)), (1, .int x1), (2, .int x2)]) hx hb dX11_read_36 rfl hl (by decide) rfl (fun ls hl => ?_)
          obtain ⟨g, hw⟩ := hw
          exact wkM_read_37 E g _ _ _ _ _ _ _ h hw (lv_sub hl [1, 2, 3, 0] rfl)
        · have hw := hw.1 c6
          refine lv_iconst (v := (-1)) hx hb dX11_read_25 (by decide) ?_
          exact x_iret E h hw dX11_read_26

abbrev rM_place : Room := { frames := 0, cells := 0, slots := 0, locals := 0 }
def wpM_place (σ : MS) (Post : Int32 → MS → Prop) : Prop := Post (σ.1 17) σ
set_option maxHeartbeats 1000000 in
set_option maxRecDepth 20000 in
theorem cM_place {l : Launch} {D : va_G} {cy : Nat → ClassId} {q : Nat → Nat} {σ : MS} {sz : Nat} {Post : Int32 → MS → Prop} (hw : wpM_place σ Post) : Met l yX11_place (Cond.code yX11_place cX11_place 1 (some .int) :: wsA) rM_place (xPc D cy (MW q cy σ) sz [.ref (q 0)]) (va_Qi Post (xB D cy (MW q cy) (va_A (MW q cy σ) sz)) (va_A (MW q cy σ) sz)) 0 0 (va_A (MW q cy σ) sz) := by
  refine x_enter (own := RX11) (WW := MW q cy) (by decide) rfl (Nat.le_of_ble_eq_true rfl) ?_
  intro p e s m below meth c ls E h hl
  have hx := E.1
  have hb := E.2.1
  have hl : lv_has ls 1 [(0, .ref (q 0))] := hl
  unfold wpM_place at hw
  refine lv_aload_n hx hb dX11_place_0 rfl (lv_at hl 0 rfl) ?_
  refine gX11_37 E h dX11_place_1 ?_
  exact x_iret E h hw dX11_place_4

abbrev rM_isPerson : Room := { frames := 0, cells := 0, slots := 0, locals := 0 }
def wpM_isPerson (σ : MS) (x1 : Int32) (Post : Int32 → MS → Prop) : Prop := (x1 < 0 → Post 0 σ) ∧ (¬ x1 < 0 → ((σ.1 40) ≤ x1 → Post 0 σ) ∧ (¬ (σ.1 40) ≤ x1 → Post 1 σ))
set_option maxHeartbeats 1000000 in
set_option maxRecDepth 20000 in
theorem cM_isPerson {l : Launch} {D : va_G} {cy : Nat → ClassId} {q : Nat → Nat} {σ : MS} {sz : Nat} {x1 : Int32} {Post : Int32 → MS → Prop} (hw : wpM_isPerson σ x1 Post) : Met l yX11_isPerson (Cond.code yX11_isPerson cX11_isPerson 2 (some .boolean) :: wsA) rM_isPerson (xPc D cy (MW q cy σ) sz [.ref (q 0), .int x1]) (va_Qi Post (xB D cy (MW q cy) (va_A (MW q cy σ) sz)) (va_A (MW q cy σ) sz)) 0 0 (va_A (MW q cy σ) sz) := by
  refine x_enter (own := RX11) (WW := MW q cy) (by decide) rfl (Nat.le_of_ble_eq_true rfl) ?_
  intro p e s m below meth c ls E h hl
  have hx := E.1
  have hb := E.2.1
  have hl : lv_has ls 2 [(0, .ref (q 0)), (1, .int x1)] := hl
  unfold wpM_isPerson at hw
  refine lv_iload_n hx hb dX11_isPerson_0 rfl (lv_at hl 1 rfl) ?_
  refine lv_if_lt (tgt := 16) hx hb dX11_isPerson_1 (by decide) (fun c1 => ?_) (fun c1 => ?_)
  · have hw := hw.1 c1
    refine lv_iconst (v := 0) hx hb dX11_isPerson_16 (by decide) ?_
    exact x_zret E h rfl hw dX11_isPerson_17
  · have hw := hw.2 c1
    refine lv_iload_n hx hb dX11_isPerson_4 rfl (lv_at hl 1 rfl) ?_
    refine lv_aload_n hx hb dX11_isPerson_5 rfl (lv_at hl 0 rfl) ?_
    refine gX11_300 E h dX11_isPerson_6 ?_
    refine lv_icmp_ge (tgt := 16) hx hb dX11_isPerson_9 (by decide) (fun c2 => ?_) (fun c2 => ?_)
    · have hw := hw.1 c2
      refine lv_iconst (v := 0) hx hb dX11_isPerson_16 (by decide) ?_
      exact x_zret E h rfl hw dX11_isPerson_17
    · have hw := hw.2 c2
      refine lv_iconst (v := 1) hx hb dX11_isPerson_12 (by decide) ?_
      refine lv_goto (tgt := 17) hx hb dX11_isPerson_13 (by decide) ?_
      exact x_zret E h rfl hw dX11_isPerson_17

abbrev rM_person : Room := { frames := 1, cells := 0, slots := 0, locals := 20 }
def wpM_person_221 (K117 : MS → Int32 → Int32 → Int32 → Prop) (Post : Int32 → MS → Prop) (σ : MS) (x1 : Int32) (x2 : Int32) (x4 : Int32) (x5 : Int32) : Prop := vp_in ((12 * (σ.1 40)) + x4) 144 ∧ ∀ σ1 : MS, σ1 = mA σ 29 (upd (σ.2.1 29) ((12 * (σ.1 40)) + x4).toNatClampNeg x5) → ∀ y3 : Int32, y3 = x4 + 1 → K117 σ1 x1 x2 y3
set_option maxHeartbeats 1000000 in
set_option maxRecDepth 20000 in
theorem wkM_person_221 {Post : Int32 → MS → Prop} (E : xE cX11_person RX11 6 (some .int) D cy p s m args meth c) {K117 : MS → Int32 → Int32 → Int32 → Prop} (hK117 : ∀ (σ : MS) (x1 : Int32) (x2 : Int32) (x4 : Int32) (H : Heap) (locs : List Loc) (ls : Array Slot), xH D A s (MW q cy σ) H locs → K117 σ x1 x2 x4 → lv_has ls 6 [(0, .ref (q 0)), (1, .int x1), (2, .int x2), (4, .int x4)] → W p l e rM_person s m args below meth c H locs 0 0 (MQ below (va_Qi Post (xB D cy (MW q cy) A) A) args s 0 0 A) (F0 m 117 ls [])) : ∀ (σ : MS) (x1 : Int32) (x2 : Int32) (x4 : Int32) (x5 : Int32) (H : Heap) (locs : List Loc) (ls : Array Slot), xH D A s (MW q cy σ) H locs → wpM_person_221 K117 Post σ x1 x2 x4 x5 → lv_has ls 6 [(0, .ref (q 0)), (1, .int x1), (2, .int x2), (4, .int x4), (5, .int x5)] → W p l e rM_person s m args below meth c H locs 0 0 (MQ below (va_Qi Post (xB D cy (MW q cy) A) A) args s 0 0 A) (F0 m 221 ls []) := by
  have hx := E.1
  have hb := E.2.1
  intro σ x1 x2 x4 x5 H locs ls h hw hl
  unfold wpM_person_221 at hw
  refine lv_aload_n hx hb dX11_person_221 rfl (lv_at hl 0 rfl) ?_
  refine gX11_104 E h dX11_person_222 ?_
  refine lv_bipush (v := 12) hx hb dX11_person_225 (by decide) ?_
  refine lv_aload_n hx hb dX11_person_227 rfl (lv_at hl 0 rfl) ?_
  refine gX11_300 E h dX11_person_228 ?_
  refine lv_imul hx hb dX11_person_231 ?_
  refine lv_iload hx hb dX11_person_232 (lv_at hl 3 rfl) ?_
  refine lv_iadd hx hb dX11_person_234 ?_
  refine lv_iload hx hb dX11_person_235 (lv_at hl 4 rfl) ?_
  have h2 := hw.1
  have hw := hw.2
  refine sM_29 E h h2 dX11_person_237 (fun σ1 H locs eσ1 h => ?_)
  have hw := hw σ1 eσ1
  obtain ⟨y3, ey3⟩ : ∃ z : Int32, z = x4 + 1 := ⟨_, rfl⟩
  have hw := hw y3 ey3
  refine lv_iinc (v := y3) (lv' := [(4, .int y3), (0, .ref (q 0)), (1, .int x1), (2, .int x2), (5, .int x5)]) hx hb dX11_person_238 hl (k := 3) rfl (by rw [ey3]; rfl) (by decide) rfl (fun ls hl => ?_)
  refine lv_goto (tgt := 117) hx hb dX11_person_241 (by decide) ?_
  exact hK117 _ _ _ _ _ _ _ h hw (lv_sub hl [1, 2, 3, 0] rfl)

def wpM_person_181 (K117 : MS → Int32 → Int32 → Int32 → Prop) (Post : Int32 → MS → Prop) (σ : MS) (x1 : Int32) (x2 : Int32) (x4 : Int32) (x5 : Int32) : Prop := (x2 = ((-1)) → wpM_person_221 K117 Post σ x1 x2 x4 x5) ∧ (¬ x2 = ((-1)) → vp_in ((12 * x2) + x4) 144 ∧ (x5 ≤ ((σ.2.1 29 ((12 * x2) + x4).toNatClampNeg) + 1) → wpM_person_221 K117 Post σ x1 x2 x4 x5) ∧ (¬ x5 ≤ ((σ.2.1 29 ((12 * x2) + x4).toNatClampNeg) + 1) → vp_in ((12 * x2) + x4) 144 ∧ ∀ y5 : Int32, y5 = (σ.2.1 29 ((12 * x2) + x4).toNatClampNeg) + 1 → wpM_person_221 K117 Post σ x1 x2 x4 y5))
set_option maxHeartbeats 1000000 in
set_option maxRecDepth 20000 in
theorem wkM_person_181 {Post : Int32 → MS → Prop} (E : xE cX11_person RX11 6 (some .int) D cy p s m args meth c) {K117 : MS → Int32 → Int32 → Int32 → Prop} (hK117 : ∀ (σ : MS) (x1 : Int32) (x2 : Int32) (x4 : Int32) (H : Heap) (locs : List Loc) (ls : Array Slot), xH D A s (MW q cy σ) H locs → K117 σ x1 x2 x4 → lv_has ls 6 [(0, .ref (q 0)), (1, .int x1), (2, .int x2), (4, .int x4)] → W p l e rM_person s m args below meth c H locs 0 0 (MQ below (va_Qi Post (xB D cy (MW q cy) A) A) args s 0 0 A) (F0 m 117 ls [])) : ∀ (σ : MS) (x1 : Int32) (x2 : Int32) (x4 : Int32) (x5 : Int32) (H : Heap) (locs : List Loc) (ls : Array Slot), xH D A s (MW q cy σ) H locs → wpM_person_181 K117 Post σ x1 x2 x4 x5 → lv_has ls 6 [(0, .ref (q 0)), (1, .int x1), (2, .int x2), (4, .int x4), (5, .int x5)] → W p l e rM_person s m args below meth c H locs 0 0 (MQ below (va_Qi Post (xB D cy (MW q cy) A) A) args s 0 0 A) (F0 m 181 ls []) := by
  have hx := E.1
  have hb := E.2.1
  intro σ x1 x2 x4 x5 H locs ls h hw hl
  unfold wpM_person_181 at hw
  refine lv_iload_n hx hb dX11_person_181 rfl (lv_at hl 2 rfl) ?_
  refine lv_iconst (v := (-1)) hx hb dX11_person_182 (by decide) ?_
  refine lv_icmp_eq (tgt := 221) hx hb dX11_person_183 (by decide) (fun c1 => ?_) (fun c1 => ?_)
  · have hw := hw.1 c1
    exact wkM_person_221 E hK117 _ _ _ _ _ _ _ _ h hw (lv_sub hl [0, 1, 2, 3, 4] rfl)
  · have hw := hw.2 c1
    refine lv_aload_n hx hb dX11_person_186 rfl (lv_at hl 0 rfl) ?_
    refine gX11_104 E h dX11_person_187 ?_
    refine lv_bipush (v := 12) hx hb dX11_person_190 (by decide) ?_
    refine lv_iload_n hx hb dX11_person_192 rfl (lv_at hl 2 rfl) ?_
    refine lv_imul hx hb dX11_person_193 ?_
    refine lv_iload hx hb dX11_person_194 (lv_at hl 3 rfl) ?_
    refine lv_iadd hx hb dX11_person_196 ?_
    have h2 := hw.1
    have hw := hw.2
    refine aM_29 E h h2 dX11_person_197 ?_
    refine lv_iconst (v := 1) hx hb dX11_person_198 (by decide) ?_
    refine lv_iadd hx hb dX11_person_199 ?_
    refine lv_iload hx hb dX11_person_200 (lv_at hl 4 rfl) ?_
    refine lv_icmp_ge (tgt := 221) hx hb dX11_person_202 (by decide) (fun c3 => ?_) (fun c3 => ?_)
    · have hw := hw.1 c3
      exact wkM_person_221 E hK117 _ _ _ _ _ _ _ _ h hw (lv_sub hl [0, 1, 2, 3, 4] rfl)
    · have hw := hw.2 c3
      refine lv_aload_n hx hb dX11_person_205 rfl (lv_at hl 0 rfl) ?_
      refine gX11_104 E h dX11_person_206 ?_
      refine lv_bipush (v := 12) hx hb dX11_person_209 (by decide) ?_
      refine lv_iload_n hx hb dX11_person_211 rfl (lv_at hl 2 rfl) ?_
      refine lv_imul hx hb dX11_person_212 ?_
      refine lv_iload hx hb dX11_person_213 (lv_at hl 3 rfl) ?_
      refine lv_iadd hx hb dX11_person_215 ?_
      have h4 := hw.1
      have hw := hw.2
      refine aM_29 E h h4 dX11_person_216 ?_
      refine lv_iconst (v := 1) hx hb dX11_person_217 (by decide) ?_
      refine lv_iadd hx hb dX11_person_218 ?_
      refine lv_topi (fun y5 ey5 => ?_)
      have hw := hw y5 ey5
      refine lv_istore (lv' := [(5, .int y5), (0, .ref (q 0)), (1, .int x1), (2, .int x2), (4, .int x4)]) hx hb dX11_person_219 hl (by decide) rfl (fun ls hl => ?_)
      exact wkM_person_221 E hK117 _ _ _ _ _ _ _ _ h hw (lv_sub hl [1, 2, 3, 4, 0] rfl)

def wpM_person_139 (K117 : MS → Int32 → Int32 → Int32 → Prop) (Post : Int32 → MS → Prop) (σ : MS) (x1 : Int32) (x2 : Int32) (x4 : Int32) (t0 : Int32) : Prop := (x1 = ((-1)) → wpM_person_181 K117 Post σ x1 x2 x4 t0) ∧ (¬ x1 = ((-1)) → vp_in ((12 * x1) + x4) 144 ∧ (t0 ≤ ((σ.2.1 29 ((12 * x1) + x4).toNatClampNeg) + 1) → wpM_person_181 K117 Post σ x1 x2 x4 t0) ∧ (¬ t0 ≤ ((σ.2.1 29 ((12 * x1) + x4).toNatClampNeg) + 1) → vp_in ((12 * x1) + x4) 144 ∧ ∀ y5 : Int32, y5 = (σ.2.1 29 ((12 * x1) + x4).toNatClampNeg) + 1 → wpM_person_181 K117 Post σ x1 x2 x4 y5))
set_option maxHeartbeats 1000000 in
set_option maxRecDepth 20000 in
theorem wkM_person_139 {Post : Int32 → MS → Prop} (E : xE cX11_person RX11 6 (some .int) D cy p s m args meth c) {K117 : MS → Int32 → Int32 → Int32 → Prop} (hK117 : ∀ (σ : MS) (x1 : Int32) (x2 : Int32) (x4 : Int32) (H : Heap) (locs : List Loc) (ls : Array Slot), xH D A s (MW q cy σ) H locs → K117 σ x1 x2 x4 → lv_has ls 6 [(0, .ref (q 0)), (1, .int x1), (2, .int x2), (4, .int x4)] → W p l e rM_person s m args below meth c H locs 0 0 (MQ below (va_Qi Post (xB D cy (MW q cy) A) A) args s 0 0 A) (F0 m 117 ls [])) : ∀ (σ : MS) (x1 : Int32) (x2 : Int32) (x4 : Int32) (t0 : Int32) (H : Heap) (locs : List Loc) (ls : Array Slot), xH D A s (MW q cy σ) H locs → wpM_person_139 K117 Post σ x1 x2 x4 t0 → lv_has ls 6 [(0, .ref (q 0)), (1, .int x1), (2, .int x2), (4, .int x4)] → W p l e rM_person s m args below meth c H locs 0 0 (MQ below (va_Qi Post (xB D cy (MW q cy) A) A) args s 0 0 A) (F0 m 139 ls [.int t0]) := by
  have hx := E.1
  have hb := E.2.1
  intro σ x1 x2 x4 t0 H locs ls h hw hl
  unfold wpM_person_139 at hw
  refine lv_istore (lv' := [(5, .int t0), (0, .ref (q 0)), (1, .int x1), (2, .int x2), (4, .int x4)]) hx hb dX11_person_139 hl (by decide) rfl (fun ls hl => ?_)
  refine lv_iload_n hx hb dX11_person_141 rfl (lv_at hl 2 rfl) ?_
  refine lv_iconst (v := (-1)) hx hb dX11_person_142 (by decide) ?_
  refine lv_icmp_eq (tgt := 181) hx hb dX11_person_143 (by decide) (fun c1 => ?_) (fun c1 => ?_)
  · have hw := hw.1 c1
    exact wkM_person_181 E hK117 _ _ _ _ _ _ _ _ h hw (lv_sub hl [1, 2, 3, 4, 0] rfl)
  · have hw := hw.2 c1
    refine lv_aload_n hx hb dX11_person_146 rfl (lv_at hl 1 rfl) ?_
    refine gX11_104 E h dX11_person_147 ?_
    refine lv_bipush (v := 12) hx hb dX11_person_150 (by decide) ?_
    refine lv_iload_n hx hb dX11_person_152 rfl (lv_at hl 2 rfl) ?_
    refine lv_imul hx hb dX11_person_153 ?_
    refine lv_iload hx hb dX11_person_154 (lv_at hl 4 rfl) ?_
    refine lv_iadd hx hb dX11_person_156 ?_
    have h2 := hw.1
    have hw := hw.2
    refine aM_29 E h h2 dX11_person_157 ?_
    refine lv_iconst (v := 1) hx hb dX11_person_158 (by decide) ?_
    refine lv_iadd hx hb dX11_person_159 ?_
    refine lv_iload hx hb dX11_person_160 (lv_at hl 0 rfl) ?_
    refine lv_icmp_ge (tgt := 181) hx hb dX11_person_162 (by decide) (fun c3 => ?_) (fun c3 => ?_)
    · have hw := hw.1 c3
      exact wkM_person_181 E hK117 _ _ _ _ _ _ _ _ h hw (lv_sub hl [1, 2, 3, 4, 0] rfl)
    · have hw := hw.2 c3
      refine lv_aload_n hx hb dX11_person_165 rfl (lv_at hl 1 rfl) ?_
      refine gX11_104 E h dX11_person_166 ?_
      refine lv_bipush (v := 12) hx hb dX11_person_169 (by decide) ?_
      refine lv_iload_n hx hb dX11_person_171 rfl (lv_at hl 2 rfl) ?_
      refine lv_imul hx hb dX11_person_172 ?_
      refine lv_iload hx hb dX11_person_173 (lv_at hl 4 rfl) ?_
      refine lv_iadd hx hb dX11_person_175 ?_
      have h4 := hw.1
      have hw := hw.2
      refine aM_29 E h h4 dX11_person_176 ?_
      refine lv_iconst (v := 1) hx hb dX11_person_177 (by decide) ?_
      refine lv_iadd hx hb dX11_person_178 ?_
      refine lv_topi (fun y5 ey5 => ?_)
      have hw := hw y5 ey5
      refine lv_istore (lv' := [(5, .int y5), (0, .ref (q 0)), (1, .int x1), (2, .int x2), (4, .int x4)]) hx hb dX11_person_179 hl (by decide) rfl (fun ls hl => ?_)
      exact wkM_person_181 E hK117 _ _ _ _ _ _ _ _ h hw (lv_sub hl [1, 2, 3, 4, 0] rfl)

def wpM_person_117 (Post : Int32 → MS → Prop) : Nat → MS → Int32 → Int32 → Int32 → Prop
  | 0, _, _, _, _ => False
  | n + 1, σ, x1, x2, x4 => (12 ≤ x4 → ∀ σ2 : MS, σ2 = mF σ 40 ((σ.1 40) + 1) → Post ((σ2.1 40) - 1) σ2) ∧ (¬ 12 ≤ x4 → (x4 = (σ.1 40) → wpM_person_139 (fun a0 a1 a2 a3 => wpM_person_117 Post n a0 a1 a2 a3) Post σ x1 x2 x4 0) ∧ (¬ x4 = (σ.1 40) → wpM_person_139 (fun a0 a1 a2 a3 => wpM_person_117 Post n a0 a1 a2 a3) Post σ x1 x2 x4 99))
set_option maxHeartbeats 1000000 in
set_option maxRecDepth 20000 in
theorem wkM_person_117 {Post : Int32 → MS → Prop} (E : xE cX11_person RX11 6 (some .int) D cy p s m args meth c) : ∀ n : Nat, ∀ (σ : MS) (x1 : Int32) (x2 : Int32) (x4 : Int32) (H : Heap) (locs : List Loc) (ls : Array Slot), xH D A s (MW q cy σ) H locs → wpM_person_117 Post n σ x1 x2 x4 → lv_has ls 6 [(0, .ref (q 0)), (1, .int x1), (2, .int x2), (4, .int x4)] → W p l e rM_person s m args below meth c H locs 0 0 (MQ below (va_Qi Post (xB D cy (MW q cy) A) A) args s 0 0 A) (F0 m 117 ls []) := by
  have hx := E.1
  have hb := E.2.1
  intro n
  induction n with
  | zero => intro σ x1 x2 x4 H locs ls h hw hl; exact False.elim hw
  | succ n ih =>
    intro σ x1 x2 x4 H locs ls h hw hl
    refine lv_iload hx hb dX11_person_117 (lv_at hl 3 rfl) ?_
    refine lv_bipush (v := 12) hx hb dX11_person_119 (by decide) ?_
    refine lv_icmp_ge (tgt := 244) hx hb dX11_person_121 (by decide) (fun c1 => ?_) (fun c1 => ?_)
    · have hw := hw.1 c1
      refine lv_aload_n hx hb dX11_person_244 rfl (lv_at hl 0 rfl) ?_
      refine lv_dup hx hb dX11_person_245 rfl ?_
      refine gX11_300 E h dX11_person_246 ?_
      refine lv_iconst (v := 1) hx hb dX11_person_249 (by decide) ?_
      refine lv_iadd hx hb dX11_person_250 ?_
      refine pX11_300 E h dX11_person_251 (fun σ2 H locs eσ2 h => ?_)
      have hw := hw σ2 eσ2
      refine lv_aload_n hx hb dX11_person_254 rfl (lv_at hl 0 rfl) ?_
      refine gX11_300 E h dX11_person_255 ?_
      refine lv_iconst (v := 1) hx hb dX11_person_258 (by decide) ?_
      refine lv_isub hx hb dX11_person_259 ?_
      exact x_iret E h hw dX11_person_260
    · have hw := hw.2 c1
      refine lv_iload hx hb dX11_person_124 (lv_at hl 3 rfl) ?_
      refine lv_aload_n hx hb dX11_person_126 rfl (lv_at hl 0 rfl) ?_
      refine gX11_300 E h dX11_person_127 ?_
      refine lv_icmp_ne (tgt := 137) hx hb dX11_person_130 (by decide) (fun c3 => ?_) (fun c3 => ?_)
      · have hw := hw.2 c3
        refine lv_bipush (v := 99) hx hb dX11_person_137 (by decide) ?_
        exact wkM_person_139 E ih _ _ _ _ _ _ _ _ h hw (lv_sub hl [0, 1, 2, 3] rfl)
      · have hw := hw.1 c3
        refine lv_iconst (v := 0) hx hb dX11_person_133 (by decide) ?_
        refine lv_goto (tgt := 139) hx hb dX11_person_134 (by decide) ?_
        exact wkM_person_139 E ih _ _ _ _ _ _ _ _ h hw (lv_sub hl [0, 1, 2, 3] rfl)

def wpM_person_84 (Post : Int32 → MS → Prop) (σ : MS) (x1 : Int32) (x2 : Int32) (x3 : Int32) : Prop := vp_in (σ.1 40) 12 ∧ ∀ σ1 : MS, σ1 = mA σ 26 (upd (σ.2.1 26) (σ.1 40).toNatClampNeg x1) → vp_in (σ1.1 40) 12 ∧ ∀ σ3 : MS, σ3 = mA σ1 27 (upd (σ1.2.1 27) (σ1.1 40).toNatClampNeg x2) → vp_in (σ3.1 40) 12 ∧ ∀ σ5 : MS, σ5 = mA σ3 28 (upd (σ3.2.1 28) (σ3.1 40).toNatClampNeg x3) → ∃ g, wpM_person_117 Post g σ5 x1 x2 0
set_option maxHeartbeats 1000000 in
set_option maxRecDepth 20000 in
theorem wkM_person_84 {Post : Int32 → MS → Prop} (E : xE cX11_person RX11 6 (some .int) D cy p s m args meth c) : ∀ (σ : MS) (x1 : Int32) (x2 : Int32) (x3 : Int32) (H : Heap) (locs : List Loc) (ls : Array Slot), xH D A s (MW q cy σ) H locs → wpM_person_84 Post σ x1 x2 x3 → lv_has ls 6 [(0, .ref (q 0)), (1, .int x1), (2, .int x2), (3, .int x3)] → W p l e rM_person s m args below meth c H locs 0 0 (MQ below (va_Qi Post (xB D cy (MW q cy) A) A) args s 0 0 A) (F0 m 84 ls []) := by
  have hx := E.1
  have hb := E.2.1
  intro σ x1 x2 x3 H locs ls h hw hl
  unfold wpM_person_84 at hw
  refine lv_aload_n hx hb dX11_person_84 rfl (lv_at hl 0 rfl) ?_
  refine gX11_95 E h dX11_person_85 ?_
  refine lv_aload_n hx hb dX11_person_88 rfl (lv_at hl 0 rfl) ?_
  refine gX11_300 E h dX11_person_89 ?_
  refine lv_iload_n hx hb dX11_person_92 rfl (lv_at hl 1 rfl) ?_
  have h2 := hw.1
  have hw := hw.2
  refine sM_26 E h h2 dX11_person_93 (fun σ1 H locs eσ1 h => ?_)
  have hw := hw σ1 eσ1
  refine lv_aload_n hx hb dX11_person_94 rfl (lv_at hl 0 rfl) ?_
  refine gX11_98 E h dX11_person_95 ?_
  refine lv_aload_n hx hb dX11_person_98 rfl (lv_at hl 0 rfl) ?_
  refine gX11_300 E h dX11_person_99 ?_
  refine lv_iload_n hx hb dX11_person_102 rfl (lv_at hl 2 rfl) ?_
  have h4 := hw.1
  have hw := hw.2
  refine sM_27 E h h4 dX11_person_103 (fun σ3 H locs eσ3 h => ?_)
  have hw := hw σ3 eσ3
  refine lv_aload_n hx hb dX11_person_104 rfl (lv_at hl 0 rfl) ?_
  refine gX11_101 E h dX11_person_105 ?_
  refine lv_aload_n hx hb dX11_person_108 rfl (lv_at hl 0 rfl) ?_
  refine gX11_300 E h dX11_person_109 ?_
  refine lv_iload_n hx hb dX11_person_112 rfl (lv_at hl 3 rfl) ?_
  have h6 := hw.1
  have hw := hw.2
  refine sM_28 E h h6 dX11_person_113 (fun σ5 H locs eσ5 h => ?_)
  have hw := hw σ5 eσ5
  refine lv_iconst (v := 0) hx hb dX11_person_114 (by decide) ?_
  refine lv_istore (lv' := [(4, .int 0), (0, .ref (q 0)), (1, .int x1), (2, .int x2), (3, .int x3)]) hx hb dX11_person_115 hl (by decide) rfl (fun ls hl => ?_)
  obtain ⟨g, hw⟩ := hw
  exact wkM_person_117 E g _ _ _ _ _ _ _ h hw (lv_sub hl [1, 2, 3, 0] rfl)

def wpM_person_67 (Post : Int32 → MS → Prop) (σ : MS) (x1 : Int32) (x2 : Int32) (x3 : Int32) : Prop := (x2 = ((-1)) → wpM_person_84 Post σ x1 x2 x3) ∧ (¬ x2 = ((-1)) → vp_in x2 12 ∧ ((σ.2.1 28 x2.toNatClampNeg) < x3 → wpM_person_84 Post σ x1 x2 x3) ∧ (¬ (σ.2.1 28 x2.toNatClampNeg) < x3 → Post ((-1)) σ))
set_option maxHeartbeats 1000000 in
set_option maxRecDepth 20000 in
theorem wkM_person_67 {Post : Int32 → MS → Prop} (E : xE cX11_person RX11 6 (some .int) D cy p s m args meth c) : ∀ (σ : MS) (x1 : Int32) (x2 : Int32) (x3 : Int32) (H : Heap) (locs : List Loc) (ls : Array Slot), xH D A s (MW q cy σ) H locs → wpM_person_67 Post σ x1 x2 x3 → lv_has ls 6 [(0, .ref (q 0)), (1, .int x1), (2, .int x2), (3, .int x3)] → W p l e rM_person s m args below meth c H locs 0 0 (MQ below (va_Qi Post (xB D cy (MW q cy) A) A) args s 0 0 A) (F0 m 67 ls []) := by
  have hx := E.1
  have hb := E.2.1
  intro σ x1 x2 x3 H locs ls h hw hl
  unfold wpM_person_67 at hw
  refine lv_iload_n hx hb dX11_person_67 rfl (lv_at hl 2 rfl) ?_
  refine lv_iconst (v := (-1)) hx hb dX11_person_68 (by decide) ?_
  refine lv_icmp_eq (tgt := 84) hx hb dX11_person_69 (by decide) (fun c1 => ?_) (fun c1 => ?_)
  · have hw := hw.1 c1
    exact wkM_person_84 E _ _ _ _ _ _ _ h hw (lv_sub hl [0, 1, 2, 3] rfl)
  · have hw := hw.2 c1
    refine lv_iload_n hx hb dX11_person_72 rfl (lv_at hl 3 rfl) ?_
    refine lv_aload_n hx hb dX11_person_73 rfl (lv_at hl 0 rfl) ?_
    refine gX11_101 E h dX11_person_74 ?_
    refine lv_iload_n hx hb dX11_person_77 rfl (lv_at hl 2 rfl) ?_
    have h2 := hw.1
    have hw := hw.2
    refine aM_28 E h h2 dX11_person_78 ?_
    refine lv_icmp_gt (tgt := 84) hx hb dX11_person_79 (by decide) (fun c3 => ?_) (fun c3 => ?_)
    · have hw := hw.1 c3
      exact wkM_person_84 E _ _ _ _ _ _ _ h hw (lv_sub hl [0, 1, 2, 3] rfl)
    · have hw := hw.2 c3
      refine lv_iconst (v := (-1)) hx hb dX11_person_82 (by decide) ?_
      exact x_iret E h hw dX11_person_83

def wpM_person_45 (Post : Int32 → MS → Prop) (σ : MS) (x1 : Int32) (x2 : Int32) (x3 : Int32) : Prop := wpM_isDay σ x3 (fun r1 σ2 => (r1 = 0 → Post ((-1)) σ2) ∧ (¬ r1 = 0 → (x1 = ((-1)) → wpM_person_67 Post σ2 x1 x2 x3) ∧ (¬ x1 = ((-1)) → vp_in x1 12 ∧ (x3 ≤ (σ2.2.1 28 x1.toNatClampNeg) → Post ((-1)) σ2) ∧ (¬ x3 ≤ (σ2.2.1 28 x1.toNatClampNeg) → wpM_person_67 Post σ2 x1 x2 x3))))
set_option maxHeartbeats 1000000 in
set_option maxRecDepth 20000 in
theorem wkM_person_45 {Post : Int32 → MS → Prop} (E : xE cX11_person RX11 6 (some .int) D cy p s m args meth c) : ∀ (σ : MS) (x1 : Int32) (x2 : Int32) (x3 : Int32) (H : Heap) (locs : List Loc) (ls : Array Slot), xH D A s (MW q cy σ) H locs → wpM_person_45 Post σ x1 x2 x3 → lv_has ls 6 [(0, .ref (q 0)), (1, .int x1), (2, .int x2), (3, .int x3)] → W p l e rM_person s m args below meth c H locs 0 0 (MQ below (va_Qi Post (xB D cy (MW q cy) A) A) args s 0 0 A) (F0 m 45 ls []) := by
  have hx := E.1
  have hb := E.2.1
  intro σ x1 x2 x3 H locs ls h hw hl
  unfold wpM_person_45 at hw
  refine lv_iload_n hx hb dX11_person_45 rfl (lv_at hl 3 rfl) ?_
  refine x_calli h (x_runS (WW := MW q cy) (rest := []) E h (cM_isDay hw) yyX11_isDay lX11_259 ⟨Nat.le_of_ble_eq_true rfl, Nat.le_of_ble_eq_true rfl⟩ rfl rfl hl.1 rfl (Nat.le_of_ble_eq_true rfl) dX11_person_46 ⟨Nat.le_refl 0, Nat.le_refl 0⟩) (fun r1 σ2 H locs hw h => ?_)
  refine lv_if_eq (tgt := 82) hx hb dX11_person_49 (by decide) (fun c3 => ?_) (fun c3 => ?_)
  · have hw := hw.1 c3
    refine lv_iconst (v := (-1)) hx hb dX11_person_82 (by decide) ?_
    exact x_iret E h hw dX11_person_83
  · have hw := hw.2 c3
    refine lv_iload_n hx hb dX11_person_52 rfl (lv_at hl 1 rfl) ?_
    refine lv_iconst (v := (-1)) hx hb dX11_person_53 (by decide) ?_
    refine lv_icmp_eq (tgt := 67) hx hb dX11_person_54 (by decide) (fun c4 => ?_) (fun c4 => ?_)
    · have hw := hw.1 c4
      exact wkM_person_67 E _ _ _ _ _ _ _ h hw (lv_sub hl [0, 1, 2, 3] rfl)
    · have hw := hw.2 c4
      refine lv_iload_n hx hb dX11_person_57 rfl (lv_at hl 3 rfl) ?_
      refine lv_aload_n hx hb dX11_person_58 rfl (lv_at hl 0 rfl) ?_
      refine gX11_101 E h dX11_person_59 ?_
      refine lv_iload_n hx hb dX11_person_62 rfl (lv_at hl 1 rfl) ?_
      have h5 := hw.1
      have hw := hw.2
      refine aM_28 E h h5 dX11_person_63 ?_
      refine lv_icmp_le (tgt := 82) hx hb dX11_person_64 (by decide) (fun c6 => ?_) (fun c6 => ?_)
      · have hw := hw.1 c6
        refine lv_iconst (v := (-1)) hx hb dX11_person_82 (by decide) ?_
        exact x_iret E h hw dX11_person_83
      · have hw := hw.2 c6
        exact wkM_person_67 E _ _ _ _ _ _ _ h hw (lv_sub hl [0, 1, 2, 3] rfl)

def wpM_person (σ : MS) (x1 : Int32) (x2 : Int32) (x3 : Int32) (Post : Int32 → MS → Prop) : Prop := ((σ.1 40) = 12 → Post ((-1)) σ) ∧ (¬ (σ.1 40) = 12 → (x1 < ((-1)) → Post ((-1)) σ) ∧ (¬ x1 < ((-1)) → ((σ.1 40) ≤ x1 → Post ((-1)) σ) ∧ (¬ (σ.1 40) ≤ x1 → (x2 < ((-1)) → Post ((-1)) σ) ∧ (¬ x2 < ((-1)) → ((σ.1 40) ≤ x2 → Post ((-1)) σ) ∧ (¬ (σ.1 40) ≤ x2 → (x1 = ((-1)) → wpM_person_45 Post σ x1 x2 x3) ∧ (¬ x1 = ((-1)) → (x1 = x2 → Post ((-1)) σ) ∧ (¬ x1 = x2 → wpM_person_45 Post σ x1 x2 x3)))))))
set_option maxHeartbeats 1000000 in
set_option maxRecDepth 20000 in
theorem cM_person {l : Launch} {D : va_G} {cy : Nat → ClassId} {q : Nat → Nat} {σ : MS} {sz : Nat} {x1 : Int32} {x2 : Int32} {x3 : Int32} {Post : Int32 → MS → Prop} (hw : wpM_person σ x1 x2 x3 Post) : Met l yX11_person (Cond.code yX11_person cX11_person 6 (some .int) :: wsA) rM_person (xPc D cy (MW q cy σ) sz [.ref (q 0), .int x1, .int x2, .int x3]) (va_Qi Post (xB D cy (MW q cy) (va_A (MW q cy σ) sz)) (va_A (MW q cy σ) sz)) 0 0 (va_A (MW q cy σ) sz) := by
  refine x_enter (own := RX11) (WW := MW q cy) (by decide) rfl (Nat.le_of_ble_eq_true rfl) ?_
  intro p e s m below meth c ls E h hl
  have hx := E.1
  have hb := E.2.1
  have hl : lv_has ls 6 [(0, .ref (q 0)), (1, .int x1), (2, .int x2), (3, .int x3)] := hl
  unfold wpM_person at hw
  refine lv_aload_n hx hb dX11_person_0 rfl (lv_at hl 0 rfl) ?_
  refine gX11_300 E h dX11_person_1 ?_
  refine lv_bipush (v := 12) hx hb dX11_person_4 (by decide) ?_
  refine lv_icmp_eq (tgt := 82) hx hb dX11_person_6 (by decide) (fun c1 => ?_) (fun c1 => ?_)
  · have hw := hw.1 c1
    refine lv_iconst (v := (-1)) hx hb dX11_person_82 (by decide) ?_
    exact x_iret E h hw dX11_person_83
  · have hw := hw.2 c1
    refine lv_iload_n hx hb dX11_person_9 rfl (lv_at hl 1 rfl) ?_
    refine lv_iconst (v := (-1)) hx hb dX11_person_10 (by decide) ?_
    refine lv_icmp_lt (tgt := 82) hx hb dX11_person_11 (by decide) (fun c2 => ?_) (fun c2 => ?_)
    · have hw := hw.1 c2
      refine lv_iconst (v := (-1)) hx hb dX11_person_82 (by decide) ?_
      exact x_iret E h hw dX11_person_83
    · have hw := hw.2 c2
      refine lv_iload_n hx hb dX11_person_14 rfl (lv_at hl 1 rfl) ?_
      refine lv_aload_n hx hb dX11_person_15 rfl (lv_at hl 0 rfl) ?_
      refine gX11_300 E h dX11_person_16 ?_
      refine lv_icmp_ge (tgt := 82) hx hb dX11_person_19 (by decide) (fun c3 => ?_) (fun c3 => ?_)
      · have hw := hw.1 c3
        refine lv_iconst (v := (-1)) hx hb dX11_person_82 (by decide) ?_
        exact x_iret E h hw dX11_person_83
      · have hw := hw.2 c3
        refine lv_iload_n hx hb dX11_person_22 rfl (lv_at hl 2 rfl) ?_
        refine lv_iconst (v := (-1)) hx hb dX11_person_23 (by decide) ?_
        refine lv_icmp_lt (tgt := 82) hx hb dX11_person_24 (by decide) (fun c4 => ?_) (fun c4 => ?_)
        · have hw := hw.1 c4
          refine lv_iconst (v := (-1)) hx hb dX11_person_82 (by decide) ?_
          exact x_iret E h hw dX11_person_83
        · have hw := hw.2 c4
          refine lv_iload_n hx hb dX11_person_27 rfl (lv_at hl 2 rfl) ?_
          refine lv_aload_n hx hb dX11_person_28 rfl (lv_at hl 0 rfl) ?_
          refine gX11_300 E h dX11_person_29 ?_
          refine lv_icmp_ge (tgt := 82) hx hb dX11_person_32 (by decide) (fun c5 => ?_) (fun c5 => ?_)
          · have hw := hw.1 c5
            refine lv_iconst (v := (-1)) hx hb dX11_person_82 (by decide) ?_
            exact x_iret E h hw dX11_person_83
          · have hw := hw.2 c5
            refine lv_iload_n hx hb dX11_person_35 rfl (lv_at hl 1 rfl) ?_
            refine lv_iconst (v := (-1)) hx hb dX11_person_36 (by decide) ?_
            refine lv_icmp_eq (tgt := 45) hx hb dX11_person_37 (by decide) (fun c6 => ?_) (fun c6 => ?_)
            · have hw := hw.1 c6
              exact wkM_person_45 E _ _ _ _ _ _ _ h hw (lv_sub hl [0, 1, 2, 3] rfl)
            · have hw := hw.2 c6
              refine lv_iload_n hx hb dX11_person_40 rfl (lv_at hl 1 rfl) ?_
              refine lv_iload_n hx hb dX11_person_41 rfl (lv_at hl 2 rfl) ?_
              refine lv_icmp_eq (tgt := 82) hx hb dX11_person_42 (by decide) (fun c7 => ?_) (fun c7 => ?_)
              · have hw := hw.1 c7
                refine lv_iconst (v := (-1)) hx hb dX11_person_82 (by decide) ?_
                exact x_iret E h hw dX11_person_83
              · have hw := hw.2 c7
                exact wkM_person_45 E _ _ _ _ _ _ _ h hw (lv_sub hl [0, 1, 2, 3] rfl)

abbrev rM_degreeOf : Room := { frames := 0, cells := 0, slots := 0, locals := 0 }
def wpM_degreeOf_57 (K6 : MS → Int32 → Int32 → Int32 → Int32 → Prop) (Post : Int32 → MS → Prop) (σ : MS) (x1 : Int32) (x2 : Int32) (x3 : Int32) (x4 : Int32) (t0 : Int32) : Prop := (x3 ≤ t0 → ∀ y2 : Int32, y2 = x4 + 1 → K6 σ x1 x2 x3 y2) ∧ (¬ x3 ≤ t0 → ∀ y3 : Int32, y3 = x4 + 1 → K6 σ x1 x2 t0 y3)
set_option maxHeartbeats 1000000 in
set_option maxRecDepth 20000 in
theorem wkM_degreeOf_57 {Post : Int32 → MS → Prop} (E : xE cX11_degreeOf RX11 8 (some .int) D cy p s m args meth c) {K6 : MS → Int32 → Int32 → Int32 → Int32 → Prop} (hK6 : ∀ (σ : MS) (x1 : Int32) (x2 : Int32) (x3 : Int32) (x4 : Int32) (H : Heap) (locs : List Loc) (ls : Array Slot), xH D A s (MW q cy σ) H locs → K6 σ x1 x2 x3 x4 → lv_has ls 8 [(0, .ref (q 0)), (1, .int x1), (2, .int x2), (3, .int x3), (4, .int x4)] → W p l e rM_degreeOf s m args below meth c H locs 0 0 (MQ below (va_Qi Post (xB D cy (MW q cy) A) A) args s 0 0 A) (F0 m 6 ls [])) : ∀ (σ : MS) (x1 : Int32) (x2 : Int32) (x3 : Int32) (x4 : Int32) (t0 : Int32) (H : Heap) (locs : List Loc) (ls : Array Slot), xH D A s (MW q cy σ) H locs → wpM_degreeOf_57 K6 Post σ x1 x2 x3 x4 t0 → lv_has ls 8 [(0, .ref (q 0)), (1, .int x1), (2, .int x2), (3, .int x3), (4, .int x4)] → W p l e rM_degreeOf s m args below meth c H locs 0 0 (MQ below (va_Qi Post (xB D cy (MW q cy) A) A) args s 0 0 A) (F0 m 57 ls [.int t0]) := by
  have hx := E.1
  have hb := E.2.1
  intro σ x1 x2 x3 x4 t0 H locs ls h hw hl
  unfold wpM_degreeOf_57 at hw
  refine lv_istore (lv' := [(7, .int t0), (0, .ref (q 0)), (1, .int x1), (2, .int x2), (3, .int x3), (4, .int x4)]) hx hb dX11_degreeOf_57 hl (by decide) rfl (fun ls hl => ?_)
  refine lv_iload hx hb dX11_degreeOf_59 (lv_at hl 0 rfl) ?_
  refine lv_iload_n hx hb dX11_degreeOf_61 rfl (lv_at hl 4 rfl) ?_
  refine lv_icmp_ge (tgt := 68) hx hb dX11_degreeOf_62 (by decide) (fun c1 => ?_) (fun c1 => ?_)
  · have hw := hw.1 c1
    obtain ⟨y2, ey2⟩ : ∃ z : Int32, z = x4 + 1 := ⟨_, rfl⟩
    have hw := hw y2 ey2
    refine lv_iinc (v := y2) (lv' := [(4, .int y2), (7, .int t0), (0, .ref (q 0)), (1, .int x1), (2, .int x2), (3, .int x3)]) hx hb dX11_degreeOf_68 hl (k := 5) rfl (by rw [ey2]; rfl) (by decide) rfl (fun ls hl => ?_)
    refine lv_goto (tgt := 6) hx hb dX11_degreeOf_71 (by decide) ?_
    exact hK6 _ _ _ _ _ _ _ _ h hw (lv_sub hl [2, 3, 4, 5, 0] rfl)
  · have hw := hw.2 c1
    refine lv_iload hx hb dX11_degreeOf_65 (lv_at hl 0 rfl) ?_
    refine lv_istore_n (lv' := [(3, .int t0), (7, .int t0), (0, .ref (q 0)), (1, .int x1), (2, .int x2), (4, .int x4)]) hx hb dX11_degreeOf_67 rfl hl (by decide) rfl (fun ls hl => ?_)
    obtain ⟨y3, ey3⟩ : ∃ z : Int32, z = x4 + 1 := ⟨_, rfl⟩
    have hw := hw y3 ey3
    refine lv_iinc (v := y3) (lv' := [(4, .int y3), (3, .int t0), (7, .int t0), (0, .ref (q 0)), (1, .int x1), (2, .int x2)]) hx hb dX11_degreeOf_68 hl (k := 5) rfl (by rw [ey3]; rfl) (by decide) rfl (fun ls hl => ?_)
    refine lv_goto (tgt := 6) hx hb dX11_degreeOf_71 (by decide) ?_
    exact hK6 _ _ _ _ _ _ _ _ h hw (lv_sub hl [3, 4, 5, 1, 0] rfl)

def wpM_degreeOf_6 (Post : Int32 → MS → Prop) : Nat → MS → Int32 → Int32 → Int32 → Int32 → Prop
  | 0, _, _, _, _, _ => False
  | n + 1, σ, x1, x2, x3, x4 => ((σ.1 40) ≤ x4 → Post x3 σ) ∧ (¬ (σ.1 40) ≤ x4 → vp_in ((12 * x1) + x4) 144 ∧ ∀ y3 : Int32, y3 = σ.2.1 29 ((12 * x1) + x4).toNatClampNeg → vp_in ((12 * x2) + x4) 144 ∧ ∀ y5 : Int32, y5 = σ.2.1 29 ((12 * x2) + x4).toNatClampNeg → (y3 ≤ y5 → wpM_degreeOf_57 (fun a0 a1 a2 a3 a4 => wpM_degreeOf_6 Post n a0 a1 a2 a3 a4) Post σ x1 x2 x3 x4 y5) ∧ (¬ y3 ≤ y5 → wpM_degreeOf_57 (fun a0 a1 a2 a3 a4 => wpM_degreeOf_6 Post n a0 a1 a2 a3 a4) Post σ x1 x2 x3 x4 y3))
set_option maxHeartbeats 1000000 in
set_option maxRecDepth 20000 in
theorem wkM_degreeOf_6 {Post : Int32 → MS → Prop} (E : xE cX11_degreeOf RX11 8 (some .int) D cy p s m args meth c) : ∀ n : Nat, ∀ (σ : MS) (x1 : Int32) (x2 : Int32) (x3 : Int32) (x4 : Int32) (H : Heap) (locs : List Loc) (ls : Array Slot), xH D A s (MW q cy σ) H locs → wpM_degreeOf_6 Post n σ x1 x2 x3 x4 → lv_has ls 8 [(0, .ref (q 0)), (1, .int x1), (2, .int x2), (3, .int x3), (4, .int x4)] → W p l e rM_degreeOf s m args below meth c H locs 0 0 (MQ below (va_Qi Post (xB D cy (MW q cy) A) A) args s 0 0 A) (F0 m 6 ls []) := by
  have hx := E.1
  have hb := E.2.1
  intro n
  induction n with
  | zero => intro σ x1 x2 x3 x4 H locs ls h hw hl; exact False.elim hw
  | succ n ih =>
    intro σ x1 x2 x3 x4 H locs ls h hw hl
    refine lv_iload hx hb dX11_degreeOf_6 (lv_at hl 4 rfl) ?_
    refine lv_aload_n hx hb dX11_degreeOf_8 rfl (lv_at hl 0 rfl) ?_
    refine gX11_300 E h dX11_degreeOf_9 ?_
    refine lv_icmp_ge (tgt := 74) hx hb dX11_degreeOf_12 (by decide) (fun c1 => ?_) (fun c1 => ?_)
    · have hw := hw.1 c1
      refine lv_iload_n hx hb dX11_degreeOf_74 rfl (lv_at hl 3 rfl) ?_
      exact x_iret E h hw dX11_degreeOf_75
    · have hw := hw.2 c1
      refine lv_aload_n hx hb dX11_degreeOf_15 rfl (lv_at hl 0 rfl) ?_
      refine gX11_104 E h dX11_degreeOf_16 ?_
      refine lv_bipush (v := 12) hx hb dX11_degreeOf_19 (by decide) ?_
      refine lv_iload_n hx hb dX11_degreeOf_21 rfl (lv_at hl 1 rfl) ?_
      refine lv_imul hx hb dX11_degreeOf_22 ?_
      refine lv_iload hx hb dX11_degreeOf_23 (lv_at hl 4 rfl) ?_
      refine lv_iadd hx hb dX11_degreeOf_25 ?_
      have h2 := hw.1
      have hw := hw.2
      refine aM_29 E h h2 dX11_degreeOf_26 ?_
      refine lv_topi (fun y3 ey3 => ?_)
      have hw := hw y3 ey3
      refine lv_istore (lv' := [(5, .int y3), (0, .ref (q 0)), (1, .int x1), (2, .int x2), (3, .int x3), (4, .int x4)]) hx hb dX11_degreeOf_27 hl (by decide) rfl (fun ls hl => ?_)
      refine lv_aload_n hx hb dX11_degreeOf_29 rfl (lv_at hl 1 rfl) ?_
      refine gX11_104 E h dX11_degreeOf_30 ?_
      refine lv_bipush (v := 12) hx hb dX11_degreeOf_33 (by decide) ?_
      refine lv_iload_n hx hb dX11_degreeOf_35 rfl (lv_at hl 3 rfl) ?_
      refine lv_imul hx hb dX11_degreeOf_36 ?_
      refine lv_iload hx hb dX11_degreeOf_37 (lv_at hl 5 rfl) ?_
      refine lv_iadd hx hb dX11_degreeOf_39 ?_
      have h4 := hw.1
      have hw := hw.2
      refine aM_29 E h h4 dX11_degreeOf_40 ?_
      refine lv_topi (fun y5 ey5 => ?_)
      have hw := hw y5 ey5
      refine lv_istore (lv' := [(6, .int y5), (5, .int y3), (0, .ref (q 0)), (1, .int x1), (2, .int x2), (3, .int x3), (4, .int x4)]) hx hb dX11_degreeOf_41 hl (by decide) rfl (fun ls hl => ?_)
      refine lv_iload hx hb dX11_degreeOf_43 (lv_at hl 1 rfl) ?_
      refine lv_iload hx hb dX11_degreeOf_45 (lv_at hl 0 rfl) ?_
      refine lv_icmp_le (tgt := 55) hx hb dX11_degreeOf_47 (by decide) (fun c6 => ?_) (fun c6 => ?_)
      · have hw := hw.1 c6
        refine lv_iload hx hb dX11_degreeOf_55 (lv_at hl 0 rfl) ?_
        exact wkM_degreeOf_57 E ih _ _ _ _ _ _ _ _ _ h hw (lv_sub hl [2, 3, 4, 5, 6] rfl)
      · have hw := hw.2 c6
        refine lv_iload hx hb dX11_degreeOf_50 (lv_at hl 1 rfl) ?_
        refine lv_goto (tgt := 57) hx hb dX11_degreeOf_52 (by decide) ?_
        exact wkM_degreeOf_57 E ih _ _ _ _ _ _ _ _ _ h hw (lv_sub hl [2, 3, 4, 5, 6] rfl)

def wpM_degreeOf (σ : MS) (x1 : Int32) (x2 : Int32) (Post : Int32 → MS → Prop) : Prop := ∃ g, wpM_degreeOf_6 Post g σ x1 x2 99 0
set_option maxHeartbeats 1000000 in
set_option maxRecDepth 20000 in
theorem cM_degreeOf {l : Launch} {D : va_G} {cy : Nat → ClassId} {q : Nat → Nat} {σ : MS} {sz : Nat} {x1 : Int32} {x2 : Int32} {Post : Int32 → MS → Prop} (hw : wpM_degreeOf σ x1 x2 Post) : Met l yX11_degreeOf (Cond.code yX11_degreeOf cX11_degreeOf 8 (some .int) :: wsA) rM_degreeOf (xPc D cy (MW q cy σ) sz [.ref (q 0), .int x1, .int x2]) (va_Qi Post (xB D cy (MW q cy) (va_A (MW q cy σ) sz)) (va_A (MW q cy σ) sz)) 0 0 (va_A (MW q cy σ) sz) := by
  refine x_enter (own := RX11) (WW := MW q cy) (by decide) rfl (Nat.le_of_ble_eq_true rfl) ?_
  intro p e s m below meth c ls E h hl
  have hx := E.1
  have hb := E.2.1
  have hl : lv_has ls 8 [(0, .ref (q 0)), (1, .int x1), (2, .int x2)] := hl
  unfold wpM_degreeOf at hw
  refine lv_bipush (v := 99) hx hb dX11_degreeOf_0 (by decide) ?_
  refine lv_istore_n (lv' := [(3, .int 99), (0, .ref (q 0)), (1, .int x1), (2, .int x2)]) hx hb dX11_degreeOf_2 rfl hl (by decide) rfl (fun ls hl => ?_)
  refine lv_iconst (v := 0) hx hb dX11_degreeOf_3 (by decide) ?_
  refine lv_istore (lv' := [(4, .int 0), (3, .int 99), (0, .ref (q 0)), (1, .int x1), (2, .int x2)]) hx hb dX11_degreeOf_4 hl (by decide) rfl (fun ls hl => ?_)
  obtain ⟨g, hw⟩ := hw
  exact wkM_degreeOf_6 E g _ _ _ _ _ _ _ _ h hw (lv_sub hl [2, 3, 4, 1, 0] rfl)

end MWalk
