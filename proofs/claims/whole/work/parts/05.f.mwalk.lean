section MWalk
variable {p : Program} {l : Launch} {e : Env} {s : State} {m : MethodId} {args : Array Value} {below : List Frame} {meth : Method} {c : Code} {D : va_G} {cy : Nat → ClassId} {q : Nat → Nat} {A : Nat → Prop}
abbrev rM_backOf : Room := { frames := 3, cells := 0, slots := 0, locals := 77 }
def wpM_backOf_203 (Post : Int32 → MS → Prop) (σ : MS) (x1 : Int32) (t0 : Int32) : Prop := vp_in x1 20 ∧ Post (((σ.2.1 39 x1.toNatClampNeg) * t0) / 100) σ
set_option maxHeartbeats 1000000 in
set_option maxRecDepth 20000 in
theorem wkM_backOf_203 {Post : Int32 → MS → Prop} (E : xE cX11_backOf RX11 8 (some .int) D cy p s m args meth c) : ∀ (σ : MS) (x1 : Int32) (t0 : Int32) (H : Heap) (locs : List Loc) (ls : Array Slot), xH D A s (MW q cy σ) H locs → wpM_backOf_203 Post σ x1 t0 → lv_has ls 8 [(0, .ref (q 0)), (1, .int x1)] → W p l e rM_backOf s m args below meth c H locs 0 0 (MQ below (va_Qi Post (xB D cy (MW q cy) A) A) args s 0 0 A) (F0 m 203 ls [.int t0]) := by
  have hx := E.1
  have hb := E.2.1
  intro σ x1 t0 H locs ls h hw hl
  unfold wpM_backOf_203 at hw
  refine lv_istore (lv' := [(7, .int t0), (0, .ref (q 0)), (1, .int x1)]) hx hb dX11_backOf_203 hl (by decide) rfl (fun ls hl => ?_)
  refine lv_aload_n hx hb dX11_backOf_205 rfl (lv_at hl 1 rfl) ?_
  refine gX11_134 E h dX11_backOf_206 ?_
  refine lv_iload_n hx hb dX11_backOf_209 rfl (lv_at hl 2 rfl) ?_
  have h1 := hw.1
  have hw := hw.2
  refine aM_39 E h h1 dX11_backOf_210 ?_
  refine lv_iload hx hb dX11_backOf_211 (lv_at hl 0 rfl) ?_
  refine lv_imul hx hb dX11_backOf_213 ?_
  refine lv_bipush (v := 100) hx hb dX11_backOf_214 (by decide) ?_
  refine lv_idiv hx hb dX11_backOf_216 (by decide) ?_
  exact x_iret E h hw dX11_backOf_217

def wpM_backOf_131 (Post : Int32 → MS → Prop) (σ : MS) (x1 : Int32) (x3 : Int32) : Prop := wpM_ruleOf σ x3 4 (fun r1 σ2 => (r1 = ((-1)) → Post 0 σ2) ∧ (¬ r1 = ((-1)) → wpM_lawOf σ2 x3 (fun r4 σ5 => ∀ y6 : Int32, y6 = (16 * r4) + r1 → vp_in y6 144 ∧ vp_in y6 144 ∧ wpM_value σ5 (σ5.2.1 13 y6.toNatClampNeg) (σ5.2.1 14 y6.toNatClampNeg) (fun r9 σ10 => (0 ≤ r9 → (r9 ≤ 100 → wpM_backOf_203 Post σ10 x1 r9) ∧ (¬ r9 ≤ 100 → wpM_backOf_203 Post σ10 x1 100)) ∧ (¬ 0 ≤ r9 → wpM_backOf_203 Post σ10 x1 0)))))
set_option maxHeartbeats 1000000 in
set_option maxRecDepth 20000 in
theorem wkM_backOf_131 {Post : Int32 → MS → Prop} (E : xE cX11_backOf RX11 8 (some .int) D cy p s m args meth c) : ∀ (σ : MS) (x1 : Int32) (x3 : Int32) (H : Heap) (locs : List Loc) (ls : Array Slot), xH D A s (MW q cy σ) H locs → wpM_backOf_131 Post σ x1 x3 → lv_has ls 8 [(0, .ref (q 0)), (1, .int x1), (3, .int x3)] → W p l e rM_backOf s m args below meth c H locs 0 0 (MQ below (va_Qi Post (xB D cy (MW q cy) A) A) args s 0 0 A) (F0 m 131 ls []) := by
  have hx := E.1
  have hb := E.2.1
  intro σ x1 x3 H locs ls h hw hl
  unfold wpM_backOf_131 at hw
  refine lv_aload_n hx hb dX11_backOf_131 rfl (lv_at hl 0 rfl) ?_
  refine lv_iload_n hx hb dX11_backOf_132 rfl (lv_at hl 2 rfl) ?_
  refine lv_iconst (v := 4) hx hb dX11_backOf_133 (by decide) ?_
  refine x_calli h (x_runV (WW := MW q cy) (rest := []) E h (cM_ruleOf hw) yyX11_ruleOf lX11_342 0 rfl rfl ⟨Nat.le_of_ble_eq_true rfl, Nat.le_of_ble_eq_true rfl⟩ rfl rfl hl.1 rfl (Nat.le_of_ble_eq_true rfl) dX11_backOf_134 ⟨Nat.le_refl 0, Nat.le_refl 0⟩) (fun r1 σ2 H locs hw h => ?_)
  refine lv_istore (lv' := [(5, .int r1), (0, .ref (q 0)), (1, .int x1), (3, .int x3)]) hx hb dX11_backOf_137 hl (by decide) rfl (fun ls hl => ?_)
  refine lv_iload hx hb dX11_backOf_139 (lv_at hl 0 rfl) ?_
  refine lv_iconst (v := (-1)) hx hb dX11_backOf_141 (by decide) ?_
  refine lv_icmp_ne (tgt := 147) hx hb dX11_backOf_142 (by decide) (fun c3 => ?_) (fun c3 => ?_)
  · have hw := hw.2 c3
    refine lv_bipush (v := 16) hx hb dX11_backOf_147 (by decide) ?_
    refine lv_aload_n hx hb dX11_backOf_149 rfl (lv_at hl 1 rfl) ?_
    refine lv_iload_n hx hb dX11_backOf_150 rfl (lv_at hl 3 rfl) ?_
    refine x_calli h (x_runV (WW := MW q cy) (rest := [.int 16]) E h (cM_lawOf hw) yyX11_lawOf lX11_326 0 rfl rfl ⟨Nat.le_of_ble_eq_true rfl, Nat.le_of_ble_eq_true rfl⟩ rfl rfl hl.1 rfl (Nat.le_of_ble_eq_true rfl) dX11_backOf_151 ⟨Nat.le_refl 0, Nat.le_refl 0⟩) (fun r4 σ5 H locs hw h => ?_)
    refine lv_imul hx hb dX11_backOf_154 ?_
    refine lv_iload hx hb dX11_backOf_155 (lv_at hl 0 rfl) ?_
    refine lv_iadd hx hb dX11_backOf_157 ?_
    refine lv_topi (fun y6 ey6 => ?_)
    have hw := hw y6 ey6
    refine lv_istore (lv' := [(6, .int y6), (5, .int r1), (0, .ref (q 0)), (1, .int x1), (3, .int x3)]) hx hb dX11_backOf_158 hl (by decide) rfl (fun ls hl => ?_)
    refine lv_aload_n hx hb dX11_backOf_160 rfl (lv_at hl 2 rfl) ?_
    refine lv_aload_n hx hb dX11_backOf_161 rfl (lv_at hl 2 rfl) ?_
    refine gX11_55 E h dX11_backOf_162 ?_
    refine lv_iload hx hb dX11_backOf_165 (lv_at hl 0 rfl) ?_
    have h7 := hw.1
    have hw := hw.2
    refine aM_13 E h h7 dX11_backOf_167 ?_
    refine lv_aload_n hx hb dX11_backOf_168 rfl (lv_at hl 2 rfl) ?_
    refine gX11_58 E h dX11_backOf_169 ?_
    refine lv_iload hx hb dX11_backOf_172 (lv_at hl 0 rfl) ?_
    have h8 := hw.1
    have hw := hw.2
    refine aM_14 E h h8 dX11_backOf_174 ?_
    refine x_calli h (x_runV (WW := MW q cy) (rest := []) E h (cM_value hw) yyX11_value lX11_329 0 rfl rfl ⟨Nat.le_of_ble_eq_true rfl, Nat.le_of_ble_eq_true rfl⟩ rfl rfl hl.1 rfl (Nat.le_of_ble_eq_true rfl) dX11_backOf_175 ⟨Nat.le_refl 0, Nat.le_refl 0⟩) (fun r9 σ10 H locs hw h => ?_)
    refine lv_istore (lv' := [(7, .int r9), (6, .int y6), (5, .int r1), (0, .ref (q 0)), (1, .int x1), (3, .int x3)]) hx hb dX11_backOf_178 hl (by decide) rfl (fun ls hl => ?_)
    refine lv_iload hx hb dX11_backOf_180 (lv_at hl 0 rfl) ?_
    refine lv_if_ge (tgt := 189) hx hb dX11_backOf_182 (by decide) (fun c11 => ?_) (fun c11 => ?_)
    · have hw := hw.1 c11
      refine lv_iload hx hb dX11_backOf_189 (lv_at hl 0 rfl) ?_
      refine lv_bipush (v := 100) hx hb dX11_backOf_191 (by decide) ?_
      refine lv_icmp_le (tgt := 201) hx hb dX11_backOf_193 (by decide) (fun c12 => ?_) (fun c12 => ?_)
      · have hw := hw.1 c12
        refine lv_iload hx hb dX11_backOf_201 (lv_at hl 0 rfl) ?_
        exact wkM_backOf_203 E _ _ _ _ _ _ h hw (lv_sub hl [3, 4] rfl)
      · have hw := hw.2 c12
        refine lv_bipush (v := 100) hx hb dX11_backOf_196 (by decide) ?_
        refine lv_goto (tgt := 203) hx hb dX11_backOf_198 (by decide) ?_
        exact wkM_backOf_203 E _ _ _ _ _ _ h hw (lv_sub hl [3, 4] rfl)
    · have hw := hw.2 c11
      refine lv_iconst (v := 0) hx hb dX11_backOf_185 (by decide) ?_
      refine lv_goto (tgt := 203) hx hb dX11_backOf_186 (by decide) ?_
      exact wkM_backOf_203 E _ _ _ _ _ _ h hw (lv_sub hl [3, 4] rfl)
  · have hw := hw.1 c3
    refine lv_iconst (v := 0) hx hb dX11_backOf_145 (by decide) ?_
    exact x_iret E h hw dX11_backOf_146

def wpM_backOf_104 (Post : Int32 → MS → Prop) (σ : MS) (x1 : Int32) (x3 : Int32) (x4 : Int32) : Prop := (x4 ≤ 6 → wpM_backOf_131 Post σ x1 x3) ∧ (¬ x4 ≤ 6 → vp_in x3 10 ∧ vp_in x3 10 ∧ vp_in 11 12 ∧ ∀ σ4 : MS, σ4 = mA σ 44 (upd (σ.2.1 44) (11 : Int32).toNatClampNeg ((σ.2.1 52 x3.toNatClampNeg) - (σ.2.1 47 x3.toNatClampNeg))) → wpM_backOf_131 Post σ4 x1 x3)
set_option maxHeartbeats 1000000 in
set_option maxRecDepth 20000 in
theorem wkM_backOf_104 {Post : Int32 → MS → Prop} (E : xE cX11_backOf RX11 8 (some .int) D cy p s m args meth c) : ∀ (σ : MS) (x1 : Int32) (x3 : Int32) (x4 : Int32) (H : Heap) (locs : List Loc) (ls : Array Slot), xH D A s (MW q cy σ) H locs → wpM_backOf_104 Post σ x1 x3 x4 → lv_has ls 8 [(0, .ref (q 0)), (1, .int x1), (3, .int x3), (4, .int x4)] → W p l e rM_backOf s m args below meth c H locs 0 0 (MQ below (va_Qi Post (xB D cy (MW q cy) A) A) args s 0 0 A) (F0 m 104 ls []) := by
  have hx := E.1
  have hb := E.2.1
  intro σ x1 x3 x4 H locs ls h hw hl
  unfold wpM_backOf_104 at hw
  refine lv_iload hx hb dX11_backOf_104 (lv_at hl 3 rfl) ?_
  refine lv_bipush (v := 6) hx hb dX11_backOf_106 (by decide) ?_
  refine lv_icmp_le (tgt := 131) hx hb dX11_backOf_108 (by decide) (fun c1 => ?_) (fun c1 => ?_)
  · have hw := hw.1 c1
    exact wkM_backOf_131 E _ _ _ _ _ _ h hw (lv_sub hl [0, 1, 2] rfl)
  · have hw := hw.2 c1
    refine lv_aload_n hx hb dX11_backOf_111 rfl (lv_at hl 0 rfl) ?_
    refine gX11_149 E h dX11_backOf_112 ?_
    refine lv_bipush (v := 11) hx hb dX11_backOf_115 (by decide) ?_
    refine lv_aload_n hx hb dX11_backOf_117 rfl (lv_at hl 0 rfl) ?_
    refine gX11_176 E h dX11_backOf_118 ?_
    refine lv_iload_n hx hb dX11_backOf_121 rfl (lv_at hl 2 rfl) ?_
    have h2 := hw.1
    have hw := hw.2
    refine aM_52 E h h2 dX11_backOf_122 ?_
    refine lv_aload_n hx hb dX11_backOf_123 rfl (lv_at hl 0 rfl) ?_
    refine gX11_161 E h dX11_backOf_124 ?_
    refine lv_iload_n hx hb dX11_backOf_127 rfl (lv_at hl 2 rfl) ?_
    have h3 := hw.1
    have hw := hw.2
    refine aM_47 E h h3 dX11_backOf_128 ?_
    refine lv_isub hx hb dX11_backOf_129 ?_
    have h5 := hw.1
    have hw := hw.2
    refine sM_44 E h h5 dX11_backOf_130 (fun σ4 H locs eσ4 h => ?_)
    have hw := hw σ4 eσ4
    exact wkM_backOf_131 E _ _ _ _ _ _ h hw (lv_sub hl [0, 1, 2] rfl)

def wpM_backOf_103 (Post : Int32 → MS → Prop) (σ : MS) (x1 : Int32) (x3 : Int32) (x4 : Int32) (t1 : Int32) (t2 : Int32) : Prop := vp_in t1 12 ∧ ∀ σ1 : MS, σ1 = mA σ 44 (upd (σ.2.1 44) t1.toNatClampNeg t2) → wpM_backOf_104 Post σ1 x1 x3 x4
set_option maxHeartbeats 1000000 in
set_option maxRecDepth 20000 in
theorem wkM_backOf_103 {Post : Int32 → MS → Prop} (E : xE cX11_backOf RX11 8 (some .int) D cy p s m args meth c) : ∀ (σ : MS) (x1 : Int32) (x3 : Int32) (x4 : Int32) (t1 : Int32) (t2 : Int32) (H : Heap) (locs : List Loc) (ls : Array Slot), xH D A s (MW q cy σ) H locs → wpM_backOf_103 Post σ x1 x3 x4 t1 t2 → lv_has ls 8 [(0, .ref (q 0)), (1, .int x1), (3, .int x3), (4, .int x4)] → W p l e rM_backOf s m args below meth c H locs 0 0 (MQ below (va_Qi Post (xB D cy (MW q cy) A) A) args s 0 0 A) (F0 m 103 ls [.int t2, .int t1, .ref (q 44)]) := by
  have hx := E.1
  have hb := E.2.1
  intro σ x1 x3 x4 t1 t2 H locs ls h hw hl
  unfold wpM_backOf_103 at hw
  have h2 := hw.1
  have hw := hw.2
  refine sM_44 E h h2 dX11_backOf_103 (fun σ1 H locs eσ1 h => ?_)
  have hw := hw σ1 eσ1
  exact wkM_backOf_104 E _ _ _ _ _ _ _ h hw (lv_sub hl [0, 1, 2, 3] rfl)

def wpM_backOf (σ : MS) (x1 : Int32) (x2 : Int32) (Post : Int32 → MS → Prop) : Prop := vp_in x1 20 ∧ ∀ y2 : Int32, y2 = σ.2.1 37 x1.toNatClampNeg → wpM_stateOf σ y2 x2 (fun r3 σ4 => (r3 < 3 → Post 0 σ4) ∧ (¬ r3 < 3 → (r3 = 6 → Post 0 σ4) ∧ (¬ r3 = 6 → wpM_nothing σ4 y2 (fun σ7 => vp_in 10 12 ∧ ∀ σ8 : MS, σ8 = mA σ7 44 (upd (σ7.2.1 44) (10 : Int32).toNatClampNeg r3) → (r3 = 9 → vp_in y2 10 ∧ vp_in x1 20 ∧ ((σ8.2.1 55 y2.toNatClampNeg) = (1 + (σ8.2.1 38 x1.toNatClampNeg)) → wpM_backOf_103 Post σ8 x1 y2 r3 10 9) ∧ (¬ (σ8.2.1 55 y2.toNatClampNeg) = (1 + (σ8.2.1 38 x1.toNatClampNeg)) → vp_in y2 10 ∧ vp_in x1 20 ∧ ((σ8.2.1 55 y2.toNatClampNeg) = (2 - (σ8.2.1 38 x1.toNatClampNeg)) → wpM_backOf_103 Post σ8 x1 y2 r3 10 10) ∧ (¬ (σ8.2.1 55 y2.toNatClampNeg) = (2 - (σ8.2.1 38 x1.toNatClampNeg)) → wpM_backOf_103 Post σ8 x1 y2 r3 10 11))) ∧ (¬ r3 = 9 → wpM_backOf_104 Post σ8 x1 y2 r3)))))
set_option maxHeartbeats 1000000 in
set_option maxRecDepth 20000 in
theorem cM_backOf {l : Launch} {D : va_G} {cy : Nat → ClassId} {q : Nat → Nat} {σ : MS} {sz : Nat} {x1 : Int32} {x2 : Int32} {Post : Int32 → MS → Prop} (hw : wpM_backOf σ x1 x2 Post) : Met l yX11_backOf (Cond.code yX11_backOf cX11_backOf 8 (some .int) :: wsA) rM_backOf (xPc D cy (MW q cy σ) sz [.ref (q 0), .int x1, .int x2]) (va_Qi Post (xB D cy (MW q cy) (va_A (MW q cy σ) sz)) (va_A (MW q cy σ) sz)) 0 0 (va_A (MW q cy σ) sz) := by
  refine x_enter (own := RX11) (WW := MW q cy) (by decide) rfl (Nat.le_of_ble_eq_true rfl) ?_
  intro p e s m below meth c ls E h hl
  have hx := E.1
  have hb := E.2.1
  have hl : lv_has ls 8 [(0, .ref (q 0)), (1, .int x1), (2, .int x2)] := hl
  unfold wpM_backOf at hw
  refine lv_aload_n hx hb dX11_backOf_0 rfl (lv_at hl 0 rfl) ?_
  refine gX11_128 E h dX11_backOf_1 ?_
  refine lv_iload_n hx hb dX11_backOf_4 rfl (lv_at hl 1 rfl) ?_
  have h1 := hw.1
  have hw := hw.2
  refine aM_37 E h h1 dX11_backOf_5 ?_
  refine lv_topi (fun y2 ey2 => ?_)
  have hw := hw y2 ey2
  refine lv_istore_n (lv' := [(3, .int y2), (0, .ref (q 0)), (1, .int x1), (2, .int x2)]) hx hb dX11_backOf_6 rfl hl (by decide) rfl (fun ls hl => ?_)
  refine lv_aload_n hx hb dX11_backOf_7 rfl (lv_at hl 1 rfl) ?_
  refine lv_iload_n hx hb dX11_backOf_8 rfl (lv_at hl 0 rfl) ?_
  refine lv_iload_n hx hb dX11_backOf_9 rfl (lv_at hl 3 rfl) ?_
  refine x_calli h (x_runV (WW := MW q cy) (rest := []) E h (cM_stateOf hw) yyX11_stateOf lX11_379 0 rfl rfl ⟨Nat.le_of_ble_eq_true rfl, Nat.le_of_ble_eq_true rfl⟩ rfl rfl hl.1 rfl (Nat.le_of_ble_eq_true rfl) dX11_backOf_10 ⟨Nat.le_refl 0, Nat.le_refl 0⟩) (fun r3 σ4 H locs hw h => ?_)
  refine lv_istore (lv' := [(4, .int r3), (3, .int y2), (0, .ref (q 0)), (1, .int x1), (2, .int x2)]) hx hb dX11_backOf_13 hl (by decide) rfl (fun ls hl => ?_)
  refine lv_iload hx hb dX11_backOf_15 (lv_at hl 0 rfl) ?_
  refine lv_iconst (v := 3) hx hb dX11_backOf_17 (by decide) ?_
  refine lv_icmp_lt (tgt := 28) hx hb dX11_backOf_18 (by decide) (fun c5 => ?_) (fun c5 => ?_)
  · have hw := hw.1 c5
    refine lv_iconst (v := 0) hx hb dX11_backOf_28 (by decide) ?_
    exact x_iret E h hw dX11_backOf_29
  · have hw := hw.2 c5
    refine lv_iload hx hb dX11_backOf_21 (lv_at hl 0 rfl) ?_
    refine lv_bipush (v := 6) hx hb dX11_backOf_23 (by decide) ?_
    refine lv_icmp_ne (tgt := 30) hx hb dX11_backOf_25 (by decide) (fun c6 => ?_) (fun c6 => ?_)
    · have hw := hw.2 c6
      refine lv_aload_n hx hb dX11_backOf_30 rfl (lv_at hl 2 rfl) ?_
      refine lv_iload_n hx hb dX11_backOf_31 rfl (lv_at hl 1 rfl) ?_
      refine x_callv h (x_runV (WW := MW q cy) (rest := []) E h (cM_nothing hw) yyX11_nothing lX11_336 0 rfl rfl ⟨Nat.le_of_ble_eq_true rfl, Nat.le_of_ble_eq_true rfl⟩ rfl rfl hl.1 rfl (Nat.le_of_ble_eq_true rfl) dX11_backOf_32 ⟨Nat.le_refl 0, Nat.le_refl 0⟩) (fun σ7 H locs hw h => ?_)
      refine lv_aload_n hx hb dX11_backOf_35 rfl (lv_at hl 2 rfl) ?_
      refine gX11_149 E h dX11_backOf_36 ?_
      refine lv_bipush (v := 10) hx hb dX11_backOf_39 (by decide) ?_
      refine lv_iload hx hb dX11_backOf_41 (lv_at hl 0 rfl) ?_
      have h9 := hw.1
      have hw := hw.2
      refine sM_44 E h h9 dX11_backOf_43 (fun σ8 H locs eσ8 h => ?_)
      have hw := hw σ8 eσ8
      refine lv_iload hx hb dX11_backOf_44 (lv_at hl 0 rfl) ?_
      refine lv_bipush (v := 9) hx hb dX11_backOf_46 (by decide) ?_
      refine lv_icmp_ne (tgt := 104) hx hb dX11_backOf_48 (by decide) (fun c10 => ?_) (fun c10 => ?_)
      · have hw := hw.2 c10
        exact wkM_backOf_104 E _ _ _ _ _ _ _ h hw (lv_sub hl [2, 3, 1, 0] rfl)
      · have hw := hw.1 c10
        refine lv_aload_n hx hb dX11_backOf_51 rfl (lv_at hl 2 rfl) ?_
        refine gX11_149 E h dX11_backOf_52 ?_
        refine lv_bipush (v := 10) hx hb dX11_backOf_55 (by decide) ?_
        refine lv_aload_n hx hb dX11_backOf_57 rfl (lv_at hl 2 rfl) ?_
        refine gX11_185 E h dX11_backOf_58 ?_
        refine lv_iload_n hx hb dX11_backOf_61 rfl (lv_at hl 1 rfl) ?_
        have h11 := hw.1
        have hw := hw.2
        refine aM_55 E h h11 dX11_backOf_62 ?_
        refine lv_iconst (v := 1) hx hb dX11_backOf_63 (by decide) ?_
        refine lv_aload_n hx hb dX11_backOf_64 rfl (lv_at hl 2 rfl) ?_
        refine gX11_131 E h dX11_backOf_65 ?_
        refine lv_iload_n hx hb dX11_backOf_68 rfl (lv_at hl 3 rfl) ?_
        have h12 := hw.1
        have hw := hw.2
        refine aM_38 E h h12 dX11_backOf_69 ?_
        refine lv_iadd hx hb dX11_backOf_70 ?_
        refine lv_icmp_ne (tgt := 79) hx hb dX11_backOf_71 (by decide) (fun c13 => ?_) (fun c13 => ?_)
        · have hw := hw.2 c13
          refine lv_aload_n hx hb dX11_backOf_79 rfl (lv_at hl 2 rfl) ?_
          refine gX11_185 E h dX11_backOf_80 ?_
          refine lv_iload_n hx hb dX11_backOf_83 rfl (lv_at hl 1 rfl) ?_
          have h14 := hw.1
          have hw := hw.2
          refine aM_55 E h h14 dX11_backOf_84 ?_
          refine lv_iconst (v := 2) hx hb dX11_backOf_85 (by decide) ?_
          refine lv_aload_n hx hb dX11_backOf_86 rfl (lv_at hl 2 rfl) ?_
          refine gX11_131 E h dX11_backOf_87 ?_
          refine lv_iload_n hx hb dX11_backOf_90 rfl (lv_at hl 3 rfl) ?_
          have h15 := hw.1
          have hw := hw.2
          refine aM_38 E h h15 dX11_backOf_91 ?_
          refine lv_isub hx hb dX11_backOf_92 ?_
          refine lv_icmp_ne (tgt := 101) hx hb dX11_backOf_93 (by decide) (fun c16 => ?_) (fun c16 => ?_)
          · have hw := hw.2 c16
            refine lv_bipush (v := 11) hx hb dX11_backOf_101 (by decide) ?_
            exact wkM_backOf_103 E _ _ _ _ _ _ _ _ _ h hw (lv_sub hl [2, 3, 1, 0] rfl)
          · have hw := hw.1 c16
            refine lv_bipush (v := 10) hx hb dX11_backOf_96 (by decide) ?_
            refine lv_goto (tgt := 103) hx hb dX11_backOf_98 (by decide) ?_
            exact wkM_backOf_103 E _ _ _ _ _ _ _ _ _ h hw (lv_sub hl [2, 3, 1, 0] rfl)
        · have hw := hw.1 c13
          refine lv_bipush (v := 9) hx hb dX11_backOf_74 (by decide) ?_
          refine lv_goto (tgt := 103) hx hb dX11_backOf_76 (by decide) ?_
          exact wkM_backOf_103 E _ _ _ _ _ _ _ _ _ h hw (lv_sub hl [2, 3, 1, 0] rfl)
    · have hw := hw.1 c6
      refine lv_iconst (v := 0) hx hb dX11_backOf_28 (by decide) ?_
      exact x_iret E h hw dX11_backOf_29

abbrev rM_goes : Room := { frames := 6, cells := 0, slots := 0, locals := 150 }
def wpM_goes (σ : MS) (x1 : Int32) (x2 : Int32) (x3 : Int32) (Post : Int32 → MS → Prop) : Prop := (x1 < 0 → Post ((-1)) σ) ∧ (¬ x1 < 0 → ((σ.1 53) ≤ x1 → Post ((-1)) σ) ∧ (¬ (σ.1 53) ≤ x1 → wpM_isDay σ x2 (fun r3 σ4 => (r3 = 0 → Post ((-1)) σ4) ∧ (¬ r3 = 0 → wpM_isKnown σ4 x3 (fun r6 σ7 => (r6 = 0 → Post ((-1)) σ7) ∧ (¬ r6 = 0 → wpM_judgesAll σ7 x3 (fun σ9 => wpM_backOf σ9 x1 x2 (fun r10 σ11 => Post r10 σ11))))))))
set_option maxHeartbeats 1000000 in
set_option maxRecDepth 20000 in
theorem cM_goes {l : Launch} {D : va_G} {cy : Nat → ClassId} {q : Nat → Nat} {σ : MS} {sz : Nat} {x1 : Int32} {x2 : Int32} {x3 : Int32} {Post : Int32 → MS → Prop} (hw : wpM_goes σ x1 x2 x3 Post) : Met l yX11_goes (Cond.code yX11_goes cX11_goes 4 (some .int) :: wsA) rM_goes (xPc D cy (MW q cy σ) sz [.ref (q 0), .int x1, .int x2, .int x3]) (va_Qi Post (xB D cy (MW q cy) (va_A (MW q cy σ) sz)) (va_A (MW q cy σ) sz)) 0 0 (va_A (MW q cy σ) sz) := by
  refine x_enter (own := RX11) (WW := MW q cy) (by decide) rfl (Nat.le_of_ble_eq_true rfl) ?_
  intro p e s m below meth c ls E h hl
  have hx := E.1
  have hb := E.2.1
  have hl : lv_has ls 4 [(0, .ref (q 0)), (1, .int x1), (2, .int x2), (3, .int x3)] := hl
  unfold wpM_goes at hw
  refine lv_iload_n hx hb dX11_goes_0 rfl (lv_at hl 1 rfl) ?_
  refine lv_if_lt (tgt := 27) hx hb dX11_goes_1 (by decide) (fun c1 => ?_) (fun c1 => ?_)
  · have hw := hw.1 c1
    refine lv_iconst (v := (-1)) hx hb dX11_goes_27 (by decide) ?_
    exact x_iret E h hw dX11_goes_28
  · have hw := hw.2 c1
    refine lv_iload_n hx hb dX11_goes_4 rfl (lv_at hl 1 rfl) ?_
    refine lv_aload_n hx hb dX11_goes_5 rfl (lv_at hl 0 rfl) ?_
    refine gX11_316 E h dX11_goes_6 ?_
    refine lv_icmp_ge (tgt := 27) hx hb dX11_goes_9 (by decide) (fun c2 => ?_) (fun c2 => ?_)
    · have hw := hw.1 c2
      refine lv_iconst (v := (-1)) hx hb dX11_goes_27 (by decide) ?_
      exact x_iret E h hw dX11_goes_28
    · have hw := hw.2 c2
      refine lv_iload_n hx hb dX11_goes_12 rfl (lv_at hl 2 rfl) ?_
      refine x_calli h (x_runS (WW := MW q cy) (rest := []) E h (cM_isDay hw) yyX11_isDay lX11_259 ⟨Nat.le_of_ble_eq_true rfl, Nat.le_of_ble_eq_true rfl⟩ rfl rfl hl.1 rfl (Nat.le_of_ble_eq_true rfl) dX11_goes_13 ⟨Nat.le_refl 0, Nat.le_refl 0⟩) (fun r3 σ4 H locs hw h => ?_)
      refine lv_if_eq (tgt := 27) hx hb dX11_goes_16 (by decide) (fun c5 => ?_) (fun c5 => ?_)
      · have hw := hw.1 c5
        refine lv_iconst (v := (-1)) hx hb dX11_goes_27 (by decide) ?_
        exact x_iret E h hw dX11_goes_28
      · have hw := hw.2 c5
        refine lv_aload_n hx hb dX11_goes_19 rfl (lv_at hl 0 rfl) ?_
        refine lv_iload_n hx hb dX11_goes_20 rfl (lv_at hl 3 rfl) ?_
        refine x_calli h (x_runV (WW := MW q cy) (rest := []) E h (cM_isKnown hw) yyX11_isKnown lX11_373 0 rfl rfl ⟨Nat.le_of_ble_eq_true rfl, Nat.le_of_ble_eq_true rfl⟩ rfl rfl hl.1 rfl (Nat.le_of_ble_eq_true rfl) dX11_goes_21 ⟨Nat.le_refl 0, Nat.le_refl 0⟩) (fun r6 σ7 H locs hw h => ?_)
        refine lv_if_ne (tgt := 29) hx hb dX11_goes_24 (by decide) (fun c8 => ?_) (fun c8 => ?_)
        · have hw := hw.2 c8
          refine lv_aload_n hx hb dX11_goes_29 rfl (lv_at hl 0 rfl) ?_
          refine lv_iload_n hx hb dX11_goes_30 rfl (lv_at hl 3 rfl) ?_
          refine x_callv h (x_runV (WW := MW q cy) (rest := []) E h (cM_judgesAll hw) yyX11_judgesAll lX11_376 0 rfl rfl ⟨Nat.le_of_ble_eq_true rfl, Nat.le_of_ble_eq_true rfl⟩ rfl rfl hl.1 rfl (Nat.le_of_ble_eq_true rfl) dX11_goes_31 ⟨Nat.le_refl 0, Nat.le_refl 0⟩) (fun σ9 H locs hw h => ?_)
          refine lv_aload_n hx hb dX11_goes_34 rfl (lv_at hl 0 rfl) ?_
          refine lv_iload_n hx hb dX11_goes_35 rfl (lv_at hl 1 rfl) ?_
          refine lv_iload_n hx hb dX11_goes_36 rfl (lv_at hl 2 rfl) ?_
          refine x_calli h (x_runV (WW := MW q cy) (rest := []) E h (cM_backOf hw) yyX11_backOf lX11_382 0 rfl rfl ⟨Nat.le_of_ble_eq_true rfl, Nat.le_of_ble_eq_true rfl⟩ rfl rfl hl.1 rfl (Nat.le_of_ble_eq_true rfl) dX11_goes_37 ⟨Nat.le_refl 0, Nat.le_refl 0⟩) (fun r10 σ11 H locs hw h => ?_)
          exact x_iret E h hw dX11_goes_40
        · have hw := hw.1 c8
          refine lv_iconst (v := (-1)) hx hb dX11_goes_27 (by decide) ?_
          exact x_iret E h hw dX11_goes_28

abbrev rM_owes : Room := { frames := 6, cells := 0, slots := 0, locals := 150 }
def wpM_owes_139 (K36 : MS → Int32 → Int32 → Int32 → Int32 → Prop) (Post : Int32 → MS → Prop) (σ : MS) (x1 : Int32) (x2 : Int32) (x5 : Int32) (t0 : Int32) (t1 : Int32) : Prop := ∀ y1 : Int32, y1 = t0 + t1 → ∀ y2 : Int32, y2 = x5 + 1 → K36 σ x1 x2 y1 y2
set_option maxHeartbeats 1000000 in
set_option maxRecDepth 20000 in
theorem wkM_owes_139 {Post : Int32 → MS → Prop} (E : xE cX11_owes RX11 8 (some .int) D cy p s m args meth c) {K36 : MS → Int32 → Int32 → Int32 → Int32 → Prop} (hK36 : ∀ (σ : MS) (x1 : Int32) (x2 : Int32) (x4 : Int32) (x5 : Int32) (H : Heap) (locs : List Loc) (ls : Array Slot), xH D A s (MW q cy σ) H locs → K36 σ x1 x2 x4 x5 → lv_has ls 8 [(0, .ref (q 0)), (1, .int x1), (2, .int x2), (4, .int x4), (5, .int x5)] → W p l e rM_owes s m args below meth c H locs 0 0 (MQ below (va_Qi Post (xB D cy (MW q cy) A) A) args s 0 0 A) (F0 m 36 ls [])) : ∀ (σ : MS) (x1 : Int32) (x2 : Int32) (x5 : Int32) (t0 : Int32) (t1 : Int32) (H : Heap) (locs : List Loc) (ls : Array Slot), xH D A s (MW q cy σ) H locs → wpM_owes_139 K36 Post σ x1 x2 x5 t0 t1 → lv_has ls 8 [(0, .ref (q 0)), (1, .int x1), (2, .int x2), (5, .int x5)] → W p l e rM_owes s m args below meth c H locs 0 0 (MQ below (va_Qi Post (xB D cy (MW q cy) A) A) args s 0 0 A) (F0 m 139 ls [.int t1, .int t0]) := by
  have hx := E.1
  have hb := E.2.1
  intro σ x1 x2 x5 t0 t1 H locs ls h hw hl
  unfold wpM_owes_139 at hw
  refine lv_iadd hx hb dX11_owes_139 ?_
  refine lv_topi (fun y1 ey1 => ?_)
  have hw := hw y1 ey1
  refine lv_istore (lv' := [(4, .int y1), (0, .ref (q 0)), (1, .int x1), (2, .int x2), (5, .int x5)]) hx hb dX11_owes_140 hl (by decide) rfl (fun ls hl => ?_)
  obtain ⟨y2, ey2⟩ : ∃ z : Int32, z = x5 + 1 := ⟨_, rfl⟩
  have hw := hw y2 ey2
  refine lv_iinc (v := y2) (lv' := [(5, .int y2), (4, .int y1), (0, .ref (q 0)), (1, .int x1), (2, .int x2)]) hx hb dX11_owes_142 hl (k := 4) rfl (by rw [ey2]; rfl) (by decide) rfl (fun ls hl => ?_)
  refine lv_goto (tgt := 36) hx hb dX11_owes_145 (by decide) ?_
  exact hK36 _ _ _ _ _ _ _ _ h hw (lv_sub hl [2, 3, 4, 1, 0] rfl)

def wpM_owes_112 (K36 : MS → Int32 → Int32 → Int32 → Int32 → Prop) (Post : Int32 → MS → Prop) (σ : MS) (x1 : Int32) (x2 : Int32) (x4 : Int32) (x5 : Int32) (t0 : Int32) : Prop := (t0 = 0 → wpM_backOf σ x5 x2 (fun r2 σ3 => wpM_owes_139 K36 Post σ3 x1 x2 x5 x4 r2)) ∧ (¬ t0 = 0 → wpM_backOf σ x5 x2 (fun r4 σ5 => wpM_owes_139 K36 Post σ5 x1 x2 x5 x4 (-r4)))
set_option maxHeartbeats 1000000 in
set_option maxRecDepth 20000 in
theorem wkM_owes_112 {Post : Int32 → MS → Prop} (E : xE cX11_owes RX11 8 (some .int) D cy p s m args meth c) {K36 : MS → Int32 → Int32 → Int32 → Int32 → Prop} (hK36 : ∀ (σ : MS) (x1 : Int32) (x2 : Int32) (x4 : Int32) (x5 : Int32) (H : Heap) (locs : List Loc) (ls : Array Slot), xH D A s (MW q cy σ) H locs → K36 σ x1 x2 x4 x5 → lv_has ls 8 [(0, .ref (q 0)), (1, .int x1), (2, .int x2), (4, .int x4), (5, .int x5)] → W p l e rM_owes s m args below meth c H locs 0 0 (MQ below (va_Qi Post (xB D cy (MW q cy) A) A) args s 0 0 A) (F0 m 36 ls [])) : ∀ (σ : MS) (x1 : Int32) (x2 : Int32) (x4 : Int32) (x5 : Int32) (t0 : Int32) (H : Heap) (locs : List Loc) (ls : Array Slot), xH D A s (MW q cy σ) H locs → wpM_owes_112 K36 Post σ x1 x2 x4 x5 t0 → lv_has ls 8 [(0, .ref (q 0)), (1, .int x1), (2, .int x2), (4, .int x4), (5, .int x5)] → W p l e rM_owes s m args below meth c H locs 0 0 (MQ below (va_Qi Post (xB D cy (MW q cy) A) A) args s 0 0 A) (F0 m 112 ls [.int t0]) := by
  have hx := E.1
  have hb := E.2.1
  intro σ x1 x2 x4 x5 t0 H locs ls h hw hl
  unfold wpM_owes_112 at hw
  refine lv_istore (lv' := [(7, .int t0), (0, .ref (q 0)), (1, .int x1), (2, .int x2), (4, .int x4), (5, .int x5)]) hx hb dX11_owes_112 hl (by decide) rfl (fun ls hl => ?_)
  refine lv_iload hx hb dX11_owes_114 (lv_at hl 4 rfl) ?_
  refine lv_iload hx hb dX11_owes_116 (lv_at hl 0 rfl) ?_
  refine lv_if_eq (tgt := 132) hx hb dX11_owes_118 (by decide) (fun c1 => ?_) (fun c1 => ?_)
  · have hw := hw.1 c1
    refine lv_aload_n hx hb dX11_owes_132 rfl (lv_at hl 1 rfl) ?_
    refine lv_iload hx hb dX11_owes_133 (lv_at hl 5 rfl) ?_
    refine lv_iload_n hx hb dX11_owes_135 rfl (lv_at hl 3 rfl) ?_
    refine x_calli h (x_runV (WW := MW q cy) (rest := [.int x4]) E h (cM_backOf hw) yyX11_backOf lX11_382 0 rfl rfl ⟨Nat.le_of_ble_eq_true rfl, Nat.le_of_ble_eq_true rfl⟩ rfl rfl hl.1 rfl (Nat.le_of_ble_eq_true rfl) dX11_owes_136 ⟨Nat.le_refl 0, Nat.le_refl 0⟩) (fun r2 σ3 H locs hw h => ?_)
    exact wkM_owes_139 E hK36 _ _ _ _ _ _ _ _ _ h hw (lv_sub hl [1, 2, 3, 5] rfl)
  · have hw := hw.2 c1
    refine lv_aload_n hx hb dX11_owes_121 rfl (lv_at hl 1 rfl) ?_
    refine lv_iload hx hb dX11_owes_122 (lv_at hl 5 rfl) ?_
    refine lv_iload_n hx hb dX11_owes_124 rfl (lv_at hl 3 rfl) ?_
    refine x_calli h (x_runV (WW := MW q cy) (rest := [.int x4]) E h (cM_backOf hw) yyX11_backOf lX11_382 0 rfl rfl ⟨Nat.le_of_ble_eq_true rfl, Nat.le_of_ble_eq_true rfl⟩ rfl rfl hl.1 rfl (Nat.le_of_ble_eq_true rfl) dX11_owes_125 ⟨Nat.le_refl 0, Nat.le_refl 0⟩) (fun r4 σ5 H locs hw h => ?_)
    refine lv_ineg hx hb dX11_owes_128 ?_
    refine lv_goto (tgt := 139) hx hb dX11_owes_129 (by decide) ?_
    exact wkM_owes_139 E hK36 _ _ _ _ _ _ _ _ _ h hw (lv_sub hl [1, 2, 3, 5] rfl)

def wpM_owes_36 (Post : Int32 → MS → Prop) : Nat → MS → Int32 → Int32 → Int32 → Int32 → Prop
  | 0, _, _, _, _, _ => False
  | n + 1, σ, x1, x2, x4, x5 => ((σ.1 53) ≤ x5 → Post x4 σ) ∧ (¬ (σ.1 53) ≤ x5 → vp_in x5 20 ∧ ∀ y3 : Int32, y3 = σ.2.1 37 x5.toNatClampNeg → wpM_isIn σ x1 y3 (fun r4 σ5 => (r4 = 0 → ∀ y13 : Int32, y13 = x5 + 1 → wpM_owes_36 Post n σ5 x1 x2 x4 y13) ∧ (¬ r4 = 0 → vp_in x5 20 ∧ ((σ5.2.1 38 x5.toNatClampNeg) = 0 → vp_in y3 10 ∧ ((σ5.2.1 31 y3.toNatClampNeg) = x1 → wpM_owes_112 (fun a0 a1 a2 a3 a4 => wpM_owes_36 Post n a0 a1 a2 a3 a4) Post σ5 x1 x2 x4 x5 1) ∧ (¬ (σ5.2.1 31 y3.toNatClampNeg) = x1 → wpM_owes_112 (fun a0 a1 a2 a3 a4 => wpM_owes_36 Post n a0 a1 a2 a3 a4) Post σ5 x1 x2 x4 x5 0)) ∧ (¬ (σ5.2.1 38 x5.toNatClampNeg) = 0 → vp_in y3 10 ∧ ((σ5.2.1 32 y3.toNatClampNeg) = x1 → wpM_owes_112 (fun a0 a1 a2 a3 a4 => wpM_owes_36 Post n a0 a1 a2 a3 a4) Post σ5 x1 x2 x4 x5 1) ∧ (¬ (σ5.2.1 32 y3.toNatClampNeg) = x1 → wpM_owes_112 (fun a0 a1 a2 a3 a4 => wpM_owes_36 Post n a0 a1 a2 a3 a4) Post σ5 x1 x2 x4 x5 0)))))
set_option maxHeartbeats 1000000 in
set_option maxRecDepth 20000 in
theorem wkM_owes_36 {Post : Int32 → MS → Prop} (E : xE cX11_owes RX11 8 (some .int) D cy p s m args meth c) : ∀ n : Nat, ∀ (σ : MS) (x1 : Int32) (x2 : Int32) (x4 : Int32) (x5 : Int32) (H : Heap) (locs : List Loc) (ls : Array Slot), xH D A s (MW q cy σ) H locs → wpM_owes_36 Post n σ x1 x2 x4 x5 → lv_has ls 8 [(0, .ref (q 0)), (1, .int x1), (2, .int x2), (4, .int x4), (5, .int x5)] → W p l e rM_owes s m args below meth c H locs 0 0 (MQ below (va_Qi Post (xB D cy (MW q cy) A) A) args s 0 0 A) (F0 m 36 ls []) := by
  have hx := E.1
  have hb := E.2.1
  intro n
  induction n with
  | zero => intro σ x1 x2 x4 x5 H locs ls h hw hl; exact False.elim hw
  | succ n ih =>
    intro σ x1 x2 x4 x5 H locs ls h hw hl
    refine lv_iload hx hb dX11_owes_36 (lv_at hl 4 rfl) ?_
    refine lv_aload_n hx hb dX11_owes_38 rfl (lv_at hl 0 rfl) ?_
    refine gX11_316 E h dX11_owes_39 ?_
    refine lv_icmp_ge (tgt := 148) hx hb dX11_owes_42 (by decide) (fun c1 => ?_) (fun c1 => ?_)
    · have hw := hw.1 c1
      refine lv_iload hx hb dX11_owes_148 (lv_at hl 3 rfl) ?_
      exact x_iret E h hw dX11_owes_150
    · have hw := hw.2 c1
      refine lv_aload_n hx hb dX11_owes_45 rfl (lv_at hl 0 rfl) ?_
      refine gX11_128 E h dX11_owes_46 ?_
      refine lv_iload hx hb dX11_owes_49 (lv_at hl 4 rfl) ?_
      have h2 := hw.1
      have hw := hw.2
      refine aM_37 E h h2 dX11_owes_51 ?_
      refine lv_topi (fun y3 ey3 => ?_)
      have hw := hw y3 ey3
      refine lv_istore (lv' := [(6, .int y3), (0, .ref (q 0)), (1, .int x1), (2, .int x2), (4, .int x4), (5, .int x5)]) hx hb dX11_owes_52 hl (by decide) rfl (fun ls hl => ?_)
      refine lv_aload_n hx hb dX11_owes_54 rfl (lv_at hl 1 rfl) ?_
      refine lv_iload_n hx hb dX11_owes_55 rfl (lv_at hl 2 rfl) ?_
      refine lv_iload hx hb dX11_owes_56 (lv_at hl 0 rfl) ?_
      refine x_calli h (x_runV (WW := MW q cy) (rest := []) E h (cM_isIn hw) yyX11_isIn lX11_352 0 rfl rfl ⟨Nat.le_of_ble_eq_true rfl, Nat.le_of_ble_eq_true rfl⟩ rfl rfl hl.1 rfl (Nat.le_of_ble_eq_true rfl) dX11_owes_58 ⟨Nat.le_refl 0, Nat.le_refl 0⟩) (fun r4 σ5 H locs hw h => ?_)
      refine lv_if_ne (tgt := 67) hx hb dX11_owes_61 (by decide) (fun c6 => ?_) (fun c6 => ?_)
      · have hw := hw.2 c6
        refine lv_aload_n hx hb dX11_owes_67 rfl (lv_at hl 1 rfl) ?_
        refine gX11_131 E h dX11_owes_68 ?_
        refine lv_iload hx hb dX11_owes_71 (lv_at hl 5 rfl) ?_
        have h7 := hw.1
        have hw := hw.2
        refine aM_38 E h h7 dX11_owes_73 ?_
        refine lv_if_ne (tgt := 96) hx hb dX11_owes_74 (by decide) (fun c8 => ?_) (fun c8 => ?_)
        · have hw := hw.2 c8
          refine lv_aload_n hx hb dX11_owes_96 rfl (lv_at hl 1 rfl) ?_
          refine gX11_113 E h dX11_owes_97 ?_
          refine lv_iload hx hb dX11_owes_100 (lv_at hl 0 rfl) ?_
          have h9 := hw.1
          have hw := hw.2
          refine aM_32 E h h9 dX11_owes_102 ?_
          refine lv_iload_n hx hb dX11_owes_103 rfl (lv_at hl 2 rfl) ?_
          refine lv_icmp_ne (tgt := 111) hx hb dX11_owes_104 (by decide) (fun c10 => ?_) (fun c10 => ?_)
          · have hw := hw.2 c10
            refine lv_iconst (v := 0) hx hb dX11_owes_111 (by decide) ?_
            exact wkM_owes_112 E ih _ _ _ _ _ _ _ _ _ h hw (lv_sub hl [1, 2, 3, 4, 5] rfl)
          · have hw := hw.1 c10
            refine lv_iconst (v := 1) hx hb dX11_owes_107 (by decide) ?_
            refine lv_goto (tgt := 112) hx hb dX11_owes_108 (by decide) ?_
            exact wkM_owes_112 E ih _ _ _ _ _ _ _ _ _ h hw (lv_sub hl [1, 2, 3, 4, 5] rfl)
        · have hw := hw.1 c8
          refine lv_aload_n hx hb dX11_owes_77 rfl (lv_at hl 1 rfl) ?_
          refine gX11_110 E h dX11_owes_78 ?_
          refine lv_iload hx hb dX11_owes_81 (lv_at hl 0 rfl) ?_
          have h11 := hw.1
          have hw := hw.2
          refine aM_31 E h h11 dX11_owes_83 ?_
          refine lv_iload_n hx hb dX11_owes_84 rfl (lv_at hl 2 rfl) ?_
          refine lv_icmp_ne (tgt := 92) hx hb dX11_owes_85 (by decide) (fun c12 => ?_) (fun c12 => ?_)
          · have hw := hw.2 c12
            refine lv_iconst (v := 0) hx hb dX11_owes_92 (by decide) ?_
            refine lv_goto (tgt := 112) hx hb dX11_owes_93 (by decide) ?_
            exact wkM_owes_112 E ih _ _ _ _ _ _ _ _ _ h hw (lv_sub hl [1, 2, 3, 4, 5] rfl)
          · have hw := hw.1 c12
            refine lv_iconst (v := 1) hx hb dX11_owes_88 (by decide) ?_
            refine lv_goto (tgt := 112) hx hb dX11_owes_89 (by decide) ?_
            exact wkM_owes_112 E ih _ _ _ _ _ _ _ _ _ h hw (lv_sub hl [1, 2, 3, 4, 5] rfl)
      · have hw := hw.1 c6
        refine lv_goto (tgt := 142) hx hb dX11_owes_64 (by decide) ?_
        obtain ⟨y13, ey13⟩ : ∃ z : Int32, z = x5 + 1 := ⟨_, rfl⟩
        have hw := hw y13 ey13
        refine lv_iinc (v := y13) (lv' := [(5, .int y13), (6, .int y3), (0, .ref (q 0)), (1, .int x1), (2, .int x2), (4, .int x4)]) hx hb dX11_owes_142 hl (k := 5) rfl (by rw [ey13]; rfl) (by decide) rfl (fun ls hl => ?_)
        refine lv_goto (tgt := 36) hx hb dX11_owes_145 (by decide) ?_
        exact ih _ _ _ _ _ _ _ _ h hw (lv_sub hl [2, 3, 4, 5, 0] rfl)

def wpM_owes (σ : MS) (x1 : Int32) (x2 : Int32) (x3 : Int32) (Post : Int32 → MS → Prop) : Prop := wpM_isPerson σ x1 (fun r1 σ2 => (r1 = 0 → Post 0 σ2) ∧ (¬ r1 = 0 → wpM_isDay σ2 x2 (fun r4 σ5 => (r4 = 0 → Post 0 σ5) ∧ (¬ r4 = 0 → wpM_isKnown σ5 x3 (fun r7 σ8 => (r7 = 0 → Post 0 σ8) ∧ (¬ r7 = 0 → wpM_judgesAll σ8 x3 (fun σ10 => ∃ g, wpM_owes_36 Post g σ10 x1 x2 0 0)))))))
set_option maxHeartbeats 1000000 in
set_option maxRecDepth 20000 in
theorem cM_owes {l : Launch} {D : va_G} {cy : Nat → ClassId} {q : Nat → Nat} {σ : MS} {sz : Nat} {x1 : Int32} {x2 : Int32} {x3 : Int32} {Post : Int32 → MS → Prop} (hw : wpM_owes σ x1 x2 x3 Post) : Met l yX11_owes (Cond.code yX11_owes cX11_owes 8 (some .int) :: wsA) rM_owes (xPc D cy (MW q cy σ) sz [.ref (q 0), .int x1, .int x2, .int x3]) (va_Qi Post (xB D cy (MW q cy) (va_A (MW q cy σ) sz)) (va_A (MW q cy σ) sz)) 0 0 (va_A (MW q cy σ) sz) := by
  refine x_enter (own := RX11) (WW := MW q cy) (by decide) rfl (Nat.le_of_ble_eq_true rfl) ?_
  intro p e s m below meth c ls E h hl
  have hx := E.1
  have hb := E.2.1
  have hl : lv_has ls 8 [(0, .ref (q 0)), (1, .int x1), (2, .int x2), (3, .int x3)] := hl
  unfold wpM_owes at hw
  refine lv_aload_n hx hb dX11_owes_0 rfl (lv_at hl 0 rfl) ?_
  refine lv_iload_n hx hb dX11_owes_1 rfl (lv_at hl 1 rfl) ?_
  refine x_calli h (x_runV (WW := MW q cy) (rest := []) E h (cM_isPerson hw) yyX11_isPerson lX11_303 0 rfl rfl ⟨Nat.le_of_ble_eq_true rfl, Nat.le_of_ble_eq_true rfl⟩ rfl rfl hl.1 rfl (Nat.le_of_ble_eq_true rfl) dX11_owes_2 ⟨Nat.le_refl 0, Nat.le_refl 0⟩) (fun r1 σ2 H locs hw h => ?_)
  refine lv_if_eq (tgt := 23) hx hb dX11_owes_5 (by decide) (fun c3 => ?_) (fun c3 => ?_)
  · have hw := hw.1 c3
    refine lv_iconst (v := 0) hx hb dX11_owes_23 (by decide) ?_
    exact x_iret E h hw dX11_owes_24
  · have hw := hw.2 c3
    refine lv_iload_n hx hb dX11_owes_8 rfl (lv_at hl 2 rfl) ?_
    refine x_calli h (x_runS (WW := MW q cy) (rest := []) E h (cM_isDay hw) yyX11_isDay lX11_259 ⟨Nat.le_of_ble_eq_true rfl, Nat.le_of_ble_eq_true rfl⟩ rfl rfl hl.1 rfl (Nat.le_of_ble_eq_true rfl) dX11_owes_9 ⟨Nat.le_refl 0, Nat.le_refl 0⟩) (fun r4 σ5 H locs hw h => ?_)
    refine lv_if_eq (tgt := 23) hx hb dX11_owes_12 (by decide) (fun c6 => ?_) (fun c6 => ?_)
    · have hw := hw.1 c6
      refine lv_iconst (v := 0) hx hb dX11_owes_23 (by decide) ?_
      exact x_iret E h hw dX11_owes_24
    · have hw := hw.2 c6
      refine lv_aload_n hx hb dX11_owes_15 rfl (lv_at hl 0 rfl) ?_
      refine lv_iload_n hx hb dX11_owes_16 rfl (lv_at hl 3 rfl) ?_
      refine x_calli h (x_runV (WW := MW q cy) (rest := []) E h (cM_isKnown hw) yyX11_isKnown lX11_373 0 rfl rfl ⟨Nat.le_of_ble_eq_true rfl, Nat.le_of_ble_eq_true rfl⟩ rfl rfl hl.1 rfl (Nat.le_of_ble_eq_true rfl) dX11_owes_17 ⟨Nat.le_refl 0, Nat.le_refl 0⟩) (fun r7 σ8 H locs hw h => ?_)
      refine lv_if_ne (tgt := 25) hx hb dX11_owes_20 (by decide) (fun c9 => ?_) (fun c9 => ?_)
      · have hw := hw.2 c9
        refine lv_aload_n hx hb dX11_owes_25 rfl (lv_at hl 0 rfl) ?_
        refine lv_iload_n hx hb dX11_owes_26 rfl (lv_at hl 3 rfl) ?_
        refine x_callv h (x_runV (WW := MW q cy) (rest := []) E h (cM_judgesAll hw) yyX11_judgesAll lX11_376 0 rfl rfl ⟨Nat.le_of_ble_eq_true rfl, Nat.le_of_ble_eq_true rfl⟩ rfl rfl hl.1 rfl (Nat.le_of_ble_eq_true rfl) dX11_owes_27 ⟨Nat.le_refl 0, Nat.le_refl 0⟩) (fun σ10 H locs hw h => ?_)
        refine lv_iconst (v := 0) hx hb dX11_owes_30 (by decide) ?_
        refine lv_istore (lv' := [(4, .int 0), (0, .ref (q 0)), (1, .int x1), (2, .int x2), (3, .int x3)]) hx hb dX11_owes_31 hl (by decide) rfl (fun ls hl => ?_)
        refine lv_iconst (v := 0) hx hb dX11_owes_33 (by decide) ?_
        refine lv_istore (lv' := [(5, .int 0), (4, .int 0), (0, .ref (q 0)), (1, .int x1), (2, .int x2), (3, .int x3)]) hx hb dX11_owes_34 hl (by decide) rfl (fun ls hl => ?_)
        obtain ⟨g, hw⟩ := hw
        exact wkM_owes_36 E g _ _ _ _ _ _ _ _ h hw (lv_sub hl [2, 3, 4, 1, 0] rfl)
      · have hw := hw.1 c9
        refine lv_iconst (v := 0) hx hb dX11_owes_23 (by decide) ?_
        exact x_iret E h hw dX11_owes_24

abbrev rM_changed : Room := { frames := 6, cells := 0, slots := 0, locals := 150 }
def wpM_changed_70 (Post : Int32 → MS → Prop) : Nat → MS → Int32 → Int32 → Prop
  | 0, _, _, _ => False
  | n + 1, σ, x1, x4 => ((σ.1 46) ≤ x4 → Post ((-1)) σ) ∧ (¬ (σ.1 46) ≤ x4 → wpM_stateOf σ x4 x1 (fun r2 σ3 => vp_in x4 10 ∧ (r2 = (σ3.2.1 57 x4.toNatClampNeg) → ∀ y6 : Int32, y6 = x4 + 1 → wpM_changed_70 Post n σ3 x1 y6) ∧ (¬ r2 = (σ3.2.1 57 x4.toNatClampNeg) → Post x4 σ3)))
set_option maxHeartbeats 1000000 in
set_option maxRecDepth 20000 in
theorem wkM_changed_70 {Post : Int32 → MS → Prop} (E : xE cX11_changed RX11 5 (some .int) D cy p s m args meth c) : ∀ n : Nat, ∀ (σ : MS) (x1 : Int32) (x4 : Int32) (H : Heap) (locs : List Loc) (ls : Array Slot), xH D A s (MW q cy σ) H locs → wpM_changed_70 Post n σ x1 x4 → lv_has ls 5 [(0, .ref (q 0)), (1, .int x1), (4, .int x4)] → W p l e rM_changed s m args below meth c H locs 0 0 (MQ below (va_Qi Post (xB D cy (MW q cy) A) A) args s 0 0 A) (F0 m 70 ls []) := by
  have hx := E.1
  have hb := E.2.1
  intro n
  induction n with
  | zero => intro σ x1 x4 H locs ls h hw hl; exact False.elim hw
  | succ n ih =>
    intro σ x1 x4 H locs ls h hw hl
    refine lv_iload hx hb dX11_changed_70 (lv_at hl 2 rfl) ?_
    refine lv_aload_n hx hb dX11_changed_72 rfl (lv_at hl 0 rfl) ?_
    refine gX11_310 E h dX11_changed_73 ?_
    refine lv_icmp_ge (tgt := 105) hx hb dX11_changed_76 (by decide) (fun c1 => ?_) (fun c1 => ?_)
    · have hw := hw.1 c1
      refine lv_iconst (v := (-1)) hx hb dX11_changed_105 (by decide) ?_
      exact x_iret E h hw dX11_changed_106
    · have hw := hw.2 c1
      refine lv_aload_n hx hb dX11_changed_79 rfl (lv_at hl 0 rfl) ?_
      refine lv_iload hx hb dX11_changed_80 (lv_at hl 2 rfl) ?_
      refine lv_iload_n hx hb dX11_changed_82 rfl (lv_at hl 1 rfl) ?_
      refine x_calli h (x_runV (WW := MW q cy) (rest := []) E h (cM_stateOf hw) yyX11_stateOf lX11_379 0 rfl rfl ⟨Nat.le_of_ble_eq_true rfl, Nat.le_of_ble_eq_true rfl⟩ rfl rfl hl.1 rfl (Nat.le_of_ble_eq_true rfl) dX11_changed_83 ⟨Nat.le_refl 0, Nat.le_refl 0⟩) (fun r2 σ3 H locs hw h => ?_)
      refine lv_aload_n hx hb dX11_changed_86 rfl (lv_at hl 0 rfl) ?_
      refine gX11_191 E h dX11_changed_87 ?_
      refine lv_iload hx hb dX11_changed_90 (lv_at hl 2 rfl) ?_
      have h4 := hw.1
      have hw := hw.2
      refine aM_57 E h h4 dX11_changed_92 ?_
      refine lv_icmp_eq (tgt := 99) hx hb dX11_changed_93 (by decide) (fun c5 => ?_) (fun c5 => ?_)
      · have hw := hw.1 c5
        obtain ⟨y6, ey6⟩ : ∃ z : Int32, z = x4 + 1 := ⟨_, rfl⟩
        have hw := hw y6 ey6
        refine lv_iinc (v := y6) (lv' := [(4, .int y6), (0, .ref (q 0)), (1, .int x1)]) hx hb dX11_changed_99 hl (k := 2) rfl (by rw [ey6]; rfl) (by decide) rfl (fun ls hl => ?_)
        refine lv_goto (tgt := 70) hx hb dX11_changed_102 (by decide) ?_
        exact ih _ _ _ _ _ _ h hw (lv_sub hl [1, 2, 0] rfl)
      · have hw := hw.2 c5
        refine lv_iload hx hb dX11_changed_96 (lv_at hl 2 rfl) ?_
        exact x_iret E h hw dX11_changed_98

def wpM_changed_33 (Post : Int32 → MS → Prop) : Nat → MS → Int32 → Int32 → Int32 → Prop
  | 0, _, _, _, _ => False
  | n + 1, σ, x1, x3, x4 => ((σ.1 46) ≤ x4 → wpM_judgesAll σ x3 (fun σ2 => ∃ g, wpM_changed_70 Post g σ2 x1 0)) ∧ (¬ (σ.1 46) ≤ x4 → wpM_stateOf σ x4 x1 (fun r3 σ4 => vp_in x4 10 ∧ ∀ σ5 : MS, σ5 = mA σ4 57 (upd (σ4.2.1 57) x4.toNatClampNeg r3) → ∀ y7 : Int32, y7 = x4 + 1 → wpM_changed_33 Post n σ5 x1 x3 y7))
set_option maxHeartbeats 1000000 in
set_option maxRecDepth 20000 in
theorem wkM_changed_33 {Post : Int32 → MS → Prop} (E : xE cX11_changed RX11 5 (some .int) D cy p s m args meth c) : ∀ n : Nat, ∀ (σ : MS) (x1 : Int32) (x3 : Int32) (x4 : Int32) (H : Heap) (locs : List Loc) (ls : Array Slot), xH D A s (MW q cy σ) H locs → wpM_changed_33 Post n σ x1 x3 x4 → lv_has ls 5 [(0, .ref (q 0)), (1, .int x1), (3, .int x3), (4, .int x4)] → W p l e rM_changed s m args below meth c H locs 0 0 (MQ below (va_Qi Post (xB D cy (MW q cy) A) A) args s 0 0 A) (F0 m 33 ls []) := by
  have hx := E.1
  have hb := E.2.1
  intro n
  induction n with
  | zero => intro σ x1 x3 x4 H locs ls h hw hl; exact False.elim hw
  | succ n ih =>
    intro σ x1 x3 x4 H locs ls h hw hl
    refine lv_iload hx hb dX11_changed_33 (lv_at hl 3 rfl) ?_
    refine lv_aload_n hx hb dX11_changed_35 rfl (lv_at hl 0 rfl) ?_
    refine gX11_310 E h dX11_changed_36 ?_
    refine lv_icmp_ge (tgt := 62) hx hb dX11_changed_39 (by decide) (fun c1 => ?_) (fun c1 => ?_)
    · have hw := hw.1 c1
      refine lv_aload_n hx hb dX11_changed_62 rfl (lv_at hl 0 rfl) ?_
      refine lv_iload_n hx hb dX11_changed_63 rfl (lv_at hl 2 rfl) ?_
      refine x_callv h (x_runV (WW := MW q cy) (rest := []) E h (cM_judgesAll hw) yyX11_judgesAll lX11_376 0 rfl rfl ⟨Nat.le_of_ble_eq_true rfl, Nat.le_of_ble_eq_true rfl⟩ rfl rfl hl.1 rfl (Nat.le_of_ble_eq_true rfl) dX11_changed_64 ⟨Nat.le_refl 0, Nat.le_refl 0⟩) (fun σ2 H locs hw h => ?_)
      refine lv_iconst (v := 0) hx hb dX11_changed_67 (by decide) ?_
      refine lv_istore (lv' := [(4, .int 0), (0, .ref (q 0)), (1, .int x1), (3, .int x3)]) hx hb dX11_changed_68 hl (by decide) rfl (fun ls hl => ?_)
      obtain ⟨g, hw⟩ := hw
      exact wkM_changed_70 E g _ _ _ _ _ _ h hw (lv_sub hl [1, 2, 0] rfl)
    · have hw := hw.2 c1
      refine lv_aload_n hx hb dX11_changed_42 rfl (lv_at hl 0 rfl) ?_
      refine gX11_191 E h dX11_changed_43 ?_
      refine lv_iload hx hb dX11_changed_46 (lv_at hl 3 rfl) ?_
      refine lv_aload_n hx hb dX11_changed_48 rfl (lv_at hl 0 rfl) ?_
      refine lv_iload hx hb dX11_changed_49 (lv_at hl 3 rfl) ?_
      refine lv_iload_n hx hb dX11_changed_51 rfl (lv_at hl 1 rfl) ?_
      refine x_calli h (x_runV (WW := MW q cy) (rest := [.int x4, .ref (q 57)]) E h (cM_stateOf hw) yyX11_stateOf lX11_379 0 rfl rfl ⟨Nat.le_of_ble_eq_true rfl, Nat.le_of_ble_eq_true rfl⟩ rfl rfl hl.1 rfl (Nat.le_of_ble_eq_true rfl) dX11_changed_52 ⟨Nat.le_refl 0, Nat.le_refl 0⟩) (fun r3 σ4 H locs hw h => ?_)
      have h6 := hw.1
      have hw := hw.2
      refine sM_57 E h h6 dX11_changed_55 (fun σ5 H locs eσ5 h => ?_)
      have hw := hw σ5 eσ5
      obtain ⟨y7, ey7⟩ : ∃ z : Int32, z = x4 + 1 := ⟨_, rfl⟩
      have hw := hw y7 ey7
      refine lv_iinc (v := y7) (lv' := [(4, .int y7), (0, .ref (q 0)), (1, .int x1), (3, .int x3)]) hx hb dX11_changed_56 hl (k := 3) rfl (by rw [ey7]; rfl) (by decide) rfl (fun ls hl => ?_)
      refine lv_goto (tgt := 33) hx hb dX11_changed_59 (by decide) ?_
      exact ih _ _ _ _ _ _ _ h hw (lv_sub hl [1, 2, 3, 0] rfl)

def wpM_changed (σ : MS) (x1 : Int32) (x2 : Int32) (x3 : Int32) (Post : Int32 → MS → Prop) : Prop := wpM_isDay σ x1 (fun r1 σ2 => (r1 = 0 → Post ((-1)) σ2) ∧ (¬ r1 = 0 → wpM_isKnown σ2 x2 (fun r4 σ5 => (r4 = 0 → Post ((-1)) σ5) ∧ (¬ r4 = 0 → wpM_isKnown σ5 x3 (fun r7 σ8 => (r7 = 0 → Post ((-1)) σ8) ∧ (¬ r7 = 0 → wpM_judgesAll σ8 x2 (fun σ10 => ∃ g, wpM_changed_33 Post g σ10 x1 x3 0)))))))
set_option maxHeartbeats 1000000 in
set_option maxRecDepth 20000 in
theorem cM_changed {l : Launch} {D : va_G} {cy : Nat → ClassId} {q : Nat → Nat} {σ : MS} {sz : Nat} {x1 : Int32} {x2 : Int32} {x3 : Int32} {Post : Int32 → MS → Prop} (hw : wpM_changed σ x1 x2 x3 Post) : Met l yX11_changed (Cond.code yX11_changed cX11_changed 5 (some .int) :: wsA) rM_changed (xPc D cy (MW q cy σ) sz [.ref (q 0), .int x1, .int x2, .int x3]) (va_Qi Post (xB D cy (MW q cy) (va_A (MW q cy σ) sz)) (va_A (MW q cy σ) sz)) 0 0 (va_A (MW q cy σ) sz) := by
  refine x_enter (own := RX11) (WW := MW q cy) (by decide) rfl (Nat.le_of_ble_eq_true rfl) ?_
  intro p e s m below meth c ls E h hl
  have hx := E.1
  have hb := E.2.1
  have hl : lv_has ls 5 [(0, .ref (q 0)), (1, .int x1), (2, .int x2), (3, .int x3)] := hl
  unfold wpM_changed at hw
  refine lv_iload_n hx hb dX11_changed_0 rfl (lv_at hl 1 rfl) ?_
  refine x_calli h (x_runS (WW := MW q cy) (rest := []) E h (cM_isDay hw) yyX11_isDay lX11_259 ⟨Nat.le_of_ble_eq_true rfl, Nat.le_of_ble_eq_true rfl⟩ rfl rfl hl.1 rfl (Nat.le_of_ble_eq_true rfl) dX11_changed_1 ⟨Nat.le_refl 0, Nat.le_refl 0⟩) (fun r1 σ2 H locs hw h => ?_)
  refine lv_if_eq (tgt := 23) hx hb dX11_changed_4 (by decide) (fun c3 => ?_) (fun c3 => ?_)
  · have hw := hw.1 c3
    refine lv_iconst (v := (-1)) hx hb dX11_changed_23 (by decide) ?_
    exact x_iret E h hw dX11_changed_24
  · have hw := hw.2 c3
    refine lv_aload_n hx hb dX11_changed_7 rfl (lv_at hl 0 rfl) ?_
    refine lv_iload_n hx hb dX11_changed_8 rfl (lv_at hl 2 rfl) ?_
    refine x_calli h (x_runV (WW := MW q cy) (rest := []) E h (cM_isKnown hw) yyX11_isKnown lX11_373 0 rfl rfl ⟨Nat.le_of_ble_eq_true rfl, Nat.le_of_ble_eq_true rfl⟩ rfl rfl hl.1 rfl (Nat.le_of_ble_eq_true rfl) dX11_changed_9 ⟨Nat.le_refl 0, Nat.le_refl 0⟩) (fun r4 σ5 H locs hw h => ?_)
    refine lv_if_eq (tgt := 23) hx hb dX11_changed_12 (by decide) (fun c6 => ?_) (fun c6 => ?_)
    · have hw := hw.1 c6
      refine lv_iconst (v := (-1)) hx hb dX11_changed_23 (by decide) ?_
      exact x_iret E h hw dX11_changed_24
    · have hw := hw.2 c6
      refine lv_aload_n hx hb dX11_changed_15 rfl (lv_at hl 0 rfl) ?_
      refine lv_iload_n hx hb dX11_changed_16 rfl (lv_at hl 3 rfl) ?_
      refine x_calli h (x_runV (WW := MW q cy) (rest := []) E h (cM_isKnown hw) yyX11_isKnown lX11_373 0 rfl rfl ⟨Nat.le_of_ble_eq_true rfl, Nat.le_of_ble_eq_true rfl⟩ rfl rfl hl.1 rfl (Nat.le_of_ble_eq_true rfl) dX11_changed_17 ⟨Nat.le_refl 0, Nat.le_refl 0⟩) (fun r7 σ8 H locs hw h => ?_)
      refine lv_if_ne (tgt := 25) hx hb dX11_changed_20 (by decide) (fun c9 => ?_) (fun c9 => ?_)
      · have hw := hw.2 c9
        refine lv_aload_n hx hb dX11_changed_25 rfl (lv_at hl 0 rfl) ?_
        refine lv_iload_n hx hb dX11_changed_26 rfl (lv_at hl 2 rfl) ?_
        refine x_callv h (x_runV (WW := MW q cy) (rest := []) E h (cM_judgesAll hw) yyX11_judgesAll lX11_376 0 rfl rfl ⟨Nat.le_of_ble_eq_true rfl, Nat.le_of_ble_eq_true rfl⟩ rfl rfl hl.1 rfl (Nat.le_of_ble_eq_true rfl) dX11_changed_27 ⟨Nat.le_refl 0, Nat.le_refl 0⟩) (fun σ10 H locs hw h => ?_)
        refine lv_iconst (v := 0) hx hb dX11_changed_30 (by decide) ?_
        refine lv_istore (lv' := [(4, .int 0), (0, .ref (q 0)), (1, .int x1), (2, .int x2), (3, .int x3)]) hx hb dX11_changed_31 hl (by decide) rfl (fun ls hl => ?_)
        obtain ⟨g, hw⟩ := hw
        exact wkM_changed_33 E g _ _ _ _ _ _ _ h hw (lv_sub hl [1, 2, 4, 0] rfl)
      · have hw := hw.1 c9
        refine lv_iconst (v := (-1)) hx hb dX11_changed_23 (by decide) ?_
        exact x_iret E h hw dX11_changed_24

abbrev rM_count : Room := { frames := 0, cells := 0, slots := 0, locals := 0 }
def wpM_count (σ : MS) (x1 : Int32) (Post : Int32 → MS → Prop) : Prop := (x1 = 0 → Post (σ.1 40) σ) ∧ (x1 = 1 → Post (σ.1 46) σ) ∧ (x1 = 2 → Post (σ.1 53) σ) ∧ (x1 = 3 → Post (σ.1 57) σ) ∧ (x1 = 4 → Post (σ.1 18) σ) ∧ (x1 = 5 → Post (σ.1 2) σ) ∧ (¬ x1 = 0 ∧ ¬ x1 = 1 ∧ ¬ x1 = 2 ∧ ¬ x1 = 3 ∧ ¬ x1 = 4 ∧ ¬ x1 = 5 → Post ((-1)) σ)
set_option maxHeartbeats 1000000 in
set_option maxRecDepth 20000 in
theorem cM_count {l : Launch} {D : va_G} {cy : Nat → ClassId} {q : Nat → Nat} {σ : MS} {sz : Nat} {x1 : Int32} {Post : Int32 → MS → Prop} (hw : wpM_count σ x1 Post) : Met l yX11_count (Cond.code yX11_count cX11_count 2 (some .int) :: wsA) rM_count (xPc D cy (MW q cy σ) sz [.ref (q 0), .int x1]) (va_Qi Post (xB D cy (MW q cy) (va_A (MW q cy σ) sz)) (va_A (MW q cy σ) sz)) 0 0 (va_A (MW q cy σ) sz) := by
  refine x_enter (own := RX11) (WW := MW q cy) (by decide) rfl (Nat.le_of_ble_eq_true rfl) ?_
  intro p e s m below meth c ls E h hl
  have hx := E.1
  have hb := E.2.1
  have hl : lv_has ls 2 [(0, .ref (q 0)), (1, .int x1)] := hl
  unfold wpM_count at hw
  refine lv_iload_n hx hb dX11_count_0 rfl (lv_at hl 1 rfl) ?_
  by_cases c1 : x1 = 0
  · have hw := hw.1 c1
    refine lv_tableIn (off := 39) (tgt := 40) hx hb dX11_count_1 (by rw [c1]; decide) (by rw [c1]; decide) (by rw [c1]; rfl) (by decide) ?_
    refine lv_aload_n hx hb dX11_count_40 rfl (lv_at hl 0 rfl) ?_
    refine gX11_300 E h dX11_count_41 ?_
    exact x_iret E h hw dX11_count_44
  have hw := hw.2
  by_cases c2 : x1 = 1
  · have hw := hw.1 c2
    refine lv_tableIn (off := 44) (tgt := 45) hx hb dX11_count_1 (by rw [c2]; decide) (by rw [c2]; decide) (by rw [c2]; rfl) (by decide) ?_
    refine lv_aload_n hx hb dX11_count_45 rfl (lv_at hl 0 rfl) ?_
    refine gX11_310 E h dX11_count_46 ?_
    exact x_iret E h hw dX11_count_49
  have hw := hw.2
  by_cases c3 : x1 = 2
  · have hw := hw.1 c3
    refine lv_tableIn (off := 49) (tgt := 50) hx hb dX11_count_1 (by rw [c3]; decide) (by rw [c3]; decide) (by rw [c3]; rfl) (by decide) ?_
    refine lv_aload_n hx hb dX11_count_50 rfl (lv_at hl 0 rfl) ?_
    refine gX11_316 E h dX11_count_51 ?_
    exact x_iret E h hw dX11_count_54
  have hw := hw.2
  by_cases c4 : x1 = 3
  · have hw := hw.1 c4
    refine lv_tableIn (off := 54) (tgt := 55) hx hb dX11_count_1 (by rw [c4]; decide) (by rw [c4]; decide) (by rw [c4]; rfl) (by decide) ?_
    refine lv_aload_n hx hb dX11_count_55 rfl (lv_at hl 0 rfl) ?_
    refine gX11_313 E h dX11_count_56 ?_
    exact x_iret E h hw dX11_count_59
  have hw := hw.2
  by_cases c5 : x1 = 4
  · have hw := hw.1 c5
    refine lv_tableIn (off := 59) (tgt := 60) hx hb dX11_count_1 (by rw [c5]; decide) (by rw [c5]; decide) (by rw [c5]; rfl) (by decide) ?_
    refine lv_aload_n hx hb dX11_count_60 rfl (lv_at hl 0 rfl) ?_
    refine gX11_262 E h dX11_count_61 ?_
    exact x_iret E h hw dX11_count_64
  have hw := hw.2
  by_cases c6 : x1 = 5
  · have hw := hw.1 c6
    refine lv_tableIn (off := 64) (tgt := 65) hx hb dX11_count_1 (by rw [c6]; decide) (by rw [c6]; decide) (by rw [c6]; rfl) (by decide) ?_
    refine lv_aload_n hx hb dX11_count_65 rfl (lv_at hl 0 rfl) ?_
    refine gX11_198 E h dX11_count_66 ?_
    exact x_iret E h hw dX11_count_69
  have hw := hw.2
  have hw := hw ⟨c1, c2, c3, c4, c5, c6⟩
  refine lv_tableOut (tgt := 70) hx hb dX11_count_1 (x_out 0 5 (fun k h1 h2 hk => by rcases (show k = 0 ∨ k = 1 ∨ k = 2 ∨ k = 3 ∨ k = 4 ∨ k = 5 by omega) with rfl | rfl | rfl | rfl | rfl | rfl <;> first | exact c1 (x_ofI hk rfl) | exact c2 (x_ofI hk rfl) | exact c3 (x_ofI hk rfl) | exact c4 (x_ofI hk rfl) | exact c5 (x_ofI hk rfl) | exact c6 (x_ofI hk rfl))) (by decide) ?_
  refine lv_iconst (v := (-1)) hx hb dX11_count_70 (by decide) ?_
  exact x_iret E h hw dX11_count_71

end MWalk
