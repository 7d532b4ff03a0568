section MWalk
variable {p : Program} {l : Launch} {e : Env} {s : State} {m : MethodId} {args : Array Value} {below : List Frame} {meth : Method} {c : Code} {D : va_G} {cy : Nat → ClassId} {q : Nat → Nat} {A : Nat → Prop}
abbrev rM_isIn : Room := { frames := 0, cells := 0, slots := 0, locals := 0 }
def wpM_isIn (σ : MS) (x1 : Int32) (x2 : Int32) (Post : Int32 → MS → Prop) : Prop := vp_in x2 10 ∧ ((σ.2.1 31 x2.toNatClampNeg) = x1 → Post 1 σ) ∧ (¬ (σ.2.1 31 x2.toNatClampNeg) = x1 → vp_in x2 10 ∧ ((σ.2.1 32 x2.toNatClampNeg) = x1 → Post 1 σ) ∧ (¬ (σ.2.1 32 x2.toNatClampNeg) = x1 → Post 0 σ))
set_option maxHeartbeats 1000000 in
set_option maxRecDepth 20000 in
theorem cM_isIn {l : Launch} {D : va_G} {cy : Nat → ClassId} {q : Nat → Nat} {σ : MS} {sz : Nat} {x1 : Int32} {x2 : Int32} {Post : Int32 → MS → Prop} (hw : wpM_isIn σ x1 x2 Post) : Met l yX11_isIn (Cond.code yX11_isIn cX11_isIn 3 (some .boolean) :: wsA) rM_isIn (xPc D cy (MW q cy σ) sz [.ref (q 0), .int x1, .int x2]) (va_Qi Post (xB D cy (MW q cy) (va_A (MW q cy σ) sz)) (va_A (MW q cy σ) sz)) 0 0 (va_A (MW q cy σ) sz) := by
  refine x_enter (own := RX11) (WW := MW q cy) (by decide) rfl (Nat.le_of_ble_eq_true rfl) ?_
  intro p e s m below meth c ls E h hl
  have hx := E.1
  have hb := E.2.1
  have hl : lv_has ls 3 [(0, .ref (q 0)), (1, .int x1), (2, .int x2)] := hl
  unfold wpM_isIn at hw
  refine lv_aload_n hx hb dX11_isIn_0 rfl (lv_at hl 0 rfl) ?_
  refine gX11_110 E h dX11_isIn_1 ?_
  refine lv_iload_n hx hb dX11_isIn_4 rfl (lv_at hl 2 rfl) ?_
  have h1 := hw.1
  have hw := hw.2
  refine aM_31 E h h1 dX11_isIn_5 ?_
  refine lv_iload_n hx hb dX11_isIn_6 rfl (lv_at hl 1 rfl) ?_
  refine lv_icmp_eq (tgt := 20) hx hb dX11_isIn_7 (by decide) (fun c2 => ?_) (fun c2 => ?_)
  · have hw := hw.1 c2
    refine lv_iconst (v := 1) hx hb dX11_isIn_20 (by decide) ?_
    refine lv_goto (tgt := 25) hx hb dX11_isIn_21 (by decide) ?_
    exact x_zret E h rfl hw dX11_isIn_25
  · have hw := hw.2 c2
    refine lv_aload_n hx hb dX11_isIn_10 rfl (lv_at hl 0 rfl) ?_
    refine gX11_113 E h dX11_isIn_11 ?_
    refine lv_iload_n hx hb dX11_isIn_14 rfl (lv_at hl 2 rfl) ?_
    have h3 := hw.1
    have hw := hw.2
    refine aM_32 E h h3 dX11_isIn_15 ?_
    refine lv_iload_n hx hb dX11_isIn_16 rfl (lv_at hl 1 rfl) ?_
    refine lv_icmp_ne (tgt := 24) hx hb dX11_isIn_17 (by decide) (fun c4 => ?_) (fun c4 => ?_)
    · have hw := hw.2 c4
      refine lv_iconst (v := 0) hx hb dX11_isIn_24 (by decide) ?_
      exact x_zret E h rfl hw dX11_isIn_25
    · have hw := hw.1 c4
      refine lv_iconst (v := 1) hx hb dX11_isIn_20 (by decide) ?_
      refine lv_goto (tgt := 25) hx hb dX11_isIn_21 (by decide) ?_
      exact x_zret E h rfl hw dX11_isIn_25

abbrev rM_isRival : Room := { frames := 1, cells := 0, slots := 0, locals := 22 }
def wpM_isRival (σ : MS) (x1 : Int32) (x2 : Int32) (Post : Int32 → MS → Prop) : Prop := (x1 = x2 → Post 0 σ) ∧ (¬ x1 = x2 → vp_in x1 10 ∧ ((σ.2.1 56 x1.toNatClampNeg) = 0 → Post 0 σ) ∧ (¬ (σ.2.1 56 x1.toNatClampNeg) = 0 → vp_in x1 10 ∧ vp_in x2 10 ∧ ((σ.2.1 47 x2.toNatClampNeg) < (σ.2.1 47 x1.toNatClampNeg) → Post 0 σ) ∧ (¬ (σ.2.1 47 x2.toNatClampNeg) < (σ.2.1 47 x1.toNatClampNeg) → vp_in x1 10 ∧ vp_in x2 10 ∧ ((σ.2.1 52 x1.toNatClampNeg) ≤ (σ.2.1 47 x2.toNatClampNeg) → Post 0 σ) ∧ (¬ (σ.2.1 52 x1.toNatClampNeg) ≤ (σ.2.1 47 x2.toNatClampNeg) → vp_in x2 10 ∧ wpM_isIn σ (σ.2.1 31 x2.toNatClampNeg) x1 (fun r11 σ12 => (r11 = 0 → vp_in x2 10 ∧ wpM_isIn σ12 (σ12.2.1 32 x2.toNatClampNeg) x1 (fun r15 σ16 => (r15 = 0 → Post 0 σ16) ∧ (¬ r15 = 0 → Post 1 σ16))) ∧ (¬ r11 = 0 → Post 1 σ12))))))
set_option maxHeartbeats 1000000 in
set_option maxRecDepth 20000 in
theorem cM_isRival {l : Launch} {D : va_G} {cy : Nat → ClassId} {q : Nat → Nat} {σ : MS} {sz : Nat} {x1 : Int32} {x2 : Int32} {Post : Int32 → MS → Prop} (hw : wpM_isRival σ x1 x2 Post) : Met l yX11_isRival (Cond.code yX11_isRival cX11_isRival 3 (some .boolean) :: wsA) rM_isRival (xPc D cy (MW q cy σ) sz [.ref (q 0), .int x1, .int x2]) (va_Qi Post (xB D cy (MW q cy) (va_A (MW q cy σ) sz)) (va_A (MW q cy σ) sz)) 0 0 (va_A (MW q cy σ) sz) := by
  refine x_enter (own := RX11) (WW := MW q cy) (by decide) rfl (Nat.le_of_ble_eq_true rfl) ?_
  intro p e s m below meth c ls E h hl
  have hx := E.1
  have hb := E.2.1
  have hl : lv_has ls 3 [(0, .ref (q 0)), (1, .int x1), (2, .int x2)] := hl
  unfold wpM_isRival at hw
  refine lv_iload_n hx hb dX11_isRival_0 rfl (lv_at hl 1 rfl) ?_
  refine lv_iload_n hx hb dX11_isRival_1 rfl (lv_at hl 2 rfl) ?_
  refine lv_icmp_eq (tgt := 76) hx hb dX11_isRival_2 (by decide) (fun c1 => ?_) (fun c1 => ?_)
  · have hw := hw.1 c1
    refine lv_iconst (v := 0) hx hb dX11_isRival_76 (by decide) ?_
    exact x_zret E h rfl hw dX11_isRival_77
  · have hw := hw.2 c1
    refine lv_aload_n hx hb dX11_isRival_5 rfl (lv_at hl 0 rfl) ?_
    refine gX11_188 E h dX11_isRival_6 ?_
    refine lv_iload_n hx hb dX11_isRival_9 rfl (lv_at hl 1 rfl) ?_
    have h2 := hw.1
    have hw := hw.2
    refine aM_56 E h h2 dX11_isRival_10 ?_
    refine lv_if_eq (tgt := 76) hx hb dX11_isRival_11 (by decide) (fun c3 => ?_) (fun c3 => ?_)
    · have hw := hw.1 c3
      refine lv_iconst (v := 0) hx hb dX11_isRival_76 (by decide) ?_
      exact x_zret E h rfl hw dX11_isRival_77
    · have hw := hw.2 c3
      refine lv_aload_n hx hb dX11_isRival_14 rfl (lv_at hl 0 rfl) ?_
      refine gX11_161 E h dX11_isRival_15 ?_
      refine lv_iload_n hx hb dX11_isRival_18 rfl (lv_at hl 1 rfl) ?_
      have h4 := hw.1
      have hw := hw.2
      refine aM_47 E h h4 dX11_isRival_19 ?_
      refine lv_aload_n hx hb dX11_isRival_20 rfl (lv_at hl 0 rfl) ?_
      refine gX11_161 E h dX11_isRival_21 ?_
      refine lv_iload_n hx hb dX11_isRival_24 rfl (lv_at hl 2 rfl) ?_
      have h5 := hw.1
      have hw := hw.2
      refine aM_47 E h h5 dX11_isRival_25 ?_
      refine lv_icmp_gt (tgt := 76) hx hb dX11_isRival_26 (by decide) (fun c6 => ?_) (fun c6 => ?_)
      · have hw := hw.1 c6
        refine lv_iconst (v := 0) hx hb dX11_isRival_76 (by decide) ?_
        exact x_zret E h rfl hw dX11_isRival_77
      · have hw := hw.2 c6
        refine lv_aload_n hx hb dX11_isRival_29 rfl (lv_at hl 0 rfl) ?_
        refine gX11_176 E h dX11_isRival_30 ?_
        refine lv_iload_n hx hb dX11_isRival_33 rfl (lv_at hl 1 rfl) ?_
        have h7 := hw.1
        have hw := hw.2
        refine aM_52 E h h7 dX11_isRival_34 ?_
        refine lv_aload_n hx hb dX11_isRival_35 rfl (lv_at hl 0 rfl) ?_
        refine gX11_161 E h dX11_isRival_36 ?_
        refine lv_iload_n hx hb dX11_isRival_39 rfl (lv_at hl 2 rfl) ?_
        have h8 := hw.1
        have hw := hw.2
        refine aM_47 E h h8 dX11_isRival_40 ?_
        refine lv_icmp_le (tgt := 76) hx hb dX11_isRival_41 (by decide) (fun c9 => ?_) (fun c9 => ?_)
        · have hw := hw.1 c9
          refine lv_iconst (v := 0) hx hb dX11_isRival_76 (by decide) ?_
          exact x_zret E h rfl hw dX11_isRival_77
        · have hw := hw.2 c9
          refine lv_aload_n hx hb dX11_isRival_44 rfl (lv_at hl 0 rfl) ?_
          refine lv_aload_n hx hb dX11_isRival_45 rfl (lv_at hl 0 rfl) ?_
          refine gX11_110 E h dX11_isRival_46 ?_
          refine lv_iload_n hx hb dX11_isRival_49 rfl (lv_at hl 2 rfl) ?_
          have h10 := hw.1
          have hw := hw.2
          refine aM_31 E h h10 dX11_isRival_50 ?_
          refine lv_iload_n hx hb dX11_isRival_51 rfl (lv_at hl 1 rfl) ?_
          refine x_calli h (x_runV (WW := MW q cy) (rest := []) E h (cM_isIn hw) yyX11_isIn lX11_352 0 rfl rfl ⟨Nat.le_of_ble_eq_true rfl, Nat.le_of_ble_eq_true rfl⟩ rfl rfl hl.1 rfl (Nat.le_of_ble_eq_true rfl) dX11_isRival_52 ⟨Nat.le_refl 0, Nat.le_refl 0⟩) (fun r11 σ12 H locs hw h => ?_)
          refine lv_if_ne (tgt := 72) hx hb dX11_isRival_55 (by decide) (fun c13 => ?_) (fun c13 => ?_)
          · have hw := hw.2 c13
            refine lv_iconst (v := 1) hx hb dX11_isRival_72 (by decide) ?_
            refine lv_goto (tgt := 77) hx hb dX11_isRival_73 (by decide) ?_
            exact x_zret E h rfl hw dX11_isRival_77
          · have hw := hw.1 c13
            refine lv_aload_n hx hb dX11_isRival_58 rfl (lv_at hl 0 rfl) ?_
            refine lv_aload_n hx hb dX11_isRival_59 rfl (lv_at hl 0 rfl) ?_
            refine gX11_113 E h dX11_isRival_60 ?_
            refine lv_iload_n hx hb dX11_isRival_63 rfl (lv_at hl 2 rfl) ?_
            have h14 := hw.1
            have hw := hw.2
            refine aM_32 E h h14 dX11_isRival_64 ?_
            refine lv_iload_n hx hb dX11_isRival_65 rfl (lv_at hl 1 rfl) ?_
            refine x_calli h (x_runV (WW := MW q cy) (rest := []) E h (cM_isIn hw) yyX11_isIn lX11_352 0 rfl rfl ⟨Nat.le_of_ble_eq_true rfl, Nat.le_of_ble_eq_true rfl⟩ rfl rfl hl.1 rfl (Nat.le_of_ble_eq_true rfl) dX11_isRival_66 ⟨Nat.le_refl 0, Nat.le_refl 0⟩) (fun r15 σ16 H locs hw h => ?_)
            refine lv_if_eq (tgt := 76) hx hb dX11_isRival_69 (by decide) (fun c17 => ?_) (fun c17 => ?_)
            · have hw := hw.1 c17
              refine lv_iconst (v := 0) hx hb dX11_isRival_76 (by decide) ?_
              exact x_zret E h rfl hw dX11_isRival_77
            · have hw := hw.2 c17
              refine lv_iconst (v := 1) hx hb dX11_isRival_72 (by decide) ?_
              refine lv_goto (tgt := 77) hx hb dX11_isRival_73 (by decide) ?_
              exact x_zret E h rfl hw dX11_isRival_77

abbrev rM_judges : Room := { frames := 4, cells := 0, slots := 0, locals := 101 }
def wpM_judges_80 (K32 : MS → Int32 → Int32 → Int32 → Prop) (Post : MS → Prop) (σ : MS) (x1 : Int32) (x2 : Int32) (x3 : Int32) : Prop := wpM_nothing σ x1 (fun σ1 => vp_in x3 10 ∧ vp_in 9 12 ∧ ∀ σ3 : MS, σ3 = mA σ1 44 (upd (σ1.2.1 44) (9 : Int32).toNatClampNeg (σ1.2.1 35 x3.toNatClampNeg)) → vp_in x1 10 ∧ vp_in x3 10 ∧ vp_in 11 12 ∧ ∀ σ7 : MS, σ7 = mA σ3 44 (upd (σ3.2.1 44) (11 : Int32).toNatClampNeg ((σ3.2.1 47 x1.toNatClampNeg) - (σ3.2.1 47 x3.toNatClampNeg))) → wpM_ruleOf σ7 x1 2 (fun r9 σ10 => (r9 = ((-1)) → vp_in x1 10 ∧ ∀ σ12 : MS, σ12 = mA σ10 51 (upd (σ10.2.1 51) x1.toNatClampNeg x3) → Post σ12) ∧ (¬ r9 = ((-1)) → ∀ y14 : Int32, y14 = x3 + 1 → K32 σ10 x1 x2 y14)))
set_option maxHeartbeats 1000000 in
set_option maxRecDepth 20000 in
theorem wkM_judges_80 {Post : MS → Prop} (E : xE cX11_judges RX11 6 none D cy p s m args meth c) {K32 : MS → Int32 → Int32 → Int32 → Prop} (hK32 : ∀ (σ : MS) (x1 : Int32) (x2 : Int32) (x3 : Int32) (H : Heap) (locs : List Loc) (ls : Array Slot), xH D A s (MW q cy σ) H locs → K32 σ x1 x2 x3 → lv_has ls 6 [(0, .ref (q 0)), (1, .int x1), (2, .int x2), (3, .int x3)] → W p l e rM_judges s m args below meth c H locs 0 0 (MQ below (va_Qv Post (xB D cy (MW q cy) A) A) args s 0 0 A) (F0 m 32 ls [])) : ∀ (σ : MS) (x1 : Int32) (x2 : Int32) (x3 : Int32) (H : Heap) (locs : List Loc) (ls : Array Slot), xH D A s (MW q cy σ) H locs → wpM_judges_80 K32 Post σ x1 x2 x3 → lv_has ls 6 [(0, .ref (q 0)), (1, .int x1), (2, .int x2), (3, .int x3)] → W p l e rM_judges s m args below meth c H locs 0 0 (MQ below (va_Qv Post (xB D cy (MW q cy) A) A) args s 0 0 A) (F0 m 80 ls []) := by
  have hx := E.1
  have hb := E.2.1
  intro σ x1 x2 x3 H locs ls h hw hl
  unfold wpM_judges_80 at hw
  refine lv_aload_n hx hb dX11_judges_80 rfl (lv_at hl 0 rfl) ?_
  refine lv_iload_n hx hb dX11_judges_81 rfl (lv_at hl 1 rfl) ?_
  refine x_callv h (x_runV (WW := MW q cy) (rest := []) E h (cM_nothing hw) yyX11_nothing lX11_336 0 rfl rfl ⟨Nat.le_of_ble_eq_true rfl, Nat.le_of_ble_eq_true rfl⟩ rfl rfl hl.1 rfl (Nat.le_of_ble_eq_true rfl) dX11_judges_82 ⟨Nat.le_refl 0, Nat.le_refl 0⟩) (fun σ1 H locs hw h => ?_)
  refine lv_aload_n hx hb dX11_judges_85 rfl (lv_at hl 0 rfl) ?_
  refine gX11_149 E h dX11_judges_86 ?_
  refine lv_bipush (v := 9) hx hb dX11_judges_89 (by decide) ?_
  refine lv_aload_n hx hb dX11_judges_91 rfl (lv_at hl 0 rfl) ?_
  refine gX11_122 E h dX11_judges_92 ?_
  refine lv_iload_n hx hb dX11_judges_95 rfl (lv_at hl 3 rfl) ?_
  have h2 := hw.1
  have hw := hw.2
  refine aM_35 E h h2 dX11_judges_96 ?_
  have h4 := hw.1
  have hw := hw.2
  refine sM_44 E h h4 dX11_judges_97 (fun σ3 H locs eσ3 h => ?_)
  have hw := hw σ3 eσ3
  refine lv_aload_n hx hb dX11_judges_98 rfl (lv_at hl 0 rfl) ?_
  refine gX11_149 E h dX11_judges_99 ?_
  refine lv_bipush (v := 11) hx hb dX11_judges_102 (by decide) ?_
  refine lv_aload_n hx hb dX11_judges_104 rfl (lv_at hl 0 rfl) ?_
  refine gX11_161 E h dX11_judges_105 ?_
  refine lv_iload_n hx hb dX11_judges_108 rfl (lv_at hl 1 rfl) ?_
  have h5 := hw.1
  have hw := hw.2
  refine aM_47 E h h5 dX11_judges_109 ?_
  refine lv_aload_n hx hb dX11_judges_110 rfl (lv_at hl 0 rfl) ?_
  refine gX11_161 E h dX11_judges_111 ?_
  refine lv_iload_n hx hb dX11_judges_114 rfl (lv_at hl 3 rfl) ?_
  have h6 := hw.1
  have hw := hw.2
  refine aM_47 E h h6 dX11_judges_115 ?_
  refine lv_isub hx hb dX11_judges_116 ?_
  have h8 := hw.1
  have hw := hw.2
  refine sM_44 E h h8 dX11_judges_117 (fun σ7 H locs eσ7 h => ?_)
  have hw := hw σ7 eσ7
  refine lv_aload_n hx hb dX11_judges_118 rfl (lv_at hl 0 rfl) ?_
  refine lv_iload_n hx hb dX11_judges_119 rfl (lv_at hl 1 rfl) ?_
  refine lv_iconst (v := 2) hx hb dX11_judges_120 (by decide) ?_
  refine x_calli h (x_runV (WW := MW q cy) (rest := []) E h (cM_ruleOf hw) yyX11_ruleOf lX11_342 0 rfl rfl ⟨Nat.le_of_ble_eq_true rfl, Nat.le_of_ble_eq_true rfl⟩ rfl rfl hl.1 rfl (Nat.le_of_ble_eq_true rfl) dX11_judges_121 ⟨Nat.le_refl 0, Nat.le_refl 0⟩) (fun r9 σ10 H locs hw h => ?_)
  refine lv_iconst (v := (-1)) hx hb dX11_judges_124 (by decide) ?_
  refine lv_icmp_eq (tgt := 131) hx hb dX11_judges_125 (by decide) (fun c11 => ?_) (fun c11 => ?_)
  · have hw := hw.1 c11
    refine lv_aload_n hx hb dX11_judges_131 rfl (lv_at hl 0 rfl) ?_
    refine gX11_173 E h dX11_judges_132 ?_
    refine lv_iload_n hx hb dX11_judges_135 rfl (lv_at hl 1 rfl) ?_
    refine lv_iload_n hx hb dX11_judges_136 rfl (lv_at hl 3 rfl) ?_
    have h13 := hw.1
    have hw := hw.2
    refine sM_51 E h h13 dX11_judges_137 (fun σ12 H locs eσ12 h => ?_)
    have hw := hw σ12 eσ12
    exact x_vret E h hw dX11_judges_138
  · have hw := hw.2 c11
    refine lv_goto (tgt := 139) hx hb dX11_judges_128 (by decide) ?_
    obtain ⟨y14, ey14⟩ : ∃ z : Int32, z = x3 + 1 := ⟨_, rfl⟩
    have hw := hw y14 ey14
    refine lv_iinc (v := y14) (lv' := [(3, .int y14), (0, .ref (q 0)), (1, .int x1), (2, .int x2)]) hx hb dX11_judges_139 hl (k := 3) rfl (by rw [ey14]; rfl) (by decide) rfl (fun ls hl => ?_)
    refine lv_goto (tgt := 32) hx hb dX11_judges_142 (by decide) ?_
    exact hK32 _ _ _ _ _ _ _ h hw (lv_sub hl [1, 2, 3, 0] rfl)

def wpM_judges_249 (K147 : MS → Int32 → Int32 → Int32 → Prop) (Post : MS → Prop) (σ : MS) (x1 : Int32) (x2 : Int32) (x3 : Int32) (t1 : Int32) (t2 : Int32) : Prop := vp_in t1 10 ∧ ∀ σ1 : MS, σ1 = mA σ 55 (upd (σ.2.1 55) t1.toNatClampNeg t2) → ∀ y3 : Int32, y3 = x3 + 1 → K147 σ1 x1 x2 y3
set_option maxHeartbeats 1000000 in
set_option maxRecDepth 20000 in
theorem wkM_judges_249 {Post : MS → Prop} (E : xE cX11_judges RX11 6 none D cy p s m args meth c) {K147 : MS → Int32 → Int32 → Int32 → Prop} (hK147 : ∀ (σ : MS) (x1 : Int32) (x2 : Int32) (x3 : Int32) (H : Heap) (locs : List Loc) (ls : Array Slot), xH D A s (MW q cy σ) H locs → K147 σ x1 x2 x3 → lv_has ls 6 [(0, .ref (q 0)), (1, .int x1), (2, .int x2), (3, .int x3)] → W p l e rM_judges s m args below meth c H locs 0 0 (MQ below (va_Qv Post (xB D cy (MW q cy) A) A) args s 0 0 A) (F0 m 147 ls [])) : ∀ (σ : MS) (x1 : Int32) (x2 : Int32) (x3 : Int32) (t1 : Int32) (t2 : Int32) (H : Heap) (locs : List Loc) (ls : Array Slot), xH D A s (MW q cy σ) H locs → wpM_judges_249 K147 Post σ x1 x2 x3 t1 t2 → lv_has ls 6 [(0, .ref (q 0)), (1, .int x1), (2, .int x2), (3, .int x3)] → W p l e rM_judges s m args below meth c H locs 0 0 (MQ below (va_Qv Post (xB D cy (MW q cy) A) A) args s 0 0 A) (F0 m 249 ls [.int t2, .int t1, .ref (q 55)]) := by
  have hx := E.1
  have hb := E.2.1
  intro σ x1 x2 x3 t1 t2 H locs ls h hw hl
  unfold wpM_judges_249 at hw
  have h2 := hw.1
  have hw := hw.2
  refine sM_55 E h h2 dX11_judges_249 (fun σ1 H locs eσ1 h => ?_)
  have hw := hw σ1 eσ1
  obtain ⟨y3, ey3⟩ : ∃ z : Int32, z = x3 + 1 := ⟨_, rfl⟩
  have hw := hw y3 ey3
  refine lv_iinc (v := y3) (lv' := [(3, .int y3), (0, .ref (q 0)), (1, .int x1), (2, .int x2)]) hx hb dX11_judges_250 hl (k := 3) rfl (by rw [ey3]; rfl) (by decide) rfl (fun ls hl => ?_)
  refine lv_goto (tgt := 147) hx hb dX11_judges_253 (by decide) ?_
  exact hK147 _ _ _ _ _ _ _ h hw (lv_sub hl [1, 2, 3, 0] rfl)

def wpM_judges_239 (K147 : MS → Int32 → Int32 → Int32 → Prop) (Post : MS → Prop) (σ : MS) (x1 : Int32) (x2 : Int32) (x3 : Int32) (x4 : Int32) (t1 : Int32) : Prop := (x4 = 0 → wpM_judges_249 K147 Post σ x1 x2 x3 t1 2) ∧ (¬ x4 = 0 → wpM_judges_249 K147 Post σ x1 x2 x3 t1 1)
set_option maxHeartbeats 1000000 in
set_option maxRecDepth 20000 in
theorem wkM_judges_239 {Post : MS → Prop} (E : xE cX11_judges RX11 6 none D cy p s m args meth c) {K147 : MS → Int32 → Int32 → Int32 → Prop} (hK147 : ∀ (σ : MS) (x1 : Int32) (x2 : Int32) (x3 : Int32) (H : Heap) (locs : List Loc) (ls : Array Slot), xH D A s (MW q cy σ) H locs → K147 σ x1 x2 x3 → lv_has ls 6 [(0, .ref (q 0)), (1, .int x1), (2, .int x2), (3, .int x3)] → W p l e rM_judges s m args below meth c H locs 0 0 (MQ below (va_Qv Post (xB D cy (MW q cy) A) A) args s 0 0 A) (F0 m 147 ls [])) : ∀ (σ : MS) (x1 : Int32) (x2 : Int32) (x3 : Int32) (x4 : Int32) (t1 : Int32) (H : Heap) (locs : List Loc) (ls : Array Slot), xH D A s (MW q cy σ) H locs → wpM_judges_239 K147 Post σ x1 x2 x3 x4 t1 → lv_has ls 6 [(0, .ref (q 0)), (1, .int x1), (2, .int x2), (3, .int x3), (4, .int x4)] → W p l e rM_judges s m args below meth c H locs 0 0 (MQ below (va_Qv Post (xB D cy (MW q cy) A) A) args s 0 0 A) (F0 m 239 ls [.int t1, .ref (q 55)]) := by
  have hx := E.1
  have hb := E.2.1
  intro σ x1 x2 x3 x4 t1 H locs ls h hw hl
  unfold wpM_judges_239 at hw
  refine lv_iload hx hb dX11_judges_239 (lv_at hl 4 rfl) ?_
  refine lv_if_eq (tgt := 248) hx hb dX11_judges_241 (by decide) (fun c1 => ?_) (fun c1 => ?_)
  · have hw := hw.1 c1
    refine lv_iconst (v := 2) hx hb dX11_judges_248 (by decide) ?_
    exact wkM_judges_249 E hK147 _ _ _ _ _ _ _ _ _ h hw (lv_sub hl [0, 1, 2, 3] rfl)
  · have hw := hw.2 c1
    refine lv_iconst (v := 1) hx hb dX11_judges_244 (by decide) ?_
    refine lv_goto (tgt := 249) hx hb dX11_judges_245 (by decide) ?_
    exact wkM_judges_249 E hK147 _ _ _ _ _ _ _ _ _ h hw (lv_sub hl [0, 1, 2, 3] rfl)

def wpM_judges_331 (Post : MS → Prop) (σ : MS) (t1 : Int32) (t2 : Int32) : Prop := vp_in t1 10 ∧ ∀ σ1 : MS, σ1 = mA σ 53 (upd (σ.2.1 53) t1.toNatClampNeg t2) → Post σ1
set_option maxHeartbeats 1000000 in
set_option maxRecDepth 20000 in
theorem wkM_judges_331 {Post : MS → Prop} (E : xE cX11_judges RX11 6 none D cy p s m args meth c) : ∀ (σ : MS) (t1 : Int32) (t2 : Int32) (H : Heap) (locs : List Loc) (ls : Array Slot), xH D A s (MW q cy σ) H locs → wpM_judges_331 Post σ t1 t2 → lv_has ls 6 [] → W p l e rM_judges s m args below meth c H locs 0 0 (MQ below (va_Qv Post (xB D cy (MW q cy) A) A) args s 0 0 A) (F0 m 331 ls [.int t2, .int t1, .ref (q 53)]) := by
  have hx := E.1
  have hb := E.2.1
  intro σ t1 t2 H locs ls h hw hl
  unfold wpM_judges_331 at hw
  have h2 := hw.1
  have hw := hw.2
  refine sM_53 E h h2 dX11_judges_331 (fun σ1 H locs eσ1 h => ?_)
  have hw := hw σ1 eσ1
  exact x_vret E h hw dX11_judges_332

def wpM_judges_296 (Post : MS → Prop) (σ : MS) (x1 : Int32) (x3 : Int32) (x4 : Int32) (t1 : Int32) (t2 : Int32) : Prop := vp_in t1 10 ∧ ∀ σ1 : MS, σ1 = mA σ 52 (upd (σ.2.1 52) t1.toNatClampNeg t2) → vp_in x1 10 ∧ ((σ1.2.1 52 x1.toNatClampNeg) = 1000000 → wpM_judges_331 Post σ1 x1 0) ∧ (¬ (σ1.2.1 52 x1.toNatClampNeg) = 1000000 → (x4 < x3 → wpM_judges_331 Post σ1 x1 8) ∧ (¬ x4 < x3 → wpM_judges_331 Post σ1 x1 7))
set_option maxHeartbeats 1000000 in
set_option maxRecDepth 20000 in
theorem wkM_judges_296 {Post : MS → Prop} (E : xE cX11_judges RX11 6 none D cy p s m args meth c) : ∀ (σ : MS) (x1 : Int32) (x3 : Int32) (x4 : Int32) (t1 : Int32) (t2 : Int32) (H : Heap) (locs : List Loc) (ls : Array Slot), xH D A s (MW q cy σ) H locs → wpM_judges_296 Post σ x1 x3 x4 t1 t2 → lv_has ls 6 [(0, .ref (q 0)), (1, .int x1), (3, .int x3), (4, .int x4)] → W p l e rM_judges s m args below meth c H locs 0 0 (MQ below (va_Qv Post (xB D cy (MW q cy) A) A) args s 0 0 A) (F0 m 296 ls [.int t2, .int t1, .ref (q 52)]) := by
  have hx := E.1
  have hb := E.2.1
  intro σ x1 x3 x4 t1 t2 H locs ls h hw hl
  unfold wpM_judges_296 at hw
  have h2 := hw.1
  have hw := hw.2
  refine sM_52 E h h2 dX11_judges_296 (fun σ1 H locs eσ1 h => ?_)
  have hw := hw σ1 eσ1
  refine lv_aload_n hx hb dX11_judges_297 rfl (lv_at hl 0 rfl) ?_
  refine gX11_179 E h dX11_judges_298 ?_
  refine lv_iload_n hx hb dX11_judges_301 rfl (lv_at hl 1 rfl) ?_
  refine lv_aload_n hx hb dX11_judges_302 rfl (lv_at hl 0 rfl) ?_
  refine gX11_176 E h dX11_judges_303 ?_
  refine lv_iload_n hx hb dX11_judges_306 rfl (lv_at hl 1 rfl) ?_
  have h3 := hw.1
  have hw := hw.2
  refine aM_52 E h h3 dX11_judges_307 ?_
  refine lv_ldcw (own := RX11) (v := 1000000) hx hb E.2.2.2.1 (E.2.2.2.2.1 _ kX11_345) dX11_judges_308 ?_
  refine lv_icmp_ne (tgt := 318) hx hb dX11_judges_311 (by decide) (fun c4 => ?_) (fun c4 => ?_)
  · have hw := hw.2 c4
    refine lv_iload_n hx hb dX11_judges_318 rfl (lv_at hl 2 rfl) ?_
    refine lv_iload hx hb dX11_judges_319 (lv_at hl 3 rfl) ?_
    refine lv_icmp_gt (tgt := 329) hx hb dX11_judges_321 (by decide) (fun c5 => ?_) (fun c5 => ?_)
    · have hw := hw.1 c5
      refine lv_bipush (v := 8) hx hb dX11_judges_329 (by decide) ?_
      exact wkM_judges_331 E _ _ _ _ _ _ h hw (lv_sub hl [] rfl)
    · have hw := hw.2 c5
      refine lv_bipush (v := 7) hx hb dX11_judges_324 (by decide) ?_
      refine lv_goto (tgt := 331) hx hb dX11_judges_326 (by decide) ?_
      exact wkM_judges_331 E _ _ _ _ _ _ h hw (lv_sub hl [] rfl)
  · have hw := hw.1 c4
    refine lv_iconst (v := 0) hx hb dX11_judges_314 (by decide) ?_
    refine lv_goto (tgt := 331) hx hb dX11_judges_315 (by decide) ?_
    exact wkM_judges_331 E _ _ _ _ _ _ h hw (lv_sub hl [] rfl)

def wpM_judges_147 (Post : MS → Prop) : Nat → MS → Int32 → Int32 → Int32 → Prop
  | 0, _, _, _, _ => False
  | n + 1, σ, x1, x2, x3 => ((σ.1 46) ≤ x3 → vp_in x1 10 ∧ ∀ σ2 : MS, σ2 = mA σ 56 (upd (σ.2.1 56) x1.toNatClampNeg (vp_nar .boolean 1)) → wpM_fateOf σ2 x1 0 x2 (fun r4 σ5 => wpM_lapseOf σ5 x1 x2 (fun r6 σ7 => (r6 < r4 → wpM_judges_296 Post σ7 x1 r4 r6 x1 r6) ∧ (¬ r6 < r4 → wpM_judges_296 Post σ7 x1 r4 r6 x1 r4)))) ∧ (¬ (σ.1 46) ≤ x3 → wpM_isRival σ x3 x1 (fun r9 σ10 => (r9 = 0 → ∀ y27 : Int32, y27 = x3 + 1 → wpM_judges_147 Post n σ10 x1 x2 y27) ∧ (¬ r9 = 0 → vp_in x1 10 ∧ vp_in x3 10 ∧ ∀ σ13 : MS, σ13 = mA σ10 52 (upd (σ10.2.1 52) x3.toNatClampNeg (σ10.2.1 47 x1.toNatClampNeg)) → vp_in x3 10 ∧ ∀ σ15 : MS, σ15 = mA σ13 53 (upd (σ13.2.1 53) x3.toNatClampNeg 9) → vp_in x3 10 ∧ ∀ σ17 : MS, σ17 = mA σ15 54 (upd (σ15.2.1 54) x3.toNatClampNeg x1) → vp_in x3 10 ∧ wpM_isIn σ17 (σ17.2.1 31 x3.toNatClampNeg) x1 (fun r20 σ21 => vp_in x3 10 ∧ wpM_isIn σ21 (σ21.2.1 32 x3.toNatClampNeg) x1 (fun r23 σ24 => (r20 = 0 → wpM_judges_239 (fun a0 a1 a2 a3 => wpM_judges_147 Post n a0 a1 a2 a3) Post σ24 x1 x2 x3 r20 x3) ∧ (¬ r20 = 0 → (r23 = 0 → wpM_judges_239 (fun a0 a1 a2 a3 => wpM_judges_147 Post n a0 a1 a2 a3) Post σ24 x1 x2 x3 r20 x3) ∧ (¬ r23 = 0 → wpM_judges_249 (fun a0 a1 a2 a3 => wpM_judges_147 Post n a0 a1 a2 a3) Post σ24 x1 x2 x3 x3 0)))))))
set_option maxHeartbeats 1000000 in
set_option maxRecDepth 20000 in
theorem wkM_judges_147 {Post : MS → Prop} (E : xE cX11_judges RX11 6 none D cy p s m args meth c) : ∀ n : Nat, ∀ (σ : MS) (x1 : Int32) (x2 : Int32) (x3 : Int32) (H : Heap) (locs : List Loc) (ls : Array Slot), xH D A s (MW q cy σ) H locs → wpM_judges_147 Post n σ x1 x2 x3 → lv_has ls 6 [(0, .ref (q 0)), (1, .int x1), (2, .int x2), (3, .int x3)] → W p l e rM_judges s m args below meth c H locs 0 0 (MQ below (va_Qv Post (xB D cy (MW q cy) A) A) args s 0 0 A) (F0 m 147 ls []) := by
  have hx := E.1
  have hb := E.2.1
  intro n
  induction n with
  | zero => intro σ x1 x2 x3 H locs ls h hw hl; exact False.elim hw
  | succ n ih =>
    intro σ x1 x2 x3 H locs ls h hw hl
    refine lv_iload_n hx hb dX11_judges_147 rfl (lv_at hl 3 rfl) ?_
    refine lv_aload_n hx hb dX11_judges_148 rfl (lv_at hl 0 rfl) ?_
    refine gX11_310 E h dX11_judges_149 ?_
    refine lv_icmp_ge (tgt := 256) hx hb dX11_judges_152 (by decide) (fun c1 => ?_) (fun c1 => ?_)
    · have hw := hw.1 c1
      refine lv_aload_n hx hb dX11_judges_256 rfl (lv_at hl 0 rfl) ?_
      refine gX11_188 E h dX11_judges_257 ?_
      refine lv_iload_n hx hb dX11_judges_260 rfl (lv_at hl 1 rfl) ?_
      refine lv_iconst (v := 1) hx hb dX11_judges_261 (by decide) ?_
      have h3 := hw.1
      have hw := hw.2
      refine sM_56 E h h3 dX11_judges_262 (fun σ2 H locs eσ2 h => ?_)
      have hw := hw σ2 eσ2
      refine lv_aload_n hx hb dX11_judges_263 rfl (lv_at hl 0 rfl) ?_
      refine lv_iload_n hx hb dX11_judges_264 rfl (lv_at hl 1 rfl) ?_
      refine lv_iconst (v := 0) hx hb dX11_judges_265 (by decide) ?_
      refine lv_iload_n hx hb dX11_judges_266 rfl (lv_at hl 2 rfl) ?_
      refine x_calli h (x_runV (WW := MW q cy) (rest := []) E h (cM_fateOf hw) yyX11_fateOf lX11_346 0 rfl rfl ⟨Nat.le_of_ble_eq_true rfl, Nat.le_of_ble_eq_true rfl⟩ rfl rfl hl.1 rfl (Nat.le_of_ble_eq_true rfl) dX11_judges_267 ⟨Nat.le_refl 0, Nat.le_refl 0⟩) (fun r4 σ5 H locs hw h => ?_)
      refine lv_istore_n (lv' := [(3, .int r4), (0, .ref (q 0)), (1, .int x1), (2, .int x2)]) hx hb dX11_judges_270 rfl hl (by decide) rfl (fun ls hl => ?_)
      refine lv_aload_n hx hb dX11_judges_271 rfl (lv_at hl 1 rfl) ?_
      refine lv_iload_n hx hb dX11_judges_272 rfl (lv_at hl 2 rfl) ?_
      refine lv_iload_n hx hb dX11_judges_273 rfl (lv_at hl 3 rfl) ?_
      refine x_calli h (x_runV (WW := MW q cy) (rest := []) E h (cM_lapseOf hw) yyX11_lapseOf lX11_361 0 rfl rfl ⟨Nat.le_of_ble_eq_true rfl, Nat.le_of_ble_eq_true rfl⟩ rfl rfl hl.1 rfl (Nat.le_of_ble_eq_true rfl) dX11_judges_274 ⟨Nat.le_refl 0, Nat.le_refl 0⟩) (fun r6 σ7 H locs hw h => ?_)
      refine lv_istore (lv' := [(4, .int r6), (3, .int r4), (0, .ref (q 0)), (1, .int x1), (2, .int x2)]) hx hb dX11_judges_277 hl (by decide) rfl (fun ls hl => ?_)
      refine lv_aload_n hx hb dX11_judges_279 rfl (lv_at hl 2 rfl) ?_
      refine gX11_176 E h dX11_judges_280 ?_
      refine lv_iload_n hx hb dX11_judges_283 rfl (lv_at hl 3 rfl) ?_
      refine lv_iload_n hx hb dX11_judges_284 rfl (lv_at hl 1 rfl) ?_
      refine lv_iload hx hb dX11_judges_285 (lv_at hl 0 rfl) ?_
      refine lv_icmp_gt (tgt := 294) hx hb dX11_judges_287 (by decide) (fun c8 => ?_) (fun c8 => ?_)
      · have hw := hw.1 c8
        refine lv_iload hx hb dX11_judges_294 (lv_at hl 0 rfl) ?_
        exact wkM_judges_296 E _ _ _ _ _ _ _ _ _ h hw (lv_sub hl [2, 3, 1, 0] rfl)
      · have hw := hw.2 c8
        refine lv_iload_n hx hb dX11_judges_290 rfl (lv_at hl 1 rfl) ?_
        refine lv_goto (tgt := 296) hx hb dX11_judges_291 (by decide) ?_
        exact wkM_judges_296 E _ _ _ _ _ _ _ _ _ h hw (lv_sub hl [2, 3, 1, 0] rfl)
    · have hw := hw.2 c1
      refine lv_aload_n hx hb dX11_judges_155 rfl (lv_at hl 0 rfl) ?_
      refine lv_iload_n hx hb dX11_judges_156 rfl (lv_at hl 3 rfl) ?_
      refine lv_iload_n hx hb dX11_judges_157 rfl (lv_at hl 1 rfl) ?_
      refine x_calli h (x_runV (WW := MW q cy) (rest := []) E h (cM_isRival hw) yyX11_isRival lX11_358 0 rfl rfl ⟨Nat.le_of_ble_eq_true rfl, Nat.le_of_ble_eq_true rfl⟩ rfl rfl hl.1 rfl (Nat.le_of_ble_eq_true rfl) dX11_judges_158 ⟨Nat.le_refl 0, Nat.le_refl 0⟩) (fun r9 σ10 H locs hw h => ?_)
      refine lv_if_ne (tgt := 167) hx hb dX11_judges_161 (by decide) (fun c11 => ?_) (fun c11 => ?_)
      · have hw := hw.2 c11
        refine lv_aload_n hx hb dX11_judges_167 rfl (lv_at hl 0 rfl) ?_
        refine gX11_176 E h dX11_judges_168 ?_
        refine lv_iload_n hx hb dX11_judges_171 rfl (lv_at hl 3 rfl) ?_
        refine lv_aload_n hx hb dX11_judges_172 rfl (lv_at hl 0 rfl) ?_
        refine gX11_161 E h dX11_judges_173 ?_
        refine lv_iload_n hx hb dX11_judges_176 rfl (lv_at hl 1 rfl) ?_
        have h12 := hw.1
        have hw := hw.2
        refine aM_47 E h h12 dX11_judges_177 ?_
        have h14 := hw.1
        have hw := hw.2
        refine sM_52 E h h14 dX11_judges_178 (fun σ13 H locs eσ13 h => ?_)
        have hw := hw σ13 eσ13
        refine lv_aload_n hx hb dX11_judges_179 rfl (lv_at hl 0 rfl) ?_
        refine gX11_179 E h dX11_judges_180 ?_
        refine lv_iload_n hx hb dX11_judges_183 rfl (lv_at hl 3 rfl) ?_
        refine lv_bipush (v := 9) hx hb dX11_judges_184 (by decide) ?_
        have h16 := hw.1
        have hw := hw.2
        refine sM_53 E h h16 dX11_judges_186 (fun σ15 H locs eσ15 h => ?_)
        have hw := hw σ15 eσ15
        refine lv_aload_n hx hb dX11_judges_187 rfl (lv_at hl 0 rfl) ?_
        refine gX11_182 E h dX11_judges_188 ?_
        refine lv_iload_n hx hb dX11_judges_191 rfl (lv_at hl 3 rfl) ?_
        refine lv_iload_n hx hb dX11_judges_192 rfl (lv_at hl 1 rfl) ?_
        have h18 := hw.1
        have hw := hw.2
        refine sM_54 E h h18 dX11_judges_193 (fun σ17 H locs eσ17 h => ?_)
        have hw := hw σ17 eσ17
        refine lv_aload_n hx hb dX11_judges_194 rfl (lv_at hl 0 rfl) ?_
        refine lv_aload_n hx hb dX11_judges_195 rfl (lv_at hl 0 rfl) ?_
        refine gX11_110 E h dX11_judges_196 ?_
        refine lv_iload_n hx hb dX11_judges_199 rfl (lv_at hl 3 rfl) ?_
        have h19 := hw.1
        have hw := hw.2
        refine aM_31 E h h19 dX11_judges_200 ?_
        refine lv_iload_n hx hb dX11_judges_201 rfl (lv_at hl 1 rfl) ?_
        refine x_calli h (x_runV (WW := MW q cy) (rest := []) E h (cM_isIn hw) yyX11_isIn lX11_352 0 rfl rfl ⟨Nat.le_of_ble_eq_true rfl, Nat.le_of_ble_eq_true rfl⟩ rfl rfl hl.1 rfl (Nat.le_of_ble_eq_true rfl) dX11_judges_202 ⟨Nat.le_refl 0, Nat.le_refl 0⟩) (fun r20 σ21 H locs hw h => ?_)
        refine lv_istore (lv' := [(4, .int r20), (0, .ref (q 0)), (1, .int x1), (2, .int x2), (3, .int x3)]) hx hb dX11_judges_205 hl (by decide) rfl (fun ls hl => ?_)
        refine lv_aload_n hx hb dX11_judges_207 rfl (lv_at hl 1 rfl) ?_
        refine lv_aload_n hx hb dX11_judges_208 rfl (lv_at hl 1 rfl) ?_
        refine gX11_113 E h dX11_judges_209 ?_
        refine lv_iload_n hx hb dX11_judges_212 rfl (lv_at hl 4 rfl) ?_
        have h22 := hw.1
        have hw := hw.2
        refine aM_32 E h h22 dX11_judges_213 ?_
        refine lv_iload_n hx hb dX11_judges_214 rfl (lv_at hl 2 rfl) ?_
        refine x_calli h (x_runV (WW := MW q cy) (rest := []) E h (cM_isIn hw) yyX11_isIn lX11_352 0 rfl rfl ⟨Nat.le_of_ble_eq_true rfl, Nat.le_of_ble_eq_true rfl⟩ rfl rfl hl.1 rfl (Nat.le_of_ble_eq_true rfl) dX11_judges_215 ⟨Nat.le_refl 0, Nat.le_refl 0⟩) (fun r23 σ24 H locs hw h => ?_)
        refine lv_istore (lv' := [(5, .int r23), (4, .int r20), (0, .ref (q 0)), (1, .int x1), (2, .int x2), (3, .int x3)]) hx hb dX11_judges_218 hl (by decide) rfl (fun ls hl => ?_)
        refine lv_aload_n hx hb dX11_judges_220 rfl (lv_at hl 2 rfl) ?_
        refine gX11_185 E h dX11_judges_221 ?_
        refine lv_iload_n hx hb dX11_judges_224 rfl (lv_at hl 5 rfl) ?_
        refine lv_iload hx hb dX11_judges_225 (lv_at hl 1 rfl) ?_
        refine lv_if_eq (tgt := 239) hx hb dX11_judges_227 (by decide) (fun c25 => ?_) (fun c25 => ?_)
        · have hw := hw.1 c25
          exact wkM_judges_239 E ih _ _ _ _ _ _ _ _ _ h hw (lv_sub hl [2, 3, 4, 5, 1] rfl)
        · have hw := hw.2 c25
          refine lv_iload hx hb dX11_judges_230 (lv_at hl 0 rfl) ?_
          refine lv_if_eq (tgt := 239) hx hb dX11_judges_232 (by decide) (fun c26 => ?_) (fun c26 => ?_)
          · have hw := hw.1 c26
            exact wkM_judges_239 E ih _ _ _ _ _ _ _ _ _ h hw (lv_sub hl [2, 3, 4, 5, 1] rfl)
          · have hw := hw.2 c26
            refine lv_iconst (v := 0) hx hb dX11_judges_235 (by decide) ?_
            refine lv_goto (tgt := 249) hx hb dX11_judges_236 (by decide) ?_
            exact wkM_judges_249 E ih _ _ _ _ _ _ _ _ _ h hw (lv_sub hl [2, 3, 4, 5] rfl)
      · have hw := hw.1 c11
        refine lv_goto (tgt := 250) hx hb dX11_judges_164 (by decide) ?_
        obtain ⟨y27, ey27⟩ : ∃ z : Int32, z = x3 + 1 := ⟨_, rfl⟩
        have hw := hw y27 ey27
        refine lv_iinc (v := y27) (lv' := [(3, .int y27), (0, .ref (q 0)), (1, .int x1), (2, .int x2)]) hx hb dX11_judges_250 hl (k := 3) rfl (by rw [ey27]; rfl) (by decide) rfl (fun ls hl => ?_)
        refine lv_goto (tgt := 147) hx hb dX11_judges_253 (by decide) ?_
        exact ih _ _ _ _ _ _ _ h hw (lv_sub hl [1, 2, 3, 0] rfl)

def wpM_judges_32 (Post : MS → Prop) : Nat → MS → Int32 → Int32 → Int32 → Prop
  | 0, _, _, _, _ => False
  | n + 1, σ, x1, x2, x3 => ((σ.1 46) ≤ x3 → ∃ g, wpM_judges_147 Post g σ x1 x2 0) ∧ (¬ (σ.1 46) ≤ x3 → wpM_isRival σ x3 x1 (fun r2 σ3 => (r2 = 0 → ∀ y5 : Int32, y5 = x3 + 1 → wpM_judges_32 Post n σ3 x1 x2 y5) ∧ (¬ r2 = 0 → vp_in x1 10 ∧ wpM_isIn σ3 (σ3.2.1 31 x1.toNatClampNeg) x3 (fun r7 σ8 => (r7 = 0 → wpM_judges_80 (fun a0 a1 a2 a3 => wpM_judges_32 Post n a0 a1 a2 a3) Post σ8 x1 x2 x3) ∧ (¬ r7 = 0 → vp_in x1 10 ∧ wpM_isIn σ8 (σ8.2.1 32 x1.toNatClampNeg) x3 (fun r11 σ12 => (r11 = 0 → wpM_judges_80 (fun a0 a1 a2 a3 => wpM_judges_32 Post n a0 a1 a2 a3) Post σ12 x1 x2 x3) ∧ (¬ r11 = 0 → ∀ y14 : Int32, y14 = x3 + 1 → wpM_judges_32 Post n σ12 x1 x2 y14)))))))
set_option maxHeartbeats 1000000 in
set_option maxRecDepth 20000 in
theorem wkM_judges_32 {Post : MS → Prop} (E : xE cX11_judges RX11 6 none D cy p s m args meth c) : ∀ n : Nat, ∀ (σ : MS) (x1 : Int32) (x2 : Int32) (x3 : Int32) (H : Heap) (locs : List Loc) (ls : Array Slot), xH D A s (MW q cy σ) H locs → wpM_judges_32 Post n σ x1 x2 x3 → lv_has ls 6 [(0, .ref (q 0)), (1, .int x1), (2, .int x2), (3, .int x3)] → W p l e rM_judges s m args below meth c H locs 0 0 (MQ below (va_Qv Post (xB D cy (MW q cy) A) A) args s 0 0 A) (F0 m 32 ls []) := by
  have hx := E.1
  have hb := E.2.1
  intro n
  induction n with
  | zero => intro σ x1 x2 x3 H locs ls h hw hl; exact False.elim hw
  | succ n ih =>
    intro σ x1 x2 x3 H locs ls h hw hl
    refine lv_iload_n hx hb dX11_judges_32 rfl (lv_at hl 3 rfl) ?_
    refine lv_aload_n hx hb dX11_judges_33 rfl (lv_at hl 0 rfl) ?_
    refine gX11_310 E h dX11_judges_34 ?_
    refine lv_icmp_ge (tgt := 145) hx hb dX11_judges_37 (by decide) (fun c1 => ?_) (fun c1 => ?_)
    · have hw := hw.1 c1
      refine lv_iconst (v := 0) hx hb dX11_judges_145 (by decide) ?_
      refine lv_istore_n (lv' := [(3, .int 0), (0, .ref (q 0)), (1, .int x1), (2, .int x2)]) hx hb dX11_judges_146 rfl hl (by decide) rfl (fun ls hl => ?_)
      obtain ⟨g, hw⟩ := hw
      exact wkM_judges_147 E g _ _ _ _ _ _ _ h hw (lv_sub hl [1, 2, 3, 0] rfl)
    · have hw := hw.2 c1
      refine lv_aload_n hx hb dX11_judges_40 rfl (lv_at hl 0 rfl) ?_
      refine lv_iload_n hx hb dX11_judges_41 rfl (lv_at hl 3 rfl) ?_
      refine lv_iload_n hx hb dX11_judges_42 rfl (lv_at hl 1 rfl) ?_
      refine x_calli h (x_runV (WW := MW q cy) (rest := []) E h (cM_isRival hw) yyX11_isRival lX11_358 0 rfl rfl ⟨Nat.le_of_ble_eq_true rfl, Nat.le_of_ble_eq_true rfl⟩ rfl rfl hl.1 rfl (Nat.le_of_ble_eq_true rfl) dX11_judges_43 ⟨Nat.le_refl 0, Nat.le_refl 0⟩) (fun r2 σ3 H locs hw h => ?_)
      refine lv_if_eq (tgt := 139) hx hb dX11_judges_46 (by decide) (fun c4 => ?_) (fun c4 => ?_)
      · have hw := hw.1 c4
        obtain ⟨y5, ey5⟩ : ∃ z : Int32, z = x3 + 1 := ⟨_, rfl⟩
        have hw := hw y5 ey5
        refine lv_iinc (v := y5) (lv' := [(3, .int y5), (0, .ref (q 0)), (1, .int x1), (2, .int x2)]) hx hb dX11_judges_139 hl (k := 3) rfl (by rw [ey5]; rfl) (by decide) rfl (fun ls hl => ?_)
        refine lv_goto (tgt := 32) hx hb dX11_judges_142 (by decide) ?_
        exact ih _ _ _ _ _ _ _ h hw (lv_sub hl [1, 2, 3, 0] rfl)
      · have hw := hw.2 c4
        refine lv_aload_n hx hb dX11_judges_49 rfl (lv_at hl 0 rfl) ?_
        refine lv_aload_n hx hb dX11_judges_50 rfl (lv_at hl 0 rfl) ?_
        refine gX11_110 E h dX11_judges_51 ?_
        refine lv_iload_n hx hb dX11_judges_54 rfl (lv_at hl 1 rfl) ?_
        have h6 := hw.1
        have hw := hw.2
        refine aM_31 E h h6 dX11_judges_55 ?_
        refine lv_iload_n hx hb dX11_judges_56 rfl (lv_at hl 3 rfl) ?_
        refine x_calli h (x_runV (WW := MW q cy) (rest := []) E h (cM_isIn hw) yyX11_isIn lX11_352 0 rfl rfl ⟨Nat.le_of_ble_eq_true rfl, Nat.le_of_ble_eq_true rfl⟩ rfl rfl hl.1 rfl (Nat.le_of_ble_eq_true rfl) dX11_judges_57 ⟨Nat.le_refl 0, Nat.le_refl 0⟩) (fun r7 σ8 H locs hw h => ?_)
        refine lv_if_eq (tgt := 80) hx hb dX11_judges_60 (by decide) (fun c9 => ?_) (fun c9 => ?_)
        · have hw := hw.1 c9
          exact wkM_judges_80 E ih _ _ _ _ _ _ _ h hw (lv_sub hl [0, 1, 2, 3] rfl)
        · have hw := hw.2 c9
          refine lv_aload_n hx hb dX11_judges_63 rfl (lv_at hl 0 rfl) ?_
          refine lv_aload_n hx hb dX11_judges_64 rfl (lv_at hl 0 rfl) ?_
          refine gX11_113 E h dX11_judges_65 ?_
          refine lv_iload_n hx hb dX11_judges_68 rfl (lv_at hl 1 rfl) ?_
          have h10 := hw.1
          have hw := hw.2
          refine aM_32 E h h10 dX11_judges_69 ?_
          refine lv_iload_n hx hb dX11_judges_70 rfl (lv_at hl 3 rfl) ?_
          refine x_calli h (x_runV (WW := MW q cy) (rest := []) E h (cM_isIn hw) yyX11_isIn lX11_352 0 rfl rfl ⟨Nat.le_of_ble_eq_true rfl, Nat.le_of_ble_eq_true rfl⟩ rfl rfl hl.1 rfl (Nat.le_of_ble_eq_true rfl) dX11_judges_71 ⟨Nat.le_refl 0, Nat.le_refl 0⟩) (fun r11 σ12 H locs hw h => ?_)
          refine lv_if_eq (tgt := 80) hx hb dX11_judges_74 (by decide) (fun c13 => ?_) (fun c13 => ?_)
          · have hw := hw.1 c13
            exact wkM_judges_80 E ih _ _ _ _ _ _ _ h hw (lv_sub hl [0, 1, 2, 3] rfl)
          · have hw := hw.2 c13
            refine lv_goto (tgt := 139) hx hb dX11_judges_77 (by decide) ?_
            obtain ⟨y14, ey14⟩ : ∃ z : Int32, z = x3 + 1 := ⟨_, rfl⟩
            have hw := hw y14 ey14
            refine lv_iinc (v := y14) (lv' := [(3, .int y14), (0, .ref (q 0)), (1, .int x1), (2, .int x2)]) hx hb dX11_judges_139 hl (k := 3) rfl (by rw [ey14]; rfl) (by decide) rfl (fun ls hl => ?_)
            refine lv_goto (tgt := 32) hx hb dX11_judges_142 (by decide) ?_
            exact ih _ _ _ _ _ _ _ h hw (lv_sub hl [1, 2, 3, 0] rfl)

def wpM_judges (σ : MS) (x1 : Int32) (x2 : Int32) (Post : MS → Prop) : Prop := vp_in x1 10 ∧ ∀ σ1 : MS, σ1 = mA σ 49 (upd (σ.2.1 49) x1.toNatClampNeg (vp_nar .boolean 1)) → wpM_barOf σ1 x1 x2 (fun r3 σ4 => vp_in x1 10 ∧ ∀ σ5 : MS, σ5 = mA σ4 50 (upd (σ4.2.1 50) x1.toNatClampNeg r3) → vp_in x1 10 ∧ ((σ5.2.1 50 x1.toNatClampNeg) = ((-1)) → ∃ g, wpM_judges_32 Post g σ5 x1 x2 0) ∧ (¬ (σ5.2.1 50 x1.toNatClampNeg) = ((-1)) → Post σ5))
set_option maxHeartbeats 1000000 in
set_option maxRecDepth 20000 in
theorem cM_judges {l : Launch} {D : va_G} {cy : Nat → ClassId} {q : Nat → Nat} {σ : MS} {sz : Nat} {x1 : Int32} {x2 : Int32} {Post : MS → Prop} (hw : wpM_judges σ x1 x2 Post) : Met l yX11_judges (Cond.code yX11_judges cX11_judges 6 none :: wsA) rM_judges (xPc D cy (MW q cy σ) sz [.ref (q 0), .int x1, .int x2]) (va_Qv Post (xB D cy (MW q cy) (va_A (MW q cy σ) sz)) (va_A (MW q cy σ) sz)) 0 0 (va_A (MW q cy σ) sz) := by
  refine x_enter (own := RX11) (WW := MW q cy) (by decide) rfl (Nat.le_of_ble_eq_true rfl) ?_
  intro p e s m below meth c ls E h hl
  have hx := E.1
  have hb := E.2.1
  have hl : lv_has ls 6 [(0, .ref (q 0)), (1, .int x1), (2, .int x2)] := hl
  unfold wpM_judges at hw
  refine lv_aload_n hx hb dX11_judges_0 rfl (lv_at hl 0 rfl) ?_
  refine gX11_167 E h dX11_judges_1 ?_
  refine lv_iload_n hx hb dX11_judges_4 rfl (lv_at hl 1 rfl) ?_
  refine lv_iconst (v := 1) hx hb dX11_judges_5 (by decide) ?_
  have h2 := hw.1
  have hw := hw.2
  refine sM_49 E h h2 dX11_judges_6 (fun σ1 H locs eσ1 h => ?_)
  have hw := hw σ1 eσ1
  refine lv_aload_n hx hb dX11_judges_7 rfl (lv_at hl 0 rfl) ?_
  refine gX11_170 E h dX11_judges_8 ?_
  refine lv_iload_n hx hb dX11_judges_11 rfl (lv_at hl 1 rfl) ?_
  refine lv_aload_n hx hb dX11_judges_12 rfl (lv_at hl 0 rfl) ?_
  refine lv_iload_n hx hb dX11_judges_13 rfl (lv_at hl 1 rfl) ?_
  refine lv_iload_n hx hb dX11_judges_14 rfl (lv_at hl 2 rfl) ?_
  refine x_calli h (x_runV (WW := MW q cy) (rest := [.int x1, .ref (q 50)]) E h (cM_barOf hw) yyX11_barOf lX11_355 0 rfl rfl ⟨Nat.le_of_ble_eq_true rfl, Nat.le_of_ble_eq_true rfl⟩ rfl rfl hl.1 rfl (Nat.le_of_ble_eq_true rfl) dX11_judges_15 ⟨Nat.le_refl 0, Nat.le_refl 0⟩) (fun r3 σ4 H locs hw h => ?_)
  have h6 := hw.1
  have hw := hw.2
  refine sM_50 E h h6 dX11_judges_18 (fun σ5 H locs eσ5 h => ?_)
  have hw := hw σ5 eσ5
  refine lv_aload_n hx hb dX11_judges_19 rfl (lv_at hl 0 rfl) ?_
  refine gX11_170 E h dX11_judges_20 ?_
  refine lv_iload_n hx hb dX11_judges_23 rfl (lv_at hl 1 rfl) ?_
  have h7 := hw.1
  have hw := hw.2
  refine aM_50 E h h7 dX11_judges_24 ?_
  refine lv_iconst (v := (-1)) hx hb dX11_judges_25 (by decide) ?_
  refine lv_icmp_eq (tgt := 30) hx hb dX11_judges_26 (by decide) (fun c8 => ?_) (fun c8 => ?_)
  · have hw := hw.1 c8
    refine lv_iconst (v := 0) hx hb dX11_judges_30 (by decide) ?_
    refine lv_istore_n (lv' := [(3, .int 0), (0, .ref (q 0)), (1, .int x1), (2, .int x2)]) hx hb dX11_judges_31 rfl hl (by decide) rfl (fun ls hl => ?_)
    obtain ⟨g, hw⟩ := hw
    exact wkM_judges_32 E g _ _ _ _ _ _ _ h hw (lv_sub hl [1, 2, 3, 0] rfl)
  · have hw := hw.2 c8
    exact x_vret E h hw dX11_judges_29

abbrev rM_judgesAll : Room := { frames := 5, cells := 0, slots := 0, locals := 126 }
def wpM_judgesAll_183 (K108 : MS → Int32 → Int32 → Prop) (K121 : MS → Int32 → Int32 → Int32 → Int32 → Prop) (Post : MS → Prop) (σ : MS) (x1 : Int32) (x2 : Int32) (x4 : Int32) : Prop := ∀ y1 : Int32, y1 = x4 + 1 → K121 σ x1 x2 x4 y1
set_option maxHeartbeats 1000000 in
set_option maxRecDepth 20000 in
theorem wkM_judgesAll_183 {Post : MS → Prop} (E : xE cX11_judgesAll RX11 5 none D cy p s m args meth c) {K108 : MS → Int32 → Int32 → Prop} (hK108 : ∀ (σ : MS) (x1 : Int32) (x2 : Int32) (H : Heap) (locs : List Loc) (ls : Array Slot), xH D A s (MW q cy σ) H locs → K108 σ x1 x2 → lv_has ls 5 [(0, .ref (q 0)), (1, .int x1), (2, .int x2)] → W p l e rM_judgesAll s m args below meth c H locs 0 0 (MQ below (va_Qv Post (xB D cy (MW q cy) A) A) args s 0 0 A) (F0 m 108 ls [])) {K121 : MS → Int32 → Int32 → Int32 → Int32 → Prop} (hK121 : ∀ (σ : MS) (x1 : Int32) (x2 : Int32) (x3 : Int32) (x4 : Int32) (H : Heap) (locs : List Loc) (ls : Array Slot), xH D A s (MW q cy σ) H locs → K121 σ x1 x2 x3 x4 → lv_has ls 5 [(0, .ref (q 0)), (1, .int x1), (2, .int x2), (3, .int x3), (4, .int x4)] → W p l e rM_judgesAll s m args below meth c H locs 0 0 (MQ below (va_Qv Post (xB D cy (MW q cy) A) A) args s 0 0 A) (F0 m 121 ls [])) : ∀ (σ : MS) (x1 : Int32) (x2 : Int32) (x4 : Int32) (H : Heap) (locs : List Loc) (ls : Array Slot), xH D A s (MW q cy σ) H locs → wpM_judgesAll_183 K108 K121 Post σ x1 x2 x4 → lv_has ls 5 [(0, .ref (q 0)), (1, .int x1), (2, .int x2), (4, .int x4)] → W p l e rM_judgesAll s m args below meth c H locs 0 0 (MQ below (va_Qv Post (xB D cy (MW q cy) A) A) args s 0 0 A) (F0 m 183 ls []) := by
  have hx := E.1
  have hb := E.2.1
  intro σ x1 x2 x4 H locs ls h hw hl
  unfold wpM_judgesAll_183 at hw
  refine lv_iload hx hb dX11_judgesAll_183 (lv_at hl 3 rfl) ?_
  refine lv_istore_n (lv' := [(3, .int x4), (0, .ref (q 0)), (1, .int x1), (2, .int x2), (4, .int x4)]) hx hb dX11_judgesAll_185 rfl hl (by decide) rfl (fun ls hl => ?_)
  obtain ⟨y1, ey1⟩ : ∃ z : Int32, z = x4 + 1 := ⟨_, rfl⟩
  have hw := hw y1 ey1
  refine lv_iinc (v := y1) (lv' := [(4, .int y1), (3, .int x4), (0, .ref (q 0)), (1, .int x1), (2, .int x2)]) hx hb dX11_judgesAll_186 hl (k := 4) rfl (by rw [ey1]; rfl) (by decide) rfl (fun ls hl => ?_)
  refine lv_goto (tgt := 121) hx hb dX11_judgesAll_189 (by decide) ?_
  exact hK121 _ _ _ _ _ _ _ _ h hw (lv_sub hl [2, 3, 4, 1, 0] rfl)

def wpM_judgesAll_121 (K108 : MS → Int32 → Int32 → Prop) (Post : MS → Prop) : Nat → MS → Int32 → Int32 → Int32 → Int32 → Prop
  | 0, _, _, _, _, _ => False
  | n + 1, σ, x1, x2, x3, x4 => ((σ.1 46) ≤ x4 → (x3 = ((-1)) → Post σ) ∧ (¬ x3 = ((-1)) → wpM_judges σ x3 x1 (fun σ3 => ∀ y4 : Int32, y4 = x2 + 1 → K108 σ3 x1 y4))) ∧ (¬ (σ.1 46) ≤ x4 → vp_in x4 10 ∧ ((σ.2.1 49 x4.toNatClampNeg) = 0 → vp_in x4 10 ∧ ((σ.2.1 46 x4.toNatClampNeg) = ((-1)) → ∀ y10 : Int32, y10 = x4 + 1 → wpM_judgesAll_121 K108 Post n σ x1 x2 x3 y10) ∧ (¬ (σ.2.1 46 x4.toNatClampNeg) = ((-1)) → vp_in x4 10 ∧ ((σ.2.1 48 x4.toNatClampNeg) = 1 → (x3 = ((-1)) → wpM_judgesAll_183 K108 (fun a0 a1 a2 a3 a4 => wpM_judgesAll_121 K108 Post n a0 a1 a2 a3 a4) Post σ x1 x2 x4) ∧ (¬ x3 = ((-1)) → vp_in x4 10 ∧ vp_in x3 10 ∧ ((σ.2.1 47 x3.toNatClampNeg) ≤ (σ.2.1 47 x4.toNatClampNeg) → ∀ y18 : Int32, y18 = x4 + 1 → wpM_judgesAll_121 K108 Post n σ x1 x2 x3 y18) ∧ (¬ (σ.2.1 47 x3.toNatClampNeg) ≤ (σ.2.1 47 x4.toNatClampNeg) → wpM_judgesAll_183 K108 (fun a0 a1 a2 a3 a4 => wpM_judgesAll_121 K108 Post n a0 a1 a2 a3 a4) Post σ x1 x2 x4))) ∧ (¬ (σ.2.1 48 x4.toNatClampNeg) = 1 → ∀ y13 : Int32, y13 = x4 + 1 → wpM_judgesAll_121 K108 Post n σ x1 x2 x3 y13))) ∧ (¬ (σ.2.1 49 x4.toNatClampNeg) = 0 → ∀ y7 : Int32, y7 = x4 + 1 → wpM_judgesAll_121 K108 Post n σ x1 x2 x3 y7))
set_option maxHeartbeats 1000000 in
set_option maxRecDepth 20000 in
theorem wkM_judgesAll_121 {Post : MS → Prop} (E : xE cX11_judgesAll RX11 5 none D cy p s m args meth c) {K108 : MS → Int32 → Int32 → Prop} (hK108 : ∀ (σ : MS) (x1 : Int32) (x2 : Int32) (H : Heap) (locs : List Loc) (ls : Array Slot), xH D A s (MW q cy σ) H locs → K108 σ x1 x2 → lv_has ls 5 [(0, .ref (q 0)), (1, .int x1), (2, .int x2)] → W p l e rM_judgesAll s m args below meth c H locs 0 0 (MQ below (va_Qv Post (xB D cy (MW q cy) A) A) args s 0 0 A) (F0 m 108 ls [])) : ∀ n : Nat, ∀ (σ : MS) (x1 : Int32) (x2 : Int32) (x3 : Int32) (x4 : Int32) (H : Heap) (locs : List Loc) (ls : Array Slot), xH D A s (MW q cy σ) H locs → wpM_judgesAll_121 K108 Post n σ x1 x2 x3 x4 → lv_has ls 5 [(0, .ref (q 0)), (1, .int x1), (2, .int x2), (3, .int x3), (4, .int x4)] → W p l e rM_judgesAll s m args below meth c H locs 0 0 (MQ below (va_Qv Post (xB D cy (MW q cy) A) A) args s 0 0 A) (F0 m 121 ls []) := by
  have hx := E.1
  have hb := E.2.1
  intro n
  induction n with
  | zero => intro σ x1 x2 x3 x4 H locs ls h hw hl; exact False.elim hw
  | succ n ih =>
    intro σ x1 x2 x3 x4 H locs ls h hw hl
    refine lv_iload hx hb dX11_judgesAll_121 (lv_at hl 4 rfl) ?_
    refine lv_aload_n hx hb dX11_judgesAll_123 rfl (lv_at hl 0 rfl) ?_
    refine gX11_310 E h dX11_judgesAll_124 ?_
    refine lv_icmp_ge (tgt := 192) hx hb dX11_judgesAll_127 (by decide) (fun c1 => ?_) (fun c1 => ?_)
    · have hw := hw.1 c1
      refine lv_iload_n hx hb dX11_judgesAll_192 rfl (lv_at hl 3 rfl) ?_
      refine lv_iconst (v := (-1)) hx hb dX11_judgesAll_193 (by decide) ?_
      refine lv_icmp_ne (tgt := 198) hx hb dX11_judgesAll_194 (by decide) (fun c2 => ?_) (fun c2 => ?_)
      · have hw := hw.2 c2
        refine lv_aload_n hx hb dX11_judgesAll_198 rfl (lv_at hl 0 rfl) ?_
        refine lv_iload_n hx hb dX11_judgesAll_199 rfl (lv_at hl 3 rfl) ?_
        refine lv_iload_n hx hb dX11_judgesAll_200 rfl (lv_at hl 1 rfl) ?_
        refine x_callv h (x_runV (WW := MW q cy) (rest := []) E h (cM_judges hw) yyX11_judges lX11_370 0 rfl rfl ⟨Nat.le_of_ble_eq_true rfl, Nat.le_of_ble_eq_true rfl⟩ rfl rfl hl.1 rfl (Nat.le_of_ble_eq_true rfl) dX11_judgesAll_201 ⟨Nat.le_refl 0, Nat.le_refl 0⟩) (fun σ3 H locs hw h => ?_)
        obtain ⟨y4, ey4⟩ : ∃ z : Int32, z = x2 + 1 := ⟨_, rfl⟩
        have hw := hw y4 ey4
        refine lv_iinc (v := y4) (lv' := [(2, .int y4), (0, .ref (q 0)), (1, .int x1), (3, .int x3), (4, .int x4)]) hx hb dX11_judgesAll_204 hl (k := 2) rfl (by rw [ey4]; rfl) (by decide) rfl (fun ls hl => ?_)
        refine lv_goto (tgt := 108) hx hb dX11_judgesAll_207 (by decide) ?_
        exact hK108 _ _ _ _ _ _ h hw (lv_sub hl [1, 2, 0] rfl)
      · have hw := hw.1 c2
        exact x_vret E h hw dX11_judgesAll_197
    · have hw := hw.2 c1
      refine lv_aload_n hx hb dX11_judgesAll_130 rfl (lv_at hl 0 rfl) ?_
      refine gX11_167 E h dX11_judgesAll_131 ?_
      refine lv_iload hx hb dX11_judgesAll_134 (lv_at hl 4 rfl) ?_
      have h5 := hw.1
      have hw := hw.2
      refine aM_49 E h h5 dX11_judgesAll_136 ?_
      refine lv_if_ne (tgt := 186) hx hb dX11_judgesAll_137 (by decide) (fun c6 => ?_) (fun c6 => ?_)
      · have hw := hw.2 c6
        obtain ⟨y7, ey7⟩ : ∃ z : Int32, z = x4 + 1 := ⟨_, rfl⟩
        have hw := hw y7 ey7
        refine lv_iinc (v := y7) (lv' := [(4, .int y7), (0, .ref (q 0)), (1, .int x1), (2, .int x2), (3, .int x3)]) hx hb dX11_judgesAll_186 hl (k := 4) rfl (by rw [ey7]; rfl) (by decide) rfl (fun ls hl => ?_)
        refine lv_goto (tgt := 121) hx hb dX11_judgesAll_189 (by decide) ?_
        exact ih _ _ _ _ _ _ _ _ h hw (lv_sub hl [1, 2, 3, 4, 0] rfl)
      · have hw := hw.1 c6
        refine lv_aload_n hx hb dX11_judgesAll_140 rfl (lv_at hl 0 rfl) ?_
        refine gX11_158 E h dX11_judgesAll_141 ?_
        refine lv_iload hx hb dX11_judgesAll_144 (lv_at hl 4 rfl) ?_
        have h8 := hw.1
        have hw := hw.2
        refine aM_46 E h h8 dX11_judgesAll_146 ?_
        refine lv_iconst (v := (-1)) hx hb dX11_judgesAll_147 (by decide) ?_
        refine lv_icmp_eq (tgt := 186) hx hb dX11_judgesAll_148 (by decide) (fun c9 => ?_) (fun c9 => ?_)
        · have hw := hw.1 c9
          obtain ⟨y10, ey10⟩ : ∃ z : Int32, z = x4 + 1 := ⟨_, rfl⟩
          have hw := hw y10 ey10
          refine lv_iinc (v := y10) (lv' := [(4, .int y10), (0, .ref (q 0)), (1, .int x1), (2, .int x2), (3, .int x3)]) hx hb dX11_judgesAll_186 hl (k := 4) rfl (by rw [ey10]; rfl) (by decide) rfl (fun ls hl => ?_)
          refine lv_goto (tgt := 121) hx hb dX11_judgesAll_189 (by decide) ?_
          exact ih _ _ _ _ _ _ _ _ h hw (lv_sub hl [1, 2, 3, 4, 0] rfl)
        · have hw := hw.2 c9
          refine lv_aload_n hx hb dX11_judgesAll_151 rfl (lv_at hl 0 rfl) ?_
          refine gX11_164 E h dX11_judgesAll_152 ?_
          refine lv_iload hx hb dX11_judgesAll_155 (lv_at hl 4 rfl) ?_
          have h11 := hw.1
          have hw := hw.2
          refine aM_48 E h h11 dX11_judgesAll_157 ?_
          refine lv_iconst (v := 1) hx hb dX11_judgesAll_158 (by decide) ?_
          refine lv_icmp_ne (tgt := 186) hx hb dX11_judgesAll_159 (by decide) (fun c12 => ?_) (fun c12 => ?_)
          · have hw := hw.2 c12
            obtain ⟨y13, ey13⟩ : ∃ z : Int32, z = x4 + 1 := ⟨_, rfl⟩
            have hw := hw y13 ey13
            refine lv_iinc (v := y13) (lv' := [(4, .int y13), (0, .ref (q 0)), (1, .int x1), (2, .int x2), (3, .int x3)]) hx hb dX11_judgesAll_186 hl (k := 4) rfl (by rw [ey13]; rfl) (by decide) rfl (fun ls hl => ?_)
            refine lv_goto (tgt := 121) hx hb dX11_judgesAll_189 (by decide) ?_
            exact ih _ _ _ _ _ _ _ _ h hw (lv_sub hl [1, 2, 3, 4, 0] rfl)
          · have hw := hw.1 c12
            refine lv_iload_n hx hb dX11_judgesAll_162 rfl (lv_at hl 3 rfl) ?_
            refine lv_iconst (v := (-1)) hx hb dX11_judgesAll_163 (by decide) ?_
            refine lv_icmp_eq (tgt := 183) hx hb dX11_judgesAll_164 (by decide) (fun c14 => ?_) (fun c14 => ?_)
            · have hw := hw.1 c14
              exact wkM_judgesAll_183 E hK108 ih _ _ _ _ _ _ _ h hw (lv_sub hl [0, 1, 2, 4] rfl)
            · have hw := hw.2 c14
              refine lv_aload_n hx hb dX11_judgesAll_167 rfl (lv_at hl 0 rfl) ?_
              refine gX11_161 E h dX11_judgesAll_168 ?_
              refine lv_iload hx hb dX11_judgesAll_171 (lv_at hl 4 rfl) ?_
              have h15 := hw.1
              have hw := hw.2
              refine aM_47 E h h15 dX11_judgesAll_173 ?_
              refine lv_aload_n hx hb dX11_judgesAll_174 rfl (lv_at hl 0 rfl) ?_
              refine gX11_161 E h dX11_judgesAll_175 ?_
              refine lv_iload_n hx hb dX11_judgesAll_178 rfl (lv_at hl 3 rfl) ?_
              have h16 := hw.1
              have hw := hw.2
              refine aM_47 E h h16 dX11_judgesAll_179 ?_
              refine lv_icmp_ge (tgt := 186) hx hb dX11_judgesAll_180 (by decide) (fun c17 => ?_) (fun c17 => ?_)
              · have hw := hw.1 c17
                obtain ⟨y18, ey18⟩ : ∃ z : Int32, z = x4 + 1 := ⟨_, rfl⟩
                have hw := hw y18 ey18
                refine lv_iinc (v := y18) (lv' := [(4, .int y18), (0, .ref (q 0)), (1, .int x1), (2, .int x2), (3, .int x3)]) hx hb dX11_judgesAll_186 hl (k := 4) rfl (by rw [ey18]; rfl) (by decide) rfl (fun ls hl => ?_)
                refine lv_goto (tgt := 121) hx hb dX11_judgesAll_189 (by decide) ?_
                exact ih _ _ _ _ _ _ _ _ h hw (lv_sub hl [1, 2, 3, 4, 0] rfl)
              · have hw := hw.2 c17
                exact wkM_judgesAll_183 E hK108 ih _ _ _ _ _ _ _ h hw (lv_sub hl [0, 1, 2, 4] rfl)

def wpM_judgesAll_108 (Post : MS → Prop) : Nat → MS → Int32 → Int32 → Prop
  | 0, _, _, _ => False
  | n + 1, σ, x1, x2 => ((σ.1 46) ≤ x2 → Post σ) ∧ (¬ (σ.1 46) ≤ x2 → ∃ g, wpM_judgesAll_121 (fun a0 a1 a2 => wpM_judgesAll_108 Post n a0 a1 a2) Post g σ x1 x2 ((-1)) 0)
set_option maxHeartbeats 1000000 in
set_option maxRecDepth 20000 in
theorem wkM_judgesAll_108 {Post : MS → Prop} (E : xE cX11_judgesAll RX11 5 none D cy p s m args meth c) : ∀ n : Nat, ∀ (σ : MS) (x1 : Int32) (x2 : Int32) (H : Heap) (locs : List Loc) (ls : Array Slot), xH D A s (MW q cy σ) H locs → wpM_judgesAll_108 Post n σ x1 x2 → lv_has ls 5 [(0, .ref (q 0)), (1, .int x1), (2, .int x2)] → W p l e rM_judgesAll s m args below meth c H locs 0 0 (MQ below (va_Qv Post (xB D cy (MW q cy) A) A) args s 0 0 A) (F0 m 108 ls []) := by
  have hx := E.1
  have hb := E.2.1
  intro n
  induction n with
  | zero => intro σ x1 x2 H locs ls h hw hl; exact False.elim hw
  | succ n ih =>
    intro σ x1 x2 H locs ls h hw hl
    refine lv_iload_n hx hb dX11_judgesAll_108 rfl (lv_at hl 2 rfl) ?_
    refine lv_aload_n hx hb dX11_judgesAll_109 rfl (lv_at hl 0 rfl) ?_
    refine gX11_310 E h dX11_judgesAll_110 ?_
    refine lv_icmp_ge (tgt := 210) hx hb dX11_judgesAll_113 (by decide) (fun c1 => ?_) (fun c1 => ?_)
    · have hw := hw.1 c1
      exact x_vret E h hw dX11_judgesAll_210
    · have hw := hw.2 c1
      refine lv_iconst (v := (-1)) hx hb dX11_judgesAll_116 (by decide) ?_
      refine lv_istore_n (lv' := [(3, .int ((-1))), (0, .ref (q 0)), (1, .int x1), (2, .int x2)]) hx hb dX11_judgesAll_117 rfl hl (by decide) rfl (fun ls hl => ?_)
      refine lv_iconst (v := 0) hx hb dX11_judgesAll_118 (by decide) ?_
      refine lv_istore (lv' := [(4, .int 0), (3, .int ((-1))), (0, .ref (q 0)), (1, .int x1), (2, .int x2)]) hx hb dX11_judgesAll_119 hl (by decide) rfl (fun ls hl => ?_)
      obtain ⟨g, hw⟩ := hw
      exact wkM_judgesAll_121 E ih g _ _ _ _ _ _ _ _ h hw (lv_sub hl [2, 3, 4, 1, 0] rfl)

def wpM_judgesAll_16 (Post : MS → Prop) : Nat → MS → Int32 → Int32 → Prop
  | 0, _, _, _ => False
  | n + 1, σ, x1, x2 => ((σ.1 46) ≤ x2 → ∃ g, wpM_judgesAll_108 Post g σ x1 0) ∧ (¬ (σ.1 46) ≤ x2 → wpM_proofOf σ x2 x1 (fun r2 σ3 => vp_in x2 10 ∧ ∀ σ4 : MS, σ4 = mA σ3 46 (upd (σ3.2.1 46) x2.toNatClampNeg r2) → wpM_effects σ4 x2 x1 (fun σ6 => vp_in x2 10 ∧ ∀ σ7 : MS, σ7 = mA σ6 49 (upd (σ6.2.1 49) x2.toNatClampNeg (vp_nar .boolean 0)) → vp_in x2 10 ∧ ∀ σ9 : MS, σ9 = mA σ7 56 (upd (σ7.2.1 56) x2.toNatClampNeg (vp_nar .boolean 0)) → vp_in x2 10 ∧ ∀ σ11 : MS, σ11 = mA σ9 50 (upd (σ9.2.1 50) x2.toNatClampNeg ((-1))) → vp_in x2 10 ∧ ∀ σ13 : MS, σ13 = mA σ11 51 (upd (σ11.2.1 51) x2.toNatClampNeg ((-1))) → vp_in x2 10 ∧ ∀ σ15 : MS, σ15 = mA σ13 52 (upd (σ13.2.1 52) x2.toNatClampNeg 1000000) → vp_in x2 10 ∧ ∀ σ17 : MS, σ17 = mA σ15 53 (upd (σ15.2.1 53) x2.toNatClampNeg 0) → vp_in x2 10 ∧ ∀ σ19 : MS, σ19 = mA σ17 54 (upd (σ17.2.1 54) x2.toNatClampNeg ((-1))) → vp_in x2 10 ∧ ∀ σ21 : MS, σ21 = mA σ19 55 (upd (σ19.2.1 55) x2.toNatClampNeg 0) → ∀ y23 : Int32, y23 = x2 + 1 → wpM_judgesAll_16 Post n σ21 x1 y23)))
set_option maxHeartbeats 1000000 in
set_option maxRecDepth 20000 in
theorem wkM_judgesAll_16 {Post : MS → Prop} (E : xE cX11_judgesAll RX11 5 none D cy p s m args meth c) : ∀ n : Nat, ∀ (σ : MS) (x1 : Int32) (x2 : Int32) (H : Heap) (locs : List Loc) (ls : Array Slot), xH D A s (MW q cy σ) H locs → wpM_judgesAll_16 Post n σ x1 x2 → lv_has ls 5 [(0, .ref (q 0)), (1, .int x1), (2, .int x2)] → W p l e rM_judgesAll s m args below meth c H locs 0 0 (MQ below (va_Qv Post (xB D cy (MW q cy) A) A) args s 0 0 A) (F0 m 16 ls []) := by
  have hx := E.1
  have hb := E.2.1
  intro n
  induction n with
  | zero => intro σ x1 x2 H locs ls h hw hl; exact False.elim hw
  | succ n ih =>
    intro σ x1 x2 H locs ls h hw hl
    refine lv_iload_n hx hb dX11_judgesAll_16 rfl (lv_at hl 2 rfl) ?_
    refine lv_aload_n hx hb dX11_judgesAll_17 rfl (lv_at hl 0 rfl) ?_
    refine gX11_310 E h dX11_judgesAll_18 ?_
    refine lv_icmp_ge (tgt := 106) hx hb dX11_judgesAll_21 (by decide) (fun c1 => ?_) (fun c1 => ?_)
    · have hw := hw.1 c1
      refine lv_iconst (v := 0) hx hb dX11_judgesAll_106 (by decide) ?_
      refine lv_istore_n (lv' := [(2, .int 0), (0, .ref (q 0)), (1, .int x1)]) hx hb dX11_judgesAll_107 rfl hl (by decide) rfl (fun ls hl => ?_)
      obtain ⟨g, hw⟩ := hw
      exact wkM_judgesAll_108 E g _ _ _ _ _ _ h hw (lv_sub hl [1, 2, 0] rfl)
    · have hw := hw.2 c1
      refine lv_aload_n hx hb dX11_judgesAll_24 rfl (lv_at hl 0 rfl) ?_
      refine gX11_158 E h dX11_judgesAll_25 ?_
      refine lv_iload_n hx hb dX11_judgesAll_28 rfl (lv_at hl 2 rfl) ?_
      refine lv_aload_n hx hb dX11_judgesAll_29 rfl (lv_at hl 0 rfl) ?_
      refine lv_iload_n hx hb dX11_judgesAll_30 rfl (lv_at hl 2 rfl) ?_
      refine lv_iload_n hx hb dX11_judgesAll_31 rfl (lv_at hl 1 rfl) ?_
      refine x_calli h (x_runV (WW := MW q cy) (rest := [.int x2, .ref (q 46)]) E h (cM_proofOf hw) yyX11_proofOf lX11_364 0 rfl rfl ⟨Nat.le_of_ble_eq_true rfl, Nat.le_of_ble_eq_true rfl⟩ rfl rfl hl.1 rfl (Nat.le_of_ble_eq_true rfl) dX11_judgesAll_32 ⟨Nat.le_refl 0, Nat.le_refl 0⟩) (fun r2 σ3 H locs hw h => ?_)
      have h5 := hw.1
      have hw := hw.2
      refine sM_46 E h h5 dX11_judgesAll_35 (fun σ4 H locs eσ4 h => ?_)
      have hw := hw σ4 eσ4
      refine lv_aload_n hx hb dX11_judgesAll_36 rfl (lv_at hl 0 rfl) ?_
      refine lv_iload_n hx hb dX11_judgesAll_37 rfl (lv_at hl 2 rfl) ?_
      refine lv_iload_n hx hb dX11_judgesAll_38 rfl (lv_at hl 1 rfl) ?_
      refine x_callv h (x_runV (WW := MW q cy) (rest := []) E h (cM_effects hw) yyX11_effects lX11_367 0 rfl rfl ⟨Nat.le_of_ble_eq_true rfl, Nat.le_of_ble_eq_true rfl⟩ rfl rfl hl.1 rfl (Nat.le_of_ble_eq_true rfl) dX11_judgesAll_39 ⟨Nat.le_refl 0, Nat.le_refl 0⟩) (fun σ6 H locs hw h => ?_)
      refine lv_aload_n hx hb dX11_judgesAll_42 rfl (lv_at hl 0 rfl) ?_
      refine gX11_167 E h dX11_judgesAll_43 ?_
      refine lv_iload_n hx hb dX11_judgesAll_46 rfl (lv_at hl 2 rfl) ?_
      refine lv_iconst (v := 0) hx hb dX11_judgesAll_47 (by decide) ?_
      have h8 := hw.1
      have hw := hw.2
      refine sM_49 E h h8 dX11_judgesAll_48 (fun σ7 H locs eσ7 h => ?_)
      have hw := hw σ7 eσ7
      refine lv_aload_n hx hb dX11_judgesAll_49 rfl (lv_at hl 0 rfl) ?_
      refine gX11_188 E h dX11_judgesAll_50 ?_
      refine lv_iload_n hx hb dX11_judgesAll_53 rfl (lv_at hl 2 rfl) ?_
      refine lv_iconst (v := 0) hx hb dX11_judgesAll_54 (by decide) ?_
      have h10 := hw.1
      have hw := hw.2
      refine sM_56 E h h10 dX11_judgesAll_55 (fun σ9 H locs eσ9 h => ?_)
      have hw := hw σ9 eσ9
      refine lv_aload_n hx hb dX11_judgesAll_56 rfl (lv_at hl 0 rfl) ?_
      refine gX11_170 E h dX11_judgesAll_57 ?_
      refine lv_iload_n hx hb dX11_judgesAll_60 rfl (lv_at hl 2 rfl) ?_
      refine lv_iconst (v := (-1)) hx hb dX11_judgesAll_61 (by decide) ?_
      have h12 := hw.1
      have hw := hw.2
      refine sM_50 E h h12 dX11_judgesAll_62 (fun σ11 H locs eσ11 h => ?_)
      have hw := hw σ11 eσ11
      refine lv_aload_n hx hb dX11_judgesAll_63 rfl (lv_at hl 0 rfl) ?_
      refine gX11_173 E h dX11_judgesAll_64 ?_
      refine lv_iload_n hx hb dX11_judgesAll_67 rfl (lv_at hl 2 rfl) ?_
      refine lv_iconst (v := (-1)) hx hb dX11_judgesAll_68 (by decide) ?_
      have h14 := hw.1
      have hw := hw.2
      refine sM_51 E h h14 dX11_judgesAll_69 (fun σ13 H locs eσ13 h => ?_)
      have hw := hw σ13 eσ13
      refine lv_aload_n hx hb dX11_judgesAll_70 rfl (lv_at hl 0 rfl) ?_
      refine gX11_176 E h dX11_judgesAll_71 ?_
      refine lv_iload_n hx hb dX11_judgesAll_74 rfl (lv_at hl 2 rfl) ?_
      refine lv_ldcw (own := RX11) (v := 1000000) hx hb E.2.2.2.1 (E.2.2.2.2.1 _ kX11_345) dX11_judgesAll_75 ?_
      have h16 := hw.1
      have hw := hw.2
      refine sM_52 E h h16 dX11_judgesAll_78 (fun σ15 H locs eσ15 h => ?_)
      have hw := hw σ15 eσ15
      refine lv_aload_n hx hb dX11_judgesAll_79 rfl (lv_at hl 0 rfl) ?_
      refine gX11_179 E h dX11_judgesAll_80 ?_
      refine lv_iload_n hx hb dX11_judgesAll_83 rfl (lv_at hl 2 rfl) ?_
      refine lv_iconst (v := 0) hx hb dX11_judgesAll_84 (by decide) ?_
      have h18 := hw.1
      have hw := hw.2
      refine sM_53 E h h18 dX11_judgesAll_85 (fun σ17 H locs eσ17 h => ?_)
      have hw := hw σ17 eσ17
      refine lv_aload_n hx hb dX11_judgesAll_86 rfl (lv_at hl 0 rfl) ?_
      refine gX11_182 E h dX11_judgesAll_87 ?_
      refine lv_iload_n hx hb dX11_judgesAll_90 rfl (lv_at hl 2 rfl) ?_
      refine lv_iconst (v := (-1)) hx hb dX11_judgesAll_91 (by decide) ?_
      have h20 := hw.1
      have hw := hw.2
      refine sM_54 E h h20 dX11_judgesAll_92 (fun σ19 H locs eσ19 h => ?_)
      have hw := hw σ19 eσ19
      refine lv_aload_n hx hb dX11_judgesAll_93 rfl (lv_at hl 0 rfl) ?_
      refine gX11_185 E h dX11_judgesAll_94 ?_
      refine lv_iload_n hx hb dX11_judgesAll_97 rfl (lv_at hl 2 rfl) ?_
      refine lv_iconst (v := 0) hx hb dX11_judgesAll_98 (by decide) ?_
      have h22 := hw.1
      have hw := hw.2
      refine sM_55 E h h22 dX11_judgesAll_99 (fun σ21 H locs eσ21 h => ?_)
      have hw := hw σ21 eσ21
      obtain ⟨y23, ey23⟩ : ∃ z : Int32, z = x2 + 1 := ⟨_, rfl⟩
      have hw := hw y23 ey23
      refine lv_iinc (v := y23) (lv' := [(2, .int y23), (0, .ref (q 0)), (1, .int x1)]) hx hb dX11_judgesAll_100 hl (k := 2) rfl (by rw [ey23]; rfl) (by decide) rfl (fun ls hl => ?_)
      refine lv_goto (tgt := 16) hx hb dX11_judgesAll_103 (by decide) ?_
      exact ih _ _ _ _ _ _ h hw (lv_sub hl [1, 2, 0] rfl)

def wpM_judgesAll (σ : MS) (x1 : Int32) (Post : MS → Prop) : Prop := ((σ.1 64) = x1 → Post σ) ∧ (¬ (σ.1 64) = x1 → ∀ σ2 : MS, σ2 = mF σ 64 x1 → ∃ g, wpM_judgesAll_16 Post g σ2 x1 0)
set_option maxHeartbeats 1000000 in
set_option maxRecDepth 20000 in
theorem cM_judgesAll {l : Launch} {D : va_G} {cy : Nat → ClassId} {q : Nat → Nat} {σ : MS} {sz : Nat} {x1 : Int32} {Post : MS → Prop} (hw : wpM_judgesAll σ x1 Post) : Met l yX11_judgesAll (Cond.code yX11_judgesAll cX11_judgesAll 5 none :: wsA) rM_judgesAll (xPc D cy (MW q cy σ) sz [.ref (q 0), .int x1]) (va_Qv Post (xB D cy (MW q cy) (va_A (MW q cy σ) sz)) (va_A (MW q cy σ) sz)) 0 0 (va_A (MW q cy σ) sz) := by
  refine x_enter (own := RX11) (WW := MW q cy) (by decide) rfl (Nat.le_of_ble_eq_true rfl) ?_
  intro p e s m below meth c ls E h hl
  have hx := E.1
  have hb := E.2.1
  have hl : lv_has ls 5 [(0, .ref (q 0)), (1, .int x1)] := hl
  unfold wpM_judgesAll at hw
  refine lv_aload_n hx hb dX11_judgesAll_0 rfl (lv_at hl 0 rfl) ?_
  refine gX11_155 E h dX11_judgesAll_1 ?_
  refine lv_iload_n hx hb dX11_judgesAll_4 rfl (lv_at hl 1 rfl) ?_
  refine lv_icmp_ne (tgt := 9) hx hb dX11_judgesAll_5 (by decide) (fun c1 => ?_) (fun c1 => ?_)
  · have hw := hw.2 c1
    refine lv_aload_n hx hb dX11_judgesAll_9 rfl (lv_at hl 0 rfl) ?_
    refine lv_iload_n hx hb dX11_judgesAll_10 rfl (lv_at hl 1 rfl) ?_
    refine pX11_155 E h dX11_judgesAll_11 (fun σ2 H locs eσ2 h => ?_)
    have hw := hw σ2 eσ2
    refine lv_iconst (v := 0) hx hb dX11_judgesAll_14 (by decide) ?_
    refine lv_istore_n (lv' := [(2, .int 0), (0, .ref (q 0)), (1, .int x1)]) hx hb dX11_judgesAll_15 rfl hl (by decide) rfl (fun ls hl => ?_)
    obtain ⟨g, hw⟩ := hw
    exact wkM_judgesAll_16 E g _ _ _ _ _ _ h hw (lv_sub hl [1, 2, 0] rfl)
  · have hw := hw.1 c1
    exact x_vret E h hw dX11_judgesAll_8

abbrev rM_proved : Room := { frames := 6, cells := 0, slots := 0, locals := 150 }
def wpM_proved (σ : MS) (x1 : Int32) (x2 : Int32) (Post : Int32 → MS → Prop) : Prop := wpM_isPromise σ x1 (fun r1 σ2 => (r1 = 0 → Post ((-1)) σ2) ∧ (¬ r1 = 0 → wpM_isKnown σ2 x2 (fun r4 σ5 => (r4 = 0 → Post ((-1)) σ5) ∧ (¬ r4 = 0 → wpM_judgesAll σ5 x2 (fun σ7 => vp_in x1 10 ∧ Post (σ7.2.1 46 x1.toNatClampNeg) σ7)))))
set_option maxHeartbeats 1000000 in
set_option maxRecDepth 20000 in
theorem cM_proved {l : Launch} {D : va_G} {cy : Nat → ClassId} {q : Nat → Nat} {σ : MS} {sz : Nat} {x1 : Int32} {x2 : Int32} {Post : Int32 → MS → Prop} (hw : wpM_proved σ x1 x2 Post) : Met l yX11_proved (Cond.code yX11_proved cX11_proved 3 (some .int) :: wsA) rM_proved (xPc D cy (MW q cy σ) sz [.ref (q 0), .int x1, .int x2]) (va_Qi Post (xB D cy (MW q cy) (va_A (MW q cy σ) sz)) (va_A (MW q cy σ) sz)) 0 0 (va_A (MW q cy σ) sz) := by
  refine x_enter (own := RX11) (WW := MW q cy) (by decide) rfl (Nat.le_of_ble_eq_true rfl) ?_
  intro p e s m below meth c ls E h hl
  have hx := E.1
  have hb := E.2.1
  have hl : lv_has ls 3 [(0, .ref (q 0)), (1, .int x1), (2, .int x2)] := hl
  unfold wpM_proved at hw
  refine lv_aload_n hx hb dX11_proved_0 rfl (lv_at hl 0 rfl) ?_
  refine lv_iload_n hx hb dX11_proved_1 rfl (lv_at hl 1 rfl) ?_
  refine x_calli h (x_runV (WW := MW q cy) (rest := []) E h (cM_isPromise hw) yyX11_isPromise lX11_319 0 rfl rfl ⟨Nat.le_of_ble_eq_true rfl, Nat.le_of_ble_eq_true rfl⟩ rfl rfl hl.1 rfl (Nat.le_of_ble_eq_true rfl) dX11_proved_2 ⟨Nat.le_refl 0, Nat.le_refl 0⟩) (fun r1 σ2 H locs hw h => ?_)
  refine lv_if_eq (tgt := 16) hx hb dX11_proved_5 (by decide) (fun c3 => ?_) (fun c3 => ?_)
  · have hw := hw.1 c3
    refine lv_iconst (v := (-1)) hx hb dX11_proved_16 (by decide) ?_
    exact x_iret E h hw dX11_proved_17
  · have hw := hw.2 c3
    refine lv_aload_n hx hb dX11_proved_8 rfl (lv_at hl 0 rfl) ?_
    refine lv_iload_n hx hb dX11_proved_9 rfl (lv_at hl 2 rfl) ?_
    refine x_calli h (x_runV (WW := MW q cy) (rest := []) E h (cM_isKnown hw) yyX11_isKnown lX11_373 0 rfl rfl ⟨Nat.le_of_ble_eq_true rfl, Nat.le_of_ble_eq_true rfl⟩ rfl rfl hl.1 rfl (Nat.le_of_ble_eq_true rfl) dX11_proved_10 ⟨Nat.le_refl 0, Nat.le_refl 0⟩) (fun r4 σ5 H locs hw h => ?_)
    refine lv_if_ne (tgt := 18) hx hb dX11_proved_13 (by decide) (fun c6 => ?_) (fun c6 => ?_)
    · have hw := hw.2 c6
      refine lv_aload_n hx hb dX11_proved_18 rfl (lv_at hl 0 rfl) ?_
      refine lv_iload_n hx hb dX11_proved_19 rfl (lv_at hl 2 rfl) ?_
      refine x_callv h (x_runV (WW := MW q cy) (rest := []) E h (cM_judgesAll hw) yyX11_judgesAll lX11_376 0 rfl rfl ⟨Nat.le_of_ble_eq_true rfl, Nat.le_of_ble_eq_true rfl⟩ rfl rfl hl.1 rfl (Nat.le_of_ble_eq_true rfl) dX11_proved_20 ⟨Nat.le_refl 0, Nat.le_refl 0⟩) (fun σ7 H locs hw h => ?_)
      refine lv_aload_n hx hb dX11_proved_23 rfl (lv_at hl 0 rfl) ?_
      refine gX11_158 E h dX11_proved_24 ?_
      refine lv_iload_n hx hb dX11_proved_27 rfl (lv_at hl 1 rfl) ?_
      have h8 := hw.1
      have hw := hw.2
      refine aM_46 E h h8 dX11_proved_28 ?_
      exact x_iret E h hw dX11_proved_29
    · have hw := hw.1 c6
      refine lv_iconst (v := (-1)) hx hb dX11_proved_16 (by decide) ?_
      exact x_iret E h hw dX11_proved_17

abbrev rM_barred : Room := { frames := 6, cells := 0, slots := 0, locals := 150 }
def wpM_barred (σ : MS) (x1 : Int32) (x2 : Int32) (Post : Int32 → MS → Prop) : Prop := wpM_isPromise σ x1 (fun r1 σ2 => (r1 = 0 → Post ((-1)) σ2) ∧ (¬ r1 = 0 → wpM_isKnown σ2 x2 (fun r4 σ5 => (r4 = 0 → Post ((-1)) σ5) ∧ (¬ r4 = 0 → wpM_judgesAll σ5 x2 (fun σ7 => vp_in x1 10 ∧ Post (σ7.2.1 50 x1.toNatClampNeg) σ7)))))
set_option maxHeartbeats 1000000 in
set_option maxRecDepth 20000 in
theorem cM_barred {l : Launch} {D : va_G} {cy : Nat → ClassId} {q : Nat → Nat} {σ : MS} {sz : Nat} {x1 : Int32} {x2 : Int32} {Post : Int32 → MS → Prop} (hw : wpM_barred σ x1 x2 Post) : Met l yX11_barred (Cond.code yX11_barred cX11_barred 3 (some .int) :: wsA) rM_barred (xPc D cy (MW q cy σ) sz [.ref (q 0), .int x1, .int x2]) (va_Qi Post (xB D cy (MW q cy) (va_A (MW q cy σ) sz)) (va_A (MW q cy σ) sz)) 0 0 (va_A (MW q cy σ) sz) := by
  refine x_enter (own := RX11) (WW := MW q cy) (by decide) rfl (Nat.le_of_ble_eq_true rfl) ?_
  intro p e s m below meth c ls E h hl
  have hx := E.1
  have hb := E.2.1
  have hl : lv_has ls 3 [(0, .ref (q 0)), (1, .int x1), (2, .int x2)] := hl
  unfold wpM_barred at hw
  refine lv_aload_n hx hb dX11_barred_0 rfl (lv_at hl 0 rfl) ?_
  refine lv_iload_n hx hb dX11_barred_1 rfl (lv_at hl 1 rfl) ?_
  refine x_calli h (x_runV (WW := MW q cy) (rest := []) E h (cM_isPromise hw) yyX11_isPromise lX11_319 0 rfl rfl ⟨Nat.le_of_ble_eq_true rfl, Nat.le_of_ble_eq_true rfl⟩ rfl rfl hl.1 rfl (Nat.le_of_ble_eq_true rfl) dX11_barred_2 ⟨Nat.le_refl 0, Nat.le_refl 0⟩) (fun r1 σ2 H locs hw h => ?_)
  refine lv_if_eq (tgt := 16) hx hb dX11_barred_5 (by decide) (fun c3 => ?_) (fun c3 => ?_)
  · have hw := hw.1 c3
    refine lv_iconst (v := (-1)) hx hb dX11_barred_16 (by decide) ?_
    exact x_iret E h hw dX11_barred_17
  · have hw := hw.2 c3
    refine lv_aload_n hx hb dX11_barred_8 rfl (lv_at hl 0 rfl) ?_
    refine lv_iload_n hx hb dX11_barred_9 rfl (lv_at hl 2 rfl) ?_
    refine x_calli h (x_runV (WW := MW q cy) (rest := []) E h (cM_isKnown hw) yyX11_isKnown lX11_373 0 rfl rfl ⟨Nat.le_of_ble_eq_true rfl, Nat.le_of_ble_eq_true rfl⟩ rfl rfl hl.1 rfl (Nat.le_of_ble_eq_true rfl) dX11_barred_10 ⟨Nat.le_refl 0, Nat.le_refl 0⟩) (fun r4 σ5 H locs hw h => ?_)
    refine lv_if_ne (tgt := 18) hx hb dX11_barred_13 (by decide) (fun c6 => ?_) (fun c6 => ?_)
    · have hw := hw.2 c6
      refine lv_aload_n hx hb dX11_barred_18 rfl (lv_at hl 0 rfl) ?_
      refine lv_iload_n hx hb dX11_barred_19 rfl (lv_at hl 2 rfl) ?_
      refine x_callv h (x_runV (WW := MW q cy) (rest := []) E h (cM_judgesAll hw) yyX11_judgesAll lX11_376 0 rfl rfl ⟨Nat.le_of_ble_eq_true rfl, Nat.le_of_ble_eq_true rfl⟩ rfl rfl hl.1 rfl (Nat.le_of_ble_eq_true rfl) dX11_barred_20 ⟨Nat.le_refl 0, Nat.le_refl 0⟩) (fun σ7 H locs hw h => ?_)
      refine lv_aload_n hx hb dX11_barred_23 rfl (lv_at hl 0 rfl) ?_
      refine gX11_170 E h dX11_barred_24 ?_
      refine lv_iload_n hx hb dX11_barred_27 rfl (lv_at hl 1 rfl) ?_
      have h8 := hw.1
      have hw := hw.2
      refine aM_50 E h h8 dX11_barred_28 ?_
      exact x_iret E h hw dX11_barred_29
    · have hw := hw.1 c6
      refine lv_iconst (v := (-1)) hx hb dX11_barred_16 (by decide) ?_
      exact x_iret E h hw dX11_barred_17

abbrev rM_stateOf : Room := { frames := 0, cells := 0, slots := 0, locals := 0 }
def wpM_stateOf (σ : MS) (x1 : Int32) (x2 : Int32) (Post : Int32 → MS → Prop) : Prop := vp_in x1 10 ∧ ((σ.2.1 46 x1.toNatClampNeg) = ((-1)) → Post 0 σ) ∧ (¬ (σ.2.1 46 x1.toNatClampNeg) = ((-1)) → vp_in x1 10 ∧ ((σ.2.1 47 x1.toNatClampNeg) ≤ x2 → vp_in x1 10 ∧ ((σ.2.1 48 x1.toNatClampNeg) = 2 → Post 3 σ) ∧ (¬ (σ.2.1 48 x1.toNatClampNeg) = 2 → vp_in x1 10 ∧ ((σ.2.1 50 x1.toNatClampNeg) = ((-1)) → vp_in x1 10 ∧ ((σ.2.1 51 x1.toNatClampNeg) = ((-1)) → vp_in x1 10 ∧ ((σ.2.1 52 x1.toNatClampNeg) ≤ x2 → vp_in x1 10 ∧ Post (σ.2.1 53 x1.toNatClampNeg) σ) ∧ (¬ (σ.2.1 52 x1.toNatClampNeg) ≤ x2 → Post 6 σ)) ∧ (¬ (σ.2.1 51 x1.toNatClampNeg) = ((-1)) → Post 5 σ)) ∧ (¬ (σ.2.1 50 x1.toNatClampNeg) = ((-1)) → Post 4 σ))) ∧ (¬ (σ.2.1 47 x1.toNatClampNeg) ≤ x2 → vp_in x1 10 ∧ ((σ.2.1 36 x1.toNatClampNeg) = ((-1)) → Post 1 σ) ∧ (¬ (σ.2.1 36 x1.toNatClampNeg) = ((-1)) → Post 2 σ)))
set_option maxHeartbeats 1000000 in
set_option maxRecDepth 20000 in
theorem cM_stateOf {l : Launch} {D : va_G} {cy : Nat → ClassId} {q : Nat → Nat} {σ : MS} {sz : Nat} {x1 : Int32} {x2 : Int32} {Post : Int32 → MS → Prop} (hw : wpM_stateOf σ x1 x2 Post) : Met l yX11_stateOf (Cond.code yX11_stateOf cX11_stateOf 3 (some .int) :: wsA) rM_stateOf (xPc D cy (MW q cy σ) sz [.ref (q 0), .int x1, .int x2]) (va_Qi Post (xB D cy (MW q cy) (va_A (MW q cy σ) sz)) (va_A (MW q cy σ) sz)) 0 0 (va_A (MW q cy σ) sz) := by
  refine x_enter (own := RX11) (WW := MW q cy) (by decide) rfl (Nat.le_of_ble_eq_true rfl) ?_
  intro p e s m below meth c ls E h hl
  have hx := E.1
  have hb := E.2.1
  have hl : lv_has ls 3 [(0, .ref (q 0)), (1, .int x1), (2, .int x2)] := hl
  unfold wpM_stateOf at hw
  refine lv_aload_n hx hb dX11_stateOf_0 rfl (lv_at hl 0 rfl) ?_
  refine gX11_158 E h dX11_stateOf_1 ?_
  refine lv_iload_n hx hb dX11_stateOf_4 rfl (lv_at hl 1 rfl) ?_
  have h1 := hw.1
  have hw := hw.2
  refine aM_46 E h h1 dX11_stateOf_5 ?_
  refine lv_iconst (v := (-1)) hx hb dX11_stateOf_6 (by decide) ?_
  refine lv_icmp_ne (tgt := 12) hx hb dX11_stateOf_7 (by decide) (fun c2 => ?_) (fun c2 => ?_)
  · have hw := hw.2 c2
    refine lv_iload_n hx hb dX11_stateOf_12 rfl (lv_at hl 2 rfl) ?_
    refine lv_aload_n hx hb dX11_stateOf_13 rfl (lv_at hl 0 rfl) ?_
    refine gX11_161 E h dX11_stateOf_14 ?_
    refine lv_iload_n hx hb dX11_stateOf_17 rfl (lv_at hl 1 rfl) ?_
    have h3 := hw.1
    have hw := hw.2
    refine aM_47 E h h3 dX11_stateOf_18 ?_
    refine lv_icmp_ge (tgt := 38) hx hb dX11_stateOf_19 (by decide) (fun c4 => ?_) (fun c4 => ?_)
    · have hw := hw.1 c4
      refine lv_aload_n hx hb dX11_stateOf_38 rfl (lv_at hl 0 rfl) ?_
      refine gX11_164 E h dX11_stateOf_39 ?_
      refine lv_iload_n hx hb dX11_stateOf_42 rfl (lv_at hl 1 rfl) ?_
      have h5 := hw.1
      have hw := hw.2
      refine aM_48 E h h5 dX11_stateOf_43 ?_
      refine lv_iconst (v := 2) hx hb dX11_stateOf_44 (by decide) ?_
      refine lv_icmp_ne (tgt := 50) hx hb dX11_stateOf_45 (by decide) (fun c6 => ?_) (fun c6 => ?_)
      · have hw := hw.2 c6
        refine lv_aload_n hx hb dX11_stateOf_50 rfl (lv_at hl 0 rfl) ?_
        refine gX11_170 E h dX11_stateOf_51 ?_
        refine lv_iload_n hx hb dX11_stateOf_54 rfl (lv_at hl 1 rfl) ?_
        have h7 := hw.1
        have hw := hw.2
        refine aM_50 E h h7 dX11_stateOf_55 ?_
        refine lv_iconst (v := (-1)) hx hb dX11_stateOf_56 (by decide) ?_
        refine lv_icmp_eq (tgt := 62) hx hb dX11_stateOf_57 (by decide) (fun c8 => ?_) (fun c8 => ?_)
        · have hw := hw.1 c8
          refine lv_aload_n hx hb dX11_stateOf_62 rfl (lv_at hl 0 rfl) ?_
          refine gX11_173 E h dX11_stateOf_63 ?_
          refine lv_iload_n hx hb dX11_stateOf_66 rfl (lv_at hl 1 rfl) ?_
          have h9 := hw.1
          have hw := hw.2
          refine aM_51 E h h9 dX11_stateOf_67 ?_
          refine lv_iconst (v := (-1)) hx hb dX11_stateOf_68 (by decide) ?_
          refine lv_icmp_eq (tgt := 74) hx hb dX11_stateOf_69 (by decide) (fun c10 => ?_) (fun c10 => ?_)
          · have hw := hw.1 c10
            refine lv_iload_n hx hb dX11_stateOf_74 rfl (lv_at hl 2 rfl) ?_
            refine lv_aload_n hx hb dX11_stateOf_75 rfl (lv_at hl 0 rfl) ?_
            refine gX11_176 E h dX11_stateOf_76 ?_
            refine lv_iload_n hx hb dX11_stateOf_79 rfl (lv_at hl 1 rfl) ?_
            have h11 := hw.1
            have hw := hw.2
            refine aM_52 E h h11 dX11_stateOf_80 ?_
            refine lv_icmp_ge (tgt := 89) hx hb dX11_stateOf_81 (by decide) (fun c12 => ?_) (fun c12 => ?_)
            · have hw := hw.1 c12
              refine lv_aload_n hx hb dX11_stateOf_89 rfl (lv_at hl 0 rfl) ?_
              refine gX11_179 E h dX11_stateOf_90 ?_
              refine lv_iload_n hx hb dX11_stateOf_93 rfl (lv_at hl 1 rfl) ?_
              have h13 := hw.1
              have hw := hw.2
              refine aM_53 E h h13 dX11_stateOf_94 ?_
              exact x_iret E h hw dX11_stateOf_95
            · have hw := hw.2 c12
              refine lv_bipush (v := 6) hx hb dX11_stateOf_84 (by decide) ?_
              refine lv_goto (tgt := 95) hx hb dX11_stateOf_86 (by decide) ?_
              exact x_iret E h hw dX11_stateOf_95
          · have hw := hw.2 c10
            refine lv_iconst (v := 5) hx hb dX11_stateOf_72 (by decide) ?_
            exact x_iret E h hw dX11_stateOf_73
        · have hw := hw.2 c8
          refine lv_iconst (v := 4) hx hb dX11_stateOf_60 (by decide) ?_
          exact x_iret E h hw dX11_stateOf_61
      · have hw := hw.1 c6
        refine lv_iconst (v := 3) hx hb dX11_stateOf_48 (by decide) ?_
        exact x_iret E h hw dX11_stateOf_49
    · have hw := hw.2 c4
      refine lv_aload_n hx hb dX11_stateOf_22 rfl (lv_at hl 0 rfl) ?_
      refine gX11_125 E h dX11_stateOf_23 ?_
      refine lv_iload_n hx hb dX11_stateOf_26 rfl (lv_at hl 1 rfl) ?_
      have h14 := hw.1
      have hw := hw.2
      refine aM_36 E h h14 dX11_stateOf_27 ?_
      refine lv_iconst (v := (-1)) hx hb dX11_stateOf_28 (by decide) ?_
      refine lv_icmp_ne (tgt := 36) hx hb dX11_stateOf_29 (by decide) (fun c15 => ?_) (fun c15 => ?_)
      · have hw := hw.2 c15
        refine lv_iconst (v := 2) hx hb dX11_stateOf_36 (by decide) ?_
        exact x_iret E h hw dX11_stateOf_37
      · have hw := hw.1 c15
        refine lv_iconst (v := 1) hx hb dX11_stateOf_32 (by decide) ?_
        refine lv_goto (tgt := 37) hx hb dX11_stateOf_33 (by decide) ?_
        exact x_iret E h hw dX11_stateOf_37
  · have hw := hw.1 c2
    refine lv_iconst (v := 0) hx hb dX11_stateOf_10 (by decide) ?_
    exact x_iret E h hw dX11_stateOf_11

abbrev rM_state : Room := { frames := 6, cells := 0, slots := 0, locals := 150 }
def wpM_state (σ : MS) (x1 : Int32) (x2 : Int32) (x3 : Int32) (Post : Int32 → MS → Prop) : Prop := wpM_isPromise σ x1 (fun r1 σ2 => (r1 = 0 → Post ((-1)) σ2) ∧ (¬ r1 = 0 → wpM_isDay σ2 x2 (fun r4 σ5 => (r4 = 0 → Post ((-1)) σ5) ∧ (¬ r4 = 0 → wpM_isKnown σ5 x3 (fun r7 σ8 => (r7 = 0 → Post ((-1)) σ8) ∧ (¬ r7 = 0 → wpM_judgesAll σ8 x3 (fun σ10 => wpM_stateOf σ10 x1 x2 (fun r11 σ12 => Post r11 σ12))))))))
set_option maxHeartbeats 1000000 in
set_option maxRecDepth 20000 in
theorem cM_state {l : Launch} {D : va_G} {cy : Nat → ClassId} {q : Nat → Nat} {σ : MS} {sz : Nat} {x1 : Int32} {x2 : Int32} {x3 : Int32} {Post : Int32 → MS → Prop} (hw : wpM_state σ x1 x2 x3 Post) : Met l yX11_state (Cond.code yX11_state cX11_state 4 (some .int) :: wsA) rM_state (xPc D cy (MW q cy σ) sz [.ref (q 0), .int x1, .int x2, .int x3]) (va_Qi Post (xB D cy (MW q cy) (va_A (MW q cy σ) sz)) (va_A (MW q cy σ) sz)) 0 0 (va_A (MW q cy σ) sz) := by
  refine x_enter (own := RX11) (WW := MW q cy) (by decide) rfl (Nat.le_of_ble_eq_true rfl) ?_
  intro p e s m below meth c ls E h hl
  have hx := E.1
  have hb := E.2.1
  have hl : lv_has ls 4 [(0, .ref (q 0)), (1, .int x1), (2, .int x2), (3, .int x3)] := hl
  unfold wpM_state at hw
  refine lv_aload_n hx hb dX11_state_0 rfl (lv_at hl 0 rfl) ?_
  refine lv_iload_n hx hb dX11_state_1 rfl (lv_at hl 1 rfl) ?_
  refine x_calli h (x_runV (WW := MW q cy) (rest := []) E h (cM_isPromise hw) yyX11_isPromise lX11_319 0 rfl rfl ⟨Nat.le_of_ble_eq_true rfl, Nat.le_of_ble_eq_true rfl⟩ rfl rfl hl.1 rfl (Nat.le_of_ble_eq_true rfl) dX11_state_2 ⟨Nat.le_refl 0, Nat.le_refl 0⟩) (fun r1 σ2 H locs hw h => ?_)
  refine lv_if_eq (tgt := 23) hx hb dX11_state_5 (by decide) (fun c3 => ?_) (fun c3 => ?_)
  · have hw := hw.1 c3
    refine lv_iconst (v := (-1)) hx hb dX11_state_23 (by decide) ?_
    exact x_iret E h hw dX11_state_24
  · have hw := hw.2 c3
    refine lv_iload_n hx hb dX11_state_8 rfl (lv_at hl 2 rfl) ?_
    refine x_calli h (x_runS (WW := MW q cy) (rest := []) E h (cM_isDay hw) yyX11_isDay lX11_259 ⟨Nat.le_of_ble_eq_true rfl, Nat.le_of_ble_eq_true rfl⟩ rfl rfl hl.1 rfl (Nat.le_of_ble_eq_true rfl) dX11_state_9 ⟨Nat.le_refl 0, Nat.le_refl 0⟩) (fun r4 σ5 H locs hw h => ?_)
    refine lv_if_eq (tgt := 23) hx hb dX11_state_12 (by decide) (fun c6 => ?_) (fun c6 => ?_)
    · have hw := hw.1 c6
      refine lv_iconst (v := (-1)) hx hb dX11_state_23 (by decide) ?_
      exact x_iret E h hw dX11_state_24
    · have hw := hw.2 c6
      refine lv_aload_n hx hb dX11_state_15 rfl (lv_at hl 0 rfl) ?_
      refine lv_iload_n hx hb dX11_state_16 rfl (lv_at hl 3 rfl) ?_
      refine x_calli h (x_runV (WW := MW q cy) (rest := []) E h (cM_isKnown hw) yyX11_isKnown lX11_373 0 rfl rfl ⟨Nat.le_of_ble_eq_true rfl, Nat.le_of_ble_eq_true rfl⟩ rfl rfl hl.1 rfl (Nat.le_of_ble_eq_true rfl) dX11_state_17 ⟨Nat.le_refl 0, Nat.le_refl 0⟩) (fun r7 σ8 H locs hw h => ?_)
      refine lv_if_ne (tgt := 25) hx hb dX11_state_20 (by decide) (fun c9 => ?_) (fun c9 => ?_)
      · have hw := hw.2 c9
        refine lv_aload_n hx hb dX11_state_25 rfl (lv_at hl 0 rfl) ?_
        refine lv_iload_n hx hb dX11_state_26 rfl (lv_at hl 3 rfl) ?_
        refine x_callv h (x_runV (WW := MW q cy) (rest := []) E h (cM_judgesAll hw) yyX11_judgesAll lX11_376 0 rfl rfl ⟨Nat.le_of_ble_eq_true rfl, Nat.le_of_ble_eq_true rfl⟩ rfl rfl hl.1 rfl (Nat.le_of_ble_eq_true rfl) dX11_state_27 ⟨Nat.le_refl 0, Nat.le_refl 0⟩) (fun σ10 H locs hw h => ?_)
        refine lv_aload_n hx hb dX11_state_30 rfl (lv_at hl 0 rfl) ?_
        refine lv_iload_n hx hb dX11_state_31 rfl (lv_at hl 1 rfl) ?_
        refine lv_iload_n hx hb dX11_state_32 rfl (lv_at hl 2 rfl) ?_
        refine x_calli h (x_runV (WW := MW q cy) (rest := []) E h (cM_stateOf hw) yyX11_stateOf lX11_379 0 rfl rfl ⟨Nat.le_of_ble_eq_true rfl, Nat.le_of_ble_eq_true rfl⟩ rfl rfl hl.1 rfl (Nat.le_of_ble_eq_true rfl) dX11_state_33 ⟨Nat.le_refl 0, Nat.le_refl 0⟩) (fun r11 σ12 H locs hw h => ?_)
        exact x_iret E h hw dX11_state_36
      · have hw := hw.1 c9
        refine lv_iconst (v := (-1)) hx hb dX11_state_23 (by decide) ?_
        exact x_iret E h hw dX11_state_24

abbrev rM_force : Room := { frames := 6, cells := 0, slots := 0, locals := 150 }
def wpM_force (σ : MS) (x1 : Int32) (x2 : Int32) (x3 : Int32) (Post : Int32 → MS → Prop) : Prop := wpM_isPromise σ x1 (fun r1 σ2 => (r1 = 0 → Post ((-3)) σ2) ∧ (¬ r1 = 0 → wpM_isKnown σ2 x2 (fun r4 σ5 => (r4 = 0 → Post ((-3)) σ5) ∧ (¬ r4 = 0 → (x3 < 0 → Post ((-3)) σ5) ∧ (¬ x3 < 0 → (x3 ≤ 5 → wpM_judgesAll σ5 x2 (fun σ9 => (x3 = 5 → vp_in x1 10 ∧ Post (σ9.2.1 51 x1.toNatClampNeg) σ9) ∧ (¬ x3 = 5 → vp_in x1 10 ∧ ((σ9.2.1 56 x1.toNatClampNeg) = 0 → Post ((-2)) σ9) ∧ (¬ (σ9.2.1 56 x1.toNatClampNeg) = 0 → vp_in x1 10 ∧ vp_in x1 10 ∧ ((σ9.2.1 47 x1.toNatClampNeg) < (σ9.2.1 52 x1.toNatClampNeg) → (x3 = 0 → vp_in x1 10 ∧ Post (σ9.2.1 47 x1.toNatClampNeg) σ9) ∧ (x3 = 1 → vp_in x1 10 ∧ ((σ9.2.1 52 x1.toNatClampNeg) = 1000000 → Post ((-1)) σ9) ∧ (¬ (σ9.2.1 52 x1.toNatClampNeg) = 1000000 → vp_in x1 10 ∧ Post (σ9.2.1 52 x1.toNatClampNeg) σ9)) ∧ (x3 = 2 → vp_in x1 10 ∧ Post (σ9.2.1 53 x1.toNatClampNeg) σ9) ∧ (x3 = 3 → vp_in x1 10 ∧ Post (σ9.2.1 54 x1.toNatClampNeg) σ9) ∧ (¬ x3 = 0 ∧ ¬ x3 = 1 ∧ ¬ x3 = 2 ∧ ¬ x3 = 3 → vp_in x1 10 ∧ Post (σ9.2.1 55 x1.toNatClampNeg) σ9)) ∧ (¬ (σ9.2.1 47 x1.toNatClampNeg) < (σ9.2.1 52 x1.toNatClampNeg) → Post ((-2)) σ9))))) ∧ (¬ x3 ≤ 5 → Post ((-3)) σ5))))))
set_option maxHeartbeats 1000000 in
set_option maxRecDepth 20000 in
theorem cM_force {l : Launch} {D : va_G} {cy : Nat → ClassId} {q : Nat → Nat} {σ : MS} {sz : Nat} {x1 : Int32} {x2 : Int32} {x3 : Int32} {Post : Int32 → MS → Prop} (hw : wpM_force σ x1 x2 x3 Post) : Met l yX11_force (Cond.code yX11_force cX11_force 4 (some .int) :: wsA) rM_force (xPc D cy (MW q cy σ) sz [.ref (q 0), .int x1, .int x2, .int x3]) (va_Qi Post (xB D cy (MW q cy) (va_A (MW q cy σ) sz)) (va_A (MW q cy σ) sz)) 0 0 (va_A (MW q cy σ) sz) := by
  refine x_enter (own := RX11) (WW := MW q cy) (by decide) rfl (Nat.le_of_ble_eq_true rfl) ?_
  intro p e s m below meth c ls E h hl
  have hx := E.1
  have hb := E.2.1
  have hl : lv_has ls 4 [(0, .ref (q 0)), (1, .int x1), (2, .int x2), (3, .int x3)] := hl
  unfold wpM_force at hw
  refine lv_aload_n hx hb dX11_force_0 rfl (lv_at hl 0 rfl) ?_
  refine lv_iload_n hx hb dX11_force_1 rfl (lv_at hl 1 rfl) ?_
  refine x_calli h (x_runV (WW := MW q cy) (rest := []) E h (cM_isPromise hw) yyX11_isPromise lX11_319 0 rfl rfl ⟨Nat.le_of_ble_eq_true rfl, Nat.le_of_ble_eq_true rfl⟩ rfl rfl hl.1 rfl (Nat.le_of_ble_eq_true rfl) dX11_force_2 ⟨Nat.le_refl 0, Nat.le_refl 0⟩) (fun r1 σ2 H locs hw h => ?_)
  refine lv_if_eq (tgt := 25) hx hb dX11_force_5 (by decide) (fun c3 => ?_) (fun c3 => ?_)
  · have hw := hw.1 c3
    refine lv_bipush (v := (-3)) hx hb dX11_force_25 (by decide) ?_
    exact x_iret E h hw dX11_force_27
  · have hw := hw.2 c3
    refine lv_aload_n hx hb dX11_force_8 rfl (lv_at hl 0 rfl) ?_
    refine lv_iload_n hx hb dX11_force_9 rfl (lv_at hl 2 rfl) ?_
    refine x_calli h (x_runV (WW := MW q cy) (rest := []) E h (cM_isKnown hw) yyX11_isKnown lX11_373 0 rfl rfl ⟨Nat.le_of_ble_eq_true rfl, Nat.le_of_ble_eq_true rfl⟩ rfl rfl hl.1 rfl (Nat.le_of_ble_eq_true rfl) dX11_force_10 ⟨Nat.le_refl 0, Nat.le_refl 0⟩) (fun r4 σ5 H locs hw h => ?_)
    refine lv_if_eq (tgt := 25) hx hb dX11_force_13 (by decide) (fun c6 => ?_) (fun c6 => ?_)
    · have hw := hw.1 c6
      refine lv_bipush (v := (-3)) hx hb dX11_force_25 (by decide) ?_
      exact x_iret E h hw dX11_force_27
    · have hw := hw.2 c6
      refine lv_iload_n hx hb dX11_force_16 rfl (lv_at hl 3 rfl) ?_
      refine lv_if_lt (tgt := 25) hx hb dX11_force_17 (by decide) (fun c7 => ?_) (fun c7 => ?_)
      · have hw := hw.1 c7
        refine lv_bipush (v := (-3)) hx hb dX11_force_25 (by decide) ?_
        exact x_iret E h hw dX11_force_27
      · have hw := hw.2 c7
        refine lv_iload_n hx hb dX11_force_20 rfl (lv_at hl 3 rfl) ?_
        refine lv_iconst (v := 5) hx hb dX11_force_21 (by decide) ?_
        refine lv_icmp_le (tgt := 28) hx hb dX11_force_22 (by decide) (fun c8 => ?_) (fun c8 => ?_)
        · have hw := hw.1 c8
          refine lv_aload_n hx hb dX11_force_28 rfl (lv_at hl 0 rfl) ?_
          refine lv_iload_n hx hb dX11_force_29 rfl (lv_at hl 2 rfl) ?_
          refine x_callv h (x_runV (WW := MW q cy) (rest := []) E h (cM_judgesAll hw) yyX11_judgesAll lX11_376 0 rfl rfl ⟨Nat.le_of_ble_eq_true rfl, Nat.le_of_ble_eq_true rfl⟩ rfl rfl hl.1 rfl (Nat.le_of_ble_eq_true rfl) dX11_force_30 ⟨Nat.le_refl 0, Nat.le_refl 0⟩) (fun σ9 H locs hw h => ?_)
          refine lv_iload_n hx hb dX11_force_33 rfl (lv_at hl 3 rfl) ?_
          refine lv_iconst (v := 5) hx hb dX11_force_34 (by decide) ?_
          refine lv_icmp_ne (tgt := 45) hx hb dX11_force_35 (by decide) (fun c10 => ?_) (fun c10 => ?_)
          · have hw := hw.2 c10
            refine lv_aload_n hx hb dX11_force_45 rfl (lv_at hl 0 rfl) ?_
            refine gX11_188 E h dX11_force_46 ?_
            refine lv_iload_n hx hb dX11_force_49 rfl (lv_at hl 1 rfl) ?_
            have h11 := hw.1
            have hw := hw.2
            refine aM_56 E h h11 dX11_force_50 ?_
            refine lv_if_eq (tgt := 69) hx hb dX11_force_51 (by decide) (fun c12 => ?_) (fun c12 => ?_)
            · have hw := hw.1 c12
              refine lv_bipush (v := (-2)) hx hb dX11_force_69 (by decide) ?_
              exact x_iret E h hw dX11_force_71
            · have hw := hw.2 c12
              refine lv_aload_n hx hb dX11_force_54 rfl (lv_at hl 0 rfl) ?_
              refine gX11_176 E h dX11_force_55 ?_
              refine lv_iload_n hx hb dX11_force_58 rfl (lv_at hl 1 rfl) ?_
              have h13 := hw.1
              have hw := hw.2
              refine aM_52 E h h13 dX11_force_59 ?_
              refine lv_aload_n hx hb dX11_force_60 rfl (lv_at hl 0 rfl) ?_
              refine gX11_161 E h dX11_force_61 ?_
              refine lv_iload_n hx hb dX11_force_64 rfl (lv_at hl 1 rfl) ?_
              have h14 := hw.1
              have hw := hw.2
              refine aM_47 E h h14 dX11_force_65 ?_
              refine lv_icmp_gt (tgt := 72) hx hb dX11_force_66 (by decide) (fun c15 => ?_) (fun c15 => ?_)
              · have hw := hw.1 c15
                refine lv_iload_n hx hb dX11_force_72 rfl (lv_at hl 3 rfl) ?_
                by_cases c17 : x3 = 0
                · have hw := hw.1 c17
                  refine lv_tableIn (off := 31) (tgt := 104) hx hb dX11_force_73 (by rw [c17]; decide) (by rw [c17]; decide) (by rw [c17]; rfl) (by decide) ?_
                  refine lv_aload_n hx hb dX11_force_104 rfl (lv_at hl 0 rfl) ?_
                  refine gX11_161 E h dX11_force_105 ?_
                  refine lv_iload_n hx hb dX11_force_108 rfl (lv_at hl 1 rfl) ?_
                  have h16 := hw.1
                  have hw := hw.2
                  refine aM_47 E h h16 dX11_force_109 ?_
                  exact x_iret E h hw dX11_force_110
                have hw := hw.2
                by_cases c21 : x3 = 1
                · have hw := hw.1 c21
                  refine lv_tableIn (off := 38) (tgt := 111) hx hb dX11_force_73 (by rw [c21]; decide) (by rw [c21]; decide) (by rw [c21]; rfl) (by decide) ?_
                  refine lv_aload_n hx hb dX11_force_111 rfl (lv_at hl 0 rfl) ?_
                  refine gX11_176 E h dX11_force_112 ?_
                  refine lv_iload_n hx hb dX11_force_115 rfl (lv_at hl 1 rfl) ?_
                  have h18 := hw.1
                  have hw := hw.2
                  refine aM_52 E h h18 dX11_force_116 ?_
                  refine lv_ldcw (own := RX11) (v := 1000000) hx hb E.2.2.2.1 (E.2.2.2.2.1 _ kX11_345) dX11_force_117 ?_
                  refine lv_icmp_ne (tgt := 127) hx hb dX11_force_120 (by decide) (fun c19 => ?_) (fun c19 => ?_)
                  · have hw := hw.2 c19
                    refine lv_aload_n hx hb dX11_force_127 rfl (lv_at hl 0 rfl) ?_
                    refine gX11_176 E h dX11_force_128 ?_
                    refine lv_iload_n hx hb dX11_force_131 rfl (lv_at hl 1 rfl) ?_
                    have h20 := hw.1
                    have hw := hw.2
                    refine aM_52 E h h20 dX11_force_132 ?_
                    exact x_iret E h hw dX11_force_133
                  · have hw := hw.1 c19
                    refine lv_iconst (v := (-1)) hx hb dX11_force_123 (by decide) ?_
                    refine lv_goto (tgt := 133) hx hb dX11_force_124 (by decide) ?_
                    exact x_iret E h hw dX11_force_133
                have hw := hw.2
                by_cases c23 : x3 = 2
                · have hw := hw.1 c23
                  refine lv_tableIn (off := 61) (tgt := 134) hx hb dX11_force_73 (by rw [c23]; decide) (by rw [c23]; decide) (by rw [c23]; rfl) (by decide) ?_
                  refine lv_aload_n hx hb dX11_force_134 rfl (lv_at hl 0 rfl) ?_
                  refine gX11_179 E h dX11_force_135 ?_
                  refine lv_iload_n hx hb dX11_force_138 rfl (lv_at hl 1 rfl) ?_
                  have h22 := hw.1
                  have hw := hw.2
                  refine aM_53 E h h22 dX11_force_139 ?_
                  exact x_iret E h hw dX11_force_140
                have hw := hw.2
                by_cases c25 : x3 = 3
                · have hw := hw.1 c25
                  refine lv_tableIn (off := 68) (tgt := 141) hx hb dX11_force_73 (by rw [c25]; decide) (by rw [c25]; decide) (by rw [c25]; rfl) (by decide) ?_
                  refine lv_aload_n hx hb dX11_force_141 rfl (lv_at hl 0 rfl) ?_
                  refine gX11_182 E h dX11_force_142 ?_
                  refine lv_iload_n hx hb dX11_force_145 rfl (lv_at hl 1 rfl) ?_
                  have h24 := hw.1
                  have hw := hw.2
                  refine aM_54 E h h24 dX11_force_146 ?_
                  exact x_iret E h hw dX11_force_147
                have hw := hw.2
                have hw := hw ⟨c17, c21, c23, c25⟩
                refine lv_tableOut (tgt := 148) hx hb dX11_force_73 (x_out 0 3 (fun k h1 h2 hk => by rcases (show k = 0 ∨ k = 1 ∨ k = 2 ∨ k = 3 by omega) with rfl | rfl | rfl | rfl <;> first | exact c17 (x_ofI hk rfl) | exact c21 (x_ofI hk rfl) | exact c23 (x_ofI hk rfl) | exact c25 (x_ofI hk rfl))) (by decide) ?_
                refine lv_aload_n hx hb dX11_force_148 rfl (lv_at hl 0 rfl) ?_
                refine gX11_185 E h dX11_force_149 ?_
                refine lv_iload_n hx hb dX11_force_152 rfl (lv_at hl 1 rfl) ?_
                have h26 := hw.1
                have hw := hw.2
                refine aM_55 E h h26 dX11_force_153 ?_
                exact x_iret E h hw dX11_force_154
              · have hw := hw.2 c15
                refine lv_bipush (v := (-2)) hx hb dX11_force_69 (by decide) ?_
                exact x_iret E h hw dX11_force_71
          · have hw := hw.1 c10
            refine lv_aload_n hx hb dX11_force_38 rfl (lv_at hl 0 rfl) ?_
            refine gX11_173 E h dX11_force_39 ?_
            refine lv_iload_n hx hb dX11_force_42 rfl (lv_at hl 1 rfl) ?_
            have h27 := hw.1
            have hw := hw.2
            refine aM_51 E h h27 dX11_force_43 ?_
            exact x_iret E h hw dX11_force_44
        · have hw := hw.2 c8
          refine lv_bipush (v := (-3)) hx hb dX11_force_25 (by decide) ?_
          exact x_iret E h hw dX11_force_27

abbrev rM_bound : Room := { frames := 6, cells := 0, slots := 0, locals := 150 }
def wpM_bound_33 (Post : Int32 → MS → Prop) : Nat → MS → Int32 → Int32 → Int32 → Prop
  | 0, _, _, _, _ => False
  | n + 1, σ, x1, x2, x4 => ((σ.1 46) ≤ x4 → Post ((-1)) σ) ∧ (¬ (σ.1 46) ≤ x4 → wpM_isIn σ x1 x4 (fun r2 σ3 => (r2 = 0 → ∀ y5 : Int32, y5 = x4 + 1 → wpM_bound_33 Post n σ3 x1 x2 y5) ∧ (¬ r2 = 0 → wpM_stateOf σ3 x4 x2 (fun r6 σ7 => (r6 = 6 → vp_in x4 10 ∧ ((σ7.2.1 31 x4.toNatClampNeg) = x1 → vp_in x4 10 ∧ Post (σ7.2.1 32 x4.toNatClampNeg) σ7) ∧ (¬ (σ7.2.1 31 x4.toNatClampNeg) = x1 → vp_in x4 10 ∧ Post (σ7.2.1 31 x4.toNatClampNeg) σ7)) ∧ (¬ r6 = 6 → ∀ y9 : Int32, y9 = x4 + 1 → wpM_bound_33 Post n σ7 x1 x2 y9)))))
set_option maxHeartbeats 1000000 in
set_option maxRecDepth 20000 in
theorem wkM_bound_33 {Post : Int32 → MS → Prop} (E : xE cX11_bound RX11 5 (some .int) D cy p s m args meth c) : ∀ n : Nat, ∀ (σ : MS) (x1 : Int32) (x2 : Int32) (x4 : Int32) (H : Heap) (locs : List Loc) (ls : Array Slot), xH D A s (MW q cy σ) H locs → wpM_bound_33 Post n σ x1 x2 x4 → lv_has ls 5 [(0, .ref (q 0)), (1, .int x1), (2, .int x2), (4, .int x4)] → W p l e rM_bound s m args below meth c H locs 0 0 (MQ below (va_Qi Post (xB D cy (MW q cy) A) A) args s 0 0 A) (F0 m 33 ls []) := by
  have hx := E.1
  have hb := E.2.1
  intro n
  induction n with
  | zero => intro σ x1 x2 x4 H locs ls h hw hl; exact False.elim hw
  | succ n ih =>
    intro σ x1 x2 x4 H locs ls h hw hl
    refine lv_iload hx hb dX11_bound_33 (lv_at hl 3 rfl) ?_
    refine lv_aload_n hx hb dX11_bound_35 rfl (lv_at hl 0 rfl) ?_
    refine gX11_310 E h dX11_bound_36 ?_
    refine lv_icmp_ge (tgt := 99) hx hb dX11_bound_39 (by decide) (fun c1 => ?_) (fun c1 => ?_)
    · have hw := hw.1 c1
      refine lv_iconst (v := (-1)) hx hb dX11_bound_99 (by decide) ?_
      exact x_iret E h hw dX11_bound_100
    · have hw := hw.2 c1
      refine lv_aload_n hx hb dX11_bound_42 rfl (lv_at hl 0 rfl) ?_
      refine lv_iload_n hx hb dX11_bound_43 rfl (lv_at hl 1 rfl) ?_
      refine lv_iload hx hb dX11_bound_44 (lv_at hl 3 rfl) ?_
      refine x_calli h (x_runV (WW := MW q cy) (rest := []) E h (cM_isIn hw) yyX11_isIn lX11_352 0 rfl rfl ⟨Nat.le_of_ble_eq_true rfl, Nat.le_of_ble_eq_true rfl⟩ rfl rfl hl.1 rfl (Nat.le_of_ble_eq_true rfl) dX11_bound_46 ⟨Nat.le_refl 0, Nat.le_refl 0⟩) (fun r2 σ3 H locs hw h => ?_)
      refine lv_if_eq (tgt := 93) hx hb dX11_bound_49 (by decide) (fun c4 => ?_) (fun c4 => ?_)
      · have hw := hw.1 c4
        obtain ⟨y5, ey5⟩ : ∃ z : Int32, z = x4 + 1 := ⟨_, rfl⟩
        have hw := hw y5 ey5
        refine lv_iinc (v := y5) (lv' := [(4, .int y5), (0, .ref (q 0)), (1, .int x1), (2, .int x2)]) hx hb dX11_bound_93 hl (k := 3) rfl (by rw [ey5]; rfl) (by decide) rfl (fun ls hl => ?_)
        refine lv_goto (tgt := 33) hx hb dX11_bound_96 (by decide) ?_
        exact ih _ _ _ _ _ _ _ h hw (lv_sub hl [1, 2, 3, 0] rfl)
      · have hw := hw.2 c4
        refine lv_aload_n hx hb dX11_bound_52 rfl (lv_at hl 0 rfl) ?_
        refine lv_iload hx hb dX11_bound_53 (lv_at hl 3 rfl) ?_
        refine lv_iload_n hx hb dX11_bound_55 rfl (lv_at hl 2 rfl) ?_
        refine x_calli h (x_runV (WW := MW q cy) (rest := []) E h (cM_stateOf hw) yyX11_stateOf lX11_379 0 rfl rfl ⟨Nat.le_of_ble_eq_true rfl, Nat.le_of_ble_eq_true rfl⟩ rfl rfl hl.1 rfl (Nat.le_of_ble_eq_true rfl) dX11_bound_56 ⟨Nat.le_refl 0, Nat.le_refl 0⟩) (fun r6 σ7 H locs hw h => ?_)
        refine lv_bipush (v := 6) hx hb dX11_bound_59 (by decide) ?_
        refine lv_icmp_ne (tgt := 93) hx hb dX11_bound_61 (by decide) (fun c8 => ?_) (fun c8 => ?_)
        · have hw := hw.2 c8
          obtain ⟨y9, ey9⟩ : ∃ z : Int32, z = x4 + 1 := ⟨_, rfl⟩
          have hw := hw y9 ey9
          refine lv_iinc (v := y9) (lv' := [(4, .int y9), (0, .ref (q 0)), (1, .int x1), (2, .int x2)]) hx hb dX11_bound_93 hl (k := 3) rfl (by rw [ey9]; rfl) (by decide) rfl (fun ls hl => ?_)
          refine lv_goto (tgt := 33) hx hb dX11_bound_96 (by decide) ?_
          exact ih _ _ _ _ _ _ _ h hw (lv_sub hl [1, 2, 3, 0] rfl)
        · have hw := hw.1 c8
          refine lv_aload_n hx hb dX11_bound_64 rfl (lv_at hl 0 rfl) ?_
          refine gX11_110 E h dX11_bound_65 ?_
          refine lv_iload hx hb dX11_bound_68 (lv_at hl 3 rfl) ?_
          have h10 := hw.1
          have hw := hw.2
          refine aM_31 E h h10 dX11_bound_70 ?_
          refine lv_iload_n hx hb dX11_bound_71 rfl (lv_at hl 1 rfl) ?_
          refine lv_icmp_ne (tgt := 85) hx hb dX11_bound_72 (by decide) (fun c11 => ?_) (fun c11 => ?_)
          · have hw := hw.2 c11
            refine lv_aload_n hx hb dX11_bound_85 rfl (lv_at hl 0 rfl) ?_
            refine gX11_110 E h dX11_bound_86 ?_
            refine lv_iload hx hb dX11_bound_89 (lv_at hl 3 rfl) ?_
            have h12 := hw.1
            have hw := hw.2
            refine aM_31 E h h12 dX11_bound_91 ?_
            exact x_iret E h hw dX11_bound_92
          · have hw := hw.1 c11
            refine lv_aload_n hx hb dX11_bound_75 rfl (lv_at hl 0 rfl) ?_
            refine gX11_113 E h dX11_bound_76 ?_
            refine lv_iload hx hb dX11_bound_79 (lv_at hl 3 rfl) ?_
            have h13 := hw.1
            have hw := hw.2
            refine aM_32 E h h13 dX11_bound_81 ?_
            refine lv_goto (tgt := 92) hx hb dX11_bound_82 (by decide) ?_
            exact x_iret E h hw dX11_bound_92

def wpM_bound (σ : MS) (x1 : Int32) (x2 : Int32) (x3 : Int32) (Post : Int32 → MS → Prop) : Prop := wpM_isPerson σ x1 (fun r1 σ2 => (r1 = 0 → Post ((-1)) σ2) ∧ (¬ r1 = 0 → wpM_isDay σ2 x2 (fun r4 σ5 => (r4 = 0 → Post ((-1)) σ5) ∧ (¬ r4 = 0 → wpM_isKnown σ5 x3 (fun r7 σ8 => (r7 = 0 → Post ((-1)) σ8) ∧ (¬ r7 = 0 → wpM_judgesAll σ8 x3 (fun σ10 => ∃ g, wpM_bound_33 Post g σ10 x1 x2 0)))))))
set_option maxHeartbeats 1000000 in
set_option maxRecDepth 20000 in
theorem cM_bound {l : Launch} {D : va_G} {cy : Nat → ClassId} {q : Nat → Nat} {σ : MS} {sz : Nat} {x1 : Int32} {x2 : Int32} {x3 : Int32} {Post : Int32 → MS → Prop} (hw : wpM_bound σ x1 x2 x3 Post) : Met l yX11_bound (Cond.code yX11_bound cX11_bound 5 (some .int) :: wsA) rM_bound (xPc D cy (MW q cy σ) sz [.ref (q 0), .int x1, .int x2, .int x3]) (va_Qi Post (xB D cy (MW q cy) (va_A (MW q cy σ) sz)) (va_A (MW q cy σ) sz)) 0 0 (va_A (MW q cy σ) sz) := by
  refine x_enter (own := RX11) (WW := MW q cy) (by decide) rfl (Nat.le_of_ble_eq_true rfl) ?_
  intro p e s m below meth c ls E h hl
  have hx := E.1
  have hb := E.2.1
  have hl : lv_has ls 5 [(0, .ref (q 0)), (1, .int x1), (2, .int x2), (3, .int x3)] := hl
  unfold wpM_bound at hw
  refine lv_aload_n hx hb dX11_bound_0 rfl (lv_at hl 0 rfl) ?_
  refine lv_iload_n hx hb dX11_bound_1 rfl (lv_at hl 1 rfl) ?_
  refine x_calli h (x_runV (WW := MW q cy) (rest := []) E h (cM_isPerson hw) yyX11_isPerson lX11_303 0 rfl rfl ⟨Nat.le_of_ble_eq_true rfl, Nat.le_of_ble_eq_true rfl⟩ rfl rfl hl.1 rfl (Nat.le_of_ble_eq_true rfl) dX11_bound_2 ⟨Nat.le_refl 0, Nat.le_refl 0⟩) (fun r1 σ2 H locs hw h => ?_)
  refine lv_if_eq (tgt := 23) hx hb dX11_bound_5 (by decide) (fun c3 => ?_) (fun c3 => ?_)
  · have hw := hw.1 c3
    refine lv_iconst (v := (-1)) hx hb dX11_bound_23 (by decide) ?_
    exact x_iret E h hw dX11_bound_24
  · have hw := hw.2 c3
    refine lv_iload_n hx hb dX11_bound_8 rfl (lv_at hl 2 rfl) ?_
    refine x_calli h (x_runS (WW := MW q cy) (rest := []) E h (cM_isDay hw) yyX11_isDay lX11_259 ⟨Nat.le_of_ble_eq_true rfl, Nat.le_of_ble_eq_true rfl⟩ rfl rfl hl.1 rfl (Nat.le_of_ble_eq_true rfl) dX11_bound_9 ⟨Nat.le_refl 0, Nat.le_refl 0⟩) (fun r4 σ5 H locs hw h => ?_)
    refine lv_if_eq (tgt := 23) hx hb dX11_bound_12 (by decide) (fun c6 => ?_) (fun c6 => ?_)
    · have hw := hw.1 c6
      refine lv_iconst (v := (-1)) hx hb dX11_bound_23 (by decide) ?_
      exact x_iret E h hw dX11_bound_24
    · have hw := hw.2 c6
      refine lv_aload_n hx hb dX11_bound_15 rfl (lv_at hl 0 rfl) ?_
      refine lv_iload_n hx hb dX11_bound_16 rfl (lv_at hl 3 rfl) ?_
      refine x_calli h (x_runV (WW := MW q cy) (rest := []) E h (cM_isKnown hw) yyX11_isKnown lX11_373 0 rfl rfl ⟨Nat.le_of_ble_eq_true rfl, Nat.le_of_ble_eq_true rfl⟩ rfl rfl hl.1 rfl (Nat.le_of_ble_eq_true rfl) dX11_bound_17 ⟨Nat.le_refl 0, Nat.le_refl 0⟩) (fun r7 σ8 H locs hw h => ?_)
      refine lv_if_ne (tgt := 25) hx hb dX11_bound_20 (by decide) (fun c9 => ?_) (fun c9 => ?_)
      · have hw := hw.2 c9
        refine lv_aload_n hx hb dX11_bound_25 rfl (lv_at hl 0 rfl) ?_
        refine lv_iload_n hx hb dX11_bound_26 rfl (lv_at hl 3 rfl) ?_
        refine x_callv h (x_runV (WW := MW q cy) (rest := []) E h (cM_judgesAll hw) yyX11_judgesAll lX11_376 0 rfl rfl ⟨Nat.le_of_ble_eq_true rfl, Nat.le_of_ble_eq_true rfl⟩ rfl rfl hl.1 rfl (Nat.le_of_ble_eq_true rfl) dX11_bound_27 ⟨Nat.le_refl 0, Nat.le_refl 0⟩) (fun σ10 H locs hw h => ?_)
        refine lv_iconst (v := 0) hx hb dX11_bound_30 (by decide) ?_
        refine lv_istore (lv' := [(4, .int 0), (0, .ref (q 0)), (1, .int x1), (2, .int x2), (3, .int x3)]) hx hb dX11_bound_31 hl (by decide) rfl (fun ls hl => ?_)
        obtain ⟨g, hw⟩ := hw
        exact wkM_bound_33 E g _ _ _ _ _ _ _ h hw (lv_sub hl [1, 2, 3, 0] rfl)
      · have hw := hw.1 c9
        refine lv_iconst (v := (-1)) hx hb dX11_bound_23 (by decide) ?_
        exact x_iret E h hw dX11_bound_24

end MWalk
