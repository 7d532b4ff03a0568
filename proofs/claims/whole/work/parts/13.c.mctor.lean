set_option maxRecDepth 50000 in
set_option maxHeartbeats 4000000 in
theorem kyX11_code : Cond.code yX11_init cX11_init 1 none ∈ wsA := wsA_mem 944 rfl rfl
theorem kyX11 : kY yX11_init cX11_init 1 0 := ⟨⟨wsA_mem 943 (by decide +kernel) (by decide +kernel), wsA_mem 119 (by decide +kernel) (by decide +kernel), kyX11_code⟩, rfl, by decide +kernel⟩
set_option maxHeartbeats 4000000 in
set_option maxRecDepth 20000 in
theorem kM_init {l : Launch} {D : va_G} {cy : Nat → ClassId} {h0 sz : Nat} {Post : MS → Prop} (hw : wpM_init_495 Post mS0) : Met l yX11_init (Cond.code yX11_init cX11_init 1 none :: wsA) rM_init (kPc D cy [(h0, .inr (11, MI0))] sz [.ref h0]) (va_Qv (fun u : (Nat → Nat) × MS => Post u.2 ∧ u.1 0 = h0) (xB D cy (fun u : (Nat → Nat) × MS => MW u.1 cy u.2) (va_A [(h0, .inr (11, MI0))] sz)) (va_A [(h0, .inr (11, MI0))] sz)) 57 26327 (va_A [(h0, .inr (11, MI0))] sz) := by
  refine k_enter (own := RX11) (by decide) rfl rfl (Nat.le_of_ble_eq_true rfl) ?_
  intro p e s m below meth c0 ls E h hl
  have hx := E.1.1
  have hb := E.1.2.1
  have hl : lv_has ls 1 [(0, .ref h0)] := hl
  generalize va_A [(h0, .inr (11, MI0))] sz = A at h ⊢
  obtain ⟨q, e0⟩ : ∃ q : Nat → Nat, q 0 = h0 := ⟨fun _ => h0, rfl⟩
  obtain ⟨c, hc⟩ : ∃ c : Nat → Int32, mIs c [] := ⟨_, rfl⟩
  have h : xH D A s (MWt c 0 q cy) s.heap [] := by
    rw [hc, MWt, e0]
    show xH D A s [(h0, .inr (11, MOt (fun _ => 0) 0 q))] s.heap []
    rw [MI0_eq]
    exact h
  refine lv_aload_n hx hb dX11_init_0 rfl (lv_at hl 0 rfl) ?_
  refine x_obj E.1 hl.1 loX11 (Nat.le_of_ble_eq_true rfl) (Nat.le_of_ble_eq_true rfl) dX11_init_1 ?_
  refine lv_aload_n hx hb dX11_init_4 rfl (lv_at hl 0 rfl) ?_
  refine lv_sipush (v := 2000) hx hb dX11_init_5 (by decide) ?_
  refine m_stB (n := 2000) (N := 2000) (t := 0) (k := 1) E h e0 (by decide) (by decide) (by decide) (Nat.le_of_ble_eq_true rfl) (Nat.le_of_ble_eq_true rfl) rfl rfl (by decide) fkX11_13 rfl (by decide +kernel) dX11_init_8 dX11_init_10 (fun q H locs e0 h => ?_)
  refine lv_aload_n hx hb dX11_init_13 rfl (lv_at hl 0 rfl) ?_
  refine lv_sipush (v := 2000) hx hb dX11_init_14 (by decide) ?_
  refine m_stB (n := 2000) (N := 2000) (t := 1) (k := 3) E h e0 (by decide) (by decide) (by decide) (Nat.le_of_ble_eq_true rfl) (Nat.le_of_ble_eq_true rfl) rfl rfl (by decide) fkX11_17 rfl (by decide +kernel) dX11_init_17 dX11_init_19 (fun q H locs e0 h => ?_)
  refine lv_aload_n hx hb dX11_init_22 rfl (lv_at hl 0 rfl) ?_
  refine lv_sipush (v := 403) hx hb dX11_init_23 (by decide) ?_
  refine m_stI (n := 403) (N := 403) (t := 2) (k := 5) E h e0 (by decide) (by decide) (by decide) (Nat.le_of_ble_eq_true rfl) (Nat.le_of_ble_eq_true rfl) rfl rfl (by decide) fkX11_20 rfl (by decide +kernel) dX11_init_26 dX11_init_28 (fun q H locs e0 h => ?_)
  refine lv_aload_n hx hb dX11_init_31 rfl (lv_at hl 0 rfl) ?_
  refine lv_sipush (v := 403) hx hb dX11_init_32 (by decide) ?_
  refine m_stI (n := 403) (N := 403) (t := 3) (k := 6) E h e0 (by decide) (by decide) (by decide) (Nat.le_of_ble_eq_true rfl) (Nat.le_of_ble_eq_true rfl) rfl rfl (by decide) fkX11_24 rfl (by decide +kernel) dX11_init_35 dX11_init_37 (fun q H locs e0 h => ?_)
  refine lv_aload_n hx hb dX11_init_40 rfl (lv_at hl 0 rfl) ?_
  refine lv_sipush (v := 403) hx hb dX11_init_41 (by decide) ?_
  refine m_stI (n := 403) (N := 403) (t := 4) (k := 7) E h e0 (by decide) (by decide) (by decide) (Nat.le_of_ble_eq_true rfl) (Nat.le_of_ble_eq_true rfl) rfl rfl (by decide) fkX11_27 rfl (by decide +kernel) dX11_init_44 dX11_init_46 (fun q H locs e0 h => ?_)
  refine lv_aload_n hx hb dX11_init_49 rfl (lv_at hl 0 rfl) ?_
  refine lv_sipush (v := 403) hx hb dX11_init_50 (by decide) ?_
  refine m_stJ (n := 403) (N := 403) (t := 5) (k := 8) E h e0 (by decide) (by decide) (by decide) (Nat.le_of_ble_eq_true rfl) (Nat.le_of_ble_eq_true rfl) rfl rfl (by decide) fkX11_30 rfl (by decide +kernel) dX11_init_53 dX11_init_55 (fun q H locs e0 h => ?_)
  refine lv_aload_n hx hb dX11_init_58 rfl (lv_at hl 0 rfl) ?_
  refine lv_bipush (v := 20) hx hb dX11_init_59 (by decide) ?_
  refine m_stJ (n := 20) (N := 20) (t := 6) (k := 9) E h e0 (by decide) (by decide) (by decide) (Nat.le_of_ble_eq_true rfl) (Nat.le_of_ble_eq_true rfl) rfl rfl (by decide) fkX11_34 rfl (by decide +kernel) dX11_init_61 dX11_init_63 (fun q H locs e0 h => ?_)
  refine lv_aload_n hx hb dX11_init_66 rfl (lv_at hl 0 rfl) ?_
  refine lv_iconst (v := (-1)) hx hb dX11_init_67 (by decide) ?_
  refine m_stint (t := 7) (k := 17) (x := (-1)) E h e0 rfl (by decide) fkX11_37 rfl (by decide +kernel) dX11_init_68 (fun c H locs ec h => ?_)
  have hc := hc.put ec
  refine lv_aload_n hx hb dX11_init_71 rfl (lv_at hl 0 rfl) ?_
  refine lv_bipush (v := 9) hx hb dX11_init_72 (by decide) ?_
  refine m_stI (n := 9) (N := 9) (t := 7) (k := 20) E h e0 (by decide) (by decide) (by decide) (Nat.le_of_ble_eq_true rfl) (Nat.le_of_ble_eq_true rfl) rfl rfl (by decide) fkX11_40 rfl (by decide +kernel) dX11_init_74 dX11_init_76 (fun q H locs e0 h => ?_)
  refine lv_aload_n hx hb dX11_init_79 rfl (lv_at hl 0 rfl) ?_
  refine lv_bipush (v := 9) hx hb dX11_init_80 (by decide) ?_
  refine m_stI (n := 9) (N := 9) (t := 8) (k := 21) E h e0 (by decide) (by decide) (by decide) (Nat.le_of_ble_eq_true rfl) (Nat.le_of_ble_eq_true rfl) rfl rfl (by decide) fkX11_43 rfl (by decide +kernel) dX11_init_82 dX11_init_84 (fun q H locs e0 h => ?_)
  refine lv_aload_n hx hb dX11_init_87 rfl (lv_at hl 0 rfl) ?_
  refine lv_bipush (v := 9) hx hb dX11_init_88 (by decide) ?_
  refine m_stI (n := 9) (N := 9) (t := 9) (k := 22) E h e0 (by decide) (by decide) (by decide) (Nat.le_of_ble_eq_true rfl) (Nat.le_of_ble_eq_true rfl) rfl rfl (by decide) fkX11_46 rfl (by decide +kernel) dX11_init_90 dX11_init_92 (fun q H locs e0 h => ?_)
  refine lv_aload_n hx hb dX11_init_95 rfl (lv_at hl 0 rfl) ?_
  refine lv_sipush (v := 144) hx hb dX11_init_96 (by decide) ?_
  refine m_stI (n := 144) (N := 144) (t := 10) (k := 23) E h e0 (by decide) (by decide) (by decide) (Nat.le_of_ble_eq_true rfl) (Nat.le_of_ble_eq_true rfl) rfl rfl (by decide) fkX11_49 rfl (by decide +kernel) dX11_init_99 dX11_init_101 (fun q H locs e0 h => ?_)
  refine lv_aload_n hx hb dX11_init_104 rfl (lv_at hl 0 rfl) ?_
  refine lv_sipush (v := 144) hx hb dX11_init_105 (by decide) ?_
  refine m_stI (n := 144) (N := 144) (t := 11) (k := 24) E h e0 (by decide) (by decide) (by decide) (Nat.le_of_ble_eq_true rfl) (Nat.le_of_ble_eq_true rfl) rfl rfl (by decide) fkX11_52 rfl (by decide +kernel) dX11_init_108 dX11_init_110 (fun q H locs e0 h => ?_)
  refine lv_aload_n hx hb dX11_init_113 rfl (lv_at hl 0 rfl) ?_
  refine lv_sipush (v := 144) hx hb dX11_init_114 (by decide) ?_
  refine m_stI (n := 144) (N := 144) (t := 12) (k := 25) E h e0 (by decide) (by decide) (by decide) (Nat.le_of_ble_eq_true rfl) (Nat.le_of_ble_eq_true rfl) rfl rfl (by decide) fkX11_55 rfl (by decide +kernel) dX11_init_117 dX11_init_119 (fun q H locs e0 h => ?_)
  refine lv_aload_n hx hb dX11_init_122 rfl (lv_at hl 0 rfl) ?_
  refine lv_sipush (v := 144) hx hb dX11_init_123 (by decide) ?_
  refine m_stI (n := 144) (N := 144) (t := 13) (k := 26) E h e0 (by decide) (by decide) (by decide) (Nat.le_of_ble_eq_true rfl) (Nat.le_of_ble_eq_true rfl) rfl rfl (by decide) fkX11_58 rfl (by decide +kernel) dX11_init_126 dX11_init_128 (fun q H locs e0 h => ?_)
  refine lv_aload_n hx hb dX11_init_131 rfl (lv_at hl 0 rfl) ?_
  refine lv_sipush (v := 144) hx hb dX11_init_132 (by decide) ?_
  refine m_stI (n := 144) (N := 144) (t := 14) (k := 27) E h e0 (by decide) (by decide) (by decide) (Nat.le_of_ble_eq_true rfl) (Nat.le_of_ble_eq_true rfl) rfl rfl (by decide) fkX11_61 rfl (by decide +kernel) dX11_init_135 dX11_init_137 (fun q H locs e0 h => ?_)
  refine lv_aload_n hx hb dX11_init_140 rfl (lv_at hl 0 rfl) ?_
  refine lv_sipush (v := 144) hx hb dX11_init_141 (by decide) ?_
  refine m_stI (n := 144) (N := 144) (t := 15) (k := 28) E h e0 (by decide) (by decide) (by decide) (Nat.le_of_ble_eq_true rfl) (Nat.le_of_ble_eq_true rfl) rfl rfl (by decide) fkX11_64 rfl (by decide +kernel) dX11_init_144 dX11_init_146 (fun q H locs e0 h => ?_)
  refine lv_aload_n hx hb dX11_init_149 rfl (lv_at hl 0 rfl) ?_
  refine lv_bipush (v := 9) hx hb dX11_init_150 (by decide) ?_
  refine m_stI (n := 9) (N := 9) (t := 16) (k := 29) E h e0 (by decide) (by decide) (by decide) (Nat.le_of_ble_eq_true rfl) (Nat.le_of_ble_eq_true rfl) rfl rfl (by decide) fkX11_67 rfl (by decide +kernel) dX11_init_152 dX11_init_154 (fun q H locs e0 h => ?_)
  refine lv_aload_n hx hb dX11_init_157 rfl (lv_at hl 0 rfl) ?_
  refine lv_sipush (v := 1800) hx hb dX11_init_158 (by decide) ?_
  refine m_stI (n := 1800) (N := 1800) (t := 17) (k := 30) E h e0 (by decide) (by decide) (by decide) (Nat.le_of_ble_eq_true rfl) (Nat.le_of_ble_eq_true rfl) rfl rfl (by decide) fkX11_70 rfl (by decide +kernel) dX11_init_161 dX11_init_163 (fun q H locs e0 h => ?_)
  refine lv_aload_n hx hb dX11_init_166 rfl (lv_at hl 0 rfl) ?_
  refine lv_sipush (v := 1800) hx hb dX11_init_167 (by decide) ?_
  refine m_stI (n := 1800) (N := 1800) (t := 18) (k := 31) E h e0 (by decide) (by decide) (by decide) (Nat.le_of_ble_eq_true rfl) (Nat.le_of_ble_eq_true rfl) rfl rfl (by decide) fkX11_73 rfl (by decide +kernel) dX11_init_170 dX11_init_172 (fun q H locs e0 h => ?_)
  refine lv_aload_n hx hb dX11_init_175 rfl (lv_at hl 0 rfl) ?_
  refine lv_sipush (v := 1800) hx hb dX11_init_176 (by decide) ?_
  refine m_stI (n := 1800) (N := 1800) (t := 19) (k := 32) E h e0 (by decide) (by decide) (by decide) (Nat.le_of_ble_eq_true rfl) (Nat.le_of_ble_eq_true rfl) rfl rfl (by decide) fkX11_76 rfl (by decide +kernel) dX11_init_179 dX11_init_181 (fun q H locs e0 h => ?_)
  refine lv_aload_n hx hb dX11_init_184 rfl (lv_at hl 0 rfl) ?_
  refine lv_sipush (v := 1800) hx hb dX11_init_185 (by decide) ?_
  refine m_stI (n := 1800) (N := 1800) (t := 20) (k := 33) E h e0 (by decide) (by decide) (by decide) (Nat.le_of_ble_eq_true rfl) (Nat.le_of_ble_eq_true rfl) rfl rfl (by decide) fkX11_79 rfl (by decide +kernel) dX11_init_188 dX11_init_190 (fun q H locs e0 h => ?_)
  refine lv_aload_n hx hb dX11_init_193 rfl (lv_at hl 0 rfl) ?_
  refine lv_sipush (v := 1800) hx hb dX11_init_194 (by decide) ?_
  refine m_stZ (n := 1800) (N := 1800) (t := 21) (k := 34) E h e0 (by decide) (by decide) (by decide) (Nat.le_of_ble_eq_true rfl) (Nat.le_of_ble_eq_true rfl) rfl rfl (by decide) fkX11_82 rfl (by decide +kernel) dX11_init_197 dX11_init_199 (fun q H locs e0 h => ?_)
  refine lv_aload_n hx hb dX11_init_202 rfl (lv_at hl 0 rfl) ?_
  refine lv_sipush (v := 4500) hx hb dX11_init_203 (by decide) ?_
  refine m_stI (n := 4500) (N := 4500) (t := 22) (k := 36) E h e0 (by decide) (by decide) (by decide) (Nat.le_of_ble_eq_true rfl) (Nat.le_of_ble_eq_true rfl) rfl rfl (by decide) fkX11_86 rfl (by decide +kernel) dX11_init_206 dX11_init_208 (fun q H locs e0 h => ?_)
  refine lv_aload_n hx hb dX11_init_211 rfl (lv_at hl 0 rfl) ?_
  refine lv_sipush (v := 4500) hx hb dX11_init_212 (by decide) ?_
  refine m_stI (n := 4500) (N := 4500) (t := 23) (k := 37) E h e0 (by decide) (by decide) (by decide) (Nat.le_of_ble_eq_true rfl) (Nat.le_of_ble_eq_true rfl) rfl rfl (by decide) fkX11_89 rfl (by decide +kernel) dX11_init_215 dX11_init_217 (fun q H locs e0 h => ?_)
  refine lv_aload_n hx hb dX11_init_220 rfl (lv_at hl 0 rfl) ?_
  refine lv_bipush (v := 48) hx hb dX11_init_221 (by decide) ?_
  refine m_stI (n := 48) (N := 48) (t := 24) (k := 38) E h e0 (by decide) (by decide) (by decide) (Nat.le_of_ble_eq_true rfl) (Nat.le_of_ble_eq_true rfl) rfl rfl (by decide) fkX11_92 rfl (by decide +kernel) dX11_init_223 dX11_init_225 (fun q H locs e0 h => ?_)
  refine lv_aload_n hx hb dX11_init_228 rfl (lv_at hl 0 rfl) ?_
  refine lv_bipush (v := 12) hx hb dX11_init_229 (by decide) ?_
  refine m_stI (n := 12) (N := 12) (t := 25) (k := 41) E h e0 (by decide) (by decide) (by decide) (Nat.le_of_ble_eq_true rfl) (Nat.le_of_ble_eq_true rfl) rfl rfl (by decide) fkX11_95 rfl (by decide +kernel) dX11_init_231 dX11_init_233 (fun q H locs e0 h => ?_)
  refine lv_aload_n hx hb dX11_init_236 rfl (lv_at hl 0 rfl) ?_
  refine lv_bipush (v := 12) hx hb dX11_init_237 (by decide) ?_
  refine m_stI (n := 12) (N := 12) (t := 26) (k := 42) E h e0 (by decide) (by decide) (by decide) (Nat.le_of_ble_eq_true rfl) (Nat.le_of_ble_eq_true rfl) rfl rfl (by decide) fkX11_98 rfl (by decide +kernel) dX11_init_239 dX11_init_241 (fun q H locs e0 h => ?_)
  refine lv_aload_n hx hb dX11_init_244 rfl (lv_at hl 0 rfl) ?_
  refine lv_bipush (v := 12) hx hb dX11_init_245 (by decide) ?_
  refine m_stI (n := 12) (N := 12) (t := 27) (k := 43) E h e0 (by decide) (by decide) (by decide) (Nat.le_of_ble_eq_true rfl) (Nat.le_of_ble_eq_true rfl) rfl rfl (by decide) fkX11_101 rfl (by decide +kernel) dX11_init_247 dX11_init_249 (fun q H locs e0 h => ?_)
  refine lv_aload_n hx hb dX11_init_252 rfl (lv_at hl 0 rfl) ?_
  refine lv_sipush (v := 144) hx hb dX11_init_253 (by decide) ?_
  refine m_stI (n := 144) (N := 144) (t := 28) (k := 44) E h e0 (by decide) (by decide) (by decide) (Nat.le_of_ble_eq_true rfl) (Nat.le_of_ble_eq_true rfl) rfl rfl (by decide) fkX11_104 rfl (by decide +kernel) dX11_init_256 dX11_init_258 (fun q H locs e0 h => ?_)
  refine lv_aload_n hx hb dX11_init_261 rfl (lv_at hl 0 rfl) ?_
  refine lv_bipush (v := 15) hx hb dX11_init_262 (by decide) ?_
  refine m_stI (n := 15) (N := 15) (t := 29) (k := 45) E h e0 (by decide) (by decide) (by decide) (Nat.le_of_ble_eq_true rfl) (Nat.le_of_ble_eq_true rfl) rfl rfl (by decide) fkX11_107 rfl (by decide +kernel) dX11_init_264 dX11_init_266 (fun q H locs e0 h => ?_)
  refine lv_aload_n hx hb dX11_init_269 rfl (lv_at hl 0 rfl) ?_
  refine lv_bipush (v := 10) hx hb dX11_init_270 (by decide) ?_
  refine m_stI (n := 10) (N := 10) (t := 30) (k := 47) E h e0 (by decide) (by decide) (by decide) (Nat.le_of_ble_eq_true rfl) (Nat.le_of_ble_eq_true rfl) rfl rfl (by decide) fkX11_110 rfl (by decide +kernel) dX11_init_272 dX11_init_274 (fun q H locs e0 h => ?_)
  refine lv_aload_n hx hb dX11_init_277 rfl (lv_at hl 0 rfl) ?_
  refine lv_bipush (v := 10) hx hb dX11_init_278 (by decide) ?_
  refine m_stI (n := 10) (N := 10) (t := 31) (k := 48) E h e0 (by decide) (by decide) (by decide) (Nat.le_of_ble_eq_true rfl) (Nat.le_of_ble_eq_true rfl) rfl rfl (by decide) fkX11_113 rfl (by decide +kernel) dX11_init_280 dX11_init_282 (fun q H locs e0 h => ?_)
  refine lv_aload_n hx hb dX11_init_285 rfl (lv_at hl 0 rfl) ?_
  refine lv_bipush (v := 10) hx hb dX11_init_286 (by decide) ?_
  refine m_stI (n := 10) (N := 10) (t := 32) (k := 49) E h e0 (by decide) (by decide) (by decide) (Nat.le_of_ble_eq_true rfl) (Nat.le_of_ble_eq_true rfl) rfl rfl (by decide) fkX11_116 rfl (by decide +kernel) dX11_init_288 dX11_init_290 (fun q H locs e0 h => ?_)
  refine lv_aload_n hx hb dX11_init_293 rfl (lv_at hl 0 rfl) ?_
  refine lv_bipush (v := 10) hx hb dX11_init_294 (by decide) ?_
  refine m_stI (n := 10) (N := 10) (t := 33) (k := 50) E h e0 (by decide) (by decide) (by decide) (Nat.le_of_ble_eq_true rfl) (Nat.le_of_ble_eq_true rfl) rfl rfl (by decide) fkX11_119 rfl (by decide +kernel) dX11_init_296 dX11_init_298 (fun q H locs e0 h => ?_)
  refine lv_aload_n hx hb dX11_init_301 rfl (lv_at hl 0 rfl) ?_
  refine lv_bipush (v := 10) hx hb dX11_init_302 (by decide) ?_
  refine m_stI (n := 10) (N := 10) (t := 34) (k := 51) E h e0 (by decide) (by decide) (by decide) (Nat.le_of_ble_eq_true rfl) (Nat.le_of_ble_eq_true rfl) rfl rfl (by decide) fkX11_122 rfl (by decide +kernel) dX11_init_304 dX11_init_306 (fun q H locs e0 h => ?_)
  refine lv_aload_n hx hb dX11_init_309 rfl (lv_at hl 0 rfl) ?_
  refine lv_bipush (v := 10) hx hb dX11_init_310 (by decide) ?_
  refine m_stI (n := 10) (N := 10) (t := 35) (k := 52) E h e0 (by decide) (by decide) (by decide) (Nat.le_of_ble_eq_true rfl) (Nat.le_of_ble_eq_true rfl) rfl rfl (by decide) fkX11_125 rfl (by decide +kernel) dX11_init_312 dX11_init_314 (fun q H locs e0 h => ?_)
  refine lv_aload_n hx hb dX11_init_317 rfl (lv_at hl 0 rfl) ?_
  refine lv_bipush (v := 20) hx hb dX11_init_318 (by decide) ?_
  refine m_stI (n := 20) (N := 20) (t := 36) (k := 54) E h e0 (by decide) (by decide) (by decide) (Nat.le_of_ble_eq_true rfl) (Nat.le_of_ble_eq_true rfl) rfl rfl (by decide) fkX11_128 rfl (by decide +kernel) dX11_init_320 dX11_init_322 (fun q H locs e0 h => ?_)
  refine lv_aload_n hx hb dX11_init_325 rfl (lv_at hl 0 rfl) ?_
  refine lv_bipush (v := 20) hx hb dX11_init_326 (by decide) ?_
  refine m_stI (n := 20) (N := 20) (t := 37) (k := 55) E h e0 (by decide) (by decide) (by decide) (Nat.le_of_ble_eq_true rfl) (Nat.le_of_ble_eq_true rfl) rfl rfl (by decide) fkX11_131 rfl (by decide +kernel) dX11_init_328 dX11_init_330 (fun q H locs e0 h => ?_)
  refine lv_aload_n hx hb dX11_init_333 rfl (lv_at hl 0 rfl) ?_
  refine lv_bipush (v := 20) hx hb dX11_init_334 (by decide) ?_
  refine m_stI (n := 20) (N := 20) (t := 38) (k := 56) E h e0 (by decide) (by decide) (by decide) (Nat.le_of_ble_eq_true rfl) (Nat.le_of_ble_eq_true rfl) rfl rfl (by decide) fkX11_134 rfl (by decide +kernel) dX11_init_336 dX11_init_338 (fun q H locs e0 h => ?_)
  refine lv_aload_n hx hb dX11_init_341 rfl (lv_at hl 0 rfl) ?_
  refine lv_sipush (v := 200) hx hb dX11_init_342 (by decide) ?_
  refine m_stI (n := 200) (N := 200) (t := 39) (k := 58) E h e0 (by decide) (by decide) (by decide) (Nat.le_of_ble_eq_true rfl) (Nat.le_of_ble_eq_true rfl) rfl rfl (by decide) fkX11_137 rfl (by decide +kernel) dX11_init_345 dX11_init_347 (fun q H locs e0 h => ?_)
  refine lv_aload_n hx hb dX11_init_350 rfl (lv_at hl 0 rfl) ?_
  refine lv_sipush (v := 200) hx hb dX11_init_351 (by decide) ?_
  refine m_stI (n := 200) (N := 200) (t := 40) (k := 59) E h e0 (by decide) (by decide) (by decide) (Nat.le_of_ble_eq_true rfl) (Nat.le_of_ble_eq_true rfl) rfl rfl (by decide) fkX11_140 rfl (by decide +kernel) dX11_init_354 dX11_init_356 (fun q H locs e0 h => ?_)
  refine lv_aload_n hx hb dX11_init_359 rfl (lv_at hl 0 rfl) ?_
  refine lv_sipush (v := 200) hx hb dX11_init_360 (by decide) ?_
  refine m_stI (n := 200) (N := 200) (t := 41) (k := 60) E h e0 (by decide) (by decide) (by decide) (Nat.le_of_ble_eq_true rfl) (Nat.le_of_ble_eq_true rfl) rfl rfl (by decide) fkX11_143 rfl (by decide +kernel) dX11_init_363 dX11_init_365 (fun q H locs e0 h => ?_)
  refine lv_aload_n hx hb dX11_init_368 rfl (lv_at hl 0 rfl) ?_
  refine lv_sipush (v := 200) hx hb dX11_init_369 (by decide) ?_
  refine m_stI (n := 200) (N := 200) (t := 42) (k := 61) E h e0 (by decide) (by decide) (by decide) (Nat.le_of_ble_eq_true rfl) (Nat.le_of_ble_eq_true rfl) rfl rfl (by decide) fkX11_146 rfl (by decide +kernel) dX11_init_372 dX11_init_374 (fun q H locs e0 h => ?_)
  refine lv_aload_n hx hb dX11_init_377 rfl (lv_at hl 0 rfl) ?_
  refine lv_bipush (v := 12) hx hb dX11_init_378 (by decide) ?_
  refine m_stI (n := 12) (N := 12) (t := 43) (k := 62) E h e0 (by decide) (by decide) (by decide) (Nat.le_of_ble_eq_true rfl) (Nat.le_of_ble_eq_true rfl) rfl rfl (by decide) fkX11_149 rfl (by decide +kernel) dX11_init_380 dX11_init_382 (fun q H locs e0 h => ?_)
  refine lv_aload_n hx hb dX11_init_385 rfl (lv_at hl 0 rfl) ?_
  refine lv_sipush (v := 500) hx hb dX11_init_386 (by decide) ?_
  refine m_stI (n := 500) (N := 500) (t := 44) (k := 63) E h e0 (by decide) (by decide) (by decide) (Nat.le_of_ble_eq_true rfl) (Nat.le_of_ble_eq_true rfl) rfl rfl (by decide) fkX11_152 rfl (by decide +kernel) dX11_init_389 dX11_init_391 (fun q H locs e0 h => ?_)
  refine lv_aload_n hx hb dX11_init_394 rfl (lv_at hl 0 rfl) ?_
  refine lv_iconst (v := (-1)) hx hb dX11_init_395 (by decide) ?_
  refine m_stint (t := 45) (k := 64) (x := (-1)) E h e0 rfl (by decide) fkX11_155 rfl (by decide +kernel) dX11_init_396 (fun c H locs ec h => ?_)
  have hc := hc.put ec
  refine lv_aload_n hx hb dX11_init_399 rfl (lv_at hl 0 rfl) ?_
  refine lv_bipush (v := 10) hx hb dX11_init_400 (by decide) ?_
  refine m_stI (n := 10) (N := 10) (t := 45) (k := 65) E h e0 (by decide) (by decide) (by decide) (Nat.le_of_ble_eq_true rfl) (Nat.le_of_ble_eq_true rfl) rfl rfl (by decide) fkX11_158 rfl (by decide +kernel) dX11_init_402 dX11_init_404 (fun q H locs e0 h => ?_)
  refine lv_aload_n hx hb dX11_init_407 rfl (lv_at hl 0 rfl) ?_
  refine lv_bipush (v := 10) hx hb dX11_init_408 (by decide) ?_
  refine m_stI (n := 10) (N := 10) (t := 46) (k := 66) E h e0 (by decide) (by decide) (by decide) (Nat.le_of_ble_eq_true rfl) (Nat.le_of_ble_eq_true rfl) rfl rfl (by decide) fkX11_161 rfl (by decide +kernel) dX11_init_410 dX11_init_412 (fun q H locs e0 h => ?_)
  refine lv_aload_n hx hb dX11_init_415 rfl (lv_at hl 0 rfl) ?_
  refine lv_bipush (v := 10) hx hb dX11_init_416 (by decide) ?_
  refine m_stI (n := 10) (N := 10) (t := 47) (k := 67) E h e0 (by decide) (by decide) (by decide) (Nat.le_of_ble_eq_true rfl) (Nat.le_of_ble_eq_true rfl) rfl rfl (by decide) fkX11_164 rfl (by decide +kernel) dX11_init_418 dX11_init_420 (fun q H locs e0 h => ?_)
  refine lv_aload_n hx hb dX11_init_423 rfl (lv_at hl 0 rfl) ?_
  refine lv_bipush (v := 10) hx hb dX11_init_424 (by decide) ?_
  refine m_stZ (n := 10) (N := 10) (t := 48) (k := 68) E h e0 (by decide) (by decide) (by decide) (Nat.le_of_ble_eq_true rfl) (Nat.le_of_ble_eq_true rfl) rfl rfl (by decide) fkX11_167 rfl (by decide +kernel) dX11_init_426 dX11_init_428 (fun q H locs e0 h => ?_)
  refine lv_aload_n hx hb dX11_init_431 rfl (lv_at hl 0 rfl) ?_
  refine lv_bipush (v := 10) hx hb dX11_init_432 (by decide) ?_
  refine m_stI (n := 10) (N := 10) (t := 49) (k := 69) E h e0 (by decide) (by decide) (by decide) (Nat.le_of_ble_eq_true rfl) (Nat.le_of_ble_eq_true rfl) rfl rfl (by decide) fkX11_170 rfl (by decide +kernel) dX11_init_434 dX11_init_436 (fun q H locs e0 h => ?_)
  refine lv_aload_n hx hb dX11_init_439 rfl (lv_at hl 0 rfl) ?_
  refine lv_bipush (v := 10) hx hb dX11_init_440 (by decide) ?_
  refine m_stI (n := 10) (N := 10) (t := 50) (k := 70) E h e0 (by decide) (by decide) (by decide) (Nat.le_of_ble_eq_true rfl) (Nat.le_of_ble_eq_true rfl) rfl rfl (by decide) fkX11_173 rfl (by decide +kernel) dX11_init_442 dX11_init_444 (fun q H locs e0 h => ?_)
  refine lv_aload_n hx hb dX11_init_447 rfl (lv_at hl 0 rfl) ?_
  refine lv_bipush (v := 10) hx hb dX11_init_448 (by decide) ?_
  refine m_stI (n := 10) (N := 10) (t := 51) (k := 71) E h e0 (by decide) (by decide) (by decide) (Nat.le_of_ble_eq_true rfl) (Nat.le_of_ble_eq_true rfl) rfl rfl (by decide) fkX11_176 rfl (by decide +kernel) dX11_init_450 dX11_init_452 (fun q H locs e0 h => ?_)
  refine lv_aload_n hx hb dX11_init_455 rfl (lv_at hl 0 rfl) ?_
  refine lv_bipush (v := 10) hx hb dX11_init_456 (by decide) ?_
  refine m_stI (n := 10) (N := 10) (t := 52) (k := 72) E h e0 (by decide) (by decide) (by decide) (Nat.le_of_ble_eq_true rfl) (Nat.le_of_ble_eq_true rfl) rfl rfl (by decide) fkX11_179 rfl (by decide +kernel) dX11_init_458 dX11_init_460 (fun q H locs e0 h => ?_)
  refine lv_aload_n hx hb dX11_init_463 rfl (lv_at hl 0 rfl) ?_
  refine lv_bipush (v := 10) hx hb dX11_init_464 (by decide) ?_
  refine m_stI (n := 10) (N := 10) (t := 53) (k := 73) E h e0 (by decide) (by decide) (by decide) (Nat.le_of_ble_eq_true rfl) (Nat.le_of_ble_eq_true rfl) rfl rfl (by decide) fkX11_182 rfl (by decide +kernel) dX11_init_466 dX11_init_468 (fun q H locs e0 h => ?_)
  refine lv_aload_n hx hb dX11_init_471 rfl (lv_at hl 0 rfl) ?_
  refine lv_bipush (v := 10) hx hb dX11_init_472 (by decide) ?_
  refine m_stI (n := 10) (N := 10) (t := 54) (k := 74) E h e0 (by decide) (by decide) (by decide) (Nat.le_of_ble_eq_true rfl) (Nat.le_of_ble_eq_true rfl) rfl rfl (by decide) fkX11_185 rfl (by decide +kernel) dX11_init_474 dX11_init_476 (fun q H locs e0 h => ?_)
  refine lv_aload_n hx hb dX11_init_479 rfl (lv_at hl 0 rfl) ?_
  refine lv_bipush (v := 10) hx hb dX11_init_480 (by decide) ?_
  refine m_stZ (n := 10) (N := 10) (t := 55) (k := 75) E h e0 (by decide) (by decide) (by decide) (Nat.le_of_ble_eq_true rfl) (Nat.le_of_ble_eq_true rfl) rfl rfl (by decide) fkX11_188 rfl (by decide +kernel) dX11_init_482 dX11_init_484 (fun q H locs e0 h => ?_)
  refine lv_aload_n hx hb dX11_init_487 rfl (lv_at hl 0 rfl) ?_
  refine lv_bipush (v := 10) hx hb dX11_init_488 (by decide) ?_
  refine m_stI (n := 10) (N := 10) (t := 56) (k := 76) E h e0 (by decide) (by decide) (by decide) (Nat.le_of_ble_eq_true rfl) (Nat.le_of_ble_eq_true rfl) rfl rfl (by decide) fkX11_191 rfl (by decide +kernel) dX11_init_490 dX11_init_492 (fun q H locs e0 h => ?_)
  refine W.widen (k := 57) (n := 26327) (Nat.le_of_ble_eq_true rfl) (Nat.le_of_ble_eq_true rfl) ?_
  have h : xH D A s (MW q cy mS0) H locs := by
    rw [MWt_end] at h
    have e : mS0 = (c, fun _ _ => 0, fun _ _ => 0) := by rw [hc]; rfl
    rw [e]
    exact h
  have hl : lv_has ls 1 [(0, .ref (q 0))] := by rw [e0]; exact hl
  exact wkM_init_495 E.1 e0 mS0 _ _ _ h hw hl

