/-! THE CLAIM OUT OF ONE WALK OF THE LAW'S BODY. Your part is whole_start (and what it stands on); all else here is the same for every law, but numbers. -/
def R_law : String := "PromiseCourtLaw"
def lw_P (b : Addr) (xs : List Int32) (args : Array Value) (s : State) : Prop := args = #[.ref b] ∧ s.IntsAt b xs ∧ xs.length ≤ 3584 ∧ (Jvm.Cond.and given_1 narrow_1).before args s = true
def lw_Q (_ : Array Value) (s : State) (o : Outcome) (t : State) : Prop := o = .returned (some (.int 1)) ∧ Framed s o t [] 600000 7302250
def lw_Z (below : List Frame) (a : Array Value) (s : State) : State → Prop := fun t => ∃ o, t.status = .running ∧ Ended t below o ∧ lw_Q a s o t
/-- the law's own end, with 1 on the stack, nothing written that was there before, its room as the claim has it -/
theorem lw_ret {p : Program} {l : Launch} {e : Env} {s : State} {m : MethodId} {below : List Frame} {meth : Method} {c : Code} {b : Nat} (hx : p.tables.exec = Jvm.exec) (hb : c.code = code) (hr : meth.sig.returnType = ret) (hlocks : meth.locks = false) {pc : Nat} {H : Heap} {ls : Array Slot} (hdg : decode code pc = .ok (.ireturn, 1)) : W p l e room_1 s m #[Value.ref b] below meth c H [] 600000 7302250 (lw_Z below #[Value.ref b] s) (F0 m pc ls [.int 1]) := by
  intro T hT X
  obtain ⟨fs, hret, hrun, hended, hW, hframe⟩ := X.leave (v := some (.int 1)) (hlocks := hlocks) (fun h => by rw [hr] at h; cases h)
  have hmeth' : T.vm.method? m = some meth := X.method'
  refine ⟨T.setFrames fs, ?_, .returned (some (.int 1)), hrun, hended, rfl, ⟨_, rfl⟩, hW, hframe⟩
  jvm_step X.here [X.here.top, hx, hb, hdg, hmeth', hr, ret, narrow_b1]
  (try refine ⟨rfl, ?_⟩); (try refine ⟨rfl, ?_⟩)
  first | (intro acts; rw [hret _ acts rfl rfl rfl]) | rw [hret _ _ rfl rfl rfl]
  exact Steps.refl _
/-- what holds at the law's entry: the machine, the code, the tables' words (any of lw_tbl by 'hts w (by decide +kernel)'), the script of L ints xs at the cell b, what the Statement gives of the start (any of its parts by flat_of_before) -/
def lw_At (p : Program) (s : State) (m : MethodId) (meth : Method) (c : Code) (b L : Nat) (xs : Nat → Int32) : Prop :=
  p.tables.exec = Jvm.exec ∧ c.code = code ∧ meth.sig.returnType = ret ∧ c.maxLocals = 4 ∧ s.vm.findClass R_law = some m.cls ∧ (∀ w ∈ lw_tbl, w.before #[Value.ref b] s = true) ∧ va_X b L xs s s.heap ∧ b < s.heap.size ∧ meth.locks = false ∧ (Jvm.Cond.and given_1 narrow_1).before #[Value.ref b] s = true
def PAll (Inv : CS → MS → Prop) : Prop :=
  (∀ (σx : CS) (σm : MS) (a1 : Int32) (a2 : Int32) (a3 : Int32) (a4 : Int32) (a5 : Int32), Inv σx σm → wpC_X10_feed σx a1 a2 a3 a4 a5 (fun r τ => wpM_feed σm a1 a2 a3 a4 a5 (fun r2 τ2 => r = r2 ∧ Inv τ τ2))) ∧
  (∀ (σx : CS) (σm : MS) (a1 : Int32), Inv σx σm → wpC_X10_back σx a1 (fun r τ => wpM_back σm a1 (fun r2 τ2 => r = r2 ∧ Inv τ τ2))) ∧
  (∀ (σx : CS) (σm : MS) (a1 : Int32) (a2 : Int32), Inv σx σm → wpC_X10_read σx a1 a2 (fun r τ => wpM_read σm a1 a2 (fun r2 τ2 => r = r2 ∧ Inv τ τ2))) ∧
  (∀ (σx : CS) (σm : MS), Inv σx σm → wpC_X10_place σx (fun r τ => wpM_place σm (fun r2 τ2 => r = r2 ∧ Inv τ τ2))) ∧
  (∀ (σx : CS) (σm : MS) (a1 : Int32) (a2 : Int32) (a3 : Int32), Inv σx σm → wpC_X10_person σx a1 a2 a3 (fun r τ => wpM_person σm a1 a2 a3 (fun r2 τ2 => r = r2 ∧ Inv τ τ2))) ∧
  (∀ (σx : CS) (σm : MS) (a1 : Int32) (a2 : Int32) (a3 : Int32) (a4 : Int32) (a5 : Int32) (a6 : Int32), Inv σx σm → wpC_X10_promise σx a1 a2 a3 a4 a5 a6 (fun r τ => wpM_promise σm a1 a2 a3 a4 a5 a6 (fun r2 τ2 => r = r2 ∧ Inv τ τ2))) ∧
  (∀ (σx : CS) (σm : MS) (a1 : Int32) (a2 : Int32) (a3 : Int32), Inv σx σm → wpC_X10_gift σx a1 a2 a3 (fun r τ => wpM_gift σm a1 a2 a3 (fun r2 τ2 => r = r2 ∧ Inv τ τ2))) ∧
  (∀ (σx : CS) (σm : MS) (a1 : Int32) (a2 : Int32) (a3 : Int32), Inv σx σm → (a3 = 0 ∨ a3 = 1) → wpC_X10_says σx a1 a2 a3 (fun r τ => wpM_says σm a1 a2 a3 (fun r2 τ2 => r = r2 ∧ Inv τ τ2))) ∧
  (∀ (σx : CS) (σm : MS) (a1 : Int32), Inv σx σm → wpC_X10_fame σx a1 (fun r τ => wpM_fame σm a1 (fun r2 τ2 => r = r2 ∧ Inv τ τ2))) ∧
  (∀ (σx : CS) (σm : MS) (a1 : Int32) (a2 : Int32) (a3 : Int32), Inv σx σm → (a3 = 0 ∨ a3 = 1) → wpC_X10_comes σx a1 a2 a3 (fun r τ => wpM_comes σm a1 a2 a3 (fun r2 τ2 => r = r2 ∧ Inv τ τ2))) ∧
  (∀ (σx : CS) (σm : MS) (a1 : Int32) (a2 : Int32) (a3 : Int32), Inv σx σm → wpC_X10_fate σx a1 a2 a3 (fun r τ => wpM_fate σm a1 a2 a3 (fun r2 τ2 => r = r2 ∧ Inv τ τ2))) ∧
  (∀ (σx : CS) (σm : MS) (a1 : Int32) (a2 : Int32) (a3 : Int32), Inv σx σm → wpC_X10_leave σx a1 a2 a3 (fun r τ => wpM_leave σm a1 a2 a3 (fun r2 τ2 => r = r2 ∧ Inv τ τ2))) ∧
  (∀ (σx : CS) (σm : MS) (a1 : Int32) (a2 : Int32), Inv σx σm → wpC_X10_degree σx a1 a2 (fun r τ => wpM_degree σm a1 a2 (fun r2 τ2 => r = r2 ∧ Inv τ τ2))) ∧
  (∀ (σx : CS) (σm : MS) (a1 : Int32), Inv σx σm → wpC_X10_gaps σx a1 (fun r τ => wpM_gaps σm a1 (fun r2 τ2 => r = r2 ∧ Inv τ τ2))) ∧
  (∀ (σx : CS) (σm : MS) (a1 : Int32), Inv σx σm → wpC_X10_law σx a1 (fun r τ => wpM_law σm a1 (fun r2 τ2 => r = r2 ∧ Inv τ τ2))) ∧
  (∀ (σx : CS) (σm : MS) (a1 : Int32) (a2 : Int32), Inv σx σm → wpC_X10_proved σx a1 a2 (fun r τ => wpM_proved σm a1 a2 (fun r2 τ2 => r = r2 ∧ Inv τ τ2))) ∧
  (∀ (σx : CS) (σm : MS) (a1 : Int32) (a2 : Int32), Inv σx σm → wpC_X10_barred σx a1 a2 (fun r τ => wpM_barred σm a1 a2 (fun r2 τ2 => r = r2 ∧ Inv τ τ2))) ∧
  (∀ (σx : CS) (σm : MS) (a1 : Int32) (a2 : Int32) (a3 : Int32), Inv σx σm → wpC_X10_state σx a1 a2 a3 (fun r τ => wpM_state σm a1 a2 a3 (fun r2 τ2 => r = r2 ∧ Inv τ τ2))) ∧
  (∀ (σx : CS) (σm : MS) (a1 : Int32) (a2 : Int32) (a3 : Int32), Inv σx σm → wpC_X10_force σx a1 a2 a3 (fun r τ => wpM_force σm a1 a2 a3 (fun r2 τ2 => r = r2 ∧ Inv τ τ2))) ∧
  (∀ (σx : CS) (σm : MS) (a1 : Int32) (a2 : Int32) (a3 : Int32), Inv σx σm → wpC_X10_bound σx a1 a2 a3 (fun r τ => wpM_bound σm a1 a2 a3 (fun r2 τ2 => r = r2 ∧ Inv τ τ2))) ∧
  (∀ (σx : CS) (σm : MS) (a1 : Int32) (a2 : Int32) (a3 : Int32), Inv σx σm → wpC_X10_goes σx a1 a2 a3 (fun r τ => wpM_goes σm a1 a2 a3 (fun r2 τ2 => r = r2 ∧ Inv τ τ2))) ∧
  (∀ (σx : CS) (σm : MS) (a1 : Int32) (a2 : Int32) (a3 : Int32), Inv σx σm → wpC_X10_owes σx a1 a2 a3 (fun r τ => wpM_owes σm a1 a2 a3 (fun r2 τ2 => r = r2 ∧ Inv τ τ2))) ∧
  (∀ (σx : CS) (σm : MS) (a1 : Int32) (a2 : Int32) (a3 : Int32), Inv σx σm → wpC_X10_changed σx a1 a2 a3 (fun r τ => wpM_changed σm a1 a2 a3 (fun r2 τ2 => r = r2 ∧ Inv τ τ2))) ∧
  (∀ (σx : CS) (σm : MS) (a1 : Int32), Inv σx σm → wpC_X10_count σx a1 (fun r τ => wpM_count σm a1 (fun r2 τ2 => r = r2 ∧ Inv τ τ2)))
theorem lL_13 : Cond.methodLink RL 13 yX10_feed ∈ wsA := wsA_mem 454 (by decide +kernel) (by decide +kernel)
theorem lL_17 : Cond.methodLink RL 17 yX11_feed ∈ wsA := wsA_mem 1185 (by decide +kernel) (by decide +kernel)
theorem lL_18 : Cond.methodLink RL 18 yX10_back ∈ wsA := wsA_mem 462 (by decide +kernel) (by decide +kernel)
theorem lL_22 : Cond.methodLink RL 22 yX11_back ∈ wsA := wsA_mem 1193 (by decide +kernel) (by decide +kernel)
theorem lL_23 : Cond.methodLink RL 23 yX10_read ∈ wsA := wsA_mem 466 (by decide +kernel) (by decide +kernel)
theorem lL_27 : Cond.methodLink RL 27 yX11_read ∈ wsA := wsA_mem 1197 (by decide +kernel) (by decide +kernel)
theorem lL_28 : Cond.methodLink RL 28 yX10_place ∈ wsA := wsA_mem 611 (by decide +kernel) (by decide +kernel)
theorem lL_32 : Cond.methodLink RL 32 yX11_place ∈ wsA := wsA_mem 1262 (by decide +kernel) (by decide +kernel)
theorem lL_33 : Cond.methodLink RL 33 yX10_person ∈ wsA := wsA_mem 615 (by decide +kernel) (by decide +kernel)
theorem lL_37 : Cond.methodLink RL 37 yX11_person ∈ wsA := wsA_mem 1266 (by decide +kernel) (by decide +kernel)
theorem lL_38 : Cond.methodLink RL 38 yX10_promise ∈ wsA := wsA_mem 636 (by decide +kernel) (by decide +kernel)
theorem lL_42 : Cond.methodLink RL 42 yX11_promise ∈ wsA := wsA_mem 1286 (by decide +kernel) (by decide +kernel)
theorem lL_43 : Cond.methodLink RL 43 yX10_gift ∈ wsA := wsA_mem 652 (by decide +kernel) (by decide +kernel)
theorem lL_46 : Cond.methodLink RL 46 yX11_gift ∈ wsA := wsA_mem 1290 (by decide +kernel) (by decide +kernel)
theorem lL_47 : Cond.methodLink RL 47 yX10_says ∈ wsA := wsA_mem 664 (by decide +kernel) (by decide +kernel)
theorem lL_51 : Cond.methodLink RL 51 yX11_says ∈ wsA := wsA_mem 1298 (by decide +kernel) (by decide +kernel)
theorem lL_52 : Cond.methodLink RL 52 yX10_fame ∈ wsA := wsA_mem 676 (by decide +kernel) (by decide +kernel)
theorem lL_55 : Cond.methodLink RL 55 yX11_fame ∈ wsA := wsA_mem 1306 (by decide +kernel) (by decide +kernel)
theorem lL_56 : Cond.methodLink RL 56 yX10_comes ∈ wsA := wsA_mem 680 (by decide +kernel) (by decide +kernel)
theorem lL_59 : Cond.methodLink RL 59 yX11_comes ∈ wsA := wsA_mem 1310 (by decide +kernel) (by decide +kernel)
theorem lL_60 : Cond.methodLink RL 60 yX10_fate ∈ wsA := wsA_mem 684 (by decide +kernel) (by decide +kernel)
theorem lL_63 : Cond.methodLink RL 63 yX11_fate ∈ wsA := wsA_mem 1314 (by decide +kernel) (by decide +kernel)
theorem lL_64 : Cond.methodLink RL 64 yX10_leave ∈ wsA := wsA_mem 688 (by decide +kernel) (by decide +kernel)
theorem lL_67 : Cond.methodLink RL 67 yX11_leave ∈ wsA := wsA_mem 1318 (by decide +kernel) (by decide +kernel)
theorem lL_68 : Cond.methodLink RL 68 yX10_degree ∈ wsA := wsA_mem 692 (by decide +kernel) (by decide +kernel)
theorem lL_71 : Cond.methodLink RL 71 yX11_degree ∈ wsA := wsA_mem 1270 (by decide +kernel) (by decide +kernel)
theorem lL_72 : Cond.methodLink RL 72 yX10_gaps ∈ wsA := wsA_mem 703 (by decide +kernel) (by decide +kernel)
theorem lL_75 : Cond.methodLink RL 75 yX11_gaps ∈ wsA := wsA_mem 1282 (by decide +kernel) (by decide +kernel)
theorem lL_76 : Cond.methodLink RL 76 yX10_law ∈ wsA := wsA_mem 715 (by decide +kernel) (by decide +kernel)
theorem lL_79 : Cond.methodLink RL 79 yX11_law ∈ wsA := wsA_mem 1322 (by decide +kernel) (by decide +kernel)
theorem lL_80 : Cond.methodLink RL 80 yX10_proved ∈ wsA := wsA_mem 723 (by decide +kernel) (by decide +kernel)
theorem lL_83 : Cond.methodLink RL 83 yX11_proved ∈ wsA := wsA_mem 1330 (by decide +kernel) (by decide +kernel)
theorem lL_84 : Cond.methodLink RL 84 yX10_barred ∈ wsA := wsA_mem 872 (by decide +kernel) (by decide +kernel)
theorem lL_87 : Cond.methodLink RL 87 yX11_barred ∈ wsA := wsA_mem 1399 (by decide +kernel) (by decide +kernel)
theorem lL_88 : Cond.methodLink RL 88 yX10_state ∈ wsA := wsA_mem 876 (by decide +kernel) (by decide +kernel)
theorem lL_91 : Cond.methodLink RL 91 yX11_state ∈ wsA := wsA_mem 1403 (by decide +kernel) (by decide +kernel)
theorem lL_92 : Cond.methodLink RL 92 yX10_force ∈ wsA := wsA_mem 884 (by decide +kernel) (by decide +kernel)
theorem lL_95 : Cond.methodLink RL 95 yX11_force ∈ wsA := wsA_mem 1411 (by decide +kernel) (by decide +kernel)
theorem lL_96 : Cond.methodLink RL 96 yX10_bound ∈ wsA := wsA_mem 892 (by decide +kernel) (by decide +kernel)
theorem lL_99 : Cond.methodLink RL 99 yX11_bound ∈ wsA := wsA_mem 1415 (by decide +kernel) (by decide +kernel)
theorem lL_100 : Cond.methodLink RL 100 yX10_goes ∈ wsA := wsA_mem 900 (by decide +kernel) (by decide +kernel)
theorem lL_103 : Cond.methodLink RL 103 yX11_goes ∈ wsA := wsA_mem 1419 (by decide +kernel) (by decide +kernel)
theorem lL_104 : Cond.methodLink RL 104 yX10_owes ∈ wsA := wsA_mem 924 (by decide +kernel) (by decide +kernel)
theorem lL_107 : Cond.methodLink RL 107 yX11_owes ∈ wsA := wsA_mem 1427 (by decide +kernel) (by decide +kernel)
theorem lL_108 : Cond.methodLink RL 108 yX10_changed ∈ wsA := wsA_mem 932 (by decide +kernel) (by decide +kernel)
theorem lL_111 : Cond.methodLink RL 111 yX11_changed ∈ wsA := wsA_mem 1431 (by decide +kernel) (by decide +kernel)
theorem lL_112 : Cond.methodLink RL 112 yX10_count ∈ wsA := wsA_mem 936 (by decide +kernel) (by decide +kernel)
theorem lL_115 : Cond.methodLink RL 115 yX11_count ∈ wsA := wsA_mem 1435 (by decide +kernel) (by decide +kernel)
theorem lL_9 : Cond.methodLink RL 9 yX10_init ∈ wsA := wsA_mem 129 (by decide +kernel) (by decide +kernel)
theorem lL_12 : Cond.methodLink RL 12 yX11_init ∈ wsA := wsA_mem 942 (by decide +kernel) (by decide +kernel)
theorem yyX10_read : xY yX10_read RX10 cX10_read 4 (some .int) 2 := ⟨⟨wsA_mem 467 (by decide +kernel) (by decide +kernel), wsA_mem 468 (by decide +kernel) (by decide +kernel), wsA_mem 108 (by decide +kernel) (by decide +kernel), wsA_mem 469 (by decide +kernel) (by decide +kernel)⟩, by decide +kernel⟩
section LawCases
variable {p : Program} {l : Launch} {e : Env} {s : State} {m : MethodId} {below : List Frame} {meth : Method} {c : Code} {D : va_G} {cy : Nat → ClassId} {ks : Nat × Nat × Option Nat} {b L : Nat} {xs : Nat → Int32} {Inv : CS → MS → Prop}
set_option maxHeartbeats 4000000 in
set_option maxRecDepth 20000 in
theorem law_c0 (hP : PAll Inv) (E : zE code RL 4 ret D cy ks (fun q : Nat => s.heap.size ≤ q) p s m #[Value.ref b] meth c) (hX : lX s) (hXs : va_X b L xs s s.heap) (hbl : b < s.heap.size) {t : Nat} {x3 : Int32} (ht : t ≤ 512) (hv : ∀ j : Nat, j < 7 → vp_in (x3 + nI j) L) {σx : CS} {σm : MS} {q qm : Nat → Nat} {H : Heap} {locs : List Loc} {ls : Array Slot} (hI : Inv σx σm) (h : xH D (fun q : Nat => s.heap.size ≤ q) s (CW q cy σx ++ MW qm cy σm) H locs) (hl : lv_has ls 4 [(0, .ref b), (1, .ref (q 0)), (2, .ref (qm 0)), (3, .int x3)]) {Q : State → Prop}
    (kk : ∀ (σx : CS) (σm : MS) (q qm : Nat → Nat) (H : Heap) (locs : List Loc) (ls : Array Slot), Inv σx σm → xH D (fun q : Nat => s.heap.size ≤ q) s (CW q cy σx ++ MW qm cy σm) H locs → lv_has ls 4 [(0, .ref b), (1, .ref (q 0)), (2, .ref (qm 0)), (3, .int x3)] → W p l e room_1 s m #[Value.ref b] below meth c H locs (107 + 3 * (t + 1)) (30172 + 804 * (t + 1)) Q (F0 m 1090 ls [])) : W p l e room_1 s m #[Value.ref b] below meth c H locs (107 + 3 * t) (30172 + 804 * t) Q (F0 m 144 ls []) := by
  have hx := E.1.1
  have hb := E.1.2.1
  have hbA : ¬ (fun q : Nat => s.heap.size ≤ q) b := Nat.not_le.mpr hbl
  have hce : 107 + 3 * t ≤ 600000 := by omega
  have hsl : 30172 + 804 * t ≤ 7302250 := by omega
  have hw := hP.1 σx σm ((xs (x3 + 1).toNatClampNeg)) ((xs (x3 + 2).toNatClampNeg)) ((xs (x3 + 3).toNatClampNeg)) ((xs (x3 + 4).toNatClampNeg)) ((xs (x3 + 5).toNatClampNeg)) hI
  refine lv_aload_n hx hb dL_law_144 rfl (lv_at hl 1 rfl) ?_
  refine lv_aload_n hx hb dL_law_145 rfl (lv_at hl 0 rfl) ?_
  refine lv_iload_n hx hb dL_law_146 rfl (lv_at hl 3 rfl) ?_
  refine lv_iconst (v := 1) hx hb dL_law_147 (by decide) ?_
  refine lv_iadd hx hb dL_law_148 ?_
  refine va_sld hx hb hXs hbl hbA h.2.2.1 (hv 1 (by decide)) dL_law_149 ?_
  refine lv_aload_n hx hb dL_law_150 rfl (lv_at hl 0 rfl) ?_
  refine lv_iload_n hx hb dL_law_151 rfl (lv_at hl 3 rfl) ?_
  refine lv_iconst (v := 2) hx hb dL_law_152 (by decide) ?_
  refine lv_iadd hx hb dL_law_153 ?_
  refine va_sld hx hb hXs hbl hbA h.2.2.1 (hv 2 (by decide)) dL_law_154 ?_
  refine lv_aload_n hx hb dL_law_155 rfl (lv_at hl 0 rfl) ?_
  refine lv_iload_n hx hb dL_law_156 rfl (lv_at hl 3 rfl) ?_
  refine lv_iconst (v := 3) hx hb dL_law_157 (by decide) ?_
  refine lv_iadd hx hb dL_law_158 ?_
  refine va_sld hx hb hXs hbl hbA h.2.2.1 (hv 3 (by decide)) dL_law_159 ?_
  refine lv_aload_n hx hb dL_law_160 rfl (lv_at hl 0 rfl) ?_
  refine lv_iload_n hx hb dL_law_161 rfl (lv_at hl 3 rfl) ?_
  refine lv_iconst (v := 4) hx hb dL_law_162 (by decide) ?_
  refine lv_iadd hx hb dL_law_163 ?_
  refine va_sld hx hb hXs hbl hbA h.2.2.1 (hv 4 (by decide)) dL_law_164 ?_
  refine lv_aload_n hx hb dL_law_165 rfl (lv_at hl 0 rfl) ?_
  refine lv_iload_n hx hb dL_law_166 rfl (lv_at hl 3 rfl) ?_
  refine lv_iconst (v := 5) hx hb dL_law_167 (by decide) ?_
  refine lv_iadd hx hb dL_law_168 ?_
  refine va_sld hx hb hXs hbl hbA h.2.2.1 (hv 5 (by decide)) dL_law_169 ?_
  refine J_calli (WW := CW q cy) (ws0 := CW q cy σx) (Rs := MW qm cy σm) h (z_runV (WW := CW q cy) (rest := []) E h.left (cC_X10_feed hw) yyX10_feed lL_13 0 rfl rfl ⟨Nat.le_of_ble_eq_true rfl, Nat.le_of_ble_eq_true rfl⟩ rfl rfl hl.1 rfl (Nat.le_of_ble_eq_true rfl) dL_law_170 ⟨hce, hsl⟩) (fun r1 σ1 H locs hw h => ?_)
  refine lv_aload_n hx hb dL_law_173 rfl (lv_at hl 2 rfl) ?_
  refine lv_aload_n hx hb dL_law_174 rfl (lv_at hl 0 rfl) ?_
  refine lv_iload_n hx hb dL_law_175 rfl (lv_at hl 3 rfl) ?_
  refine lv_iconst (v := 1) hx hb dL_law_176 (by decide) ?_
  refine lv_iadd hx hb dL_law_177 ?_
  refine va_sld hx hb hXs hbl hbA h.2.2.1 (hv 1 (by decide)) dL_law_178 ?_
  refine lv_aload_n hx hb dL_law_179 rfl (lv_at hl 0 rfl) ?_
  refine lv_iload_n hx hb dL_law_180 rfl (lv_at hl 3 rfl) ?_
  refine lv_iconst (v := 2) hx hb dL_law_181 (by decide) ?_
  refine lv_iadd hx hb dL_law_182 ?_
  refine va_sld hx hb hXs hbl hbA h.2.2.1 (hv 2 (by decide)) dL_law_183 ?_
  refine lv_aload_n hx hb dL_law_184 rfl (lv_at hl 0 rfl) ?_
  refine lv_iload_n hx hb dL_law_185 rfl (lv_at hl 3 rfl) ?_
  refine lv_iconst (v := 3) hx hb dL_law_186 (by decide) ?_
  refine lv_iadd hx hb dL_law_187 ?_
  refine va_sld hx hb hXs hbl hbA h.2.2.1 (hv 3 (by decide)) dL_law_188 ?_
  refine lv_aload_n hx hb dL_law_189 rfl (lv_at hl 0 rfl) ?_
  refine lv_iload_n hx hb dL_law_190 rfl (lv_at hl 3 rfl) ?_
  refine lv_iconst (v := 4) hx hb dL_law_191 (by decide) ?_
  refine lv_iadd hx hb dL_law_192 ?_
  refine va_sld hx hb hXs hbl hbA h.2.2.1 (hv 4 (by decide)) dL_law_193 ?_
  refine lv_aload_n hx hb dL_law_194 rfl (lv_at hl 0 rfl) ?_
  refine lv_iload_n hx hb dL_law_195 rfl (lv_at hl 3 rfl) ?_
  refine lv_iconst (v := 5) hx hb dL_law_196 (by decide) ?_
  refine lv_iadd hx hb dL_law_197 ?_
  refine va_sld hx hb hXs hbl hbA h.2.2.1 (hv 5 (by decide)) dL_law_198 ?_
  have h := h.swap
  refine J_calli (WW := MW qm cy) (ws0 := MW qm cy σm) (Rs := CW q cy σ1) h (x_runV (WW := MW qm cy) (rest := [.int r1]) E.1 h.left (cM_feed hw) yyX11_feed lL_17 0 rfl rfl ⟨Nat.le_of_ble_eq_true rfl, Nat.le_of_ble_eq_true rfl⟩ rfl rfl hl.1 rfl (Nat.le_of_ble_eq_true rfl) dL_law_199 ⟨hce, hsl⟩) (fun r2 σ2 H locs hw h => ?_)
  have h := h.swap
  refine lv_icmp_eq (tgt := 1090) hx hb dL_law_202 (by decide) (fun c1 => ?_) (fun c1 => absurd hw.1 c1)
  refine W.widen (k := 107 + 3 * (t + 1)) (n := 30172 + 804 * (t + 1)) (by omega) (by omega) ?_
  exact kk σ1 σ2 q qm H locs ls hw.2 h hl

set_option maxHeartbeats 4000000 in
set_option maxRecDepth 20000 in
theorem law_c1 (hP : PAll Inv) (E : zE code RL 4 ret D cy ks (fun q : Nat => s.heap.size ≤ q) p s m #[Value.ref b] meth c) (hX : lX s) (hXs : va_X b L xs s s.heap) (hbl : b < s.heap.size) {t : Nat} {x3 : Int32} (ht : t ≤ 512) (hv : ∀ j : Nat, j < 7 → vp_in (x3 + nI j) L) {σx : CS} {σm : MS} {q qm : Nat → Nat} {H : Heap} {locs : List Loc} {ls : Array Slot} (hI : Inv σx σm) (h : xH D (fun q : Nat => s.heap.size ≤ q) s (CW q cy σx ++ MW qm cy σm) H locs) (hl : lv_has ls 4 [(0, .ref b), (1, .ref (q 0)), (2, .ref (qm 0)), (3, .int x3)]) {Q : State → Prop}
    (kk : ∀ (σx : CS) (σm : MS) (q qm : Nat → Nat) (H : Heap) (locs : List Loc) (ls : Array Slot), Inv σx σm → xH D (fun q : Nat => s.heap.size ≤ q) s (CW q cy σx ++ MW qm cy σm) H locs → lv_has ls 4 [(0, .ref b), (1, .ref (q 0)), (2, .ref (qm 0)), (3, .int x3)] → W p l e room_1 s m #[Value.ref b] below meth c H locs (107 + 3 * (t + 1)) (30172 + 804 * (t + 1)) Q (F0 m 1090 ls [])) : W p l e room_1 s m #[Value.ref b] below meth c H locs (107 + 3 * t) (30172 + 804 * t) Q (F0 m 207 ls []) := by
  have hx := E.1.1
  have hb := E.1.2.1
  have hbA : ¬ (fun q : Nat => s.heap.size ≤ q) b := Nat.not_le.mpr hbl
  have hce : 107 + 3 * t ≤ 600000 := by omega
  have hsl : 30172 + 804 * t ≤ 7302250 := by omega
  have hw := hP.2.1 σx σm ((xs (x3 + 1).toNatClampNeg)) hI
  refine lv_aload_n hx hb dL_law_207 rfl (lv_at hl 1 rfl) ?_
  refine lv_aload_n hx hb dL_law_208 rfl (lv_at hl 0 rfl) ?_
  refine lv_iload_n hx hb dL_law_209 rfl (lv_at hl 3 rfl) ?_
  refine lv_iconst (v := 1) hx hb dL_law_210 (by decide) ?_
  refine lv_iadd hx hb dL_law_211 ?_
  refine va_sld hx hb hXs hbl hbA h.2.2.1 (hv 1 (by decide)) dL_law_212 ?_
  refine J_calli (WW := CW q cy) (ws0 := CW q cy σx) (Rs := MW qm cy σm) h (z_runV (WW := CW q cy) (rest := []) E h.left (cC_X10_back hw) yyX10_back lL_18 0 rfl rfl ⟨Nat.le_of_ble_eq_true rfl, Nat.le_of_ble_eq_true rfl⟩ rfl rfl hl.1 rfl (Nat.le_of_ble_eq_true rfl) dL_law_213 ⟨hce, hsl⟩) (fun r1 σ1 H locs hw h => ?_)
  refine lv_aload_n hx hb dL_law_216 rfl (lv_at hl 2 rfl) ?_
  refine lv_aload_n hx hb dL_law_217 rfl (lv_at hl 0 rfl) ?_
  refine lv_iload_n hx hb dL_law_218 rfl (lv_at hl 3 rfl) ?_
  refine lv_iconst (v := 1) hx hb dL_law_219 (by decide) ?_
  refine lv_iadd hx hb dL_law_220 ?_
  refine va_sld hx hb hXs hbl hbA h.2.2.1 (hv 1 (by decide)) dL_law_221 ?_
  have h := h.swap
  refine J_calli (WW := MW qm cy) (ws0 := MW qm cy σm) (Rs := CW q cy σ1) h (x_runV (WW := MW qm cy) (rest := [.int r1]) E.1 h.left (cM_back hw) yyX11_back lL_22 0 rfl rfl ⟨Nat.le_of_ble_eq_true rfl, Nat.le_of_ble_eq_true rfl⟩ rfl rfl hl.1 rfl (Nat.le_of_ble_eq_true rfl) dL_law_222 ⟨hce, hsl⟩) (fun r2 σ2 H locs hw h => ?_)
  have h := h.swap
  refine lv_icmp_eq (tgt := 1090) hx hb dL_law_225 (by decide) (fun c1 => ?_) (fun c1 => absurd hw.1 c1)
  refine W.widen (k := 107 + 3 * (t + 1)) (n := 30172 + 804 * (t + 1)) (by omega) (by omega) ?_
  exact kk σ1 σ2 q qm H locs ls hw.2 h hl

set_option maxHeartbeats 4000000 in
set_option maxRecDepth 20000 in
theorem law_c2 (hP : PAll Inv) (E : zE code RL 4 ret D cy ks (fun q : Nat => s.heap.size ≤ q) p s m #[Value.ref b] meth c) (hX : lX s) (hXs : va_X b L xs s s.heap) (hbl : b < s.heap.size) {t : Nat} {x3 : Int32} (ht : t ≤ 512) (hv : ∀ j : Nat, j < 7 → vp_in (x3 + nI j) L) {σx : CS} {σm : MS} {q qm : Nat → Nat} {H : Heap} {locs : List Loc} {ls : Array Slot} (hI : Inv σx σm) (h : xH D (fun q : Nat => s.heap.size ≤ q) s (CW q cy σx ++ MW qm cy σm) H locs) (hl : lv_has ls 4 [(0, .ref b), (1, .ref (q 0)), (2, .ref (qm 0)), (3, .int x3)]) {Q : State → Prop}
    (kk : ∀ (σx : CS) (σm : MS) (q qm : Nat → Nat) (H : Heap) (locs : List Loc) (ls : Array Slot), Inv σx σm → xH D (fun q : Nat => s.heap.size ≤ q) s (CW q cy σx ++ MW qm cy σm) H locs → lv_has ls 4 [(0, .ref b), (1, .ref (q 0)), (2, .ref (qm 0)), (3, .int x3)] → W p l e room_1 s m #[Value.ref b] below meth c H locs (107 + 3 * (t + 1)) (30172 + 804 * (t + 1)) Q (F0 m 1090 ls [])) : W p l e room_1 s m #[Value.ref b] below meth c H locs (107 + 3 * t) (30172 + 804 * t) Q (F0 m 230 ls []) := by
  have hx := E.1.1
  have hb := E.1.2.1
  have hbA : ¬ (fun q : Nat => s.heap.size ≤ q) b := Nat.not_le.mpr hbl
  have hce : 107 + 3 * t ≤ 600000 := by omega
  have hsl : 30172 + 804 * t ≤ 7302250 := by omega
  have hw := hP.2.2.1 σx σm ((xs (x3 + 1).toNatClampNeg)) ((xs (x3 + 2).toNatClampNeg)) hI
  refine lv_aload_n hx hb dL_law_230 rfl (lv_at hl 1 rfl) ?_
  refine lv_aload_n hx hb dL_law_231 rfl (lv_at hl 0 rfl) ?_
  refine lv_iload_n hx hb dL_law_232 rfl (lv_at hl 3 rfl) ?_
  refine lv_iconst (v := 1) hx hb dL_law_233 (by decide) ?_
  refine lv_iadd hx hb dL_law_234 ?_
  refine va_sld hx hb hXs hbl hbA h.2.2.1 (hv 1 (by decide)) dL_law_235 ?_
  refine lv_aload_n hx hb dL_law_236 rfl (lv_at hl 0 rfl) ?_
  refine lv_iload_n hx hb dL_law_237 rfl (lv_at hl 3 rfl) ?_
  refine lv_iconst (v := 2) hx hb dL_law_238 (by decide) ?_
  refine lv_iadd hx hb dL_law_239 ?_
  refine va_sld hx hb hXs hbl hbA h.2.2.1 (hv 2 (by decide)) dL_law_240 ?_
  refine J_calli (WW := fun u : (Nat → Nat) × CS => CW u.1 cy u.2) (ws0 := CW q cy σx) (Rs := MW qm cy σm) h (J_runR (rest := []) E hX h.left (cC_X10_read hw) yyX10_read lL_23 0 rfl rfl ⟨Nat.le_of_ble_eq_true rfl, Nat.le_of_ble_eq_true rfl⟩ rfl rfl hl.1 rfl (Nat.le_of_ble_eq_true rfl) dL_law_241 ⟨by show 107 + 3 * t + 3 ≤ 600000; omega, by show 30172 + 804 * t + 804 ≤ 7302250; omega⟩) (fun r1 u H locs hw h => ?_)
  obtain ⟨q1, σ1⟩ := u
  have hl : lv_has ls 4 [(0, .ref b), (1, .ref (q1 0)), (2, .ref (qm 0)), (3, .int x3)] := by have e1 : q1 0 = q 0 := hw.2; rw [e1]; exact hl
  have hw := hw.1
  have h : xH D (fun q : Nat => s.heap.size ≤ q) s (CW q1 cy σ1 ++ MW qm cy σm) H locs := h
  refine lv_aload_n hx hb dL_law_244 rfl (lv_at hl 2 rfl) ?_
  refine lv_aload_n hx hb dL_law_245 rfl (lv_at hl 0 rfl) ?_
  refine lv_iload_n hx hb dL_law_246 rfl (lv_at hl 3 rfl) ?_
  refine lv_iconst (v := 1) hx hb dL_law_247 (by decide) ?_
  refine lv_iadd hx hb dL_law_248 ?_
  refine va_sld hx hb hXs hbl hbA h.2.2.1 (hv 1 (by decide)) dL_law_249 ?_
  refine lv_aload_n hx hb dL_law_250 rfl (lv_at hl 0 rfl) ?_
  refine lv_iload_n hx hb dL_law_251 rfl (lv_at hl 3 rfl) ?_
  refine lv_iconst (v := 2) hx hb dL_law_252 (by decide) ?_
  refine lv_iadd hx hb dL_law_253 ?_
  refine va_sld hx hb hXs hbl hbA h.2.2.1 (hv 2 (by decide)) dL_law_254 ?_
  have h := h.swap
  refine J_calli (WW := MW qm cy) (ws0 := MW qm cy σm) (Rs := CW q1 cy σ1) h (x_runV (WW := MW qm cy) (rest := [.int r1]) E.1 h.left (cM_read hw) yyX11_read lL_27 0 rfl rfl ⟨Nat.le_of_ble_eq_true rfl, Nat.le_of_ble_eq_true rfl⟩ rfl rfl hl.1 rfl (Nat.le_of_ble_eq_true rfl) dL_law_255 ⟨by show 107 + 3 * t + 3 ≤ 600000; omega, by show 30172 + 804 * t + 804 ≤ 7302250; omega⟩) (fun r2 σ2 H locs hw h => ?_)
  have h := h.swap
  refine lv_icmp_eq (tgt := 1090) hx hb dL_law_258 (by decide) (fun c1 => ?_) (fun c1 => absurd hw.1 c1)
  refine W.widen (k := 107 + 3 * (t + 1)) (n := 30172 + 804 * (t + 1)) (by omega) (by omega) ?_
  exact kk σ1 σ2 q1 qm H locs ls hw.2 h hl

set_option maxHeartbeats 4000000 in
set_option maxRecDepth 20000 in
theorem law_c3 (hP : PAll Inv) (E : zE code RL 4 ret D cy ks (fun q : Nat => s.heap.size ≤ q) p s m #[Value.ref b] meth c) (hX : lX s) (hXs : va_X b L xs s s.heap) (hbl : b < s.heap.size) {t : Nat} {x3 : Int32} (ht : t ≤ 512) (hv : ∀ j : Nat, j < 7 → vp_in (x3 + nI j) L) {σx : CS} {σm : MS} {q qm : Nat → Nat} {H : Heap} {locs : List Loc} {ls : Array Slot} (hI : Inv σx σm) (h : xH D (fun q : Nat => s.heap.size ≤ q) s (CW q cy σx ++ MW qm cy σm) H locs) (hl : lv_has ls 4 [(0, .ref b), (1, .ref (q 0)), (2, .ref (qm 0)), (3, .int x3)]) {Q : State → Prop}
    (kk : ∀ (σx : CS) (σm : MS) (q qm : Nat → Nat) (H : Heap) (locs : List Loc) (ls : Array Slot), Inv σx σm → xH D (fun q : Nat => s.heap.size ≤ q) s (CW q cy σx ++ MW qm cy σm) H locs → lv_has ls 4 [(0, .ref b), (1, .ref (q 0)), (2, .ref (qm 0)), (3, .int x3)] → W p l e room_1 s m #[Value.ref b] below meth c H locs (107 + 3 * (t + 1)) (30172 + 804 * (t + 1)) Q (F0 m 1090 ls [])) : W p l e room_1 s m #[Value.ref b] below meth c H locs (107 + 3 * t) (30172 + 804 * t) Q (F0 m 263 ls []) := by
  have hx := E.1.1
  have hb := E.1.2.1
  have hbA : ¬ (fun q : Nat => s.heap.size ≤ q) b := Nat.not_le.mpr hbl
  have hce : 107 + 3 * t ≤ 600000 := by omega
  have hsl : 30172 + 804 * t ≤ 7302250 := by omega
  have hw := hP.2.2.2.1 σx σm hI
  refine lv_aload_n hx hb dL_law_263 rfl (lv_at hl 1 rfl) ?_
  refine J_calli (WW := CW q cy) (ws0 := CW q cy σx) (Rs := MW qm cy σm) h (z_runV (WW := CW q cy) (rest := []) E h.left (cC_X10_place hw) yyX10_place lL_28 0 rfl rfl ⟨Nat.le_of_ble_eq_true rfl, Nat.le_of_ble_eq_true rfl⟩ rfl rfl hl.1 rfl (Nat.le_of_ble_eq_true rfl) dL_law_264 ⟨hce, hsl⟩) (fun r1 σ1 H locs hw h => ?_)
  refine lv_aload_n hx hb dL_law_267 rfl (lv_at hl 2 rfl) ?_
  have h := h.swap
  refine J_calli (WW := MW qm cy) (ws0 := MW qm cy σm) (Rs := CW q cy σ1) h (x_runV (WW := MW qm cy) (rest := [.int r1]) E.1 h.left (cM_place hw) yyX11_place lL_32 0 rfl rfl ⟨Nat.le_of_ble_eq_true rfl, Nat.le_of_ble_eq_true rfl⟩ rfl rfl hl.1 rfl (Nat.le_of_ble_eq_true rfl) dL_law_268 ⟨hce, hsl⟩) (fun r2 σ2 H locs hw h => ?_)
  have h := h.swap
  refine lv_icmp_eq (tgt := 1090) hx hb dL_law_271 (by decide) (fun c1 => ?_) (fun c1 => absurd hw.1 c1)
  refine W.widen (k := 107 + 3 * (t + 1)) (n := 30172 + 804 * (t + 1)) (by omega) (by omega) ?_
  exact kk σ1 σ2 q qm H locs ls hw.2 h hl

set_option maxHeartbeats 4000000 in
set_option maxRecDepth 20000 in
theorem law_c4 (hP : PAll Inv) (E : zE code RL 4 ret D cy ks (fun q : Nat => s.heap.size ≤ q) p s m #[Value.ref b] meth c) (hX : lX s) (hXs : va_X b L xs s s.heap) (hbl : b < s.heap.size) {t : Nat} {x3 : Int32} (ht : t ≤ 512) (hv : ∀ j : Nat, j < 7 → vp_in (x3 + nI j) L) {σx : CS} {σm : MS} {q qm : Nat → Nat} {H : Heap} {locs : List Loc} {ls : Array Slot} (hI : Inv σx σm) (h : xH D (fun q : Nat => s.heap.size ≤ q) s (CW q cy σx ++ MW qm cy σm) H locs) (hl : lv_has ls 4 [(0, .ref b), (1, .ref (q 0)), (2, .ref (qm 0)), (3, .int x3)]) {Q : State → Prop}
    (kk : ∀ (σx : CS) (σm : MS) (q qm : Nat → Nat) (H : Heap) (locs : List Loc) (ls : Array Slot), Inv σx σm → xH D (fun q : Nat => s.heap.size ≤ q) s (CW q cy σx ++ MW qm cy σm) H locs → lv_has ls 4 [(0, .ref b), (1, .ref (q 0)), (2, .ref (qm 0)), (3, .int x3)] → W p l e room_1 s m #[Value.ref b] below meth c H locs (107 + 3 * (t + 1)) (30172 + 804 * (t + 1)) Q (F0 m 1090 ls [])) : W p l e room_1 s m #[Value.ref b] below meth c H locs (107 + 3 * t) (30172 + 804 * t) Q (F0 m 276 ls []) := by
  have hx := E.1.1
  have hb := E.1.2.1
  have hbA : ¬ (fun q : Nat => s.heap.size ≤ q) b := Nat.not_le.mpr hbl
  have hce : 107 + 3 * t ≤ 600000 := by omega
  have hsl : 30172 + 804 * t ≤ 7302250 := by omega
  have hw := hP.2.2.2.2.1 σx σm ((xs (x3 + 1).toNatClampNeg)) ((xs (x3 + 2).toNatClampNeg)) ((xs (x3 + 3).toNatClampNeg)) hI
  refine lv_aload_n hx hb dL_law_276 rfl (lv_at hl 1 rfl) ?_
  refine lv_aload_n hx hb dL_law_277 rfl (lv_at hl 0 rfl) ?_
  refine lv_iload_n hx hb dL_law_278 rfl (lv_at hl 3 rfl) ?_
  refine lv_iconst (v := 1) hx hb dL_law_279 (by decide) ?_
  refine lv_iadd hx hb dL_law_280 ?_
  refine va_sld hx hb hXs hbl hbA h.2.2.1 (hv 1 (by decide)) dL_law_281 ?_
  refine lv_aload_n hx hb dL_law_282 rfl (lv_at hl 0 rfl) ?_
  refine lv_iload_n hx hb dL_law_283 rfl (lv_at hl 3 rfl) ?_
  refine lv_iconst (v := 2) hx hb dL_law_284 (by decide) ?_
  refine lv_iadd hx hb dL_law_285 ?_
  refine va_sld hx hb hXs hbl hbA h.2.2.1 (hv 2 (by decide)) dL_law_286 ?_
  refine lv_aload_n hx hb dL_law_287 rfl (lv_at hl 0 rfl) ?_
  refine lv_iload_n hx hb dL_law_288 rfl (lv_at hl 3 rfl) ?_
  refine lv_iconst (v := 3) hx hb dL_law_289 (by decide) ?_
  refine lv_iadd hx hb dL_law_290 ?_
  refine va_sld hx hb hXs hbl hbA h.2.2.1 (hv 3 (by decide)) dL_law_291 ?_
  refine J_calli (WW := CW q cy) (ws0 := CW q cy σx) (Rs := MW qm cy σm) h (z_runV (WW := CW q cy) (rest := []) E h.left (cC_X10_person hw) yyX10_person lL_33 0 rfl rfl ⟨Nat.le_of_ble_eq_true rfl, Nat.le_of_ble_eq_true rfl⟩ rfl rfl hl.1 rfl (Nat.le_of_ble_eq_true rfl) dL_law_292 ⟨hce, hsl⟩) (fun r1 σ1 H locs hw h => ?_)
  refine lv_aload_n hx hb dL_law_295 rfl (lv_at hl 2 rfl) ?_
  refine lv_aload_n hx hb dL_law_296 rfl (lv_at hl 0 rfl) ?_
  refine lv_iload_n hx hb dL_law_297 rfl (lv_at hl 3 rfl) ?_
  refine lv_iconst (v := 1) hx hb dL_law_298 (by decide) ?_
  refine lv_iadd hx hb dL_law_299 ?_
  refine va_sld hx hb hXs hbl hbA h.2.2.1 (hv 1 (by decide)) dL_law_300 ?_
  refine lv_aload_n hx hb dL_law_301 rfl (lv_at hl 0 rfl) ?_
  refine lv_iload_n hx hb dL_law_302 rfl (lv_at hl 3 rfl) ?_
  refine lv_iconst (v := 2) hx hb dL_law_303 (by decide) ?_
  refine lv_iadd hx hb dL_law_304 ?_
  refine va_sld hx hb hXs hbl hbA h.2.2.1 (hv 2 (by decide)) dL_law_305 ?_
  refine lv_aload_n hx hb dL_law_306 rfl (lv_at hl 0 rfl) ?_
  refine lv_iload_n hx hb dL_law_307 rfl (lv_at hl 3 rfl) ?_
  refine lv_iconst (v := 3) hx hb dL_law_308 (by decide) ?_
  refine lv_iadd hx hb dL_law_309 ?_
  refine va_sld hx hb hXs hbl hbA h.2.2.1 (hv 3 (by decide)) dL_law_310 ?_
  have h := h.swap
  refine J_calli (WW := MW qm cy) (ws0 := MW qm cy σm) (Rs := CW q cy σ1) h (x_runV (WW := MW qm cy) (rest := [.int r1]) E.1 h.left (cM_person hw) yyX11_person lL_37 0 rfl rfl ⟨Nat.le_of_ble_eq_true rfl, Nat.le_of_ble_eq_true rfl⟩ rfl rfl hl.1 rfl (Nat.le_of_ble_eq_true rfl) dL_law_311 ⟨hce, hsl⟩) (fun r2 σ2 H locs hw h => ?_)
  have h := h.swap
  refine lv_icmp_eq (tgt := 1090) hx hb dL_law_314 (by decide) (fun c1 => ?_) (fun c1 => absurd hw.1 c1)
  refine W.widen (k := 107 + 3 * (t + 1)) (n := 30172 + 804 * (t + 1)) (by omega) (by omega) ?_
  exact kk σ1 σ2 q qm H locs ls hw.2 h hl

set_option maxHeartbeats 4000000 in
set_option maxRecDepth 20000 in
theorem law_c5 (hP : PAll Inv) (E : zE code RL 4 ret D cy ks (fun q : Nat => s.heap.size ≤ q) p s m #[Value.ref b] meth c) (hX : lX s) (hXs : va_X b L xs s s.heap) (hbl : b < s.heap.size) {t : Nat} {x3 : Int32} (ht : t ≤ 512) (hv : ∀ j : Nat, j < 7 → vp_in (x3 + nI j) L) {σx : CS} {σm : MS} {q qm : Nat → Nat} {H : Heap} {locs : List Loc} {ls : Array Slot} (hI : Inv σx σm) (h : xH D (fun q : Nat => s.heap.size ≤ q) s (CW q cy σx ++ MW qm cy σm) H locs) (hl : lv_has ls 4 [(0, .ref b), (1, .ref (q 0)), (2, .ref (qm 0)), (3, .int x3)]) {Q : State → Prop}
    (kk : ∀ (σx : CS) (σm : MS) (q qm : Nat → Nat) (H : Heap) (locs : List Loc) (ls : Array Slot), Inv σx σm → xH D (fun q : Nat => s.heap.size ≤ q) s (CW q cy σx ++ MW qm cy σm) H locs → lv_has ls 4 [(0, .ref b), (1, .ref (q 0)), (2, .ref (qm 0)), (3, .int x3)] → W p l e room_1 s m #[Value.ref b] below meth c H locs (107 + 3 * (t + 1)) (30172 + 804 * (t + 1)) Q (F0 m 1090 ls [])) : W p l e room_1 s m #[Value.ref b] below meth c H locs (107 + 3 * t) (30172 + 804 * t) Q (F0 m 319 ls []) := by
  have hx := E.1.1
  have hb := E.1.2.1
  have hbA : ¬ (fun q : Nat => s.heap.size ≤ q) b := Nat.not_le.mpr hbl
  have hce : 107 + 3 * t ≤ 600000 := by omega
  have hsl : 30172 + 804 * t ≤ 7302250 := by omega
  have hw := hP.2.2.2.2.2.1 σx σm ((xs (x3 + 1).toNatClampNeg)) ((xs (x3 + 2).toNatClampNeg)) ((xs (x3 + 3).toNatClampNeg)) ((xs (x3 + 4).toNatClampNeg)) ((xs (x3 + 5).toNatClampNeg)) ((xs (x3 + 6).toNatClampNeg)) hI
  refine lv_aload_n hx hb dL_law_319 rfl (lv_at hl 1 rfl) ?_
  refine lv_aload_n hx hb dL_law_320 rfl (lv_at hl 0 rfl) ?_
  refine lv_iload_n hx hb dL_law_321 rfl (lv_at hl 3 rfl) ?_
  refine lv_iconst (v := 1) hx hb dL_law_322 (by decide) ?_
  refine lv_iadd hx hb dL_law_323 ?_
  refine va_sld hx hb hXs hbl hbA h.2.2.1 (hv 1 (by decide)) dL_law_324 ?_
  refine lv_aload_n hx hb dL_law_325 rfl (lv_at hl 0 rfl) ?_
  refine lv_iload_n hx hb dL_law_326 rfl (lv_at hl 3 rfl) ?_
  refine lv_iconst (v := 2) hx hb dL_law_327 (by decide) ?_
  refine lv_iadd hx hb dL_law_328 ?_
  refine va_sld hx hb hXs hbl hbA h.2.2.1 (hv 2 (by decide)) dL_law_329 ?_
  refine lv_aload_n hx hb dL_law_330 rfl (lv_at hl 0 rfl) ?_
  refine lv_iload_n hx hb dL_law_331 rfl (lv_at hl 3 rfl) ?_
  refine lv_iconst (v := 3) hx hb dL_law_332 (by decide) ?_
  refine lv_iadd hx hb dL_law_333 ?_
  refine va_sld hx hb hXs hbl hbA h.2.2.1 (hv 3 (by decide)) dL_law_334 ?_
  refine lv_aload_n hx hb dL_law_335 rfl (lv_at hl 0 rfl) ?_
  refine lv_iload_n hx hb dL_law_336 rfl (lv_at hl 3 rfl) ?_
  refine lv_iconst (v := 4) hx hb dL_law_337 (by decide) ?_
  refine lv_iadd hx hb dL_law_338 ?_
  refine va_sld hx hb hXs hbl hbA h.2.2.1 (hv 4 (by decide)) dL_law_339 ?_
  refine lv_aload_n hx hb dL_law_340 rfl (lv_at hl 0 rfl) ?_
  refine lv_iload_n hx hb dL_law_341 rfl (lv_at hl 3 rfl) ?_
  refine lv_iconst (v := 5) hx hb dL_law_342 (by decide) ?_
  refine lv_iadd hx hb dL_law_343 ?_
  refine va_sld hx hb hXs hbl hbA h.2.2.1 (hv 5 (by decide)) dL_law_344 ?_
  refine lv_aload_n hx hb dL_law_345 rfl (lv_at hl 0 rfl) ?_
  refine lv_iload_n hx hb dL_law_346 rfl (lv_at hl 3 rfl) ?_
  refine lv_bipush (v := 6) hx hb dL_law_347 (by decide) ?_
  refine lv_iadd hx hb dL_law_349 ?_
  refine va_sld hx hb hXs hbl hbA h.2.2.1 (hv 6 (by decide)) dL_law_350 ?_
  refine J_calli (WW := CW q cy) (ws0 := CW q cy σx) (Rs := MW qm cy σm) h (z_runV (WW := CW q cy) (rest := []) E h.left (cC_X10_promise hw) yyX10_promise lL_38 0 rfl rfl ⟨Nat.le_of_ble_eq_true rfl, Nat.le_of_ble_eq_true rfl⟩ rfl rfl hl.1 rfl (Nat.le_of_ble_eq_true rfl) dL_law_351 ⟨hce, hsl⟩) (fun r1 σ1 H locs hw h => ?_)
  refine lv_aload_n hx hb dL_law_354 rfl (lv_at hl 2 rfl) ?_
  refine lv_aload_n hx hb dL_law_355 rfl (lv_at hl 0 rfl) ?_
  refine lv_iload_n hx hb dL_law_356 rfl (lv_at hl 3 rfl) ?_
  refine lv_iconst (v := 1) hx hb dL_law_357 (by decide) ?_
  refine lv_iadd hx hb dL_law_358 ?_
  refine va_sld hx hb hXs hbl hbA h.2.2.1 (hv 1 (by decide)) dL_law_359 ?_
  refine lv_aload_n hx hb dL_law_360 rfl (lv_at hl 0 rfl) ?_
  refine lv_iload_n hx hb dL_law_361 rfl (lv_at hl 3 rfl) ?_
  refine lv_iconst (v := 2) hx hb dL_law_362 (by decide) ?_
  refine lv_iadd hx hb dL_law_363 ?_
  refine va_sld hx hb hXs hbl hbA h.2.2.1 (hv 2 (by decide)) dL_law_364 ?_
  refine lv_aload_n hx hb dL_law_365 rfl (lv_at hl 0 rfl) ?_
  refine lv_iload_n hx hb dL_law_366 rfl (lv_at hl 3 rfl) ?_
  refine lv_iconst (v := 3) hx hb dL_law_367 (by decide) ?_
  refine lv_iadd hx hb dL_law_368 ?_
  refine va_sld hx hb hXs hbl hbA h.2.2.1 (hv 3 (by decide)) dL_law_369 ?_
  refine lv_aload_n hx hb dL_law_370 rfl (lv_at hl 0 rfl) ?_
  refine lv_iload_n hx hb dL_law_371 rfl (lv_at hl 3 rfl) ?_
  refine lv_iconst (v := 4) hx hb dL_law_372 (by decide) ?_
  refine lv_iadd hx hb dL_law_373 ?_
  refine va_sld hx hb hXs hbl hbA h.2.2.1 (hv 4 (by decide)) dL_law_374 ?_
  refine lv_aload_n hx hb dL_law_375 rfl (lv_at hl 0 rfl) ?_
  refine lv_iload_n hx hb dL_law_376 rfl (lv_at hl 3 rfl) ?_
  refine lv_iconst (v := 5) hx hb dL_law_377 (by decide) ?_
  refine lv_iadd hx hb dL_law_378 ?_
  refine va_sld hx hb hXs hbl hbA h.2.2.1 (hv 5 (by decide)) dL_law_379 ?_
  refine lv_aload_n hx hb dL_law_380 rfl (lv_at hl 0 rfl) ?_
  refine lv_iload_n hx hb dL_law_381 rfl (lv_at hl 3 rfl) ?_
  refine lv_bipush (v := 6) hx hb dL_law_382 (by decide) ?_
  refine lv_iadd hx hb dL_law_384 ?_
  refine va_sld hx hb hXs hbl hbA h.2.2.1 (hv 6 (by decide)) dL_law_385 ?_
  have h := h.swap
  refine J_calli (WW := MW qm cy) (ws0 := MW qm cy σm) (Rs := CW q cy σ1) h (x_runV (WW := MW qm cy) (rest := [.int r1]) E.1 h.left (cM_promise hw) yyX11_promise lL_42 0 rfl rfl ⟨Nat.le_of_ble_eq_true rfl, Nat.le_of_ble_eq_true rfl⟩ rfl rfl hl.1 rfl (Nat.le_of_ble_eq_true rfl) dL_law_386 ⟨hce, hsl⟩) (fun r2 σ2 H locs hw h => ?_)
  have h := h.swap
  refine lv_icmp_eq (tgt := 1090) hx hb dL_law_389 (by decide) (fun c1 => ?_) (fun c1 => absurd hw.1 c1)
  refine W.widen (k := 107 + 3 * (t + 1)) (n := 30172 + 804 * (t + 1)) (by omega) (by omega) ?_
  exact kk σ1 σ2 q qm H locs ls hw.2 h hl

set_option maxHeartbeats 4000000 in
set_option maxRecDepth 20000 in
theorem law_c6 (hP : PAll Inv) (E : zE code RL 4 ret D cy ks (fun q : Nat => s.heap.size ≤ q) p s m #[Value.ref b] meth c) (hX : lX s) (hXs : va_X b L xs s s.heap) (hbl : b < s.heap.size) {t : Nat} {x3 : Int32} (ht : t ≤ 512) (hv : ∀ j : Nat, j < 7 → vp_in (x3 + nI j) L) {σx : CS} {σm : MS} {q qm : Nat → Nat} {H : Heap} {locs : List Loc} {ls : Array Slot} (hI : Inv σx σm) (h : xH D (fun q : Nat => s.heap.size ≤ q) s (CW q cy σx ++ MW qm cy σm) H locs) (hl : lv_has ls 4 [(0, .ref b), (1, .ref (q 0)), (2, .ref (qm 0)), (3, .int x3)]) {Q : State → Prop}
    (kk : ∀ (σx : CS) (σm : MS) (q qm : Nat → Nat) (H : Heap) (locs : List Loc) (ls : Array Slot), Inv σx σm → xH D (fun q : Nat => s.heap.size ≤ q) s (CW q cy σx ++ MW qm cy σm) H locs → lv_has ls 4 [(0, .ref b), (1, .ref (q 0)), (2, .ref (qm 0)), (3, .int x3)] → W p l e room_1 s m #[Value.ref b] below meth c H locs (107 + 3 * (t + 1)) (30172 + 804 * (t + 1)) Q (F0 m 1090 ls [])) : W p l e room_1 s m #[Value.ref b] below meth c H locs (107 + 3 * t) (30172 + 804 * t) Q (F0 m 394 ls []) := by
  have hx := E.1.1
  have hb := E.1.2.1
  have hbA : ¬ (fun q : Nat => s.heap.size ≤ q) b := Nat.not_le.mpr hbl
  have hce : 107 + 3 * t ≤ 600000 := by omega
  have hsl : 30172 + 804 * t ≤ 7302250 := by omega
  have hw := hP.2.2.2.2.2.2.1 σx σm ((xs (x3 + 1).toNatClampNeg)) ((xs (x3 + 2).toNatClampNeg)) ((xs (x3 + 3).toNatClampNeg)) hI
  refine lv_aload_n hx hb dL_law_394 rfl (lv_at hl 1 rfl) ?_
  refine lv_aload_n hx hb dL_law_395 rfl (lv_at hl 0 rfl) ?_
  refine lv_iload_n hx hb dL_law_396 rfl (lv_at hl 3 rfl) ?_
  refine lv_iconst (v := 1) hx hb dL_law_397 (by decide) ?_
  refine lv_iadd hx hb dL_law_398 ?_
  refine va_sld hx hb hXs hbl hbA h.2.2.1 (hv 1 (by decide)) dL_law_399 ?_
  refine lv_aload_n hx hb dL_law_400 rfl (lv_at hl 0 rfl) ?_
  refine lv_iload_n hx hb dL_law_401 rfl (lv_at hl 3 rfl) ?_
  refine lv_iconst (v := 2) hx hb dL_law_402 (by decide) ?_
  refine lv_iadd hx hb dL_law_403 ?_
  refine va_sld hx hb hXs hbl hbA h.2.2.1 (hv 2 (by decide)) dL_law_404 ?_
  refine lv_aload_n hx hb dL_law_405 rfl (lv_at hl 0 rfl) ?_
  refine lv_iload_n hx hb dL_law_406 rfl (lv_at hl 3 rfl) ?_
  refine lv_iconst (v := 3) hx hb dL_law_407 (by decide) ?_
  refine lv_iadd hx hb dL_law_408 ?_
  refine va_sld hx hb hXs hbl hbA h.2.2.1 (hv 3 (by decide)) dL_law_409 ?_
  refine J_calli (WW := CW q cy) (ws0 := CW q cy σx) (Rs := MW qm cy σm) h (z_runV (WW := CW q cy) (rest := []) E h.left (cC_X10_gift hw) yyX10_gift lL_43 0 rfl rfl ⟨Nat.le_of_ble_eq_true rfl, Nat.le_of_ble_eq_true rfl⟩ rfl rfl hl.1 rfl (Nat.le_of_ble_eq_true rfl) dL_law_410 ⟨hce, hsl⟩) (fun r1 σ1 H locs hw h => ?_)
  refine lv_aload_n hx hb dL_law_413 rfl (lv_at hl 2 rfl) ?_
  refine lv_aload_n hx hb dL_law_414 rfl (lv_at hl 0 rfl) ?_
  refine lv_iload_n hx hb dL_law_415 rfl (lv_at hl 3 rfl) ?_
  refine lv_iconst (v := 1) hx hb dL_law_416 (by decide) ?_
  refine lv_iadd hx hb dL_law_417 ?_
  refine va_sld hx hb hXs hbl hbA h.2.2.1 (hv 1 (by decide)) dL_law_418 ?_
  refine lv_aload_n hx hb dL_law_419 rfl (lv_at hl 0 rfl) ?_
  refine lv_iload_n hx hb dL_law_420 rfl (lv_at hl 3 rfl) ?_
  refine lv_iconst (v := 2) hx hb dL_law_421 (by decide) ?_
  refine lv_iadd hx hb dL_law_422 ?_
  refine va_sld hx hb hXs hbl hbA h.2.2.1 (hv 2 (by decide)) dL_law_423 ?_
  refine lv_aload_n hx hb dL_law_424 rfl (lv_at hl 0 rfl) ?_
  refine lv_iload_n hx hb dL_law_425 rfl (lv_at hl 3 rfl) ?_
  refine lv_iconst (v := 3) hx hb dL_law_426 (by decide) ?_
  refine lv_iadd hx hb dL_law_427 ?_
  refine va_sld hx hb hXs hbl hbA h.2.2.1 (hv 3 (by decide)) dL_law_428 ?_
  have h := h.swap
  refine J_calli (WW := MW qm cy) (ws0 := MW qm cy σm) (Rs := CW q cy σ1) h (x_runV (WW := MW qm cy) (rest := [.int r1]) E.1 h.left (cM_gift hw) yyX11_gift lL_46 0 rfl rfl ⟨Nat.le_of_ble_eq_true rfl, Nat.le_of_ble_eq_true rfl⟩ rfl rfl hl.1 rfl (Nat.le_of_ble_eq_true rfl) dL_law_429 ⟨hce, hsl⟩) (fun r2 σ2 H locs hw h => ?_)
  have h := h.swap
  refine lv_icmp_eq (tgt := 1090) hx hb dL_law_432 (by decide) (fun c1 => ?_) (fun c1 => absurd hw.1 c1)
  refine W.widen (k := 107 + 3 * (t + 1)) (n := 30172 + 804 * (t + 1)) (by omega) (by omega) ?_
  exact kk σ1 σ2 q qm H locs ls hw.2 h hl

set_option maxHeartbeats 4000000 in
set_option maxRecDepth 20000 in
theorem law_c7 (hP : PAll Inv) (E : zE code RL 4 ret D cy ks (fun q : Nat => s.heap.size ≤ q) p s m #[Value.ref b] meth c) (hX : lX s) (hXs : va_X b L xs s s.heap) (hbl : b < s.heap.size) {t : Nat} {x3 : Int32} (ht : t ≤ 512) (hv : ∀ j : Nat, j < 7 → vp_in (x3 + nI j) L) {σx : CS} {σm : MS} {q qm : Nat → Nat} {H : Heap} {locs : List Loc} {ls : Array Slot} (hI : Inv σx σm) (h : xH D (fun q : Nat => s.heap.size ≤ q) s (CW q cy σx ++ MW qm cy σm) H locs) (hl : lv_has ls 4 [(0, .ref b), (1, .ref (q 0)), (2, .ref (qm 0)), (3, .int x3)]) {Q : State → Prop}
    (kk : ∀ (σx : CS) (σm : MS) (q qm : Nat → Nat) (H : Heap) (locs : List Loc) (ls : Array Slot), Inv σx σm → xH D (fun q : Nat => s.heap.size ≤ q) s (CW q cy σx ++ MW qm cy σm) H locs → lv_has ls 4 [(0, .ref b), (1, .ref (q 0)), (2, .ref (qm 0)), (3, .int x3)] → W p l e room_1 s m #[Value.ref b] below meth c H locs (107 + 3 * (t + 1)) (30172 + 804 * (t + 1)) Q (F0 m 1090 ls [])) : W p l e room_1 s m #[Value.ref b] below meth c H locs (107 + 3 * t) (30172 + 804 * t) Q (F0 m 437 ls []) := by
  have hx := E.1.1
  have hb := E.1.2.1
  have hbA : ¬ (fun q : Nat => s.heap.size ≤ q) b := Nat.not_le.mpr hbl
  have hce : 107 + 3 * t ≤ 600000 := by omega
  have hsl : 30172 + 804 * t ≤ 7302250 := by omega
  by_cases hz : xs (x3 + 3).toNatClampNeg = 0
  · have hw := hP.2.2.2.2.2.2.2.1 σx σm ((xs (x3 + 1).toNatClampNeg)) ((xs (x3 + 2).toNatClampNeg)) 0 hI (Or.inl rfl)
    refine lv_aload_n hx hb dL_law_437 rfl (lv_at hl 1 rfl) ?_
    refine lv_aload_n hx hb dL_law_438 rfl (lv_at hl 0 rfl) ?_
    refine lv_iload_n hx hb dL_law_439 rfl (lv_at hl 3 rfl) ?_
    refine lv_iconst (v := 1) hx hb dL_law_440 (by decide) ?_
    refine lv_iadd hx hb dL_law_441 ?_
    refine va_sld hx hb hXs hbl hbA h.2.2.1 (hv 1 (by decide)) dL_law_442 ?_
    refine lv_aload_n hx hb dL_law_443 rfl (lv_at hl 0 rfl) ?_
    refine lv_iload_n hx hb dL_law_444 rfl (lv_at hl 3 rfl) ?_
    refine lv_iconst (v := 2) hx hb dL_law_445 (by decide) ?_
    refine lv_iadd hx hb dL_law_446 ?_
    refine va_sld hx hb hXs hbl hbA h.2.2.1 (hv 2 (by decide)) dL_law_447 ?_
    refine lv_aload_n hx hb dL_law_448 rfl (lv_at hl 0 rfl) ?_
    refine lv_iload_n hx hb dL_law_449 rfl (lv_at hl 3 rfl) ?_
    refine lv_iconst (v := 3) hx hb dL_law_450 (by decide) ?_
    refine lv_iadd hx hb dL_law_451 ?_
    refine va_sld hx hb hXs hbl hbA h.2.2.1 (hv 3 (by decide)) dL_law_452 ?_
    refine lv_if_eq (tgt := 460) hx hb dL_law_453 (by decide) (fun _ => ?_) (fun c1 => absurd hz c1)
    refine lv_iconst (v := 0) hx hb dL_law_460 (by decide) ?_
    refine J_calli (WW := CW q cy) (ws0 := CW q cy σx) (Rs := MW qm cy σm) h (z_runV (WW := CW q cy) (rest := []) E h.left (cC_X10_says hw) yyX10_says lL_47 0 rfl rfl ⟨Nat.le_of_ble_eq_true rfl, Nat.le_of_ble_eq_true rfl⟩ rfl rfl hl.1 rfl (Nat.le_of_ble_eq_true rfl) dL_law_461 ⟨hce, hsl⟩) (fun r1 σ1 H locs hw h => ?_)
    refine lv_aload_n hx hb dL_law_464 rfl (lv_at hl 2 rfl) ?_
    refine lv_aload_n hx hb dL_law_465 rfl (lv_at hl 0 rfl) ?_
    refine lv_iload_n hx hb dL_law_466 rfl (lv_at hl 3 rfl) ?_
    refine lv_iconst (v := 1) hx hb dL_law_467 (by decide) ?_
    refine lv_iadd hx hb dL_law_468 ?_
    refine va_sld hx hb hXs hbl hbA h.2.2.1 (hv 1 (by decide)) dL_law_469 ?_
    refine lv_aload_n hx hb dL_law_470 rfl (lv_at hl 0 rfl) ?_
    refine lv_iload_n hx hb dL_law_471 rfl (lv_at hl 3 rfl) ?_
    refine lv_iconst (v := 2) hx hb dL_law_472 (by decide) ?_
    refine lv_iadd hx hb dL_law_473 ?_
    refine va_sld hx hb hXs hbl hbA h.2.2.1 (hv 2 (by decide)) dL_law_474 ?_
    refine lv_aload_n hx hb dL_law_475 rfl (lv_at hl 0 rfl) ?_
    refine lv_iload_n hx hb dL_law_476 rfl (lv_at hl 3 rfl) ?_
    refine lv_iconst (v := 3) hx hb dL_law_477 (by decide) ?_
    refine lv_iadd hx hb dL_law_478 ?_
    refine va_sld hx hb hXs hbl hbA h.2.2.1 (hv 3 (by decide)) dL_law_479 ?_
    refine lv_if_eq (tgt := 487) hx hb dL_law_480 (by decide) (fun _ => ?_) (fun c1 => absurd hz c1)
    refine lv_iconst (v := 0) hx hb dL_law_487 (by decide) ?_
    have h := h.swap
    refine J_calli (WW := MW qm cy) (ws0 := MW qm cy σm) (Rs := CW q cy σ1) h (x_runV (WW := MW qm cy) (rest := [.int r1]) E.1 h.left (cM_says hw) yyX11_says lL_51 0 rfl rfl ⟨Nat.le_of_ble_eq_true rfl, Nat.le_of_ble_eq_true rfl⟩ rfl rfl hl.1 rfl (Nat.le_of_ble_eq_true rfl) dL_law_488 ⟨hce, hsl⟩) (fun r2 σ2 H locs hw h => ?_)
    have h := h.swap
    refine lv_icmp_eq (tgt := 1090) hx hb dL_law_491 (by decide) (fun c1 => ?_) (fun c1 => absurd hw.1 c1)
    refine W.widen (k := 107 + 3 * (t + 1)) (n := 30172 + 804 * (t + 1)) (by omega) (by omega) ?_
    exact kk σ1 σ2 q qm H locs ls hw.2 h hl
  · have hw := hP.2.2.2.2.2.2.2.1 σx σm ((xs (x3 + 1).toNatClampNeg)) ((xs (x3 + 2).toNatClampNeg)) 1 hI (Or.inr rfl)
    refine lv_aload_n hx hb dL_law_437 rfl (lv_at hl 1 rfl) ?_
    refine lv_aload_n hx hb dL_law_438 rfl (lv_at hl 0 rfl) ?_
    refine lv_iload_n hx hb dL_law_439 rfl (lv_at hl 3 rfl) ?_
    refine lv_iconst (v := 1) hx hb dL_law_440 (by decide) ?_
    refine lv_iadd hx hb dL_law_441 ?_
    refine va_sld hx hb hXs hbl hbA h.2.2.1 (hv 1 (by decide)) dL_law_442 ?_
    refine lv_aload_n hx hb dL_law_443 rfl (lv_at hl 0 rfl) ?_
    refine lv_iload_n hx hb dL_law_444 rfl (lv_at hl 3 rfl) ?_
    refine lv_iconst (v := 2) hx hb dL_law_445 (by decide) ?_
    refine lv_iadd hx hb dL_law_446 ?_
    refine va_sld hx hb hXs hbl hbA h.2.2.1 (hv 2 (by decide)) dL_law_447 ?_
    refine lv_aload_n hx hb dL_law_448 rfl (lv_at hl 0 rfl) ?_
    refine lv_iload_n hx hb dL_law_449 rfl (lv_at hl 3 rfl) ?_
    refine lv_iconst (v := 3) hx hb dL_law_450 (by decide) ?_
    refine lv_iadd hx hb dL_law_451 ?_
    refine va_sld hx hb hXs hbl hbA h.2.2.1 (hv 3 (by decide)) dL_law_452 ?_
    refine lv_if_eq (tgt := 460) hx hb dL_law_453 (by decide) (fun c1 => absurd c1 hz) (fun _ => ?_)
    refine lv_iconst (v := 1) hx hb dL_law_456 (by decide) ?_
    refine lv_goto (tgt := 461) hx hb dL_law_457 (by decide) ?_
    refine J_calli (WW := CW q cy) (ws0 := CW q cy σx) (Rs := MW qm cy σm) h (z_runV (WW := CW q cy) (rest := []) E h.left (cC_X10_says hw) yyX10_says lL_47 0 rfl rfl ⟨Nat.le_of_ble_eq_true rfl, Nat.le_of_ble_eq_true rfl⟩ rfl rfl hl.1 rfl (Nat.le_of_ble_eq_true rfl) dL_law_461 ⟨hce, hsl⟩) (fun r1 σ1 H locs hw h => ?_)
    refine lv_aload_n hx hb dL_law_464 rfl (lv_at hl 2 rfl) ?_
    refine lv_aload_n hx hb dL_law_465 rfl (lv_at hl 0 rfl) ?_
    refine lv_iload_n hx hb dL_law_466 rfl (lv_at hl 3 rfl) ?_
    refine lv_iconst (v := 1) hx hb dL_law_467 (by decide) ?_
    refine lv_iadd hx hb dL_law_468 ?_
    refine va_sld hx hb hXs hbl hbA h.2.2.1 (hv 1 (by decide)) dL_law_469 ?_
    refine lv_aload_n hx hb dL_law_470 rfl (lv_at hl 0 rfl) ?_
    refine lv_iload_n hx hb dL_law_471 rfl (lv_at hl 3 rfl) ?_
    refine lv_iconst (v := 2) hx hb dL_law_472 (by decide) ?_
    refine lv_iadd hx hb dL_law_473 ?_
    refine va_sld hx hb hXs hbl hbA h.2.2.1 (hv 2 (by decide)) dL_law_474 ?_
    refine lv_aload_n hx hb dL_law_475 rfl (lv_at hl 0 rfl) ?_
    refine lv_iload_n hx hb dL_law_476 rfl (lv_at hl 3 rfl) ?_
    refine lv_iconst (v := 3) hx hb dL_law_477 (by decide) ?_
    refine lv_iadd hx hb dL_law_478 ?_
    refine va_sld hx hb hXs hbl hbA h.2.2.1 (hv 3 (by decide)) dL_law_479 ?_
    refine lv_if_eq (tgt := 487) hx hb dL_law_480 (by decide) (fun c1 => absurd c1 hz) (fun _ => ?_)
    refine lv_iconst (v := 1) hx hb dL_law_483 (by decide) ?_
    refine lv_goto (tgt := 488) hx hb dL_law_484 (by decide) ?_
    have h := h.swap
    refine J_calli (WW := MW qm cy) (ws0 := MW qm cy σm) (Rs := CW q cy σ1) h (x_runV (WW := MW qm cy) (rest := [.int r1]) E.1 h.left (cM_says hw) yyX11_says lL_51 0 rfl rfl ⟨Nat.le_of_ble_eq_true rfl, Nat.le_of_ble_eq_true rfl⟩ rfl rfl hl.1 rfl (Nat.le_of_ble_eq_true rfl) dL_law_488 ⟨hce, hsl⟩) (fun r2 σ2 H locs hw h => ?_)
    have h := h.swap
    refine lv_icmp_eq (tgt := 1090) hx hb dL_law_491 (by decide) (fun c1 => ?_) (fun c1 => absurd hw.1 c1)
    refine W.widen (k := 107 + 3 * (t + 1)) (n := 30172 + 804 * (t + 1)) (by omega) (by omega) ?_
    exact kk σ1 σ2 q qm H locs ls hw.2 h hl
end LawCases
