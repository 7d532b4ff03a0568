/-! the law from its entry, open in what the pure level owes -/
theorem lrow_0 (q : Nat → Nat) : lrow q 1 = fun _ => none := by
  funext i
  rw [lrow, if_neg (by omega)]
/-- a new PromiseCourt -/
def cS0 : CS := (fun k => if k = 9 then (-1) else 0, fun _ _ => 0, 1, fun _ => (((-1), (-1)), (0, fun _ => 0), (0, fun _ => 0)))
set_option maxRecDepth 20000 in
theorem CW_0 (q : Nat → Nat) (cy : Nat → ClassId) : CW q cy cS0 = ((q 0, .inr (10, [.ref (q 1), .ref (q 3), .ref (q 6), .ref (q 8), .ref (q 14), .ref (q 21), .ref (q 25), .ref (q 30), .ref (q 45), .int (cS0.1 9)])) :: (q 1, .inr (9, [.ref (q 2), .int (cS0.1 21), .int (cS0.1 22), .int (cS0.1 23)])) :: (q 2, .inl (cy 0, 2000, .inl (cS0.2.1 2))) :: (q 3, .inr (3, [.ref (q 4), .ref (q 5), .int (cS0.1 62), .int (cS0.1 63), .int (cS0.1 64), .int (cS0.1 65), .int (cS0.1 66)])) :: (q 4, .inl (cy 1, 400, .inl (cS0.2.1 4))) :: (q 5, .inl (cy 1, 16, .inl (cS0.2.1 5))) :: (q 6, .inr (6, [.ref (q 7), .ref (q (46 + 3 * 0)), .int (cS0.1 122)])) :: (q 7, .inl (cy 4, 8, .inr (.inr (.inr (.inr (fun _ => none)))))) :: (q 8, .inr (1, [.ref (q 9), .ref (q 10), .ref (q 11), .ref (q 12), .ref (q 13), .int (cS0.1 165)])) :: (q 9, .inl (cy 1, 12, .inl (cS0.2.1 9))) :: (q 10, .inl (cy 1, 12, .inl (cS0.2.1 10))) :: (q 11, .inl (cy 1, 12, .inl (cS0.2.1 11))) :: (q 12, .inl (cy 1, 144, .inl (cS0.2.1 12))) :: (q 13, .inl (cy 1, 16, .inl (cS0.2.1 13))) :: (q 14, .inr (7, [.ref (q 15), .ref (q 16), .ref (q 17), .ref (q 18), .ref (q 19), .ref (q 20), .int (cS0.1 286)])) :: (q 15, .inl (cy 1, 10, .inl (cS0.2.1 15))) :: (q 16, .inl (cy 1, 10, .inl (cS0.2.1 16))) :: (q 17, .inl (cy 1, 10, .inl (cS0.2.1 17))) :: (q 18, .inl (cy 1, 10, .inl (cS0.2.1 18))) :: (q 19, .inl (cy 1, 10, .inl (cS0.2.1 19))) :: (q 20, .inl (cy 1, 10, .inl (cS0.2.1 20))) :: (q 21, .inr (2, [.ref (q 22), .ref (q 23), .ref (q 24), .int (cS0.1 423)])) :: (q 22, .inl (cy 1, 20, .inl (cS0.2.1 22))) :: (q 23, .inl (cy 1, 20, .inl (cS0.2.1 23))) :: (q 24, .inl (cy 1, 20, .inl (cS0.2.1 24))) :: (q 25, .inr (0, [.ref (q 26), .ref (q 27), .ref (q 28), .ref (q 29), .int (cS0.1 504), .int (cS0.1 505)])) :: (q 26, .inl (cy 1, 200, .inl (cS0.2.1 26))) :: (q 27, .inl (cy 1, 200, .inl (cS0.2.1 27))) :: (q 28, .inl (cy 1, 200, .inl (cS0.2.1 28))) :: (q 29, .inl (cy 1, 200, .inl (cS0.2.1 29))) :: (q 30, .inr (4, [.ref (q 6), .ref (q 8), .ref (q 14), .ref (q 25), .ref (q 31), .ref (q 35), .ref (q 36), .ref (q 37), .ref (q 38), .ref (q 39), .ref (q 40), .ref (q 41), .ref (q 42), .ref (q 43), .ref (q 44)])) :: (q 31, .inr (8, [.ref (q 32), .ref (q 33), .ref (q 34), .int (cS0.1 623)])) :: (q 32, .inl (cy 1, 12, .inl (cS0.2.1 32))) :: (q 33, .inl (cy 1, 7, .inl (cS0.2.1 33))) :: (q 34, .inl (cy 1, 7, .inl (cS0.2.1 34))) :: (q 35, .inl (cy 1, 32, .inl (cS0.2.1 35))) :: (q 36, .inl (cy 1, 10, .inl (cS0.2.1 36))) :: (q 37, .inl (cy 1, 10, .inl (cS0.2.1 37))) :: (q 38, .inl (cy 1, 10, .inl (cS0.2.1 38))) :: (q 39, .inl (cy 1, 10, .inl (cS0.2.1 39))) :: (q 40, .inl (cy 1, 10, .inl (cS0.2.1 40))) :: (q 41, .inl (cy 1, 10, .inl (cS0.2.1 41))) :: (q 42, .inl (cy 1, 10, .inl (cS0.2.1 42))) :: (q 43, .inl (cy 1, 10, .inl (cS0.2.1 43))) :: (q 44, .inl (cy 1, 10, .inl (cS0.2.1 44))) :: (q 45, .inl (cy 1, 10, .inl (cS0.2.1 45))) :: (q 46, .inr (5, [.int (-1), .int (-1), .ref (q 47), .ref (q 48)])) :: (q 47, .inl (cy 1, 0, .inl (fun _ => 0))) :: (q 48, .inl (cy 1, 0, .inl (fun _ => 0))) :: []) := by
  have e : lrow q cS0.2.2.1 = fun _ => none := lrow_0 q
  unfold CW CFix
  rw [e]
  rfl
theorem xH.pick {D : va_G} {A : Nat → Prop} {s : State} {ws ws' : va_W} {H : Heap} {locs : List Loc} (h : xH D A s ws H locs) (is : List Nat) (hn : va_nd is = true) (hs : is.map (fun i => ws[i]?) = ws'.map some) : xH D A s ws' H locs := by
  refine ⟨?_, h.2.1.sub is hn hs, h.2.2⟩
  refine h.1.sub is ?_
  have e : is.filterMap (fun i => ws[i]?) = (is.map (fun i => ws[i]?)).filterMap id := by rw [List.filterMap_map]; rfl
  rw [e, hs]
  simp
theorem MI0_def : ∀ j, j < 77 → defaultValue (tyX11 j) = vp_V MI0 j := by decide +kernel
theorem wX10_inst : Cond.instantiable RX10 10 ∈ wsA := wsA_mem 128 (by decide +kernel) (by decide +kernel)
theorem wX11_inst : Cond.instantiable RX11 77 ∈ wsA := wsA_mem 941 (by decide +kernel) (by decide +kernel)
theorem wX10_ini : Cond.initialized RX10 ∈ wsA := wsA_mem 108 (by decide +kernel) (by decide +kernel)
theorem wX11_ini : Cond.initialized RX11 ∈ wsA := wsA_mem 119 (by decide +kernel) (by decide +kernel)
theorem wL_cl7 : Cond.classLink RL 7 RX10 ∈ wsA := wsA_mem 127 (by decide +kernel) (by decide +kernel)
theorem wL_cl10 : Cond.classLink RL 10 RX11 ∈ wsA := wsA_mem 940 (by decide +kernel) (by decide +kernel)
theorem kW_flat : ∀ j, j < 140 → Cond.eq (.elem (.field (.string "PromiseCourt$Tape" 50) "java/lang/String" "value" "[B") (.int (Int32.ofNat j))) (.int (([kWb].getD 0 []).getD j 0)) ∈ flatC (Jvm.Cond.and given_1 narrow_1) := by decide +kernel
/-- what stands at the law's entry -/
theorem law_base {p : Program} {s : State} {m : MethodId} {meth : Method} {c : Code} {b L : Nat} {xs : Nat → Int32} (C0 : lw_At p s m meth c b L xs) : ∃ (D : va_G) (cy : Nat → ClassId) (ks : Nat × Nat × Option Nat), zE code RL 4 ret D cy ks (fun q : Nat => s.heap.size ≤ q) p s m #[Value.ref b] meth c ∧ lX s := by
  obtain ⟨hx, hb, hr, hml, hown, hts, hXs, hbl, hlocks, hgv⟩ := C0
  have htsA : ∀ w ∈ wsA, w.before #[Value.ref b] s = true := fun w h => hts w (wsA_in h)
  have hNW : NW s := by
    intro w hw
    obtain ⟨h1, h2⟩ := List.mem_filter.mp hw
    have h3 := hts w (List.mem_append_right _ h1)
    cases w
    case fieldLinkNest => exact va_Nw.of rfl h3
    case methodLinkNest => exact va_Nw.of rfl h3
    all_goals exact absurd h2 (by simp [isNestW])
  obtain ⟨c0, i0, hk0⟩ := u_known (C := RX0) (T := TX0) (N := 6) (n := 6) htsA inA0 (htsA _ wX0_inst)
  obtain ⟨c1, i1, hk1⟩ := u_known (C := RX1) (T := TX1) (N := 6) (n := 6) htsA inA1 (htsA _ wX1_inst)
  obtain ⟨c2, i2, hk2⟩ := u_known (C := RX2) (T := TX2) (N := 4) (n := 4) htsA inA2 (htsA _ wX2_inst)
  obtain ⟨c3, i3, hk3⟩ := u_known (C := RX3) (T := TX3) (N := 7) (n := 7) htsA inA3 (htsA _ wX3_inst)
  obtain ⟨c4, i4, hk4⟩ := u_known (C := RX4) (T := TX4) (N := 15) (n := 15) htsA inA4 (htsA _ wX4_inst)
  obtain ⟨c5, i5, hk5⟩ := u_known (C := RX5) (T := TX5) (N := 4) (n := 4) htsA inA5 (htsA _ wX5_inst)
  obtain ⟨c6, i6, hk6⟩ := u_known (C := RX6) (T := TX6) (N := 3) (n := 3) htsA inA6 (htsA _ wX6_inst)
  obtain ⟨c7, i7, hk7⟩ := u_known (C := RX7) (T := TX7) (N := 7) (n := 7) htsA inA7 (htsA _ wX7_inst)
  obtain ⟨c8, i8, hk8⟩ := u_known (C := RX8) (T := TX8) (N := 4) (n := 4) htsA inA8 (htsA _ wX8_inst)
  obtain ⟨c9, i9, hk9⟩ := u_known (C := RX9) (T := TX9) (N := 4) (n := 4) htsA inA9 (htsA _ wX9_inst)
  obtain ⟨c10, i10, hk10⟩ := u_known (C := RX10) (T := TX10) (N := 10) (n := 10) htsA inA10 (htsA _ wX10_inst)
  obtain ⟨c11, i11, hk11⟩ := u_known (C := RX11) (T := TX11) (N := 77) (n := 77) htsA inA11 (htsA _ wX11_inst)
  obtain ⟨y0, ky0, cm0, ya0, yb0, yc0⟩ := Cond.arrayClass_spec (htsA (.arrayClass .byte) (wsA_mem (107 + 49) (by decide +kernel) (by decide +kernel)))
  obtain ⟨y1, ky1, cm1, ya1, yb1, yc1⟩ := Cond.arrayClass_spec (htsA (.arrayClass .int) (wsA_mem (107 + 78) (by decide +kernel) (by decide +kernel)))
  obtain ⟨y2, ky2, cm2, ya2, yb2, yc2⟩ := Cond.arrayClass_spec (htsA (.arrayClass .long) (wsA_mem (107 + 1076) (by decide +kernel) (by decide +kernel)))
  obtain ⟨y3, ky3, cm3, ya3, yb3, yc3⟩ := Cond.arrayClass_spec (htsA (.arrayClass .boolean) (wsA_mem (107 + 1077) (by decide +kernel) (by decide +kernel)))
  have hAO : va_AO "PromiseCourt$Law" s := va_AO.of (hts (.arrayOver (.object "PromiseCourt$Law")) (List.mem_of_getElem? (i := 107 + 86) (by decide +kernel)))
  obtain ⟨cm4, y4, ky4, yd4, ye4, yb4, yc4, ya4⟩ := Cond.arrayOver_spec hAO
  have hK : va_K (fun k => match k with | 0 => c0 | 1 => c1 | 2 => c2 | 3 => c3 | 4 => c4 | 5 => c5 | 6 => c6 | 7 => c7 | 8 => c8 | 9 => c9 | 10 => c10 | _ => c11, fun k => match k with | 0 => i0 | 1 => i1 | 2 => i2 | 3 => i3 | 4 => i4 | 5 => i5 | 6 => i6 | 7 => i7 | 8 => i8 | 9 => i9 | 10 => i10 | _ => i11) vwCl (tysA (fun k => match k with | 0 => y0 | 1 => y1 | 2 => y2 | 3 => y3 | _ => y4)) s := by
    refine ⟨?_, ?_⟩
    · intro k q hq
      match k, hq with
      | 0, hq => cases hq; exact hk0
      | 1, hq => cases hq; exact hk1
      | 2, hq => cases hq; exact hk2
      | 3, hq => cases hq; exact hk3
      | 4, hq => cases hq; exact hk4
      | 5, hq => cases hq; exact hk5
      | 6, hq => cases hq; exact hk6
      | 7, hq => cases hq; exact hk7
      | 8, hq => cases hq; exact hk8
      | 9, hq => cases hq; exact hk9
      | 10, hq => cases hq; exact hk10
      | 11, hq => cases hq; exact hk11
      | k + 12, hq => simp [vwCl] at hq
    · intro k q hq
      match k, hq with
      | 0, hq => cases hq; exact ⟨fun n z => ⟨fun k h => (by cases h), ky0, yb0, cm0, yc0⟩, ya0⟩
      | 1, hq => cases hq; exact ⟨fun n z => ⟨fun k h => (by cases h), ky1, yb1, cm1, yc1⟩, ya1⟩
      | 2, hq => cases hq; exact ⟨fun n z => ⟨fun k h => (by cases h), ky2, yb2, cm2, yc2⟩, ya2⟩
      | 3, hq => cases hq; exact ⟨fun n z => ⟨fun k h => (by cases h), ky3, yb3, cm3, yc3⟩, ya3⟩
      | 4, hq => cases hq; exact ⟨fun n z => ⟨fun k h => (by cases h), ky4, yb4, cm4, yc4⟩, ky4, cm4, yb4, yc4, yd4, ya4⟩
      | k + 5, hq => simp [tysA] at hq
  have hf := flat_of_before _ hgv
  have hA : ∀ a : Nat, a < s.heap.size → ¬ (fun q : Nat => s.heap.size ≤ q) a := fun a h => Nat.not_le.mpr h
  obtain ⟨adK, adV, hS, hE⟩ := vk_Sof (N := 1) (tm := fun _ => Term.string "PromiseCourt$Tape" 50) (len := [140]) (byt := [kWb]) (A := fun q : Nat => s.heap.size ≤ q) (args := #[Value.ref b]) (s := s)
    (fun i hi => by rw [show i = 0 by omega]; decide) (fun i hi => hf _ (by decide +kernel)) (fun i hi => hf _ (by decide +kernel)) (fun i hi => hf _ (by decide +kernel))
    (fun i hi => by rw [show i = 0 by omega]; exact hf _ (by decide +kernel))
    (fun i hi j hj => by
      rw [show i = 0 by omega] at hj ⊢
      exact hf _ (kW_flat j hj))
    (fun i j hi hj hne => absurd (show i = j by omega) hne) hA
  have hZ1 : va_Z "java/lang/String" "COMPACT_STRINGS" "Z" (.int 1) (fun q : Nat => s.heap.size ≤ q) s s.heap := va_Zof (hts (.laysStatic "java/lang/String" "COMPACT_STRINGS" "Z") (List.mem_of_getElem? (i := 107 + 405) (by decide +kernel))) (htsA (.initialized "java/lang/String") (wsA_mem (107 + 13) (by decide +kernel) (by decide +kernel))) (va_eqi (hf _ (by decide +kernel))) hA
  have hZ2 : ∃ o : Option Nat, va_Z "jdk/internal/util/Preconditions" "SIOOBE_FORMATTER" "Ljava/util/function/BiFunction;" (va_rf o) (fun q : Nat => s.heap.size ≤ q) s s.heap := by
    rcases va_Zqof (hts (.laysStatic "jdk/internal/util/Preconditions" "SIOOBE_FORMATTER" "Ljava/util/function/BiFunction;") (List.mem_of_getElem? (i := 107 + 413) (by decide +kernel))) (htsA (.initialized "jdk/internal/util/Preconditions") (wsA_mem (107 + 15) (by decide +kernel) (by decide +kernel))) (hf _ (by decide +kernel)) hA with h | ⟨t, h⟩
    · exact ⟨none, h⟩
    · exact ⟨some t, h⟩
  obtain ⟨fo, hZ2⟩ := hZ2
  have hR : vk_R RX9 50 kWt (adK 0) s := vk_R.of (A := #[Value.ref b]) (hts (.stringRef "PromiseCourt$Tape" 50 kWt) (List.mem_of_getElem? (i := 107 + 395) (by decide +kernel))) (hE 0 (by decide))
  refine ⟨_, _, (adK 0, adV 0, fo), ⟨⟨hx, hb, hml, hown, htsA, hNW, hK, hr, hlocks⟩, hR, ⟨fun i hi => ?_, fun i j hi hj _ => by omega⟩, hZ1, hZ2⟩, hAO, va_Nw.of rfl (hts (.castable "[I" "java/lang/Cloneable") (List.mem_of_getElem? (i := 107 + 492) (by decide +kernel)))⟩
  have := hS.1 i hi
  rw [show i = 0 by omega] at this ⊢
  exact this
set_option maxHeartbeats 4000000 in
set_option maxRecDepth 20000 in
theorem whole_start_open {p : Program} {e : Env} {s : State} {m : MethodId} {below : List Frame} {meth : Method} {c : Code} (l : Launch) {b L : Nat} {xs : Nat → Int32} (hL : L ≤ 3584) (C0 : lw_At p s m meth c b L xs) {Inv : CS → MS → Prop} (hP : PAll Inv) (hI0 : wpM_init_495 (fun σm => Inv cS0 σm) mS0) : W p l e room_1 s m #[Value.ref b] below meth c s.heap [] 0 0 (lw_Z below #[Value.ref b] s) (entryFrame m ([Value.ref b] : List Value).toArray 4) := by
  obtain ⟨D, cy, ks, E, hX⟩ := law_base C0
  obtain ⟨hx, hb, hr, hml, hown, hts, hXs, hbl, hlocks, hgv⟩ := id C0
  have hl := lv_entry ([.ref b]) (n := 4) (Nat.le_of_ble_eq_true rfl)
  rw [lg_entry_eq]
  generalize (lg_sl ([.ref b]) ++ List.replicate (4 - (lg_sl ([.ref b])).length) Slot.unset).toArray = ls at hl ⊢
  have hl : lv_has ls 4 [(0, .ref b)] := hl
  have h : xH D (fun q : Nat => s.heap.size ≤ q) s [] s.heap [] := ⟨fun k q h => by simp at h, ⟨fun i j p q h => by simp at h, fun k q h => by simp at h⟩, va_S.rf, fun _ h => h⟩
  refine x_newO (ci := 10) (fs := [.null, .null, .null, .null, .null, .null, .null, .null, .null, .int 0]) E.1 h inA10 tyX10 tyX10_ok wL_cl7 wX10_inst wX10_ini rfl (fun j hj => by rcases (show j = 0 ∨ j = 1 ∨ j = 2 ∨ j = 3 ∨ j = 4 ∨ j = 5 ∨ j = 6 ∨ j = 7 ∨ j = 8 ∨ j = 9 by omega) with rfl | rfl | rfl | rfl | rfl | rfl | rfl | rfl | rfl | rfl <;> rfl) (Nat.le_of_ble_eq_true rfl) (Nat.le_of_ble_eq_true rfl) dL_law_0 (fun x0 H h => ?_)
  have h : xH D (fun q : Nat => s.heap.size ≤ q) s ([(x0, .inr (10, [.null, .null, .null, .null, .null, .null, .null, .null, .null, .int 0]))] ++ []) H [] := h
  refine lv_dup hx hb dL_law_3 rfl ?_
  refine J_callv (Rs := []) h (J_runI (rest := [.ref x0]) E.1 hX.1 h.left (kC_X10 (i := 0) rfl) kyX10 lL_9 ⟨Nat.le_of_ble_eq_true rfl, Nat.le_of_ble_eq_true rfl⟩ rfl rfl hl.1 rfl (Nat.le_of_ble_eq_true rfl) dL_law_4 ⟨Nat.le_of_ble_eq_true rfl, Nat.le_of_ble_eq_true rfl⟩) (fun u H locs _ h => ?_)
  obtain ⟨q, hq⟩ : ∃ q : Nat → Nat, q = (fun k => (x0 :: u 0 :: u 1 :: u 2 :: u 3 :: u 4 :: u 5 :: u 6 :: u 10 :: u 11 :: u 12 :: u 13 :: u 14 :: u 15 :: u 16 :: u 17 :: u 18 :: u 19 :: u 20 :: u 21 :: u 22 :: u 23 :: u 24 :: u 25 :: u 26 :: u 27 :: u 28 :: u 29 :: u 30 :: u 31 :: u 32 :: u 33 :: u 34 :: u 35 :: u 36 :: u 37 :: u 38 :: u 39 :: u 40 :: u 41 :: u 42 :: u 43 :: u 44 :: u 45 :: u 46 :: u 47 :: u 7 :: u 8 :: u 9 :: [] : List Nat).getD k 0) := ⟨_, rfl⟩
  have h : xH D (fun q : Nat => s.heap.size ≤ q) s (CW q cy cS0) H locs := by
    rw [CW_0]
    refine h.pick [0, 1, 2, 3, 4, 5, 6, 7, 11, 12, 13, 14, 15, 16, 17, 18, 19, 20, 21, 22, 23, 24, 25, 26, 27, 28, 29, 30, 31, 32, 33, 34, 35, 36, 37, 38, 39, 40, 41, 42, 43, 44, 45, 46, 47, 48, 8, 9, 10] (by decide) ?_
    rw [hq]
    rfl
  have e0 : q 0 = x0 := by rw [hq]; rfl
  rw [← e0]
  refine lv_astore_n (lv' := [(1, .ref (q 0)), (0, .ref b)]) hx hb dL_law_7 rfl hl (by decide) rfl (fun ls hl => ?_)
  refine x_newO (ci := 11) (fs := MI0) E.1 h inA11 tyX11 tyX11_ok wL_cl10 wX11_inst wX11_ini rfl MI0_def (Nat.le_of_ble_eq_true rfl) (Nat.le_of_ble_eq_true rfl) dL_law_8 (fun m0 H h => ?_)
  have h := h.swap
  refine lv_dup hx hb dL_law_11 rfl ?_
  refine J_callv (Rs := CW q cy cS0) h (J_runI (rest := [.ref m0]) E.1 hX.1 h.left (kM_init hI0) kyX11 lL_12 ⟨Nat.le_of_ble_eq_true rfl, Nat.le_of_ble_eq_true rfl⟩ rfl rfl hl.1 rfl (Nat.le_of_ble_eq_true rfl) dL_law_12 ⟨Nat.le_of_ble_eq_true rfl, Nat.le_of_ble_eq_true rfl⟩) (fun u H locs hw h => ?_)
  obtain ⟨qm, σm⟩ := u
  have h := h.swap
  have e1 : qm 0 = m0 := hw.2
  rw [← e1]
  refine lv_astore_n (lv' := [(2, .ref (qm 0)), (1, .ref (q 0)), (0, .ref b)]) hx hb dL_law_15 rfl hl (by decide) rfl (fun ls hl => ?_)
  refine lv_iconst (v := 0) hx hb dL_law_16 (by decide) ?_
  refine lv_istore_n (lv' := [(3, .int 0), (2, .ref (qm 0)), (1, .ref (q 0)), (0, .ref b)]) hx hb dL_law_17 rfl hl (by decide) rfl (fun ls hl => ?_)
  refine W.widen (k := 107 + 3 * 0) (n := 30172 + 804 * 0) (Nat.le_of_ble_eq_true rfl) (Nat.le_of_ble_eq_true rfl) ?_
  exact law_loop hP hL E hX hXs hbl (L + 1) 0 (by omega) (by omega) cS0 σm q qm H locs ls 0 rfl hw.1 h (lv_sub hl [3, 2, 1, 0] rfl)
