/-! PromiseCourt.read -/
def rPc (D : va_G) (cy : Nat → ClassId) (ks : Nat × Nat × Option Nat) (ws : va_W) (sz : Nat) (av : List Value) : Array Value → State → Prop :=
  va_Pc av (fun U => (U.heap.size = sz ∧ NW U ∧ va_P D vwCl ws U.heap ∧ va_K D vwCl (tysA cy) U ∧ va_D (fun _ => True) ws ∧ KS ks (va_A ws sz) U U.heap) ∧ lX U)
theorem rPc_blind {D : va_G} {cy : Nat → ClassId} {ks : Nat × Nat × Option Nat} {ws : va_W} {sz : Nat} {av : List Value} : FrameBlind (rPc D cy ks ws sz av) := by
  intro a U g mk q
  obtain ⟨q0, ⟨q1, qN, qP, qK, qD, qS⟩, qX⟩ := q
  exact ⟨q0, ⟨q1, NW.same (u := U) (U := U.calling g mk a) rfl qN, qP, va_K.moved (u := U) (U := U.calling g mk a) (Vm.Alike.refl U.vm) qK, qD, KS.same (u := U) (U := U.calling g mk a) rfl qS⟩, lX.same (u := U) (U := U.calling g mk a) rfl qX⟩
section RRows
variable {p : Program} {l : Launch} {e : Env} {R : Room} {s : State} {m : MethodId} {args : Array Value} {below : List Frame} {meth : Method} {c : Code} {H : Heap} {locs : List Loc} {cells slots : Nat} {Q : State → Prop}
variable {cc : ByteArray} {own : String} {nL : Nat} {ret0 ret : Option FieldType} {D : va_G} {cy : Nat → ClassId} {ks : Nat × Nat × Option Nat} {A : Nat → Prop} {ws : va_W} {pc : Nat} {ls : Array Slot} {rest st : List Value}
variable {S : Type} {WW : S → va_W} {σ0 : S} {C : String} {y : MethodName} {bytes : ByteArray} {maxL idx b mc ms ci : Nat} {rm : Room} {As : List Value} {host : String} {Qc : Array Value → State → Outcome → State → Prop} {free : Nat → Prop} {T : u_T} {N : Nat} {fs : List Value}
theorem r_enter {av : List Value} {sz : Nat} (hy : plainName y.cls = true) (ho : y.cls = own) (hn : (lg_sl av).length ≤ maxL)
    (body : ∀ (p : Program) (e : Env) (s : State) (m : MethodId) (below : List Frame) (meth : Method) (c : Code) (ls : Array Slot), zE bytes own maxL ret D cy ks (va_A (WW σ0) sz) p s m av.toArray meth c → lX s → xH D (va_A (WW σ0) sz) s (WW σ0) s.heap [] → lv_has ls maxL (lv_args 0 av) → W p l e rm s m av.toArray below meth c s.heap [] 0 0 (MQ below Qc av.toArray s mc ms (va_A (WW σ0) sz)) (F0 m 0 ls [])) :
    Met l y (Cond.code y bytes maxL ret :: wsA) rm (rPc D cy ks (WW σ0) sz av) Qc mc ms (va_A (WW σ0) sz) := by
  refine Met.ofW (cc := bytes) (maxL := maxL) (ret := ret) hy rfl ?_
  intro p e s m args below meth c s₁ B hml hv
  obtain ⟨rfl, ⟨hsz, hN, hP, hK, hD0, hZ⟩, hX⟩ := hv
  have hts := atoms_spec (ws := Cond.code y bytes maxL ret :: wsA) B.pre
  have hown : s.vm.findClass own = some m.cls := ho ▸ findClass_of_methodNamed B.named
  subst hsz
  rw [lg_entry_eq]
  exact body p e s m below meth c _ ⟨⟨B.exec, B.bytes, hml, hown, fun w h => hts w (List.mem_cons_of_mem _ h), hN, hK, B.returns, B.notSynchronized⟩, hZ⟩ hX ⟨hP, hD0.self, va_S.rf, fun q h => Or.inr h⟩ (lv_entry av hn)
theorem l_runVN (E : xE cc own nL ret0 D cy p s m args meth c) (hX : lX s) (h : xH D A s ws H locs) (hM : Met l y (Cond.code y bytes maxL ret :: wsA) rm (lPc D cy ws H.size (.ref b :: As)) Qc mc ms free) (hY : xY y C bytes maxL ret As.length) (hl : Cond.methodLinkNest own idx y host ∈ wsN) (pos : Nat) (he : ws[pos]? = some (b, .inr (ci, fs))) (hc : vwCl[ci]? = some (C, T, N)) (hR : rm.frames + 1 ≤ R.frames ∧ 8 + (maxL + 11) + rm.locals ≤ R.locals) (hrc : rm.cells = mc) (hrs : rm.slots = ms) (hsz : ls.size = nL) (hst : st = As.reverse ++ .ref b :: rest) (hrest : (rest.map fun v => v.category).sum ≤ 8) (hdg : decode cc pc = .ok (.invokevirtual idx, 3)) (hf : cells + mc ≤ R.cells ∧ slots + ms ≤ R.slots) :
    va_Run p l e R s m args below meth c H locs cells slots mc ms (F0 m pc ls st) rest (Qc (Value.ref b :: As).toArray) free := by
  refine va_runVN (Ts := wsA) (C := C) (host := host) (index := idx) ⟨E.1, E.2.1, E.2.2.1, E.2.2.2.1, E.2.2.2.2.1⟩ hM ⟨va_cnB As.length E.2.2.2.2.1 (goodIn_A (fun _ h => h) ?_) rfl hrc hrs (E.2.2.2.2.2.1 _ hl) (by rw [hY.2.1]; exact E.2.2.2.2.1 _ hY.1.2.2.1) hY.2.2 hR, E.2.2.2.2.1 _ hY.1.1, E.2.2.2.2.1 _ hY.1.2.1⟩ ⟨lPc_blind, va_recv E.2.2.2.2.2.2.1 h.1 hc he, l_pre E hX h⟩ rfl rfl hsz hst (lv_room hrest) hdg hf
  intro w hw
  rcases List.mem_cons.mp hw with rfl | hw
  · exact hY.1.2.2.2
  · exact hw
theorem lX10_99 : Cond.methodLinkNest RX10 99 yX3_toLaw "PromiseCourt" ∈ wsN := wsN_mem 477 (by decide +kernel) (by decide +kernel)
theorem lX10_103 : Cond.methodLinkNest RX10 103 yX6_add "PromiseCourt" ∈ wsN := wsN_mem 500 (by decide +kernel) (by decide +kernel)
set_option maxHeartbeats 4000000 in
set_option maxRecDepth 20000 in
/-- toLaw, then add: the class's world has one law more -/
theorem l_grow {q : Nat → Nat} {σ : CS} {k N1 N2 : Nat} {x1 x2 : Int32} (E : zE cc RX10 nL ret D cy ks A p s m args meth c) (hX : lX s) (h : xH D A s (CW q cy σ) H locs) (hsz : ls.size = nL) (hn : σ.2.2.1 = k + 1) (hk : σ.1 122 = nI k) (hk8 : k < 8) (h1 : (if (16 : Int32) < σ.1 63 then 16 else σ.1 63) = nI N1) (hN1 : N1 ≤ 16) (h2 : σ.1 62 = nI N2) (hN2 : N2 ≤ 400) (hd1 : decode cc pc = .ok (.invokevirtual 99, 3)) (hd2 : decode cc (pc + 3) = .ok (.invokevirtual 103, 3)) (hfr : 3 ≤ R.frames) (hlo : 83 ≤ R.locals) (hce : cells + 3 ≤ R.cells) (hsl : slots + 804 ≤ R.slots)
    (kk : ∀ (q1 : Nat → Nat) (g1 g2 : Nat → Int32) (H : Heap) (locs : List Loc), q1 0 = q 0 → (∀ j, j < N1 → g1 j = σ.2.1 5 j) → (∀ j, j < N2 → g2 j = σ.2.1 4 j) → xH D A s (CW q1 cy (cLaw (cF σ 122 (nI (k + 1))) ((x1, x2), (N2, g2), (N1, g1)))) H locs → W p l e R s m args below meth c H locs (cells + 3) (slots + 804) Q (F0 m (pc + 3 + 3) ls [])) : W p l e R s m args below meth c H locs cells slots Q (F0 m pc ls [.int x2, .int x1, .ref (q 3), .ref (q 6)]) := by
  refine va_callr (l_runVN (rest := [.ref (q 6)]) E.1 hX h (l_toLaw h1 hN1 h2 hN2) yyX3_toLaw lX10_99 3 rfl rfl ⟨hfr, hlo⟩ rfl rfl hsz rfl (Nat.le_of_ble_eq_true rfl) hd1 ⟨hce, hsl⟩) h.2.2.1 (fun q _ hq => h.subW q hq) h.subW (fun u ra t H1 locs1 ht hvm hw hB hz1 hk1 hS => ?_)
  have h3 : xH D A s (CW q cy σ ++ lNew cy x1 x2 N1 N2 u ra) H1 locs1 := ⟨by rw [← ht]; exact hB.1, hB.2.2.weaken (fun _ _ _ hq => h.subW _ hq), hS, h.2.2.2⟩
  refine va_callv (l_runVN (rest := []) E.1 hX h3 (l_addLaw (j := 1) rfl hk hk8) yyX6_add lX10_103 6 (lk_app cw_6) rfl ⟨by show 0 + 1 ≤ R.frames; omega, by show 8 + (2 + 11) + 0 ≤ R.locals; omega⟩ rfl rfl hsz rfl (Nat.zero_le _) hd2 ⟨hce, hsl⟩) h3.2.2.1 (fun q _ hq => h3.subW q hq) h3.subW (fun u1 t1 H2 locs2 ht1 hvm1 hw1 hB1 hz2 hk2 hS2 => ?_)
  have h4 : xH D A s ((CW q cy (cF σ 122 (nI (k + 1)))).set 7 (lTx q cy (va_up (lrow q σ.2.2.1) k (some ra))) ++ lNew cy x1 x2 N1 N2 u ra) H2 locs2 := ⟨by rw [← ht1]; exact hB1.1, hB1.2.2.weaken (fun _ _ _ hq => h3.subW _ hq), hS2, h.2.2.2⟩
  have hn' : (cF σ 122 (nI (k + 1))).2.2.1 = k + 1 := hn
  exact kk (qLaw q (k + 1) ra u.1.2 u.1.1) u.2.1 u.2.2 H2 locs2 (qLaw_lt (by omega)) hw.1 hw.2 (h4.perm (CW_law hn'))
end RRows
section RRows2
variable {p : Program} {l : Launch} {e : Env} {R : Room} {s : State} {m : MethodId} {args : Array Value} {below : List Frame} {meth : Method} {c : Code} {H : Heap} {locs : List Loc} {cells slots : Nat} {Q : State → Prop}
variable {cc : ByteArray} {own : String} {nL : Nat} {ret : Option FieldType} {D : va_G} {cy : Nat → ClassId} {A : Nat → Prop} {q : Nat → Nat} {σ : CS} {pc : Nat} {ls : Array Slot} {rest : List Value}
theorem fX10_19 : Cond.fieldLink RX10 19 (TX10 1).1 (TX10 1).2.1 (TX10 1).2.2.1 ∈ wsA := wsA_mem 424 (by decide +kernel) (by decide +kernel)
theorem gX10_19 (E : xE cc RX10 nL ret D cy p s m args meth c) (h : xH D A s (CW q cy σ) H locs) (hdg : decode cc pc = .ok (.getfield 19, 3)) (kk : W p l e R s m args below meth c H locs cells slots Q (F0 m (pc + 3) ls (.ref (q 3) :: rest))) : W p l e R s m args below meth c H locs cells slots Q (F0 m pc ls (.ref (q 0) :: rest)) := x_get E h 1 0 inA10 rfl (by decide) fX10_19 (show (CW q cy σ)[0]? = some (q 0, .inr (10, [.ref (q 1), .ref (q 3), .ref (q 6), .ref (q 8), .ref (q 14), .ref (q 21), .ref (q 25), .ref (q 30), .ref (q 45), .int (σ.1 9)])) from rfl) rfl hdg kk
theorem pX10_71 (E : xE cc RX10 nL ret D cy p s m args meth c) (h : xH D A s (CW q cy σ) H locs) {x : Int32} (hdg : decode cc pc = .ok (.putfield 71, 3)) (kk : ∀ (σ1 : CS) (H : Heap) (locs : List Loc), σ1 = cF σ 9 x → xH D A s (CW q cy σ1) H locs → W p l e R s m args below meth c H locs cells slots Q (F0 m (pc + 3) ls (rest))) : W p l e R s m args below meth c H locs cells slots Q (F0 m pc ls (.int x :: .ref (q 0) :: rest)) := x_put E h 9 0 inA10 tyX10 tyX10_ok nmX10 rfl (by decide) fX10_71 rfl (by decide +kernel) (show (CW q cy σ)[0]? = some (q 0, .inr (10, [.ref (q 1), .ref (q 3), .ref (q 6), .ref (q 8), .ref (q 14), .ref (q 21), .ref (q 25), .ref (q 30), .ref (q 45), .int (σ.1 9)])) from rfl) (Nat.le_of_ble_eq_true rfl) (show (CW q cy σ).set 0 _ = CW q cy (cF σ 9 x) from rfl) hdg (fun H1 locs1 h1 => kk _ H1 locs1 rfl h1)
theorem fX10_96 : Cond.fieldLinkNest RX10 96 (TX9 2).1 (TX9 2).2.1 (TX9 2).2.2.1 "PromiseCourt" ∈ wsN := wsN_mem 38 (by decide +kernel) (by decide +kernel)
theorem gX10_96 (E : xE cc RX10 nL ret D cy p s m args meth c) (h : xH D A s (CW q cy σ) H locs) (hdg : decode cc pc = .ok (.getfield 96, 3)) (kk : W p l e R s m args below meth c H locs cells slots Q (F0 m (pc + 3) ls (.int (σ.1 22) :: rest))) : W p l e R s m args below meth c H locs cells slots Q (F0 m pc ls (.ref (q 1) :: rest)) := x_getN E h 2 1 inA9 rfl (by decide) fX10_96 (show (CW q cy σ)[1]? = some (q 1, .inr (9, [.ref (q 2), .int (σ.1 21), .int (σ.1 22), .int (σ.1 23)])) from rfl) rfl hdg kk
theorem lX10_92 : Cond.methodLinkNest RX10 92 yX3_parse "PromiseCourt" ∈ wsN := wsN_mem 369 (by decide +kernel) (by decide +kernel)
end RRows2
section RWalk
variable {p : Program} {l : Launch} {e : Env} {s : State} {m : MethodId} {args : Array Value} {below : List Frame} {meth : Method} {c : Code} {D : va_G} {cy : Nat → ClassId} {ks : Nat × Nat × Option Nat} {q : Nat → Nat} {A : Nat → Prop}
abbrev rC_X10_read : Room := { frames := 8, cells := 3, slots := 804, locals := 172 }
def wpC_X10_read_79 (Post : Int32 → CS → Prop) (σ : CS) (x3 : Int32) : Prop := ∀ σ1 : CS, σ1 = cF σ 21 0 → Post x3 σ1
set_option maxHeartbeats 1000000 in
set_option maxRecDepth 20000 in
theorem wkC_X10_read_79 {Post : Int32 → CS → Prop} (E : zE cX10_read RX10 4 (some .int) D cy ks A p s m args meth c) (hX : lX s) {a0 : Nat} (hq0 : q 0 = a0) : ∀ (σ : CS) (x3 : Int32) (H : Heap) (locs : List Loc) (ls : Array Slot), xH D A s (CW q cy σ) H locs → wpC_X10_read_79 Post σ x3 → lv_has ls 4 [(0, .ref (q 0)), (3, .int x3)] → W p l e rC_X10_read s m args below meth c H locs 3 804 (MQ below (va_Qi (fun (r : Int32) (u : (Nat → Nat) × CS) => Post r u.2 ∧ u.1 0 = a0) (xB D cy (fun u : (Nat → Nat) × CS => CW u.1 cy u.2) A) A) args s 3 804 A) (F0 m 79 ls []) := by
  have hx := E.1.1
  have hb := E.1.2.1
  intro σ x3 H locs ls h hw hl
  unfold wpC_X10_read_79 at hw
  refine lv_aload_n hx hb dX10_read_79 rfl (lv_at hl 0 rfl) ?_
  refine gX10_12 E.1 h dX10_read_80 ?_
  refine lv_iconst (v := 0) hx hb dX10_read_83 (by decide) ?_
  refine pX10_75 E.1 h dX10_read_84 (fun σ1 H locs eσ1 h => ?_)
  have hw := hw σ1 eσ1
  refine lv_iload_n hx hb dX10_read_87 rfl (lv_at hl 1 rfl) ?_
  exact x_iretG (WW := fun u : (Nat → Nat) × CS => CW u.1 cy u.2) (u := (q, _)) (Post := fun (r : Int32) (u : (Nat → Nat) × CS) => Post r u.2 ∧ u.1 0 = a0) E.1 h ⟨hw, hq0⟩ dX10_read_88

def wpC_X10_read_56 (Post : Int32 → CS → Prop) (σ : CS) (x1 : Int32) (x2 : Int32) (x3 : Int32) (t1 : Int32) : Prop := ∀ σ1 : CS, σ1 = cF σ 9 t1 → (x3 = 0 → ∃ k N1 N2 : Nat, σ1.2.2.1 = k + 1 ∧ σ1.1 122 = nI k ∧ k < 8 ∧ (if (16 : Int32) < σ1.1 63 then 16 else σ1.1 63) = nI N1 ∧ N1 ≤ 16 ∧ σ1.1 62 = nI N2 ∧ N2 ≤ 400 ∧ ∀ g1 g2 : Nat → Int32, (∀ j, j < N1 → g1 j = σ1.2.1 5 j) → (∀ j, j < N2 → g2 j = σ1.2.1 4 j) → ∀ σ3 : CS, σ3 = cLaw (cF σ1 122 (nI (k + 1))) ((x1, x2), (N2, g2), (N1, g1)) → wpC_X10_read_79 Post σ3 x3) ∧ (¬ x3 = 0 → wpC_X10_read_79 Post σ1 x3)
set_option maxHeartbeats 1000000 in
set_option maxRecDepth 20000 in
theorem wkC_X10_read_56 {Post : Int32 → CS → Prop} (E : zE cX10_read RX10 4 (some .int) D cy ks A p s m args meth c) (hX : lX s) {a0 : Nat} (hq0 : q 0 = a0) : ∀ (σ : CS) (x1 : Int32) (x2 : Int32) (x3 : Int32) (t1 : Int32) (H : Heap) (locs : List Loc) (ls : Array Slot), xH D A s (CW q cy σ) H locs → wpC_X10_read_56 Post σ x1 x2 x3 t1 → lv_has ls 4 [(0, .ref (q 0)), (1, .int x1), (2, .int x2), (3, .int x3)] → W p l e rC_X10_read s m args below meth c H locs 0 0 (MQ below (va_Qi (fun (r : Int32) (u : (Nat → Nat) × CS) => Post r u.2 ∧ u.1 0 = a0) (xB D cy (fun u : (Nat → Nat) × CS => CW u.1 cy u.2) A) A) args s 3 804 A) (F0 m 56 ls [.int t1, .ref (q 0)]) := by
  have hx := E.1.1
  have hb := E.1.2.1
  intro σ x1 x2 x3 t1 H locs ls h hw hl
  unfold wpC_X10_read_56 at hw
  refine pX10_71 E.1 h dX10_read_56 (fun σ1 H locs eσ1 h => ?_)
  have hw := hw σ1 eσ1
  refine lv_iload_n hx hb dX10_read_59 rfl (lv_at hl 3 rfl) ?_
  refine lv_if_ne (tgt := 79) hx hb dX10_read_60 (by decide) (fun c2 => ?_) (fun c2 => ?_)
  · have hw := hw.2 c2
    refine W.widen (k := 3) (n := 804) (Nat.le_of_ble_eq_true rfl) (Nat.le_of_ble_eq_true rfl) ?_
    exact wkC_X10_read_79 E hX hq0 _ _ _ _ _ h hw (lv_sub hl [0, 3] rfl)
  · have hw := hw.1 c2
    refine lv_aload_n hx hb dX10_read_63 rfl (lv_at hl 0 rfl) ?_
    refine gX10_26 E.1 h dX10_read_64 ?_
    refine lv_aload_n hx hb dX10_read_67 rfl (lv_at hl 0 rfl) ?_
    refine gX10_19 E.1 h dX10_read_68 ?_
    refine lv_iload_n hx hb dX10_read_71 rfl (lv_at hl 1 rfl) ?_
    refine lv_iload_n hx hb dX10_read_72 rfl (lv_at hl 2 rfl) ?_
    obtain ⟨k, N1, N2, hn, hk, hk8, h1, hN1, h2, hN2, hw⟩ := hw
    refine l_grow E hX h hl.1 hn hk hk8 h1 hN1 h2 hN2 dX10_read_73 dX10_read_76 (Nat.le_of_ble_eq_true rfl) (Nat.le_of_ble_eq_true rfl) (Nat.le_of_ble_eq_true rfl) (Nat.le_of_ble_eq_true rfl) (fun q g1 g2 H locs eq hg1 hg2 h => ?_)
    have hl : lv_has ls 4 [(0, .ref (q 0)), (1, .int x1), (2, .int x2), (3, .int x3)] := by rw [eq]; exact hl
    have hq0 := eq.trans hq0
    have hw := hw g1 g2 hg1 hg2
    have hw := hw _ rfl
    refine W.widen (k := 3) (n := 804) (Nat.le_of_ble_eq_true rfl) (Nat.le_of_ble_eq_true rfl) ?_
    exact wkC_X10_read_79 E hX hq0 _ _ _ _ _ h hw (lv_sub hl [0, 3] rfl)

def wpC_X10_read (σ : CS) (x1 : Int32) (x2 : Int32) (Post : Int32 → CS → Prop) : Prop := wpC_X10_isPlace σ x1 (fun r1 σ2 => (r1 = 0 → Post ((-1)) σ2) ∧ (¬ r1 = 0 → wpC_X10_isDay σ2 x2 (fun r4 σ5 => (r4 = 0 → Post ((-1)) σ5) ∧ (¬ r4 = 0 → ((σ5.1 122) < 8 → wpC_X3_parse σ5 (fun r8 σ9 => (r8 = 0 → wpC_X10_read_56 Post σ9 x1 x2 r8 ((-1))) ∧ (¬ r8 = 0 → wpC_X10_read_56 Post σ9 x1 x2 r8 (σ9.1 22)))) ∧ (¬ (σ5.1 122) < 8 → Post ((-1)) σ5)))))
set_option maxHeartbeats 1000000 in
set_option maxRecDepth 20000 in
theorem cC_X10_read {l : Launch} {D : va_G} {cy : Nat → ClassId} {ks : Nat × Nat × Option Nat} {q : Nat → Nat} {σ : CS} {sz : Nat} {x1 : Int32} {x2 : Int32} {Post : Int32 → CS → Prop} (hw : wpC_X10_read σ x1 x2 Post) : Met l yX10_read (Cond.code yX10_read cX10_read 4 (some .int) :: wsA) rC_X10_read (rPc D cy ks (CW q cy σ) sz [.ref (q 0), .int x1, .int x2]) (va_Qi (fun (r : Int32) (u : (Nat → Nat) × CS) => Post r u.2 ∧ u.1 0 = q 0) (xB D cy (fun u : (Nat → Nat) × CS => CW u.1 cy u.2) (va_A (CW q cy σ) sz)) (va_A (CW q cy σ) sz)) 3 804 (va_A (CW q cy σ) sz) := by
  refine r_enter (own := RX10) (WW := CW q cy) (by decide) rfl (Nat.le_of_ble_eq_true rfl) ?_
  intro p e s m below meth c ls E hX h hl
  have hx := E.1.1
  have hb := E.1.2.1
  have hl : lv_has ls 4 [(0, .ref (q 0)), (1, .int x1), (2, .int x2)] := hl
  unfold wpC_X10_read at hw
  refine lv_iload_n hx hb dX10_read_0 rfl (lv_at hl 1 rfl) ?_
  refine x_calli h (z_runS (WW := CW q cy) (rest := []) E h (cC_X10_isPlace hw) yyX10_isPlace lX10_82 ⟨Nat.le_of_ble_eq_true rfl, Nat.le_of_ble_eq_true rfl⟩ rfl rfl hl.1 rfl (Nat.le_of_ble_eq_true rfl) dX10_read_1 ⟨Nat.zero_le _, Nat.zero_le _⟩) (fun r1 σ2 H locs hw h => ?_)
  refine lv_if_eq (tgt := 26) hx hb dX10_read_4 (by decide) (fun c3 => ?_) (fun c3 => ?_)
  · have hw := hw.1 c3
    refine lv_iconst (v := (-1)) hx hb dX10_read_26 (by decide) ?_
    refine W.widen (k := 3) (n := 804) (Nat.zero_le _) (Nat.zero_le _) ?_
    exact x_iretG (WW := fun u : (Nat → Nat) × CS => CW u.1 cy u.2) (u := (q, _)) (Post := fun (r : Int32) (u : (Nat → Nat) × CS) => Post r u.2 ∧ u.1 0 = q 0) E.1 h ⟨hw, rfl⟩ dX10_read_27
  · have hw := hw.2 c3
    refine lv_iload_n hx hb dX10_read_7 rfl (lv_at hl 2 rfl) ?_
    refine x_calli h (z_runS (WW := CW q cy) (rest := []) E h (cC_X10_isDay hw) yyX10_isDay lX10_86 ⟨Nat.le_of_ble_eq_true rfl, Nat.le_of_ble_eq_true rfl⟩ rfl rfl hl.1 rfl (Nat.le_of_ble_eq_true rfl) dX10_read_8 ⟨Nat.zero_le _, Nat.zero_le _⟩) (fun r4 σ5 H locs hw h => ?_)
    refine lv_if_eq (tgt := 26) hx hb dX10_read_11 (by decide) (fun c6 => ?_) (fun c6 => ?_)
    · have hw := hw.1 c6
      refine lv_iconst (v := (-1)) hx hb dX10_read_26 (by decide) ?_
      refine W.widen (k := 3) (n := 804) (Nat.zero_le _) (Nat.zero_le _) ?_
      exact x_iretG (WW := fun u : (Nat → Nat) × CS => CW u.1 cy u.2) (u := (q, _)) (Post := fun (r : Int32) (u : (Nat → Nat) × CS) => Post r u.2 ∧ u.1 0 = q 0) E.1 h ⟨hw, rfl⟩ dX10_read_27
    · have hw := hw.2 c6
      refine lv_aload_n hx hb dX10_read_14 rfl (lv_at hl 0 rfl) ?_
      refine gX10_26 E.1 h dX10_read_15 ?_
      refine gX10_89 E.1 h dX10_read_18 ?_
      refine lv_bipush (v := 8) hx hb dX10_read_21 (by decide) ?_
      refine lv_icmp_lt (tgt := 28) hx hb dX10_read_23 (by decide) (fun c7 => ?_) (fun c7 => ?_)
      · have hw := hw.1 c7
        refine lv_aload_n hx hb dX10_read_28 rfl (lv_at hl 0 rfl) ?_
        refine gX10_19 E.1 h dX10_read_29 ?_
        refine lv_aload_n hx hb dX10_read_32 rfl (lv_at hl 0 rfl) ?_
        refine gX10_12 E.1 h dX10_read_33 ?_
        refine x_calli h (z_runVN (WW := CW q cy) (rest := []) E h (cC_X3_parse hw) yyX3_parse lX10_92 3 rfl rfl ⟨Nat.le_of_ble_eq_true rfl, Nat.le_of_ble_eq_true rfl⟩ rfl rfl hl.1 rfl (Nat.le_of_ble_eq_true rfl) dX10_read_36 ⟨Nat.zero_le _, Nat.zero_le _⟩) (fun r8 σ9 H locs hw h => ?_)
        refine lv_istore_n (lv' := [(3, .int r8), (0, .ref (q 0)), (1, .int x1), (2, .int x2)]) hx hb dX10_read_39 rfl hl (by decide) rfl (fun ls hl => ?_)
        refine lv_aload_n hx hb dX10_read_40 rfl (lv_at hl 1 rfl) ?_
        refine lv_iload_n hx hb dX10_read_41 rfl (lv_at hl 0 rfl) ?_
        refine lv_if_ne (tgt := 49) hx hb dX10_read_42 (by decide) (fun c10 => ?_) (fun c10 => ?_)
        · have hw := hw.2 c10
          refine lv_aload_n hx hb dX10_read_49 rfl (lv_at hl 1 rfl) ?_
          refine gX10_12 E.1 h dX10_read_50 ?_
          refine gX10_96 E.1 h dX10_read_53 ?_
          exact wkC_X10_read_56 E hX rfl _ _ _ _ _ _ _ _ h hw (lv_sub hl [1, 2, 3, 0] rfl)
        · have hw := hw.1 c10
          refine lv_iconst (v := (-1)) hx hb dX10_read_45 (by decide) ?_
          refine lv_goto (tgt := 56) hx hb dX10_read_46 (by decide) ?_
          exact wkC_X10_read_56 E hX rfl _ _ _ _ _ _ _ _ h hw (lv_sub hl [1, 2, 3, 0] rfl)
      · have hw := hw.2 c7
        refine lv_iconst (v := (-1)) hx hb dX10_read_26 (by decide) ?_
        refine W.widen (k := 3) (n := 804) (Nat.zero_le _) (Nat.zero_le _) ?_
        exact x_iretG (WW := fun u : (Nat → Nat) × CS => CW u.1 cy u.2) (u := (q, _)) (Post := fun (r : Int32) (u : (Nat → Nat) × CS) => Post r u.2 ∧ u.1 0 = q 0) E.1 h ⟨hw, rfl⟩ dX10_read_27

end RWalk
