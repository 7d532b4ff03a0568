/-! Grammar.toLaw: a new law behind the class's world -/
section LCall
variable {p : Program} {l : Launch} {e : Env} {R : Room} {s : State} {m : MethodId} {args : Array Value} {below : List Frame} {meth : Method} {c : Code} {H : Heap} {locs : List Loc} {cells slots : Nat} {Q : State → Prop}
variable {cc : ByteArray} {own : String} {nL : Nat} {ret0 ret : Option FieldType} {D : va_G} {cy : Nat → ClassId} {A : Nat → Prop} {ws : va_W} {pc : Nat} {ls : Array Slot} {rest st : List Value}
variable {S : Type} {WW : S → Nat → va_W} {Post : S → Prop} {C : String} {y : MethodName} {bytes : ByteArray} {maxL idx b mc ms : Nat} {rm : Room} {As : List Value} {host : String} {T : u_T} {N ci : Nat} {fs : List Value}
theorem l_pre (E : xE cc own nL ret0 D cy p s m args meth c) (hX : lX s) (h : xH D A s ws H locs) {av : List Value} : ∀ U : State, U.heap = H → s.WarmedH U.vm → lPc D cy ws H.size av av.toArray U :=
  fun U hU hW => ⟨rfl, by rw [hU], NW.warm hW E.2.2.2.2.2.1, by rw [hU]; exact h.1, va_K.moved hW.alike E.2.2.2.2.2.2.1, h.2.1.weaken (fun _ _ _ _ => trivial), hX.warm hW⟩
/-- a static method of another class whose answer is a new cell -/
theorem l_callSX (E : xE cc own nL ret0 D cy p s m args meth c) (hX : lX s) (h : xH D A s ws H locs) (hM : Met l y (Cond.code y bytes maxL ret :: wsA) rm (lPc D cy ws H.size As) (va_Qr Post (fun u a t => va_P D vwCl (WW u a) t.heap ∧ va_K D vwCl (tysA cy) t ∧ va_D (va_A ws H.size) (WW u a)) (va_A ws H.size)) mc ms (va_A ws H.size)) (hY : xT y C bytes maxL ret As.length) (hl : Cond.methodLink own idx y ∈ wsA) (hR : rm.frames + 1 ≤ R.frames ∧ 8 + (maxL + 11) + rm.locals ≤ R.locals) (hrc : rm.cells = mc) (hrs : rm.slots = ms) (hsz : ls.size = nL) (hst : st = As.reverse ++ rest) (hrest : (rest.map fun v => v.category).sum ≤ 8) (hdg : decode cc pc = .ok (.invokestatic idx, 3)) (hf : cells + mc ≤ R.cells ∧ slots + ms ≤ R.slots)
    (kk : ∀ (u : S) (a : Nat) (H : Heap) (locs : List Loc), Post u → xH D A s (WW u a) H locs → W p l e R s m args below meth c H locs (cells + mc) (slots + ms) Q (F0 m (pc + 3) ls (.ref a :: rest))) : W p l e R s m args below meth c H locs cells slots Q (F0 m pc ls st) := by
  have hg : GoodIn wsA (va_wsS own idx y (Cond.code y bytes maxL ret :: wsA)) := goodIn_A (fun _ h => h) (fun w hw => by
    rcases List.mem_append.mp hw with hw | hw
    · simp only [List.mem_cons, List.not_mem_nil, or_false] at hw
      rcases hw with rfl | rfl | rfl
      · exact hl
      · exact hY.1.1
      · rw [hY.2.1]; exact hY.1.2.1
    · rcases List.mem_cons.mp hw with rfl | hw
      · exact hY.1.2.2
      · exact hw)
  refine va_callr (va_runS (Ts := wsA) (index := idx) (rest := rest) ⟨E.1, E.2.1, E.2.2.1, E.2.2.2.1, E.2.2.2.2.1⟩ hM (va_cwS As.length E.2.2.2.2.1 hg rfl hrc hrs hY.2.2 hR) ⟨lPc_blind, l_pre E hX h⟩ rfl rfl hsz hst (lv_room hrest) hdg hf) h.2.2.1 (fun q _ hq => h.subW q hq) h.subW (fun u ra t H1 locs1 ht hvm hw hB hz1 hk1 hS => ?_)
  exact kk u ra H1 locs1 hw ⟨by rw [← ht]; exact hB.1, hB.2.2.weaken (fun _ _ _ hq => h.subW _ hq), hS, h.2.2.2⟩
/-- a nest mate's constructor, called from a method that is none -/
theorem l_callIN (E : xE cc own nL ret0 D cy p s m args meth c) (hX : lX s) (h : xH D A s ws H locs) {WW : S → va_W} (hM : Met l y (Cond.code y bytes maxL none :: wsA) rm (kPc D cy ws H.size (.ref b :: As)) (va_Qv (fun _ : S => True) (xB D cy WW (va_A ws H.size)) (va_A ws H.size)) mc ms (va_A ws H.size)) (hY : kY y bytes maxL As.length) (hl : Cond.methodLinkNest own idx y host ∈ wsN) (hR : rm.frames + 1 ≤ R.frames ∧ 8 + (maxL + 11) + rm.locals ≤ R.locals) (hrc : rm.cells = mc) (hrs : rm.slots = ms) (hsz : ls.size = nL) (hst : st = As.reverse ++ .ref b :: rest) (hrest : (rest.map fun v => v.category).sum ≤ 8) (hdg : decode cc pc = .ok (.invokespecial idx, 3)) (hf : cells + mc ≤ R.cells ∧ slots + ms ≤ R.slots)
    (kk : ∀ (u : S) (H : Heap) (locs : List Loc), xH D A s (WW u) H locs → W p l e R s m args below meth c H locs (cells + mc) (slots + ms) Q (F0 m (pc + 3) ls rest)) : W p l e R s m args below meth c H locs cells slots Q (F0 m pc ls st) := by
  have hg : GoodIn wsA (Cond.code y bytes maxL none :: wsA) := goodIn_A (fun _ h => h) (fun w hw => by
    rcases List.mem_cons.mp hw with rfl | hw
    · exact hY.1.2.2
    · exact hw)
  refine va_callv (va_runIN (Ts := wsA) (host := host) (index := idx) (rest := rest) ⟨E.1, E.2.1, E.2.2.1, E.2.2.2.1, E.2.2.2.2.1⟩ hM ⟨va_cnB As.length E.2.2.2.2.1 hg rfl hrc hrs (E.2.2.2.2.2.1 _ hl) (E.2.2.2.2.1 _ hY.1.2.1) hY.2.2 hR, hY.2.1, E.2.2.2.2.1 _ hY.1.1⟩ ⟨kPc_blind, fun U hU hW => ⟨rfl, by rw [hU], NW.warm hW E.2.2.2.2.2.1, by rw [hU]; exact h.1, va_K.moved hW.alike E.2.2.2.2.2.2.1, h.2.1.weaken (fun _ _ _ _ => trivial), va_AO.moved hW.alike hX.1⟩⟩ rfl rfl hsz hst (lv_room hrest) hdg hf) h.2.2.1 (fun q _ hq => h.subW q hq) h.subW (fun u t H1 locs1 ht hvm hw hB hz1 hk1 hS => ?_)
  exact kk u H1 locs1 ⟨by rw [← ht]; exact hB.1, hB.2.2.weaken (fun _ _ _ hq => h.subW _ hq), hS, h.2.2.2⟩
end LCall
theorem l_eq {D : va_G} {A : Nat → Prop} {s : State} {a b : va_W} {H : Heap} {locs : List Loc} (e : a = b) (h : xH D A s a H locs) : xH D A s b H locs := e ▸ h
abbrev lr_toLaw : Room := { frames := 2, cells := 3, slots := 804, locals := 60 }
theorem lX3_47 : Cond.methodLink RX3 47 Lib.Math.min.name ∈ wsA := wsA_mem (107 + 481) (by decide +kernel) (by decide +kernel)
theorem lX3_53 : Cond.methodLink RX3 53 yJ7_copyOf_59c91 ∈ wsA := wsA_mem (107 + 484) (by decide +kernel) (by decide +kernel)
theorem wX3_cl59 : Cond.classLink RX3 59 RX5 ∈ wsA := wsA_mem (107 + 498) (by decide +kernel) (by decide +kernel)
theorem lX3_61 : Cond.methodLinkNest RX3 61 yX5_init "PromiseCourt" ∈ wsN := wsN_mem 499 (by decide +kernel) (by decide +kernel)
theorem yyX3_toLaw : xY yX3_toLaw RX3 cX3_toLaw 4 (some (.object "PromiseCourt$Law")) 2 := ⟨⟨wsA_mem (107 + 479) (by decide +kernel) (by decide +kernel), wsA_mem 14 (by decide +kernel) (by decide +kernel), wsA_mem (107 + 3) (by decide +kernel) (by decide +kernel), wsA_mem (107 + 480) (by decide +kernel) (by decide +kernel)⟩, by decide +kernel⟩
/-- the new cells: the rules' row r, the law, the tokens' row t -/
def lNew (cy : Nat → ClassId) (x1 x2 : Int32) (N1 N2 : Nat) (u : (Nat × Nat) × (Nat → Int32) × (Nat → Int32)) (a : Nat) : va_W :=
  [(u.1.1, .inl (cy 1, N1, .inl u.2.1)), (a, .inr (5, [.int x1, .int x2, .ref u.1.2, .ref u.1.1])), (u.1.2, .inl (cy 1, N2, .inl u.2.2))]
set_option maxHeartbeats 4000000 in
set_option maxRecDepth 20000 in
theorem l_toLaw {l : Launch} {D : va_G} {cy : Nat → ClassId} {q : Nat → Nat} {σ : CS} {sz N1 N2 : Nat} {x1 x2 : Int32} (h1 : (if (16 : Int32) < σ.1 63 then 16 else σ.1 63) = nI N1) (hN1 : N1 ≤ 16) (h2 : σ.1 62 = nI N2) (hN2 : N2 ≤ 400) : Met l yX3_toLaw (Cond.code yX3_toLaw cX3_toLaw 4 (some (.object "PromiseCourt$Law")) :: wsA) lr_toLaw (lPc D cy (CW q cy σ) sz [.ref (q 3), .int x1, .int x2])
    (va_Qr (fun u : (Nat × Nat) × (Nat → Int32) × (Nat → Int32) => (∀ j, j < N1 → u.2.1 j = σ.2.1 5 j) ∧ ∀ j, j < N2 → u.2.2 j = σ.2.1 4 j) (fun u a t => va_P D vwCl (CW q cy σ ++ lNew cy x1 x2 N1 N2 u a) t.heap ∧ va_K D vwCl (tysA cy) t ∧ va_D (va_A (CW q cy σ) sz) (CW q cy σ ++ lNew cy x1 x2 N1 N2 u a)) (va_A (CW q cy σ) sz)) 3 804 (va_A (CW q cy σ) sz) := by
  refine l_enter (own := RX3) (by decide) rfl (Nat.le_of_ble_eq_true rfl) ?_
  intro p e s m below meth c ls E hlX h hl
  have hx := E.1
  have hb := E.2.1
  have hl : lv_has ls 4 [(0, .ref (q 3)), (1, .int x1), (2, .int x2)] := hl
  have hG : (CW q cy σ)[3]? = some (q 3, .inr (3, [.ref (q 4), .ref (q 5), .int (σ.1 62), .int (σ.1 63), .int (σ.1 64), .int (σ.1 65), .int (σ.1 66)])) := rfl
  refine lv_aload_n hx hb dX3_toLaw_0 rfl (lv_at hl 0 rfl) ?_
  refine gX3_15 E h dX3_toLaw_1 ?_
  refine lv_aload_n hx hb dX3_toLaw_4 rfl (lv_at hl 0 rfl) ?_
  refine gX3_22 E h dX3_toLaw_5 ?_
  refine lv_bipush (v := 16) hx hb dX3_toLaw_8 (by decide) ?_
  refine z_min E hl.1 lX3_47 (Nat.le_of_ble_eq_true rfl) (Nat.le_of_ble_eq_true rfl) (Nat.zero_le _) (Nat.zero_le _) dX3_toLaw_10 ?_
  refine lv_topi (fun y1 ey1 => ?_)
  refine l_callSX (rest := []) E hlX h (l_copyOf (i := 5) (show (CW q cy σ)[5]? = some (q 5, .inl (cy 1, 16, .inl (σ.2.1 5))) from rfl) (ey1.trans h1) hN1 (by omega)) yyJ7_copyOf lX3_53 ⟨Nat.le_of_ble_eq_true rfl, Nat.le_of_ble_eq_true rfl⟩ rfl rfl hl.1 rfl (Nat.le_of_ble_eq_true rfl) dX3_toLaw_13 ⟨Nat.le_of_ble_eq_true rfl, Nat.le_of_ble_eq_true rfl⟩ (fun g1 r H locs hg1 h => ?_)
  refine lv_astore_n (lv' := [(3, .ref r), (0, .ref (q 3)), (1, .int x1), (2, .int x2)]) hx hb dX3_toLaw_16 rfl hl (by decide) rfl (fun ls hl => ?_)
  refine x_newO (ci := 5) (fs := [.int 0, .int 0, .null, .null]) E h inA5 tyX5 tyX5_ok wX3_cl59 wX5_inst wX5_ini rfl (fun j hj => by rcases (show j = 0 ∨ j = 1 ∨ j = 2 ∨ j = 3 by omega) with rfl | rfl | rfl | rfl <;> rfl) (Nat.le_of_ble_eq_true rfl) (Nat.le_of_ble_eq_true rfl) dX3_toLaw_17 (fun a H h => ?_)
  have h := h.assoc
  refine lv_dup hx hb dX3_toLaw_20 rfl ?_
  refine lv_iload_n hx hb dX3_toLaw_21 rfl (lv_at hl 2 rfl) ?_
  refine lv_iload_n hx hb dX3_toLaw_22 rfl (lv_at hl 3 rfl) ?_
  refine lv_aload_n hx hb dX3_toLaw_23 rfl (lv_at hl 1 rfl) ?_
  refine x_get (ci := 3) (v := .ref (q 4)) E h 0 3 inA3 rfl (by decide) fX3_9 (lk_app hG) rfl dX3_toLaw_24 ?_
  refine lv_aload_n hx hb dX3_toLaw_27 rfl (lv_at hl 1 rfl) ?_
  refine x_get (ci := 3) (v := .int (σ.1 62)) E h 2 3 inA3 rfl (by decide) fX3_18 (lk_app hG) rfl dX3_toLaw_28 ?_
  refine l_callSX (rest := [.int x2, .int x1, .ref a, .ref a]) E hlX h (l_copyOf (i := 4) (lk_app (show (CW q cy σ)[4]? = some (q 4, .inl (cy 1, 400, .inl (σ.2.1 4))) from rfl)) h2 hN2 (Nat.le_refl _)) yyJ7_copyOf lX3_53 ⟨Nat.le_of_ble_eq_true rfl, Nat.le_of_ble_eq_true rfl⟩ rfl rfl hl.1 rfl (Nat.le_of_ble_eq_true rfl) dX3_toLaw_31 ⟨Nat.le_of_ble_eq_true rfl, Nat.le_of_ble_eq_true rfl⟩ (fun g2 t H locs hg2 h => ?_)
  have h := h.assoc
  refine lv_aload_n hx hb dX3_toLaw_34 rfl (lv_at hl 0 rfl) ?_
  refine l_callIN (rest := [.ref a]) E hlX h (kC_X5 ((lk_add (α := Nat × va_E) (CW q cy σ) ([(r, .inl (cy 1, N1, .inl g1))] ++ [(a, .inr (5, [.int 0, .int 0, .null, .null]))] ++ [(t, .inl (cy 1, N2, .inl g2))]) 1).trans rfl)) kyX5 lX3_61 ⟨Nat.le_of_ble_eq_true rfl, Nat.le_of_ble_eq_true rfl⟩ rfl rfl hl.1 rfl (Nat.le_of_ble_eq_true rfl) dX3_toLaw_35 ⟨Nat.le_of_ble_eq_true rfl, Nat.le_of_ble_eq_true rfl⟩ (fun u9 H locs h => ?_)
  have e1 := st_nest (α := Nat × va_E) (CW q cy σ) ([(r, .inl (cy 1, N1, .inl g1))] ++ [(a, .inr (5, [.int 0, .int 0, .null, .null]))] ++ [(t, .inl (cy 1, N2, .inl g2))]) 1 (a, .inr (5, [.int x1, .int x2, .ref t, .ref r])) []
  have e2 : ((([(r, .inl (cy 1, N1, .inl g1))] ++ [(a, .inr (5, [.int 0, .int 0, .null, .null]))] ++ [(t, .inl (cy 1, N2, .inl g2))] : va_W).set 1 (a, .inr (5, [.int x1, .int x2, .ref t, .ref r]))) ++ [] : va_W) = lNew cy x1 x2 N1 N2 ((r, t), g1, g2) a := rfl
  have e3 := e1.trans (congrArg (fun w => CW q cy σ ++ w) e2)
  have h := l_eq e3 h
  refine W.widen (k := 3) (n := 804) (Nat.le_of_ble_eq_true rfl) (Nat.le_of_ble_eq_true rfl) ?_
  exact l_aret (Post := fun u : (Nat × Nat) × (Nat → Int32) × (Nat → Int32) => (∀ j, j < N1 → u.2.1 j = σ.2.1 5 j) ∧ ∀ j, j < N2 → u.2.2 j = σ.2.1 4 j) (WW := fun u a => CW q cy σ ++ lNew cy x1 x2 N1 N2 u a) (u := ((r, t), g1, g2)) (Or.inl ⟨_, rfl⟩) E h ⟨hg1, hg2⟩ dX3_toLaw_38
