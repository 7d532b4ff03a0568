/-! the class's side: what its contracts carry beside the world: the one text constant of Tape, String.COMPACT_STRINGS, the formatter of Preconditions -/
def kWt : String := "proof  bar    over   lapse  back   if     or     and    yes    no     kin    fame   tense  age    degree vow    leave  old    why    days   "
def kWb : List Int32 := [112, 114, 111, 111, 102, 32, 32, 98, 97, 114, 32, 32, 32, 32, 111, 118, 101, 114, 32, 32, 32, 108, 97, 112, 115, 101, 32, 32, 98, 97, 99, 107, 32, 32, 32, 105, 102, 32, 32, 32, 32, 32, 111, 114, 32, 32, 32, 32, 32, 97, 110, 100, 32, 32, 32, 32, 121, 101, 115, 32, 32, 32, 32, 110, 111, 32, 32, 32, 32, 32, 107, 105, 110, 32, 32, 32, 32, 102, 97, 109, 101, 32, 32, 32, 116, 101, 110, 115, 101, 32, 32, 97, 103, 101, 32, 32, 32, 32, 100, 101, 103, 114, 101, 101, 32, 118, 111, 119, 32, 32, 32, 32, 108, 101, 97, 118, 101, 32, 32, 111, 108, 100, 32, 32, 32, 32, 119, 104, 121, 32, 32, 32, 32, 100, 97, 121, 115, 32, 32, 32]
/-- the text constant stands at ks.1, its bytes at ks.2, both outside A -/
def KS (ks : Nat × Nat × Option Nat) (A : Nat → Prop) (U : State) (H : Heap) : Prop :=
  vk_R RX9 50 kWt ks.1 U ∧ vk_S 1 [140] [kWb] (fun _ => ks.1) (fun _ => ks.2.1) A U H ∧ va_Z "java/lang/String" "COMPACT_STRINGS" "Z" (.int 1) A U H ∧ va_Z "jdk/internal/util/Preconditions" "SIOOBE_FORMATTER" "Ljava/util/function/BiFunction;" (va_rf ks.2.2) A U H
theorem KS.warm {ks : Nat × Nat × Option Nat} {A : Nat → Prop} {s U : State} {H : Heap} (hW : s.WarmedH U.vm) (h : KS ks A s H) : KS ks A U H :=
  ⟨vk_R.warm hW h.1, vk_S.moved hW.alike h.2.1, va_Z.moved hW.alike h.2.2.1, va_Z.moved hW.alike h.2.2.2⟩
theorem KS.same {ks : Nat × Nat × Option Nat} {A : Nat → Prop} {u U : State} {H : Heap} (hv : u.vm = U.vm) (h : KS ks A u H) : KS ks A U H := by
  have ha : u.vm.Alike U.vm := by rw [hv]; exact Vm.Alike.refl U.vm
  exact ⟨vk_R.same hv.symm h.1, vk_S.moved ha h.2.1, va_Z.moved ha h.2.2.1, va_Z.moved ha h.2.2.2⟩
theorem KS.kept {ks : Nat × Nat × Option Nat} {A : Nat → Prop} {U : State} {H H1 : Heap} (h : KS ks A U H) (hq : ∀ a : Nat, a < H.size → ¬ A a → H1[a]? = H[a]?) : KS ks A U H1 :=
  ⟨h.1, h.2.1.kept hq, h.2.2.1.kept hq, h.2.2.2.kept hq⟩
theorem KS.narrow {ks : Nat × Nat × Option Nat} {A B : Nat → Prop} {U : State} {H : Heap} (h : KS ks A U H) (hAB : ∀ q, B q → A q) : KS ks B U H :=
  ⟨h.1, h.2.1.narrow hAB, h.2.2.1.narrow hAB, h.2.2.2.narrow hAB⟩
def zE (cc : ByteArray) (own : String) (nL : Nat) (ret : Option FieldType) (D : va_G) (cy : Nat → ClassId) (ks : Nat × Nat × Option Nat) (A : Nat → Prop) (p : Program) (s : State) (m : MethodId) (args : Array Value) (meth : Method) (c : Code) : Prop :=
  xE cc own nL ret D cy p s m args meth c ∧ KS ks A s s.heap
def zPc (D : va_G) (cy : Nat → ClassId) (ks : Nat × Nat × Option Nat) (ws : va_W) (sz : Nat) (av : List Value) : Array Value → State → Prop :=
  va_Pc av (fun U => U.heap.size = sz ∧ NW U ∧ va_P D vwCl ws U.heap ∧ va_K D vwCl (tysA cy) U ∧ va_D (fun _ => True) ws ∧ KS ks (va_A ws sz) U U.heap)
theorem zPc_blind {D : va_G} {cy : Nat → ClassId} {ks : Nat × Nat × Option Nat} {ws : va_W} {sz : Nat} {av : List Value} : FrameBlind (zPc D cy ks ws sz av) := by
  intro a U g mk q
  obtain ⟨q0, q1, qN, qP, qK, qD, qS⟩ := q
  exact ⟨q0, q1, NW.same (u := U) (U := U.calling g mk a) rfl qN, qP, va_K.moved (u := U) (U := U.calling g mk a) (Vm.Alike.refl U.vm) qK, qD, KS.same (u := U) (U := U.calling g mk a) rfl qS⟩
section ZCalls
variable {p : Program} {l : Launch} {e : Env} {R : Room} {s : State} {m : MethodId} {args : Array Value} {below : List Frame} {meth : Method} {c : Code} {H : Heap} {locs : List Loc} {cells slots : Nat} {Q : State → Prop}
variable {cc : ByteArray} {own : String} {nL : Nat} {ret0 : Option FieldType} {D : va_G} {cy : Nat → ClassId} {ks : Nat × Nat × Option Nat} {A : Nat → Prop} {pc : Nat} {ls : Array Slot} {rest st : List Value}
variable {S : Type} {WW : S → va_W} {σ : S} {C : String} {y : MethodName} {bytes : ByteArray} {maxL idx b ci : Nat} {ret : Option FieldType} {rm : Room} {Qc : Array Value → State → Outcome → State → Prop} {As : List Value} {free : Nat → Prop} {T : u_T} {N : Nat} {fs : List Value} {host : String}
theorem z_pre (E : zE cc own nL ret0 D cy ks A p s m args meth c) (h : xH D A s (WW σ) H locs) {av : List Value} : ∀ U : State, U.heap = H → s.WarmedH U.vm → zPc D cy ks (WW σ) H.size av av.toArray U :=
  fun U hU hW => ⟨rfl, by rw [hU], NW.warm hW E.1.2.2.2.2.2.1, by rw [hU]; exact h.1, va_K.moved hW.alike E.1.2.2.2.2.2.2.1, h.2.1.weaken (fun _ _ _ _ => trivial), by rw [hU]; exact KS.warm hW ((E.2.kept h.2.2.1.2.1).narrow h.sub)⟩
theorem z_runV (E : zE cc own nL ret0 D cy ks A p s m args meth c) (h : xH D A s (WW σ) H locs) (hM : Met l y (Cond.code y bytes maxL ret :: wsA) rm (zPc D cy ks (WW σ) H.size (.ref b :: As)) Qc 0 0 free) (hY : xY y C bytes maxL ret As.length) (hl : Cond.methodLink own idx y ∈ wsA) (pos : Nat) (he : (WW σ)[pos]? = some (b, .inr (ci, fs))) (hc : vwCl[ci]? = some (C, T, N)) (hR : rm.frames + 1 ≤ R.frames ∧ 8 + (maxL + 11) + rm.locals ≤ R.locals) (hrc : rm.cells = 0) (hrs : rm.slots = 0) (hsz : ls.size = nL) (hst : st = As.reverse ++ .ref b :: rest) (hrest : (rest.map fun v => v.category).sum ≤ 8) (hdg : decode cc pc = .ok (.invokevirtual idx, 3)) (hf : cells ≤ R.cells ∧ slots ≤ R.slots) :
    va_Run p l e R s m args below meth c H locs cells slots 0 0 (F0 m pc ls st) rest (Qc (Value.ref b :: As).toArray) free := by
  refine va_runV (Ts := wsA) (C := C) (index := idx) ⟨E.1.1, E.1.2.1, E.1.2.2.1, E.1.2.2.2.1, E.1.2.2.2.2.1⟩ hM (cwV As.length E.1.2.2.2.2.1 (goodIn_A (fun _ h => h) ?_) rfl hrc hrs hY.2 hR) ⟨zPc_blind, va_recv E.1.2.2.2.2.2.2.1 h.1 hc he, z_pre E h⟩ rfl rfl hsz hst (lv_room hrest) hdg hf
  intro w hw
  rcases List.mem_append.mp hw with hw | hw
  · simp only [List.mem_cons, List.not_mem_nil, or_false] at hw
    rcases hw with rfl | rfl | rfl | rfl
    · exact hl
    · exact hY.1.1
    · exact hY.1.2.1
    · exact hY.1.2.2.1
  · rcases List.mem_cons.mp hw with rfl | hw
    · exact hY.1.2.2.2
    · exact hw
theorem z_runVN (E : zE cc own nL ret0 D cy ks A p s m args meth c) (h : xH D A s (WW σ) H locs) (hM : Met l y (Cond.code y bytes maxL ret :: wsA) rm (zPc D cy ks (WW σ) H.size (.ref b :: As)) Qc 0 0 free) (hY : xY y C bytes maxL ret As.length) (hl : Cond.methodLinkNest own idx y host ∈ wsN) (pos : Nat) (he : (WW σ)[pos]? = some (b, .inr (ci, fs))) (hc : vwCl[ci]? = some (C, T, N)) (hR : rm.frames + 1 ≤ R.frames ∧ 8 + (maxL + 11) + rm.locals ≤ R.locals) (hrc : rm.cells = 0) (hrs : rm.slots = 0) (hsz : ls.size = nL) (hst : st = As.reverse ++ .ref b :: rest) (hrest : (rest.map fun v => v.category).sum ≤ 8) (hdg : decode cc pc = .ok (.invokevirtual idx, 3)) (hf : cells ≤ R.cells ∧ slots ≤ R.slots) :
    va_Run p l e R s m args below meth c H locs cells slots 0 0 (F0 m pc ls st) rest (Qc (Value.ref b :: As).toArray) free := by
  refine va_runVN (Ts := wsA) (C := C) (host := host) (index := idx) ⟨E.1.1, E.1.2.1, E.1.2.2.1, E.1.2.2.2.1, E.1.2.2.2.2.1⟩ hM ⟨va_cnB As.length E.1.2.2.2.2.1 (goodIn_A (fun _ h => h) ?_) rfl hrc hrs (E.1.2.2.2.2.2.1 _ hl) (by rw [hY.2.1]; exact E.1.2.2.2.2.1 _ hY.1.2.2.1) hY.2.2 hR, E.1.2.2.2.2.1 _ hY.1.1, E.1.2.2.2.2.1 _ hY.1.2.1⟩ ⟨zPc_blind, va_recv E.1.2.2.2.2.2.2.1 h.1 hc he, z_pre E h⟩ rfl rfl hsz hst (lv_room hrest) hdg hf
  intro w hw
  rcases List.mem_cons.mp hw with rfl | hw
  · exact hY.1.2.2.2
  · exact hw
theorem z_runS (E : zE cc own nL ret0 D cy ks A p s m args meth c) (h : xH D A s (WW σ) H locs) (hM : Met l y (Cond.code y bytes maxL ret :: wsA) rm (zPc D cy ks (WW σ) H.size As) Qc 0 0 free) (hY : xT y own bytes maxL ret As.length) (hl : Cond.methodLink own idx y ∈ wsA) (hR : rm.frames + 1 ≤ R.frames ∧ 8 + (maxL + 11) + rm.locals ≤ R.locals) (hrc : rm.cells = 0) (hrs : rm.slots = 0) (hsz : ls.size = nL) (hst : st = As.reverse ++ rest) (hrest : (rest.map fun v => v.category).sum ≤ 8) (hdg : decode cc pc = .ok (.invokestatic idx, 3)) (hf : cells ≤ R.cells ∧ slots ≤ R.slots) :
    va_Run p l e R s m args below meth c H locs cells slots 0 0 (F0 m pc ls st) rest (Qc As.toArray) free := by
  refine va_runS (Ts := wsA) (index := idx) ⟨E.1.1, E.1.2.1, E.1.2.2.1, E.1.2.2.2.1, E.1.2.2.2.2.1⟩ hM (cwS As.length E.1.2.2.2.2.1 (goodIn_A (fun _ h => h) ?_) rfl hrc hrs hY.2 hR) ⟨zPc_blind, z_pre E h⟩ rfl rfl hsz hst (lv_room hrest) hdg hf
  intro w hw
  rcases List.mem_append.mp hw with hw | hw
  · simp only [List.mem_cons, List.not_mem_nil, or_false] at hw
    rcases hw with rfl | rfl | rfl
    · exact hl
    · exact hY.1.1
    · exact hY.1.2.1
  · rcases List.mem_cons.mp hw with rfl | hw
    · exact hY.1.2.2
    · exact hw
theorem z_runSN (E : zE cc own nL ret0 D cy ks A p s m args meth c) (h : xH D A s (WW σ) H locs) (hM : Met l y (Cond.code y bytes maxL ret :: wsA) rm (zPc D cy ks (WW σ) H.size As) Qc 0 0 free) (hY : xT y C bytes maxL ret As.length) (hl : Cond.methodLinkNest own idx y host ∈ wsN) (hR : rm.frames + 1 ≤ R.frames ∧ 8 + (maxL + 11) + rm.locals ≤ R.locals) (hrc : rm.cells = 0) (hrs : rm.slots = 0) (hsz : ls.size = nL) (hst : st = As.reverse ++ rest) (hrest : (rest.map fun v => v.category).sum ≤ 8) (hdg : decode cc pc = .ok (.invokestatic idx, 3)) (hf : cells ≤ R.cells ∧ slots ≤ R.slots) :
    va_Run p l e R s m args below meth c H locs cells slots 0 0 (F0 m pc ls st) rest (Qc As.toArray) free := by
  refine va_runSN (Ts := wsA) (host := host) (index := idx) ⟨E.1.1, E.1.2.1, E.1.2.2.1, E.1.2.2.2.1, E.1.2.2.2.2.1⟩ hM ⟨va_cnB As.length E.1.2.2.2.2.1 (goodIn_A (fun _ h => h) ?_) rfl hrc hrs (E.1.2.2.2.2.2.1 _ hl) (by rw [hY.2.1]; exact E.1.2.2.2.2.1 _ hY.1.2.1) hY.2.2 hR, E.1.2.2.2.2.1 _ hY.1.1, trivial⟩ ⟨zPc_blind, z_pre E h⟩ rfl rfl hsz hst (lv_room hrest) hdg hf
  intro w hw
  rcases List.mem_cons.mp hw with rfl | hw
  · exact hY.1.2.2
  · exact hw
theorem z_runSX (E : zE cc own nL ret0 D cy ks A p s m args meth c) (h : xH D A s (WW σ) H locs) (hM : Met l y (Cond.code y bytes maxL ret :: wsA) rm (zPc D cy ks (WW σ) H.size As) Qc 0 0 free) (hY : xT y C bytes maxL ret As.length) (hl : Cond.methodLink own idx y ∈ wsA) (hR : rm.frames + 1 ≤ R.frames ∧ 8 + (maxL + 11) + rm.locals ≤ R.locals) (hrc : rm.cells = 0) (hrs : rm.slots = 0) (hsz : ls.size = nL) (hst : st = As.reverse ++ rest) (hrest : (rest.map fun v => v.category).sum ≤ 8) (hdg : decode cc pc = .ok (.invokestatic idx, 3)) (hf : cells ≤ R.cells ∧ slots ≤ R.slots) :
    va_Run p l e R s m args below meth c H locs cells slots 0 0 (F0 m pc ls st) rest (Qc As.toArray) free := by
  refine va_runS (Ts := wsA) (index := idx) ⟨E.1.1, E.1.2.1, E.1.2.2.1, E.1.2.2.2.1, E.1.2.2.2.2.1⟩ hM (va_cwS As.length E.1.2.2.2.2.1 (goodIn_A (fun _ h => h) ?_) rfl hrc hrs hY.2.2 hR) ⟨zPc_blind, z_pre E h⟩ rfl rfl hsz hst (lv_room hrest) hdg hf
  intro w hw
  rcases List.mem_append.mp hw with hw | hw
  · simp only [List.mem_cons, List.not_mem_nil, or_false] at hw
    rcases hw with rfl | rfl | rfl
    · exact hl
    · exact hY.1.1
    · rw [hY.2.1]; exact hY.1.2.1
  · rcases List.mem_cons.mp hw with rfl | hw
    · exact hY.1.2.2
    · exact hw
theorem z_enter {av : List Value} {sz : Nat} (hy : plainName y.cls = true) (ho : y.cls = own) (hn : (lg_sl av).length ≤ maxL)
    (body : ∀ (p : Program) (e : Env) (s : State) (m : MethodId) (below : List Frame) (meth : Method) (c : Code) (ls : Array Slot), zE bytes own maxL ret D cy ks (va_A (WW σ) sz) p s m av.toArray meth c → xH D (va_A (WW σ) sz) s (WW σ) s.heap [] → lv_has ls maxL (lv_args 0 av) → W p l e rm s m av.toArray below meth c s.heap [] 0 0 (MQ below Qc av.toArray s 0 0 (va_A (WW σ) sz)) (F0 m 0 ls [])) :
    Met l y (Cond.code y bytes maxL ret :: wsA) rm (zPc D cy ks (WW σ) sz av) Qc 0 0 (va_A (WW σ) sz) := by
  refine Met.ofW (cc := bytes) (maxL := maxL) (ret := ret) hy rfl ?_
  intro p e s m args below meth c s₁ B hml hv
  obtain ⟨rfl, hsz, hN, hP, hK, hD0, hZ⟩ := hv
  have hts := atoms_spec (ws := Cond.code y bytes maxL ret :: wsA) B.pre
  have hown : s.vm.findClass own = some m.cls := ho ▸ findClass_of_methodNamed B.named
  subst hsz
  rw [lg_entry_eq]
  exact body p e s m below meth c _ ⟨⟨B.exec, B.bytes, hml, hown, fun w h => hts w (List.mem_cons_of_mem _ h), hN, hK, B.returns, B.notSynchronized⟩, hZ⟩ ⟨hP, hD0.self, va_S.rf, fun q h => Or.inr h⟩ (lv_entry av hn)
/-- answers that are laws: by their numbers; a law's cell is that of the place at -/
def zB (D : va_G) (cy : Nat → ClassId) (at0 : Nat → Nat) (WW : S → va_W) (A : Nat → Prop) (u : Nat × S) (a : Nat) (t : State) : Prop := a = at0 u.1 ∧ xB D cy WW A u.2 t
theorem z_callr {at0 : Nat → Nat} {a : Array Value} {Post : Nat → S → Prop} (h : xH D A s (WW σ) H locs) (hr : va_Run p l e R s m args below meth c H locs cells slots 0 0 (F0 m pc ls st) rest (va_Qr (fun u : Nat × S => Post u.1 u.2) (zB D cy at0 WW (va_A (WW σ) H.size)) (va_A (WW σ) H.size) a) (va_A (WW σ) H.size))
    (kk : ∀ (r : Nat) (σ : S) (H : Heap) (locs : List Loc), Post r σ → xH D A s (WW σ) H locs → W p l e R s m args below meth c H locs cells slots Q (F0 m (pc + 3) ls (.ref (at0 r) :: rest))) : W p l e R s m args below meth c H locs cells slots Q (F0 m pc ls st) := by
  refine va_callr hr h.2.2.1 (fun q _ hq => h.sub q hq) h.sub (fun u ra t H1 locs1 ht hvm hw hB hz1 hk1 hS => ?_)
  obtain ⟨rfl, hB⟩ := hB
  exact kk u.1 u.2 H1 locs1 hw (h.after ht hB hS)
theorem z_aret {at0 : Nat → Nat} {Post : Nat → S → Prop} {r : Nat} {n : String} (E : xE cc own nL (some (.object n)) D cy p s m args meth c) (h : xH D A s (WW σ) H locs) (hw : Post r σ) (hdg : decode cc pc = .ok (.areturn, 1)) :
    W p l e R s m args below meth c H locs 0 0 (MQ below (va_Qr (fun u : Nat × S => Post u.1 u.2) (zB D cy at0 WW A) A) args s 0 0 A) (F0 m pc ls [.ref (at0 r)]) :=
  W.aret E.1 E.2.1 E.2.2.2.2.2.2.2.1 (Or.inl ⟨_, rfl⟩) (Or.inr ⟨_, rfl⟩) (fun t ht hW => ⟨⟨(r, σ), at0 r, rfl, hw, rfl, by rw [ht]; exact h.1, va_K.moved hW.alike E.2.2.2.2.2.2.1, h.2.1⟩, h.2.2.1.F ht⟩) h.2.2.1.2.2 hdg (hlocks := E.2.2.2.2.2.2.2.2)
theorem z_runVR (E : zE cc own nL ret0 D cy ks A p s m args meth c) (h : xH D A s (WW σ) H locs) (hM : Met l y (Cond.code y bytes maxL ret :: wsA) rm (zPc D cy ks (WW σ) H.size (.ref b :: As)) Qc 0 0 free) (hY : xY y C bytes maxL ret As.length) (hl : Cond.methodLink own idx y ∈ wsA) (hrv : ∃ cell : Cell, H[b]? = some cell ∧ cell.vm.isStatics = false ∧ s.vm.findClass C = some cell.cls) (hR : rm.frames + 1 ≤ R.frames ∧ 8 + (maxL + 11) + rm.locals ≤ R.locals) (hrc : rm.cells = 0) (hrs : rm.slots = 0) (hsz : ls.size = nL) (hst : st = As.reverse ++ .ref b :: rest) (hrest : (rest.map fun v => v.category).sum ≤ 8) (hdg : decode cc pc = .ok (.invokevirtual idx, 3)) (hf : cells ≤ R.cells ∧ slots ≤ R.slots) :
    va_Run p l e R s m args below meth c H locs cells slots 0 0 (F0 m pc ls st) rest (Qc (Value.ref b :: As).toArray) free := by
  refine va_runV (Ts := wsA) (C := C) (index := idx) ⟨E.1.1, E.1.2.1, E.1.2.2.1, E.1.2.2.2.1, E.1.2.2.2.2.1⟩ hM (cwV As.length E.1.2.2.2.2.1 (goodIn_A (fun _ h => h) ?_) rfl hrc hrs hY.2 hR) ⟨zPc_blind, hrv, z_pre E h⟩ rfl rfl hsz hst (lv_room hrest) hdg hf
  intro w hw
  rcases List.mem_append.mp hw with hw | hw
  · simp only [List.mem_cons, List.not_mem_nil, or_false] at hw
    rcases hw with rfl | rfl | rfl | rfl
    · exact hl
    · exact hY.1.1
    · exact hY.1.2.1
    · exact hY.1.2.2.1
  · rcases List.mem_cons.mp hw with rfl | hw
    · exact hY.1.2.2.2
    · exact hw
theorem z_tret {Post : Int32 → S → Prop} {v : Int32} {ty : FieldType} (E : xE cc own nL (some ty) D cy p s m args meth c) (h : xH D A s (WW σ) H locs) (hn : narrow ty (.int v) = .int v) (hw : Post v σ) (hdg : decode cc pc = .ok (.ireturn, 1)) :
    W p l e R s m args below meth c H locs 0 0 (MQ below (va_Qi Post (xB D cy WW A) A) args s 0 0 A) (F0 m pc ls [.int v]) :=
  W.zret E.1 E.2.1 E.2.2.2.2.2.2.2.1 hn (fun t ht hW => ⟨⟨v, σ, rfl, hw, by rw [ht]; exact h.1, va_K.moved hW.alike E.2.2.2.2.2.2.1, h.2.1⟩, h.2.2.1.F ht⟩) h.2.2.1.2.2 hdg (hlocks := E.2.2.2.2.2.2.2.2)
end ZCalls
