/-! one list of words for all contracts; nest mates' words; a method's standing facts; rows over any world -/
def wsA : List Cond := lw_tbl.filter goodWord
theorem wsA_in {w : Cond} (h : w ∈ wsA) : w ∈ lw_tbl := (List.mem_filter.mp h).1
theorem wsA_good {w : Cond} (h : w ∈ wsA) : goodWord w = true := (List.mem_filter.mp h).2
theorem wsA_mem (i : Nat) {w : Cond} (h : lw_tbl[i]? = some w) (hg : goodWord w = true) : w ∈ wsA := List.mem_filter.mpr ⟨List.mem_of_getElem? h, hg⟩
theorem goodIn_A {big ws : List Cond} (hb : ∀ w ∈ wsA, w ∈ big) (h : ∀ w ∈ ws, w ∈ wsA) : GoodIn big ws := fun w hw => ⟨hb w (h w hw), good_of_word (wsA_good (h w hw))⟩
def isNestW (w : Cond) : Bool := match w with
  | .fieldLinkNest _ _ _ _ _ _ => true
  | .methodLinkNest _ _ _ _ => true
  | _ => false
def wsN : List Cond := tables_1.filter isNestW
theorem wsN_mem (i : Nat) {w : Cond} (h : tables_1[i]? = some w) (hg : isNestW w = true) : w ∈ wsN := List.mem_filter.mpr ⟨List.mem_of_getElem? h, hg⟩
def NW (U : State) : Prop := ∀ w ∈ wsN, va_Nw w U
theorem NW.warm {s U : State} (hW : s.WarmedH U.vm) (h : NW s) : NW U := by
  intro w hw
  have h1 := h w hw
  have h2 : isNestW w = true := (List.mem_filter.mp hw).2
  cases w
  case fieldLinkNest => exact va_Nw.warmF hW h1
  case methodLinkNest => exact va_Nw.warmM hW h1
  all_goals exact absurd h2 (by simp [isNestW])
theorem NW.same {u U : State} (hv : u.vm = U.vm) (h : NW u) : NW U := by
  intro w hw
  have h1 := h w hw
  have h2 : isNestW w = true := (List.mem_filter.mp hw).2
  cases w
  case fieldLinkNest => exact va_Nw.same rfl hv h1
  case methodLinkNest => exact va_Nw.same rfl hv h1
  all_goals exact absurd h2 (by simp [isNestW])
def tysA (cy : Nat → ClassId) : List (ClassId × FieldType) := [(cy 0, .byte), (cy 1, .int), (cy 2, .long), (cy 3, .boolean), (cy 4, .object "PromiseCourt$Law")]
/-- what stands through a method's body -/
def xE (cc : ByteArray) (own : String) (nL : Nat) (ret : Option FieldType) (D : va_G) (cy : Nat → ClassId) (p : Program) (s : State) (m : MethodId) (args : Array Value) (meth : Method) (c : Code) : Prop :=
  p.tables.exec = Jvm.exec ∧ c.code = cc ∧ c.maxLocals = nL ∧ s.vm.findClass own = some m.cls ∧ (∀ w ∈ wsA, w.before args s = true) ∧ NW s ∧ va_K D vwCl (tysA cy) s ∧ meth.sig.returnType = ret ∧ meth.locks = false
/-- what the heap is at a point of it -/
def xH (D : va_G) (A : Nat → Prop) (s : State) (ws : va_W) (H : Heap) (locs : List Loc) : Prop :=
  va_P D vwCl ws H ∧ va_D A ws ∧ va_S A s.heap H locs ∧ ∀ q : Nat, s.heap.size ≤ q → A q
/-- a contract's start and end -/
def xPc (D : va_G) (cy : Nat → ClassId) (ws : va_W) (sz : Nat) (av : List Value) : Array Value → State → Prop :=
  va_Pc av (fun U => U.heap.size = sz ∧ NW U ∧ va_P D vwCl ws U.heap ∧ va_K D vwCl (tysA cy) U ∧ va_D (fun _ => True) ws)
def xB (D : va_G) (cy : Nat → ClassId) {S : Type} (WW : S → va_W) (A : Nat → Prop) (u : S) (t : State) : Prop :=
  va_P D vwCl (WW u) t.heap ∧ va_K D vwCl (tysA cy) t ∧ va_D A (WW u)
theorem xPc_blind {D : va_G} {cy : Nat → ClassId} {ws : va_W} {sz : Nat} {av : List Value} : FrameBlind (xPc D cy ws sz av) := by
  intro a U g mk q
  obtain ⟨q0, q1, qN, qP, qK, qD⟩ := q
  exact ⟨q0, q1, NW.same (u := U) (U := U.calling g mk a) rfl qN, qP, va_K.moved (u := U) (U := U.calling g mk a) (Vm.Alike.refl U.vm) qK, qD⟩
/-- a method by its words: an instance method of C that a call of n arguments selects -/
def xY (y : MethodName) (C : String) (bytes : ByteArray) (maxL : Nat) (ret : Option FieldType) (n : Nat) : Prop :=
  (Cond.instanceMethod y ∈ wsA ∧ Cond.selects C y y ∈ wsA ∧ Cond.initialized C ∈ wsA ∧ Cond.code y bytes maxL ret ∈ wsA) ∧ (y.cls = C ∧ y.cls ≠ "java/lang/invoke/MethodHandle" ∧ y.cls ≠ "java/lang/invoke/VarHandle" ∧ (parseMethodDescriptor y.desc).map (fun d => d.parameters.length) = some n)
/-- a static method by its words -/
def xT (y : MethodName) (C : String) (bytes : ByteArray) (maxL : Nat) (ret : Option FieldType) (n : Nat) : Prop :=
  (Cond.static y ∈ wsA ∧ Cond.initialized C ∈ wsA ∧ Cond.code y bytes maxL ret ∈ wsA) ∧ (y.cls = C ∧ y.cls ≠ "java/lang/invoke/MethodHandle" ∧ y.cls ≠ "java/lang/invoke/VarHandle" ∧ (parseMethodDescriptor y.desc).map (fun d => d.parameters.length) = some n)
section XRows
variable {p : Program} {l : Launch} {e : Env} {R : Room} {s : State} {m : MethodId} {args : Array Value} {below : List Frame} {meth : Method} {c : Code} {H : Heap} {locs : List Loc} {cells slots : Nat} {Q : State → Prop}
variable {cc : ByteArray} {own : String} {nL : Nat} {ret : Option FieldType} {D : va_G} {cy : Nat → ClassId} {A : Nat → Prop} {ws : va_W} {pc : Nat} {ls : Array Slot} {rest : List Value}
theorem x_get (E : xE cc own nL ret D cy p s m args meth c) (h : xH D A s ws H locs) {a ci idx N : Nat} {C : String} {T : u_T} {fs : List Value} {v : Value} (k pos : Nat) (hin : ∀ w ∈ u_ws C T N, w ∈ wsA) (hc : vwCl[ci]? = some (C, T, N)) (hk : k < N) (hlink : Cond.fieldLink own idx (T k).1 (T k).2.1 (T k).2.2.1 ∈ wsA) (he : ws[pos]? = some (a, .inr (ci, fs))) (hv : fs[k]? = some v) (hdg : decode cc pc = .ok (.getfield idx, 3))
    (kk : W p l e R s m args below meth c H locs cells slots Q (F0 m (pc + 3) ls (v :: rest))) : W p l e R s m args below meth c H locs cells slots Q (F0 m pc ls (.ref a :: rest)) :=
  va_get E.1 E.2.1 E.2.2.2.2.1 hin E.2.2.2.1 E.2.2.2.2.2.2.1 h.1 pos he hc k hk (E.2.2.2.2.1 _ hlink) (fun _ h9 => h9) hv hdg kk
theorem x_getN (E : xE cc own nL ret D cy p s m args meth c) (h : xH D A s ws H locs) {a ci idx N : Nat} {C host : String} {T : u_T} {fs : List Value} {v : Value} (k pos : Nat) (hin : ∀ w ∈ u_ws C T N, w ∈ wsA) (hc : vwCl[ci]? = some (C, T, N)) (hk : k < N) (hlink : Cond.fieldLinkNest own idx (T k).1 (T k).2.1 (T k).2.2.1 host ∈ wsN) (he : ws[pos]? = some (a, .inr (ci, fs))) (hv : fs[k]? = some v) (hdg : decode cc pc = .ok (.getfield idx, 3))
    (kk : W p l e R s m args below meth c H locs cells slots Q (F0 m (pc + 3) ls (v :: rest))) : W p l e R s m args below meth c H locs cells slots Q (F0 m pc ls (.ref a :: rest)) :=
  va_getN E.1 E.2.1 E.2.2.2.2.1 hin E.2.2.2.1 E.2.2.2.2.2.2.1 h.1 pos he hc k hk (va_Nw.use rfl (E.2.2.2.2.2.1 _ hlink)) (fun _ h9 => h9) hv hdg kk
theorem x_put (E : xE cc own nL ret D cy p s m args meth c) (h : xH D A s ws H locs) {a ci idx N : Nat} {C : String} {T : u_T} {fs : List Value} {x : Int32} {ws' : va_W} (k pos : Nat) (hin : ∀ w ∈ u_ws C T N, w ∈ wsA) (ty0 : Nat → FieldType) (hty : ∀ k, k < N → parseFieldDescriptor (T k).2.2.1 = some (ty0 k)) (hnm : ∀ a, a < N → ∀ b, b < N → a ≠ b → (T a).2.1 ≠ (T b).2.1) (hc : vwCl[ci]? = some (C, T, N)) (hk : k < N) (hlink : Cond.fieldLink own idx (T k).1 (T k).2.1 (T k).2.2.1 ∈ wsA) (hfin : (T k).2.2.2 = false) (hd : parseFieldDescriptor (T k).2.2.1 = some .int) (he : ws[pos]? = some (a, .inr (ci, fs))) (hl : k < fs.length) (hset : ws.set pos (a, .inr (ci, fs.set k (.int x))) = ws') (hdg : decode cc pc = .ok (.putfield idx, 3))
    (kk : ∀ (H : Heap) (locs : List Loc), xH D A s ws' H locs → W p l e R s m args below meth c H locs cells slots Q (F0 m (pc + 3) ls rest)) : W p l e R s m args below meth c H locs cells slots Q (F0 m pc ls (.int x :: .ref a :: rest)) := by
  subst hset
  exact va_put E.1 E.2.1 E.2.2.2.2.1 hin ty0 hty hnm E.2.2.2.1 E.2.2.2.2.2.2.1 h.1 h.2.1 h.2.2.1 pos he hc k hk (E.2.2.2.2.1 _ hlink) (fun _ h9 => h9) hfin hd rfl rfl hl hdg (fun H1 locs1 h1 h2 h3 => kk H1 locs1 ⟨h1, h2, h3, h.2.2.2⟩)
theorem x_putN (E : xE cc own nL ret D cy p s m args meth c) (h : xH D A s ws H locs) {a ci idx N : Nat} {C host : String} {T : u_T} {fs : List Value} {x : Int32} {ws' : va_W} (k pos : Nat) (hin : ∀ w ∈ u_ws C T N, w ∈ wsA) (ty0 : Nat → FieldType) (hty : ∀ k, k < N → parseFieldDescriptor (T k).2.2.1 = some (ty0 k)) (hnm : ∀ a, a < N → ∀ b, b < N → a ≠ b → (T a).2.1 ≠ (T b).2.1) (hc : vwCl[ci]? = some (C, T, N)) (hk : k < N) (hlink : Cond.fieldLinkNest own idx (T k).1 (T k).2.1 (T k).2.2.1 host ∈ wsN) (hfin : (T k).2.2.2 = false) (hd : parseFieldDescriptor (T k).2.2.1 = some .int) (he : ws[pos]? = some (a, .inr (ci, fs))) (hl : k < fs.length) (hset : ws.set pos (a, .inr (ci, fs.set k (.int x))) = ws') (hdg : decode cc pc = .ok (.putfield idx, 3))
    (kk : ∀ (H : Heap) (locs : List Loc), xH D A s ws' H locs → W p l e R s m args below meth c H locs cells slots Q (F0 m (pc + 3) ls rest)) : W p l e R s m args below meth c H locs cells slots Q (F0 m pc ls (.int x :: .ref a :: rest)) := by
  subst hset
  exact va_putN E.1 E.2.1 E.2.2.2.2.1 hin ty0 hty hnm E.2.2.2.1 E.2.2.2.2.2.2.1 h.1 h.2.1 h.2.2.1 pos he hc k hk (va_Nw.use rfl (E.2.2.2.2.2.1 _ hlink)) (fun _ h9 => h9) hfin hd rfl rfl hl hdg (fun H1 locs1 h1 h2 h3 => kk H1 locs1 ⟨h1, h2, h3, h.2.2.2⟩)
theorem x_iald (E : xE cc own nL ret D cy p s m args meth c) (h : xH D A s ws H locs) {a n : Nat} {f : Nat → Int32} {i : Int32} (pos : Nat) (he : ws[pos]? = some (a, .inl (cy 1, n, .inl f))) (hi : vp_in i n) (hdg : decode cc pc = .ok (.iaload, 1))
    (kk : W p l e R s m args below meth c H locs cells slots Q (F0 m (pc + 1) ls (.int (f i.toNatClampNeg) :: rest))) : W p l e R s m args below meth c H locs cells slots Q (F0 m pc ls (.int i :: .ref a :: rest)) :=
  va_iald E.1 E.2.1 E.2.2.2.2.2.2.1 h.1 pos 1 he rfl hi hdg kk
theorem x_bald (E : xE cc own nL ret D cy p s m args meth c) (h : xH D A s ws H locs) {a n : Nat} {f : Nat → Int32} {i : Int32} (pos : Nat) (he : ws[pos]? = some (a, .inl (cy 0, n, .inl f))) (hi : vp_in i n) (hdg : decode cc pc = .ok (.baload, 1))
    (kk : W p l e R s m args below meth c H locs cells slots Q (F0 m (pc + 1) ls (.int (f i.toNatClampNeg) :: rest))) : W p l e R s m args below meth c H locs cells slots Q (F0 m pc ls (.int i :: .ref a :: rest)) :=
  va_bald E.1 E.2.1 E.2.2.2.2.2.2.1 h.1 pos 0 he rfl hi hdg kk
theorem x_zald (E : xE cc own nL ret D cy p s m args meth c) (h : xH D A s ws H locs) {a n : Nat} {f : Nat → Int32} {i : Int32} (pos : Nat) (he : ws[pos]? = some (a, .inl (cy 3, n, .inl f))) (hi : vp_in i n) (hdg : decode cc pc = .ok (.baload, 1))
    (kk : W p l e R s m args below meth c H locs cells slots Q (F0 m (pc + 1) ls (.int (f i.toNatClampNeg) :: rest))) : W p l e R s m args below meth c H locs cells slots Q (F0 m pc ls (.int i :: .ref a :: rest)) :=
  va_zald E.1 E.2.1 E.2.2.2.2.2.2.1 h.1 pos 3 he rfl hi hdg kk
theorem x_lald (E : xE cc own nL ret D cy p s m args meth c) (h : xH D A s ws H locs) {a n : Nat} {f : Nat → Int64} {i : Int32} (pos : Nat) (he : ws[pos]? = some (a, .inl (cy 2, n, .inr (.inl f)))) (hi : vp_in i n) (hdg : decode cc pc = .ok (.laload, 1))
    (kk : W p l e R s m args below meth c H locs cells slots Q (F0 m (pc + 1) ls (.long (f i.toNatClampNeg) :: rest))) : W p l e R s m args below meth c H locs cells slots Q (F0 m pc ls (.int i :: .ref a :: rest)) :=
  va_lald E.1 E.2.1 E.2.2.2.2.2.2.1 h.1 pos 2 he rfl hi hdg kk
theorem x_iast (E : xE cc own nL ret D cy p s m args meth c) (h : xH D A s ws H locs) {a n : Nat} {f : Nat → Int32} {i x : Int32} {ws' : va_W} (pos : Nat) (he : ws[pos]? = some (a, .inl (cy 1, n, .inl f))) (hset : ws.set pos (a, .inl (cy 1, n, .inl (upd f i.toNatClampNeg x))) = ws') (hi : vp_in i n) (hdg : decode cc pc = .ok (.iastore, 1))
    (kk : ∀ (H : Heap) (locs : List Loc), xH D A s ws' H locs → W p l e R s m args below meth c H locs cells slots Q (F0 m (pc + 1) ls rest)) : W p l e R s m args below meth c H locs cells slots Q (F0 m pc ls (.int x :: .int i :: .ref a :: rest)) := by
  subst hset
  exact va_iast E.1 E.2.1 E.2.2.2.2.2.2.1 h.1 h.2.1 h.2.2.1 pos 1 he rfl hi hdg (fun H1 locs1 h1 h2 h3 => kk H1 locs1 ⟨h1, h2, h3, h.2.2.2⟩)
theorem x_bast (E : xE cc own nL ret D cy p s m args meth c) (h : xH D A s ws H locs) {a n : Nat} {f : Nat → Int32} {i x : Int32} {ws' : va_W} (pos : Nat) (he : ws[pos]? = some (a, .inl (cy 0, n, .inl f))) (hset : ws.set pos (a, .inl (cy 0, n, .inl (upd f i.toNatClampNeg (vp_nar .byte x)))) = ws') (hi : vp_in i n) (hdg : decode cc pc = .ok (.bastore, 1))
    (kk : ∀ (H : Heap) (locs : List Loc), xH D A s ws' H locs → W p l e R s m args below meth c H locs cells slots Q (F0 m (pc + 1) ls rest)) : W p l e R s m args below meth c H locs cells slots Q (F0 m pc ls (.int x :: .int i :: .ref a :: rest)) := by
  subst hset
  exact va_bast E.1 E.2.1 E.2.2.2.2.2.2.1 h.1 h.2.1 h.2.2.1 pos 0 he rfl hi hdg (fun H1 locs1 h1 h2 h3 => kk H1 locs1 ⟨h1, h2, h3, h.2.2.2⟩)
theorem x_zast (E : xE cc own nL ret D cy p s m args meth c) (h : xH D A s ws H locs) {a n : Nat} {f : Nat → Int32} {i x : Int32} {ws' : va_W} (pos : Nat) (he : ws[pos]? = some (a, .inl (cy 3, n, .inl f))) (hset : ws.set pos (a, .inl (cy 3, n, .inl (upd f i.toNatClampNeg (vp_nar .boolean x)))) = ws') (hi : vp_in i n) (hdg : decode cc pc = .ok (.bastore, 1))
    (kk : ∀ (H : Heap) (locs : List Loc), xH D A s ws' H locs → W p l e R s m args below meth c H locs cells slots Q (F0 m (pc + 1) ls rest)) : W p l e R s m args below meth c H locs cells slots Q (F0 m pc ls (.int x :: .int i :: .ref a :: rest)) := by
  subst hset
  exact va_zast E.1 E.2.1 E.2.2.2.2.2.2.1 h.1 h.2.1 h.2.2.1 pos 3 he rfl hi hdg (fun H1 locs1 h1 h2 h3 => kk H1 locs1 ⟨h1, h2, h3, h.2.2.2⟩)
theorem x_last (E : xE cc own nL ret D cy p s m args meth c) (h : xH D A s ws H locs) {a n : Nat} {f : Nat → Int64} {i : Int32} {x : Int64} {ws' : va_W} (pos : Nat) (he : ws[pos]? = some (a, .inl (cy 2, n, .inr (.inl f)))) (hset : ws.set pos (a, .inl (cy 2, n, .inr (.inl (vp_updL f i.toNatClampNeg x)))) = ws') (hi : vp_in i n) (hdg : decode cc pc = .ok (.lastore, 1))
    (kk : ∀ (H : Heap) (locs : List Loc), xH D A s ws' H locs → W p l e R s m args below meth c H locs cells slots Q (F0 m (pc + 1) ls rest)) : W p l e R s m args below meth c H locs cells slots Q (F0 m pc ls (.long x :: .int i :: .ref a :: rest)) := by
  subst hset
  exact va_last E.1 E.2.1 E.2.2.2.2.2.2.1 h.1 h.2.1 h.2.2.1 pos 2 he rfl hi hdg (fun H1 locs1 h1 h2 h3 => kk H1 locs1 ⟨h1, h2, h3, h.2.2.2⟩)
theorem x_alen (E : xE cc own nL ret D cy p s m args meth c) (h : xH D A s ws H locs) {a n : Nat} {f : Nat → Int32} {v : Int32} (pos : Nat) (he : ws[pos]? = some (a, .inl (cy 1, n, .inl f))) (hv : Int32.ofNat n = v) (hdg : decode cc pc = .ok (.arraylength, 1))
    (kk : W p l e R s m args below meth c H locs cells slots Q (F0 m (pc + 1) ls (.int v :: rest))) : W p l e R s m args below meth c H locs cells slots Q (F0 m pc ls (.ref a :: rest)) :=
  va_alen E.1 E.2.1 E.2.2.2.2.2.2.1 h.1 pos 1 he (ty := .int) rfl hv hdg kk
theorem x_alenB (E : xE cc own nL ret D cy p s m args meth c) (h : xH D A s ws H locs) {a n : Nat} {f : Nat → Int32} {v : Int32} (pos : Nat) (he : ws[pos]? = some (a, .inl (cy 0, n, .inl f))) (hv : Int32.ofNat n = v) (hdg : decode cc pc = .ok (.arraylength, 1))
    (kk : W p l e R s m args below meth c H locs cells slots Q (F0 m (pc + 1) ls (.int v :: rest))) : W p l e R s m args below meth c H locs cells slots Q (F0 m pc ls (.ref a :: rest)) :=
  va_alen E.1 E.2.1 E.2.2.2.2.2.2.1 h.1 pos 0 he (ty := .byte) rfl hv hdg kk
theorem x_min (E : xE cc own ls.size ret D cy p s m args meth c) {idx : Nat} (hlink : Cond.methodLink own idx Lib.Math.min.name ∈ wsA) (h1 : Cond.static Lib.Math.min.name ∈ wsA) (h2 : Cond.initialized "java/lang/Math" ∈ wsA) (h3 : Cond.code Lib.Math.min.name Lib.Math.min.code 2 (some .int) ∈ wsA) (hfr : 1 ≤ R.frames) (hlo : (rest.map fun v => v.category).sum + 13 ≤ R.locals) (hc : cells ≤ R.cells) (hs : slots ≤ R.slots) {x y : Int32} (hdg : decode cc pc = .ok (.invokestatic idx, 3))
    (kk : W p l e R s m args below meth c H locs cells slots Q (F0 m (pc + 3) ls (.int (if y < x then y else x) :: rest))) : W p l e R s m args below meth c H locs cells slots Q (F0 m pc ls (.int y :: .int x :: rest)) :=
  va_mmin E.1 E.2.1 E.2.2.1 E.2.2.2.1 (E.2.2.2.2.1 _ hlink) (E.2.2.2.2.1 _ h1) (E.2.2.2.2.1 _ h2) (E.2.2.2.2.1 _ h3) hfr hlo hc hs hdg kk
theorem x_max (E : xE cc own ls.size ret D cy p s m args meth c) {idx : Nat} (hlink : Cond.methodLink own idx Lib.Math.max.name ∈ wsA) (h1 : Cond.static Lib.Math.max.name ∈ wsA) (h2 : Cond.initialized "java/lang/Math" ∈ wsA) (h3 : Cond.code Lib.Math.max.name Lib.Math.max.code 2 (some .int) ∈ wsA) (hfr : 1 ≤ R.frames) (hlo : (rest.map fun v => v.category).sum + 13 ≤ R.locals) (hc : cells ≤ R.cells) (hs : slots ≤ R.slots) {x y : Int32} (hdg : decode cc pc = .ok (.invokestatic idx, 3))
    (kk : W p l e R s m args below meth c H locs cells slots Q (F0 m (pc + 3) ls (.int (if x < y then y else x) :: rest))) : W p l e R s m args below meth c H locs cells slots Q (F0 m pc ls (.int y :: .int x :: rest)) :=
  va_mmax E.1 E.2.1 E.2.2.1 E.2.2.2.1 (E.2.2.2.2.1 _ hlink) (E.2.2.2.2.1 _ h1) (E.2.2.2.2.1 _ h2) (E.2.2.2.2.1 _ h3) hfr hlo hc hs hdg kk
end XRows
section XCalls
variable {p : Program} {l : Launch} {e : Env} {R : Room} {s : State} {m : MethodId} {args : Array Value} {below : List Frame} {meth : Method} {c : Code} {H : Heap} {locs : List Loc} {cells slots : Nat} {Q : State → Prop}
variable {cc : ByteArray} {own : String} {nL : Nat} {ret0 : Option FieldType} {D : va_G} {cy : Nat → ClassId} {A : Nat → Prop} {pc : Nat} {ls : Array Slot} {rest st : List Value}
variable {S : Type} {WW : S → va_W} {σ : S} {C : String} {y : MethodName} {bytes : ByteArray} {maxL idx b ci : Nat} {ret : Option FieldType} {rm : Room} {Qc : Array Value → State → Outcome → State → Prop} {As : List Value} {free : Nat → Prop} {T : u_T} {N : Nat} {fs : List Value} {host : String}
theorem xH.sub (h : xH D A s (WW σ) H locs) : ∀ q, va_A (WW σ) H.size q → A q := by
  intro q hq
  rcases hq with ⟨k, e0, hk⟩ | hq
  · exact h.2.1.2 k _ hk
  · exact h.2.2.2 q (Nat.le_trans h.2.2.1.1 hq)
theorem xH.after {t : State} {σ' : S} {H1 : Heap} {locs1 : List Loc} (h : xH D A s (WW σ) H locs) (ht : t.heap = H1) (hB : xB D cy WW (va_A (WW σ) H.size) σ' t) (hS : va_S A s.heap H1 locs1) : xH D A s (WW σ') H1 locs1 :=
  ⟨by rw [← ht]; exact hB.1, hB.2.2.weaken (fun _ _ _ hq => h.sub _ hq), hS, h.2.2.2⟩
theorem x_pre (E : xE cc own nL ret0 D cy p s m args meth c) (h : xH D A s (WW σ) H locs) {av : List Value} : ∀ U : State, U.heap = H → s.WarmedH U.vm → xPc D cy (WW σ) H.size av av.toArray U :=
  fun U hU hW => ⟨rfl, by rw [hU], NW.warm hW E.2.2.2.2.2.1, by rw [hU]; exact h.1, va_K.moved hW.alike E.2.2.2.2.2.2.1, h.2.1.weaken (fun _ _ _ _ => trivial)⟩
theorem x_runV (E : xE cc own nL ret0 D cy p s m args meth c) (h : xH D A s (WW σ) H locs) (hM : Met l y (Cond.code y bytes maxL ret :: wsA) rm (xPc D cy (WW σ) H.size (.ref b :: As)) Qc 0 0 free) (hY : xY y C bytes maxL ret As.length) (hl : Cond.methodLink own idx y ∈ wsA) (pos : Nat) (he : (WW σ)[pos]? = some (b, .inr (ci, fs))) (hc : vwCl[ci]? = some (C, T, N)) (hR : rm.frames + 1 ≤ R.frames ∧ 8 + (maxL + 11) + rm.locals ≤ R.locals) (hrc : rm.cells = 0) (hrs : rm.slots = 0) (hsz : ls.size = nL) (hst : st = As.reverse ++ .ref b :: rest) (hrest : (rest.map fun v => v.category).sum ≤ 8) (hdg : decode cc pc = .ok (.invokevirtual idx, 3)) (hf : cells ≤ R.cells ∧ slots ≤ R.slots) :
    va_Run p l e R s m args below meth c H locs cells slots 0 0 (F0 m pc ls st) rest (Qc (Value.ref b :: As).toArray) free := by
  refine va_runV (Ts := wsA) (C := C) (index := idx) ⟨E.1, E.2.1, E.2.2.1, E.2.2.2.1, E.2.2.2.2.1⟩ hM (cwV As.length E.2.2.2.2.1 (goodIn_A (fun _ h => h) ?_) rfl hrc hrs hY.2 hR) ⟨xPc_blind, va_recv E.2.2.2.2.2.2.1 h.1 hc he, x_pre E h⟩ rfl rfl hsz hst (lv_room hrest) hdg hf
  intro w hw
  rcases List.mem_append.mp hw with hw | hw
  · simp only [List.mem_cons, List.not_mem_nil, or_false] at hw
    rcases hw with rfl | rfl | rfl | rfl
    · exact hl
    · exact hY.1.1
    · exact hY.1.2.1
    · exact hY.1.2.2.1
  · rcases List.mem_cons.mp hw with rfl | hw
    · exact hY.1.2.2.2
    · exact hw
theorem x_runVN (E : xE cc own nL ret0 D cy p s m args meth c) (h : xH D A s (WW σ) H locs) (hM : Met l y (Cond.code y bytes maxL ret :: wsA) rm (xPc D cy (WW σ) H.size (.ref b :: As)) Qc 0 0 free) (hY : xY y C bytes maxL ret As.length) (hl : Cond.methodLinkNest own idx y host ∈ wsN) (pos : Nat) (he : (WW σ)[pos]? = some (b, .inr (ci, fs))) (hc : vwCl[ci]? = some (C, T, N)) (hR : rm.frames + 1 ≤ R.frames ∧ 8 + (maxL + 11) + rm.locals ≤ R.locals) (hrc : rm.cells = 0) (hrs : rm.slots = 0) (hsz : ls.size = nL) (hst : st = As.reverse ++ .ref b :: rest) (hrest : (rest.map fun v => v.category).sum ≤ 8) (hdg : decode cc pc = .ok (.invokevirtual idx, 3)) (hf : cells ≤ R.cells ∧ slots ≤ R.slots) :
    va_Run p l e R s m args below meth c H locs cells slots 0 0 (F0 m pc ls st) rest (Qc (Value.ref b :: As).toArray) free := by
  refine va_runVN (Ts := wsA) (C := C) (host := host) (index := idx) ⟨E.1, E.2.1, E.2.2.1, E.2.2.2.1, E.2.2.2.2.1⟩ hM ⟨va_cnB As.length E.2.2.2.2.1 (goodIn_A (fun _ h => h) ?_) rfl hrc hrs (E.2.2.2.2.2.1 _ hl) (by rw [hY.2.1]; exact E.2.2.2.2.1 _ hY.1.2.2.1) hY.2.2 hR, E.2.2.2.2.1 _ hY.1.1, E.2.2.2.2.1 _ hY.1.2.1⟩ ⟨xPc_blind, va_recv E.2.2.2.2.2.2.1 h.1 hc he, x_pre E h⟩ rfl rfl hsz hst (lv_room hrest) hdg hf
  intro w hw
  rcases List.mem_cons.mp hw with rfl | hw
  · exact hY.1.2.2.2
  · exact hw
theorem x_runS (E : xE cc own nL ret0 D cy p s m args meth c) (h : xH D A s (WW σ) H locs) (hM : Met l y (Cond.code y bytes maxL ret :: wsA) rm (xPc D cy (WW σ) H.size As) Qc 0 0 free) (hY : xT y own bytes maxL ret As.length) (hl : Cond.methodLink own idx y ∈ wsA) (hR : rm.frames + 1 ≤ R.frames ∧ 8 + (maxL + 11) + rm.locals ≤ R.locals) (hrc : rm.cells = 0) (hrs : rm.slots = 0) (hsz : ls.size = nL) (hst : st = As.reverse ++ rest) (hrest : (rest.map fun v => v.category).sum ≤ 8) (hdg : decode cc pc = .ok (.invokestatic idx, 3)) (hf : cells ≤ R.cells ∧ slots ≤ R.slots) :
    va_Run p l e R s m args below meth c H locs cells slots 0 0 (F0 m pc ls st) rest (Qc As.toArray) free := by
  refine va_runS (Ts := wsA) (index := idx) ⟨E.1, E.2.1, E.2.2.1, E.2.2.2.1, E.2.2.2.2.1⟩ hM (cwS As.length E.2.2.2.2.1 (goodIn_A (fun _ h => h) ?_) rfl hrc hrs hY.2 hR) ⟨xPc_blind, x_pre E h⟩ rfl rfl hsz hst (lv_room hrest) hdg hf
  intro w hw
  rcases List.mem_append.mp hw with hw | hw
  · simp only [List.mem_cons, List.not_mem_nil, or_false] at hw
    rcases hw with rfl | rfl | rfl
    · exact hl
    · exact hY.1.1
    · exact hY.1.2.1
  · rcases List.mem_cons.mp hw with rfl | hw
    · exact hY.1.2.2
    · exact hw
theorem x_runSN (E : xE cc own nL ret0 D cy p s m args meth c) (h : xH D A s (WW σ) H locs) (hM : Met l y (Cond.code y bytes maxL ret :: wsA) rm (xPc D cy (WW σ) H.size As) Qc 0 0 free) (hY : xT y C bytes maxL ret As.length) (hl : Cond.methodLinkNest own idx y host ∈ wsN) (hR : rm.frames + 1 ≤ R.frames ∧ 8 + (maxL + 11) + rm.locals ≤ R.locals) (hrc : rm.cells = 0) (hrs : rm.slots = 0) (hsz : ls.size = nL) (hst : st = As.reverse ++ rest) (hrest : (rest.map fun v => v.category).sum ≤ 8) (hdg : decode cc pc = .ok (.invokestatic idx, 3)) (hf : cells ≤ R.cells ∧ slots ≤ R.slots) :
    va_Run p l e R s m args below meth c H locs cells slots 0 0 (F0 m pc ls st) rest (Qc As.toArray) free := by
  refine va_runSN (Ts := wsA) (host := host) (index := idx) ⟨E.1, E.2.1, E.2.2.1, E.2.2.2.1, E.2.2.2.2.1⟩ hM ⟨va_cnB As.length E.2.2.2.2.1 (goodIn_A (fun _ h => h) ?_) rfl hrc hrs (E.2.2.2.2.2.1 _ hl) (by rw [hY.2.1]; exact E.2.2.2.2.1 _ hY.1.2.1) hY.2.2 hR, E.2.2.2.2.1 _ hY.1.1, trivial⟩ ⟨xPc_blind, x_pre E h⟩ rfl rfl hsz hst (lv_room hrest) hdg hf
  intro w hw
  rcases List.mem_cons.mp hw with rfl | hw
  · exact hY.1.2.2
  · exact hw
theorem x_calli {a : Array Value} {Post : Int32 → S → Prop} (h : xH D A s (WW σ) H locs) (hr : va_Run p l e R s m args below meth c H locs cells slots 0 0 (F0 m pc ls st) rest (va_Qi Post (xB D cy WW (va_A (WW σ) H.size)) (va_A (WW σ) H.size) a) (va_A (WW σ) H.size))
    (kk : ∀ (r : Int32) (σ : S) (H : Heap) (locs : List Loc), Post r σ → xH D A s (WW σ) H locs → W p l e R s m args below meth c H locs cells slots Q (F0 m (pc + 3) ls (.int r :: rest))) : W p l e R s m args below meth c H locs cells slots Q (F0 m pc ls st) :=
  va_calli hr h.2.2.1 (fun q _ hq => h.sub q hq) h.sub (fun r u t H1 locs1 ht hvm hw hB hz1 hk1 hS => kk r u H1 locs1 hw (h.after ht hB hS))
theorem x_calll {a : Array Value} {Post : Int64 → S → Prop} (h : xH D A s (WW σ) H locs) (hr : va_Run p l e R s m args below meth c H locs cells slots 0 0 (F0 m pc ls st) rest (va_Ql Post (xB D cy WW (va_A (WW σ) H.size)) (va_A (WW σ) H.size) a) (va_A (WW σ) H.size))
    (kk : ∀ (r : Int64) (σ : S) (H : Heap) (locs : List Loc), Post r σ → xH D A s (WW σ) H locs → W p l e R s m args below meth c H locs cells slots Q (F0 m (pc + 3) ls (.long r :: rest))) : W p l e R s m args below meth c H locs cells slots Q (F0 m pc ls st) :=
  va_calll hr h.2.2.1 (fun q _ hq => h.sub q hq) h.sub (fun r u t H1 locs1 ht hvm hw hB hz1 hk1 hS => kk r u H1 locs1 hw (h.after ht hB hS))
theorem x_callv {a : Array Value} {Post : S → Prop} (h : xH D A s (WW σ) H locs) (hr : va_Run p l e R s m args below meth c H locs cells slots 0 0 (F0 m pc ls st) rest (va_Qv Post (xB D cy WW (va_A (WW σ) H.size)) (va_A (WW σ) H.size) a) (va_A (WW σ) H.size))
    (kk : ∀ (σ : S) (H : Heap) (locs : List Loc), Post σ → xH D A s (WW σ) H locs → W p l e R s m args below meth c H locs cells slots Q (F0 m (pc + 3) ls rest)) : W p l e R s m args below meth c H locs cells slots Q (F0 m pc ls st) :=
  va_callv hr h.2.2.1 (fun q _ hq => h.sub q hq) h.sub (fun u t H1 locs1 ht hvm hw hB hz1 hk1 hS => kk u H1 locs1 hw (h.after ht hB hS))
/-- returns -/
theorem x_iret {Post : Int32 → S → Prop} {v : Int32} (E : xE cc own nL (some .int) D cy p s m args meth c) (h : xH D A s (WW σ) H locs) (hw : Post v σ) (hdg : decode cc pc = .ok (.ireturn, 1)) :
    W p l e R s m args below meth c H locs 0 0 (MQ below (va_Qi Post (xB D cy WW A) A) args s 0 0 A) (F0 m pc ls [.int v]) :=
  W.iret E.1 E.2.1 E.2.2.2.2.2.2.2.1 (fun t ht hW => ⟨⟨v, σ, rfl, hw, by rw [ht]; exact h.1, va_K.moved hW.alike E.2.2.2.2.2.2.1, h.2.1⟩, h.2.2.1.F ht⟩) h.2.2.1.2.2 hdg (hlocks := E.2.2.2.2.2.2.2.2)
theorem x_zret {Post : Int32 → S → Prop} {v : Int32} (E : xE cc own nL (some .boolean) D cy p s m args meth c) (h : xH D A s (WW σ) H locs) (hn : narrow .boolean (.int v) = .int v) (hw : Post v σ) (hdg : decode cc pc = .ok (.ireturn, 1)) :
    W p l e R s m args below meth c H locs 0 0 (MQ below (va_Qi Post (xB D cy WW A) A) args s 0 0 A) (F0 m pc ls [.int v]) :=
  W.zret E.1 E.2.1 E.2.2.2.2.2.2.2.1 hn (fun t ht hW => ⟨⟨v, σ, rfl, hw, by rw [ht]; exact h.1, va_K.moved hW.alike E.2.2.2.2.2.2.1, h.2.1⟩, h.2.2.1.F ht⟩) h.2.2.1.2.2 hdg (hlocks := E.2.2.2.2.2.2.2.2)
theorem x_lret {Post : Int64 → S → Prop} {v : Int64} (E : xE cc own nL (some .long) D cy p s m args meth c) (h : xH D A s (WW σ) H locs) (hw : Post v σ) (hdg : decode cc pc = .ok (.lreturn, 1)) :
    W p l e R s m args below meth c H locs 0 0 (MQ below (va_Ql Post (xB D cy WW A) A) args s 0 0 A) (F0 m pc ls [.long v]) :=
  W.lret E.1 E.2.1 E.2.2.2.2.2.2.2.1 (fun t ht hW => ⟨⟨v, σ, rfl, hw, by rw [ht]; exact h.1, va_K.moved hW.alike E.2.2.2.2.2.2.1, h.2.1⟩, h.2.2.1.F ht⟩) h.2.2.1.2.2 hdg (hlocks := E.2.2.2.2.2.2.2.2)
theorem x_vret {Post : S → Prop} (E : xE cc own nL none D cy p s m args meth c) (h : xH D A s (WW σ) H locs) (hw : Post σ) (hdg : decode cc pc = .ok (.return_, 1)) :
    W p l e R s m args below meth c H locs 0 0 (MQ below (va_Qv Post (xB D cy WW A) A) args s 0 0 A) (F0 m pc ls []) :=
  W.vret E.1 E.2.1 E.2.2.2.2.2.2.2.1 (fun t ht hW => ⟨⟨σ, rfl, hw, by rw [ht]; exact h.1, va_K.moved hW.alike E.2.2.2.2.2.2.1, h.2.1⟩, h.2.2.1.F ht⟩) h.2.2.1.2.2 hdg (hlocks := E.2.2.2.2.2.2.2.2)
/-- entry -/
theorem x_enter {av : List Value} {sz : Nat} (hy : plainName y.cls = true) (ho : y.cls = own) (hn : (lg_sl av).length ≤ maxL)
    (body : ∀ (p : Program) (e : Env) (s : State) (m : MethodId) (below : List Frame) (meth : Method) (c : Code) (ls : Array Slot), xE bytes own maxL ret D cy p s m av.toArray meth c → xH D (va_A (WW σ) sz) s (WW σ) s.heap [] → lv_has ls maxL (lv_args 0 av) → W p l e rm s m av.toArray below meth c s.heap [] 0 0 (MQ below Qc av.toArray s 0 0 (va_A (WW σ) sz)) (F0 m 0 ls [])) :
    Met l y (Cond.code y bytes maxL ret :: wsA) rm (xPc D cy (WW σ) sz av) Qc 0 0 (va_A (WW σ) sz) := by
  refine Met.ofW (cc := bytes) (maxL := maxL) (ret := ret) hy rfl ?_
  intro p e s m args below meth c s₁ B hml hv
  obtain ⟨rfl, hsz, hN, hP, hK, hD0⟩ := hv
  have hts := atoms_spec (ws := Cond.code y bytes maxL ret :: wsA) B.pre
  have hown : s.vm.findClass own = some m.cls := ho ▸ findClass_of_methodNamed B.named
  subst hsz
  rw [lg_entry_eq]
  exact body p e s m below meth c _ ⟨B.exec, B.bytes, hml, hown, fun w h => hts w (List.mem_cons_of_mem _ h), hN, hK, B.returns, B.notSynchronized⟩ ⟨hP, hD0.self, va_S.rf, fun q h => Or.inr h⟩ (lv_entry av hn)
end XCalls
