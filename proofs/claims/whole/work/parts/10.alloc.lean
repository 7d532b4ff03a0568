/-! making cells: arrays and objects; constructors over any world in which the object that is made stands at place i -/
theorem lk_set {α : Type} {l : List α} {i : Nat} {x y : α} (h : l[i]? = some x) : (l.set i y)[i]? = some y := by
  have hlt : i < l.length := (List.getElem?_eq_some_iff.mp h).1
  rw [List.getElem?_set_self hlt]
theorem lk_app {α : Type} {l r : List α} {i : Nat} {x : α} (h : l[i]? = some x) : (l ++ r)[i]? = some x := by
  have hlt : i < l.length := (List.getElem?_eq_some_iff.mp h).1
  rw [List.getElem?_append_left hlt]
  exact h
theorem lk_add {α : Type} (l r : List α) (j : Nat) : (l ++ r)[l.length + j]? = r[j]? := by
  rw [List.getElem?_append_right (by omega), show l.length + j - l.length = j by omega]
theorem st_app {α : Type} {l r : List α} {i : Nat} {x y : α} (h : l[i]? = some x) : (l ++ r).set i y = l.set i y ++ r := by
  have hlt : i < l.length := (List.getElem?_eq_some_iff.mp h).1
  rw [List.set_append, if_pos hlt]
theorem st_add {α : Type} (l r : List α) (j : Nat) (y : α) : (l ++ r).set (l.length + j) y = l ++ r.set j y := by
  rw [List.set_append, if_neg (by omega), show l.length + j - l.length = j by omega]
theorem st_put {α : Type} {l r : List α} {i : Nat} {x a b : α} (h : l[i]? = some x) : (l.set i a ++ r).set i b = l.set i b ++ r := by
  rw [st_app (lk_set h), List.set_set]
theorem st_self {α : Type} {l : List α} {i : Nat} {x : α} (h : l[i]? = some x) : l.set i x ++ [] = l := by
  rw [List.append_nil]
  apply List.ext_getElem?
  intro k
  by_cases hk : k = i
  · subst hk
    rw [lk_set h, h]
  · rw [List.getElem?_set_ne (Ne.symm hk)]
def kE (cc : ByteArray) (own : String) (nL : Nat) (D : va_G) (cy : Nat → ClassId) (p : Program) (s : State) (m : MethodId) (args : Array Value) (meth : Method) (c : Code) : Prop :=
  xE cc own nL none D cy p s m args meth c ∧ meth.name = "<init>" ∧ va_AO "PromiseCourt$Law" s
def kPc (D : va_G) (cy : Nat → ClassId) (ws : va_W) (sz : Nat) (av : List Value) : Array Value → State → Prop :=
  va_Pc av (fun U => U.heap.size = sz ∧ NW U ∧ va_P D vwCl ws U.heap ∧ va_K D vwCl (tysA cy) U ∧ va_D (fun _ => True) ws ∧ va_AO "PromiseCourt$Law" U)
theorem kPc_blind {D : va_G} {cy : Nat → ClassId} {ws : va_W} {sz : Nat} {av : List Value} : FrameBlind (kPc D cy ws sz av) := by
  intro a U g mk q
  obtain ⟨q0, q1, qN, qP, qK, qD, qA⟩ := q
  exact ⟨q0, q1, NW.same (u := U) (U := U.calling g mk a) rfl qN, qP, va_K.moved (u := U) (U := U.calling g mk a) (Vm.Alike.refl U.vm) qK, qD, va_AO.moved (u := U) (U := U.calling g mk a) (Vm.Alike.refl U.vm) qA⟩
theorem xH.subW {D : va_G} {A : Nat → Prop} {s : State} {ws : va_W} {H : Heap} {locs : List Loc} (h : xH D A s ws H locs) : ∀ q, va_A ws H.size q → A q :=
  xH.sub (S := Unit) (WW := fun _ => ws) (σ := ()) h
section KRows
variable {p : Program} {l : Launch} {e : Env} {R : Room} {s : State} {m : MethodId} {args : Array Value} {below : List Frame} {meth : Method} {c : Code} {H : Heap} {locs : List Loc} {cells slots : Nat} {Q : State → Prop}
variable {cc : ByteArray} {own : String} {nL : Nat} {ret : Option FieldType} {D : va_G} {cy : Nat → ClassId} {A : Nat → Prop} {ws : va_W} {pc : Nat} {ls : Array Slot} {rest st : List Value}
theorem x_newI (E : xE cc own nL ret D cy p s m args meth c) (h : xH D A s ws H locs) {n : Int32} {N : Nat} (hn : ¬ n < 0) (hN : n.toNatClampNeg = N) (hby : N * 4 ≤ 536870912) (hcells : cells + 1 ≤ R.cells) (hslots : slots + N ≤ R.slots) (hdg : decode cc pc = .ok (.newarray .int, 2))
    (kk : ∀ (a : Nat) (H : Heap), xH D A s (ws ++ [(a, .inl (cy 1, N, .inl (fun _ => 0)))]) H locs → W p l e R s m args below meth c H locs (cells + 1) (slots + N) Q (F0 m (pc + 2) ls (.ref a :: rest))) : W p l e R s m args below meth c H locs cells slots Q (F0 m pc ls (.int n :: rest)) := by
  refine va_newa (a0 := (N, .inl (fun _ => 0))) E.1 E.2.1 (E.2.2.2.2.1 _ (wsA_mem (107 + 78) (by decide +kernel) (by decide +kernel))) (ty := .int) rfl E.2.2.2.2.2.2.1 h.1 h.2.1 h.2.2.1 h.2.2.2 (fun _ => rfl) hn hN hby hcells hslots hdg (fun a cA H1 hK hP hD hS => ?_)
  have e1 : s.vm.findClass "[I" = some cA := (hK.2 5 _ rfl).2
  have e2 : s.vm.findClass "[I" = some (cy 1) := (E.2.2.2.2.2.2.1.2 1 _ rfl).2
  have e3 : cA = cy 1 := Option.some.inj (e1.symm.trans e2)
  subst e3
  exact kk a H1 ⟨hP, hD, hS, h.2.2.2⟩
theorem x_newB (E : xE cc own nL ret D cy p s m args meth c) (h : xH D A s ws H locs) {n : Int32} {N : Nat} (hn : ¬ n < 0) (hN : n.toNatClampNeg = N) (hby : N * 1 ≤ 536870912) (hcells : cells + 1 ≤ R.cells) (hslots : slots + N ≤ R.slots) (hdg : decode cc pc = .ok (.newarray .byte, 2))
    (kk : ∀ (a : Nat) (H : Heap), xH D A s (ws ++ [(a, .inl (cy 0, N, .inl (fun _ => 0)))]) H locs → W p l e R s m args below meth c H locs (cells + 1) (slots + N) Q (F0 m (pc + 2) ls (.ref a :: rest))) : W p l e R s m args below meth c H locs cells slots Q (F0 m pc ls (.int n :: rest)) := by
  refine va_newa (a0 := (N, .inl (fun _ => 0))) E.1 E.2.1 (E.2.2.2.2.1 _ (wsA_mem (107 + 49) (by decide +kernel) (by decide +kernel))) (ty := .byte) rfl E.2.2.2.2.2.2.1 h.1 h.2.1 h.2.2.1 h.2.2.2 (fun _ => rfl) hn hN hby hcells hslots hdg (fun a cA H1 hK hP hD hS => ?_)
  have e1 : s.vm.findClass "[B" = some cA := (hK.2 5 _ rfl).2
  have e2 : s.vm.findClass "[B" = some (cy 0) := (E.2.2.2.2.2.2.1.2 0 _ rfl).2
  have e3 : cA = cy 0 := Option.some.inj (e1.symm.trans e2)
  subst e3
  exact kk a H1 ⟨hP, hD, hS, h.2.2.2⟩
theorem x_newJ (E : xE cc own nL ret D cy p s m args meth c) (h : xH D A s ws H locs) {n : Int32} {N : Nat} (hn : ¬ n < 0) (hN : n.toNatClampNeg = N) (hby : N * 8 ≤ 536870912) (hcells : cells + 1 ≤ R.cells) (hslots : slots + N ≤ R.slots) (hdg : decode cc pc = .ok (.newarray .long, 2))
    (kk : ∀ (a : Nat) (H : Heap), xH D A s (ws ++ [(a, .inl (cy 2, N, .inr (.inl (fun _ => 0))))]) H locs → W p l e R s m args below meth c H locs (cells + 1) (slots + N) Q (F0 m (pc + 2) ls (.ref a :: rest))) : W p l e R s m args below meth c H locs cells slots Q (F0 m pc ls (.int n :: rest)) := by
  refine va_newa (a0 := (N, .inr (.inl (fun _ => 0)))) E.1 E.2.1 (E.2.2.2.2.1 _ (wsA_mem (107 + 1076) (by decide +kernel) (by decide +kernel))) (ty := .long) rfl E.2.2.2.2.2.2.1 h.1 h.2.1 h.2.2.1 h.2.2.2 (fun _ => rfl) hn hN hby hcells hslots hdg (fun a cA H1 hK hP hD hS => ?_)
  have e1 : s.vm.findClass "[J" = some cA := (hK.2 5 _ rfl).2
  have e2 : s.vm.findClass "[J" = some (cy 2) := (E.2.2.2.2.2.2.1.2 2 _ rfl).2
  have e3 : cA = cy 2 := Option.some.inj (e1.symm.trans e2)
  subst e3
  exact kk a H1 ⟨hP, hD, hS, h.2.2.2⟩
theorem x_newZ (E : xE cc own nL ret D cy p s m args meth c) (h : xH D A s ws H locs) {n : Int32} {N : Nat} (hn : ¬ n < 0) (hN : n.toNatClampNeg = N) (hby : N * 1 ≤ 536870912) (hcells : cells + 1 ≤ R.cells) (hslots : slots + N ≤ R.slots) (hdg : decode cc pc = .ok (.newarray .boolean, 2))
    (kk : ∀ (a : Nat) (H : Heap), xH D A s (ws ++ [(a, .inl (cy 3, N, .inl (fun _ => 0)))]) H locs → W p l e R s m args below meth c H locs (cells + 1) (slots + N) Q (F0 m (pc + 2) ls (.ref a :: rest))) : W p l e R s m args below meth c H locs cells slots Q (F0 m pc ls (.int n :: rest)) := by
  refine va_newa (a0 := (N, .inl (fun _ => 0))) E.1 E.2.1 (E.2.2.2.2.1 _ (wsA_mem (107 + 1077) (by decide +kernel) (by decide +kernel))) (ty := .boolean) rfl E.2.2.2.2.2.2.1 h.1 h.2.1 h.2.2.1 h.2.2.2 (fun _ => rfl) hn hN hby hcells hslots hdg (fun a cA H1 hK hP hD hS => ?_)
  have e1 : s.vm.findClass "[Z" = some cA := (hK.2 5 _ rfl).2
  have e2 : s.vm.findClass "[Z" = some (cy 3) := (E.2.2.2.2.2.2.1.2 3 _ rfl).2
  have e3 : cA = cy 3 := Option.some.inj (e1.symm.trans e2)
  subst e3
  exact kk a H1 ⟨hP, hD, hS, h.2.2.2⟩
theorem x_newQ (E : xE cc own nL ret D cy p s m args meth c) (hAO : va_AO "PromiseCourt$Law" s) (h : xH D A s ws H locs) {idx : Nat} (hcl : Cond.classLink own idx "PromiseCourt$Law" ∈ wsA) {n : Int32} {N : Nat} (hn : ¬ n < 0) (hN : n.toNatClampNeg = N) (hby : N * 4 ≤ 536870912) (hcells : cells + 1 ≤ R.cells) (hslots : slots + N ≤ R.slots) (hdg : decode cc pc = .ok (.anewarray idx, 3))
    (kk : ∀ (a : Nat) (H : Heap), xH D A s (ws ++ [(a, .inl (cy 4, N, .inr (.inr (.inr (.inr (fun _ => none))))))]) H locs → W p l e R s m args below meth c H locs (cells + 1) (slots + N) Q (F0 m (pc + 3) ls (.ref a :: rest))) : W p l e R s m args below meth c H locs cells slots Q (F0 m pc ls (.int n :: rest)) := by
  refine va_newq E.1 E.2.1 E.2.2.2.1 (E.2.2.2.2.1 _ hcl) hAO E.2.2.2.2.2.2.1 h.1 h.2.1 h.2.2.1 h.2.2.2 hn hN hby hcells hslots hdg (fun a cA H1 hK hP hD hS => ?_)
  obtain ⟨kA, comp, -, -, -, e1⟩ := (hK.2 5 _ rfl).2
  obtain ⟨kA2, comp2, -, -, -, e2⟩ := (E.2.2.2.2.2.2.1.2 4 _ rfl).2
  have e3 : cA = cy 4 := Option.some.inj (e1.symm.trans e2)
  subst e3
  exact kk a H1 ⟨hP, hD, hS, h.2.2.2⟩
theorem x_newO (E : xE cc own nL ret D cy p s m args meth c) (h : xH D A s ws H locs) {C : String} {T : u_T} {N ci idx : Nat} (hin : ∀ w ∈ u_ws C T N, w ∈ wsA) (ty : Nat → FieldType) (hty : ∀ k, k < N → parseFieldDescriptor (T k).2.2.1 = some (ty k)) (hcl : Cond.classLink own idx C ∈ wsA) (hinst : Cond.instantiable C N ∈ wsA) (hini : Cond.initialized C ∈ wsA) (hc : vwCl[ci]? = some (C, T, N)) {fs : List Value} (hfs : ∀ j, j < N → defaultValue (ty j) = vp_V fs j) (hcells : cells + 1 ≤ R.cells) (hslots : slots + N ≤ R.slots) (hdg : decode cc pc = .ok (.new idx, 3))
    (kk : ∀ (a : Nat) (H : Heap), xH D A s (ws ++ [(a, .inr (ci, fs))]) H locs → W p l e R s m args below meth c H locs (cells + 1) (slots + N) Q (F0 m (pc + 3) ls (.ref a :: rest))) : W p l e R s m args below meth c H locs cells slots Q (F0 m pc ls rest) :=
  va_new E.1 E.2.1 E.2.2.2.2.1 hin ty hty E.2.2.2.1 (E.2.2.2.2.1 _ hcl) (E.2.2.2.2.1 _ hinst) (E.2.2.2.2.1 _ hini) E.2.2.2.2.2.2.1 h.1 h.2.1 h.2.2.1 h.2.2.2 hc hfs hcells hslots hdg (fun a H1 hP hD hS => kk a H1 ⟨hP, hD, hS, h.2.2.2⟩)
/-- a final field, in the constructor -/
theorem x_putK (E : kE cc own nL D cy p s m args meth c) (h : xH D A s ws H locs) {a ci idx N : Nat} {C : String} {T : u_T} {fs : List Value} {v : Value} {ty : FieldType} {ws' : va_W} (k pos : Nat) (hin : ∀ w ∈ u_ws C T N, w ∈ wsA) (ty0 : Nat → FieldType) (hty : ∀ k, k < N → parseFieldDescriptor (T k).2.2.1 = some (ty0 k)) (hnm : ∀ a, a < N → ∀ b, b < N → a ≠ b → (T a).2.1 ≠ (T b).2.1) (hc : vwCl[ci]? = some (C, T, N)) (hk : k < N) (hlink : Cond.fieldLink own idx (T k).1 (T k).2.1 (T k).2.2.1 ∈ wsA) (hfin : (T k).2.2.2 = true) (hdecl : (T k).1 = own) (hd : parseFieldDescriptor (T k).2.2.1 = some ty) (hn : narrow ty v = v) (hfit : fits ty v = true) (he : ws[pos]? = some (a, .inr (ci, fs))) (hl : k < fs.length) (hset : ws.set pos (a, .inr (ci, fs.set k v)) = ws') (hdg : decode cc pc = .ok (.putfield idx, 3))
    (kk : ∀ (H : Heap) (locs : List Loc), xH D A s ws' H locs → W p l e R s m args below meth c H locs cells slots Q (F0 m (pc + 3) ls rest)) : W p l e R s m args below meth c H locs cells slots Q (F0 m pc ls (v :: .ref a :: rest)) := by
  subst hset
  exact va_putF E.1.1 E.1.2.1 E.1.2.2.2.2.1 hin ty0 hty hnm E.1.2.2.2.1 E.1.2.2.2.2.2.2.1 h.1 h.2.1 h.2.2.1 pos he hc k hk (E.1.2.2.2.2.1 _ hlink) (fun _ h9 => h9) hfin E.2.1 hdecl hd hn hfit hl hdg (fun H1 locs1 h1 h2 h3 => kk H1 locs1 ⟨h1, h2, h3, h.2.2.2⟩)
theorem x_obj (E : xE cc own nL ret D cy p s m args meth c) (hsz : ls.size = nL) {a idx : Nat} (hl : Cond.methodLink own idx objectInit ∈ wsA) (hfr : 1 ≤ R.frames) (hlo : 12 ≤ R.locals) (hdg : decode cc pc = .ok (.invokespecial idx, 3))
    (kk : W p l e R s m args below meth c H locs cells slots Q (F0 m (pc + 3) ls [])) : W p l e R s m args below meth c H locs cells slots Q (F0 m pc ls [.ref a]) := by
  refine W.objInit E.1 E.2.1 E.2.2.2.1 (E.2.2.2.2.1 _ hl) (E.2.2.2.2.1 _ (wsA_mem (107 + 26) (by decide +kernel) (by decide +kernel))) (E.2.2.2.2.1 (.code objectInit ⟨#[0xb1]⟩ 1 none) (wsA_mem (107 + 27) (by decide +kernel) (by decide +kernel))) rfl (by rw [E.2.2.1]; exact hsz) rfl hdg hfr hlo ?_
  exact W.eq (g2 := F0 m (pc + 3) ls []) rfl kk
end KRows
section KCalls
variable {p : Program} {l : Launch} {e : Env} {R : Room} {s : State} {m : MethodId} {args : Array Value} {below : List Frame} {meth : Method} {c : Code} {H : Heap} {locs : List Loc} {cells slots : Nat} {Q : State → Prop}
variable {cc : ByteArray} {own : String} {nL : Nat} {ret : Option FieldType} {D : va_G} {cy : Nat → ClassId} {A : Nat → Prop} {ws : va_W} {pc : Nat} {ls : Array Slot} {rest st : List Value}
variable {S : Type} {WW : S → va_W} {y : MethodName} {bytes : ByteArray} {maxL idx b mc ms : Nat} {rm : Room} {As : List Value} {host : String} {Qc : Array Value → State → Outcome → State → Prop}
theorem k_pre (E : kE cc own nL D cy p s m args meth c) (h : xH D A s ws H locs) {av : List Value} : ∀ U : State, U.heap = H → s.WarmedH U.vm → kPc D cy ws H.size av av.toArray U :=
  fun U hU hW => ⟨rfl, by rw [hU], NW.warm hW E.1.2.2.2.2.2.1, by rw [hU]; exact h.1, va_K.moved hW.alike E.1.2.2.2.2.2.2.1, h.2.1.weaken (fun _ _ _ _ => trivial), va_AO.moved hW.alike E.2.2⟩
/-- a constructor by its words -/
def kY (y : MethodName) (bytes : ByteArray) (maxL n : Nat) : Prop :=
  (Cond.instanceMethod y ∈ wsA ∧ Cond.initialized y.cls ∈ wsA ∧ Cond.code y bytes maxL none ∈ wsA) ∧ y.name = "<init>" ∧ (y.cls ≠ "java/lang/invoke/MethodHandle" ∧ y.cls ≠ "java/lang/invoke/VarHandle" ∧ (parseMethodDescriptor y.desc).map (fun d => d.parameters.length) = some n)
theorem k_callN (E : kE cc own nL D cy p s m args meth c) (h : xH D A s ws H locs) (hM : Met l y (Cond.code y bytes maxL none :: wsA) rm (kPc D cy ws H.size (.ref b :: As)) (va_Qv (fun _ : S => True) (xB D cy WW (va_A ws H.size)) (va_A ws H.size)) mc ms (va_A ws H.size)) (hY : kY y bytes maxL As.length) (hl : Cond.methodLinkNest own idx y host ∈ wsN) (hR : rm.frames + 1 ≤ R.frames ∧ 8 + (maxL + 11) + rm.locals ≤ R.locals) (hrc : rm.cells = mc) (hrs : rm.slots = ms) (hsz : ls.size = nL) (hst : st = As.reverse ++ .ref b :: rest) (hrest : (rest.map fun v => v.category).sum ≤ 8) (hdg : decode cc pc = .ok (.invokespecial idx, 3)) (hf : cells + mc ≤ R.cells ∧ slots + ms ≤ R.slots)
    (kk : ∀ (u : S) (H : Heap) (locs : List Loc), xH D A s (WW u) H locs → W p l e R s m args below meth c H locs (cells + mc) (slots + ms) Q (F0 m (pc + 3) ls rest)) : W p l e R s m args below meth c H locs cells slots Q (F0 m pc ls st) := by
  have hg : GoodIn wsA (Cond.code y bytes maxL none :: wsA) := goodIn_A (fun _ h => h) (fun w hw => by
    rcases List.mem_cons.mp hw with rfl | hw
    · exact hY.1.2.2
    · exact hw)
  refine va_callv (va_runIN (Ts := wsA) (host := host) (index := idx) (rest := rest) ⟨E.1.1, E.1.2.1, E.1.2.2.1, E.1.2.2.2.1, E.1.2.2.2.2.1⟩ hM ⟨va_cnB As.length E.1.2.2.2.2.1 hg rfl hrc hrs (E.1.2.2.2.2.2.1 _ hl) (E.1.2.2.2.2.1 _ hY.1.2.1) hY.2.2 hR, hY.2.1, E.1.2.2.2.2.1 _ hY.1.1⟩ ⟨kPc_blind, k_pre E h⟩ rfl rfl hsz hst (lv_room hrest) hdg hf) h.2.2.1 (fun q _ hq => h.subW q hq) h.subW (fun u t H1 locs1 ht hvm hw hB hz1 hk1 hS => ?_)
  exact kk u H1 locs1 ⟨by rw [← ht]; exact hB.1, hB.2.2.weaken (fun _ _ _ hq => h.subW _ hq), hS, h.2.2.2⟩
theorem k_ret {u : S} (E : kE cc own nL D cy p s m args meth c) (h : xH D A s (WW u) H locs) (hdg : decode cc pc = .ok (.return_, 1)) :
    W p l e R s m args below meth c H locs cells slots (MQ below (va_Qv (fun _ : S => True) (xB D cy WW A) A) args s cells slots A) (F0 m pc ls []) :=
  W.vret E.1.1 E.1.2.1 E.1.2.2.2.2.2.2.2.1 (fun t ht hW => ⟨⟨u, rfl, trivial, by rw [ht]; exact h.1, va_K.moved hW.alike E.1.2.2.2.2.2.2.1, h.2.1⟩, h.2.2.1.F ht⟩) h.2.2.1.2.2 hdg (hlocks := E.1.2.2.2.2.2.2.2.2)
theorem k_enter {av : List Value} {sz : Nat} (hy : plainName y.cls = true) (ho : y.cls = own) (hnm : y.name = "<init>") (hn : (lg_sl av).length ≤ maxL)
    (body : ∀ (p : Program) (e : Env) (s : State) (m : MethodId) (below : List Frame) (meth : Method) (c : Code) (ls : Array Slot), kE bytes own maxL D cy p s m av.toArray meth c → xH D (va_A ws sz) s ws s.heap [] → lv_has ls maxL (lv_args 0 av) → W p l e rm s m av.toArray below meth c s.heap [] 0 0 (MQ below Qc av.toArray s mc ms (va_A ws sz)) (F0 m 0 ls [])) :
    Met l y (Cond.code y bytes maxL none :: wsA) rm (kPc D cy ws sz av) Qc mc ms (va_A ws sz) := by
  refine Met.ofW (cc := bytes) (maxL := maxL) (ret := none) hy rfl ?_
  intro p e s m args below meth c s₁ B hml hv
  obtain ⟨rfl, hsz, hN, hP, hK, hD0, hA⟩ := hv
  have hts := atoms_spec (ws := Cond.code y bytes maxL none :: wsA) B.pre
  have hown : s.vm.findClass own = some m.cls := ho ▸ findClass_of_methodNamed B.named
  subst hsz
  rw [lg_entry_eq]
  exact body p e s m below meth c _ ⟨⟨B.exec, B.bytes, hml, hown, fun w h => hts w (List.mem_cons_of_mem _ h), hN, hK, B.returns, B.notSynchronized⟩, ((name_of_methodNamed B.named B.method).1).trans hnm, hA⟩ ⟨hP, hD0.self, va_S.rf, fun q h => Or.inr h⟩ (lv_entry av hn)
end KCalls
