/-! Arrays.copyOf of an int array, over any world; what it and the making of a law need beside -/
def lX (U : State) : Prop := va_AO "PromiseCourt$Law" U ∧ va_Nw (.castable "[I" "java/lang/Cloneable") U
theorem lX.warm {s U : State} (hW : s.WarmedH U.vm) (h : lX s) : lX U := ⟨va_AO.moved hW.alike h.1, va_Nw.warmC hW h.2⟩
theorem lX.same {u U : State} (hv : u.vm = U.vm) (h : lX u) : lX U := by
  have ha : u.vm.Alike U.vm := by rw [hv]; exact Vm.Alike.refl U.vm
  exact ⟨va_AO.moved ha h.1, va_Nw.same rfl hv h.2⟩
def lPc (D : va_G) (cy : Nat → ClassId) (ws : va_W) (sz : Nat) (av : List Value) : Array Value → State → Prop :=
  va_Pc av (fun U => U.heap.size = sz ∧ NW U ∧ va_P D vwCl ws U.heap ∧ va_K D vwCl (tysA cy) U ∧ va_D (fun _ => True) ws ∧ lX U)
theorem lPc_blind {D : va_G} {cy : Nat → ClassId} {ws : va_W} {sz : Nat} {av : List Value} : FrameBlind (lPc D cy ws sz av) := by
  intro a U g mk q
  obtain ⟨q0, q1, qN, qP, qK, qD, qA⟩ := q
  exact ⟨q0, q1, NW.same (u := U) (U := U.calling g mk a) rfl qN, qP, va_K.moved (u := U) (U := U.calling g mk a) (Vm.Alike.refl U.vm) qK, qD, lX.same (u := U) (U := U.calling g mk a) rfl qA⟩
section LCopy
variable {p : Program} {l : Launch} {e : Env} {R : Room} {s : State} {m : MethodId} {args : Array Value} {below : List Frame} {meth : Method} {c : Code} {H : Heap} {locs : List Loc} {cells slots : Nat} {Q : State → Prop}
variable {cc : ByteArray} {own : String} {nL : Nat} {ret : Option FieldType} {D : va_G} {cy : Nat → ClassId} {A : Nat → Prop} {ws : va_W} {pc : Nat} {ls : Array Slot} {rest : List Value}
variable {y : MethodName} {bytes : ByteArray} {maxL mc ms : Nat} {rm : Room} {Qc : Array Value → State → Outcome → State → Prop}
theorem l_enter {av : List Value} {sz : Nat} (hy : plainName y.cls = true) (ho : y.cls = own) (hn : (lg_sl av).length ≤ maxL)
    (body : ∀ (p : Program) (e : Env) (s : State) (m : MethodId) (below : List Frame) (meth : Method) (c : Code) (ls : Array Slot), xE bytes own maxL ret D cy p s m av.toArray meth c → lX s → xH D (va_A ws sz) s ws s.heap [] → lv_has ls maxL (lv_args 0 av) → W p l e rm s m av.toArray below meth c s.heap [] 0 0 (MQ below Qc av.toArray s mc ms (va_A ws sz)) (F0 m 0 ls [])) :
    Met l y (Cond.code y bytes maxL ret :: wsA) rm (lPc D cy ws sz av) Qc mc ms (va_A ws sz) := by
  refine Met.ofW (cc := bytes) (maxL := maxL) (ret := ret) hy rfl ?_
  intro p e s m args below meth c s₁ B hml hv
  obtain ⟨rfl, hsz, hN, hP, hK, hD0, hA⟩ := hv
  have hts := atoms_spec (ws := Cond.code y bytes maxL ret :: wsA) B.pre
  have hown : s.vm.findClass own = some m.cls := ho ▸ findClass_of_methodNamed B.named
  subst hsz
  rw [lg_entry_eq]
  exact body p e s m below meth c _ ⟨B.exec, B.bytes, hml, hown, fun w h => hts w (List.mem_cons_of_mem _ h), hN, hK, B.returns, B.notSynchronized⟩ hA ⟨hP, hD0.self, va_S.rf, fun q h => Or.inr h⟩ (lv_entry av hn)
/-- an answer that is a new cell -/
theorem l_aret {S : Type} {WW : S → Nat → va_W} {Post : S → Prop} {u : S} {a : Nat} {rt : FieldType} (hrt : (∃ n, rt = .object n) ∨ ∃ t, rt = .array t) (E : xE cc own nL (some rt) D cy p s m args meth c) (h : xH D A s (WW u a) H locs) (hw : Post u) (hdg : decode cc pc = .ok (.areturn, 1)) :
    W p l e R s m args below meth c H locs cells slots (MQ below (va_Qr Post (fun u a t => va_P D vwCl (WW u a) t.heap ∧ va_K D vwCl (tysA cy) t ∧ va_D A (WW u a)) A) args s cells slots A) (F0 m pc ls [.ref a]) :=
  W.aret E.1 E.2.1 E.2.2.2.2.2.2.2.1 hrt (Or.inr ⟨_, rfl⟩) (fun t ht hW => ⟨⟨u, a, rfl, hw, by rw [ht]; exact h.1, va_K.moved hW.alike E.2.2.2.2.2.2.1, h.2.1⟩, h.2.2.1.F ht⟩) h.2.2.1.2.2 hdg (hlocks := E.2.2.2.2.2.2.2.2)
end LCopy
abbrev lr_copyOf : Room := { frames := 1, cells := 1, slots := 400, locals := 30 }
theorem lJ7_304 : Cond.methodLink RJ7 304 Lib.Math.min.name ∈ wsA := wsA_mem (107 + 494) (by decide +kernel) (by decide +kernel)
set_option maxRecDepth 50000 in
theorem yyJ7_copyOf : xT yJ7_copyOf_59c91 RJ7 cJ7_copyOf_59c91 3 (some (.array .int)) 2 := ⟨⟨wsA_mem (107 + 485) (by decide +kernel) (by decide +kernel), wsA_mem (107 + 18) (by decide +kernel) (by decide +kernel), wsA_mem (107 + 486) rfl rfl⟩, by decide +kernel⟩
set_option maxHeartbeats 4000000 in
set_option maxRecDepth 20000 in
theorem l_copyOf {l : Launch} {D : va_G} {cy : Nat → ClassId} {ws : va_W} {i b L N sz : Nat} {f : Nat → Int32} {n : Int32} (hi : ws[i]? = some (b, .inl (cy 1, L, .inl f))) (hn : n = nI N) (hL : N ≤ L) (hL4 : L ≤ 400) : Met l yJ7_copyOf_59c91 (Cond.code yJ7_copyOf_59c91 cJ7_copyOf_59c91 3 (some (.array .int)) :: wsA) lr_copyOf (lPc D cy ws sz [.ref b, .int n]) (va_Qr (fun g : Nat → Int32 => ∀ j, j < N → g j = f j) (fun g a t => va_P D vwCl (ws ++ [(a, .inl (cy 1, N, .inl g))]) t.heap ∧ va_K D vwCl (tysA cy) t ∧ va_D (va_A ws sz) (ws ++ [(a, .inl (cy 1, N, .inl g))])) (va_A ws sz)) 1 400 (va_A ws sz) := by
  refine l_enter (own := RJ7) (by decide) rfl (Nat.le_of_ble_eq_true rfl) ?_
  intro p e s m below meth c ls E hlX h hl
  have hx := E.1
  have hb := E.2.1
  have hl : lv_has ls 3 [(0, .ref b), (1, .int n)] := hl
  subst hn
  have hn0 : ¬ nI N < 0 := nI_pos (by omega)
  have hNc : (nI N).toNatClampNeg = N := nI_clamp (by omega)
  refine lv_iload_n hx hb dJ7_copyOf_59c91_0 rfl (lv_at hl 1 rfl) ?_
  refine lv_aload_n hx hb dJ7_copyOf_59c91_1 rfl (lv_at hl 0 rfl) ?_
  refine x_alen (v := nI L) E h i hi rfl dJ7_copyOf_59c91_2 ?_
  refine lv_icmp_ne (tgt := 14) hx hb dJ7_copyOf_59c91_3 (by decide) (fun c1 => ?_) (fun c1 => ?_)
  · refine lv_iload_n hx hb dJ7_copyOf_59c91_14 rfl (lv_at hl 1 rfl) ?_
    refine x_newI (n := nI N) (N := N) E h hn0 hNc (by omega) (Nat.le_of_ble_eq_true rfl) (by show 0 + N ≤ 400; omega) dJ7_copyOf_59c91_15 (fun a H h => ?_)
    refine W.widen (k := 1) (n := 400) (Nat.le_of_ble_eq_true rfl) (by omega) ?_
    refine lv_astore_n (lv' := [(2, .ref a), (0, .ref b), (1, .int (nI N))]) hx hb dJ7_copyOf_59c91_17 rfl hl (by decide) rfl (fun ls hl => ?_)
    refine lv_aload_n hx hb dJ7_copyOf_59c91_18 rfl (lv_at hl 1 rfl) ?_
    refine lv_iconst (v := 0) hx hb dJ7_copyOf_59c91_19 (by decide) ?_
    refine lv_aload_n hx hb dJ7_copyOf_59c91_20 rfl (lv_at hl 0 rfl) ?_
    refine lv_iconst (v := 0) hx hb dJ7_copyOf_59c91_21 (by decide) ?_
    refine lv_aload_n hx hb dJ7_copyOf_59c91_22 rfl (lv_at hl 1 rfl) ?_
    refine x_alen (v := nI L) E h i (lk_app hi) rfl dJ7_copyOf_59c91_23 ?_
    refine lv_iload_n hx hb dJ7_copyOf_59c91_24 rfl (lv_at hl 2 rfl) ?_
    refine z_min E hl.1 lJ7_304 (Nat.le_of_ble_eq_true rfl) (Nat.le_of_ble_eq_true rfl) (Nat.le_refl _) (Nat.le_refl _) dJ7_copyOf_59c91_25 ?_
    have er : (if nI N < nI L then nI N else nI L) = nI N := by
      by_cases q : nI N < nI L
      · rw [if_pos q]
      · rw [if_neg q]
        have : ¬ N < L := fun z => q (nI_lt z (by omega))
        have : N = L := by omega
        rw [this]
    rw [er]
    have hq1 : (ws ++ [(a, Sum.inl (cy 1, N, Sum.inl (fun _ => (0 : Int32))))] : va_W)[ws.length + 0]? = some (a, .inl (cy 1, N, .inl (fun _ => 0))) := (lk_add (α := Nat × va_E) _ _ 0).trans rfl
    refine va_copyi hx hb (by rw [E.2.2.1, hl.1]) E.2.2.2.1 (E.2.2.2.2.1 _ (wsA_mem (107 + 495) (by decide +kernel) (by decide +kernel))) (E.2.2.2.2.1 _ (wsA_mem (107 + 497) (by decide +kernel) (by decide +kernel))) (E.2.2.2.2.1 _ (wsA_mem (107 + 496) (by decide +kernel) (by decide +kernel))) (E.2.2.2.2.1 _ (wsA_mem (107 + 19) (by decide +kernel) (by decide +kernel))) E.2.2.2.2.2.2.1 h.1 h.2.1 h.2.2.1 i (ws.length + 0) 1 1 (lk_app hi) hq1 rfl rfl rfl (by decide) (by decide) hn0 ?_ ?_ (fun _ _ => rfl) (Nat.le_of_ble_eq_true rfl) (by decide) dJ7_copyOf_59c91_28 (fun H locs hP hD hS => ?_)
    · rw [hNc]; show 0 + N ≤ L; omega
    · rw [hNc]; show 0 + N ≤ N; omega
    rw [st_add (α := Nat × va_E)] at hP hD
    refine lv_aload_n hx hb dJ7_copyOf_59c91_31 rfl (lv_at hl 0 rfl) ?_
    exact l_aret (Post := fun g : Nat → Int32 => ∀ j, j < N → g j = f j) (WW := fun g a => ws ++ [(a, .inl (cy 1, N, .inl g))]) (u := va_cpy f (fun _ => 0) 0 0 N) (Or.inr ⟨_, rfl⟩) E ⟨by rw [hNc] at hP; exact hP, by rw [hNc] at hD; exact hD, hS, h.2.2.2⟩ (fun j hj => sb_cpy0 hj) dJ7_copyOf_59c91_32
  · have hNL : N = L := (nI_eq (by omega) (by omega)).mp c1
    subst hNL
    refine lv_aload_n hx hb dJ7_copyOf_59c91_6 rfl (lv_at hl 0 rfl) ?_
    refine va_clone (ad := "[I") hx hb (by rw [E.2.2.1, hl.1]) E.2.2.2.1 (E.2.2.2.2.1 _ (wsA_mem (107 + 487) (by decide +kernel) (by decide +kernel))) (E.2.2.2.2.1 _ (wsA_mem (107 + 488) (by decide +kernel) (by decide +kernel))) (E.2.2.2.2.1 _ (wsA_mem (107 + 489) (by decide +kernel) (by decide +kernel))) (E.2.2.2.2.1 _ (wsA_mem (107 + 490) (by decide +kernel) (by decide +kernel))) (E.2.2.2.2.1 _ (wsA_mem (107 + 491) (by decide +kernel) (by decide +kernel))) hlX.2 E.2.2.2.2.2.2.1 h.1 h.2.1 h.2.2.1 h.2.2.2 i 1 hi rfl (va_nm_int (E.2.2.2.2.2.2.1.2 1 _ rfl).2) (va_fit (fun _ _ => rfl)) (Nat.le_of_ble_eq_true rfl) (by decide) (Nat.le_of_ble_eq_true rfl) (by show 0 + N ≤ 400; omega) dJ7_copyOf_59c91_7 (fun a H hK hP hD hS => ?_)
    have hq1 : (ws ++ [(a, Sum.inl (cy 1, N, Sum.inl f))] : va_W)[ws.length + 0]? = some (a, .inl (cy 1, N, .inl f)) := (lk_add (α := Nat × va_E) _ _ 0).trans rfl
    refine W.widen (k := 1) (n := 400) (Nat.le_of_ble_eq_true rfl) (by show 0 + N ≤ 400; omega) ?_
    refine va_castA (nm := "[I") hx hb E.2.2.2.1 (E.2.2.2.2.1 _ (wsA_mem (107 + 493) (by decide +kernel) (by decide +kernel))) hP (ws.length + 0) hq1 (va_nm_int (E.2.2.2.2.2.2.1.2 1 _ rfl).2) dJ7_copyOf_59c91_10 ?_
    exact l_aret (Post := fun g : Nat → Int32 => ∀ j, j < N → g j = f j) (WW := fun g a => ws ++ [(a, .inl (cy 1, N, .inl g))]) (u := f) (Or.inr ⟨_, rfl⟩) E ⟨hP, hD, hS, h.2.2.2⟩ (fun j hj => rfl) dJ7_copyOf_59c91_13
