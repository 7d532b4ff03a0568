/-! two worlds side by side: a call changes one, the other stays -/
theorem xH.left {D : va_G} {A : Nat → Prop} {s : State} {a b : va_W} {H : Heap} {locs : List Loc} (h : xH D A s (a ++ b) H locs) : xH D A s a H locs := by
  refine ⟨va_P_mem.mpr (fun x hx => va_P_mem.mp h.1 x (List.mem_append_left _ hx)), va_D_nd.mpr ⟨?_, fun x hx => (va_D_nd.mp h.2.1).2 x (List.mem_append_left _ hx)⟩, h.2.2⟩
  have h1 := (va_D_nd.mp h.2.1).1
  rw [List.map_append] at h1
  exact (List.nodup_append.mp h1).1
theorem xH.swap {D : va_G} {A : Nat → Prop} {s : State} {a b : va_W} {H : Heap} {locs : List Loc} (h : xH D A s (a ++ b) H locs) : xH D A s (b ++ a) H locs := h.perm List.perm_append_comm
theorem J_after {D : va_G} {cy : Nat → ClassId} {A : Nat → Prop} {s t : State} {ws0 Rs ws1 : va_W} {H H1 : Heap} {locs locs1 : List Loc} (h : xH D A s (ws0 ++ Rs) H locs) (ht : t.heap = H1) (hP1 : va_P D vwCl ws1 t.heap) (hD1 : va_D (va_A ws0 H.size) ws1) (hk : ∀ q : Nat, q < H.size → ¬ va_A ws0 H.size q → H1[q]? = H[q]?) (hS : va_S A s.heap H1 locs1) : xH D A s (ws1 ++ Rs) H1 locs1 := by
  have hP := va_P_mem.mp h.1
  obtain ⟨hnd, hA⟩ := va_D_nd.mp h.2.1
  rw [List.map_append] at hnd
  obtain ⟨hn0, hnR, hap⟩ := List.nodup_append.mp hnd
  have hout : ∀ x ∈ Rs, ¬ va_A ws0 H.size x.1 := by
    intro x hx hz
    have hlt := (hP x (List.mem_append_right _ hx)).lt
    rcases hz with ⟨k, e, hk0⟩ | hz
    · exact hap x.1 (List.mem_map.mpr ⟨(x.1, e), List.mem_of_getElem? hk0, rfl⟩) x.1 (List.mem_map.mpr ⟨x, hx, rfl⟩) rfl
    · omega
  obtain ⟨hn1, hA1⟩ := va_D_nd.mp hD1
  refine ⟨va_P_mem.mpr (fun x hx => ?_), va_D_nd.mpr ⟨?_, fun x hx => ?_⟩, hS, h.2.2.2⟩
  · rcases List.mem_append.mp hx with hx | hx
    · rw [← ht]; exact va_P_mem.mp hP1 x hx
    · have h1 := hP x (List.mem_append_right _ hx)
      exact h1.kept (hk x.1 h1.lt (hout x hx))
  · rw [List.map_append]
    refine List.nodup_append.mpr ⟨hn1, hnR, ?_⟩
    intro u hu v hv he
    obtain ⟨x, hx, rfl⟩ := List.mem_map.mp hu
    obtain ⟨y, hy, rfl⟩ := List.mem_map.mp hv
    exact hout y hy (by rw [← he]; exact hA1 x hx)
  · rcases List.mem_append.mp hx with hx | hx
    · exact h.left.subW x.1 (hA1 x hx)
    · exact hA x (List.mem_append_right _ hx)
section Joint
variable {p : Program} {l : Launch} {e : Env} {R : Room} {s : State} {m : MethodId} {args : Array Value} {below : List Frame} {meth : Method} {c : Code} {H : Heap} {locs : List Loc} {cells slots : Nat} {Q : State → Prop}
variable {cc : ByteArray} {own : String} {nL : Nat} {ret0 ret : Option FieldType} {D : va_G} {cy : Nat → ClassId} {ks : Nat × Nat × Option Nat} {A : Nat → Prop} {ws0 Rs : va_W} {pc : Nat} {ls : Array Slot} {rest st : List Value}
variable {S : Type} {WW : S → va_W} {C : String} {y : MethodName} {bytes : ByteArray} {maxL idx b mc ms ci : Nat} {rm : Room} {As : List Value} {Qc : Array Value → State → Outcome → State → Prop} {free : Nat → Prop} {T : u_T} {N : Nat} {fs : List Value}
theorem J_calli {a : Array Value} {Post : Int32 → S → Prop} (h : xH D A s (ws0 ++ Rs) H locs) (hr : va_Run p l e R s m args below meth c H locs cells slots mc ms (F0 m pc ls st) rest (va_Qi Post (xB D cy WW (va_A ws0 H.size)) (va_A ws0 H.size) a) (va_A ws0 H.size))
    (kk : ∀ (r : Int32) (u : S) (H : Heap) (locs : List Loc), Post r u → xH D A s (WW u ++ Rs) H locs → W p l e R s m args below meth c H locs (cells + mc) (slots + ms) Q (F0 m (pc + 3) ls (.int r :: rest))) : W p l e R s m args below meth c H locs cells slots Q (F0 m pc ls st) :=
  va_calli hr h.2.2.1 (fun q _ hq => h.left.subW q hq) h.left.subW (fun r u t H1 locs1 ht hvm hw hB hz1 hk1 hS => kk r u H1 locs1 hw (J_after (cy := cy) h ht hB.1 hB.2.2 hk1 hS))
theorem J_callv {a : Array Value} {Post : S → Prop} (h : xH D A s (ws0 ++ Rs) H locs) (hr : va_Run p l e R s m args below meth c H locs cells slots mc ms (F0 m pc ls st) rest (va_Qv Post (xB D cy WW (va_A ws0 H.size)) (va_A ws0 H.size) a) (va_A ws0 H.size))
    (kk : ∀ (u : S) (H : Heap) (locs : List Loc), Post u → xH D A s (WW u ++ Rs) H locs → W p l e R s m args below meth c H locs (cells + mc) (slots + ms) Q (F0 m (pc + 3) ls rest)) : W p l e R s m args below meth c H locs cells slots Q (F0 m pc ls st) :=
  va_callv hr h.2.2.1 (fun q _ hq => h.left.subW q hq) h.left.subW (fun u t H1 locs1 ht hvm hw hB hz1 hk1 hS => kk u H1 locs1 hw (J_after (cy := cy) h ht hB.1 hB.2.2 hk1 hS))
/-- a constructor called by its public name -/
theorem J_runI (E : xE cc own nL ret0 D cy p s m args meth c) (hAO : va_AO "PromiseCourt$Law" s) (h : xH D A s ws0 H locs) (hM : Met l y (Cond.code y bytes maxL none :: wsA) rm (kPc D cy ws0 H.size (.ref b :: As)) Qc mc ms free) (hY : kY y bytes maxL As.length) (hl : Cond.methodLink own idx y ∈ wsA) (hR : rm.frames + 1 ≤ R.frames ∧ 8 + (maxL + 11) + rm.locals ≤ R.locals) (hrc : rm.cells = mc) (hrs : rm.slots = ms) (hsz : ls.size = nL) (hst : st = As.reverse ++ .ref b :: rest) (hrest : (rest.map fun v => v.category).sum ≤ 8) (hdg : decode cc pc = .ok (.invokespecial idx, 3)) (hf : cells + mc ≤ R.cells ∧ slots + ms ≤ R.slots) :
    va_Run p l e R s m args below meth c H locs cells slots mc ms (F0 m pc ls st) rest (Qc (Value.ref b :: As).toArray) free := by
  have hg : GoodIn wsA (Cond.code y bytes maxL none :: wsA) := goodIn_A (fun _ h => h) (fun w hw => by
    rcases List.mem_cons.mp hw with rfl | hw
    · exact hY.1.2.2
    · exact hw)
  exact va_runI (Ts := wsA) (index := idx) ⟨E.1, E.2.1, E.2.2.1, E.2.2.2.1, E.2.2.2.2.1⟩ hM (cwI As.length E.2.2.2.2.1 hg rfl hrc hrs (E.2.2.2.2.1 _ hY.1.2.1) (E.2.2.2.2.1 _ hl) (E.2.2.2.2.1 _ hY.1.1) hY.2.1 hY.2.2 hR) ⟨kPc_blind, fun U hU hW => ⟨rfl, by rw [hU], NW.warm hW E.2.2.2.2.2.1, by rw [hU]; exact h.1, va_K.moved hW.alike E.2.2.2.2.2.2.1, h.2.1.weaken (fun _ _ _ _ => trivial), va_AO.moved hW.alike hAO⟩⟩ rfl rfl hsz hst (lv_room hrest) hdg hf
/-- PromiseCourt.read by its public name -/
theorem J_runR (E : zE cc own nL ret0 D cy ks A p s m args meth c) (hX : lX s) (h : xH D A s ws0 H locs) (hM : Met l y (Cond.code y bytes maxL ret :: wsA) rm (rPc D cy ks ws0 H.size (.ref b :: As)) Qc mc ms free) (hY : xY y C bytes maxL ret As.length) (hl : Cond.methodLink own idx y ∈ wsA) (pos : Nat) (he : ws0[pos]? = some (b, .inr (ci, fs))) (hc : vwCl[ci]? = some (C, T, N)) (hR : rm.frames + 1 ≤ R.frames ∧ 8 + (maxL + 11) + rm.locals ≤ R.locals) (hrc : rm.cells = mc) (hrs : rm.slots = ms) (hsz : ls.size = nL) (hst : st = As.reverse ++ .ref b :: rest) (hrest : (rest.map fun v => v.category).sum ≤ 8) (hdg : decode cc pc = .ok (.invokevirtual idx, 3)) (hf : cells + mc ≤ R.cells ∧ slots + ms ≤ R.slots) :
    va_Run p l e R s m args below meth c H locs cells slots mc ms (F0 m pc ls st) rest (Qc (Value.ref b :: As).toArray) free := by
  refine va_runV (Ts := wsA) (C := C) (index := idx) ⟨E.1.1, E.1.2.1, E.1.2.2.1, E.1.2.2.2.1, E.1.2.2.2.2.1⟩ hM (cwV As.length E.1.2.2.2.2.1 (goodIn_A (fun _ h => h) ?_) rfl hrc hrs hY.2 hR) ⟨rPc_blind, va_recv E.1.2.2.2.2.2.2.1 h.1 hc he, fun U hU hW => ⟨rfl, ⟨by rw [hU], NW.warm hW E.1.2.2.2.2.2.1, by rw [hU]; exact h.1, va_K.moved hW.alike E.1.2.2.2.2.2.2.1, h.2.1.weaken (fun _ _ _ _ => trivial), by rw [hU]; exact KS.warm hW ((E.2.kept h.2.2.1.2.1).narrow h.subW)⟩, hX.warm hW⟩⟩ rfl rfl hsz hst (lv_room hrest) hdg hf
  intro w hw
  rcases List.mem_append.mp hw with hw | hw
  · simp only [List.mem_cons, List.not_mem_nil, or_false] at hw
    rcases hw with rfl | rfl | rfl | rfl
    · exact hl
    · exact hY.1.1
    · exact hY.1.2.1
    · exact hY.1.2.2.1
  · rcases List.mem_cons.mp hw with rfl | hw
    · exact hY.1.2.2.2
    · exact hw
end Joint
