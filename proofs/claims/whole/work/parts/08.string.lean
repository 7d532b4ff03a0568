section ZStr
variable {p : Program} {l : Launch} {e : Env} {R : Room} {s : State} {m : MethodId} {args : Array Value} {below : List Frame} {meth : Method} {c : Code} {H : Heap} {locs : List Loc} {cells slots : Nat} {Q : State → Prop}
variable {cc : ByteArray} {nL : Nat} {ret : Option FieldType} {D : va_G} {cy : Nat → ClassId} {ks : Nat × Nat} {A : Nat → Prop} {ws : va_W} {pc : Nat} {ls : Array Slot} {rest : List Value}
theorem z_charAt (E : zE cc RX9 nL ret D cy ks A p s m args meth c) (h : xH D A s ws H locs) {i : Int32} (hi : vp_in i 140) (hsz : ls.size = nL) (hrest : (rest.map fun v => v.category).sum ≤ 8) (hfr : 3 ≤ R.frames) (hlo : 90 ≤ R.locals) (hf : cells ≤ R.cells ∧ slots ≤ R.slots) (hdg : decode cc pc = .ok (.invokevirtual 52, 3))
    (kk : W p l e R s m args below meth c H locs cells slots Q (F0 m (pc + 3) ls (.int (kWb.getD i.toNatClampNeg 0) :: rest))) : W p l e R s m args below meth c H locs cells slots Q (F0 m pc ls (.int i :: .ref ks.1 :: rest)) := sorry
end ZStr
theorem x_look3 {a b c : Int} {o1 o2 o3 dflt : Int} {x : Int} (h1 : ¬ x = a) (h2 : ¬ x = b) (h3 : ¬ x = c) : Op.lookupswitch.offset (#[(a, o1), (b, o2), (c, o3)] : Array (Int × Int)).toList dflt x = dflt := by
  simp [Op.lookupswitch.offset, h1, h2, h3, Ne.symm h1, Ne.symm h2, Ne.symm h3]
