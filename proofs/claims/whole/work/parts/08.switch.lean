theorem x_look3 {a b c : Int} {o1 o2 o3 dflt : Int} {x : Int} (h1 : ¬ x = a) (h2 : ¬ x = b) (h3 : ¬ x = c) : Op.lookupswitch.offset (#[(a, o1), (b, o2), (c, o3)] : Array (Int × Int)).toList dflt x = dflt := by
  simp [Op.lookupswitch.offset, h1, h2, h3, Ne.symm h1, Ne.symm h2, Ne.symm h3]
