theorem xH.assoc {D : va_G} {A : Nat → Prop} {s : State} {a b c : va_W} {H : Heap} {locs : List Loc} (h : xH D A s ((a ++ b) ++ c) H locs) : xH D A s (a ++ (b ++ c)) H locs := by
  rw [← List.append_assoc]
  exact h
theorem x_vretG {p : Program} {l : Launch} {e : Env} {R : Room} {s : State} {m : MethodId} {args : Array Value} {below : List Frame} {meth : Method} {c : Code} {H : Heap} {locs : List Loc} {cells slots : Nat} {cc : ByteArray} {own : String} {nL : Nat} {D : va_G} {cy : Nat → ClassId} {A : Nat → Prop} {pc : Nat} {ls : Array Slot} {S : Type} {WW : S → va_W} {u : S} {Post : S → Prop} (E : xE cc own nL none D cy p s m args meth c) (h : xH D A s (WW u) H locs) (hw : Post u) (hdg : decode cc pc = .ok (.return_, 1)) :
    W p l e R s m args below meth c H locs cells slots (MQ below (va_Qv Post (xB D cy WW A) A) args s cells slots A) (F0 m pc ls []) :=
  W.vret E.1 E.2.1 E.2.2.2.2.2.2.2.1 (fun t ht hW => ⟨⟨u, rfl, hw, by rw [ht]; exact h.1, va_K.moved hW.alike E.2.2.2.2.2.2.1, h.2.1⟩, h.2.2.1.F ht⟩) h.2.2.1.2.2 hdg (hlocks := E.2.2.2.2.2.2.2.2)
theorem x_iretG {p : Program} {l : Launch} {e : Env} {R : Room} {s : State} {m : MethodId} {args : Array Value} {below : List Frame} {meth : Method} {c : Code} {H : Heap} {locs : List Loc} {cells slots : Nat} {cc : ByteArray} {own : String} {nL : Nat} {D : va_G} {cy : Nat → ClassId} {A : Nat → Prop} {pc : Nat} {ls : Array Slot} {S : Type} {WW : S → va_W} {u : S} {v : Int32} {Post : Int32 → S → Prop} (E : xE cc own nL (some .int) D cy p s m args meth c) (h : xH D A s (WW u) H locs) (hw : Post v u) (hdg : decode cc pc = .ok (.ireturn, 1)) :
    W p l e R s m args below meth c H locs cells slots (MQ below (va_Qi Post (xB D cy WW A) A) args s cells slots A) (F0 m pc ls [.int v]) :=
  W.iret E.1 E.2.1 E.2.2.2.2.2.2.2.1 (fun t ht hW => ⟨⟨v, u, rfl, hw, by rw [ht]; exact h.1, va_K.moved hW.alike E.2.2.2.2.2.2.1, h.2.1⟩, h.2.2.1.F ht⟩) h.2.2.1.2.2 hdg (hlocks := E.2.2.2.2.2.2.2.2)
theorem loX11 : Cond.methodLink RX11 7 objectInit ∈ wsA := wsA_mem 945 (by decide +kernel) (by decide +kernel)
theorem fkX11_13 : Cond.fieldLink RX11 13 (TX11 1).1 (TX11 1).2.1 (TX11 1).2.2.1 ∈ wsA := wsA_mem 953 (by decide +kernel) (by decide +kernel)
theorem fkX11_17 : Cond.fieldLink RX11 17 (TX11 3).1 (TX11 3).2.1 (TX11 3).2.2.1 ∈ wsA := wsA_mem 955 (by decide +kernel) (by decide +kernel)
theorem fkX11_20 : Cond.fieldLink RX11 20 (TX11 5).1 (TX11 5).2.1 (TX11 5).2.2.1 ∈ wsA := wsA_mem 957 (by decide +kernel) (by decide +kernel)
theorem fkX11_24 : Cond.fieldLink RX11 24 (TX11 6).1 (TX11 6).2.1 (TX11 6).2.2.1 ∈ wsA := wsA_mem 958 (by decide +kernel) (by decide +kernel)
theorem fkX11_27 : Cond.fieldLink RX11 27 (TX11 7).1 (TX11 7).2.1 (TX11 7).2.2.1 ∈ wsA := wsA_mem 959 (by decide +kernel) (by decide +kernel)
theorem fkX11_30 : Cond.fieldLink RX11 30 (TX11 8).1 (TX11 8).2.1 (TX11 8).2.2.1 ∈ wsA := wsA_mem 960 (by decide +kernel) (by decide +kernel)
theorem fkX11_34 : Cond.fieldLink RX11 34 (TX11 9).1 (TX11 9).2.1 (TX11 9).2.2.1 ∈ wsA := wsA_mem 961 (by decide +kernel) (by decide +kernel)
theorem fkX11_37 : Cond.fieldLink RX11 37 (TX11 17).1 (TX11 17).2.1 (TX11 17).2.2.1 ∈ wsA := wsA_mem 968 (by decide +kernel) (by decide +kernel)
theorem fkX11_40 : Cond.fieldLink RX11 40 (TX11 20).1 (TX11 20).2.1 (TX11 20).2.2.1 ∈ wsA := wsA_mem 971 (by decide +kernel) (by decide +kernel)
theorem fkX11_43 : Cond.fieldLink RX11 43 (TX11 21).1 (TX11 21).2.1 (TX11 21).2.2.1 ∈ wsA := wsA_mem 972 (by decide +kernel) (by decide +kernel)
theorem fkX11_46 : Cond.fieldLink RX11 46 (TX11 22).1 (TX11 22).2.1 (TX11 22).2.2.1 ∈ wsA := wsA_mem 973 (by decide +kernel) (by decide +kernel)
theorem fkX11_49 : Cond.fieldLink RX11 49 (TX11 23).1 (TX11 23).2.1 (TX11 23).2.2.1 ∈ wsA := wsA_mem 974 (by decide +kernel) (by decide +kernel)
theorem fkX11_52 : Cond.fieldLink RX11 52 (TX11 24).1 (TX11 24).2.1 (TX11 24).2.2.1 ∈ wsA := wsA_mem 975 (by decide +kernel) (by decide +kernel)
theorem fkX11_55 : Cond.fieldLink RX11 55 (TX11 25).1 (TX11 25).2.1 (TX11 25).2.2.1 ∈ wsA := wsA_mem 976 (by decide +kernel) (by decide +kernel)
theorem fkX11_58 : Cond.fieldLink RX11 58 (TX11 26).1 (TX11 26).2.1 (TX11 26).2.2.1 ∈ wsA := wsA_mem 977 (by decide +kernel) (by decide +kernel)
theorem fkX11_61 : Cond.fieldLink RX11 61 (TX11 27).1 (TX11 27).2.1 (TX11 27).2.2.1 ∈ wsA := wsA_mem 978 (by decide +kernel) (by decide +kernel)
theorem fkX11_64 : Cond.fieldLink RX11 64 (TX11 28).1 (TX11 28).2.1 (TX11 28).2.2.1 ∈ wsA := wsA_mem 979 (by decide +kernel) (by decide +kernel)
theorem fkX11_67 : Cond.fieldLink RX11 67 (TX11 29).1 (TX11 29).2.1 (TX11 29).2.2.1 ∈ wsA := wsA_mem 980 (by decide +kernel) (by decide +kernel)
theorem fkX11_70 : Cond.fieldLink RX11 70 (TX11 30).1 (TX11 30).2.1 (TX11 30).2.2.1 ∈ wsA := wsA_mem 981 (by decide +kernel) (by decide +kernel)
theorem fkX11_73 : Cond.fieldLink RX11 73 (TX11 31).1 (TX11 31).2.1 (TX11 31).2.2.1 ∈ wsA := wsA_mem 982 (by decide +kernel) (by decide +kernel)
theorem fkX11_76 : Cond.fieldLink RX11 76 (TX11 32).1 (TX11 32).2.1 (TX11 32).2.2.1 ∈ wsA := wsA_mem 983 (by decide +kernel) (by decide +kernel)
theorem fkX11_79 : Cond.fieldLink RX11 79 (TX11 33).1 (TX11 33).2.1 (TX11 33).2.2.1 ∈ wsA := wsA_mem 984 (by decide +kernel) (by decide +kernel)
theorem fkX11_82 : Cond.fieldLink RX11 82 (TX11 34).1 (TX11 34).2.1 (TX11 34).2.2.1 ∈ wsA := wsA_mem 985 (by decide +kernel) (by decide +kernel)
theorem fkX11_86 : Cond.fieldLink RX11 86 (TX11 36).1 (TX11 36).2.1 (TX11 36).2.2.1 ∈ wsA := wsA_mem 987 (by decide +kernel) (by decide +kernel)
theorem fkX11_89 : Cond.fieldLink RX11 89 (TX11 37).1 (TX11 37).2.1 (TX11 37).2.2.1 ∈ wsA := wsA_mem 988 (by decide +kernel) (by decide +kernel)
theorem fkX11_92 : Cond.fieldLink RX11 92 (TX11 38).1 (TX11 38).2.1 (TX11 38).2.2.1 ∈ wsA := wsA_mem 989 (by decide +kernel) (by decide +kernel)
theorem fkX11_95 : Cond.fieldLink RX11 95 (TX11 41).1 (TX11 41).2.1 (TX11 41).2.2.1 ∈ wsA := wsA_mem 992 (by decide +kernel) (by decide +kernel)
theorem fkX11_98 : Cond.fieldLink RX11 98 (TX11 42).1 (TX11 42).2.1 (TX11 42).2.2.1 ∈ wsA := wsA_mem 993 (by decide +kernel) (by decide +kernel)
theorem fkX11_101 : Cond.fieldLink RX11 101 (TX11 43).1 (TX11 43).2.1 (TX11 43).2.2.1 ∈ wsA := wsA_mem 994 (by decide +kernel) (by decide +kernel)
theorem fkX11_104 : Cond.fieldLink RX11 104 (TX11 44).1 (TX11 44).2.1 (TX11 44).2.2.1 ∈ wsA := wsA_mem 995 (by decide +kernel) (by decide +kernel)
theorem fkX11_107 : Cond.fieldLink RX11 107 (TX11 45).1 (TX11 45).2.1 (TX11 45).2.2.1 ∈ wsA := wsA_mem 996 (by decide +kernel) (by decide +kernel)
theorem fkX11_110 : Cond.fieldLink RX11 110 (TX11 47).1 (TX11 47).2.1 (TX11 47).2.2.1 ∈ wsA := wsA_mem 998 (by decide +kernel) (by decide +kernel)
theorem fkX11_113 : Cond.fieldLink RX11 113 (TX11 48).1 (TX11 48).2.1 (TX11 48).2.2.1 ∈ wsA := wsA_mem 999 (by decide +kernel) (by decide +kernel)
theorem fkX11_116 : Cond.fieldLink RX11 116 (TX11 49).1 (TX11 49).2.1 (TX11 49).2.2.1 ∈ wsA := wsA_mem 1000 (by decide +kernel) (by decide +kernel)
theorem fkX11_119 : Cond.fieldLink RX11 119 (TX11 50).1 (TX11 50).2.1 (TX11 50).2.2.1 ∈ wsA := wsA_mem 1001 (by decide +kernel) (by decide +kernel)
theorem fkX11_122 : Cond.fieldLink RX11 122 (TX11 51).1 (TX11 51).2.1 (TX11 51).2.2.1 ∈ wsA := wsA_mem 1002 (by decide +kernel) (by decide +kernel)
theorem fkX11_125 : Cond.fieldLink RX11 125 (TX11 52).1 (TX11 52).2.1 (TX11 52).2.2.1 ∈ wsA := wsA_mem 1003 (by decide +kernel) (by decide +kernel)
theorem fkX11_128 : Cond.fieldLink RX11 128 (TX11 54).1 (TX11 54).2.1 (TX11 54).2.2.1 ∈ wsA := wsA_mem 1005 (by decide +kernel) (by decide +kernel)
theorem fkX11_131 : Cond.fieldLink RX11 131 (TX11 55).1 (TX11 55).2.1 (TX11 55).2.2.1 ∈ wsA := wsA_mem 1006 (by decide +kernel) (by decide +kernel)
theorem fkX11_134 : Cond.fieldLink RX11 134 (TX11 56).1 (TX11 56).2.1 (TX11 56).2.2.1 ∈ wsA := wsA_mem 1007 (by decide +kernel) (by decide +kernel)
theorem fkX11_137 : Cond.fieldLink RX11 137 (TX11 58).1 (TX11 58).2.1 (TX11 58).2.2.1 ∈ wsA := wsA_mem 1009 (by decide +kernel) (by decide +kernel)
theorem fkX11_140 : Cond.fieldLink RX11 140 (TX11 59).1 (TX11 59).2.1 (TX11 59).2.2.1 ∈ wsA := wsA_mem 1010 (by decide +kernel) (by decide +kernel)
theorem fkX11_143 : Cond.fieldLink RX11 143 (TX11 60).1 (TX11 60).2.1 (TX11 60).2.2.1 ∈ wsA := wsA_mem 1011 (by decide +kernel) (by decide +kernel)
theorem fkX11_146 : Cond.fieldLink RX11 146 (TX11 61).1 (TX11 61).2.1 (TX11 61).2.2.1 ∈ wsA := wsA_mem 1012 (by decide +kernel) (by decide +kernel)
theorem fkX11_149 : Cond.fieldLink RX11 149 (TX11 62).1 (TX11 62).2.1 (TX11 62).2.2.1 ∈ wsA := wsA_mem 1013 (by decide +kernel) (by decide +kernel)
theorem fkX11_152 : Cond.fieldLink RX11 152 (TX11 63).1 (TX11 63).2.1 (TX11 63).2.2.1 ∈ wsA := wsA_mem 1014 (by decide +kernel) (by decide +kernel)
theorem fkX11_155 : Cond.fieldLink RX11 155 (TX11 64).1 (TX11 64).2.1 (TX11 64).2.2.1 ∈ wsA := wsA_mem 1015 (by decide +kernel) (by decide +kernel)
theorem fkX11_158 : Cond.fieldLink RX11 158 (TX11 65).1 (TX11 65).2.1 (TX11 65).2.2.1 ∈ wsA := wsA_mem 1016 (by decide +kernel) (by decide +kernel)
theorem fkX11_161 : Cond.fieldLink RX11 161 (TX11 66).1 (TX11 66).2.1 (TX11 66).2.2.1 ∈ wsA := wsA_mem 1017 (by decide +kernel) (by decide +kernel)
theorem fkX11_164 : Cond.fieldLink RX11 164 (TX11 67).1 (TX11 67).2.1 (TX11 67).2.2.1 ∈ wsA := wsA_mem 1018 (by decide +kernel) (by decide +kernel)
theorem fkX11_167 : Cond.fieldLink RX11 167 (TX11 68).1 (TX11 68).2.1 (TX11 68).2.2.1 ∈ wsA := wsA_mem 1019 (by decide +kernel) (by decide +kernel)
theorem fkX11_170 : Cond.fieldLink RX11 170 (TX11 69).1 (TX11 69).2.1 (TX11 69).2.2.1 ∈ wsA := wsA_mem 1020 (by decide +kernel) (by decide +kernel)
theorem fkX11_173 : Cond.fieldLink RX11 173 (TX11 70).1 (TX11 70).2.1 (TX11 70).2.2.1 ∈ wsA := wsA_mem 1021 (by decide +kernel) (by decide +kernel)
theorem fkX11_176 : Cond.fieldLink RX11 176 (TX11 71).1 (TX11 71).2.1 (TX11 71).2.2.1 ∈ wsA := wsA_mem 1022 (by decide +kernel) (by decide +kernel)
theorem fkX11_179 : Cond.fieldLink RX11 179 (TX11 72).1 (TX11 72).2.1 (TX11 72).2.2.1 ∈ wsA := wsA_mem 1023 (by decide +kernel) (by decide +kernel)
theorem fkX11_182 : Cond.fieldLink RX11 182 (TX11 73).1 (TX11 73).2.1 (TX11 73).2.2.1 ∈ wsA := wsA_mem 1024 (by decide +kernel) (by decide +kernel)
theorem fkX11_185 : Cond.fieldLink RX11 185 (TX11 74).1 (TX11 74).2.1 (TX11 74).2.2.1 ∈ wsA := wsA_mem 1025 (by decide +kernel) (by decide +kernel)
theorem fkX11_188 : Cond.fieldLink RX11 188 (TX11 75).1 (TX11 75).2.1 (TX11 75).2.2.1 ∈ wsA := wsA_mem 1026 (by decide +kernel) (by decide +kernel)
theorem fkX11_191 : Cond.fieldLink RX11 191 (TX11 76).1 (TX11 76).2.1 (TX11 76).2.2.1 ∈ wsA := wsA_mem 1027 (by decide +kernel) (by decide +kernel)
section MRows2
variable {p : Program} {l : Launch} {e : Env} {R : Room} {s : State} {m : MethodId} {args : Array Value} {below : List Frame} {meth : Method} {c : Code} {H : Heap} {locs : List Loc} {cells slots : Nat} {Q : State → Prop}
variable {cc : ByteArray} {nL : Nat} {ret : Option FieldType} {D : va_G} {cy : Nat → ClassId} {A : Nat → Prop} {q : Nat → Nat} {σ : MS} {pc : Nat} {ls : Array Slot} {rest : List Value}

theorem sM_7 (E : xE cc RX11 nL ret D cy p s m args meth c) (h : xH D A s (MW q cy σ) H locs) {i : Int32} {x : Int64} (hi : vp_in i 20) (hdg : decode cc pc = .ok (.lastore, 1)) (kk : ∀ (σ1 : MS) (H : Heap) (locs : List Loc), σ1 = mL σ 7 (vp_updL (σ.2.2 7) i.toNatClampNeg x) → xH D A s (MW q cy σ1) H locs → W p l e R s m args below meth c H locs cells slots Q (F0 m (pc + 1) ls (rest))) : W p l e R s m args below meth c H locs cells slots Q (F0 m pc ls (.long x :: .int i :: .ref (q 7) :: rest)) := x_last E h 7 (show (MW q cy σ)[7]? = some (q 7, .inl (cy 2, 20, .inr (.inl (σ.2.2 7)))) from rfl) (show (MW q cy σ).set 7 (q 7, .inl (cy 2, 20, .inr (.inl (vp_updL (σ.2.2 7) i.toNatClampNeg x)))) = MW q cy (mL σ 7 (vp_updL (σ.2.2 7) i.toNatClampNeg x)) from rfl) hi hdg (fun H1 locs1 h1 => kk _ H1 locs1 rfl h1)
theorem lX11_194 : Cond.methodLink RX11 194 yX11_word ∈ wsA := wsA_mem 946 (by decide +kernel) (by decide +kernel)
end MRows2
abbrev rM_init : Room := { frames := 2, cells := 57, slots := 26327, locals := 48 }
def MI0 : List Value := MOt (fun _ => 0) 0 (fun _ => 0)
theorem MI0_eq (q : Nat → Nat) : MOt (fun _ => 0) 0 q = MI0 := by
  apply List.map_congr_left
  intro k hk
  rw [mfv, mfv]
  by_cases h : mK k = 0
  · rw [if_pos h, if_pos h]
  · rw [if_neg h, if_neg h, if_neg (by omega), if_neg (by omega)]
theorem mfv_0 (c : Nat → Int32) (q : Nat → Nat) : mfv c 57 q 0 = .int (c 0) := by rw [mfv, (by decide +kernel : mK 0 = 0)]; rfl
theorem mfv_1 (c : Nat → Int32) (q : Nat → Nat) : mfv c 57 q 1 = .ref (q 1) := by rw [mfv, (by decide +kernel : mK 1 = 1)]; rfl
theorem mfv_2 (c : Nat → Int32) (q : Nat → Nat) : mfv c 57 q 2 = .int (c 2) := by rw [mfv, (by decide +kernel : mK 2 = 0)]; rfl
theorem mfv_3 (c : Nat → Int32) (q : Nat → Nat) : mfv c 57 q 3 = .ref (q 2) := by rw [mfv, (by decide +kernel : mK 3 = 2)]; rfl
theorem mfv_4 (c : Nat → Int32) (q : Nat → Nat) : mfv c 57 q 4 = .int (c 4) := by rw [mfv, (by decide +kernel : mK 4 = 0)]; rfl
theorem mfv_5 (c : Nat → Int32) (q : Nat → Nat) : mfv c 57 q 5 = .ref (q 3) := by rw [mfv, (by decide +kernel : mK 5 = 3)]; rfl
theorem mfv_6 (c : Nat → Int32) (q : Nat → Nat) : mfv c 57 q 6 = .ref (q 4) := by rw [mfv, (by decide +kernel : mK 6 = 4)]; rfl
theorem mfv_7 (c : Nat → Int32) (q : Nat → Nat) : mfv c 57 q 7 = .ref (q 5) := by rw [mfv, (by decide +kernel : mK 7 = 5)]; rfl
theorem mfv_8 (c : Nat → Int32) (q : Nat → Nat) : mfv c 57 q 8 = .ref (q 6) := by rw [mfv, (by decide +kernel : mK 8 = 6)]; rfl
theorem mfv_9 (c : Nat → Int32) (q : Nat → Nat) : mfv c 57 q 9 = .ref (q 7) := by rw [mfv, (by decide +kernel : mK 9 = 7)]; rfl
theorem mfv_10 (c : Nat → Int32) (q : Nat → Nat) : mfv c 57 q 10 = .int (c 10) := by rw [mfv, (by decide +kernel : mK 10 = 0)]; rfl
theorem mfv_11 (c : Nat → Int32) (q : Nat → Nat) : mfv c 57 q 11 = .int (c 11) := by rw [mfv, (by decide +kernel : mK 11 = 0)]; rfl
theorem mfv_12 (c : Nat → Int32) (q : Nat → Nat) : mfv c 57 q 12 = .int (c 12) := by rw [mfv, (by decide +kernel : mK 12 = 0)]; rfl
theorem mfv_13 (c : Nat → Int32) (q : Nat → Nat) : mfv c 57 q 13 = .int (c 13) := by rw [mfv, (by decide +kernel : mK 13 = 0)]; rfl
theorem mfv_14 (c : Nat → Int32) (q : Nat → Nat) : mfv c 57 q 14 = .int (c 14) := by rw [mfv, (by decide +kernel : mK 14 = 0)]; rfl
theorem mfv_15 (c : Nat → Int32) (q : Nat → Nat) : mfv c 57 q 15 = .int (c 15) := by rw [mfv, (by decide +kernel : mK 15 = 0)]; rfl
theorem mfv_16 (c : Nat → Int32) (q : Nat → Nat) : mfv c 57 q 16 = .int (c 16) := by rw [mfv, (by decide +kernel : mK 16 = 0)]; rfl
theorem mfv_17 (c : Nat → Int32) (q : Nat → Nat) : mfv c 57 q 17 = .int (c 17) := by rw [mfv, (by decide +kernel : mK 17 = 0)]; rfl
theorem mfv_18 (c : Nat → Int32) (q : Nat → Nat) : mfv c 57 q 18 = .int (c 18) := by rw [mfv, (by decide +kernel : mK 18 = 0)]; rfl
theorem mfv_19 (c : Nat → Int32) (q : Nat → Nat) : mfv c 57 q 19 = .int (c 19) := by rw [mfv, (by decide +kernel : mK 19 = 0)]; rfl
theorem mfv_20 (c : Nat → Int32) (q : Nat → Nat) : mfv c 57 q 20 = .ref (q 8) := by rw [mfv, (by decide +kernel : mK 20 = 8)]; rfl
theorem mfv_21 (c : Nat → Int32) (q : Nat → Nat) : mfv c 57 q 21 = .ref (q 9) := by rw [mfv, (by decide +kernel : mK 21 = 9)]; rfl
theorem mfv_22 (c : Nat → Int32) (q : Nat → Nat) : mfv c 57 q 22 = .ref (q 10) := by rw [mfv, (by decide +kernel : mK 22 = 10)]; rfl
theorem mfv_23 (c : Nat → Int32) (q : Nat → Nat) : mfv c 57 q 23 = .ref (q 11) := by rw [mfv, (by decide +kernel : mK 23 = 11)]; rfl
theorem mfv_24 (c : Nat → Int32) (q : Nat → Nat) : mfv c 57 q 24 = .ref (q 12) := by rw [mfv, (by decide +kernel : mK 24 = 12)]; rfl
theorem mfv_25 (c : Nat → Int32) (q : Nat → Nat) : mfv c 57 q 25 = .ref (q 13) := by rw [mfv, (by decide +kernel : mK 25 = 13)]; rfl
theorem mfv_26 (c : Nat → Int32) (q : Nat → Nat) : mfv c 57 q 26 = .ref (q 14) := by rw [mfv, (by decide +kernel : mK 26 = 14)]; rfl
theorem mfv_27 (c : Nat → Int32) (q : Nat → Nat) : mfv c 57 q 27 = .ref (q 15) := by rw [mfv, (by decide +kernel : mK 27 = 15)]; rfl
theorem mfv_28 (c : Nat → Int32) (q : Nat → Nat) : mfv c 57 q 28 = .ref (q 16) := by rw [mfv, (by decide +kernel : mK 28 = 16)]; rfl
theorem mfv_29 (c : Nat → Int32) (q : Nat → Nat) : mfv c 57 q 29 = .ref (q 17) := by rw [mfv, (by decide +kernel : mK 29 = 17)]; rfl
theorem mfv_30 (c : Nat → Int32) (q : Nat → Nat) : mfv c 57 q 30 = .ref (q 18) := by rw [mfv, (by decide +kernel : mK 30 = 18)]; rfl
theorem mfv_31 (c : Nat → Int32) (q : Nat → Nat) : mfv c 57 q 31 = .ref (q 19) := by rw [mfv, (by decide +kernel : mK 31 = 19)]; rfl
theorem mfv_32 (c : Nat → Int32) (q : Nat → Nat) : mfv c 57 q 32 = .ref (q 20) := by rw [mfv, (by decide +kernel : mK 32 = 20)]; rfl
theorem mfv_33 (c : Nat → Int32) (q : Nat → Nat) : mfv c 57 q 33 = .ref (q 21) := by rw [mfv, (by decide +kernel : mK 33 = 21)]; rfl
theorem mfv_34 (c : Nat → Int32) (q : Nat → Nat) : mfv c 57 q 34 = .ref (q 22) := by rw [mfv, (by decide +kernel : mK 34 = 22)]; rfl
theorem mfv_35 (c : Nat → Int32) (q : Nat → Nat) : mfv c 57 q 35 = .int (c 35) := by rw [mfv, (by decide +kernel : mK 35 = 0)]; rfl
theorem mfv_36 (c : Nat → Int32) (q : Nat → Nat) : mfv c 57 q 36 = .ref (q 23) := by rw [mfv, (by decide +kernel : mK 36 = 23)]; rfl
theorem mfv_37 (c : Nat → Int32) (q : Nat → Nat) : mfv c 57 q 37 = .ref (q 24) := by rw [mfv, (by decide +kernel : mK 37 = 24)]; rfl
theorem mfv_38 (c : Nat → Int32) (q : Nat → Nat) : mfv c 57 q 38 = .ref (q 25) := by rw [mfv, (by decide +kernel : mK 38 = 25)]; rfl
theorem mfv_39 (c : Nat → Int32) (q : Nat → Nat) : mfv c 57 q 39 = .int (c 39) := by rw [mfv, (by decide +kernel : mK 39 = 0)]; rfl
theorem mfv_40 (c : Nat → Int32) (q : Nat → Nat) : mfv c 57 q 40 = .int (c 40) := by rw [mfv, (by decide +kernel : mK 40 = 0)]; rfl
theorem mfv_41 (c : Nat → Int32) (q : Nat → Nat) : mfv c 57 q 41 = .ref (q 26) := by rw [mfv, (by decide +kernel : mK 41 = 26)]; rfl
theorem mfv_42 (c : Nat → Int32) (q : Nat → Nat) : mfv c 57 q 42 = .ref (q 27) := by rw [mfv, (by decide +kernel : mK 42 = 27)]; rfl
theorem mfv_43 (c : Nat → Int32) (q : Nat → Nat) : mfv c 57 q 43 = .ref (q 28) := by rw [mfv, (by decide +kernel : mK 43 = 28)]; rfl
theorem mfv_44 (c : Nat → Int32) (q : Nat → Nat) : mfv c 57 q 44 = .ref (q 29) := by rw [mfv, (by decide +kernel : mK 44 = 29)]; rfl
theorem mfv_45 (c : Nat → Int32) (q : Nat → Nat) : mfv c 57 q 45 = .ref (q 30) := by rw [mfv, (by decide +kernel : mK 45 = 30)]; rfl
theorem mfv_46 (c : Nat → Int32) (q : Nat → Nat) : mfv c 57 q 46 = .int (c 46) := by rw [mfv, (by decide +kernel : mK 46 = 0)]; rfl
theorem mfv_47 (c : Nat → Int32) (q : Nat → Nat) : mfv c 57 q 47 = .ref (q 31) := by rw [mfv, (by decide +kernel : mK 47 = 31)]; rfl
theorem mfv_48 (c : Nat → Int32) (q : Nat → Nat) : mfv c 57 q 48 = .ref (q 32) := by rw [mfv, (by decide +kernel : mK 48 = 32)]; rfl
theorem mfv_49 (c : Nat → Int32) (q : Nat → Nat) : mfv c 57 q 49 = .ref (q 33) := by rw [mfv, (by decide +kernel : mK 49 = 33)]; rfl
theorem mfv_50 (c : Nat → Int32) (q : Nat → Nat) : mfv c 57 q 50 = .ref (q 34) := by rw [mfv, (by decide +kernel : mK 50 = 34)]; rfl
theorem mfv_51 (c : Nat → Int32) (q : Nat → Nat) : mfv c 57 q 51 = .ref (q 35) := by rw [mfv, (by decide +kernel : mK 51 = 35)]; rfl
theorem mfv_52 (c : Nat → Int32) (q : Nat → Nat) : mfv c 57 q 52 = .ref (q 36) := by rw [mfv, (by decide +kernel : mK 52 = 36)]; rfl
theorem mfv_53 (c : Nat → Int32) (q : Nat → Nat) : mfv c 57 q 53 = .int (c 53) := by rw [mfv, (by decide +kernel : mK 53 = 0)]; rfl
theorem mfv_54 (c : Nat → Int32) (q : Nat → Nat) : mfv c 57 q 54 = .ref (q 37) := by rw [mfv, (by decide +kernel : mK 54 = 37)]; rfl
theorem mfv_55 (c : Nat → Int32) (q : Nat → Nat) : mfv c 57 q 55 = .ref (q 38) := by rw [mfv, (by decide +kernel : mK 55 = 38)]; rfl
theorem mfv_56 (c : Nat → Int32) (q : Nat → Nat) : mfv c 57 q 56 = .ref (q 39) := by rw [mfv, (by decide +kernel : mK 56 = 39)]; rfl
theorem mfv_57 (c : Nat → Int32) (q : Nat → Nat) : mfv c 57 q 57 = .int (c 57) := by rw [mfv, (by decide +kernel : mK 57 = 0)]; rfl
theorem mfv_58 (c : Nat → Int32) (q : Nat → Nat) : mfv c 57 q 58 = .ref (q 40) := by rw [mfv, (by decide +kernel : mK 58 = 40)]; rfl
theorem mfv_59 (c : Nat → Int32) (q : Nat → Nat) : mfv c 57 q 59 = .ref (q 41) := by rw [mfv, (by decide +kernel : mK 59 = 41)]; rfl
theorem mfv_60 (c : Nat → Int32) (q : Nat → Nat) : mfv c 57 q 60 = .ref (q 42) := by rw [mfv, (by decide +kernel : mK 60 = 42)]; rfl
theorem mfv_61 (c : Nat → Int32) (q : Nat → Nat) : mfv c 57 q 61 = .ref (q 43) := by rw [mfv, (by decide +kernel : mK 61 = 43)]; rfl
theorem mfv_62 (c : Nat → Int32) (q : Nat → Nat) : mfv c 57 q 62 = .ref (q 44) := by rw [mfv, (by decide +kernel : mK 62 = 44)]; rfl
theorem mfv_63 (c : Nat → Int32) (q : Nat → Nat) : mfv c 57 q 63 = .ref (q 45) := by rw [mfv, (by decide +kernel : mK 63 = 45)]; rfl
theorem mfv_64 (c : Nat → Int32) (q : Nat → Nat) : mfv c 57 q 64 = .int (c 64) := by rw [mfv, (by decide +kernel : mK 64 = 0)]; rfl
theorem mfv_65 (c : Nat → Int32) (q : Nat → Nat) : mfv c 57 q 65 = .ref (q 46) := by rw [mfv, (by decide +kernel : mK 65 = 46)]; rfl
theorem mfv_66 (c : Nat → Int32) (q : Nat → Nat) : mfv c 57 q 66 = .ref (q 47) := by rw [mfv, (by decide +kernel : mK 66 = 47)]; rfl
theorem mfv_67 (c : Nat → Int32) (q : Nat → Nat) : mfv c 57 q 67 = .ref (q 48) := by rw [mfv, (by decide +kernel : mK 67 = 48)]; rfl
theorem mfv_68 (c : Nat → Int32) (q : Nat → Nat) : mfv c 57 q 68 = .ref (q 49) := by rw [mfv, (by decide +kernel : mK 68 = 49)]; rfl
theorem mfv_69 (c : Nat → Int32) (q : Nat → Nat) : mfv c 57 q 69 = .ref (q 50) := by rw [mfv, (by decide +kernel : mK 69 = 50)]; rfl
theorem mfv_70 (c : Nat → Int32) (q : Nat → Nat) : mfv c 57 q 70 = .ref (q 51) := by rw [mfv, (by decide +kernel : mK 70 = 51)]; rfl
theorem mfv_71 (c : Nat → Int32) (q : Nat → Nat) : mfv c 57 q 71 = .ref (q 52) := by rw [mfv, (by decide +kernel : mK 71 = 52)]; rfl
theorem mfv_72 (c : Nat → Int32) (q : Nat → Nat) : mfv c 57 q 72 = .ref (q 53) := by rw [mfv, (by decide +kernel : mK 72 = 53)]; rfl
theorem mfv_73 (c : Nat → Int32) (q : Nat → Nat) : mfv c 57 q 73 = .ref (q 54) := by rw [mfv, (by decide +kernel : mK 73 = 54)]; rfl
theorem mfv_74 (c : Nat → Int32) (q : Nat → Nat) : mfv c 57 q 74 = .ref (q 55) := by rw [mfv, (by decide +kernel : mK 74 = 55)]; rfl
theorem mfv_75 (c : Nat → Int32) (q : Nat → Nat) : mfv c 57 q 75 = .ref (q 56) := by rw [mfv, (by decide +kernel : mK 75 = 56)]; rfl
theorem mfv_76 (c : Nat → Int32) (q : Nat → Nat) : mfv c 57 q 76 = .ref (q 57) := by rw [mfv, (by decide +kernel : mK 76 = 57)]; rfl
theorem mcl_1 (cy : Nat → ClassId) : mcl cy 1 = .inl (cy 0, 2000, .inl (fun _ => 0)) := by rw [mcl, (by decide +kernel : mTy 1 = 0), (by decide +kernel : mLn 1 = 2000)]; rfl
theorem mcl_2 (cy : Nat → ClassId) : mcl cy 2 = .inl (cy 0, 2000, .inl (fun _ => 0)) := by rw [mcl, (by decide +kernel : mTy 2 = 0), (by decide +kernel : mLn 2 = 2000)]; rfl
theorem mcl_3 (cy : Nat → ClassId) : mcl cy 3 = .inl (cy 1, 403, .inl (fun _ => 0)) := by rw [mcl, (by decide +kernel : mTy 3 = 1), (by decide +kernel : mLn 3 = 403)]; rfl
theorem mcl_4 (cy : Nat → ClassId) : mcl cy 4 = .inl (cy 1, 403, .inl (fun _ => 0)) := by rw [mcl, (by decide +kernel : mTy 4 = 1), (by decide +kernel : mLn 4 = 403)]; rfl
theorem mcl_5 (cy : Nat → ClassId) : mcl cy 5 = .inl (cy 1, 403, .inl (fun _ => 0)) := by rw [mcl, (by decide +kernel : mTy 5 = 1), (by decide +kernel : mLn 5 = 403)]; rfl
theorem mcl_6 (cy : Nat → ClassId) : mcl cy 6 = .inl (cy 2, 403, .inr (.inl (fun _ => 0))) := by rw [mcl, (by decide +kernel : mTy 6 = 2), (by decide +kernel : mLn 6 = 403)]; rfl
theorem mcl_7 (cy : Nat → ClassId) : mcl cy 7 = .inl (cy 2, 20, .inr (.inl (fun _ => 0))) := by rw [mcl, (by decide +kernel : mTy 7 = 2), (by decide +kernel : mLn 7 = 20)]; rfl
theorem mcl_8 (cy : Nat → ClassId) : mcl cy 8 = .inl (cy 1, 9, .inl (fun _ => 0)) := by rw [mcl, (by decide +kernel : mTy 8 = 1), (by decide +kernel : mLn 8 = 9)]; rfl
theorem mcl_9 (cy : Nat → ClassId) : mcl cy 9 = .inl (cy 1, 9, .inl (fun _ => 0)) := by rw [mcl, (by decide +kernel : mTy 9 = 1), (by decide +kernel : mLn 9 = 9)]; rfl
theorem mcl_10 (cy : Nat → ClassId) : mcl cy 10 = .inl (cy 1, 9, .inl (fun _ => 0)) := by rw [mcl, (by decide +kernel : mTy 10 = 1), (by decide +kernel : mLn 10 = 9)]; rfl
theorem mcl_11 (cy : Nat → ClassId) : mcl cy 11 = .inl (cy 1, 144, .inl (fun _ => 0)) := by rw [mcl, (by decide +kernel : mTy 11 = 1), (by decide +kernel : mLn 11 = 144)]; rfl
theorem mcl_12 (cy : Nat → ClassId) : mcl cy 12 = .inl (cy 1, 144, .inl (fun _ => 0)) := by rw [mcl, (by decide +kernel : mTy 12 = 1), (by decide +kernel : mLn 12 = 144)]; rfl
theorem mcl_13 (cy : Nat → ClassId) : mcl cy 13 = .inl (cy 1, 144, .inl (fun _ => 0)) := by rw [mcl, (by decide +kernel : mTy 13 = 1), (by decide +kernel : mLn 13 = 144)]; rfl
theorem mcl_14 (cy : Nat → ClassId) : mcl cy 14 = .inl (cy 1, 144, .inl (fun _ => 0)) := by rw [mcl, (by decide +kernel : mTy 14 = 1), (by decide +kernel : mLn 14 = 144)]; rfl
theorem mcl_15 (cy : Nat → ClassId) : mcl cy 15 = .inl (cy 1, 144, .inl (fun _ => 0)) := by rw [mcl, (by decide +kernel : mTy 15 = 1), (by decide +kernel : mLn 15 = 144)]; rfl
theorem mcl_16 (cy : Nat → ClassId) : mcl cy 16 = .inl (cy 1, 144, .inl (fun _ => 0)) := by rw [mcl, (by decide +kernel : mTy 16 = 1), (by decide +kernel : mLn 16 = 144)]; rfl
theorem mcl_17 (cy : Nat → ClassId) : mcl cy 17 = .inl (cy 1, 9, .inl (fun _ => 0)) := by rw [mcl, (by decide +kernel : mTy 17 = 1), (by decide +kernel : mLn 17 = 9)]; rfl
theorem mcl_18 (cy : Nat → ClassId) : mcl cy 18 = .inl (cy 1, 1800, .inl (fun _ => 0)) := by rw [mcl, (by decide +kernel : mTy 18 = 1), (by decide +kernel : mLn 18 = 1800)]; rfl
theorem mcl_19 (cy : Nat → ClassId) : mcl cy 19 = .inl (cy 1, 1800, .inl (fun _ => 0)) := by rw [mcl, (by decide +kernel : mTy 19 = 1), (by decide +kernel : mLn 19 = 1800)]; rfl
theorem mcl_20 (cy : Nat → ClassId) : mcl cy 20 = .inl (cy 1, 1800, .inl (fun _ => 0)) := by rw [mcl, (by decide +kernel : mTy 20 = 1), (by decide +kernel : mLn 20 = 1800)]; rfl
theorem mcl_21 (cy : Nat → ClassId) : mcl cy 21 = .inl (cy 1, 1800, .inl (fun _ => 0)) := by rw [mcl, (by decide +kernel : mTy 21 = 1), (by decide +kernel : mLn 21 = 1800)]; rfl
theorem mcl_22 (cy : Nat → ClassId) : mcl cy 22 = .inl (cy 3, 1800, .inl (fun _ => 0)) := by rw [mcl, (by decide +kernel : mTy 22 = 3), (by decide +kernel : mLn 22 = 1800)]; rfl
theorem mcl_23 (cy : Nat → ClassId) : mcl cy 23 = .inl (cy 1, 4500, .inl (fun _ => 0)) := by rw [mcl, (by decide +kernel : mTy 23 = 1), (by decide +kernel : mLn 23 = 4500)]; rfl
theorem mcl_24 (cy : Nat → ClassId) : mcl cy 24 = .inl (cy 1, 4500, .inl (fun _ => 0)) := by rw [mcl, (by decide +kernel : mTy 24 = 1), (by decide +kernel : mLn 24 = 4500)]; rfl
theorem mcl_25 (cy : Nat → ClassId) : mcl cy 25 = .inl (cy 1, 48, .inl (fun _ => 0)) := by rw [mcl, (by decide +kernel : mTy 25 = 1), (by decide +kernel : mLn 25 = 48)]; rfl
theorem mcl_26 (cy : Nat → ClassId) : mcl cy 26 = .inl (cy 1, 12, .inl (fun _ => 0)) := by rw [mcl, (by decide +kernel : mTy 26 = 1), (by decide +kernel : mLn 26 = 12)]; rfl
theorem mcl_27 (cy : Nat → ClassId) : mcl cy 27 = .inl (cy 1, 12, .inl (fun _ => 0)) := by rw [mcl, (by decide +kernel : mTy 27 = 1), (by decide +kernel : mLn 27 = 12)]; rfl
theorem mcl_28 (cy : Nat → ClassId) : mcl cy 28 = .inl (cy 1, 12, .inl (fun _ => 0)) := by rw [mcl, (by decide +kernel : mTy 28 = 1), (by decide +kernel : mLn 28 = 12)]; rfl
theorem mcl_29 (cy : Nat → ClassId) : mcl cy 29 = .inl (cy 1, 144, .inl (fun _ => 0)) := by rw [mcl, (by decide +kernel : mTy 29 = 1), (by decide +kernel : mLn 29 = 144)]; rfl
theorem mcl_30 (cy : Nat → ClassId) : mcl cy 30 = .inl (cy 1, 15, .inl (fun _ => 0)) := by rw [mcl, (by decide +kernel : mTy 30 = 1), (by decide +kernel : mLn 30 = 15)]; rfl
theorem mcl_31 (cy : Nat → ClassId) : mcl cy 31 = .inl (cy 1, 10, .inl (fun _ => 0)) := by rw [mcl, (by decide +kernel : mTy 31 = 1), (by decide +kernel : mLn 31 = 10)]; rfl
theorem mcl_32 (cy : Nat → ClassId) : mcl cy 32 = .inl (cy 1, 10, .inl (fun _ => 0)) := by rw [mcl, (by decide +kernel : mTy 32 = 1), (by decide +kernel : mLn 32 = 10)]; rfl
theorem mcl_33 (cy : Nat → ClassId) : mcl cy 33 = .inl (cy 1, 10, .inl (fun _ => 0)) := by rw [mcl, (by decide +kernel : mTy 33 = 1), (by decide +kernel : mLn 33 = 10)]; rfl
theorem mcl_34 (cy : Nat → ClassId) : mcl cy 34 = .inl (cy 1, 10, .inl (fun _ => 0)) := by rw [mcl, (by decide +kernel : mTy 34 = 1), (by decide +kernel : mLn 34 = 10)]; rfl
theorem mcl_35 (cy : Nat → ClassId) : mcl cy 35 = .inl (cy 1, 10, .inl (fun _ => 0)) := by rw [mcl, (by decide +kernel : mTy 35 = 1), (by decide +kernel : mLn 35 = 10)]; rfl
theorem mcl_36 (cy : Nat → ClassId) : mcl cy 36 = .inl (cy 1, 10, .inl (fun _ => 0)) := by rw [mcl, (by decide +kernel : mTy 36 = 1), (by decide +kernel : mLn 36 = 10)]; rfl
theorem mcl_37 (cy : Nat → ClassId) : mcl cy 37 = .inl (cy 1, 20, .inl (fun _ => 0)) := by rw [mcl, (by decide +kernel : mTy 37 = 1), (by decide +kernel : mLn 37 = 20)]; rfl
theorem mcl_38 (cy : Nat → ClassId) : mcl cy 38 = .inl (cy 1, 20, .inl (fun _ => 0)) := by rw [mcl, (by decide +kernel : mTy 38 = 1), (by decide +kernel : mLn 38 = 20)]; rfl
theorem mcl_39 (cy : Nat → ClassId) : mcl cy 39 = .inl (cy 1, 20, .inl (fun _ => 0)) := by rw [mcl, (by decide +kernel : mTy 39 = 1), (by decide +kernel : mLn 39 = 20)]; rfl
theorem mcl_40 (cy : Nat → ClassId) : mcl cy 40 = .inl (cy 1, 200, .inl (fun _ => 0)) := by rw [mcl, (by decide +kernel : mTy 40 = 1), (by decide +kernel : mLn 40 = 200)]; rfl
theorem mcl_41 (cy : Nat → ClassId) : mcl cy 41 = .inl (cy 1, 200, .inl (fun _ => 0)) := by rw [mcl, (by decide +kernel : mTy 41 = 1), (by decide +kernel : mLn 41 = 200)]; rfl
theorem mcl_42 (cy : Nat → ClassId) : mcl cy 42 = .inl (cy 1, 200, .inl (fun _ => 0)) := by rw [mcl, (by decide +kernel : mTy 42 = 1), (by decide +kernel : mLn 42 = 200)]; rfl
theorem mcl_43 (cy : Nat → ClassId) : mcl cy 43 = .inl (cy 1, 200, .inl (fun _ => 0)) := by rw [mcl, (by decide +kernel : mTy 43 = 1), (by decide +kernel : mLn 43 = 200)]; rfl
theorem mcl_44 (cy : Nat → ClassId) : mcl cy 44 = .inl (cy 1, 12, .inl (fun _ => 0)) := by rw [mcl, (by decide +kernel : mTy 44 = 1), (by decide +kernel : mLn 44 = 12)]; rfl
theorem mcl_45 (cy : Nat → ClassId) : mcl cy 45 = .inl (cy 1, 500, .inl (fun _ => 0)) := by rw [mcl, (by decide +kernel : mTy 45 = 1), (by decide +kernel : mLn 45 = 500)]; rfl
theorem mcl_46 (cy : Nat → ClassId) : mcl cy 46 = .inl (cy 1, 10, .inl (fun _ => 0)) := by rw [mcl, (by decide +kernel : mTy 46 = 1), (by decide +kernel : mLn 46 = 10)]; rfl
theorem mcl_47 (cy : Nat → ClassId) : mcl cy 47 = .inl (cy 1, 10, .inl (fun _ => 0)) := by rw [mcl, (by decide +kernel : mTy 47 = 1), (by decide +kernel : mLn 47 = 10)]; rfl
theorem mcl_48 (cy : Nat → ClassId) : mcl cy 48 = .inl (cy 1, 10, .inl (fun _ => 0)) := by rw [mcl, (by decide +kernel : mTy 48 = 1), (by decide +kernel : mLn 48 = 10)]; rfl
theorem mcl_49 (cy : Nat → ClassId) : mcl cy 49 = .inl (cy 3, 10, .inl (fun _ => 0)) := by rw [mcl, (by decide +kernel : mTy 49 = 3), (by decide +kernel : mLn 49 = 10)]; rfl
theorem mcl_50 (cy : Nat → ClassId) : mcl cy 50 = .inl (cy 1, 10, .inl (fun _ => 0)) := by rw [mcl, (by decide +kernel : mTy 50 = 1), (by decide +kernel : mLn 50 = 10)]; rfl
theorem mcl_51 (cy : Nat → ClassId) : mcl cy 51 = .inl (cy 1, 10, .inl (fun _ => 0)) := by rw [mcl, (by decide +kernel : mTy 51 = 1), (by decide +kernel : mLn 51 = 10)]; rfl
theorem mcl_52 (cy : Nat → ClassId) : mcl cy 52 = .inl (cy 1, 10, .inl (fun _ => 0)) := by rw [mcl, (by decide +kernel : mTy 52 = 1), (by decide +kernel : mLn 52 = 10)]; rfl
theorem mcl_53 (cy : Nat → ClassId) : mcl cy 53 = .inl (cy 1, 10, .inl (fun _ => 0)) := by rw [mcl, (by decide +kernel : mTy 53 = 1), (by decide +kernel : mLn 53 = 10)]; rfl
theorem mcl_54 (cy : Nat → ClassId) : mcl cy 54 = .inl (cy 1, 10, .inl (fun _ => 0)) := by rw [mcl, (by decide +kernel : mTy 54 = 1), (by decide +kernel : mLn 54 = 10)]; rfl
theorem mcl_55 (cy : Nat → ClassId) : mcl cy 55 = .inl (cy 1, 10, .inl (fun _ => 0)) := by rw [mcl, (by decide +kernel : mTy 55 = 1), (by decide +kernel : mLn 55 = 10)]; rfl
theorem mcl_56 (cy : Nat → ClassId) : mcl cy 56 = .inl (cy 3, 10, .inl (fun _ => 0)) := by rw [mcl, (by decide +kernel : mTy 56 = 3), (by decide +kernel : mLn 56 = 10)]; rfl
theorem mcl_57 (cy : Nat → ClassId) : mcl cy 57 = .inl (cy 1, 10, .inl (fun _ => 0)) := by rw [mcl, (by decide +kernel : mTy 57 = 1), (by decide +kernel : mLn 57 = 10)]; rfl
theorem rng77 : List.range 77 = (0 :: 1 :: 2 :: 3 :: 4 :: 5 :: 6 :: 7 :: 8 :: 9 :: 10 :: 11 :: 12 :: 13 :: 14 :: 15 :: 16 :: 17 :: 18 :: 19 :: 20 :: 21 :: 22 :: 23 :: 24 :: 25 :: 26 :: 27 :: 28 :: 29 :: 30 :: 31 :: 32 :: 33 :: 34 :: 35 :: 36 :: 37 :: 38 :: 39 :: 40 :: 41 :: 42 :: 43 :: 44 :: 45 :: 46 :: 47 :: 48 :: 49 :: 50 :: 51 :: 52 :: 53 :: 54 :: 55 :: 56 :: 57 :: 58 :: 59 :: 60 :: 61 :: 62 :: 63 :: 64 :: 65 :: 66 :: 67 :: 68 :: 69 :: 70 :: 71 :: 72 :: 73 :: 74 :: 75 :: 76 :: []) := by decide +kernel
theorem rng57 : List.range 57 = (0 :: 1 :: 2 :: 3 :: 4 :: 5 :: 6 :: 7 :: 8 :: 9 :: 10 :: 11 :: 12 :: 13 :: 14 :: 15 :: 16 :: 17 :: 18 :: 19 :: 20 :: 21 :: 22 :: 23 :: 24 :: 25 :: 26 :: 27 :: 28 :: 29 :: 30 :: 31 :: 32 :: 33 :: 34 :: 35 :: 36 :: 37 :: 38 :: 39 :: 40 :: 41 :: 42 :: 43 :: 44 :: 45 :: 46 :: 47 :: 48 :: 49 :: 50 :: 51 :: 52 :: 53 :: 54 :: 55 :: 56 :: []) := by decide +kernel
set_option maxRecDepth 20000 in
theorem MOt_end (c : Nat → Int32) (q : Nat → Nat) : MOt c 57 q = MO q (c, fun _ _ => 0, fun _ _ => 0) := by
  rw [MOt, rng77]
  simp only [List.map_cons, List.map_nil, mfv_0, mfv_1, mfv_2, mfv_3, mfv_4, mfv_5, mfv_6, mfv_7, mfv_8, mfv_9, mfv_10, mfv_11, mfv_12, mfv_13, mfv_14, mfv_15, mfv_16, mfv_17, mfv_18, mfv_19, mfv_20, mfv_21, mfv_22, mfv_23, mfv_24, mfv_25, mfv_26, mfv_27, mfv_28, mfv_29, mfv_30, mfv_31, mfv_32, mfv_33, mfv_34, mfv_35, mfv_36, mfv_37, mfv_38, mfv_39, mfv_40, mfv_41, mfv_42, mfv_43, mfv_44, mfv_45, mfv_46, mfv_47, mfv_48, mfv_49, mfv_50, mfv_51, mfv_52, mfv_53, mfv_54, mfv_55, mfv_56, mfv_57, mfv_58, mfv_59, mfv_60, mfv_61, mfv_62, mfv_63, mfv_64, mfv_65, mfv_66, mfv_67, mfv_68, mfv_69, mfv_70, mfv_71, mfv_72, mfv_73, mfv_74, mfv_75, mfv_76]
  rfl
set_option maxRecDepth 20000 in
theorem MWt_end (c : Nat → Int32) (q : Nat → Nat) (cy : Nat → ClassId) : MWt c 57 q cy = MW q cy (c, fun _ _ => 0, fun _ _ => 0) := by
  rw [MWt, MOt_end, rng57]
  simp only [List.map_cons, List.map_nil, Nat.reduceAdd, mcl_1, mcl_2, mcl_3, mcl_4, mcl_5, mcl_6, mcl_7, mcl_8, mcl_9, mcl_10, mcl_11, mcl_12, mcl_13, mcl_14, mcl_15, mcl_16, mcl_17, mcl_18, mcl_19, mcl_20, mcl_21, mcl_22, mcl_23, mcl_24, mcl_25, mcl_26, mcl_27, mcl_28, mcl_29, mcl_30, mcl_31, mcl_32, mcl_33, mcl_34, mcl_35, mcl_36, mcl_37, mcl_38, mcl_39, mcl_40, mcl_41, mcl_42, mcl_43, mcl_44, mcl_45, mcl_46, mcl_47, mcl_48, mcl_49, mcl_50, mcl_51, mcl_52, mcl_53, mcl_54, mcl_55, mcl_56, mcl_57]
  rfl
