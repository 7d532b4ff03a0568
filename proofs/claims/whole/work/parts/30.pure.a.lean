/-! the pure level: bytes of the tape -/
theorem cF_same (σ : CS) (k : Nat) (v w : Int32) : cF (cF σ k v) k w = cF σ k w := by
  show (va_up (va_up σ.1 k v) k w, σ.2) = _
  rw [bx_uu]
  rfl
theorem mF_same (σ : MS) (k : Nat) (v w : Int32) : mF (mF σ k v) k w = mF σ k w := by
  show (va_up (va_up σ.1 k v) k w, σ.2) = _
  rw [bx_uu]
  rfl
theorem cA_same (σ : CS) (j : Nat) (f g : Nat → Int32) : cA (cA σ j f) j g = cA σ j g := by
  show (σ.1, va_up (va_up σ.2.1 j f) j g, σ.2.2) = _
  rw [bx_uu]
  rfl
theorem mA_same (σ : MS) (j : Nat) (f g : Nat → Int32) : mA (mA σ j f) j g = mA σ j g := by
  show (σ.1, va_up (va_up σ.2.1 j f) j g, σ.2.2) = _
  rw [bx_uu]
  rfl
/-- the byte of w at a shift -/
def byB (w k : Int32) : Int32 := vp_nar .byte ((w >>> (k &&& 31)).toInt8.toInt32)
def byP (f : Nat → Int32) (n : Nat) (w : Int32) : Nat → Int32 := upd (upd (upd (upd f n (byB w 24)) (n + 1) (byB w 16)) (n + 2) (byB w 8)) (n + 3) (byB w 0)
/-- the tape with four bytes more -/
def byM (σ : MS) (n : Nat) (w : Int32) : MS := mF (mA σ 1 (byP (σ.2.1 1) n w)) 2 (nI (n + 4))
def byC (σ : CS) (n : Nat) (w : Int32) : CS := cF (cA σ 2 (byP (σ.2.1 2) n w)) 21 (nI (n + 4))
theorem putM_step {Post : MS → Prop} {g n : Nat} {σ : MS} {w k : Int32} {f : Nat → Int32} (k2 : Int32) (h : σ.1 2 = nI n) (hn : n < 2000) (hf : σ.2.1 1 = f) (hk : ¬ k < 0) (hk2 : k + (-8) = k2) (hw : wpM_put_3 Post g (mF (mA σ 1 (upd f n (byB w k))) 2 (nI (n + 1))) w k2) : wpM_put_3 Post (g + 1) σ w k := by
  subst hf
  subst hk2
  refine ⟨fun c => absurd c hk, fun _ => ⟨by rw [h]; exact vp_in_nI hn (by omega), ?_⟩⟩
  rw [h, nI_clamp (by omega)]
  intro σ2 e2 σ4 e4 y ey
  have e : σ4 = mF (mA σ 1 (upd (σ.2.1 1) n (byB w k))) 2 (nI (n + 1)) := by
    rw [e4, e2]
    show mF _ 2 (σ.1 2 + 1) = _
    rw [h, nI_1]
    rfl
  rw [e, ey]
  exact hw
theorem tw_M (σ : MS) (f f' : Nat → Int32) (v v' : Int32) : mF (mA (mF (mA σ 1 f) 2 v) 1 f') 2 v' = mF (mA σ 1 f') 2 v' := by
  show (va_up (va_up σ.1 2 v) 2 v', va_up (va_up σ.2.1 1 f) 1 f', σ.2.2) = _
  rw [bx_uu, bx_uu]
  rfl
theorem tw_C (σ : CS) (f f' : Nat → Int32) (v v' : Int32) : cF (cA (cF (cA σ 2 f) 21 v) 2 f') 21 v' = cF (cA σ 2 f') 21 v' := by
  show (va_up (va_up σ.1 21 v) 21 v', va_up (va_up σ.2.1 2 f) 2 f', σ.2.2) = _
  rw [bx_uu, bx_uu]
  rfl
theorem putM {Post : MS → Prop} {n : Nat} {σ : MS} {w : Int32} (h : σ.1 2 = nI n) (hn : n + 4 ≤ 2000) (hp : Post (byM σ n w)) : wpM_put σ w Post := by
  refine ⟨5, putM_step 16 h (by omega) rfl (by decide) (by decide) (putM_step 8 (n := n + 1) rfl (by omega) rfl (by decide) (by decide) (putM_step 0 (n := n + 2) rfl (by omega) rfl (by decide) (by decide) (putM_step (-8) (n := n + 3) rfl (by omega) rfl (by decide) (by decide) ⟨fun _ => ?_, fun c => absurd (by decide) c⟩)))⟩
  rw [tw_M, tw_M, tw_M]
  exact hp
theorem appC_step {Post : CS → Prop} {g n : Nat} {σ : CS} {w k : Int32} {f : Nat → Int32} (k2 : Int32) (h : σ.1 21 = nI n) (hn : n < 2000) (hf : σ.2.1 2 = f) (hk : ¬ k < 0) (hk2 : k + (-8) = k2) (hw : wpC_X9_append_3 Post g (cF (cA σ 2 (upd f n (byB w k))) 21 (nI (n + 1))) w k2) : wpC_X9_append_3 Post (g + 1) σ w k := by
  subst hf
  subst hk2
  refine ⟨fun c => absurd c hk, fun _ => ⟨fun c => ?_, fun _ => ⟨by rw [h]; exact vp_in_nI hn (by omega), ?_⟩⟩⟩
  · rw [h] at c
    exact absurd c (nI_ge hn (by decide))
  · rw [h, nI_clamp (by omega)]
    intro σ2 e2 σ4 e4 y ey
    have e : σ4 = cF (cA σ 2 (upd (σ.2.1 2) n (byB w k))) 21 (nI (n + 1)) := by
      rw [e4, e2]
      show cF _ 21 (σ.1 21 + 1) = _
      rw [h, nI_1]
      rfl
    rw [e, ey]
    exact hw
theorem appC {Post : CS → Prop} {n : Nat} {σ : CS} {w : Int32} (h : σ.1 21 = nI n) (hn : n + 4 ≤ 2000) (hp : Post (byC σ n w)) : wpC_X9_append σ w Post := by
  refine ⟨5, appC_step 16 h (by omega) rfl (by decide) (by decide) (appC_step 8 (n := n + 1) rfl (by omega) rfl (by decide) (by decide) (appC_step 0 (n := n + 2) rfl (by omega) rfl (by decide) (by decide) (appC_step (-8) (n := n + 3) rfl (by omega) rfl (by decide) (by decide) ⟨fun _ => ?_, fun c => absurd (by decide) c⟩)))⟩
  rw [tw_C, tw_C, tw_C]
  exact hp
