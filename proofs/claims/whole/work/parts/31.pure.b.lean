/-! the pure level: feed, back, count's and place's answers -/
def isB (x : Int32) : Prop := x.toInt8.toInt32 = x
theorem byB_is (w k : Int32) : isB (byB w k) := by
  rw [isB, byB, vp_nar_byte]
  have h := pk_vb (w >>> (k &&& 31))
  rw [vp_nar_byte] at h
  rw [h, h]
/-- both tapes hold the same n bytes -/
def ITn (n : Nat) (σx : CS) (σm : MS) : Prop := n ≤ 2000 ∧ σx.1 21 = nI n ∧ σm.1 2 = nI n ∧ ∀ j, j < n → σx.2.1 2 j = σm.2.1 1 j ∧ isB (σm.2.1 1 j)
theorem upd_at (f : Nat → Int32) (k : Nat) (x : Int32) (j : Nat) : upd f k x j = if j = k then x else f j := rfl
theorem ITn_by {n : Nat} {σx : CS} {σm : MS} (w : Int32) (h : ITn n σx σm) (hn : n + 4 ≤ 2000) : ITn (n + 4) (byC σx n w) (byM σm n w) := by
  obtain ⟨h1, h2, h3, h4⟩ := h
  refine ⟨hn, rfl, rfl, fun j hj => ?_⟩
  show byP (σx.2.1 2) n w j = byP (σm.2.1 1) n w j ∧ isB (byP (σm.2.1 1) n w j)
  simp only [byP, upd_at]
  by_cases e3 : j = n + 3
  · simp only [if_pos e3]
    exact ⟨trivial, byB_is _ _⟩
  by_cases e2 : j = n + 2
  · simp only [if_neg e3, if_pos e2]
    exact ⟨trivial, byB_is _ _⟩
  by_cases e1 : j = n + 1
  · simp only [if_neg e3, if_neg e2, if_pos e1]
    exact ⟨trivial, byB_is _ _⟩
  by_cases e0 : j = n
  · simp only [if_neg e3, if_neg e2, if_neg e1, if_pos e0]
    exact ⟨trivial, byB_is _ _⟩
  · simp only [if_neg e3, if_neg e2, if_neg e1, if_neg e0]
    exact h4 j (by omega)
def by5C (σ : CS) (n : Nat) (a b c d e : Int32) : CS := byC (byC (byC (byC (byC σ n a) (n + 4) b) (n + 8) c) (n + 12) d) (n + 16) e
def by5M (σ : MS) (n : Nat) (a b c d e : Int32) : MS := byM (byM (byM (byM (byM σ n a) (n + 4) b) (n + 8) c) (n + 12) d) (n + 16) e
theorem ITn_by5 {n : Nat} {σx : CS} {σm : MS} (a b c d e : Int32) (h : ITn n σx σm) (hn : n + 20 ≤ 2000) : ITn (n + 20) (by5C σx n a b c d e) (by5M σm n a b c d e) :=
  ITn_by (n := n + 16) e (ITn_by (n := n + 12) d (ITn_by (n := n + 8) c (ITn_by (n := n + 4) b (ITn_by a h (by omega)) (by omega)) (by omega)) (by omega)) (by omega)
theorem feed_le {n : Nat} {x : Int32} (h : x = nI n) (hn : n ≤ 2000) : x + 20 ≤ 2000 ↔ n + 20 ≤ 2000 := by
  rw [h]
  exact (by rw [show nI n + 20 = nI (n + 20) from nI_add n 20]; exact nI_leI (b := 2000) (by omega) (by omega))
theorem feed_ok {n : Nat} {σx : CS} {σm : MS} {a b c d e : Int32} {Q : Int32 → CS → Int32 → MS → Prop} (h : ITn n σx σm) (h1 : n + 20 ≤ 2000 → Q (nI (n + 20)) (by5C σx n a b c d e) (nI (n + 20)) (by5M σm n a b c d e)) (h2 : Q (-1) σx (-1) σm) :
    wpC_X10_feed σx a b c d e (fun r τ => wpM_feed σm a b c d e (fun r2 τ2 => Q r τ r2 τ2)) := by
  obtain ⟨hn, hx, hm, hb⟩ := h
  refine ⟨fun c1 => ?_, fun c1 => ⟨fun c2 => absurd ((feed_le hx hn).mpr ((feed_le hm hn).mp c2)) c1, fun _ => h2⟩⟩
  have h20 := (feed_le hx hn).mp c1
  refine appC hx (by omega) (appC (n := n + 4) rfl (by omega) (appC (n := n + 8) rfl (by omega) (appC (n := n + 12) rfl (by omega) (appC (n := n + 16) rfl (by omega) ?_))))
  refine ⟨fun _ => ?_, fun c2 => absurd ((feed_le hm hn).mpr h20) c2⟩
  exact putM hm (by omega) (putM (n := n + 4) rfl (by omega) (putM (n := n + 8) rfl (by omega) (putM (n := n + 12) rfl (by omega) (putM (n := n + 16) rfl (by omega) (h1 h20)))))
theorem back_ok {n : Nat} {σx : CS} {σm : MS} {a : Int32} {Q : Int32 → CS → Int32 → MS → Prop} (h : ITn n σx σm) (h1 : ∀ k, k ≤ n → a = nI k → Q (nI (n - k)) (cF σx 21 (nI (n - k))) (nI (n - k)) (mF σm 2 (nI (n - k)))) (h2 : Q (-1) σx (-1) σm) :
    wpC_X10_back σx a (fun r τ => wpM_back σm a (fun r2 τ2 => Q r τ r2 τ2)) := by
  obtain ⟨hn, hx, hm, hb⟩ := h
  refine ⟨fun c1 => ⟨fun _ => h2, fun c2 => absurd c1 c2⟩, fun c1 => ⟨fun c2 => ?_, fun c2 => ⟨fun c3 => absurd c3 c1, fun _ => ⟨fun c3 => absurd (by rw [hx, ← hm]; exact c3) c2, fun _ => h2⟩⟩⟩⟩
  obtain ⟨k, hk, rfl⟩ := nI_of c1
  have hkn : k ≤ n := by
    rw [hx] at c2
    exact (nI_leI (by omega) (by omega)).mp c2
  intro τ et
  have e1 : σx.1 21 - nI k = nI (n - k) := by rw [hx]; exact pk_sub hkn
  have e2 : σm.1 2 - nI k = nI (n - k) := by rw [hm]; exact pk_sub hkn
  rw [e1] at et
  subst et
  refine ⟨fun c3 => absurd c3 c1, fun _ => ⟨fun _ τ2 et2 => ?_, fun c3 => absurd (by rw [hm, ← hx]; exact c2) c3⟩⟩
  rw [e2] at et2
  subst et2
  exact h1 k hkn rfl
theorem ITn_back {n k : Nat} {σx : CS} {σm : MS} (h : ITn n σx σm) : ITn (n - k) (cF σx 21 (nI (n - k))) (mF σm 2 (nI (n - k))) := by
  obtain ⟨h1, h2, h3, h4⟩ := h
  exact ⟨by omega, rfl, rfl, fun j hj => h4 j (by omega)⟩
