/-! pure level: a law's COND -/
/-- an E of a text, and its code -/
def EqE (tk : Nat → Int32) (N p q : Nat) (cd ci : Nat → Int32) (fr to : Nat) : Prop :=
  p ≤ q ∧ q < N ∧ (∀ j, j < q - p → consT (tk (p + j)) (depE tk p j)) ∧ depE tk p (q - p) = 0 ∧ stopT (tk q) ∧ okE cd ci fr to ∧ ∀ w, (evE tk w p (q - p)).1 0 + (evE tk w p (q - p)).2 0 = valM cd ci w fr to
/-- a COND of a text from p on, and the relations that were told of it -/
def ChE (tk : Nat → Int32) (N : Nat) (rs rl rr re ro cd ci : Nat → Int32) : Nat → Nat → Nat → Prop
  | 0, _, _ => False
  | n + 1, k, p => ∃ q s l r e, rl k = nI l ∧ rr k = nI r ∧ re k = nI e ∧ EqE tk N p q cd ci l r ∧ (∃ z, z < 4 ∧ rs k = nI z ∧ tk q = nI (10024 + z)) ∧ EqE tk N (q + 1) s cd ci r e ∧
      ((n = 0 ∧ ¬ tk s = 10006 ∧ ¬ tk s = 10007) ∨ (¬ n = 0 ∧ ((tk s = 10006 ∧ ro (k + 1) = 1) ∨ (tk s = 10007 ∧ ro (k + 1) = 0)) ∧ ChE tk N rs rl rr re ro cd ci n (k + 1) (s + 1)))
def cmpM (z a b : Int32) : Bool := if z = 0 then decide (a = b) else if z = 1 then decide (¬ a = b) else if z = 2 then decide (¬ b ≤ a) else decide (¬ b < a)
def relV (rs rl rr re cd ci w : Nat → Int32) (k : Nat) : Bool := cmpM (rs k) (valM cd ci w (rl k).toNatClampNeg (rr k).toNatClampNeg) (valM cd ci w (rr k).toNatClampNeg (re k).toNatClampNeg)
/-- what a COND says -/
def chV (rs rl rr re ro cd ci w : Nat → Int32) : Nat → Nat → Bool → Bool
  | 0, _, b => b
  | n + 1, k, b => if n = 0 then (b && relV rs rl rr re cd ci w k) else if ro (k + 1) = 0 then chV rs rl rr re ro cd ci w n (k + 1) (b && relV rs rl rr re cd ci w k)
      else if (b && relV rs rl rr re cd ci w k) = true then true else chV rs rl rr re ro cd ci w n (k + 1) true
theorem b2_0 (b : Bool) : b2 b = 0 ↔ b = false := by cases b <;> simp [b2]
theorem tokenAtC {σ : CS} {L i : Nat} {Post : Int32 → CS → Prop} (hL : L < σ.2.2.1) (hN : (σ.2.2.2 L).2.1.1 ≤ 400) (hi : i < (σ.2.2.2 L).2.1.1) (hp : Post ((σ.2.2.2 L).2.1.2 i) σ) : wpC_X5_tokenAt σ L (nI i) Post := by
  refine ⟨fun z => absurd z (nI_pos (by omega)), fun _ => ⟨hL, hL, fun z => absurd z (nI_ge hi (by omega)), fun _ => ⟨hL, hL, vp_in_nI hi (by omega), ?_⟩⟩⟩
  rw [nI_clamp (by omega)]
  exact hp
theorem comparesC {σ : CS} {a b : Int32} {z : Nat} {Post : Int32 → CS → Prop} (hz : z < 4) (hp : Post (b2 (cmpM (nI z) a b)) σ) : wpC_X8_compares σ a (nI (10024 + z)) b Post := by
  have h4 : z = 0 ∨ z = 1 ∨ z = 2 ∨ z = 3 := by omega
  rcases h4 with e | e | e | e <;> subst e
  · have e1 : cmpM (nI 0) a b = decide (a = b) := by rw [cmpM, if_pos (by decide)]
    rw [e1, b2] at hp
    refine ⟨fun _ => ⟨fun c => ?_, fun c => ?_⟩, fun z => absurd z (by decide), fun z => absurd z (by decide), fun z => absurd z (by decide), fun z => absurd (by decide) z.1⟩
    · rw [if_pos (by simpa using c)] at hp; exact hp
    · rw [if_neg (by simpa using c)] at hp; exact hp
  · have e1 : cmpM (nI 1) a b = decide (¬ a = b) := by rw [cmpM, if_neg (by decide), if_pos (by decide)]
    rw [e1, b2] at hp
    refine ⟨fun z => absurd z (by decide), fun _ => ⟨fun c => ?_, fun c => ?_⟩, fun z => absurd z (by decide), fun z => absurd z (by decide), fun z => absurd (by decide) z.2.1⟩
    · rw [if_neg (by simpa using c)] at hp; exact hp
    · rw [if_pos (by simpa using c)] at hp; exact hp
  · have e1 : cmpM (nI 2) a b = decide (¬ b ≤ a) := by rw [cmpM, if_neg (by decide), if_neg (by decide), if_pos (by decide)]
    rw [e1, b2] at hp
    refine ⟨fun z => absurd z (by decide), fun z => absurd z (by decide), fun _ => ⟨fun c => ?_, fun c => ?_⟩, fun z => absurd z (by decide), fun z => absurd (by decide) z.2.2.1⟩
    · rw [if_neg (by simpa using c)] at hp; exact hp
    · rw [if_pos (by simpa using c)] at hp; exact hp
  · have e1 : cmpM (nI 3) a b = decide (¬ b < a) := by rw [cmpM, if_neg (by decide), if_neg (by decide), if_neg (by decide)]
    rw [e1, b2] at hp
    refine ⟨fun z => absurd z (by decide), fun z => absurd z (by decide), fun z => absurd z (by decide), fun _ => ⟨fun c => ?_, fun c => ?_⟩, fun z => absurd (by decide) z.2.2.2⟩
    · rw [if_neg (by simpa using c)] at hp; exact hp
    · rw [if_pos (by simpa using c)] at hp; exact hp
theorem nar_b2 (b : Bool) : narrow .boolean (.int (b2 b)) = .int (b2 b) := by cases b <;> decide
theorem holdsLoopC {σ : CS} {L : Nat} {rs rl rr re ro cd ci : Nat → Int32} {Post : Int32 → CS → Prop} (hL : L < σ.2.2.1) (hN : (σ.2.2.2 L).2.1.1 ≤ 400) :
    ∀ n k p i b f g, ChE (σ.2.2.2 L).2.1.2 (σ.2.2.2 L).2.1.1 rs rl rr re ro cd ci n k p → 0 < p → i + n ≤ 399 → (∀ f g v, Post (b2 (chV rs rl rr re ro cd ci (σ.2.1 32) n k b)) (scC σ f g v)) → wpC_X8_holds_12 Post (n + 1) (scC σ f g (nI (p - 1))) L (b2 b) (nI i) := by
  intro n
  induction n with
  | zero => intro k p i b f g h; exact absurd h id
  | succ n ih =>
    intro k p i b f g h hp hi hP
    obtain ⟨q, s, l, r, e, el, er, ee, E1, ⟨z, hz, ez, eq⟩, E2, tail⟩ := h
    obtain ⟨a1, a2, a3, a4, a5, a6, a7⟩ := E1
    obtain ⟨c1, c2, c3, c4, c5, c6, c7⟩ := E2
    have relE : relV rs rl rr re cd ci (σ.2.1 32) k = cmpM (nI z) (valM cd ci (σ.2.1 32) l r) (valM cd ci (σ.2.1 32) r e) := by
      have := c6.1
      have := c6.2.1
      have := a6.1
      rw [relV, ez, el, er, ee, nI_clamp (by omega), nI_clamp (by omega), nI_clamp (by omega)]
    refine ⟨fun z => absurd z (nI_ge (b := 400) (by omega) (by omega)), fun _ => ?_⟩
    have e1 : (scC σ f g (nI (p - 1))).1 623 + 1 = nI p := by
      show nI (p - 1) + 1 = _
      rw [nI_1]
      congr 1
      omega
    rw [e1]
    refine valueOfC (σ := scC σ f g (nI (p - 1))) hL hN a2 a1 a3 a4 a5 (fun f1 g1 => ?_)
    have ev : (evE ((scC σ f g (nI (p - 1))).2.2.2 L).2.1.2 ((scC σ f g (nI (p - 1))).2.1 32) p (q - p)).1 0 + (evE ((scC σ f g (nI (p - 1))).2.2.2 L).2.1.2 ((scC σ f g (nI (p - 1))).2.1 32) p (q - p)).2 0 = valM cd ci (σ.2.1 32) l r := a7 (σ.2.1 32)
    rw [ev, scC_2]
    refine ⟨hL, tokenAtC (σ := scC σ f1 g1 (nI q)) (i := q) hL hN a2 ?_⟩
    have e2 : (scC σ f1 g1 (nI q)).1 623 + 1 = nI (q + 1) := nI_1 q
    rw [e2]
    refine valueOfC (σ := scC σ f1 g1 (nI q)) hL hN c2 c1 c3 c4 c5 (fun f2 g2 => ?_)
    have ev2 : (evE ((scC σ f1 g1 (nI q)).2.2.2 L).2.1.2 ((scC σ f1 g1 (nI q)).2.1 32) (q + 1) (s - (q + 1))).1 0 + (evE ((scC σ f1 g1 (nI q)).2.2.2 L).2.1.2 ((scC σ f1 g1 (nI q)).2.1 32) (q + 1) (s - (q + 1))).2 0 = valM cd ci (σ.2.1 32) r e := c7 (σ.2.1 32)
    rw [ev2, scC_2]
    have etk : ((scC σ f1 g1 (nI q)).2.2.2 L).2.1.2 q = nI (10024 + z) := eq
    rw [etk]
    have h77 : ∀ x : Bool, x = (b && relV rs rl rr re cd ci (σ.2.1 32) k) → wpC_X8_holds_77 (fun a0 a1 a2 a3 => wpC_X8_holds_12 Post (n + 1) a0 a1 a2 a3) Post (scC σ f2 g2 (nI s)) L (nI i) (b2 x) := by
      intro x hx
      refine ⟨hL, tokenAtC (σ := scC σ f2 g2 (nI s)) (i := s) hL hN c2 ?_⟩
      have ets : ((scC σ f2 g2 (nI s)).2.2.2 L).2.1.2 s = (σ.2.2.2 L).2.1.2 s := rfl
      rw [ets]
      rcases tail with ⟨n0, t1, t2⟩ | ⟨n0, t1, t2⟩
      · subst n0
        have hP := hP f2 g2 (nI s)
        rw [chV, if_pos rfl, ← hx] at hP
        refine ⟨fun y => absurd y t2, fun _ => ⟨fun y => ⟨fun y2 => absurd y2 t1, fun _ => ⟨nar_b2 x, hP⟩⟩, fun y => ⟨nar_b2 x, hP⟩⟩⟩
      · rcases t1 with ⟨t3, t4⟩ | ⟨t3, t4⟩
        · rw [t3]
          refine ⟨fun y => absurd y (by decide), fun _ => ⟨fun y => ⟨fun _ => ?_, fun y2 => absurd rfl y2⟩, fun y => ⟨nar_b2 x, ?_⟩⟩⟩
          · rintro _ rfl
            rw [nI_1]
            have hx0 := (b2_0 x).mp y
            refine ih (k + 1) (s + 1) (i + 1) true f2 g2 t2 (by omega) (by omega) (fun f3 g3 v3 => ?_)
            have hP := hP f3 g3 v3
            rw [chV, if_neg n0, if_neg (by rw [t4]; decide), ← hx, hx0, if_neg (by decide)] at hP
            exact hP
          · have hx1 : x = true := by cases x with
              | true => rfl
              | false => exact absurd rfl y
            have hP := hP f2 g2 (nI s)
            rw [chV, if_neg n0, if_neg (by rw [t4]; decide), ← hx, if_pos hx1] at hP
            rw [hx1]
            exact hP
        · rw [t3]
          refine ⟨fun _ => ?_, fun y => absurd rfl y⟩
          rintro _ rfl
          rw [nI_1]
          refine ih (k + 1) (s + 1) (i + 1) x f2 g2 t2 (by omega) (by omega) (fun f3 g3 v3 => ?_)
          have hP := hP f3 g3 v3
          rw [chV, if_neg n0, if_pos t4, ← hx] at hP
          exact hP
    refine ⟨fun y => ?_, fun y => comparesC hz ⟨fun y2 => ?_, fun y2 => ?_⟩⟩
    · have hb := (b2_0 b).mp y
      exact h77 false (by rw [hb]; rfl)
    · have hb : b = true := by cases b with
        | true => rfl
        | false => exact absurd rfl y
      have := (b2_0 _).mp y2
      exact h77 false (by rw [hb, relE, this]; rfl)
    · have hb : b = true := by cases b with
        | true => rfl
        | false => exact absurd rfl y
      have hc : cmpM (nI z) (valM cd ci (σ.2.1 32) l r) (valM cd ci (σ.2.1 32) r e) = true := by
        cases hc : cmpM (nI z) (valM cd ci (σ.2.1 32) l r) (valM cd ci (σ.2.1 32) r e) with
        | true => rfl
        | false => rw [hc] at y2; exact absurd rfl y2
      exact h77 true (by rw [hb, relE, hc]; rfl)
theorem holdsC {σ : CS} {L n k p : Nat} {rs rl rr re ro cd ci : Nat → Int32} {Post : Int32 → CS → Prop} (hL : L < σ.2.2.1) (hN : (σ.2.2.2 L).2.1.1 ≤ 400) (h : ChE (σ.2.2.2 L).2.1.2 (σ.2.2.2 L).2.1.1 rs rl rr re ro cd ci n k p) (hp : 0 < p) (hpp : p < 1000) (hn : n ≤ 200)
    (hP : ∀ f g v, Post (b2 (chV rs rl rr re ro cd ci (σ.2.1 32) n k true)) (scC σ f g v)) : wpC_X8_holds σ L (nI p) Post := by
  rintro _ rfl
  refine ⟨n + 1, ?_⟩
  have e : cF σ 623 (nI p - 1) = scC σ (σ.2.1 33) (σ.2.1 34) (nI (p - 1)) := by
    have e1 : nI p - 1 = nI (p - 1) := pk_sub (b := 1) (by omega)
    rw [e1]
    have e2 := cA_self σ 33
    have e3 : cA (cA σ 33 (σ.2.1 33)) 34 (σ.2.1 34) = σ := by rw [e2]; exact cA_self σ 34
    rw [scC, e3]
  rw [e]
  exact holdsLoopC hL hN n k p 0 true _ _ h hp (by omega) hP
