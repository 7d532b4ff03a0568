/-! pure level: promise, person, gaps -/

theorem areTwoC {σ : CS} {n : Nat} {a b : Int32} {Post : Int32 → CS → Prop} (hn : σ.1 165 = nI n) (hnn : n < 2 ^ 31) (h1 : isN a n → isN b n → ¬ a = b → Post 1 σ) (h0 : ¬ (isN a n ∧ isN b n ∧ ¬ a = b) → Post 0 σ) : wpC_X10_areTwoPersons σ a b Post := by
  refine hasC hn hnn (fun hA => ⟨fun y => absurd y (by decide), fun _ => hasC hn hnn (fun hB => ⟨fun y => absurd y (by decide), fun _ => ⟨fun y => h0 (fun w => w.2.2 y), fun y => h1 hA hB y⟩⟩) (fun hB => ⟨fun _ => h0 (fun w => hB w.2.1), fun y => absurd rfl y⟩)⟩) (fun hA => ⟨fun _ => h0 (fun w => hA w.1), fun y => absurd rfl y⟩)
theorem isPlaceC {σ : CS} {c : Int32} {Post : Int32 → CS → Prop} (h1 : ¬ c < 0 → ¬ 3 < c → Post 1 σ) (h0 : ¬ (¬ c < 0 ∧ ¬ 3 < c) → Post 0 σ) : wpC_X10_isPlace σ c Post :=
  ⟨fun y => h0 (fun w => w.1 y), fun y => ⟨fun z => h0 (fun w => w.2 (by grind)), fun z => h1 y (by grind)⟩⟩
theorem isConditionC {σ : CS} {c : Int32} {Post : Int32 → CS → Prop} (h1 : ¬ c < 0 → ¬ 5 < c → Post 1 σ) (h0 : ¬ (¬ c < 0 ∧ ¬ 5 < c) → Post 0 σ) : wpC_X10_isCondition σ c Post :=
  ⟨fun y => h0 (fun w => w.1 y), fun y => ⟨fun z => h0 (fun w => w.2 (by grind)), fun z => h1 y (by grind)⟩⟩

def prC (σ : CS) (n : Nat) (a b c d e f : Int32) : CS := cF (cA (cA (cA (cA (cA (cA σ 15 (upd (σ.2.1 15) n a)) 16 (upd (σ.2.1 16) n b)) 17 (upd (σ.2.1 17) n c)) 18 (upd (σ.2.1 18) n d)) 19 (upd (σ.2.1 19) n e)) 20 (upd (σ.2.1 20) n f)) 286 (nI (n + 1))
def prM (σ : MS) (n : Nat) (a b c d e f : Int32) : MS := mF (mF (mA (mA (mA (mA (mA (mA σ 31 (upd (σ.2.1 31) n a)) 32 (upd (σ.2.1 32) n b)) 33 (upd (σ.2.1 33) n c)) 34 (upd (σ.2.1 34) n d)) 35 (upd (σ.2.1 35) n e)) 36 (upd (σ.2.1 36) n f)) 46 (nI (n + 1))) 64 (-1)
theorem promAddC {σ : CS} {n : Nat} {a b c d e f : Int32} {Post : Int32 → CS → Prop} (hx : σ.1 286 = nI n) (hn : n ≤ 10) (h1 : n < 10 → Post (nI n) (prC σ n a b c d e f)) (h0 : ¬ n < 10 → Post (-1) σ) : wpC_X7_add σ a b c d e f Post := by
  have q : σ.1 286 < 10 ↔ n < 10 := by rw [hx]; exact nI_ltI (b := 10) (by omega) (by omega)
  refine ⟨fun z => ?_, fun z => h0 (fun y => z (q.mpr y))⟩
  have hv : vp_in (σ.1 286) 10 := by rw [hx]; exact vp_in_nI (q.mp z) (by omega)
  refine ⟨hv, ?_⟩
  rintro _ rfl
  refine ⟨hv, ?_⟩
  rintro _ rfl
  refine ⟨hv, ?_⟩
  rintro _ rfl
  refine ⟨hv, ?_⟩
  rintro _ rfl
  refine ⟨hv, ?_⟩
  rintro _ rfl
  refine ⟨hv, ?_⟩
  rintro _ rfl
  rintro _ rfl
  have h1 := h1 (q.mp z)
  show Post (σ.1 286 + 1 - 1) (cF (cA (cA (cA (cA (cA (cA σ 15 (upd (σ.2.1 15) (σ.1 286).toNatClampNeg a)) 16 (upd (σ.2.1 16) (σ.1 286).toNatClampNeg b)) 17 (upd (σ.2.1 17) (σ.1 286).toNatClampNeg c)) 18 (upd (σ.2.1 18) (σ.1 286).toNatClampNeg d)) 19 (upd (σ.2.1 19) (σ.1 286).toNatClampNeg e)) 20 (upd (σ.2.1 20) (σ.1 286).toNatClampNeg f)) 286 (σ.1 286 + 1))
  rw [hx, nI_clamp (by omega), nI_m1, nI_1]
  exact h1

theorem promiseC {σ : CS} {n np : Nat} {a b c d e f : Int32} {Post : Int32 → CS → Prop} (hn : σ.1 165 = nI n) (hnn : n ≤ 12) (hp : σ.1 286 = nI np) (hpn : np ≤ 10) (h1 : np < 10 → ¬ a < 0 → ¬ nI n ≤ a → ¬ b < 0 → ¬ nI n ≤ b → ¬ a = b → ¬ c < 0 → ¬ 3 < c → ¬ d < 0 → ¬ 9999 < d → ¬ e < 0 → ¬ 1 < e → ¬ f < -1 → f ≤ 5 → Post (nI np) (prC σ np a b c d e f)) (h0 : ¬ (np < 10 ∧ ¬ a < 0 ∧ ¬ nI n ≤ a ∧ ¬ b < 0 ∧ ¬ nI n ≤ b ∧ ¬ a = b ∧ ¬ c < 0 ∧ ¬ 3 < c ∧ ¬ d < 0 ∧ ¬ 9999 < d ∧ ¬ e < 0 ∧ ¬ 1 < e ∧ ¬ f < -1 ∧ f ≤ 5) → Post (-1) σ) : wpC_X10_promise σ a b c d e f Post := by
  have ad := promAddC (σ := σ) (a := a) (b := b) (c := c) (d := d) (e := e) (f := f) (Post := Post) hp hpn
  refine areTwoC hn (by omega) (fun hA hB a5 => ?_) (fun hA => ⟨fun _ => h0 (fun w => hA ⟨isN_of rfl (by omega) w.2.1 w.2.2.1, isN_of rfl (by omega) w.2.2.2.1 w.2.2.2.2.1, w.2.2.2.2.2.1⟩), fun y => absurd rfl y⟩)
  have a1 := isN_lt (by omega) hA
  have a2 := isN_le rfl (by omega) hA
  have a3 := isN_lt (by omega) hB
  have a4 := isN_le rfl (by omega) hB
  refine ⟨fun y => absurd y (by decide), fun _ => isPlaceC (fun a6 a7 => ?_) (fun y => ⟨fun _ => h0 (fun w => y ⟨w.2.2.2.2.2.2.1, w.2.2.2.2.2.2.2.1⟩), fun y => absurd rfl y⟩)⟩
  refine ⟨fun y => absurd y (by decide), fun _ => isDayC (fun hD => ⟨fun y => absurd y (by decide), fun _ => ?_⟩) (fun hD => ⟨fun _ => h0 (fun w => hD ?_), fun y => absurd rfl y⟩)⟩
  · have a8 : ¬ d < 0 := by have := hD.1; rw [Int32.lt_iff_toInt_lt, i0]; omega
    have a9 : ¬ 9999 < d := by have := hD.2; rw [Int32.lt_iff_toInt_lt, i9999]; omega
    refine ⟨fun y => h0 (fun w => w.2.2.2.2.2.2.2.2.2.2.1 y), fun a10 => ⟨fun a11 => ⟨fun y => ?_, fun y => isConditionC (fun b1 b2 => ⟨fun y => absurd y (by decide), fun _ => ?_⟩) (fun b1 => ⟨fun _ => h0 (fun w => b1 ?_), fun y => absurd rfl y⟩)⟩, fun y => h0 (fun w => ?_)⟩⟩
    · exact ad (fun lt => h1 lt a1 a2 a3 a4 a5 a6 a7 a8 a9 a10 (by grind) (by grind) (by grind)) (fun lt => h0 (fun w => lt w.1))
    · exact ad (fun lt => h1 lt a1 a2 a3 a4 a5 a6 a7 a8 a9 a10 (by grind) (by grind) (by grind)) (fun lt => h0 (fun w => lt w.1))
    · have b2 := w.2.2.2.2.2.2.2.2.2.2.2.2.1
      have b3 := w.2.2.2.2.2.2.2.2.2.2.2.2.2
      exact ⟨by grind, by grind⟩
    · have b2 := w.2.2.2.2.2.2.2.2.2.2.2.1
      grind
  · have b1 := w.2.2.2.2.2.2.2.2.1
    have b2 := w.2.2.2.2.2.2.2.2.2.1
    rw [Int32.lt_iff_toInt_lt, i0] at b1
    rw [Int32.lt_iff_toInt_lt, i9999] at b2
    exact ⟨by omega, by omega⟩

theorem promiseM {σ : MS} {n np : Nat} {a b c d e f : Int32} {Post : Int32 → MS → Prop} (hn : σ.1 40 = nI n) (hnn : n ≤ 12) (hp : σ.1 46 = nI np) (hpn : np ≤ 10) (h1 : np < 10 → ¬ a < 0 → ¬ nI n ≤ a → ¬ b < 0 → ¬ nI n ≤ b → ¬ a = b → ¬ c < 0 → ¬ 3 < c → ¬ d < 0 → ¬ 9999 < d → ¬ e < 0 → ¬ 1 < e → ¬ f < -1 → f ≤ 5 → Post (nI np) (prM σ np a b c d e f)) (h0 : ¬ (np < 10 ∧ ¬ a < 0 ∧ ¬ nI n ≤ a ∧ ¬ b < 0 ∧ ¬ nI n ≤ b ∧ ¬ a = b ∧ ¬ c < 0 ∧ ¬ 3 < c ∧ ¬ d < 0 ∧ ¬ 9999 < d ∧ ¬ e < 0 ∧ ¬ 1 < e ∧ ¬ f < -1 ∧ f ≤ 5) → Post (-1) σ) : wpM_promise σ a b c d e f Post := by
  have q : σ.1 46 = 10 ↔ ¬ np < 10 := by
    have := nI_eq (a := np) (b := 10) (by omega) (by omega)
    have e : nI 10 = 10 := rfl
    rw [e] at this
    rw [hp, this]
    omega
  refine ⟨fun z => h0 (fun y => q.mp z y.1), fun z => ?_⟩
  have hlt : np < 10 := Classical.byContradiction (fun y => z (q.mpr y))
  have hv : vp_in (σ.1 46) 10 := by rw [hp]; exact vp_in_nI hlt (by omega)
  have h1 := h1 hlt
  refine isPersonM hn (by omega) (fun hA => ?_) (fun hA => ⟨fun _ => h0 (fun y => hA (isN_of rfl (by omega) y.2.1 y.2.2.1)), fun y => absurd rfl y⟩)
  refine ⟨fun y => absurd y (by decide), fun _ => isPersonM hn (by omega) (fun hB => ?_) (fun hB => ⟨fun _ => h0 (fun y => hB (isN_of rfl (by omega) y.2.2.2.1 y.2.2.2.2.1)), fun y => absurd rfl y⟩)⟩
  have a1 := isN_lt (by omega) hA
  have a2 := isN_le rfl (by omega) hA
  have a3 := isN_lt (by omega) hB
  have a4 := isN_le rfl (by omega) hB
  have h1 := h1 a1 a2 a3 a4
  refine ⟨fun y => absurd y (by decide), fun _ => ⟨fun y => h0 (fun w => w.2.2.2.2.2.1 y), fun a5 => ⟨fun y => h0 (fun w => w.2.2.2.2.2.2.1 y), fun a6 => ⟨fun y => h0 (fun w => w.2.2.2.2.2.2.2.1 y), fun a7 => ?_⟩⟩⟩⟩
  refine isDayM (fun hD => ⟨fun y => absurd y (by decide), fun _ => ?_⟩) (fun hD => ⟨fun _ => h0 (fun w => hD ?_), fun y => absurd rfl y⟩)
  · have a8 : ¬ d < 0 := by have := hD.1; rw [Int32.lt_iff_toInt_lt, i0]; omega
    have a9 : ¬ 9999 < d := by have := hD.2; rw [Int32.lt_iff_toInt_lt, i9999]; omega
    refine ⟨fun y => h0 (fun w => w.2.2.2.2.2.2.2.2.2.2.1 y), fun a10 => ⟨fun y => h0 (fun w => w.2.2.2.2.2.2.2.2.2.2.2.1 y), fun a11 => ⟨fun y => h0 (fun w => w.2.2.2.2.2.2.2.2.2.2.2.2.1 y), fun a12 => ⟨fun a13 => ?_, fun y => h0 (fun w => y w.2.2.2.2.2.2.2.2.2.2.2.2.2)⟩⟩⟩⟩
    have h1 := h1 a5 a6 a7 a8 a9 a10 a11 a12 a13
    refine ⟨hv, ?_⟩
    rintro _ rfl
    refine ⟨hv, ?_⟩
    rintro _ rfl
    refine ⟨hv, ?_⟩
    rintro _ rfl
    refine ⟨hv, ?_⟩
    rintro _ rfl
    refine ⟨hv, ?_⟩
    rintro _ rfl
    refine ⟨hv, ?_⟩
    rintro _ rfl
    rintro _ rfl _ rfl
    show Post (σ.1 46 + 1 - 1) (mF (mF (mA (mA (mA (mA (mA (mA σ 31 (upd (σ.2.1 31) (σ.1 46).toNatClampNeg a)) 32 (upd (σ.2.1 32) (σ.1 46).toNatClampNeg b)) 33 (upd (σ.2.1 33) (σ.1 46).toNatClampNeg c)) 34 (upd (σ.2.1 34) (σ.1 46).toNatClampNeg d)) 35 (upd (σ.2.1 35) (σ.1 46).toNatClampNeg e)) 36 (upd (σ.2.1 36) (σ.1 46).toNatClampNeg f)) 46 (σ.1 46 + 1)) 64 (-1))
    rw [hp, nI_clamp (by omega), nI_m1, nI_1]
    exact h1
  · have b1 := w.2.2.2.2.2.2.2.2.1
    have b2 := w.2.2.2.2.2.2.2.2.2.1
    rw [Int32.lt_iff_toInt_lt, i0] at b1
    rw [Int32.lt_iff_toInt_lt, i9999] at b2
    exact ⟨by omega, by omega⟩
