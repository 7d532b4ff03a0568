/-! pure level: calls that tell -/
/-- what holds but for the tape -/
def IR (np npr nf nl ng : Nat) (σx : CS) (σm : MS) : Prop := σx.1 9 = σm.1 17 ∧ BH np npr nf nl σx σm ∧ IGif ng npr σx σm ∧ IGo np npr nf nl σm ∧ IKey σm ∧ ILB nl σm
theorem IR_by {np npr nf nl ng n : Nat} {σx : CS} {σm : MS} {w : Int32} (h : IR np npr nf nl ng σx σm) : IR np npr nf nl ng (byC σx n w) (byM σm n w) := by
  obtain ⟨h2, h3, h4, h5, h6, h7⟩ := h
  refine ⟨h2, h3, h4, IGo_rows (σ := σm) (fun j hj => ?_) (fun j j1 j2 => ?_) rfl h5, h6, h7⟩
  · show (if j = 1 then _ else σm.2.1 j) = σm.2.1 j
    rw [if_neg]
    rintro rfl
    unfold uz at hj
    omega
  · show (if j = 1 then _ else σm.2.1 j) = σm.2.1 j
    rw [if_neg (by omega)]
theorem feed2 {nt np npr nf nl ng : Nat} {σx : CS} {σm : MS} {a b c d e : Int32} (H : InvP nt np npr nf nl ng σx σm) : wpC_X10_feed σx a b c d e (fun r τ => wpM_feed σm a b c d e (fun r2 τ2 => r = r2 ∧ Inv τ τ2)) :=
  feed_ok (Q := fun r τ r2 τ2 => r = r2 ∧ Inv τ τ2) H.1 (fun h20 => ⟨rfl, nt + 20, np, npr, nf, nl, ng, ITn_by5 a b c d e H.1 h20, IR_by (IR_by (IR_by (IR_by (IR_by H.2))))⟩) ⟨rfl, nt, np, npr, nf, nl, ng, H⟩
theorem back2 {nt np npr nf nl ng : Nat} {σx : CS} {σm : MS} {a : Int32} (H : InvP nt np npr nf nl ng σx σm) : wpC_X10_back σx a (fun r τ => wpM_back σm a (fun r2 τ2 => r = r2 ∧ Inv τ τ2)) := by
  refine back_ok (Q := fun r τ r2 τ2 => r = r2 ∧ Inv τ τ2) H.1 (fun k hk ea => ⟨rfl, nt - k, np, npr, nf, nl, ng, ITn_back H.1, ?_⟩) ⟨rfl, nt, np, npr, nf, nl, ng, H⟩
  obtain ⟨h1, h2, h3, h4, h5, h6, h7⟩ := H
  exact ⟨h2, h3, h4, IGo_rows (σ := σm) (fun j hj => rfl) (fun j j1 j2 => rfl) rfl h5, h6, h7⟩
theorem place2 {nt np npr nf nl ng : Nat} {σx : CS} {σm : MS} (H : InvP nt np npr nf nl ng σx σm) : wpC_X10_place σx (fun r τ => wpM_place σm (fun r2 τ2 => r = r2 ∧ Inv τ τ2)) := ⟨H.2.1, nt, np, npr, nf, nl, ng, H⟩
theorem count2 {nt np npr nf nl ng : Nat} {σx : CS} {σm : MS} {a : Int32} (H : InvP nt np npr nf nl ng σx σm) : wpC_X10_count σx a (fun r τ => wpM_count σm a (fun r2 τ2 => r = r2 ∧ Inv τ τ2)) := by
  have hI : Inv σx σm := ⟨nt, np, npr, nf, nl, ng, H⟩
  have e0 : σx.1 165 = σm.1 40 := H.2.2.1.1.2.1.trans H.2.2.1.1.2.2.1.symm
  have e1 : σx.1 286 = σm.1 46 := H.2.2.1.2.1.2.1.trans H.2.2.1.2.1.2.2.1.symm
  have e2 : σx.1 423 = σm.1 53 := H.2.2.2.1.2.1.trans H.2.2.2.1.2.2.1.symm
  have e3 : σx.1 504 = σm.1 57 := H.2.2.1.2.2.1.2.1.trans H.2.2.1.2.2.1.2.2.1.symm
  have e4 : σx.1 122 = σm.1 18 := H.2.2.1.2.2.2.2.1.trans H.2.2.1.2.2.2.2.2.1.symm
  have e5 : σx.1 21 = σm.1 2 := H.1.2.1.trans H.1.2.2.1.symm
  have hne : ∀ x y : Int32, x = y → ∀ P : Prop, ¬ x = y → P := fun x y h P q => absurd h q
  refine ⟨fun c => ?_, fun c => ?_, fun c => ?_, fun c => ?_, fun c => ?_, fun c => ?_, fun c => ⟨fun q => absurd q c.1, fun q => absurd q c.2.1, fun q => absurd q c.2.2.1, fun q => absurd q c.2.2.2.1, fun q => absurd q c.2.2.2.2.1, fun q => absurd q c.2.2.2.2.2, fun _ => ⟨rfl, hI⟩⟩⟩
  · subst c; exact ⟨fun _ => ⟨e0, hI⟩, fun q => absurd q (by decide), fun q => absurd q (by decide), fun q => absurd q (by decide), fun q => absurd q (by decide), fun q => absurd q (by decide), fun q => absurd rfl q.1⟩
  · subst c; exact ⟨fun q => absurd q (by decide), fun _ => ⟨e1, hI⟩, fun q => absurd q (by decide), fun q => absurd q (by decide), fun q => absurd q (by decide), fun q => absurd q (by decide), fun q => absurd rfl q.2.1⟩
  · subst c; exact ⟨fun q => absurd q (by decide), fun q => absurd q (by decide), fun _ => ⟨e2, hI⟩, fun q => absurd q (by decide), fun q => absurd q (by decide), fun q => absurd q (by decide), fun q => absurd rfl q.2.2.1⟩
  · subst c; exact ⟨fun q => absurd q (by decide), fun q => absurd q (by decide), fun q => absurd q (by decide), fun _ => ⟨e3, hI⟩, fun q => absurd q (by decide), fun q => absurd q (by decide), fun q => absurd rfl q.2.2.2.1⟩
  · subst c; exact ⟨fun q => absurd q (by decide), fun q => absurd q (by decide), fun q => absurd q (by decide), fun q => absurd q (by decide), fun _ => ⟨e4, hI⟩, fun q => absurd q (by decide), fun q => absurd rfl q.2.2.2.2.1⟩
  · subst c; exact ⟨fun q => absurd q (by decide), fun q => absurd q (by decide), fun q => absurd q (by decide), fun q => absurd q (by decide), fun q => absurd q (by decide), fun _ => ⟨e5, hI⟩, fun q => absurd rfl q.2.2.2.2.2⟩
theorem isN_mono {a : Int32} {n m : Nat} (h : isN a n) (hm : n ≤ m) : isN a m := by
  obtain ⟨k, hk, e⟩ := h
  exact ⟨k, by omega, e⟩
theorem FaE_at {σx σx' : CS} {σm σm' : MS} {np np' i : Nat} (e26 : σx'.2.1 26 i = σx.2.1 26 i) (e27 : σx'.2.1 27 i = σx.2.1 27 i) (e28 : σx'.2.1 28 i = σx.2.1 28 i) (e40 : σm'.2.1 40 i = σm.2.1 40 i) (e41 : σm'.2.1 41 i = σm.2.1 41 i) (e42 : σm'.2.1 42 i = σm.2.1 42 i) (e43 : σm'.2.1 43 i = σm.2.1 43 i) (hn : np ≤ np') (h : FaE σx σm np i) : FaE σx' σm' np' i := by
  unfold FaE
  rw [e26, e27, e28, e40, e41, e42, e43]
  obtain ⟨h1, h2⟩ := h
  refine ⟨h1, ?_⟩
  rcases h2 with q | q | q | q | ⟨q1, q2, q3⟩ | q
  · exact Or.inl q
  · exact Or.inr (Or.inl q)
  · exact Or.inr (Or.inr (Or.inl q))
  · exact Or.inr (Or.inr (Or.inr (Or.inl q)))
  · refine Or.inr (Or.inr (Or.inr (Or.inr (Or.inl ⟨q1, q2, ?_⟩))))
    rcases q3 with ⟨w, hw, q3⟩ | q3
    · exact Or.inl ⟨w, by omega, q3⟩
    · exact Or.inr q3
  · exact Or.inr (Or.inr (Or.inr (Or.inr (Or.inr q))))
theorem person2 {nt np npr nf nl ng : Nat} {σx : CS} {σm : MS} {f m b : Int32} (H : InvP nt np npr nf nl ng σx σm) : wpC_X10_person σx f m b (fun r τ => wpM_person σm f m b (fun r2 τ2 => r = r2 ∧ Inv τ τ2)) := by
  have hI : Inv σx σm := ⟨nt, np, npr, nf, nl, ng, H⟩
  obtain ⟨h1, h2, ⟨hA, hB, hC, hD⟩, h4, h5, h6, h7⟩ := H
  have e11 : σx.2.1 11 = σm.2.1 28 := hA.2.2.2.2.2.1
  refine personC hA.2.1 hA.1 (fun ok => ?_) (fun ok => ?_)
  · rw [e11] at ok
    refine personM hA.2.2.1 hA.1 (fun _ => ⟨rfl, ?_⟩) (fun q => absurd ok q)
    refine ⟨nt, np + 1, npr, nf, nl, ng, h1, h2, ⟨IPers_new hA ok, ?_, ?_, hD⟩, h4, ?_, h6, h7⟩
    · obtain ⟨q1, q2, q3, q4, q5, q6, q7, q8, q9, q10⟩ := hB
      exact ⟨q1, q2, q3, q4, q5, q6, q7, q8, q9, fun p hp => ⟨isN_mono (q10 p hp).1 (by omega), isN_mono (q10 p hp).2.1 (by omega), (q10 p hp).2.2⟩⟩
    · obtain ⟨f1, f2, f3, f4, f5⟩ := hC
      exact ⟨f1, f2, f3, f4, fun i hi => FaE_at rfl rfl rfl rfl rfl rfl rfl (by omega) (f5 i hi)⟩
    · exact IGo_pers hB.1 hC.1 ok.1 (fun n hn => witOK_of (σx := σx) (fun i hi => hC.2.2.2.2 i (by omega)) hA.1) (fun p hp => ⟨(hB.2.2.2.2.2.2.2.2.2 p hp).1, (hB.2.2.2.2.2.2.2.2.2 p hp).2.1⟩) hA.2.2.2.2.2.2.2.2.2 h5
  · rw [e11] at ok
    exact personM hA.2.2.1 hA.1 (fun q => absurd q ok) (fun _ => ⟨rfl, hI⟩)
theorem isD_of {d : Int32} (h1 : ¬ d < 0) (h2 : ¬ 9999 < d) : isD d := by
  rw [Int32.lt_iff_toInt_lt, i0] at h1
  rw [Int32.lt_iff_toInt_lt, i9999] at h2
  exact ⟨by omega, by omega⟩
theorem promise2 {nt np npr nf nl ng : Nat} {σx : CS} {σm : MS} {a b c d e f : Int32} (H : InvP nt np npr nf nl ng σx σm) : wpC_X10_promise σx a b c d e f (fun r τ => wpM_promise σm a b c d e f (fun r2 τ2 => r = r2 ∧ Inv τ τ2)) := by
  have hI : Inv σx σm := ⟨nt, np, npr, nf, nl, ng, H⟩
  obtain ⟨h1, h2, ⟨hA, hB, hC, hD⟩, h4, h5, h6, h7⟩ := H
  have h12 := hA.1
  refine promiseC hA.2.1 hA.1 hB.2.1 hB.1 (fun lt a1 a2 a3 a4 a5 a6 a7 a8 a9 a10 a11 a12 a13 => ?_) (fun no => ?_)
  · refine promiseM hA.2.2.1 hA.1 hB.2.2.1 hB.1 (fun _ _ _ _ _ _ _ _ _ _ _ _ _ _ => ⟨rfl, ?_⟩) (fun q => absurd ⟨lt, a1, a2, a3, a4, a5, a6, a7, a8, a9, a10, a11, a12, a13⟩ q)
    have ia : isN a np := isN_of rfl (by omega) a1 a2
    have ib : isN b np := isN_of rfl (by omega) a3 a4
    refine ⟨nt, np, npr + 1, nf, nl, ng, h1, h2, ⟨hA, ?_, hC, hD⟩, ?_, Or.inl rfl, h6, h7⟩
    · obtain ⟨q1, q2, q3, q4, q5, q6, q7, q8, q9, q10⟩ := hB
      refine ⟨by omega, rfl, rfl, ?_, ?_, ?_, ?_, ?_, ?_, fun p hp => ?_⟩
      · show upd (σx.2.1 15) npr a = upd (σm.2.1 31) npr a
        rw [q4]
      · show upd (σx.2.1 16) npr b = upd (σm.2.1 32) npr b
        rw [q5]
      · show upd (σx.2.1 17) npr c = upd (σm.2.1 33) npr c
        rw [q6]
      · show upd (σx.2.1 18) npr d = upd (σm.2.1 34) npr d
        rw [q7]
      · show upd (σx.2.1 19) npr e = upd (σm.2.1 35) npr e
        rw [q8]
      · show upd (σx.2.1 20) npr f = upd (σm.2.1 36) npr f
        rw [q9]
      · show isN (upd (σm.2.1 31) npr a p) np ∧ isN (upd (σm.2.1 32) npr b p) np ∧ ¬ upd (σm.2.1 31) npr a p = upd (σm.2.1 32) npr b p ∧ isD (upd (σm.2.1 34) npr d p)
        by_cases ep : p = npr
        · subst ep
          rw [pk_us, pk_us, pk_us]
          exact ⟨ia, ib, a5, isD_of a8 a9⟩
        · rw [pk_un ep, pk_un ep, pk_un ep]
          exact q10 p (by omega)
    · obtain ⟨g1, g2, g3, g4, g5, g6, g7⟩ := h4
      exact ⟨g1, g2, g3, g4, g5, g6, fun g hg => ⟨isN_mono (g7 g hg).1 (by omega), (g7 g hg).2⟩⟩
  · exact promiseM hA.2.2.1 hA.1 hB.2.2.1 hB.1 (fun lt a1 a2 a3 a4 a5 a6 a7 a8 a9 a10 a11 a12 a13 => absurd ⟨lt, a1, a2, a3, a4, a5, a6, a7, a8, a9, a10, a11, a12, a13⟩ no) (fun _ => ⟨rfl, hI⟩)
theorem gift2 {nt np npr nf nl ng : Nat} {σx : CS} {σm : MS} {k w v : Int32} (H : InvP nt np npr nf nl ng σx σm) : wpC_X10_gift σx k w v (fun r τ => wpM_gift σm k w v (fun r2 τ2 => r = r2 ∧ Inv τ τ2)) := by
  have hI : Inv σx σm := ⟨nt, np, npr, nf, nl, ng, H⟩
  obtain ⟨h1, h2, ⟨hA, hB, hC, hD⟩, h4, h5, h6, h7⟩ := H
  have h10 := hB.1
  refine giftC hB.2.1 h4.2.1 h4.1 (fun lt a1 a2 a3 a4 a5 a6 => ?_) (fun no => ?_)
  · refine giftM hB.2.2.1 hB.1 h4.2.2.1 h4.1 (fun _ _ _ _ _ _ _ => ⟨rfl, ?_⟩) (fun q => absurd ⟨lt, a1, a2, a3, a4, a5, a6⟩ q)
    have ik : isN k npr := isN_of rfl (by omega) a1 a2
    have iw : w = 0 ∨ w = 1 := by
      generalize w = x at a3 a4
      grind
    refine ⟨nt, np, npr, nf, nl, ng + 1, h1, h2, ⟨hA, hB, hC, hD⟩, ?_, IGo_rows (σ := σm) (fun j hj => ?_) (fun j j1 j2 => ?_) rfl h5, h6, h7⟩
    · obtain ⟨g1, g2, g3, g4, g5, g6, g7⟩ := h4
      refine ⟨by omega, rfl, rfl, ?_, ?_, ?_, fun g hg => ?_⟩
      · show upd (σx.2.1 22) ng k = upd (σm.2.1 37) ng k
        rw [g4]
      · show upd (σx.2.1 23) ng w = upd (σm.2.1 38) ng w
        rw [g5]
      · show upd (σx.2.1 24) ng v = upd (σm.2.1 39) ng v
        rw [g6]
      · show isN (upd (σm.2.1 37) ng k g) npr ∧ (upd (σm.2.1 38) ng w g = 0 ∨ upd (σm.2.1 38) ng w g = 1)
        by_cases ep : g = ng
        · subst ep
          rw [pk_us, pk_us]
          exact ⟨ik, iw⟩
        · rw [pk_un ep, pk_un ep]
          exact g7 g (by omega)
    · show (if j = 39 then _ else if j = 38 then _ else if j = 37 then _ else σm.2.1 j) = σm.2.1 j
      unfold uz at hj
      rw [if_neg (by omega), if_neg (by omega), if_neg (by omega)]
    · show (if j = 39 then _ else if j = 38 then _ else if j = 37 then _ else σm.2.1 j) = σm.2.1 j
      rw [if_neg (by omega), if_neg (by omega), if_neg (by omega)]
  · exact giftM hB.2.2.1 hB.1 h4.2.2.1 h4.1 (fun lt a1 a2 a3 a4 a5 a6 => absurd ⟨lt, a1, a2, a3, a4, a5, a6⟩ no) (fun _ => ⟨rfl, hI⟩)
/-- one fact more -/
theorem fact_new {nt np npr nf nl ng : Nat} {σx : CS} {σm : MS} {a b c a' b' c' d : Int32} (H : InvP nt np npr nf nl ng σx σm) (hlt : nf < 200) (hN : ∀ σx' : CS, ∀ σm' : MS, σx'.2.1 26 nf = a → σx'.2.1 27 nf = b → σx'.2.1 28 nf = c → σm'.2.1 40 nf = a' → σm'.2.1 41 nf = b' → σm'.2.1 42 nf = c' → σm'.2.1 43 nf = d → FaE σx' σm' np nf) : Inv (adC σx nf a b c d) (adM σm nf a' b' c' d) := by
  obtain ⟨h1, h2, ⟨hA, hB, hC, hD⟩, h4, h5, h6, h7⟩ := H
  refine ⟨nt, np, npr, nf + 1, nl, ng, h1, h2, ⟨hA, hB, ?_, hD⟩, h4, IGo_fact hB.1 hC.1 h5, h6, h7⟩
  obtain ⟨f1, f2, f3, f4, f5⟩ := hC
  refine ⟨by omega, rfl, rfl, ?_, fun i hi => ?_⟩
  · show upd (σx.2.1 29) nf d = upd (σm.2.1 43) nf d
    rw [f4]
  · by_cases e : i = nf
    · subst e
      exact hN _ _ pk_us pk_us pk_us pk_us pk_us pk_us pk_us
    · exact FaE_at (pk_un e) (pk_un e) (pk_un e) (pk_un e) (pk_un e) (pk_un e) (pk_un e) (Nat.le_refl _) (f5 i (by omega))
theorem isD_0 : isD 0 := ⟨by decide, by decide⟩
theorem fame2 {nt np npr nf nl ng : Nat} {σx : CS} {σm : MS} {k : Int32} (H : InvP nt np npr nf nl ng σx σm) : wpC_X10_fame σx k (fun r τ => wpM_fame σm k (fun r2 τ2 => r = r2 ∧ Inv τ τ2)) := by
  have hI : Inv σx σm := ⟨nt, np, npr, nf, nl, ng, H⟩
  have hB := H.2.2.1.2.1
  have hC := H.2.2.1.2.2.1
  refine fameC hB.2.1 hB.1 hC.2.1 hC.1 (fun lt a1 a2 => fameM hB.2.2.1 hB.1 hC.2.2.1 hC.1 (fun _ _ _ => ⟨rfl, fact_new H lt (fun σx' σm' e1 e2 e3 e4 e5 e6 e7 => ?_)⟩) (fun q => absurd ⟨lt, a1, a2⟩ q)) (fun no => fameM hB.2.2.1 hB.1 hC.2.2.1 hC.1 (fun lt a1 a2 => absurd ⟨lt, a1, a2⟩ no) (fun _ => ⟨rfl, hI⟩))
  refine ⟨by rw [e7]; exact isD_0, Or.inr (Or.inr (Or.inr (Or.inr (Or.inr ⟨e1, e4, ?_⟩))))⟩
  rw [e2, e5]
theorem comes2 {nt np npr nf nl ng : Nat} {σx : CS} {σm : MS} {c d y : Int32} (H : InvP nt np npr nf nl ng σx σm) (hy : y = 0 ∨ y = 1) : wpC_X10_comes σx c d y (fun r τ => wpM_comes σm c d y (fun r2 τ2 => r = r2 ∧ Inv τ τ2)) := by
  have hI : Inv σx σm := ⟨nt, np, npr, nf, nl, ng, H⟩
  have hC := H.2.2.1.2.2.1
  refine comesC hC.2.1 hC.1 hy (fun lt a1 a2 a3 a4 => comesM hC.2.2.1 hC.1 hy (fun _ _ _ _ _ => ⟨rfl, fact_new H lt (fun σx' σm' e1 e2 e3 e4 e5 e6 e7 => ?_)⟩) (fun q => absurd ⟨lt, a1, a2, a3, a4⟩ q)) (fun no => comesM hC.2.2.1 hC.1 hy (fun lt a1 a2 a3 a4 => absurd ⟨lt, a1, a2, a3, a4⟩ no) (fun _ => ⟨rfl, hI⟩))
  refine ⟨by rw [e7]; exact isD_of a3 a4, ?_⟩
  rcases hy with rfl | rfl
  · exact Or.inr (Or.inr (Or.inr (Or.inl ⟨e1, e4, by rw [e2, e5]⟩)))
  · exact Or.inr (Or.inr (Or.inl ⟨e1, e4, by rw [e2, e5]⟩))
theorem fate2 {nt np npr nf nl ng : Nat} {σx : CS} {σm : MS} {s w d : Int32} (H : InvP nt np npr nf nl ng σx σm) : wpC_X10_fate σx s w d (fun r τ => wpM_fate σm s w d (fun r2 τ2 => r = r2 ∧ Inv τ τ2)) := by
  have hI : Inv σx σm := ⟨nt, np, npr, nf, nl, ng, H⟩
  have hA := H.2.2.1.1
  have hC := H.2.2.1.2.2.1
  refine fateCallC hA.2.1 hC.2.1 hC.1 (fun lt a1 a2 a3 a4 a5 a6 => fateCallM hA.2.2.1 hC.2.2.1 hC.1 (fun _ _ _ _ _ _ _ => ⟨rfl, fact_new H lt (fun σx' σm' e1 e2 e3 e4 e5 e6 e7 => ?_)⟩) (fun q => absurd ⟨lt, a1, a2, a3, a4, a5, a6⟩ q)) (fun no => fateCallM hA.2.2.1 hC.2.2.1 hC.1 (fun lt a1 a2 a3 a4 a5 a6 => absurd ⟨lt, a1, a2, a3, a4, a5, a6⟩ no) (fun _ => ⟨rfl, hI⟩))
  obtain ⟨t, ht, rfl⟩ := nI_of a1
  have ht4 : t < 4 := by
    have : ¬ (3 : Nat) < t := fun z => a2 (nI_lt (a := 3) z ht)
    omega
  exact ⟨by rw [e7]; exact isD_of a5 a6, Or.inl ⟨t, ht4, e1, e4, by rw [e2, e5]⟩⟩
theorem leave2 {nt np npr nf nl ng : Nat} {σx : CS} {σm : MS} {a b d : Int32} (H : InvP nt np npr nf nl ng σx σm) : wpC_X10_leave σx a b d (fun r τ => wpM_leave σm a b d (fun r2 τ2 => r = r2 ∧ Inv τ τ2)) := by
  have hI : Inv σx σm := ⟨nt, np, npr, nf, nl, ng, H⟩
  have hA := H.2.2.1.1
  have hC := H.2.2.1.2.2.1
  refine leaveC hA.2.1 hC.2.1 hC.1 (fun lt a1 a2 a3 a4 a5 a6 a7 => leaveM hA.2.2.1 hC.2.2.1 hC.1 (fun _ _ _ _ _ _ _ _ => ⟨rfl, fact_new H lt (fun σx' σm' e1 e2 e3 e4 e5 e6 e7 => ?_)⟩) (fun q => absurd ⟨lt, a1, a2, a3, a4, a5, a6, a7⟩ q)) (fun no => leaveM hA.2.2.1 hC.2.2.1 hC.1 (fun lt a1 a2 a3 a4 a5 a6 a7 => absurd ⟨lt, a1, a2, a3, a4, a5, a6, a7⟩ no) (fun _ => ⟨rfl, hI⟩))
  exact ⟨by rw [e7]; exact isD_of a6 a7, Or.inr (Or.inl ⟨e1, e4, by rw [e2, e5], by rw [e3, e6]⟩)⟩
theorem says2 {nt np npr nf nl ng : Nat} {σx : CS} {σm : MS} {w k y : Int32} (H : InvP nt np npr nf nl ng σx σm) (hy : y = 0 ∨ y = 1) : wpC_X10_says σx w k y (fun r τ => wpM_says σm w k y (fun r2 τ2 => r = r2 ∧ Inv τ τ2)) := by
  have hI : Inv σx σm := ⟨nt, np, npr, nf, nl, ng, H⟩
  have hA := H.2.2.1.1
  have hB := H.2.2.1.2.1
  have hC := H.2.2.1.2.2.1
  have e15 : σx.2.1 15 = σm.2.1 31 := hB.2.2.2.1
  have e16 : σx.2.1 16 = σm.2.1 32 := hB.2.2.2.2.1
  have h12 := hA.1
  refine saysC hA.2.1 hB.2.1 hB.1 hC.2.1 hC.1 hy (fun lt a1 a2 a3 a4 a5 => ?_) (fun no => ?_)
  · rw [e15] at a4
    rw [e16] at a5
    refine saysM hA.2.2.1 hB.2.2.1 hB.1 hC.2.2.1 hC.1 hy (fun _ _ _ _ _ _ => ⟨rfl, fact_new H lt (fun σx' σm' e1 e2 e3 e4 e5 e6 e7 => ?_)⟩) (fun q => absurd ⟨lt, a1, a2, a3, a4, a5⟩ q)
    refine ⟨by rw [e7]; exact isD_0, Or.inr (Or.inr (Or.inr (Or.inr (Or.inl ⟨?_, by rw [e3, e6], ?_⟩))))⟩
    · rcases hy with rfl | rfl
      · exact Or.inr ⟨e1, e4⟩
      · exact Or.inl ⟨e1, e4⟩
    · by_cases q : ¬ w < 100 ∧ ¬ 119 < w
      · rw [if_pos q] at e2
        have c0 : ¬ w < 0 := by
          have := q.1
          generalize w = x at this
          grind
        obtain ⟨t, ht, rfl⟩ := nI_of c0
        have t1 : ¬ t < 100 := fun z => q.1 (nI_lt (b := 100) z (by omega))
        have t2 : ¬ 119 < t := fun z => q.2 (nI_lt (a := 119) z ht)
        refine Or.inr ⟨t - 100, by omega, ?_, ?_⟩
        · rw [e2]
          have : (12 : Int32) + nI t - 100 = nI (12 + (t - 100)) := by
            rw [show (12 : Int32) = nI 12 from rfl, nI_add, show (100 : Int32) = nI 100 from rfl, pk_sub (by omega)]
            congr 1
            omega
          exact this
        · rw [e5]
          congr 1
          omega
      · rw [if_neg q] at e2
        have a1 := a1.resolve_right q
        obtain ⟨v, hv, ev⟩ := isN_of (x := nI np) rfl (by omega) a1.1 a1.2
        exact Or.inl ⟨v, hv, e2.trans ev, e5.trans ev⟩
  · rw [e15, e16] at no
    exact saysM hA.2.2.1 hB.2.2.1 hB.1 hC.2.2.1 hC.1 hy (fun lt a1 a2 a3 a4 a5 => absurd ⟨lt, a1, a2, a3, a4, a5⟩ no) (fun _ => ⟨rfl, hI⟩)
theorem degree2 {nt np npr nf nl ng : Nat} {σx : CS} {σm : MS} {a b : Int32} (H : InvP nt np npr nf nl ng σx σm) : wpC_X10_degree σx a b (fun r τ => wpM_degree σm a b (fun r2 τ2 => r = r2 ∧ Inv τ τ2)) := by
  have hI : Inv σx σm := ⟨nt, np, npr, nf, nl, ng, H⟩
  have hA := H.2.2.1.1
  have h12 := hA.1
  refine hasC hA.2.1 (by omega) (fun i1 => ⟨fun y => absurd y no1, fun _ => hasC hA.2.1 (by omega) (fun i2 => ⟨fun y => absurd y no1, fun _ => ?_⟩) (fun i2 => ⟨fun _ => ?_, fun y => absurd rfl y⟩)⟩) (fun i1 => ⟨fun _ => ?_, fun y => absurd rfl y⟩)
  · obtain ⟨k, hk, rfl⟩ := i1
    obtain ⟨l, hl, rfl⟩ := i2
    refine degreeC hA.2.1 hA.1 hk hl ?_
    refine isPersonM hA.2.2.1 (by omega) (fun _ => ⟨fun y => absurd y no1, fun _ => isPersonM hA.2.2.1 (by omega) (fun _ => ⟨fun y => absurd y no1, fun _ => degreeM hA.2.2.1 hA.1 hk hl ⟨?_, hI⟩⟩) (fun q => absurd ⟨l, hl, rfl⟩ q)⟩) (fun q => absurd ⟨k, hk, rfl⟩ q)
    rw [hA.2.2.2.2.2.2.1]
  · exact isPersonM hA.2.2.1 (by omega) (fun _ => ⟨fun y => absurd y no1, fun _ => isPersonM hA.2.2.1 (by omega) (fun q => absurd q i2) (fun _ => ⟨fun _ => ⟨rfl, hI⟩, fun y => absurd rfl y⟩)⟩) (fun q => absurd i1 q)
  · exact isPersonM hA.2.2.1 (by omega) (fun q => absurd q i1) (fun _ => ⟨fun _ => ⟨rfl, hI⟩, fun y => absurd rfl y⟩)
theorem isPa_mono {f : Int32} {n m : Nat} (h : isPa f n) (hm : n ≤ m) : isPa f m := h.elim Or.inl (fun z => Or.inr (isN_mono z hm))
theorem gaps2 {nt np npr nf nl ng : Nat} {σx : CS} {σm : MS} {a : Int32} (H : InvP nt np npr nf nl ng σx σm) : wpC_X10_gaps σx a (fun r τ => wpM_gaps σm a (fun r2 τ2 => r = r2 ∧ Inv τ τ2)) := by
  have hI : Inv σx σm := ⟨nt, np, npr, nf, nl, ng, H⟩
  obtain ⟨h1, h2, ⟨hA, hB, hC, hD⟩, h4, h5, h6, h7⟩ := H
  obtain ⟨a1, a2, a3, a4, a5, a6, a7, a8, a9, a10⟩ := id hA
  have hpa : ∀ q, q < np → isPa (σm.2.1 26 q) np ∧ isPa (σm.2.1 27 q) np := fun q hq => ⟨isPa_mono (a8 q hq).1 (by omega), isPa_mono (a8 q hq).2.1 (by omega)⟩
  refine gapsC a2 a1 (by rw [a4, a5]; exact hpa) (fun i1 r => ?_) (fun i1 => ?_)
  · rw [a4, a5]
    refine gapsM a3 a1 hpa (fun _ r2 => ⟨rfl, nt, np, npr, nf, nl, ng, h1, h2, ⟨hA, hB, hC, hD⟩, h4, IGo_rows (σ := σm) (fun j hj => ?_) (fun j j1 j2 => ?_) rfl h5, h6, h7⟩) (fun q => absurd i1 q)
    · show (if j = 30 then _ else σm.2.1 j) = σm.2.1 j
      unfold uz at hj
      rw [if_neg (by omega)]
    · show (if j = 30 then _ else σm.2.1 j) = σm.2.1 j
      rw [if_neg (by omega)]
  · exact gapsM a3 a1 hpa (fun q => absurd q i1) (fun _ => ⟨rfl, hI⟩)
theorem law2 {nt np npr nf nl ng : Nat} {σx : CS} {σm : MS} {a : Int32} (H : InvP nt np npr nf nl ng σx σm) : wpC_X10_law σx a (fun r τ => wpM_law σm a (fun r2 τ2 => r = r2 ∧ Inv τ τ2)) := by
  have hI : Inv σx σm := ⟨nt, np, npr, nf, nl, ng, H⟩
  have hB := H.2.2.1.2.1
  have hD := H.2.2.1.2.2.2
  have h10 := hB.1
  refine isPromiseC hB.2.1 (by omega) (fun i1 => ⟨fun y => absurd y no1, fun _ => ?_⟩) (fun i1 => ⟨fun _ => ?_, fun y => absurd rfl y⟩)
  · obtain ⟨k, hk, rfl⟩ := i1
    have hv : vp_in (nI k) 10 := vp_in_nI (by omega) (by omega)
    refine ⟨hv, hv, inForceC hD.2.1 hD.2.2.2.1 hD.1 (ILaw_day hD) ?_⟩
    refine isPromiseM hB.2.2.1 (by omega) (fun _ => ⟨fun y => absurd y no1, fun _ => lawOfM hD.2.2.1 hD.1 (by omega) ⟨?_, hI⟩⟩) (fun q => absurd ⟨k, hk, rfl⟩ q)
    rw [ILaw_lo hD, nI_clamp (by omega), hB.2.2.2.2.2.1, hB.2.2.2.2.2.2.1]
  · exact isPromiseM hB.2.2.1 (by omega) (fun q => absurd q i1) (fun _ => ⟨fun _ => ⟨rfl, hI⟩, fun y => absurd rfl y⟩)
