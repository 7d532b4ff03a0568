/-! a text is read, on both sides -/
theorem rdS_r {σ : MS} {nt nl : Nat} {T : Nat → Int32} {c : Int32} {G : Nat → Nat → Int32} {L : Nat → Int64} {r : Nat} (h : 6 ≤ r) (h1 : ¬ r = 10) (h2 : ¬ r = 17) : (rdS σ nt nl T c G L).2.1 r = σ.2.1 r := by
  show (if r = 17 then _ else if r = 10 then _ else if 3 ≤ r ∧ r ≤ 5 then G r else if r = 2 then T else σ.2.1 r) = σ.2.1 r
  rw [if_neg h2, if_neg h1, if_neg (by omega), if_neg (by omega)]
theorem rdS_10 {σ : MS} {nt nl : Nat} {T : Nat → Int32} {c : Int32} {G : Nat → Nat → Int32} {L : Nat → Int64} : (rdS σ nt nl T c G L).2.1 10 = upd (σ.2.1 10) nl 0 := rfl
theorem pM_r {σ : MS} {F : Nat → Int32} {G : Nat → Nat → Int32} {r : Nat} (h1 : 10 ≤ r) (h2 : r ≤ 25) : (pM σ F G).2.1 r = G r := by
  show (if 10 ≤ r ∧ r ≤ 25 then G r else σ.2.1 r) = G r
  rw [if_pos ⟨h1, h2⟩]
theorem pM_o {σ : MS} {F : Nat → Int32} {G : Nat → Nat → Int32} {r : Nat} (h : ¬ (10 ≤ r ∧ r ≤ 25)) : (pM σ F G).2.1 r = σ.2.1 r := by
  show (if 10 ≤ r ∧ r ≤ 25 then G r else σ.2.1 r) = σ.2.1 r
  rw [if_neg h]
theorem okS_r {σ : MS} {a b : Int32} {nl r : Nat} (h1 : ¬ r = 8) (h2 : ¬ r = 9) : (okS σ a b nl).2.1 r = σ.2.1 r := by
  show (if r = 9 then _ else if r = 8 then _ else σ.2.1 r) = σ.2.1 r
  rw [if_neg h2, if_neg h1]
theorem Pg_old {σ τ : MS} {nt nl l : Nat} {T : Nat → Int32} {c : Int32} {Gk G : Nat → Nat → Int32} {L : Nat → Int64} (hl : l < nl) (hO : Old nl (rdS σ nt nl T c Gk L).2.1 G) (hG : ∀ r, 10 ≤ r → r ≤ 24 → τ.2.1 r = G r) : Pg l σ τ ∧ τ.2.1 10 l = σ.2.1 10 l := by
  obtain ⟨a1, a2, a3, a4, a5⟩ := hO
  refine ⟨⟨fun r y r1 r2 hy => ?_, fun r y r1 r2 hy => ?_, fun y hy => ⟨?_, ?_⟩⟩, ?_⟩
  · rw [hG r (by omega) (by omega), a2 r y r1 r2 (by omega), rdS_r (by omega) (by omega) (by omega)]
  · rw [hG r (by omega) (by omega), a4 r y r1 r2 (by omega), rdS_r (by omega) (by omega) (by omega)]
  · rw [hG 23 (by omega) (by omega), (a5 y (by omega)).1, rdS_r (by omega) (by omega) (by omega)]
  · rw [hG 24 (by omega) (by omega), (a5 y (by omega)).2, rdS_r (by omega) (by omega) (by omega)]
  · rw [hG 10 (by omega) (by omega), a1 l (by omega), rdS_10, pk_un (by omega)]
theorem LwE_tr {σx τ : CS} {σm τ2 : MS} {l : Nat} (hP : Pg l σm τ2) (hl : l ≤ 7) (h10 : τ2.2.1 10 l = σm.2.1 10 l) (h8 : τ2.2.1 8 l = σm.2.1 8 l) (h9 : τ2.2.1 9 l = σm.2.1 9 l) (hx : τ.2.2.2 (l + 1) = σx.2.2.2 (l + 1)) (hB : ∀ r, r < (σm.2.1 10 l).toNatClampNeg → RuB σm l (16 * l + r)) (h : LwE σx σm l) : LwE τ τ2 l := by
  obtain ⟨a1, a2, a3, a4, a5, a6, a7⟩ := h
  rw [LwE, hx, h8, h9, h10]
  refine ⟨a1, a2, a3, a4, a5, a6, fun r hr => ?_⟩
  obtain ⟨k0, b1, b2'⟩ := a7 r hr
  exact ⟨k0, b1, RuE_tr hP hl (by omega) (hB r (by rw [a6, nI_clamp (by omega)]; exact hr)) b2'⟩
theorem ILB_tr {σx : CS} {σm τ2 : MS} {nl : Nat} (hD : ILaw nl σx σm) (hB : ILB nl σm) (hP : Ps nl σm τ2) : ILB nl τ2 := by
  intro l hl r hr
  obtain ⟨hPg, e10⟩ := hP l hl
  obtain ⟨_, _, _, _, g1, g2, _⟩ := hD.2.2.2.2.2 l hl
  rw [e10] at hr
  have hr' := hr
  rw [g2, nI_clamp (by omega)] at hr'
  exact RuB_tr hPg (by omega) (hB l hl r hr)
theorem IGo_tr {σx : CS} {σm τ2 : MS} {np npr nf nl : Nat} (h10 : npr ≤ 10) (hD : ILaw nl σx σm) (hB : ILB nl σm) (hP : Ps nl σm τ2) (hN : nRd σm τ2) (h64 : τ2.1 64 = σm.1 64) (h : IGo np npr nf nl σm) : IGo np npr nf nl τ2 := by
  rcases h with h | ⟨n, hn, h, hE⟩
  · exact Or.inl (h64.trans h)
  · refine Or.inr ⟨n, hn, h64.trans h, fun j q j1 j2 hq => ?_⟩
    rw [hN j (by omega), jAll_tr h10 hD hB hP hN j q j1 j2 hq]
    exact hE j q j1 j2 hq
theorem Vd_le {tk : Nat → Int32} {f j : Nat} (h : Vd tk f j) : f ≤ 2 := by
  obtain ⟨w, s, d, rc, _, ⟨_, e⟩ | ⟨_, _, e⟩ | ⟨_, e, _⟩⟩ := h
  · rw [e]; split <;> omega
  · omega
  · omega
theorem InvP_fail {nt np npr nf nl ng : Nat} {σx : CS} {σm : MS} {F F' : Nat → Int32} {r4 r5 T : Nat → Int32} {v c : Int32} {Gk G : Nat → Nat → Int32} {L : Nat → Int64} (H : InvP nt np npr nf nl ng σx σm) (hO : Old nl (rdS σm nt nl T c Gk L).2.1 G) : InvP 0 np npr nf nl ng (cF (cF (pC σx F r4 r5) 9 v) 21 0) (mF (pM (rdS σm nt nl T c Gk L) F' G) 17 v) := by
  obtain ⟨h1, h2, ⟨hA, hB, hC, hD⟩, h4, h5, h6, h7⟩ := H
  have h8 := hD.1
  have hPs : Ps nl σm (mF (pM (rdS σm nt nl T c Gk L) F' G) 17 v) := fun l hl => Pg_old hl hO (fun r r1 r2 => pM_r (F := F') r1 (by omega))
  have hN : nRd σm (mF (pM (rdS σm nt nl T c Gk L) F' G) 17 v) := fun j hj => (pM_o (F := F') (by omega)).trans (rdS_r (by omega) (by omega) (by omega))
  refine ⟨⟨by omega, rfl, rfl, fun j hj => absurd hj (by omega)⟩, rfl, ⟨hA, hB, hC, ?_⟩, h4, IGo_tr hB.1 hD h7 hPs hN rfl h5, h6, ILB_tr hD h7 hPs⟩
  exact ⟨hD.1, hD.2.1, hD.2.2.1, hD.2.2.2.1, hD.2.2.2.2.1, fun l hl => LwE_tr (hPs l hl).1 (by omega) (hPs l hl).2 (by rw [hN 8 (by omega)]) (by rw [hN 9 (by omega)]) rfl (h7 l hl) (hD.2.2.2.2.2 l hl)⟩
theorem InvP_ok {nt np npr nf nl ng j s rc cc rel : Nat} {σx : CS} {σm : MS} {a b : Int32} {tk : Nat → Int32} {F F' : Nat → Int32} {r4 r5 g1 g2 T : Nat → Int32} {c : Int32} {Gk G : Nat → Nat → Int32} {L : Nat → Int64} (H : InvP nt np npr nf nl ng σx σm) (hn : nl < 8) (hd : isD b)
    (hR : RdL tk nl (rdS σm nt nl T c Gk L).2.1 j s rc cc rel F' G) (hg : Gat tk j r4 r5) (e1 : ∀ i, i < rc → g1 i = r5 i) (e2 : ∀ i, i < j → g2 i = r4 i) :
    InvP 0 np npr nf (nl + 1) ng (cF (cLaw (cF (cF (pC σx F r4 r5) 9 (-1)) 122 (nI (nl + 1))) ((a, b), (j, g2), (rc, g1))) 21 0) (okS (pM (rdS σm nt nl T c Gk L) F' G) a b nl) := by
  obtain ⟨h1, h2, ⟨hA, hB, hC, hD⟩, h4, h5, h6, h7⟩ := H
  obtain ⟨f13, f11, f12, f35, c1, c2, hS, g10, g17, hrel, hO, hRu⟩ := hR
  obtain ⟨hj4, _, hrc⟩ := aSt_bd hS
  have hGr : ∀ r, 10 ≤ r → r ≤ 24 → (okS (pM (rdS σm nt nl T c Gk L) F' G) a b nl).2.1 r = G r := fun r r1 r2 => (okS_r (by omega) (by omega)).trans (pM_r r1 (by omega))
  have hPs : Ps nl σm (okS (pM (rdS σm nt nl T c Gk L) F' G) a b nl) := fun l hl => Pg_old hl hO hGr
  have hPn : Pg nl (pM (rdS σm nt nl T c Gk L) F' G) (okS (pM (rdS σm nt nl T c Gk L) F' G) a b nl) := ⟨fun r y r1 r2 _ => by rw [okS_r (by omega) (by omega)], fun r y r1 r2 _ => by rw [okS_r (by omega) (by omega)], fun y _ => ⟨rfl, rfl⟩⟩
  have hRB : ∀ r, r < rc → RuB (pM (rdS σm nt nl T c Gk L) F' G) nl (16 * nl + r) := fun r hr => by
    obtain ⟨k0, s0, je, d1, d2, d3⟩ := hRu r hr
    exact RuB_of (by omega) d3
  have ht : ∀ i, i < j → g2 i = tk i := fun i hi => (e2 i hi).trans (hg.1 i hi)
  have e8 : ∀ l, (okS (pM (rdS σm nt nl T c Gk L) F' G) a b nl).2.1 8 l = if l = nl then a else σm.2.1 8 l := fun l => rfl
  have e9 : ∀ l, (okS (pM (rdS σm nt nl T c Gk L) F' G) a b nl).2.1 9 l = if l = nl then b else σm.2.1 9 l := fun l => rfl
  have x3 : σx.2.2.1 = nl + 1 := hD.2.2.2.1
  have eL : ∀ l, (cF (cLaw (cF (cF (pC σx F r4 r5) 9 (-1)) 122 (nI (nl + 1))) ((a, b), (j, g2), (rc, g1))) 21 0).2.2.2 l = if l = nl + 1 then ((a, b), (j, g2), (rc, g1)) else σx.2.2.2 l := fun l => by
    show (if l = σx.2.2.1 then _ else σx.2.2.2 l) = _
    rw [x3]
  refine ⟨⟨by omega, rfl, rfl, fun j hj => absurd hj (by omega)⟩, rfl, ⟨hA, hB, hC, ?_⟩, h4, Or.inl rfl, h6, ?_⟩
  · refine ⟨by omega, rfl, rfl, ?_, ?_, fun l hl => ?_⟩
    · show σx.2.2.1 + 1 = _
      rw [x3]
    · rw [eL, if_neg (by omega)]
      exact hD.2.2.2.2.1
    · by_cases el : l = nl
      · subst el
        rw [LwE, eL, if_pos rfl, e8, e9, if_pos rfl, if_pos rfl, hGr 10 (by omega) (by omega)]
        refine ⟨rfl, rfl, hd, hj4, hrc, g10, fun r hr => ?_⟩
        obtain ⟨k0, s0, je, d1, d2, d3⟩ := hRu r hr
        have hk := d3.1
        refine ⟨k0, (e1 r hr).trans (hg.2 k0 s0 0 r (by omega) d1), ?_⟩
        have hr : r < rc := hr
        exact RuE_tr hPn (by omega) (by omega) (hRB r hr) (RuE_of ht hj4 d2 d3)
      · exact LwE_tr (hPs l (by omega)).1 (by omega) (hPs l (by omega)).2 (by rw [e8, if_neg el]) (by rw [e9, if_neg el]) (by rw [eL, if_neg (by omega)]) (h7 l (by omega)) (hD.2.2.2.2.2 l (by omega))
  · intro l hl r hr
    by_cases el : l = nl
    · subst el
      rw [hGr 10 (by omega) (by omega), g10, nI_clamp (by omega)] at hr
      exact RuB_tr hPn (by omega) (hRB r hr)
    · exact ILB_tr hD h7 hPs l (by omega) r hr
theorem read2 {nt np npr nf nl ng : Nat} {σx : CS} {σm : MS} {a b : Int32} (H : InvP nt np npr nf nl ng σx σm) : wpC_X10_read σx a b (fun r τ => wpM_read σm a b (fun r2 τ2 => r = r2 ∧ Inv τ τ2)) := by
  have hI : Inv σx σm := ⟨nt, np, npr, nf, nl, ng, H⟩
  have hD : ILaw nl σx σm := H.2.2.1.2.2.2
  have h8 := hD.1
  have e122 : σx.1 122 = nI nl := hD.2.1
  have e18 : σm.1 18 = nI nl := hD.2.2.1
  obtain ⟨t1, t2, t3, t4⟩ := H.1
  refine isPlaceC (fun hx hx3 => ⟨fun z => absurd z no1, fun _ => ?_⟩) (fun hx => ⟨fun _ => ?_, fun z => absurd rfl z⟩)
  · refine isDayC (fun hd => ⟨fun z => absurd z no1, fun _ => ⟨fun hl => ?_, fun hl => ?_⟩⟩) (fun hd => ⟨fun _ => ?_, fun z => absurd rfl z⟩)
    · rw [e122] at hl
      have hl : nl < 8 := (nI_ltI (b := 8) (by omega) (by omega)).mp hl
      refine parseC (b := σx.2.1 2) rfl t1 t2 (fun f j F r4 r5 hV h22 hok => ?_)
      have hf := Vd_le hV
      by_cases f0 : f = 0
      · subst f0
        obtain ⟨s, d, rc, hA, e62, e63, hg⟩ := hok rfl
        obtain ⟨hj4, _, hrc⟩ := aSt_bd hA
        refine ⟨fun _ => ?_, fun z => absurd rfl z⟩
        rintro _ rfl
        refine ⟨fun _ => ⟨nl, rc, j, hD.2.2.2.1, e122, hl, ?_, hrc, e62, hj4, fun g1 g2 q1 q2 => ?_⟩, fun z => absurd rfl z⟩
        · show (if (16 : Int32) < F 63 then 16 else F 63) = nI rc
          rw [e63, if_neg (show ¬ (16 : Int32) < nI rc from fun z => absurd ((nI_ltI (a := 16) (b := rc) (by omega) (by omega)).mp z) (by omega))]
        · rintro _ rfl
          rintro _ rfl
          refine readM (b := σx.2.1 2) e18 hl t3 t1 t4 H.2.2.2.2.2.1 hx hx3 hd (fun T c Gk L F' G j' s' rc' cc rel hR hE => ⟨rfl, 0, np, npr, nf, nl + 1, ng, ?_⟩) (fun T c Gk L F' G f' j' hO hf' e13 hV' => ?_)
          · have hA' := hR.2.2.2.2.2.2.1
            obtain ⟨_, rfl⟩ := Vd_uniq hV (⟨0, s', 0, rc', hA', Or.inl ⟨hE, rfl⟩⟩ : Vd (tkF (σx.2.1 2) nt) 0 j')
            rw [hA] at hA'
            simp only [Option.some.injEq, Prod.mk.injEq] at hA'
            obtain ⟨_, _, _, x4⟩ := hA'
            subst x4
            exact InvP_ok H hl hd hR hg q1 q2
          · obtain ⟨x, _⟩ := Vd_uniq hV hV'
            omega
      · have nf0 : ¬ nI f = 0 := fun z => f0 ((nI_eq (b := 0) (by omega) (by omega)).mp z)
        refine ⟨fun z => absurd z nf0, fun _ => ?_⟩
        rintro _ rfl
        refine ⟨fun z => absurd z nf0, fun _ => ?_⟩
        rintro _ rfl
        have e22 : (pC σx F r4 r5).1 22 = nI (plF (σx.2.1 2) nt j) := h22
        rw [e22]
        refine readM (b := σx.2.1 2) e18 hl t3 t1 t4 H.2.2.2.2.2.1 hx hx3 hd (fun T c Gk L F' G j' s' rc' cc rel hR hE => ?_) (fun T c Gk L F' G f' j' hO hf' e13 hV' => ?_)
        · obtain ⟨x, _⟩ := Vd_uniq hV (⟨0, s', 0, rc', hR.2.2.2.2.2.2.1, Or.inl ⟨hE, rfl⟩⟩ : Vd (tkF (σx.2.1 2) nt) 0 j')
          exact absurd x f0
        · obtain ⟨rfl, rfl⟩ := Vd_uniq hV hV'
          exact ⟨rfl, 0, np, npr, nf, nl, ng, InvP_fail H hO⟩
    · rw [e122] at hl
      have hl : nl = 8 := by
        have : ¬ nl < 8 := fun z => hl ((nI_ltI (b := 8) (by omega) (by omega)).mpr z)
        omega
      refine ⟨fun z => absurd z hx, fun _ => ⟨fun z => absurd z hx3, fun _ => isDayM (fun _ => ⟨fun z => absurd z no1, fun _ => ⟨fun _ => ⟨rfl, hI⟩, fun z => absurd ?_ z⟩⟩) (fun z => absurd hd z)⟩⟩
      rw [e18, hl]
      rfl
    · exact ⟨fun z => absurd z hx, fun _ => ⟨fun z => absurd z hx3, fun _ => isDayM (fun z => absurd z hd) (fun _ => ⟨fun _ => ⟨rfl, hI⟩, fun z => absurd rfl z⟩)⟩⟩
  · exact ⟨fun _ => ⟨rfl, hI⟩, fun z => ⟨fun _ => ⟨rfl, hI⟩, fun z2 => absurd ⟨z, z2⟩ hx⟩⟩
