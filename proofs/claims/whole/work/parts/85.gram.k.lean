/-! all RULES, the reference's side -/
/-- what reading a text on page sd leaves -/
def Old (sd : Nat) (G0 G : Nat → Nat → Int32) : Prop := (∀ y, ¬ y = sd → G 10 y = G0 10 y) ∧ (∀ r y, 11 ≤ r → r ≤ 16 → y < 16 * sd → G r y = G0 r y) ∧ (∀ y, ¬ y = sd → G 17 y = G0 17 y) ∧ (∀ r y, 18 ≤ r → r ≤ 22 → y < 200 * sd → G r y = G0 r y) ∧ ∀ y, y < 500 * sd → G 23 y = G0 23 y ∧ G 24 y = G0 24 y
/-- between two RULES -/
def RdL (tk : Nat → Int32) (sd : Nat) (G0 : Nat → Nat → Int32) (j s rc c rel : Nat) (F : Nat → Int32) (G : Nat → Nat → Int32) : Prop := F 13 = 0 ∧ F 11 = nI j ∧ F 12 = 0 ∧ F 35 = nI c ∧ 500 * sd ≤ c ∧ c ≤ 500 * sd + j ∧ aSt tk j = some (0, s, 0, rc) ∧ G 10 sd = nI rc ∧ G 17 sd = nI rel ∧ 3 * rel ≤ j ∧ Old sd G0 G ∧ ∀ r, r < rc → ∃ k0 s0 je, aSt tk k0 = some (0, s0, 0, r) ∧ je < j ∧ RuP tk G sd (16 * sd + r) k0 je rel c
theorem Old_te {sd rc rel c : Nat} {G0 G G' : Nat → Nat → Int32} (h : Old sd G0 G) (hc : 500 * sd ≤ c) (hT : TeF sd (16 * sd + rc) rel c G G') : Old sd G0 G' := by
  obtain ⟨a1, a2, a3, a4, a5⟩ := h
  obtain ⟨t1, t2, t3, t4, t5⟩ := hT
  refine ⟨fun y hy => (t1 y hy).trans (a1 y hy), fun r y r1 r2 hy => (t2 r y r1 r2 (by omega)).trans (a2 r y r1 r2 hy), fun y hy => (t3 y hy).trans (a3 y hy), fun r y r1 r2 hy => (t4 r y r1 r2 (by omega)).trans (a4 r y r1 r2 hy), fun y hy => ⟨(t5 y (by omega)).1.trans (a5 y hy).1, (t5 y (by omega)).2.trans (a5 y hy).2⟩⟩
theorem readLoop {σ : MS} {tk : Nat → Int32} {pl : Nat → Nat} {sd : Nat} {G0 : Nat → Nat → Int32} {x1 x2 : Int32} {Post : Int32 → MS → Prop} (hT : TC σ tk pl sd)
    (hok : ∀ F G j s rc c rel, RdL tk sd G0 j s rc c rel F G → tk j = -1 → wpM_read_154 Post (pM σ F G) x1 x2) (hfl : ∀ F G, Old sd G0 G → FS tk pl F → wpM_read_154 Post (pM σ F G) x1 x2) :
    ∀ d rc j s c rel F G, 16 ≤ rc + d → RdL tk sd G0 j s rc c rel F G → wpM_read_132 Post (d + 2) (pM σ F G) x1 x2 := by
  intro d
  induction d with
  | zero =>
    intro rc j s c rel F G hd hR
    obtain ⟨h13, h11, h12, h35, hc1, hc2, hA, h10, h17, hrel, hO, hRu⟩ := id hR
    obtain ⟨hj, _, hrc⟩ := aSt_bd hA
    obtain ⟨hk, _⟩ := hT.2.2 j _ hA
    refine ⟨fun _ => is_ok h13 h11 hj (fun q => ⟨fun z => absurd z no1, fun _ => hok F G j s rc c rel hR ((RelT_en hk).mp q)⟩) (fun q => ⟨fun _ => ?_, fun z => absurd rfl z⟩), fun z => absurd h13 z⟩
    refine tellRuleM hT h13 h11 h12 h35 hc2 hA (fun z => q ((RelT_en hk).mpr z)) h10 h17 hrel (fun F' G' hTe hF' => ?_)
    rcases hF' with hF' | ⟨je, s', c2, rel2, b1, b2', b3, b4, b5, b6, b7, b8, b9, b10, b11, b12, b13⟩
    · exact ⟨fun z => absurd z (FS_no hF').1, fun _ => hfl F' G' (Old_te hO hc1 hTe) hF'⟩
    · have := (aSt_bd b7).2.2
      omega
  | succ d ih =>
    intro rc j s c rel F G hd hR
    obtain ⟨h13, h11, h12, h35, hc1, hc2, hA, h10, h17, hrel, hO, hRu⟩ := id hR
    obtain ⟨hj, _, hrc⟩ := aSt_bd hA
    obtain ⟨hk, _⟩ := hT.2.2 j _ hA
    refine ⟨fun _ => is_ok h13 h11 hj (fun q => ⟨fun z => absurd z no1, fun _ => hok F G j s rc c rel hR ((RelT_en hk).mp q)⟩) (fun q => ⟨fun _ => ?_, fun z => absurd rfl z⟩), fun z => absurd h13 z⟩
    refine tellRuleM hT h13 h11 h12 h35 hc2 hA (fun z => q ((RelT_en hk).mpr z)) h10 h17 hrel (fun F' G' hTe hF' => ?_)
    rcases hF' with hF' | ⟨je, s', c2, rel2, b1, b2', b3, b4, b5, b6, b7, b8, b9, b10, b11, b12, b13⟩
    · exact ⟨fun z => absurd z (FS_no hF').1, fun _ => hfl F' G' (Old_te hO hc1 hTe) hF'⟩
    · refine ih (rc + 1) (je + 1) s' c2 rel2 F' G' (by omega) ⟨b1, b2', b3, b4, by omega, by omega, b7, b8, b9, by omega, Old_te hO hc1 hTe, fun r hr => ?_⟩
      by_cases er : r = rc
      · subst er
        exact ⟨j, s, je, hA, by omega, b13⟩
      · obtain ⟨k0, s0, je0, d1, d2, d3⟩ := hRu r (by omega)
        obtain ⟨t1, t2, t3, t4, t5⟩ := hTe
        exact ⟨k0, s0, je0, d1, by omega, RuP_loc (fun r' r1 r2 => t2 r' _ r1 r2 (by omega)) (fun r' y r1 r2 hy => t4 r' y r1 r2 hy) (fun y hy => t5 y hy) b10 b5 d3⟩
