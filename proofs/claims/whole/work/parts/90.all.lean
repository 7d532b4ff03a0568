/-! the start; all calls -/
def moV (x : Int64) (c : Int32) : Int64 := if c = 0 then x else (27 * x) + (((c - 97) + 1).toInt64)
theorem moreE {σ : MS} {x : Int64} {c : Int32} {Post : Int64 → MS → Prop} (h : Post (moV x c) σ) : wpM_more σ x c Post := by
  refine ⟨fun q => ?_, fun q => ?_⟩
  · rw [moV, if_pos q] at h
    exact h
  · rw [moV, if_neg q] at h
    exact h
theorem wordE {σ : MS} {x0 x1 x2 x3 x4 x5 x6 : Int32} {v : Int64} {Post : Int64 → MS → Prop} (e : moV (moV (moV (moV (moV (moV (moV 0 x0) x1) x2) x3) x4) x5) x6 = v) (h : Post v σ) : wpM_word σ x0 x1 x2 x3 x4 x5 x6 Post := by
  subst e
  exact moreE (moreE (moreE (moreE (moreE (moreE (moreE h))))))
theorem v20 {k : Nat} (h : k < 20) : vp_in (nI k) 20 := vp_in_nI h (by omega)
theorem init2 : wpM_init_495 (fun σm => Inv cS0 σm) mS0 := by
  refine wordE (v := 8868696) (by decide) ⟨v20 (k := 0) (by omega), ?_⟩
  rintro _ rfl
  refine wordE (v := 1503) (by decide) ⟨v20 (k := 1) (by omega), ?_⟩
  rintro _ rfl
  refine wordE (v := 311436) (by decide) ⟨v20 (k := 2) (by omega), ?_⟩
  rintro _ rfl
  refine wordE (v := 6409157) (by decide) ⟨v20 (k := 3) (by omega), ?_⟩
  rintro _ rfl
  refine wordE (v := 40187) (by decide) ⟨v20 (k := 4) (by omega), ?_⟩
  rintro _ rfl
  refine wordE (v := 249) (by decide) ⟨v20 (k := 5) (by omega), ?_⟩
  rintro _ rfl
  refine wordE (v := 423) (by decide) ⟨v20 (k := 6) (by omega), ?_⟩
  rintro _ rfl
  refine wordE (v := 1111) (by decide) ⟨v20 (k := 7) (by omega), ?_⟩
  rintro _ rfl
  refine wordE (v := 18379) (by decide) ⟨v20 (k := 8) (by omega), ?_⟩
  rintro _ rfl
  refine wordE (v := 393) (by decide) ⟨v20 (k := 9) (by omega), ?_⟩
  rintro _ rfl
  refine wordE (v := 8276) (by decide) ⟨v20 (k := 10) (by omega), ?_⟩
  rintro _ rfl
  refine wordE (v := 119183) (by decide) ⟨v20 (k := 11) (by omega), ?_⟩
  rintro _ rfl
  refine wordE (v := 10737959) (by decide) ⟨v20 (k := 12) (by omega), ?_⟩
  rintro _ rfl
  refine wordE (v := 923) (by decide) ⟨v20 (k := 13) (by omega), ?_⟩
  rintro _ rfl
  refine wordE (v := 60203876) (by decide) ⟨v20 (k := 14) (by omega), ?_⟩
  rintro _ rfl
  refine wordE (v := 16466) (by decide) ⟨v20 (k := 15) (by omega), ?_⟩
  rintro _ rfl
  refine wordE (v := 6477035) (by decide) ⟨v20 (k := 16) (by omega), ?_⟩
  rintro _ rfl
  refine wordE (v := 11263) (by decide) ⟨v20 (k := 17) (by omega), ?_⟩
  rintro _ rfl
  refine wordE (v := 17008) (by decide) ⟨v20 (k := 18) (by omega), ?_⟩
  rintro _ rfl
  refine wordE (v := 80155) (by decide) ⟨v20 (k := 19) (by omega), ?_⟩
  rintro _ rfl
  refine ⟨0, 0, 0, 0, 0, 0, ⟨by omega, rfl, rfl, fun j hj => absurd hj (by omega)⟩, rfl, ⟨⟨by omega, rfl, rfl, rfl, rfl, rfl, rfl, fun p hp => absurd hp (by omega), fun p hp => absurd hp (by omega), fun p c hp => absurd hp (by omega)⟩, ⟨by omega, rfl, rfl, rfl, rfl, rfl, rfl, rfl, rfl, fun p hp => absurd hp (by omega)⟩, ⟨by omega, rfl, rfl, rfl, fun p hp => absurd hp (by omega)⟩, ⟨by omega, rfl, rfl, rfl, rfl, fun p hp => absurd hp (by omega)⟩⟩, ⟨by omega, rfl, rfl, rfl, rfl, rfl, fun p hp => absurd hp (by omega)⟩, Or.inl rfl, fun k hk => ?_, fun l hl => absurd hl (by omega)⟩
  rcases (show k = 0 ∨ k = 1 ∨ k = 2 ∨ k = 3 ∨ k = 4 ∨ k = 5 ∨ k = 6 ∨ k = 7 ∨ k = 8 ∨ k = 9 ∨ k = 10 ∨ k = 11 ∨ k = 12 ∨ k = 13 ∨ k = 14 ∨ k = 15 ∨ k = 16 ∨ k = 17 ∨ k = 18 ∨ k = 19 by omega) with rfl | rfl | rfl | rfl | rfl | rfl | rfl | rfl | rfl | rfl | rfl | rfl | rfl | rfl | rfl | rfl | rfl | rfl | rfl | rfl <;> rfl
theorem pure_all : ∃ Inv : CS → MS → Prop, PAll Inv ∧ wpM_init_495 (fun σm => Inv cS0 σm) mS0 := by
  refine ⟨Inv, ⟨?_, ?_, ?_, ?_, ?_, ?_, ?_, ?_, ?_, ?_, ?_, ?_, ?_, ?_, ?_, ?_, ?_, ?_, ?_, ?_, ?_, ?_, ?_, ?_⟩, init2⟩
  · rintro σx σm a1 a2 a3 a4 a5 ⟨nt, np, npr, nf, nl, ng, H⟩; exact feed2 H
  · rintro σx σm a1 ⟨nt, np, npr, nf, nl, ng, H⟩; exact back2 H
  · rintro σx σm a1 a2 ⟨nt, np, npr, nf, nl, ng, H⟩; exact read2 H
  · rintro σx σm ⟨nt, np, npr, nf, nl, ng, H⟩; exact place2 H
  · rintro σx σm a1 a2 a3 ⟨nt, np, npr, nf, nl, ng, H⟩; exact person2 H
  · rintro σx σm a1 a2 a3 a4 a5 a6 ⟨nt, np, npr, nf, nl, ng, H⟩; exact promise2 H
  · rintro σx σm a1 a2 a3 ⟨nt, np, npr, nf, nl, ng, H⟩; exact gift2 H
  · rintro σx σm a1 a2 a3 ⟨nt, np, npr, nf, nl, ng, H⟩ hy; exact says2 H hy
  · rintro σx σm a1 ⟨nt, np, npr, nf, nl, ng, H⟩; exact fame2 H
  · rintro σx σm a1 a2 a3 ⟨nt, np, npr, nf, nl, ng, H⟩ hy; exact comes2 H hy
  · rintro σx σm a1 a2 a3 ⟨nt, np, npr, nf, nl, ng, H⟩; exact fate2 H
  · rintro σx σm a1 a2 a3 ⟨nt, np, npr, nf, nl, ng, H⟩; exact leave2 H
  · rintro σx σm a1 a2 ⟨nt, np, npr, nf, nl, ng, H⟩; exact degree2 H
  · rintro σx σm a1 ⟨nt, np, npr, nf, nl, ng, H⟩; exact gaps2 H
  · rintro σx σm a1 ⟨nt, np, npr, nf, nl, ng, H⟩; exact law2 H
  · rintro σx σm a1 a2 ⟨nt, np, npr, nf, nl, ng, H⟩; exact proved2 (CH_of H)
  · rintro σx σm a1 a2 ⟨nt, np, npr, nf, nl, ng, H⟩; exact barred2 (CH_of H)
  · rintro σx σm a1 a2 a3 ⟨nt, np, npr, nf, nl, ng, H⟩; exact state2 (CH_of H)
  · rintro σx σm a1 a2 a3 ⟨nt, np, npr, nf, nl, ng, H⟩; exact force2 (CH_of H)
  · rintro σx σm a1 a2 a3 ⟨nt, np, npr, nf, nl, ng, H⟩; exact bound2 (CH_of H)
  · rintro σx σm a1 a2 a3 ⟨nt, np, npr, nf, nl, ng, H⟩; exact goes2 (CH_of H) H.2.2.2.1
  · rintro σx σm a1 a2 a3 ⟨nt, np, npr, nf, nl, ng, H⟩; exact owes2 (CH_of H) H.2.2.2.1
  · rintro σx σm a1 a2 a3 ⟨nt, np, npr, nf, nl, ng, H⟩; exact changed2 H
  · rintro σx σm a1 ⟨nt, np, npr, nf, nl, ng, H⟩; exact count2 H
