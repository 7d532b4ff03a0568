/-! from what was read to what the calls need -/
theorem depE_tk {tk tk' : Nat → Int32} {p : Nat} : ∀ j, (∀ i, i < p + j → tk' i = tk i) → depE tk' p j = depE tk p j := by
  intro j
  induction j with
  | zero => intro _; rfl
  | succ j ih => intro h; rw [depE, depE, ih (fun i hi => h i (by omega)), h (p + j) (by omega)]
theorem evE_tk {tk tk' w : Nat → Int32} {p : Nat} : ∀ j, (∀ i, i < p + j → tk' i = tk i) → evE tk' w p j = evE tk w p j := by
  intro j
  induction j with
  | zero => intro _; rfl
  | succ j ih => intro h; rw [evE, evE, ih (fun i hi => h i (by omega)), h (p + j) (by omega), depE_tk j (fun i hi => h i (by omega))]
theorem EqE_of {tk tk' cd ci : Nat → Int32} {N p q fr to : Nat} (ht : ∀ i, i < N → tk' i = tk i) (hq : q < N) (hs : stopT (tk q)) (h : EqP tk p q cd ci fr to) : EqE tk' N p q cd ci fr to := by
  obtain ⟨h1, h2, h3, h4, h5⟩ := h
  refine ⟨h1, hq, fun j hj => ?_, ?_, ?_, h4, fun w => ?_⟩
  · rw [ht _ (by omega), depE_tk j (fun i hi => ht i (by omega))]
    exact h2 j hj
  · rw [depE_tk _ (fun i hi => ht i (by omega))]
    exact h3
  · rw [ht q hq]
    exact hs
  · rw [evE_tk _ (fun i hi => ht i (by omega))]
    exact h5 w
theorem stop_z {t : Int32} {z : Nat} (hz : z < 4) (h : t = nI (10024 + z)) : stopT t := by
  subst h
  rcases (show z = 0 ∨ z = 1 ∨ z = 2 ∨ z = 3 by omega) with rfl | rfl | rfl | rfl
  · exact Or.inr (Or.inr (Or.inr (Or.inr (Or.inl rfl))))
  · exact Or.inr (Or.inr (Or.inr (Or.inr (Or.inr (Or.inl rfl)))))
  · exact Or.inr (Or.inr (Or.inr (Or.inr (Or.inr (Or.inr (Or.inl rfl))))))
  · exact Or.inr (Or.inr (Or.inr (Or.inr (Or.inr (Or.inr (Or.inr rfl))))))
theorem ChE_of {tk tk' : Nat → Int32} {G : Nat → Nat → Int32} {N hi je : Nat} (ht : ∀ i, i < N → tk' i = tk i) (hj : je < N) (ej : tk je = 10020) : ∀ n k p, ChH tk G hi n k p je → ChE tk' N (G 18) (G 19) (G 20) (G 21) (G 22) (G 23) (G 24) n k p := by
  intro n
  induction n with
  | zero => intro k p h; exact h
  | succ n ih =>
    intro k p h
    obtain ⟨s, ⟨q, l, r, e, a1, a2, a3, a4, a5, ⟨z, hz, a6, a7⟩, a8⟩, h2⟩ := h
    have hqs := a8.1
    have hs : s ≤ je := by
      rcases h2 with ⟨_, x⟩ | ⟨_, _, x⟩
      · omega
      · have := ChH_le _ _ _ x
        omega
    have st : stopT (tk s) := by
      rcases h2 with ⟨_, x⟩ | ⟨_, ⟨x, _⟩ | ⟨x, _⟩, _⟩
      · rw [x]; exact Or.inr (Or.inr (Or.inr (Or.inl ej)))
      · exact Or.inr (Or.inl x)
      · exact Or.inr (Or.inr (Or.inl x))
    refine ⟨q, s, l, r, e, a1, a2, a3, EqE_of ht (by omega) (stop_z hz a7) a5, ⟨z, hz, a6, by rw [ht q (by omega)]; exact a7⟩, EqE_of ht (by omega) st a8, ?_⟩
    rw [ht s (by omega)]
    rcases h2 with ⟨x, y⟩ | ⟨x, y, y2⟩
    · refine Or.inl ⟨x, ?_, ?_⟩
      · rw [y, ej]; decide
      · rw [y, ej]; decide
    · exact Or.inr ⟨x, y, ih _ _ y2⟩
theorem RuE_of {σ : MS} {tk tk' : Nat → Int32} {F : Nat → Int32} {G : Nat → Nat → Int32} {N sd x k0 je rel hi : Nat} (ht : ∀ i, i < N → tk' i = tk i) (hN : N ≤ 400) (hj : je < N) (h : RuP tk G sd x k0 je rel hi) : RuE tk' N (pM σ F G) sd x k0 := by
  obtain ⟨a1, ej, _, z, hz, a3, a4, a5⟩ := h
  have hco : ∀ p, p < 1000 → CoX tk G sd x hi je p → CoE tk' N (pM σ F G) sd x p := by
    rintro p hp ⟨f, n, d1, d2, d3, d4, d5⟩
    exact ⟨f, n, d1, d2, d3, d4, hp, ChE_of (G := G) ht hj ej _ _ _ d5⟩
  refine ⟨by omega, z, hz, by rw [ht k0 (by omega)]; exact a3, a4, ?_⟩
  rcases a5 with ⟨q, q2⟩ | ⟨q, v, q2, q3, q4, q5⟩ | ⟨q, q1, fr, to, q2, q3, q4, q5, q6, q7⟩
  · exact Or.inl ⟨q, hco _ (by omega) q2⟩
  · exact Or.inr (Or.inl ⟨q, by omega, v, q2, by rw [ht _ (by omega)]; exact q3, q4⟩)
  · have st : stopT (tk q1) := by
      rcases q7 with ⟨p1, _⟩ | ⟨_, p1, _⟩
      · exact Or.inl p1
      · rw [p1]; exact Or.inr (Or.inr (Or.inr (Or.inl ej)))
    refine Or.inr (Or.inr ⟨q, q1, fr, to, q2, q3, EqE_of ht (by omega) st q5, ?_⟩)
    rw [ht q1 (by omega)]
    rcases q7 with ⟨p1, p2⟩ | ⟨p1, p2, p3⟩
    · exact Or.inl ⟨p1, hco _ (by omega) p2⟩
    · exact Or.inr ⟨p1, p3⟩
theorem RuB_of {σ : MS} {tk : Nat → Int32} {F : Nat → Int32} {G : Nat → Nat → Int32} {sd x k0 je rel hi : Nat} (hh : hi ≤ 500 * (sd + 1)) (h : RuP tk G sd x k0 je rel hi) : RuB (pM σ F G) sd x := by
  obtain ⟨a1, ej, ⟨f, m, b1, b2', b3, b4, b5, b6⟩, z, hz, a3, a4, a5⟩ := h
  refine ⟨⟨f, m - f, b1, by rw [show f + (m - f) = m by omega]; exact b2', by omega, fun i hi' => ?_⟩, fun e4 => ?_⟩
  · obtain ⟨e, e1, e2⟩ := b6 (f + i) (by omega) (by omega)
    exact ⟨e, e1, by omega⟩
  · have e4 : G 11 x = 4 := e4
    rw [a4] at e4
    have e4 : z = 4 := (nI_eq (b := 4) (by omega) (by omega)).mp e4
    rcases a5 with ⟨q, q2⟩ | ⟨q, v, q2, q3, q4, q5⟩ | ⟨q, q1, fr, to, q2, q3, q4, q5, q6, q7⟩
    · omega
    · omega
    · exact ⟨to, q3, by omega⟩
/-- pages below the one that is read on are as before -/
def Pg (l : Nat) (σ σ' : MS) : Prop := (∀ r y, 11 ≤ r → r ≤ 16 → y < 16 * (l + 1) → σ'.2.1 r y = σ.2.1 r y) ∧ (∀ r y, 18 ≤ r → r ≤ 22 → y < 200 * (l + 1) → σ'.2.1 r y = σ.2.1 r y) ∧ ∀ y, y < 500 * (l + 1) → σ'.2.1 23 y = σ.2.1 23 y ∧ σ'.2.1 24 y = σ.2.1 24 y
theorem EqE_loc {tk cd ci cd' ci' : Nat → Int32} {N p q fr to : Nat} (hl : ∀ x, x < to → cd' x = cd x ∧ ci' x = ci x) (h : EqE tk N p q cd ci fr to) : EqE tk N p q cd' ci' fr to := by
  obtain ⟨h1, h2, h3, h4, h5, h6, h7⟩ := h
  exact ⟨h1, h2, h3, h4, h5, okE_loc hl h6, fun w => by rw [valM_loc h6.1 hl]; exact h7 w⟩
theorem ChE_loc {tk : Nat → Int32} {N hi : Nat} {G G' : Nat → Nat → Int32} (h2 : ∀ x, x < hi → G' 23 x = G 23 x ∧ G' 24 x = G 24 x) : ∀ n k p, (∀ r x, 18 ≤ r → r ≤ 22 → k ≤ x → x < k + n → G' r x = G r x) → (∀ i, i < n → ∃ e, G 21 (k + i) = nI e ∧ e ≤ hi) → hi ≤ 4500 → ChE tk N (G 18) (G 19) (G 20) (G 21) (G 22) (G 23) (G 24) n k p → ChE tk N (G' 18) (G' 19) (G' 20) (G' 21) (G' 22) (G' 23) (G' 24) n k p := by
  intro n
  induction n with
  | zero => intro k p _ _ _ h; exact h
  | succ n ih =>
    intro k p h1 hB hh h
    obtain ⟨q, s, l, r, e, a1, a2, a3, a4, ⟨z, hz, a5, a6⟩, a7, a8⟩ := h
    obtain ⟨e', b1, b2'⟩ := hB 0 (by omega)
    have he : e ≤ 4500 := a7.2.2.2.2.2.1.2.1
    have ee : e' = e := (nI_eq (by omega) (by omega)).mp (b1.symm.trans a3)
    have hre : r ≤ e := a7.2.2.2.2.2.1.1
    refine ⟨q, s, l, r, e, (h1 19 k (by omega) (by omega) (by omega) (by omega)).trans a1, (h1 20 k (by omega) (by omega) (by omega) (by omega)).trans a2, (h1 21 k (by omega) (by omega) (by omega) (by omega)).trans a3, EqE_loc (fun x hx => h2 x (by omega)) a4, ⟨z, hz, (h1 18 k (by omega) (by omega) (by omega) (by omega)).trans a5, a6⟩, EqE_loc (fun x hx => h2 x (by omega)) a7, ?_⟩
    rcases a8 with x | ⟨x, y, y2⟩
    · exact Or.inl x
    · refine Or.inr ⟨x, ?_, ih _ _ (fun r x r1 r2 x1 x2 => h1 r x r1 r2 (by omega) (by omega)) (fun i hi' => ?_) hh y2⟩
      · rw [h1 22 (k + 1) (by omega) (by omega) (by omega) (by omega)]
        exact y
      · have := hB (i + 1) (by omega)
        rw [show k + (i + 1) = k + 1 + i by omega] at this
        exact this
theorem RuB_tr {σ σ' : MS} {l r : Nat} (hP : Pg l σ σ') (hr : r < 16) (h : RuB σ l (16 * l + r)) : RuB σ' l (16 * l + r) := by
  obtain ⟨p1, p2, p3⟩ := hP
  obtain ⟨⟨f, n, a1, a2, a3, a4⟩, a5⟩ := h
  refine ⟨⟨f, n, (p1 15 _ (by omega) (by omega) (by omega)).trans a1, (p1 16 _ (by omega) (by omega) (by omega)).trans a2, a3, fun i hi => ?_⟩, fun e4 => ?_⟩
  · obtain ⟨e, e1, e2⟩ := a4 i hi
    exact ⟨e, (p2 21 _ (by omega) (by omega) (by omega)).trans e1, e2⟩
  · rw [p1 11 _ (by omega) (by omega) (by omega)] at e4
    obtain ⟨to, t1, t2⟩ := a5 e4
    exact ⟨to, (p1 14 _ (by omega) (by omega) (by omega)).trans t1, t2⟩
theorem CoE_B {tk : Nat → Int32} {N l x p : Nat} {σ : MS} (hB : RuB σ l x) (h : CoE tk N σ l x p) : ∃ f n, σ.2.1 15 x = nI f ∧ σ.2.1 16 x = nI (f + (n + 1)) ∧ f + (n + 1) ≤ 200 ∧ σ.2.1 22 (200 * l + f) = 1 ∧ p < 1000 ∧ ChE tk N (σ.2.1 18) (σ.2.1 19) (σ.2.1 20) (σ.2.1 21) (σ.2.1 22) (σ.2.1 23) (σ.2.1 24) (n + 1) (200 * l + f) p ∧ ∀ i, i < n + 1 → ∃ e, σ.2.1 21 (200 * l + f + i) = nI e ∧ e ≤ 500 * (l + 1) := by
  obtain ⟨⟨f', n', b1, b2', b3, b4⟩, _⟩ := hB
  obtain ⟨f, n, a1, a2, a3, a4, a5, a6⟩ := h
  have e1 : f' = f := (nI_eq (by omega) (by omega)).mp (b1.symm.trans a1)
  have e2 : f' + n' = f + (n + 1) := (nI_eq (by omega) (by omega)).mp (b2'.symm.trans a2)
  refine ⟨f, n, a1, a2, a3, a4, a5, a6, fun i hi => ?_⟩
  have := b4 i (by omega)
  rw [e1, show 200 * l + (f + i) = 200 * l + f + i by omega] at this
  exact this
theorem RuE_tr {tk : Nat → Int32} {N : Nat} {σ σ' : MS} {l r k0 : Nat} (hP : Pg l σ σ') (hl : l ≤ 7) (hr : r < 16) (hB : RuB σ l (16 * l + r)) (h : RuE tk N σ l (16 * l + r) k0) : RuE tk N σ' l (16 * l + r) k0 := by
  obtain ⟨p1, p2, p3⟩ := id hP
  have hco : ∀ p, CoE tk N σ l (16 * l + r) p → CoE tk N σ' l (16 * l + r) p := by
    intro p h
    obtain ⟨f, n, a1, a2, a3, a4, a5, a6, a7⟩ := CoE_B hB h
    exact ⟨f, n, (p1 15 _ (by omega) (by omega) (by omega)).trans a1, (p1 16 _ (by omega) (by omega) (by omega)).trans a2, a3, (p2 22 _ (by omega) (by omega) (by omega)).trans a4, a5, ChE_loc (hi := 500 * (l + 1)) p3 _ _ _ (fun r x r1 r2 x1 x2 => p2 r x r1 r2 (by omega)) a7 (by omega) a6⟩
  obtain ⟨a1, z, hz, a3, a4, a5⟩ := h
  refine ⟨a1, z, hz, a3, (p1 11 _ (by omega) (by omega) (by omega)).trans a4, ?_⟩
  rcases a5 with ⟨q, q2⟩ | ⟨q, q2, v, q3, q4, q5⟩ | ⟨q, q1, fr, to, q2, q3, q4, q5⟩
  · exact Or.inl ⟨q, hco _ q2⟩
  · exact Or.inr (Or.inl ⟨q, q2, v, q3, q4, (p1 12 _ (by omega) (by omega) (by omega)).trans q5⟩)
  · obtain ⟨to', t1, t2⟩ := hB.2 (by rw [a4, q]; rfl)
    have ht : to ≤ 4500 := q4.2.2.2.2.2.1.2.1
    have et : to' = to := (nI_eq (by omega) (by omega)).mp (t1.symm.trans q3)
    refine Or.inr (Or.inr ⟨q, q1, fr, to, (p1 13 _ (by omega) (by omega) (by omega)).trans q2, (p1 14 _ (by omega) (by omega) (by omega)).trans q3, EqE_loc (fun x hx => p3 x (by omega)) q4, ?_⟩)
    rcases q5 with ⟨x, y⟩ | ⟨x, y⟩
    · exact Or.inl ⟨x, hco _ y⟩
    · exact Or.inr ⟨x, by rw [p1 15 _ (by omega) (by omega) (by omega), p1 16 _ (by omega) (by omega) (by omega)]; exact y⟩
