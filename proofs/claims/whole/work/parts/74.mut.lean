/-! ===== calls that change what is told ===== -/
section MUT
def PB (X : mm_X) (d nC nM : Nat) (as : List Value) (I : tI) (J : tJ) : Prop := EI X d nC (.ref 0 :: as) I J (fun x I1 J1 => EI X d nM (.ref 145 :: as) I1 J1 (fun y I2 _ => y = x ∧ RR I2))
def PBL (X : mm_X) (d nC nM : Nat) (as : List Value) (I : tI) (J : tJ) : Prop := EL X d nC (.ref 0 :: as) I J (fun x I1 J1 => EL X d nM (.ref 145 :: as) I1 J1 (fun y I2 _ => y = x ∧ RR I2))
variable {X : mm_X} {d : Nat} {I I' I2 : tI} {J : tJ} {n ns nb nf nq tr ts : Nat} {g s q : tI}
theorem Rl.r (h : Rl I g q n ns nb nf nq tr ts) : RR I := ⟨g, q, n, ns, nb, nf, nq, tr, ts, h⟩
theorem fig_ok {b : Int32} (h : figs b) : ∃ a, a ≤ 9 ∧ b - 48 = nI a := by
  have h0 : inR b 0 (nI 57) := ⟨Int32.le_trans (by decide) h.1, h.2⟩
  obtain ⟨m, hm, e⟩ := in_nat (by omega) h0
  have h1 := h.1
  rw [e, show (48 : Int32) = nI 48 from rfl, le_nI (by omega) (by omega)] at h1
  exact ⟨m - 48, by omega, by rw [e, show (48 : Int32) = nI 48 from rfl, pk_sub h1]⟩
variable {b b' : Nat → Int32} {t : Nat}
theorem vD_ok (ht : t ≤ 10) {i : Nat} (hi : i < nR b t) : ∃ a, a ≤ 9 ∧ vD b i = nI a := by
  unfold nR at hi
  by_cases q : fR b t = -1
  · rw [if_pos q] at hi
    exact fig_ok (ff_ok (ok := okR b) (by omega) q i hi)
  · rw [if_neg q] at hi; omega
theorem okS_all (ht : t ≤ 39) {i : Nat} (hi : i < nS b t) : ∀ j, j < t → okS b j := by
  unfold nS at hi
  by_cases q : fS b t = -1
  · have e : ff (okS b) t = -1 := by
      refine Decidable.byContradiction (fun z => ?_)
      unfold fS at q
      rw [if_pos z] at q
      exact z q
    exact ff_ok (ok := okS b) (by omega) e
  · rw [if_neg q] at hi; omega
theorem okS_fig {j : Nat} (h : okS b j) (h0 : j % 5 ≠ 0) (h4 : j % 5 ≠ 4) : figs (b j) := by
  unfold okS at h
  rw [if_neg h0, if_neg h4] at h; exact h
theorem vP_ok (ht : t ≤ 39) {i : Nat} (hi : i < nS b t) : ∃ a, a < 10 ∧ vP b i = nI a := by
  have hl := nS_le (b := b) (t := t)
  obtain ⟨a, a1, a2⟩ := fig_ok (okS_fig (okS_all ht hi (5 * i + 3) (by omega)) (by omega) (by omega))
  exact ⟨a, by omega, a2⟩
theorem vH_ok (ht : t ≤ 39) {i : Nat} (hi : i < nS b t) : ∃ a, a ≤ 99 ∧ vH b i = nI a := by
  have hl := nS_le (b := b) (t := t)
  obtain ⟨a, a1, a2⟩ := fig_ok (okS_fig (okS_all ht hi (5 * i + 1) (by omega)) (by omega) (by omega))
  obtain ⟨c, c1, c2⟩ := fig_ok (okS_fig (okS_all ht hi (5 * i + 2) (by omega)) (by omega) (by omega))
  refine ⟨a * 10 + c, by omega, ?_⟩
  have e : vH b i = (b (5 * i + 1) - 48) * 10 + (b (5 * i + 2) - 48) := by unfold vH; grind
  rw [e, a2, c2, show (10 : Int32) = nI 10 from rfl, show nI a * nI 10 = nI (a * 10) from pk_mul a 10, nI_add]
theorem Rl.rack (h : Rl I g q n ns nb nf nq tr ts) (t : Nat) (ht : t ≤ 10) (e1 : I2 133 1 = nI t) (e2 : I2 151 0 = nI t) (e3 : I2 151 1 = I 151 1) (e4 : ∀ j, j < t → I2 150 j = I2 134 j) (e5 : ∀ j, I2 150 (40 + j) = I 150 (40 + j)) (e6 : I2 2 0 = nI (nR (I2 134) t)) (e7 : ∀ i, i < nR (I2 134) t → I2 3 i = vD (I2 134) i) (e8 : ∀ j, j ≠ 0 → I2 2 j = I 2 j) (e9 : I2 11 5 = 0) (fr : ∀ x, x ≠ 2 → x ≠ 3 → x ≠ 11 → x ≠ 133 → x ≠ 134 → x ≠ 150 → x ≠ 151 → I2 x = I x) : RR I2 := by
  obtain ⟨⟨h1, gd, gp⟩, h2, h3, h4, h5, h6, h7, h8, h9, h10, h11, h12, h13, h14⟩ := h
  obtain ⟨d1, d2, d3, d4, d5, d6⟩ := gd
  have f : ∀ x, (x < 2 ∨ (3 < x ∧ x < 11) ∨ (11 < x ∧ x < 133) ∨ (134 < x ∧ x < 150) ∨ 151 < x) → I2 x = I x := fun x hx => fr x (by omega) (by omega) (by omega) (by omega) (by omega) (by omega) (by omega)
  have hl := nR_le (b := I2 134) (t := t)
  subst h1
  refine ⟨gC I2, q, n, nR (I2 134) t, nb, nf, nq, t, ts, ⟨rfl, ⟨?_, ⟨e6, by omega⟩, ?_, ?_, ?_, ?_⟩, ?_, ?_, ?_⟩, ⟨e1, ht, e2, e4⟩, ?_, ⟨rfl, e7⟩, ?_, ?_, ?_, ?_, ?_, ?_, ?_, fun s hs => (h12 s hs).eq hs (fun x a b c => f x (by omega)), ?_, fun z => absurd e9 z⟩
  · rw [e8 2 (by omega)]; exact d1
  · rw [e8 7 (by omega)]; exact d3
  · rw [e8 10 (by omega)]; exact d4
  · rw [f 6 (by omega)]; exact d5
  · rw [f 9 (by omega)]; exact d6
  · intro k hk
    show ∃ a, a ≤ 99 ∧ I2 5 k = nI a
    rw [f 5 (by omega)]; exact gp.1 k hk
  · intro k hk
    show ∃ a, a ≤ 9 ∧ I2 3 k = nI a
    rw [e7 k hk]; exact vD_ok ht hk
  · show ∃ a, a ≤ 9 ∧ I2 7 1 = nI a
    rw [f 7 (by omega)]; exact gp.2.2
  · rw [f 135 (by omega), f 136 (by omega), e3]
    exact ⟨h3.1, h3.2.1, h3.2.2.1, fun j hj => by rw [e5]; exact h3.2.2.2 j hj⟩
  · rw [f 136 (by omega), f 4 (by omega), f 5 (by omega), f 6 (by omega)]; exact h5
  · rw [f 154 (by omega), f 7 (by omega)]; exact h6
  · rw [f 145 (by omega), f 155 (by omega), f 8 (by omega), f 9 (by omega)]; exact h7
  · rw [f 145 (by omega), f 156 (by omega), f 10 (by omega)]; exact h8
  · rw [f 145 (by omega)]; exact h9
  · unfold Sq; rw [f 32 (by omega), f 33 (by omega), f 34 (by omega), f 35 (by omega)]; exact h10
  · unfold Mq; rw [f 145 (by omega), f 167 (by omega)]; exact h11
  · rw [f 0 (by omega), f 145 (by omega)]; exact h13
theorem Rl.bread (h : Rl I g q n ns nb nf nq tr ts) (t : Nat) (ht : t ≤ 39) (e1 : I2 135 1 = nI t) (e2 : I2 151 1 = nI t) (e3 : I2 151 0 = I 151 0) (e4 : ∀ j, j < t → I2 150 (40 + j) = I2 136 j) (e5 : ∀ j, j < 40 → I2 150 j = I 150 j) (e6 : I2 2 2 = nI (nS (I2 136) t)) (e7 : ∀ i, i < nS (I2 136) t → I2 4 i = vK (I2 136) i ∧ I2 5 i = vH (I2 136) i ∧ I2 6 i = vP (I2 136) i) (e8 : ∀ j, j ≠ 2 → I2 2 j = I 2 j) (e9 : I2 11 5 = 0) (fr : ∀ x, x ≠ 2 → x ≠ 4 → x ≠ 5 → x ≠ 6 → x ≠ 11 → x ≠ 135 → x ≠ 136 → x ≠ 150 → x ≠ 151 → I2 x = I x) : RR I2 := by
  obtain ⟨⟨h1, gd, gp⟩, h2, h3, h4, h5, h6, h7, h8, h9, h10, h11, h12, h13, h14⟩ := h
  obtain ⟨d1, d2, d3, d4, d5, d6⟩ := gd
  have f : ∀ x, (x < 2 ∨ x = 3 ∨ (6 < x ∧ x < 11) ∨ (11 < x ∧ x < 135) ∨ (136 < x ∧ x < 150) ∨ 151 < x) → I2 x = I x := fun x hx => fr x (by omega) (by omega) (by omega) (by omega) (by omega) (by omega) (by omega) (by omega) (by omega)
  have hl := nS_le (b := I2 136) (t := t)
  subst h1
  refine ⟨gC I2, q, nS (I2 136) t, ns, nb, nf, nq, tr, t, ⟨rfl, ⟨⟨e6, by omega⟩, ?_, ?_, ?_, ?_, ?_⟩, ?_, ?_, ?_⟩, ?_, ⟨e1, ht, e2, e4⟩, ?_, ⟨rfl, e7⟩, ?_, ?_, ?_, ?_, ?_, ?_, fun s hs => (h12 s hs).eq hs (fun x a b c => f x (by omega)), ?_, fun z => absurd e9 z⟩
  · rw [e8 0 (by omega)]; exact d2
  · rw [e8 7 (by omega)]; exact d3
  · rw [e8 10 (by omega)]; exact d4
  · intro k hk; rw [(e7 k hk).2.2]; exact vP_ok ht hk
  · rw [f 9 (by omega)]; exact d6
  · intro k hk
    show ∃ a, a ≤ 99 ∧ I2 5 k = nI a
    rw [(e7 k hk).2.1]; exact vH_ok ht hk
  · intro k hk
    show ∃ a, a ≤ 9 ∧ I2 3 k = nI a
    rw [f 3 (by omega)]; exact gp.2.1 k hk
  · show ∃ a, a ≤ 9 ∧ I2 7 1 = nI a
    rw [f 7 (by omega)]; exact gp.2.2
  · rw [f 133 (by omega), f 134 (by omega), e3]
    exact ⟨h2.1, h2.2.1, h2.2.2.1, fun j hj => by have := h2.2.1; rw [e5 j (by omega)]; exact h2.2.2.2 j hj⟩
  · rw [f 134 (by omega), f 3 (by omega)]; exact h4
  · rw [f 154 (by omega), f 7 (by omega)]; exact h6
  · rw [f 145 (by omega), f 155 (by omega), f 8 (by omega), f 9 (by omega)]; exact h7
  · rw [f 145 (by omega), f 156 (by omega), f 10 (by omega)]; exact h8
  · rw [f 145 (by omega)]; exact h9
  · unfold Sq; rw [f 32 (by omega), f 33 (by omega), f 34 (by omega), f 35 (by omega)]; exact h10
  · unfold Mq; rw [f 145 (by omega), f 167 (by omega)]; exact h11
  · rw [f 0 (by omega), f 145 (by omega)]; exact h13
/-- the rules: cold, summer, soft -/
theorem Rl.rule (h : Rl I g q n ns nb nf nq tr ts) (hs : ∃ a, a ≤ 9 ∧ I2 7 1 = nI a) (e1 : ∀ j, j < 3 → I2 154 j = I2 7 j) (e9 : I2 11 5 = 0) (fr : ∀ x, x ≠ 7 → x ≠ 11 → x ≠ 154 → I2 x = I x) : RR I2 := by
  obtain ⟨⟨h1, gd, gp⟩, h2, h3, h4, h5, h6, h7, h8, h9, h10, h11, h12, h13, h14⟩ := h
  subst h1
  refine ⟨gC I2, q, n, ns, nb, nf, nq, tr, ts, ⟨rfl, ?_, ?_, ?_, hs⟩, ?_, ?_, ?_, ?_, e1, ?_, ?_, ?_, ?_, ?_, fun s hs => (h12 s hs).eq hs (fun x a b c => fr x (by omega) (by omega) (by omega)), ?_, fun z => absurd e9 z⟩
  · unfold Gd; rw [fr 2 (by omega) (by omega) (by omega), fr 6 (by omega) (by omega) (by omega), fr 9 (by omega) (by omega) (by omega)]; exact gd
  · intro k hk
    show ∃ a, a ≤ 99 ∧ I2 5 k = nI a
    rw [fr 5 (by omega) (by omega) (by omega)]; exact gp.1 k hk
  · intro k hk
    show ∃ a, a ≤ 9 ∧ I2 3 k = nI a
    rw [fr 3 (by omega) (by omega) (by omega)]; exact gp.2.1 k hk
  · rw [fr 133 (by omega) (by omega) (by omega), fr 134 (by omega) (by omega) (by omega), fr 150 (by omega) (by omega) (by omega), fr 151 (by omega) (by omega) (by omega)]; exact h2
  · rw [fr 135 (by omega) (by omega) (by omega), fr 136 (by omega) (by omega) (by omega), fr 150 (by omega) (by omega) (by omega), fr 151 (by omega) (by omega) (by omega)]; exact h3
  · rw [fr 134 (by omega) (by omega) (by omega), fr 3 (by omega) (by omega) (by omega)]; exact h4
  · rw [fr 136 (by omega) (by omega) (by omega), fr 4 (by omega) (by omega) (by omega), fr 5 (by omega) (by omega) (by omega), fr 6 (by omega) (by omega) (by omega)]; exact h5
  · rw [fr 145 (by omega) (by omega) (by omega), fr 155 (by omega) (by omega) (by omega), fr 8 (by omega) (by omega) (by omega), fr 9 (by omega) (by omega) (by omega)]; exact h7
  · rw [fr 145 (by omega) (by omega) (by omega), fr 156 (by omega) (by omega) (by omega), fr 10 (by omega) (by omega) (by omega)]; exact h8
  · rw [fr 145 (by omega) (by omega) (by omega)]; exact h9
  · unfold Sq; rw [fr 32 (by omega) (by omega) (by omega), fr 33 (by omega) (by omega) (by omega), fr 34 (by omega) (by omega) (by omega), fr 35 (by omega) (by omega) (by omega)]; exact h10
  · unfold Mq; rw [fr 145 (by omega) (by omega) (by omega), fr 167 (by omega) (by omega) (by omega)]; exact h11
  · rw [fr 0 (by omega) (by omega) (by omega), fr 145 (by omega) (by omega) (by omega)]; exact h13
/-- butters and fires -/
theorem Rl.bf (h : Rl I g q n ns nb nf nq tr ts) (nb' nf' : Nat) (hb : nb' ≤ 8) (hf : nf' ≤ 4) (c1 : I2 2 7 = nI nb') (c2 : I2 2 10 = nI nf') (c3 : ∀ j, j ≠ 7 → j ≠ 10 → I2 2 j = I 2 j) (c4 : ∀ k, k < nb' → ∃ p, p < 8 ∧ I2 9 k = nI p) (m1 : I2 145 12 = nI nb') (m2 : I2 145 14 = nI nf') (m3 : ∀ j, j ≠ 12 → j ≠ 14 → I2 145 j = I 145 j) (m4 : ∀ k, k < nb' → I2 155 (2 * k) = I2 8 k ∧ I2 155 (2 * k + 1) = I2 9 k) (m5 : ∀ k, k < nf' → I2 156 k = I2 10 k) (e9 : I2 11 5 = 0) (fr : ∀ x, x ≠ 2 → x ≠ 8 → x ≠ 9 → x ≠ 10 → x ≠ 11 → x ≠ 145 → x ≠ 155 → x ≠ 156 → I2 x = I x) : RR I2 := by
  obtain ⟨⟨h1, gd, gp⟩, h2, h3, h4, h5, h6, h7, h8, h9, h10, h11, h12, h13, h14⟩ := h
  obtain ⟨d1, d2, d3, d4, d5, d6⟩ := gd
  have f : ∀ x, (x < 2 ∨ (2 < x ∧ x < 8) ∨ (11 < x ∧ x < 145) ∨ (145 < x ∧ x < 155) ∨ 156 < x) → I2 x = I x := fun x hx => fr x (by omega) (by omega) (by omega) (by omega) (by omega) (by omega) (by omega) (by omega)
  subst h1
  refine ⟨gC I2, q, n, ns, nb', nf', nq, tr, ts, ⟨rfl, ⟨?_, ?_, ⟨c1, hb⟩, ⟨c2, hf⟩, ?_, c4⟩, ?_, ?_, ?_⟩, ?_, ?_, ?_, ?_, ?_, ⟨m1, m4⟩, ⟨m2, m5⟩, ?_, ?_, ?_, fun s hs => (h12 s hs).eq hs (fun x a b c => f x (by omega)), ?_, fun z => absurd e9 z⟩
  · rw [c3 2 (by omega) (by omega)]; exact d1
  · rw [c3 0 (by omega) (by omega)]; exact d2
  · rw [f 6 (by omega)]; exact d5
  · intro k hk
    show ∃ a, a ≤ 99 ∧ I2 5 k = nI a
    rw [f 5 (by omega)]; exact gp.1 k hk
  · intro k hk
    show ∃ a, a ≤ 9 ∧ I2 3 k = nI a
    rw [f 3 (by omega)]; exact gp.2.1 k hk
  · show ∃ a, a ≤ 9 ∧ I2 7 1 = nI a
    rw [f 7 (by omega)]; exact gp.2.2
  · rw [f 133 (by omega), f 134 (by omega), f 150 (by omega), f 151 (by omega)]; exact h2
  · rw [f 135 (by omega), f 136 (by omega), f 150 (by omega), f 151 (by omega)]; exact h3
  · rw [f 134 (by omega), f 3 (by omega)]; exact h4
  · rw [f 136 (by omega), f 4 (by omega), f 5 (by omega), f 6 (by omega)]; exact h5
  · rw [f 154 (by omega), f 7 (by omega)]; exact h6
  · rw [m3 26 (by omega) (by omega)]; exact h9
  · unfold Sq; rw [f 32 (by omega), f 33 (by omega), f 34 (by omega), f 35 (by omega)]; exact h10
  · unfold Mq; rw [m3 27 (by omega) (by omega), f 167 (by omega)]; exact h11
  · rw [f 0 (by omega), m3 4 (by omega) (by omega)]; exact h13
/-- what was seen -/
theorem Rl.sn (h : Rl I g q n ns nb nf nq tr ts) (q' : tI) (nq' : Nat) (a : Sq I2 q' nq') (b : Mq I2 q' nq') (m3 : ∀ j, j ≠ 27 → I2 145 j = I 145 j) (fr : ∀ x, (x < 32 ∨ 35 < x) → x ≠ 145 → x ≠ 167 → I2 x = I x) : RR I2 := by
  obtain ⟨h1, h2, h3, h4, h5, h6, h7, h8, h9, h10, h11, h12, h13, h14⟩ := h
  have f : ∀ x, (x < 32 ∨ (35 < x ∧ x < 145) ∨ (145 < x ∧ x < 167) ∨ 167 < x) → I2 x = I x := fun x hx => fr x (by omega) (by omega) (by omega)
  refine ⟨g, q', n, ns, nb, nf, nq', tr, ts, h1.eq (fun x a b => f x (by omega)), ?_, ?_, ?_, ?_, ?_, ?_, ?_, ?_, a, b, fun s hs => (h12 s hs).eq hs (fun x a b c => f x (by omega)), ?_, fun z => Lk.eq (h14 (by rw [← f 11 (by omega)]; exact z)) (fun x a b => f x (by omega))⟩
  · rw [f 133 (by omega), f 134 (by omega), f 150 (by omega), f 151 (by omega)]; exact h2
  · rw [f 135 (by omega), f 136 (by omega), f 150 (by omega), f 151 (by omega)]; exact h3
  · rw [f 134 (by omega), f 3 (by omega)]; exact h4
  · rw [f 136 (by omega), f 4 (by omega), f 5 (by omega), f 6 (by omega)]; exact h5
  · rw [f 154 (by omega), f 7 (by omega)]; exact h6
  · rw [m3 12 (by omega), f 155 (by omega), f 8 (by omega), f 9 (by omega)]; exact h7
  · rw [m3 14 (by omega), f 156 (by omega), f 10 (by omega)]; exact h8
  · rw [m3 26 (by omega)]; exact h9
  · rw [f 0 (by omega), m3 4 (by omega)]; exact h13
/-- sheets and findings -/
theorem Rl.sh (h : Rl I g q n ns nb nf nq tr ts) (a : ∀ s, s < 4 → Sh I2 s) (b : I2 0 10 = I2 145 4) (m3 : ∀ j, j ≠ 4 → I2 145 j = I 145 j) (fr : ∀ x, (1 ≤ x ∧ x < 137) ∨ 149 < x → I2 x = I x) : RR I2 := by
  obtain ⟨h1, h2, h3, h4, h5, h6, h7, h8, h9, h10, h11, h12, h13, h14⟩ := h
  refine ⟨g, q, n, ns, nb, nf, nq, tr, ts, h1.eq (fun x a b => fr x (by omega)), ?_, ?_, ?_, ?_, ?_, ?_, ?_, ?_, ?_, ?_, a, b, fun z => Lk.eq (h14 (by rw [← fr 11 (by omega)]; exact z)) (fun x a b => fr x (by omega))⟩
  · rw [fr 133 (by omega), fr 134 (by omega), fr 150 (by omega), fr 151 (by omega)]; exact h2
  · rw [fr 135 (by omega), fr 136 (by omega), fr 150 (by omega), fr 151 (by omega)]; exact h3
  · rw [fr 134 (by omega), fr 3 (by omega)]; exact h4
  · rw [fr 136 (by omega), fr 4 (by omega), fr 5 (by omega), fr 6 (by omega)]; exact h5
  · rw [fr 154 (by omega), fr 7 (by omega)]; exact h6
  · rw [m3 12 (by omega), fr 155 (by omega), fr 8 (by omega), fr 9 (by omega)]; exact h7
  · rw [m3 14 (by omega), fr 156 (by omega), fr 10 (by omega)]; exact h8
  · rw [m3 26 (by omega)]; exact h9
  · unfold Sq; rw [fr 32 (by omega), fr 33 (by omega), fr 34 (by omega), fr 35 (by omega)]; exact h10
  · unfold Mq; rw [m3 27 (by omega), fr 167 (by omega)]; exact h11
end MUT
