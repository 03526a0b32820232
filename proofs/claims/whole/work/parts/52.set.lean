/-! ===== the class's setting is g; searches change it for a while ===== -/
def Sg (I g : tI) (n ns nb nf : Nat) : Prop := gC I = g ∧ Gd I n ns nb nf ∧ Gp g n ns
section SET
variable {X : mm_X} {d : Nat} {I I' : tI} {J : tJ} {c n ns nb nf : Nat} {g s : tI} {h : Int32}
theorem Sg.fc (hs : Sg I g n ns nb nf) (hc : 15 ≤ c) (hf : FC c I I') : Sg I' g n ns nb nf := ⟨(gC_fc hc hf).trans hs.1, hs.2.1.fc hc hf, hs.2.2⟩
/-- it hangs on the setting's cells only -/
theorem Sg.eq (hs : Sg I g n ns nb nf) (hf : ∀ x, 2 ≤ x → x ≤ 10 → I' x = I x) : Sg I' g n ns nb nf := by
  refine ⟨?_, ?_, hs.2.2⟩
  · rw [← hs.1]
    funext k
    unfold gC
    split
    · exact hf _ (by omega) (by omega)
    · rfl
  · unfold Gd
    rw [hf 2 (by omega) (by omega), hf 6 (by omega) (by omega), hf 9 (by omega) (by omega)]
    exact hs.2.1
theorem gC_u {k j : Nat} {v : Int32} (hk : k ≤ 8) : gC (mm_u I (k + 2) j v) = mm_u (gC I) k j v := by
  funext x y
  unfold gC mm_u
  by_cases e : x ≤ 8
  · rw [if_pos e]
    by_cases e2 : x = k
    · subst e2; simp [e]
    · rw [if_neg (by omega), if_neg (by omega)]; simp only [if_pos e]
  · rw [if_neg e, if_neg (by omega)]; simp only [if_neg e]
theorem Sg.slot {k p : Nat} (hs : Sg I g n ns nb nf) (hp : p < 10) : Sg (mm_u I 6 k (nI p)) (mm_u g 4 k (nI p)) n ns nb nf := by
  obtain ⟨h1, h2, h3⟩ := hs
  refine ⟨by rw [← h1]; exact gC_u (k := 4) (by omega), ?_, ?_⟩
  · unfold Gd at h2 ⊢
    rw [mm_u_k (by omega : (2 : Nat) ≠ 6)]
    refine ⟨h2.1, h2.2.1, h2.2.2.1, h2.2.2.2.1, fun i hi => ?_, fun i hi => ?_⟩
    · by_cases e : i = k
      · subst e; rw [mm_u_s]; exact ⟨p, hp, rfl⟩
      · rw [mm_u_j e]; exact h2.2.2.2.2.1 i hi
    · rw [mm_u_k (by omega)]; exact h2.2.2.2.2.2 i hi
  · unfold Gp at h3 ⊢
    refine ⟨fun i hi => ?_, fun i hi => ?_, ?_⟩
    · rw [mm_u_k (by omega)]; exact h3.1 i hi
    · rw [mm_u_k (by omega)]; exact h3.2.1 i hi
    · rw [mm_u_k (by omega)]; exact h3.2.2
theorem Sg.heat {k p : Nat} (hs : Sg I g n ns nb nf) (hp : p ≤ 99) : Sg (mm_u I 5 k (nI p)) (mm_u g 3 k (nI p)) n ns nb nf := by
  obtain ⟨h1, h2, h3⟩ := hs
  refine ⟨by rw [← h1]; exact gC_u (k := 3) (by omega), ?_, ?_⟩
  · unfold Gd at h2 ⊢
    rw [mm_u_k (by omega : (2 : Nat) ≠ 5)]
    refine ⟨h2.1, h2.2.1, h2.2.2.1, h2.2.2.2.1, fun i hi => ?_, fun i hi => ?_⟩
    · rw [mm_u_k (by omega)]; exact h2.2.2.2.2.1 i hi
    · rw [mm_u_k (by omega)]; exact h2.2.2.2.2.2 i hi
  · unfold Gp at h3 ⊢
    refine ⟨fun i hi => ?_, fun i hi => ?_, ?_⟩
    · by_cases e : i = k
      · subst e; rw [mm_u_s]; exact ⟨p, hp, rfl⟩
      · rw [mm_u_j e]; exact h3.1 i hi
    · rw [mm_u_k (by omega)]; exact h3.2.1 i hi
    · rw [mm_u_k (by omega)]; exact h3.2.2
theorem Sg.summer {v : Nat} (hs : Sg I g n ns nb nf) (hv : v ≤ 9) : Sg (mm_u I 7 1 (nI v)) (mm_u g 5 1 (nI v)) n ns nb nf := by
  obtain ⟨h1, h2, h3⟩ := hs
  refine ⟨by rw [← h1]; exact gC_u (k := 5) (by omega), ?_, ?_⟩
  · unfold Gd at h2 ⊢
    rw [mm_u_k (by omega : (2 : Nat) ≠ 7)]
    refine ⟨h2.1, h2.2.1, h2.2.2.1, h2.2.2.2.1, fun i hi => ?_, fun i hi => ?_⟩
    · rw [mm_u_k (by omega)]; exact h2.2.2.2.2.1 i hi
    · rw [mm_u_k (by omega)]; exact h2.2.2.2.2.2 i hi
  · unfold Gp at h3 ⊢
    refine ⟨fun i hi => ?_, fun i hi => ?_, ?_⟩
    · rw [mm_u_k (by omega)]; exact h3.1 i hi
    · rw [mm_u_k (by omega)]; exact h3.2.1 i hi
    · rw [mm_u_s]; exact ⟨v, hv, rfl⟩
/-! the course's methods, in the document's words -/
theorem sp_beginZ {P : tI → tJ → Prop} (hc : c ∈ mm_crs) (hs : Sg I g n ns nb nf) (hP : ∀ I', FC c I I' → Cs c n I' (z0 g) → P I' J) : EV X d n_X0_begin [.ref c] I J P := by
  obtain ⟨rfl, h2, h3⟩ := hs
  exact sp_begin hc h2.1 (hP _ (fc_beginAll c n I) (cs_begin (crs_ge hc).1 h3))
theorem sp_untilZ {P : tI → tJ → Prop} (hc : c ∈ mm_crs) (hs : Sg I g n ns nb nf) (hcs : Cs c n I s) (hP : ∀ I', FC c I I' → Cs c n I' (zU g n nf h s) → P I' J) : EV X (d + 1) n_X0_untilButters [.ref c, .int h] I J P := by
  obtain ⟨rfl, h2, h3⟩ := hs
  exact sp_until hc h2 (hP _ (fc_until c n nf h I) (cs_until (crs_ge hc).1 h2 hcs))
theorem sp_fromZ {P : tI → tJ → Prop} {m : Nat} (hc : c ∈ mm_crs) (hs : Sg I g n ns nb nf) (hcs : Cs c n I s) (hm : m ≤ 3) (hP : ∀ I', FC c I I' → Cs c n I' (zF g n nb h (nI m) s) → P I' J) : EV X (d + 2) n_X0_fromButters [.ref c, .int h, .int (nI m)] I J P := by
  obtain ⟨rfl, h2, h3⟩ := hs
  exact sp_from hc h2 (hP _ (fc_from c n ns nb h (nI m) I) (cs_from (crs_ge hc).1 h2 h3 ⟨m, hm, rfl⟩ hcs))
theorem sp_goThroughZ {P : tI → tJ → Prop} (hc : c ∈ mm_crs) (hs : Sg I g n ns nb nf) (hP : ∀ I', FC c I I' → Cs c n I' (zN g n nb nf (fun _ => 0) 30) → P I' J) : EV X (d + 3) n_X0_goThrough [.ref c] I J P := by
  obtain ⟨rfl, h2, h3⟩ := hs
  exact sp_goThrough hc h2 (hP _ (fc_hours c n ns nb nf I 30) (cs_hours (crs_ge hc).1 h2 h3 30))
/-! the same changes of the reference's -/
theorem Mg.slot {k p : Nat} (hm : Mg I g n ns nb nf) (hk : k < n) (hp : p < 10) : Mg (mm_u I 153 (3 * k + 2) (nI p)) (mm_u g 4 k (nI p)) n ns nb nf := by
  obtain ⟨m1, m2, m3, m4, m5, m6, m7, m8, m9, m10, m11, m12⟩ := hm
  unfold Mg
  simp only [mm_u_k (f := I) (by omega : (145 : Nat) ≠ 153), mm_u_k (f := I) (by omega : (152 : Nat) ≠ 153), mm_u_k (f := I) (by omega : (154 : Nat) ≠ 153), mm_u_k (f := I) (by omega : (155 : Nat) ≠ 153), mm_u_k (f := I) (by omega : (156 : Nat) ≠ 153), mm_u_k (f := g) (by omega : (0 : Nat) ≠ 4), mm_u_k (f := g) (by omega : (1 : Nat) ≠ 4), mm_u_k (f := g) (by omega : (2 : Nat) ≠ 4), mm_u_k (f := g) (by omega : (3 : Nat) ≠ 4), mm_u_k (f := g) (by omega : (5 : Nat) ≠ 4), mm_u_k (f := g) (by omega : (6 : Nat) ≠ 4), mm_u_k (f := g) (by omega : (7 : Nat) ≠ 4), mm_u_k (f := g) (by omega : (8 : Nat) ≠ 4)]
  refine ⟨m1, m2, m3, m4, fun i hi => ?_, m6, m7, m8, m9, m10, fun i hi => ?_, m12⟩
  · rw [mm_u_j (by omega : 3 * i ≠ 3 * k + 2), mm_u_j (by omega : 3 * i + 1 ≠ 3 * k + 2)]
    refine ⟨(m5 i hi).1, (m5 i hi).2.1, ?_⟩
    by_cases e : i = k
    · subst e; rw [mm_u_s, mm_u_s]
    · rw [mm_u_j (by omega), mm_u_j e]; exact (m5 i hi).2.2
  · by_cases e : i = k
    · subst e; rw [mm_u_s]; exact ⟨p, hp, rfl⟩
    · rw [mm_u_j e]; exact m11 i hi
theorem Mg.heat {k : Nat} {v : Int32} (hm : Mg I g n ns nb nf) (hk : k < n) : Mg (mm_u I 153 (3 * k + 1) v) (mm_u g 3 k v) n ns nb nf := by
  obtain ⟨m1, m2, m3, m4, m5, m6, m7, m8, m9, m10, m11, m12⟩ := hm
  unfold Mg
  simp only [mm_u_k (f := I) (by omega : (145 : Nat) ≠ 153), mm_u_k (f := I) (by omega : (152 : Nat) ≠ 153), mm_u_k (f := I) (by omega : (154 : Nat) ≠ 153), mm_u_k (f := I) (by omega : (155 : Nat) ≠ 153), mm_u_k (f := I) (by omega : (156 : Nat) ≠ 153), mm_u_k (f := g) (by omega : (0 : Nat) ≠ 3), mm_u_k (f := g) (by omega : (1 : Nat) ≠ 3), mm_u_k (f := g) (by omega : (2 : Nat) ≠ 3), mm_u_k (f := g) (by omega : (4 : Nat) ≠ 3), mm_u_k (f := g) (by omega : (5 : Nat) ≠ 3), mm_u_k (f := g) (by omega : (6 : Nat) ≠ 3), mm_u_k (f := g) (by omega : (7 : Nat) ≠ 3), mm_u_k (f := g) (by omega : (8 : Nat) ≠ 3)]
  refine ⟨m1, m2, m3, m4, fun i hi => ?_, m6, m7, m8, m9, m10, m11, m12⟩
  rw [mm_u_j (by omega : 3 * i ≠ 3 * k + 1), mm_u_j (by omega : 3 * i + 2 ≠ 3 * k + 1)]
  refine ⟨(m5 i hi).1, ?_, (m5 i hi).2.2⟩
  by_cases e : i = k
  · subst e; rw [mm_u_s, mm_u_s]
  · rw [mm_u_j (by omega), mm_u_j e]; exact (m5 i hi).2.1
theorem Mg.summer {v : Int32} (hm : Mg I g n ns nb nf) : Mg (mm_u I 154 1 v) (mm_u g 5 1 v) n ns nb nf := by
  obtain ⟨m1, m2, m3, m4, m5, m6, m7, m8, m9, m10, m11, m12⟩ := hm
  unfold Mg
  simp only [mm_u_k (f := I) (by omega : (145 : Nat) ≠ 154), mm_u_k (f := I) (by omega : (152 : Nat) ≠ 154), mm_u_k (f := I) (by omega : (153 : Nat) ≠ 154), mm_u_k (f := I) (by omega : (155 : Nat) ≠ 154), mm_u_k (f := I) (by omega : (156 : Nat) ≠ 154), mm_u_k (f := g) (by omega : (0 : Nat) ≠ 5), mm_u_k (f := g) (by omega : (1 : Nat) ≠ 5), mm_u_k (f := g) (by omega : (2 : Nat) ≠ 5), mm_u_k (f := g) (by omega : (3 : Nat) ≠ 5), mm_u_k (f := g) (by omega : (4 : Nat) ≠ 5), mm_u_k (f := g) (by omega : (6 : Nat) ≠ 5), mm_u_k (f := g) (by omega : (7 : Nat) ≠ 5), mm_u_k (f := g) (by omega : (8 : Nat) ≠ 5)]
  refine ⟨m1, m2, m3, m4, m5, m6, fun i hi => ?_, m8, m9, m10, m11, m12⟩
  by_cases e : i = 1
  · subst e; rw [mm_u_s, mm_u_s]
  · rw [mm_u_j e, mm_u_j e]; exact m7 i hi
end SET
/-! ===== when one is let go first, and its line ===== -/
section FIRST
variable {n nb nf : Nat} {g s : tI} {mo : Nat → Int32}
theorem r5_1 {h : Int32} (k : Nat) : z1 g h s 5 k = s 5 k := by unfold z1; split <;> simp
theorem it_r {B : Nat → tI → tI} {j : Nat} (hB : ∀ i t k, B i t j k = t j k) : ∀ m k, it B s m j k = s j k
  | 0, _ => rfl
  | m + 1, k => (hB m _ k).trans (it_r hB m k)
theorem b2_r {j : Nat} (hj : j ≠ 2) (i : Nat) (t : tI) (k : Nat) : b2 g n i t j k = t j k := by
  unfold b2
  split
  · rw [mm_u_k hj]
  · rfl
theorem b4_r {h : Int32} {j : Nat} (hj : j ≠ 2) (i : Nat) (t : tI) (k : Nat) : b4 g n h i t j k = t j k := by
  unfold b4
  split
  · rw [mm_u_k hj]
  · rfl
theorem r5_U {h : Int32} (k : Nat) : zU g n nf h s 5 k = s 5 k := by
  unfold zU z3
  rw [if_neg (by omega), it_r (b2_r (by omega)) n k, r5_1]
theorem r7_U {h : Int32} (k : Nat) : zU g n nf h s 7 k = s 7 k := by
  unfold zU z3
  rw [if_neg (by omega), it_r (b2_r (by omega)) n k]
  unfold z1; split <;> simp
theorem r5_H {h more : Int32} (k : Nat) : zH g n nb nf h more s 5 k = s 5 k ∨ (s 5 k = -1 ∧ zH g n nb nf h more s 5 k = h) := by
  have e : it (b4 g n h) (zl g h (zU g n nf h s)) nb 5 k = s 5 k := by
    rw [it_r (b4_r (by omega)) nb k]
    unfold zl
    rw [if_neg (by omega), r5_U]
  unfold zH zF
  generalize it (b4 g n h) (zl g h (zU g n nf h s)) nb = t at e ⊢
  unfold z5
  rw [e]
  by_cases a : s 5 k = -1
  · by_cases q : t 2 k = 0 ∨ t 2 k = 1
    · by_cases w : zhe g n more t k ≤ g 5 0
      · right; simp [q, w, a]
      · left; simp [q, w]
    · left; simp [q]
  · left
    by_cases q : t 2 k = 0 ∨ t 2 k = 1
    · by_cases w : zhe g n more t k ≤ g 5 0
      · simp [q, w, a]
      · simp [q, w]
    · simp [q]
/-- the line: nothing else changes it -/
theorem r7_H {h more : Int32} (k : Nat) : zH g n nb nf h more s 7 k = zl g h (zU g n nf h s) 7 k := by
  have e : it (b4 g n h) (zl g h (zU g n nf h s)) nb 7 k = zl g h (zU g n nf h s) 7 k := it_r (b4_r (by omega)) nb k
  unfold zH zF z5
  split
  · simp only [show ((7 : Nat) = 1) = False from by simp, if_false]
    split
    · simp [e]
    · exact e
  · exact e
theorem first_is (k : Nat) : ∀ m, m ≤ 30 → zN g n nb nf mo m 5 k = -1 ∨ ∃ j, j < m ∧ zN g n nb nf mo m 5 k = nI j
  | 0, _ => Or.inl rfl
  | m + 1, hm => by
    rcases r5_H (g := g) (n := n) (nb := nb) (nf := nf) (h := nI m) (more := mo m) (s := zN g n nb nf mo m) k with q | q
    · rcases first_is k m (by omega) with w | ⟨j, j1, j2⟩
      · exact Or.inl (q.trans w)
      · exact Or.inr ⟨j, by omega, q.trans j2⟩
    · exact Or.inr ⟨m, by omega, q.2⟩
theorem first_stay (k : Nat) {m : Nat} (h : zN g n nb nf mo m 5 k ≠ -1) : ∀ m', m ≤ m' → zN g n nb nf mo m' 5 k = zN g n nb nf mo m 5 k := by
  intro m' hm
  induction m' with
  | zero => rw [show m = 0 by omega]
  | succ m' ih =>
    by_cases e : m = m' + 1
    · rw [e]
    · have ih := ih (by omega)
      rcases r5_H (g := g) (n := n) (nb := nb) (nf := nf) (h := nI m') (more := mo m') (s := zN g n nb nf mo m') k with q | q
      · exact q.trans ih
      · rw [ih] at q; exact absurd q.1 h
/-- not yet let go behind m hours: not before hour m -/
theorem first_late (k : Nat) {m : Nat} (hm : m ≤ 30) (h : zN g n nb nf mo m 5 k = -1) {j : Nat} (hj : zN g n nb nf mo 30 5 k = nI j) (hj2 : j < 30) : m ≤ j := by
  refine Decidable.byContradiction (fun q => ?_)
  -- behind j + 1 hours it is told
  rcases first_is (g := g) (n := n) (nb := nb) (nf := nf) (mo := mo) k (j + 1) (by omega) with w | ⟨i, i1, i2⟩
  · -- then it was told later, with a later hour
    have : ∀ m', j + 1 ≤ m' → m' ≤ 30 → zN g n nb nf mo m' 5 k = -1 ∨ ∃ i, j < i ∧ i < m' ∧ zN g n nb nf mo m' 5 k = nI i := by
      intro m' a b
      induction m' with
      | zero => omega
      | succ m' ih =>
        by_cases e : m' = j
        · subst e; exact Or.inl w
        · rcases r5_H (g := g) (n := n) (nb := nb) (nf := nf) (h := nI m') (more := mo m') (s := zN g n nb nf mo m') k with q | q
          · rcases ih (by omega) (by omega) with w | ⟨i, i1, i2, i3⟩
            · exact Or.inl (q.trans w)
            · exact Or.inr ⟨i, i1, by omega, q.trans i3⟩
          · exact Or.inr ⟨m', by omega, by omega, q.2⟩
    rcases this 30 (by omega) (by omega) with w | ⟨i, i1, i2, i3⟩
    · rw [w] at hj; exact nI_ne (by omega) hj.symm
    · rw [hj] at i3
      have := (nI_eq (by omega) (by omega)).mp i3
      omega
  · have e := first_stay (g := g) (n := n) (nb := nb) (nf := nf) (mo := mo) k (m := j + 1) (by rw [i2]; exact nI_ne (by omega)) m (by omega)
    rw [h, i2] at e
    exact nI_ne (by omega) e.symm
theorem line_stay (k : Nat) {m : Nat} (h : zN g n nb nf mo m 7 k ≠ -1) : ∀ m', m ≤ m' → zN g n nb nf mo m' 7 k = zN g n nb nf mo m 7 k := by
  intro m' hm
  induction m' with
  | zero => rw [show m = 0 by omega]
  | succ m' ih =>
    by_cases e : m = m' + 1
    · rw [e]
    · have ih := ih (by omega)
      show zH g n nb nf (nI m') (mo m') (zN g n nb nf mo m') 7 k = _
      rw [r7_H]
      unfold zl
      rw [r7_U, ih, if_neg (fun z => h z.2.1)]
end FIRST
