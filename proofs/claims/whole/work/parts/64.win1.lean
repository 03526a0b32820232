/-! ===== a window by chance: the pure value ===== -/
section WIN1
/-- of 16 to the power of the r hours still to come with a window, behind m hours with the windows of s -/
noncomputable def wy (c : Nat) (ok : Nat → Prop) : Nat → Nat → Nat → Nat
  | 0, _, s => @ite _ (ok s) (Classical.propDecidable _) 1 0
  | r + 1, m, s => (16 - c) * wy c ok r (m + 1) s + c * wy c ok r (m + 1) (s + 2 ^ m)
variable {c : Nat} {ok : Nat → Prop}
theorem pw_2 (m t : Nat) : 2 ^ (m + 1) * t = 2 ^ m * (2 * t) := by rw [Nat.pow_succ, Nat.mul_assoc]
theorem pw_3 (m s t : Nat) : s + 2 ^ m + 2 ^ (m + 1) * t = s + 2 ^ m * (2 * t + 1) := by rw [pw_2, Nat.mul_add, Nat.mul_one]; omega
theorem c_16 (hc : c ≤ 16) (x : Nat) : (16 - c) * x + c * x = 16 * x := by rw [← Nat.add_mul]; congr 1; omega
theorem wy_all (hc : c ≤ 16) : ∀ r m s, (∀ t, ok (s + 2 ^ m * t)) → wy c ok r m s = 16 ^ r
  | 0, m, s, h => by
    have h0 := h 0
    rw [Nat.mul_zero, Nat.add_zero] at h0
    rw [wy, if_pos h0, Nat.pow_zero]
  | r + 1, m, s, h => by
    rw [wy, wy_all hc r (m + 1) s (fun t => by rw [pw_2]; exact h _), wy_all hc r (m + 1) (s + 2 ^ m) (fun t => by rw [pw_3]; exact h _), c_16 hc, Nat.pow_succ, Nat.mul_comm]
theorem wy_none : ∀ r m s, (∀ t, ¬ ok (s + 2 ^ m * t)) → wy c ok r m s = 0
  | 0, m, s, h => by
    have h0 := h 0
    rw [Nat.mul_zero, Nat.add_zero] at h0
    rw [wy, if_neg h0]
  | r + 1, m, s, h => by
    rw [wy, wy_none r (m + 1) s (fun t => by rw [pw_2]; exact h _), wy_none r (m + 1) (s + 2 ^ m) (fun t => by rw [pw_3]; exact h _)]; rfl
theorem wy_le (hc : c ≤ 16) : ∀ r m s, wy c ok r m s ≤ 16 ^ r
  | 0, m, s => by rw [wy]; split <;> simp
  | r + 1, m, s => by
    have h1 := Nat.mul_le_mul_left (16 - c) (wy_le hc r (m + 1) s)
    have h2 := Nat.mul_le_mul_left c (wy_le hc r (m + 1) (s + 2 ^ m))
    have h3 := c_16 hc (16 ^ r)
    rw [wy, Nat.pow_succ, Nat.mul_comm (16 ^ r)]
    omega
theorem wy_scale (hc : c ≤ 16) (e : Nat) : ∀ r m s, (∀ s' t, ok (s' + 2 ^ (m + r) * t) ↔ ok s') → wy c ok (r + e) m s = 16 ^ e * wy c ok r m s
  | 0, m, s, h => by
    rw [Nat.zero_add]
    by_cases q : ok s
    · rw [wy_all hc e m s (fun t => (h s t).mpr q)]
      show _ = _ * @ite _ (ok s) (Classical.propDecidable _) 1 0
      rw [if_pos q, Nat.mul_one]
    · rw [wy_none e m s (fun t z => q ((h s t).mp z))]
      show _ = _ * @ite _ (ok s) (Classical.propDecidable _) 1 0
      rw [if_neg q, Nat.mul_zero]
  | r + 1, m, s, h => by
    have h' : ∀ s' t, ok (s' + 2 ^ (m + 1 + r) * t) ↔ ok s' := by rw [show m + 1 + r = m + (r + 1) by omega]; exact h
    rw [show r + 1 + e = (r + e) + 1 by omega, wy, wy, wy_scale hc e r (m + 1) s h', wy_scale hc e r (m + 1) (s + 2 ^ m) h', Nat.mul_add, Nat.mul_left_comm, Nat.mul_left_comm c]
/-- the weight of the windows of s in the first hours -/
def wt (c s : Nat) : Nat → Nat
  | 0 => 1
  | i + 1 => wt c s i * (if s.testBit i = true then c else 16 - c)
def sm (f : Nat → Nat) : Nat → Nat
  | 0 => 0
  | s + 1 => sm f s + f s
theorem sm_add (f : Nat → Nat) (a : Nat) : ∀ b, sm f (a + b) = sm f a + sm (fun i => f (a + i)) b
  | 0 => rfl
  | b + 1 => by rw [← Nat.add_assoc, sm, sm_add f a b, sm, Nat.add_assoc]
theorem sm_congr {f f' : Nat → Nat} : ∀ b, (∀ s, s < b → f s = f' s) → sm f b = sm f' b
  | 0, _ => rfl
  | b + 1, h => by rw [sm, sm, sm_congr b (fun s hs => h s (by omega)), h b (by omega)]
theorem sm_two (f f' : Nat → Nat) : ∀ b, sm f b + sm f' b = sm (fun s => f s + f' s) b
  | 0 => rfl
  | b + 1 => by have := sm_two f f' b; rw [sm, sm, sm]; omega
theorem bit_add {s L i : Nat} (hi : i < L) : (2 ^ L + s).testBit i = s.testBit i := by
  have h : (2 ^ L + s) % 2 ^ L = s % 2 ^ L := by rw [Nat.add_mod_left]
  have h1 := Nat.testBit_mod_two_pow (2 ^ L + s) L i
  have h2 := Nat.testBit_mod_two_pow s L i
  rw [h, h2, decide_eq_true hi, Bool.true_and, Bool.true_and] at h1
  exact h1.symm
theorem wt_add {s L : Nat} : ∀ m, m ≤ L → wt c (2 ^ L + s) m = wt c s m
  | 0, _ => rfl
  | m + 1, h => by rw [wt, wt, wt_add m (by omega), bit_add (by omega)]
theorem sm_wy : ∀ L r, sm (fun s => wt c s L * wy c ok r L s) (2 ^ L) = wy c ok (r + L) 0 0
  | 0, r => by
    show 0 + wt c 0 0 * wy c ok r 0 0 = _
    rw [wt, Nat.one_mul, Nat.zero_add, Nat.add_zero]
  | L + 1, r => by
    have ih := sm_wy L (r + 1)
    rw [show r + (L + 1) = r + 1 + L by omega, ← ih, Nat.pow_succ, show 2 ^ L * 2 = 2 ^ L + 2 ^ L by omega, sm_add, sm_two]
    refine sm_congr _ (fun s hs => ?_)
    have b0 : s.testBit L = false := Nat.testBit_lt_two_pow hs
    have b1 : (2 ^ L + s).testBit L = true := by rw [Nat.testBit_two_pow_add_eq, b0]; rfl
    show wt c s (L + 1) * wy c ok r (L + 1) s + wt c (2 ^ L + s) (L + 1) * wy c ok r (L + 1) (2 ^ L + s) = wt c s L * wy c ok (r + 1) L s
    rw [wt, wt, b0, b1, if_neg (by decide), if_pos rfl, wt_add L (Nat.le_refl _), wy, Nat.mul_add, Nat.mul_assoc, Nat.mul_assoc, Nat.add_comm (2 ^ L) s]
end WIN1
section WIN2
variable {n nb nf : Nat} {g s : tI} {mo mo' : Nat → Int32}
theorem and1 (x : Int32) : x &&& 1 = 0 ∨ x &&& 1 = 1 := by
  have h1 : ∀ i, i < 32 → bt 1 i = decide (i = 0) := by decide +kernel
  by_cases q : bt x 0 = true
  · right
    refine b_ext (fun i hi => ?_)
    rw [b_and, h1 i hi]
    by_cases e : i = 0
    · subst e; rw [q]; rfl
    · rw [decide_eq_false e, Bool.and_false]
  · left
    refine b_ext (fun i hi => ?_)
    rw [b_and, h1 i hi, b_0]
    by_cases e : i = 0
    · subst e; rw [Bool.not_eq_true _ |>.mp q]; rfl
    · rw [decide_eq_false e, Bool.and_false]
theorem bt_nI (t p : Nat) (hp : p < 32) : bt (nI t) p = t.testBit p := by
  show (BitVec.ofNat 32 t).getLsbD p = _
  rw [BitVec.getLsbD_ofNat, decide_eq_true hp, Bool.true_and]
theorem bit_is (t : Nat) {h : Nat} (hh : h < 31) : ((nI t >>> (nI h &&& 31)) &&& 1) = 1 ↔ t.testBit h = true := by
  have k := bt_test (nI t) hh
  rw [bt_nI t h (by omega)] at k
  rcases and1 (nI t >>> (nI h &&& 31)) with q | q
  · rw [q]
    refine ⟨fun z => absurd z (by decide), fun z => ?_⟩
    rw [k.mp q] at z; cases z
  · rw [q]
    refine ⟨fun _ => ?_, fun _ => rfl⟩
    cases e : t.testBit h
    · have := k.mpr e; rw [q] at this; exact absurd this (by decide)
    · rfl
theorem mO_bit (t h : Nat) : mO (nI t) h = if h < 10 ∧ t.testBit h = true then 3 else 0 := by
  unfold mO
  by_cases q : h < 10
  · by_cases w : t.testBit h = true
    · rw [if_pos ⟨q, (bit_is t (by omega)).mpr w⟩, if_pos ⟨q, w⟩]
    · rw [if_neg (fun z => w ((bit_is t (by omega)).mp z.2)), if_neg (fun z => w z.2)]
  · rw [if_neg (fun z => q z.1), if_neg (fun z => q z.1)]
theorem zN_congr : ∀ m, (∀ i, i < m → mo i = mo' i) → zN g n nb nf mo m = zN g n nb nf mo' m
  | 0, _ => by unfold zN; rw [it, it]
  | m + 1, h => by
    show zH g n nb nf (nI m) (mo m) (zN g n nb nf mo m) = zH g n nb nf (nI m) (mo' m) (zN g n nb nf mo' m)
    rw [zN_congr m (fun i hi => h i (by omega)), h m (by omega)]
theorem bits_eq {x y j i : Nat} (h : x % 2 ^ j = y % 2 ^ j) (hi : i < j) : x.testBit i = y.testBit i := by
  have h1 := Nat.testBit_mod_two_pow x j i
  have h2 := Nat.testBit_mod_two_pow y j i
  rw [h, h2, decide_eq_true hi, Bool.true_and, Bool.true_and] at h1
  exact h1.symm
theorem zN_bits {x y m : Nat} (h : x % 2 ^ m = y % 2 ^ m) : zN g n nb nf (mO (nI x)) m = zN g n nb nf (mO (nI y)) m := zN_congr m (fun i hi => by rw [mO_bit, mO_bit, bits_eq h hi])
theorem soft_H {h more : Int32} {k : Nat} (e : s 2 k = 3) : zH g n nb nf h more s 2 k = 3 ∧ zH g n nb nf h more s 5 k = s 5 k := by
  have a1 : ∀ j, z1 g h s j k = s j k := fun j => by unfold z1; rw [if_neg (fun q => by rw [e] at q; exact absurd q.1 (by decide))]
  have a2 : it (b2 g n) (z1 g h s) n 2 k = 3 ∧ it (b2 g n) (z1 g h s) n 5 k = s 5 k := by
    refine it_inv (Q := fun t : tI => t 2 k = 3 ∧ t 5 k = s 5 k) ⟨(a1 2).trans e, a1 5⟩ (fun i t q => ?_) n
    unfold b2
    split
    · rename_i w
      by_cases ei : k = i
      · subst ei; rw [q.1] at w; exact absurd w.1 (by decide)
      · exact ⟨by rw [mm_u_j ei]; exact q.1, by rw [mm_u_k (by omega)]; exact q.2⟩
    · exact q
  have a3 : zU g n nf h s 2 k = 3 ∧ zU g n nf h s 5 k = s 5 k := by
    unfold zU z3
    rw [if_neg (fun z => absurd z.1 (by decide)), if_neg (fun z => absurd z.1 (by decide))]
    exact a2
  have a4 : it (b4 g n h) (zl g h (zU g n nf h s)) nb 2 k = 3 ∧ it (b4 g n h) (zl g h (zU g n nf h s)) nb 5 k = s 5 k := by
    refine it_inv (Q := fun t : tI => t 2 k = 3 ∧ t 5 k = s 5 k) ?_ (fun i t q => ?_) nb
    · unfold zl
      rw [if_neg (fun z => absurd z.1 (by decide)), if_neg (fun z => absurd z.1 (by decide))]
      exact a3
    · unfold b4
      split
      · refine ⟨?_, by rw [mm_u_k (by omega)]; exact q.2⟩
        by_cases ei : k = tn (g 7 i)
        · rw [← ei, mm_u_s]
        · rw [mm_u_j ei]; exact q.1
      · exact q
  have nin : ¬ (it (b4 g n h) (zl g h (zU g n nf h s)) nb 2 k = 0 ∨ it (b4 g n h) (zl g h (zU g n nf h s)) nb 2 k = 1) := by
    rw [a4.1]; decide
  unfold zH zF z5
  rw [if_neg nin, if_neg nin]
  exact a4
theorem soft_stay (k : Nat) {m : Nat} (h : zN g n nb nf mo m 2 k = 3) : ∀ e, zN g n nb nf mo (m + e) 2 k = 3 ∧ zN g n nb nf mo (m + e) 5 k = zN g n nb nf mo m 5 k
  | 0 => ⟨h, rfl⟩
  | e + 1 => by
    have ih := soft_stay k h e
    have w := soft_H (g := g) (n := n) (nb := nb) (nf := nf) (h := nI (m + e)) (more := mo (m + e)) (s := zN g n nb nf mo (m + e)) ih.1
    exact ⟨w.1, w.2.trans ih.2⟩
/-- slice k is let go by hour h, with the windows of t -/
def okW (g : tI) (n nb nf h k t : Nat) : Prop := zN g n nb nf (mO (nI t)) (h + 1) 5 k ≠ -1
theorem mod_add (s m t : Nat) : (s + 2 ^ m * t) % 2 ^ m = s % 2 ^ m := Nat.add_mul_mod_self_left _ _ _
/-- how it goes on from what stands behind m hours -/
theorem ok_go {h k m t : Nat} (hm : m ≤ h + 1) (q : zN g n nb nf (mO (nI t)) m 5 k ≠ -1) : okW g n nb nf h k t := by
  unfold okW
  rw [first_stay k q (h + 1) hm]; exact q
theorem ok_not {h k m t : Nat} (hm : m ≤ h + 1) (q : zN g n nb nf (mO (nI t)) m 5 k = -1) (q2 : zN g n nb nf (mO (nI t)) m 2 k = 3) : ¬ okW g n nb nf h k t := fun z => by
  have w := (soft_stay (g := g) (n := n) (nb := nb) (nf := nf) (mo := mO (nI t)) k q2 (h + 1 - m)).2
  rw [show m + (h + 1 - m) = h + 1 by omega] at w
  exact z (w.trans q)
theorem ok_low {h k j : Nat} (hj : h + 1 ≤ j) (s t : Nat) : okW g n nb nf h k (s + 2 ^ j * t) ↔ okW g n nb nf h k s := by
  unfold okW
  have e : (s + 2 ^ j * t) % 2 ^ (h + 1) = s % 2 ^ (h + 1) := by
    rw [show j = (h + 1) + (j - (h + 1)) by omega, Nat.pow_add, Nat.mul_assoc]
    exact Nat.add_mul_mod_self_left _ _ _
  rw [zN_bits e]
/-- the class counts over fewer hours: the reference's number is a multiple -/
theorem wy_more {c h k l : Nat} (hc : c ≤ 16) (hl : l ≤ 9) : wy c (okW g n nb nf h k) (l + 1) 0 0 = 16 ^ (l + 1 - (min l h + 1)) * wy c (okW g n nb nf h k) (min l h + 1) 0 0 := by
  by_cases q : l ≤ h
  · rw [show min l h = l by omega, Nat.sub_self, Nat.pow_zero, Nat.one_mul]
  · rw [show min l h = h by omega]
    have w := wy_scale (ok := okW g n nb nf h k) hc (l + 1 - (h + 1)) (h + 1) 0 0 (fun s t => ok_low (by omega) s t)
    rw [show h + 1 + (l + 1 - (h + 1)) = l + 1 by omega] at w
    exact w
end WIN2
