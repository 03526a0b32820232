/-! numbers -/
theorem max0_sub {a b : Nat} (ha : a < 1000) (hb : b < 1000) : max0 (nI a - nI b) = nI (a - b) := by
  have h := pk_sub_toInt (a := a) (b := b) (by omega) (by omega)
  unfold max0
  by_cases h1 : b < a
  · rw [if_pos (by rw [Int32.lt_iff_toInt_lt, h, Int32.toInt_zero]; omega), pk_sub (by omega)]
  · rw [if_neg (by rw [Int32.lt_iff_toInt_lt, h, Int32.toInt_zero]; omega), show a - b = 0 by omega]
    rfl
theorem sub_m1 (a b : Nat) : nI a - nI b + (-1) = nI a - nI (b + 1) := by rw [← nI_1]; grind
theorem half_nI {a : Nat} (h : a < 1000) : nI a / 2 = nI (a / 2) := pk_div (d := 2) (by omega) (by decide) (by decide)
theorem vC3_nI (k : Int32) {a b : Nat} (ha : a < 500) (hb : b < 500) : ∃ z, z ≤ a + 1 ∧ vC3 k (nI a - nI b) = nI z := by
  have h : (if (0 : Int32) < nI a - nI b then nI a - nI b else 0) = nI (a - b) := max0_sub (by omega) (by omega)
  unfold vC3
  rw [h]
  split
  · exact ⟨a - b + 1, by omega, nI_1 _⟩
  · split
    · exact ⟨(a - b) / 2, by omega, half_nI (by omega)⟩
    · exact ⟨a - b, by omega, rfl⟩
theorem frN_nI {a : Nat} (ha : a ≤ 99) : ∀ f, f ≤ 10 → frN f (nI a) = nI (min 99 (a + 20 * f))
  | 0, _ => by rw [frN, show min 99 (a + 20 * 0) = a by omega]
  | f + 1, hf => by
    rw [frN, frN_nI ha f (by omega), show (20 : Int32) = nI 20 from rfl, nI_add, show (99 : Int32) = nI 99 from rfl]
    by_cases h : min 99 (a + 20 * f) + 20 < 99
    · rw [if_pos (by rw [lt_nI (by omega) (by omega)]; exact h)]; congr 1; omega
    · rw [if_neg (by rw [lt_nI (by omega) (by omega)]; exact h)]; congr 1; omega
theorem cntF_le (g : tI) (h : Int32) : ∀ k, cntF g h k ≤ k
  | 0 => Nat.le_refl _
  | k + 1 => by
    have := cntF_le g h k
    rw [cntF]; split <;> omega
theorem vFires_cnt {I : tI} {h : Int32} : ∀ k, vFires I h k = nI (cntF (gC I) h k)
  | 0 => rfl
  | k + 1 => by
    rw [vFires, cntF, vFires_cnt k]
    show (if I 10 k = h then _ else _) = nI (if I 10 k = h then _ else _)
    split
    · rw [nI_1]
    · rfl
section REL
variable {c n ns nb nf : Nat} {I s g : tI}
theorem col_warm (hc : 15 ≤ c) {f : Int32} (m x y : Nat) (hx : x ≠ c) : it (bWarm c f) I m x y = if y < m then bWarm c f y I x y else I x y := by
  refine it_col (fc_warm c f) (fun k K x y hx hy => ?_) (fun k K a1 a2 a3 x hx => ?_) (fun k K => ?_) m x y hx
  · unfold bWarm; split
    · rw [mm_u_j hy]
    · rfl
  · unfold bWarm
    rw [a1 (c + 2) (by omega), a1 (c + 1) (by omega)]
    split
    · simp only [mm_u, a1 x hx]
    · exact a1 x hx
  · unfold bWarm; split
    · rw [mm_u_k (by omega)]
    · rfl
theorem rc_warm (hc : 15 ≤ c) {h : Int32} (hG : Gd I n ns nb nf) {I0 : tI} (hg : gC I0 = g) (hb : Bd n s) (hr : Rc c n I s) : Rc c n (if vFires I0 h nf = 0 then I else it (bWarm c (vFires I0 h nf)) I n) (z3 g nf h s) := by
  subst hg
  rw [vFires_cnt]
  have hle := cntF_le (gC I0) h nf
  have h4 := hG.2.2.2.1.2
  intro k hk
  obtain ⟨r1, r2, r3, r5, r6, r4⟩ := hr k hk
  obtain ⟨⟨a, ha, ea⟩, -⟩ := hb k hk
  unfold z3
  by_cases q : nI (cntF (gC I0) h nf) = 0
  · have e0 : cntF (gC I0) h nf = 0 := (nI_eq (b := 0) (by omega) (by omega)).mp q
    rw [if_pos q]
    refine ⟨?_, ?_, ?_, ?_, ?_, ?_⟩ <;> simp [e0, frN] <;> assumption
  · rw [if_neg q]
    have e : ∀ x, x ≠ c → it (bWarm c (nI (cntF (gC I0) h nf))) I n x k = bWarm c (nI (cntF (gC I0) h nf)) k I x k := fun x hx => by rw [col_warm hc n x k hx, if_pos hk]
    rw [e (c + 1) (by omega), e (c + 2) (by omega), e (c + 3) (by omega), e (c + 4) (by omega), e (c + 5) (by omega), e (c + 6) (by omega)]
    unfold bWarm
    by_cases st : I (c + 2) k = 1
    · rw [if_pos st]
      have e1 : (if I (c + 1) k + 20 * nI (cntF (gC I0) h nf) < 99 then I (c + 1) k + 20 * nI (cntF (gC I0) h nf) else 99) = frN (cntF (gC I0) h nf) (s 1 k) := by
        rw [r1, ea, frN_nI ha _ (by omega), show (20 : Int32) = nI 20 from rfl, pk_mul, nI_add, show (99 : Int32) = nI 99 from rfl]
        by_cases hh : a + 20 * cntF (gC I0) h nf < 99
        · rw [if_pos (by rw [lt_nI (by omega) (by omega)]; exact hh)]; congr 1; omega
        · rw [if_neg (by rw [lt_nI (by omega) (by omega)]; exact hh)]; congr 1; omega
      rw [e1]
      rw [r2] at st
      simp [mm_u, st, r2, r3, r5, r6]
    · rw [if_neg st]
      rw [r2] at st
      simp only [st, and_false, if_false]
      exact ⟨r1, r2, r3, r5, r6, r4⟩
/-! who is felt beside one -/
theorem feel_row (hc : 15 ≤ c) (x : Nat) (hx : x ≠ c + 7) : fFeel c n ns I x = I x := by
  have h1 : ∀ m, it (bZero c) I m x = I x := fun m => it_inv (Q := fun K : tI => K x = I x) rfl (fun k K q => by unfold bZero; rw [mm_u_k hx]; exact q) m
  refine it_inv (Q := fun K : tI => K x = I x) (h1 _) (fun k K q => ?_) n
  unfold bFeel
  split
  · rw [mm_u_k hx]; exact q
  · exact q
theorem feel_at (hc : 15 ≤ c) (hG : Gd I n ns nb nf) (hd : Hd c n I) {q : Nat} (hq : q ≤ ns + 1) : (∀ j, j < n → I (c + 2) j = 1 → I 6 j + 1 = nI q → fFeel c n ns I (c + 7) q = I (c + 1) j) ∧ ((∀ j, j < n → I (c + 2) j = 1 → I 6 j + 1 ≠ nI q) → fFeel c n ns I (c + 7) q = 0) := by
  have hs10 := hG.2.1.2
  have hz : it (bZero c) I (ns + 2) (c + 7) q = 0 := by
    have : ∀ m, q < m → it (bZero c) I m (c + 7) q = 0 := by
      intro m
      induction m with
      | zero => intro h; omega
      | succ m ih =>
        intro h
        show bZero c m (it (bZero c) I m) (c + 7) q = 0
        unfold bZero
        by_cases e : q = m
        · rw [e, mm_u_s]
        · rw [mm_u_j e]; exact ih (by omega)
    exact this _ (by omega)
  have hrow : ∀ x, x ≠ c + 7 → ∀ m, it (bFeel c) (it (bZero c) I (ns + 2)) m x = I x := by
    intro x hx m
    have h1 : ∀ m, it (bZero c) I m x = I x := fun m => it_inv (Q := fun K : tI => K x = I x) rfl (fun k K q => by unfold bZero; rw [mm_u_k hx]; exact q) m
    refine it_inv (Q := fun K : tI => K x = I x) (h1 _) (fun k K q => ?_) m
    unfold bFeel
    split
    · rw [mm_u_k hx]; exact q
    · exact q
  have key : ∀ m, m ≤ n → (∀ j, j < m → I (c + 2) j = 1 → I 6 j + 1 = nI q → it (bFeel c) (it (bZero c) I (ns + 2)) m (c + 7) q = I (c + 1) j) ∧ ((∀ j, j < m → I (c + 2) j = 1 → I 6 j + 1 ≠ nI q) → it (bFeel c) (it (bZero c) I (ns + 2)) m (c + 7) q = 0) := by
    intro m
    induction m with
    | zero => intro _; exact ⟨fun j hj => absurd hj (Nat.not_lt_zero _), fun _ => hz⟩
    | succ m ih =>
      intro hm
      obtain ⟨i1, i2⟩ := ih (by omega)
      have r2 := hrow (c + 2) (by omega) m
      have r1 := hrow (c + 1) (by omega) m
      have r6 := hrow 6 (by omega) m
      show (∀ j, j < m + 1 → I (c + 2) j = 1 → I 6 j + 1 = nI q → bFeel c m (it (bFeel c) (it (bZero c) I (ns + 2)) m) (c + 7) q = I (c + 1) j) ∧ ((∀ j, j < m + 1 → I (c + 2) j = 1 → I 6 j + 1 ≠ nI q) → bFeel c m (it (bFeel c) (it (bZero c) I (ns + 2)) m) (c + 7) q = 0)
      generalize it (bFeel c) (it (bZero c) I (ns + 2)) m = K at i1 i2 r2 r1 r6 ⊢
      obtain ⟨p, hp, ep⟩ := hG.2.2.2.2.1 m (by omega)
      have htp : tn (I 6 m + 1) = p + 1 := by rw [ep, nI_1]; exact tn_nI (by omega)
      have hpq : I 6 m + 1 = nI q ↔ p + 1 = q := by rw [ep, nI_1, eq_nI (by omega) (by omega)]
      unfold bFeel
      rw [r2, r6, r1, htp]
      by_cases st : I (c + 2) m = 1
      · rw [if_pos st]
        by_cases e : q = p + 1
        · refine ⟨fun j hj s1 s2 => ?_, fun hno => absurd (hpq.mpr e.symm) (hno m (by omega) st)⟩
          have : j = m := hd.2.1 j m (by omega) (by omega) s1 st (by
            have h9 : I 6 j + 1 = I 6 m + 1 := by rw [s2, hpq.mpr e.symm]
            grind)
          rw [this, e, mm_u_s]
        · rw [mm_u_j e]
          refine ⟨fun j hj s1 s2 => ?_, fun hno => i2 (fun j hj => hno j (by omega))⟩
          by_cases ej : j = m
          · rw [ej] at s2; exact absurd (hpq.mp s2).symm e
          · exact i1 j (by omega) s1 s2
      · rw [if_neg st]
        refine ⟨fun j hj s1 s2 => ?_, fun hno => i2 (fun j hj => hno j (by omega))⟩
        by_cases ej : j = m
        · rw [ej] at s1; exact absurd s1 st
        · exact i1 j (by omega) s1 s2
  exact key n (Nat.le_refl _)
theorem feel_iff (hc : 15 ≤ c) (hG : Gd I n ns nb nf) (hd : Hd c n I) {q : Nat} (hq : q ≤ ns + 1) {x : Int32} {a : Nat} (hx : x = nI a) (ha : a ≤ 99) : x < fFeel c n ns I (c + 7) q ↔ ∃ j, j < n ∧ I (c + 2) j = 1 ∧ I 6 j + 1 = nI q ∧ x < I (c + 1) j := by
  obtain ⟨h1, h2⟩ := feel_at hc hG hd hq
  constructor
  · intro h
    by_cases e : ∃ j, j < n ∧ I (c + 2) j = 1 ∧ I 6 j + 1 = nI q
    · obtain ⟨j, j1, j2, j3⟩ := e
      exact ⟨j, j1, j2, j3, by rw [← h1 j j1 j2 j3]; exact h⟩
    · rw [h2 (fun j j1 j2 j3 => e ⟨j, j1, j2, j3⟩), hx, show (0 : Int32) = nI 0 from rfl, lt_nI (by omega) (by omega)] at h
      omega
  · rintro ⟨j, j1, j2, j3, j4⟩
    rw [h1 j j1 j2 j3]; exact j4
/-- the heats and the setting are as the document has them -/
def Gp (g : tI) (n ns : Nat) : Prop := (∀ k, k < n → ∃ a, a ≤ 99 ∧ g 3 k = nI a) ∧ (∀ k, k < ns → ∃ a, a ≤ 9 ∧ g 1 k = nI a) ∧ (∃ a, a ≤ 9 ∧ g 5 1 = nI a)
theorem bd_1 {h : Int32} (hb : Bd n s) : Bd n (z1 g h s) := by
  intro k hk
  obtain ⟨h1, a, ha, ea⟩ := hb k hk
  unfold z1
  split
  · simp only [or_true, true_or, if_true, Nat.reduceEqDiff, if_false]
    exact ⟨⟨a / 2, by omega, by rw [ea]; exact half_nI (by omega)⟩, ⟨a / 2, by omega, by rw [ea]; exact half_nI (by omega)⟩⟩
  · exact ⟨h1, a, ha, ea⟩
theorem bd_2 (hb : Bd n s) (m : Nat) : Bd n (it (b2 g n) s m) := it_inv hb (fun k K q i hi => by
  unfold b2
  split
  · rw [mm_u_k (by omega), mm_u_k (by omega)]; exact q i hi
  · exact q i hi) m
theorem bd_3 {h : Int32} (hf : nf ≤ 4) (hb : Bd n s) : Bd n (z3 g nf h s) := by
  intro k hk
  obtain ⟨⟨a, ha, ea⟩, h3⟩ := hb k hk
  have hle := cntF_le g h nf
  unfold z3
  refine ⟨?_, by simpa using h3⟩
  split
  · exact ⟨_, Nat.min_le_left _ _, by rw [ea]; exact frN_nI ha _ (by omega)⟩
  · exact ⟨a, ha, ea⟩
theorem bd_l {h : Int32} (hb : Bd n s) : Bd n (zl g h s) := hb
theorem bd_4 {h : Int32} (hb : Bd n s) (m : Nat) : Bd n (it (b4 g n h) s m) := it_inv hb (fun k K q i hi => by
  unfold b4
  split
  · rw [mm_u_k (by omega), mm_u_k (by omega)]; exact q i hi
  · exact q i hi) m
/-- what one cools by is a small number -/
theorem zc_nI {more : Int32} {k : Nat} (hp : Gp g n ns) (hmo : ∃ m, m ≤ 3 ∧ more = nI m) (hst : s 2 k ≠ 0 → ∃ p, p < ns ∧ g 4 k = nI p) (hs : ns ≤ 10) : ∃ z, z ≤ 20 ∧ zc g n more s k = nI z := by
  unfold zc
  by_cases h0 : s 2 k = 0
  · rw [if_pos h0]; exact ⟨1, by omega, rfl⟩
  · rw [if_neg h0]
    obtain ⟨p, hp1, hp2⟩ := hst h0
    obtain ⟨d, hd1, hd2⟩ := hp.2.1 p hp1
    obtain ⟨u, hu1, hu2⟩ := hp.2.2
    obtain ⟨m, hm1, hm2⟩ := hmo
    rw [hp2, tn_nI (by omega), hd2, hu2, hm2, nI_add, nI_1 (d + m)]
    have step : ∀ q a b, a < 100 → b < 100 → ∃ b', b' ≤ b + 1 ∧ zc1 g n s k q (nI a - nI b) = nI a - nI b' := by
      intro q a b _ _
      unfold zc1
      split
      · exact ⟨b + 1, by omega, sub_m1 a b⟩
      · exact ⟨b, by omega, rfl⟩
    obtain ⟨b1, hb1, e1⟩ := step (nI p - 1) (d + m + 1) u (by omega) (by omega)
    rw [e1]
    obtain ⟨b2', hb2, e2⟩ := step (nI p + 1) (d + m + 1) b1 (by omega) (by omega)
    rw [e2]
    obtain ⟨z, hz, ez⟩ := vC3_nI (g 2 k) (a := d + m + 1) (b := b2') (by omega) (by omega)
    exact ⟨z, by omega, ez⟩
theorem bd_5 {h more : Int32} (hb : Bd n s) (hz : ∀ k, k < n → ∃ z, z ≤ 20 ∧ zc g n more s k = nI z) : Bd n (z5 g n h more s) := by
  intro k hk
  obtain ⟨⟨a, ha, ea⟩, h3⟩ := hb k hk
  obtain ⟨z, hz1, hz2⟩ := hz k hk
  have hh : zhe g n more s k = nI (a - z) := by unfold zhe; rw [ea, hz2, max0_sub (by omega) (by omega)]
  unfold z5
  refine ⟨?_, ?_⟩
  · split
    · exact ⟨a - z, by omega, by simpa using hh⟩
    · exact ⟨a, ha, ea⟩
  · simp only [Nat.reduceEqDiff, if_false, ite_self]
    exact h3
/-! cooling -/
theorem vCool_eq (hc : 15 ≤ c) {more : Int32} {k : Nat} (hG : Gd I n ns nb nf) (hd : Hd c n I) (hg : gC I = g) (hr : Rc c n I s) (hb : Bd n s) (hk : k < n) (hin : inn c k I) : vCool c k more (fFeel c n ns I) = zc g n more s k := by
  subst hg
  obtain ⟨r1, r2, r3, r5, r6, r4⟩ := hr k hk
  obtain ⟨⟨a, ha, ea⟩, -⟩ := hb k hk
  have hs10 := hG.2.1.2
  have f : ∀ x, x ≠ c + 7 → fFeel c n ns I x = I x := fun x hx => feel_row hc x hx
  unfold vCool zc
  rw [f (c + 2) (by omega), f 4 (by omega), f 6 (by omega), f 3 (by omega), f 7 (by omega), r2]
  by_cases h0 : s 2 k = 0
  · rw [if_pos h0, if_pos h0]
  · rw [if_neg h0, if_neg h0]
    have st : I (c + 2) k = 1 := by rw [r2]; rcases hin with q | q
                                    · rw [r2] at q; exact absurd q h0
                                    · rw [r2] at q; exact q
    obtain ⟨p, hp, ep⟩ := hG.2.2.2.2.1 k hk
    have hps : p < ns := by
      have := hd.2.2.1 k hk st
      rw [ep, hG.2.1.1, lt_nI (by omega) (by omega)] at this
      exact this
    have eh : ∀ (q : Nat) (w v : Int32), q ≤ ns + 1 → (∀ j, I 6 j + 1 = nI q ↔ I 6 j = w) → ∀ b : Int32, tn b = q → vC1 c k b (fFeel c n ns I) v = zc1 (gC I) n s k w v := by
      intro q w v hq hw b hbq
      unfold vC1 zc1
      rw [f 4 (by omega), f (c + 1) (by omega), hbq]
      have hiff : I (c + 1) k < fFeel c n ns I (c + 7) q ↔ hot (gC I) n s k w := by
        rw [feel_iff hc hG hd hq (r1.trans ea) ha]
        constructor
        · rintro ⟨j, j1, j2, j3, j4⟩
          exact ⟨j, j1, by rw [← (hr j j1).2.1]; exact j2, (hw j).mp j3, by rw [← r1, ← (hr j j1).1]; exact j4⟩
        · rintro ⟨j, j1, j2, j3, j4⟩
          exact ⟨j, j1, by rw [(hr j j1).2.1]; exact j2, (hw j).mpr j3, by rw [r1, (hr j j1).1]; exact j4⟩
      have hiff2 : (I 4 k ≠ 3 ∧ I (c + 1) k < fFeel c n ns I (c + 7) q) ↔ (gC I 2 k ≠ 3 ∧ hot (gC I) n s k w) := and_congr Iff.rfl hiff
      by_cases z : I 4 k ≠ 3 ∧ I (c + 1) k < fFeel c n ns I (c + 7) q
      · rw [if_pos z, if_pos (hiff2.mp z)]
      · rw [if_neg z, if_neg (fun y => z (hiff2.mpr y))]
    have eL := fun v => eh p (I 6 k - 1) v (by omega) (fun j => by rw [ep]; constructor <;> intro z <;> grind) (I 6 k) (by rw [ep]; exact tn_nI (by omega))
    have eR := fun v => eh (p + 2) (I 6 k + 1) v (by omega) (fun j => by rw [ep, ← nI_2]; constructor <;> intro z <;> grind) (I 6 k + 2) (by rw [ep, nI_2]; exact tn_nI (by omega))
    rw [eL, eR]
    rfl
end REL
