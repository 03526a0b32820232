/-! ===== the reference: small methods ===== -/
theorem wide_le (a b : Int32) : (a.toInt64 ≤ b.toInt64) = (a ≤ b) := propext (by rw [Int64.le_iff_toInt_le, Int32.le_iff_toInt_le, Int32.toInt_toInt64, Int32.toInt_toInt64])
section MOD
variable {X : mm_X} {d : Nat} {I : tI} {J : tJ} {n ns nb nf : Nat} {g s : tI}
theorem sp_in {P : Int32 → tI → tJ → Prop} {a b c : Int64} (h1 : b ≤ a → a ≤ c → P 1 I J) (h0 : ¬ (b ≤ a ∧ a ≤ c) → P 0 I J) : EI X d n_X11_in [.long a, .long b, .long c] I J P := by
  refine vc_X11_in ⟨fun q => h0 (fun z => ?_), fun q => ⟨fun q2 => h0 (fun z => ?_), fun q2 => h1 ?_ ?_⟩⟩
  · exact absurd z.1 (Int64.not_le.mpr ((lg_cmp_lt _ _).mp q))
  · exact absurd z.2 (Int64.not_le.mpr ((lg_cmp_gt _ _).mp q2))
  · exact Int64.not_lt.mp (fun z => q ((lg_cmp_lt _ _).mpr z))
  · exact Int64.not_lt.mp (fun z => q2 ((lg_cmp_gt _ _).mpr z))
/-- the same over ints -/
theorem sp_in32 {P : Int32 → tI → tJ → Prop} {a : Int32} {b c : Int64} (lo hi : Int32) (hb : b = lo.toInt64) (hc : c = hi.toInt64) (h1 : lo ≤ a → a ≤ hi → P 1 I J) (h0 : ¬ (lo ≤ a ∧ a ≤ hi) → P 0 I J) : EI X d n_X11_in [.long a.toInt64, .long b, .long c] I J P := by
  subst hb hc
  refine sp_in (fun x y => ?_) (fun x => ?_)
  · rw [wide_le] at x y; exact h1 x y
  · rw [wide_le, wide_le] at x; exact h0 x
theorem sp_lesser {P : Int32 → tI → tJ → Prop} {a b : Int32} (h : P (if a < b then a else b) I J) : EI X d n_X11_lesser [.int a, .int b] I J P := by
  refine vc_X11_lesser ⟨fun q => ?_, fun q => ?_⟩
  · rw [if_neg (Int32.not_lt.mpr q)] at h; exact h
  · rw [if_pos (Int32.not_le.mp q)] at h; exact h
theorem sp_greater {P : Int32 → tI → tJ → Prop} {a b : Int32} (h : P (if b < a then a else b) I J) : EI X d n_X11_greater [.int a, .int b] I J P := by
  refine vc_X11_greater ⟨fun q => ?_, fun q => ?_⟩
  · rw [if_neg (Int32.not_lt.mpr q)] at h; exact h
  · rw [if_pos (Int32.not_le.mp q)] at h; exact h
theorem sp_isHere {P : Int32 → tI → tJ → Prop} {k : Nat} (hk : k < 8) (h1 : I 158 k < 2 → P 1 I J) (h0 : ¬ I 158 k < 2 → P 0 I J) : EI X d n_X11_isHere [.ref 145, .int (nI k)] I J P := by
  refine vc_X11_isHere ?_
  rw [tn_nI (by omega)]
  exact ⟨ix_nI hk (by omega), fun q => h0 (Int32.not_lt.mpr q), fun q => h1 (Int32.not_le.mp q)⟩
theorem sp_misSlice {P : Int32 → tI → tJ → Prop} {v : Int32} (hn : I 145 9 = nI n ∧ n ≤ 8) (h1 : ∀ k, k < n → v = nI k → P 1 I J) (h0 : (∀ k, k < n → v ≠ nI k) → P 0 I J) : EI X (d + 1) n_X11_isSlice [.ref 145, .int v] I J P := by
  have hm : (nI n - 1).toInt = (n : Int) - 1 := pk_sub_toInt (a := n) (b := 1) (by omega) (by omega)
  refine vc_X11_isSlice ?_
  rw [hn.1]
  refine sp_in32 (a := v) 0 (nI n - 1) rfl rfl (fun q1 q2 => ⟨Or.inr rfl, ?_⟩) (fun q => ⟨Or.inl rfl, ?_⟩)
  · obtain ⟨j, hj, e⟩ := nI_of (Int32.not_lt.mpr q1)
    refine h1 j ?_ e
    rw [Int32.le_iff_toInt_le, hm, e, nI_toInt hj] at q2
    omega
  · refine h0 (fun k hk e => q ⟨?_, ?_⟩)
    · rw [e]; exact nI_pos' (by omega)
    · rw [Int32.le_iff_toInt_le, hm, e, nI_toInt (by omega)]; omega
theorem nI_mul3 (k : Nat) : 3 * nI k = nI (3 * k) := pk_mul 3 k
theorem sp_standingIn {P : Int32 → tI → tJ → Prop} {p : Int32} (hn : I 145 9 = nI n ∧ n ≤ 8) (h1 : ∀ k, k < n → I 158 k = 1 → I 153 (3 * k + 2) = p → P (nI k) I J) (h0 : (∀ k, k < n → I 158 k = 1 → I 153 (3 * k + 2) ≠ p) → P (-1) I J) : EI X d n_X11_standingIn [.ref 145, .int p] I J P := by
  refine vc_X11_standingIn ?_
  have key : ∀ k, k ≤ n → (∀ j, j < k → I 158 j = 1 → I 153 (3 * j + 2) ≠ p) → Er X d M_X11_standingIn 2 [some (.ref 145), some (.int p), some (.int (nI k))] [] I J (qI P) := by
    refine up_loop ?_ ?_
    · intro hno
      refine vc_X11_standingIn_2 ⟨fun _ => h0 hno, fun hh => ?_⟩
      rw [hn.1] at hh
      exact absurd (Int32.le_refl _) hh
    · intro k hk ih hno
      have hx := ix_nI (k := k) (n := 8) (by omega) (by omega)
      have ht := tn_nI (k := k) (by omega)
      refine vc_X11_standingIn_2 ⟨fun hh => ?_, fun _ => ?_⟩
      · rw [hn.1, le_nI (by omega) (by omega)] at hh; omega
      rw [ht, nI_1, nI_mul3, nI_2, tn_nI (k := 3 * k + 2) (by omega)]
      refine ⟨hx, fun a => ih (fun j hj e => ?_), fun a => ⟨ix_nI (by omega) (by omega), fun b => ih (fun j hj e => ?_), fun b => h1 k hk (Decidable.not_not.mp a) (Decidable.not_not.mp b)⟩⟩
      · by_cases ej : j = k
        · rw [ej] at e; exact absurd e a
        · exact hno j (by omega) e
      · by_cases ej : j = k
        · rw [ej]; exact b
        · exact hno j (by omega) e
  exact key 0 (Nat.zero_le _) (fun j hj => absurd hj (Nat.not_lt_zero _))
/-! the reference's slices and setting against the document -/
def mr (j : Nat) : Nat := if j ≤ 4 then 156 + j else 159 + j
def Rm (n : Nat) (I s : tI) : Prop := ∀ j k, 1 ≤ j → j ≤ 7 → k < n → I (mr j) k = s j k
/-- only the reference's running cells have changed, not what it has kept hour by hour -/
def FQ (I I' : tI) : Prop := ∀ x, (x < 157 ∨ 166 < x ∨ x = 162 ∨ x = 163) → I' x = I x
theorem FQ.rf : FQ I I := fun _ _ => rfl
theorem FQ.tr {I' I'' : tI} (h : FQ I I') (h' : FQ I' I'') : FQ I I'' := fun x hx => (h' x hx).trans (h x hx)
theorem FQ.u {I' : tI} {k j : Nat} {v : Int32} (h : FQ I I') (h1 : 157 ≤ k) (h2 : k ≤ 166) (h3 : k ≠ 162 ∧ k ≠ 163) : FQ I (mm_u I' k j v) := fun x hx => by rw [mm_u_k (by omega)]; exact h x hx
/-- the reference's setting is g -/
def Mg (I g : tI) (n ns nb nf : Nat) : Prop := (I 145 9 = nI n ∧ n ≤ 8) ∧ (I 145 7 = nI ns ∧ ns ≤ 10) ∧ (I 145 12 = nI nb ∧ nb ≤ 8) ∧ (I 145 14 = nI nf ∧ nf ≤ 4) ∧ (∀ k, k < n → I 153 (3 * k) = g 2 k ∧ I 153 (3 * k + 1) = g 3 k ∧ I 153 (3 * k + 2) = g 4 k) ∧ (∀ k, k < ns → I 152 k = g 1 k) ∧ (∀ k, k < 3 → I 154 k = g 5 k) ∧ (∀ k, k < nb → I 155 (2 * k) = g 6 k ∧ I 155 (2 * k + 1) = g 7 k) ∧ (∀ k, k < nf → I 156 k = g 8 k) ∧ g 0 0 = nI ns ∧ (∀ k, k < n → ∃ p, p < 10 ∧ g 4 k = nI p) ∧ (∀ k, k < nb → ∃ p, p < 8 ∧ g 7 k = nI p)
theorem Mg.fq {I' : tI} (h : Mg I g n ns nb nf) (hf : FQ I I') : Mg I' g n ns nb nf := by
  unfold Mg
  rw [hf 145 (by omega), hf 153 (by omega), hf 152 (by omega), hf 154 (by omega), hf 155 (by omega), hf 156 (by omega)]
  exact h
/-- the first m slices as in s', the others as in s -/
def mix (m : Nat) (s' s : tI) : tI := fun j k => if k < m then s' j k else s j k
theorem Rm.step {I' s' : tI} {m : Nat} (h : Rm n I (mix m s' s)) (hc : ∀ j, 1 ≤ j → j ≤ 7 → I' (mr j) m = s' j m) (ho : ∀ j k, 1 ≤ j → j ≤ 7 → k ≠ m → I' (mr j) k = I (mr j) k) : Rm n I' (mix (m + 1) s' s) := by
  intro j k j1 j2 hk
  by_cases e : k = m
  · subst e; rw [hc j j1 j2, mix, if_pos (by omega)]
  · rw [ho j k j1 j2 e, h j k j1 j2 hk, mix, mix]
    by_cases q : k < m
    · rw [if_pos q, if_pos (by omega)]
    · rw [if_neg q, if_neg (by omega)]
theorem Rm.col {s' : tI} {m : Nat} (h : Rm n I (mix m s' s)) (hm : m < n) : ∀ j, 1 ≤ j → j ≤ 7 → I (mr j) m = s j m := fun j j1 j2 => by rw [h j m j1 j2 hm, mix, if_neg (by omega)]
theorem Rm.end_ {s' : tI} (h : Rm n I (mix n s' s)) : Rm n I s' := fun j k j1 j2 hk => by rw [h j k j1 j2 hk, mix, if_pos hk]
theorem Rm.start {s' : tI} (h : Rm n I s) : Rm n I (mix 0 s' s) := fun j k j1 j2 hk => by rw [h j k j1 j2 hk, mix, if_neg (Nat.not_lt_zero _)]
theorem j7 {P : Nat → Prop} (h1 : P 1) (h2 : P 2) (h3 : P 3) (h4 : P 4) (h5 : P 5) (h6 : P 6) (h7 : P 7) : ∀ j, 1 ≤ j → j ≤ 7 → P j := by
  intro j a b
  rcases (by omega : j = 1 ∨ j = 2 ∨ j = 3 ∨ j = 4 ∨ j = 5 ∨ j = 6 ∨ j = 7) with rfl | rfl | rfl | rfl | rfl | rfl | rfl <;> assumption
/-- a crust comes again -/
theorem sp_mcome {P : tI → tJ → Prop} {h : Int32} {m : Nat} (hg : Mg I g n ns nb nf) (hm : m < n) (hr : Rm n I (mix m (z1 g h s) s)) (hP : ∀ I', FQ I I' → Rm n I' (mix (m + 1) (z1 g h s) s) → P I' J) : EV X d n_X11_comesAgain [.ref 145, .int h, .int (nI m)] I J P := by
  have hn8 := hg.1.2
  have hx := ix_nI (k := m) (n := 8) (by omega) (by omega)
  have hcol := hr.col hm
  have c1 : I 157 m = s 1 m := hcol 1 (by omega) (by omega)
  have c2 : I 158 m = s 2 m := hcol 2 (by omega) (by omega)
  have c3 : I 159 m = s 3 m := hcol 3 (by omega) (by omega)
  have c4 : I 160 m = s 4 m := hcol 4 (by omega) (by omega)
  have c5 : I 164 m = s 5 m := hcol 5 (by omega) (by omega)
  have c6 : I 165 m = s 6 m := hcol 6 (by omega) (by omega)
  have c7 : I 166 m = s 7 m := hcol 7 (by omega) (by omega)
  have g2 := (hg.2.2.2.2.1 m hm).1
  have g5 : I 154 0 = g 5 0 := hg.2.2.2.2.2.2.1 0 (by omega)
  have no : ¬ (s 2 m = 2 ∧ g 2 m = 1 ∧ s 4 m = h - 3 ∧ g 5 0 < s 3 m / 2) → P I J := fun q => hP I FQ.rf (hr.step (fun j j1 j2 => by rw [hcol j j1 j2, z1, if_neg q]) (fun _ _ _ _ _ => rfl))
  refine vc_X11_comesAgain ?_
  rw [tn_nI (k := m) (by omega), nI_mul3, tn_nI (k := 3 * m) (by omega), show tn 0 = 0 from rfl, g2, c2, c3, c4, g5]
  refine ⟨ix_nI (by omega) (by omega), fun a => no (fun z => a z.2.1), fun a => ⟨hx, fun b => no (fun z => b z.1), fun b => ⟨hx, fun e => no (fun z => e z.2.2.1), fun e => ⟨hx, fun f => no (fun z => Int32.not_le.mpr z.2.2.2 f), fun f => ⟨hx, hx, hx, hx, hx, ?_⟩⟩⟩⟩⟩
  have yes : s 2 m = 2 ∧ g 2 m = 1 ∧ s 4 m = h - 3 ∧ g 5 0 < s 3 m / 2 := ⟨Decidable.not_not.mp b, Decidable.not_not.mp a, Decidable.not_not.mp e, Int32.not_le.mp f⟩
  refine hP _ (((FQ.rf.u (by omega) (by omega) (by omega)).u (by omega) (by omega) (by omega)).u (by omega) (by omega) (by omega)) (hr.step ?_ ?_)
  · refine j7 ?_ ?_ ?_ ?_ ?_ ?_ ?_ <;> simp only [z1, if_pos yes] <;> simp [mm_u, mr, *]
  · intro j k j1 j2 hk
    rw [mm_u_j hk, mm_u_j hk, mm_u_j hk]
end MOD
