/-! the course's mask of held slots, and who stands where -/
def Hd (c n : Nat) (I : tI) : Prop :=
  (∀ p, p < 10 → (bt (I c 8) p = true ↔ ∃ k, k < n ∧ I (c + 2) k = 1 ∧ I 6 k = nI p)) ∧ (∀ j k, j < n → k < n → I (c + 2) j = 1 → I (c + 2) k = 1 → I 6 j = I 6 k → j = k) ∧ (∀ k, k < n → I (c + 2) k = 1 → I 6 k < I 2 0) ∧ (∀ k, k < n → I (c + 2) k = 0 ∨ I (c + 2) k = 1 ∨ I (c + 2) k = 2 ∨ I (c + 2) k = 3) ∧ (∀ p, 10 ≤ p → bt (I c 8) p = false)
theorem Hd.eq {c n : Nat} {I I' : tI} (h : Hd c n I) (e1 : I' c 8 = I c 8) (e2 : I' (c + 2) = I (c + 2)) (e3 : I' 6 = I 6) (e4 : I' 2 = I 2) : Hd c n I' := by
  unfold Hd at h ⊢
  rw [e1, e2, e3, e4]
  exact h
section HD
variable {c n ns nb nf : Nat} {I : tI}
/-- one that stood, or leant, goes: 2 or 3 -/
theorem hd_leave (hc : 15 ≤ c) {i : Nat} {a : Int32} (h : Hd c n I) (hi : i < n) (hn : n ≤ 8) (hs : ∃ p, p < 10 ∧ I 6 i = nI p) (ha : a = 2 ∨ a = 3) : Hd c n (fLeave c i a I) := by
  obtain ⟨h1, h2, h3, h4, h5⟩ := h
  obtain ⟨p, hp, hip⟩ := hs
  have ha1 : a ≠ 1 := by rcases ha with rfl | rfl <;> decide
  have r6 : fLeave c i a I 6 = I 6 := fc_leave c i a I 6 (by omega)
  have r2 : fLeave c i a I 2 = I 2 := fc_leave c i a I 2 (by omega)
  have rs : ∀ k, fLeave c i a I (c + 2) k = if k = i then a else I (c + 2) k := fun k => by
    unfold fLeave
    by_cases e : k = i
    · subst e; rw [mm_u_s, if_pos rfl]
    · rw [mm_u_j e, if_neg e]
      split
      · rw [mm_u_k (by omega)]
      · rfl
  have rh : fLeave c i a I c 8 = if I (c + 2) i = 1 then I c 8 &&& ((1 <<< (I 6 i &&& 31)) ^^^ (-1)) else I c 8 := by
    unfold fLeave
    rw [mm_u_k (by omega)]
    split
    · rw [mm_u_s]
    · rfl
  have st1 : ∀ k, fLeave c i a I (c + 2) k = 1 ↔ k ≠ i ∧ I (c + 2) k = 1 := fun k => by
    rw [rs]
    by_cases e : k = i
    · rw [if_pos e]; exact ⟨fun z => absurd z ha1, fun z => absurd e z.1⟩
    · rw [if_neg e]; exact ⟨fun z => ⟨e, z⟩, fun z => z.2⟩
  refine ⟨fun q hq => ?_, fun j k hj hk e1 e2 e3 => ?_, fun k hk e1 => ?_, fun k hk => ?_, fun q hq => ?_⟩
  · rw [rh, r6]
    by_cases e : I (c + 2) i = 1
    · rw [if_pos e, hip, bt_clr _ (by omega) (by omega)]
      constructor
      · intro z
        simp only [Bool.and_eq_true, Bool.not_eq_true', decide_eq_false_iff_not] at z
        obtain ⟨k, k1, k2, k3⟩ := (h1 q hq).mp z.1
        refine ⟨k, k1, (st1 k).mpr ⟨fun ek => z.2 ?_, k2⟩, k3⟩
        rw [ek, hip] at k3
        have := (nI_eq (by omega) (by omega)).mp k3
        omega
      · rintro ⟨k, k1, k2, k3⟩
        obtain ⟨k4, k5⟩ := (st1 k).mp k2
        simp only [Bool.and_eq_true, Bool.not_eq_true', decide_eq_false_iff_not]
        refine ⟨(h1 q hq).mpr ⟨k, k1, k5, k3⟩, fun eq => k4 (h2 k i k1 hi k5 e ?_)⟩
        rw [k3, hip, eq]
    · rw [if_neg e, h1 q hq]
      constructor
      · rintro ⟨k, k1, k2, k3⟩
        exact ⟨k, k1, (st1 k).mpr ⟨fun ek => e (by rw [← ek]; exact k2), k2⟩, k3⟩
      · rintro ⟨k, k1, k2, k3⟩
        exact ⟨k, k1, ((st1 k).mp k2).2, k3⟩
  · rw [r6] at e3
    exact h2 j k hj hk ((st1 j).mp e1).2 ((st1 k).mp e2).2 e3
  · rw [r6, r2]
    exact h3 k hk ((st1 k).mp e1).2
  · rw [rs]
    split
    · rcases ha with rfl | rfl
      · exact Or.inr (Or.inr (Or.inl rfl))
      · exact Or.inr (Or.inr (Or.inr rfl))
    · exact h4 k hk
  · rw [rh]
    split
    · rw [b_and, h5 q hq]; rfl
    · exact h5 q hq
theorem hd_come1 (hc : 15 ≤ c) {h : Int32} {k : Nat} (hd : Hd c n I) : Hd c n (bCome c h k I) := by
  unfold bCome
  split
  · rename_i hC
    obtain ⟨h1, h2, h3, h4, h5⟩ := hd
    have r8 : (mm_u (mm_u (mm_u I (c + 3) k (I (c + 3) k / 2)) (c + 1) k (I (c + 3) k / 2)) (c + 2) k 0) c = I c := by rw [mm_u_k (by omega), mm_u_k (by omega), mm_u_k (by omega)]
    have r6 : (mm_u (mm_u (mm_u I (c + 3) k (I (c + 3) k / 2)) (c + 1) k (I (c + 3) k / 2)) (c + 2) k 0) 6 = I 6 := by rw [mm_u_k (by omega), mm_u_k (by omega), mm_u_k (by omega)]
    have r2 : (mm_u (mm_u (mm_u I (c + 3) k (I (c + 3) k / 2)) (c + 1) k (I (c + 3) k / 2)) (c + 2) k 0) 2 = I 2 := by rw [mm_u_k (by omega), mm_u_k (by omega), mm_u_k (by omega)]
    have rs : ∀ i, (mm_u (mm_u (mm_u I (c + 3) k (I (c + 3) k / 2)) (c + 1) k (I (c + 3) k / 2)) (c + 2) k 0) (c + 2) i = if i = k then 0 else I (c + 2) i := fun i => by
      by_cases e : i = k
      · subst e; rw [mm_u_s, if_pos rfl]
      · rw [mm_u_j e, if_neg e, mm_u_k (by omega), mm_u_k (by omega)]
    have st1 : ∀ i, (if i = k then (0 : Int32) else I (c + 2) i) = 1 ↔ I (c + 2) i = 1 := fun i => by
      by_cases e : i = k
      · rw [if_pos e, e, hC.1]; decide
      · rw [if_neg e]
    unfold Hd
    rw [r8, r6, r2]
    simp only [rs, st1]
    refine ⟨h1, h2, h3, fun i hi => ?_, h5⟩
    split
    · exact Or.inl rfl
    · exact h4 i hi
  · exact hd
theorem hd_come (hc : 15 ≤ c) {h : Int32} (hd : Hd c n I) (m : Nat) : Hd c n (it (bCome c h) I m) := it_inv hd (fun _ _ q => hd_come1 hc q) m
theorem hd_place1 (hc : 15 ≤ c) {k : Nat} (hk : k < n) (hs : ∃ p, p < 10 ∧ I 6 k = nI p) (hd : Hd c n I) : Hd c n (bPlace c k I) := by
  unfold bPlace
  split
  · rename_i hC
    obtain ⟨h1, h2, h3, h4, h5⟩ := hd
    obtain ⟨p, hp, hip⟩ := hs
    obtain ⟨c1, c2, c3⟩ := hC
    rw [hip] at c3
    have c3 := (bt_test _ (by omega)).mp c3
    have r8 : (mm_u (mm_u I (c + 2) k 1) c 8 (I c 8 ||| (1 <<< (I 6 k &&& 31)))) c 8 = I c 8 ||| (1 <<< (nI p &&& 31)) := by rw [mm_u_s, hip]
    have r6 : (mm_u (mm_u I (c + 2) k 1) c 8 (I c 8 ||| (1 <<< (I 6 k &&& 31)))) 6 = I 6 := by rw [mm_u_k (by omega), mm_u_k (by omega)]
    have r2 : (mm_u (mm_u I (c + 2) k 1) c 8 (I c 8 ||| (1 <<< (I 6 k &&& 31)))) 2 = I 2 := by rw [mm_u_k (by omega), mm_u_k (by omega)]
    have rs : ∀ i, (mm_u (mm_u I (c + 2) k 1) c 8 (I c 8 ||| (1 <<< (I 6 k &&& 31)))) (c + 2) i = if i = k then 1 else I (c + 2) i := fun i => by
      rw [mm_u_k (by omega)]
      by_cases e : i = k
      · subst e; rw [mm_u_s, if_pos rfl]
      · rw [mm_u_j e, if_neg e]
    have st1 : ∀ i, (if i = k then (1 : Int32) else I (c + 2) i) = 1 ↔ (i = k ∨ I (c + 2) i = 1) := fun i => by
      by_cases e : i = k
      · simp [e]
      · simp [e]
    have none : ∀ i, i < n → I (c + 2) i = 1 → I 6 i ≠ nI p := fun i hi e1 e2 => by
      have := (h1 p hp).mpr ⟨i, hi, e1, e2⟩
      rw [c3] at this
      cases this
    unfold Hd
    rw [r8, r6, r2]
    simp only [rs, st1]
    refine ⟨fun q hq => ?_, fun i j hi hj e1 e2 e3 => ?_, fun i hi e1 => ?_, fun i hi => ?_, fun q hq => ?_⟩
    · rw [bt_set _ (by omega) (by omega), Bool.or_eq_true, decide_eq_true_eq, h1 q hq]
      constructor
      · rintro (⟨i, i1, i2, i3⟩ | rfl)
        · exact ⟨i, i1, Or.inr i2, i3⟩
        · exact ⟨k, hk, Or.inl rfl, hip⟩
      · rintro ⟨i, i1, i2 | i2, i3⟩
        · rw [i2, hip] at i3
          exact Or.inr ((nI_eq (by omega) (by omega)).mp i3).symm
        · exact Or.inl ⟨i, i1, i2, i3⟩
    · rcases e1 with e1 | e1 <;> rcases e2 with e2 | e2
      · rw [e1, e2]
      · exfalso; rw [e1, hip] at e3; exact none j hj e2 e3.symm
      · exfalso; rw [e2, hip] at e3; exact none i hi e1 e3
      · exact h2 i j hi hj e1 e2 e3
    · rcases e1 with e1 | e1
      · rw [e1]; exact c2
      · exact h3 i hi e1
    · by_cases e : i = k
      · exact Or.inr (Or.inl (Or.inl e))
      · simp only [if_neg e]
        rcases h4 i hi with q | q | q | q
        · exact Or.inl q
        · exact Or.inr (Or.inl (Or.inr q))
        · exact Or.inr (Or.inr (Or.inl q))
        · exact Or.inr (Or.inr (Or.inr q))
    · rw [b_or, h5 q hq]
      rcases Nat.lt_or_ge q 32 with h | h
      · rw [bt_one (by omega) h, decide_eq_false (by omega)]; rfl
      · rw [b_big h]; rfl
  · exact hd
theorem hd_place (hc : 15 ≤ c) (hg : Gd I n ns nb nf) (hd : Hd c n I) : ∀ m, m ≤ n → Hd c n (it (bPlace c) I m)
  | 0, _ => hd
  | m + 1, hm => hd_place1 hc (by omega) ((hg.fc hc (FC.rf.it (fc_place c) m)).2.2.2.2.1 m (by omega)) (hd_place hc hg hd m (by omega))
theorem hd_warm (hc : 15 ≤ c) {f : Int32} (hd : Hd c n I) (m : Nat) : Hd c n (it (bWarm c f) I m) := it_inv hd (fun k K q => by
  unfold bWarm
  split
  · exact q.eq (by rw [mm_u_k (by omega)]) (by rw [mm_u_k (by omega)]) (by rw [mm_u_k (by omega)]) (by rw [mm_u_k (by omega)])
  · exact q) m
theorem hd_until (hc : 15 ≤ c) {h : Int32} (hg : Gd I n ns nb nf) (hd : Hd c n I) : Hd c n (fUntil c n nf h I) := by
  have h1 := hd_place hc (hg.fc hc (FC.rf.it (fc_come c h) n)) (hd_come hc (h := h) hd n) n (Nat.le_refl _)
  unfold fUntil
  split
  · exact h1
  · exact hd_warm hc h1 n
theorem hd_spread (hc : 15 ≤ c) {h : Int32} (hg : Gd I n ns nb nf) (hd : Hd c n I) : ∀ m, m ≤ nb → Hd c n (it (bSpread c h) I m)
  | 0, _ => hd
  | m + 1, hm => by
    have ih := hd_spread hc (h := h) hg hd m (by omega)
    have g1 := hg.fc hc (FC.rf.it (fc_spread c h) m)
    show Hd c n (bSpread c h m (it (bSpread c h) I m))
    generalize it (bSpread c h) I m = K at ih g1 ⊢
    unfold bSpread
    split
    · rename_i hC
      obtain ⟨p, hp, e⟩ := g1.2.2.2.2.2 m (by omega)
      rw [e, tn_nI (by omega)] at hC ⊢
      have hpn : p < n := by
        have := hC.2.1
        rw [g1.1.1, lt_nI (by omega) (by have := g1.1.2; omega)] at this
        exact this
      exact hd_leave hc ih hpn g1.1.2 (g1.2.2.2.2.1 p hpn) (Or.inr rfl)
    · exact ih
theorem hd_feel (hc : 15 ≤ c) (hd : Hd c n I) : Hd c n (fFeel c n ns I) := by
  have h1 : Hd c n (it (bZero c) I (ns + 2)) := it_inv hd (fun k K q => q.eq (by unfold bZero; rw [mm_u_k (by omega)]) (by unfold bZero; rw [mm_u_k (by omega)]) (by unfold bZero; rw [mm_u_k (by omega)]) (by unfold bZero; rw [mm_u_k (by omega)])) _
  refine it_inv h1 (fun k K q => ?_) n
  unfold bFeel
  split
  · exact q.eq (by rw [mm_u_k (by omega)]) (by rw [mm_u_k (by omega)]) (by rw [mm_u_k (by omega)]) (by rw [mm_u_k (by omega)])
  · exact q
theorem hd_go (hc : 15 ≤ c) {i : Nat} {h : Int32} (hd : Hd c n I) (hi : i < n) (hn : n ≤ 8) (hs : ∃ p, p < 10 ∧ I 6 i = nI p) : Hd c n (fGo c i h I) := by
  have h1 := hd_leave hc hd hi hn hs (a := 2) (Or.inl rfl)
  have h2 : Hd c n (mm_u (mm_u (fLeave c i 2 I) (c + 4) i h) (c + 6) i (I (c + 6) i + 1)) := (h1.eq (by rw [mm_u_k (by omega)]) (by rw [mm_u_k (by omega)]) (by rw [mm_u_k (by omega)]) (by rw [mm_u_k (by omega)]) : Hd c n (mm_u (fLeave c i 2 I) (c + 4) i h)).eq (by rw [mm_u_k (by omega)]) (by rw [mm_u_k (by omega)]) (by rw [mm_u_k (by omega)]) (by rw [mm_u_k (by omega)])
  unfold fGo
  split
  · exact h2.eq (by rw [mm_u_k (by omega)]) (by rw [mm_u_k (by omega)]) (by rw [mm_u_k (by omega)]) (by rw [mm_u_k (by omega)])
  · exact h2
theorem hd_cool (hc : 15 ≤ c) {h more : Int32} (hg : Gd I n ns nb nf) (hd : Hd c n I) : ∀ m, m ≤ n → Hd c n (it (bCool c h more) I m)
  | 0, _ => hd
  | m + 1, hm => by
    have ih := hd_cool hc (h := h) (more := more) hg hd m (by omega)
    have g1 := hg.fc hc (FC.rf.it (fc_cool c h more) m)
    show Hd c n (bCool c h more m (it (bCool c h more) I m))
    generalize it (bCool c h more) I m = K at ih g1 ⊢
    have h1 : Hd c n (mm_u K (c + 1) m (max0 (K (c + 1) m - vCool c m more K))) := ih.eq (by rw [mm_u_k (by omega)]) (by rw [mm_u_k (by omega)]) (by rw [mm_u_k (by omega)]) (by rw [mm_u_k (by omega)])
    unfold bCool
    split
    · split
      · refine hd_go hc h1 (by omega) g1.1.2 ?_
        rw [mm_u_k (by omega)]
        exact g1.2.2.2.2.1 m (by omega)
      · exact h1
    · exact ih
theorem hd_from (hc : 15 ≤ c) {h more : Int32} (hg : Gd I n ns nb nf) (hd : Hd c n I) : Hd c n (fFrom c n ns nb h more I) := by
  have f1 : FC c I (it (bSpread c h) I nb) := FC.rf.it (fc_spread c h) nb
  exact hd_cool hc (hg.fc hc (f1.tr (fc_feel c n ns _))) (hd_feel hc (hd_spread hc hg hd nb (Nat.le_refl _))) n (Nat.le_refl _)
theorem hd_hour (hc : 15 ≤ c) {h more : Int32} (hg : Gd I n ns nb nf) (hd : Hd c n I) : Hd c n (fHour c n ns nb nf h more I) := hd_from hc (hg.fc hc (fc_until c n nf h I)) (hd_until hc hg hd)
theorem hd_begin (hc : 15 ≤ c) : Hd c n (fBegin c n I) := by
  have key : ∀ m, m ≤ n → (it (bBegin c) (mm_u I c 8 0) m c 8 = 0) ∧ ∀ k, k < m → it (bBegin c) (mm_u I c 8 0) m (c + 2) k = 0 := by
    intro m
    induction m with
    | zero => intro _; exact ⟨mm_u_s, fun k hk => absurd hk (Nat.not_lt_zero _)⟩
    | succ m ih =>
      intro hm
      obtain ⟨i1, i2⟩ := ih (by omega)
      show bBegin c m (it (bBegin c) (mm_u I c 8 0) m) c 8 = 0 ∧ ∀ k, k < m + 1 → bBegin c m (it (bBegin c) (mm_u I c 8 0) m) (c + 2) k = 0
      generalize it (bBegin c) (mm_u I c 8 0) m = K at i1 i2 ⊢
      unfold bBegin
      refine ⟨by rw [mm_u_k (by omega), mm_u_k (by omega), mm_u_k (by omega), mm_u_k (by omega), mm_u_k (by omega)]; exact i1, fun k hk => ?_⟩
      rw [mm_u_k (by omega), mm_u_k (by omega)]
      by_cases e : k = m
      · subst e; rw [mm_u_s]
      · rw [mm_u_j e, mm_u_k (by omega), mm_u_k (by omega)]; exact i2 k (by omega)
  obtain ⟨k1, k2⟩ := key n (Nat.le_refl _)
  have k2 : ∀ k, k < n → fBegin c n I (c + 2) k = 0 := k2
  have k1 : fBegin c n I c 8 = 0 := k1
  have n1 : ∀ k, k < n → ¬ fBegin c n I (c + 2) k = 1 := fun k hk e => by rw [k2 k hk] at e; exact absurd e (by decide)
  refine ⟨fun p _ => ⟨fun z => ?_, fun ⟨k, hk, e, _⟩ => absurd e (n1 k hk)⟩, fun j k hj _ e => absurd e (n1 j hj), fun k hk e => absurd e (n1 k hk), fun k hk => Or.inl (k2 k hk), fun p _ => ?_⟩
  · rw [k1, b_0] at z; cases z
  · rw [k1, b_0]
theorem hd_hours (hc : 15 ≤ c) (hg : Gd I n ns nb nf) : ∀ m, Hd c n (fHours c n ns nb nf I m)
  | 0 => hd_begin hc
  | m + 1 => hd_hour hc (hg.fc hc (fc_hours c n ns nb nf I m)) (hd_hours hc hg m)
end HD
