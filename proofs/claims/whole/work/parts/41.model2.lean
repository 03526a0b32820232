/-! who stands where, in the document's words -/
def Un (g : tI) (n : Nat) (s : tI) : Prop := (∀ i j, i < n → j < n → s 2 i = 1 → s 2 j = 1 → g 4 i = g 4 j → i = j) ∧ (∀ k, k < n → s 2 k = 1 → g 4 k < g 0 0) ∧ (∀ k, k < n → s 2 k = 0 ∨ s 2 k = 1 ∨ s 2 k = 2 ∨ s 2 k = 3)
section UN
variable {n nf : Nat} {g s : tI} {h more : Int32}
/-- fewer stand -/
theorem Un.less {s' : tI} (hu : Un g n s) (h1 : ∀ k, k < n → s' 2 k = 1 → s 2 k = 1) (h2 : ∀ k, k < n → s' 2 k = 0 ∨ s' 2 k = 1 ∨ s' 2 k = 2 ∨ s' 2 k = 3) : Un g n s' :=
  ⟨fun i j hi hj a b => hu.1 i j hi hj (h1 i hi a) (h1 j hj b), fun k hk a => hu.2.1 k hk (h1 k hk a), h2⟩
theorem un_0 : Un g n (z0 g) := ⟨fun i j _ _ a => absurd a (by show ¬ (0 : Int32) = 1; decide), fun k _ a => absurd a (by show ¬ (0 : Int32) = 1; decide), fun k _ => Or.inl rfl⟩
theorem un_1 (hu : Un g n s) : Un g n (z1 g h s) := by
  refine hu.less (fun k hk a => ?_) (fun k hk => ?_)
  · unfold z1 at a
    split at a
    · exact absurd a (by show ¬ (0 : Int32) = 1; decide)
    · exact a
  · unfold z1
    split
    · exact Or.inl rfl
    · exact hu.2.2 k hk
theorem un_2 (hu : Un g n s) : ∀ m, m ≤ n → Un g n (it (b2 g n) s m)
  | 0, _ => hu
  | m + 1, hm => by
    have ih := un_2 hu m (by omega)
    show Un g n (b2 g n m (it (b2 g n) s m))
    generalize it (b2 g n) s m = t at ih ⊢
    unfold b2
    split
    · rename_i q
      have e : ∀ k, mm_u t 2 m 1 2 k = if k = m then 1 else t 2 k := fun k => by
        by_cases z : k = m
        · subst z; rw [mm_u_s, if_pos rfl]
        · rw [mm_u_j z, if_neg z]
      have e1 : ∀ k, mm_u t 2 m 1 2 k = 1 → k = m ∨ t 2 k = 1 := fun k a => by
        rw [e] at a
        split at a
        · exact Or.inl (by assumption)
        · exact Or.inr a
      refine ⟨fun i j hi hj a b c => ?_, fun k hk a => ?_, fun k hk => ?_⟩
      · rcases e1 i a with a | a <;> rcases e1 j b with b | b
        · rw [a, b]
        · exact absurd ⟨j, hj, b, by rw [← c, a]⟩ q.2.2
        · exact absurd ⟨i, hi, a, by rw [c, b]⟩ q.2.2
        · exact ih.1 i j hi hj a b c
      · rcases e1 k a with a | a
        · rw [a]; exact q.2.1
        · exact ih.2.1 k hk a
      · rw [e]
        split
        · exact Or.inr (Or.inl rfl)
        · exact ih.2.2 k hk
    · exact ih
theorem un_3 (hu : Un g n s) : Un g n (z3 g nf h s) := hu
theorem un_l (hu : Un g n s) : Un g n (zl g h s) := hu
theorem un_4 (hu : Un g n s) (m : Nat) : Un g n (it (b4 g n h) s m) := it_inv hu (fun i t ht => by
  unfold b4
  split
  · have e : ∀ k, mm_u t 2 (tn (g 7 i)) 3 2 k = if k = tn (g 7 i) then 3 else t 2 k := fun k => by
      by_cases z : k = tn (g 7 i)
      · subst z; rw [mm_u_s, if_pos rfl]
      · rw [mm_u_j z, if_neg z]
    refine ht.less (fun k hk a => ?_) (fun k hk => ?_)
    · rw [e] at a
      split at a
      · exact absurd a (by decide)
      · exact a
    · rw [e]
      split
      · exact Or.inr (Or.inr (Or.inr rfl))
      · exact ht.2.2 k hk
  · exact ht) m
theorem un_5 (hu : Un g n s) : Un g n (z5 g n h more s) := by
  have e : ∀ k, z5 g n h more s 2 k = if (s 2 k = 0 ∨ s 2 k = 1) ∧ zhe g n more s k ≤ g 5 0 then 2 else s 2 k := fun k => by
    unfold z5
    by_cases q : s 2 k = 0 ∨ s 2 k = 1
    · by_cases w : zhe g n more s k ≤ g 5 0 <;> simp [q, w]
    · simp [q]
  refine hu.less (fun k hk a => ?_) (fun k hk => ?_)
  · rw [e] at a
    split at a
    · exact absurd a (by decide)
    · exact a
  · rw [e]
    split
    · exact Or.inr (Or.inr (Or.inl rfl))
    · exact hu.2.2 k hk
theorem here_lt (hu : Un g n s) {k : Nat} (hk : k < n) : s 2 k < 2 ↔ (s 2 k = 0 ∨ s 2 k = 1) := by
  rcases hu.2.2 k hk with q | q | q | q <;> rw [q] <;> decide
end UN
section MOD2
variable {X : mm_X} {d : Nat} {I : tI} {J : tJ} {n ns nb nf : Nat} {g s : tI} {h : Int32}
theorem mm_u_id {α : Type} (f : Nat → Nat → α) (k j : Nat) : mm_u f k j (f k j) = f := by
  funext x y
  unfold mm_u
  split
  · rename_i q; rw [q.1, q.2]
  · rfl
theorem Rm.r {k : Nat} (h : Rm n I s) (hk : k < n) : I 157 k = s 1 k ∧ I 158 k = s 2 k ∧ I 159 k = s 3 k ∧ I 160 k = s 4 k ∧ I 164 k = s 5 k ∧ I 165 k = s 6 k ∧ I 166 k = s 7 k := ⟨h 1 k (by omega) (by omega) hk, h 2 k (by omega) (by omega) hk, h 3 k (by omega) (by omega) hk, h 4 k (by omega) (by omega) hk, h 5 k (by omega) (by omega) hk, h 6 k (by omega) (by omega) hk, h 7 k (by omega) (by omega) hk⟩
theorem sp_burns {P : tI → tJ → Prop} (hg : Mg I g n ns nb nf) (hr : Rm n I s) (hP : ∀ I', FQ I I' → Rm n I' (z3 g nf h s) → P I' J) : EV X (d + 1) n_X11_burns [.ref 145, .int h] I J P := by
  have hn8 := hg.1.2
  have hf4 := hg.2.2.2.1.2
  refine vc_X11_burns ?_
  have e0 : z3 g 0 h s = s := by
    funext j k
    unfold z3
    split
    · rename_i q; rw [q.1]; rfl
    · rfl
  have key : ∀ f, f ≤ nf → ∀ (o : Option Value) (I1 : tI), FQ I I1 → Rm n I1 (z3 g f h s) → Er X (d + 1) M_X11_burns 2 [some (.ref 145), some (.int h), some (.int (nI f)), o] [] I1 J (qV P) := by
    refine up_loop ?_ ?_
    · intro o I1 f1 r1
      refine vc_X11_burns_2 ⟨fun _ => hP I1 f1 r1, fun hh => ?_⟩
      rw [(hg.fq f1).2.2.2.1.1] at hh
      exact absurd (Int32.le_refl _) hh
    · intro f hf ih o I1 f1 r1
      have g1 := hg.fq f1
      refine vc_X11_burns_2 ⟨fun hh => ?_, fun _ => ?_⟩
      · rw [g1.2.2.2.1.1, le_nI (by omega) (by omega)] at hh; omega
      have hxf := ix_nI (k := f) (n := 4) (by omega) (by omega)
      have htf := tn_nI (k := f) (by omega)
      by_cases hfire : g 8 f = h
      · have inner : ∀ k, k ≤ n → ∀ I2 : tI, FQ I I2 → Rm n I2 (mix k (z3 g (f + 1) h s) (z3 g f h s)) → Er X (d + 1) M_X11_burns 8 [some (.ref 145), some (.int h), some (.int (nI f)), some (.int (nI k))] [] I2 J (qV P) := by
          refine up_loop ?_ ?_
          · intro I2 f2 r2
            refine vc_X11_burns_8 ⟨fun _ => ?_, fun hh => ?_⟩
            · rw [nI_1]; exact ih _ I2 f2 r2.end_
            · rw [(hg.fq f2).1.1] at hh
              exact absurd (Int32.le_refl _) hh
          · intro k hk ih2 I2 f2 r2
            have g2 := hg.fq f2
            have hcol := r2.col hk
            have hx := ix_nI (k := k) (n := 8) (by omega) (by omega)
            refine vc_X11_burns_8 ⟨fun hh => ?_, fun _ => ?_⟩
            · rw [g2.1.1, le_nI (by omega) (by omega)] at hh; omega
            rw [htf, tn_nI (k := k) (by omega), nI_1 k, g2.2.2.2.2.2.2.2.2.1 f hf]
            refine ⟨hxf, fun a => absurd hfire a, fun _ => ⟨hx, fun a => ⟨hx, hx, ?_⟩, fun a => ⟨hx, ?_⟩⟩⟩
            · rw [mm_u_id]
              refine ih2 I2 f2 (r2.step (fun j j1 j2 => ?_) (fun _ _ _ _ _ => rfl))
              rw [hcol j j1 j2]
              have st : s 2 k ≠ 1 := by rw [show I2 158 k = z3 g f h s 2 k from hcol 2 (by omega) (by omega)] at a; exact a
              simp only [z3, st, and_false, if_false]
            · have st : s 2 k = 1 := by rw [show I2 158 k = z3 g f h s 2 k from hcol 2 (by omega) (by omega)] at a; exact Decidable.not_not.mp a
              have c1 : I2 157 k = frN (cntF g h f) (s 1 k) := by rw [show I2 157 k = z3 g f h s 1 k from hcol 1 (by omega) (by omega)]; simp [z3, st]
              refine sp_lesser ⟨hx, ih2 _ (f2.u (by omega) (by omega) (by omega)) (r2.step (fun j j1 j2 => ?_) (fun j k' j1 j2 hk' => by rw [mm_u_j hk']))⟩
              by_cases e : j = 1
              · subst e
                rw [show mr 1 = 157 from rfl, mm_u_s, c1]
                simp only [z3, st, and_self, if_true, cntF, if_pos hfire, frN]
              · have hm : mr j ≠ 157 := by unfold mr; split <;> omega
                rw [mm_u_k hm, hcol j j1 j2]
                simp [z3, e]
        exact inner 0 (Nat.zero_le _) I1 f1 r1.start
      · have same : z3 g (f + 1) h s = z3 g f h s := by
          funext j k; unfold z3; rw [cntF, if_neg hfire]
        refine vc_X11_burns_8 ⟨fun _ => ?_, fun _ => ?_⟩
        · rw [nI_1]; exact ih _ I1 f1 (by rw [same]; exact r1)
        · rw [htf, nI_1, g1.2.2.2.2.2.2.2.2.1 f hf]
          exact ⟨hxf, fun _ => ih _ I1 f1 (by rw [same]; exact r1), fun a => absurd (Decidable.not_not.mp a) hfire⟩
  exact key 0 (Nat.zero_le _) none I FQ.rf (by rw [e0]; exact hr)
theorem sp_spreads {P : tI → tJ → Prop} (hg : Mg I g n ns nb nf) (hu : Un g n s) (hr : Rm n I s) (hP : ∀ I', FQ I I' → Rm n I' (it (b4 g n h) (zl g h s) nb) → P I' J) : EV X (d + 2) n_X11_spreads [.ref 145, .int h] I J P := by
  have hn8 := hg.1.2
  have hb8 := hg.2.2.1.2
  refine vc_X11_spreads ?_
  -- the butters
  have butters : ∀ m, m ≤ nb → ∀ (o : Option Value) (I1 : tI), FQ I I1 → Rm n I1 (it (b4 g n h) (zl g h s) m) → Er X (d + 2) M_X11_spreads 39 [some (.ref 145), some (.int h), some (.int (nI m)), o] [] I1 J (qV P) := by
    refine up_loop ?_ ?_
    · intro o I1 f1 r1
      refine vc_X11_spreads_39 ⟨fun _ => hP I1 f1 r1, fun hh => ?_⟩
      rw [(hg.fq f1).2.2.1.1] at hh
      exact absurd (Int32.le_refl _) hh
    · intro m hm ih o I1 f1 r1
      have g1 := hg.fq f1
      have hu1 := un_4 (h := h) (un_l (h := h) hu) m
      have ih : ∀ (o : Option Value) (I1 : tI), FQ I I1 → Rm n I1 (b4 g n h m (it (b4 g n h) (zl g h s) m)) → Er X (d + 2) M_X11_spreads 39 [some (.ref 145), some (.int h), some (.int (nI (m + 1))), o] [] I1 J (qV P) := ih
      generalize it (b4 g n h) (zl g h s) m = t at r1 hu1 ih
      obtain ⟨p, hp, ep⟩ := hg.2.2.2.2.2.2.2.2.2.2.2 m hm
      obtain ⟨b6, b7⟩ := g1.2.2.2.2.2.2.2.1 m hm
      refine vc_X11_spreads_39 ⟨fun hh => ?_, fun _ => ?_⟩
      · rw [g1.2.2.1.1, le_nI (by omega) (by omega)] at hh; omega
      rw [nI_1 m, show 2 * nI m = nI (2 * m) from pk_mul 2 m, nI_1, tn_nI (k := 2 * m) (by omega), tn_nI (k := 2 * m + 1) (by omega)]
      refine ⟨ix_nI (by omega) (by omega), fun y hy => ⟨ix_nI (by omega) (by omega), ?_⟩⟩
      rw [b7, ep] at hy
      subst hy
      unfold b4 at ih
      rw [b6]
      rw [ep, tn_nI (k := p) (by omega)] at ih
      refine ⟨fun a => ?_, fun a => ?_⟩
      · rw [if_neg (fun z => a z.1)] at ih; exact ih _ I1 f1 r1
      · refine sp_misSlice g1.1 (fun k hk e => ⟨fun z => absurd z (by decide), fun _ => ?_⟩) (fun hno => ⟨fun _ => ?_, fun z => absurd rfl z⟩)
        · have ek : k = p := ((nI_eq (by omega) (by omega)).mp e).symm
          subst ek
          obtain ⟨c1, c2, -⟩ := r1.r hk
          refine sp_isHere (by omega) (fun b => ⟨fun z => absurd z (by decide), fun _ => ?_⟩) (fun b => ⟨fun _ => ?_, fun z => absurd rfl z⟩)
          · rw [tn_nI (k := k) (by omega), show tn 2 = 2 from rfl, g1.2.2.2.2.2.2.1 2 (by omega)]
            refine ⟨ix_nI (by omega) (by omega), fun q => ?_, fun q => ⟨ix_nI (by omega) (by omega), ?_⟩⟩
            · rw [if_neg (fun z => Int32.not_le.mpr z.2.2.2 (by rw [← c1]; exact q))] at ih; exact ih _ I1 f1 r1
            · rw [c1] at q
              rw [c2, here_lt hu1 hk] at b
              rw [if_pos ⟨Decidable.not_not.mp a, hk, b, Int32.not_le.mp q⟩] at ih
              refine ih _ _ (f1.u (by omega) (by omega) (by omega)) (fun j i j1 j2 hi => ?_)
              by_cases e2 : j = 2
              · subst e2
                show mm_u I1 158 k 3 158 i = mm_u t 2 k 3 2 i
                simp only [mm_u]
                have := r1 2 i (by omega) (by omega) hi
                rw [show mr 2 = 158 from rfl] at this
                rw [this]
              · have hmr : mr j ≠ 158 := by unfold mr; split <;> omega
                rw [mm_u_k hmr, mm_u_k e2]; exact r1 j i j1 j2 hi
          · rw [c2, here_lt hu1 hk] at b
            rw [if_neg (fun z => b z.2.2.1)] at ih; exact ih _ I1 f1 r1
        · rw [if_neg (fun z => hno p z.2.1 rfl)] at ih; exact ih _ I1 f1 r1
  -- the lines
  have lines : ∀ m, m ≤ n → ∀ I1 : tI, FQ I I1 → Rm n I1 (mix m (zl g h s) s) → Er X (d + 2) M_X11_spreads 2 [some (.ref 145), some (.int h), some (.int (nI m)), none] [] I1 J (qV P) := by
    refine up_loop ?_ ?_
    · intro I1 f1 r1
      refine vc_X11_spreads_2 ⟨fun _ => butters 0 (Nat.zero_le _) none I1 f1 r1.end_, fun hh => ?_⟩
      rw [(hg.fq f1).1.1] at hh
      exact absurd (Int32.le_refl _) hh
    · intro m hm ih I1 f1 r1
      have g1 := hg.fq f1
      have hcol := r1.col hm
      have c1 : I1 157 m = s 1 m := hcol 1 (by omega) (by omega)
      have c2 : I1 158 m = s 2 m := hcol 2 (by omega) (by omega)
      have c7 : I1 166 m = s 7 m := hcol 7 (by omega) (by omega)
      have hx := ix_nI (k := m) (n := 8) (by omega) (by omega)
      have no : ¬ (s 7 m = -1 ∧ (s 2 m = 0 ∨ s 2 m = 1) ∧ s 1 m ≤ g 5 2) → Er X (d + 2) M_X11_spreads 2 [some (.ref 145), some (.int h), some (.int (nI (m + 1))), none] [] I1 J (qV P) := fun q => ih I1 f1 (r1.step (fun j j1 j2 => by
        rw [hcol j j1 j2, zl, if_neg (fun z => q z.2)]) (fun _ _ _ _ _ => rfl))
      refine vc_X11_spreads_2 ⟨fun hh => ?_, fun _ => ?_⟩
      · rw [g1.1.1, le_nI (by omega) (by omega)] at hh; omega
      rw [tn_nI (k := m) (by omega), nI_1]
      refine ⟨hx, fun a => ⟨hx, hx, ?_⟩, fun a => ?_⟩
      · rw [mm_u_id]; exact no (fun z => a (by rw [c7]; exact z.1))
      · refine sp_isHere (by omega) (fun b => ⟨fun z => absurd z (by decide), fun _ => ⟨hx, fun q => ⟨hx, hx, ?_⟩, fun q => ⟨hx, ?_⟩⟩⟩) (fun b => ⟨fun _ => ⟨hx, hx, ?_⟩, fun z => absurd rfl z⟩)
        · rw [mm_u_id]
          rw [show tn 2 = 2 from rfl, g1.2.2.2.2.2.2.1 2 (by omega), c1] at q
          exact no (fun z => Int32.not_le.mpr q z.2.2)
        · rw [show tn 2 = 2 from rfl, g1.2.2.2.2.2.2.1 2 (by omega), c1] at q
          rw [c2, here_lt hu hm] at b
          have a7 : s 7 m = -1 := by rw [← c7]; exact Decidable.not_not.mp a
          have yes : s 7 m = -1 ∧ (s 2 m = 0 ∨ s 2 m = 1) ∧ s 1 m ≤ g 5 2 := ⟨a7, b, Int32.not_lt.mp q⟩
          refine ih _ (f1.u (by omega) (by omega) (by omega)) (r1.step (fun j j1 j2 => ?_) (fun j k j1 j2 hk => by rw [mm_u_j hk]))
          by_cases e : j = 7
          · subst e
            rw [show mr 7 = 166 from rfl, mm_u_s, zl, if_pos ⟨rfl, yes⟩]
          · have hmr : mr j ≠ 166 := by unfold mr; split <;> omega
            rw [mm_u_k hmr, hcol j j1 j2, zl, if_neg (fun z => e z.1)]
        · rw [mm_u_id]
          rw [c2, here_lt hu hm] at b
          exact no (fun z => b z.2.1)
  exact lines 0 (Nat.zero_le _) I FQ.rf hr.start
end MOD2
