/-! ===== another slot ===== -/
noncomputable def pFirst (n nb nf : Nat) (g : tI) (k : Nat) : Int32 := zN g n nb nf (fun _ => 0) 30 5 k
/-- of the slots before p: the best, and the hour -/
noncomputable def mvP (n nb nf : Nat) (g : tI) (k : Nat) : Nat → Int32 × Int32
  | 0 => (-1, -1)
  | p + 1 => if pFirst n nb nf (mm_u g 4 k (nI p)) k ≠ -1 ∧ ((mvP n nb nf g k p).1 = -1 ∨ pFirst n nb nf (mm_u g 4 k (nI p)) k < (mvP n nb nf g k p).2) then (nI p, pFirst n nb nf (mm_u g 4 k (nI p)) k) else mvP n nb nf g k p
/-- only the trial's cells and the plans' have changed -/
def FT (I I' : tI) : Prop := ∀ x, (x < 23 ∨ 31 < x) → I' x = I x
section MOVE
variable {X : mm_X} {d : Nat} {I I' : tI} {J : tJ} {n ns nb nf : Nat} {g s : tI}
theorem FT.rf : FT I I := fun _ _ => rfl
theorem FT.tr {I'' : tI} (h : FT I I') (h' : FT I' I'') : FT I I'' := fun x hx => (h' x hx).trans (h x hx)
theorem FT.c (h : FT I I') {I'' : tI} (h' : FC 23 I' I'') : FT I I'' := fun x hx => (h' x (by omega)).trans (h x hx)
theorem FT.u {k j : Nat} {v : Int32} (h : FT I I') (h1 : 23 ≤ k) (h2 : k ≤ 31) : FT I (mm_u I' k j v) := fun x hx => by rw [mm_u_k (by omega)]; exact h x hx
theorem Sg.ft (hs : Sg I g n ns nb nf) (hf : FT I I') : Sg I' g n ns nb nf := hs.eq (fun x h1 h2 => hf x (by omega))
theorem c23 : 23 ∈ mm_crs := by decide
theorem le30 {m : Nat} (hm : m < 30) (hh : (30 : Int32) ≤ nI m) : False := by
  rw [show (30 : Int32) = nI 30 from rfl, le_nI (by omega) (by omega)] at hh; omega
theorem first_by (k : Nat) {b : Nat} (hb : b ≤ 30) : zN g n nb nf (fun _ => 0) b 5 k = if pFirst n nb nf g k ≠ -1 ∧ pFirst n nb nf g k < nI b then pFirst n nb nf g k else -1 := by
  rcases first_is (g := g) (n := n) (nb := nb) (nf := nf) (mo := fun _ => 0) k b hb with w | ⟨j, j1, j2⟩
  · rw [w, if_neg]
    rintro ⟨q1, q2⟩
    rcases first_is (g := g) (n := n) (nb := nb) (nf := nf) (mo := fun _ => 0) k 30 (by omega) with u | ⟨i, i1, i2⟩
    · exact q1 u
    · have l := first_late k hb w i2 i1
      unfold pFirst at q2
      rw [i2, lt_nI (by omega) (by omega)] at q2
      omega
  · have e : pFirst n nb nf g k = nI j := (first_stay k (by rw [j2]; exact nI_ne (by omega)) 30 hb).trans j2
    rw [e, if_pos ⟨nI_ne (by omega), by rw [lt_nI (by omega) (by omega)]; exact j1⟩]
    exact j2
theorem sp_letGoBefore {P : Int32 → tI → tJ → Prop} {k b : Nat} (hs : Sg I g n ns nb nf) (hk : k < n) (hb : b ≤ 30) (hP : ∀ I', FC 23 I I' → P (zN g n nb nf (fun _ => 0) b 5 k) I' J) : EI X (d + 3) n_X4_letGoBefore [.ref 31, .int (nI k), .int (nI b)] I J P := by
  have hn8 := hs.2.1.1.2
  have hx := ix_nI (k := k) (n := 8) (by omega) (by omega)
  refine vc_X4_letGoBefore (sp_beginZ c23 hs (fun I1 f1 c1 => ?_))
  have key : ∀ m, m ≤ b → ∀ I2 : tI, FC 23 I I2 → Cs 23 n I2 (zN g n nb nf (fun _ => 0) m) → Er X (d + 3) M_X4_letGoBefore 5 [some (.ref 31), some (.int (nI k)), some (.int (nI b)), some (.int (nI m))] [] I2 J (qI P) := by
    refine up_loop ?_ ?_
    · intro I2 f2 c2
      refine vc_X4_letGoBefore_5 ⟨fun _ => ⟨hx, ?_⟩, fun hh => absurd (Int32.le_refl _) hh⟩
      rw [tn_nI (k := k) (by omega), show I2 28 k = _ from (c2.2.1 k hk).2.2.2.1]
      exact hP I2 f2
    · intro m hm ih I2 f2 c2
      have s2 := hs.fc (by omega) f2
      refine vc_X4_letGoBefore_5 ⟨fun hh => ?_, fun _ => ⟨hx, ?_⟩⟩
      · rw [le_nI (by omega) (by omega)] at hh; omega
      rw [tn_nI (k := k) (by omega), show I2 28 k = _ from (c2.2.1 k hk).2.2.2.1, nI_1]
      refine ⟨fun q => ⟨hx, ?_⟩, fun q => ?_⟩
      · rw [← first_stay k q b (by omega)]; exact hP I2 f2
      · refine sp_untilZ c23 s2 c2 (fun I3 f3 c3 => ?_)
        exact sp_fromZ (m := 0) c23 (s2.fc (by omega) f3) c3 (by omega) (fun I4 f4 c4 => ih I4 ((f2.tr f3).tr f4) c4)
  exact key 0 (Nat.zero_le _) I1 f1 c1
theorem sp_findMove {P : tI → tJ → Prop} {k : Nat} (hs : Sg I g n ns nb nf) (hk : k < n) (hP : ∀ I', FT I I' → I' 31 2 = (mvP n nb nf g k ns).1 → I' 31 3 = (mvP n nb nf g k ns).2 → P I' J) : EV X (d + 4) n_X4_findMove [.ref 31, .int (nI k)] I J P := by
  have hn8 := hs.2.1.1.2
  have hns := hs.2.1.2.1.2
  have hx := ix_nI (k := k) (n := 8) (by omega) (by omega)
  refine vc_X4_findMove ⟨hx, fun y hy => ?_⟩
  rw [tn_nI (k := k) (by omega), mm_u_k (by omega), mm_u_k (by omega)] at hy
  subst hy
  have key : ∀ p, p ≤ ns → ∀ (b : Nat) (o : Option Value) (I1 : tI), (∀ x, (x < 23 ∨ 31 < x) → x ≠ 6 → I1 x = I x) → (∀ j, j ≠ k → I1 6 j = I 6 j) → I1 31 2 = (mvP n nb nf g k p).1 → I1 31 3 = (mvP n nb nf g k p).2 → ((mvP n nb nf g k p).1 = -1 ∧ b = 30 ∨ (mvP n nb nf g k p).1 ≠ -1 ∧ (mvP n nb nf g k p).2 = nI b ∧ b < 30) → Er X (d + 4) M_X4_findMove 16 [some (.ref 31), some (.int (nI k)), some (.int (I 6 k)), some (.int (nI b)), some (.int (nI p)), o] [] I1 J (qV P) := by
    refine up_loop ?_ ?_
    · intro b o I1 a1 a2 a3 a4 a5
      refine vc_X4_findMove_16 ⟨fun _ => ⟨hx, ?_⟩, fun hh => ?_⟩
      · rw [tn_nI (k := k) (by omega)]
        refine hP _ (fun x hx => ?_) (by rw [mm_u_k (by omega)]; exact a3) (by rw [mm_u_k (by omega)]; exact a4)
        by_cases e : x = 6
        · subst e
          funext j
          by_cases e2 : j = k
          · subst e2; rw [mm_u_s]
          · rw [mm_u_j e2]; exact a2 j e2
        · rw [mm_u_k e]; exact a1 x hx e
      · rw [a1 2 (by omega) (by omega), hs.2.1.2.1.1] at hh; exact absurd (Int32.le_refl _) hh
    · intro p hp ih b o I1 a1 a2 a3 a4 a5
      refine vc_X4_findMove_16 ⟨fun hh => ?_, fun _ => ⟨hx, ?_⟩⟩
      · rw [a1 2 (by omega) (by omega), hs.2.1.2.1.1, le_nI (by omega) (by omega)] at hh; omega
      rw [tn_nI (k := k) (by omega), nI_1]
      have s1 : Sg (mm_u I1 6 k (nI p)) (mm_u g 4 k (nI p)) n ns nb nf := (hs.slot (k := k) (p := p) (by omega)).eq (fun x h1 h2 => by
        by_cases e : x = 6
        · subst e
          funext j
          by_cases e2 : j = k
          · subst e2; rw [mm_u_s, mm_u_s]
          · rw [mm_u_j e2, mm_u_j e2]; exact a2 j e2
        · rw [mm_u_k e, mm_u_k e]; exact a1 x (by omega) e)
      have hb : b ≤ 30 := by omega
      refine sp_letGoBefore s1 hk hb (fun I2 f2 => ?_)
      rw [first_by k hb]
      have b1 : ∀ x, (x < 23 ∨ 31 < x) → x ≠ 6 → I2 x = I x := fun x hx e => by rw [f2 x (by omega), mm_u_k e]; exact a1 x hx e
      have b2 : ∀ j, j ≠ k → I2 6 j = I 6 j := fun j e => by rw [f2 6 (by omega), mm_u_j e]; exact a2 j e
      have b31 : I2 31 = I1 31 := by rw [f2 31 (by omega), mm_u_k (by omega)]
      have hmv : mvP n nb nf g k (p + 1) = if pFirst n nb nf (mm_u g 4 k (nI p)) k ≠ -1 ∧ ((mvP n nb nf g k p).1 = -1 ∨ pFirst n nb nf (mm_u g 4 k (nI p)) k < (mvP n nb nf g k p).2) then (nI p, pFirst n nb nf (mm_u g 4 k (nI p)) k) else mvP n nb nf g k p := rfl
      rw [hmv] at ih
      have fi : pFirst n nb nf (mm_u g 4 k (nI p)) k = -1 ∨ ∃ j, j < 30 ∧ pFirst n nb nf (mm_u g 4 k (nI p)) k = nI j := first_is k 30 (Nat.le_refl _)
      generalize pFirst n nb nf (mm_u g 4 k (nI p)) k = f at ih fi ⊢
      have cond : (f ≠ -1 ∧ ((mvP n nb nf g k p).1 = -1 ∨ f < (mvP n nb nf g k p).2)) ↔ (f ≠ -1 ∧ f < nI b) := by
        rcases a5 with ⟨q1, q2⟩ | ⟨q1, q2, q3⟩
        · subst q2
          refine ⟨fun z => ⟨z.1, ?_⟩, fun z => ⟨z.1, Or.inl q1⟩⟩
          rcases fi with u | ⟨j, j1, j2⟩
          · exact absurd u z.1
          · rw [j2, lt_nI (by omega) (by omega)]; exact j1
        · rw [q2]
          exact ⟨fun z => ⟨z.1, z.2.resolve_left q1⟩, fun z => ⟨z.1, Or.inr z.2⟩⟩
      by_cases q : f ≠ -1 ∧ f < nI b
      · rw [if_pos q]
        rw [if_pos (cond.mpr q)] at ih
        refine ⟨fun z => absurd z q.1, fun _ => ?_⟩
        obtain ⟨j, j1, j2⟩ := fi.resolve_left q.1
        subst j2
        refine ih j _ _ (fun x hx e => ?_) (fun j e => ?_) ?_ ?_ (Or.inr ⟨nI_ne (by omega), rfl, j1⟩)
        · by_cases e31 : x = 31
          · omega
          · rw [mm_u_k e31, mm_u_k e31]; exact b1 x hx e
        · rw [mm_u_k (by omega), mm_u_k (by omega)]; exact b2 j e
        · rw [mm_u_j (by omega), mm_u_s]
        · rw [mm_u_s]
      · rw [if_neg q]
        rw [if_neg (fun z => q (cond.mp z))] at ih
        exact ⟨fun _ => ih b _ I2 b1 b2 (by rw [b31]; exact a3) (by rw [b31]; exact a4) a5, fun z => absurd rfl z⟩
  refine key 0 (Nat.zero_le _) 30 none _ (fun x hx e => ?_) (fun j e => ?_) ?_ ?_ (Or.inl ⟨rfl, rfl⟩)
  · rw [mm_u_k (by omega), mm_u_k (by omega)]
  · rw [mm_u_k (by omega), mm_u_k (by omega)]
  · rw [mm_u_j (by omega), mm_u_s]; rfl
  · rw [mm_u_s]; rfl
/-- what the reference must keep through a search -/
theorem sp_lives0 {P : tI → tJ → Prop} (hg : Mg I g n ns nb nf) (ho : I 145 26 = 0) (hP : ∀ I', FL I I' → Kp n 30 I' (zN g n nb nf (fun _ => 0)) → Rm n I' (zN g n nb nf (fun _ => 0) 30) → P I' J) : EV X (d + 4) n_X11_lives [.ref 145] I J P :=
  sp_lives hg (fun I' f1 k1 r1 => by rw [ho, mO_zero] at k1 r1; exact hP I' f1 k1 r1)
theorem sp_moveOf {P : Int32 → tI → tJ → Prop} {k : Nat} {w : Int32} (hg : Mg I g n ns nb nf) (ho : I 145 26 = 0) (hk : k < n) (hP : ∀ I', FL I I' → P (if w ≠ 0 then (mvP n nb nf g k ns).2 else (mvP n nb nf g k ns).1) I' J) : EI X (d + 5) n_X11_moveOf [.ref 145, .int (nI k), .int w] I J P := by
  have hn8 := hg.1.2
  have hns := hg.2.1.2
  have hx := ix_nI (k := k) (n := 8) (by omega) (by omega)
  have hy := ix_nI (k := 3 * k + 2) (n := 24) (by omega) (by omega)
  refine vc_X11_moveOf ?_
  rw [nI_mul3, nI_2, tn_nI (k := 3 * k + 2) (by omega)]
  refine ⟨hy, fun y hy' => ?_⟩
  subst hy'
  have key : ∀ p, p ≤ ns → ∀ (o : Option Value) (I1 : tI), (∀ x, (x < 157 ∨ 166 < x) → x ≠ 153 → I1 x = I x) → (∀ j, j ≠ 3 * k + 2 → I1 153 j = I 153 j) → Er X (d + 5) M_X11_moveOf 15 [some (.ref 145), some (.int (nI k)), some (.int w), some (.int (I 153 (3 * k + 2))), some (.int (mvP n nb nf g k p).1), some (.int (mvP n nb nf g k p).2), some (.int (nI p)), o] [] I1 J (qI P) := by
    refine up_loop ?_ ?_
    · intro o I1 a1 a2
      have fin : FL I (mm_u I1 153 (3 * k + 2) (I 153 (3 * k + 2))) := fun x hx => by
        by_cases e : x = 153
        · subst e
          funext j
          by_cases e2 : j = 3 * k + 2
          · subst e2; rw [mm_u_s]
          · rw [mm_u_j e2]; exact a2 j e2
        · rw [mm_u_k e]; exact a1 x hx e
      refine vc_X11_moveOf_15 ⟨fun _ => ?_, fun hh => ?_⟩
      · rw [nI_mul3, nI_2, tn_nI (k := 3 * k + 2) (by omega)]
        have hP := hP _ fin
        exact ⟨hy, fun q => by rw [if_pos q] at hP; exact hP, fun q => by rw [if_neg q] at hP; exact hP⟩
      · rw [a1 145 (by omega) (by omega), hg.2.1.1] at hh; exact absurd (Int32.le_refl _) hh
    · intro p hp ih o I1 a1 a2
      refine vc_X11_moveOf_15 ⟨fun hh => ?_, fun _ => ?_⟩
      · rw [a1 145 (by omega) (by omega), hg.2.1.1, le_nI (by omega) (by omega)] at hh; omega
      rw [nI_mul3, nI_2, tn_nI (k := 3 * k + 2) (by omega), tn_nI (k := k) (by omega)]
      have eqf : FL (mm_u I 153 (3 * k + 2) (nI p)) (mm_u I1 153 (3 * k + 2) (nI p)) := fun x hx => by
        by_cases e : x = 153
        · subst e
          funext j
          by_cases e2 : j = 3 * k + 2
          · subst e2; rw [mm_u_s, mm_u_s]
          · rw [mm_u_j e2, mm_u_j e2]; exact a2 j e2
        · rw [mm_u_k e, mm_u_k e]; exact a1 x hx e
      have g1 := (hg.slot (p := p) hk (by omega)).fl eqf
      refine ⟨hy, sp_lives0 g1 (by rw [mm_u_k (by omega), a1 145 (by omega) (by omega)]; exact ho) (fun I2 f2 k2 r2 => ?_)⟩
      have c5 : I2 164 k = pFirst n nb nf (mm_u g 4 k (nI p)) k := (r2.r hk).2.2.2.2.1
      have b1 : ∀ x, (x < 157 ∨ 166 < x) → x ≠ 153 → I2 x = I x := fun x hx e => by rw [f2 x hx, mm_u_k e]; exact a1 x hx e
      have b2 : ∀ j, j ≠ 3 * k + 2 → I2 153 j = I 153 j := fun j e => by rw [f2 153 (by omega), mm_u_j e]; exact a2 j e
      have hmv : mvP n nb nf g k (p + 1) = if pFirst n nb nf (mm_u g 4 k (nI p)) k ≠ -1 ∧ ((mvP n nb nf g k p).1 = -1 ∨ pFirst n nb nf (mm_u g 4 k (nI p)) k < (mvP n nb nf g k p).2) then (nI p, pFirst n nb nf (mm_u g 4 k (nI p)) k) else mvP n nb nf g k p := rfl
      rw [hmv] at ih
      rw [← c5] at ih
      have no : ¬ (I2 164 k ≠ -1 ∧ ((mvP n nb nf g k p).1 = -1 ∨ I2 164 k < (mvP n nb nf g k p).2)) → Er X (d + 5) M_X11_moveOf 54 [some (.ref 145), some (.int (nI k)), some (.int w), some (.int (I 153 (3 * k + 2))), some (.int (mvP n nb nf g k p).1), some (.int (mvP n nb nf g k p).2), some (.int (nI p)), some (.int 0)] [.int (mvP n nb nf g k p).1] I2 J (qI P) := fun q => by
        rw [if_neg q] at ih
        refine vc_X11_moveOf_54 ⟨fun _ => ?_, fun z => absurd rfl z⟩
        rw [nI_1]; exact ih _ I2 b1 b2
      have yes : (I2 164 k ≠ -1 ∧ ((mvP n nb nf g k p).1 = -1 ∨ I2 164 k < (mvP n nb nf g k p).2)) → Er X (d + 5) M_X11_moveOf 54 [some (.ref 145), some (.int (nI k)), some (.int w), some (.int (I 153 (3 * k + 2))), some (.int (mvP n nb nf g k p).1), some (.int (mvP n nb nf g k p).2), some (.int (nI p)), some (.int 1)] [.int (nI p)] I2 J (qI P) := fun q => by
        rw [if_pos q] at ih
        refine vc_X11_moveOf_54 ⟨fun z => absurd z (by decide), fun _ => ⟨hx, fun y hy => ?_⟩⟩
        rw [hy, tn_nI (k := k) (by omega), nI_1]; exact ih _ I2 b1 b2
      refine ⟨hx, fun q => ⟨fun _ => no (fun z => z.1 q), fun z => absurd rfl z⟩, fun q => ⟨fun q2 => ⟨fun z => absurd z (by decide), fun _ => yes ⟨q, Or.inl q2⟩⟩, fun q2 => ⟨hx, fun q3 => ⟨fun _ => no (fun z => z.2.elim q2 (fun u => Int32.not_le.mpr u q3)), fun z => absurd rfl z⟩, fun q3 => ⟨fun z => absurd z (by decide), fun _ => yes ⟨q, Or.inr (Int32.not_le.mp q3)⟩⟩⟩⟩⟩
  exact key 0 (Nat.zero_le _) none I (fun _ _ _ => rfl) (fun _ _ => rfl)
end MOVE
