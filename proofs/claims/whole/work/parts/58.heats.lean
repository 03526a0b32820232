/-! ===== heats and slots that could have been ===== -/
section HEATS
noncomputable def hN (n nb nf nq : Nat) (g q : tI) (k : Nat) : Nat → Nat
  | 0 => 0
  | m + 1 => @ite _ (cmA n nb nf (mm_u g 3 k (nI m)) q nq) (Classical.propDecidable _) (hN n nb nf nq g q k m + 1) (hN n nb nf nq g q k m)
noncomputable def hF (n nb nf nq : Nat) (g q : tI) (k : Nat) (i : Int32) : Nat → Int32
  | 0 => -1
  | m + 1 => @ite _ (cmA n nb nf (mm_u g 3 k (nI m)) q nq ∧ nI (hN n nb nf nq g q k m) = i) (Classical.propDecidable _) (nI m) (hF n nb nf nq g q k i m)
noncomputable def sB (n nb nf nq : Nat) (g q : tI) (k : Nat) : Nat → Int32
  | 0 => 0
  | p + 1 => @ite _ (cmA n nb nf (mm_u g 4 k (nI p)) q nq) (Classical.propDecidable _) (sB n nb nf nq g q k p ||| ((1 : Int32) <<< (nI p &&& 31))) (sB n nb nf nq g q k p)
noncomputable def hA (n nb nf nq : Nat) (g q : tI) (k : Nat) (i : Int32) : Int32 := if i ≠ -1 then hF n nb nf nq g q k i 100 else nI (hN n nb nf nq g q k 100)
variable {X : mm_X} {d : Nat} {I I' : tI} {J : tJ} {n ns nb nf nq : Nat} {g s q : tI}
theorem hN_le {k : Nat} : ∀ m, hN n nb nf nq g q k m ≤ m
  | 0 => Nat.le_refl _
  | m + 1 => by
    have := hN_le (k := k) m
    rw [hN]; split <;> omega
theorem hF_none {k i : Nat} (hi : i < 1000) : ∀ m, m ≤ 100 → hN n nb nf nq g q k m ≤ i → hF n nb nf nq g q k (nI i) m = -1
  | 0, _, _ => rfl
  | m + 1, hm, h => by
    have l := hN_le (n := n) (nb := nb) (nf := nf) (nq := nq) (g := g) (q := q) (k := k) m
    rw [hN] at h
    rw [hF]
    by_cases c : cmA n nb nf (mm_u g 3 k (nI m)) q nq
    · rw [if_pos c] at h
      rw [if_neg (fun z => by have := (nI_eq (by omega) (by omega)).mp z.2; omega)]
      exact hF_none hi m (by omega) (by omega)
    · rw [if_neg c] at h
      rw [if_neg (fun z => c z.1)]
      exact hF_none hi m (by omega) h
/-- only the trial's cells and the guesses' have changed -/
def FH (I I' : tI) : Prop := ∀ x, (x < 23 ∨ 30 < x) → (x < 36 ∨ 39 < x) → I' x = I x
theorem sp_findHeats {P : tI → tJ → Prop} {k : Nat} (hs : Sg I g n ns nb nf) (hq : Sq I q nq) (hk : k < n) (hP : ∀ I', FH I I' → I' 36 4 = nI (hN n nb nf nq g q k 100) → (∀ i, i < hN n nb nf nq g q k 100 → I' 37 i = hF n nb nf nq g q k (nI i) 100) → P I' J) : EV X (d + 4) n_X1_findHeats [.ref 36, .int (nI k)] I J P := by
  have hn8 := hs.2.1.1.2
  have hx := ix_nI (k := k) (n := 8) (by omega) (by omega)
  refine vc_X1_findHeats ⟨hx, fun y hy => ?_⟩
  rw [tn_nI (k := k) (by omega), mm_u_k (by omega)] at hy
  subst hy
  have key : ∀ m, m ≤ 100 → ∀ I1 : tI, (∀ x, (x < 23 ∨ 30 < x) → (x < 36 ∨ 39 < x) → x ≠ 5 → I1 x = I x) → (∀ j, j ≠ k → I1 5 j = I 5 j) → I1 36 4 = nI (hN n nb nf nq g q k m) → (∀ i, i < hN n nb nf nq g q k m → I1 37 i = hF n nb nf nq g q k (nI i) m) → Er X (d + 4) M_X1_findHeats 11 [some (.ref 36), some (.int (nI k)), some (.int (I 5 k)), some (.int (nI m))] [] I1 J (qV P) := by
    refine up_loop ?_ ?_
    · intro I1 a1 a2 a3 a4
      refine vc_X1_findHeats_11 ⟨fun _ => ⟨hx, ?_⟩, fun hh => absurd (by decide) hh⟩
      rw [tn_nI (k := k) (by omega)]
      refine hP _ (fun x h1 h2 => ?_) (by rw [mm_u_k (by omega)]; exact a3) (fun i hi => by rw [mm_u_k (by omega)]; exact a4 i hi)
      by_cases e : x = 5
      · subst e
        funext j
        by_cases e2 : j = k
        · subst e2; rw [mm_u_s]
        · rw [mm_u_j e2]; exact a2 j e2
      · rw [mm_u_k e]; exact a1 x h1 h2 e
    · intro m hm ih I1 a1 a2 a3 a4
      have l := hN_le (n := n) (nb := nb) (nf := nf) (nq := nq) (g := g) (q := q) (k := k) m
      refine vc_X1_findHeats_11 ⟨fun hh => ?_, fun _ => ⟨hx, ?_⟩⟩
      · rw [show (100 : Int32) = nI 100 from rfl, le_nI (by omega) (by omega)] at hh; omega
      rw [tn_nI (k := k) (by omega), nI_1]
      have s1 : Sg (mm_u I1 5 k (nI m)) (mm_u g 3 k (nI m)) n ns nb nf := (hs.heat (k := k) (p := m) (by omega)).eq (fun x h1 h2 => by
        by_cases e : x = 5
        · subst e
          funext j
          by_cases e2 : j = k
          · subst e2; rw [mm_u_s, mm_u_s]
          · rw [mm_u_j e2, mm_u_j e2]; exact a2 j e2
        · rw [mm_u_k e, mm_u_k e]; exact a1 x (by omega) (by omega) e)
      have q1 : Sq (mm_u I1 5 k (nI m)) q nq := by
        unfold Sq
        rw [mm_u_k (by omega), mm_u_k (by omega), mm_u_k (by omega), mm_u_k (by omega), a1 32 (by omega) (by omega) (by omega), a1 33 (by omega) (by omega) (by omega), a1 34 (by omega) (by omega) (by omega), a1 35 (by omega) (by omega) (by omega)]
        exact hq
      have fr : ∀ I2, FG (mm_u I1 5 k (nI m)) I2 → (∀ x, (x < 23 ∨ 30 < x) → (x < 36 ∨ 39 < x) → x ≠ 5 → I2 x = I x) ∧ (∀ j, j ≠ k → I2 5 j = I 5 j) ∧ I2 36 = I1 36 ∧ I2 37 = I1 37 := fun I2 f2 =>
        ⟨fun x h1 h2 e => by rw [f2 x h1 (by omega), mm_u_k e]; exact a1 x h1 h2 e, fun j e => by rw [f2 5 (by omega) (by omega), mm_u_j e]; exact a2 j e, by rw [f2 36 (by omega) (by omega), mm_u_k (by omega)], by rw [f2 37 (by omega) (by omega), mm_u_k (by omega)]⟩
      rw [hN] at ih
      simp only [hF] at ih
      refine sp_allComesOut (note := 0) (by omega) s1 q1 (fun I2 f2 c _ => ⟨fun z => absurd z (by decide), fun _ => ?_⟩) (fun I2 f2 c => ⟨fun _ => ?_, fun z => absurd rfl z⟩)
      · obtain ⟨b1, b2, b3, b4⟩ := fr I2 f2
        rw [if_pos c] at ih
        rw [mm_u_k (by omega : (36 : Nat) ≠ 37), b3, a3, tn_nI (k := hN n nb nf nq g q k m) (by omega), nI_1]
        refine ⟨ix_nI (by omega) (by omega), ih _ (fun x h1 h2 e => ?_) (fun j e => ?_) (by rw [mm_u_s]) (fun i hi => ?_)⟩
        · rw [mm_u_k (by omega), mm_u_k (by omega)]; exact b1 x h1 h2 e
        · rw [mm_u_k (by omega), mm_u_k (by omega)]; exact b2 j e
        · rw [mm_u_k (by omega)]
          by_cases e : i = hN n nb nf nq g q k m
          · rw [e, mm_u_s, if_pos ⟨c, rfl⟩]
          · rw [mm_u_j e, b4, if_neg (fun z => e ((nI_eq (by omega) (by omega)).mp z.2).symm)]; exact a4 i (by omega)
      · obtain ⟨b1, b2, b3, b4⟩ := fr I2 f2
        rw [if_neg c] at ih
        refine ih I2 b1 b2 (by rw [b3]; exact a3) (fun i hi => ?_)
        rw [if_neg (fun z => c z.1), b4]; exact a4 i hi
  refine key 0 (Nat.zero_le _) _ (fun x h1 h2 e => ?_) (fun j e => ?_) (by rw [mm_u_s]; rfl) (fun i hi => absurd hi (Nat.not_lt_zero _))
  · rw [mm_u_k (by omega)]
  · rw [mm_u_k (by omega)]
theorem sp_slotsOfC {P : Int32 → tI → tJ → Prop} {k : Nat} (hs : Sg I g n ns nb nf) (hq : Sq I q nq) (hk : k < n) (hP : ∀ I', FH I I' → P (sB n nb nf nq g q k 10) I' J) : EI X (d + 4) n_X1_slotsOf [.ref 36, .int (nI k)] I J P := by
  have hn8 := hs.2.1.1.2
  have hx := ix_nI (k := k) (n := 8) (by omega) (by omega)
  refine vc_X1_slotsOf ⟨hx, fun y hy => ?_⟩
  rw [tn_nI (k := k) (by omega)] at hy
  subst hy
  have key : ∀ m, m ≤ 10 → ∀ I1 : tI, (∀ x, (x < 23 ∨ 30 < x) → (x < 36 ∨ 39 < x) → x ≠ 6 → I1 x = I x) → (∀ j, j ≠ k → I1 6 j = I 6 j) → Er X (d + 4) M_X1_slotsOf 10 [some (.ref 36), some (.int (nI k)), some (.int (sB n nb nf nq g q k m)), some (.int (I 6 k)), some (.int (nI m))] [] I1 J (qI P) := by
    refine up_loop ?_ ?_
    · intro I1 a1 a2
      refine vc_X1_slotsOf_10 ⟨fun _ => ⟨hx, ?_⟩, fun hh => absurd (by decide) hh⟩
      rw [tn_nI (k := k) (by omega)]
      refine hP _ (fun x h1 h2 => ?_)
      by_cases e : x = 6
      · subst e
        funext j
        by_cases e2 : j = k
        · subst e2; rw [mm_u_s]
        · rw [mm_u_j e2]; exact a2 j e2
      · rw [mm_u_k e]; exact a1 x h1 h2 e
    · intro m hm ih I1 a1 a2
      refine vc_X1_slotsOf_10 ⟨fun hh => ?_, fun _ => ⟨hx, ?_⟩⟩
      · rw [show (10 : Int32) = nI 10 from rfl, le_nI (by omega) (by omega)] at hh; omega
      rw [tn_nI (k := k) (by omega), nI_1]
      have s1 : Sg (mm_u I1 6 k (nI m)) (mm_u g 4 k (nI m)) n ns nb nf := (hs.slot (k := k) (p := m) (by omega)).eq (fun x h1 h2 => by
        by_cases e : x = 6
        · subst e
          funext j
          by_cases e2 : j = k
          · subst e2; rw [mm_u_s, mm_u_s]
          · rw [mm_u_j e2, mm_u_j e2]; exact a2 j e2
        · rw [mm_u_k e, mm_u_k e]; exact a1 x (by omega) (by omega) e)
      have q1 : Sq (mm_u I1 6 k (nI m)) q nq := by
        unfold Sq
        rw [mm_u_k (by omega), mm_u_k (by omega), mm_u_k (by omega), mm_u_k (by omega), a1 32 (by omega) (by omega) (by omega), a1 33 (by omega) (by omega) (by omega), a1 34 (by omega) (by omega) (by omega), a1 35 (by omega) (by omega) (by omega)]
        exact hq
      have fr : ∀ I2, FG (mm_u I1 6 k (nI m)) I2 → (∀ x, (x < 23 ∨ 30 < x) → (x < 36 ∨ 39 < x) → x ≠ 6 → I2 x = I x) ∧ (∀ j, j ≠ k → I2 6 j = I 6 j) := fun I2 f2 =>
        ⟨fun x h1 h2 e => by rw [f2 x h1 (by omega), mm_u_k e]; exact a1 x h1 h2 e, fun j e => by rw [f2 6 (by omega) (by omega), mm_u_j e]; exact a2 j e⟩
      rw [sB] at ih
      refine sp_allComesOut (note := 0) (by omega) s1 q1 (fun I2 f2 c _ => ⟨fun z => absurd z (by decide), fun _ y hy => ?_⟩) (fun I2 f2 c => ⟨fun _ => ?_, fun z => absurd rfl z⟩)
      · rw [if_pos c] at ih
        rw [hy]; exact ih I2 (fr I2 f2).1 (fr I2 f2).2
      · rw [if_neg c] at ih
        exact ih I2 (fr I2 f2).1 (fr I2 f2).2
  exact key 0 (Nat.zero_le _) I (fun _ _ _ _ => rfl) (fun _ _ => rfl)
theorem Mq.fl (hq : Mq I q nq) (hf : FL I I') : Mq I' q nq := by
  unfold Mq
  rw [hf 145 (by omega), hf 167 (by omega)]; exact hq
theorem sp_heatsOf {P : Int32 → tI → tJ → Prop} {k : Nat} {i : Int32} (hg : Mg I g n ns nb nf) (ho : I 145 26 = 0) (hq : Mq I q nq) (hk : k < n) (hP : ∀ I', FL I I' → P (hA n nb nf nq g q k i) I' J) : EI X (d + 6) n_X11_heatsOf [.ref 145, .int (nI k), .int i] I J P := by
  have hn8 := hg.1.2
  have hy := ix_nI (k := 3 * k + 1) (n := 24) (by omega) (by omega)
  refine vc_X11_heatsOf ?_
  rw [nI_mul3, nI_1, tn_nI (k := 3 * k + 1) (by omega)]
  refine ⟨hy, fun y hy' => ?_⟩
  subst hy'
  have key : ∀ m, m ≤ 100 → ∀ (o : Option Value) (I1 : tI), (∀ x, (x < 157 ∨ 166 < x) → x ≠ 153 → I1 x = I x) → (∀ j, j ≠ 3 * k + 1 → I1 153 j = I 153 j) → Er X (d + 6) M_X11_heatsOf 15 [some (.ref 145), some (.int (nI k)), some (.int i), some (.int (I 153 (3 * k + 1))), some (.int (nI (hN n nb nf nq g q k m))), some (.int (hF n nb nf nq g q k i m)), some (.int (nI m)), o] [] I1 J (qI P) := by
    refine up_loop ?_ ?_
    · intro o I1 a1 a2
      have fin : FL I (mm_u I1 153 (3 * k + 1) (I 153 (3 * k + 1))) := fun x hx => by
        by_cases e : x = 153
        · subst e
          funext j
          by_cases e2 : j = 3 * k + 1
          · subst e2; rw [mm_u_s]
          · rw [mm_u_j e2]; exact a2 j e2
        · rw [mm_u_k e]; exact a1 x hx e
      have hP := hP _ fin
      unfold hA at hP
      refine vc_X11_heatsOf_15 ⟨fun _ => ?_, fun hh => absurd (by decide) hh⟩
      rw [nI_mul3, nI_1, tn_nI (k := 3 * k + 1) (by omega)]
      exact ⟨hy, fun z => by rw [if_pos z] at hP; exact hP, fun z => by rw [if_neg z] at hP; exact hP⟩
    · intro m hm ih o I1 a1 a2
      refine vc_X11_heatsOf_15 ⟨fun hh => ?_, fun _ => ?_⟩
      · rw [show (100 : Int32) = nI 100 from rfl, le_nI (by omega) (by omega)] at hh; omega
      rw [nI_mul3, nI_1, tn_nI (k := 3 * k + 1) (by omega)]
      have eqf : FL (mm_u I 153 (3 * k + 1) (nI m)) (mm_u I1 153 (3 * k + 1) (nI m)) := fun x hx => by
        by_cases e : x = 153
        · subst e
          funext j
          by_cases e2 : j = 3 * k + 1
          · subst e2; rw [mm_u_s, mm_u_s]
          · rw [mm_u_j e2, mm_u_j e2]; exact a2 j e2
        · rw [mm_u_k e, mm_u_k e]; exact a1 x hx e
      have g1 := (hg.heat (v := nI m) hk).fl eqf
      have q1 : Mq (mm_u I1 153 (3 * k + 1) (nI m)) q nq := by
        unfold Mq
        rw [mm_u_k (by omega), mm_u_k (by omega), a1 145 (by omega) (by omega), a1 167 (by omega) (by omega)]; exact hq
      have fr : ∀ I2, FL (mm_u I1 153 (3 * k + 1) (nI m)) I2 → (∀ x, (x < 157 ∨ 166 < x) → x ≠ 153 → I2 x = I x) ∧ (∀ j, j ≠ 3 * k + 1 → I2 153 j = I 153 j) := fun I2 f2 => ⟨fun x hx e => by rw [f2 x hx, mm_u_k e]; exact a1 x hx e, fun j e => by rw [f2 153 (by omega), mm_u_j e]; exact a2 j e⟩
      rw [hN, hF] at ih
      refine ⟨hy, sp_isSeen g1 (by rw [mm_u_k (by omega), a1 145 (by omega) (by omega)]; exact ho) q1 (fun I2 f2 _ c => ⟨fun z => absurd z (by decide), fun _ => ⟨fun z => ?_, fun z => ?_⟩⟩) (fun I2 f2 c => ⟨fun _ => ?_, fun z => absurd rfl z⟩)⟩
      · rw [if_pos c, if_neg (fun u => z u.2)] at ih
        refine vc_X11_heatsOf_38 ⟨fun z => absurd z (by decide), fun _ y hy => ?_⟩
        rw [hy, nI_1, nI_1]; exact ih _ I2 (fr I2 f2).1 (fr I2 f2).2
      · rw [if_pos c, if_pos ⟨c, Decidable.not_not.mp z⟩] at ih
        refine vc_X11_heatsOf_38 ⟨fun z => absurd z (by decide), fun _ y hy => ?_⟩
        rw [hy, nI_1, nI_1]; exact ih _ I2 (fr I2 f2).1 (fr I2 f2).2
      · rw [if_neg c, if_neg (fun u => c u.1)] at ih
        refine vc_X11_heatsOf_38 ⟨fun _ y hy => ?_, fun z => absurd rfl z⟩
        rw [hy, Int32.add_zero, nI_1]; exact ih _ I2 (fr I2 f2).1 (fr I2 f2).2
  exact key 0 (Nat.zero_le _) none I (fun _ _ _ => rfl) (fun _ _ => rfl)
theorem sp_slotsOfM {P : Int32 → tI → tJ → Prop} {k : Nat} (hg : Mg I g n ns nb nf) (ho : I 145 26 = 0) (hq : Mq I q nq) (hk : k < n) (hP : ∀ I', FL I I' → P (sB n nb nf nq g q k 10) I' J) : EI X (d + 6) n_X11_slotsOf [.ref 145, .int (nI k)] I J P := by
  have hn8 := hg.1.2
  have hy := ix_nI (k := 3 * k + 2) (n := 24) (by omega) (by omega)
  refine vc_X11_slotsOf ?_
  rw [nI_mul3, nI_2, tn_nI (k := 3 * k + 2) (by omega)]
  refine ⟨hy, fun y hy' => ?_⟩
  subst hy'
  have key : ∀ m, m ≤ 10 → ∀ (I1 : tI), (∀ x, (x < 157 ∨ 166 < x) → x ≠ 153 → I1 x = I x) → (∀ j, j ≠ 3 * k + 2 → I1 153 j = I 153 j) → Er X (d + 6) M_X11_slotsOf 13 [some (.ref 145), some (.int (nI k)), some (.int (I 153 (3 * k + 2))), some (.int (sB n nb nf nq g q k m)), some (.int (nI m))] [] I1 J (qI P) := by
    refine up_loop ?_ ?_
    · intro I1 a1 a2
      refine vc_X11_slotsOf_13 ⟨fun _ => ?_, fun hh => absurd (by decide) hh⟩
      rw [nI_mul3, nI_2, tn_nI (k := 3 * k + 2) (by omega)]
      refine ⟨hy, hP _ (fun x hx => ?_)⟩
      by_cases e : x = 153
      · subst e
        funext j
        by_cases e2 : j = 3 * k + 2
        · subst e2; rw [mm_u_s]
        · rw [mm_u_j e2]; exact a2 j e2
      · rw [mm_u_k e]; exact a1 x hx e
    · intro m hm ih I1 a1 a2
      refine vc_X11_slotsOf_13 ⟨fun hh => ?_, fun _ => ?_⟩
      · rw [show (10 : Int32) = nI 10 from rfl, le_nI (by omega) (by omega)] at hh; omega
      rw [nI_mul3, nI_2, tn_nI (k := 3 * k + 2) (by omega), nI_1]
      have eqf : FL (mm_u I 153 (3 * k + 2) (nI m)) (mm_u I1 153 (3 * k + 2) (nI m)) := fun x hx => by
        by_cases e : x = 153
        · subst e
          funext j
          by_cases e2 : j = 3 * k + 2
          · subst e2; rw [mm_u_s, mm_u_s]
          · rw [mm_u_j e2, mm_u_j e2]; exact a2 j e2
        · rw [mm_u_k e, mm_u_k e]; exact a1 x hx e
      have g1 := (hg.slot (p := m) hk (by omega)).fl eqf
      have q1 : Mq (mm_u I1 153 (3 * k + 2) (nI m)) q nq := by
        unfold Mq
        rw [mm_u_k (by omega), mm_u_k (by omega), a1 145 (by omega) (by omega), a1 167 (by omega) (by omega)]; exact hq
      have fr : ∀ I2, FL (mm_u I1 153 (3 * k + 2) (nI m)) I2 → (∀ x, (x < 157 ∨ 166 < x) → x ≠ 153 → I2 x = I x) ∧ (∀ j, j ≠ 3 * k + 2 → I2 153 j = I 153 j) := fun I2 f2 => ⟨fun x hx e => by rw [f2 x hx, mm_u_k e]; exact a1 x hx e, fun j e => by rw [f2 153 (by omega), mm_u_j e]; exact a2 j e⟩
      rw [sB] at ih
      refine ⟨hy, sp_isSeen g1 (by rw [mm_u_k (by omega), a1 145 (by omega) (by omega)]; exact ho) q1 (fun I2 f2 _ c => ⟨fun z => absurd z (by decide), fun _ y hy => ?_⟩) (fun I2 f2 c => ⟨fun _ y hy => ?_, fun z => absurd rfl z⟩)⟩
      · rw [if_pos c] at ih
        rw [hy]; exact ih I2 (fr I2 f2).1 (fr I2 f2).2
      · rw [if_neg c] at ih
        rw [hy, Int32.or_zero]; exact ih I2 (fr I2 f2).1 (fr I2 f2).2
  exact key 0 (Nat.zero_le _) I (fun _ _ _ => rfl) (fun _ _ => rfl)
end HEATS
