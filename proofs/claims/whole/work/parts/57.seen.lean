/-! ===== what was seen ===== -/
def Rq (q : tI) (nq : Nat) : Prop := nq ≤ 8 ∧ ∀ i, i < nq → (∃ h, h < 30 ∧ q 0 i = nI h) ∧ (∃ k, k < 8 ∧ q 1 i = nI k)
def Sq (I q : tI) (nq : Nat) : Prop := Rq q nq ∧ I 32 4 = nI nq ∧ ∀ i, i < nq → I 33 i = q 0 i ∧ I 34 i = q 1 i ∧ I 35 i = q 2 i
def Mq (I q : tI) (nq : Nat) : Prop := Rq q nq ∧ I 145 27 = nI nq ∧ ∀ i, i < nq → I 167 (3 * i) = q 0 i ∧ I 167 (3 * i + 1) = q 1 i ∧ I 167 (3 * i + 2) = q 2 i
/-- the i-th comes out -/
def cm1 (n nb nf : Nat) (g q : tI) (i : Nat) : Prop := tn (q 1 i) < n ∧ zN g n nb nf (fun _ => 0) (tn (q 0 i) + 1) 2 (tn (q 1 i)) = q 2 i
def cmA (n nb nf : Nat) (g q : tI) (nq : Nat) : Prop := ∀ i, i < nq → cm1 n nb nf g q i
def FG (I I' : tI) : Prop := ∀ x, (x < 23 ∨ 30 < x) → x ≠ 38 → I' x = I x
section SEEN
variable {X : mm_X} {d : Nat} {I I' : tI} {J : tJ} {n ns nb nf nq : Nat} {g s q : tI}
theorem sp_isSeen {P : Int32 → tI → tJ → Prop} (hg : Mg I g n ns nb nf) (ho : I 145 26 = 0) (hq : Mq I q nq) (h1 : ∀ I', FL I I' → Kp n 30 I' (zN g n nb nf (fun _ => 0)) → cmA n nb nf g q nq → P 1 I' J) (h0 : ∀ I', FL I I' → ¬ cmA n nb nf g q nq → P 0 I' J) : EI X (d + 5) n_X11_isSeen [.ref 145] I J P := by
  have hn8 := hg.1.2
  have hq8 := hq.1.1
  refine vc_X11_isSeen (sp_lives0 hg ho (fun I1 f1 k1 _ => ?_))
  have e27 : I1 145 27 = nI nq := by rw [f1 145 (by omega)]; exact hq.2.1
  have key : ∀ m, m ≤ nq → ∀ (v : Int32) (o : Option Value), (v = 1 ∧ (∀ i, i < m → cm1 n nb nf g q i) ∨ v = 0 ∧ ¬ cmA n nb nf g q nq) → Er X (d + 5) M_X11_isSeen 6 [some (.ref 145), some (.int v), some (.int (nI m)), o] [] I1 J (qI P) := by
    refine up_loop ?_ ?_
    · intro v o hv
      refine vc_X11_isSeen_6 ⟨fun _ => ?_, fun hh => ?_⟩
      · rcases hv with ⟨rfl, w⟩ | ⟨rfl, w⟩
        · exact ⟨Or.inr rfl, h1 I1 f1 k1 w⟩
        · exact ⟨Or.inl rfl, h0 I1 f1 w⟩
      · rw [e27] at hh; exact absurd (Int32.le_refl _) hh
    · intro m hm ih v o hv
      obtain ⟨⟨hh, hh1, hh2⟩, ⟨kk, kk1, kk2⟩⟩ := hq.1.2 m hm
      obtain ⟨r0, r1, r2⟩ := hq.2.2 m hm
      refine vc_X11_isSeen_6 ⟨fun hh => ?_, fun _ => ?_⟩
      · rw [e27, le_nI (by omega) (by omega)] at hh; omega
      rw [nI_mul3, nI_1, nI_2, tn_nI (k := 3 * m) (by omega), tn_nI (k := 3 * m + 1) (by omega), tn_nI (k := 3 * m + 2) (by omega), f1 167 (by omega), r1, nI_1]
      refine ⟨ix_nI (by omega) (by omega), fun y hy => ?_⟩
      rw [kk2] at hy
      subst hy
      have no : ¬ cm1 n nb nf g q m → Er X (d + 5) M_X11_isSeen 6 [some (.ref 145), some (.int 0), some (.int (nI (m + 1))), some (.int (nI kk))] [] I1 J (qI P) := fun z => ih 0 _ (Or.inr ⟨rfl, fun w => z (w m hm)⟩)
      have t0 : tn (q 0 m) = hh := by rw [hh2]; exact tn_nI (by omega)
      have t1 : tn (q 1 m) = kk := by rw [kk2]; exact tn_nI (by omega)
      refine ⟨fun z => ?_, fun z => ?_⟩
      · refine ih 0 _ (Or.inr ⟨rfl, ?_⟩)
        rcases hv with ⟨rfl, w⟩ | ⟨-, w⟩
        · exact absurd z (by decide)
        · exact w
      · have w : ∀ i, i < m → cm1 n nb nf g q i := by
          rcases hv with ⟨-, w⟩ | ⟨rfl, w⟩
          · exact w
          · exact absurd rfl z
        refine sp_misSlice (hg.fl f1).1 (fun j hj e => ⟨fun z => absurd z (by decide), fun _ => ?_⟩) (fun hno => ⟨fun _ => no (fun z => ?_), fun z => absurd rfl z⟩)
        · have ej : kk = j := (nI_eq (by omega) (by omega)).mp e
          subst ej
          rw [f1 167 (by omega), r0, r2, hh2, show (8 : Int32) * nI hh = nI (8 * hh) from pk_mul 8 hh, show nI (8 * hh) + nI kk = nI (8 * hh + kk) from nI_add _ _, tn_nI (k := 8 * hh + kk) (by omega), (k1 hh kk hh1 hj).2]
          refine ⟨ix_nI (by omega) (by omega), ix_nI (by omega) (by omega), ix_nI (by omega) (by omega), fun u => no (fun z => u ?_), fun u => ih 1 _ (Or.inl ⟨rfl, fun i hi => ?_⟩)⟩
          · have := z.2
            rw [t0, t1] at this; exact this
          · by_cases e : i = m
            · subst e
              refine ⟨by rw [t1]; exact hj, ?_⟩
              rw [t0, t1]; exact Decidable.not_not.mp u
            · exact w i (by omega)
        · have := z.1
          rw [t1] at this
          exact hno kk this rfl
  exact key 0 (Nat.zero_le _) 1 none (Or.inl ⟨rfl, fun i hi => absurd hi (Nat.not_lt_zero _)⟩)
theorem sp_lastHour {P : Int32 → tI → tJ → Prop} (hq : Sq I q nq) (hP : ∀ l, l ≤ 30 → (∀ i, i < nq → tn (q 0 i) < l) → P (nI l + (-1)) I J) : EI X d n_X7_lastHour [.ref 32] I J P := by
  have hq8 := hq.1.1
  refine vc_X7_lastHour ?_
  have key : ∀ m, m ≤ nq → ∀ l, l ≤ 30 → (∀ i, i < m → tn (q 0 i) < l) → Er X d M_X7_lastHour 4 [some (.ref 32), some (.int (nI l + (-1))), some (.int (nI m))] [] I J (qI P) := by
    refine up_loop ?_ ?_
    · intro l hl w
      refine vc_X7_lastHour_4 ⟨fun _ => hP l hl w, fun hh => ?_⟩
      rw [hq.2.1] at hh; exact absurd (Int32.le_refl _) hh
    · intro m hm ih l hl w
      obtain ⟨⟨hh, hh1, hh2⟩, -⟩ := hq.1.2 m hm
      refine vc_X7_lastHour_4 ⟨fun hh => ?_, fun _ => ⟨ix_nI (by omega) (by omega), fun y hy => ?_⟩⟩
      · rw [hq.2.1, le_nI (by omega) (by omega)] at hh; omega
      rw [tn_nI (k := m) (by omega), (hq.2.2 m hm).1, hh2] at hy
      rw [nI_1]
      have t0 : tn (q 0 m) = hh := by rw [hh2]; exact tn_nI (by omega)
      have lt : (nI l + (-1) < nI hh) ↔ l ≤ hh := by
        cases l with
        | zero => exact ⟨fun _ => by omega, fun _ => Int32.lt_of_lt_of_le (show (nI 0 + (-1) : Int32) < 0 by decide) (nI_pos' (by omega))⟩
        | succ l => rw [nI_m1, lt_nI (by omega) (by omega)]; omega
      by_cases c : l ≤ hh
      · rw [if_pos (lt.mpr c)] at hy
        have hy : y = nI (hh + 1) + (-1) := by rw [nI_m1]; exact hy
        rw [hy]
        refine ih (hh + 1) (by omega) (fun i hi => ?_)
        by_cases e : i = m
        · subst e; omega
        · have := w i (by omega); omega
      · rw [if_neg (fun z => c (lt.mp z))] at hy
        rw [hy]
        refine ih l hl (fun i hi => ?_)
        by_cases e : i = m
        · subst e; omega
        · exact w i (by omega)
  exact key 0 (Nat.zero_le _) 0 (by omega) (fun i hi => absurd hi (Nat.not_lt_zero _))
theorem sp_agreeWith {P : Int32 → tI → tJ → Prop} {m : Nat} (hm : m < 30) (hs : Sg I g n ns nb nf) (hq : Sq I q nq) (hcs : Cs 23 n I (zN g n nb nf (fun _ => 0) (m + 1))) (h1 : (∀ i, i < nq → tn (q 0 i) = m → cm1 n nb nf g q i) → P 1 I J) (h0 : ¬ cmA n nb nf g q nq → P 0 I J) : EI X d n_X7_agreeWith [.ref 32, .ref 23, .int (nI m)] I J P := by
  have hq8 := hq.1.1
  have hn8 := hs.2.1.1.2
  refine vc_X7_agreeWith ?_
  have key : ∀ j, j ≤ nq → (∀ i, i < j → tn (q 0 i) = m → cm1 n nb nf g q i) → Er X d M_X7_agreeWith 2 [some (.ref 32), some (.ref 23), some (.int (nI m)), some (.int (nI j))] [] I J (qI P) := by
    refine up_loop ?_ ?_
    · intro w
      refine vc_X7_agreeWith_2 ⟨fun _ => h1 w, fun hh => ?_⟩
      rw [hq.2.1] at hh; exact absurd (Int32.le_refl _) hh
    · intro j hj ih w
      obtain ⟨⟨hh, hh1, hh2⟩, ⟨kk, kk1, kk2⟩⟩ := hq.1.2 j hj
      obtain ⟨r0, r1, r2⟩ := hq.2.2 j hj
      have t0 : tn (q 0 j) = hh := by rw [hh2]; exact tn_nI (by omega)
      have t1 : tn (q 1 j) = kk := by rw [kk2]; exact tn_nI (by omega)
      have hx := ix_nI (k := j) (n := 8) (by omega) (by omega)
      refine vc_X7_agreeWith_2 ⟨fun hh => ?_, fun _ => ⟨hx, ?_⟩⟩
      · rw [hq.2.1, le_nI (by omega) (by omega)] at hh; omega
      rw [tn_nI (k := j) (by omega), r0, r1, r2, hh2, kk2, hs.2.1.1.1, nI_1, tn_nI (k := kk) (by omega), le_nI (by omega) (by omega)]
      have more : (hh = m → cm1 n nb nf g q j) → Er X d M_X7_agreeWith 2 [some (.ref 32), some (.ref 23), some (.int (nI m)), some (.int (nI (j + 1)))] [] I J (qI P) := fun z => ih (fun i hi e => by
        by_cases ei : i = j
        · subst ei; exact z (by rw [← t0]; exact e)
        · exact w i (by omega) e)
      refine ⟨fun z => more (fun e => absurd (by rw [e]) z), fun z => ?_⟩
      have em : hh = m := (nI_eq (by omega) (by omega)).mp (Decidable.not_not.mp z)
      subst em
      refine ⟨hx, fun u => h0 (fun c => ?_), fun u => ⟨hx, ix_nI (by omega) (by omega), hx, fun c => more (fun _ => ?_), fun c => h0 (fun c2 => c ?_)⟩⟩
      · have := (c j hj).1
        rw [t1] at this; omega
      · refine ⟨by rw [t1]; omega, ?_⟩
        rw [t0, t1, ← c]
        exact ((hcs.2.1 kk (by omega)).2.1).symm
      · have := (c2 j hj).2
        rw [t0, t1] at this
        rw [← this]; exact (hcs.2.1 kk (by omega)).2.1
  exact key 0 (Nat.zero_le _) (fun i hi => absurd hi (Nat.not_lt_zero _))
theorem FG.sg (hf : FG I I') (hs : Sg I g n ns nb nf) : Sg I' g n ns nb nf := hs.eq (fun x h1 h2 => hf x (by omega) (by omega))
theorem FG.sq (hf : FG I I') (hq : Sq I q nq) : Sq I' q nq := by
  unfold Sq
  rw [hf 32 (by omega) (by omega), hf 33 (by omega) (by omega), hf 34 (by omega) (by omega), hf 35 (by omega) (by omega)]
  exact hq
theorem FG.c {I'' : tI} (hf : FG I I') (h : FC 23 I' I'') : FG I I'' := fun x hx e => (h x (by omega)).trans (hf x hx e)
/-- note: the hour to note, with one added -/
theorem sp_allComesOut {P : Int32 → tI → tJ → Prop} {note : Nat} (hn : note ≤ 30) (hs : Sg I g n ns nb nf) (hq : Sq I q nq) (h1 : ∀ I', FG I I' → cmA n nb nf g q nq → (note ≠ 0 → ∀ k, k < n → I' 38 k = zN g n nb nf (fun _ => 0) note 2 k) → P 1 I' J) (h0 : ∀ I', FG I I' → ¬ cmA n nb nf g q nq → P 0 I' J) : EI X (d + 3) n_X1_allComesOut [.ref 36, .int (nI note + (-1))] I J P := by
  have hn8 := hs.2.1.1.2
  refine vc_X1_allComesOut (sp_lastHour hq (fun l0 hl0 w0 => ?_))
  intro y hy
  have lt : ∀ a b, a ≤ 30 → b ≤ 31 → ((nI a + (-1) < nI b + (-1)) ↔ a < b) := fun a b ha hb => (by decide +kernel : ∀ a, a < 31 → ∀ b, b < 32 → ((nI a + (-1) < nI b + (-1)) ↔ a < b)) a (by omega) b (by omega)
  obtain ⟨l, hl, hy, hln, w⟩ : ∃ l, l ≤ 30 ∧ y = nI l + (-1) ∧ note ≤ l ∧ ∀ i, i < nq → tn (q 0 i) < l := by
    by_cases c : l0 < note
    · rw [if_pos ((lt l0 note hl0 (by omega)).mpr c)] at hy
      exact ⟨note, hn, hy, Nat.le_refl _, fun i hi => Nat.lt_trans (w0 i hi) c⟩
    · rw [if_neg (fun z => c ((lt l0 note hl0 (by omega)).mp z))] at hy
      exact ⟨l0, hl0, hy, by omega, w0⟩
  subst hy
  refine sp_beginZ c23 hs (fun I1 f1 c1 => ?_)
  have key : ∀ m, m ≤ l → ∀ I2 : tI, FG I I2 → Cs 23 n I2 (zN g n nb nf (fun _ => 0) m) → (∀ i, i < nq → tn (q 0 i) < m → cm1 n nb nf g q i) → (note ≠ 0 → note ≤ m → ∀ k, k < n → I2 38 k = zN g n nb nf (fun _ => 0) note 2 k) → Er X (d + 3) M_X1_allComesOut 11 [some (.ref 36), some (.int (nI note + (-1))), some (.int (nI l + (-1))), some (.int (nI m))] [] I2 J (qI P) := by
    have ltl : ∀ m, m ≤ 30 → ((nI l + (-1) < nI m) ↔ l < m + 1) := fun m hm => by
      have := lt l (m + 1) hl (by omega)
      rw [nI_m1] at this; exact this
    refine up_loop ?_ ?_
    · intro I2 f2 c2 a2 n2
      refine vc_X1_allComesOut_11 ⟨fun _ => h1 I2 f2 (fun i hi => a2 i hi (w i hi)) (fun z => n2 z hln), fun hh => absurd ((ltl l hl).mpr (by omega)) hh⟩
    · intro m hm ih I2 f2 c2 a2 n2
      have s2 := f2.sg hs
      refine vc_X1_allComesOut_11 ⟨fun hh => ?_, fun _ => ?_⟩
      · have := (ltl m (by omega)).mp hh; omega
      refine sp_untilZ c23 s2 c2 (fun I3 f3 c3 => ?_)
      have s3 := s2.fc (by omega) f3
      refine sp_fromZ (m := 0) c23 s3 c3 (by omega) (fun I4 f4 c4 => ?_)
      have c4 : Cs 23 n I4 (zN g n nb nf (fun _ => 0) (m + 1)) := c4
      have s4 := s3.fc (by omega) f4
      have g4 := (f2.c f3).c f4
      have n4 : I4 38 = I2 38 := by rw [f4 38 (by omega), f3 38 (by omega)]
      refine sp_agreeWith (by omega) s4 (g4.sq hq) c4 (fun a => ⟨fun _ => ⟨fun z => ?_, fun z => ?_⟩, fun z => absurd (by decide) z⟩) (fun a => ⟨fun z => absurd rfl z, fun _ => h0 I4 g4 a⟩)
      · rw [nI_1]
        have hne : note ≠ m + 1 := fun e => z (by rw [e, nI_m1])
        refine ih I4 g4 c4 (fun i hi hlt => ?_) (fun z1 z2 => ?_)
        · by_cases e : tn (q 0 i) = m
          · exact a i hi e
          · exact a2 i hi (by omega)
        · rw [n4]; exact n2 z1 (by omega)
      · have z := Decidable.not_not.mp z
        have hno : note = m + 1 := by
          cases note with
          | zero => exact absurd z (nI_ne (j := m) (by omega))
          | succ k => rw [nI_m1] at z; rw [(nI_eq (by omega) (by omega)).mp z]
        refine ⟨by decide, fun I5 h5 => ?_⟩
        rw [cpy8] at h5
        rw [nI_1]
        have e5 : ∀ x, x ≠ 38 → I5 x = I4 x := fun x hx => by rw [h5, mm_z_k hx]
        refine ih I5 (fun x hx e => by rw [e5 x e]; exact g4 x hx e) ⟨c4.1.eq ?_ ?_ ?_ ?_, ?_, c4.2.2⟩ (fun i hi hlt => ?_) (fun _ _ k hk => ?_)
        · rw [e5 23 (by omega)]
        · exact e5 _ (by omega)
        · exact e5 _ (by omega)
        · exact e5 _ (by omega)
        · have rc := c4.2.1
          unfold Rc at rc ⊢
          rw [e5 (23 + 1) (by omega), e5 (23 + 2) (by omega), e5 (23 + 3) (by omega), e5 (23 + 4) (by omega), e5 (23 + 5) (by omega), e5 (23 + 6) (by omega)]
          exact rc
        · by_cases e : tn (q 0 i) = m
          · exact a i hi e
          · exact a2 i hi (by omega)
        · rw [h5, mm_z_s]
          show (if k < 8 then I4 25 k else I4 38 k) = _
          rw [if_pos (by omega), hno]
          exact (c4.2.1 k hk).2.1
  exact key 0 (Nat.zero_le _) I1 (fun x hx e => f1 x (by omega)) c1 (fun i hi hlt => absurd hlt (Nat.not_lt_zero _)) (fun z1 z2 => absurd (by omega) z1)
end SEEN
