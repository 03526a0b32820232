section COURSE2
variable {X : mm_X} {d : Nat} {I : tI} {J : tJ} {c n ns nb nf : Nat}
theorem nI_2 (a : Nat) : nI a + 2 = nI (a + 2) := by rw [← nI_add]; rfl
theorem sp_feelWarmth {P : tI → tJ → Prop} (hc : c ∈ mm_crs) (hg : Gd I n ns nb nf) (hP : P (fFeel c n ns I) J) : EV X d n_X0_feelWarmth [.ref c] I J P := by
  have hc15 := crs_ge hc
  have hn8 := hg.1.2
  have hs10 := hg.2.1.2
  refine vc_X0_feelWarmth hc (fun y hy => ?_)
  have hy2 : y = nI (ns + 2) := by
    rw [hy, hg.2.1.1, nI_2, if_neg (by rw [show (12 : Int32) = nI 12 from rfl, lt_nI (by omega) (by omega)]; omega)]
  rw [hy2]
  refine it_loop (A := fun k I => Er X d M_X0_feelWarmth 10 [some (.ref c), some (.int (nI (ns + 2))), some (.int (nI k))] [] I J (qV P)) (B := bZero c) (n := ns + 2) ?_ ?_
  · refine vc_X0_feelWarmth_10 hc ⟨fun _ => ?_, fun hh => absurd (Int32.le_refl _) hh⟩
    have hF0 : FC c I (it (bZero c) I (ns + 2)) := FC.rf.it (fc_zero c) _
    have g0 := hg.fc hc15.1 hF0
    unfold fFeel at hP
    generalize it (bZero c) I (ns + 2) = I0 at hP hF0 g0 ⊢
    refine it_loop (A := fun k I => Er X d M_X0_feelWarmth 22 [some (.ref c), some (.int (nI (ns + 2))), some (.int (nI k))] [] I J (qV P)) (B := bFeel c) (n := n) ?_ ?_
    · refine vc_X0_feelWarmth_22 hc ⟨fun _ => hP, fun hh => ?_⟩
      rw [FC.rf.it (fc_feel1 c) n 2 (by omega), g0.1.1] at hh
      exact absurd (Int32.le_refl _) hh
    · intro k hk ih
      generalize hK : it (bFeel c) I0 k = K at ih ⊢
      have hF : FC c I0 K := by rw [← hK]; exact FC.rf.it (fc_feel1 c) k
      have g1 := g0.fc hc15.1 hF
      have hx := ix_nI (k := k) (n := 8) (by omega) (by omega)
      have ht := tn_nI (k := k) (by omega)
      obtain ⟨q, hq, eq⟩ := g1.2.2.2.2.1 k hk
      refine vc_X0_feelWarmth_22 hc ⟨fun hh => ?_, fun _ => ?_⟩
      · rw [g1.1.1, le_nI (by omega) (by omega)] at hh; omega
      rw [ht, nI_1]
      unfold bFeel at ih
      refine ⟨hx, fun a1 => ?_, fun a1 => ⟨hx, hx, ?_, ?_⟩⟩
      · rw [if_neg a1] at ih; exact ih
      · rw [eq, nI_1]; exact ix_nI (by omega) (by omega)
      · rw [if_pos (Decidable.not_not.mp a1)] at ih; exact ih
  · intro k hk ih
    have hx := ix_nI (k := k) (n := 12) (by omega) (by omega)
    have ht := tn_nI (k := k) (by omega)
    refine vc_X0_feelWarmth_10 hc ⟨fun hh => ?_, fun _ => ?_⟩
    · rw [le_nI (by omega) (by omega)] at hh; omega
    rw [ht, nI_1]
    exact ⟨hx, ih⟩
theorem sp_cooling {P : Int32 → tI → tJ → Prop} {i : Nat} {more : Int32} (hc : c ∈ mm_crs) (hg : Gd I n ns nb nf) (hi : i < n) (hP : P (vCool c i more I) I J) : EI X d n_X0_cooling [.ref c, .int (nI i), .int more] I J P := by
  have hn8 := hg.1.2
  have hx := ix_nI (k := i) (n := 8) (by omega) (by omega)
  have ht := tn_nI (k := i) (by omega)
  obtain ⟨q, hq, eq⟩ := hg.2.2.2.2.1 i hi
  have h10 := ix_nI (k := q) (n := 10) hq (by omega)
  have h12 := ix_nI (k := q) (n := 12) (by omega) (by omega)
  have h12' := ix_nI (k := q + 2) (n := 12) (by omega) (by omega)
  -- the end
  have e63 : ∀ v : Int32, P (vC3 (I 4 i) v) I J → Er X d M_X0_cooling 63 [some (.ref c), some (.int (nI i)), some (.int more), some (.int (I 6 i)), some (.int (I 4 i)), some (.int v)] [] I J (qI P) := by
    intro v hv
    refine vc_X0_cooling_63 hc (fun y hy => ?_)
    unfold vC3 at hv
    rw [← hy] at hv
    refine ⟨fun a1 => ⟨fun a2 => ?_, fun a2 => ?_⟩, fun a1 => ?_⟩
    · rw [if_neg a1, if_neg a2] at hv; exact hv
    · rw [if_neg a1, if_pos (Decidable.not_not.mp a2)] at hv; exact hv
    · rw [if_pos (Decidable.not_not.mp a1)] at hv; exact hv
  have e48 : ∀ v : Int32, P (vC3 (I 4 i) (vC1 c i (I 6 i + 2) I v)) I J → Er X d M_X0_cooling 48 [some (.ref c), some (.int (nI i)), some (.int more), some (.int (I 6 i)), some (.int (I 4 i)), some (.int v)] [] I J (qI P) := by
    intro v hv
    refine vc_X0_cooling_48 hc ?_
    rw [ht]
    unfold vC1 at hv
    refine ⟨fun a1 => ?_, fun a1 => ⟨by rw [eq, nI_2]; exact h12', hx, fun a2 => ?_, fun a2 => ?_⟩⟩
    · rw [if_neg (fun z => z.1 a1)] at hv; exact e63 _ hv
    · rw [if_neg (fun z => Int32.not_le.mpr z.2 a2)] at hv; exact e63 _ hv
    · rw [if_pos ⟨a1, Int32.not_le.mp a2⟩] at hv; exact e63 _ hv
  refine vc_X0_cooling hc ?_
  rw [ht]
  unfold vCool at hP
  refine ⟨hx, fun a1 => ⟨hx, fun y3 h3 => ⟨hx, fun y4 h4 => ⟨by rw [h3, eq]; exact h10, fun y5 h5 => ?_⟩⟩⟩, fun a1 => ?_⟩
  · rw [if_neg a1] at hP
    subst h3 h4
    rw [show I 7 (tn 1) = I 7 1 from rfl] at h5
    rw [← h5] at hP
    generalize hw : vC1 c i (I 6 i) I y5 = w at hP
    unfold vC1 at hw
    refine ⟨fun a2 => ?_, fun a2 => ⟨by rw [eq]; exact h12, hx, fun a3 => ?_, fun a3 => ?_⟩⟩
    · rw [if_neg (fun z => z.1 a2)] at hw; rw [hw]; exact e48 _ hP
    · rw [if_neg (fun z => Int32.not_le.mpr z.2 a3)] at hw; rw [hw]; exact e48 _ hP
    · rw [if_pos ⟨a2, Int32.not_le.mp a3⟩] at hw; rw [hw]; exact e48 _ hP
  · rw [if_pos (Decidable.not_not.mp a1)] at hP; exact hP
theorem sp_from {P : tI → tJ → Prop} {h more : Int32} (hc : c ∈ mm_crs) (hg : Gd I n ns nb nf) (hP : P (fFrom c n ns nb h more I) J) : EV X (d + 2) n_X0_fromButters [.ref c, .int h, .int more] I J P := by
  have hc15 := crs_ge hc
  have hn8 := hg.1.2
  refine vc_X0_fromButters hc ?_
  refine sp_spread hc hg ?_
  have hF1 : FC c I (it (bSpread c h) I nb) := FC.rf.it (fc_spread c h) nb
  refine sp_feelWarmth hc (hg.fc hc15.1 hF1) ?_
  have hF0 : FC c I (fFeel c n ns (it (bSpread c h) I nb)) := hF1.tr (fc_feel c n ns _)
  unfold fFrom at hP
  generalize fFeel c n ns (it (bSpread c h) I nb) = I0 at hP hF0 ⊢
  have g0 := hg.fc hc15.1 hF0
  refine it_loop (A := fun k I => Er X (d + 2) M_X0_fromButters 7 [some (.ref c), some (.int h), some (.int more), some (.int (nI k))] [] I J (qV P)) (B := bCool c h more) (n := n) ?_ ?_
  · refine vc_X0_fromButters_7 hc ⟨fun _ => hP, fun hh => ?_⟩
    rw [FC.rf.it (fc_cool c h more) n 2 (by omega), g0.1.1] at hh
    exact absurd (Int32.le_refl _) hh
  · intro k hk ih
    generalize hK : it (bCool c h more) I0 k = K at ih ⊢
    have hF : FC c I0 K := by rw [← hK]; exact FC.rf.it (fc_cool c h more) k
    have g1 := g0.fc hc15.1 hF
    have hx := ix_nI (k := k) (n := 8) (by omega) (by omega)
    have ht := tn_nI (k := k) (by omega)
    refine vc_X0_fromButters_7 hc ⟨fun hh => ?_, fun _ => ?_⟩
    · rw [g1.1.1, le_nI (by omega) (by omega)] at hh; omega
    rw [ht, nI_1]
    unfold bCool at ih
    refine sp_isIn hc (by omega) (fun a1 => ⟨fun z => absurd z (by decide), fun _ => ⟨hx, ?_⟩⟩) (fun a1 => ⟨fun _ => ?_, fun z => absurd rfl z⟩)
    · refine sp_cooling hc g1 hk ?_
      rw [if_pos a1] at ih
      rw [mm_u_s, mm_u_k (f := K) (x := 7) (by omega)]
      change _ ∧ _ ∧ ((K 7 0 < max0 (K (c + 1) k - vCool c k more K) → Er X (d + 2) M_X0_fromButters 7 _ [] (mm_u K (c + 1) k (max0 (K (c + 1) k - vCool c k more K))) J (qV P)) ∧ (¬ K 7 0 < max0 (K (c + 1) k - vCool c k more K) → EV X (d + 1) n_X0_letGo _ (mm_u K (c + 1) k (max0 (K (c + 1) k - vCool c k more K))) J _))
      refine ⟨hx, hx, fun a2 => ?_, fun a2 => ?_⟩
      · rw [if_neg (Int32.not_le.mpr a2)] at ih; exact ih
      · rw [if_pos (Int32.not_lt.mp a2)] at ih
        exact sp_letGo hc (by omega) ih
    · rw [if_neg a1] at ih; exact ih
theorem sp_howMany {P : Int32 → tI → tJ → Prop} (hc : c ∈ mm_crs) (hn : I 2 2 = nI n ∧ n ≤ 8) (hP : P (vMany c I n) I J) : EI X (d + 1) n_X0_howManyIn [.ref c] I J P := by
  refine vc_X0_howManyIn hc ?_
  refine up_loop (A := fun k => Er X (d + 1) M_X0_howManyIn 4 [some (.ref c), some (.int (vMany c I k)), some (.int (nI k))] [] I J (qI P)) (n := n) ?_ ?_ 0 (Nat.zero_le _)
  · refine vc_X0_howManyIn_4 hc ⟨fun _ => hP, fun hh => ?_⟩
    rw [hn.1] at hh
    exact absurd (Int32.le_refl _) hh
  · intro k hk ih
    refine vc_X0_howManyIn_4 hc ⟨fun hh => ?_, fun _ => ?_⟩
    · rw [hn.1, le_nI (by omega) (by omega)] at hh; omega
    rw [nI_1]
    rw [vMany] at ih
    refine sp_isIn hc (by omega) (fun a1 => ⟨fun z => absurd z (by decide), fun _ => ?_⟩) (fun a1 => ⟨fun _ => ?_, fun z => absurd rfl z⟩)
    · rw [if_pos a1] at ih; exact ih
    · rw [if_neg a1] at ih; exact ih
/-- an hour -/
def fHour (c n ns nb nf : Nat) (h more : Int32) (I : tI) : tI := fFrom c n ns nb h more (fUntil c n nf h I)
theorem fc_hour (c n ns nb nf : Nat) (h more : Int32) (I : tI) : FC c I (fHour c n ns nb nf h more I) := (fc_until c n nf h I).tr (fc_from c n ns nb h more _)
/-- the first k hours, with the window shut -/
def fHours (c n ns nb nf : Nat) (I : tI) (k : Nat) : tI := it (fun h => fHour c n ns nb nf (nI h) 0) (fBegin c n I) k
theorem fc_hours (c n ns nb nf : Nat) (I : tI) (k : Nat) : FC c I (fHours c n ns nb nf I k) := (fc_beginAll c n I).it (fun h J => fc_hour c n ns nb nf (nI h) 0 J) k
theorem sp_goThrough {P : tI → tJ → Prop} (hc : c ∈ mm_crs) (hg : Gd I n ns nb nf) (hP : P (fHours c n ns nb nf I 30) J) : EV X (d + 3) n_X0_goThrough [.ref c] I J P := by
  have hc15 := crs_ge hc
  refine vc_X0_goThrough hc ?_
  refine sp_begin hc hg.1 ?_
  refine it_loop (A := fun k I => Er X (d + 3) M_X0_goThrough 4 [some (.ref c), some (.int (nI k))] [] I J (qV P)) (B := fun h => fHour c n ns nb nf (nI h) 0) (n := 30) ?_ ?_
  · exact vc_X0_goThrough_4 hc ⟨fun _ => hP, fun hh => absurd (by decide) hh⟩
  · intro k hk ih
    have hF : FC c I (it (fun h => fHour c n ns nb nf (nI h) 0) (fBegin c n I) k) := fc_hours c n ns nb nf I k
    generalize it (fun h => fHour c n ns nb nf (nI h) 0) (fBegin c n I) k = K at ih hF ⊢
    have g1 := hg.fc hc15.1 hF
    refine vc_X0_goThrough_4 hc ⟨fun hh => ?_, fun _ => ?_⟩
    · rw [show (30 : Int32) = nI 30 from rfl, le_nI (by omega) (by omega)] at hh; omega
    rw [nI_1]
    refine sp_until hc g1 ?_
    exact sp_from hc (g1.fc hc15.1 (fc_until c n nf (nI k) K)) ih
/-- a course's state, taken over into another -/
def fCopy (c c2 : Nat) (I : tI) : tI := fun x y => if c + 1 ≤ x ∧ x ≤ c + 6 then (if y < 8 then I (c2 + (x - c)) y else I x y) else if x = c ∧ y = 8 then I c2 8 else I x y
theorem fc_copy (c c2 : Nat) (I : tI) : FC c I (fCopy c c2 I) := fun x hx => by
  funext y
  simp only [fCopy]
  rw [if_neg (by omega), if_neg (by omega)]
theorem cpy8 (f g : Nat → Int32) : va_cpy f g (tn 0) (tn 0) (tn 8) = fun k => if k < 8 then f k else g k := by
  funext k
  show (if 0 ≤ k ∧ k < 0 + 8 then f (0 + (k - 0)) else g k) = _
  simp
theorem sp_follow {P : tI → tJ → Prop} {c2 : Nat} {h more : Int32} (hc : c ∈ mm_crs) (hc2 : c2 ∈ mm_crs) (hdis : c2 + 7 < c ∨ c + 7 < c2) (hg : Gd I n ns nb nf) (hP : P (fHour c n ns nb nf h more (fCopy c c2 I)) J) : EV X (d + 3) n_X0_follow [.ref c, .ref c2, .int h, .int more] I J P := by
  have hc15 := crs_ge hc
  have ok : ¬ (0 : Int32) < 0 ∧ ¬ (0 : Int32) < 0 ∧ ¬ (8 : Int32) < 0 ∧ tn 0 + tn 8 ≤ 8 ∧ tn 0 + tn 8 ≤ 8 := by decide
  refine vc_X0_follow hc hc2 ⟨ok, fun I1 h1 => ⟨ok, fun I2 h2 => ⟨ok, fun I3 h3 => ⟨ok, fun I4 h4 => ⟨ok, fun I5 h5 => ⟨ok, fun I6 h6 => ?_⟩⟩⟩⟩⟩⟩
  rw [cpy8] at h1 h2 h3 h4 h5 h6
  have e : mm_u I6 c 8 (I6 c2 8) = fCopy c c2 I := by
    funext x y
    subst h1 h2 h3 h4 h5 h6
    simp only [mm_u, mm_z, fCopy]
    by_cases q1 : x = c + 1
    · subst q1; simp
    by_cases q2 : x = c + 2
    · subst q2; simp; grind
    by_cases q3 : x = c + 3
    · subst q3; simp; grind
    by_cases q4 : x = c + 4
    · subst q4; simp; grind
    by_cases q5 : x = c + 5
    · subst q5; simp; grind
    by_cases q6 : x = c + 6
    · subst q6; simp; grind
    grind
  rw [e]
  have g1 := hg.fc hc15.1 (fc_copy c c2 I)
  refine sp_until hc g1 ?_
  exact sp_from hc (g1.fc hc15.1 (fc_until c n nf h _)) hP
end COURSE2
