/-! the course's methods do what their functions say -/
section COURSE
variable {X : mm_X} {d : Nat} {I : tI} {J : tJ} {c n ns nb nf : Nat}
theorem sp_isIn {P : Int32 → tI → tJ → Prop} {i : Nat} (hc : c ∈ mm_crs) (hi : i < 8) (h1 : inn c i I → P 1 I J) (h0 : ¬ inn c i I → P 0 I J) : EI X d n_X0_isIn [.ref c, .int (nI i)] I J P := by
  have hx := ix_nI (k := i) (n := 8) hi (by omega)
  have ht := tn_nI (k := i) (by omega)
  refine vc_X0_isIn hc ?_
  rw [ht]
  exact ⟨hx, fun a => h1 (Or.inl a), fun a => ⟨hx, fun b => h0 (fun e => e.elim a b), fun b => h1 (Or.inr (Decidable.not_not.mp b))⟩⟩
theorem sp_begin {P : tI → tJ → Prop} (hc : c ∈ mm_crs) (hn : I 2 2 = nI n ∧ n ≤ 8) (hP : P (fBegin c n I) J) : EV X d n_X0_begin [.ref c] I J P := by
  have hc15 := crs_ge hc
  refine vc_X0_begin hc ?_
  refine it_loop (A := fun k I => Er X d M_X0_begin 5 [some (.ref c), some (.int (nI k))] [] I J (qV P)) (B := bBegin c) (n := n) ?_ ?_
  · refine vc_X0_begin_5 hc ⟨fun _ => hP, fun hh => ?_⟩
    have hS : (it (bBegin c) (mm_u I c 8 0) n) 2 2 = nI n := by rw [((FC.rf (c := c)).u (I' := I) (k := c) (j := 8) (v := 0) (by omega) (by omega)).it (fc_begin c) n 2 (by omega)]; exact hn.1
    rw [hS] at hh
    exact absurd (Int32.le_refl _) hh
  · intro k hk ih
    generalize hK : it (bBegin c) (mm_u I c 8 0) k = K at ih ⊢
    have hF : FC c I K := by rw [← hK]; exact (FC.rf.u (by omega) (by omega)).it (fc_begin c) k
    have hx := ix_nI (k := k) (n := 8) (by omega) (by omega)
    have ht := tn_nI (k := k) (by omega)
    refine vc_X0_begin_5 hc ⟨fun hh => ?_, fun _ => ?_⟩
    · rw [hF 2 (by omega), hn.1, le_nI (by omega) (by omega)] at hh; omega
    rw [ht, nI_1]
    refine ⟨hx, hx, hx, hx, hx, hx, hx, ?_⟩
    rw [mm_u_k (f := K) (x := 5) (by omega)]
    exact ih
theorem sp_comeAgain {P : tI → tJ → Prop} {h : Int32} (hc : c ∈ mm_crs) (hn : I 2 2 = nI n ∧ n ≤ 8) (hP : P (it (bCome c h) I n) J) : EV X d n_X0_comeAgain [.ref c, .int h] I J P := by
  have hc15 := crs_ge hc
  refine vc_X0_comeAgain hc ?_
  refine it_loop (A := fun k I => Er X d M_X0_comeAgain 2 [some (.ref c), some (.int h), some (.int (nI k))] [] I J (qV P)) (B := bCome c h) (n := n) ?_ ?_
  · refine vc_X0_comeAgain_2 hc ⟨fun _ => hP, fun hh => ?_⟩
    rw [FC.rf.it (fc_come c h) n 2 (by omega), hn.1] at hh
    exact absurd (Int32.le_refl _) hh
  · intro k hk ih
    generalize hK : it (bCome c h) I k = K at ih ⊢
    have hF : FC c I K := by rw [← hK]; exact FC.rf.it (fc_come c h) k
    have hx := ix_nI (k := k) (n := 8) (by omega) (by omega)
    have ht := tn_nI (k := k) (by omega)
    refine vc_X0_comeAgain_2 hc ⟨fun hh => ?_, fun _ => ?_⟩
    · rw [hF 2 (by omega), hn.1, le_nI (by omega) (by omega)] at hh; omega
    rw [ht, nI_1]
    unfold bCome at ih
    refine ⟨hx, fun a1 => ?_, fun a1 => ⟨hx, fun a2 => ?_, fun a2 => ⟨hx, fun a3 => ?_, fun a3 => ⟨hx, fun a4 => ?_, fun a4 => ⟨hx, hx, hx, hx, hx, ?_⟩⟩⟩⟩⟩
    · rw [if_neg (fun q => a1 q.1)] at ih; exact ih
    · rw [if_neg (fun q => a2 q.2.1)] at ih; exact ih
    · rw [if_neg (fun q => a3 q.2.2.1)] at ih; exact ih
    · rw [if_neg (fun q => Int32.not_le.mpr q.2.2.2 a4)] at ih; exact ih
    · rw [if_pos ⟨Decidable.not_not.mp a1, Decidable.not_not.mp a2, Decidable.not_not.mp a3, Int32.not_le.mp a4⟩] at ih
      rw [mm_u_s (f := K)]
      exact ih
theorem sp_takePlaces {P : tI → tJ → Prop} (hc : c ∈ mm_crs) (hn : I 2 2 = nI n ∧ n ≤ 8) (hP : P (it (bPlace c) I n) J) : EV X d n_X0_takePlaces [.ref c] I J P := by
  have hc15 := crs_ge hc
  refine vc_X0_takePlaces hc ?_
  have key : ∀ k, k ≤ n → ∀ o : Option Value, Er X d M_X0_takePlaces 2 [some (.ref c), some (.int (nI k)), o] [] (it (bPlace c) I k) J (qV P) := by
    refine up_loop ?_ ?_
    · intro o
      refine vc_X0_takePlaces_2 hc ⟨fun _ => hP, fun hh => ?_⟩
      rw [FC.rf.it (fc_place c) n 2 (by omega), hn.1] at hh
      exact absurd (Int32.le_refl _) hh
    · intro k hk ih o
      have ih : ∀ o, Er X d M_X0_takePlaces 2 [some (.ref c), some (.int (nI (k + 1))), o] [] (bPlace c k (it (bPlace c) I k)) J (qV P) := ih
      generalize hK : it (bPlace c) I k = K at ih ⊢
      have hF : FC c I K := by rw [← hK]; exact FC.rf.it (fc_place c) k
      have hx := ix_nI (k := k) (n := 8) (by omega) (by omega)
      have ht := tn_nI (k := k) (by omega)
      refine vc_X0_takePlaces_2 hc ⟨fun hh => ?_, fun _ => ?_⟩
      · rw [hF 2 (by omega), hn.1, le_nI (by omega) (by omega)] at hh; omega
      rw [ht, nI_1]
      refine ⟨hx, fun y hy => ?_⟩
      subst hy
      unfold bPlace at ih
      refine ⟨hx, fun a1 => ?_, fun a1 => ⟨fun a2 => ?_, fun a2 => ⟨fun a3 => ?_, fun a3 => ⟨hx, ?_⟩⟩⟩⟩
      · rw [if_neg (fun q => a1 q.1)] at ih; exact ih _
      · rw [if_neg (fun q => Int32.not_le.mpr q.2.1 a2)] at ih; exact ih _
      · rw [if_neg (fun q => a3 q.2.2)] at ih; exact ih _
      · rw [if_pos ⟨Decidable.not_not.mp a1, Int32.not_le.mp a2, Decidable.not_not.mp a3⟩] at ih
        rw [mm_u_k (f := K) (x := c) (by omega)]
        exact ih _
  exact key 0 (Nat.zero_le _) none
theorem sp_firesIn {P : Int32 → tI → tJ → Prop} {h : Int32} (hf : I 2 10 = nI nf ∧ nf ≤ 4) (hP : P (vFires I h nf) I J) : EI X d n_X5_firesIn [.ref 2, .int h] I J P := by
  refine vc_X5_firesIn ?_
  refine up_loop (A := fun k => Er X d M_X5_firesIn 4 [some (.ref 2), some (.int h), some (.int (vFires I h k)), some (.int (nI k))] [] I J (qI P)) (n := nf) ?_ ?_ 0 (Nat.zero_le _)
  · refine vc_X5_firesIn_4 ⟨fun _ => hP, fun hh => ?_⟩
    rw [hf.1] at hh
    exact absurd (Int32.le_refl _) hh
  · intro k hk ih
    have hx := ix_nI (k := k) (n := 4) (by omega) (by omega)
    have ht := tn_nI (k := k) (by omega)
    refine vc_X5_firesIn_4 ⟨fun hh => ?_, fun _ => ?_⟩
    · rw [hf.1, le_nI (by omega) (by omega)] at hh; omega
    rw [ht, nI_1]
    rw [vFires] at ih
    refine ⟨hx, fun a => ?_, fun a => ?_⟩
    · rw [if_neg a] at ih; exact ih
    · rw [if_pos (Decidable.not_not.mp a)] at ih; exact ih
theorem sp_warm {P : tI → tJ → Prop} {f : Int32} (hc : c ∈ mm_crs) (hn : I 2 2 = nI n ∧ n ≤ 8) (hP : P (if f = 0 then I else it (bWarm c f) I n) J) : EV X d n_X0_warm [.ref c, .int f] I J P := by
  have hc15 := crs_ge hc
  refine vc_X0_warm hc ⟨fun hf => ?_, fun hf => ?_⟩
  · rw [if_neg hf] at hP
    refine it_loop (A := fun k I => Er X d M_X0_warm 5 [some (.ref c), some (.int f), some (.int (nI k))] [] I J (qV P)) (B := bWarm c f) (n := n) ?_ ?_
    · refine vc_X0_warm_5 hc ⟨fun _ => hP, fun hh => ?_⟩
      rw [FC.rf.it (fc_warm c f) n 2 (by omega), hn.1] at hh
      exact absurd (Int32.le_refl _) hh
    · intro k hk ih
      generalize hK : it (bWarm c f) I k = K at ih ⊢
      have hF : FC c I K := by rw [← hK]; exact FC.rf.it (fc_warm c f) k
      have hx := ix_nI (k := k) (n := 8) (by omega) (by omega)
      have ht := tn_nI (k := k) (by omega)
      refine vc_X0_warm_5 hc ⟨fun hh => ?_, fun _ => ?_⟩
      · rw [hF 2 (by omega), hn.1, le_nI (by omega) (by omega)] at hh; omega
      rw [ht, nI_1]
      unfold bWarm at ih
      refine ⟨hx, fun a1 => ?_, fun a1 => ⟨hx, hx, ?_⟩⟩
      · rw [if_neg a1] at ih; exact ih
      · rw [if_pos (Decidable.not_not.mp a1)] at ih; exact ih
  · rw [if_pos (Decidable.not_not.mp hf)] at hP; exact hP
theorem vFires_eq {I I' : tI} {h : Int32} (he : I' 10 = I 10) : ∀ k, vFires I' h k = vFires I h k
  | 0 => rfl
  | k + 1 => by rw [vFires, vFires, vFires_eq he k, he]
theorem sp_until {P : tI → tJ → Prop} {h : Int32} (hc : c ∈ mm_crs) (hg : Gd I n ns nb nf) (hP : P (fUntil c n nf h I) J) : EV X (d + 1) n_X0_untilButters [.ref c, .int h] I J P := by
  have hc15 := crs_ge hc
  have f1 : FC c I (it (bCome c h) I n) := FC.rf.it (fc_come c h) n
  have f2 : FC c I (it (bPlace c) (it (bCome c h) I n) n) := f1.it (fc_place c) n
  have g1 := hg.fc hc15.1 f1
  have g2 := hg.fc hc15.1 f2
  refine vc_X0_untilButters hc ?_
  refine sp_comeAgain hc hg.1 ?_
  refine sp_takePlaces hc g1.1 ?_
  refine sp_firesIn g2.2.2.2.1 ?_
  refine sp_warm hc g2.1 ?_
  rw [vFires_eq (f2 10 (by omega))]
  exact hP
theorem sp_leave {P : tI → tJ → Prop} {i : Nat} {a : Int32} (hc : c ∈ mm_crs) (hi : i < 8) (hP : P (fLeave c i a I) J) : EV X d n_X0_leave [.ref c, .int (nI i), .int a] I J P := by
  have hx := ix_nI (k := i) (n := 8) hi (by omega)
  have ht := tn_nI (k := i) (by omega)
  refine vc_X0_leave hc ?_
  rw [ht]
  unfold fLeave at hP
  refine ⟨hx, fun a1 => ⟨hx, ?_⟩, fun a1 => ⟨hx, hx, ?_⟩⟩
  · rw [if_neg a1] at hP; exact hP
  · rw [if_pos (Decidable.not_not.mp a1)] at hP; exact hP
theorem sp_letGo {P : tI → tJ → Prop} {i : Nat} {h : Int32} (hc : c ∈ mm_crs) (hi : i < 8) (hP : P (fGo c i h I) J) : EV X (d + 1) n_X0_letGo [.ref c, .int (nI i), .int h] I J P := by
  have hx := ix_nI (k := i) (n := 8) hi (by omega)
  have ht := tn_nI (k := i) (by omega)
  refine vc_X0_letGo hc ?_
  refine sp_leave hc hi ?_
  rw [ht]
  have e6 : mm_u (fLeave c i 2 I) (c + 4) i h (c + 6) i = I (c + 6) i := by
    rw [mm_u_k (by omega)]
    unfold fLeave
    rw [mm_u_k (by omega)]
    split
    · rw [mm_u_k (by omega)]
    · rfl
  have e5 : (mm_u (mm_u (fLeave c i 2 I) (c + 4) i h) (c + 6) i (I (c + 6) i + 1)) (c + 5) i = I (c + 5) i := by
    rw [mm_u_k (by omega), mm_u_k (by omega)]
    unfold fLeave
    rw [mm_u_k (by omega)]
    split
    · rw [mm_u_k (by omega)]
    · rfl
  rw [e6, e5]
  unfold fGo at hP
  refine ⟨hx, hx, hx, hx, fun a1 => ?_, fun a1 => ⟨hx, ?_⟩⟩
  · rw [if_neg a1] at hP; exact hP
  · rw [if_pos (Decidable.not_not.mp a1)] at hP; exact hP
theorem sp_spread {P : tI → tJ → Prop} {h : Int32} (hc : c ∈ mm_crs) (hg : Gd I n ns nb nf) (hP : P (it (bSpread c h) I nb) J) : EV X (d + 1) n_X0_spread [.ref c, .int h] I J P := by
  have hc15 := crs_ge hc
  refine vc_X0_spread hc ?_
  have key : ∀ k, k ≤ nb → ∀ o : Option Value, Er X (d + 1) M_X0_spread 2 [some (.ref c), some (.int h), some (.int (nI k)), o] [] (it (bSpread c h) I k) J (qV P) := by
    refine up_loop ?_ ?_
    · intro o
      refine vc_X0_spread_2 hc ⟨fun _ => hP, fun hh => ?_⟩
      rw [FC.rf.it (fc_spread c h) nb 2 (by omega), hg.2.2.1.1] at hh
      exact absurd (Int32.le_refl _) hh
    · intro k hk ih o
      have ih : ∀ o, Er X (d + 1) M_X0_spread 2 [some (.ref c), some (.int h), some (.int (nI (k + 1))), o] [] (bSpread c h k (it (bSpread c h) I k)) J (qV P) := ih
      generalize hK : it (bSpread c h) I k = K at ih ⊢
      have hF : FC c I K := by rw [← hK]; exact FC.rf.it (fc_spread c h) k
      have g1 := hg.fc hc15.1 hF
      have hk8 := hg.2.2.1.2
      have hx := ix_nI (k := k) (n := 8) (by omega) (by omega)
      have ht := tn_nI (k := k) (by omega)
      obtain ⟨q, hq, eq⟩ := g1.2.2.2.2.2 k hk
      have htq := tn_nI (k := q) (by omega)
      have hxq := ix_nI (k := q) (n := 8) hq (by omega)
      refine vc_X0_spread_2 hc ⟨fun hh => ?_, fun _ => ?_⟩
      · rw [g1.2.2.1.1, le_nI (by omega) (by omega)] at hh; omega
      rw [ht, nI_1]
      refine ⟨hx, fun y hy => ?_⟩
      subst hy
      unfold bSpread at ih
      rw [eq, htq] at ih ⊢
      refine ⟨hx, fun a1 => ?_, fun a1 => ⟨fun a2 => ?_, fun a2 => ?_⟩⟩
      · rw [if_neg (fun z => a1 z.1)] at ih; exact ih _
      · rw [if_neg (fun z => Int32.not_le.mpr z.2.1 a2)] at ih; exact ih _
      · refine sp_isIn hc hq (fun a3 => ⟨fun z => absurd z (by decide), fun _ => ⟨hxq, fun a4 => ?_, fun a4 => ?_⟩⟩) (fun a3 => ⟨fun _ => ?_, fun z => absurd rfl z⟩)
        · rw [if_neg (fun z => Int32.not_le.mpr z.2.2.2 a4)] at ih; exact ih _
        · refine sp_leave hc hq ?_
          rw [if_pos ⟨Decidable.not_not.mp a1, Int32.not_le.mp a2, a3, Int32.not_le.mp a4⟩] at ih; exact ih _
        · rw [if_neg (fun z => a3 z.2.2.1)] at ih; exact ih _
  exact key 0 (Nat.zero_le _) none
end COURSE
