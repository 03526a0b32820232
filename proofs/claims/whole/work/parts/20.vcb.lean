set_option maxRecDepth 10000 in
set_option maxHeartbeats 4000000 in
theorem vc_X1_findHeats {X : mm_X} {d : Nat} {I : tI} {J : tJ} {P : tI → tJ → Prop} {v1 : Int32}  (T : ix v1 8 ∧ (∀ y2_1 : Int32, y2_1 = ((mm_u I 36 4 0) 5 (tn v1)) → (Er X (d + 1) M_X1_findHeats 11 [some (.ref 36), some (.int v1), some (.int y2_1), some (.int 0)] [] (mm_u I 36 4 0) J (qV P)))) : EV X (d + 1) n_X1_findHeats [.ref 36, .int v1] I J P := by
  refine ⟨M_X1_findHeats, tb_X1_findHeats, Nat.le_of_ble_eq_true rfl, ?_⟩
  show Er X (d + 1) M_X1_findHeats 0 [some (.ref 36), some (.int v1), none, none] [] I J (qV P)
  refine e_l rfl rfl rfl ?_
  refine e_k rfl rfl rfl ic_0 ?_
  refine e_pi rfl (g_36) rfl ?_
  refine e_l rfl rfl rfl ?_
  refine e_gr rfl (g_36) rfl (r_36_0) ?_
  refine e_gr rfl (g_2) rfl (r_2_4) ?_
  refine e_l rfl rfl rfl ?_
  refine e_ia rfl (g_5) T.1 ?_
  replace T := T.2
  refine e_si (Lf := fun y2_1 => [some (.ref 36), some (.int v1), some (.int y2_1), none]) rfl rfl rfl (fun y2_1 hy2_1 => ?_)
  replace T := T y2_1 hy2_1
  refine e_k rfl rfl rfl ic_0 ?_
  refine e_l (L' := [some (.ref 36), some (.int v1), some (.int y2_1), some (.int 0)]) rfl rfl rfl ?_
  exact T
set_option maxRecDepth 10000 in
set_option maxHeartbeats 4000000 in
theorem vc_X1_findHeats_11 {X : mm_X} {d : Nat} {I : tI} {J : tJ} {P : tI → tJ → Prop} {v1 : Int32} {v2 : Int32} {v3 : Int32}  (T : (100 ≤ v3 → (ix v1 8 ∧ (P (mm_u I 5 (tn v1) v2) J))) ∧ (¬ (100 ≤ v3) → (ix v1 8 ∧ (EI X d n_X1_allComesOut [.ref 36, .int (-1)] (mm_u I 5 (tn v1) v3) J (fun x_1 I_2 J_3 => (x_1 = 0 → (Er X (d + 1) M_X1_findHeats 11 [some (.ref 36), some (.int v1), some (.int v2), some (.int (v3 + 1))] [] I_2 J_3 (qV P))) ∧ (¬ (x_1 = 0) → (ix (I_2 36 4) 100 ∧ (Er X (d + 1) M_X1_findHeats 11 [some (.ref 36), some (.int v1), some (.int v2), some (.int (v3 + 1))] [] (mm_u (mm_u I_2 37 (tn (I_2 36 4)) v3) 36 4 (((mm_u I_2 37 (tn (I_2 36 4)) v3) 36 4) + 1)) J_3 (qV P))))))))) : Er X (d + 1) M_X1_findHeats 11 [some (.ref 36), some (.int v1), some (.int v2), some (.int v3)] [] I J (qV P) := by
  refine e_l rfl rfl rfl ?_
  refine e_k rfl rfl rfl ib_100 ?_
  refine e_b rfl rfl rfl (fun hA => ?_) (fun hA => ?_)
  · replace T := T.1 hA
    refine e_l rfl rfl rfl ?_
    refine e_gr rfl (g_36) rfl (r_36_0) ?_
    refine e_gr rfl (g_2) rfl (r_2_4) ?_
    refine e_l rfl rfl rfl ?_
    refine e_l rfl rfl rfl ?_
    refine e_as rfl (g_5) T.1 ?_
    replace T := T.2
    exact e_rv rfl rfl ⟨rfl, T⟩
  · replace T := T.2 hA
    refine e_l rfl rfl rfl ?_
    refine e_gr rfl (g_36) rfl (r_36_0) ?_
    refine e_gr rfl (g_2) rfl (r_2_4) ?_
    refine e_l rfl rfl rfl ?_
    refine e_l rfl rfl rfl ?_
    refine e_as rfl (g_5) T.1 ?_
    replace T := T.2
    refine e_l rfl rfl rfl ?_
    refine e_k rfl rfl rfl ic_m1 ?_
    refine e_cvI (as := [.int (-1)]) (rs := []) rfl rfl (g_36) rfl T (fun x_1 I_2 J_3 T => ?_)
    try dsimp only at T
    refine e_b rfl rfl rfl (fun hA => ?_) (fun hA => ?_)
    · replace T := T.1 hA
      refine e_ic (v := (v3 + 1)) (L' := [some (.ref 36), some (.int v1), some (.int v2), some (.int (v3 + 1))]) rfl rfl rfl ic_1 rfl ?_
      refine e_g rfl ?_
      exact T
    · replace T := T.2 hA
      refine e_l rfl rfl rfl ?_
      refine e_gr rfl (g_36) rfl (r_36_3) ?_
      refine e_l rfl rfl rfl ?_
      refine e_gi rfl (g_36) (by decide) ?_
      refine e_l rfl rfl rfl ?_
      refine e_as rfl (g_37) T.1 ?_
      replace T := T.2
      refine e_l rfl rfl rfl ?_
      refine e_p rfl rfl rfl ?_
      refine e_gi rfl (g_36) (by decide) ?_
      refine e_k rfl rfl rfl ic_1 ?_
      refine e_p rfl rfl rfl ?_
      refine e_pi rfl (g_36) rfl ?_
      refine e_ic (v := (v3 + 1)) (L' := [some (.ref 36), some (.int v1), some (.int v2), some (.int (v3 + 1))]) rfl rfl rfl ic_1 rfl ?_
      refine e_g rfl ?_
      exact T
set_option maxRecDepth 10000 in
set_option maxHeartbeats 4000000 in
theorem vc_X1_heatAt {X : mm_X} {d : Nat} {I : tI} {J : tJ} {P : Int32 → tI → tJ → Prop} {v1 : Int32}  (T : (v1 ≠ (-1) → ((v1 < 0 → (P (-1) I J)) ∧ (¬ (v1 < 0) → (((I 36 4) ≤ v1 → (P (-1) I J)) ∧ (¬ ((I 36 4) ≤ v1) → (ix v1 100 ∧ (P (I 37 (tn v1)) I J))))))) ∧ (¬ (v1 ≠ (-1)) → (P (I 36 4) I J))) : EI X d n_X1_heatAt [.ref 36, .int v1] I J P := by
  refine ⟨M_X1_heatAt, tb_X1_heatAt, Nat.le_of_ble_eq_true rfl, ?_⟩
  show Er X d M_X1_heatAt 0 [some (.ref 36), some (.int v1)] [] I J (qI P)
  refine e_l rfl rfl rfl ?_
  refine e_k rfl rfl rfl ic_m1 ?_
  refine e_b rfl rfl rfl (fun hA => ?_) (fun hA => ?_)
  · replace T := T.1 hA
    refine e_l rfl rfl rfl ?_
    refine e_b rfl rfl rfl (fun hA => ?_) (fun hA => ?_)
    · replace T := T.1 hA
      refine e_k rfl rfl rfl ic_m1 ?_
      exact e_ri rfl rfl ⟨_, rfl, T⟩
    · replace T := T.2 hA
      refine e_l rfl rfl rfl ?_
      refine e_l rfl rfl rfl ?_
      refine e_gi rfl (g_36) (by decide) ?_
      refine e_b rfl rfl rfl (fun hA => ?_) (fun hA => ?_)
      · replace T := T.1 hA
        refine e_k rfl rfl rfl ic_m1 ?_
        exact e_ri rfl rfl ⟨_, rfl, T⟩
      · replace T := T.2 hA
        refine e_l rfl rfl rfl ?_
        refine e_gr rfl (g_36) rfl (r_36_3) ?_
        refine e_l rfl rfl rfl ?_
        refine e_ia rfl (g_37) T.1 ?_
        replace T := T.2
        refine e_g rfl ?_
        exact e_ri rfl rfl ⟨_, rfl, T⟩
  · replace T := T.2 hA
    refine e_l rfl rfl rfl ?_
    refine e_gi rfl (g_36) (by decide) ?_
    exact e_ri rfl rfl ⟨_, rfl, T⟩
set_option maxRecDepth 10000 in
set_option maxHeartbeats 4000000 in
theorem vc_X1_slotsOf {X : mm_X} {d : Nat} {I : tI} {J : tJ} {P : Int32 → tI → tJ → Prop} {v1 : Int32}  (T : ix v1 8 ∧ (∀ y3_1 : Int32, y3_1 = (I 6 (tn v1)) → (Er X (d + 1) M_X1_slotsOf 10 [some (.ref 36), some (.int v1), some (.int 0), some (.int y3_1), some (.int 0)] [] I J (qI P)))) : EI X (d + 1) n_X1_slotsOf [.ref 36, .int v1] I J P := by
  refine ⟨M_X1_slotsOf, tb_X1_slotsOf, Nat.le_of_ble_eq_true rfl, ?_⟩
  show Er X (d + 1) M_X1_slotsOf 0 [some (.ref 36), some (.int v1), none, none, none] [] I J (qI P)
  refine e_k rfl rfl rfl ic_0 ?_
  refine e_l (L' := [some (.ref 36), some (.int v1), some (.int 0), none, none]) rfl rfl rfl ?_
  refine e_l rfl rfl rfl ?_
  refine e_gr rfl (g_36) rfl (r_36_0) ?_
  refine e_gr rfl (g_2) rfl (r_2_5) ?_
  refine e_l rfl rfl rfl ?_
  refine e_ia rfl (g_6) T.1 ?_
  replace T := T.2
  refine e_si (Lf := fun y3_1 => [some (.ref 36), some (.int v1), some (.int 0), some (.int y3_1), none]) rfl rfl rfl (fun y3_1 hy3_1 => ?_)
  replace T := T y3_1 hy3_1
  refine e_k rfl rfl rfl ic_0 ?_
  refine e_l (L' := [some (.ref 36), some (.int v1), some (.int 0), some (.int y3_1), some (.int 0)]) rfl rfl rfl ?_
  exact T
set_option maxRecDepth 10000 in
set_option maxHeartbeats 4000000 in
theorem vc_X1_slotsOf_10 {X : mm_X} {d : Nat} {I : tI} {J : tJ} {P : Int32 → tI → tJ → Prop} {v1 : Int32} {v2 : Int32} {v3 : Int32} {v4 : Int32}  (T : (10 ≤ v4 → (ix v1 8 ∧ (P v2 (mm_u I 6 (tn v1) v3) J))) ∧ (¬ (10 ≤ v4) → (ix v1 8 ∧ (EI X d n_X1_allComesOut [.ref 36, .int (-1)] (mm_u I 6 (tn v1) v4) J (fun x_1 I_2 J_3 => (x_1 = 0 → (Er X (d + 1) M_X1_slotsOf 10 [some (.ref 36), some (.int v1), some (.int v2), some (.int v3), some (.int (v4 + 1))] [] I_2 J_3 (qI P))) ∧ (¬ (x_1 = 0) → (∀ y2_4 : Int32, y2_4 = (v2 ||| (1 <<< (v4 &&& 31))) → (Er X (d + 1) M_X1_slotsOf 10 [some (.ref 36), some (.int v1), some (.int y2_4), some (.int v3), some (.int (v4 + 1))] [] I_2 J_3 (qI P))))))))) : Er X (d + 1) M_X1_slotsOf 10 [some (.ref 36), some (.int v1), some (.int v2), some (.int v3), some (.int v4)] [] I J (qI P) := by
  refine e_l rfl rfl rfl ?_
  refine e_k rfl rfl rfl ib_10 ?_
  refine e_b rfl rfl rfl (fun hA => ?_) (fun hA => ?_)
  · replace T := T.1 hA
    refine e_l rfl rfl rfl ?_
    refine e_gr rfl (g_36) rfl (r_36_0) ?_
    refine e_gr rfl (g_2) rfl (r_2_5) ?_
    refine e_l rfl rfl rfl ?_
    refine e_l rfl rfl rfl ?_
    refine e_as rfl (g_6) T.1 ?_
    replace T := T.2
    refine e_l rfl rfl rfl ?_
    exact e_ri rfl rfl ⟨_, rfl, T⟩
  · replace T := T.2 hA
    refine e_l rfl rfl rfl ?_
    refine e_gr rfl (g_36) rfl (r_36_0) ?_
    refine e_gr rfl (g_2) rfl (r_2_5) ?_
    refine e_l rfl rfl rfl ?_
    refine e_l rfl rfl rfl ?_
    refine e_as rfl (g_6) T.1 ?_
    replace T := T.2
    refine e_l rfl rfl rfl ?_
    refine e_k rfl rfl rfl ic_m1 ?_
    refine e_cvI (as := [.int (-1)]) (rs := []) rfl rfl (g_36) rfl T (fun x_1 I_2 J_3 T => ?_)
    try dsimp only at T
    refine e_b rfl rfl rfl (fun hA => ?_) (fun hA => ?_)
    · replace T := T.1 hA
      refine e_ic (v := (v4 + 1)) (L' := [some (.ref 36), some (.int v1), some (.int v2), some (.int v3), some (.int (v4 + 1))]) rfl rfl rfl ic_1 rfl ?_
      refine e_g rfl ?_
      exact T
    · replace T := T.2 hA
      refine e_l rfl rfl rfl ?_
      refine e_k rfl rfl rfl ic_1 ?_
      refine e_l rfl rfl rfl ?_
      refine e_p rfl rfl rfl ?_
      refine e_p rfl rfl rfl ?_
      refine e_si (Lf := fun y2_4 => [some (.ref 36), some (.int v1), some (.int y2_4), some (.int v3), some (.int v4)]) rfl rfl rfl (fun y2_4 hy2_4 => ?_)
      replace T := T y2_4 hy2_4
      refine e_ic (v := (v4 + 1)) (L' := [some (.ref 36), some (.int v1), some (.int y2_4), some (.int v3), some (.int (v4 + 1))]) rfl rfl rfl ic_1 rfl ?_
      refine e_g rfl ?_
      exact T
set_option maxRecDepth 10000 in
set_option maxHeartbeats 4000000 in
theorem vc_X1_nextToTouch {X : mm_X} {d : Nat} {I : tI} {J : tJ} {P : Int32 → tI → tJ → Prop} {v1 : Int32}  (T : Er X (d + 1) M_X1_nextToTouch 2 [some (.ref 36), some (.int v1), some (.int 0), none] [] I J (qI P)) : EI X (d + 1) n_X1_nextToTouch [.ref 36, .int v1] I J P := by
  refine ⟨M_X1_nextToTouch, tb_X1_nextToTouch, Nat.le_of_ble_eq_true rfl, ?_⟩
  show Er X (d + 1) M_X1_nextToTouch 0 [some (.ref 36), some (.int v1), none, none] [] I J (qI P)
  refine e_k rfl rfl rfl ic_0 ?_
  refine e_l (L' := [some (.ref 36), some (.int v1), some (.int 0), none]) rfl rfl rfl ?_
  exact T
set_option maxRecDepth 10000 in
set_option maxHeartbeats 4000000 in
theorem vc_X1_nextToTouch_2 {X : mm_X} {d : Nat} {I : tI} {J : tJ} {P : Int32 → tI → tJ → Prop} {v1 : Int32} {v2 : Int32}  (T : (32 ≤ v2 → (∀ y2_1 : Int32, y2_1 = (I 7 (tn 1)) → (Er X (d + 1) M_X1_nextToTouch 20 [some (.ref 36), some (.int v1), some (.int y2_1), some (.int 0)] [] I J (qI P)))) ∧ (¬ (32 ≤ v2) → (ix v2 32 ∧ (Er X (d + 1) M_X1_nextToTouch 2 [some (.ref 36), some (.int v1), some (.int (v2 + 1)), none] [] (mm_u I 39 (tn v2) 0) J (qI P))))) : Er X (d + 1) M_X1_nextToTouch 2 [some (.ref 36), some (.int v1), some (.int v2), none] [] I J (qI P) := by
  refine e_l rfl rfl rfl ?_
  refine e_k rfl rfl rfl ib_32 ?_
  refine e_b rfl rfl rfl (fun hA => ?_) (fun hA => ?_)
  · replace T := T.1 hA
    refine e_l rfl rfl rfl ?_
    refine e_gr rfl (g_36) rfl (r_36_0) ?_
    refine e_gr rfl (g_2) rfl (r_2_6) ?_
    refine e_k rfl rfl rfl ic_1 ?_
    refine e_ia rfl (g_7) (by decide) ?_
    refine e_si (Lf := fun y2_1 => [some (.ref 36), some (.int v1), some (.int y2_1), none]) rfl rfl rfl (fun y2_1 hy2_1 => ?_)
    replace T := T y2_1 hy2_1
    refine e_k rfl rfl rfl ic_0 ?_
    refine e_l (L' := [some (.ref 36), some (.int v1), some (.int y2_1), some (.int 0)]) rfl rfl rfl ?_
    exact T
  · replace T := T.2 hA
    refine e_l rfl rfl rfl ?_
    refine e_gr rfl (g_36) rfl (r_36_6) ?_
    refine e_l rfl rfl rfl ?_
    refine e_k rfl rfl rfl ic_0 ?_
    refine e_as rfl (g_39) T.1 ?_
    replace T := T.2
    refine e_ic (v := (v2 + 1)) (L' := [some (.ref 36), some (.int v1), some (.int (v2 + 1)), none]) rfl rfl rfl ic_1 rfl ?_
    refine e_g rfl ?_
    exact T
set_option maxRecDepth 10000 in
set_option maxHeartbeats 4000000 in
theorem vc_X1_nextToTouch_20 {X : mm_X} {d : Nat} {I : tI} {J : tJ} {P : Int32 → tI → tJ → Prop} {v1 : Int32} {v2 : Int32} {v3 : Int32}  (T : (10 ≤ v3 → (EI X d n_X1_leastOfTheGreatest [.ref 36] (mm_u I 7 (tn 1) v2) J (fun x_1 I_2 J_3 => P x_1 I_2 J_3))) ∧ (¬ (10 ≤ v3) → (EI X d n_X1_allComesOut [.ref 36, .int v1] (mm_u I 7 (tn 1) v3) J (fun x_4 I_5 J_6 => (x_4 = 0 → (Er X (d + 1) M_X1_nextToTouch 20 [some (.ref 36), some (.int v1), some (.int v2), some (.int (v3 + 1))] [] I_5 J_6 (qI P))) ∧ (¬ (x_4 = 0) → (EV X d n_X1_tallyNoted [.ref 36] I_5 J_6 (fun I_8 J_9 => Er X (d + 1) M_X1_nextToTouch 20 [some (.ref 36), some (.int v1), some (.int v2), some (.int (v3 + 1))] [] I_8 J_9 (qI P)))))))) : Er X (d + 1) M_X1_nextToTouch 20 [some (.ref 36), some (.int v1), some (.int v2), some (.int v3)] [] I J (qI P) := by
  refine e_l rfl rfl rfl ?_
  refine e_k rfl rfl rfl ib_10 ?_
  refine e_b rfl rfl rfl (fun hA => ?_) (fun hA => ?_)
  · replace T := T.1 hA
    refine e_l rfl rfl rfl ?_
    refine e_gr rfl (g_36) rfl (r_36_0) ?_
    refine e_gr rfl (g_2) rfl (r_2_6) ?_
    refine e_k rfl rfl rfl ic_1 ?_
    refine e_l rfl rfl rfl ?_
    refine e_as rfl (g_7) (by decide) ?_
    refine e_l rfl rfl rfl ?_
    refine e_cvI (as := []) (rs := []) rfl rfl (g_36) rfl T (fun x_1 I_2 J_3 T => ?_)
    try dsimp only at T
    exact e_ri rfl rfl ⟨_, rfl, T⟩
  · replace T := T.2 hA
    refine e_l rfl rfl rfl ?_
    refine e_gr rfl (g_36) rfl (r_36_0) ?_
    refine e_gr rfl (g_2) rfl (r_2_6) ?_
    refine e_k rfl rfl rfl ic_1 ?_
    refine e_l rfl rfl rfl ?_
    refine e_as rfl (g_7) (by decide) ?_
    refine e_l rfl rfl rfl ?_
    refine e_l rfl rfl rfl ?_
    refine e_cvI (as := [.int v1]) (rs := []) rfl rfl (g_36) rfl T (fun x_4 I_5 J_6 T => ?_)
    try dsimp only at T
    refine e_b rfl rfl rfl (fun hA => ?_) (fun hA => ?_)
    · replace T := T.1 hA
      refine e_ic (v := (v3 + 1)) (L' := [some (.ref 36), some (.int v1), some (.int v2), some (.int (v3 + 1))]) rfl rfl rfl ic_1 rfl ?_
      refine e_g rfl ?_
      exact T
    · replace T := T.2 hA
      refine e_l rfl rfl rfl ?_
      refine e_cvV (as := []) (rs := []) rfl rfl (g_36) rfl T (fun I_8 J_9 T => ?_)
      try dsimp only at T
      refine e_ic (v := (v3 + 1)) (L' := [some (.ref 36), some (.int v1), some (.int v2), some (.int (v3 + 1))]) rfl rfl rfl ic_1 rfl ?_
      refine e_g rfl ?_
      exact T
set_option maxRecDepth 10000 in
set_option maxHeartbeats 4000000 in
theorem vc_X1_tallyNoted {X : mm_X} {d : Nat} {I : tI} {J : tJ} {P : tI → tJ → Prop}   (T : Er X d M_X1_tallyNoted 2 [some (.ref 36), some (.int 0)] [] I J (qV P)) : EV X d n_X1_tallyNoted [.ref 36] I J P := by
  refine ⟨M_X1_tallyNoted, tb_X1_tallyNoted, Nat.le_of_ble_eq_true rfl, ?_⟩
  show Er X d M_X1_tallyNoted 0 [some (.ref 36), none] [] I J (qV P)
  refine e_k rfl rfl rfl ic_0 ?_
  refine e_l (L' := [some (.ref 36), some (.int 0)]) rfl rfl rfl ?_
  exact T
set_option maxRecDepth 10000 in
set_option maxHeartbeats 4000000 in
theorem vc_X1_tallyNoted_2 {X : mm_X} {d : Nat} {I : tI} {J : tJ} {P : tI → tJ → Prop} {v1 : Int32}  (T : ((I 2 2) ≤ v1 → (P I J)) ∧ (¬ ((I 2 2) ≤ v1) → (ix v1 8 ∧ (ix ((v1 * 4) + (I 38 (tn v1))) 32 ∧ (ix ((v1 * 4) + (I 38 (tn v1))) 32 ∧ (Er X d M_X1_tallyNoted 2 [some (.ref 36), some (.int (v1 + 1))] [] (mm_u I 39 (tn ((v1 * 4) + (I 38 (tn v1)))) ((I 39 (tn ((v1 * 4) + (I 38 (tn v1))))) + 1)) J (qV P))))))) : Er X d M_X1_tallyNoted 2 [some (.ref 36), some (.int v1)] [] I J (qV P) := by
  refine e_l rfl rfl rfl ?_
  refine e_l rfl rfl rfl ?_
  refine e_gr rfl (g_36) rfl (r_36_0) ?_
  refine e_gi rfl (g_2) (by decide) ?_
  refine e_b rfl rfl rfl (fun hA => ?_) (fun hA => ?_)
  · replace T := T.1 hA
    exact e_rv rfl rfl ⟨rfl, T⟩
  · replace T := T.2 hA
    refine e_l rfl rfl rfl ?_
    refine e_gr rfl (g_36) rfl (r_36_6) ?_
    refine e_l rfl rfl rfl ?_
    refine e_k rfl rfl rfl ic_4 ?_
    refine e_p rfl rfl rfl ?_
    refine e_l rfl rfl rfl ?_
    refine e_gr rfl (g_36) rfl (r_36_5) ?_
    refine e_l rfl rfl rfl ?_
    refine e_ia rfl (g_38) T.1 ?_
    replace T := T.2
    refine e_p rfl rfl rfl ?_
    refine e_p rfl rfl rfl ?_
    refine e_ia rfl (g_39) T.1 ?_
    replace T := T.2
    refine e_k rfl rfl rfl ic_1 ?_
    refine e_p rfl rfl rfl ?_
    refine e_as rfl (g_39) T.1 ?_
    replace T := T.2
    refine e_ic (v := (v1 + 1)) (L' := [some (.ref 36), some (.int (v1 + 1))]) rfl rfl rfl ic_1 rfl ?_
    refine e_g rfl ?_
    exact T
set_option maxRecDepth 10000 in
set_option maxHeartbeats 4000000 in
theorem vc_X1_leastOfTheGreatest {X : mm_X} {d : Nat} {I : tI} {J : tJ} {P : Int32 → tI → tJ → Prop}   (T : Er X d M_X1_leastOfTheGreatest 6 [some (.ref 36), some (.int (-1)), some (.int 11), some (.int 0), none, none] [] I J (qI P)) : EI X d n_X1_leastOfTheGreatest [.ref 36] I J P := by
  refine ⟨M_X1_leastOfTheGreatest, tb_X1_leastOfTheGreatest, Nat.le_of_ble_eq_true rfl, ?_⟩
  show Er X d M_X1_leastOfTheGreatest 0 [some (.ref 36), none, none, none, none, none] [] I J (qI P)
  refine e_k rfl rfl rfl ic_m1 ?_
  refine e_l (L' := [some (.ref 36), some (.int (-1)), none, none, none, none]) rfl rfl rfl ?_
  refine e_k rfl rfl rfl ib_11 ?_
  refine e_l (L' := [some (.ref 36), some (.int (-1)), some (.int 11), none, none, none]) rfl rfl rfl ?_
  refine e_k rfl rfl rfl ic_0 ?_
  refine e_l (L' := [some (.ref 36), some (.int (-1)), some (.int 11), some (.int 0), none, none]) rfl rfl rfl ?_
  exact T
set_option maxRecDepth 10000 in
set_option maxHeartbeats 4000000 in
theorem vc_X1_leastOfTheGreatest_6 {X : mm_X} {d : Nat} {I : tI} {J : tJ} {P : Int32 → tI → tJ → Prop} {v1 : Int32} {v2 : Int32} {v3 : Int32} {o4 : Option Value} {o5 : Option Value}  (T : ((I 2 2) ≤ v3 → (P v1 I J)) ∧ (¬ ((I 2 2) ≤ v3) → (Er X d M_X1_leastOfTheGreatest 15 [some (.ref 36), some (.int v1), some (.int v2), some (.int v3), some (.int 0), some (.int 0)] [] I J (qI P)))) : Er X d M_X1_leastOfTheGreatest 6 [some (.ref 36), some (.int v1), some (.int v2), some (.int v3), o4, o5] [] I J (qI P) := by
  refine e_l rfl rfl rfl ?_
  refine e_l rfl rfl rfl ?_
  refine e_gr rfl (g_36) rfl (r_36_0) ?_
  refine e_gi rfl (g_2) (by decide) ?_
  refine e_b rfl rfl rfl (fun hA => ?_) (fun hA => ?_)
  · replace T := T.1 hA
    refine e_l rfl rfl rfl ?_
    exact e_ri rfl rfl ⟨_, rfl, T⟩
  · replace T := T.2 hA
    refine e_k rfl rfl rfl ic_0 ?_
    refine e_l (L' := [some (.ref 36), some (.int v1), some (.int v2), some (.int v3), some (.int 0), o5]) rfl rfl rfl ?_
    refine e_k rfl rfl rfl ic_0 ?_
    refine e_l (L' := [some (.ref 36), some (.int v1), some (.int v2), some (.int v3), some (.int 0), some (.int 0)]) rfl rfl rfl ?_
    exact T
set_option maxRecDepth 10000 in
set_option maxHeartbeats 4000000 in
theorem vc_X1_leastOfTheGreatest_15 {X : mm_X} {d : Nat} {I : tI} {J : tJ} {P : Int32 → tI → tJ → Prop} {v1 : Int32} {v2 : Int32} {v3 : Int32} {v4 : Int32} {v5 : Int32}  (T : (4 ≤ v5 → ((v2 ≤ v4 → (Er X d M_X1_leastOfTheGreatest 6 [some (.ref 36), some (.int v1), some (.int v2), some (.int (v3 + 1)), some (.int v4), some (.int v5)] [] I J (qI P))) ∧ (¬ (v2 ≤ v4) → (Er X d M_X1_leastOfTheGreatest 6 [some (.ref 36), some (.int v3), some (.int v4), some (.int (v3 + 1)), some (.int v4), some (.int v5)] [] I J (qI P))))) ∧ (¬ (4 ≤ v5) → (ix ((v3 * 4) + v5) 32 ∧ (∀ y4_1 : Int32, y4_1 = (if v4 < (I 39 (tn ((v3 * 4) + v5))) then (I 39 (tn ((v3 * 4) + v5))) else v4) → (Er X d M_X1_leastOfTheGreatest 15 [some (.ref 36), some (.int v1), some (.int v2), some (.int v3), some (.int y4_1), some (.int (v5 + 1))] [] I J (qI P)))))) : Er X d M_X1_leastOfTheGreatest 15 [some (.ref 36), some (.int v1), some (.int v2), some (.int v3), some (.int v4), some (.int v5)] [] I J (qI P) := by
  refine e_l rfl rfl rfl ?_
  refine e_k rfl rfl rfl ic_4 ?_
  refine e_b rfl rfl rfl (fun hA => ?_) (fun hA => ?_)
  · replace T := T.1 hA
    refine e_l rfl rfl rfl ?_
    refine e_l rfl rfl rfl ?_
    refine e_b rfl rfl rfl (fun hA => ?_) (fun hA => ?_)
    · replace T := T.1 hA
      refine e_ic (v := (v3 + 1)) (L' := [some (.ref 36), some (.int v1), some (.int v2), some (.int (v3 + 1)), some (.int v4), some (.int v5)]) rfl rfl rfl ic_1 rfl ?_
      refine e_g rfl ?_
      exact T
    · replace T := T.2 hA
      refine e_l rfl rfl rfl ?_
      refine e_l (L' := [some (.ref 36), some (.int v1), some (.int v4), some (.int v3), some (.int v4), some (.int v5)]) rfl rfl rfl ?_
      refine e_l rfl rfl rfl ?_
      refine e_l (L' := [some (.ref 36), some (.int v3), some (.int v4), some (.int v3), some (.int v4), some (.int v5)]) rfl rfl rfl ?_
      refine e_ic (v := (v3 + 1)) (L' := [some (.ref 36), some (.int v3), some (.int v4), some (.int (v3 + 1)), some (.int v4), some (.int v5)]) rfl rfl rfl ic_1 rfl ?_
      refine e_g rfl ?_
      exact T
  · replace T := T.2 hA
    refine e_l rfl rfl rfl ?_
    refine e_l rfl rfl rfl ?_
    refine e_gr rfl (g_36) rfl (r_36_6) ?_
    refine e_l rfl rfl rfl ?_
    refine e_k rfl rfl rfl ic_4 ?_
    refine e_p rfl rfl rfl ?_
    refine e_l rfl rfl rfl ?_
    refine e_p rfl rfl rfl ?_
    refine e_ia rfl (g_39) T.1 ?_
    replace T := T.2
    refine e_mx rfl (Nat.le_of_ble_eq_true rfl) ?_
    refine e_si (Lf := fun y4_1 => [some (.ref 36), some (.int v1), some (.int v2), some (.int v3), some (.int y4_1), some (.int v5)]) rfl rfl rfl (fun y4_1 hy4_1 => ?_)
    replace T := T y4_1 hy4_1
    refine e_ic (v := (v5 + 1)) (L' := [some (.ref 36), some (.int v1), some (.int v2), some (.int v3), some (.int y4_1), some (.int (v5 + 1))]) rfl rfl rfl ic_1 rfl ?_
    refine e_g rfl ?_
    exact T
set_option maxRecDepth 10000 in
set_option maxHeartbeats 4000000 in
theorem vc_X1_allComesOut {X : mm_X} {d : Nat} {I : tI} {J : tJ} {P : Int32 → tI → tJ → Prop} {v1 : Int32}  (T : EI X d n_X7_lastHour [.ref 32] I J (fun x_1 I_2 J_3 => ∀ y2_4 : Int32, y2_4 = (if x_1 < v1 then v1 else x_1) → (EV X d n_X0_begin [.ref 23] I_2 J_3 (fun I_6 J_7 => Er X (d + 1) M_X1_allComesOut 11 [some (.ref 36), some (.int v1), some (.int y2_4), some (.int 0)] [] I_6 J_7 (qI P))))) : EI X (d + 1) n_X1_allComesOut [.ref 36, .int v1] I J P := by
  refine ⟨M_X1_allComesOut, tb_X1_allComesOut, Nat.le_of_ble_eq_true rfl, ?_⟩
  show Er X (d + 1) M_X1_allComesOut 0 [some (.ref 36), some (.int v1), none, none] [] I J (qI P)
  refine e_l rfl rfl rfl ?_
  refine e_gr rfl (g_36) rfl (r_36_1) ?_
  refine e_cvI (as := []) (rs := []) rfl rfl (g_32) rfl T (fun x_1 I_2 J_3 T => ?_)
  try dsimp only at T
  refine e_l rfl rfl rfl ?_
  refine e_mx rfl (Nat.le_of_ble_eq_true rfl) ?_
  refine e_si (Lf := fun y2_4 => [some (.ref 36), some (.int v1), some (.int y2_4), none]) rfl rfl rfl (fun y2_4 hy2_4 => ?_)
  replace T := T y2_4 hy2_4
  refine e_l rfl rfl rfl ?_
  refine e_gr rfl (g_36) rfl (r_36_2) ?_
  refine e_cvV (as := []) (rs := []) rfl rfl (g_23) rfl T (fun I_6 J_7 T => ?_)
  try dsimp only at T
  refine e_k rfl rfl rfl ic_0 ?_
  refine e_l (L' := [some (.ref 36), some (.int v1), some (.int y2_4), some (.int 0)]) rfl rfl rfl ?_
  exact T
set_option maxRecDepth 10000 in
set_option maxHeartbeats 4000000 in
theorem vc_X1_allComesOut_11 {X : mm_X} {d : Nat} {I : tI} {J : tJ} {P : Int32 → tI → tJ → Prop} {v1 : Int32} {v2 : Int32} {v3 : Int32}  (T : (v2 < v3 → (P 1 I J)) ∧ (¬ (v2 < v3) → (EV X d n_X0_untilButters [.ref 23, .int v3] I J (fun I_2 J_3 => EV X d n_X0_fromButters [.ref 23, .int v3, .int 0] I_2 J_3 (fun I_5 J_6 => EI X d n_X7_agreeWith [.ref 32, .ref 23, .int v3] I_5 J_6 (fun x_7 I_8 J_9 => (x_7 ≠ 0 → ((v3 ≠ v1 → (Er X (d + 1) M_X1_allComesOut 11 [some (.ref 36), some (.int v1), some (.int v2), some (.int (v3 + 1))] [] I_8 J_9 (qI P))) ∧ (¬ (v3 ≠ v1) → ((¬ (0 : Int32) < 0 ∧ ¬ (0 : Int32) < 0 ∧ ¬ (8 : Int32) < 0 ∧ tn 0 + tn 8 ≤ 8 ∧ tn 0 + tn 8 ≤ 8) ∧ (∀ I_10 : tI, I_10 = (mm_z I_8 38 (va_cpy (I_8 25) (I_8 38) (tn 0) (tn 0) (tn 8))) → (Er X (d + 1) M_X1_allComesOut 11 [some (.ref 36), some (.int v1), some (.int v2), some (.int (v3 + 1))] [] I_10 J_9 (qI P))))))) ∧ (¬ (x_7 ≠ 0) → (P 0 I_8 J_9)))))))) : Er X (d + 1) M_X1_allComesOut 11 [some (.ref 36), some (.int v1), some (.int v2), some (.int v3)] [] I J (qI P) := by
  refine e_l rfl rfl rfl ?_
  refine e_l rfl rfl rfl ?_
  refine e_b rfl rfl rfl (fun hA => ?_) (fun hA => ?_)
  · replace T := T.1 hA
    refine e_k rfl rfl rfl ic_1 ?_
    exact e_rz rfl rfl (by decide) ⟨_, rfl, T⟩
  · replace T := T.2 hA
    refine e_l rfl rfl rfl ?_
    refine e_gr rfl (g_36) rfl (r_36_2) ?_
    refine e_l rfl rfl rfl ?_
    refine e_cvV (as := [.int v3]) (rs := []) rfl rfl (g_23) rfl T (fun I_2 J_3 T => ?_)
    try dsimp only at T
    refine e_l rfl rfl rfl ?_
    refine e_gr rfl (g_36) rfl (r_36_2) ?_
    refine e_l rfl rfl rfl ?_
    refine e_k rfl rfl rfl ic_0 ?_
    refine e_cvV (as := [.int v3, .int 0]) (rs := []) rfl rfl (g_23) rfl T (fun I_5 J_6 T => ?_)
    try dsimp only at T
    refine e_l rfl rfl rfl ?_
    refine e_gr rfl (g_36) rfl (r_36_1) ?_
    refine e_l rfl rfl rfl ?_
    refine e_gr rfl (g_36) rfl (r_36_2) ?_
    refine e_l rfl rfl rfl ?_
    refine e_cvI (as := [.ref 23, .int v3]) (rs := []) rfl rfl (g_32) rfl T (fun x_7 I_8 J_9 T => ?_)
    try dsimp only at T
    refine e_b rfl rfl rfl (fun hA => ?_) (fun hA => ?_)
    · replace T := T.1 hA
      refine e_l rfl rfl rfl ?_
      refine e_l rfl rfl rfl ?_
      refine e_b rfl rfl rfl (fun hA => ?_) (fun hA => ?_)
      · replace T := T.1 hA
        refine e_ic (v := (v3 + 1)) (L' := [some (.ref 36), some (.int v1), some (.int v2), some (.int (v3 + 1))]) rfl rfl rfl ic_1 rfl ?_
        refine e_g rfl ?_
        exact T
      · replace T := T.2 hA
        refine e_l rfl rfl rfl ?_
        refine e_gr rfl (g_36) rfl (r_36_2) ?_
        refine e_gr rfl (g_23) rfl (r_23_2) ?_
        refine e_k rfl rfl rfl ic_0 ?_
        refine e_l rfl rfl rfl ?_
        refine e_gr rfl (g_36) rfl (r_36_5) ?_
        refine e_k rfl rfl rfl ic_0 ?_
        refine e_k rfl rfl rfl ib_8 ?_
        refine e_cp2 rfl (Nat.le_of_ble_eq_true rfl) (g_25) (g_38) T.1 (fun I_10 hI_10 => ?_)
        replace T := T.2 I_10 hI_10
        refine e_ic (v := (v3 + 1)) (L' := [some (.ref 36), some (.int v1), some (.int v2), some (.int (v3 + 1))]) rfl rfl rfl ic_1 rfl ?_
        refine e_g rfl ?_
        exact T
    · replace T := T.2 hA
      refine e_k rfl rfl rfl ic_0 ?_
      exact e_rz rfl rfl (by decide) ⟨_, rfl, T⟩
set_option maxRecDepth 10000 in
set_option maxHeartbeats 4000000 in
theorem vc_X2_bringUpToDate {X : mm_X} {d : Nat} {I : tI} {J : tJ} {P : tI → tJ → Prop}   (T : ((I 11 5) = 0 → (EV X d n_X0_begin [.ref 15] I J (fun I_2 J_3 => Er X (d + 1) M_X2_bringUpToDate 9 [some (.ref 11), some (.int 0)] [] I_2 J_3 (qV P)))) ∧ (¬ ((I 11 5) = 0) → (P I J))) : EV X (d + 1) n_X2_bringUpToDate [.ref 11] I J P := by
  refine ⟨M_X2_bringUpToDate, tb_X2_bringUpToDate, Nat.le_of_ble_eq_true rfl, ?_⟩
  show Er X (d + 1) M_X2_bringUpToDate 0 [some (.ref 11), none] [] I J (qV P)
  refine e_l rfl rfl rfl ?_
  refine e_gi rfl (g_11) (by decide) ?_
  refine e_b rfl rfl rfl (fun hA => ?_) (fun hA => ?_)
  · replace T := T.1 hA
    refine e_l rfl rfl rfl ?_
    refine e_gr rfl (g_11) rfl (r_11_1) ?_
    refine e_cvV (as := []) (rs := []) rfl rfl (g_15) rfl T (fun I_2 J_3 T => ?_)
    try dsimp only at T
    refine e_k rfl rfl rfl ic_0 ?_
    refine e_l (L' := [some (.ref 11), some (.int 0)]) rfl rfl rfl ?_
    exact T
  · replace T := T.2 hA
    exact e_rv rfl rfl ⟨rfl, T⟩
set_option maxRecDepth 10000 in
set_option maxHeartbeats 4000000 in
theorem vc_X2_bringUpToDate_9 {X : mm_X} {d : Nat} {I : tI} {J : tJ} {P : tI → tJ → Prop} {v1 : Int32}  (T : (30 ≤ v1 → (P (mm_u I 11 5 1) J)) ∧ (¬ (30 ≤ v1) → (EV X d n_X0_untilButters [.ref 15, .int v1] I J (fun I_2 J_3 => EV X d n_X0_fromButters [.ref 15, .int v1, .int 0] I_2 J_3 (fun I_5 J_6 => (¬ (0 : Int32) < 0 ∧ ¬ (v1 * 8) < 0 ∧ ¬ (8 : Int32) < 0 ∧ tn 0 + tn 8 ≤ 8 ∧ tn (v1 * 8) + tn 8 ≤ 240) ∧ (∀ I_7 : tI, I_7 = (mm_z I_5 12 (va_cpy (I_5 16) (I_5 12) (tn 0) (tn (v1 * 8)) (tn 8))) → ((¬ (0 : Int32) < 0 ∧ ¬ (v1 * 8) < 0 ∧ ¬ (8 : Int32) < 0 ∧ tn 0 + tn 8 ≤ 8 ∧ tn (v1 * 8) + tn 8 ≤ 240) ∧ (∀ I_8 : tI, I_8 = (mm_z I_7 13 (va_cpy (I_7 17) (I_7 13) (tn 0) (tn (v1 * 8)) (tn 8))) → (ix v1 30 ∧ (Er X (d + 1) M_X2_bringUpToDate 9 [some (.ref 11), some (.int (v1 + 1))] [] (mm_u I_8 14 (tn v1) (I_8 15 8)) J_6 (qV P))))))))))) : Er X (d + 1) M_X2_bringUpToDate 9 [some (.ref 11), some (.int v1)] [] I J (qV P) := by
  refine e_l rfl rfl rfl ?_
  refine e_k rfl rfl rfl ib_30 ?_
  refine e_b rfl rfl rfl (fun hA => ?_) (fun hA => ?_)
  · replace T := T.1 hA
    refine e_l rfl rfl rfl ?_
    refine e_k rfl rfl rfl ic_1 ?_
    refine e_pb rfl (g_11) rfl (by decide) ?_
    exact e_rv rfl rfl ⟨rfl, T⟩
  · replace T := T.2 hA
    refine e_l rfl rfl rfl ?_
    refine e_gr rfl (g_11) rfl (r_11_1) ?_
    refine e_l rfl rfl rfl ?_
    refine e_cvV (as := [.int v1]) (rs := []) rfl rfl (g_15) rfl T (fun I_2 J_3 T => ?_)
    try dsimp only at T
    refine e_l rfl rfl rfl ?_
    refine e_gr rfl (g_11) rfl (r_11_1) ?_
    refine e_l rfl rfl rfl ?_
    refine e_k rfl rfl rfl ic_0 ?_
    refine e_cvV (as := [.int v1, .int 0]) (rs := []) rfl rfl (g_15) rfl T (fun I_5 J_6 T => ?_)
    try dsimp only at T
    refine e_l rfl rfl rfl ?_
    refine e_gr rfl (g_11) rfl (r_11_1) ?_
    refine e_gr rfl (g_15) rfl (r_15_1) ?_
    refine e_k rfl rfl rfl ic_0 ?_
    refine e_l rfl rfl rfl ?_
    refine e_gr rfl (g_11) rfl (r_11_2) ?_
    refine e_l rfl rfl rfl ?_
    refine e_k rfl rfl rfl ib_8 ?_
    refine e_p rfl rfl rfl ?_
    refine e_k rfl rfl rfl ib_8 ?_
    refine e_cp2 rfl (Nat.le_of_ble_eq_true rfl) (g_16) (g_12) T.1 (fun I_7 hI_7 => ?_)
    replace T := T.2 I_7 hI_7
    refine e_l rfl rfl rfl ?_
    refine e_gr rfl (g_11) rfl (r_11_1) ?_
    refine e_gr rfl (g_15) rfl (r_15_2) ?_
    refine e_k rfl rfl rfl ic_0 ?_
    refine e_l rfl rfl rfl ?_
    refine e_gr rfl (g_11) rfl (r_11_3) ?_
    refine e_l rfl rfl rfl ?_
    refine e_k rfl rfl rfl ib_8 ?_
    refine e_p rfl rfl rfl ?_
    refine e_k rfl rfl rfl ib_8 ?_
    refine e_cp2 rfl (Nat.le_of_ble_eq_true rfl) (g_17) (g_13) T.1 (fun I_8 hI_8 => ?_)
    replace T := T.2 I_8 hI_8
    refine e_l rfl rfl rfl ?_
    refine e_gr rfl (g_11) rfl (r_11_4) ?_
    refine e_l rfl rfl rfl ?_
    refine e_l rfl rfl rfl ?_
    refine e_gr rfl (g_11) rfl (r_11_1) ?_
    refine e_gi rfl (g_15) (by decide) ?_
    refine e_as rfl (g_14) T.1 ?_
    replace T := T.2
    refine e_ic (v := (v1 + 1)) (L' := [some (.ref 11), some (.int (v1 + 1))]) rfl rfl rfl ic_1 rfl ?_
    refine e_g rfl ?_
    exact T
set_option maxRecDepth 10000 in
set_option maxHeartbeats 4000000 in
theorem vc_X2_leastLeaning {X : mm_X} {d : Nat} {I : tI} {J : tJ} {P : Int32 → tI → tJ → Prop} {v1 : Int32}  (T : Er X d M_X2_leastLeaning 2 [some (.ref 11), some (.int v1), some (.int 0)] [] I J (qI P)) : EI X d n_X2_leastLeaning [.ref 11, .int v1] I J P := by
  refine ⟨M_X2_leastLeaning, tb_X2_leastLeaning, Nat.le_of_ble_eq_true rfl, ?_⟩
  show Er X d M_X2_leastLeaning 0 [some (.ref 11), some (.int v1), none] [] I J (qI P)
  refine e_k rfl rfl rfl ic_0 ?_
  refine e_l (L' := [some (.ref 11), some (.int v1), some (.int 0)]) rfl rfl rfl ?_
  exact T
set_option maxRecDepth 10000 in
set_option maxHeartbeats 4000000 in
theorem vc_X2_leastLeaning_2 {X : mm_X} {d : Nat} {I : tI} {J : tJ} {P : Int32 → tI → tJ → Prop} {v1 : Int32} {v2 : Int32}  (T : ((I 2 2) ≤ v2 → (P (-1) I J)) ∧ (¬ ((I 2 2) ≤ v2) → (ix ((v1 * 8) + v2) 240 ∧ (((I 13 (tn ((v1 * 8) + v2))) ≠ 0 → (Er X d M_X2_leastLeaning 2 [some (.ref 11), some (.int v1), some (.int (v2 + 1))] [] I J (qI P))) ∧ (¬ ((I 13 (tn ((v1 * 8) + v2))) ≠ 0) → (P v2 I J)))))) : Er X d M_X2_leastLeaning 2 [some (.ref 11), some (.int v1), some (.int v2)] [] I J (qI P) := by
  refine e_l rfl rfl rfl ?_
  refine e_l rfl rfl rfl ?_
  refine e_gr rfl (g_11) rfl (r_11_0) ?_
  refine e_gi rfl (g_2) (by decide) ?_
  refine e_b rfl rfl rfl (fun hA => ?_) (fun hA => ?_)
  · replace T := T.1 hA
    refine e_k rfl rfl rfl ic_m1 ?_
    exact e_ri rfl rfl ⟨_, rfl, T⟩
  · replace T := T.2 hA
    refine e_l rfl rfl rfl ?_
    refine e_gr rfl (g_11) rfl (r_11_3) ?_
    refine e_l rfl rfl rfl ?_
    refine e_k rfl rfl rfl ib_8 ?_
    refine e_p rfl rfl rfl ?_
    refine e_l rfl rfl rfl ?_
    refine e_p rfl rfl rfl ?_
    refine e_ia rfl (g_13) T.1 ?_
    replace T := T.2
    refine e_b rfl rfl rfl (fun hA => ?_) (fun hA => ?_)
    · replace T := T.1 hA
      refine e_ic (v := (v2 + 1)) (L' := [some (.ref 11), some (.int v1), some (.int (v2 + 1))]) rfl rfl rfl ic_1 rfl ?_
      refine e_g rfl ?_
      exact T
    · replace T := T.2 hA
      refine e_l rfl rfl rfl ?_
      exact e_ri rfl rfl ⟨_, rfl, T⟩
set_option maxRecDepth 10000 in
set_option maxHeartbeats 4000000 in
theorem vc_X3_draw {X : mm_X} {d : Nat} {I : tI} {J : tJ} {P : tI → tJ → Prop} {v1 : Int32}  (T : (¬ (0 : Int32) < 0 ∧ ¬ (0 : Int32) < 0 ∧ ¬ (8 : Int32) < 0 ∧ tn 0 + tn 8 ≤ 8 ∧ tn 0 + tn 8 ≤ 8) ∧ (∀ I_1 : tI, I_1 = (mm_z I 131 (va_cpy (I 5) (I 131) (tn 0) (tn 0) (tn 8))) → (Er X (d + 1) M_X3_draw 13 [some (.ref 130), some (.int v1), some (.int v1), some (.int 0)] [] I_1 J (qV P)))) : EV X (d + 1) n_X3_draw [.ref 130, .int v1] I J P := by
  refine ⟨M_X3_draw, tb_X3_draw, Nat.le_of_ble_eq_true rfl, ?_⟩
  show Er X (d + 1) M_X3_draw 0 [some (.ref 130), some (.int v1), none, none] [] I J (qV P)
  refine e_l rfl rfl rfl ?_
  refine e_gr rfl (g_130) rfl (r_130_0) ?_
  refine e_gr rfl (g_2) rfl (r_2_4) ?_
  refine e_k rfl rfl rfl ic_0 ?_
  refine e_l rfl rfl rfl ?_
  refine e_gr rfl (g_130) rfl (r_130_2) ?_
  refine e_k rfl rfl rfl ic_0 ?_
  refine e_k rfl rfl rfl ib_8 ?_
  refine e_cp2 rfl (Nat.le_of_ble_eq_true rfl) (g_5) (g_131) T.1 (fun I_1 hI_1 => ?_)
  replace T := T.2 I_1 hI_1
  refine e_l rfl rfl rfl ?_
  refine e_l (L' := [some (.ref 130), some (.int v1), some (.int v1), none]) rfl rfl rfl ?_
  refine e_k rfl rfl rfl ic_0 ?_
  refine e_l (L' := [some (.ref 130), some (.int v1), some (.int v1), some (.int 0)]) rfl rfl rfl ?_
  exact T
set_option maxRecDepth 10000 in
set_option maxHeartbeats 4000000 in
theorem vc_X3_draw_13 {X : mm_X} {d : Nat} {I : tI} {J : tJ} {P : tI → tJ → Prop} {v1 : Int32} {v2 : Int32} {v3 : Int32}  (T : ((I 2 2) ≤ v3 → (EV X d n_X0_goThrough [.ref 23] I J (fun I_2 J_3 => (¬ (0 : Int32) < 0 ∧ ¬ (0 : Int32) < 0 ∧ ¬ (8 : Int32) < 0 ∧ tn 0 + tn 8 ≤ 8 ∧ tn 0 + tn 8 ≤ 8) ∧ (∀ I_4 : tI, I_4 = (mm_z I_2 5 (va_cpy (I_2 131) (I_2 5) (tn 0) (tn 0) (tn 8))) → (EI X d n_X3_howManyAre [.ref 130, .int 2] I_4 J_3 (fun x_5 I_6 J_7 => EI X d n_X3_howManyAre [.ref 130, .int 3] (mm_u I_6 130 3 x_5) J_7 (fun x_8 I_9 J_10 => P (mm_u I_9 130 4 x_8) J_10))))))) ∧ (¬ ((I 2 2) ≤ v3) → (∀ y2_11 : Int32, y2_11 = ((1103515245 * v2) + 12345) → (ix v3 8 ∧ (Er X (d + 1) M_X3_draw 13 [some (.ref 130), some (.int v1), some (.int y2_11), some (.int (v3 + 1))] [] (mm_u I 5 (tn v3) (((y2_11).toUInt32 >>> ((16 : Int32).toUInt32 &&& Int32.toUInt32 31)).toInt32 - ((y2_11).toUInt32 >>> ((16 : Int32).toUInt32 &&& Int32.toUInt32 31)).toInt32 / 100 * 100)) J (qV P)))))) : Er X (d + 1) M_X3_draw 13 [some (.ref 130), some (.int v1), some (.int v2), some (.int v3)] [] I J (qV P) := by
  refine e_l rfl rfl rfl ?_
  refine e_l rfl rfl rfl ?_
  refine e_gr rfl (g_130) rfl (r_130_0) ?_
  refine e_gi rfl (g_2) (by decide) ?_
  refine e_b rfl rfl rfl (fun hA => ?_) (fun hA => ?_)
  · replace T := T.1 hA
    refine e_l rfl rfl rfl ?_
    refine e_gr rfl (g_130) rfl (r_130_1) ?_
    refine e_cvV (as := []) (rs := []) rfl rfl (g_23) rfl T (fun I_2 J_3 T => ?_)
    try dsimp only at T
    refine e_l rfl rfl rfl ?_
    refine e_gr rfl (g_130) rfl (r_130_2) ?_
    refine e_k rfl rfl rfl ic_0 ?_
    refine e_l rfl rfl rfl ?_
    refine e_gr rfl (g_130) rfl (r_130_0) ?_
    refine e_gr rfl (g_2) rfl (r_2_4) ?_
    refine e_k rfl rfl rfl ic_0 ?_
    refine e_k rfl rfl rfl ib_8 ?_
    refine e_cp2 rfl (Nat.le_of_ble_eq_true rfl) (g_131) (g_5) T.1 (fun I_4 hI_4 => ?_)
    replace T := T.2 I_4 hI_4
    refine e_l rfl rfl rfl ?_
    refine e_l rfl rfl rfl ?_
    refine e_k rfl rfl rfl ic_2 ?_
    refine e_cvI (as := [.int 2]) (rs := [.ref 130]) rfl rfl (g_130) rfl T (fun x_5 I_6 J_7 T => ?_)
    try dsimp only at T
    refine e_pi rfl (g_130) rfl ?_
    refine e_l rfl rfl rfl ?_
    refine e_l rfl rfl rfl ?_
    refine e_k rfl rfl rfl ic_3 ?_
    refine e_cvI (as := [.int 3]) (rs := [.ref 130]) rfl rfl (g_130) rfl T (fun x_8 I_9 J_10 T => ?_)
    try dsimp only at T
    refine e_pi rfl (g_130) rfl ?_
    exact e_rv rfl rfl ⟨rfl, T⟩
  · replace T := T.2 hA
    refine e_k rfl rfl rfl ik_1103515245 ?_
    refine e_l rfl rfl rfl ?_
    refine e_p rfl rfl rfl ?_
    refine e_k rfl rfl rfl is_12345 ?_
    refine e_p rfl rfl rfl ?_
    refine e_si (Lf := fun y2_11 => [some (.ref 130), some (.int v1), some (.int y2_11), some (.int v3)]) rfl rfl rfl (fun y2_11 hy2_11 => ?_)
    replace T := T y2_11 hy2_11
    refine e_l rfl rfl rfl ?_
    refine e_gr rfl (g_130) rfl (r_130_0) ?_
    refine e_gr rfl (g_2) rfl (r_2_4) ?_
    refine e_l rfl rfl rfl ?_
    refine e_l rfl rfl rfl ?_
    refine e_k rfl rfl rfl ib_16 ?_
    refine e_p rfl rfl rfl ?_
    refine e_k rfl rfl rfl ib_100 ?_
    refine e_rm rfl (by decide) ?_
    refine e_as rfl (g_5) T.1 ?_
    replace T := T.2
    refine e_ic (v := (v3 + 1)) (L' := [some (.ref 130), some (.int v1), some (.int y2_11), some (.int (v3 + 1))]) rfl rfl rfl ic_1 rfl ?_
    refine e_g rfl ?_
    exact T
set_option maxRecDepth 10000 in
set_option maxHeartbeats 4000000 in
theorem vc_X3_howManyAre {X : mm_X} {d : Nat} {I : tI} {J : tJ} {P : Int32 → tI → tJ → Prop} {v1 : Int32}  (T : Er X d M_X3_howManyAre 4 [some (.ref 130), some (.int v1), some (.int 0), some (.int 0)] [] I J (qI P)) : EI X d n_X3_howManyAre [.ref 130, .int v1] I J P := by
  refine ⟨M_X3_howManyAre, tb_X3_howManyAre, Nat.le_of_ble_eq_true rfl, ?_⟩
  show Er X d M_X3_howManyAre 0 [some (.ref 130), some (.int v1), none, none] [] I J (qI P)
  refine e_k rfl rfl rfl ic_0 ?_
  refine e_l (L' := [some (.ref 130), some (.int v1), some (.int 0), none]) rfl rfl rfl ?_
  refine e_k rfl rfl rfl ic_0 ?_
  refine e_l (L' := [some (.ref 130), some (.int v1), some (.int 0), some (.int 0)]) rfl rfl rfl ?_
  exact T
set_option maxRecDepth 10000 in
set_option maxHeartbeats 4000000 in
theorem vc_X3_howManyAre_4 {X : mm_X} {d : Nat} {I : tI} {J : tJ} {P : Int32 → tI → tJ → Prop} {v1 : Int32} {v2 : Int32} {v3 : Int32}  (T : ((I 2 2) ≤ v3 → (P v2 I J)) ∧ (¬ ((I 2 2) ≤ v3) → (ix v3 8 ∧ (((I 25 (tn v3)) ≠ v1 → (Er X d M_X3_howManyAre 4 [some (.ref 130), some (.int v1), some (.int v2), some (.int (v3 + 1))] [] I J (qI P))) ∧ (¬ ((I 25 (tn v3)) ≠ v1) → (Er X d M_X3_howManyAre 4 [some (.ref 130), some (.int v1), some (.int (v2 + 1)), some (.int (v3 + 1))] [] I J (qI P))))))) : Er X d M_X3_howManyAre 4 [some (.ref 130), some (.int v1), some (.int v2), some (.int v3)] [] I J (qI P) := by
  refine e_l rfl rfl rfl ?_
  refine e_l rfl rfl rfl ?_
  refine e_gr rfl (g_130) rfl (r_130_0) ?_
  refine e_gi rfl (g_2) (by decide) ?_
  refine e_b rfl rfl rfl (fun hA => ?_) (fun hA => ?_)
  · replace T := T.1 hA
    refine e_l rfl rfl rfl ?_
    exact e_ri rfl rfl ⟨_, rfl, T⟩
  · replace T := T.2 hA
    refine e_l rfl rfl rfl ?_
    refine e_gr rfl (g_130) rfl (r_130_1) ?_
    refine e_gr rfl (g_23) rfl (r_23_2) ?_
    refine e_l rfl rfl rfl ?_
    refine e_ia rfl (g_25) T.1 ?_
    replace T := T.2
    refine e_l rfl rfl rfl ?_
    refine e_b rfl rfl rfl (fun hA => ?_) (fun hA => ?_)
    · replace T := T.1 hA
      refine e_ic (v := (v3 + 1)) (L' := [some (.ref 130), some (.int v1), some (.int v2), some (.int (v3 + 1))]) rfl rfl rfl ic_1 rfl ?_
      refine e_g rfl ?_
      exact T
    · replace T := T.2 hA
      refine e_ic (v := (v2 + 1)) (L' := [some (.ref 130), some (.int v1), some (.int (v2 + 1)), some (.int v3)]) rfl rfl rfl ic_1 rfl ?_
      refine e_ic (v := (v3 + 1)) (L' := [some (.ref 130), some (.int v1), some (.int (v2 + 1)), some (.int (v3 + 1))]) rfl rfl rfl ic_1 rfl ?_
      refine e_g rfl ?_
      exact T
set_option maxRecDepth 10000 in
set_option maxHeartbeats 4000000 in
theorem vc_X4_findMove {X : mm_X} {d : Nat} {I : tI} {J : tJ} {P : tI → tJ → Prop} {v1 : Int32}  (T : ix v1 8 ∧ (∀ y2_1 : Int32, y2_1 = ((mm_u (mm_u I 31 2 (-1)) 31 3 (-1)) 6 (tn v1)) → (Er X (d + 1) M_X4_findMove 16 [some (.ref 31), some (.int v1), some (.int y2_1), some (.int 30), some (.int 0), none] [] (mm_u (mm_u I 31 2 (-1)) 31 3 (-1)) J (qV P)))) : EV X (d + 1) n_X4_findMove [.ref 31, .int v1] I J P := by
  refine ⟨M_X4_findMove, tb_X4_findMove, Nat.le_of_ble_eq_true rfl, ?_⟩
  show Er X (d + 1) M_X4_findMove 0 [some (.ref 31), some (.int v1), none, none, none, none] [] I J (qV P)
  refine e_l rfl rfl rfl ?_
  refine e_k rfl rfl rfl ic_m1 ?_
  refine e_pi rfl (g_31) rfl ?_
  refine e_l rfl rfl rfl ?_
  refine e_k rfl rfl rfl ic_m1 ?_
  refine e_pi rfl (g_31) rfl ?_
  refine e_l rfl rfl rfl ?_
  refine e_gr rfl (g_31) rfl (r_31_0) ?_
  refine e_gr rfl (g_2) rfl (r_2_5) ?_
  refine e_l rfl rfl rfl ?_
  refine e_ia rfl (g_6) T.1 ?_
  replace T := T.2
  refine e_si (Lf := fun y2_1 => [some (.ref 31), some (.int v1), some (.int y2_1), none, none, none]) rfl rfl rfl (fun y2_1 hy2_1 => ?_)
  replace T := T y2_1 hy2_1
  refine e_k rfl rfl rfl ib_30 ?_
  refine e_l (L' := [some (.ref 31), some (.int v1), some (.int y2_1), some (.int 30), none, none]) rfl rfl rfl ?_
  refine e_k rfl rfl rfl ic_0 ?_
  refine e_l (L' := [some (.ref 31), some (.int v1), some (.int y2_1), some (.int 30), some (.int 0), none]) rfl rfl rfl ?_
  exact T
set_option maxRecDepth 10000 in
set_option maxHeartbeats 4000000 in
theorem vc_X4_findMove_16 {X : mm_X} {d : Nat} {I : tI} {J : tJ} {P : tI → tJ → Prop} {v1 : Int32} {v2 : Int32} {v3 : Int32} {v4 : Int32} {o5 : Option Value}  (T : ((I 2 0) ≤ v4 → (ix v1 8 ∧ (P (mm_u I 6 (tn v1) v2) J))) ∧ (¬ ((I 2 0) ≤ v4) → (ix v1 8 ∧ (EI X d n_X4_letGoBefore [.ref 31, .int v1, .int v3] (mm_u I 6 (tn v1) v4) J (fun x_1 I_2 J_3 => (x_1 = (-1) → (Er X (d + 1) M_X4_findMove 16 [some (.ref 31), some (.int v1), some (.int v2), some (.int v3), some (.int (v4 + 1)), some (.int x_1)] [] I_2 J_3 (qV P))) ∧ (¬ (x_1 = (-1)) → (Er X (d + 1) M_X4_findMove 16 [some (.ref 31), some (.int v1), some (.int v2), some (.int x_1), some (.int (v4 + 1)), some (.int x_1)] [] (mm_u (mm_u I_2 31 2 v4) 31 3 x_1) J_3 (qV P)))))))) : Er X (d + 1) M_X4_findMove 16 [some (.ref 31), some (.int v1), some (.int v2), some (.int v3), some (.int v4), o5] [] I J (qV P) := by
  refine e_l rfl rfl rfl ?_
  refine e_l rfl rfl rfl ?_
  refine e_gr rfl (g_31) rfl (r_31_0) ?_
  refine e_gi rfl (g_2) (by decide) ?_
  refine e_b rfl rfl rfl (fun hA => ?_) (fun hA => ?_)
  · replace T := T.1 hA
    refine e_l rfl rfl rfl ?_
    refine e_gr rfl (g_31) rfl (r_31_0) ?_
    refine e_gr rfl (g_2) rfl (r_2_5) ?_
    refine e_l rfl rfl rfl ?_
    refine e_l rfl rfl rfl ?_
    refine e_as rfl (g_6) T.1 ?_
    replace T := T.2
    exact e_rv rfl rfl ⟨rfl, T⟩
  · replace T := T.2 hA
    refine e_l rfl rfl rfl ?_
    refine e_gr rfl (g_31) rfl (r_31_0) ?_
    refine e_gr rfl (g_2) rfl (r_2_5) ?_
    refine e_l rfl rfl rfl ?_
    refine e_l rfl rfl rfl ?_
    refine e_as rfl (g_6) T.1 ?_
    replace T := T.2
    refine e_l rfl rfl rfl ?_
    refine e_l rfl rfl rfl ?_
    refine e_l rfl rfl rfl ?_
    refine e_cvI (as := [.int v1, .int v3]) (rs := []) rfl rfl (g_31) rfl T (fun x_1 I_2 J_3 T => ?_)
    try dsimp only at T
    refine e_l (L' := [some (.ref 31), some (.int v1), some (.int v2), some (.int v3), some (.int v4), some (.int x_1)]) rfl rfl rfl ?_
    refine e_l rfl rfl rfl ?_
    refine e_k rfl rfl rfl ic_m1 ?_
    refine e_b rfl rfl rfl (fun hA => ?_) (fun hA => ?_)
    · replace T := T.1 hA
      refine e_ic (v := (v4 + 1)) (L' := [some (.ref 31), some (.int v1), some (.int v2), some (.int v3), some (.int (v4 + 1)), some (.int x_1)]) rfl rfl rfl ic_1 rfl ?_
      refine e_g rfl ?_
      exact T
    · replace T := T.2 hA
      refine e_l rfl rfl rfl ?_
      refine e_l rfl rfl rfl ?_
      refine e_pi rfl (g_31) rfl ?_
      refine e_l rfl rfl rfl ?_
      refine e_l rfl rfl rfl ?_
      refine e_pi rfl (g_31) rfl ?_
      refine e_l rfl rfl rfl ?_
      refine e_l (L' := [some (.ref 31), some (.int v1), some (.int v2), some (.int x_1), some (.int v4), some (.int x_1)]) rfl rfl rfl ?_
      refine e_ic (v := (v4 + 1)) (L' := [some (.ref 31), some (.int v1), some (.int v2), some (.int x_1), some (.int (v4 + 1)), some (.int x_1)]) rfl rfl rfl ic_1 rfl ?_
      refine e_g rfl ?_
      exact T
set_option maxRecDepth 10000 in
set_option maxHeartbeats 4000000 in
theorem vc_X4_letGoBefore {X : mm_X} {d : Nat} {I : tI} {J : tJ} {P : Int32 → tI → tJ → Prop} {v1 : Int32} {v2 : Int32}  (T : EV X d n_X0_begin [.ref 23] I J (fun I_2 J_3 => Er X (d + 1) M_X4_letGoBefore 5 [some (.ref 31), some (.int v1), some (.int v2), some (.int 0)] [] I_2 J_3 (qI P))) : EI X (d + 1) n_X4_letGoBefore [.ref 31, .int v1, .int v2] I J P := by
  refine ⟨M_X4_letGoBefore, tb_X4_letGoBefore, Nat.le_of_ble_eq_true rfl, ?_⟩
  show Er X (d + 1) M_X4_letGoBefore 0 [some (.ref 31), some (.int v1), some (.int v2), none] [] I J (qI P)
  refine e_l rfl rfl rfl ?_
  refine e_gr rfl (g_31) rfl (r_31_1) ?_
  refine e_cvV (as := []) (rs := []) rfl rfl (g_23) rfl T (fun I_2 J_3 T => ?_)
  try dsimp only at T
  refine e_k rfl rfl rfl ic_0 ?_
  refine e_l (L' := [some (.ref 31), some (.int v1), some (.int v2), some (.int 0)]) rfl rfl rfl ?_
  exact T
set_option maxRecDepth 10000 in
set_option maxHeartbeats 4000000 in
theorem vc_X4_letGoBefore_5 {X : mm_X} {d : Nat} {I : tI} {J : tJ} {P : Int32 → tI → tJ → Prop} {v1 : Int32} {v2 : Int32} {v3 : Int32}  (T : (v2 ≤ v3 → (ix v1 8 ∧ (P (I 28 (tn v1)) I J))) ∧ (¬ (v2 ≤ v3) → (ix v1 8 ∧ (((I 28 (tn v1)) ≠ (-1) → (ix v1 8 ∧ (P (I 28 (tn v1)) I J))) ∧ (¬ ((I 28 (tn v1)) ≠ (-1)) → (EV X d n_X0_untilButters [.ref 23, .int v3] I J (fun I_2 J_3 => EV X d n_X0_fromButters [.ref 23, .int v3, .int 0] I_2 J_3 (fun I_5 J_6 => Er X (d + 1) M_X4_letGoBefore 5 [some (.ref 31), some (.int v1), some (.int v2), some (.int (v3 + 1))] [] I_5 J_6 (qI P))))))))) : Er X (d + 1) M_X4_letGoBefore 5 [some (.ref 31), some (.int v1), some (.int v2), some (.int v3)] [] I J (qI P) := by
  refine e_l rfl rfl rfl ?_
  refine e_l rfl rfl rfl ?_
  refine e_b rfl rfl rfl (fun hA => ?_) (fun hA => ?_)
  · replace T := T.1 hA
    refine e_l rfl rfl rfl ?_
    refine e_gr rfl (g_31) rfl (r_31_1) ?_
    refine e_gr rfl (g_23) rfl (r_23_5) ?_
    refine e_l rfl rfl rfl ?_
    refine e_ia rfl (g_28) T.1 ?_
    replace T := T.2
    exact e_ri rfl rfl ⟨_, rfl, T⟩
  · replace T := T.2 hA
    refine e_l rfl rfl rfl ?_
    refine e_gr rfl (g_31) rfl (r_31_1) ?_
    refine e_gr rfl (g_23) rfl (r_23_5) ?_
    refine e_l rfl rfl rfl ?_
    refine e_ia rfl (g_28) T.1 ?_
    replace T := T.2
    refine e_k rfl rfl rfl ic_m1 ?_
    refine e_b rfl rfl rfl (fun hA => ?_) (fun hA => ?_)
    · replace T := T.1 hA
      refine e_l rfl rfl rfl ?_
      refine e_gr rfl (g_31) rfl (r_31_1) ?_
      refine e_gr rfl (g_23) rfl (r_23_5) ?_
      refine e_l rfl rfl rfl ?_
      refine e_ia rfl (g_28) T.1 ?_
      replace T := T.2
      exact e_ri rfl rfl ⟨_, rfl, T⟩
    · replace T := T.2 hA
      refine e_l rfl rfl rfl ?_
      refine e_gr rfl (g_31) rfl (r_31_1) ?_
      refine e_l rfl rfl rfl ?_
      refine e_cvV (as := [.int v3]) (rs := []) rfl rfl (g_23) rfl T (fun I_2 J_3 T => ?_)
      try dsimp only at T
      refine e_l rfl rfl rfl ?_
      refine e_gr rfl (g_31) rfl (r_31_1) ?_
      refine e_l rfl rfl rfl ?_
      refine e_k rfl rfl rfl ic_0 ?_
      refine e_cvV (as := [.int v3, .int 0]) (rs := []) rfl rfl (g_23) rfl T (fun I_5 J_6 T => ?_)
      try dsimp only at T
      refine e_ic (v := (v3 + 1)) (L' := [some (.ref 31), some (.int v1), some (.int v2), some (.int (v3 + 1))]) rfl rfl rfl ic_1 rfl ?_
      refine e_g rfl ?_
      exact T
set_option maxRecDepth 10000 in
set_option maxHeartbeats 4000000 in
theorem vc_X4_findSwap {X : mm_X} {d : Nat} {I : tI} {J : tJ} {P : tI → tJ → Prop}   (T : EI X d n_X4_stayOfAll [.ref 31] (mm_u (mm_u (mm_u I 31 4 (-1)) 31 5 (-1)) 31 6 (-1)) J (fun x_1 I_2 J_3 => Er X (d + 1) M_X4_findSwap 14 [some (.ref 31), some (.int x_1), some (.int 0), none, none] [] I_2 J_3 (qV P))) : EV X (d + 1) n_X4_findSwap [.ref 31] I J P := by
  refine ⟨M_X4_findSwap, tb_X4_findSwap, Nat.le_of_ble_eq_true rfl, ?_⟩
  show Er X (d + 1) M_X4_findSwap 0 [some (.ref 31), none, none, none, none] [] I J (qV P)
  refine e_l rfl rfl rfl ?_
  refine e_k rfl rfl rfl ic_m1 ?_
  refine e_pi rfl (g_31) rfl ?_
  refine e_l rfl rfl rfl ?_
  refine e_k rfl rfl rfl ic_m1 ?_
  refine e_pi rfl (g_31) rfl ?_
  refine e_l rfl rfl rfl ?_
  refine e_k rfl rfl rfl ic_m1 ?_
  refine e_pi rfl (g_31) rfl ?_
  refine e_l rfl rfl rfl ?_
  refine e_cvI (as := []) (rs := []) rfl rfl (g_31) rfl T (fun x_1 I_2 J_3 T => ?_)
  try dsimp only at T
  refine e_l (L' := [some (.ref 31), some (.int x_1), none, none, none]) rfl rfl rfl ?_
  refine e_k rfl rfl rfl ic_0 ?_
  refine e_l (L' := [some (.ref 31), some (.int x_1), some (.int 0), none, none]) rfl rfl rfl ?_
  exact T
set_option maxRecDepth 10000 in
set_option maxHeartbeats 4000000 in
theorem vc_X4_findSwap_14 {X : mm_X} {d : Nat} {I : tI} {J : tJ} {P : tI → tJ → Prop} {v1 : Int32} {v2 : Int32} {o3 : Option Value} {o4 : Option Value}  (T : ((I 2 2) ≤ v2 → (P I J)) ∧ (¬ ((I 2 2) ≤ v2) → (∀ y3_1 : Int32, y3_1 = (v2 + 1) → (Er X (d + 1) M_X4_findSwap 23 [some (.ref 31), some (.int v1), some (.int v2), some (.int y3_1), o4] [] I J (qV P))))) : Er X (d + 1) M_X4_findSwap 14 [some (.ref 31), some (.int v1), some (.int v2), o3, o4] [] I J (qV P) := by
  refine e_l rfl rfl rfl ?_
  refine e_l rfl rfl rfl ?_
  refine e_gr rfl (g_31) rfl (r_31_0) ?_
  refine e_gi rfl (g_2) (by decide) ?_
  refine e_b rfl rfl rfl (fun hA => ?_) (fun hA => ?_)
  · replace T := T.1 hA
    exact e_rv rfl rfl ⟨rfl, T⟩
  · replace T := T.2 hA
    refine e_l rfl rfl rfl ?_
    refine e_k rfl rfl rfl ic_1 ?_
    refine e_p rfl rfl rfl ?_
    refine e_si (Lf := fun y3_1 => [some (.ref 31), some (.int v1), some (.int v2), some (.int y3_1), o4]) rfl rfl rfl (fun y3_1 hy3_1 => ?_)
    replace T := T y3_1 hy3_1
    exact T
set_option maxRecDepth 10000 in
set_option maxHeartbeats 4000000 in
theorem vc_X4_findSwap_23 {X : mm_X} {d : Nat} {I : tI} {J : tJ} {P : tI → tJ → Prop} {v1 : Int32} {v2 : Int32} {v3 : Int32} {o4 : Option Value}  (T : ((I 2 2) ≤ v3 → (Er X (d + 1) M_X4_findSwap 14 [some (.ref 31), some (.int v1), some (.int (v2 + 1)), some (.int v3), o4] [] I J (qV P))) ∧ (¬ ((I 2 2) ≤ v3) → (EI X d n_X4_stayIfSwapped [.ref 31, .int v2, .int v3] I J (fun x_1 I_2 J_3 => (v1 ≤ x_1 → (Er X (d + 1) M_X4_findSwap 23 [some (.ref 31), some (.int v1), some (.int v2), some (.int (v3 + 1)), some (.int x_1)] [] I_2 J_3 (qV P))) ∧ (¬ (v1 ≤ x_1) → (Er X (d + 1) M_X4_findSwap 23 [some (.ref 31), some (.int x_1), some (.int v2), some (.int (v3 + 1)), some (.int x_1)] [] (mm_u (mm_u (mm_u I_2 31 4 v2) 31 5 v3) 31 6 x_1) J_3 (qV P))))))) : Er X (d + 1) M_X4_findSwap 23 [some (.ref 31), some (.int v1), some (.int v2), some (.int v3), o4] [] I J (qV P) := by
  refine e_l rfl rfl rfl ?_
  refine e_l rfl rfl rfl ?_
  refine e_gr rfl (g_31) rfl (r_31_0) ?_
  refine e_gi rfl (g_2) (by decide) ?_
  refine e_b rfl rfl rfl (fun hA => ?_) (fun hA => ?_)
  · replace T := T.1 hA
    refine e_ic (v := (v2 + 1)) (L' := [some (.ref 31), some (.int v1), some (.int (v2 + 1)), some (.int v3), o4]) rfl rfl rfl ic_1 rfl ?_
    refine e_g rfl ?_
    exact T
  · replace T := T.2 hA
    refine e_l rfl rfl rfl ?_
    refine e_l rfl rfl rfl ?_
    refine e_l rfl rfl rfl ?_
    refine e_cvI (as := [.int v2, .int v3]) (rs := []) rfl rfl (g_31) rfl T (fun x_1 I_2 J_3 T => ?_)
    try dsimp only at T
    refine e_l (L' := [some (.ref 31), some (.int v1), some (.int v2), some (.int v3), some (.int x_1)]) rfl rfl rfl ?_
    refine e_l rfl rfl rfl ?_
    refine e_l rfl rfl rfl ?_
    refine e_b rfl rfl rfl (fun hA => ?_) (fun hA => ?_)
    · replace T := T.1 hA
      refine e_ic (v := (v3 + 1)) (L' := [some (.ref 31), some (.int v1), some (.int v2), some (.int (v3 + 1)), some (.int x_1)]) rfl rfl rfl ic_1 rfl ?_
      refine e_g rfl ?_
      exact T
    · replace T := T.2 hA
      refine e_l rfl rfl rfl ?_
      refine e_l (L' := [some (.ref 31), some (.int x_1), some (.int v2), some (.int v3), some (.int x_1)]) rfl rfl rfl ?_
      refine e_l rfl rfl rfl ?_
      refine e_l rfl rfl rfl ?_
      refine e_pi rfl (g_31) rfl ?_
      refine e_l rfl rfl rfl ?_
      refine e_l rfl rfl rfl ?_
      refine e_pi rfl (g_31) rfl ?_
      refine e_l rfl rfl rfl ?_
      refine e_l rfl rfl rfl ?_
      refine e_pi rfl (g_31) rfl ?_
      refine e_ic (v := (v3 + 1)) (L' := [some (.ref 31), some (.int x_1), some (.int v2), some (.int (v3 + 1)), some (.int x_1)]) rfl rfl rfl ic_1 rfl ?_
      refine e_g rfl ?_
      exact T
set_option maxRecDepth 10000 in
set_option maxHeartbeats 4000000 in
theorem vc_X4_stayIfSwapped {X : mm_X} {d : Nat} {I : tI} {J : tJ} {P : Int32 → tI → tJ → Prop} {v1 : Int32} {v2 : Int32}  (T : EV X d n_X4_changeSlots [.ref 31, .int v1, .int v2] I J (fun I_2 J_3 => EI X d n_X4_stayOfAll [.ref 31] I_2 J_3 (fun x_4 I_5 J_6 => EV X d n_X4_changeSlots [.ref 31, .int v1, .int v2] I_5 J_6 (fun I_8 J_9 => P x_4 I_8 J_9)))) : EI X (d + 1) n_X4_stayIfSwapped [.ref 31, .int v1, .int v2] I J P := by
  refine ⟨M_X4_stayIfSwapped, tb_X4_stayIfSwapped, Nat.le_of_ble_eq_true rfl, ?_⟩
  show Er X (d + 1) M_X4_stayIfSwapped 0 [some (.ref 31), some (.int v1), some (.int v2), none] [] I J (qI P)
  refine e_l rfl rfl rfl ?_
  refine e_l rfl rfl rfl ?_
  refine e_l rfl rfl rfl ?_
  refine e_cvV (as := [.int v1, .int v2]) (rs := []) rfl rfl (g_31) rfl T (fun I_2 J_3 T => ?_)
  try dsimp only at T
  refine e_l rfl rfl rfl ?_
  refine e_cvI (as := []) (rs := []) rfl rfl (g_31) rfl T (fun x_4 I_5 J_6 T => ?_)
  try dsimp only at T
  refine e_l (L' := [some (.ref 31), some (.int v1), some (.int v2), some (.int x_4)]) rfl rfl rfl ?_
  refine e_l rfl rfl rfl ?_
  refine e_l rfl rfl rfl ?_
  refine e_l rfl rfl rfl ?_
  refine e_cvV (as := [.int v1, .int v2]) (rs := []) rfl rfl (g_31) rfl T (fun I_8 J_9 T => ?_)
  try dsimp only at T
  refine e_l rfl rfl rfl ?_
  exact e_ri rfl rfl ⟨_, rfl, T⟩
set_option maxRecDepth 10000 in
set_option maxHeartbeats 4000000 in
theorem vc_X4_changeSlots {X : mm_X} {d : Nat} {I : tI} {J : tJ} {P : tI → tJ → Prop} {v1 : Int32} {v2 : Int32}  (T : ix v1 8 ∧ (∀ y3_1 : Int32, y3_1 = (I 6 (tn v1)) → (ix v2 8 ∧ (ix v1 8 ∧ (ix v2 8 ∧ (P (mm_u (mm_u I 6 (tn v1) (I 6 (tn v2))) 6 (tn v2) y3_1) J)))))) : EV X d n_X4_changeSlots [.ref 31, .int v1, .int v2] I J P := by
  refine ⟨M_X4_changeSlots, tb_X4_changeSlots, Nat.le_of_ble_eq_true rfl, ?_⟩
  show Er X d M_X4_changeSlots 0 [some (.ref 31), some (.int v1), some (.int v2), none] [] I J (qV P)
  refine e_l rfl rfl rfl ?_
  refine e_gr rfl (g_31) rfl (r_31_0) ?_
  refine e_gr rfl (g_2) rfl (r_2_5) ?_
  refine e_l rfl rfl rfl ?_
  refine e_ia rfl (g_6) T.1 ?_
  replace T := T.2
  refine e_si (Lf := fun y3_1 => [some (.ref 31), some (.int v1), some (.int v2), some (.int y3_1)]) rfl rfl rfl (fun y3_1 hy3_1 => ?_)
  replace T := T y3_1 hy3_1
  refine e_l rfl rfl rfl ?_
  refine e_gr rfl (g_31) rfl (r_31_0) ?_
  refine e_gr rfl (g_2) rfl (r_2_5) ?_
  refine e_l rfl rfl rfl ?_
  refine e_l rfl rfl rfl ?_
  refine e_gr rfl (g_31) rfl (r_31_0) ?_
  refine e_gr rfl (g_2) rfl (r_2_5) ?_
  refine e_l rfl rfl rfl ?_
  refine e_ia rfl (g_6) T.1 ?_
  replace T := T.2
  refine e_as rfl (g_6) T.1 ?_
  replace T := T.2
  refine e_l rfl rfl rfl ?_
  refine e_gr rfl (g_31) rfl (r_31_0) ?_
  refine e_gr rfl (g_2) rfl (r_2_5) ?_
  refine e_l rfl rfl rfl ?_
  refine e_l rfl rfl rfl ?_
  refine e_as rfl (g_6) T.1 ?_
  replace T := T.2
  exact e_rv rfl rfl ⟨rfl, T⟩
set_option maxRecDepth 10000 in
set_option maxHeartbeats 4000000 in
theorem vc_X4_stayOfAll {X : mm_X} {d : Nat} {I : tI} {J : tJ} {P : Int32 → tI → tJ → Prop}   (T : EV X d n_X0_begin [.ref 23] I J (fun I_2 J_3 => Er X (d + 1) M_X4_stayOfAll 7 [some (.ref 31), some (.int 0), some (.int 0)] [] I_2 J_3 (qI P))) : EI X (d + 1) n_X4_stayOfAll [.ref 31] I J P := by
  refine ⟨M_X4_stayOfAll, tb_X4_stayOfAll, Nat.le_of_ble_eq_true rfl, ?_⟩
  show Er X (d + 1) M_X4_stayOfAll 0 [some (.ref 31), none, none] [] I J (qI P)
  refine e_k rfl rfl rfl ic_0 ?_
  refine e_l (L' := [some (.ref 31), some (.int 0), none]) rfl rfl rfl ?_
  refine e_l rfl rfl rfl ?_
  refine e_gr rfl (g_31) rfl (r_31_1) ?_
  refine e_cvV (as := []) (rs := []) rfl rfl (g_23) rfl T (fun I_2 J_3 T => ?_)
  try dsimp only at T
  refine e_k rfl rfl rfl ic_0 ?_
  refine e_l (L' := [some (.ref 31), some (.int 0), some (.int 0)]) rfl rfl rfl ?_
  exact T
set_option maxRecDepth 10000 in
set_option maxHeartbeats 4000000 in
theorem vc_X4_stayOfAll_7 {X : mm_X} {d : Nat} {I : tI} {J : tJ} {P : Int32 → tI → tJ → Prop} {v1 : Int32} {v2 : Int32}  (T : (30 ≤ v2 → (P v1 I J)) ∧ (¬ (30 ≤ v2) → (EV X d n_X0_untilButters [.ref 23, .int v2] I J (fun I_2 J_3 => EV X d n_X0_fromButters [.ref 23, .int v2, .int 0] I_2 J_3 (fun I_5 J_6 => EI X d n_X0_howManyIn [.ref 23] I_5 J_6 (fun x_7 I_8 J_9 => ∀ y1_10 : Int32, y1_10 = (v1 + x_7) → (Er X (d + 1) M_X4_stayOfAll 7 [some (.ref 31), some (.int y1_10), some (.int (v2 + 1))] [] I_8 J_9 (qI P)))))))) : Er X (d + 1) M_X4_stayOfAll 7 [some (.ref 31), some (.int v1), some (.int v2)] [] I J (qI P) := by
  refine e_l rfl rfl rfl ?_
  refine e_k rfl rfl rfl ib_30 ?_
  refine e_b rfl rfl rfl (fun hA => ?_) (fun hA => ?_)
  · replace T := T.1 hA
    refine e_l rfl rfl rfl ?_
    exact e_ri rfl rfl ⟨_, rfl, T⟩
  · replace T := T.2 hA
    refine e_l rfl rfl rfl ?_
    refine e_gr rfl (g_31) rfl (r_31_1) ?_
    refine e_l rfl rfl rfl ?_
    refine e_cvV (as := [.int v2]) (rs := []) rfl rfl (g_23) rfl T (fun I_2 J_3 T => ?_)
    try dsimp only at T
    refine e_l rfl rfl rfl ?_
    refine e_gr rfl (g_31) rfl (r_31_1) ?_
    refine e_l rfl rfl rfl ?_
    refine e_k rfl rfl rfl ic_0 ?_
    refine e_cvV (as := [.int v2, .int 0]) (rs := []) rfl rfl (g_23) rfl T (fun I_5 J_6 T => ?_)
    try dsimp only at T
    refine e_l rfl rfl rfl ?_
    refine e_l rfl rfl rfl ?_
    refine e_gr rfl (g_31) rfl (r_31_1) ?_
    refine e_cvI (as := []) (rs := [.int v1]) rfl rfl (g_23) rfl T (fun x_7 I_8 J_9 T => ?_)
    try dsimp only at T
    refine e_p rfl rfl rfl ?_
    refine e_si (Lf := fun y1_10 => [some (.ref 31), some (.int y1_10), some (.int v2)]) rfl rfl rfl (fun y1_10 hy1_10 => ?_)
    replace T := T y1_10 hy1_10
    refine e_ic (v := (v2 + 1)) (L' := [some (.ref 31), some (.int y1_10), some (.int (v2 + 1))]) rfl rfl rfl ic_1 rfl ?_
    refine e_g rfl ?_
    exact T
set_option maxRecDepth 10000 in
set_option maxHeartbeats 4000000 in
theorem vc_X4_firstButterHour {X : mm_X} {d : Nat} {I : tI} {J : tJ} {P : Int32 → tI → tJ → Prop} {v1 : Int32}  (T : EV X d n_X0_begin [.ref 23] I J (fun I_2 J_3 => Er X (d + 1) M_X4_firstButterHour 5 [some (.ref 31), some (.int v1), some (.int 0)] [] I_2 J_3 (qI P))) : EI X (d + 1) n_X4_firstButterHour [.ref 31, .int v1] I J P := by
  refine ⟨M_X4_firstButterHour, tb_X4_firstButterHour, Nat.le_of_ble_eq_true rfl, ?_⟩
  show Er X (d + 1) M_X4_firstButterHour 0 [some (.ref 31), some (.int v1), none] [] I J (qI P)
  refine e_l rfl rfl rfl ?_
  refine e_gr rfl (g_31) rfl (r_31_1) ?_
  refine e_cvV (as := []) (rs := []) rfl rfl (g_23) rfl T (fun I_2 J_3 T => ?_)
  try dsimp only at T
  refine e_k rfl rfl rfl ic_0 ?_
  refine e_l (L' := [some (.ref 31), some (.int v1), some (.int 0)]) rfl rfl rfl ?_
  exact T
set_option maxRecDepth 10000 in
set_option maxHeartbeats 4000000 in
theorem vc_X4_firstButterHour_5 {X : mm_X} {d : Nat} {I : tI} {J : tJ} {P : Int32 → tI → tJ → Prop} {v1 : Int32} {v2 : Int32}  (T : (30 ≤ v2 → (P (-1) I J)) ∧ (¬ (30 ≤ v2) → (EV X d n_X0_untilButters [.ref 23, .int v2] I J (fun I_2 J_3 => EI X d n_X0_isIn [.ref 23, .int v1] I_2 J_3 (fun x_4 I_5 J_6 => (x_4 = 0 → (EV X d n_X0_fromButters [.ref 23, .int v2, .int 0] I_5 J_6 (fun I_8 J_9 => Er X (d + 1) M_X4_firstButterHour 5 [some (.ref 31), some (.int v1), some (.int (v2 + 1))] [] I_8 J_9 (qI P)))) ∧ (¬ (x_4 = 0) → (ix v1 8 ∧ (((I_5 7 (tn 2)) < (I_5 24 (tn v1)) → (EV X d n_X0_fromButters [.ref 23, .int v2, .int 0] I_5 J_6 (fun I_11 J_12 => Er X (d + 1) M_X4_firstButterHour 5 [some (.ref 31), some (.int v1), some (.int (v2 + 1))] [] I_11 J_12 (qI P)))) ∧ (¬ ((I_5 7 (tn 2)) < (I_5 24 (tn v1))) → (P v2 I_5 J_6)))))))))) : Er X (d + 1) M_X4_firstButterHour 5 [some (.ref 31), some (.int v1), some (.int v2)] [] I J (qI P) := by
  refine e_l rfl rfl rfl ?_
  refine e_k rfl rfl rfl ib_30 ?_
  refine e_b rfl rfl rfl (fun hA => ?_) (fun hA => ?_)
  · replace T := T.1 hA
    refine e_k rfl rfl rfl ic_m1 ?_
    exact e_ri rfl rfl ⟨_, rfl, T⟩
  · replace T := T.2 hA
    refine e_l rfl rfl rfl ?_
    refine e_gr rfl (g_31) rfl (r_31_1) ?_
    refine e_l rfl rfl rfl ?_
    refine e_cvV (as := [.int v2]) (rs := []) rfl rfl (g_23) rfl T (fun I_2 J_3 T => ?_)
    try dsimp only at T
    refine e_l rfl rfl rfl ?_
    refine e_gr rfl (g_31) rfl (r_31_1) ?_
    refine e_l rfl rfl rfl ?_
    refine e_cvI (as := [.int v1]) (rs := []) rfl rfl (g_23) rfl T (fun x_4 I_5 J_6 T => ?_)
    try dsimp only at T
    refine e_b rfl rfl rfl (fun hA => ?_) (fun hA => ?_)
    · replace T := T.1 hA
      refine e_l rfl rfl rfl ?_
      refine e_gr rfl (g_31) rfl (r_31_1) ?_
      refine e_l rfl rfl rfl ?_
      refine e_k rfl rfl rfl ic_0 ?_
      refine e_cvV (as := [.int v2, .int 0]) (rs := []) rfl rfl (g_23) rfl T (fun I_8 J_9 T => ?_)
      try dsimp only at T
      refine e_ic (v := (v2 + 1)) (L' := [some (.ref 31), some (.int v1), some (.int (v2 + 1))]) rfl rfl rfl ic_1 rfl ?_
      refine e_g rfl ?_
      exact T
    · replace T := T.2 hA
      refine e_l rfl rfl rfl ?_
      refine e_gr rfl (g_31) rfl (r_31_1) ?_
      refine e_gr rfl (g_23) rfl (r_23_1) ?_
      refine e_l rfl rfl rfl ?_
      refine e_ia rfl (g_24) T.1 ?_
      replace T := T.2
      refine e_l rfl rfl rfl ?_
      refine e_gr rfl (g_31) rfl (r_31_0) ?_
      refine e_gr rfl (g_2) rfl (r_2_6) ?_
      refine e_k rfl rfl rfl ic_2 ?_
      refine e_ia rfl (g_7) (by decide) ?_
      refine e_b rfl rfl rfl (fun hA => ?_) (fun hA => ?_)
      · replace T := T.1 hA
        refine e_l rfl rfl rfl ?_
        refine e_gr rfl (g_31) rfl (r_31_1) ?_
        refine e_l rfl rfl rfl ?_
        refine e_k rfl rfl rfl ic_0 ?_
        refine e_cvV (as := [.int v2, .int 0]) (rs := []) rfl rfl (g_23) rfl T (fun I_11 J_12 T => ?_)
        try dsimp only at T
        refine e_ic (v := (v2 + 1)) (L' := [some (.ref 31), some (.int v1), some (.int (v2 + 1))]) rfl rfl rfl ic_1 rfl ?_
        refine e_g rfl ?_
        exact T
      · replace T := T.2 hA
        refine e_l rfl rfl rfl ?_
        exact e_ri rfl rfl ⟨_, rfl, T⟩
set_option maxRecDepth 10000 in
set_option maxHeartbeats 4000000 in
theorem vc_X4_greatestSummer {X : mm_X} {d : Nat} {I : tI} {J : tJ} {P : Int32 → tI → tJ → Prop}   (T : ∀ y1_1 : Int32, y1_1 = (I 7 (tn 1)) → (Er X (d + 1) M_X4_greatestSummer 10 [some (.ref 31), some (.int y1_1), some (.int (-1)), some (.int 9)] [] I J (qI P))) : EI X (d + 1) n_X4_greatestSummer [.ref 31] I J P := by
  refine ⟨M_X4_greatestSummer, tb_X4_greatestSummer, Nat.le_of_ble_eq_true rfl, ?_⟩
  show Er X (d + 1) M_X4_greatestSummer 0 [some (.ref 31), none, none, none] [] I J (qI P)
  refine e_l rfl rfl rfl ?_
  refine e_gr rfl (g_31) rfl (r_31_0) ?_
  refine e_gr rfl (g_2) rfl (r_2_6) ?_
  refine e_k rfl rfl rfl ic_1 ?_
  refine e_ia rfl (g_7) (by decide) ?_
  refine e_si (Lf := fun y1_1 => [some (.ref 31), some (.int y1_1), none, none]) rfl rfl rfl (fun y1_1 hy1_1 => ?_)
  replace T := T y1_1 hy1_1
  refine e_k rfl rfl rfl ic_m1 ?_
  refine e_l (L' := [some (.ref 31), some (.int y1_1), some (.int (-1)), none]) rfl rfl rfl ?_
  refine e_k rfl rfl rfl ib_9 ?_
  refine e_l (L' := [some (.ref 31), some (.int y1_1), some (.int (-1)), some (.int 9)]) rfl rfl rfl ?_
  exact T
set_option maxRecDepth 10000 in
set_option maxHeartbeats 4000000 in
theorem vc_X4_greatestSummer_10 {X : mm_X} {d : Nat} {I : tI} {J : tJ} {P : Int32 → tI → tJ → Prop} {v1 : Int32} {v2 : Int32} {v3 : Int32}  (T : (v3 < 0 → (P v2 (mm_u I 7 (tn 1) v1) J)) ∧ (¬ (v3 < 0) → ((v2 ≠ (-1) → (P v2 (mm_u I 7 (tn 1) v1) J)) ∧ (¬ (v2 ≠ (-1)) → (EV X d n_X0_goThrough [.ref 23] (mm_u I 7 (tn 1) v3) J (fun I_2 J_3 => EI X d n_X0_howManyIn [.ref 23] I_2 J_3 (fun x_4 I_5 J_6 => (x_4 ≠ 0 → (Er X (d + 1) M_X4_greatestSummer 10 [some (.ref 31), some (.int v1), some (.int v2), some (.int (v3 + (-1)))] [] I_5 J_6 (qI P))) ∧ (¬ (x_4 ≠ 0) → (Er X (d + 1) M_X4_greatestSummer 10 [some (.ref 31), some (.int v1), some (.int v3), some (.int (v3 + (-1)))] [] I_5 J_6 (qI P)))))))))) : Er X (d + 1) M_X4_greatestSummer 10 [some (.ref 31), some (.int v1), some (.int v2), some (.int v3)] [] I J (qI P) := by
  refine e_l rfl rfl rfl ?_
  refine e_b rfl rfl rfl (fun hA => ?_) (fun hA => ?_)
  · replace T := T.1 hA
    refine e_l rfl rfl rfl ?_
    refine e_gr rfl (g_31) rfl (r_31_0) ?_
    refine e_gr rfl (g_2) rfl (r_2_6) ?_
    refine e_k rfl rfl rfl ic_1 ?_
    refine e_l rfl rfl rfl ?_
    refine e_as rfl (g_7) (by decide) ?_
    refine e_l rfl rfl rfl ?_
    exact e_ri rfl rfl ⟨_, rfl, T⟩
  · replace T := T.2 hA
    refine e_l rfl rfl rfl ?_
    refine e_k rfl rfl rfl ic_m1 ?_
    refine e_b rfl rfl rfl (fun hA => ?_) (fun hA => ?_)
    · replace T := T.1 hA
      refine e_l rfl rfl rfl ?_
      refine e_gr rfl (g_31) rfl (r_31_0) ?_
      refine e_gr rfl (g_2) rfl (r_2_6) ?_
      refine e_k rfl rfl rfl ic_1 ?_
      refine e_l rfl rfl rfl ?_
      refine e_as rfl (g_7) (by decide) ?_
      refine e_l rfl rfl rfl ?_
      exact e_ri rfl rfl ⟨_, rfl, T⟩
    · replace T := T.2 hA
      refine e_l rfl rfl rfl ?_
      refine e_gr rfl (g_31) rfl (r_31_0) ?_
      refine e_gr rfl (g_2) rfl (r_2_6) ?_
      refine e_k rfl rfl rfl ic_1 ?_
      refine e_l rfl rfl rfl ?_
      refine e_as rfl (g_7) (by decide) ?_
      refine e_l rfl rfl rfl ?_
      refine e_gr rfl (g_31) rfl (r_31_1) ?_
      refine e_cvV (as := []) (rs := []) rfl rfl (g_23) rfl T (fun I_2 J_3 T => ?_)
      try dsimp only at T
      refine e_l rfl rfl rfl ?_
      refine e_gr rfl (g_31) rfl (r_31_1) ?_
      refine e_cvI (as := []) (rs := []) rfl rfl (g_23) rfl T (fun x_4 I_5 J_6 T => ?_)
      try dsimp only at T
      refine e_b rfl rfl rfl (fun hA => ?_) (fun hA => ?_)
      · replace T := T.1 hA
        refine e_ic (v := (v3 + (-1))) (L' := [some (.ref 31), some (.int v1), some (.int v2), some (.int (v3 + (-1)))]) rfl rfl rfl ic_m1 rfl ?_
        refine e_g rfl ?_
        exact T
      · replace T := T.2 hA
        refine e_l rfl rfl rfl ?_
        refine e_l (L' := [some (.ref 31), some (.int v1), some (.int v3), some (.int v3)]) rfl rfl rfl ?_
        refine e_ic (v := (v3 + (-1))) (L' := [some (.ref 31), some (.int v1), some (.int v3), some (.int (v3 + (-1)))]) rfl rfl rfl ic_m1 rfl ?_
        refine e_g rfl ?_
        exact T
set_option maxRecDepth 10000 in
set_option maxHeartbeats 4000000 in
theorem vc_X5_takeRack {X : mm_X} {d : Nat} {I : tI} {J : tJ} {P : tI → tJ → Prop}   (T : EI X d n_X8_faultAsRack [.ref 133] I J (fun x_1 I_2 J_3 => (x_1 ≠ (-1) → (Er X (d + 1) M_X5_takeRack 14 [some (.ref 2), some (.ref 133), some (.int 0)] [] (mm_u I_2 2 0 0) J_3 (qV P))) ∧ (¬ (x_1 ≠ (-1)) → (Er X (d + 1) M_X5_takeRack 14 [some (.ref 2), some (.ref 133), some (.int 0)] [] (mm_u I_2 2 0 (if 10 < (I_2 133 1) then 10 else (I_2 133 1))) J_3 (qV P))))) : EV X (d + 1) n_X5_takeRack [.ref 2, .ref 133] I J P := by
  refine ⟨M_X5_takeRack, tb_X5_takeRack, Nat.le_of_ble_eq_true rfl, ?_⟩
  show Er X (d + 1) M_X5_takeRack 0 [some (.ref 2), some (.ref 133), none] [] I J (qV P)
  refine e_l rfl rfl rfl ?_
  refine e_l rfl rfl rfl ?_
  refine e_cvI (as := []) (rs := [.ref 2]) rfl rfl (g_133) rfl T (fun x_1 I_2 J_3 T => ?_)
  try dsimp only at T
  refine e_k rfl rfl rfl ic_m1 ?_
  refine e_b rfl rfl rfl (fun hA => ?_) (fun hA => ?_)
  · replace T := T.1 hA
    refine e_k rfl rfl rfl ic_0 ?_
    refine e_pi rfl (g_2) rfl ?_
    refine e_k rfl rfl rfl ic_0 ?_
    refine e_l (L' := [some (.ref 2), some (.ref 133), some (.int 0)]) rfl rfl rfl ?_
    exact T
  · replace T := T.2 hA
    refine e_l rfl rfl rfl ?_
    refine e_gi rfl (g_133) (by decide) ?_
    refine e_k rfl rfl rfl ib_10 ?_
    refine e_mn rfl (Nat.le_of_ble_eq_true rfl) ?_
    refine e_g rfl ?_
    refine e_pi rfl (g_2) rfl ?_
    refine e_k rfl rfl rfl ic_0 ?_
    refine e_l (L' := [some (.ref 2), some (.ref 133), some (.int 0)]) rfl rfl rfl ?_
    exact T
set_option maxRecDepth 10000 in
set_option maxHeartbeats 4000000 in
theorem vc_X5_takeRack_14 {X : mm_X} {d : Nat} {I : tI} {J : tJ} {P : tI → tJ → Prop} {v2 : Int32}  (T : ((I 2 0) ≤ v2 → (P I J)) ∧ (¬ ((I 2 0) ≤ v2) → (ix v2 10 ∧ (ix v2 10 ∧ (Er X (d + 1) M_X5_takeRack 14 [some (.ref 2), some (.ref 133), some (.int (v2 + 1))] [] (mm_u I 3 (tn v2) ((I 134 (tn v2)) - 48)) J (qV P)))))) : Er X (d + 1) M_X5_takeRack 14 [some (.ref 2), some (.ref 133), some (.int v2)] [] I J (qV P) := by
  refine e_l rfl rfl rfl ?_
  refine e_l rfl rfl rfl ?_
  refine e_gi rfl (g_2) (by decide) ?_
  refine e_b rfl rfl rfl (fun hA => ?_) (fun hA => ?_)
  · replace T := T.1 hA
    exact e_rv rfl rfl ⟨rfl, T⟩
  · replace T := T.2 hA
    refine e_l rfl rfl rfl ?_
    refine e_gr rfl (g_2) rfl (r_2_1) ?_
    refine e_l rfl rfl rfl ?_
    refine e_l rfl rfl rfl ?_
    refine e_gr rfl (g_133) rfl (r_133_0) ?_
    refine e_l rfl rfl rfl ?_
    refine e_ia rfl (g_134) T.1 ?_
    replace T := T.2
    refine e_k rfl rfl rfl ib_48 ?_
    refine e_p rfl rfl rfl ?_
    refine e_as rfl (g_3) T.1 ?_
    replace T := T.2
    refine e_ic (v := (v2 + 1)) (L' := [some (.ref 2), some (.ref 133), some (.int (v2 + 1))]) rfl rfl rfl ic_1 rfl ?_
    refine e_g rfl ?_
    exact T
set_option maxRecDepth 10000 in
set_option maxHeartbeats 4000000 in
theorem vc_X5_takeSlices {X : mm_X} {d : Nat} {I : tI} {J : tJ} {P : tI → tJ → Prop}   (T : EI X d n_X8_faultAsSlices [.ref 135] I J (fun x_1 I_2 J_3 => (x_1 ≠ (-1) → (Er X (d + 1) M_X5_takeSlices 20 [some (.ref 2), some (.ref 135), some (.int 0), some (.int 0), none] [] (mm_u I_2 2 2 (if 8 < (0 : Int32) then 8 else 0)) J_3 (qV P))) ∧ (¬ (x_1 ≠ (-1)) → (∀ y2_4 : Int32, y2_4 = (((I_2 135 1) + 1) / 5) → (Er X (d + 1) M_X5_takeSlices 20 [some (.ref 2), some (.ref 135), some (.int y2_4), some (.int 0), none] [] (mm_u I_2 2 2 (if 8 < y2_4 then 8 else y2_4)) J_3 (qV P)))))) : EV X (d + 1) n_X5_takeSlices [.ref 2, .ref 135] I J P := by
  refine ⟨M_X5_takeSlices, tb_X5_takeSlices, Nat.le_of_ble_eq_true rfl, ?_⟩
  show Er X (d + 1) M_X5_takeSlices 0 [some (.ref 2), some (.ref 135), none, none, none] [] I J (qV P)
  refine e_l rfl rfl rfl ?_
  refine e_cvI (as := []) (rs := []) rfl rfl (g_135) rfl T (fun x_1 I_2 J_3 T => ?_)
  try dsimp only at T
  refine e_k rfl rfl rfl ic_m1 ?_
  refine e_b rfl rfl rfl (fun hA => ?_) (fun hA => ?_)
  · replace T := T.1 hA
    refine e_k rfl rfl rfl ic_0 ?_
    refine e_l (L' := [some (.ref 2), some (.ref 135), some (.int 0), none, none]) rfl rfl rfl ?_
    refine e_l rfl rfl rfl ?_
    refine e_l rfl rfl rfl ?_
    refine e_k rfl rfl rfl ib_8 ?_
    refine e_mn rfl (Nat.le_of_ble_eq_true rfl) ?_
    refine e_pi rfl (g_2) rfl ?_
    refine e_k rfl rfl rfl ic_0 ?_
    refine e_l (L' := [some (.ref 2), some (.ref 135), some (.int 0), some (.int 0), none]) rfl rfl rfl ?_
    exact T
  · replace T := T.2 hA
    refine e_l rfl rfl rfl ?_
    refine e_gi rfl (g_135) (by decide) ?_
    refine e_k rfl rfl rfl ic_1 ?_
    refine e_p rfl rfl rfl ?_
    refine e_k rfl rfl rfl ic_5 ?_
    refine e_dv rfl (by decide) ?_
    refine e_g rfl ?_
    refine e_si (Lf := fun y2_4 => [some (.ref 2), some (.ref 135), some (.int y2_4), none, none]) rfl rfl rfl (fun y2_4 hy2_4 => ?_)
    replace T := T y2_4 hy2_4
    refine e_l rfl rfl rfl ?_
    refine e_l rfl rfl rfl ?_
    refine e_k rfl rfl rfl ib_8 ?_
    refine e_mn rfl (Nat.le_of_ble_eq_true rfl) ?_
    refine e_pi rfl (g_2) rfl ?_
    refine e_k rfl rfl rfl ic_0 ?_
    refine e_l (L' := [some (.ref 2), some (.ref 135), some (.int y2_4), some (.int 0), none]) rfl rfl rfl ?_
    exact T
set_option maxRecDepth 10000 in
set_option maxHeartbeats 4000000 in
theorem vc_X5_takeSlices_20 {X : mm_X} {d : Nat} {I : tI} {J : tJ} {P : tI → tJ → Prop} {v2 : Int32} {v3 : Int32} {o4 : Option Value}  (T : ((I 2 2) ≤ v3 → (P I J)) ∧ (¬ ((I 2 2) ≤ v3) → (∀ y4_1 : Int32, y4_1 = (v3 * 5) → (ix y4_1 39 ∧ (EI X d n_X8_kindOf [.int (I 136 (tn y4_1))] I J (fun x_2 I_3 J_4 => ix v3 8 ∧ (ix (y4_1 + 1) 39 ∧ (ix (y4_1 + 2) 39 ∧ (ix v3 8 ∧ (ix (y4_1 + 3) 39 ∧ (ix v3 8 ∧ (Er X (d + 1) M_X5_takeSlices 20 [some (.ref 2), some (.ref 135), some (.int v2), some (.int (v3 + 1)), some (.int y4_1)] [] (mm_u (mm_u (mm_u I_3 4 (tn v3) x_2) 5 (tn v3) ((((((mm_u I_3 4 (tn v3) x_2) 136 (tn (y4_1 + 1))) - 48) * 10) + ((mm_u I_3 4 (tn v3) x_2) 136 (tn (y4_1 + 2)))) - 48)) 6 (tn v3) (((mm_u (mm_u I_3 4 (tn v3) x_2) 5 (tn v3) ((((((mm_u I_3 4 (tn v3) x_2) 136 (tn (y4_1 + 1))) - 48) * 10) + ((mm_u I_3 4 (tn v3) x_2) 136 (tn (y4_1 + 2)))) - 48)) 136 (tn (y4_1 + 3))) - 48)) J_4 (qV P))))))))))))) : Er X (d + 1) M_X5_takeSlices 20 [some (.ref 2), some (.ref 135), some (.int v2), some (.int v3), o4] [] I J (qV P) := by
  refine e_l rfl rfl rfl ?_
  refine e_l rfl rfl rfl ?_
  refine e_gi rfl (g_2) (by decide) ?_
  refine e_b rfl rfl rfl (fun hA => ?_) (fun hA => ?_)
  · replace T := T.1 hA
    exact e_rv rfl rfl ⟨rfl, T⟩
  · replace T := T.2 hA
    refine e_l rfl rfl rfl ?_
    refine e_k rfl rfl rfl ic_5 ?_
    refine e_p rfl rfl rfl ?_
    refine e_si (Lf := fun y4_1 => [some (.ref 2), some (.ref 135), some (.int v2), some (.int v3), some (.int y4_1)]) rfl rfl rfl (fun y4_1 hy4_1 => ?_)
    replace T := T y4_1 hy4_1
    refine e_l rfl rfl rfl ?_
    refine e_gr rfl (g_2) rfl (r_2_3) ?_
    refine e_l rfl rfl rfl ?_
    refine e_l rfl rfl rfl ?_
    refine e_gr rfl (g_135) rfl (r_135_0) ?_
    refine e_l rfl rfl rfl ?_
    refine e_ia rfl (g_136) T.1 ?_
    replace T := T.2
    refine e_csI (as := [.int (I 136 (tn y4_1))]) (rs := [.int v3, .ref 4]) rfl rfl rfl T (fun x_2 I_3 J_4 T => ?_)
    try dsimp only at T
    refine e_as rfl (g_4) T.1 ?_
    replace T := T.2
    refine e_l rfl rfl rfl ?_
    refine e_gr rfl (g_2) rfl (r_2_4) ?_
    refine e_l rfl rfl rfl ?_
    refine e_l rfl rfl rfl ?_
    refine e_gr rfl (g_135) rfl (r_135_0) ?_
    refine e_l rfl rfl rfl ?_
    refine e_k rfl rfl rfl ic_1 ?_
    refine e_p rfl rfl rfl ?_
    refine e_ia rfl (g_136) T.1 ?_
    replace T := T.2
    refine e_k rfl rfl rfl ib_48 ?_
    refine e_p rfl rfl rfl ?_
    refine e_k rfl rfl rfl ib_10 ?_
    refine e_p rfl rfl rfl ?_
    refine e_l rfl rfl rfl ?_
    refine e_gr rfl (g_135) rfl (r_135_0) ?_
    refine e_l rfl rfl rfl ?_
    refine e_k rfl rfl rfl ic_2 ?_
    refine e_p rfl rfl rfl ?_
    refine e_ia rfl (g_136) T.1 ?_
    replace T := T.2
    refine e_p rfl rfl rfl ?_
    refine e_k rfl rfl rfl ib_48 ?_
    refine e_p rfl rfl rfl ?_
    refine e_as rfl (g_5) T.1 ?_
    replace T := T.2
    refine e_l rfl rfl rfl ?_
    refine e_gr rfl (g_2) rfl (r_2_5) ?_
    refine e_l rfl rfl rfl ?_
    refine e_l rfl rfl rfl ?_
    refine e_gr rfl (g_135) rfl (r_135_0) ?_
    refine e_l rfl rfl rfl ?_
    refine e_k rfl rfl rfl ic_3 ?_
    refine e_p rfl rfl rfl ?_
    refine e_ia rfl (g_136) T.1 ?_
    replace T := T.2
    refine e_k rfl rfl rfl ib_48 ?_
    refine e_p rfl rfl rfl ?_
    refine e_as rfl (g_6) T.1 ?_
    replace T := T.2
    refine e_ic (v := (v3 + 1)) (L' := [some (.ref 2), some (.ref 135), some (.int v2), some (.int (v3 + 1)), some (.int y4_1)]) rfl rfl rfl ic_1 rfl ?_
    refine e_g rfl ?_
    exact T
set_option maxRecDepth 10000 in
set_option maxHeartbeats 4000000 in
theorem vc_X5_firesIn {X : mm_X} {d : Nat} {I : tI} {J : tJ} {P : Int32 → tI → tJ → Prop} {v1 : Int32}  (T : Er X d M_X5_firesIn 4 [some (.ref 2), some (.int v1), some (.int 0), some (.int 0)] [] I J (qI P)) : EI X d n_X5_firesIn [.ref 2, .int v1] I J P := by
  refine ⟨M_X5_firesIn, tb_X5_firesIn, Nat.le_of_ble_eq_true rfl, ?_⟩
  show Er X d M_X5_firesIn 0 [some (.ref 2), some (.int v1), none, none] [] I J (qI P)
  refine e_k rfl rfl rfl ic_0 ?_
  refine e_l (L' := [some (.ref 2), some (.int v1), some (.int 0), none]) rfl rfl rfl ?_
  refine e_k rfl rfl rfl ic_0 ?_
  refine e_l (L' := [some (.ref 2), some (.int v1), some (.int 0), some (.int 0)]) rfl rfl rfl ?_
  exact T
set_option maxRecDepth 10000 in
set_option maxHeartbeats 4000000 in
theorem vc_X5_firesIn_4 {X : mm_X} {d : Nat} {I : tI} {J : tJ} {P : Int32 → tI → tJ → Prop} {v1 : Int32} {v2 : Int32} {v3 : Int32}  (T : ((I 2 10) ≤ v3 → (P v2 I J)) ∧ (¬ ((I 2 10) ≤ v3) → (ix v3 4 ∧ (((I 10 (tn v3)) ≠ v1 → (Er X d M_X5_firesIn 4 [some (.ref 2), some (.int v1), some (.int v2), some (.int (v3 + 1))] [] I J (qI P))) ∧ (¬ ((I 10 (tn v3)) ≠ v1) → (Er X d M_X5_firesIn 4 [some (.ref 2), some (.int v1), some (.int (v2 + 1)), some (.int (v3 + 1))] [] I J (qI P))))))) : Er X d M_X5_firesIn 4 [some (.ref 2), some (.int v1), some (.int v2), some (.int v3)] [] I J (qI P) := by
  refine e_l rfl rfl rfl ?_
  refine e_l rfl rfl rfl ?_
  refine e_gi rfl (g_2) (by decide) ?_
  refine e_b rfl rfl rfl (fun hA => ?_) (fun hA => ?_)
  · replace T := T.1 hA
    refine e_l rfl rfl rfl ?_
    exact e_ri rfl rfl ⟨_, rfl, T⟩
  · replace T := T.2 hA
    refine e_l rfl rfl rfl ?_
    refine e_gr rfl (g_2) rfl (r_2_11) ?_
    refine e_l rfl rfl rfl ?_
    refine e_ia rfl (g_10) T.1 ?_
    replace T := T.2
    refine e_l rfl rfl rfl ?_
    refine e_b rfl rfl rfl (fun hA => ?_) (fun hA => ?_)
    · replace T := T.1 hA
      refine e_ic (v := (v3 + 1)) (L' := [some (.ref 2), some (.int v1), some (.int v2), some (.int (v3 + 1))]) rfl rfl rfl ic_1 rfl ?_
      refine e_g rfl ?_
      exact T
    · replace T := T.2 hA
      refine e_ic (v := (v2 + 1)) (L' := [some (.ref 2), some (.int v1), some (.int (v2 + 1)), some (.int v3)]) rfl rfl rfl ic_1 rfl ?_
      refine e_ic (v := (v3 + 1)) (L' := [some (.ref 2), some (.int v1), some (.int (v2 + 1)), some (.int (v3 + 1))]) rfl rfl rfl ic_1 rfl ?_
      refine e_g rfl ?_
      exact T
set_option maxRecDepth 10000 in
set_option maxHeartbeats 4000000 in
theorem vc_X6_isLost {X : mm_X} {d : Nat} {I : tI} {J : tJ} {P : Int32 → tI → tJ → Prop} {c : Nat} (hc : c ∈ mm_shs) (T : ((I c 0) ≠ (-1) → (P 0 I J)) ∧ (¬ ((I c 0) ≠ (-1)) → (P 1 I J))) : EI X d n_X6_isLost [.ref c] I J P := by
  refine ⟨M_X6_isLost, tb_X6_isLost, Nat.le_of_ble_eq_true rfl, ?_⟩
  show Er X d M_X6_isLost 0 [some (.ref c)] [] I J (qI P)
  refine e_l rfl rfl rfl ?_
  refine e_gi rfl (shs_g c hc) (by decide) ?_
  refine e_k rfl rfl rfl ic_m1 ?_
  refine e_b rfl rfl rfl (fun hA => ?_) (fun hA => ?_)
  · replace T := T.1 hA
    refine e_k rfl rfl rfl ic_0 ?_
    exact e_rz rfl rfl (by decide) ⟨_, rfl, T⟩
  · replace T := T.2 hA
    refine e_k rfl rfl rfl ic_1 ?_
    refine e_g rfl ?_
    exact e_rz rfl rfl (by decide) ⟨_, rfl, T⟩
set_option maxRecDepth 10000 in
set_option maxHeartbeats 4000000 in
theorem vc_X6_renew {X : mm_X} {d : Nat} {I : tI} {J : tJ} {P : tI → tJ → Prop} {c : Nat} {v1 : Int32} {v2 : Int32} (hc : c ∈ mm_shs) (T : Er X d M_X6_renew 8 [some (.ref c), some (.int v1), some (.int v2), some (.int 0)] [] (mm_u (mm_u I c 0 v1) c 1 v2) J (qV P)) : EV X d n_X6_renew [.ref c, .int v1, .int v2] I J P := by
  refine ⟨M_X6_renew, tb_X6_renew, Nat.le_of_ble_eq_true rfl, ?_⟩
  show Er X d M_X6_renew 0 [some (.ref c), some (.int v1), some (.int v2), none] [] I J (qV P)
  refine e_l rfl rfl rfl ?_
  refine e_l rfl rfl rfl ?_
  refine e_pi rfl (shs_g c hc) rfl ?_
  refine e_l rfl rfl rfl ?_
  refine e_l rfl rfl rfl ?_
  refine e_pi rfl (shs_g c hc) rfl ?_
  refine e_k rfl rfl rfl ic_0 ?_
  refine e_l (L' := [some (.ref c), some (.int v1), some (.int v2), some (.int 0)]) rfl rfl rfl ?_
  exact T
set_option maxRecDepth 10000 in
set_option maxHeartbeats 4000000 in
theorem vc_X6_renew_8 {X : mm_X} {d : Nat} {I : tI} {J : tJ} {P : tI → tJ → Prop} {c : Nat} {v1 : Int32} {v2 : Int32} {v3 : Int32} (hc : c ∈ mm_shs) (T : (60 ≤ v3 → (P I J)) ∧ (¬ (60 ≤ v3) → (ix v3 60 ∧ (Er X d M_X6_renew 8 [some (.ref c), some (.int v1), some (.int v2), some (.int (v3 + 1))] [] (mm_u I (c + 1) (tn v3) 0) J (qV P))))) : Er X d M_X6_renew 8 [some (.ref c), some (.int v1), some (.int v2), some (.int v3)] [] I J (qV P) := by
  refine e_l rfl rfl rfl ?_
  refine e_k rfl rfl rfl ib_60 ?_
  refine e_b rfl rfl rfl (fun hA => ?_) (fun hA => ?_)
  · replace T := T.1 hA
    exact e_rv rfl rfl ⟨rfl, T⟩
  · replace T := T.2 hA
    refine e_l rfl rfl rfl ?_
    refine e_gr rfl (shs_g c hc) rfl (shs_r2 c hc) ?_
    refine e_l rfl rfl rfl ?_
    refine e_k rfl rfl rfl ic_0 ?_
    refine e_as rfl (shs_a1 c hc) T.1 ?_
    replace T := T.2
    refine e_ic (v := (v3 + 1)) (L' := [some (.ref c), some (.int v1), some (.int v2), some (.int (v3 + 1))]) rfl rfl rfl ic_1 rfl ?_
    refine e_g rfl ?_
    exact T
set_option maxRecDepth 10000 in
set_option maxHeartbeats 4000000 in
theorem vc_X6_put {X : mm_X} {d : Nat} {I : tI} {J : tJ} {P : tI → tJ → Prop} {c : Nat} {v1 : Int32} {v2 : Int32} (hc : c ∈ mm_shs) (T : (v1 < 0 → (P I J)) ∧ (¬ (v1 < 0) → ((v1 < (I c 1) → (((I c 0) ≠ 0 → (((I c 0) ≠ 1 → (ix v1 60 ∧ (P (mm_u I (c + 1) (tn v1) v2) J))) ∧ (¬ ((I c 0) ≠ 1) → (ix v1 60 ∧ (P (mm_u I (c + 1) (tn v1) (Int32.toInt16 v2).toInt32) J))))) ∧ (¬ ((I c 0) ≠ 0) → (ix v1 60 ∧ (P (mm_u I (c + 1) (tn v1) (Int32.toInt8 v2).toInt32) J))))) ∧ (¬ (v1 < (I c 1)) → (P I J))))) : EV X d n_X6_put [.ref c, .int v1, .int v2] I J P := by
  refine ⟨M_X6_put, tb_X6_put, Nat.le_of_ble_eq_true rfl, ?_⟩
  show Er X d M_X6_put 0 [some (.ref c), some (.int v1), some (.int v2)] [] I J (qV P)
  refine e_l rfl rfl rfl ?_
  refine e_b rfl rfl rfl (fun hA => ?_) (fun hA => ?_)
  · replace T := T.1 hA
    exact e_rv rfl rfl ⟨rfl, T⟩
  · replace T := T.2 hA
    refine e_l rfl rfl rfl ?_
    refine e_l rfl rfl rfl ?_
    refine e_gi rfl (shs_g c hc) (by decide) ?_
    refine e_b rfl rfl rfl (fun hA => ?_) (fun hA => ?_)
    · replace T := T.1 hA
      refine e_l rfl rfl rfl ?_
      refine e_gi rfl (shs_g c hc) (by decide) ?_
      refine e_b rfl rfl rfl (fun hA => ?_) (fun hA => ?_)
      · replace T := T.1 hA
        refine e_l rfl rfl rfl ?_
        refine e_gr rfl (shs_g c hc) rfl (shs_r2 c hc) ?_
        refine e_l rfl rfl rfl ?_
        refine e_l rfl rfl rfl ?_
        refine e_gi rfl (shs_g c hc) (by decide) ?_
        refine e_k rfl rfl rfl ic_1 ?_
        refine e_b rfl rfl rfl (fun hA => ?_) (fun hA => ?_)
        · replace T := T.1 hA
          refine e_l rfl rfl rfl ?_
          refine e_as rfl (shs_a1 c hc) T.1 ?_
          replace T := T.2
          exact e_rv rfl rfl ⟨rfl, T⟩
        · replace T := T.2 hA
          refine e_l rfl rfl rfl ?_
          refine e_p rfl rfl rfl ?_
          refine e_g rfl ?_
          refine e_as rfl (shs_a1 c hc) T.1 ?_
          replace T := T.2
          exact e_rv rfl rfl ⟨rfl, T⟩
      · replace T := T.2 hA
        refine e_l rfl rfl rfl ?_
        refine e_gr rfl (shs_g c hc) rfl (shs_r2 c hc) ?_
        refine e_l rfl rfl rfl ?_
        refine e_l rfl rfl rfl ?_
        refine e_p rfl rfl rfl ?_
        refine e_as rfl (shs_a1 c hc) T.1 ?_
        replace T := T.2
        refine e_g rfl ?_
        exact e_rv rfl rfl ⟨rfl, T⟩
    · replace T := T.2 hA
      exact e_rv rfl rfl ⟨rfl, T⟩
set_option maxRecDepth 10000 in
set_option maxHeartbeats 4000000 in
theorem vc_X6_hasRun {X : mm_X} {d : Nat} {I : tI} {J : tJ} {P : Int32 → tI → tJ → Prop} {c : Nat} {v1 : Int32} {v2 : Int32} (hc : c ∈ mm_shs) (T : (v1 < 0 → (P 0 I J)) ∧ (¬ (v1 < 0) → ((v2 < 0 → (P 0 I J)) ∧ (¬ (v2 < 0) → (((I c 1) < v1 → (P 0 I J)) ∧ (¬ ((I c 1) < v1) → ((((I c 1) - v1) < v2 → (P 0 I J)) ∧ (¬ (((I c 1) - v1) < v2) → (P 1 I J))))))))) : EI X d n_X6_hasRun [.ref c, .int v1, .int v2] I J P := by
  refine ⟨M_X6_hasRun, tb_X6_hasRun, Nat.le_of_ble_eq_true rfl, ?_⟩
  show Er X d M_X6_hasRun 0 [some (.ref c), some (.int v1), some (.int v2)] [] I J (qI P)
  refine e_l rfl rfl rfl ?_
  refine e_b rfl rfl rfl (fun hA => ?_) (fun hA => ?_)
  · replace T := T.1 hA
    refine e_k rfl rfl rfl ic_0 ?_
    exact e_rz rfl rfl (by decide) ⟨_, rfl, T⟩
  · replace T := T.2 hA
    refine e_l rfl rfl rfl ?_
    refine e_b rfl rfl rfl (fun hA => ?_) (fun hA => ?_)
    · replace T := T.1 hA
      refine e_k rfl rfl rfl ic_0 ?_
      exact e_rz rfl rfl (by decide) ⟨_, rfl, T⟩
    · replace T := T.2 hA
      refine e_l rfl rfl rfl ?_
      refine e_l rfl rfl rfl ?_
      refine e_gi rfl (shs_g c hc) (by decide) ?_
      refine e_b rfl rfl rfl (fun hA => ?_) (fun hA => ?_)
      · replace T := T.1 hA
        refine e_k rfl rfl rfl ic_0 ?_
        exact e_rz rfl rfl (by decide) ⟨_, rfl, T⟩
      · replace T := T.2 hA
        refine e_l rfl rfl rfl ?_
        refine e_l rfl rfl rfl ?_
        refine e_gi rfl (shs_g c hc) (by decide) ?_
        refine e_l rfl rfl rfl ?_
        refine e_p rfl rfl rfl ?_
        refine e_b rfl rfl rfl (fun hA => ?_) (fun hA => ?_)
        · replace T := T.1 hA
          refine e_k rfl rfl rfl ic_0 ?_
          exact e_rz rfl rfl (by decide) ⟨_, rfl, T⟩
        · replace T := T.2 hA
          refine e_k rfl rfl rfl ic_1 ?_
          refine e_g rfl ?_
          exact e_rz rfl rfl (by decide) ⟨_, rfl, T⟩
set_option maxRecDepth 10000 in
set_option maxHeartbeats 4000000 in
theorem vc_X7_add {X : mm_X} {d : Nat} {I : tI} {J : tJ} {P : tI → tJ → Prop} {v1 : Int32} {v2 : Int32} {v3 : Int32}  (T : ((I 32 4) < 8 → (ix (I 32 4) 8 ∧ (ix ((mm_u I 33 (tn (I 32 4)) v1) 32 4) 8 ∧ (ix ((mm_u (mm_u I 33 (tn (I 32 4)) v1) 34 (tn ((mm_u I 33 (tn (I 32 4)) v1) 32 4)) v2) 32 4) 8 ∧ (P (mm_u (mm_u (mm_u (mm_u I 33 (tn (I 32 4)) v1) 34 (tn ((mm_u I 33 (tn (I 32 4)) v1) 32 4)) v2) 35 (tn ((mm_u (mm_u I 33 (tn (I 32 4)) v1) 34 (tn ((mm_u I 33 (tn (I 32 4)) v1) 32 4)) v2) 32 4)) v3) 32 4 (((mm_u (mm_u (mm_u I 33 (tn (I 32 4)) v1) 34 (tn ((mm_u I 33 (tn (I 32 4)) v1) 32 4)) v2) 35 (tn ((mm_u (mm_u I 33 (tn (I 32 4)) v1) 34 (tn ((mm_u I 33 (tn (I 32 4)) v1) 32 4)) v2) 32 4)) v3) 32 4) + 1)) J))))) ∧ (¬ ((I 32 4) < 8) → (P I J))) : EV X d n_X7_add [.ref 32, .int v1, .int v2, .int v3] I J P := by
  refine ⟨M_X7_add, tb_X7_add, Nat.le_of_ble_eq_true rfl, ?_⟩
  show Er X d M_X7_add 0 [some (.ref 32), some (.int v1), some (.int v2), some (.int v3)] [] I J (qV P)
  refine e_l rfl rfl rfl ?_
  refine e_gi rfl (g_32) (by decide) ?_
  refine e_k rfl rfl rfl ib_8 ?_
  refine e_b rfl rfl rfl (fun hA => ?_) (fun hA => ?_)
  · replace T := T.1 hA
    refine e_l rfl rfl rfl ?_
    refine e_gr rfl (g_32) rfl (r_32_1) ?_
    refine e_l rfl rfl rfl ?_
    refine e_gi rfl (g_32) (by decide) ?_
    refine e_l rfl rfl rfl ?_
    refine e_as rfl (g_33) T.1 ?_
    replace T := T.2
    refine e_l rfl rfl rfl ?_
    refine e_gr rfl (g_32) rfl (r_32_2) ?_
    refine e_l rfl rfl rfl ?_
    refine e_gi rfl (g_32) (by decide) ?_
    refine e_l rfl rfl rfl ?_
    refine e_as rfl (g_34) T.1 ?_
    replace T := T.2
    refine e_l rfl rfl rfl ?_
    refine e_gr rfl (g_32) rfl (r_32_3) ?_
    refine e_l rfl rfl rfl ?_
    refine e_gi rfl (g_32) (by decide) ?_
    refine e_l rfl rfl rfl ?_
    refine e_as rfl (g_35) T.1 ?_
    replace T := T.2
    refine e_l rfl rfl rfl ?_
    refine e_p rfl rfl rfl ?_
    refine e_gi rfl (g_32) (by decide) ?_
    refine e_k rfl rfl rfl ic_1 ?_
    refine e_p rfl rfl rfl ?_
    refine e_pi rfl (g_32) rfl ?_
    exact e_rv rfl rfl ⟨rfl, T⟩
  · replace T := T.2 hA
    exact e_rv rfl rfl ⟨rfl, T⟩
set_option maxRecDepth 10000 in
set_option maxHeartbeats 4000000 in
theorem vc_X7_lastHour {X : mm_X} {d : Nat} {I : tI} {J : tJ} {P : Int32 → tI → tJ → Prop}   (T : Er X d M_X7_lastHour 4 [some (.ref 32), some (.int (-1)), some (.int 0)] [] I J (qI P)) : EI X d n_X7_lastHour [.ref 32] I J P := by
  refine ⟨M_X7_lastHour, tb_X7_lastHour, Nat.le_of_ble_eq_true rfl, ?_⟩
  show Er X d M_X7_lastHour 0 [some (.ref 32), none, none] [] I J (qI P)
  refine e_k rfl rfl rfl ic_m1 ?_
  refine e_l (L' := [some (.ref 32), some (.int (-1)), none]) rfl rfl rfl ?_
  refine e_k rfl rfl rfl ic_0 ?_
  refine e_l (L' := [some (.ref 32), some (.int (-1)), some (.int 0)]) rfl rfl rfl ?_
  exact T
set_option maxRecDepth 10000 in
set_option maxHeartbeats 4000000 in
theorem vc_X7_lastHour_4 {X : mm_X} {d : Nat} {I : tI} {J : tJ} {P : Int32 → tI → tJ → Prop} {v1 : Int32} {v2 : Int32}  (T : ((I 32 4) ≤ v2 → (P v1 I J)) ∧ (¬ ((I 32 4) ≤ v2) → (ix v2 8 ∧ (∀ y1_1 : Int32, y1_1 = (if v1 < (I 33 (tn v2)) then (I 33 (tn v2)) else v1) → (Er X d M_X7_lastHour 4 [some (.ref 32), some (.int y1_1), some (.int (v2 + 1))] [] I J (qI P)))))) : Er X d M_X7_lastHour 4 [some (.ref 32), some (.int v1), some (.int v2)] [] I J (qI P) := by
  refine e_l rfl rfl rfl ?_
  refine e_l rfl rfl rfl ?_
  refine e_gi rfl (g_32) (by decide) ?_
  refine e_b rfl rfl rfl (fun hA => ?_) (fun hA => ?_)
  · replace T := T.1 hA
    refine e_l rfl rfl rfl ?_
    exact e_ri rfl rfl ⟨_, rfl, T⟩
  · replace T := T.2 hA
    refine e_l rfl rfl rfl ?_
    refine e_l rfl rfl rfl ?_
    refine e_gr rfl (g_32) rfl (r_32_1) ?_
    refine e_l rfl rfl rfl ?_
    refine e_ia rfl (g_33) T.1 ?_
    replace T := T.2
    refine e_mx rfl (Nat.le_of_ble_eq_true rfl) ?_
    refine e_si (Lf := fun y1_1 => [some (.ref 32), some (.int y1_1), some (.int v2)]) rfl rfl rfl (fun y1_1 hy1_1 => ?_)
    replace T := T y1_1 hy1_1
    refine e_ic (v := (v2 + 1)) (L' := [some (.ref 32), some (.int y1_1), some (.int (v2 + 1))]) rfl rfl rfl ic_1 rfl ?_
    refine e_g rfl ?_
    exact T
set_option maxRecDepth 10000 in
set_option maxHeartbeats 4000000 in
theorem vc_X7_agreeWith {X : mm_X} {d : Nat} {I : tI} {J : tJ} {P : Int32 → tI → tJ → Prop} {v2 : Int32}  (T : Er X d M_X7_agreeWith 2 [some (.ref 32), some (.ref 23), some (.int v2), some (.int 0)] [] I J (qI P)) : EI X d n_X7_agreeWith [.ref 32, .ref 23, .int v2] I J P := by
  refine ⟨M_X7_agreeWith, tb_X7_agreeWith, Nat.le_of_ble_eq_true rfl, ?_⟩
  show Er X d M_X7_agreeWith 0 [some (.ref 32), some (.ref 23), some (.int v2), none] [] I J (qI P)
  refine e_k rfl rfl rfl ic_0 ?_
  refine e_l (L' := [some (.ref 32), some (.ref 23), some (.int v2), some (.int 0)]) rfl rfl rfl ?_
  exact T
set_option maxRecDepth 10000 in
set_option maxHeartbeats 4000000 in
theorem vc_X7_agreeWith_2 {X : mm_X} {d : Nat} {I : tI} {J : tJ} {P : Int32 → tI → tJ → Prop} {v2 : Int32} {v3 : Int32}  (T : ((I 32 4) ≤ v3 → (P 1 I J)) ∧ (¬ ((I 32 4) ≤ v3) → (ix v3 8 ∧ (((I 33 (tn v3)) ≠ v2 → (Er X d M_X7_agreeWith 2 [some (.ref 32), some (.ref 23), some (.int v2), some (.int (v3 + 1))] [] I J (qI P))) ∧ (¬ ((I 33 (tn v3)) ≠ v2) → (ix v3 8 ∧ (((I 2 2) ≤ (I 34 (tn v3)) → (P 0 I J)) ∧ (¬ ((I 2 2) ≤ (I 34 (tn v3))) → (ix v3 8 ∧ (ix (I 34 (tn v3)) 8 ∧ (ix v3 8 ∧ (((I 25 (tn (I 34 (tn v3)))) = (I 35 (tn v3)) → (Er X d M_X7_agreeWith 2 [some (.ref 32), some (.ref 23), some (.int v2), some (.int (v3 + 1))] [] I J (qI P))) ∧ (¬ ((I 25 (tn (I 34 (tn v3)))) = (I 35 (tn v3))) → (P 0 I J)))))))))))))) : Er X d M_X7_agreeWith 2 [some (.ref 32), some (.ref 23), some (.int v2), some (.int v3)] [] I J (qI P) := by
  refine e_l rfl rfl rfl ?_
  refine e_l rfl rfl rfl ?_
  refine e_gi rfl (g_32) (by decide) ?_
  refine e_b rfl rfl rfl (fun hA => ?_) (fun hA => ?_)
  · replace T := T.1 hA
    refine e_k rfl rfl rfl ic_1 ?_
    exact e_rz rfl rfl (by decide) ⟨_, rfl, T⟩
  · replace T := T.2 hA
    refine e_l rfl rfl rfl ?_
    refine e_gr rfl (g_32) rfl (r_32_1) ?_
    refine e_l rfl rfl rfl ?_
    refine e_ia rfl (g_33) T.1 ?_
    replace T := T.2
    refine e_l rfl rfl rfl ?_
    refine e_b rfl rfl rfl (fun hA => ?_) (fun hA => ?_)
    · replace T := T.1 hA
      refine e_ic (v := (v3 + 1)) (L' := [some (.ref 32), some (.ref 23), some (.int v2), some (.int (v3 + 1))]) rfl rfl rfl ic_1 rfl ?_
      refine e_g rfl ?_
      exact T
    · replace T := T.2 hA
      refine e_l rfl rfl rfl ?_
      refine e_gr rfl (g_32) rfl (r_32_2) ?_
      refine e_l rfl rfl rfl ?_
      refine e_ia rfl (g_34) T.1 ?_
      replace T := T.2
      refine e_l rfl rfl rfl ?_
      refine e_gr rfl (g_32) rfl (r_32_0) ?_
      refine e_gi rfl (g_2) (by decide) ?_
      refine e_b rfl rfl rfl (fun hA => ?_) (fun hA => ?_)
      · replace T := T.1 hA
        refine e_k rfl rfl rfl ic_0 ?_
        exact e_rz rfl rfl (by decide) ⟨_, rfl, T⟩
      · replace T := T.2 hA
        refine e_l rfl rfl rfl ?_
        refine e_gr rfl (g_23) rfl (r_23_2) ?_
        refine e_l rfl rfl rfl ?_
        refine e_gr rfl (g_32) rfl (r_32_2) ?_
        refine e_l rfl rfl rfl ?_
        refine e_ia rfl (g_34) T.1 ?_
        replace T := T.2
        refine e_ia rfl (g_25) T.1 ?_
        replace T := T.2
        refine e_l rfl rfl rfl ?_
        refine e_gr rfl (g_32) rfl (r_32_3) ?_
        refine e_l rfl rfl rfl ?_
        refine e_ia rfl (g_35) T.1 ?_
        replace T := T.2
        refine e_b rfl rfl rfl (fun hA => ?_) (fun hA => ?_)
        · replace T := T.1 hA
          refine e_ic (v := (v3 + 1)) (L' := [some (.ref 32), some (.ref 23), some (.int v2), some (.int (v3 + 1))]) rfl rfl rfl ic_1 rfl ?_
          refine e_g rfl ?_
          exact T
        · replace T := T.2 hA
          refine e_k rfl rfl rfl ic_0 ?_
          exact e_rz rfl rfl (by decide) ⟨_, rfl, T⟩
set_option maxRecDepth 10000 in
set_option maxHeartbeats 4000000 in
theorem vc_X8_faultAsRack {X : mm_X} {d : Nat} {I : tI} {J : tJ} {P : Int32 → tI → tJ → Prop}   (T : Er X (d + 1) M_X8_faultAsRack 2 [some (.ref 133), some (.int 0)] [] I J (qI P)) : EI X (d + 1) n_X8_faultAsRack [.ref 133] I J P := by
  refine ⟨M_X8_faultAsRack, tb_X8_faultAsRack, Nat.le_of_ble_eq_true rfl, ?_⟩
  show Er X (d + 1) M_X8_faultAsRack 0 [some (.ref 133), none] [] I J (qI P)
  refine e_k rfl rfl rfl ic_0 ?_
  refine e_l (L' := [some (.ref 133), some (.int 0)]) rfl rfl rfl ?_
  exact T
set_option maxRecDepth 10000 in
set_option maxHeartbeats 4000000 in
theorem vc_X8_faultAsRack_2 {X : mm_X} {d : Nat} {I : tI} {J : tJ} {P : Int32 → tI → tJ → Prop} {v1 : Int32}  (T : ((I 133 1) ≤ v1 → (P (-1) I J)) ∧ (¬ ((I 133 1) ≤ v1) → (ix v1 10 ∧ (EI X d n_X10_isFigure [.int (I 134 (tn v1))] I J (fun x_1 I_2 J_3 => (x_1 ≠ 0 → (Er X (d + 1) M_X8_faultAsRack 2 [some (.ref 133), some (.int (v1 + 1))] [] I_2 J_3 (qI P))) ∧ (¬ (x_1 ≠ 0) → (P v1 I_2 J_3))))))) : Er X (d + 1) M_X8_faultAsRack 2 [some (.ref 133), some (.int v1)] [] I J (qI P) := by
  refine e_l rfl rfl rfl ?_
  refine e_l rfl rfl rfl ?_
  refine e_gi rfl (g_133) (by decide) ?_
  refine e_b rfl rfl rfl (fun hA => ?_) (fun hA => ?_)
  · replace T := T.1 hA
    refine e_k rfl rfl rfl ic_m1 ?_
    exact e_ri rfl rfl ⟨_, rfl, T⟩
  · replace T := T.2 hA
    refine e_l rfl rfl rfl ?_
    refine e_gr rfl (g_133) rfl (r_133_0) ?_
    refine e_l rfl rfl rfl ?_
    refine e_ia rfl (g_134) T.1 ?_
    replace T := T.2
    refine e_csI (as := [.int (I 134 (tn v1))]) (rs := []) rfl rfl rfl T (fun x_1 I_2 J_3 T => ?_)
    try dsimp only at T
    refine e_b rfl rfl rfl (fun hA => ?_) (fun hA => ?_)
    · replace T := T.1 hA
      refine e_ic (v := (v1 + 1)) (L' := [some (.ref 133), some (.int (v1 + 1))]) rfl rfl rfl ic_1 rfl ?_
      refine e_g rfl ?_
      exact T
    · replace T := T.2 hA
      refine e_l rfl rfl rfl ?_
      exact e_ri rfl rfl ⟨_, rfl, T⟩
set_option maxRecDepth 10000 in
set_option maxHeartbeats 4000000 in
theorem vc_X8_faultAsSlices {X : mm_X} {d : Nat} {I : tI} {J : tJ} {P : Int32 → tI → tJ → Prop}   (T : Er X (d + 1) M_X8_faultAsSlices 2 [some (.ref 135), some (.int 0)] [] I J (qI P)) : EI X (d + 1) n_X8_faultAsSlices [.ref 135] I J P := by
  refine ⟨M_X8_faultAsSlices, tb_X8_faultAsSlices, Nat.le_of_ble_eq_true rfl, ?_⟩
  show Er X (d + 1) M_X8_faultAsSlices 0 [some (.ref 135), none] [] I J (qI P)
  refine e_k rfl rfl rfl ic_0 ?_
  refine e_l (L' := [some (.ref 135), some (.int 0)]) rfl rfl rfl ?_
  exact T
set_option maxRecDepth 10000 in
set_option maxHeartbeats 4000000 in
theorem vc_X8_faultAsSlices_2 {X : mm_X} {d : Nat} {I : tI} {J : tJ} {P : Int32 → tI → tJ → Prop} {v1 : Int32}  (T : ((I 135 1) ≤ v1 → (((I 135 1) = 0 → (P (-1) I J)) ∧ (¬ ((I 135 1) = 0) → ((((I 135 1) - (I 135 1) / 5 * 5) ≠ 4 → (P (I 135 1) I J)) ∧ (¬ (((I 135 1) - (I 135 1) / 5 * 5) ≠ 4) → (P (-1) I J)))))) ∧ (¬ ((I 135 1) ≤ v1) → (ix v1 39 ∧ (EI X d n_X8_goesOn [.int (v1 - v1 / 5 * 5), .int (I 136 (tn v1))] I J (fun x_1 I_2 J_3 => (x_1 ≠ 0 → (Er X (d + 1) M_X8_faultAsSlices 2 [some (.ref 135), some (.int (v1 + 1))] [] I_2 J_3 (qI P))) ∧ (¬ (x_1 ≠ 0) → (P v1 I_2 J_3))))))) : Er X (d + 1) M_X8_faultAsSlices 2 [some (.ref 135), some (.int v1)] [] I J (qI P) := by
  refine e_l rfl rfl rfl ?_
  refine e_l rfl rfl rfl ?_
  refine e_gi rfl (g_135) (by decide) ?_
  refine e_b rfl rfl rfl (fun hA => ?_) (fun hA => ?_)
  · replace T := T.1 hA
    refine e_l rfl rfl rfl ?_
    refine e_gi rfl (g_135) (by decide) ?_
    refine e_b rfl rfl rfl (fun hA => ?_) (fun hA => ?_)
    · replace T := T.1 hA
      refine e_k rfl rfl rfl ic_m1 ?_
      refine e_g rfl ?_
      exact e_ri rfl rfl ⟨_, rfl, T⟩
    · replace T := T.2 hA
      refine e_l rfl rfl rfl ?_
      refine e_gi rfl (g_135) (by decide) ?_
      refine e_k rfl rfl rfl ic_5 ?_
      refine e_rm rfl (by decide) ?_
      refine e_k rfl rfl rfl ic_4 ?_
      refine e_b rfl rfl rfl (fun hA => ?_) (fun hA => ?_)
      · replace T := T.1 hA
        refine e_l rfl rfl rfl ?_
        refine e_gi rfl (g_135) (by decide) ?_
        exact e_ri rfl rfl ⟨_, rfl, T⟩
      · replace T := T.2 hA
        refine e_k rfl rfl rfl ic_m1 ?_
        refine e_g rfl ?_
        exact e_ri rfl rfl ⟨_, rfl, T⟩
  · replace T := T.2 hA
    refine e_l rfl rfl rfl ?_
    refine e_k rfl rfl rfl ic_5 ?_
    refine e_rm rfl (by decide) ?_
    refine e_l rfl rfl rfl ?_
    refine e_gr rfl (g_135) rfl (r_135_0) ?_
    refine e_l rfl rfl rfl ?_
    refine e_ia rfl (g_136) T.1 ?_
    replace T := T.2
    refine e_csI (as := [.int (v1 - v1 / 5 * 5), .int (I 136 (tn v1))]) (rs := []) rfl rfl rfl T (fun x_1 I_2 J_3 T => ?_)
    try dsimp only at T
    refine e_b rfl rfl rfl (fun hA => ?_) (fun hA => ?_)
    · replace T := T.1 hA
      refine e_ic (v := (v1 + 1)) (L' := [some (.ref 135), some (.int (v1 + 1))]) rfl rfl rfl ic_1 rfl ?_
      refine e_g rfl ?_
      exact T
    · replace T := T.2 hA
      refine e_l rfl rfl rfl ?_
      exact e_ri rfl rfl ⟨_, rfl, T⟩
set_option maxRecDepth 10000 in
set_option maxHeartbeats 4000000 in
theorem vc_X8_goesOn {X : mm_X} {d : Nat} {I : tI} {J : tJ} {P : Int32 → tI → tJ → Prop} {v0 : Int32} {v1 : Int32}  (T : (v0 ≠ 0 → ((v0 ≠ 4 → (EI X d n_X10_isFigure [.int v1] I J (fun x_1 I_2 J_3 => (x_1 = 0 ∨ x_1 = 1) ∧ P x_1 I_2 J_3))) ∧ (¬ (v0 ≠ 4) → ((v1 ≠ 59 → (P 0 I J)) ∧ (¬ (v1 ≠ 59) → (P 1 I J)))))) ∧ (¬ (v0 ≠ 0) → (EI X d n_X8_kindOf [.int v1] I J (fun x_4 I_5 J_6 => (x_4 = (-1) → (P 0 I_5 J_6)) ∧ (¬ (x_4 = (-1)) → (P 1 I_5 J_6)))))) : EI X (d + 1) n_X8_goesOn [.int v0, .int v1] I J P := by
  refine ⟨M_X8_goesOn, tb_X8_goesOn, Nat.le_of_ble_eq_true rfl, ?_⟩
  show Er X (d + 1) M_X8_goesOn 0 [some (.int v0), some (.int v1)] [] I J (qI P)
  refine e_l rfl rfl rfl ?_
  refine e_b rfl rfl rfl (fun hA => ?_) (fun hA => ?_)
  · replace T := T.1 hA
    refine e_l rfl rfl rfl ?_
    refine e_k rfl rfl rfl ic_4 ?_
    refine e_b rfl rfl rfl (fun hA => ?_) (fun hA => ?_)
    · replace T := T.1 hA
      refine e_l rfl rfl rfl ?_
      refine e_csI (as := [.int v1]) (rs := []) rfl rfl rfl T (fun x_1 I_2 J_3 T => ?_)
      try dsimp only at T
      exact e_rz rfl rfl T.1 ⟨_, rfl, T.2⟩
    · replace T := T.2 hA
      refine e_l rfl rfl rfl ?_
      refine e_k rfl rfl rfl ib_59 ?_
      refine e_b rfl rfl rfl (fun hA => ?_) (fun hA => ?_)
      · replace T := T.1 hA
        refine e_k rfl rfl rfl ic_0 ?_
        refine e_g rfl ?_
        exact e_rz rfl rfl (by decide) ⟨_, rfl, T⟩
      · replace T := T.2 hA
        refine e_k rfl rfl rfl ic_1 ?_
        refine e_g rfl ?_
        exact e_rz rfl rfl (by decide) ⟨_, rfl, T⟩
  · replace T := T.2 hA
    refine e_l rfl rfl rfl ?_
    refine e_csI (as := [.int v1]) (rs := []) rfl rfl rfl T (fun x_4 I_5 J_6 T => ?_)
    try dsimp only at T
    refine e_k rfl rfl rfl ic_m1 ?_
    refine e_b rfl rfl rfl (fun hA => ?_) (fun hA => ?_)
    · replace T := T.1 hA
      refine e_k rfl rfl rfl ic_0 ?_
      exact e_rz rfl rfl (by decide) ⟨_, rfl, T⟩
    · replace T := T.2 hA
      refine e_k rfl rfl rfl ic_1 ?_
      refine e_g rfl ?_
      exact e_rz rfl rfl (by decide) ⟨_, rfl, T⟩
set_option maxRecDepth 10000 in
set_option maxHeartbeats 4000000 in
theorem vc_X8_kindOf {X : mm_X} {d : Nat} {I : tI} {J : tJ} {P : Int32 → tI → tJ → Prop} {v0 : Int32}  (T : (Int32.toInt v0 = 98 → (P 2 I J)) ∧ (¬ Int32.toInt v0 = 98 → ((Int32.toInt v0 = 99 → (P 1 I J)) ∧ (¬ Int32.toInt v0 = 99 → ((Int32.toInt v0 = 116 → (P 3 I J)) ∧ (¬ Int32.toInt v0 = 116 → ((Int32.toInt v0 = 119 → (P 0 I J)) ∧ (¬ Int32.toInt v0 = 119 → (P (-1) I J))))))))) : EI X d n_X8_kindOf [.int v0] I J P := by
  refine ⟨M_X8_kindOf, tb_X8_kindOf, Nat.le_of_ble_eq_true rfl, ?_⟩
  show Er X d M_X8_kindOf 0 [some (.int v0)] [] I J (qI P)
  refine e_l rfl rfl rfl ?_
  refine e_sw rfl rfl rfl ?_
  show Er X _ _ (mm_tg [(98, 6), (99, 4), (116, 8), (119, 2)] 10 v0) _ _ _ _ _
  refine e_tg (fun hA => ?_) (fun hA => ?_)
  · replace T := T.1 hA
    refine e_k rfl rfl rfl ic_2 ?_
    exact e_ri rfl rfl ⟨_, rfl, T⟩
  replace T := T.2 hA
  refine e_tg (fun hA => ?_) (fun hA => ?_)
  · replace T := T.1 hA
    refine e_k rfl rfl rfl ic_1 ?_
    exact e_ri rfl rfl ⟨_, rfl, T⟩
  replace T := T.2 hA
  refine e_tg (fun hA => ?_) (fun hA => ?_)
  · replace T := T.1 hA
    refine e_k rfl rfl rfl ic_3 ?_
    exact e_ri rfl rfl ⟨_, rfl, T⟩
  replace T := T.2 hA
  refine e_tg (fun hA => ?_) (fun hA => ?_)
  · replace T := T.1 hA
    refine e_k rfl rfl rfl ic_0 ?_
    exact e_ri rfl rfl ⟨_, rfl, T⟩
  replace T := T.2 hA
  refine e_tg0 ?_
  refine e_k rfl rfl rfl ic_m1 ?_
  exact e_ri rfl rfl ⟨_, rfl, T⟩
set_option maxRecDepth 10000 in
set_option maxHeartbeats 4000000 in
theorem vc_X9_weigh {X : mm_X} {d : Nat} {I : tI} {J : tJ} {P : tI → tJ → Prop} {v1 : Int32} {v2 : Int32} {v3 : Int32} {v4 : Int32}  (T : EV X d n_X0_begin [.ref 42] (mm_u (mm_u (mm_u (mm_u I 40 1 v1) 40 3 v3) 40 4 v4) 40 2 ((if 9 < (if v4 < v2 then v4 else v2) then 9 else (if v4 < v2 then v4 else v2)) + 1)) J (fun I_2 J_3 => EL X d n_X9_ways [.ref 40, .int 0] I_2 J_3 (fun x_4 I_5 J_6 => Er X (d + 1) M_X9_weigh 38 [some (.ref 40), some (.int v1), some (.int v2), some (.int v3), some (.int v4), some (.int 0)] [] I_5 (mm_u (mm_u J_6 40 5 x_4) 40 6 ((1 : Int64) <<< (Int32.toInt64 (4 * (I_5 40 2)) &&& 63))) (qV P)))) : EV X (d + 1) n_X9_weigh [.ref 40, .int v1, .int v2, .int v3, .int v4] I J P := by
  refine ⟨M_X9_weigh, tb_X9_weigh, Nat.le_of_ble_eq_true rfl, ?_⟩
  show Er X (d + 1) M_X9_weigh 0 [some (.ref 40), some (.int v1), some (.int v2), some (.int v3), some (.int v4), none] [] I J (qV P)
  refine e_l rfl rfl rfl ?_
  refine e_l rfl rfl rfl ?_
  refine e_pi rfl (g_40) rfl ?_
  refine e_l rfl rfl rfl ?_
  refine e_l rfl rfl rfl ?_
  refine e_pi rfl (g_40) rfl ?_
  refine e_l rfl rfl rfl ?_
  refine e_l rfl rfl rfl ?_
  refine e_pi rfl (g_40) rfl ?_
  refine e_l rfl rfl rfl ?_
  refine e_l rfl rfl rfl ?_
  refine e_l rfl rfl rfl ?_
  refine e_mn rfl (Nat.le_of_ble_eq_true rfl) ?_
  refine e_k rfl rfl rfl ib_9 ?_
  refine e_mn rfl (Nat.le_of_ble_eq_true rfl) ?_
  refine e_k rfl rfl rfl ic_1 ?_
  refine e_p rfl rfl rfl ?_
  refine e_pi rfl (g_40) rfl ?_
  refine e_l rfl rfl rfl ?_
  refine e_gr rfl (g_40) rfl (r_40_0) ?_
  refine e_k rfl rfl rfl ic_0 ?_
  refine e_aa rfl (g_41) (by decide) r_41_0 ?_
  refine e_cvV (as := []) (rs := []) rfl rfl (g_42) rfl T (fun I_2 J_3 T => ?_)
  try dsimp only at T
  refine e_l rfl rfl rfl ?_
  refine e_l rfl rfl rfl ?_
  refine e_k rfl rfl rfl ic_0 ?_
  refine e_csL (as := [.ref 40, .int 0]) (rs := [.ref 40]) rfl rfl rfl T (fun x_4 I_5 J_6 T => ?_)
  try dsimp only at T
  refine e_pl rfl (g_40) rfl ?_
  refine e_l rfl rfl rfl ?_
  refine e_kl rfl rfl rfl lc_1 ?_
  refine e_k rfl rfl rfl ic_4 ?_
  refine e_l rfl rfl rfl ?_
  refine e_gi rfl (g_40) (by decide) ?_
  refine e_p rfl rfl rfl ?_
  refine e_p rfl rfl rfl ?_
  refine e_pl rfl (g_40) rfl ?_
  refine e_k rfl rfl rfl ic_0 ?_
  refine e_l (L' := [some (.ref 40), some (.int v1), some (.int v2), some (.int v3), some (.int v4), some (.int 0)]) rfl rfl rfl ?_
  exact T
set_option maxRecDepth 10000 in
set_option maxHeartbeats 4000000 in
theorem vc_X9_weigh_38 {X : mm_X} {d : Nat} {I : tI} {J : tJ} {P : tI → tJ → Prop} {v1 : Int32} {v2 : Int32} {v3 : Int32} {v4 : Int32} {v5 : Int32}  (T : (40 ≤ v5 → (P I J)) ∧ (¬ (40 ≤ v5) → (((lg_cmp (J 40 6) 1) ≤ 0 → (P I J)) ∧ (¬ ((lg_cmp (J 40 6) 1) ≤ 0) → (((lg_cmp ((J 40 5) &&& 1) 0) ≠ 0 → (P I J)) ∧ (¬ ((lg_cmp ((J 40 5) &&& 1) 0) ≠ 0) → (Er X (d + 1) M_X9_weigh 38 [some (.ref 40), some (.int v1), some (.int v2), some (.int v3), some (.int v4), some (.int (v5 + 1))] [] I (mm_u (mm_u J 40 5 ((J 40 5) >>> (Int32.toInt64 (1 : Int32) &&& 63))) 40 6 (((mm_u J 40 5 ((J 40 5) >>> (Int32.toInt64 (1 : Int32) &&& 63))) 40 6) >>> (Int32.toInt64 (1 : Int32) &&& 63))) (qV P)))))))) : Er X (d + 1) M_X9_weigh 38 [some (.ref 40), some (.int v1), some (.int v2), some (.int v3), some (.int v4), some (.int v5)] [] I J (qV P) := by
  refine e_l rfl rfl rfl ?_
  refine e_k rfl rfl rfl ib_40 ?_
  refine e_b rfl rfl rfl (fun hA => ?_) (fun hA => ?_)
  · replace T := T.1 hA
    exact e_rv rfl rfl ⟨rfl, T⟩
  · replace T := T.2 hA
    refine e_l rfl rfl rfl ?_
    refine e_gl rfl (g_40) rfl ?_
    refine e_kl rfl rfl rfl lc_1 ?_
    refine e_p rfl rfl rfl ?_
    refine e_b rfl rfl rfl (fun hA => ?_) (fun hA => ?_)
    · replace T := T.1 hA
      exact e_rv rfl rfl ⟨rfl, T⟩
    · replace T := T.2 hA
      refine e_l rfl rfl rfl ?_
      refine e_gl rfl (g_40) rfl ?_
      refine e_kl rfl rfl rfl lc_1 ?_
      refine e_p rfl rfl rfl ?_
      refine e_kl rfl rfl rfl lc_0 ?_
      refine e_p rfl rfl rfl ?_
      refine e_b rfl rfl rfl (fun hA => ?_) (fun hA => ?_)
      · replace T := T.1 hA
        exact e_rv rfl rfl ⟨rfl, T⟩
      · replace T := T.2 hA
        refine e_l rfl rfl rfl ?_
        refine e_p rfl rfl rfl ?_
        refine e_gl rfl (g_40) rfl ?_
        refine e_k rfl rfl rfl ic_1 ?_
        refine e_p rfl rfl rfl ?_
        refine e_pl rfl (g_40) rfl ?_
        refine e_l rfl rfl rfl ?_
        refine e_p rfl rfl rfl ?_
        refine e_gl rfl (g_40) rfl ?_
        refine e_k rfl rfl rfl ic_1 ?_
        refine e_p rfl rfl rfl ?_
        refine e_pl rfl (g_40) rfl ?_
        refine e_ic (v := (v5 + 1)) (L' := [some (.ref 40), some (.int v1), some (.int v2), some (.int v3), some (.int v4), some (.int (v5 + 1))]) rfl rfl rfl ic_1 rfl ?_
        refine e_g rfl ?_
        exact T
set_option maxRecDepth 10000 in
set_option maxHeartbeats 4000000 in
theorem vc_X9_ways {X : mm_X} {d : Nat} {I : tI} {J : tJ} {P : Int64 → tI → tJ → Prop} {v1 : Int32}  (T : (v1 < 0 → (P 0 I J)) ∧ (¬ (v1 < 0) → (((I 40 2) < v1 → (P 0 I J)) ∧ (¬ ((I 40 2) < v1) → ((v1 ≤ 10 → (ix v1 11 ∧ (∃ k14, mm_R0 41 (tn v1) = some k14 ∧ k14 ∈ mm_crs ∧ (ix (I 40 3) 8 ∧ (((I (k14 + 5) (tn (I 40 3))) = (-1) → (ix (I 40 3) 8 ∧ (((I (k14 + 2) (tn (I 40 3))) ≠ 3 → (((I 40 2) ≤ v1 → (EI X d n_X9_isLetGoFrom [.ref 40, .int v1] I J (fun x_1 I_2 J_3 => (x_1 = 0 → (P 0 I_2 J_3)) ∧ (¬ (x_1 = 0) → (P 1 I_2 J_3))))) ∧ (¬ ((I 40 2) ≤ v1) → ((v1 ≤ 9 → (((I 40 1) ≤ 0 → (Er X (d + 1) M_X9_ways 83 [some (.ref 40), some (.int v1), some (.ref k14), some (.long 0), none] [] I J (qL P))) ∧ (¬ ((I 40 1) ≤ 0) → (ix (v1 + 1) 11 ∧ (∃ k66, mm_R0 41 (tn (v1 + 1)) = some k66 ∧ k66 ∈ mm_crs ∧ (EV X d n_X0_follow [.ref k66, .ref k14, .int v1, .int 3] I J (fun I_5 J_6 => EL X d n_X9_ways [.ref 40, .int (v1 + 1)] I_5 J_6 (fun x_7 I_8 J_9 => ∀ y3_10 : Int64, y3_10 = (0 + ((Int32.toInt64 (I_5 40 1)) * x_7)) → (Er X (d + 1) M_X9_ways 83 [some (.ref 40), some (.int v1), some (.ref k14), some (.long y3_10), none] [] I_8 J_9 (qL P)))))))))) ∧ (¬ (v1 ≤ 9) → (EI X d n_X9_isLetGoFrom [.ref 40, .int v1] I J (fun x_11 I_12 J_13 => (x_11 = 0 → (P 0 I_12 J_13)) ∧ (¬ (x_11 = 0) → (P 1 I_12 J_13))))))))) ∧ (¬ ((I (k14 + 2) (tn (I 40 3))) ≠ 3) → (P 0 I J))))) ∧ (¬ ((I (k14 + 5) (tn (I 40 3))) = (-1)) → (P ((1 : Int64) <<< (Int32.toInt64 (4 * ((I 40 2) - v1)) &&& 63)) I J))))))) ∧ (¬ (v1 ≤ 10) → (P 0 I J))))))) : EL X (d + 1) n_X9_ways [.ref 40, .int v1] I J P := by
  refine ⟨M_X9_ways, tb_X9_ways, Nat.le_of_ble_eq_true rfl, ?_⟩
  show Er X (d + 1) M_X9_ways 0 [some (.ref 40), some (.int v1), none, none, none] [] I J (qL P)
  refine e_l rfl rfl rfl ?_
  refine e_b rfl rfl rfl (fun hA => ?_) (fun hA => ?_)
  · replace T := T.1 hA
    refine e_kl rfl rfl rfl lc_0 ?_
    exact e_rl rfl rfl ⟨_, rfl, T⟩
  · replace T := T.2 hA
    refine e_l rfl rfl rfl ?_
    refine e_l rfl rfl rfl ?_
    refine e_gi rfl (g_40) (by decide) ?_
    refine e_b rfl rfl rfl (fun hA => ?_) (fun hA => ?_)
    · replace T := T.1 hA
      refine e_kl rfl rfl rfl lc_0 ?_
      exact e_rl rfl rfl ⟨_, rfl, T⟩
    · replace T := T.2 hA
      refine e_l rfl rfl rfl ?_
      refine e_k rfl rfl rfl ib_10 ?_
      refine e_b rfl rfl rfl (fun hA => ?_) (fun hA => ?_)
      · replace T := T.1 hA
        refine e_l rfl rfl rfl ?_
        refine e_gr rfl (g_40) rfl (r_40_0) ?_
        refine e_l rfl rfl rfl ?_
        obtain ⟨hj, k14, hR, hk14, T⟩ := T
        refine e_aa rfl (g_41) hj hR ?_
        refine e_l (L' := [some (.ref 40), some (.int v1), some (.ref k14), none, none]) rfl rfl rfl ?_
        refine e_l rfl rfl rfl ?_
        refine e_gr rfl (crs_g k14 hk14) rfl (crs_r5 k14 hk14) ?_
        refine e_l rfl rfl rfl ?_
        refine e_gi rfl (g_40) (by decide) ?_
        refine e_ia rfl (crs_a5 k14 hk14) T.1 ?_
        replace T := T.2
        refine e_k rfl rfl rfl ic_m1 ?_
        refine e_b rfl rfl rfl (fun hA => ?_) (fun hA => ?_)
        · replace T := T.1 hA
          refine e_l rfl rfl rfl ?_
          refine e_gr rfl (crs_g k14 hk14) rfl (crs_r2 k14 hk14) ?_
          refine e_l rfl rfl rfl ?_
          refine e_gi rfl (g_40) (by decide) ?_
          refine e_ia rfl (crs_a2 k14 hk14) T.1 ?_
          replace T := T.2
          refine e_k rfl rfl rfl ic_3 ?_
          refine e_b rfl rfl rfl (fun hA => ?_) (fun hA => ?_)
          · replace T := T.1 hA
            refine e_l rfl rfl rfl ?_
            refine e_l rfl rfl rfl ?_
            refine e_gi rfl (g_40) (by decide) ?_
            refine e_b rfl rfl rfl (fun hA => ?_) (fun hA => ?_)
            · replace T := T.1 hA
              refine e_l rfl rfl rfl ?_
              refine e_l rfl rfl rfl ?_
              refine e_cvI (as := [.int v1]) (rs := []) rfl rfl (g_40) rfl T (fun x_1 I_2 J_3 T => ?_)
              try dsimp only at T
              refine e_b rfl rfl rfl (fun hA => ?_) (fun hA => ?_)
              · replace T := T.1 hA
                refine e_kl rfl rfl rfl lc_0 ?_
                exact e_rl rfl rfl ⟨_, rfl, T⟩
              · replace T := T.2 hA
                refine e_kl rfl rfl rfl lc_1 ?_
                refine e_g rfl ?_
                exact e_rl rfl rfl ⟨_, rfl, T⟩
            · replace T := T.2 hA
              refine e_l rfl rfl rfl ?_
              refine e_k rfl rfl rfl ib_9 ?_
              refine e_b rfl rfl rfl (fun hA => ?_) (fun hA => ?_)
              · replace T := T.1 hA
                refine e_kl rfl rfl rfl lc_0 ?_
                refine e_l (L' := [some (.ref 40), some (.int v1), some (.ref k14), some (.long 0), none]) rfl rfl rfl ?_
                refine e_l rfl rfl rfl ?_
                refine e_gi rfl (g_40) (by decide) ?_
                refine e_b rfl rfl rfl (fun hA => ?_) (fun hA => ?_)
                · replace T := T.1 hA
                  exact T
                · replace T := T.2 hA
                  refine e_l rfl rfl rfl ?_
                  refine e_gr rfl (g_40) rfl (r_40_0) ?_
                  refine e_l rfl rfl rfl ?_
                  refine e_k rfl rfl rfl ic_1 ?_
                  refine e_p rfl rfl rfl ?_
                  obtain ⟨hj, k66, hR, hk66, T⟩ := T
                  refine e_aa rfl (g_41) hj hR ?_
                  refine e_l rfl rfl rfl ?_
                  refine e_l rfl rfl rfl ?_
                  refine e_k rfl rfl rfl ic_3 ?_
                  refine e_cvV (as := [.ref k14, .int v1, .int 3]) (rs := []) rfl rfl (crs_g k66 hk66) rfl T (fun I_5 J_6 T => ?_)
                  try dsimp only at T
                  refine e_l rfl rfl rfl ?_
                  refine e_l rfl rfl rfl ?_
                  refine e_gi rfl (g_40) (by decide) ?_
                  refine e_p rfl rfl rfl ?_
                  refine e_l rfl rfl rfl ?_
                  refine e_l rfl rfl rfl ?_
                  refine e_k rfl rfl rfl ic_1 ?_
                  refine e_p rfl rfl rfl ?_
                  refine e_csL (as := [.ref 40, .int (v1 + 1)]) (rs := [.long (Int32.toInt64 (I_5 40 1)), .long 0]) rfl rfl rfl T (fun x_7 I_8 J_9 T => ?_)
                  try dsimp only at T
                  refine e_p rfl rfl rfl ?_
                  refine e_p rfl rfl rfl ?_
                  refine e_sl (Lf := fun y3_10 => [some (.ref 40), some (.int v1), some (.ref k14), some (.long y3_10), none]) rfl rfl rfl (fun y3_10 hy3_10 => ?_)
                  replace T := T y3_10 hy3_10
                  exact T
              · replace T := T.2 hA
                refine e_l rfl rfl rfl ?_
                refine e_l rfl rfl rfl ?_
                refine e_cvI (as := [.int v1]) (rs := []) rfl rfl (g_40) rfl T (fun x_11 I_12 J_13 T => ?_)
                try dsimp only at T
                refine e_b rfl rfl rfl (fun hA => ?_) (fun hA => ?_)
                · replace T := T.1 hA
                  refine e_kl rfl rfl rfl lc_0 ?_
                  exact e_rl rfl rfl ⟨_, rfl, T⟩
                · replace T := T.2 hA
                  refine e_kl rfl rfl rfl lc_1 ?_
                  refine e_g rfl ?_
                  exact e_rl rfl rfl ⟨_, rfl, T⟩
          · replace T := T.2 hA
            refine e_kl rfl rfl rfl lc_0 ?_
            exact e_rl rfl rfl ⟨_, rfl, T⟩
        · replace T := T.2 hA
          refine e_kl rfl rfl rfl lc_1 ?_
          refine e_k rfl rfl rfl ic_4 ?_
          refine e_l rfl rfl rfl ?_
          refine e_gi rfl (g_40) (by decide) ?_
          refine e_l rfl rfl rfl ?_
          refine e_p rfl rfl rfl ?_
          refine e_p rfl rfl rfl ?_
          refine e_p rfl rfl rfl ?_
          exact e_rl rfl rfl ⟨_, rfl, T⟩
      · replace T := T.2 hA
        refine e_kl rfl rfl rfl lc_0 ?_
        exact e_rl rfl rfl ⟨_, rfl, T⟩
set_option maxRecDepth 10000 in
set_option maxHeartbeats 4000000 in
theorem vc_X9_ways_83 {X : mm_X} {d : Nat} {I : tI} {J : tJ} {P : Int64 → tI → tJ → Prop} {v1 : Int32} {k14 : Nat} {v3 : Int64} (hk14 : k14 ∈ mm_crs) (T : (16 ≤ (I 40 1) → (P v3 I J)) ∧ (¬ (16 ≤ (I 40 1)) → (ix (v1 + 1) 11 ∧ (∃ k92, mm_R0 41 (tn (v1 + 1)) = some k92 ∧ k92 ∈ mm_crs ∧ (EV X d n_X0_follow [.ref k92, .ref k14, .int v1, .int 0] I J (fun I_2 J_3 => EL X d n_X9_ways [.ref 40, .int (v1 + 1)] I_2 J_3 (fun x_4 I_5 J_6 => ∀ y3_7 : Int64, y3_7 = (v3 + ((Int32.toInt64 (16 - (I_2 40 1))) * x_4)) → (P y3_7 I_5 J_6)))))))) : Er X (d + 1) M_X9_ways 83 [some (.ref 40), some (.int v1), some (.ref k14), some (.long v3), none] [] I J (qL P) := by
  refine e_l rfl rfl rfl ?_
  refine e_gi rfl (g_40) (by decide) ?_
  refine e_k rfl rfl rfl ib_16 ?_
  refine e_b rfl rfl rfl (fun hA => ?_) (fun hA => ?_)
  · replace T := T.1 hA
    refine e_l rfl rfl rfl ?_
    exact e_rl rfl rfl ⟨_, rfl, T⟩
  · replace T := T.2 hA
    refine e_l rfl rfl rfl ?_
    refine e_gr rfl (g_40) rfl (r_40_0) ?_
    refine e_l rfl rfl rfl ?_
    refine e_k rfl rfl rfl ic_1 ?_
    refine e_p rfl rfl rfl ?_
    obtain ⟨hj, k92, hR, hk92, T⟩ := T
    refine e_aa rfl (g_41) hj hR ?_
    refine e_l rfl rfl rfl ?_
    refine e_l rfl rfl rfl ?_
    refine e_k rfl rfl rfl ic_0 ?_
    refine e_cvV (as := [.ref k14, .int v1, .int 0]) (rs := []) rfl rfl (crs_g k92 hk92) rfl T (fun I_2 J_3 T => ?_)
    try dsimp only at T
    refine e_l rfl rfl rfl ?_
    refine e_k rfl rfl rfl ib_16 ?_
    refine e_l rfl rfl rfl ?_
    refine e_gi rfl (g_40) (by decide) ?_
    refine e_p rfl rfl rfl ?_
    refine e_p rfl rfl rfl ?_
    refine e_l rfl rfl rfl ?_
    refine e_l rfl rfl rfl ?_
    refine e_k rfl rfl rfl ic_1 ?_
    refine e_p rfl rfl rfl ?_
    refine e_csL (as := [.ref 40, .int (v1 + 1)]) (rs := [.long (Int32.toInt64 (16 - (I_2 40 1))), .long v3]) rfl rfl rfl T (fun x_4 I_5 J_6 T => ?_)
    try dsimp only at T
    refine e_p rfl rfl rfl ?_
    refine e_p rfl rfl rfl ?_
    refine e_sl (Lf := fun y3_7 => [some (.ref 40), some (.int v1), some (.ref k14), some (.long y3_7), none]) rfl rfl rfl (fun y3_7 hy3_7 => ?_)
    replace T := T y3_7 hy3_7
    refine e_l rfl rfl rfl ?_
    exact e_rl rfl rfl ⟨_, rfl, T⟩
set_option maxRecDepth 10000 in
set_option maxHeartbeats 4000000 in
theorem vc_X9_isLetGoFrom {X : mm_X} {d : Nat} {I : tI} {J : tJ} {P : Int32 → tI → tJ → Prop} {v1 : Int32}  (T : ix v1 11 ∧ (∃ k3, mm_R0 41 (tn v1) = some k3 ∧ k3 ∈ mm_crs ∧ (Er X (d + 1) M_X9_isLetGoFrom 7 [some (.ref 40), some (.int v1), some (.ref k3), some (.int v1)] [] I J (qI P)))) : EI X (d + 1) n_X9_isLetGoFrom [.ref 40, .int v1] I J P := by
  refine ⟨M_X9_isLetGoFrom, tb_X9_isLetGoFrom, Nat.le_of_ble_eq_true rfl, ?_⟩
  show Er X (d + 1) M_X9_isLetGoFrom 0 [some (.ref 40), some (.int v1), none, none] [] I J (qI P)
  refine e_l rfl rfl rfl ?_
  refine e_gr rfl (g_40) rfl (r_40_0) ?_
  refine e_l rfl rfl rfl ?_
  obtain ⟨hj, k3, hR, hk3, T⟩ := T
  refine e_aa rfl (g_41) hj hR ?_
  refine e_l (L' := [some (.ref 40), some (.int v1), some (.ref k3), none]) rfl rfl rfl ?_
  refine e_l rfl rfl rfl ?_
  refine e_l (L' := [some (.ref 40), some (.int v1), some (.ref k3), some (.int v1)]) rfl rfl rfl ?_
  exact T
set_option maxRecDepth 10000 in
set_option maxHeartbeats 4000000 in
theorem vc_X9_isLetGoFrom_7 {X : mm_X} {d : Nat} {I : tI} {J : tJ} {P : Int32 → tI → tJ → Prop} {v1 : Int32} {k3 : Nat} {v3 : Int32} (hk3 : k3 ∈ mm_crs) (T : ((I 40 4) < v3 → (Er X (d + 1) M_X9_isLetGoFrom 27 [some (.ref 40), some (.int v1), some (.ref k3), some (.int v3)] [] I J (qI P))) ∧ (¬ ((I 40 4) < v3) → (ix (I 40 3) 8 ∧ (((I (k3 + 5) (tn (I 40 3))) ≠ (-1) → (Er X (d + 1) M_X9_isLetGoFrom 27 [some (.ref 40), some (.int v1), some (.ref k3), some (.int v3)] [] I J (qI P))) ∧ (¬ ((I (k3 + 5) (tn (I 40 3))) ≠ (-1)) → (EV X d n_X0_untilButters [.ref k3, .int v3] I J (fun I_2 J_3 => EV X d n_X0_fromButters [.ref k3, .int v3, .int 0] I_2 J_3 (fun I_5 J_6 => Er X (d + 1) M_X9_isLetGoFrom 7 [some (.ref 40), some (.int v1), some (.ref k3), some (.int (v3 + 1))] [] I_5 J_6 (qI P))))))))) : Er X (d + 1) M_X9_isLetGoFrom 7 [some (.ref 40), some (.int v1), some (.ref k3), some (.int v3)] [] I J (qI P) := by
  refine e_l rfl rfl rfl ?_
  refine e_l rfl rfl rfl ?_
  refine e_gi rfl (g_40) (by decide) ?_
  refine e_b rfl rfl rfl (fun hA => ?_) (fun hA => ?_)
  · replace T := T.1 hA
    exact T
  · replace T := T.2 hA
    refine e_l rfl rfl rfl ?_
    refine e_gr rfl (crs_g k3 hk3) rfl (crs_r5 k3 hk3) ?_
    refine e_l rfl rfl rfl ?_
    refine e_gi rfl (g_40) (by decide) ?_
    refine e_ia rfl (crs_a5 k3 hk3) T.1 ?_
    replace T := T.2
    refine e_k rfl rfl rfl ic_m1 ?_
    refine e_b rfl rfl rfl (fun hA => ?_) (fun hA => ?_)
    · replace T := T.1 hA
      exact T
    · replace T := T.2 hA
      refine e_l rfl rfl rfl ?_
      refine e_l rfl rfl rfl ?_
      refine e_cvV (as := [.int v3]) (rs := []) rfl rfl (crs_g k3 hk3) rfl T (fun I_2 J_3 T => ?_)
      try dsimp only at T
      refine e_l rfl rfl rfl ?_
      refine e_l rfl rfl rfl ?_
      refine e_k rfl rfl rfl ic_0 ?_
      refine e_cvV (as := [.int v3, .int 0]) (rs := []) rfl rfl (crs_g k3 hk3) rfl T (fun I_5 J_6 T => ?_)
      try dsimp only at T
      refine e_ic (v := (v3 + 1)) (L' := [some (.ref 40), some (.int v1), some (.ref k3), some (.int (v3 + 1))]) rfl rfl rfl ic_1 rfl ?_
      refine e_g rfl ?_
      exact T
set_option maxRecDepth 10000 in
set_option maxHeartbeats 4000000 in
theorem vc_X9_isLetGoFrom_27 {X : mm_X} {d : Nat} {I : tI} {J : tJ} {P : Int32 → tI → tJ → Prop} {v1 : Int32} {k3 : Nat} {v3 : Int32} (hk3 : k3 ∈ mm_crs) (T : ix (I 40 3) 8 ∧ (((I (k3 + 5) (tn (I 40 3))) = (-1) → (P 0 I J)) ∧ (¬ ((I (k3 + 5) (tn (I 40 3))) = (-1)) → (P 1 I J)))) : Er X (d + 1) M_X9_isLetGoFrom 27 [some (.ref 40), some (.int v1), some (.ref k3), some (.int v3)] [] I J (qI P) := by
  refine e_l rfl rfl rfl ?_
  refine e_gr rfl (crs_g k3 hk3) rfl (crs_r5 k3 hk3) ?_
  refine e_l rfl rfl rfl ?_
  refine e_gi rfl (g_40) (by decide) ?_
  refine e_ia rfl (crs_a5 k3 hk3) T.1 ?_
  replace T := T.2
  refine e_k rfl rfl rfl ic_m1 ?_
  refine e_b rfl rfl rfl (fun hA => ?_) (fun hA => ?_)
  · replace T := T.1 hA
    refine e_k rfl rfl rfl ic_0 ?_
    exact e_rz rfl rfl (by decide) ⟨_, rfl, T⟩
  · replace T := T.2 hA
    refine e_k rfl rfl rfl ic_1 ?_
    refine e_g rfl ?_
    exact e_rz rfl rfl (by decide) ⟨_, rfl, T⟩
