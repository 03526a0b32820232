set_option maxRecDepth 10000 in
set_option maxHeartbeats 4000000 in
theorem vc_X11_spoilt {X : mm_X} {d : Nat} {I : tI} {J : tJ} {P : Int32 → tI → tJ → Prop}   (T : EV X d n_X11_find [.ref 145] I J (fun I_2 J_3 => EI X d n_X11_spoiltNow [.ref 145] I_2 J_3 (fun x_4 I_5 J_6 => P x_4 I_5 J_6))) : EI X (d + 1) n_X11_spoilt [.ref 145] I J P := by
  refine ⟨M_X11_spoilt, tb_X11_spoilt, Nat.le_of_ble_eq_true rfl, ?_⟩
  show Er X (d + 1) M_X11_spoilt 0 [some (.ref 145)] [] I J (qI P)
  refine e_l rfl rfl rfl ?_
  refine e_cvV (as := []) (rs := []) rfl rfl (g_145) rfl T (fun I_2 J_3 T => ?_)
  try dsimp only at T
  refine e_l rfl rfl rfl ?_
  refine e_cvI (as := []) (rs := []) rfl rfl (g_145) rfl T (fun x_4 I_5 J_6 T => ?_)
  try dsimp only at T
  exact e_ri rfl rfl ⟨_, rfl, T⟩
set_option maxRecDepth 10000 in
set_option maxHeartbeats 4000000 in
theorem vc_X11_here {X : mm_X} {d : Nat} {I : tI} {J : tJ} {P : Int32 → tI → tJ → Prop} {v1 : Int32}  (T : Er X d M_X11_here 4 [some (.ref 145), some (.int v1), some (.int 0), some (.int 0)] [] I J (qI P)) : EI X d n_X11_here [.ref 145, .int v1] I J P := by
  refine ⟨M_X11_here, tb_X11_here, Nat.le_of_ble_eq_true rfl, ?_⟩
  show Er X d M_X11_here 0 [some (.ref 145), some (.int v1), none, none] [] I J (qI P)
  refine e_k rfl rfl rfl ic_0 ?_
  refine e_l (L' := [some (.ref 145), some (.int v1), some (.int 0), none]) rfl rfl rfl ?_
  refine e_k rfl rfl rfl ic_0 ?_
  refine e_l (L' := [some (.ref 145), some (.int v1), some (.int 0), some (.int 0)]) rfl rfl rfl ?_
  exact T
set_option maxRecDepth 10000 in
set_option maxHeartbeats 4000000 in
theorem vc_X11_here_4 {X : mm_X} {d : Nat} {I : tI} {J : tJ} {P : Int32 → tI → tJ → Prop} {v1 : Int32} {v2 : Int32} {v3 : Int32}  (T : ((I 145 9) ≤ v3 → (P v2 I J)) ∧ (¬ ((I 145 9) ≤ v3) → (ix ((8 * v1) + v3) 240 ∧ ((2 ≤ (I 163 (tn ((8 * v1) + v3))) → (∀ y2_1 : Int32, y2_1 = (v2 + 0) → (Er X d M_X11_here 4 [some (.ref 145), some (.int v1), some (.int y2_1), some (.int (v3 + 1))] [] I J (qI P)))) ∧ (¬ (2 ≤ (I 163 (tn ((8 * v1) + v3)))) → (∀ y2_2 : Int32, y2_2 = (v2 + 1) → (Er X d M_X11_here 4 [some (.ref 145), some (.int v1), some (.int y2_2), some (.int (v3 + 1))] [] I J (qI P)))))))) : Er X d M_X11_here 4 [some (.ref 145), some (.int v1), some (.int v2), some (.int v3)] [] I J (qI P) := by
  refine e_l rfl rfl rfl ?_
  refine e_l rfl rfl rfl ?_
  refine e_gi rfl (g_145) (by decide) ?_
  refine e_b rfl rfl rfl (fun hA => ?_) (fun hA => ?_)
  · replace T := T.1 hA
    refine e_l rfl rfl rfl ?_
    exact e_ri rfl rfl ⟨_, rfl, T⟩
  · replace T := T.2 hA
    refine e_l rfl rfl rfl ?_
    refine e_l rfl rfl rfl ?_
    refine e_gr rfl (g_145) rfl (r_145_22) ?_
    refine e_k rfl rfl rfl ib_8 ?_
    refine e_l rfl rfl rfl ?_
    refine e_p rfl rfl rfl ?_
    refine e_l rfl rfl rfl ?_
    refine e_p rfl rfl rfl ?_
    refine e_ia rfl (g_163) T.1 ?_
    replace T := T.2
    refine e_k rfl rfl rfl ic_2 ?_
    refine e_b rfl rfl rfl (fun hA => ?_) (fun hA => ?_)
    · replace T := T.1 hA
      refine e_k rfl rfl rfl ic_0 ?_
      refine e_p rfl rfl rfl ?_
      refine e_si (Lf := fun y2_1 => [some (.ref 145), some (.int v1), some (.int y2_1), some (.int v3)]) rfl rfl rfl (fun y2_1 hy2_1 => ?_)
      replace T := T y2_1 hy2_1
      refine e_ic (v := (v3 + 1)) (L' := [some (.ref 145), some (.int v1), some (.int y2_1), some (.int (v3 + 1))]) rfl rfl rfl ic_1 rfl ?_
      refine e_g rfl ?_
      exact T
    · replace T := T.2 hA
      refine e_k rfl rfl rfl ic_1 ?_
      refine e_g rfl ?_
      refine e_p rfl rfl rfl ?_
      refine e_si (Lf := fun y2_2 => [some (.ref 145), some (.int v1), some (.int y2_2), some (.int v3)]) rfl rfl rfl (fun y2_2 hy2_2 => ?_)
      replace T := T y2_2 hy2_2
      refine e_ic (v := (v3 + 1)) (L' := [some (.ref 145), some (.int v1), some (.int y2_2), some (.int (v3 + 1))]) rfl rfl rfl ic_1 rfl ?_
      refine e_g rfl ?_
      exact T
set_option maxRecDepth 10000 in
set_option maxHeartbeats 4000000 in
theorem vc_X11_quietNow {X : mm_X} {d : Nat} {I : tI} {J : tJ} {P : Int32 → tI → tJ → Prop}   (T : Er X (d + 1) M_X11_quietNow 2 [some (.ref 145), some (.int 0)] [] I J (qI P)) : EI X (d + 1) n_X11_quietNow [.ref 145] I J P := by
  refine ⟨M_X11_quietNow, tb_X11_quietNow, Nat.le_of_ble_eq_true rfl, ?_⟩
  show Er X (d + 1) M_X11_quietNow 0 [some (.ref 145), none] [] I J (qI P)
  refine e_k rfl rfl rfl ic_0 ?_
  refine e_l (L' := [some (.ref 145), some (.int 0)]) rfl rfl rfl ?_
  exact T
set_option maxRecDepth 10000 in
set_option maxHeartbeats 4000000 in
theorem vc_X11_quietNow_2 {X : mm_X} {d : Nat} {I : tI} {J : tJ} {P : Int32 → tI → tJ → Prop} {v1 : Int32}  (T : (30 ≤ v1 → (P (-1) I J)) ∧ (¬ (30 ≤ v1) → (EI X d n_X11_here [.ref 145, .int v1] I J (fun x_1 I_2 J_3 => (x_1 ≠ 0 → (Er X (d + 1) M_X11_quietNow 2 [some (.ref 145), some (.int (v1 + 1))] [] I_2 J_3 (qI P))) ∧ (¬ (x_1 ≠ 0) → (P v1 I_2 J_3)))))) : Er X (d + 1) M_X11_quietNow 2 [some (.ref 145), some (.int v1)] [] I J (qI P) := by
  refine e_l rfl rfl rfl ?_
  refine e_k rfl rfl rfl ib_30 ?_
  refine e_b rfl rfl rfl (fun hA => ?_) (fun hA => ?_)
  · replace T := T.1 hA
    refine e_k rfl rfl rfl ic_m1 ?_
    exact e_ri rfl rfl ⟨_, rfl, T⟩
  · replace T := T.2 hA
    refine e_l rfl rfl rfl ?_
    refine e_l rfl rfl rfl ?_
    refine e_cvI (as := [.int v1]) (rs := []) rfl rfl (g_145) rfl T (fun x_1 I_2 J_3 T => ?_)
    try dsimp only at T
    refine e_b rfl rfl rfl (fun hA => ?_) (fun hA => ?_)
    · replace T := T.1 hA
      refine e_ic (v := (v1 + 1)) (L' := [some (.ref 145), some (.int (v1 + 1))]) rfl rfl rfl ic_1 rfl ?_
      refine e_g rfl ?_
      exact T
    · replace T := T.2 hA
      refine e_l rfl rfl rfl ?_
      exact e_ri rfl rfl ⟨_, rfl, T⟩
set_option maxRecDepth 10000 in
set_option maxHeartbeats 4000000 in
theorem vc_X11_quiet {X : mm_X} {d : Nat} {I : tI} {J : tJ} {P : Int32 → tI → tJ → Prop}   (T : EV X d n_X11_find [.ref 145] I J (fun I_2 J_3 => EI X d n_X11_quietNow [.ref 145] I_2 J_3 (fun x_4 I_5 J_6 => P x_4 I_5 J_6))) : EI X (d + 1) n_X11_quiet [.ref 145] I J P := by
  refine ⟨M_X11_quiet, tb_X11_quiet, Nat.le_of_ble_eq_true rfl, ?_⟩
  show Er X (d + 1) M_X11_quiet 0 [some (.ref 145)] [] I J (qI P)
  refine e_l rfl rfl rfl ?_
  refine e_cvV (as := []) (rs := []) rfl rfl (g_145) rfl T (fun I_2 J_3 T => ?_)
  try dsimp only at T
  refine e_l rfl rfl rfl ?_
  refine e_cvI (as := []) (rs := []) rfl rfl (g_145) rfl T (fun x_4 I_5 J_6 T => ?_)
  try dsimp only at T
  exact e_ri rfl rfl ⟨_, rfl, T⟩
set_option maxRecDepth 10000 in
set_option maxHeartbeats 4000000 in
theorem vc_X11_crowdBy {X : mm_X} {d : Nat} {I : tI} {J : tJ} {P : Int32 → tI → tJ → Prop} {v1 : Int32}  (T : Er X d M_X11_crowdBy 2 [some (.ref 145), some (.int v1), some (.int 0), none] [] I J (qI P)) : EI X d n_X11_crowdBy [.ref 145, .int v1] I J P := by
  refine ⟨M_X11_crowdBy, tb_X11_crowdBy, Nat.le_of_ble_eq_true rfl, ?_⟩
  show Er X d M_X11_crowdBy 0 [some (.ref 145), some (.int v1), none, none] [] I J (qI P)
  refine e_k rfl rfl rfl ic_0 ?_
  refine e_l (L' := [some (.ref 145), some (.int v1), some (.int 0), none]) rfl rfl rfl ?_
  exact T
set_option maxRecDepth 10000 in
set_option maxHeartbeats 4000000 in
theorem vc_X11_crowdBy_2 {X : mm_X} {d : Nat} {I : tI} {J : tJ} {P : Int32 → tI → tJ → Prop} {v1 : Int32} {v2 : Int32} {o3 : Option Value}  (T : (30 ≤ v2 → (P (-1) I J)) ∧ (¬ (30 ≤ v2) → (Er X d M_X11_crowdBy 7 [some (.ref 145), some (.int v1), some (.int v2), some (.int 0)] [] I J (qI P)))) : Er X d M_X11_crowdBy 2 [some (.ref 145), some (.int v1), some (.int v2), o3] [] I J (qI P) := by
  refine e_l rfl rfl rfl ?_
  refine e_k rfl rfl rfl ib_30 ?_
  refine e_b rfl rfl rfl (fun hA => ?_) (fun hA => ?_)
  · replace T := T.1 hA
    refine e_k rfl rfl rfl ic_m1 ?_
    exact e_ri rfl rfl ⟨_, rfl, T⟩
  · replace T := T.2 hA
    refine e_k rfl rfl rfl ic_0 ?_
    refine e_l (L' := [some (.ref 145), some (.int v1), some (.int v2), some (.int 0)]) rfl rfl rfl ?_
    exact T
set_option maxRecDepth 10000 in
set_option maxHeartbeats 4000000 in
theorem vc_X11_crowdBy_7 {X : mm_X} {d : Nat} {I : tI} {J : tJ} {P : Int32 → tI → tJ → Prop} {v1 : Int32} {v2 : Int32} {v3 : Int32}  (T : ((I 145 9) ≤ v3 → (Er X d M_X11_crowdBy 2 [some (.ref 145), some (.int v1), some (.int (v2 + 1)), some (.int v3)] [] I J (qI P))) ∧ (¬ ((I 145 9) ≤ v3) → (ix ((8 * v2) + v3) 240 ∧ (((I 163 (tn ((8 * v2) + v3))) ≠ 0 → (Er X d M_X11_crowdBy 7 [some (.ref 145), some (.int v1), some (.int v2), some (.int (v3 + 1))] [] I J (qI P))) ∧ (¬ ((I 163 (tn ((8 * v2) + v3))) ≠ 0) → ((v1 ≠ 0 → (P v3 I J)) ∧ (¬ (v1 ≠ 0) → (P v2 I J)))))))) : Er X d M_X11_crowdBy 7 [some (.ref 145), some (.int v1), some (.int v2), some (.int v3)] [] I J (qI P) := by
  refine e_l rfl rfl rfl ?_
  refine e_l rfl rfl rfl ?_
  refine e_gi rfl (g_145) (by decide) ?_
  refine e_b rfl rfl rfl (fun hA => ?_) (fun hA => ?_)
  · replace T := T.1 hA
    refine e_ic (v := (v2 + 1)) (L' := [some (.ref 145), some (.int v1), some (.int (v2 + 1)), some (.int v3)]) rfl rfl rfl ic_1 rfl ?_
    refine e_g rfl ?_
    exact T
  · replace T := T.2 hA
    refine e_l rfl rfl rfl ?_
    refine e_gr rfl (g_145) rfl (r_145_22) ?_
    refine e_k rfl rfl rfl ib_8 ?_
    refine e_l rfl rfl rfl ?_
    refine e_p rfl rfl rfl ?_
    refine e_l rfl rfl rfl ?_
    refine e_p rfl rfl rfl ?_
    refine e_ia rfl (g_163) T.1 ?_
    replace T := T.2
    refine e_b rfl rfl rfl (fun hA => ?_) (fun hA => ?_)
    · replace T := T.1 hA
      refine e_ic (v := (v3 + 1)) (L' := [some (.ref 145), some (.int v1), some (.int v2), some (.int (v3 + 1))]) rfl rfl rfl ic_1 rfl ?_
      refine e_g rfl ?_
      exact T
    · replace T := T.2 hA
      refine e_l rfl rfl rfl ?_
      refine e_b rfl rfl rfl (fun hA => ?_) (fun hA => ?_)
      · replace T := T.1 hA
        refine e_l rfl rfl rfl ?_
        exact e_ri rfl rfl ⟨_, rfl, T⟩
      · replace T := T.2 hA
        refine e_l rfl rfl rfl ?_
        refine e_g rfl ?_
        exact e_ri rfl rfl ⟨_, rfl, T⟩
set_option maxRecDepth 10000 in
set_option maxHeartbeats 4000000 in
theorem vc_X11_crowd {X : mm_X} {d : Nat} {I : tI} {J : tJ} {P : Int32 → tI → tJ → Prop} {v1 : Int32}  (T : EV X d n_X11_find [.ref 145] I J (fun I_2 J_3 => EI X d n_X11_isTwo [.int v1] I_2 J_3 (fun x_4 I_5 J_6 => (x_4 = 0 → (P (-2) I_5 J_6)) ∧ (¬ (x_4 = 0) → (EI X d n_X11_crowdBy [.ref 145, .int v1] I_5 J_6 (fun x_7 I_8 J_9 => P x_7 I_8 J_9)))))) : EI X (d + 1) n_X11_crowd [.ref 145, .int v1] I J P := by
  refine ⟨M_X11_crowd, tb_X11_crowd, Nat.le_of_ble_eq_true rfl, ?_⟩
  show Er X (d + 1) M_X11_crowd 0 [some (.ref 145), some (.int v1)] [] I J (qI P)
  refine e_l rfl rfl rfl ?_
  refine e_cvV (as := []) (rs := []) rfl rfl (g_145) rfl T (fun I_2 J_3 T => ?_)
  try dsimp only at T
  refine e_l rfl rfl rfl ?_
  refine e_csI (as := [.int v1]) (rs := []) rfl rfl rfl T (fun x_4 I_5 J_6 T => ?_)
  try dsimp only at T
  refine e_b rfl rfl rfl (fun hA => ?_) (fun hA => ?_)
  · replace T := T.1 hA
    refine e_k rfl rfl rfl ib_m2 ?_
    exact e_ri rfl rfl ⟨_, rfl, T⟩
  · replace T := T.2 hA
    refine e_l rfl rfl rfl ?_
    refine e_l rfl rfl rfl ?_
    refine e_cvI (as := [.int v1]) (rs := []) rfl rfl (g_145) rfl T (fun x_7 I_8 J_9 T => ?_)
    try dsimp only at T
    refine e_g rfl ?_
    exact e_ri rfl rfl ⟨_, rfl, T⟩
set_option maxRecDepth 10000 in
set_option maxHeartbeats 4000000 in
theorem vc_X11_moveOf {X : mm_X} {d : Nat} {I : tI} {J : tJ} {P : Int32 → tI → tJ → Prop} {v1 : Int32} {v2 : Int32}  (T : ix ((3 * v1) + 2) 24 ∧ (∀ y3_1 : Int32, y3_1 = (I 153 (tn ((3 * v1) + 2))) → (Er X (d + 1) M_X11_moveOf 15 [some (.ref 145), some (.int v1), some (.int v2), some (.int y3_1), some (.int (-1)), some (.int (-1)), some (.int 0), none] [] I J (qI P)))) : EI X (d + 1) n_X11_moveOf [.ref 145, .int v1, .int v2] I J P := by
  refine ⟨M_X11_moveOf, tb_X11_moveOf, Nat.le_of_ble_eq_true rfl, ?_⟩
  show Er X (d + 1) M_X11_moveOf 0 [some (.ref 145), some (.int v1), some (.int v2), none, none, none, none, none] [] I J (qI P)
  refine e_l rfl rfl rfl ?_
  refine e_gr rfl (g_145) rfl (r_145_10) ?_
  refine e_k rfl rfl rfl ic_3 ?_
  refine e_l rfl rfl rfl ?_
  refine e_p rfl rfl rfl ?_
  refine e_k rfl rfl rfl ic_2 ?_
  refine e_p rfl rfl rfl ?_
  refine e_ia rfl (g_153) T.1 ?_
  replace T := T.2
  refine e_si (Lf := fun y3_1 => [some (.ref 145), some (.int v1), some (.int v2), some (.int y3_1), none, none, none, none]) rfl rfl rfl (fun y3_1 hy3_1 => ?_)
  replace T := T y3_1 hy3_1
  refine e_k rfl rfl rfl ic_m1 ?_
  refine e_l (L' := [some (.ref 145), some (.int v1), some (.int v2), some (.int y3_1), some (.int (-1)), none, none, none]) rfl rfl rfl ?_
  refine e_k rfl rfl rfl ic_m1 ?_
  refine e_l (L' := [some (.ref 145), some (.int v1), some (.int v2), some (.int y3_1), some (.int (-1)), some (.int (-1)), none, none]) rfl rfl rfl ?_
  refine e_k rfl rfl rfl ic_0 ?_
  refine e_l (L' := [some (.ref 145), some (.int v1), some (.int v2), some (.int y3_1), some (.int (-1)), some (.int (-1)), some (.int 0), none]) rfl rfl rfl ?_
  exact T
set_option maxRecDepth 10000 in
set_option maxHeartbeats 4000000 in
theorem vc_X11_moveOf_15 {X : mm_X} {d : Nat} {I : tI} {J : tJ} {P : Int32 → tI → tJ → Prop} {v1 : Int32} {v2 : Int32} {v3 : Int32} {v4 : Int32} {v5 : Int32} {v6 : Int32} {o7 : Option Value}  (T : ((I 145 7) ≤ v6 → (ix ((3 * v1) + 2) 24 ∧ ((v2 ≠ 0 → (P v5 (mm_u I 153 (tn ((3 * v1) + 2)) v3) J)) ∧ (¬ (v2 ≠ 0) → (P v4 (mm_u I 153 (tn ((3 * v1) + 2)) v3) J))))) ∧ (¬ ((I 145 7) ≤ v6) → (ix ((3 * v1) + 2) 24 ∧ (EV X d n_X11_lives [.ref 145] (mm_u I 153 (tn ((3 * v1) + 2)) v6) J (fun I_2 J_3 => ix v1 8 ∧ (((I_2 164 (tn v1)) = (-1) → (((0 : Int32) = 0 → (Er X (d + 1) M_X11_moveOf 54 [some (.ref 145), some (.int v1), some (.int v2), some (.int v3), some (.int v4), some (.int v5), some (.int v6), some (.int 0)] [.int v4] I_2 J_3 (qI P))) ∧ (¬ ((0 : Int32) = 0) → (Er X (d + 1) M_X11_moveOf 54 [some (.ref 145), some (.int v1), some (.int v2), some (.int v3), some (.int v4), some (.int v5), some (.int v6), some (.int 0)] [.int v6] I_2 J_3 (qI P))))) ∧ (¬ ((I_2 164 (tn v1)) = (-1)) → ((v4 = (-1) → (((1 : Int32) = 0 → (Er X (d + 1) M_X11_moveOf 54 [some (.ref 145), some (.int v1), some (.int v2), some (.int v3), some (.int v4), some (.int v5), some (.int v6), some (.int 1)] [.int v4] I_2 J_3 (qI P))) ∧ (¬ ((1 : Int32) = 0) → (Er X (d + 1) M_X11_moveOf 54 [some (.ref 145), some (.int v1), some (.int v2), some (.int v3), some (.int v4), some (.int v5), some (.int v6), some (.int 1)] [.int v6] I_2 J_3 (qI P))))) ∧ (¬ (v4 = (-1)) → (ix v1 8 ∧ ((v5 ≤ (I_2 164 (tn v1)) → (((0 : Int32) = 0 → (Er X (d + 1) M_X11_moveOf 54 [some (.ref 145), some (.int v1), some (.int v2), some (.int v3), some (.int v4), some (.int v5), some (.int v6), some (.int 0)] [.int v4] I_2 J_3 (qI P))) ∧ (¬ ((0 : Int32) = 0) → (Er X (d + 1) M_X11_moveOf 54 [some (.ref 145), some (.int v1), some (.int v2), some (.int v3), some (.int v4), some (.int v5), some (.int v6), some (.int 0)] [.int v6] I_2 J_3 (qI P))))) ∧ (¬ (v5 ≤ (I_2 164 (tn v1))) → (((1 : Int32) = 0 → (Er X (d + 1) M_X11_moveOf 54 [some (.ref 145), some (.int v1), some (.int v2), some (.int v3), some (.int v4), some (.int v5), some (.int v6), some (.int 1)] [.int v4] I_2 J_3 (qI P))) ∧ (¬ ((1 : Int32) = 0) → (Er X (d + 1) M_X11_moveOf 54 [some (.ref 145), some (.int v1), some (.int v2), some (.int v3), some (.int v4), some (.int v5), some (.int v6), some (.int 1)] [.int v6] I_2 J_3 (qI P)))))))))))))))) : Er X (d + 1) M_X11_moveOf 15 [some (.ref 145), some (.int v1), some (.int v2), some (.int v3), some (.int v4), some (.int v5), some (.int v6), o7] [] I J (qI P) := by
  refine e_l rfl rfl rfl ?_
  refine e_l rfl rfl rfl ?_
  refine e_gi rfl (g_145) (by decide) ?_
  refine e_b rfl rfl rfl (fun hA => ?_) (fun hA => ?_)
  · replace T := T.1 hA
    refine e_l rfl rfl rfl ?_
    refine e_gr rfl (g_145) rfl (r_145_10) ?_
    refine e_k rfl rfl rfl ic_3 ?_
    refine e_l rfl rfl rfl ?_
    refine e_p rfl rfl rfl ?_
    refine e_k rfl rfl rfl ic_2 ?_
    refine e_p rfl rfl rfl ?_
    refine e_l rfl rfl rfl ?_
    refine e_as rfl (g_153) T.1 ?_
    replace T := T.2
    refine e_l rfl rfl rfl ?_
    refine e_b rfl rfl rfl (fun hA => ?_) (fun hA => ?_)
    · replace T := T.1 hA
      refine e_l rfl rfl rfl ?_
      exact e_ri rfl rfl ⟨_, rfl, T⟩
    · replace T := T.2 hA
      refine e_l rfl rfl rfl ?_
      refine e_g rfl ?_
      exact e_ri rfl rfl ⟨_, rfl, T⟩
  · replace T := T.2 hA
    refine e_l rfl rfl rfl ?_
    refine e_gr rfl (g_145) rfl (r_145_10) ?_
    refine e_k rfl rfl rfl ic_3 ?_
    refine e_l rfl rfl rfl ?_
    refine e_p rfl rfl rfl ?_
    refine e_k rfl rfl rfl ic_2 ?_
    refine e_p rfl rfl rfl ?_
    refine e_l rfl rfl rfl ?_
    refine e_as rfl (g_153) T.1 ?_
    replace T := T.2
    refine e_l rfl rfl rfl ?_
    refine e_cvV (as := []) (rs := []) rfl rfl (g_145) rfl T (fun I_2 J_3 T => ?_)
    try dsimp only at T
    refine e_l rfl rfl rfl ?_
    refine e_gr rfl (g_145) rfl (r_145_23) ?_
    refine e_l rfl rfl rfl ?_
    refine e_ia rfl (g_164) T.1 ?_
    replace T := T.2
    refine e_k rfl rfl rfl ic_m1 ?_
    refine e_b rfl rfl rfl (fun hA => ?_) (fun hA => ?_)
    · replace T := T.1 hA
      refine e_k rfl rfl rfl ic_0 ?_
      refine e_l (L' := [some (.ref 145), some (.int v1), some (.int v2), some (.int v3), some (.int v4), some (.int v5), some (.int v6), some (.int 0)]) rfl rfl rfl ?_
      refine e_l rfl rfl rfl ?_
      refine e_b rfl rfl rfl (fun hA => ?_) (fun hA => ?_)
      · replace T := T.1 hA
        refine e_l rfl rfl rfl ?_
        exact T
      · replace T := T.2 hA
        refine e_l rfl rfl rfl ?_
        refine e_g rfl ?_
        exact T
    · replace T := T.2 hA
      refine e_l rfl rfl rfl ?_
      refine e_k rfl rfl rfl ic_m1 ?_
      refine e_b rfl rfl rfl (fun hA => ?_) (fun hA => ?_)
      · replace T := T.1 hA
        refine e_k rfl rfl rfl ic_1 ?_
        refine e_g rfl ?_
        refine e_l (L' := [some (.ref 145), some (.int v1), some (.int v2), some (.int v3), some (.int v4), some (.int v5), some (.int v6), some (.int 1)]) rfl rfl rfl ?_
        refine e_l rfl rfl rfl ?_
        refine e_b rfl rfl rfl (fun hA => ?_) (fun hA => ?_)
        · replace T := T.1 hA
          refine e_l rfl rfl rfl ?_
          exact T
        · replace T := T.2 hA
          refine e_l rfl rfl rfl ?_
          refine e_g rfl ?_
          exact T
      · replace T := T.2 hA
        refine e_l rfl rfl rfl ?_
        refine e_gr rfl (g_145) rfl (r_145_23) ?_
        refine e_l rfl rfl rfl ?_
        refine e_ia rfl (g_164) T.1 ?_
        replace T := T.2
        refine e_l rfl rfl rfl ?_
        refine e_b rfl rfl rfl (fun hA => ?_) (fun hA => ?_)
        · replace T := T.1 hA
          refine e_k rfl rfl rfl ic_0 ?_
          refine e_l (L' := [some (.ref 145), some (.int v1), some (.int v2), some (.int v3), some (.int v4), some (.int v5), some (.int v6), some (.int 0)]) rfl rfl rfl ?_
          refine e_l rfl rfl rfl ?_
          refine e_b rfl rfl rfl (fun hA => ?_) (fun hA => ?_)
          · replace T := T.1 hA
            refine e_l rfl rfl rfl ?_
            exact T
          · replace T := T.2 hA
            refine e_l rfl rfl rfl ?_
            refine e_g rfl ?_
            exact T
        · replace T := T.2 hA
          refine e_k rfl rfl rfl ic_1 ?_
          refine e_g rfl ?_
          refine e_l (L' := [some (.ref 145), some (.int v1), some (.int v2), some (.int v3), some (.int v4), some (.int v5), some (.int v6), some (.int 1)]) rfl rfl rfl ?_
          refine e_l rfl rfl rfl ?_
          refine e_b rfl rfl rfl (fun hA => ?_) (fun hA => ?_)
          · replace T := T.1 hA
            refine e_l rfl rfl rfl ?_
            exact T
          · replace T := T.2 hA
            refine e_l rfl rfl rfl ?_
            refine e_g rfl ?_
            exact T
set_option maxRecDepth 10000 in
set_option maxHeartbeats 4000000 in
theorem vc_X11_moveOf_54 {X : mm_X} {d : Nat} {I : tI} {J : tJ} {P : Int32 → tI → tJ → Prop} {v1 : Int32} {v2 : Int32} {v3 : Int32} {v4 : Int32} {v5 : Int32} {v6 : Int32} {v7 : Int32} {s0 : Int32}  (T : (v7 = 0 → (Er X (d + 1) M_X11_moveOf 15 [some (.ref 145), some (.int v1), some (.int v2), some (.int v3), some (.int s0), some (.int v5), some (.int (v6 + 1)), some (.int v7)] [] I J (qI P))) ∧ (¬ (v7 = 0) → (ix v1 8 ∧ (∀ y5_1 : Int32, y5_1 = (I 164 (tn v1)) → (Er X (d + 1) M_X11_moveOf 15 [some (.ref 145), some (.int v1), some (.int v2), some (.int v3), some (.int s0), some (.int y5_1), some (.int (v6 + 1)), some (.int v7)] [] I J (qI P)))))) : Er X (d + 1) M_X11_moveOf 54 [some (.ref 145), some (.int v1), some (.int v2), some (.int v3), some (.int v4), some (.int v5), some (.int v6), some (.int v7)] [.int s0] I J (qI P) := by
  refine e_l (L' := [some (.ref 145), some (.int v1), some (.int v2), some (.int v3), some (.int s0), some (.int v5), some (.int v6), some (.int v7)]) rfl rfl rfl ?_
  refine e_l rfl rfl rfl ?_
  refine e_b rfl rfl rfl (fun hA => ?_) (fun hA => ?_)
  · replace T := T.1 hA
    refine e_l rfl rfl rfl ?_
    refine e_l (L' := [some (.ref 145), some (.int v1), some (.int v2), some (.int v3), some (.int s0), some (.int v5), some (.int v6), some (.int v7)]) rfl rfl rfl ?_
    refine e_ic (v := (v6 + 1)) (L' := [some (.ref 145), some (.int v1), some (.int v2), some (.int v3), some (.int s0), some (.int v5), some (.int (v6 + 1)), some (.int v7)]) rfl rfl rfl ic_1 rfl ?_
    refine e_g rfl ?_
    exact T
  · replace T := T.2 hA
    refine e_l rfl rfl rfl ?_
    refine e_gr rfl (g_145) rfl (r_145_23) ?_
    refine e_l rfl rfl rfl ?_
    refine e_ia rfl (g_164) T.1 ?_
    replace T := T.2
    refine e_g rfl ?_
    refine e_si (Lf := fun y5_1 => [some (.ref 145), some (.int v1), some (.int v2), some (.int v3), some (.int s0), some (.int y5_1), some (.int v6), some (.int v7)]) rfl rfl rfl (fun y5_1 hy5_1 => ?_)
    replace T := T y5_1 hy5_1
    refine e_ic (v := (v6 + 1)) (L' := [some (.ref 145), some (.int v1), some (.int v2), some (.int v3), some (.int s0), some (.int y5_1), some (.int (v6 + 1)), some (.int v7)]) rfl rfl rfl ic_1 rfl ?_
    refine e_g rfl ?_
    exact T
set_option maxRecDepth 10000 in
set_option maxHeartbeats 4000000 in
theorem vc_X11_move {X : mm_X} {d : Nat} {I : tI} {J : tJ} {P : Int32 → tI → tJ → Prop} {v1 : Int32} {v2 : Int32}  (T : EV X d n_X11_find [.ref 145] I J (fun I_2 J_3 => EI X d n_X11_isSlice [.ref 145, .int v1] I_2 J_3 (fun x_4 I_5 J_6 => (x_4 = 0 → (P (-2) I_5 J_6)) ∧ (¬ (x_4 = 0) → (EI X d n_X11_isTwo [.int v2] I_5 J_6 (fun x_7 I_8 J_9 => (x_7 = 0 → (P (-2) I_8 J_9)) ∧ (¬ (x_7 = 0) → (EI X d n_X11_moveOf [.ref 145, .int v1, .int v2] I_8 J_9 (fun x_10 I_11 J_12 => P x_10 I_11 J_12))))))))) : EI X (d + 1) n_X11_move [.ref 145, .int v1, .int v2] I J P := by
  refine ⟨M_X11_move, tb_X11_move, Nat.le_of_ble_eq_true rfl, ?_⟩
  show Er X (d + 1) M_X11_move 0 [some (.ref 145), some (.int v1), some (.int v2)] [] I J (qI P)
  refine e_l rfl rfl rfl ?_
  refine e_cvV (as := []) (rs := []) rfl rfl (g_145) rfl T (fun I_2 J_3 T => ?_)
  try dsimp only at T
  refine e_l rfl rfl rfl ?_
  refine e_l rfl rfl rfl ?_
  refine e_cvI (as := [.int v1]) (rs := []) rfl rfl (g_145) rfl T (fun x_4 I_5 J_6 T => ?_)
  try dsimp only at T
  refine e_b rfl rfl rfl (fun hA => ?_) (fun hA => ?_)
  · replace T := T.1 hA
    refine e_k rfl rfl rfl ib_m2 ?_
    exact e_ri rfl rfl ⟨_, rfl, T⟩
  · replace T := T.2 hA
    refine e_l rfl rfl rfl ?_
    refine e_csI (as := [.int v2]) (rs := []) rfl rfl rfl T (fun x_7 I_8 J_9 T => ?_)
    try dsimp only at T
    refine e_b rfl rfl rfl (fun hA => ?_) (fun hA => ?_)
    · replace T := T.1 hA
      refine e_k rfl rfl rfl ib_m2 ?_
      exact e_ri rfl rfl ⟨_, rfl, T⟩
    · replace T := T.2 hA
      refine e_l rfl rfl rfl ?_
      refine e_l rfl rfl rfl ?_
      refine e_l rfl rfl rfl ?_
      refine e_cvI (as := [.int v1, .int v2]) (rs := []) rfl rfl (g_145) rfl T (fun x_10 I_11 J_12 T => ?_)
      try dsimp only at T
      refine e_g rfl ?_
      exact e_ri rfl rfl ⟨_, rfl, T⟩
set_option maxRecDepth 10000 in
set_option maxHeartbeats 4000000 in
theorem vc_X11_allHere {X : mm_X} {d : Nat} {I : tI} {J : tJ} {P : Int32 → tI → tJ → Prop}   (T : Er X (d + 1) M_X11_allHere 4 [some (.ref 145), some (.int 0), some (.int 0)] [] I J (qI P)) : EI X (d + 1) n_X11_allHere [.ref 145] I J P := by
  refine ⟨M_X11_allHere, tb_X11_allHere, Nat.le_of_ble_eq_true rfl, ?_⟩
  show Er X (d + 1) M_X11_allHere 0 [some (.ref 145), none, none] [] I J (qI P)
  refine e_k rfl rfl rfl ic_0 ?_
  refine e_l (L' := [some (.ref 145), some (.int 0), none]) rfl rfl rfl ?_
  refine e_k rfl rfl rfl ic_0 ?_
  refine e_l (L' := [some (.ref 145), some (.int 0), some (.int 0)]) rfl rfl rfl ?_
  exact T
set_option maxRecDepth 10000 in
set_option maxHeartbeats 4000000 in
theorem vc_X11_allHere_4 {X : mm_X} {d : Nat} {I : tI} {J : tJ} {P : Int32 → tI → tJ → Prop} {v1 : Int32} {v2 : Int32}  (T : (30 ≤ v2 → (P v1 I J)) ∧ (¬ (30 ≤ v2) → (EI X d n_X11_here [.ref 145, .int v2] I J (fun x_1 I_2 J_3 => ∀ y1_4 : Int32, y1_4 = (v1 + x_1) → (Er X (d + 1) M_X11_allHere 4 [some (.ref 145), some (.int y1_4), some (.int (v2 + 1))] [] I_2 J_3 (qI P)))))) : Er X (d + 1) M_X11_allHere 4 [some (.ref 145), some (.int v1), some (.int v2)] [] I J (qI P) := by
  refine e_l rfl rfl rfl ?_
  refine e_k rfl rfl rfl ib_30 ?_
  refine e_b rfl rfl rfl (fun hA => ?_) (fun hA => ?_)
  · replace T := T.1 hA
    refine e_l rfl rfl rfl ?_
    exact e_ri rfl rfl ⟨_, rfl, T⟩
  · replace T := T.2 hA
    refine e_l rfl rfl rfl ?_
    refine e_l rfl rfl rfl ?_
    refine e_l rfl rfl rfl ?_
    refine e_cvI (as := [.int v2]) (rs := [.int v1]) rfl rfl (g_145) rfl T (fun x_1 I_2 J_3 T => ?_)
    try dsimp only at T
    refine e_p rfl rfl rfl ?_
    refine e_si (Lf := fun y1_4 => [some (.ref 145), some (.int y1_4), some (.int v2)]) rfl rfl rfl (fun y1_4 hy1_4 => ?_)
    replace T := T y1_4 hy1_4
    refine e_ic (v := (v2 + 1)) (L' := [some (.ref 145), some (.int y1_4), some (.int (v2 + 1))]) rfl rfl rfl ic_1 rfl ?_
    refine e_g rfl ?_
    exact T
set_option maxRecDepth 10000 in
set_option maxHeartbeats 4000000 in
theorem vc_X11_changes {X : mm_X} {d : Nat} {I : tI} {J : tJ} {P : tI → tJ → Prop} {v1 : Int32} {v2 : Int32}  (T : ix ((3 * v1) + 2) 24 ∧ (∀ y3_1 : Int32, y3_1 = (I 153 (tn ((3 * v1) + 2))) → (ix ((3 * v2) + 2) 24 ∧ (ix ((3 * v1) + 2) 24 ∧ (ix ((3 * v2) + 2) 24 ∧ (P (mm_u (mm_u I 153 (tn ((3 * v1) + 2)) (I 153 (tn ((3 * v2) + 2)))) 153 (tn ((3 * v2) + 2)) y3_1) J)))))) : EV X d n_X11_changes [.ref 145, .int v1, .int v2] I J P := by
  refine ⟨M_X11_changes, tb_X11_changes, Nat.le_of_ble_eq_true rfl, ?_⟩
  show Er X d M_X11_changes 0 [some (.ref 145), some (.int v1), some (.int v2), none] [] I J (qV P)
  refine e_l rfl rfl rfl ?_
  refine e_gr rfl (g_145) rfl (r_145_10) ?_
  refine e_k rfl rfl rfl ic_3 ?_
  refine e_l rfl rfl rfl ?_
  refine e_p rfl rfl rfl ?_
  refine e_k rfl rfl rfl ic_2 ?_
  refine e_p rfl rfl rfl ?_
  refine e_ia rfl (g_153) T.1 ?_
  replace T := T.2
  refine e_si (Lf := fun y3_1 => [some (.ref 145), some (.int v1), some (.int v2), some (.int y3_1)]) rfl rfl rfl (fun y3_1 hy3_1 => ?_)
  replace T := T y3_1 hy3_1
  refine e_l rfl rfl rfl ?_
  refine e_gr rfl (g_145) rfl (r_145_10) ?_
  refine e_k rfl rfl rfl ic_3 ?_
  refine e_l rfl rfl rfl ?_
  refine e_p rfl rfl rfl ?_
  refine e_k rfl rfl rfl ic_2 ?_
  refine e_p rfl rfl rfl ?_
  refine e_l rfl rfl rfl ?_
  refine e_gr rfl (g_145) rfl (r_145_10) ?_
  refine e_k rfl rfl rfl ic_3 ?_
  refine e_l rfl rfl rfl ?_
  refine e_p rfl rfl rfl ?_
  refine e_k rfl rfl rfl ic_2 ?_
  refine e_p rfl rfl rfl ?_
  refine e_ia rfl (g_153) T.1 ?_
  replace T := T.2
  refine e_as rfl (g_153) T.1 ?_
  replace T := T.2
  refine e_l rfl rfl rfl ?_
  refine e_gr rfl (g_145) rfl (r_145_10) ?_
  refine e_k rfl rfl rfl ic_3 ?_
  refine e_l rfl rfl rfl ?_
  refine e_p rfl rfl rfl ?_
  refine e_k rfl rfl rfl ic_2 ?_
  refine e_p rfl rfl rfl ?_
  refine e_l rfl rfl rfl ?_
  refine e_as rfl (g_153) T.1 ?_
  replace T := T.2
  exact e_rv rfl rfl ⟨rfl, T⟩
set_option maxRecDepth 10000 in
set_option maxHeartbeats 4000000 in
theorem vc_X11_swapBy {X : mm_X} {d : Nat} {I : tI} {J : tJ} {P : Int32 → tI → tJ → Prop} {v1 : Int32}  (T : EV X d n_X11_lives [.ref 145] I J (fun I_2 J_3 => EI X d n_X11_allHere [.ref 145] I_2 J_3 (fun x_4 I_5 J_6 => Er X (d + 1) M_X11_swapBy 9 [some (.ref 145), some (.int v1), some (.int (-1)), some (.int x_4), some (.int 0), none, none, none] [] I_5 J_6 (qI P)))) : EI X (d + 1) n_X11_swapBy [.ref 145, .int v1] I J P := by
  refine ⟨M_X11_swapBy, tb_X11_swapBy, Nat.le_of_ble_eq_true rfl, ?_⟩
  show Er X (d + 1) M_X11_swapBy 0 [some (.ref 145), some (.int v1), none, none, none, none, none, none] [] I J (qI P)
  refine e_l rfl rfl rfl ?_
  refine e_cvV (as := []) (rs := []) rfl rfl (g_145) rfl T (fun I_2 J_3 T => ?_)
  try dsimp only at T
  refine e_k rfl rfl rfl ic_m1 ?_
  refine e_l (L' := [some (.ref 145), some (.int v1), some (.int (-1)), none, none, none, none, none]) rfl rfl rfl ?_
  refine e_l rfl rfl rfl ?_
  refine e_cvI (as := []) (rs := []) rfl rfl (g_145) rfl T (fun x_4 I_5 J_6 T => ?_)
  try dsimp only at T
  refine e_l (L' := [some (.ref 145), some (.int v1), some (.int (-1)), some (.int x_4), none, none, none, none]) rfl rfl rfl ?_
  refine e_k rfl rfl rfl ic_0 ?_
  refine e_l (L' := [some (.ref 145), some (.int v1), some (.int (-1)), some (.int x_4), some (.int 0), none, none, none]) rfl rfl rfl ?_
  exact T
set_option maxRecDepth 10000 in
set_option maxHeartbeats 4000000 in
theorem vc_X11_swapBy_9 {X : mm_X} {d : Nat} {I : tI} {J : tJ} {P : Int32 → tI → tJ → Prop} {v1 : Int32} {v2 : Int32} {v3 : Int32} {v4 : Int32} {o5 : Option Value} {o6 : Option Value} {o7 : Option Value}  (T : (64 ≤ v4 → ((v2 ≠ (-1) → ((v1 ≠ 0 → ((v1 ≠ 1 → (P v3 I J)) ∧ (¬ (v1 ≠ 1) → (P (v2 - v2 / 8 * 8) I J)))) ∧ (¬ (v1 ≠ 0) → (P (v2 / 8) I J)))) ∧ (¬ (v2 ≠ (-1)) → (P (-1) I J)))) ∧ (¬ (64 ≤ v4) → (∀ y5_1 : Int32, y5_1 = (v4 / 8) → (∀ y6_2 : Int32, y6_2 = (v4 - v4 / 8 * 8) → ((y6_2 ≤ y5_1 → (Er X (d + 1) M_X11_swapBy 9 [some (.ref 145), some (.int v1), some (.int v2), some (.int v3), some (.int (v4 + 1)), some (.int y5_1), some (.int y6_2), o7] [] I J (qI P))) ∧ (¬ (y6_2 ≤ y5_1) → (((I 145 9) ≤ y6_2 → (Er X (d + 1) M_X11_swapBy 9 [some (.ref 145), some (.int v1), some (.int v2), some (.int v3), some (.int (v4 + 1)), some (.int y5_1), some (.int y6_2), o7] [] I J (qI P))) ∧ (¬ ((I 145 9) ≤ y6_2) → (EV X d n_X11_changes [.ref 145, .int y5_1, .int y6_2] I J (fun I_4 J_5 => EV X d n_X11_lives [.ref 145] I_4 J_5 (fun I_7 J_8 => EI X d n_X11_allHere [.ref 145] I_7 J_8 (fun x_9 I_10 J_11 => (v3 ≤ x_9 → (Er X (d + 1) M_X11_swapBy 42 [some (.ref 145), some (.int v1), some (.int v2), some (.int v3), some (.int v4), some (.int y5_1), some (.int y6_2), some (.int x_9)] [.int v2] I_10 J_11 (qI P))) ∧ (¬ (v3 ≤ x_9) → (Er X (d + 1) M_X11_swapBy 42 [some (.ref 145), some (.int v1), some (.int v2), some (.int v3), some (.int v4), some (.int y5_1), some (.int y6_2), some (.int x_9)] [.int v4] I_10 J_11 (qI P))))))))))))))) : Er X (d + 1) M_X11_swapBy 9 [some (.ref 145), some (.int v1), some (.int v2), some (.int v3), some (.int v4), o5, o6, o7] [] I J (qI P) := by
  refine e_l rfl rfl rfl ?_
  refine e_k rfl rfl rfl ib_64 ?_
  refine e_b rfl rfl rfl (fun hA => ?_) (fun hA => ?_)
  · replace T := T.1 hA
    refine e_l rfl rfl rfl ?_
    refine e_k rfl rfl rfl ic_m1 ?_
    refine e_b rfl rfl rfl (fun hA => ?_) (fun hA => ?_)
    · replace T := T.1 hA
      refine e_l rfl rfl rfl ?_
      refine e_b rfl rfl rfl (fun hA => ?_) (fun hA => ?_)
      · replace T := T.1 hA
        refine e_l rfl rfl rfl ?_
        refine e_k rfl rfl rfl ic_1 ?_
        refine e_b rfl rfl rfl (fun hA => ?_) (fun hA => ?_)
        · replace T := T.1 hA
          refine e_l rfl rfl rfl ?_
          exact e_ri rfl rfl ⟨_, rfl, T⟩
        · replace T := T.2 hA
          refine e_l rfl rfl rfl ?_
          refine e_k rfl rfl rfl ib_8 ?_
          refine e_rm rfl (by decide) ?_
          refine e_g rfl ?_
          exact e_ri rfl rfl ⟨_, rfl, T⟩
      · replace T := T.2 hA
        refine e_l rfl rfl rfl ?_
        refine e_k rfl rfl rfl ib_8 ?_
        refine e_dv rfl (by decide) ?_
        refine e_g rfl ?_
        exact e_ri rfl rfl ⟨_, rfl, T⟩
    · replace T := T.2 hA
      refine e_k rfl rfl rfl ic_m1 ?_
      refine e_g rfl ?_
      exact e_ri rfl rfl ⟨_, rfl, T⟩
  · replace T := T.2 hA
    refine e_l rfl rfl rfl ?_
    refine e_k rfl rfl rfl ib_8 ?_
    refine e_dv rfl (by decide) ?_
    refine e_si (Lf := fun y5_1 => [some (.ref 145), some (.int v1), some (.int v2), some (.int v3), some (.int v4), some (.int y5_1), o6, o7]) rfl rfl rfl (fun y5_1 hy5_1 => ?_)
    replace T := T y5_1 hy5_1
    refine e_l rfl rfl rfl ?_
    refine e_k rfl rfl rfl ib_8 ?_
    refine e_rm rfl (by decide) ?_
    refine e_si (Lf := fun y6_2 => [some (.ref 145), some (.int v1), some (.int v2), some (.int v3), some (.int v4), some (.int y5_1), some (.int y6_2), o7]) rfl rfl rfl (fun y6_2 hy6_2 => ?_)
    replace T := T y6_2 hy6_2
    refine e_l rfl rfl rfl ?_
    refine e_l rfl rfl rfl ?_
    refine e_b rfl rfl rfl (fun hA => ?_) (fun hA => ?_)
    · replace T := T.1 hA
      refine e_ic (v := (v4 + 1)) (L' := [some (.ref 145), some (.int v1), some (.int v2), some (.int v3), some (.int (v4 + 1)), some (.int y5_1), some (.int y6_2), o7]) rfl rfl rfl ic_1 rfl ?_
      refine e_g rfl ?_
      exact T
    · replace T := T.2 hA
      refine e_l rfl rfl rfl ?_
      refine e_l rfl rfl rfl ?_
      refine e_gi rfl (g_145) (by decide) ?_
      refine e_b rfl rfl rfl (fun hA => ?_) (fun hA => ?_)
      · replace T := T.1 hA
        refine e_ic (v := (v4 + 1)) (L' := [some (.ref 145), some (.int v1), some (.int v2), some (.int v3), some (.int (v4 + 1)), some (.int y5_1), some (.int y6_2), o7]) rfl rfl rfl ic_1 rfl ?_
        refine e_g rfl ?_
        exact T
      · replace T := T.2 hA
        refine e_l rfl rfl rfl ?_
        refine e_l rfl rfl rfl ?_
        refine e_l rfl rfl rfl ?_
        refine e_cvV (as := [.int y5_1, .int y6_2]) (rs := []) rfl rfl (g_145) rfl T (fun I_4 J_5 T => ?_)
        try dsimp only at T
        refine e_l rfl rfl rfl ?_
        refine e_cvV (as := []) (rs := []) rfl rfl (g_145) rfl T (fun I_7 J_8 T => ?_)
        try dsimp only at T
        refine e_l rfl rfl rfl ?_
        refine e_cvI (as := []) (rs := []) rfl rfl (g_145) rfl T (fun x_9 I_10 J_11 T => ?_)
        try dsimp only at T
        refine e_l (L' := [some (.ref 145), some (.int v1), some (.int v2), some (.int v3), some (.int v4), some (.int y5_1), some (.int y6_2), some (.int x_9)]) rfl rfl rfl ?_
        refine e_l rfl rfl rfl ?_
        refine e_l rfl rfl rfl ?_
        refine e_b rfl rfl rfl (fun hA => ?_) (fun hA => ?_)
        · replace T := T.1 hA
          refine e_l rfl rfl rfl ?_
          exact T
        · replace T := T.2 hA
          refine e_l rfl rfl rfl ?_
          refine e_g rfl ?_
          exact T
set_option maxRecDepth 10000 in
set_option maxHeartbeats 4000000 in
theorem vc_X11_swapBy_42 {X : mm_X} {d : Nat} {I : tI} {J : tJ} {P : Int32 → tI → tJ → Prop} {v1 : Int32} {v2 : Int32} {v3 : Int32} {v4 : Int32} {v5 : Int32} {v6 : Int32} {v7 : Int32} {s0 : Int32}  (T : EI X d n_X11_lesser [.int v7, .int v3] I J (fun x_1 I_2 J_3 => EV X d n_X11_changes [.ref 145, .int v5, .int v6] I_2 J_3 (fun I_5 J_6 => Er X (d + 1) M_X11_swapBy 9 [some (.ref 145), some (.int v1), some (.int s0), some (.int x_1), some (.int (v4 + 1)), some (.int v5), some (.int v6), some (.int v7)] [] I_5 J_6 (qI P)))) : Er X (d + 1) M_X11_swapBy 42 [some (.ref 145), some (.int v1), some (.int v2), some (.int v3), some (.int v4), some (.int v5), some (.int v6), some (.int v7)] [.int s0] I J (qI P) := by
  refine e_l (L' := [some (.ref 145), some (.int v1), some (.int s0), some (.int v3), some (.int v4), some (.int v5), some (.int v6), some (.int v7)]) rfl rfl rfl ?_
  refine e_l rfl rfl rfl ?_
  refine e_l rfl rfl rfl ?_
  refine e_csI (as := [.int v7, .int v3]) (rs := []) rfl rfl rfl T (fun x_1 I_2 J_3 T => ?_)
  try dsimp only at T
  refine e_l (L' := [some (.ref 145), some (.int v1), some (.int s0), some (.int x_1), some (.int v4), some (.int v5), some (.int v6), some (.int v7)]) rfl rfl rfl ?_
  refine e_l rfl rfl rfl ?_
  refine e_l rfl rfl rfl ?_
  refine e_l rfl rfl rfl ?_
  refine e_cvV (as := [.int v5, .int v6]) (rs := []) rfl rfl (g_145) rfl T (fun I_5 J_6 T => ?_)
  try dsimp only at T
  refine e_ic (v := (v4 + 1)) (L' := [some (.ref 145), some (.int v1), some (.int s0), some (.int x_1), some (.int (v4 + 1)), some (.int v5), some (.int v6), some (.int v7)]) rfl rfl rfl ic_1 rfl ?_
  refine e_g rfl ?_
  exact T
set_option maxRecDepth 10000 in
set_option maxHeartbeats 4000000 in
theorem vc_X11_swap {X : mm_X} {d : Nat} {I : tI} {J : tJ} {P : Int32 → tI → tJ → Prop} {v1 : Int32}  (T : EV X d n_X11_find [.ref 145] I J (fun I_2 J_3 => EI X d n_X11_in [.long (Int32.toInt64 v1), .long 0, .long 2] I_2 J_3 (fun x_4 I_5 J_6 => (x_4 = 0 → (P (-2) I_5 J_6)) ∧ (¬ (x_4 = 0) → (EI X d n_X11_swapBy [.ref 145, .int v1] I_5 J_6 (fun x_7 I_8 J_9 => P x_7 I_8 J_9)))))) : EI X (d + 1) n_X11_swap [.ref 145, .int v1] I J P := by
  refine ⟨M_X11_swap, tb_X11_swap, Nat.le_of_ble_eq_true rfl, ?_⟩
  show Er X (d + 1) M_X11_swap 0 [some (.ref 145), some (.int v1)] [] I J (qI P)
  refine e_l rfl rfl rfl ?_
  refine e_cvV (as := []) (rs := []) rfl rfl (g_145) rfl T (fun I_2 J_3 T => ?_)
  try dsimp only at T
  refine e_l rfl rfl rfl ?_
  refine e_p rfl rfl rfl ?_
  refine e_kl rfl rfl rfl lc_0 ?_
  refine e_kl rfl rfl rfl lk_2 ?_
  refine e_csI (as := [.long (Int32.toInt64 v1), .long 0, .long 2]) (rs := []) rfl rfl rfl T (fun x_4 I_5 J_6 T => ?_)
  try dsimp only at T
  refine e_b rfl rfl rfl (fun hA => ?_) (fun hA => ?_)
  · replace T := T.1 hA
    refine e_k rfl rfl rfl ib_m2 ?_
    exact e_ri rfl rfl ⟨_, rfl, T⟩
  · replace T := T.2 hA
    refine e_l rfl rfl rfl ?_
    refine e_l rfl rfl rfl ?_
    refine e_cvI (as := [.int v1]) (rs := []) rfl rfl (g_145) rfl T (fun x_7 I_8 J_9 T => ?_)
    try dsimp only at T
    refine e_g rfl ?_
    exact e_ri rfl rfl ⟨_, rfl, T⟩
set_option maxRecDepth 10000 in
set_option maxHeartbeats 4000000 in
theorem vc_X11_line {X : mm_X} {d : Nat} {I : tI} {J : tJ} {P : Int32 → tI → tJ → Prop} {v1 : Int32}  (T : EV X d n_X11_find [.ref 145] I J (fun I_2 J_3 => EI X d n_X11_isSlice [.ref 145, .int v1] I_2 J_3 (fun x_4 I_5 J_6 => (x_4 = 0 → (P (-2) I_5 J_6)) ∧ (¬ (x_4 = 0) → (ix v1 8 ∧ (P (I_5 166 (tn v1)) I_5 J_6)))))) : EI X (d + 1) n_X11_line [.ref 145, .int v1] I J P := by
  refine ⟨M_X11_line, tb_X11_line, Nat.le_of_ble_eq_true rfl, ?_⟩
  show Er X (d + 1) M_X11_line 0 [some (.ref 145), some (.int v1)] [] I J (qI P)
  refine e_l rfl rfl rfl ?_
  refine e_cvV (as := []) (rs := []) rfl rfl (g_145) rfl T (fun I_2 J_3 T => ?_)
  try dsimp only at T
  refine e_l rfl rfl rfl ?_
  refine e_l rfl rfl rfl ?_
  refine e_cvI (as := [.int v1]) (rs := []) rfl rfl (g_145) rfl T (fun x_4 I_5 J_6 T => ?_)
  try dsimp only at T
  refine e_b rfl rfl rfl (fun hA => ?_) (fun hA => ?_)
  · replace T := T.1 hA
    refine e_k rfl rfl rfl ib_m2 ?_
    exact e_ri rfl rfl ⟨_, rfl, T⟩
  · replace T := T.2 hA
    refine e_l rfl rfl rfl ?_
    refine e_gr rfl (g_145) rfl (r_145_25) ?_
    refine e_l rfl rfl rfl ?_
    refine e_ia rfl (g_166) T.1 ?_
    replace T := T.2
    refine e_g rfl ?_
    exact e_ri rfl rfl ⟨_, rfl, T⟩
set_option maxRecDepth 10000 in
set_option maxHeartbeats 4000000 in
theorem vc_X11_bearNow {X : mm_X} {d : Nat} {I : tI} {J : tJ} {P : Int32 → tI → tJ → Prop}   (T : ∀ y1_1 : Int32, y1_1 = (I 154 (tn 1)) → (Er X (d + 1) M_X11_bearNow 9 [some (.ref 145), some (.int y1_1), some (.int (-1)), some (.int 0)] [] I J (qI P))) : EI X (d + 1) n_X11_bearNow [.ref 145] I J P := by
  refine ⟨M_X11_bearNow, tb_X11_bearNow, Nat.le_of_ble_eq_true rfl, ?_⟩
  show Er X (d + 1) M_X11_bearNow 0 [some (.ref 145), none, none, none] [] I J (qI P)
  refine e_l rfl rfl rfl ?_
  refine e_gr rfl (g_145) rfl (r_145_11) ?_
  refine e_k rfl rfl rfl ic_1 ?_
  refine e_ia rfl (g_154) (by decide) ?_
  refine e_si (Lf := fun y1_1 => [some (.ref 145), some (.int y1_1), none, none]) rfl rfl rfl (fun y1_1 hy1_1 => ?_)
  replace T := T y1_1 hy1_1
  refine e_k rfl rfl rfl ic_m1 ?_
  refine e_l (L' := [some (.ref 145), some (.int y1_1), some (.int (-1)), none]) rfl rfl rfl ?_
  refine e_k rfl rfl rfl ic_0 ?_
  refine e_l (L' := [some (.ref 145), some (.int y1_1), some (.int (-1)), some (.int 0)]) rfl rfl rfl ?_
  exact T
set_option maxRecDepth 10000 in
set_option maxHeartbeats 4000000 in
theorem vc_X11_bearNow_9 {X : mm_X} {d : Nat} {I : tI} {J : tJ} {P : Int32 → tI → tJ → Prop} {v1 : Int32} {v2 : Int32} {v3 : Int32}  (T : (10 ≤ v3 → (P v2 (mm_u I 154 (tn 1) v1) J)) ∧ (¬ (10 ≤ v3) → (EV X d n_X11_lives [.ref 145] (mm_u I 154 (tn 1) v3) J (fun I_2 J_3 => EI X d n_X11_here [.ref 145, .int 29] I_2 J_3 (fun x_4 I_5 J_6 => (x_4 ≠ 0 → (Er X (d + 1) M_X11_bearNow 9 [some (.ref 145), some (.int v1), some (.int v2), some (.int (v3 + 1))] [] I_5 J_6 (qI P))) ∧ (¬ (x_4 ≠ 0) → (Er X (d + 1) M_X11_bearNow 9 [some (.ref 145), some (.int v1), some (.int v3), some (.int (v3 + 1))] [] I_5 J_6 (qI P)))))))) : Er X (d + 1) M_X11_bearNow 9 [some (.ref 145), some (.int v1), some (.int v2), some (.int v3)] [] I J (qI P) := by
  refine e_l rfl rfl rfl ?_
  refine e_k rfl rfl rfl ib_10 ?_
  refine e_b rfl rfl rfl (fun hA => ?_) (fun hA => ?_)
  · replace T := T.1 hA
    refine e_l rfl rfl rfl ?_
    refine e_gr rfl (g_145) rfl (r_145_11) ?_
    refine e_k rfl rfl rfl ic_1 ?_
    refine e_l rfl rfl rfl ?_
    refine e_as rfl (g_154) (by decide) ?_
    refine e_l rfl rfl rfl ?_
    exact e_ri rfl rfl ⟨_, rfl, T⟩
  · replace T := T.2 hA
    refine e_l rfl rfl rfl ?_
    refine e_gr rfl (g_145) rfl (r_145_11) ?_
    refine e_k rfl rfl rfl ic_1 ?_
    refine e_l rfl rfl rfl ?_
    refine e_as rfl (g_154) (by decide) ?_
    refine e_l rfl rfl rfl ?_
    refine e_cvV (as := []) (rs := []) rfl rfl (g_145) rfl T (fun I_2 J_3 T => ?_)
    try dsimp only at T
    refine e_l rfl rfl rfl ?_
    refine e_k rfl rfl rfl ib_29 ?_
    refine e_cvI (as := [.int 29]) (rs := []) rfl rfl (g_145) rfl T (fun x_4 I_5 J_6 T => ?_)
    try dsimp only at T
    refine e_b rfl rfl rfl (fun hA => ?_) (fun hA => ?_)
    · replace T := T.1 hA
      refine e_l rfl rfl rfl ?_
      refine e_l (L' := [some (.ref 145), some (.int v1), some (.int v2), some (.int v3)]) rfl rfl rfl ?_
      refine e_ic (v := (v3 + 1)) (L' := [some (.ref 145), some (.int v1), some (.int v2), some (.int (v3 + 1))]) rfl rfl rfl ic_1 rfl ?_
      refine e_g rfl ?_
      exact T
    · replace T := T.2 hA
      refine e_l rfl rfl rfl ?_
      refine e_g rfl ?_
      refine e_l (L' := [some (.ref 145), some (.int v1), some (.int v3), some (.int v3)]) rfl rfl rfl ?_
      refine e_ic (v := (v3 + 1)) (L' := [some (.ref 145), some (.int v1), some (.int v3), some (.int (v3 + 1))]) rfl rfl rfl ic_1 rfl ?_
      refine e_g rfl ?_
      exact T
set_option maxRecDepth 10000 in
set_option maxHeartbeats 4000000 in
theorem vc_X11_bear {X : mm_X} {d : Nat} {I : tI} {J : tJ} {P : Int32 → tI → tJ → Prop}   (T : EV X d n_X11_find [.ref 145] I J (fun I_2 J_3 => EI X d n_X11_bearNow [.ref 145] I_2 J_3 (fun x_4 I_5 J_6 => P x_4 I_5 J_6))) : EI X (d + 1) n_X11_bear [.ref 145] I J P := by
  refine ⟨M_X11_bear, tb_X11_bear, Nat.le_of_ble_eq_true rfl, ?_⟩
  show Er X (d + 1) M_X11_bear 0 [some (.ref 145)] [] I J (qI P)
  refine e_l rfl rfl rfl ?_
  refine e_cvV (as := []) (rs := []) rfl rfl (g_145) rfl T (fun I_2 J_3 T => ?_)
  try dsimp only at T
  refine e_l rfl rfl rfl ?_
  refine e_cvI (as := []) (rs := []) rfl rfl (g_145) rfl T (fun x_4 I_5 J_6 T => ?_)
  try dsimp only at T
  exact e_ri rfl rfl ⟨_, rfl, T⟩
set_option maxRecDepth 10000 in
set_option maxHeartbeats 4000000 in
theorem vc_X11_seen {X : mm_X} {d : Nat} {I : tI} {J : tJ} {P : Int32 → tI → tJ → Prop} {v1 : Int32} {v2 : Int32} {v3 : Int32}  (T : EI X d n_X11_isHour [.int v1] I J (fun x_1 I_2 J_3 => (x_1 = 0 → (P (-2) I_2 J_3)) ∧ (¬ (x_1 = 0) → (EI X d n_X11_in [.long (Int32.toInt64 v2), .long 0, .long 7] I_2 J_3 (fun x_4 I_5 J_6 => (x_4 = 0 → (P (-2) I_5 J_6)) ∧ (¬ (x_4 = 0) → (EI X d n_X11_in [.long (Int32.toInt64 v3), .long 0, .long 3] I_5 J_6 (fun x_7 I_8 J_9 => (x_7 ≠ 0 → (((I_8 145 27) ≠ 8 → (ix (3 * (I_8 145 27)) 24 ∧ (ix ((3 * ((mm_u I_8 167 (tn (3 * (I_8 145 27))) v1) 145 27)) + 1) 24 ∧ (ix ((3 * ((mm_u (mm_u I_8 167 (tn (3 * (I_8 145 27))) v1) 167 (tn ((3 * ((mm_u I_8 167 (tn (3 * (I_8 145 27))) v1) 145 27)) + 1)) v2) 145 27)) + 2) 24 ∧ (P ((mm_u (mm_u (mm_u (mm_u I_8 167 (tn (3 * (I_8 145 27))) v1) 167 (tn ((3 * ((mm_u I_8 167 (tn (3 * (I_8 145 27))) v1) 145 27)) + 1)) v2) 167 (tn ((3 * ((mm_u (mm_u I_8 167 (tn (3 * (I_8 145 27))) v1) 167 (tn ((3 * ((mm_u I_8 167 (tn (3 * (I_8 145 27))) v1) 145 27)) + 1)) v2) 145 27)) + 2)) v3) 145 27 (((mm_u (mm_u (mm_u I_8 167 (tn (3 * (I_8 145 27))) v1) 167 (tn ((3 * ((mm_u I_8 167 (tn (3 * (I_8 145 27))) v1) 145 27)) + 1)) v2) 167 (tn ((3 * ((mm_u (mm_u I_8 167 (tn (3 * (I_8 145 27))) v1) 167 (tn ((3 * ((mm_u I_8 167 (tn (3 * (I_8 145 27))) v1) 145 27)) + 1)) v2) 145 27)) + 2)) v3) 145 27) + 1)) 145 27) (mm_u (mm_u (mm_u (mm_u I_8 167 (tn (3 * (I_8 145 27))) v1) 167 (tn ((3 * ((mm_u I_8 167 (tn (3 * (I_8 145 27))) v1) 145 27)) + 1)) v2) 167 (tn ((3 * ((mm_u (mm_u I_8 167 (tn (3 * (I_8 145 27))) v1) 167 (tn ((3 * ((mm_u I_8 167 (tn (3 * (I_8 145 27))) v1) 145 27)) + 1)) v2) 145 27)) + 2)) v3) 145 27 (((mm_u (mm_u (mm_u I_8 167 (tn (3 * (I_8 145 27))) v1) 167 (tn ((3 * ((mm_u I_8 167 (tn (3 * (I_8 145 27))) v1) 145 27)) + 1)) v2) 167 (tn ((3 * ((mm_u (mm_u I_8 167 (tn (3 * (I_8 145 27))) v1) 167 (tn ((3 * ((mm_u I_8 167 (tn (3 * (I_8 145 27))) v1) 145 27)) + 1)) v2) 145 27)) + 2)) v3) 145 27) + 1)) J_9))))) ∧ (¬ ((I_8 145 27) ≠ 8) → (P (-4) I_8 J_9)))) ∧ (¬ (x_7 ≠ 0) → (P (-2) I_8 J_9)))))))))) : EI X (d + 1) n_X11_seen [.ref 145, .int v1, .int v2, .int v3] I J P := by
  refine ⟨M_X11_seen, tb_X11_seen, Nat.le_of_ble_eq_true rfl, ?_⟩
  show Er X (d + 1) M_X11_seen 0 [some (.ref 145), some (.int v1), some (.int v2), some (.int v3)] [] I J (qI P)
  refine e_l rfl rfl rfl ?_
  refine e_csI (as := [.int v1]) (rs := []) rfl rfl rfl T (fun x_1 I_2 J_3 T => ?_)
  try dsimp only at T
  refine e_b rfl rfl rfl (fun hA => ?_) (fun hA => ?_)
  · replace T := T.1 hA
    refine e_k rfl rfl rfl ib_m2 ?_
    exact e_ri rfl rfl ⟨_, rfl, T⟩
  · replace T := T.2 hA
    refine e_l rfl rfl rfl ?_
    refine e_p rfl rfl rfl ?_
    refine e_kl rfl rfl rfl lc_0 ?_
    refine e_kl rfl rfl rfl lk_7 ?_
    refine e_csI (as := [.long (Int32.toInt64 v2), .long 0, .long 7]) (rs := []) rfl rfl rfl T (fun x_4 I_5 J_6 T => ?_)
    try dsimp only at T
    refine e_b rfl rfl rfl (fun hA => ?_) (fun hA => ?_)
    · replace T := T.1 hA
      refine e_k rfl rfl rfl ib_m2 ?_
      exact e_ri rfl rfl ⟨_, rfl, T⟩
    · replace T := T.2 hA
      refine e_l rfl rfl rfl ?_
      refine e_p rfl rfl rfl ?_
      refine e_kl rfl rfl rfl lc_0 ?_
      refine e_kl rfl rfl rfl lk_3 ?_
      refine e_csI (as := [.long (Int32.toInt64 v3), .long 0, .long 3]) (rs := []) rfl rfl rfl T (fun x_7 I_8 J_9 T => ?_)
      try dsimp only at T
      refine e_b rfl rfl rfl (fun hA => ?_) (fun hA => ?_)
      · replace T := T.1 hA
        refine e_l rfl rfl rfl ?_
        refine e_gi rfl (g_145) (by decide) ?_
        refine e_k rfl rfl rfl ib_8 ?_
        refine e_b rfl rfl rfl (fun hA => ?_) (fun hA => ?_)
        · replace T := T.1 hA
          refine e_l rfl rfl rfl ?_
          refine e_gr rfl (g_145) rfl (r_145_28) ?_
          refine e_k rfl rfl rfl ic_3 ?_
          refine e_l rfl rfl rfl ?_
          refine e_gi rfl (g_145) (by decide) ?_
          refine e_p rfl rfl rfl ?_
          refine e_l rfl rfl rfl ?_
          refine e_as rfl (g_167) T.1 ?_
          replace T := T.2
          refine e_l rfl rfl rfl ?_
          refine e_gr rfl (g_145) rfl (r_145_28) ?_
          refine e_k rfl rfl rfl ic_3 ?_
          refine e_l rfl rfl rfl ?_
          refine e_gi rfl (g_145) (by decide) ?_
          refine e_p rfl rfl rfl ?_
          refine e_k rfl rfl rfl ic_1 ?_
          refine e_p rfl rfl rfl ?_
          refine e_l rfl rfl rfl ?_
          refine e_as rfl (g_167) T.1 ?_
          replace T := T.2
          refine e_l rfl rfl rfl ?_
          refine e_gr rfl (g_145) rfl (r_145_28) ?_
          refine e_k rfl rfl rfl ic_3 ?_
          refine e_l rfl rfl rfl ?_
          refine e_gi rfl (g_145) (by decide) ?_
          refine e_p rfl rfl rfl ?_
          refine e_k rfl rfl rfl ic_2 ?_
          refine e_p rfl rfl rfl ?_
          refine e_l rfl rfl rfl ?_
          refine e_as rfl (g_167) T.1 ?_
          replace T := T.2
          refine e_l rfl rfl rfl ?_
          refine e_p rfl rfl rfl ?_
          refine e_gi rfl (g_145) (by decide) ?_
          refine e_k rfl rfl rfl ic_1 ?_
          refine e_p rfl rfl rfl ?_
          refine e_pi rfl (g_145) rfl ?_
          refine e_l rfl rfl rfl ?_
          refine e_gi rfl (g_145) (by decide) ?_
          exact e_ri rfl rfl ⟨_, rfl, T⟩
        · replace T := T.2 hA
          refine e_k rfl rfl rfl ib_m4 ?_
          exact e_ri rfl rfl ⟨_, rfl, T⟩
      · replace T := T.2 hA
        refine e_k rfl rfl rfl ib_m2 ?_
        exact e_ri rfl rfl ⟨_, rfl, T⟩
set_option maxRecDepth 10000 in
set_option maxHeartbeats 4000000 in
theorem vc_X11_forget {X : mm_X} {d : Nat} {I : tI} {J : tJ} {P : Int32 → tI → tJ → Prop}   (T : ∀ y1_1 : Int32, y1_1 = (I 145 27) → (P y1_1 (mm_u I 145 27 0) J)) : EI X d n_X11_forget [.ref 145] I J P := by
  refine ⟨M_X11_forget, tb_X11_forget, Nat.le_of_ble_eq_true rfl, ?_⟩
  show Er X d M_X11_forget 0 [some (.ref 145), none] [] I J (qI P)
  refine e_l rfl rfl rfl ?_
  refine e_gi rfl (g_145) (by decide) ?_
  refine e_si (Lf := fun y1_1 => [some (.ref 145), some (.int y1_1)]) rfl rfl rfl (fun y1_1 hy1_1 => ?_)
  replace T := T y1_1 hy1_1
  refine e_l rfl rfl rfl ?_
  refine e_k rfl rfl rfl ic_0 ?_
  refine e_pi rfl (g_145) rfl ?_
  refine e_l rfl rfl rfl ?_
  exact e_ri rfl rfl ⟨_, rfl, T⟩
set_option maxRecDepth 10000 in
set_option maxHeartbeats 4000000 in
theorem vc_X11_isSeen {X : mm_X} {d : Nat} {I : tI} {J : tJ} {P : Int32 → tI → tJ → Prop}   (T : EV X d n_X11_lives [.ref 145] I J (fun I_2 J_3 => Er X (d + 1) M_X11_isSeen 6 [some (.ref 145), some (.int 1), some (.int 0), none] [] I_2 J_3 (qI P))) : EI X (d + 1) n_X11_isSeen [.ref 145] I J P := by
  refine ⟨M_X11_isSeen, tb_X11_isSeen, Nat.le_of_ble_eq_true rfl, ?_⟩
  show Er X (d + 1) M_X11_isSeen 0 [some (.ref 145), none, none, none] [] I J (qI P)
  refine e_l rfl rfl rfl ?_
  refine e_cvV (as := []) (rs := []) rfl rfl (g_145) rfl T (fun I_2 J_3 T => ?_)
  try dsimp only at T
  refine e_k rfl rfl rfl ic_1 ?_
  refine e_l (L' := [some (.ref 145), some (.int 1), none, none]) rfl rfl rfl ?_
  refine e_k rfl rfl rfl ic_0 ?_
  refine e_l (L' := [some (.ref 145), some (.int 1), some (.int 0), none]) rfl rfl rfl ?_
  exact T
set_option maxRecDepth 10000 in
set_option maxHeartbeats 4000000 in
theorem vc_X11_isSeen_6 {X : mm_X} {d : Nat} {I : tI} {J : tJ} {P : Int32 → tI → tJ → Prop} {v1 : Int32} {v2 : Int32} {o3 : Option Value}  (T : ((I 145 27) ≤ v2 → ((v1 = 0 ∨ v1 = 1) ∧ P v1 I J)) ∧ (¬ ((I 145 27) ≤ v2) → (ix ((3 * v2) + 1) 24 ∧ (∀ y3_1 : Int32, y3_1 = (I 167 (tn ((3 * v2) + 1))) → ((v1 = 0 → (Er X (d + 1) M_X11_isSeen 6 [some (.ref 145), some (.int 0), some (.int (v2 + 1)), some (.int y3_1)] [] I J (qI P))) ∧ (¬ (v1 = 0) → (EI X d n_X11_isSlice [.ref 145, .int y3_1] I J (fun x_2 I_3 J_4 => (x_2 = 0 → (Er X (d + 1) M_X11_isSeen 6 [some (.ref 145), some (.int 0), some (.int (v2 + 1)), some (.int y3_1)] [] I_3 J_4 (qI P))) ∧ (¬ (x_2 = 0) → (ix (3 * v2) 24 ∧ (ix ((8 * (I_3 167 (tn (3 * v2)))) + y3_1) 240 ∧ (ix ((3 * v2) + 2) 24 ∧ (((I_3 163 (tn ((8 * (I_3 167 (tn (3 * v2)))) + y3_1))) ≠ (I_3 167 (tn ((3 * v2) + 2))) → (Er X (d + 1) M_X11_isSeen 6 [some (.ref 145), some (.int 0), some (.int (v2 + 1)), some (.int y3_1)] [] I_3 J_4 (qI P))) ∧ (¬ ((I_3 163 (tn ((8 * (I_3 167 (tn (3 * v2)))) + y3_1))) ≠ (I_3 167 (tn ((3 * v2) + 2)))) → (Er X (d + 1) M_X11_isSeen 6 [some (.ref 145), some (.int 1), some (.int (v2 + 1)), some (.int y3_1)] [] I_3 J_4 (qI P)))))))))))))))) : Er X (d + 1) M_X11_isSeen 6 [some (.ref 145), some (.int v1), some (.int v2), o3] [] I J (qI P) := by
  refine e_l rfl rfl rfl ?_
  refine e_l rfl rfl rfl ?_
  refine e_gi rfl (g_145) (by decide) ?_
  refine e_b rfl rfl rfl (fun hA => ?_) (fun hA => ?_)
  · replace T := T.1 hA
    refine e_l rfl rfl rfl ?_
    exact e_rz rfl rfl T.1 ⟨_, rfl, T.2⟩
  · replace T := T.2 hA
    refine e_l rfl rfl rfl ?_
    refine e_gr rfl (g_145) rfl (r_145_28) ?_
    refine e_k rfl rfl rfl ic_3 ?_
    refine e_l rfl rfl rfl ?_
    refine e_p rfl rfl rfl ?_
    refine e_k rfl rfl rfl ic_1 ?_
    refine e_p rfl rfl rfl ?_
    refine e_ia rfl (g_167) T.1 ?_
    replace T := T.2
    refine e_si (Lf := fun y3_1 => [some (.ref 145), some (.int v1), some (.int v2), some (.int y3_1)]) rfl rfl rfl (fun y3_1 hy3_1 => ?_)
    replace T := T y3_1 hy3_1
    refine e_l rfl rfl rfl ?_
    refine e_b rfl rfl rfl (fun hA => ?_) (fun hA => ?_)
    · replace T := T.1 hA
      refine e_k rfl rfl rfl ic_0 ?_
      refine e_l (L' := [some (.ref 145), some (.int 0), some (.int v2), some (.int y3_1)]) rfl rfl rfl ?_
      refine e_ic (v := (v2 + 1)) (L' := [some (.ref 145), some (.int 0), some (.int (v2 + 1)), some (.int y3_1)]) rfl rfl rfl ic_1 rfl ?_
      refine e_g rfl ?_
      exact T
    · replace T := T.2 hA
      refine e_l rfl rfl rfl ?_
      refine e_l rfl rfl rfl ?_
      refine e_cvI (as := [.int y3_1]) (rs := []) rfl rfl (g_145) rfl T (fun x_2 I_3 J_4 T => ?_)
      try dsimp only at T
      refine e_b rfl rfl rfl (fun hA => ?_) (fun hA => ?_)
      · replace T := T.1 hA
        refine e_k rfl rfl rfl ic_0 ?_
        refine e_l (L' := [some (.ref 145), some (.int 0), some (.int v2), some (.int y3_1)]) rfl rfl rfl ?_
        refine e_ic (v := (v2 + 1)) (L' := [some (.ref 145), some (.int 0), some (.int (v2 + 1)), some (.int y3_1)]) rfl rfl rfl ic_1 rfl ?_
        refine e_g rfl ?_
        exact T
      · replace T := T.2 hA
        refine e_l rfl rfl rfl ?_
        refine e_gr rfl (g_145) rfl (r_145_22) ?_
        refine e_k rfl rfl rfl ib_8 ?_
        refine e_l rfl rfl rfl ?_
        refine e_gr rfl (g_145) rfl (r_145_28) ?_
        refine e_k rfl rfl rfl ic_3 ?_
        refine e_l rfl rfl rfl ?_
        refine e_p rfl rfl rfl ?_
        refine e_ia rfl (g_167) T.1 ?_
        replace T := T.2
        refine e_p rfl rfl rfl ?_
        refine e_l rfl rfl rfl ?_
        refine e_p rfl rfl rfl ?_
        refine e_ia rfl (g_163) T.1 ?_
        replace T := T.2
        refine e_l rfl rfl rfl ?_
        refine e_gr rfl (g_145) rfl (r_145_28) ?_
        refine e_k rfl rfl rfl ic_3 ?_
        refine e_l rfl rfl rfl ?_
        refine e_p rfl rfl rfl ?_
        refine e_k rfl rfl rfl ic_2 ?_
        refine e_p rfl rfl rfl ?_
        refine e_ia rfl (g_167) T.1 ?_
        replace T := T.2
        refine e_b rfl rfl rfl (fun hA => ?_) (fun hA => ?_)
        · replace T := T.1 hA
          refine e_k rfl rfl rfl ic_0 ?_
          refine e_l (L' := [some (.ref 145), some (.int 0), some (.int v2), some (.int y3_1)]) rfl rfl rfl ?_
          refine e_ic (v := (v2 + 1)) (L' := [some (.ref 145), some (.int 0), some (.int (v2 + 1)), some (.int y3_1)]) rfl rfl rfl ic_1 rfl ?_
          refine e_g rfl ?_
          exact T
        · replace T := T.2 hA
          refine e_k rfl rfl rfl ic_1 ?_
          refine e_g rfl ?_
          refine e_l (L' := [some (.ref 145), some (.int 1), some (.int v2), some (.int y3_1)]) rfl rfl rfl ?_
          refine e_ic (v := (v2 + 1)) (L' := [some (.ref 145), some (.int 1), some (.int (v2 + 1)), some (.int y3_1)]) rfl rfl rfl ic_1 rfl ?_
          refine e_g rfl ?_
          exact T
set_option maxRecDepth 10000 in
set_option maxHeartbeats 4000000 in
theorem vc_X11_heatsOf {X : mm_X} {d : Nat} {I : tI} {J : tJ} {P : Int32 → tI → tJ → Prop} {v1 : Int32} {v2 : Int32}  (T : ix ((3 * v1) + 1) 24 ∧ (∀ y3_1 : Int32, y3_1 = (I 153 (tn ((3 * v1) + 1))) → (Er X (d + 1) M_X11_heatsOf 15 [some (.ref 145), some (.int v1), some (.int v2), some (.int y3_1), some (.int 0), some (.int (-1)), some (.int 0), none] [] I J (qI P)))) : EI X (d + 1) n_X11_heatsOf [.ref 145, .int v1, .int v2] I J P := by
  refine ⟨M_X11_heatsOf, tb_X11_heatsOf, Nat.le_of_ble_eq_true rfl, ?_⟩
  show Er X (d + 1) M_X11_heatsOf 0 [some (.ref 145), some (.int v1), some (.int v2), none, none, none, none, none] [] I J (qI P)
  refine e_l rfl rfl rfl ?_
  refine e_gr rfl (g_145) rfl (r_145_10) ?_
  refine e_k rfl rfl rfl ic_3 ?_
  refine e_l rfl rfl rfl ?_
  refine e_p rfl rfl rfl ?_
  refine e_k rfl rfl rfl ic_1 ?_
  refine e_p rfl rfl rfl ?_
  refine e_ia rfl (g_153) T.1 ?_
  replace T := T.2
  refine e_si (Lf := fun y3_1 => [some (.ref 145), some (.int v1), some (.int v2), some (.int y3_1), none, none, none, none]) rfl rfl rfl (fun y3_1 hy3_1 => ?_)
  replace T := T y3_1 hy3_1
  refine e_k rfl rfl rfl ic_0 ?_
  refine e_l (L' := [some (.ref 145), some (.int v1), some (.int v2), some (.int y3_1), some (.int 0), none, none, none]) rfl rfl rfl ?_
  refine e_k rfl rfl rfl ic_m1 ?_
  refine e_l (L' := [some (.ref 145), some (.int v1), some (.int v2), some (.int y3_1), some (.int 0), some (.int (-1)), none, none]) rfl rfl rfl ?_
  refine e_k rfl rfl rfl ic_0 ?_
  refine e_l (L' := [some (.ref 145), some (.int v1), some (.int v2), some (.int y3_1), some (.int 0), some (.int (-1)), some (.int 0), none]) rfl rfl rfl ?_
  exact T
set_option maxRecDepth 10000 in
set_option maxHeartbeats 4000000 in
theorem vc_X11_heatsOf_15 {X : mm_X} {d : Nat} {I : tI} {J : tJ} {P : Int32 → tI → tJ → Prop} {v1 : Int32} {v2 : Int32} {v3 : Int32} {v4 : Int32} {v5 : Int32} {v6 : Int32} {o7 : Option Value}  (T : (100 ≤ v6 → (ix ((3 * v1) + 1) 24 ∧ ((v2 ≠ (-1) → (P v5 (mm_u I 153 (tn ((3 * v1) + 1)) v3) J)) ∧ (¬ (v2 ≠ (-1)) → (P v4 (mm_u I 153 (tn ((3 * v1) + 1)) v3) J))))) ∧ (¬ (100 ≤ v6) → (ix ((3 * v1) + 1) 24 ∧ (EI X d n_X11_isSeen [.ref 145] (mm_u I 153 (tn ((3 * v1) + 1)) v6) J (fun x_1 I_2 J_3 => (x_1 = 0 → (Er X (d + 1) M_X11_heatsOf 38 [some (.ref 145), some (.int v1), some (.int v2), some (.int v3), some (.int v4), some (.int v5), some (.int v6), some (.int x_1)] [.int v5] I_2 J_3 (qI P))) ∧ (¬ (x_1 = 0) → ((v4 ≠ v2 → (Er X (d + 1) M_X11_heatsOf 38 [some (.ref 145), some (.int v1), some (.int v2), some (.int v3), some (.int v4), some (.int v5), some (.int v6), some (.int x_1)] [.int v5] I_2 J_3 (qI P))) ∧ (¬ (v4 ≠ v2) → (Er X (d + 1) M_X11_heatsOf 38 [some (.ref 145), some (.int v1), some (.int v2), some (.int v3), some (.int v4), some (.int v5), some (.int v6), some (.int x_1)] [.int v6] I_2 J_3 (qI P)))))))))) : Er X (d + 1) M_X11_heatsOf 15 [some (.ref 145), some (.int v1), some (.int v2), some (.int v3), some (.int v4), some (.int v5), some (.int v6), o7] [] I J (qI P) := by
  refine e_l rfl rfl rfl ?_
  refine e_k rfl rfl rfl ib_100 ?_
  refine e_b rfl rfl rfl (fun hA => ?_) (fun hA => ?_)
  · replace T := T.1 hA
    refine e_l rfl rfl rfl ?_
    refine e_gr rfl (g_145) rfl (r_145_10) ?_
    refine e_k rfl rfl rfl ic_3 ?_
    refine e_l rfl rfl rfl ?_
    refine e_p rfl rfl rfl ?_
    refine e_k rfl rfl rfl ic_1 ?_
    refine e_p rfl rfl rfl ?_
    refine e_l rfl rfl rfl ?_
    refine e_as rfl (g_153) T.1 ?_
    replace T := T.2
    refine e_l rfl rfl rfl ?_
    refine e_k rfl rfl rfl ic_m1 ?_
    refine e_b rfl rfl rfl (fun hA => ?_) (fun hA => ?_)
    · replace T := T.1 hA
      refine e_l rfl rfl rfl ?_
      exact e_ri rfl rfl ⟨_, rfl, T⟩
    · replace T := T.2 hA
      refine e_l rfl rfl rfl ?_
      refine e_g rfl ?_
      exact e_ri rfl rfl ⟨_, rfl, T⟩
  · replace T := T.2 hA
    refine e_l rfl rfl rfl ?_
    refine e_gr rfl (g_145) rfl (r_145_10) ?_
    refine e_k rfl rfl rfl ic_3 ?_
    refine e_l rfl rfl rfl ?_
    refine e_p rfl rfl rfl ?_
    refine e_k rfl rfl rfl ic_1 ?_
    refine e_p rfl rfl rfl ?_
    refine e_l rfl rfl rfl ?_
    refine e_as rfl (g_153) T.1 ?_
    replace T := T.2
    refine e_l rfl rfl rfl ?_
    refine e_cvI (as := []) (rs := []) rfl rfl (g_145) rfl T (fun x_1 I_2 J_3 T => ?_)
    try dsimp only at T
    refine e_l (L' := [some (.ref 145), some (.int v1), some (.int v2), some (.int v3), some (.int v4), some (.int v5), some (.int v6), some (.int x_1)]) rfl rfl rfl ?_
    refine e_l rfl rfl rfl ?_
    refine e_b rfl rfl rfl (fun hA => ?_) (fun hA => ?_)
    · replace T := T.1 hA
      refine e_l rfl rfl rfl ?_
      exact T
    · replace T := T.2 hA
      refine e_l rfl rfl rfl ?_
      refine e_l rfl rfl rfl ?_
      refine e_b rfl rfl rfl (fun hA => ?_) (fun hA => ?_)
      · replace T := T.1 hA
        refine e_l rfl rfl rfl ?_
        exact T
      · replace T := T.2 hA
        refine e_l rfl rfl rfl ?_
        refine e_g rfl ?_
        exact T
set_option maxRecDepth 10000 in
set_option maxHeartbeats 4000000 in
theorem vc_X11_heatsOf_38 {X : mm_X} {d : Nat} {I : tI} {J : tJ} {P : Int32 → tI → tJ → Prop} {v1 : Int32} {v2 : Int32} {v3 : Int32} {v4 : Int32} {v5 : Int32} {v6 : Int32} {v7 : Int32} {s0 : Int32}  (T : (v7 = 0 → (∀ y4_1 : Int32, y4_1 = (v4 + 0) → (Er X (d + 1) M_X11_heatsOf 15 [some (.ref 145), some (.int v1), some (.int v2), some (.int v3), some (.int y4_1), some (.int s0), some (.int (v6 + 1)), some (.int v7)] [] I J (qI P)))) ∧ (¬ (v7 = 0) → (∀ y4_2 : Int32, y4_2 = (v4 + 1) → (Er X (d + 1) M_X11_heatsOf 15 [some (.ref 145), some (.int v1), some (.int v2), some (.int v3), some (.int y4_2), some (.int s0), some (.int (v6 + 1)), some (.int v7)] [] I J (qI P))))) : Er X (d + 1) M_X11_heatsOf 38 [some (.ref 145), some (.int v1), some (.int v2), some (.int v3), some (.int v4), some (.int v5), some (.int v6), some (.int v7)] [.int s0] I J (qI P) := by
  refine e_l (L' := [some (.ref 145), some (.int v1), some (.int v2), some (.int v3), some (.int v4), some (.int s0), some (.int v6), some (.int v7)]) rfl rfl rfl ?_
  refine e_l rfl rfl rfl ?_
  refine e_l rfl rfl rfl ?_
  refine e_b rfl rfl rfl (fun hA => ?_) (fun hA => ?_)
  · replace T := T.1 hA
    refine e_k rfl rfl rfl ic_0 ?_
    refine e_p rfl rfl rfl ?_
    refine e_si (Lf := fun y4_1 => [some (.ref 145), some (.int v1), some (.int v2), some (.int v3), some (.int y4_1), some (.int s0), some (.int v6), some (.int v7)]) rfl rfl rfl (fun y4_1 hy4_1 => ?_)
    replace T := T y4_1 hy4_1
    refine e_ic (v := (v6 + 1)) (L' := [some (.ref 145), some (.int v1), some (.int v2), some (.int v3), some (.int y4_1), some (.int s0), some (.int (v6 + 1)), some (.int v7)]) rfl rfl rfl ic_1 rfl ?_
    refine e_g rfl ?_
    exact T
  · replace T := T.2 hA
    refine e_k rfl rfl rfl ic_1 ?_
    refine e_g rfl ?_
    refine e_p rfl rfl rfl ?_
    refine e_si (Lf := fun y4_2 => [some (.ref 145), some (.int v1), some (.int v2), some (.int v3), some (.int y4_2), some (.int s0), some (.int v6), some (.int v7)]) rfl rfl rfl (fun y4_2 hy4_2 => ?_)
    replace T := T y4_2 hy4_2
    refine e_ic (v := (v6 + 1)) (L' := [some (.ref 145), some (.int v1), some (.int v2), some (.int v3), some (.int y4_2), some (.int s0), some (.int (v6 + 1)), some (.int v7)]) rfl rfl rfl ic_1 rfl ?_
    refine e_g rfl ?_
    exact T
set_option maxRecDepth 10000 in
set_option maxHeartbeats 4000000 in
theorem vc_X11_heats {X : mm_X} {d : Nat} {I : tI} {J : tJ} {P : Int32 → tI → tJ → Prop} {v1 : Int32} {v2 : Int32}  (T : EV X d n_X11_find [.ref 145] I J (fun I_2 J_3 => EI X d n_X11_isSlice [.ref 145, .int v1] I_2 J_3 (fun x_4 I_5 J_6 => (x_4 = 0 → (P (-2) I_5 J_6)) ∧ (¬ (x_4 = 0) → (EI X d n_X11_in [.long (Int32.toInt64 v2), .long (-1), .long 99] I_5 J_6 (fun x_7 I_8 J_9 => (x_7 = 0 → (P (-2) I_8 J_9)) ∧ (¬ (x_7 = 0) → (EI X d n_X11_heatsOf [.ref 145, .int v1, .int v2] I_8 J_9 (fun x_10 I_11 J_12 => P x_10 I_11 J_12))))))))) : EI X (d + 1) n_X11_heats [.ref 145, .int v1, .int v2] I J P := by
  refine ⟨M_X11_heats, tb_X11_heats, Nat.le_of_ble_eq_true rfl, ?_⟩
  show Er X (d + 1) M_X11_heats 0 [some (.ref 145), some (.int v1), some (.int v2)] [] I J (qI P)
  refine e_l rfl rfl rfl ?_
  refine e_cvV (as := []) (rs := []) rfl rfl (g_145) rfl T (fun I_2 J_3 T => ?_)
  try dsimp only at T
  refine e_l rfl rfl rfl ?_
  refine e_l rfl rfl rfl ?_
  refine e_cvI (as := [.int v1]) (rs := []) rfl rfl (g_145) rfl T (fun x_4 I_5 J_6 T => ?_)
  try dsimp only at T
  refine e_b rfl rfl rfl (fun hA => ?_) (fun hA => ?_)
  · replace T := T.1 hA
    refine e_k rfl rfl rfl ib_m2 ?_
    exact e_ri rfl rfl ⟨_, rfl, T⟩
  · replace T := T.2 hA
    refine e_l rfl rfl rfl ?_
    refine e_p rfl rfl rfl ?_
    refine e_kl rfl rfl rfl lk_18446744073709551615 ?_
    refine e_kl rfl rfl rfl lk_99 ?_
    refine e_csI (as := [.long (Int32.toInt64 v2), .long (-1), .long 99]) (rs := []) rfl rfl rfl T (fun x_7 I_8 J_9 T => ?_)
    try dsimp only at T
    refine e_b rfl rfl rfl (fun hA => ?_) (fun hA => ?_)
    · replace T := T.1 hA
      refine e_k rfl rfl rfl ib_m2 ?_
      exact e_ri rfl rfl ⟨_, rfl, T⟩
    · replace T := T.2 hA
      refine e_l rfl rfl rfl ?_
      refine e_l rfl rfl rfl ?_
      refine e_l rfl rfl rfl ?_
      refine e_cvI (as := [.int v1, .int v2]) (rs := []) rfl rfl (g_145) rfl T (fun x_10 I_11 J_12 T => ?_)
      try dsimp only at T
      refine e_g rfl ?_
      exact e_ri rfl rfl ⟨_, rfl, T⟩
set_option maxRecDepth 10000 in
set_option maxHeartbeats 4000000 in
theorem vc_X11_slotsOf {X : mm_X} {d : Nat} {I : tI} {J : tJ} {P : Int32 → tI → tJ → Prop} {v1 : Int32}  (T : ix ((3 * v1) + 2) 24 ∧ (∀ y2_1 : Int32, y2_1 = (I 153 (tn ((3 * v1) + 2))) → (Er X (d + 1) M_X11_slotsOf 13 [some (.ref 145), some (.int v1), some (.int y2_1), some (.int 0), some (.int 0)] [] I J (qI P)))) : EI X (d + 1) n_X11_slotsOf [.ref 145, .int v1] I J P := by
  refine ⟨M_X11_slotsOf, tb_X11_slotsOf, Nat.le_of_ble_eq_true rfl, ?_⟩
  show Er X (d + 1) M_X11_slotsOf 0 [some (.ref 145), some (.int v1), none, none, none] [] I J (qI P)
  refine e_l rfl rfl rfl ?_
  refine e_gr rfl (g_145) rfl (r_145_10) ?_
  refine e_k rfl rfl rfl ic_3 ?_
  refine e_l rfl rfl rfl ?_
  refine e_p rfl rfl rfl ?_
  refine e_k rfl rfl rfl ic_2 ?_
  refine e_p rfl rfl rfl ?_
  refine e_ia rfl (g_153) T.1 ?_
  replace T := T.2
  refine e_si (Lf := fun y2_1 => [some (.ref 145), some (.int v1), some (.int y2_1), none, none]) rfl rfl rfl (fun y2_1 hy2_1 => ?_)
  replace T := T y2_1 hy2_1
  refine e_k rfl rfl rfl ic_0 ?_
  refine e_l (L' := [some (.ref 145), some (.int v1), some (.int y2_1), some (.int 0), none]) rfl rfl rfl ?_
  refine e_k rfl rfl rfl ic_0 ?_
  refine e_l (L' := [some (.ref 145), some (.int v1), some (.int y2_1), some (.int 0), some (.int 0)]) rfl rfl rfl ?_
  exact T
set_option maxRecDepth 10000 in
set_option maxHeartbeats 4000000 in
theorem vc_X11_slotsOf_13 {X : mm_X} {d : Nat} {I : tI} {J : tJ} {P : Int32 → tI → tJ → Prop} {v1 : Int32} {v2 : Int32} {v3 : Int32} {v4 : Int32}  (T : (10 ≤ v4 → (ix ((3 * v1) + 2) 24 ∧ (P v3 (mm_u I 153 (tn ((3 * v1) + 2)) v2) J))) ∧ (¬ (10 ≤ v4) → (ix ((3 * v1) + 2) 24 ∧ (EI X d n_X11_isSeen [.ref 145] (mm_u I 153 (tn ((3 * v1) + 2)) v4) J (fun x_1 I_2 J_3 => (x_1 = 0 → (∀ y3_4 : Int32, y3_4 = (v3 ||| 0) → (Er X (d + 1) M_X11_slotsOf 13 [some (.ref 145), some (.int v1), some (.int v2), some (.int y3_4), some (.int (v4 + 1))] [] I_2 J_3 (qI P)))) ∧ (¬ (x_1 = 0) → (∀ y3_5 : Int32, y3_5 = (v3 ||| (1 <<< (v4 &&& 31))) → (Er X (d + 1) M_X11_slotsOf 13 [some (.ref 145), some (.int v1), some (.int v2), some (.int y3_5), some (.int (v4 + 1))] [] I_2 J_3 (qI P))))))))) : Er X (d + 1) M_X11_slotsOf 13 [some (.ref 145), some (.int v1), some (.int v2), some (.int v3), some (.int v4)] [] I J (qI P) := by
  refine e_l rfl rfl rfl ?_
  refine e_k rfl rfl rfl ib_10 ?_
  refine e_b rfl rfl rfl (fun hA => ?_) (fun hA => ?_)
  · replace T := T.1 hA
    refine e_l rfl rfl rfl ?_
    refine e_gr rfl (g_145) rfl (r_145_10) ?_
    refine e_k rfl rfl rfl ic_3 ?_
    refine e_l rfl rfl rfl ?_
    refine e_p rfl rfl rfl ?_
    refine e_k rfl rfl rfl ic_2 ?_
    refine e_p rfl rfl rfl ?_
    refine e_l rfl rfl rfl ?_
    refine e_as rfl (g_153) T.1 ?_
    replace T := T.2
    refine e_l rfl rfl rfl ?_
    exact e_ri rfl rfl ⟨_, rfl, T⟩
  · replace T := T.2 hA
    refine e_l rfl rfl rfl ?_
    refine e_gr rfl (g_145) rfl (r_145_10) ?_
    refine e_k rfl rfl rfl ic_3 ?_
    refine e_l rfl rfl rfl ?_
    refine e_p rfl rfl rfl ?_
    refine e_k rfl rfl rfl ic_2 ?_
    refine e_p rfl rfl rfl ?_
    refine e_l rfl rfl rfl ?_
    refine e_as rfl (g_153) T.1 ?_
    replace T := T.2
    refine e_l rfl rfl rfl ?_
    refine e_l rfl rfl rfl ?_
    refine e_cvI (as := []) (rs := [.int v3]) rfl rfl (g_145) rfl T (fun x_1 I_2 J_3 T => ?_)
    try dsimp only at T
    refine e_b rfl rfl rfl (fun hA => ?_) (fun hA => ?_)
    · replace T := T.1 hA
      refine e_k rfl rfl rfl ic_0 ?_
      refine e_p rfl rfl rfl ?_
      refine e_si (Lf := fun y3_4 => [some (.ref 145), some (.int v1), some (.int v2), some (.int y3_4), some (.int v4)]) rfl rfl rfl (fun y3_4 hy3_4 => ?_)
      replace T := T y3_4 hy3_4
      refine e_ic (v := (v4 + 1)) (L' := [some (.ref 145), some (.int v1), some (.int v2), some (.int y3_4), some (.int (v4 + 1))]) rfl rfl rfl ic_1 rfl ?_
      refine e_g rfl ?_
      exact T
    · replace T := T.2 hA
      refine e_k rfl rfl rfl ic_1 ?_
      refine e_l rfl rfl rfl ?_
      refine e_p rfl rfl rfl ?_
      refine e_g rfl ?_
      refine e_p rfl rfl rfl ?_
      refine e_si (Lf := fun y3_5 => [some (.ref 145), some (.int v1), some (.int v2), some (.int y3_5), some (.int v4)]) rfl rfl rfl (fun y3_5 hy3_5 => ?_)
      replace T := T y3_5 hy3_5
      refine e_ic (v := (v4 + 1)) (L' := [some (.ref 145), some (.int v1), some (.int v2), some (.int y3_5), some (.int (v4 + 1))]) rfl rfl rfl ic_1 rfl ?_
      refine e_g rfl ?_
      exact T
set_option maxRecDepth 10000 in
set_option maxHeartbeats 4000000 in
theorem vc_X11_slots {X : mm_X} {d : Nat} {I : tI} {J : tJ} {P : Int32 → tI → tJ → Prop} {v1 : Int32}  (T : EV X d n_X11_find [.ref 145] I J (fun I_2 J_3 => EI X d n_X11_isSlice [.ref 145, .int v1] I_2 J_3 (fun x_4 I_5 J_6 => (x_4 = 0 → (P (-2) I_5 J_6)) ∧ (¬ (x_4 = 0) → (EI X d n_X11_slotsOf [.ref 145, .int v1] I_5 J_6 (fun x_7 I_8 J_9 => P x_7 I_8 J_9)))))) : EI X (d + 1) n_X11_slots [.ref 145, .int v1] I J P := by
  refine ⟨M_X11_slots, tb_X11_slots, Nat.le_of_ble_eq_true rfl, ?_⟩
  show Er X (d + 1) M_X11_slots 0 [some (.ref 145), some (.int v1)] [] I J (qI P)
  refine e_l rfl rfl rfl ?_
  refine e_cvV (as := []) (rs := []) rfl rfl (g_145) rfl T (fun I_2 J_3 T => ?_)
  try dsimp only at T
  refine e_l rfl rfl rfl ?_
  refine e_l rfl rfl rfl ?_
  refine e_cvI (as := [.int v1]) (rs := []) rfl rfl (g_145) rfl T (fun x_4 I_5 J_6 T => ?_)
  try dsimp only at T
  refine e_b rfl rfl rfl (fun hA => ?_) (fun hA => ?_)
  · replace T := T.1 hA
    refine e_k rfl rfl rfl ib_m2 ?_
    exact e_ri rfl rfl ⟨_, rfl, T⟩
  · replace T := T.2 hA
    refine e_l rfl rfl rfl ?_
    refine e_l rfl rfl rfl ?_
    refine e_cvI (as := [.int v1]) (rs := []) rfl rfl (g_145) rfl T (fun x_7 I_8 J_9 T => ?_)
    try dsimp only at T
    refine e_g rfl ?_
    exact e_ri rfl rfl ⟨_, rfl, T⟩
set_option maxRecDepth 10000 in
set_option maxHeartbeats 4000000 in
theorem vc_X11_askOf {X : mm_X} {d : Nat} {I : tI} {J : tJ} {P : Int32 → tI → tJ → Prop} {v1 : Int32}  (T : ∀ y2_1 : Int32, y2_1 = (I 154 (tn 1)) → (Er X (d + 1) M_X11_askOf 7 [some (.ref 145), some (.int v1), some (.int y2_1), some (.int 0), none, none, none, none] [] I J (qI P))) : EI X (d + 1) n_X11_askOf [.ref 145, .int v1] I J P := by
  refine ⟨M_X11_askOf, tb_X11_askOf, Nat.le_of_ble_eq_true rfl, ?_⟩
  show Er X (d + 1) M_X11_askOf 0 [some (.ref 145), some (.int v1), none, none, none, none, none, none] [] I J (qI P)
  refine e_l rfl rfl rfl ?_
  refine e_gr rfl (g_145) rfl (r_145_11) ?_
  refine e_k rfl rfl rfl ic_1 ?_
  refine e_ia rfl (g_154) (by decide) ?_
  refine e_si (Lf := fun y2_1 => [some (.ref 145), some (.int v1), some (.int y2_1), none, none, none, none, none]) rfl rfl rfl (fun y2_1 hy2_1 => ?_)
  replace T := T y2_1 hy2_1
  refine e_k rfl rfl rfl ic_0 ?_
  refine e_l (L' := [some (.ref 145), some (.int v1), some (.int y2_1), some (.int 0), none, none, none, none]) rfl rfl rfl ?_
  exact T
set_option maxRecDepth 10000 in
set_option maxHeartbeats 4000000 in
theorem vc_X11_askOf_7 {X : mm_X} {d : Nat} {I : tI} {J : tJ} {P : Int32 → tI → tJ → Prop} {v1 : Int32} {v2 : Int32} {v3 : Int32}  (T : (32 ≤ v3 → (Er X (d + 1) M_X11_askOf 19 [some (.ref 145), some (.int v1), some (.int v2), some (.int 0), none, none, none, none] [] I J (qI P))) ∧ (¬ (32 ≤ v3) → (ix v3 32 ∧ (Er X (d + 1) M_X11_askOf 7 [some (.ref 145), some (.int v1), some (.int v2), some (.int (v3 + 1)), none, none, none, none] [] (mm_u I 168 (tn v3) 0) J (qI P))))) : Er X (d + 1) M_X11_askOf 7 [some (.ref 145), some (.int v1), some (.int v2), some (.int v3), none, none, none, none] [] I J (qI P) := by
  refine e_l rfl rfl rfl ?_
  refine e_k rfl rfl rfl ib_32 ?_
  refine e_b rfl rfl rfl (fun hA => ?_) (fun hA => ?_)
  · replace T := T.1 hA
    refine e_k rfl rfl rfl ic_0 ?_
    refine e_l (L' := [some (.ref 145), some (.int v1), some (.int v2), some (.int 0), none, none, none, none]) rfl rfl rfl ?_
    exact T
  · replace T := T.2 hA
    refine e_l rfl rfl rfl ?_
    refine e_gr rfl (g_145) rfl (r_145_29) ?_
    refine e_l rfl rfl rfl ?_
    refine e_k rfl rfl rfl ic_0 ?_
    refine e_as rfl (g_168) T.1 ?_
    replace T := T.2
    refine e_ic (v := (v3 + 1)) (L' := [some (.ref 145), some (.int v1), some (.int v2), some (.int (v3 + 1)), none, none, none, none]) rfl rfl rfl ic_1 rfl ?_
    refine e_g rfl ?_
    exact T
set_option maxRecDepth 10000 in
set_option maxHeartbeats 4000000 in
theorem vc_X11_askOf_19 {X : mm_X} {d : Nat} {I : tI} {J : tJ} {P : Int32 → tI → tJ → Prop} {v1 : Int32} {v2 : Int32} {v3 : Int32} {o4 : Option Value} {o5 : Option Value}  (T : (10 ≤ v3 → (Er X (d + 1) M_X11_askOf 72 [some (.ref 145), some (.int v1), some (.int v2), some (.int (-1)), some (.int 0), some (.int 0), none, none] [] (mm_u I 154 (tn 1) v2) J (qI P))) ∧ (¬ (10 ≤ v3) → (EI X d n_X11_isSeen [.ref 145] (mm_u I 154 (tn 1) v3) J (fun x_1 I_2 J_3 => Er X (d + 1) M_X11_askOf 32 [some (.ref 145), some (.int v1), some (.int v2), some (.int v3), some (.int x_1), some (.int 0), none, none] [] I_2 J_3 (qI P))))) : Er X (d + 1) M_X11_askOf 19 [some (.ref 145), some (.int v1), some (.int v2), some (.int v3), o4, o5, none, none] [] I J (qI P) := by
  refine e_l rfl rfl rfl ?_
  refine e_k rfl rfl rfl ib_10 ?_
  refine e_b rfl rfl rfl (fun hA => ?_) (fun hA => ?_)
  · replace T := T.1 hA
    refine e_l rfl rfl rfl ?_
    refine e_gr rfl (g_145) rfl (r_145_11) ?_
    refine e_k rfl rfl rfl ic_1 ?_
    refine e_l rfl rfl rfl ?_
    refine e_as rfl (g_154) (by decide) ?_
    refine e_k rfl rfl rfl ic_m1 ?_
    refine e_l (L' := [some (.ref 145), some (.int v1), some (.int v2), some (.int (-1)), o4, o5, none, none]) rfl rfl rfl ?_
    refine e_k rfl rfl rfl ic_0 ?_
    refine e_l (L' := [some (.ref 145), some (.int v1), some (.int v2), some (.int (-1)), some (.int 0), o5, none, none]) rfl rfl rfl ?_
    refine e_k rfl rfl rfl ic_0 ?_
    refine e_l (L' := [some (.ref 145), some (.int v1), some (.int v2), some (.int (-1)), some (.int 0), some (.int 0), none, none]) rfl rfl rfl ?_
    exact T
  · replace T := T.2 hA
    refine e_l rfl rfl rfl ?_
    refine e_gr rfl (g_145) rfl (r_145_11) ?_
    refine e_k rfl rfl rfl ic_1 ?_
    refine e_l rfl rfl rfl ?_
    refine e_as rfl (g_154) (by decide) ?_
    refine e_l rfl rfl rfl ?_
    refine e_cvI (as := []) (rs := []) rfl rfl (g_145) rfl T (fun x_1 I_2 J_3 T => ?_)
    try dsimp only at T
    refine e_l (L' := [some (.ref 145), some (.int v1), some (.int v2), some (.int v3), some (.int x_1), o5, none, none]) rfl rfl rfl ?_
    refine e_k rfl rfl rfl ic_0 ?_
    refine e_l (L' := [some (.ref 145), some (.int v1), some (.int v2), some (.int v3), some (.int x_1), some (.int 0), none, none]) rfl rfl rfl ?_
    exact T
set_option maxRecDepth 10000 in
set_option maxHeartbeats 4000000 in
theorem vc_X11_askOf_32 {X : mm_X} {d : Nat} {I : tI} {J : tJ} {P : Int32 → tI → tJ → Prop} {v1 : Int32} {v2 : Int32} {v3 : Int32} {v4 : Int32} {v5 : Int32}  (T : ((I 145 9) ≤ v5 → (Er X (d + 1) M_X11_askOf 19 [some (.ref 145), some (.int v1), some (.int v2), some (.int (v3 + 1)), some (.int v4), some (.int v5), none, none] [] I J (qI P))) ∧ (¬ ((I 145 9) ≤ v5) → ((v4 = 0 → (Er X (d + 1) M_X11_askOf 19 [some (.ref 145), some (.int v1), some (.int v2), some (.int (v3 + 1)), some (.int v4), some (.int v5), none, none] [] I J (qI P))) ∧ (¬ (v4 = 0) → (ix ((8 * v1) + v5) 240 ∧ (ix ((4 * v5) + (I 163 (tn ((8 * v1) + v5)))) 32 ∧ (ix ((4 * v5) + (I 163 (tn ((8 * v1) + v5)))) 32 ∧ (Er X (d + 1) M_X11_askOf 32 [some (.ref 145), some (.int v1), some (.int v2), some (.int v3), some (.int v4), some (.int (v5 + 1)), none, none] [] (mm_u I 168 (tn ((4 * v5) + (I 163 (tn ((8 * v1) + v5))))) ((I 168 (tn ((4 * v5) + (I 163 (tn ((8 * v1) + v5)))))) + 1)) J (qI P))))))))) : Er X (d + 1) M_X11_askOf 32 [some (.ref 145), some (.int v1), some (.int v2), some (.int v3), some (.int v4), some (.int v5), none, none] [] I J (qI P) := by
  refine e_l rfl rfl rfl ?_
  refine e_l rfl rfl rfl ?_
  refine e_gi rfl (g_145) (by decide) ?_
  refine e_b rfl rfl rfl (fun hA => ?_) (fun hA => ?_)
  · replace T := T.1 hA
    refine e_ic (v := (v3 + 1)) (L' := [some (.ref 145), some (.int v1), some (.int v2), some (.int (v3 + 1)), some (.int v4), some (.int v5), none, none]) rfl rfl rfl ic_1 rfl ?_
    refine e_g rfl ?_
    exact T
  · replace T := T.2 hA
    refine e_l rfl rfl rfl ?_
    refine e_b rfl rfl rfl (fun hA => ?_) (fun hA => ?_)
    · replace T := T.1 hA
      refine e_ic (v := (v3 + 1)) (L' := [some (.ref 145), some (.int v1), some (.int v2), some (.int (v3 + 1)), some (.int v4), some (.int v5), none, none]) rfl rfl rfl ic_1 rfl ?_
      refine e_g rfl ?_
      exact T
    · replace T := T.2 hA
      refine e_l rfl rfl rfl ?_
      refine e_gr rfl (g_145) rfl (r_145_29) ?_
      refine e_k rfl rfl rfl ic_4 ?_
      refine e_l rfl rfl rfl ?_
      refine e_p rfl rfl rfl ?_
      refine e_l rfl rfl rfl ?_
      refine e_gr rfl (g_145) rfl (r_145_22) ?_
      refine e_k rfl rfl rfl ib_8 ?_
      refine e_l rfl rfl rfl ?_
      refine e_p rfl rfl rfl ?_
      refine e_l rfl rfl rfl ?_
      refine e_p rfl rfl rfl ?_
      refine e_ia rfl (g_163) T.1 ?_
      replace T := T.2
      refine e_p rfl rfl rfl ?_
      refine e_p rfl rfl rfl ?_
      refine e_ia rfl (g_168) T.1 ?_
      replace T := T.2
      refine e_k rfl rfl rfl ic_1 ?_
      refine e_p rfl rfl rfl ?_
      refine e_as rfl (g_168) T.1 ?_
      replace T := T.2
      refine e_ic (v := (v5 + 1)) (L' := [some (.ref 145), some (.int v1), some (.int v2), some (.int v3), some (.int v4), some (.int (v5 + 1)), none, none]) rfl rfl rfl ic_1 rfl ?_
      refine e_g rfl ?_
      exact T
set_option maxRecDepth 10000 in
set_option maxHeartbeats 4000000 in
theorem vc_X11_askOf_72 {X : mm_X} {d : Nat} {I : tI} {J : tJ} {P : Int32 → tI → tJ → Prop} {v1 : Int32} {v2 : Int32} {v3 : Int32} {v4 : Int32} {v5 : Int32} {o6 : Option Value} {o7 : Option Value}  (T : ((I 145 9) ≤ v5 → (P v3 I J)) ∧ (¬ ((I 145 9) ≤ v5) → (Er X (d + 1) M_X11_askOf 80 [some (.ref 145), some (.int v1), some (.int v2), some (.int v3), some (.int v4), some (.int v5), some (.int 0), some (.int 0)] [] I J (qI P)))) : Er X (d + 1) M_X11_askOf 72 [some (.ref 145), some (.int v1), some (.int v2), some (.int v3), some (.int v4), some (.int v5), o6, o7] [] I J (qI P) := by
  refine e_l rfl rfl rfl ?_
  refine e_l rfl rfl rfl ?_
  refine e_gi rfl (g_145) (by decide) ?_
  refine e_b rfl rfl rfl (fun hA => ?_) (fun hA => ?_)
  · replace T := T.1 hA
    refine e_l rfl rfl rfl ?_
    exact e_ri rfl rfl ⟨_, rfl, T⟩
  · replace T := T.2 hA
    refine e_k rfl rfl rfl ic_0 ?_
    refine e_l (L' := [some (.ref 145), some (.int v1), some (.int v2), some (.int v3), some (.int v4), some (.int v5), some (.int 0), o7]) rfl rfl rfl ?_
    refine e_k rfl rfl rfl ic_0 ?_
    refine e_l (L' := [some (.ref 145), some (.int v1), some (.int v2), some (.int v3), some (.int v4), some (.int v5), some (.int 0), some (.int 0)]) rfl rfl rfl ?_
    exact T
set_option maxRecDepth 10000 in
set_option maxHeartbeats 4000000 in
theorem vc_X11_askOf_80 {X : mm_X} {d : Nat} {I : tI} {J : tJ} {P : Int32 → tI → tJ → Prop} {v1 : Int32} {v2 : Int32} {v3 : Int32} {v4 : Int32} {v5 : Int32} {v6 : Int32} {v7 : Int32}  (T : (4 ≤ v7 → ((v3 = (-1) → (((1 : Int32) = 0 → (Er X (d + 1) M_X11_askOf 111 [some (.ref 145), some (.int v1), some (.int v2), some (.int v3), some (.int v4), some (.int v5), some (.int v6), some (.int 1)] [.int v3] I J (qI P))) ∧ (¬ ((1 : Int32) = 0) → (Er X (d + 1) M_X11_askOf 111 [some (.ref 145), some (.int v1), some (.int v2), some (.int v3), some (.int v4), some (.int v5), some (.int v6), some (.int 1)] [.int v5] I J (qI P))))) ∧ (¬ (v3 = (-1)) → ((v4 ≤ v6 → (((0 : Int32) = 0 → (Er X (d + 1) M_X11_askOf 111 [some (.ref 145), some (.int v1), some (.int v2), some (.int v3), some (.int v4), some (.int v5), some (.int v6), some (.int 0)] [.int v3] I J (qI P))) ∧ (¬ ((0 : Int32) = 0) → (Er X (d + 1) M_X11_askOf 111 [some (.ref 145), some (.int v1), some (.int v2), some (.int v3), some (.int v4), some (.int v5), some (.int v6), some (.int 0)] [.int v5] I J (qI P))))) ∧ (¬ (v4 ≤ v6) → (((1 : Int32) = 0 → (Er X (d + 1) M_X11_askOf 111 [some (.ref 145), some (.int v1), some (.int v2), some (.int v3), some (.int v4), some (.int v5), some (.int v6), some (.int 1)] [.int v3] I J (qI P))) ∧ (¬ ((1 : Int32) = 0) → (Er X (d + 1) M_X11_askOf 111 [some (.ref 145), some (.int v1), some (.int v2), some (.int v3), some (.int v4), some (.int v5), some (.int v6), some (.int 1)] [.int v5] I J (qI P))))))))) ∧ (¬ (4 ≤ v7) → (ix ((4 * v5) + v7) 32 ∧ (EI X d n_X11_greater [.int (I 168 (tn ((4 * v5) + v7))), .int v6] I J (fun x_1 I_2 J_3 => Er X (d + 1) M_X11_askOf 80 [some (.ref 145), some (.int v1), some (.int v2), some (.int v3), some (.int v4), some (.int v5), some (.int x_1), some (.int (v7 + 1))] [] I_2 J_3 (qI P)))))) : Er X (d + 1) M_X11_askOf 80 [some (.ref 145), some (.int v1), some (.int v2), some (.int v3), some (.int v4), some (.int v5), some (.int v6), some (.int v7)] [] I J (qI P) := by
  refine e_l rfl rfl rfl ?_
  refine e_k rfl rfl rfl ic_4 ?_
  refine e_b rfl rfl rfl (fun hA => ?_) (fun hA => ?_)
  · replace T := T.1 hA
    refine e_l rfl rfl rfl ?_
    refine e_k rfl rfl rfl ic_m1 ?_
    refine e_b rfl rfl rfl (fun hA => ?_) (fun hA => ?_)
    · replace T := T.1 hA
      refine e_k rfl rfl rfl ic_1 ?_
      refine e_g rfl ?_
      refine e_l (L' := [some (.ref 145), some (.int v1), some (.int v2), some (.int v3), some (.int v4), some (.int v5), some (.int v6), some (.int 1)]) rfl rfl rfl ?_
      refine e_l rfl rfl rfl ?_
      refine e_b rfl rfl rfl (fun hA => ?_) (fun hA => ?_)
      · replace T := T.1 hA
        refine e_l rfl rfl rfl ?_
        exact T
      · replace T := T.2 hA
        refine e_l rfl rfl rfl ?_
        refine e_g rfl ?_
        exact T
    · replace T := T.2 hA
      refine e_l rfl rfl rfl ?_
      refine e_l rfl rfl rfl ?_
      refine e_b rfl rfl rfl (fun hA => ?_) (fun hA => ?_)
      · replace T := T.1 hA
        refine e_k rfl rfl rfl ic_0 ?_
        refine e_l (L' := [some (.ref 145), some (.int v1), some (.int v2), some (.int v3), some (.int v4), some (.int v5), some (.int v6), some (.int 0)]) rfl rfl rfl ?_
        refine e_l rfl rfl rfl ?_
        refine e_b rfl rfl rfl (fun hA => ?_) (fun hA => ?_)
        · replace T := T.1 hA
          refine e_l rfl rfl rfl ?_
          exact T
        · replace T := T.2 hA
          refine e_l rfl rfl rfl ?_
          refine e_g rfl ?_
          exact T
      · replace T := T.2 hA
        refine e_k rfl rfl rfl ic_1 ?_
        refine e_g rfl ?_
        refine e_l (L' := [some (.ref 145), some (.int v1), some (.int v2), some (.int v3), some (.int v4), some (.int v5), some (.int v6), some (.int 1)]) rfl rfl rfl ?_
        refine e_l rfl rfl rfl ?_
        refine e_b rfl rfl rfl (fun hA => ?_) (fun hA => ?_)
        · replace T := T.1 hA
          refine e_l rfl rfl rfl ?_
          exact T
        · replace T := T.2 hA
          refine e_l rfl rfl rfl ?_
          refine e_g rfl ?_
          exact T
  · replace T := T.2 hA
    refine e_l rfl rfl rfl ?_
    refine e_gr rfl (g_145) rfl (r_145_29) ?_
    refine e_k rfl rfl rfl ic_4 ?_
    refine e_l rfl rfl rfl ?_
    refine e_p rfl rfl rfl ?_
    refine e_l rfl rfl rfl ?_
    refine e_p rfl rfl rfl ?_
    refine e_ia rfl (g_168) T.1 ?_
    replace T := T.2
    refine e_l rfl rfl rfl ?_
    refine e_csI (as := [.int (I 168 (tn ((4 * v5) + v7))), .int v6]) (rs := []) rfl rfl rfl T (fun x_1 I_2 J_3 T => ?_)
    try dsimp only at T
    refine e_l (L' := [some (.ref 145), some (.int v1), some (.int v2), some (.int v3), some (.int v4), some (.int v5), some (.int x_1), some (.int v7)]) rfl rfl rfl ?_
    refine e_ic (v := (v7 + 1)) (L' := [some (.ref 145), some (.int v1), some (.int v2), some (.int v3), some (.int v4), some (.int v5), some (.int x_1), some (.int (v7 + 1))]) rfl rfl rfl ic_1 rfl ?_
    refine e_g rfl ?_
    exact T
set_option maxRecDepth 10000 in
set_option maxHeartbeats 4000000 in
theorem vc_X11_askOf_111 {X : mm_X} {d : Nat} {I : tI} {J : tJ} {P : Int32 → tI → tJ → Prop} {v1 : Int32} {v2 : Int32} {v3 : Int32} {v4 : Int32} {v5 : Int32} {v6 : Int32} {v7 : Int32} {s0 : Int32}  (T : (v7 = 0 → (Er X (d + 1) M_X11_askOf 72 [some (.ref 145), some (.int v1), some (.int v2), some (.int s0), some (.int v4), some (.int (v5 + 1)), some (.int v6), some (.int v7)] [] I J (qI P))) ∧ (¬ (v7 = 0) → (Er X (d + 1) M_X11_askOf 72 [some (.ref 145), some (.int v1), some (.int v2), some (.int s0), some (.int v6), some (.int (v5 + 1)), some (.int v6), some (.int v7)] [] I J (qI P)))) : Er X (d + 1) M_X11_askOf 111 [some (.ref 145), some (.int v1), some (.int v2), some (.int v3), some (.int v4), some (.int v5), some (.int v6), some (.int v7)] [.int s0] I J (qI P) := by
  refine e_l (L' := [some (.ref 145), some (.int v1), some (.int v2), some (.int s0), some (.int v4), some (.int v5), some (.int v6), some (.int v7)]) rfl rfl rfl ?_
  refine e_l rfl rfl rfl ?_
  refine e_b rfl rfl rfl (fun hA => ?_) (fun hA => ?_)
  · replace T := T.1 hA
    refine e_l rfl rfl rfl ?_
    refine e_l (L' := [some (.ref 145), some (.int v1), some (.int v2), some (.int s0), some (.int v4), some (.int v5), some (.int v6), some (.int v7)]) rfl rfl rfl ?_
    refine e_ic (v := (v5 + 1)) (L' := [some (.ref 145), some (.int v1), some (.int v2), some (.int s0), some (.int v4), some (.int (v5 + 1)), some (.int v6), some (.int v7)]) rfl rfl rfl ic_1 rfl ?_
    refine e_g rfl ?_
    exact T
  · replace T := T.2 hA
    refine e_l rfl rfl rfl ?_
    refine e_g rfl ?_
    refine e_l (L' := [some (.ref 145), some (.int v1), some (.int v2), some (.int s0), some (.int v6), some (.int v5), some (.int v6), some (.int v7)]) rfl rfl rfl ?_
    refine e_ic (v := (v5 + 1)) (L' := [some (.ref 145), some (.int v1), some (.int v2), some (.int s0), some (.int v6), some (.int (v5 + 1)), some (.int v6), some (.int v7)]) rfl rfl rfl ic_1 rfl ?_
    refine e_g rfl ?_
    exact T
set_option maxRecDepth 10000 in
set_option maxHeartbeats 4000000 in
theorem vc_X11_ask {X : mm_X} {d : Nat} {I : tI} {J : tJ} {P : Int32 → tI → tJ → Prop} {v1 : Int32}  (T : EV X d n_X11_find [.ref 145] I J (fun I_2 J_3 => EI X d n_X11_isHour [.int v1] I_2 J_3 (fun x_4 I_5 J_6 => (x_4 = 0 → (P (-2) I_5 J_6)) ∧ (¬ (x_4 = 0) → (EI X d n_X11_askOf [.ref 145, .int v1] I_5 J_6 (fun x_7 I_8 J_9 => P x_7 I_8 J_9)))))) : EI X (d + 1) n_X11_ask [.ref 145, .int v1] I J P := by
  refine ⟨M_X11_ask, tb_X11_ask, Nat.le_of_ble_eq_true rfl, ?_⟩
  show Er X (d + 1) M_X11_ask 0 [some (.ref 145), some (.int v1)] [] I J (qI P)
  refine e_l rfl rfl rfl ?_
  refine e_cvV (as := []) (rs := []) rfl rfl (g_145) rfl T (fun I_2 J_3 T => ?_)
  try dsimp only at T
  refine e_l rfl rfl rfl ?_
  refine e_csI (as := [.int v1]) (rs := []) rfl rfl rfl T (fun x_4 I_5 J_6 T => ?_)
  try dsimp only at T
  refine e_b rfl rfl rfl (fun hA => ?_) (fun hA => ?_)
  · replace T := T.1 hA
    refine e_k rfl rfl rfl ib_m2 ?_
    exact e_ri rfl rfl ⟨_, rfl, T⟩
  · replace T := T.2 hA
    refine e_l rfl rfl rfl ?_
    refine e_l rfl rfl rfl ?_
    refine e_cvI (as := [.int v1]) (rs := []) rfl rfl (g_145) rfl T (fun x_7 I_8 J_9 T => ?_)
    try dsimp only at T
    refine e_g rfl ?_
    exact e_ri rfl rfl ⟨_, rfl, T⟩
set_option maxRecDepth 10000 in
set_option maxHeartbeats 4000000 in
theorem vc_X11_windowOf {X : mm_X} {d : Nat} {I : tI} {J : tJ} {P : Int64 → tI → tJ → Prop} {v1 : Int32} {v2 : Int32} {v3 : Int32} {v4 : Int32} {v5 : Int32}  (T : Er X (d + 1) M_X11_windowOf 4 [some (.ref 145), some (.int v1), some (.int v2), some (.int v3), some (.int v4), some (.int v5), some (.long 0), none, some (.int 0), none, none, none] [] I J (qL P)) : EL X (d + 1) n_X11_windowOf [.ref 145, .int v1, .int v2, .int v3, .int v4, .int v5] I J P := by
  refine ⟨M_X11_windowOf, tb_X11_windowOf, Nat.le_of_ble_eq_true rfl, ?_⟩
  show Er X (d + 1) M_X11_windowOf 0 [some (.ref 145), some (.int v1), some (.int v2), some (.int v3), some (.int v4), some (.int v5), none, none, none, none, none, none] [] I J (qL P)
  refine e_kl rfl rfl rfl lc_0 ?_
  refine e_l (L' := [some (.ref 145), some (.int v1), some (.int v2), some (.int v3), some (.int v4), some (.int v5), some (.long 0), none, none, none, none, none]) rfl rfl rfl ?_
  refine e_k rfl rfl rfl ic_0 ?_
  refine e_l (L' := [some (.ref 145), some (.int v1), some (.int v2), some (.int v3), some (.int v4), some (.int v5), some (.long 0), none, some (.int 0), none, none, none]) rfl rfl rfl ?_
  exact T
set_option maxRecDepth 10000 in
set_option maxHeartbeats 4000000 in
theorem vc_X11_windowOf_4 {X : mm_X} {d : Nat} {I : tI} {J : tJ} {P : Int64 → tI → tJ → Prop} {v1 : Int32} {v2 : Int32} {v3 : Int32} {v4 : Int32} {v5 : Int32} {v6 : Int64} {v8 : Int32} {o9 : Option Value} {o11 : Option Value}  (T : ((2 <<< (v2 &&& 31)) ≤ v8 → (EL X d n_X11_part [.long v6, .long ((1 : Int64) <<< (Int32.toInt64 (4 * (v2 + 1)) &&& 63)), .int v5] (mm_u I 145 26 0) J (fun x_1 I_2 J_3 => P x_1 I_2 J_3))) ∧ (¬ ((2 <<< (v2 &&& 31)) ≤ v8) → (EV X d n_X11_lives [.ref 145] (mm_u I 145 26 v8) J (fun I_5 J_6 => ix v3 8 ∧ (EI X d n_X11_in [.long (Int32.toInt64 (I_5 164 (tn v3))), .long 0, .long (Int32.toInt64 v4)] I_5 J_6 (fun x_7 I_8 J_9 => (x_7 = 0 → (Er X (d + 1) M_X11_windowOf 4 [some (.ref 145), some (.int v1), some (.int v2), some (.int v3), some (.int v4), some (.int v5), some (.long v6), none, some (.int (v8 + 1)), o9, none, o11] [] I_8 J_9 (qL P))) ∧ (¬ (x_7 = 0) → (Er X (d + 1) M_X11_windowOf 28 [some (.ref 145), some (.int v1), some (.int v2), some (.int v3), some (.int v4), some (.int v5), some (.long v6), none, some (.int v8), some (.long 1), none, some (.int 0)] [] I_8 J_9 (qL P))))))))) : Er X (d + 1) M_X11_windowOf 4 [some (.ref 145), some (.int v1), some (.int v2), some (.int v3), some (.int v4), some (.int v5), some (.long v6), none, some (.int v8), o9, none, o11] [] I J (qL P) := by
  refine e_l rfl rfl rfl ?_
  refine e_k rfl rfl rfl ic_2 ?_
  refine e_l rfl rfl rfl ?_
  refine e_p rfl rfl rfl ?_
  refine e_b rfl rfl rfl (fun hA => ?_) (fun hA => ?_)
  · replace T := T.1 hA
    refine e_l rfl rfl rfl ?_
    refine e_k rfl rfl rfl ic_0 ?_
    refine e_pi rfl (g_145) rfl ?_
    refine e_l rfl rfl rfl ?_
    refine e_kl rfl rfl rfl lc_1 ?_
    refine e_k rfl rfl rfl ic_4 ?_
    refine e_l rfl rfl rfl ?_
    refine e_k rfl rfl rfl ic_1 ?_
    refine e_p rfl rfl rfl ?_
    refine e_p rfl rfl rfl ?_
    refine e_p rfl rfl rfl ?_
    refine e_l rfl rfl rfl ?_
    refine e_csL (as := [.long v6, .long ((1 : Int64) <<< (Int32.toInt64 (4 * (v2 + 1)) &&& 63)), .int v5]) (rs := []) rfl rfl rfl T (fun x_1 I_2 J_3 T => ?_)
    try dsimp only at T
    exact e_rl rfl rfl ⟨_, rfl, T⟩
  · replace T := T.2 hA
    refine e_l rfl rfl rfl ?_
    refine e_l rfl rfl rfl ?_
    refine e_pi rfl (g_145) rfl ?_
    refine e_l rfl rfl rfl ?_
    refine e_cvV (as := []) (rs := []) rfl rfl (g_145) rfl T (fun I_5 J_6 T => ?_)
    try dsimp only at T
    refine e_l rfl rfl rfl ?_
    refine e_gr rfl (g_145) rfl (r_145_23) ?_
    refine e_l rfl rfl rfl ?_
    refine e_ia rfl (g_164) T.1 ?_
    replace T := T.2
    refine e_p rfl rfl rfl ?_
    refine e_kl rfl rfl rfl lc_0 ?_
    refine e_l rfl rfl rfl ?_
    refine e_p rfl rfl rfl ?_
    refine e_csI (as := [.long (Int32.toInt64 (I_5 164 (tn v3))), .long 0, .long (Int32.toInt64 v4)]) (rs := []) rfl rfl rfl T (fun x_7 I_8 J_9 T => ?_)
    try dsimp only at T
    refine e_b rfl rfl rfl (fun hA => ?_) (fun hA => ?_)
    · replace T := T.1 hA
      refine e_ic (v := (v8 + 1)) (L' := [some (.ref 145), some (.int v1), some (.int v2), some (.int v3), some (.int v4), some (.int v5), some (.long v6), none, some (.int (v8 + 1)), o9, none, o11]) rfl rfl rfl ic_1 rfl ?_
      refine e_g rfl ?_
      exact T
    · replace T := T.2 hA
      refine e_kl rfl rfl rfl lc_1 ?_
      refine e_l (L' := [some (.ref 145), some (.int v1), some (.int v2), some (.int v3), some (.int v4), some (.int v5), some (.long v6), none, some (.int v8), some (.long 1), none, o11]) rfl rfl rfl ?_
      refine e_k rfl rfl rfl ic_0 ?_
      refine e_l (L' := [some (.ref 145), some (.int v1), some (.int v2), some (.int v3), some (.int v4), some (.int v5), some (.long v6), none, some (.int v8), some (.long 1), none, some (.int 0)]) rfl rfl rfl ?_
      exact T
set_option maxRecDepth 10000 in
set_option maxHeartbeats 4000000 in
theorem vc_X11_windowOf_28 {X : mm_X} {d : Nat} {I : tI} {J : tJ} {P : Int64 → tI → tJ → Prop} {v1 : Int32} {v2 : Int32} {v3 : Int32} {v4 : Int32} {v5 : Int32} {v6 : Int64} {v8 : Int32} {v9 : Int64} {v11 : Int32}  (T : (v2 < v11 → (∀ y6_1 : Int64, y6_1 = (v6 + v9) → (Er X (d + 1) M_X11_windowOf 4 [some (.ref 145), some (.int v1), some (.int v2), some (.int v3), some (.int v4), some (.int v5), some (.long y6_1), none, some (.int (v8 + 1)), some (.long v9), none, some (.int v11)] [] I J (qL P)))) ∧ (¬ (v2 < v11) → (EI X d n_X11_isIn [.int v8, .int v11] I J (fun x_2 I_3 J_4 => (x_2 = 0 → (∀ y9_5 : Int64, y9_5 = (v9 * (Int32.toInt64 (16 - v1))) → (Er X (d + 1) M_X11_windowOf 28 [some (.ref 145), some (.int v1), some (.int v2), some (.int v3), some (.int v4), some (.int v5), some (.long v6), none, some (.int v8), some (.long y9_5), none, some (.int (v11 + 1))] [] I_3 J_4 (qL P)))) ∧ (¬ (x_2 = 0) → (∀ y9_6 : Int64, y9_6 = (v9 * (Int32.toInt64 v1)) → (Er X (d + 1) M_X11_windowOf 28 [some (.ref 145), some (.int v1), some (.int v2), some (.int v3), some (.int v4), some (.int v5), some (.long v6), none, some (.int v8), some (.long y9_6), none, some (.int (v11 + 1))] [] I_3 J_4 (qL P)))))))) : Er X (d + 1) M_X11_windowOf 28 [some (.ref 145), some (.int v1), some (.int v2), some (.int v3), some (.int v4), some (.int v5), some (.long v6), none, some (.int v8), some (.long v9), none, some (.int v11)] [] I J (qL P) := by
  refine e_l rfl rfl rfl ?_
  refine e_l rfl rfl rfl ?_
  refine e_b rfl rfl rfl (fun hA => ?_) (fun hA => ?_)
  · replace T := T.1 hA
    refine e_l rfl rfl rfl ?_
    refine e_l rfl rfl rfl ?_
    refine e_p rfl rfl rfl ?_
    refine e_sl (Lf := fun y6_1 => [some (.ref 145), some (.int v1), some (.int v2), some (.int v3), some (.int v4), some (.int v5), some (.long y6_1), none, some (.int v8), some (.long v9), none, some (.int v11)]) rfl rfl rfl (fun y6_1 hy6_1 => ?_)
    replace T := T y6_1 hy6_1
    refine e_ic (v := (v8 + 1)) (L' := [some (.ref 145), some (.int v1), some (.int v2), some (.int v3), some (.int v4), some (.int v5), some (.long y6_1), none, some (.int (v8 + 1)), some (.long v9), none, some (.int v11)]) rfl rfl rfl ic_1 rfl ?_
    refine e_g rfl ?_
    exact T
  · replace T := T.2 hA
    refine e_l rfl rfl rfl ?_
    refine e_l rfl rfl rfl ?_
    refine e_l rfl rfl rfl ?_
    refine e_csI (as := [.int v8, .int v11]) (rs := [.long v9]) rfl rfl rfl T (fun x_2 I_3 J_4 T => ?_)
    try dsimp only at T
    refine e_b rfl rfl rfl (fun hA => ?_) (fun hA => ?_)
    · replace T := T.1 hA
      refine e_k rfl rfl rfl ib_16 ?_
      refine e_l rfl rfl rfl ?_
      refine e_p rfl rfl rfl ?_
      refine e_p rfl rfl rfl ?_
      refine e_p rfl rfl rfl ?_
      refine e_sl (Lf := fun y9_5 => [some (.ref 145), some (.int v1), some (.int v2), some (.int v3), some (.int v4), some (.int v5), some (.long v6), none, some (.int v8), some (.long y9_5), none, some (.int v11)]) rfl rfl rfl (fun y9_5 hy9_5 => ?_)
      replace T := T y9_5 hy9_5
      refine e_ic (v := (v11 + 1)) (L' := [some (.ref 145), some (.int v1), some (.int v2), some (.int v3), some (.int v4), some (.int v5), some (.long v6), none, some (.int v8), some (.long y9_5), none, some (.int (v11 + 1))]) rfl rfl rfl ic_1 rfl ?_
      refine e_g rfl ?_
      exact T
    · replace T := T.2 hA
      refine e_l rfl rfl rfl ?_
      refine e_p rfl rfl rfl ?_
      refine e_g rfl ?_
      refine e_p rfl rfl rfl ?_
      refine e_sl (Lf := fun y9_6 => [some (.ref 145), some (.int v1), some (.int v2), some (.int v3), some (.int v4), some (.int v5), some (.long v6), none, some (.int v8), some (.long y9_6), none, some (.int v11)]) rfl rfl rfl (fun y9_6 hy9_6 => ?_)
      replace T := T y9_6 hy9_6
      refine e_ic (v := (v11 + 1)) (L' := [some (.ref 145), some (.int v1), some (.int v2), some (.int v3), some (.int v4), some (.int v5), some (.long v6), none, some (.int v8), some (.long y9_6), none, some (.int (v11 + 1))]) rfl rfl rfl ic_1 rfl ?_
      refine e_g rfl ?_
      exact T
set_option maxRecDepth 10000 in
set_option maxHeartbeats 4000000 in
theorem vc_X11_window {X : mm_X} {d : Nat} {I : tI} {J : tJ} {P : Int64 → tI → tJ → Prop} {v1 : Int32} {v2 : Int32} {v3 : Int32} {v4 : Int32} {v5 : Int32}  (T : EV X d n_X11_find [.ref 145] I J (fun I_2 J_3 => EI X d n_X11_in [.long (Int32.toInt64 v1), .long 0, .long 16] I_2 J_3 (fun x_4 I_5 J_6 => (x_4 = 0 → (EL X d n_X11_no [.int (-2)] I_5 J_6 (fun x_7 I_8 J_9 => P x_7 I_8 J_9))) ∧ (¬ (x_4 = 0) → (EI X d n_X11_in [.long (Int32.toInt64 v2), .long 0, .long 9] I_5 J_6 (fun x_10 I_11 J_12 => (x_10 = 0 → (EL X d n_X11_no [.int (-2)] I_11 J_12 (fun x_13 I_14 J_15 => P x_13 I_14 J_15))) ∧ (¬ (x_10 = 0) → (EI X d n_X11_isSlice [.ref 145, .int v3] I_11 J_12 (fun x_16 I_17 J_18 => (x_16 = 0 → (EL X d n_X11_no [.int (-2)] I_17 J_18 (fun x_19 I_20 J_21 => P x_19 I_20 J_21))) ∧ (¬ (x_16 = 0) → (EI X d n_X11_isHour [.int v4] I_17 J_18 (fun x_22 I_23 J_24 => (x_22 = 0 → (EL X d n_X11_no [.int (-2)] I_23 J_24 (fun x_25 I_26 J_27 => P x_25 I_26 J_27))) ∧ (¬ (x_22 = 0) → (EI X d n_X11_isTwo [.int v5] I_23 J_24 (fun x_28 I_29 J_30 => (x_28 = 0 → (EL X d n_X11_no [.int (-2)] I_29 J_30 (fun x_31 I_32 J_33 => P x_31 I_32 J_33))) ∧ (¬ (x_28 = 0) → (EL X d n_X11_windowOf [.ref 145, .int v1, .int v2, .int v3, .int v4, .int v5] I_29 J_30 (fun x_34 I_35 J_36 => P x_34 I_35 J_36)))))))))))))))))) : EL X (d + 1) n_X11_window [.ref 145, .int v1, .int v2, .int v3, .int v4, .int v5] I J P := by
  refine ⟨M_X11_window, tb_X11_window, Nat.le_of_ble_eq_true rfl, ?_⟩
  show Er X (d + 1) M_X11_window 0 [some (.ref 145), some (.int v1), some (.int v2), some (.int v3), some (.int v4), some (.int v5)] [] I J (qL P)
  refine e_l rfl rfl rfl ?_
  refine e_cvV (as := []) (rs := []) rfl rfl (g_145) rfl T (fun I_2 J_3 T => ?_)
  try dsimp only at T
  refine e_l rfl rfl rfl ?_
  refine e_p rfl rfl rfl ?_
  refine e_kl rfl rfl rfl lc_0 ?_
  refine e_kl rfl rfl rfl lk_16 ?_
  refine e_csI (as := [.long (Int32.toInt64 v1), .long 0, .long 16]) (rs := []) rfl rfl rfl T (fun x_4 I_5 J_6 T => ?_)
  try dsimp only at T
  refine e_b rfl rfl rfl (fun hA => ?_) (fun hA => ?_)
  · replace T := T.1 hA
    refine e_k rfl rfl rfl ib_m2 ?_
    refine e_csL (as := [.int (-2)]) (rs := []) rfl rfl rfl T (fun x_7 I_8 J_9 T => ?_)
    try dsimp only at T
    exact e_rl rfl rfl ⟨_, rfl, T⟩
  · replace T := T.2 hA
    refine e_l rfl rfl rfl ?_
    refine e_p rfl rfl rfl ?_
    refine e_kl rfl rfl rfl lc_0 ?_
    refine e_kl rfl rfl rfl lk_9 ?_
    refine e_csI (as := [.long (Int32.toInt64 v2), .long 0, .long 9]) (rs := []) rfl rfl rfl T (fun x_10 I_11 J_12 T => ?_)
    try dsimp only at T
    refine e_b rfl rfl rfl (fun hA => ?_) (fun hA => ?_)
    · replace T := T.1 hA
      refine e_k rfl rfl rfl ib_m2 ?_
      refine e_csL (as := [.int (-2)]) (rs := []) rfl rfl rfl T (fun x_13 I_14 J_15 T => ?_)
      try dsimp only at T
      exact e_rl rfl rfl ⟨_, rfl, T⟩
    · replace T := T.2 hA
      refine e_l rfl rfl rfl ?_
      refine e_l rfl rfl rfl ?_
      refine e_cvI (as := [.int v3]) (rs := []) rfl rfl (g_145) rfl T (fun x_16 I_17 J_18 T => ?_)
      try dsimp only at T
      refine e_b rfl rfl rfl (fun hA => ?_) (fun hA => ?_)
      · replace T := T.1 hA
        refine e_k rfl rfl rfl ib_m2 ?_
        refine e_csL (as := [.int (-2)]) (rs := []) rfl rfl rfl T (fun x_19 I_20 J_21 T => ?_)
        try dsimp only at T
        exact e_rl rfl rfl ⟨_, rfl, T⟩
      · replace T := T.2 hA
        refine e_l rfl rfl rfl ?_
        refine e_csI (as := [.int v4]) (rs := []) rfl rfl rfl T (fun x_22 I_23 J_24 T => ?_)
        try dsimp only at T
        refine e_b rfl rfl rfl (fun hA => ?_) (fun hA => ?_)
        · replace T := T.1 hA
          refine e_k rfl rfl rfl ib_m2 ?_
          refine e_csL (as := [.int (-2)]) (rs := []) rfl rfl rfl T (fun x_25 I_26 J_27 T => ?_)
          try dsimp only at T
          exact e_rl rfl rfl ⟨_, rfl, T⟩
        · replace T := T.2 hA
          refine e_l rfl rfl rfl ?_
          refine e_csI (as := [.int v5]) (rs := []) rfl rfl rfl T (fun x_28 I_29 J_30 T => ?_)
          try dsimp only at T
          refine e_b rfl rfl rfl (fun hA => ?_) (fun hA => ?_)
          · replace T := T.1 hA
            refine e_k rfl rfl rfl ib_m2 ?_
            refine e_csL (as := [.int (-2)]) (rs := []) rfl rfl rfl T (fun x_31 I_32 J_33 T => ?_)
            try dsimp only at T
            exact e_rl rfl rfl ⟨_, rfl, T⟩
          · replace T := T.2 hA
            refine e_l rfl rfl rfl ?_
            refine e_l rfl rfl rfl ?_
            refine e_l rfl rfl rfl ?_
            refine e_l rfl rfl rfl ?_
            refine e_l rfl rfl rfl ?_
            refine e_l rfl rfl rfl ?_
            refine e_cvL (as := [.int v1, .int v2, .int v3, .int v4, .int v5]) (rs := []) rfl rfl (g_145) rfl T (fun x_34 I_35 J_36 T => ?_)
            try dsimp only at T
            refine e_g rfl ?_
            exact e_rl rfl rfl ⟨_, rfl, T⟩
set_option maxRecDepth 10000 in
set_option maxHeartbeats 4000000 in
theorem vc_X11_lot {X : mm_X} {d : Nat} {I : tI} {J : tJ} {P : Int32 → tI → tJ → Prop} {v1 : Int32}  (T : ¬ v1 = 0 ∧ (P (((((mm_u I 145 30 ((1103515245 * (I 145 30)) + 12345)) 145 30)).toUInt32 >>> ((16 : Int32).toUInt32 &&& Int32.toUInt32 31)).toInt32 - ((((mm_u I 145 30 ((1103515245 * (I 145 30)) + 12345)) 145 30)).toUInt32 >>> ((16 : Int32).toUInt32 &&& Int32.toUInt32 31)).toInt32 / v1 * v1) (mm_u I 145 30 ((1103515245 * (I 145 30)) + 12345)) J)) : EI X d n_X11_lot [.ref 145, .int v1] I J P := by
  refine ⟨M_X11_lot, tb_X11_lot, Nat.le_of_ble_eq_true rfl, ?_⟩
  show Er X d M_X11_lot 0 [some (.ref 145), some (.int v1)] [] I J (qI P)
  refine e_l rfl rfl rfl ?_
  refine e_k rfl rfl rfl ik_1103515245 ?_
  refine e_l rfl rfl rfl ?_
  refine e_gi rfl (g_145) (by decide) ?_
  refine e_p rfl rfl rfl ?_
  refine e_k rfl rfl rfl is_12345 ?_
  refine e_p rfl rfl rfl ?_
  refine e_pi rfl (g_145) rfl ?_
  refine e_l rfl rfl rfl ?_
  refine e_gi rfl (g_145) (by decide) ?_
  refine e_k rfl rfl rfl ib_16 ?_
  refine e_p rfl rfl rfl ?_
  refine e_l rfl rfl rfl ?_
  refine e_rm rfl T.1 ?_
  replace T := T.2
  exact e_ri rfl rfl ⟨_, rfl, T⟩
set_option maxRecDepth 10000 in
set_option maxHeartbeats 4000000 in
theorem vc_X11_othersOf {X : mm_X} {d : Nat} {I : tI} {J : tJ} {P : Int32 → tI → tJ → Prop} {v1 : Int32} {v2 : Int32}  (T : Er X (d + 1) M_X11_othersOf 5 [some (.ref 145), some (.int v1), some (.int v2), some (.int 0), none] [] (mm_u I 145 30 v1) J (qI P)) : EI X (d + 1) n_X11_othersOf [.ref 145, .int v1, .int v2] I J P := by
  refine ⟨M_X11_othersOf, tb_X11_othersOf, Nat.le_of_ble_eq_true rfl, ?_⟩
  show Er X (d + 1) M_X11_othersOf 0 [some (.ref 145), some (.int v1), some (.int v2), none, none] [] I J (qI P)
  refine e_l rfl rfl rfl ?_
  refine e_l rfl rfl rfl ?_
  refine e_pi rfl (g_145) rfl ?_
  refine e_k rfl rfl rfl ic_0 ?_
  refine e_l (L' := [some (.ref 145), some (.int v1), some (.int v2), some (.int 0), none]) rfl rfl rfl ?_
  exact T
set_option maxRecDepth 10000 in
set_option maxHeartbeats 4000000 in
theorem vc_X11_othersOf_5 {X : mm_X} {d : Nat} {I : tI} {J : tJ} {P : Int32 → tI → tJ → Prop} {v1 : Int32} {v2 : Int32} {v3 : Int32}  (T : ((I 145 9) ≤ v3 → (EV X d n_X11_lives [.ref 145] I J (fun I_2 J_3 => EI X d n_X11_readsSlices [.ref 145] I_2 J_3 (fun x_4 I_5 J_6 => Er X (d + 1) M_X11_othersOf 31 [some (.ref 145), some (.int v1), some (.int v2), some (.int 0), some (.int 0)] [] I_5 J_6 (qI P))))) ∧ (¬ ((I 145 9) ≤ v3) → (EI X d n_X11_lot [.ref 145, .int 100] I J (fun x_7 I_8 J_9 => ix ((3 * v3) + 1) 24 ∧ (Er X (d + 1) M_X11_othersOf 5 [some (.ref 145), some (.int v1), some (.int v2), some (.int (v3 + 1)), none] [] (mm_u I_8 153 (tn ((3 * v3) + 1)) x_7) J_9 (qI P)))))) : Er X (d + 1) M_X11_othersOf 5 [some (.ref 145), some (.int v1), some (.int v2), some (.int v3), none] [] I J (qI P) := by
  refine e_l rfl rfl rfl ?_
  refine e_l rfl rfl rfl ?_
  refine e_gi rfl (g_145) (by decide) ?_
  refine e_b rfl rfl rfl (fun hA => ?_) (fun hA => ?_)
  · replace T := T.1 hA
    refine e_l rfl rfl rfl ?_
    refine e_cvV (as := []) (rs := []) rfl rfl (g_145) rfl T (fun I_2 J_3 T => ?_)
    try dsimp only at T
    refine e_l rfl rfl rfl ?_
    refine e_cvI (as := []) (rs := []) rfl rfl (g_145) rfl T (fun x_4 I_5 J_6 T => ?_)
    try dsimp only at T
    refine e_p rfl rfl rfl ?_
    refine e_k rfl rfl rfl ic_0 ?_
    refine e_l (L' := [some (.ref 145), some (.int v1), some (.int v2), some (.int 0), none]) rfl rfl rfl ?_
    refine e_k rfl rfl rfl ic_0 ?_
    refine e_l (L' := [some (.ref 145), some (.int v1), some (.int v2), some (.int 0), some (.int 0)]) rfl rfl rfl ?_
    exact T
  · replace T := T.2 hA
    refine e_l rfl rfl rfl ?_
    refine e_gr rfl (g_145) rfl (r_145_10) ?_
    refine e_k rfl rfl rfl ic_3 ?_
    refine e_l rfl rfl rfl ?_
    refine e_p rfl rfl rfl ?_
    refine e_k rfl rfl rfl ic_1 ?_
    refine e_p rfl rfl rfl ?_
    refine e_l rfl rfl rfl ?_
    refine e_k rfl rfl rfl ib_100 ?_
    refine e_cvI (as := [.int 100]) (rs := [.int ((3 * v3) + 1), .ref 153]) rfl rfl (g_145) rfl T (fun x_7 I_8 J_9 T => ?_)
    try dsimp only at T
    refine e_as rfl (g_153) T.1 ?_
    replace T := T.2
    refine e_ic (v := (v3 + 1)) (L' := [some (.ref 145), some (.int v1), some (.int v2), some (.int (v3 + 1)), none]) rfl rfl rfl ic_1 rfl ?_
    refine e_g rfl ?_
    exact T
set_option maxRecDepth 10000 in
set_option maxHeartbeats 4000000 in
theorem vc_X11_othersOf_31 {X : mm_X} {d : Nat} {I : tI} {J : tJ} {P : Int32 → tI → tJ → Prop} {v1 : Int32} {v2 : Int32} {v3 : Int32} {v4 : Int32}  (T : ((I 145 9) ≤ v4 → (P v3 I J)) ∧ (¬ ((I 145 9) ≤ v4) → (ix v4 8 ∧ (((I 158 (tn v4)) ≠ (v2 + 2) → (∀ y3_1 : Int32, y3_1 = (v3 + 0) → (Er X (d + 1) M_X11_othersOf 31 [some (.ref 145), some (.int v1), some (.int v2), some (.int y3_1), some (.int (v4 + 1))] [] I J (qI P)))) ∧ (¬ ((I 158 (tn v4)) ≠ (v2 + 2)) → (∀ y3_2 : Int32, y3_2 = (v3 + 1) → (Er X (d + 1) M_X11_othersOf 31 [some (.ref 145), some (.int v1), some (.int v2), some (.int y3_2), some (.int (v4 + 1))] [] I J (qI P)))))))) : Er X (d + 1) M_X11_othersOf 31 [some (.ref 145), some (.int v1), some (.int v2), some (.int v3), some (.int v4)] [] I J (qI P) := by
  refine e_l rfl rfl rfl ?_
  refine e_l rfl rfl rfl ?_
  refine e_gi rfl (g_145) (by decide) ?_
  refine e_b rfl rfl rfl (fun hA => ?_) (fun hA => ?_)
  · replace T := T.1 hA
    refine e_l rfl rfl rfl ?_
    exact e_ri rfl rfl ⟨_, rfl, T⟩
  · replace T := T.2 hA
    refine e_l rfl rfl rfl ?_
    refine e_l rfl rfl rfl ?_
    refine e_gr rfl (g_145) rfl (r_145_17) ?_
    refine e_l rfl rfl rfl ?_
    refine e_ia rfl (g_158) T.1 ?_
    replace T := T.2
    refine e_l rfl rfl rfl ?_
    refine e_k rfl rfl rfl ic_2 ?_
    refine e_p rfl rfl rfl ?_
    refine e_b rfl rfl rfl (fun hA => ?_) (fun hA => ?_)
    · replace T := T.1 hA
      refine e_k rfl rfl rfl ic_0 ?_
      refine e_p rfl rfl rfl ?_
      refine e_si (Lf := fun y3_1 => [some (.ref 145), some (.int v1), some (.int v2), some (.int y3_1), some (.int v4)]) rfl rfl rfl (fun y3_1 hy3_1 => ?_)
      replace T := T y3_1 hy3_1
      refine e_ic (v := (v4 + 1)) (L' := [some (.ref 145), some (.int v1), some (.int v2), some (.int y3_1), some (.int (v4 + 1))]) rfl rfl rfl ic_1 rfl ?_
      refine e_g rfl ?_
      exact T
    · replace T := T.2 hA
      refine e_k rfl rfl rfl ic_1 ?_
      refine e_g rfl ?_
      refine e_p rfl rfl rfl ?_
      refine e_si (Lf := fun y3_2 => [some (.ref 145), some (.int v1), some (.int v2), some (.int y3_2), some (.int v4)]) rfl rfl rfl (fun y3_2 hy3_2 => ?_)
      replace T := T y3_2 hy3_2
      refine e_ic (v := (v4 + 1)) (L' := [some (.ref 145), some (.int v1), some (.int v2), some (.int y3_2), some (.int (v4 + 1))]) rfl rfl rfl ic_1 rfl ?_
      refine e_g rfl ?_
      exact T
set_option maxRecDepth 10000 in
set_option maxHeartbeats 4000000 in
theorem vc_X11_others {X : mm_X} {d : Nat} {I : tI} {J : tJ} {P : Int32 → tI → tJ → Prop} {v1 : Int32} {v2 : Int32}  (T : EV X d n_X11_find [.ref 145] I J (fun I_2 J_3 => EI X d n_X11_isTwo [.int v2] I_2 J_3 (fun x_4 I_5 J_6 => (x_4 = 0 → (P (-2) I_5 J_6)) ∧ (¬ (x_4 = 0) → (EI X d n_X11_othersOf [.ref 145, .int v1, .int v2] I_5 J_6 (fun x_7 I_8 J_9 => P x_7 I_8 J_9)))))) : EI X (d + 1) n_X11_others [.ref 145, .int v1, .int v2] I J P := by
  refine ⟨M_X11_others, tb_X11_others, Nat.le_of_ble_eq_true rfl, ?_⟩
  show Er X (d + 1) M_X11_others 0 [some (.ref 145), some (.int v1), some (.int v2)] [] I J (qI P)
  refine e_l rfl rfl rfl ?_
  refine e_cvV (as := []) (rs := []) rfl rfl (g_145) rfl T (fun I_2 J_3 T => ?_)
  try dsimp only at T
  refine e_l rfl rfl rfl ?_
  refine e_csI (as := [.int v2]) (rs := []) rfl rfl rfl T (fun x_4 I_5 J_6 T => ?_)
  try dsimp only at T
  refine e_b rfl rfl rfl (fun hA => ?_) (fun hA => ?_)
  · replace T := T.1 hA
    refine e_k rfl rfl rfl ib_m2 ?_
    exact e_ri rfl rfl ⟨_, rfl, T⟩
  · replace T := T.2 hA
    refine e_l rfl rfl rfl ?_
    refine e_l rfl rfl rfl ?_
    refine e_l rfl rfl rfl ?_
    refine e_cvI (as := [.int v1, .int v2]) (rs := []) rfl rfl (g_145) rfl T (fun x_7 I_8 J_9 T => ?_)
    try dsimp only at T
    refine e_g rfl ?_
    exact e_ri rfl rfl ⟨_, rfl, T⟩
set_option maxRecDepth 10000 in
set_option maxHeartbeats 4000000 in
theorem vc_X11_write {X : mm_X} {d : Nat} {I : tI} {J : tJ} {P : Int32 → tI → tJ → Prop} {v1 : Int32} {v2 : Int32}  (T : EI X d n_X11_isHour [.int v1] I J (fun x_1 I_2 J_3 => (x_1 = 0 → (P (-2) I_2 J_3)) ∧ (¬ (x_1 = 0) → (EI X d n_X11_isSheet [.int v2] I_2 J_3 (fun x_4 I_5 J_6 => (x_4 ≠ 0 → (ix v2 4 ∧ ((0 ≤ (I_5 146 (tn v2)) → (EV X d n_X11_find [.ref 145] I_5 J_6 (fun I_8 J_9 => ix v2 4 ∧ (EI X d n_X11_lesser [.int (I_8 147 (tn v2)), .int (I_8 145 9)] I_8 J_9 (fun x_10 I_11 J_12 => Er X (d + 1) M_X11_write 29 [some (.ref 145), some (.int v1), some (.int v2), some (.int x_10), some (.int 0)] [] I_11 J_12 (qI P)))))) ∧ (¬ (0 ≤ (I_5 146 (tn v2))) → (EI X d n_X11_finds [.ref 145, .int 1] I_5 J_6 (fun x_13 I_14 J_15 => P x_13 I_14 J_15)))))) ∧ (¬ (x_4 ≠ 0) → (P (-2) I_5 J_6))))))) : EI X (d + 1) n_X11_write [.ref 145, .int v1, .int v2] I J P := by
  refine ⟨M_X11_write, tb_X11_write, Nat.le_of_ble_eq_true rfl, ?_⟩
  show Er X (d + 1) M_X11_write 0 [some (.ref 145), some (.int v1), some (.int v2), none, none] [] I J (qI P)
  refine e_l rfl rfl rfl ?_
  refine e_csI (as := [.int v1]) (rs := []) rfl rfl rfl T (fun x_1 I_2 J_3 T => ?_)
  try dsimp only at T
  refine e_b rfl rfl rfl (fun hA => ?_) (fun hA => ?_)
  · replace T := T.1 hA
    refine e_k rfl rfl rfl ib_m2 ?_
    exact e_ri rfl rfl ⟨_, rfl, T⟩
  · replace T := T.2 hA
    refine e_l rfl rfl rfl ?_
    refine e_csI (as := [.int v2]) (rs := []) rfl rfl rfl T (fun x_4 I_5 J_6 T => ?_)
    try dsimp only at T
    refine e_b rfl rfl rfl (fun hA => ?_) (fun hA => ?_)
    · replace T := T.1 hA
      refine e_l rfl rfl rfl ?_
      refine e_gr rfl (g_145) rfl (r_145_0) ?_
      refine e_l rfl rfl rfl ?_
      refine e_ia rfl (g_146) T.1 ?_
      replace T := T.2
      refine e_b rfl rfl rfl (fun hA => ?_) (fun hA => ?_)
      · replace T := T.1 hA
        refine e_l rfl rfl rfl ?_
        refine e_cvV (as := []) (rs := []) rfl rfl (g_145) rfl T (fun I_8 J_9 T => ?_)
        try dsimp only at T
        refine e_l rfl rfl rfl ?_
        refine e_gr rfl (g_145) rfl (r_145_1) ?_
        refine e_l rfl rfl rfl ?_
        refine e_ia rfl (g_147) T.1 ?_
        replace T := T.2
        refine e_l rfl rfl rfl ?_
        refine e_gi rfl (g_145) (by decide) ?_
        refine e_csI (as := [.int (I_8 147 (tn v2)), .int (I_8 145 9)]) (rs := []) rfl rfl rfl T (fun x_10 I_11 J_12 T => ?_)
        try dsimp only at T
        refine e_l (L' := [some (.ref 145), some (.int v1), some (.int v2), some (.int x_10), none]) rfl rfl rfl ?_
        refine e_k rfl rfl rfl ic_0 ?_
        refine e_l (L' := [some (.ref 145), some (.int v1), some (.int v2), some (.int x_10), some (.int 0)]) rfl rfl rfl ?_
        exact T
      · replace T := T.2 hA
        refine e_l rfl rfl rfl ?_
        refine e_k rfl rfl rfl ic_1 ?_
        refine e_cvI (as := [.int 1]) (rs := []) rfl rfl (g_145) rfl T (fun x_13 I_14 J_15 T => ?_)
        try dsimp only at T
        exact e_ri rfl rfl ⟨_, rfl, T⟩
    · replace T := T.2 hA
      refine e_k rfl rfl rfl ib_m2 ?_
      exact e_ri rfl rfl ⟨_, rfl, T⟩
set_option maxRecDepth 10000 in
set_option maxHeartbeats 4000000 in
theorem vc_X11_write_29 {X : mm_X} {d : Nat} {I : tI} {J : tJ} {P : Int32 → tI → tJ → Prop} {v1 : Int32} {v2 : Int32} {v3 : Int32} {v4 : Int32}  (T : (v3 ≤ v4 → (P v3 I J)) ∧ (¬ (v3 ≤ v4) → (ix v2 4 ∧ (ix ((8 * v1) + v4) 240 ∧ (EI X d n_X11_cut [.int (I 146 (tn v2)), .int (I 162 (tn ((8 * v1) + v4)))] I J (fun x_1 I_2 J_3 => ix ((60 * v2) + v4) 240 ∧ (Er X (d + 1) M_X11_write 29 [some (.ref 145), some (.int v1), some (.int v2), some (.int v3), some (.int (v4 + 1))] [] (mm_u I_2 148 (tn ((60 * v2) + v4)) x_1) J_3 (qI P)))))))) : Er X (d + 1) M_X11_write 29 [some (.ref 145), some (.int v1), some (.int v2), some (.int v3), some (.int v4)] [] I J (qI P) := by
  refine e_l rfl rfl rfl ?_
  refine e_l rfl rfl rfl ?_
  refine e_b rfl rfl rfl (fun hA => ?_) (fun hA => ?_)
  · replace T := T.1 hA
    refine e_l rfl rfl rfl ?_
    exact e_ri rfl rfl ⟨_, rfl, T⟩
  · replace T := T.2 hA
    refine e_l rfl rfl rfl ?_
    refine e_gr rfl (g_145) rfl (r_145_2) ?_
    refine e_k rfl rfl rfl ib_60 ?_
    refine e_l rfl rfl rfl ?_
    refine e_p rfl rfl rfl ?_
    refine e_l rfl rfl rfl ?_
    refine e_p rfl rfl rfl ?_
    refine e_l rfl rfl rfl ?_
    refine e_gr rfl (g_145) rfl (r_145_0) ?_
    refine e_l rfl rfl rfl ?_
    refine e_ia rfl (g_146) T.1 ?_
    replace T := T.2
    refine e_l rfl rfl rfl ?_
    refine e_gr rfl (g_145) rfl (r_145_21) ?_
    refine e_k rfl rfl rfl ib_8 ?_
    refine e_l rfl rfl rfl ?_
    refine e_p rfl rfl rfl ?_
    refine e_l rfl rfl rfl ?_
    refine e_p rfl rfl rfl ?_
    refine e_ia rfl (g_162) T.1 ?_
    replace T := T.2
    refine e_csI (as := [.int (I 146 (tn v2)), .int (I 162 (tn ((8 * v1) + v4)))]) (rs := [.int ((60 * v2) + v4), .ref 148]) rfl rfl rfl T (fun x_1 I_2 J_3 T => ?_)
    try dsimp only at T
    refine e_as rfl (g_148) T.1 ?_
    replace T := T.2
    refine e_ic (v := (v4 + 1)) (L' := [some (.ref 145), some (.int v1), some (.int v2), some (.int v3), some (.int (v4 + 1))]) rfl rfl rfl ic_1 rfl ?_
    refine e_g rfl ?_
    exact T
set_option maxRecDepth 10000 in
set_option maxHeartbeats 4000000 in
theorem vc_X11_allFreed {X : mm_X} {d : Nat} {I : tI} {J : tJ} {P : Int32 → tI → tJ → Prop}   (T : Er X d M_X11_allFreed 4 [some (.ref 145), some (.int 0), some (.int 0)] [] I J (qI P)) : EI X d n_X11_allFreed [.ref 145] I J P := by
  refine ⟨M_X11_allFreed, tb_X11_allFreed, Nat.le_of_ble_eq_true rfl, ?_⟩
  show Er X d M_X11_allFreed 0 [some (.ref 145), none, none] [] I J (qI P)
  refine e_k rfl rfl rfl ic_0 ?_
  refine e_l (L' := [some (.ref 145), some (.int 0), none]) rfl rfl rfl ?_
  refine e_k rfl rfl rfl ic_0 ?_
  refine e_l (L' := [some (.ref 145), some (.int 0), some (.int 0)]) rfl rfl rfl ?_
  exact T
set_option maxRecDepth 10000 in
set_option maxHeartbeats 4000000 in
theorem vc_X11_allFreed_4 {X : mm_X} {d : Nat} {I : tI} {J : tJ} {P : Int32 → tI → tJ → Prop} {v1 : Int32} {v2 : Int32}  (T : ((I 145 9) ≤ v2 → (P v1 I J)) ∧ (¬ ((I 145 9) ≤ v2) → (ix v2 8 ∧ (∀ y1_1 : Int32, y1_1 = (v1 + (I 165 (tn v2))) → (Er X d M_X11_allFreed 4 [some (.ref 145), some (.int y1_1), some (.int (v2 + 1))] [] I J (qI P)))))) : Er X d M_X11_allFreed 4 [some (.ref 145), some (.int v1), some (.int v2)] [] I J (qI P) := by
  refine e_l rfl rfl rfl ?_
  refine e_l rfl rfl rfl ?_
  refine e_gi rfl (g_145) (by decide) ?_
  refine e_b rfl rfl rfl (fun hA => ?_) (fun hA => ?_)
  · replace T := T.1 hA
    refine e_l rfl rfl rfl ?_
    exact e_ri rfl rfl ⟨_, rfl, T⟩
  · replace T := T.2 hA
    refine e_l rfl rfl rfl ?_
    refine e_l rfl rfl rfl ?_
    refine e_gr rfl (g_145) rfl (r_145_24) ?_
    refine e_l rfl rfl rfl ?_
    refine e_ia rfl (g_165) T.1 ?_
    replace T := T.2
    refine e_p rfl rfl rfl ?_
    refine e_si (Lf := fun y1_1 => [some (.ref 145), some (.int y1_1), some (.int v2)]) rfl rfl rfl (fun y1_1 hy1_1 => ?_)
    replace T := T y1_1 hy1_1
    refine e_ic (v := (v2 + 1)) (L' := [some (.ref 145), some (.int y1_1), some (.int (v2 + 1))]) rfl rfl rfl ic_1 rfl ?_
    refine e_g rfl ?_
    exact T
set_option maxRecDepth 10000 in
set_option maxHeartbeats 4000000 in
theorem vc_X11_count {X : mm_X} {d : Nat} {I : tI} {J : tJ} {P : Int32 → tI → tJ → Prop} {v1 : Int32}  (T : EV X d n_X11_find [.ref 145] I J (fun I_2 J_3 => (Int32.toInt v1 = 0 → (P (I_2 145 7) I_2 J_3)) ∧ (¬ Int32.toInt v1 = 0 → ((Int32.toInt v1 = 1 → (P (I_2 145 9) I_2 J_3)) ∧ (¬ Int32.toInt v1 = 1 → ((Int32.toInt v1 = 2 → (ix (v1 - 2) 2 ∧ (P (I_2 151 (tn (v1 - 2))) I_2 J_3))) ∧ (¬ Int32.toInt v1 = 2 → ((Int32.toInt v1 = 3 → (ix (v1 - 2) 2 ∧ (P (I_2 151 (tn (v1 - 2))) I_2 J_3))) ∧ (¬ Int32.toInt v1 = 3 → ((Int32.toInt v1 = 4 → (P (I_2 145 12) I_2 J_3)) ∧ (¬ Int32.toInt v1 = 4 → ((Int32.toInt v1 = 5 → (P (I_2 145 14) I_2 J_3)) ∧ (¬ Int32.toInt v1 = 5 → ((Int32.toInt v1 = 6 → (EI X d n_X11_allFreed [.ref 145] I_2 J_3 (fun x_4 I_5 J_6 => P x_4 I_5 J_6))) ∧ (¬ Int32.toInt v1 = 6 → ((Int32.toInt v1 = 7 → (P (I_2 145 27) I_2 J_3)) ∧ (¬ Int32.toInt v1 = 7 → ((Int32.toInt v1 = 8 → (P (I_2 145 4) I_2 J_3)) ∧ (¬ Int32.toInt v1 = 8 → (P (-2) I_2 J_3)))))))))))))))))))) : EI X (d + 1) n_X11_count [.ref 145, .int v1] I J P := by
  refine ⟨M_X11_count, tb_X11_count, Nat.le_of_ble_eq_true rfl, ?_⟩
  show Er X (d + 1) M_X11_count 0 [some (.ref 145), some (.int v1)] [] I J (qI P)
  refine e_l rfl rfl rfl ?_
  refine e_cvV (as := []) (rs := []) rfl rfl (g_145) rfl T (fun I_2 J_3 T => ?_)
  try dsimp only at T
  refine e_l rfl rfl rfl ?_
  refine e_sw rfl rfl rfl ?_
  show Er X _ _ (mm_tg [(0, 4), (1, 7), (2, 10), (3, 10), (4, 17), (5, 20), (6, 23), (7, 26), (8, 29)] 32 v1) _ _ _ _ _
  refine e_tg (fun hA => ?_) (fun hA => ?_)
  · replace T := T.1 hA
    refine e_l rfl rfl rfl ?_
    refine e_gi rfl (g_145) (by decide) ?_
    exact e_ri rfl rfl ⟨_, rfl, T⟩
  replace T := T.2 hA
  refine e_tg (fun hA => ?_) (fun hA => ?_)
  · replace T := T.1 hA
    refine e_l rfl rfl rfl ?_
    refine e_gi rfl (g_145) (by decide) ?_
    exact e_ri rfl rfl ⟨_, rfl, T⟩
  replace T := T.2 hA
  refine e_tg (fun hA => ?_) (fun hA => ?_)
  · replace T := T.1 hA
    refine e_l rfl rfl rfl ?_
    refine e_gr rfl (g_145) rfl (r_145_6) ?_
    refine e_l rfl rfl rfl ?_
    refine e_k rfl rfl rfl ic_2 ?_
    refine e_p rfl rfl rfl ?_
    refine e_ia rfl (g_151) T.1 ?_
    replace T := T.2
    exact e_ri rfl rfl ⟨_, rfl, T⟩
  replace T := T.2 hA
  refine e_tg (fun hA => ?_) (fun hA => ?_)
  · replace T := T.1 hA
    refine e_l rfl rfl rfl ?_
    refine e_gr rfl (g_145) rfl (r_145_6) ?_
    refine e_l rfl rfl rfl ?_
    refine e_k rfl rfl rfl ic_2 ?_
    refine e_p rfl rfl rfl ?_
    refine e_ia rfl (g_151) T.1 ?_
    replace T := T.2
    exact e_ri rfl rfl ⟨_, rfl, T⟩
  replace T := T.2 hA
  refine e_tg (fun hA => ?_) (fun hA => ?_)
  · replace T := T.1 hA
    refine e_l rfl rfl rfl ?_
    refine e_gi rfl (g_145) (by decide) ?_
    exact e_ri rfl rfl ⟨_, rfl, T⟩
  replace T := T.2 hA
  refine e_tg (fun hA => ?_) (fun hA => ?_)
  · replace T := T.1 hA
    refine e_l rfl rfl rfl ?_
    refine e_gi rfl (g_145) (by decide) ?_
    exact e_ri rfl rfl ⟨_, rfl, T⟩
  replace T := T.2 hA
  refine e_tg (fun hA => ?_) (fun hA => ?_)
  · replace T := T.1 hA
    refine e_l rfl rfl rfl ?_
    refine e_cvI (as := []) (rs := []) rfl rfl (g_145) rfl T (fun x_4 I_5 J_6 T => ?_)
    try dsimp only at T
    exact e_ri rfl rfl ⟨_, rfl, T⟩
  replace T := T.2 hA
  refine e_tg (fun hA => ?_) (fun hA => ?_)
  · replace T := T.1 hA
    refine e_l rfl rfl rfl ?_
    refine e_gi rfl (g_145) (by decide) ?_
    exact e_ri rfl rfl ⟨_, rfl, T⟩
  replace T := T.2 hA
  refine e_tg (fun hA => ?_) (fun hA => ?_)
  · replace T := T.1 hA
    refine e_l rfl rfl rfl ?_
    refine e_gi rfl (g_145) (by decide) ?_
    exact e_ri rfl rfl ⟨_, rfl, T⟩
  replace T := T.2 hA
  refine e_tg0 ?_
  refine e_k rfl rfl rfl ib_m2 ?_
  exact e_ri rfl rfl ⟨_, rfl, T⟩
set_option maxRecDepth 10000 in
set_option maxHeartbeats 4000000 in
theorem vc_X11_tellsSlice {X : mm_X} {d : Nat} {I : tI} {J : tJ} {P : Int64 → tI → tJ → Prop} {v1 : Int64} {v3 : Int32}  (T : EV X d n_X11_lives [.ref 145] I J (fun I_2 J_3 => Er X (d + 1) M_X11_tellsSlice 6 [some (.ref 145), some (.long v1), none, some (.int v3), some (.long v1), none, some (.int 0), none] [] I_2 J_3 (qL P))) : EL X (d + 1) n_X11_tellsSlice [.ref 145, .long v1, .int v3] I J P := by
  refine ⟨M_X11_tellsSlice, tb_X11_tellsSlice, Nat.le_of_ble_eq_true rfl, ?_⟩
  show Er X (d + 1) M_X11_tellsSlice 0 [some (.ref 145), some (.long v1), none, some (.int v3), none, none, none, none] [] I J (qL P)
  refine e_l rfl rfl rfl ?_
  refine e_cvV (as := []) (rs := []) rfl rfl (g_145) rfl T (fun I_2 J_3 T => ?_)
  try dsimp only at T
  refine e_l rfl rfl rfl ?_
  refine e_l (L' := [some (.ref 145), some (.long v1), none, some (.int v3), some (.long v1), none, none, none]) rfl rfl rfl ?_
  refine e_k rfl rfl rfl ic_0 ?_
  refine e_l (L' := [some (.ref 145), some (.long v1), none, some (.int v3), some (.long v1), none, some (.int 0), none]) rfl rfl rfl ?_
  exact T
set_option maxRecDepth 10000 in
set_option maxHeartbeats 4000000 in
theorem vc_X11_tellsSlice_6 {X : mm_X} {d : Nat} {I : tI} {J : tJ} {P : Int64 → tI → tJ → Prop} {v1 : Int64} {v3 : Int32} {v4 : Int64} {v6 : Int32}  (T : (3 ≤ v6 → (Er X (d + 1) M_X11_tellsSlice 27 [some (.ref 145), some (.long v1), none, some (.int v3), some (.long v4), none, some (.int 0), none] [] I J (qL P))) ∧ (¬ (3 ≤ v6) → (ix ((3 * v3) + v6) 24 ∧ (∀ y4_1 : Int64, y4_1 = ((31 * v4) + (Int32.toInt64 (I 153 (tn ((3 * v3) + v6))))) → (Er X (d + 1) M_X11_tellsSlice 6 [some (.ref 145), some (.long v1), none, some (.int v3), some (.long y4_1), none, some (.int (v6 + 1)), none] [] I J (qL P)))))) : Er X (d + 1) M_X11_tellsSlice 6 [some (.ref 145), some (.long v1), none, some (.int v3), some (.long v4), none, some (.int v6), none] [] I J (qL P) := by
  refine e_l rfl rfl rfl ?_
  refine e_k rfl rfl rfl ic_3 ?_
  refine e_b rfl rfl rfl (fun hA => ?_) (fun hA => ?_)
  · replace T := T.1 hA
    refine e_k rfl rfl rfl ic_0 ?_
    refine e_l (L' := [some (.ref 145), some (.long v1), none, some (.int v3), some (.long v4), none, some (.int 0), none]) rfl rfl rfl ?_
    exact T
  · replace T := T.2 hA
    refine e_kl rfl rfl rfl lk_31 ?_
    refine e_l rfl rfl rfl ?_
    refine e_p rfl rfl rfl ?_
    refine e_l rfl rfl rfl ?_
    refine e_gr rfl (g_145) rfl (r_145_10) ?_
    refine e_k rfl rfl rfl ic_3 ?_
    refine e_l rfl rfl rfl ?_
    refine e_p rfl rfl rfl ?_
    refine e_l rfl rfl rfl ?_
    refine e_p rfl rfl rfl ?_
    refine e_ia rfl (g_153) T.1 ?_
    replace T := T.2
    refine e_p rfl rfl rfl ?_
    refine e_p rfl rfl rfl ?_
    refine e_sl (Lf := fun y4_1 => [some (.ref 145), some (.long v1), none, some (.int v3), some (.long y4_1), none, some (.int v6), none]) rfl rfl rfl (fun y4_1 hy4_1 => ?_)
    replace T := T y4_1 hy4_1
    refine e_ic (v := (v6 + 1)) (L' := [some (.ref 145), some (.long v1), none, some (.int v3), some (.long y4_1), none, some (.int (v6 + 1)), none]) rfl rfl rfl ic_1 rfl ?_
    refine e_g rfl ?_
    exact T
set_option maxRecDepth 10000 in
set_option maxHeartbeats 4000000 in
theorem vc_X11_tellsSlice_27 {X : mm_X} {d : Nat} {I : tI} {J : tJ} {P : Int64 → tI → tJ → Prop} {v1 : Int64} {v3 : Int32} {v4 : Int64} {v6 : Int32} {o7 : Option Value}  (T : (3 ≤ v6 → (ix v3 8 ∧ (∀ y4_1 : Int64, y4_1 = ((31 * v4) + (Int32.toInt64 (I 164 (tn v3)))) → (ix v3 8 ∧ (∀ y4_2 : Int64, y4_2 = ((31 * y4_1) + (Int32.toInt64 (I 165 (tn v3)))) → (ix v3 8 ∧ (∀ y6_3 : Int32, y6_3 = (I 166 (tn v3)) → (EI X d n_X11_moveOf [.ref 145, .int v3, .int 0] I J (fun x_4 I_5 J_6 => ∀ y4_7 : Int64, y4_7 = ((31 * y4_2) + (Int32.toInt64 x_4)) → (EI X d n_X11_moveOf [.ref 145, .int v3, .int 1] I_5 J_6 (fun x_8 I_9 J_10 => ∀ y4_11 : Int64, y4_11 = ((31 * y4_7) + (Int32.toInt64 x_8)) → (∀ y4_12 : Int64, y4_12 = ((31 * y4_11) + (Int32.toInt64 y6_3)) → (EI X d n_X11_heatsOf [.ref 145, .int v3, .int (-1)] I_9 J_10 (fun x_13 I_14 J_15 => ∀ y4_16 : Int64, y4_16 = ((31 * y4_12) + (Int32.toInt64 x_13)) → (EI X d n_X11_heatsOf [.ref 145, .int v3, .int 0] I_14 J_15 (fun x_17 I_18 J_19 => ∀ y4_20 : Int64, y4_20 = ((31 * y4_16) + (Int32.toInt64 x_17)) → (EI X d n_X11_slotsOf [.ref 145, .int v3] I_18 J_19 (fun x_21 I_22 J_23 => ∀ y4_24 : Int64, y4_24 = ((31 * y4_20) + (Int32.toInt64 x_21)) → (EL X d n_X11_windowOf [.ref 145, .int 5, .int 5, .int v3, .int 9, .int 0] I_22 J_23 (fun x_25 I_26 J_27 => ∀ y4_28 : Int64, y4_28 = ((31 * y4_24) + x_25) → (EL X d n_X11_windowOf [.ref 145, .int 5, .int 5, .int v3, .int 9, .int 1] I_26 J_27 (fun x_29 I_30 J_31 => P ((31 * y4_28) + x_29) I_30 J_31)))))))))))))))))))))) ∧ (¬ (3 ≤ v6) → ((v6 ≠ 0 → ((v6 ≠ 1 → (Er X (d + 1) M_X11_tellsSlice 40 [some (.ref 145), some (.long v1), none, some (.int v3), some (.long v4), none, some (.int v6), o7] [.int 29] I J (qL P))) ∧ (¬ (v6 ≠ 1) → (Er X (d + 1) M_X11_tellsSlice 40 [some (.ref 145), some (.long v1), none, some (.int v3), some (.long v4), none, some (.int v6), o7] [.int 5] I J (qL P))))) ∧ (¬ (v6 ≠ 0) → (Er X (d + 1) M_X11_tellsSlice 40 [some (.ref 145), some (.long v1), none, some (.int v3), some (.long v4), none, some (.int v6), o7] [.int 0] I J (qL P)))))) : Er X (d + 1) M_X11_tellsSlice 27 [some (.ref 145), some (.long v1), none, some (.int v3), some (.long v4), none, some (.int v6), o7] [] I J (qL P) := by
  refine e_l rfl rfl rfl ?_
  refine e_k rfl rfl rfl ic_3 ?_
  refine e_b rfl rfl rfl (fun hA => ?_) (fun hA => ?_)
  · replace T := T.1 hA
    refine e_kl rfl rfl rfl lk_31 ?_
    refine e_l rfl rfl rfl ?_
    refine e_p rfl rfl rfl ?_
    refine e_l rfl rfl rfl ?_
    refine e_gr rfl (g_145) rfl (r_145_23) ?_
    refine e_l rfl rfl rfl ?_
    refine e_ia rfl (g_164) T.1 ?_
    replace T := T.2
    refine e_p rfl rfl rfl ?_
    refine e_p rfl rfl rfl ?_
    refine e_sl (Lf := fun y4_1 => [some (.ref 145), some (.long v1), none, some (.int v3), some (.long y4_1), none, some (.int v6), o7]) rfl rfl rfl (fun y4_1 hy4_1 => ?_)
    replace T := T y4_1 hy4_1
    refine e_kl rfl rfl rfl lk_31 ?_
    refine e_l rfl rfl rfl ?_
    refine e_p rfl rfl rfl ?_
    refine e_l rfl rfl rfl ?_
    refine e_gr rfl (g_145) rfl (r_145_24) ?_
    refine e_l rfl rfl rfl ?_
    refine e_ia rfl (g_165) T.1 ?_
    replace T := T.2
    refine e_p rfl rfl rfl ?_
    refine e_p rfl rfl rfl ?_
    refine e_sl (Lf := fun y4_2 => [some (.ref 145), some (.long v1), none, some (.int v3), some (.long y4_2), none, some (.int v6), o7]) rfl rfl rfl (fun y4_2 hy4_2 => ?_)
    replace T := T y4_2 hy4_2
    refine e_l rfl rfl rfl ?_
    refine e_gr rfl (g_145) rfl (r_145_25) ?_
    refine e_l rfl rfl rfl ?_
    refine e_ia rfl (g_166) T.1 ?_
    replace T := T.2
    refine e_si (Lf := fun y6_3 => [some (.ref 145), some (.long v1), none, some (.int v3), some (.long y4_2), none, some (.int y6_3), o7]) rfl rfl rfl (fun y6_3 hy6_3 => ?_)
    replace T := T y6_3 hy6_3
    refine e_kl rfl rfl rfl lk_31 ?_
    refine e_l rfl rfl rfl ?_
    refine e_p rfl rfl rfl ?_
    refine e_l rfl rfl rfl ?_
    refine e_l rfl rfl rfl ?_
    refine e_k rfl rfl rfl ic_0 ?_
    refine e_cvI (as := [.int v3, .int 0]) (rs := [.long (31 * y4_2)]) rfl rfl (g_145) rfl T (fun x_4 I_5 J_6 T => ?_)
    try dsimp only at T
    refine e_p rfl rfl rfl ?_
    refine e_p rfl rfl rfl ?_
    refine e_sl (Lf := fun y4_7 => [some (.ref 145), some (.long v1), none, some (.int v3), some (.long y4_7), none, some (.int y6_3), o7]) rfl rfl rfl (fun y4_7 hy4_7 => ?_)
    replace T := T y4_7 hy4_7
    refine e_kl rfl rfl rfl lk_31 ?_
    refine e_l rfl rfl rfl ?_
    refine e_p rfl rfl rfl ?_
    refine e_l rfl rfl rfl ?_
    refine e_l rfl rfl rfl ?_
    refine e_k rfl rfl rfl ic_1 ?_
    refine e_cvI (as := [.int v3, .int 1]) (rs := [.long (31 * y4_7)]) rfl rfl (g_145) rfl T (fun x_8 I_9 J_10 T => ?_)
    try dsimp only at T
    refine e_p rfl rfl rfl ?_
    refine e_p rfl rfl rfl ?_
    refine e_sl (Lf := fun y4_11 => [some (.ref 145), some (.long v1), none, some (.int v3), some (.long y4_11), none, some (.int y6_3), o7]) rfl rfl rfl (fun y4_11 hy4_11 => ?_)
    replace T := T y4_11 hy4_11
    refine e_kl rfl rfl rfl lk_31 ?_
    refine e_l rfl rfl rfl ?_
    refine e_p rfl rfl rfl ?_
    refine e_l rfl rfl rfl ?_
    refine e_p rfl rfl rfl ?_
    refine e_p rfl rfl rfl ?_
    refine e_sl (Lf := fun y4_12 => [some (.ref 145), some (.long v1), none, some (.int v3), some (.long y4_12), none, some (.int y6_3), o7]) rfl rfl rfl (fun y4_12 hy4_12 => ?_)
    replace T := T y4_12 hy4_12
    refine e_kl rfl rfl rfl lk_31 ?_
    refine e_l rfl rfl rfl ?_
    refine e_p rfl rfl rfl ?_
    refine e_l rfl rfl rfl ?_
    refine e_l rfl rfl rfl ?_
    refine e_k rfl rfl rfl ic_m1 ?_
    refine e_cvI (as := [.int v3, .int (-1)]) (rs := [.long (31 * y4_12)]) rfl rfl (g_145) rfl T (fun x_13 I_14 J_15 T => ?_)
    try dsimp only at T
    refine e_p rfl rfl rfl ?_
    refine e_p rfl rfl rfl ?_
    refine e_sl (Lf := fun y4_16 => [some (.ref 145), some (.long v1), none, some (.int v3), some (.long y4_16), none, some (.int y6_3), o7]) rfl rfl rfl (fun y4_16 hy4_16 => ?_)
    replace T := T y4_16 hy4_16
    refine e_kl rfl rfl rfl lk_31 ?_
    refine e_l rfl rfl rfl ?_
    refine e_p rfl rfl rfl ?_
    refine e_l rfl rfl rfl ?_
    refine e_l rfl rfl rfl ?_
    refine e_k rfl rfl rfl ic_0 ?_
    refine e_cvI (as := [.int v3, .int 0]) (rs := [.long (31 * y4_16)]) rfl rfl (g_145) rfl T (fun x_17 I_18 J_19 T => ?_)
    try dsimp only at T
    refine e_p rfl rfl rfl ?_
    refine e_p rfl rfl rfl ?_
    refine e_sl (Lf := fun y4_20 => [some (.ref 145), some (.long v1), none, some (.int v3), some (.long y4_20), none, some (.int y6_3), o7]) rfl rfl rfl (fun y4_20 hy4_20 => ?_)
    replace T := T y4_20 hy4_20
    refine e_kl rfl rfl rfl lk_31 ?_
    refine e_l rfl rfl rfl ?_
    refine e_p rfl rfl rfl ?_
    refine e_l rfl rfl rfl ?_
    refine e_l rfl rfl rfl ?_
    refine e_cvI (as := [.int v3]) (rs := [.long (31 * y4_20)]) rfl rfl (g_145) rfl T (fun x_21 I_22 J_23 T => ?_)
    try dsimp only at T
    refine e_p rfl rfl rfl ?_
    refine e_p rfl rfl rfl ?_
    refine e_sl (Lf := fun y4_24 => [some (.ref 145), some (.long v1), none, some (.int v3), some (.long y4_24), none, some (.int y6_3), o7]) rfl rfl rfl (fun y4_24 hy4_24 => ?_)
    replace T := T y4_24 hy4_24
    refine e_kl rfl rfl rfl lk_31 ?_
    refine e_l rfl rfl rfl ?_
    refine e_p rfl rfl rfl ?_
    refine e_l rfl rfl rfl ?_
    refine e_k rfl rfl rfl ic_5 ?_
    refine e_k rfl rfl rfl ic_5 ?_
    refine e_l rfl rfl rfl ?_
    refine e_k rfl rfl rfl ib_9 ?_
    refine e_k rfl rfl rfl ic_0 ?_
    refine e_cvL (as := [.int 5, .int 5, .int v3, .int 9, .int 0]) (rs := [.long (31 * y4_24)]) rfl rfl (g_145) rfl T (fun x_25 I_26 J_27 T => ?_)
    try dsimp only at T
    refine e_p rfl rfl rfl ?_
    refine e_sl (Lf := fun y4_28 => [some (.ref 145), some (.long v1), none, some (.int v3), some (.long y4_28), none, some (.int y6_3), o7]) rfl rfl rfl (fun y4_28 hy4_28 => ?_)
    replace T := T y4_28 hy4_28
    refine e_kl rfl rfl rfl lk_31 ?_
    refine e_l rfl rfl rfl ?_
    refine e_p rfl rfl rfl ?_
    refine e_l rfl rfl rfl ?_
    refine e_k rfl rfl rfl ic_5 ?_
    refine e_k rfl rfl rfl ic_5 ?_
    refine e_l rfl rfl rfl ?_
    refine e_k rfl rfl rfl ib_9 ?_
    refine e_k rfl rfl rfl ic_1 ?_
    refine e_cvL (as := [.int 5, .int 5, .int v3, .int 9, .int 1]) (rs := [.long (31 * y4_28)]) rfl rfl (g_145) rfl T (fun x_29 I_30 J_31 T => ?_)
    try dsimp only at T
    refine e_p rfl rfl rfl ?_
    exact e_rl rfl rfl ⟨_, rfl, T⟩
  · replace T := T.2 hA
    refine e_l rfl rfl rfl ?_
    refine e_b rfl rfl rfl (fun hA => ?_) (fun hA => ?_)
    · replace T := T.1 hA
      refine e_l rfl rfl rfl ?_
      refine e_k rfl rfl rfl ic_1 ?_
      refine e_b rfl rfl rfl (fun hA => ?_) (fun hA => ?_)
      · replace T := T.1 hA
        refine e_k rfl rfl rfl ib_29 ?_
        exact T
      · replace T := T.2 hA
        refine e_k rfl rfl rfl ic_5 ?_
        refine e_g rfl ?_
        exact T
    · replace T := T.2 hA
      refine e_k rfl rfl rfl ic_0 ?_
      refine e_g rfl ?_
      exact T
set_option maxRecDepth 10000 in
set_option maxHeartbeats 4000000 in
theorem vc_X11_tellsSlice_40 {X : mm_X} {d : Nat} {I : tI} {J : tJ} {P : Int64 → tI → tJ → Prop} {v1 : Int64} {v3 : Int32} {v4 : Int64} {v6 : Int32} {o7 : Option Value} {s0 : Int32}  (T : ix ((8 * s0) + v3) 240 ∧ (∀ y4_1 : Int64, y4_1 = ((31 * v4) + (Int32.toInt64 (I 162 (tn ((8 * s0) + v3))))) → (ix ((8 * s0) + v3) 240 ∧ (∀ y4_2 : Int64, y4_2 = ((31 * y4_1) + (Int32.toInt64 (I 163 (tn ((8 * s0) + v3))))) → (Er X (d + 1) M_X11_tellsSlice 27 [some (.ref 145), some (.long v1), none, some (.int v3), some (.long y4_2), none, some (.int (v6 + 1)), some (.int s0)] [] I J (qL P)))))) : Er X (d + 1) M_X11_tellsSlice 40 [some (.ref 145), some (.long v1), none, some (.int v3), some (.long v4), none, some (.int v6), o7] [.int s0] I J (qL P) := by
  refine e_l (L' := [some (.ref 145), some (.long v1), none, some (.int v3), some (.long v4), none, some (.int v6), some (.int s0)]) rfl rfl rfl ?_
  refine e_kl rfl rfl rfl lk_31 ?_
  refine e_l rfl rfl rfl ?_
  refine e_p rfl rfl rfl ?_
  refine e_l rfl rfl rfl ?_
  refine e_gr rfl (g_145) rfl (r_145_21) ?_
  refine e_k rfl rfl rfl ib_8 ?_
  refine e_l rfl rfl rfl ?_
  refine e_p rfl rfl rfl ?_
  refine e_l rfl rfl rfl ?_
  refine e_p rfl rfl rfl ?_
  refine e_ia rfl (g_162) T.1 ?_
  replace T := T.2
  refine e_p rfl rfl rfl ?_
  refine e_p rfl rfl rfl ?_
  refine e_sl (Lf := fun y4_1 => [some (.ref 145), some (.long v1), none, some (.int v3), some (.long y4_1), none, some (.int v6), some (.int s0)]) rfl rfl rfl (fun y4_1 hy4_1 => ?_)
  replace T := T y4_1 hy4_1
  refine e_kl rfl rfl rfl lk_31 ?_
  refine e_l rfl rfl rfl ?_
  refine e_p rfl rfl rfl ?_
  refine e_l rfl rfl rfl ?_
  refine e_gr rfl (g_145) rfl (r_145_22) ?_
  refine e_k rfl rfl rfl ib_8 ?_
  refine e_l rfl rfl rfl ?_
  refine e_p rfl rfl rfl ?_
  refine e_l rfl rfl rfl ?_
  refine e_p rfl rfl rfl ?_
  refine e_ia rfl (g_163) T.1 ?_
  replace T := T.2
  refine e_p rfl rfl rfl ?_
  refine e_p rfl rfl rfl ?_
  refine e_sl (Lf := fun y4_2 => [some (.ref 145), some (.long v1), none, some (.int v3), some (.long y4_2), none, some (.int v6), some (.int s0)]) rfl rfl rfl (fun y4_2 hy4_2 => ?_)
  replace T := T y4_2 hy4_2
  refine e_ic (v := (v6 + 1)) (L' := [some (.ref 145), some (.long v1), none, some (.int v3), some (.long y4_2), none, some (.int (v6 + 1)), some (.int s0)]) rfl rfl rfl ic_1 rfl ?_
  refine e_g rfl ?_
  exact T
set_option maxRecDepth 10000 in
set_option maxHeartbeats 4000000 in
theorem vc_X11_digest {X : mm_X} {d : Nat} {I : tI} {J : tJ} {P : Int64 → tI → tJ → Prop}   (T : Er X (d + 1) M_X11_digest 4 [some (.ref 145), some (.long 17), none, some (.int 0)] [] I J (qL P)) : EL X (d + 1) n_X11_digest [.ref 145] I J P := by
  refine ⟨M_X11_digest, tb_X11_digest, Nat.le_of_ble_eq_true rfl, ?_⟩
  show Er X (d + 1) M_X11_digest 0 [some (.ref 145), none, none, none] [] I J (qL P)
  refine e_kl rfl rfl rfl lk_17 ?_
  refine e_l (L' := [some (.ref 145), some (.long 17), none, none]) rfl rfl rfl ?_
  refine e_k rfl rfl rfl ic_0 ?_
  refine e_l (L' := [some (.ref 145), some (.long 17), none, some (.int 0)]) rfl rfl rfl ?_
  exact T
set_option maxRecDepth 10000 in
set_option maxHeartbeats 4000000 in
theorem vc_X11_digest_4 {X : mm_X} {d : Nat} {I : tI} {J : tJ} {P : Int64 → tI → tJ → Prop} {v1 : Int64} {v3 : Int32}  (T : (8 ≤ v3 → (EI X d n_X11_readsRack [.ref 145] I J (fun x_1 I_2 J_3 => ∀ y1_4 : Int64, y1_4 = ((31 * v1) + (Int32.toInt64 x_1)) → (EI X d n_X11_readsSlices [.ref 145] I_2 J_3 (fun x_5 I_6 J_7 => ∀ y1_8 : Int64, y1_8 = ((31 * y1_4) + (Int32.toInt64 x_5)) → (Er X (d + 1) M_X11_digest 36 [some (.ref 145), some (.long y1_8), none, some (.int 0)] [] I_6 J_7 (qL P))))))) ∧ (¬ (8 ≤ v3) → (EI X d n_X11_count [.ref 145, .int v3] I J (fun x_9 I_10 J_11 => ∀ y1_12 : Int64, y1_12 = ((31 * v1) + (Int32.toInt64 x_9)) → (Er X (d + 1) M_X11_digest 4 [some (.ref 145), some (.long y1_12), none, some (.int (v3 + 1))] [] I_10 J_11 (qL P)))))) : Er X (d + 1) M_X11_digest 4 [some (.ref 145), some (.long v1), none, some (.int v3)] [] I J (qL P) := by
  refine e_l rfl rfl rfl ?_
  refine e_k rfl rfl rfl ib_8 ?_
  refine e_b rfl rfl rfl (fun hA => ?_) (fun hA => ?_)
  · replace T := T.1 hA
    refine e_kl rfl rfl rfl lk_31 ?_
    refine e_l rfl rfl rfl ?_
    refine e_p rfl rfl rfl ?_
    refine e_l rfl rfl rfl ?_
    refine e_cvI (as := []) (rs := [.long (31 * v1)]) rfl rfl (g_145) rfl T (fun x_1 I_2 J_3 T => ?_)
    try dsimp only at T
    refine e_p rfl rfl rfl ?_
    refine e_p rfl rfl rfl ?_
    refine e_sl (Lf := fun y1_4 => [some (.ref 145), some (.long y1_4), none, some (.int v3)]) rfl rfl rfl (fun y1_4 hy1_4 => ?_)
    replace T := T y1_4 hy1_4
    refine e_kl rfl rfl rfl lk_31 ?_
    refine e_l rfl rfl rfl ?_
    refine e_p rfl rfl rfl ?_
    refine e_l rfl rfl rfl ?_
    refine e_cvI (as := []) (rs := [.long (31 * y1_4)]) rfl rfl (g_145) rfl T (fun x_5 I_6 J_7 T => ?_)
    try dsimp only at T
    refine e_p rfl rfl rfl ?_
    refine e_p rfl rfl rfl ?_
    refine e_sl (Lf := fun y1_8 => [some (.ref 145), some (.long y1_8), none, some (.int v3)]) rfl rfl rfl (fun y1_8 hy1_8 => ?_)
    replace T := T y1_8 hy1_8
    refine e_k rfl rfl rfl ic_0 ?_
    refine e_l (L' := [some (.ref 145), some (.long y1_8), none, some (.int 0)]) rfl rfl rfl ?_
    exact T
  · replace T := T.2 hA
    refine e_kl rfl rfl rfl lk_31 ?_
    refine e_l rfl rfl rfl ?_
    refine e_p rfl rfl rfl ?_
    refine e_l rfl rfl rfl ?_
    refine e_l rfl rfl rfl ?_
    refine e_cvI (as := [.int v3]) (rs := [.long (31 * v1)]) rfl rfl (g_145) rfl T (fun x_9 I_10 J_11 T => ?_)
    try dsimp only at T
    refine e_p rfl rfl rfl ?_
    refine e_p rfl rfl rfl ?_
    refine e_sl (Lf := fun y1_12 => [some (.ref 145), some (.long y1_12), none, some (.int v3)]) rfl rfl rfl (fun y1_12 hy1_12 => ?_)
    replace T := T y1_12 hy1_12
    refine e_ic (v := (v3 + 1)) (L' := [some (.ref 145), some (.long y1_12), none, some (.int (v3 + 1))]) rfl rfl rfl ic_1 rfl ?_
    refine e_g rfl ?_
    exact T
set_option maxRecDepth 10000 in
set_option maxHeartbeats 4000000 in
theorem vc_X11_digest_36 {X : mm_X} {d : Nat} {I : tI} {J : tJ} {P : Int64 → tI → tJ → Prop} {v1 : Int64} {v3 : Int32}  (T : ((I 145 7) ≤ v3 → (Er X (d + 1) M_X11_digest 54 [some (.ref 145), some (.long v1), none, some (.int 0)] [] I J (qL P))) ∧ (¬ ((I 145 7) ≤ v3) → (ix v3 10 ∧ (∀ y1_1 : Int64, y1_1 = ((31 * v1) + (Int32.toInt64 (I 152 (tn v3)))) → (Er X (d + 1) M_X11_digest 36 [some (.ref 145), some (.long y1_1), none, some (.int (v3 + 1))] [] I J (qL P)))))) : Er X (d + 1) M_X11_digest 36 [some (.ref 145), some (.long v1), none, some (.int v3)] [] I J (qL P) := by
  refine e_l rfl rfl rfl ?_
  refine e_l rfl rfl rfl ?_
  refine e_gi rfl (g_145) (by decide) ?_
  refine e_b rfl rfl rfl (fun hA => ?_) (fun hA => ?_)
  · replace T := T.1 hA
    refine e_k rfl rfl rfl ic_0 ?_
    refine e_l (L' := [some (.ref 145), some (.long v1), none, some (.int 0)]) rfl rfl rfl ?_
    exact T
  · replace T := T.2 hA
    refine e_kl rfl rfl rfl lk_31 ?_
    refine e_l rfl rfl rfl ?_
    refine e_p rfl rfl rfl ?_
    refine e_l rfl rfl rfl ?_
    refine e_gr rfl (g_145) rfl (r_145_8) ?_
    refine e_l rfl rfl rfl ?_
    refine e_ia rfl (g_152) T.1 ?_
    replace T := T.2
    refine e_p rfl rfl rfl ?_
    refine e_p rfl rfl rfl ?_
    refine e_sl (Lf := fun y1_1 => [some (.ref 145), some (.long y1_1), none, some (.int v3)]) rfl rfl rfl (fun y1_1 hy1_1 => ?_)
    replace T := T y1_1 hy1_1
    refine e_ic (v := (v3 + 1)) (L' := [some (.ref 145), some (.long y1_1), none, some (.int (v3 + 1))]) rfl rfl rfl ic_1 rfl ?_
    refine e_g rfl ?_
    exact T
set_option maxRecDepth 10000 in
set_option maxHeartbeats 4000000 in
theorem vc_X11_digest_54 {X : mm_X} {d : Nat} {I : tI} {J : tJ} {P : Int64 → tI → tJ → Prop} {v1 : Int64} {v3 : Int32}  (T : ((I 145 9) ≤ v3 → (EV X d n_X11_lives [.ref 145] I J (fun I_2 J_3 => EI X d n_X11_heldBy [.ref 145, .int 5] I_2 J_3 (fun x_4 I_5 J_6 => ∀ y1_7 : Int64, y1_7 = ((31 * v1) + (Int32.toInt64 x_4)) → (EI X d n_X11_spoiltNow [.ref 145] I_5 J_6 (fun x_8 I_9 J_10 => ∀ y1_11 : Int64, y1_11 = ((31 * y1_7) + (Int32.toInt64 x_8)) → (EI X d n_X11_quietNow [.ref 145] I_9 J_10 (fun x_12 I_13 J_14 => ∀ y1_15 : Int64, y1_15 = ((31 * y1_11) + (Int32.toInt64 x_12)) → (EI X d n_X11_crowdBy [.ref 145, .int 0] I_13 J_14 (fun x_16 I_17 J_18 => ∀ y1_19 : Int64, y1_19 = ((31 * y1_15) + (Int32.toInt64 x_16)) → (EI X d n_X11_crowdBy [.ref 145, .int 1] I_17 J_18 (fun x_20 I_21 J_22 => ∀ y1_23 : Int64, y1_23 = ((31 * y1_19) + (Int32.toInt64 x_20)) → (Er X (d + 1) M_X11_digest 112 [some (.ref 145), some (.long y1_23), none, some (.int 0)] [] I_21 J_22 (qL P)))))))))))))) ∧ (¬ ((I 145 9) ≤ v3) → (EL X d n_X11_tellsSlice [.ref 145, .long v1, .int v3] I J (fun x_24 I_25 J_26 => Er X (d + 1) M_X11_digest 54 [some (.ref 145), some (.long x_24), none, some (.int (v3 + 1))] [] I_25 J_26 (qL P))))) : Er X (d + 1) M_X11_digest 54 [some (.ref 145), some (.long v1), none, some (.int v3)] [] I J (qL P) := by
  refine e_l rfl rfl rfl ?_
  refine e_l rfl rfl rfl ?_
  refine e_gi rfl (g_145) (by decide) ?_
  refine e_b rfl rfl rfl (fun hA => ?_) (fun hA => ?_)
  · replace T := T.1 hA
    refine e_l rfl rfl rfl ?_
    refine e_cvV (as := []) (rs := []) rfl rfl (g_145) rfl T (fun I_2 J_3 T => ?_)
    try dsimp only at T
    refine e_kl rfl rfl rfl lk_31 ?_
    refine e_l rfl rfl rfl ?_
    refine e_p rfl rfl rfl ?_
    refine e_l rfl rfl rfl ?_
    refine e_k rfl rfl rfl ic_5 ?_
    refine e_cvI (as := [.int 5]) (rs := [.long (31 * v1)]) rfl rfl (g_145) rfl T (fun x_4 I_5 J_6 T => ?_)
    try dsimp only at T
    refine e_p rfl rfl rfl ?_
    refine e_p rfl rfl rfl ?_
    refine e_sl (Lf := fun y1_7 => [some (.ref 145), some (.long y1_7), none, some (.int v3)]) rfl rfl rfl (fun y1_7 hy1_7 => ?_)
    replace T := T y1_7 hy1_7
    refine e_kl rfl rfl rfl lk_31 ?_
    refine e_l rfl rfl rfl ?_
    refine e_p rfl rfl rfl ?_
    refine e_l rfl rfl rfl ?_
    refine e_cvI (as := []) (rs := [.long (31 * y1_7)]) rfl rfl (g_145) rfl T (fun x_8 I_9 J_10 T => ?_)
    try dsimp only at T
    refine e_p rfl rfl rfl ?_
    refine e_p rfl rfl rfl ?_
    refine e_sl (Lf := fun y1_11 => [some (.ref 145), some (.long y1_11), none, some (.int v3)]) rfl rfl rfl (fun y1_11 hy1_11 => ?_)
    replace T := T y1_11 hy1_11
    refine e_kl rfl rfl rfl lk_31 ?_
    refine e_l rfl rfl rfl ?_
    refine e_p rfl rfl rfl ?_
    refine e_l rfl rfl rfl ?_
    refine e_cvI (as := []) (rs := [.long (31 * y1_11)]) rfl rfl (g_145) rfl T (fun x_12 I_13 J_14 T => ?_)
    try dsimp only at T
    refine e_p rfl rfl rfl ?_
    refine e_p rfl rfl rfl ?_
    refine e_sl (Lf := fun y1_15 => [some (.ref 145), some (.long y1_15), none, some (.int v3)]) rfl rfl rfl (fun y1_15 hy1_15 => ?_)
    replace T := T y1_15 hy1_15
    refine e_kl rfl rfl rfl lk_31 ?_
    refine e_l rfl rfl rfl ?_
    refine e_p rfl rfl rfl ?_
    refine e_l rfl rfl rfl ?_
    refine e_k rfl rfl rfl ic_0 ?_
    refine e_cvI (as := [.int 0]) (rs := [.long (31 * y1_15)]) rfl rfl (g_145) rfl T (fun x_16 I_17 J_18 T => ?_)
    try dsimp only at T
    refine e_p rfl rfl rfl ?_
    refine e_p rfl rfl rfl ?_
    refine e_sl (Lf := fun y1_19 => [some (.ref 145), some (.long y1_19), none, some (.int v3)]) rfl rfl rfl (fun y1_19 hy1_19 => ?_)
    replace T := T y1_19 hy1_19
    refine e_kl rfl rfl rfl lk_31 ?_
    refine e_l rfl rfl rfl ?_
    refine e_p rfl rfl rfl ?_
    refine e_l rfl rfl rfl ?_
    refine e_k rfl rfl rfl ic_1 ?_
    refine e_cvI (as := [.int 1]) (rs := [.long (31 * y1_19)]) rfl rfl (g_145) rfl T (fun x_20 I_21 J_22 T => ?_)
    try dsimp only at T
    refine e_p rfl rfl rfl ?_
    refine e_p rfl rfl rfl ?_
    refine e_sl (Lf := fun y1_23 => [some (.ref 145), some (.long y1_23), none, some (.int v3)]) rfl rfl rfl (fun y1_23 hy1_23 => ?_)
    replace T := T y1_23 hy1_23
    refine e_k rfl rfl rfl ic_0 ?_
    refine e_l (L' := [some (.ref 145), some (.long y1_23), none, some (.int 0)]) rfl rfl rfl ?_
    exact T
  · replace T := T.2 hA
    refine e_l rfl rfl rfl ?_
    refine e_l rfl rfl rfl ?_
    refine e_l rfl rfl rfl ?_
    refine e_cvL (as := [.long v1, .int v3]) (rs := []) rfl rfl (g_145) rfl T (fun x_24 I_25 J_26 T => ?_)
    try dsimp only at T
    refine e_l (L' := [some (.ref 145), some (.long x_24), none, some (.int v3)]) rfl rfl rfl ?_
    refine e_ic (v := (v3 + 1)) (L' := [some (.ref 145), some (.long x_24), none, some (.int (v3 + 1))]) rfl rfl rfl ic_1 rfl ?_
    refine e_g rfl ?_
    exact T
set_option maxRecDepth 10000 in
set_option maxHeartbeats 4000000 in
theorem vc_X11_digest_112 {X : mm_X} {d : Nat} {I : tI} {J : tJ} {P : Int64 → tI → tJ → Prop} {v1 : Int64} {v3 : Int32}  (T : (3 ≤ v3 → (EI X d n_X11_bearNow [.ref 145] I J (fun x_1 I_2 J_3 => ∀ y1_4 : Int64, y1_4 = ((31 * v1) + (Int32.toInt64 x_1)) → (EI X d n_X11_askOf [.ref 145, .int 5] I_2 J_3 (fun x_5 I_6 J_7 => ∀ y1_8 : Int64, y1_8 = ((31 * y1_4) + (Int32.toInt64 x_5)) → (EI X d n_X11_othersOf [.ref 145, .int 7, .int 0] I_6 J_7 (fun x_9 I_10 J_11 => ∀ y1_12 : Int64, y1_12 = ((31 * y1_8) + (Int32.toInt64 x_9)) → (EI X d n_X11_othersOf [.ref 145, .int 7, .int 1] I_10 J_11 (fun x_13 I_14 J_15 => P ((31 * y1_12) + (Int32.toInt64 x_13)) I_14 J_15))))))))) ∧ (¬ (3 ≤ v3) → (EI X d n_X11_swapBy [.ref 145, .int v3] I J (fun x_16 I_17 J_18 => ∀ y1_19 : Int64, y1_19 = ((31 * v1) + (Int32.toInt64 x_16)) → (Er X (d + 1) M_X11_digest 112 [some (.ref 145), some (.long y1_19), none, some (.int (v3 + 1))] [] I_17 J_18 (qL P)))))) : Er X (d + 1) M_X11_digest 112 [some (.ref 145), some (.long v1), none, some (.int v3)] [] I J (qL P) := by
  refine e_l rfl rfl rfl ?_
  refine e_k rfl rfl rfl ic_3 ?_
  refine e_b rfl rfl rfl (fun hA => ?_) (fun hA => ?_)
  · replace T := T.1 hA
    refine e_kl rfl rfl rfl lk_31 ?_
    refine e_l rfl rfl rfl ?_
    refine e_p rfl rfl rfl ?_
    refine e_l rfl rfl rfl ?_
    refine e_cvI (as := []) (rs := [.long (31 * v1)]) rfl rfl (g_145) rfl T (fun x_1 I_2 J_3 T => ?_)
    try dsimp only at T
    refine e_p rfl rfl rfl ?_
    refine e_p rfl rfl rfl ?_
    refine e_sl (Lf := fun y1_4 => [some (.ref 145), some (.long y1_4), none, some (.int v3)]) rfl rfl rfl (fun y1_4 hy1_4 => ?_)
    replace T := T y1_4 hy1_4
    refine e_kl rfl rfl rfl lk_31 ?_
    refine e_l rfl rfl rfl ?_
    refine e_p rfl rfl rfl ?_
    refine e_l rfl rfl rfl ?_
    refine e_k rfl rfl rfl ic_5 ?_
    refine e_cvI (as := [.int 5]) (rs := [.long (31 * y1_4)]) rfl rfl (g_145) rfl T (fun x_5 I_6 J_7 T => ?_)
    try dsimp only at T
    refine e_p rfl rfl rfl ?_
    refine e_p rfl rfl rfl ?_
    refine e_sl (Lf := fun y1_8 => [some (.ref 145), some (.long y1_8), none, some (.int v3)]) rfl rfl rfl (fun y1_8 hy1_8 => ?_)
    replace T := T y1_8 hy1_8
    refine e_kl rfl rfl rfl lk_31 ?_
    refine e_l rfl rfl rfl ?_
    refine e_p rfl rfl rfl ?_
    refine e_l rfl rfl rfl ?_
    refine e_k rfl rfl rfl ib_7 ?_
    refine e_k rfl rfl rfl ic_0 ?_
    refine e_cvI (as := [.int 7, .int 0]) (rs := [.long (31 * y1_8)]) rfl rfl (g_145) rfl T (fun x_9 I_10 J_11 T => ?_)
    try dsimp only at T
    refine e_p rfl rfl rfl ?_
    refine e_p rfl rfl rfl ?_
    refine e_sl (Lf := fun y1_12 => [some (.ref 145), some (.long y1_12), none, some (.int v3)]) rfl rfl rfl (fun y1_12 hy1_12 => ?_)
    replace T := T y1_12 hy1_12
    refine e_kl rfl rfl rfl lk_31 ?_
    refine e_l rfl rfl rfl ?_
    refine e_p rfl rfl rfl ?_
    refine e_l rfl rfl rfl ?_
    refine e_k rfl rfl rfl ib_7 ?_
    refine e_k rfl rfl rfl ic_1 ?_
    refine e_cvI (as := [.int 7, .int 1]) (rs := [.long (31 * y1_12)]) rfl rfl (g_145) rfl T (fun x_13 I_14 J_15 T => ?_)
    try dsimp only at T
    refine e_p rfl rfl rfl ?_
    refine e_p rfl rfl rfl ?_
    exact e_rl rfl rfl ⟨_, rfl, T⟩
  · replace T := T.2 hA
    refine e_kl rfl rfl rfl lk_31 ?_
    refine e_l rfl rfl rfl ?_
    refine e_p rfl rfl rfl ?_
    refine e_l rfl rfl rfl ?_
    refine e_l rfl rfl rfl ?_
    refine e_cvI (as := [.int v3]) (rs := [.long (31 * v1)]) rfl rfl (g_145) rfl T (fun x_16 I_17 J_18 T => ?_)
    try dsimp only at T
    refine e_p rfl rfl rfl ?_
    refine e_p rfl rfl rfl ?_
    refine e_sl (Lf := fun y1_19 => [some (.ref 145), some (.long y1_19), none, some (.int v3)]) rfl rfl rfl (fun y1_19 hy1_19 => ?_)
    replace T := T y1_19 hy1_19
    refine e_ic (v := (v3 + 1)) (L' := [some (.ref 145), some (.long y1_19), none, some (.int (v3 + 1))]) rfl rfl rfl ic_1 rfl ?_
    refine e_g rfl ?_
    exact T
