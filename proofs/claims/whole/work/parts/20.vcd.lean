set_option maxRecDepth 10000 in
set_option maxHeartbeats 4000000 in
theorem vc_X11_in {X : mm_X} {d : Nat} {I : tI} {J : tJ} {P : Int32 → tI → tJ → Prop} {v0 : Int64} {v2 : Int64} {v4 : Int64}  (T : ((lg_cmp v0 v2) < 0 → (P 0 I J)) ∧ (¬ ((lg_cmp v0 v2) < 0) → ((0 < (lg_cmp v0 v4) → (P 0 I J)) ∧ (¬ (0 < (lg_cmp v0 v4)) → (P 1 I J))))) : EI X d n_X11_in [.long v0, .long v2, .long v4] I J P := by
  refine ⟨M_X11_in, tb_X11_in, Nat.le_of_ble_eq_true rfl, ?_⟩
  show Er X d M_X11_in 0 [some (.long v0), none, some (.long v2), none, some (.long v4), none] [] I J (qI P)
  refine e_l rfl rfl rfl ?_
  refine e_l rfl rfl rfl ?_
  refine e_p rfl rfl rfl ?_
  refine e_b rfl rfl rfl (fun hA => ?_) (fun hA => ?_)
  · replace T := T.1 hA
    refine e_k rfl rfl rfl ic_0 ?_
    exact e_rz rfl rfl (by decide) ⟨_, rfl, T⟩
  · replace T := T.2 hA
    refine e_l rfl rfl rfl ?_
    refine e_l rfl rfl rfl ?_
    refine e_p rfl rfl rfl ?_
    refine e_b rfl rfl rfl (fun hA => ?_) (fun hA => ?_)
    · replace T := T.1 hA
      refine e_k rfl rfl rfl ic_0 ?_
      exact e_rz rfl rfl (by decide) ⟨_, rfl, T⟩
    · replace T := T.2 hA
      refine e_k rfl rfl rfl ic_1 ?_
      refine e_g rfl ?_
      exact e_rz rfl rfl (by decide) ⟨_, rfl, T⟩
set_option maxRecDepth 10000 in
set_option maxHeartbeats 4000000 in
theorem vc_X11_no {X : mm_X} {d : Nat} {I : tI} {J : tJ} {P : Int64 → tI → tJ → Prop} {v0 : Int32}  (T : P ((-9223372036854775808) - (Int32.toInt64 v0)) I J) : EL X d n_X11_no [.int v0] I J P := by
  refine ⟨M_X11_no, tb_X11_no, Nat.le_of_ble_eq_true rfl, ?_⟩
  show Er X d M_X11_no 0 [some (.int v0)] [] I J (qL P)
  refine e_kl rfl rfl rfl lk_9223372036854775808 ?_
  refine e_l rfl rfl rfl ?_
  refine e_p rfl rfl rfl ?_
  refine e_p rfl rfl rfl ?_
  exact e_rl rfl rfl ⟨_, rfl, T⟩
set_option maxRecDepth 10000 in
set_option maxHeartbeats 4000000 in
theorem vc_X11_isTwo {X : mm_X} {d : Nat} {I : tI} {J : tJ} {P : Int32 → tI → tJ → Prop} {v0 : Int32}  (T : EI X d n_X11_in [.long (Int32.toInt64 v0), .long 0, .long 1] I J (fun x_1 I_2 J_3 => (x_1 = 0 ∨ x_1 = 1) ∧ P x_1 I_2 J_3)) : EI X (d + 1) n_X11_isTwo [.int v0] I J P := by
  refine ⟨M_X11_isTwo, tb_X11_isTwo, Nat.le_of_ble_eq_true rfl, ?_⟩
  show Er X (d + 1) M_X11_isTwo 0 [some (.int v0)] [] I J (qI P)
  refine e_l rfl rfl rfl ?_
  refine e_p rfl rfl rfl ?_
  refine e_kl rfl rfl rfl lc_0 ?_
  refine e_kl rfl rfl rfl lc_1 ?_
  refine e_csI (as := [.long (Int32.toInt64 v0), .long 0, .long 1]) (rs := []) rfl rfl rfl T (fun x_1 I_2 J_3 T => ?_)
  try dsimp only at T
  exact e_rz rfl rfl T.1 ⟨_, rfl, T.2⟩
set_option maxRecDepth 10000 in
set_option maxHeartbeats 4000000 in
theorem vc_X11_isIn {X : mm_X} {d : Nat} {I : tI} {J : tJ} {P : Int32 → tI → tJ → Prop} {v0 : Int32} {v1 : Int32}  (T : (((v0 >>> (v1 &&& 31)) &&& 1) ≠ 1 → (P 0 I J)) ∧ (¬ (((v0 >>> (v1 &&& 31)) &&& 1) ≠ 1) → (P 1 I J))) : EI X d n_X11_isIn [.int v0, .int v1] I J P := by
  refine ⟨M_X11_isIn, tb_X11_isIn, Nat.le_of_ble_eq_true rfl, ?_⟩
  show Er X d M_X11_isIn 0 [some (.int v0), some (.int v1)] [] I J (qI P)
  refine e_l rfl rfl rfl ?_
  refine e_l rfl rfl rfl ?_
  refine e_p rfl rfl rfl ?_
  refine e_k rfl rfl rfl ic_1 ?_
  refine e_p rfl rfl rfl ?_
  refine e_k rfl rfl rfl ic_1 ?_
  refine e_b rfl rfl rfl (fun hA => ?_) (fun hA => ?_)
  · replace T := T.1 hA
    refine e_k rfl rfl rfl ic_0 ?_
    exact e_rz rfl rfl (by decide) ⟨_, rfl, T⟩
  · replace T := T.2 hA
    refine e_k rfl rfl rfl ic_1 ?_
    refine e_g rfl ?_
    exact e_rz rfl rfl (by decide) ⟨_, rfl, T⟩
set_option maxRecDepth 10000 in
set_option maxHeartbeats 4000000 in
theorem vc_X11_lesser {X : mm_X} {d : Nat} {I : tI} {J : tJ} {P : Int32 → tI → tJ → Prop} {v0 : Int32} {v1 : Int32}  (T : (v1 ≤ v0 → (P v1 I J)) ∧ (¬ (v1 ≤ v0) → (P v0 I J))) : EI X d n_X11_lesser [.int v0, .int v1] I J P := by
  refine ⟨M_X11_lesser, tb_X11_lesser, Nat.le_of_ble_eq_true rfl, ?_⟩
  show Er X d M_X11_lesser 0 [some (.int v0), some (.int v1)] [] I J (qI P)
  refine e_l rfl rfl rfl ?_
  refine e_l rfl rfl rfl ?_
  refine e_b rfl rfl rfl (fun hA => ?_) (fun hA => ?_)
  · replace T := T.1 hA
    refine e_l rfl rfl rfl ?_
    exact e_ri rfl rfl ⟨_, rfl, T⟩
  · replace T := T.2 hA
    refine e_l rfl rfl rfl ?_
    refine e_g rfl ?_
    exact e_ri rfl rfl ⟨_, rfl, T⟩
set_option maxRecDepth 10000 in
set_option maxHeartbeats 4000000 in
theorem vc_X11_greater {X : mm_X} {d : Nat} {I : tI} {J : tJ} {P : Int32 → tI → tJ → Prop} {v0 : Int32} {v1 : Int32}  (T : (v0 ≤ v1 → (P v1 I J)) ∧ (¬ (v0 ≤ v1) → (P v0 I J))) : EI X d n_X11_greater [.int v0, .int v1] I J P := by
  refine ⟨M_X11_greater, tb_X11_greater, Nat.le_of_ble_eq_true rfl, ?_⟩
  show Er X d M_X11_greater 0 [some (.int v0), some (.int v1)] [] I J (qI P)
  refine e_l rfl rfl rfl ?_
  refine e_l rfl rfl rfl ?_
  refine e_b rfl rfl rfl (fun hA => ?_) (fun hA => ?_)
  · replace T := T.1 hA
    refine e_l rfl rfl rfl ?_
    exact e_ri rfl rfl ⟨_, rfl, T⟩
  · replace T := T.2 hA
    refine e_l rfl rfl rfl ?_
    refine e_g rfl ?_
    exact e_ri rfl rfl ⟨_, rfl, T⟩
set_option maxRecDepth 10000 in
set_option maxHeartbeats 4000000 in
theorem vc_X11_part {X : mm_X} {d : Nat} {I : tI} {J : tJ} {P : Int64 → tI → tJ → Prop} {v0 : Int64} {v2 : Int64} {v4 : Int32}  (T : Er X d M_X11_part 4 [some (.long v0), none, some (.long v2), none, some (.int v4), some (.long v0), none, some (.long v2), none, none, none] [] I J (qL P)) : EL X d n_X11_part [.long v0, .long v2, .int v4] I J P := by
  refine ⟨M_X11_part, tb_X11_part, Nat.le_of_ble_eq_true rfl, ?_⟩
  show Er X d M_X11_part 0 [some (.long v0), none, some (.long v2), none, some (.int v4), none, none, none, none, none, none] [] I J (qL P)
  refine e_l rfl rfl rfl ?_
  refine e_l (L' := [some (.long v0), none, some (.long v2), none, some (.int v4), some (.long v0), none, none, none, none, none]) rfl rfl rfl ?_
  refine e_l rfl rfl rfl ?_
  refine e_l (L' := [some (.long v0), none, some (.long v2), none, some (.int v4), some (.long v0), none, some (.long v2), none, none, none]) rfl rfl rfl ?_
  exact T
set_option maxRecDepth 10000 in
set_option maxHeartbeats 4000000 in
theorem vc_X11_part_4 {X : mm_X} {d : Nat} {I : tI} {J : tJ} {P : Int64 → tI → tJ → Prop} {v0 : Int64} {v2 : Int64} {v4 : Int32} {v5 : Int64} {v7 : Int64} {o9 : Option Value}  (T : ((lg_cmp v7 0) = 0 → ((v4 ≠ 0 → (¬ v5 = 0 ∧ (P (v2 / v5) I J))) ∧ (¬ (v4 ≠ 0) → (¬ v5 = 0 ∧ (P (v0 / v5) I J))))) ∧ (¬ ((lg_cmp v7 0) = 0) → (¬ v7 = 0 ∧ (∀ y9_1 : Int64, y9_1 = (v5 - v5 / v7 * v7) → (Er X d M_X11_part 4 [some (.long v0), none, some (.long v2), none, some (.int v4), some (.long v7), none, some (.long y9_1), none, some (.long y9_1), none] [] I J (qL P)))))) : Er X d M_X11_part 4 [some (.long v0), none, some (.long v2), none, some (.int v4), some (.long v5), none, some (.long v7), none, o9, none] [] I J (qL P) := by
  refine e_l rfl rfl rfl ?_
  refine e_kl rfl rfl rfl lc_0 ?_
  refine e_p rfl rfl rfl ?_
  refine e_b rfl rfl rfl (fun hA => ?_) (fun hA => ?_)
  · replace T := T.1 hA
    refine e_l rfl rfl rfl ?_
    refine e_b rfl rfl rfl (fun hA => ?_) (fun hA => ?_)
    · replace T := T.1 hA
      refine e_l rfl rfl rfl ?_
      refine e_l rfl rfl rfl ?_
      refine e_ldv rfl T.1 ?_
      replace T := T.2
      exact e_rl rfl rfl ⟨_, rfl, T⟩
    · replace T := T.2 hA
      refine e_l rfl rfl rfl ?_
      refine e_g rfl ?_
      refine e_l rfl rfl rfl ?_
      refine e_ldv rfl T.1 ?_
      replace T := T.2
      exact e_rl rfl rfl ⟨_, rfl, T⟩
  · replace T := T.2 hA
    refine e_l rfl rfl rfl ?_
    refine e_l rfl rfl rfl ?_
    refine e_lrm rfl T.1 ?_
    replace T := T.2
    refine e_sl (Lf := fun y9_1 => [some (.long v0), none, some (.long v2), none, some (.int v4), some (.long v5), none, some (.long v7), none, some (.long y9_1), none]) rfl rfl rfl (fun y9_1 hy9_1 => ?_)
    replace T := T y9_1 hy9_1
    refine e_l rfl rfl rfl ?_
    refine e_l (L' := [some (.long v0), none, some (.long v2), none, some (.int v4), some (.long v7), none, some (.long v7), none, some (.long y9_1), none]) rfl rfl rfl ?_
    refine e_l rfl rfl rfl ?_
    refine e_l (L' := [some (.long v0), none, some (.long v2), none, some (.int v4), some (.long v7), none, some (.long y9_1), none, some (.long y9_1), none]) rfl rfl rfl ?_
    refine e_g rfl ?_
    exact T
set_option maxRecDepth 10000 in
set_option maxHeartbeats 4000000 in
theorem vc_X11_finds {X : mm_X} {d : Nat} {I : tI} {J : tJ} {P : Int32 → tI → tJ → Prop} {v1 : Int32}  (T : P ((-10) - v1) (mm_u I 145 4 v1) J) : EI X d n_X11_finds [.ref 145, .int v1] I J P := by
  refine ⟨M_X11_finds, tb_X11_finds, Nat.le_of_ble_eq_true rfl, ?_⟩
  show Er X d M_X11_finds 0 [some (.ref 145), some (.int v1)] [] I J (qI P)
  refine e_l rfl rfl rfl ?_
  refine e_l rfl rfl rfl ?_
  refine e_pi rfl (g_145) rfl ?_
  refine e_k rfl rfl rfl ib_m10 ?_
  refine e_l rfl rfl rfl ?_
  refine e_p rfl rfl rfl ?_
  exact e_ri rfl rfl ⟨_, rfl, T⟩
set_option maxRecDepth 10000 in
set_option maxHeartbeats 4000000 in
theorem vc_X11_isSheet {X : mm_X} {d : Nat} {I : tI} {J : tJ} {P : Int32 → tI → tJ → Prop} {v0 : Int32}  (T : EI X d n_X11_in [.long (Int32.toInt64 v0), .long 0, .long 3] I J (fun x_1 I_2 J_3 => (x_1 = 0 ∨ x_1 = 1) ∧ P x_1 I_2 J_3)) : EI X (d + 1) n_X11_isSheet [.int v0] I J P := by
  refine ⟨M_X11_isSheet, tb_X11_isSheet, Nat.le_of_ble_eq_true rfl, ?_⟩
  show Er X (d + 1) M_X11_isSheet 0 [some (.int v0)] [] I J (qI P)
  refine e_l rfl rfl rfl ?_
  refine e_p rfl rfl rfl ?_
  refine e_kl rfl rfl rfl lc_0 ?_
  refine e_kl rfl rfl rfl lk_3 ?_
  refine e_csI (as := [.long (Int32.toInt64 v0), .long 0, .long 3]) (rs := []) rfl rfl rfl T (fun x_1 I_2 J_3 T => ?_)
  try dsimp only at T
  exact e_rz rfl rfl T.1 ⟨_, rfl, T.2⟩
set_option maxRecDepth 10000 in
set_option maxHeartbeats 4000000 in
theorem vc_X11_sheet {X : mm_X} {d : Nat} {I : tI} {J : tJ} {P : Int32 → tI → tJ → Prop} {v1 : Int32} {v2 : Int32} {v3 : Int32}  (T : EI X d n_X11_isSheet [.int v1] I J (fun x_1 I_2 J_3 => (x_1 = 0 → (P (-2) I_2 J_3)) ∧ (¬ (x_1 = 0) → (EI X d n_X11_in [.long (Int32.toInt64 v2), .long 0, .long 2] I_2 J_3 (fun x_4 I_5 J_6 => (x_4 = 0 → (P (-2) I_5 J_6)) ∧ (¬ (x_4 = 0) → ((v3 ≤ 60 → ((0 ≤ v3 → (ix v1 4 ∧ (ix v1 4 ∧ (Er X (d + 1) M_X11_sheet 32 [some (.ref 145), some (.int v1), some (.int v2), some (.int v3), some (.int 0)] [] (mm_u (mm_u I_5 146 (tn v1) v2) 147 (tn v1) v3) J_6 (qI P))))) ∧ (¬ (0 ≤ v3) → (EI X d n_X11_finds [.ref 145, .int 5] I_5 J_6 (fun x_7 I_8 J_9 => P x_7 I_8 J_9))))) ∧ (¬ (v3 ≤ 60) → (P (-2) I_5 J_6))))))))) : EI X (d + 1) n_X11_sheet [.ref 145, .int v1, .int v2, .int v3] I J P := by
  refine ⟨M_X11_sheet, tb_X11_sheet, Nat.le_of_ble_eq_true rfl, ?_⟩
  show Er X (d + 1) M_X11_sheet 0 [some (.ref 145), some (.int v1), some (.int v2), some (.int v3), none] [] I J (qI P)
  refine e_l rfl rfl rfl ?_
  refine e_csI (as := [.int v1]) (rs := []) rfl rfl rfl T (fun x_1 I_2 J_3 T => ?_)
  try dsimp only at T
  refine e_b rfl rfl rfl (fun hA => ?_) (fun hA => ?_)
  · replace T := T.1 hA
    refine e_k rfl rfl rfl ib_m2 ?_
    exact e_ri rfl rfl ⟨_, rfl, T⟩
  · replace T := T.2 hA
    refine e_l rfl rfl rfl ?_
    refine e_p rfl rfl rfl ?_
    refine e_kl rfl rfl rfl lc_0 ?_
    refine e_kl rfl rfl rfl lk_2 ?_
    refine e_csI (as := [.long (Int32.toInt64 v2), .long 0, .long 2]) (rs := []) rfl rfl rfl T (fun x_4 I_5 J_6 T => ?_)
    try dsimp only at T
    refine e_b rfl rfl rfl (fun hA => ?_) (fun hA => ?_)
    · replace T := T.1 hA
      refine e_k rfl rfl rfl ib_m2 ?_
      exact e_ri rfl rfl ⟨_, rfl, T⟩
    · replace T := T.2 hA
      refine e_l rfl rfl rfl ?_
      refine e_k rfl rfl rfl ib_60 ?_
      refine e_b rfl rfl rfl (fun hA => ?_) (fun hA => ?_)
      · replace T := T.1 hA
        refine e_l rfl rfl rfl ?_
        refine e_b rfl rfl rfl (fun hA => ?_) (fun hA => ?_)
        · replace T := T.1 hA
          refine e_l rfl rfl rfl ?_
          refine e_gr rfl (g_145) rfl (r_145_0) ?_
          refine e_l rfl rfl rfl ?_
          refine e_l rfl rfl rfl ?_
          refine e_as rfl (g_146) T.1 ?_
          replace T := T.2
          refine e_l rfl rfl rfl ?_
          refine e_gr rfl (g_145) rfl (r_145_1) ?_
          refine e_l rfl rfl rfl ?_
          refine e_l rfl rfl rfl ?_
          refine e_as rfl (g_147) T.1 ?_
          replace T := T.2
          refine e_k rfl rfl rfl ic_0 ?_
          refine e_l (L' := [some (.ref 145), some (.int v1), some (.int v2), some (.int v3), some (.int 0)]) rfl rfl rfl ?_
          exact T
        · replace T := T.2 hA
          refine e_l rfl rfl rfl ?_
          refine e_k rfl rfl rfl ic_5 ?_
          refine e_cvI (as := [.int 5]) (rs := []) rfl rfl (g_145) rfl T (fun x_7 I_8 J_9 T => ?_)
          try dsimp only at T
          exact e_ri rfl rfl ⟨_, rfl, T⟩
      · replace T := T.2 hA
        refine e_k rfl rfl rfl ib_m2 ?_
        exact e_ri rfl rfl ⟨_, rfl, T⟩
set_option maxRecDepth 10000 in
set_option maxHeartbeats 4000000 in
theorem vc_X11_sheet_32 {X : mm_X} {d : Nat} {I : tI} {J : tJ} {P : Int32 → tI → tJ → Prop} {v1 : Int32} {v2 : Int32} {v3 : Int32} {v4 : Int32}  (T : (v3 ≤ v4 → (P v3 I J)) ∧ (¬ (v3 ≤ v4) → (ix ((60 * v1) + v4) 240 ∧ (Er X (d + 1) M_X11_sheet 32 [some (.ref 145), some (.int v1), some (.int v2), some (.int v3), some (.int (v4 + 1))] [] (mm_u I 148 (tn ((60 * v1) + v4)) 0) J (qI P))))) : Er X (d + 1) M_X11_sheet 32 [some (.ref 145), some (.int v1), some (.int v2), some (.int v3), some (.int v4)] [] I J (qI P) := by
  refine e_l rfl rfl rfl ?_
  refine e_l rfl rfl rfl ?_
  refine e_b rfl rfl rfl (fun hA => ?_) (fun hA => ?_)
  · replace T := T.1 hA
    refine e_l rfl rfl rfl ?_
    exact e_ri rfl rfl ⟨_, rfl, T⟩
  · replace T := T.2 hA
    refine e_l rfl rfl rfl ?_
    refine e_gr rfl (g_145) rfl (r_145_2) ?_
    refine e_k rfl rfl rfl ib_60 ?_
    refine e_l rfl rfl rfl ?_
    refine e_p rfl rfl rfl ?_
    refine e_l rfl rfl rfl ?_
    refine e_p rfl rfl rfl ?_
    refine e_k rfl rfl rfl ic_0 ?_
    refine e_as rfl (g_148) T.1 ?_
    replace T := T.2
    refine e_ic (v := (v4 + 1)) (L' := [some (.ref 145), some (.int v1), some (.int v2), some (.int v3), some (.int (v4 + 1))]) rfl rfl rfl ic_1 rfl ?_
    refine e_g rfl ?_
    exact T
set_option maxRecDepth 10000 in
set_option maxHeartbeats 4000000 in
theorem vc_X11_lose {X : mm_X} {d : Nat} {I : tI} {J : tJ} {P : Int32 → tI → tJ → Prop} {v1 : Int32}  (T : EI X d n_X11_isSheet [.int v1] I J (fun x_1 I_2 J_3 => (x_1 ≠ 0 → (ix v1 4 ∧ ((0 ≤ (I_2 146 (tn v1)) → (ix v1 4 ∧ (ix v1 4 ∧ (P ((mm_u I_2 146 (tn v1) (-1)) 147 (tn v1)) (mm_u I_2 146 (tn v1) (-1)) J_3)))) ∧ (¬ (0 ≤ (I_2 146 (tn v1))) → (EI X d n_X11_finds [.ref 145, .int 1] I_2 J_3 (fun x_4 I_5 J_6 => P x_4 I_5 J_6)))))) ∧ (¬ (x_1 ≠ 0) → (P (-2) I_2 J_3)))) : EI X (d + 1) n_X11_lose [.ref 145, .int v1] I J P := by
  refine ⟨M_X11_lose, tb_X11_lose, Nat.le_of_ble_eq_true rfl, ?_⟩
  show Er X (d + 1) M_X11_lose 0 [some (.ref 145), some (.int v1)] [] I J (qI P)
  refine e_l rfl rfl rfl ?_
  refine e_csI (as := [.int v1]) (rs := []) rfl rfl rfl T (fun x_1 I_2 J_3 T => ?_)
  try dsimp only at T
  refine e_b rfl rfl rfl (fun hA => ?_) (fun hA => ?_)
  · replace T := T.1 hA
    refine e_l rfl rfl rfl ?_
    refine e_gr rfl (g_145) rfl (r_145_0) ?_
    refine e_l rfl rfl rfl ?_
    refine e_ia rfl (g_146) T.1 ?_
    replace T := T.2
    refine e_b rfl rfl rfl (fun hA => ?_) (fun hA => ?_)
    · replace T := T.1 hA
      refine e_l rfl rfl rfl ?_
      refine e_gr rfl (g_145) rfl (r_145_0) ?_
      refine e_l rfl rfl rfl ?_
      refine e_k rfl rfl rfl ic_m1 ?_
      refine e_as rfl (g_146) T.1 ?_
      replace T := T.2
      refine e_l rfl rfl rfl ?_
      refine e_gr rfl (g_145) rfl (r_145_1) ?_
      refine e_l rfl rfl rfl ?_
      refine e_ia rfl (g_147) T.1 ?_
      replace T := T.2
      exact e_ri rfl rfl ⟨_, rfl, T⟩
    · replace T := T.2 hA
      refine e_l rfl rfl rfl ?_
      refine e_k rfl rfl rfl ic_1 ?_
      refine e_cvI (as := [.int 1]) (rs := []) rfl rfl (g_145) rfl T (fun x_4 I_5 J_6 T => ?_)
      try dsimp only at T
      exact e_ri rfl rfl ⟨_, rfl, T⟩
  · replace T := T.2 hA
    refine e_k rfl rfl rfl ib_m2 ?_
    exact e_ri rfl rfl ⟨_, rfl, T⟩
set_option maxRecDepth 10000 in
set_option maxHeartbeats 4000000 in
theorem vc_X11_lacks {X : mm_X} {d : Nat} {I : tI} {J : tJ} {P : Int32 → tI → tJ → Prop} {v1 : Int32} {v2 : Int32} {v3 : Int32}  (T : ix v1 4 ∧ ((0 ≤ (I 146 (tn v1)) → (ix v1 4 ∧ (((I 146 (tn v1)) = v2 → (ix v1 4 ∧ (EI X d n_X11_in [.long (Int32.toInt64 v3), .long 0, .long (Int32.toInt64 ((I 147 (tn v1)) - 1))] I J (fun x_1 I_2 J_3 => (x_1 = 0 → (EI X d n_X11_finds [.ref 145, .int 2] I_2 J_3 (fun x_4 I_5 J_6 => P x_4 I_5 J_6))) ∧ (¬ (x_1 = 0) → (P 0 I_2 J_3)))))) ∧ (¬ ((I 146 (tn v1)) = v2) → (EI X d n_X11_finds [.ref 145, .int 3] I J (fun x_7 I_8 J_9 => P x_7 I_8 J_9)))))) ∧ (¬ (0 ≤ (I 146 (tn v1))) → (EI X d n_X11_finds [.ref 145, .int 1] I J (fun x_10 I_11 J_12 => P x_10 I_11 J_12))))) : EI X (d + 1) n_X11_lacks [.ref 145, .int v1, .int v2, .int v3] I J P := by
  refine ⟨M_X11_lacks, tb_X11_lacks, Nat.le_of_ble_eq_true rfl, ?_⟩
  show Er X (d + 1) M_X11_lacks 0 [some (.ref 145), some (.int v1), some (.int v2), some (.int v3)] [] I J (qI P)
  refine e_l rfl rfl rfl ?_
  refine e_gr rfl (g_145) rfl (r_145_0) ?_
  refine e_l rfl rfl rfl ?_
  refine e_ia rfl (g_146) T.1 ?_
  replace T := T.2
  refine e_b rfl rfl rfl (fun hA => ?_) (fun hA => ?_)
  · replace T := T.1 hA
    refine e_l rfl rfl rfl ?_
    refine e_gr rfl (g_145) rfl (r_145_0) ?_
    refine e_l rfl rfl rfl ?_
    refine e_ia rfl (g_146) T.1 ?_
    replace T := T.2
    refine e_l rfl rfl rfl ?_
    refine e_b rfl rfl rfl (fun hA => ?_) (fun hA => ?_)
    · replace T := T.1 hA
      refine e_l rfl rfl rfl ?_
      refine e_p rfl rfl rfl ?_
      refine e_kl rfl rfl rfl lc_0 ?_
      refine e_l rfl rfl rfl ?_
      refine e_gr rfl (g_145) rfl (r_145_1) ?_
      refine e_l rfl rfl rfl ?_
      refine e_ia rfl (g_147) T.1 ?_
      replace T := T.2
      refine e_k rfl rfl rfl ic_1 ?_
      refine e_p rfl rfl rfl ?_
      refine e_p rfl rfl rfl ?_
      refine e_csI (as := [.long (Int32.toInt64 v3), .long 0, .long (Int32.toInt64 ((I 147 (tn v1)) - 1))]) (rs := []) rfl rfl rfl T (fun x_1 I_2 J_3 T => ?_)
      try dsimp only at T
      refine e_b rfl rfl rfl (fun hA => ?_) (fun hA => ?_)
      · replace T := T.1 hA
        refine e_l rfl rfl rfl ?_
        refine e_k rfl rfl rfl ic_2 ?_
        refine e_cvI (as := [.int 2]) (rs := []) rfl rfl (g_145) rfl T (fun x_4 I_5 J_6 T => ?_)
        try dsimp only at T
        exact e_ri rfl rfl ⟨_, rfl, T⟩
      · replace T := T.2 hA
        refine e_k rfl rfl rfl ic_0 ?_
        refine e_g rfl ?_
        exact e_ri rfl rfl ⟨_, rfl, T⟩
    · replace T := T.2 hA
      refine e_l rfl rfl rfl ?_
      refine e_k rfl rfl rfl ic_3 ?_
      refine e_cvI (as := [.int 3]) (rs := []) rfl rfl (g_145) rfl T (fun x_7 I_8 J_9 T => ?_)
      try dsimp only at T
      exact e_ri rfl rfl ⟨_, rfl, T⟩
  · replace T := T.2 hA
    refine e_l rfl rfl rfl ?_
    refine e_k rfl rfl rfl ic_1 ?_
    refine e_cvI (as := [.int 1]) (rs := []) rfl rfl (g_145) rfl T (fun x_10 I_11 J_12 T => ?_)
    try dsimp only at T
    exact e_ri rfl rfl ⟨_, rfl, T⟩
set_option maxRecDepth 10000 in
set_option maxHeartbeats 4000000 in
theorem vc_X11_cut {X : mm_X} {d : Nat} {I : tI} {J : tJ} {P : Int32 → tI → tJ → Prop} {v0 : Int32} {v1 : Int32}  (T : (v0 ≠ 0 → ((v0 ≠ 1 → (P v1 I J)) ∧ (¬ (v0 ≠ 1) → (P (Int32.toInt16 v1).toInt32 I J)))) ∧ (¬ (v0 ≠ 0) → (P (Int32.toInt8 v1).toInt32 I J))) : EI X d n_X11_cut [.int v0, .int v1] I J P := by
  refine ⟨M_X11_cut, tb_X11_cut, Nat.le_of_ble_eq_true rfl, ?_⟩
  show Er X d M_X11_cut 0 [some (.int v0), some (.int v1)] [] I J (qI P)
  refine e_l rfl rfl rfl ?_
  refine e_b rfl rfl rfl (fun hA => ?_) (fun hA => ?_)
  · replace T := T.1 hA
    refine e_l rfl rfl rfl ?_
    refine e_k rfl rfl rfl ic_1 ?_
    refine e_b rfl rfl rfl (fun hA => ?_) (fun hA => ?_)
    · replace T := T.1 hA
      refine e_l rfl rfl rfl ?_
      exact e_ri rfl rfl ⟨_, rfl, T⟩
    · replace T := T.2 hA
      refine e_l rfl rfl rfl ?_
      refine e_p rfl rfl rfl ?_
      refine e_g rfl ?_
      exact e_ri rfl rfl ⟨_, rfl, T⟩
  · replace T := T.2 hA
    refine e_l rfl rfl rfl ?_
    refine e_p rfl rfl rfl ?_
    refine e_g rfl ?_
    exact e_ri rfl rfl ⟨_, rfl, T⟩
set_option maxRecDepth 10000 in
set_option maxHeartbeats 4000000 in
theorem vc_X11_lay {X : mm_X} {d : Nat} {I : tI} {J : tJ} {P : Int32 → tI → tJ → Prop} {v1 : Int32} {v2 : Int32} {v3 : Int32} {v4 : Int32}  (T : EI X d n_X11_isSheet [.int v1] I J (fun x_1 I_2 J_3 => (x_1 = 0 → (P (-2) I_2 J_3)) ∧ (¬ (x_1 = 0) → (EI X d n_X11_in [.long (Int32.toInt64 v2), .long 0, .long 2] I_2 J_3 (fun x_4 I_5 J_6 => (x_4 ≠ 0 → (EI X d n_X11_lacks [.ref 145, .int v1, .int v2, .int v3] I_5 J_6 (fun x_7 I_8 J_9 => (x_7 = 0 → (EI X d n_X11_cut [.int v2, .int v4] I_8 J_9 (fun x_10 I_11 J_12 => ix ((60 * v1) + v3) 240 ∧ (P 1 (mm_u I_11 148 (tn ((60 * v1) + v3)) x_10) J_12)))) ∧ (¬ (x_7 = 0) → (P x_7 I_8 J_9))))) ∧ (¬ (x_4 ≠ 0) → (P (-2) I_5 J_6))))))) : EI X (d + 1) n_X11_lay [.ref 145, .int v1, .int v2, .int v3, .int v4] I J P := by
  refine ⟨M_X11_lay, tb_X11_lay, Nat.le_of_ble_eq_true rfl, ?_⟩
  show Er X (d + 1) M_X11_lay 0 [some (.ref 145), some (.int v1), some (.int v2), some (.int v3), some (.int v4), none] [] I J (qI P)
  refine e_l rfl rfl rfl ?_
  refine e_csI (as := [.int v1]) (rs := []) rfl rfl rfl T (fun x_1 I_2 J_3 T => ?_)
  try dsimp only at T
  refine e_b rfl rfl rfl (fun hA => ?_) (fun hA => ?_)
  · replace T := T.1 hA
    refine e_k rfl rfl rfl ib_m2 ?_
    exact e_ri rfl rfl ⟨_, rfl, T⟩
  · replace T := T.2 hA
    refine e_l rfl rfl rfl ?_
    refine e_p rfl rfl rfl ?_
    refine e_kl rfl rfl rfl lc_0 ?_
    refine e_kl rfl rfl rfl lk_2 ?_
    refine e_csI (as := [.long (Int32.toInt64 v2), .long 0, .long 2]) (rs := []) rfl rfl rfl T (fun x_4 I_5 J_6 T => ?_)
    try dsimp only at T
    refine e_b rfl rfl rfl (fun hA => ?_) (fun hA => ?_)
    · replace T := T.1 hA
      refine e_l rfl rfl rfl ?_
      refine e_l rfl rfl rfl ?_
      refine e_l rfl rfl rfl ?_
      refine e_l rfl rfl rfl ?_
      refine e_cvI (as := [.int v1, .int v2, .int v3]) (rs := []) rfl rfl (g_145) rfl T (fun x_7 I_8 J_9 T => ?_)
      try dsimp only at T
      refine e_l (L' := [some (.ref 145), some (.int v1), some (.int v2), some (.int v3), some (.int v4), some (.int x_7)]) rfl rfl rfl ?_
      refine e_l rfl rfl rfl ?_
      refine e_b rfl rfl rfl (fun hA => ?_) (fun hA => ?_)
      · replace T := T.1 hA
        refine e_l rfl rfl rfl ?_
        refine e_gr rfl (g_145) rfl (r_145_2) ?_
        refine e_k rfl rfl rfl ib_60 ?_
        refine e_l rfl rfl rfl ?_
        refine e_p rfl rfl rfl ?_
        refine e_l rfl rfl rfl ?_
        refine e_p rfl rfl rfl ?_
        refine e_l rfl rfl rfl ?_
        refine e_l rfl rfl rfl ?_
        refine e_csI (as := [.int v2, .int v4]) (rs := [.int ((60 * v1) + v3), .ref 148]) rfl rfl rfl T (fun x_10 I_11 J_12 T => ?_)
        try dsimp only at T
        refine e_as rfl (g_148) T.1 ?_
        replace T := T.2
        refine e_k rfl rfl rfl ic_1 ?_
        exact e_ri rfl rfl ⟨_, rfl, T⟩
      · replace T := T.2 hA
        refine e_l rfl rfl rfl ?_
        exact e_ri rfl rfl ⟨_, rfl, T⟩
    · replace T := T.2 hA
      refine e_k rfl rfl rfl ib_m2 ?_
      exact e_ri rfl rfl ⟨_, rfl, T⟩
set_option maxRecDepth 10000 in
set_option maxHeartbeats 4000000 in
theorem vc_X11_get {X : mm_X} {d : Nat} {I : tI} {J : tJ} {P : Int32 → tI → tJ → Prop} {v1 : Int32} {v2 : Int32} {v3 : Int32}  (T : EI X d n_X11_isSheet [.int v1] I J (fun x_1 I_2 J_3 => (x_1 = 0 → (P (-2147483648) I_2 J_3)) ∧ (¬ (x_1 = 0) → (EI X d n_X11_in [.long (Int32.toInt64 v2), .long 0, .long 2] I_2 J_3 (fun x_4 I_5 J_6 => (x_4 = 0 → (P (-2147483648) I_5 J_6)) ∧ (¬ (x_4 = 0) → (EI X d n_X11_lacks [.ref 145, .int v1, .int v2, .int v3] I_5 J_6 (fun x_7 I_8 J_9 => (x_7 = 0 → (ix ((60 * v1) + v3) 240 ∧ (P (I_8 148 (tn ((60 * v1) + v3))) I_8 J_9))) ∧ (¬ (x_7 = 0) → (P (-2147483648) I_8 J_9)))))))))) : EI X (d + 1) n_X11_get [.ref 145, .int v1, .int v2, .int v3] I J P := by
  refine ⟨M_X11_get, tb_X11_get, Nat.le_of_ble_eq_true rfl, ?_⟩
  show Er X (d + 1) M_X11_get 0 [some (.ref 145), some (.int v1), some (.int v2), some (.int v3)] [] I J (qI P)
  refine e_l rfl rfl rfl ?_
  refine e_csI (as := [.int v1]) (rs := []) rfl rfl rfl T (fun x_1 I_2 J_3 T => ?_)
  try dsimp only at T
  refine e_b rfl rfl rfl (fun hA => ?_) (fun hA => ?_)
  · replace T := T.1 hA
    refine e_k rfl rfl rfl ik_2147483648 ?_
    exact e_ri rfl rfl ⟨_, rfl, T⟩
  · replace T := T.2 hA
    refine e_l rfl rfl rfl ?_
    refine e_p rfl rfl rfl ?_
    refine e_kl rfl rfl rfl lc_0 ?_
    refine e_kl rfl rfl rfl lk_2 ?_
    refine e_csI (as := [.long (Int32.toInt64 v2), .long 0, .long 2]) (rs := []) rfl rfl rfl T (fun x_4 I_5 J_6 T => ?_)
    try dsimp only at T
    refine e_b rfl rfl rfl (fun hA => ?_) (fun hA => ?_)
    · replace T := T.1 hA
      refine e_k rfl rfl rfl ik_2147483648 ?_
      exact e_ri rfl rfl ⟨_, rfl, T⟩
    · replace T := T.2 hA
      refine e_l rfl rfl rfl ?_
      refine e_l rfl rfl rfl ?_
      refine e_l rfl rfl rfl ?_
      refine e_l rfl rfl rfl ?_
      refine e_cvI (as := [.int v1, .int v2, .int v3]) (rs := []) rfl rfl (g_145) rfl T (fun x_7 I_8 J_9 T => ?_)
      try dsimp only at T
      refine e_b rfl rfl rfl (fun hA => ?_) (fun hA => ?_)
      · replace T := T.1 hA
        refine e_l rfl rfl rfl ?_
        refine e_gr rfl (g_145) rfl (r_145_2) ?_
        refine e_k rfl rfl rfl ib_60 ?_
        refine e_l rfl rfl rfl ?_
        refine e_p rfl rfl rfl ?_
        refine e_l rfl rfl rfl ?_
        refine e_p rfl rfl rfl ?_
        refine e_ia rfl (g_148) T.1 ?_
        replace T := T.2
        exact e_ri rfl rfl ⟨_, rfl, T⟩
      · replace T := T.2 hA
        refine e_k rfl rfl rfl ik_2147483648 ?_
        exact e_ri rfl rfl ⟨_, rfl, T⟩
set_option maxRecDepth 10000 in
set_option maxHeartbeats 4000000 in
theorem vc_X11_copy {X : mm_X} {d : Nat} {I : tI} {J : tJ} {P : Int32 → tI → tJ → Prop} {v1 : Int32} {v2 : Int32} {v3 : Int32} {v4 : Int32} {v5 : Int32}  (T : EI X d n_X11_isSheet [.int v1] I J (fun x_1 I_2 J_3 => (x_1 = 0 → (P (-2) I_2 J_3)) ∧ (¬ (x_1 = 0) → (EI X d n_X11_isSheet [.int v3] I_2 J_3 (fun x_4 I_5 J_6 => (x_4 ≠ 0 → (ix v1 4 ∧ (((I_5 146 (tn v1)) < 0 → (EI X d n_X11_finds [.ref 145, .int 1] I_5 J_6 (fun x_7 I_8 J_9 => P x_7 I_8 J_9))) ∧ (¬ ((I_5 146 (tn v1)) < 0) → (ix v3 4 ∧ ((0 ≤ (I_5 146 (tn v3)) → (ix v1 4 ∧ (ix v3 4 ∧ (((I_5 146 (tn v1)) = (I_5 146 (tn v3)) → ((v2 < 0 → (EI X d n_X11_finds [.ref 145, .int 2] I_5 J_6 (fun x_10 I_11 J_12 => P x_10 I_11 J_12))) ∧ (¬ (v2 < 0) → ((v4 < 0 → (EI X d n_X11_finds [.ref 145, .int 2] I_5 J_6 (fun x_13 I_14 J_15 => P x_13 I_14 J_15))) ∧ (¬ (v4 < 0) → ((v5 < 0 → (EI X d n_X11_finds [.ref 145, .int 2] I_5 J_6 (fun x_16 I_17 J_18 => P x_16 I_17 J_18))) ∧ (¬ (v5 < 0) → (ix v1 4 ∧ ((0 < (lg_cmp ((Int32.toInt64 v2) + (Int32.toInt64 v5)) (Int32.toInt64 (I_5 147 (tn v1)))) → (EI X d n_X11_finds [.ref 145, .int 2] I_5 J_6 (fun x_19 I_20 J_21 => P x_19 I_20 J_21))) ∧ (¬ (0 < (lg_cmp ((Int32.toInt64 v2) + (Int32.toInt64 v5)) (Int32.toInt64 (I_5 147 (tn v1))))) → (ix v3 4 ∧ (((lg_cmp ((Int32.toInt64 v4) + (Int32.toInt64 v5)) (Int32.toInt64 (I_5 147 (tn v3)))) ≤ 0 → (Er X (d + 1) M_X11_copy 71 [some (.ref 145), some (.int v1), some (.int v2), some (.int v3), some (.int v4), some (.int v5), some (.int 0)] [] I_5 J_6 (qI P))) ∧ (¬ ((lg_cmp ((Int32.toInt64 v4) + (Int32.toInt64 v5)) (Int32.toInt64 (I_5 147 (tn v3)))) ≤ 0) → (EI X d n_X11_finds [.ref 145, .int 2] I_5 J_6 (fun x_22 I_23 J_24 => P x_22 I_23 J_24))))))))))))))) ∧ (¬ ((I_5 146 (tn v1)) = (I_5 146 (tn v3))) → (EI X d n_X11_finds [.ref 145, .int 4] I_5 J_6 (fun x_25 I_26 J_27 => P x_25 I_26 J_27))))))) ∧ (¬ (0 ≤ (I_5 146 (tn v3))) → (EI X d n_X11_finds [.ref 145, .int 1] I_5 J_6 (fun x_28 I_29 J_30 => P x_28 I_29 J_30))))))))) ∧ (¬ (x_4 ≠ 0) → (P (-2) I_5 J_6))))))) : EI X (d + 1) n_X11_copy [.ref 145, .int v1, .int v2, .int v3, .int v4, .int v5] I J P := by
  refine ⟨M_X11_copy, tb_X11_copy, Nat.le_of_ble_eq_true rfl, ?_⟩
  show Er X (d + 1) M_X11_copy 0 [some (.ref 145), some (.int v1), some (.int v2), some (.int v3), some (.int v4), some (.int v5), none] [] I J (qI P)
  refine e_l rfl rfl rfl ?_
  refine e_csI (as := [.int v1]) (rs := []) rfl rfl rfl T (fun x_1 I_2 J_3 T => ?_)
  try dsimp only at T
  refine e_b rfl rfl rfl (fun hA => ?_) (fun hA => ?_)
  · replace T := T.1 hA
    refine e_k rfl rfl rfl ib_m2 ?_
    exact e_ri rfl rfl ⟨_, rfl, T⟩
  · replace T := T.2 hA
    refine e_l rfl rfl rfl ?_
    refine e_csI (as := [.int v3]) (rs := []) rfl rfl rfl T (fun x_4 I_5 J_6 T => ?_)
    try dsimp only at T
    refine e_b rfl rfl rfl (fun hA => ?_) (fun hA => ?_)
    · replace T := T.1 hA
      refine e_l rfl rfl rfl ?_
      refine e_gr rfl (g_145) rfl (r_145_0) ?_
      refine e_l rfl rfl rfl ?_
      refine e_ia rfl (g_146) T.1 ?_
      replace T := T.2
      refine e_b rfl rfl rfl (fun hA => ?_) (fun hA => ?_)
      · replace T := T.1 hA
        refine e_l rfl rfl rfl ?_
        refine e_k rfl rfl rfl ic_1 ?_
        refine e_cvI (as := [.int 1]) (rs := []) rfl rfl (g_145) rfl T (fun x_7 I_8 J_9 T => ?_)
        try dsimp only at T
        exact e_ri rfl rfl ⟨_, rfl, T⟩
      · replace T := T.2 hA
        refine e_l rfl rfl rfl ?_
        refine e_gr rfl (g_145) rfl (r_145_0) ?_
        refine e_l rfl rfl rfl ?_
        refine e_ia rfl (g_146) T.1 ?_
        replace T := T.2
        refine e_b rfl rfl rfl (fun hA => ?_) (fun hA => ?_)
        · replace T := T.1 hA
          refine e_l rfl rfl rfl ?_
          refine e_gr rfl (g_145) rfl (r_145_0) ?_
          refine e_l rfl rfl rfl ?_
          refine e_ia rfl (g_146) T.1 ?_
          replace T := T.2
          refine e_l rfl rfl rfl ?_
          refine e_gr rfl (g_145) rfl (r_145_0) ?_
          refine e_l rfl rfl rfl ?_
          refine e_ia rfl (g_146) T.1 ?_
          replace T := T.2
          refine e_b rfl rfl rfl (fun hA => ?_) (fun hA => ?_)
          · replace T := T.1 hA
            refine e_l rfl rfl rfl ?_
            refine e_b rfl rfl rfl (fun hA => ?_) (fun hA => ?_)
            · replace T := T.1 hA
              refine e_l rfl rfl rfl ?_
              refine e_k rfl rfl rfl ic_2 ?_
              refine e_cvI (as := [.int 2]) (rs := []) rfl rfl (g_145) rfl T (fun x_10 I_11 J_12 T => ?_)
              try dsimp only at T
              exact e_ri rfl rfl ⟨_, rfl, T⟩
            · replace T := T.2 hA
              refine e_l rfl rfl rfl ?_
              refine e_b rfl rfl rfl (fun hA => ?_) (fun hA => ?_)
              · replace T := T.1 hA
                refine e_l rfl rfl rfl ?_
                refine e_k rfl rfl rfl ic_2 ?_
                refine e_cvI (as := [.int 2]) (rs := []) rfl rfl (g_145) rfl T (fun x_13 I_14 J_15 T => ?_)
                try dsimp only at T
                exact e_ri rfl rfl ⟨_, rfl, T⟩
              · replace T := T.2 hA
                refine e_l rfl rfl rfl ?_
                refine e_b rfl rfl rfl (fun hA => ?_) (fun hA => ?_)
                · replace T := T.1 hA
                  refine e_l rfl rfl rfl ?_
                  refine e_k rfl rfl rfl ic_2 ?_
                  refine e_cvI (as := [.int 2]) (rs := []) rfl rfl (g_145) rfl T (fun x_16 I_17 J_18 T => ?_)
                  try dsimp only at T
                  exact e_ri rfl rfl ⟨_, rfl, T⟩
                · replace T := T.2 hA
                  refine e_l rfl rfl rfl ?_
                  refine e_p rfl rfl rfl ?_
                  refine e_l rfl rfl rfl ?_
                  refine e_p rfl rfl rfl ?_
                  refine e_p rfl rfl rfl ?_
                  refine e_l rfl rfl rfl ?_
                  refine e_gr rfl (g_145) rfl (r_145_1) ?_
                  refine e_l rfl rfl rfl ?_
                  refine e_ia rfl (g_147) T.1 ?_
                  replace T := T.2
                  refine e_p rfl rfl rfl ?_
                  refine e_p rfl rfl rfl ?_
                  refine e_b rfl rfl rfl (fun hA => ?_) (fun hA => ?_)
                  · replace T := T.1 hA
                    refine e_l rfl rfl rfl ?_
                    refine e_k rfl rfl rfl ic_2 ?_
                    refine e_cvI (as := [.int 2]) (rs := []) rfl rfl (g_145) rfl T (fun x_19 I_20 J_21 T => ?_)
                    try dsimp only at T
                    exact e_ri rfl rfl ⟨_, rfl, T⟩
                  · replace T := T.2 hA
                    refine e_l rfl rfl rfl ?_
                    refine e_p rfl rfl rfl ?_
                    refine e_l rfl rfl rfl ?_
                    refine e_p rfl rfl rfl ?_
                    refine e_p rfl rfl rfl ?_
                    refine e_l rfl rfl rfl ?_
                    refine e_gr rfl (g_145) rfl (r_145_1) ?_
                    refine e_l rfl rfl rfl ?_
                    refine e_ia rfl (g_147) T.1 ?_
                    replace T := T.2
                    refine e_p rfl rfl rfl ?_
                    refine e_p rfl rfl rfl ?_
                    refine e_b rfl rfl rfl (fun hA => ?_) (fun hA => ?_)
                    · replace T := T.1 hA
                      refine e_k rfl rfl rfl ic_0 ?_
                      refine e_l (L' := [some (.ref 145), some (.int v1), some (.int v2), some (.int v3), some (.int v4), some (.int v5), some (.int 0)]) rfl rfl rfl ?_
                      exact T
                    · replace T := T.2 hA
                      refine e_l rfl rfl rfl ?_
                      refine e_k rfl rfl rfl ic_2 ?_
                      refine e_cvI (as := [.int 2]) (rs := []) rfl rfl (g_145) rfl T (fun x_22 I_23 J_24 T => ?_)
                      try dsimp only at T
                      exact e_ri rfl rfl ⟨_, rfl, T⟩
          · replace T := T.2 hA
            refine e_l rfl rfl rfl ?_
            refine e_k rfl rfl rfl ic_4 ?_
            refine e_cvI (as := [.int 4]) (rs := []) rfl rfl (g_145) rfl T (fun x_25 I_26 J_27 T => ?_)
            try dsimp only at T
            exact e_ri rfl rfl ⟨_, rfl, T⟩
        · replace T := T.2 hA
          refine e_l rfl rfl rfl ?_
          refine e_k rfl rfl rfl ic_1 ?_
          refine e_cvI (as := [.int 1]) (rs := []) rfl rfl (g_145) rfl T (fun x_28 I_29 J_30 T => ?_)
          try dsimp only at T
          exact e_ri rfl rfl ⟨_, rfl, T⟩
    · replace T := T.2 hA
      refine e_k rfl rfl rfl ib_m2 ?_
      exact e_ri rfl rfl ⟨_, rfl, T⟩
set_option maxRecDepth 10000 in
set_option maxHeartbeats 4000000 in
theorem vc_X11_copy_71 {X : mm_X} {d : Nat} {I : tI} {J : tJ} {P : Int32 → tI → tJ → Prop} {v1 : Int32} {v2 : Int32} {v3 : Int32} {v4 : Int32} {v5 : Int32} {v6 : Int32}  (T : (v5 ≤ v6 → (Er X (d + 1) M_X11_copy 92 [some (.ref 145), some (.int v1), some (.int v2), some (.int v3), some (.int v4), some (.int v5), some (.int 0)] [] I J (qI P))) ∧ (¬ (v5 ≤ v6) → (ix (((60 * v1) + v2) + v6) 240 ∧ (ix v6 60 ∧ (Er X (d + 1) M_X11_copy 71 [some (.ref 145), some (.int v1), some (.int v2), some (.int v3), some (.int v4), some (.int v5), some (.int (v6 + 1))] [] (mm_u I 149 (tn v6) (I 148 (tn (((60 * v1) + v2) + v6)))) J (qI P)))))) : Er X (d + 1) M_X11_copy 71 [some (.ref 145), some (.int v1), some (.int v2), some (.int v3), some (.int v4), some (.int v5), some (.int v6)] [] I J (qI P) := by
  refine e_l rfl rfl rfl ?_
  refine e_l rfl rfl rfl ?_
  refine e_b rfl rfl rfl (fun hA => ?_) (fun hA => ?_)
  · replace T := T.1 hA
    refine e_k rfl rfl rfl ic_0 ?_
    refine e_l (L' := [some (.ref 145), some (.int v1), some (.int v2), some (.int v3), some (.int v4), some (.int v5), some (.int 0)]) rfl rfl rfl ?_
    exact T
  · replace T := T.2 hA
    refine e_l rfl rfl rfl ?_
    refine e_gr rfl (g_145) rfl (r_145_3) ?_
    refine e_l rfl rfl rfl ?_
    refine e_l rfl rfl rfl ?_
    refine e_gr rfl (g_145) rfl (r_145_2) ?_
    refine e_k rfl rfl rfl ib_60 ?_
    refine e_l rfl rfl rfl ?_
    refine e_p rfl rfl rfl ?_
    refine e_l rfl rfl rfl ?_
    refine e_p rfl rfl rfl ?_
    refine e_l rfl rfl rfl ?_
    refine e_p rfl rfl rfl ?_
    refine e_ia rfl (g_148) T.1 ?_
    replace T := T.2
    refine e_as rfl (g_149) T.1 ?_
    replace T := T.2
    refine e_ic (v := (v6 + 1)) (L' := [some (.ref 145), some (.int v1), some (.int v2), some (.int v3), some (.int v4), some (.int v5), some (.int (v6 + 1))]) rfl rfl rfl ic_1 rfl ?_
    refine e_g rfl ?_
    exact T
set_option maxRecDepth 10000 in
set_option maxHeartbeats 4000000 in
theorem vc_X11_copy_92 {X : mm_X} {d : Nat} {I : tI} {J : tJ} {P : Int32 → tI → tJ → Prop} {v1 : Int32} {v2 : Int32} {v3 : Int32} {v4 : Int32} {v5 : Int32} {v6 : Int32}  (T : (v5 ≤ v6 → (P 1 I J)) ∧ (¬ (v5 ≤ v6) → (ix v6 60 ∧ (ix (((60 * v3) + v4) + v6) 240 ∧ (Er X (d + 1) M_X11_copy 92 [some (.ref 145), some (.int v1), some (.int v2), some (.int v3), some (.int v4), some (.int v5), some (.int (v6 + 1))] [] (mm_u I 148 (tn (((60 * v3) + v4) + v6)) (I 149 (tn v6))) J (qI P)))))) : Er X (d + 1) M_X11_copy 92 [some (.ref 145), some (.int v1), some (.int v2), some (.int v3), some (.int v4), some (.int v5), some (.int v6)] [] I J (qI P) := by
  refine e_l rfl rfl rfl ?_
  refine e_l rfl rfl rfl ?_
  refine e_b rfl rfl rfl (fun hA => ?_) (fun hA => ?_)
  · replace T := T.1 hA
    refine e_k rfl rfl rfl ic_1 ?_
    exact e_ri rfl rfl ⟨_, rfl, T⟩
  · replace T := T.2 hA
    refine e_l rfl rfl rfl ?_
    refine e_gr rfl (g_145) rfl (r_145_2) ?_
    refine e_k rfl rfl rfl ib_60 ?_
    refine e_l rfl rfl rfl ?_
    refine e_p rfl rfl rfl ?_
    refine e_l rfl rfl rfl ?_
    refine e_p rfl rfl rfl ?_
    refine e_l rfl rfl rfl ?_
    refine e_p rfl rfl rfl ?_
    refine e_l rfl rfl rfl ?_
    refine e_gr rfl (g_145) rfl (r_145_3) ?_
    refine e_l rfl rfl rfl ?_
    refine e_ia rfl (g_149) T.1 ?_
    replace T := T.2
    refine e_as rfl (g_148) T.1 ?_
    replace T := T.2
    refine e_ic (v := (v6 + 1)) (L' := [some (.ref 145), some (.int v1), some (.int v2), some (.int v3), some (.int v4), some (.int v5), some (.int (v6 + 1))]) rfl rfl rfl ic_1 rfl ?_
    refine e_g rfl ?_
    exact T
set_option maxRecDepth 10000 in
set_option maxHeartbeats 4000000 in
theorem vc_X11_type {X : mm_X} {d : Nat} {I : tI} {J : tJ} {P : Int32 → tI → tJ → Prop} {v1 : Int32} {v2 : Int32}  (T : EI X d n_X11_isTwo [.int v1] I J (fun x_1 I_2 J_3 => (x_1 = 0 → (P (-2) I_2 J_3)) ∧ (¬ (x_1 = 0) → (EI X d n_X11_in [.long (Int32.toInt64 v2), .long 0, .long 255] I_2 J_3 (fun x_4 I_5 J_6 => (x_4 ≠ 0 → (ix v1 2 ∧ ((v1 ≠ 0 → (Er X (d + 1) M_X11_type 20 [some (.ref 145), some (.int v1), some (.int v2)] [.int 39, .int (I_5 151 (tn v1))] I_5 J_6 (qI P))) ∧ (¬ (v1 ≠ 0) → (Er X (d + 1) M_X11_type 20 [some (.ref 145), some (.int v1), some (.int v2)] [.int 10, .int (I_5 151 (tn v1))] I_5 J_6 (qI P)))))) ∧ (¬ (x_4 ≠ 0) → (P (-2) I_5 J_6))))))) : EI X (d + 1) n_X11_type [.ref 145, .int v1, .int v2] I J P := by
  refine ⟨M_X11_type, tb_X11_type, Nat.le_of_ble_eq_true rfl, ?_⟩
  show Er X (d + 1) M_X11_type 0 [some (.ref 145), some (.int v1), some (.int v2)] [] I J (qI P)
  refine e_l rfl rfl rfl ?_
  refine e_csI (as := [.int v1]) (rs := []) rfl rfl rfl T (fun x_1 I_2 J_3 T => ?_)
  try dsimp only at T
  refine e_b rfl rfl rfl (fun hA => ?_) (fun hA => ?_)
  · replace T := T.1 hA
    refine e_k rfl rfl rfl ib_m2 ?_
    exact e_ri rfl rfl ⟨_, rfl, T⟩
  · replace T := T.2 hA
    refine e_l rfl rfl rfl ?_
    refine e_p rfl rfl rfl ?_
    refine e_kl rfl rfl rfl lc_0 ?_
    refine e_kl rfl rfl rfl lk_255 ?_
    refine e_csI (as := [.long (Int32.toInt64 v2), .long 0, .long 255]) (rs := []) rfl rfl rfl T (fun x_4 I_5 J_6 T => ?_)
    try dsimp only at T
    refine e_b rfl rfl rfl (fun hA => ?_) (fun hA => ?_)
    · replace T := T.1 hA
      refine e_l rfl rfl rfl ?_
      refine e_gr rfl (g_145) rfl (r_145_6) ?_
      refine e_l rfl rfl rfl ?_
      refine e_ia rfl (g_151) T.1 ?_
      replace T := T.2
      refine e_l rfl rfl rfl ?_
      refine e_b rfl rfl rfl (fun hA => ?_) (fun hA => ?_)
      · replace T := T.1 hA
        refine e_k rfl rfl rfl ib_39 ?_
        exact T
      · replace T := T.2 hA
        refine e_k rfl rfl rfl ib_10 ?_
        refine e_g rfl ?_
        exact T
    · replace T := T.2 hA
      refine e_k rfl rfl rfl ib_m2 ?_
      exact e_ri rfl rfl ⟨_, rfl, T⟩
set_option maxRecDepth 10000 in
set_option maxHeartbeats 4000000 in
theorem vc_X11_type_20 {X : mm_X} {d : Nat} {I : tI} {J : tJ} {P : Int32 → tI → tJ → Prop} {v1 : Int32} {v2 : Int32} {s0 : Int32} {s1 : Int32}  (T : (s0 ≠ s1 → (ix v1 2 ∧ (ix ((40 * v1) + (I 151 (tn v1))) 80 ∧ (ix v1 2 ∧ (ix v1 2 ∧ (ix v1 2 ∧ (P ((mm_u (mm_u I 150 (tn ((40 * v1) + (I 151 (tn v1)))) v2) 151 (tn v1) (((mm_u I 150 (tn ((40 * v1) + (I 151 (tn v1)))) v2) 151 (tn v1)) + 1)) 151 (tn v1)) (mm_u (mm_u I 150 (tn ((40 * v1) + (I 151 (tn v1)))) v2) 151 (tn v1) (((mm_u I 150 (tn ((40 * v1) + (I 151 (tn v1)))) v2) 151 (tn v1)) + 1)) J))))))) ∧ (¬ (s0 ≠ s1) → (P (-4) I J))) : Er X (d + 1) M_X11_type 20 [some (.ref 145), some (.int v1), some (.int v2)] [.int s1, .int s0] I J (qI P) := by
  refine e_b rfl rfl rfl (fun hA => ?_) (fun hA => ?_)
  · replace T := T.1 hA
    refine e_l rfl rfl rfl ?_
    refine e_gr rfl (g_145) rfl (r_145_5) ?_
    refine e_k rfl rfl rfl ib_40 ?_
    refine e_l rfl rfl rfl ?_
    refine e_p rfl rfl rfl ?_
    refine e_l rfl rfl rfl ?_
    refine e_gr rfl (g_145) rfl (r_145_6) ?_
    refine e_l rfl rfl rfl ?_
    refine e_ia rfl (g_151) T.1 ?_
    replace T := T.2
    refine e_p rfl rfl rfl ?_
    refine e_l rfl rfl rfl ?_
    refine e_as rfl (g_150) T.1 ?_
    replace T := T.2
    refine e_l rfl rfl rfl ?_
    refine e_gr rfl (g_145) rfl (r_145_6) ?_
    refine e_l rfl rfl rfl ?_
    refine e_p rfl rfl rfl ?_
    refine e_ia rfl (g_151) T.1 ?_
    replace T := T.2
    refine e_k rfl rfl rfl ic_1 ?_
    refine e_p rfl rfl rfl ?_
    refine e_as rfl (g_151) T.1 ?_
    replace T := T.2
    refine e_l rfl rfl rfl ?_
    refine e_gr rfl (g_145) rfl (r_145_6) ?_
    refine e_l rfl rfl rfl ?_
    refine e_ia rfl (g_151) T.1 ?_
    replace T := T.2
    exact e_ri rfl rfl ⟨_, rfl, T⟩
  · replace T := T.2 hA
    refine e_k rfl rfl rfl ib_m4 ?_
    exact e_ri rfl rfl ⟨_, rfl, T⟩
set_option maxRecDepth 10000 in
set_option maxHeartbeats 4000000 in
theorem vc_X11_wipe {X : mm_X} {d : Nat} {I : tI} {J : tJ} {P : Int32 → tI → tJ → Prop} {v1 : Int32}  (T : EI X d n_X11_isTwo [.int v1] I J (fun x_1 I_2 J_3 => (x_1 ≠ 0 → (ix v1 2 ∧ (∀ y2_4 : Int32, y2_4 = (I_2 151 (tn v1)) → (ix v1 2 ∧ (P y2_4 (mm_u I_2 151 (tn v1) 0) J_3))))) ∧ (¬ (x_1 ≠ 0) → (P (-2) I_2 J_3)))) : EI X (d + 1) n_X11_wipe [.ref 145, .int v1] I J P := by
  refine ⟨M_X11_wipe, tb_X11_wipe, Nat.le_of_ble_eq_true rfl, ?_⟩
  show Er X (d + 1) M_X11_wipe 0 [some (.ref 145), some (.int v1), none] [] I J (qI P)
  refine e_l rfl rfl rfl ?_
  refine e_csI (as := [.int v1]) (rs := []) rfl rfl rfl T (fun x_1 I_2 J_3 T => ?_)
  try dsimp only at T
  refine e_b rfl rfl rfl (fun hA => ?_) (fun hA => ?_)
  · replace T := T.1 hA
    refine e_l rfl rfl rfl ?_
    refine e_gr rfl (g_145) rfl (r_145_6) ?_
    refine e_l rfl rfl rfl ?_
    refine e_ia rfl (g_151) T.1 ?_
    replace T := T.2
    refine e_si (Lf := fun y2_4 => [some (.ref 145), some (.int v1), some (.int y2_4)]) rfl rfl rfl (fun y2_4 hy2_4 => ?_)
    replace T := T y2_4 hy2_4
    refine e_l rfl rfl rfl ?_
    refine e_gr rfl (g_145) rfl (r_145_6) ?_
    refine e_l rfl rfl rfl ?_
    refine e_k rfl rfl rfl ic_0 ?_
    refine e_as rfl (g_151) T.1 ?_
    replace T := T.2
    refine e_l rfl rfl rfl ?_
    exact e_ri rfl rfl ⟨_, rfl, T⟩
  · replace T := T.2 hA
    refine e_k rfl rfl rfl ib_m2 ?_
    exact e_ri rfl rfl ⟨_, rfl, T⟩
set_option maxRecDepth 10000 in
set_option maxHeartbeats 4000000 in
theorem vc_X11_undo {X : mm_X} {d : Nat} {I : tI} {J : tJ} {P : Int32 → tI → tJ → Prop} {v1 : Int32}  (T : EI X d n_X11_isTwo [.int v1] I J (fun x_1 I_2 J_3 => (x_1 ≠ 0 → (ix v1 2 ∧ (((I_2 151 (tn v1)) ≠ 0 → (ix v1 2 ∧ (ix v1 2 ∧ (ix v1 2 ∧ (P ((mm_u I_2 151 (tn v1) ((I_2 151 (tn v1)) - 1)) 151 (tn v1)) (mm_u I_2 151 (tn v1) ((I_2 151 (tn v1)) - 1)) J_3))))) ∧ (¬ ((I_2 151 (tn v1)) ≠ 0) → (P (-3) I_2 J_3))))) ∧ (¬ (x_1 ≠ 0) → (P (-2) I_2 J_3)))) : EI X (d + 1) n_X11_undo [.ref 145, .int v1] I J P := by
  refine ⟨M_X11_undo, tb_X11_undo, Nat.le_of_ble_eq_true rfl, ?_⟩
  show Er X (d + 1) M_X11_undo 0 [some (.ref 145), some (.int v1)] [] I J (qI P)
  refine e_l rfl rfl rfl ?_
  refine e_csI (as := [.int v1]) (rs := []) rfl rfl rfl T (fun x_1 I_2 J_3 T => ?_)
  try dsimp only at T
  refine e_b rfl rfl rfl (fun hA => ?_) (fun hA => ?_)
  · replace T := T.1 hA
    refine e_l rfl rfl rfl ?_
    refine e_gr rfl (g_145) rfl (r_145_6) ?_
    refine e_l rfl rfl rfl ?_
    refine e_ia rfl (g_151) T.1 ?_
    replace T := T.2
    refine e_b rfl rfl rfl (fun hA => ?_) (fun hA => ?_)
    · replace T := T.1 hA
      refine e_l rfl rfl rfl ?_
      refine e_gr rfl (g_145) rfl (r_145_6) ?_
      refine e_l rfl rfl rfl ?_
      refine e_p rfl rfl rfl ?_
      refine e_ia rfl (g_151) T.1 ?_
      replace T := T.2
      refine e_k rfl rfl rfl ic_1 ?_
      refine e_p rfl rfl rfl ?_
      refine e_as rfl (g_151) T.1 ?_
      replace T := T.2
      refine e_l rfl rfl rfl ?_
      refine e_gr rfl (g_145) rfl (r_145_6) ?_
      refine e_l rfl rfl rfl ?_
      refine e_ia rfl (g_151) T.1 ?_
      replace T := T.2
      exact e_ri rfl rfl ⟨_, rfl, T⟩
    · replace T := T.2 hA
      refine e_k rfl rfl rfl ib_m3 ?_
      exact e_ri rfl rfl ⟨_, rfl, T⟩
  · replace T := T.2 hA
    refine e_k rfl rfl rfl ib_m2 ?_
    exact e_ri rfl rfl ⟨_, rfl, T⟩
set_option maxRecDepth 10000 in
set_option maxHeartbeats 4000000 in
theorem vc_X11_figureOf {X : mm_X} {d : Nat} {I : tI} {J : tJ} {P : Int32 → tI → tJ → Prop} {v0 : Int32}  (T : EI X d n_X11_in [.long (Int32.toInt64 v0), .long 48, .long 57] I J (fun x_1 I_2 J_3 => (x_1 = 0 → (P (-9) I_2 J_3)) ∧ (¬ (x_1 = 0) → (P (v0 - 48) I_2 J_3)))) : EI X (d + 1) n_X11_figureOf [.int v0] I J P := by
  refine ⟨M_X11_figureOf, tb_X11_figureOf, Nat.le_of_ble_eq_true rfl, ?_⟩
  show Er X (d + 1) M_X11_figureOf 0 [some (.int v0)] [] I J (qI P)
  refine e_l rfl rfl rfl ?_
  refine e_p rfl rfl rfl ?_
  refine e_kl rfl rfl rfl lk_48 ?_
  refine e_kl rfl rfl rfl lk_57 ?_
  refine e_csI (as := [.long (Int32.toInt64 v0), .long 48, .long 57]) (rs := []) rfl rfl rfl T (fun x_1 I_2 J_3 T => ?_)
  try dsimp only at T
  refine e_b rfl rfl rfl (fun hA => ?_) (fun hA => ?_)
  · replace T := T.1 hA
    refine e_k rfl rfl rfl ib_m9 ?_
    exact e_ri rfl rfl ⟨_, rfl, T⟩
  · replace T := T.2 hA
    refine e_l rfl rfl rfl ?_
    refine e_k rfl rfl rfl ib_48 ?_
    refine e_p rfl rfl rfl ?_
    refine e_g rfl ?_
    exact e_ri rfl rfl ⟨_, rfl, T⟩
set_option maxRecDepth 10000 in
set_option maxHeartbeats 4000000 in
theorem vc_X11_sliceOf {X : mm_X} {d : Nat} {I : tI} {J : tJ} {P : Int32 → tI → tJ → Prop} {v0 : Int32} {v1 : Int32}  (T : (v0 ≠ 0 → ((v0 ≠ 4 → (EI X d n_X11_figureOf [.int v1] I J (fun x_1 I_2 J_3 => P x_1 I_2 J_3))) ∧ (¬ (v0 ≠ 4) → ((v1 ≠ 59 → (P (-9) I J)) ∧ (¬ (v1 ≠ 59) → (P 0 I J)))))) ∧ (¬ (v0 ≠ 0) → ((v1 ≠ 119 → ((v1 ≠ 99 → ((v1 ≠ 98 → ((v1 ≠ 116 → (P (-9) I J)) ∧ (¬ (v1 ≠ 116) → (P 3 I J)))) ∧ (¬ (v1 ≠ 98) → (P 2 I J)))) ∧ (¬ (v1 ≠ 99) → (P 1 I J)))) ∧ (¬ (v1 ≠ 119) → (P 0 I J))))) : EI X (d + 1) n_X11_sliceOf [.int v0, .int v1] I J P := by
  refine ⟨M_X11_sliceOf, tb_X11_sliceOf, Nat.le_of_ble_eq_true rfl, ?_⟩
  show Er X (d + 1) M_X11_sliceOf 0 [some (.int v0), some (.int v1)] [] I J (qI P)
  refine e_l rfl rfl rfl ?_
  refine e_b rfl rfl rfl (fun hA => ?_) (fun hA => ?_)
  · replace T := T.1 hA
    refine e_l rfl rfl rfl ?_
    refine e_k rfl rfl rfl ic_4 ?_
    refine e_b rfl rfl rfl (fun hA => ?_) (fun hA => ?_)
    · replace T := T.1 hA
      refine e_l rfl rfl rfl ?_
      refine e_csI (as := [.int v1]) (rs := []) rfl rfl rfl T (fun x_1 I_2 J_3 T => ?_)
      try dsimp only at T
      exact e_ri rfl rfl ⟨_, rfl, T⟩
    · replace T := T.2 hA
      refine e_l rfl rfl rfl ?_
      refine e_k rfl rfl rfl ib_59 ?_
      refine e_b rfl rfl rfl (fun hA => ?_) (fun hA => ?_)
      · replace T := T.1 hA
        refine e_k rfl rfl rfl ib_m9 ?_
        refine e_g rfl ?_
        exact e_ri rfl rfl ⟨_, rfl, T⟩
      · replace T := T.2 hA
        refine e_k rfl rfl rfl ic_0 ?_
        refine e_g rfl ?_
        exact e_ri rfl rfl ⟨_, rfl, T⟩
  · replace T := T.2 hA
    refine e_l rfl rfl rfl ?_
    refine e_k rfl rfl rfl ib_119 ?_
    refine e_b rfl rfl rfl (fun hA => ?_) (fun hA => ?_)
    · replace T := T.1 hA
      refine e_l rfl rfl rfl ?_
      refine e_k rfl rfl rfl ib_99 ?_
      refine e_b rfl rfl rfl (fun hA => ?_) (fun hA => ?_)
      · replace T := T.1 hA
        refine e_l rfl rfl rfl ?_
        refine e_k rfl rfl rfl ib_98 ?_
        refine e_b rfl rfl rfl (fun hA => ?_) (fun hA => ?_)
        · replace T := T.1 hA
          refine e_l rfl rfl rfl ?_
          refine e_k rfl rfl rfl ib_116 ?_
          refine e_b rfl rfl rfl (fun hA => ?_) (fun hA => ?_)
          · replace T := T.1 hA
            refine e_k rfl rfl rfl ib_m9 ?_
            exact e_ri rfl rfl ⟨_, rfl, T⟩
          · replace T := T.2 hA
            refine e_k rfl rfl rfl ic_3 ?_
            refine e_g rfl ?_
            exact e_ri rfl rfl ⟨_, rfl, T⟩
        · replace T := T.2 hA
          refine e_k rfl rfl rfl ic_2 ?_
          refine e_g rfl ?_
          exact e_ri rfl rfl ⟨_, rfl, T⟩
      · replace T := T.2 hA
        refine e_k rfl rfl rfl ic_1 ?_
        refine e_g rfl ?_
        exact e_ri rfl rfl ⟨_, rfl, T⟩
    · replace T := T.2 hA
      refine e_k rfl rfl rfl ic_0 ?_
      refine e_g rfl ?_
      exact e_ri rfl rfl ⟨_, rfl, T⟩
set_option maxRecDepth 10000 in
set_option maxHeartbeats 4000000 in
theorem vc_X11_readsRack {X : mm_X} {d : Nat} {I : tI} {J : tJ} {P : Int32 → tI → tJ → Prop}   (T : Er X (d + 1) M_X11_readsRack 5 [some (.ref 145), some (.int 0), none] [] (mm_u I 145 7 0) J (qI P)) : EI X (d + 1) n_X11_readsRack [.ref 145] I J P := by
  refine ⟨M_X11_readsRack, tb_X11_readsRack, Nat.le_of_ble_eq_true rfl, ?_⟩
  show Er X (d + 1) M_X11_readsRack 0 [some (.ref 145), none, none] [] I J (qI P)
  refine e_l rfl rfl rfl ?_
  refine e_k rfl rfl rfl ic_0 ?_
  refine e_pi rfl (g_145) rfl ?_
  refine e_k rfl rfl rfl ic_0 ?_
  refine e_l (L' := [some (.ref 145), some (.int 0), none]) rfl rfl rfl ?_
  exact T
set_option maxRecDepth 10000 in
set_option maxHeartbeats 4000000 in
theorem vc_X11_readsRack_5 {X : mm_X} {d : Nat} {I : tI} {J : tJ} {P : Int32 → tI → tJ → Prop} {v1 : Int32} {o2 : Option Value}  (T : ((I 151 (tn 0)) ≤ v1 → (P (-1) I J)) ∧ (¬ ((I 151 (tn 0)) ≤ v1) → (ix v1 80 ∧ (EI X d n_X11_figureOf [.int (I 150 (tn v1))] I J (fun x_1 I_2 J_3 => (x_1 ≠ (-9) → (ix v1 10 ∧ (Er X (d + 1) M_X11_readsRack 5 [some (.ref 145), some (.int (v1 + 1)), some (.int x_1)] [] (mm_u (mm_u I_2 152 (tn v1) x_1) 145 7 (((mm_u I_2 152 (tn v1) x_1) 145 7) + 1)) J_3 (qI P)))) ∧ (¬ (x_1 ≠ (-9)) → (P v1 (mm_u I_2 145 7 0) J_3))))))) : Er X (d + 1) M_X11_readsRack 5 [some (.ref 145), some (.int v1), o2] [] I J (qI P) := by
  refine e_l rfl rfl rfl ?_
  refine e_l rfl rfl rfl ?_
  refine e_gr rfl (g_145) rfl (r_145_6) ?_
  refine e_k rfl rfl rfl ic_0 ?_
  refine e_ia rfl (g_151) (by decide) ?_
  refine e_b rfl rfl rfl (fun hA => ?_) (fun hA => ?_)
  · replace T := T.1 hA
    refine e_k rfl rfl rfl ic_m1 ?_
    exact e_ri rfl rfl ⟨_, rfl, T⟩
  · replace T := T.2 hA
    refine e_l rfl rfl rfl ?_
    refine e_gr rfl (g_145) rfl (r_145_5) ?_
    refine e_l rfl rfl rfl ?_
    refine e_ia rfl (g_150) T.1 ?_
    replace T := T.2
    refine e_csI (as := [.int (I 150 (tn v1))]) (rs := []) rfl rfl rfl T (fun x_1 I_2 J_3 T => ?_)
    try dsimp only at T
    refine e_l (L' := [some (.ref 145), some (.int v1), some (.int x_1)]) rfl rfl rfl ?_
    refine e_l rfl rfl rfl ?_
    refine e_k rfl rfl rfl ib_m9 ?_
    refine e_b rfl rfl rfl (fun hA => ?_) (fun hA => ?_)
    · replace T := T.1 hA
      refine e_l rfl rfl rfl ?_
      refine e_gr rfl (g_145) rfl (r_145_8) ?_
      refine e_l rfl rfl rfl ?_
      refine e_l rfl rfl rfl ?_
      refine e_as rfl (g_152) T.1 ?_
      replace T := T.2
      refine e_l rfl rfl rfl ?_
      refine e_p rfl rfl rfl ?_
      refine e_gi rfl (g_145) (by decide) ?_
      refine e_k rfl rfl rfl ic_1 ?_
      refine e_p rfl rfl rfl ?_
      refine e_pi rfl (g_145) rfl ?_
      refine e_ic (v := (v1 + 1)) (L' := [some (.ref 145), some (.int (v1 + 1)), some (.int x_1)]) rfl rfl rfl ic_1 rfl ?_
      refine e_g rfl ?_
      exact T
    · replace T := T.2 hA
      refine e_l rfl rfl rfl ?_
      refine e_k rfl rfl rfl ic_0 ?_
      refine e_pi rfl (g_145) rfl ?_
      refine e_l rfl rfl rfl ?_
      exact e_ri rfl rfl ⟨_, rfl, T⟩
set_option maxRecDepth 10000 in
set_option maxHeartbeats 4000000 in
theorem vc_X11_readsSlices {X : mm_X} {d : Nat} {I : tI} {J : tJ} {P : Int32 → tI → tJ → Prop}   (T : ∀ y1_1 : Int32, y1_1 = ((mm_u I 145 9 0) 151 (tn 1)) → (Er X (d + 1) M_X11_readsSlices 10 [some (.ref 145), some (.int y1_1), some (.int 0), none, none, none] [] (mm_u I 145 9 0) J (qI P))) : EI X (d + 1) n_X11_readsSlices [.ref 145] I J P := by
  refine ⟨M_X11_readsSlices, tb_X11_readsSlices, Nat.le_of_ble_eq_true rfl, ?_⟩
  show Er X (d + 1) M_X11_readsSlices 0 [some (.ref 145), none, none, none, none, none] [] I J (qI P)
  refine e_l rfl rfl rfl ?_
  refine e_k rfl rfl rfl ic_0 ?_
  refine e_pi rfl (g_145) rfl ?_
  refine e_l rfl rfl rfl ?_
  refine e_gr rfl (g_145) rfl (r_145_6) ?_
  refine e_k rfl rfl rfl ic_1 ?_
  refine e_ia rfl (g_151) (by decide) ?_
  refine e_si (Lf := fun y1_1 => [some (.ref 145), some (.int y1_1), none, none, none, none]) rfl rfl rfl (fun y1_1 hy1_1 => ?_)
  replace T := T y1_1 hy1_1
  refine e_k rfl rfl rfl ic_0 ?_
  refine e_l (L' := [some (.ref 145), some (.int y1_1), some (.int 0), none, none, none]) rfl rfl rfl ?_
  exact T
set_option maxRecDepth 10000 in
set_option maxHeartbeats 4000000 in
theorem vc_X11_readsSlices_10 {X : mm_X} {d : Nat} {I : tI} {J : tJ} {P : Int32 → tI → tJ → Prop} {v1 : Int32} {v2 : Int32} {o3 : Option Value} {o4 : Option Value} {o5 : Option Value}  (T : (v1 ≤ v2 → ((v1 ≤ 0 → (P (-1) I J)) ∧ (¬ (v1 ≤ 0) → (((v1 - v1 / 5 * 5) = 4 → (P (-1) I J)) ∧ (¬ ((v1 - v1 / 5 * 5) = 4) → (P v1 (mm_u I 145 9 0) J)))))) ∧ (¬ (v1 ≤ v2) → (∀ y3_1 : Int32, y3_1 = (v2 - v2 / 5 * 5) → (ix (40 + v2) 80 ∧ (EI X d n_X11_sliceOf [.int y3_1, .int (I 150 (tn (40 + v2)))] I J (fun x_2 I_3 J_4 => (x_2 ≠ (-9) → (∀ y5_5 : Int32, y5_5 = (3 * (v2 / 5)) → ((y3_1 ≠ 0 → ((y3_1 ≠ 1 → ((y3_1 ≠ 2 → ((y3_1 ≠ 3 → (Er X (d + 1) M_X11_readsSlices 10 [some (.ref 145), some (.int v1), some (.int (v2 + 1)), some (.int y3_1), some (.int x_2), some (.int y5_5)] [] I_3 J_4 (qI P))) ∧ (¬ (y3_1 ≠ 3) → (ix (y5_5 + 2) 24 ∧ (Er X (d + 1) M_X11_readsSlices 10 [some (.ref 145), some (.int v1), some (.int (v2 + 1)), some (.int y3_1), some (.int x_2), some (.int y5_5)] [] (mm_u (mm_u I_3 153 (tn (y5_5 + 2)) x_2) 145 9 (((mm_u I_3 153 (tn (y5_5 + 2)) x_2) 145 9) + 1)) J_4 (qI P)))))) ∧ (¬ (y3_1 ≠ 2) → (ix (y5_5 + 1) 24 ∧ (ix (y5_5 + 1) 24 ∧ (Er X (d + 1) M_X11_readsSlices 10 [some (.ref 145), some (.int v1), some (.int (v2 + 1)), some (.int y3_1), some (.int x_2), some (.int y5_5)] [] (mm_u I_3 153 (tn (y5_5 + 1)) ((I_3 153 (tn (y5_5 + 1))) + x_2)) J_4 (qI P))))))) ∧ (¬ (y3_1 ≠ 1) → (ix (y5_5 + 1) 24 ∧ (Er X (d + 1) M_X11_readsSlices 10 [some (.ref 145), some (.int v1), some (.int (v2 + 1)), some (.int y3_1), some (.int x_2), some (.int y5_5)] [] (mm_u I_3 153 (tn (y5_5 + 1)) (10 * x_2)) J_4 (qI P)))))) ∧ (¬ (y3_1 ≠ 0) → (ix y5_5 24 ∧ (Er X (d + 1) M_X11_readsSlices 10 [some (.ref 145), some (.int v1), some (.int (v2 + 1)), some (.int y3_1), some (.int x_2), some (.int y5_5)] [] (mm_u I_3 153 (tn y5_5) x_2) J_4 (qI P))))))) ∧ (¬ (x_2 ≠ (-9)) → (P v2 (mm_u I_3 145 9 0) J_4)))))))) : Er X (d + 1) M_X11_readsSlices 10 [some (.ref 145), some (.int v1), some (.int v2), o3, o4, o5] [] I J (qI P) := by
  refine e_l rfl rfl rfl ?_
  refine e_l rfl rfl rfl ?_
  refine e_b rfl rfl rfl (fun hA => ?_) (fun hA => ?_)
  · replace T := T.1 hA
    refine e_l rfl rfl rfl ?_
    refine e_b rfl rfl rfl (fun hA => ?_) (fun hA => ?_)
    · replace T := T.1 hA
      refine e_k rfl rfl rfl ic_m1 ?_
      exact e_ri rfl rfl ⟨_, rfl, T⟩
    · replace T := T.2 hA
      refine e_l rfl rfl rfl ?_
      refine e_k rfl rfl rfl ic_5 ?_
      refine e_rm rfl (by decide) ?_
      refine e_k rfl rfl rfl ic_4 ?_
      refine e_b rfl rfl rfl (fun hA => ?_) (fun hA => ?_)
      · replace T := T.1 hA
        refine e_k rfl rfl rfl ic_m1 ?_
        exact e_ri rfl rfl ⟨_, rfl, T⟩
      · replace T := T.2 hA
        refine e_l rfl rfl rfl ?_
        refine e_k rfl rfl rfl ic_0 ?_
        refine e_pi rfl (g_145) rfl ?_
        refine e_l rfl rfl rfl ?_
        exact e_ri rfl rfl ⟨_, rfl, T⟩
  · replace T := T.2 hA
    refine e_l rfl rfl rfl ?_
    refine e_k rfl rfl rfl ic_5 ?_
    refine e_rm rfl (by decide) ?_
    refine e_si (Lf := fun y3_1 => [some (.ref 145), some (.int v1), some (.int v2), some (.int y3_1), o4, o5]) rfl rfl rfl (fun y3_1 hy3_1 => ?_)
    replace T := T y3_1 hy3_1
    refine e_l rfl rfl rfl ?_
    refine e_l rfl rfl rfl ?_
    refine e_gr rfl (g_145) rfl (r_145_5) ?_
    refine e_k rfl rfl rfl ib_40 ?_
    refine e_l rfl rfl rfl ?_
    refine e_p rfl rfl rfl ?_
    refine e_ia rfl (g_150) T.1 ?_
    replace T := T.2
    refine e_csI (as := [.int y3_1, .int (I 150 (tn (40 + v2)))]) (rs := []) rfl rfl rfl T (fun x_2 I_3 J_4 T => ?_)
    try dsimp only at T
    refine e_l (L' := [some (.ref 145), some (.int v1), some (.int v2), some (.int y3_1), some (.int x_2), o5]) rfl rfl rfl ?_
    refine e_l rfl rfl rfl ?_
    refine e_k rfl rfl rfl ib_m9 ?_
    refine e_b rfl rfl rfl (fun hA => ?_) (fun hA => ?_)
    · replace T := T.1 hA
      refine e_k rfl rfl rfl ic_3 ?_
      refine e_l rfl rfl rfl ?_
      refine e_k rfl rfl rfl ic_5 ?_
      refine e_dv rfl (by decide) ?_
      refine e_p rfl rfl rfl ?_
      refine e_si (Lf := fun y5_5 => [some (.ref 145), some (.int v1), some (.int v2), some (.int y3_1), some (.int x_2), some (.int y5_5)]) rfl rfl rfl (fun y5_5 hy5_5 => ?_)
      replace T := T y5_5 hy5_5
      refine e_l rfl rfl rfl ?_
      refine e_b rfl rfl rfl (fun hA => ?_) (fun hA => ?_)
      · replace T := T.1 hA
        refine e_l rfl rfl rfl ?_
        refine e_k rfl rfl rfl ic_1 ?_
        refine e_b rfl rfl rfl (fun hA => ?_) (fun hA => ?_)
        · replace T := T.1 hA
          refine e_l rfl rfl rfl ?_
          refine e_k rfl rfl rfl ic_2 ?_
          refine e_b rfl rfl rfl (fun hA => ?_) (fun hA => ?_)
          · replace T := T.1 hA
            refine e_l rfl rfl rfl ?_
            refine e_k rfl rfl rfl ic_3 ?_
            refine e_b rfl rfl rfl (fun hA => ?_) (fun hA => ?_)
            · replace T := T.1 hA
              refine e_ic (v := (v2 + 1)) (L' := [some (.ref 145), some (.int v1), some (.int (v2 + 1)), some (.int y3_1), some (.int x_2), some (.int y5_5)]) rfl rfl rfl ic_1 rfl ?_
              refine e_g rfl ?_
              exact T
            · replace T := T.2 hA
              refine e_l rfl rfl rfl ?_
              refine e_gr rfl (g_145) rfl (r_145_10) ?_
              refine e_l rfl rfl rfl ?_
              refine e_k rfl rfl rfl ic_2 ?_
              refine e_p rfl rfl rfl ?_
              refine e_l rfl rfl rfl ?_
              refine e_as rfl (g_153) T.1 ?_
              replace T := T.2
              refine e_l rfl rfl rfl ?_
              refine e_p rfl rfl rfl ?_
              refine e_gi rfl (g_145) (by decide) ?_
              refine e_k rfl rfl rfl ic_1 ?_
              refine e_p rfl rfl rfl ?_
              refine e_pi rfl (g_145) rfl ?_
              refine e_ic (v := (v2 + 1)) (L' := [some (.ref 145), some (.int v1), some (.int (v2 + 1)), some (.int y3_1), some (.int x_2), some (.int y5_5)]) rfl rfl rfl ic_1 rfl ?_
              refine e_g rfl ?_
              exact T
          · replace T := T.2 hA
            refine e_l rfl rfl rfl ?_
            refine e_gr rfl (g_145) rfl (r_145_10) ?_
            refine e_l rfl rfl rfl ?_
            refine e_k rfl rfl rfl ic_1 ?_
            refine e_p rfl rfl rfl ?_
            refine e_p rfl rfl rfl ?_
            refine e_ia rfl (g_153) T.1 ?_
            replace T := T.2
            refine e_l rfl rfl rfl ?_
            refine e_p rfl rfl rfl ?_
            refine e_as rfl (g_153) T.1 ?_
            replace T := T.2
            refine e_g rfl ?_
            refine e_ic (v := (v2 + 1)) (L' := [some (.ref 145), some (.int v1), some (.int (v2 + 1)), some (.int y3_1), some (.int x_2), some (.int y5_5)]) rfl rfl rfl ic_1 rfl ?_
            refine e_g rfl ?_
            exact T
        · replace T := T.2 hA
          refine e_l rfl rfl rfl ?_
          refine e_gr rfl (g_145) rfl (r_145_10) ?_
          refine e_l rfl rfl rfl ?_
          refine e_k rfl rfl rfl ic_1 ?_
          refine e_p rfl rfl rfl ?_
          refine e_k rfl rfl rfl ib_10 ?_
          refine e_l rfl rfl rfl ?_
          refine e_p rfl rfl rfl ?_
          refine e_as rfl (g_153) T.1 ?_
          replace T := T.2
          refine e_g rfl ?_
          refine e_ic (v := (v2 + 1)) (L' := [some (.ref 145), some (.int v1), some (.int (v2 + 1)), some (.int y3_1), some (.int x_2), some (.int y5_5)]) rfl rfl rfl ic_1 rfl ?_
          refine e_g rfl ?_
          exact T
      · replace T := T.2 hA
        refine e_l rfl rfl rfl ?_
        refine e_gr rfl (g_145) rfl (r_145_10) ?_
        refine e_l rfl rfl rfl ?_
        refine e_l rfl rfl rfl ?_
        refine e_as rfl (g_153) T.1 ?_
        replace T := T.2
        refine e_g rfl ?_
        refine e_ic (v := (v2 + 1)) (L' := [some (.ref 145), some (.int v1), some (.int (v2 + 1)), some (.int y3_1), some (.int x_2), some (.int y5_5)]) rfl rfl rfl ic_1 rfl ?_
        refine e_g rfl ?_
        exact T
    · replace T := T.2 hA
      refine e_l rfl rfl rfl ?_
      refine e_k rfl rfl rfl ic_0 ?_
      refine e_pi rfl (g_145) rfl ?_
      refine e_l rfl rfl rfl ?_
      exact e_ri rfl rfl ⟨_, rfl, T⟩
set_option maxRecDepth 10000 in
set_option maxHeartbeats 4000000 in
theorem vc_X11_fault {X : mm_X} {d : Nat} {I : tI} {J : tJ} {P : Int32 → tI → tJ → Prop} {v1 : Int32}  (T : EI X d n_X11_isTwo [.int v1] I J (fun x_1 I_2 J_3 => (x_1 ≠ 0 → ((v1 ≠ 0 → (EI X d n_X11_readsSlices [.ref 145] I_2 J_3 (fun x_4 I_5 J_6 => P x_4 I_5 J_6))) ∧ (¬ (v1 ≠ 0) → (EI X d n_X11_readsRack [.ref 145] I_2 J_3 (fun x_7 I_8 J_9 => P x_7 I_8 J_9))))) ∧ (¬ (x_1 ≠ 0) → (P (-2) I_2 J_3)))) : EI X (d + 1) n_X11_fault [.ref 145, .int v1] I J P := by
  refine ⟨M_X11_fault, tb_X11_fault, Nat.le_of_ble_eq_true rfl, ?_⟩
  show Er X (d + 1) M_X11_fault 0 [some (.ref 145), some (.int v1)] [] I J (qI P)
  refine e_l rfl rfl rfl ?_
  refine e_csI (as := [.int v1]) (rs := []) rfl rfl rfl T (fun x_1 I_2 J_3 T => ?_)
  try dsimp only at T
  refine e_b rfl rfl rfl (fun hA => ?_) (fun hA => ?_)
  · replace T := T.1 hA
    refine e_l rfl rfl rfl ?_
    refine e_b rfl rfl rfl (fun hA => ?_) (fun hA => ?_)
    · replace T := T.1 hA
      refine e_l rfl rfl rfl ?_
      refine e_cvI (as := []) (rs := []) rfl rfl (g_145) rfl T (fun x_4 I_5 J_6 T => ?_)
      try dsimp only at T
      exact e_ri rfl rfl ⟨_, rfl, T⟩
    · replace T := T.2 hA
      refine e_l rfl rfl rfl ?_
      refine e_cvI (as := []) (rs := []) rfl rfl (g_145) rfl T (fun x_7 I_8 J_9 T => ?_)
      try dsimp only at T
      refine e_g rfl ?_
      exact e_ri rfl rfl ⟨_, rfl, T⟩
  · replace T := T.2 hA
    refine e_k rfl rfl rfl ib_m2 ?_
    refine e_g rfl ?_
    exact e_ri rfl rfl ⟨_, rfl, T⟩
set_option maxRecDepth 10000 in
set_option maxHeartbeats 4000000 in
theorem vc_X11_isSlice {X : mm_X} {d : Nat} {I : tI} {J : tJ} {P : Int32 → tI → tJ → Prop} {v1 : Int32}  (T : EI X d n_X11_in [.long (Int32.toInt64 v1), .long 0, .long (Int32.toInt64 ((I 145 9) - 1))] I J (fun x_1 I_2 J_3 => (x_1 = 0 ∨ x_1 = 1) ∧ P x_1 I_2 J_3)) : EI X (d + 1) n_X11_isSlice [.ref 145, .int v1] I J P := by
  refine ⟨M_X11_isSlice, tb_X11_isSlice, Nat.le_of_ble_eq_true rfl, ?_⟩
  show Er X (d + 1) M_X11_isSlice 0 [some (.ref 145), some (.int v1)] [] I J (qI P)
  refine e_l rfl rfl rfl ?_
  refine e_p rfl rfl rfl ?_
  refine e_kl rfl rfl rfl lc_0 ?_
  refine e_l rfl rfl rfl ?_
  refine e_gi rfl (g_145) (by decide) ?_
  refine e_k rfl rfl rfl ic_1 ?_
  refine e_p rfl rfl rfl ?_
  refine e_p rfl rfl rfl ?_
  refine e_csI (as := [.long (Int32.toInt64 v1), .long 0, .long (Int32.toInt64 ((I 145 9) - 1))]) (rs := []) rfl rfl rfl T (fun x_1 I_2 J_3 T => ?_)
  try dsimp only at T
  exact e_rz rfl rfl T.1 ⟨_, rfl, T.2⟩
set_option maxRecDepth 10000 in
set_option maxHeartbeats 4000000 in
theorem vc_X11_isHour {X : mm_X} {d : Nat} {I : tI} {J : tJ} {P : Int32 → tI → tJ → Prop} {v0 : Int32}  (T : EI X d n_X11_in [.long (Int32.toInt64 v0), .long 0, .long 29] I J (fun x_1 I_2 J_3 => (x_1 = 0 ∨ x_1 = 1) ∧ P x_1 I_2 J_3)) : EI X (d + 1) n_X11_isHour [.int v0] I J P := by
  refine ⟨M_X11_isHour, tb_X11_isHour, Nat.le_of_ble_eq_true rfl, ?_⟩
  show Er X (d + 1) M_X11_isHour 0 [some (.int v0)] [] I J (qI P)
  refine e_l rfl rfl rfl ?_
  refine e_p rfl rfl rfl ?_
  refine e_kl rfl rfl rfl lc_0 ?_
  refine e_kl rfl rfl rfl lk_29 ?_
  refine e_csI (as := [.long (Int32.toInt64 v0), .long 0, .long 29]) (rs := []) rfl rfl rfl T (fun x_1 I_2 J_3 T => ?_)
  try dsimp only at T
  exact e_rz rfl rfl T.1 ⟨_, rfl, T.2⟩
set_option maxRecDepth 10000 in
set_option maxHeartbeats 4000000 in
theorem vc_X11_draws {X : mm_X} {d : Nat} {I : tI} {J : tJ} {P : Int32 → tI → tJ → Prop} {v1 : Int32}  (T : EI X d n_X11_readsRack [.ref 145] I J (fun x_1 I_2 J_3 => EI X d n_X11_in [.long (Int32.toInt64 v1), .long 0, .long (Int32.toInt64 ((I_2 145 7) - 1))] I_2 J_3 (fun x_4 I_5 J_6 => (x_4 = 0 → (P (-2) I_5 J_6)) ∧ (¬ (x_4 = 0) → (ix v1 10 ∧ (P (I_5 152 (tn v1)) I_5 J_6)))))) : EI X (d + 1) n_X11_draws [.ref 145, .int v1] I J P := by
  refine ⟨M_X11_draws, tb_X11_draws, Nat.le_of_ble_eq_true rfl, ?_⟩
  show Er X (d + 1) M_X11_draws 0 [some (.ref 145), some (.int v1)] [] I J (qI P)
  refine e_l rfl rfl rfl ?_
  refine e_cvI (as := []) (rs := []) rfl rfl (g_145) rfl T (fun x_1 I_2 J_3 T => ?_)
  try dsimp only at T
  refine e_p rfl rfl rfl ?_
  refine e_l rfl rfl rfl ?_
  refine e_p rfl rfl rfl ?_
  refine e_kl rfl rfl rfl lc_0 ?_
  refine e_l rfl rfl rfl ?_
  refine e_gi rfl (g_145) (by decide) ?_
  refine e_k rfl rfl rfl ic_1 ?_
  refine e_p rfl rfl rfl ?_
  refine e_p rfl rfl rfl ?_
  refine e_csI (as := [.long (Int32.toInt64 v1), .long 0, .long (Int32.toInt64 ((I_2 145 7) - 1))]) (rs := []) rfl rfl rfl T (fun x_4 I_5 J_6 T => ?_)
  try dsimp only at T
  refine e_b rfl rfl rfl (fun hA => ?_) (fun hA => ?_)
  · replace T := T.1 hA
    refine e_k rfl rfl rfl ib_m2 ?_
    exact e_ri rfl rfl ⟨_, rfl, T⟩
  · replace T := T.2 hA
    refine e_l rfl rfl rfl ?_
    refine e_gr rfl (g_145) rfl (r_145_8) ?_
    refine e_l rfl rfl rfl ?_
    refine e_ia rfl (g_152) T.1 ?_
    replace T := T.2
    refine e_g rfl ?_
    exact e_ri rfl rfl ⟨_, rfl, T⟩
set_option maxRecDepth 10000 in
set_option maxHeartbeats 4000000 in
theorem vc_X11_slice {X : mm_X} {d : Nat} {I : tI} {J : tJ} {P : Int32 → tI → tJ → Prop} {v1 : Int32} {v2 : Int32}  (T : EI X d n_X11_readsSlices [.ref 145] I J (fun x_1 I_2 J_3 => EI X d n_X11_isSlice [.ref 145, .int v1] I_2 J_3 (fun x_4 I_5 J_6 => (x_4 = 0 → (P (-2) I_5 J_6)) ∧ (¬ (x_4 = 0) → (EI X d n_X11_in [.long (Int32.toInt64 v2), .long 0, .long 2] I_5 J_6 (fun x_7 I_8 J_9 => (x_7 = 0 → (P (-2) I_8 J_9)) ∧ (¬ (x_7 = 0) → (ix ((3 * v1) + v2) 24 ∧ (P (I_8 153 (tn ((3 * v1) + v2))) I_8 J_9))))))))) : EI X (d + 1) n_X11_slice [.ref 145, .int v1, .int v2] I J P := by
  refine ⟨M_X11_slice, tb_X11_slice, Nat.le_of_ble_eq_true rfl, ?_⟩
  show Er X (d + 1) M_X11_slice 0 [some (.ref 145), some (.int v1), some (.int v2)] [] I J (qI P)
  refine e_l rfl rfl rfl ?_
  refine e_cvI (as := []) (rs := []) rfl rfl (g_145) rfl T (fun x_1 I_2 J_3 T => ?_)
  try dsimp only at T
  refine e_p rfl rfl rfl ?_
  refine e_l rfl rfl rfl ?_
  refine e_l rfl rfl rfl ?_
  refine e_cvI (as := [.int v1]) (rs := []) rfl rfl (g_145) rfl T (fun x_4 I_5 J_6 T => ?_)
  try dsimp only at T
  refine e_b rfl rfl rfl (fun hA => ?_) (fun hA => ?_)
  · replace T := T.1 hA
    refine e_k rfl rfl rfl ib_m2 ?_
    exact e_ri rfl rfl ⟨_, rfl, T⟩
  · replace T := T.2 hA
    refine e_l rfl rfl rfl ?_
    refine e_p rfl rfl rfl ?_
    refine e_kl rfl rfl rfl lc_0 ?_
    refine e_kl rfl rfl rfl lk_2 ?_
    refine e_csI (as := [.long (Int32.toInt64 v2), .long 0, .long 2]) (rs := []) rfl rfl rfl T (fun x_7 I_8 J_9 T => ?_)
    try dsimp only at T
    refine e_b rfl rfl rfl (fun hA => ?_) (fun hA => ?_)
    · replace T := T.1 hA
      refine e_k rfl rfl rfl ib_m2 ?_
      exact e_ri rfl rfl ⟨_, rfl, T⟩
    · replace T := T.2 hA
      refine e_l rfl rfl rfl ?_
      refine e_gr rfl (g_145) rfl (r_145_10) ?_
      refine e_k rfl rfl rfl ic_3 ?_
      refine e_l rfl rfl rfl ?_
      refine e_p rfl rfl rfl ?_
      refine e_l rfl rfl rfl ?_
      refine e_p rfl rfl rfl ?_
      refine e_ia rfl (g_153) T.1 ?_
      replace T := T.2
      refine e_g rfl ?_
      exact e_ri rfl rfl ⟨_, rfl, T⟩
set_option maxRecDepth 10000 in
set_option maxHeartbeats 4000000 in
theorem vc_X11_set {X : mm_X} {d : Nat} {I : tI} {J : tJ} {P : Int32 → tI → tJ → Prop} {v1 : Int32} {v2 : Int32}  (T : EI X d n_X11_in [.long (Int32.toInt64 v1), .long 0, .long 2] I J (fun x_1 I_2 J_3 => (x_1 = 0 → (P (-2) I_2 J_3)) ∧ (¬ (x_1 = 0) → ((v1 ≠ 0 → ((v1 ≠ 1 → (Er X (d + 1) M_X11_set 19 [some (.ref 145), some (.int v1), some (.int v2), none] [.long 99, .long 0, .long (Int32.toInt64 v2)] I_2 J_3 (qI P))) ∧ (¬ (v1 ≠ 1) → (Er X (d + 1) M_X11_set 19 [some (.ref 145), some (.int v1), some (.int v2), none] [.long 9, .long 0, .long (Int32.toInt64 v2)] I_2 J_3 (qI P))))) ∧ (¬ (v1 ≠ 0) → (Er X (d + 1) M_X11_set 19 [some (.ref 145), some (.int v1), some (.int v2), none] [.long 30, .long 0, .long (Int32.toInt64 v2)] I_2 J_3 (qI P))))))) : EI X (d + 1) n_X11_set [.ref 145, .int v1, .int v2] I J P := by
  refine ⟨M_X11_set, tb_X11_set, Nat.le_of_ble_eq_true rfl, ?_⟩
  show Er X (d + 1) M_X11_set 0 [some (.ref 145), some (.int v1), some (.int v2), none] [] I J (qI P)
  refine e_l rfl rfl rfl ?_
  refine e_p rfl rfl rfl ?_
  refine e_kl rfl rfl rfl lc_0 ?_
  refine e_kl rfl rfl rfl lk_2 ?_
  refine e_csI (as := [.long (Int32.toInt64 v1), .long 0, .long 2]) (rs := []) rfl rfl rfl T (fun x_1 I_2 J_3 T => ?_)
  try dsimp only at T
  refine e_b rfl rfl rfl (fun hA => ?_) (fun hA => ?_)
  · replace T := T.1 hA
    refine e_k rfl rfl rfl ib_m2 ?_
    exact e_ri rfl rfl ⟨_, rfl, T⟩
  · replace T := T.2 hA
    refine e_l rfl rfl rfl ?_
    refine e_p rfl rfl rfl ?_
    refine e_kl rfl rfl rfl lc_0 ?_
    refine e_l rfl rfl rfl ?_
    refine e_b rfl rfl rfl (fun hA => ?_) (fun hA => ?_)
    · replace T := T.1 hA
      refine e_l rfl rfl rfl ?_
      refine e_k rfl rfl rfl ic_1 ?_
      refine e_b rfl rfl rfl (fun hA => ?_) (fun hA => ?_)
      · replace T := T.1 hA
        refine e_kl rfl rfl rfl lk_99 ?_
        exact T
      · replace T := T.2 hA
        refine e_kl rfl rfl rfl lk_9 ?_
        refine e_g rfl ?_
        exact T
    · replace T := T.2 hA
      refine e_kl rfl rfl rfl lk_30 ?_
      refine e_g rfl ?_
      exact T
set_option maxRecDepth 10000 in
set_option maxHeartbeats 4000000 in
theorem vc_X11_set_19 {X : mm_X} {d : Nat} {I : tI} {J : tJ} {P : Int32 → tI → tJ → Prop} {v1 : Int32} {v2 : Int32} {s0 : Int64} {s1 : Int64} {s2 : Int64}  (T : EI X d n_X11_in [.long s0, .long s1, .long s2] I J (fun x_1 I_2 J_3 => (x_1 ≠ 0 → (ix v1 3 ∧ (∀ y3_4 : Int32, y3_4 = (I_2 154 (tn v1)) → (ix v1 3 ∧ (P y3_4 (mm_u I_2 154 (tn v1) v2) J_3))))) ∧ (¬ (x_1 ≠ 0) → (P (-2) I_2 J_3)))) : Er X (d + 1) M_X11_set 19 [some (.ref 145), some (.int v1), some (.int v2), none] [.long s2, .long s1, .long s0] I J (qI P) := by
  refine e_csI (as := [.long s0, .long s1, .long s2]) (rs := []) rfl rfl rfl T (fun x_1 I_2 J_3 T => ?_)
  try dsimp only at T
  refine e_b rfl rfl rfl (fun hA => ?_) (fun hA => ?_)
  · replace T := T.1 hA
    refine e_l rfl rfl rfl ?_
    refine e_gr rfl (g_145) rfl (r_145_11) ?_
    refine e_l rfl rfl rfl ?_
    refine e_ia rfl (g_154) T.1 ?_
    replace T := T.2
    refine e_si (Lf := fun y3_4 => [some (.ref 145), some (.int v1), some (.int v2), some (.int y3_4)]) rfl rfl rfl (fun y3_4 hy3_4 => ?_)
    replace T := T y3_4 hy3_4
    refine e_l rfl rfl rfl ?_
    refine e_gr rfl (g_145) rfl (r_145_11) ?_
    refine e_l rfl rfl rfl ?_
    refine e_l rfl rfl rfl ?_
    refine e_as rfl (g_154) T.1 ?_
    replace T := T.2
    refine e_l rfl rfl rfl ?_
    exact e_ri rfl rfl ⟨_, rfl, T⟩
  · replace T := T.2 hA
    refine e_k rfl rfl rfl ib_m2 ?_
    exact e_ri rfl rfl ⟨_, rfl, T⟩
set_option maxRecDepth 10000 in
set_option maxHeartbeats 4000000 in
theorem vc_X11_butter {X : mm_X} {d : Nat} {I : tI} {J : tJ} {P : Int32 → tI → tJ → Prop} {v1 : Int32} {v2 : Int32}  (T : EI X d n_X11_isHour [.int v1] I J (fun x_1 I_2 J_3 => (x_1 = 0 → (P (-2) I_2 J_3)) ∧ (¬ (x_1 = 0) → (EI X d n_X11_in [.long (Int32.toInt64 v2), .long 0, .long 7] I_2 J_3 (fun x_4 I_5 J_6 => (x_4 ≠ 0 → (((I_5 145 12) ≠ 8 → (ix (2 * (I_5 145 12)) 16 ∧ (ix ((2 * ((mm_u I_5 155 (tn (2 * (I_5 145 12))) v1) 145 12)) + 1) 16 ∧ (P ((mm_u (mm_u (mm_u I_5 155 (tn (2 * (I_5 145 12))) v1) 155 (tn ((2 * ((mm_u I_5 155 (tn (2 * (I_5 145 12))) v1) 145 12)) + 1)) v2) 145 12 (((mm_u (mm_u I_5 155 (tn (2 * (I_5 145 12))) v1) 155 (tn ((2 * ((mm_u I_5 155 (tn (2 * (I_5 145 12))) v1) 145 12)) + 1)) v2) 145 12) + 1)) 145 12) (mm_u (mm_u (mm_u I_5 155 (tn (2 * (I_5 145 12))) v1) 155 (tn ((2 * ((mm_u I_5 155 (tn (2 * (I_5 145 12))) v1) 145 12)) + 1)) v2) 145 12 (((mm_u (mm_u I_5 155 (tn (2 * (I_5 145 12))) v1) 155 (tn ((2 * ((mm_u I_5 155 (tn (2 * (I_5 145 12))) v1) 145 12)) + 1)) v2) 145 12) + 1)) J_6)))) ∧ (¬ ((I_5 145 12) ≠ 8) → (P (-4) I_5 J_6)))) ∧ (¬ (x_4 ≠ 0) → (P (-2) I_5 J_6))))))) : EI X (d + 1) n_X11_butter [.ref 145, .int v1, .int v2] I J P := by
  refine ⟨M_X11_butter, tb_X11_butter, Nat.le_of_ble_eq_true rfl, ?_⟩
  show Er X (d + 1) M_X11_butter 0 [some (.ref 145), some (.int v1), some (.int v2)] [] I J (qI P)
  refine e_l rfl rfl rfl ?_
  refine e_csI (as := [.int v1]) (rs := []) rfl rfl rfl T (fun x_1 I_2 J_3 T => ?_)
  try dsimp only at T
  refine e_b rfl rfl rfl (fun hA => ?_) (fun hA => ?_)
  · replace T := T.1 hA
    refine e_k rfl rfl rfl ib_m2 ?_
    exact e_ri rfl rfl ⟨_, rfl, T⟩
  · replace T := T.2 hA
    refine e_l rfl rfl rfl ?_
    refine e_p rfl rfl rfl ?_
    refine e_kl rfl rfl rfl lc_0 ?_
    refine e_kl rfl rfl rfl lk_7 ?_
    refine e_csI (as := [.long (Int32.toInt64 v2), .long 0, .long 7]) (rs := []) rfl rfl rfl T (fun x_4 I_5 J_6 T => ?_)
    try dsimp only at T
    refine e_b rfl rfl rfl (fun hA => ?_) (fun hA => ?_)
    · replace T := T.1 hA
      refine e_l rfl rfl rfl ?_
      refine e_gi rfl (g_145) (by decide) ?_
      refine e_k rfl rfl rfl ib_8 ?_
      refine e_b rfl rfl rfl (fun hA => ?_) (fun hA => ?_)
      · replace T := T.1 hA
        refine e_l rfl rfl rfl ?_
        refine e_gr rfl (g_145) rfl (r_145_13) ?_
        refine e_k rfl rfl rfl ic_2 ?_
        refine e_l rfl rfl rfl ?_
        refine e_gi rfl (g_145) (by decide) ?_
        refine e_p rfl rfl rfl ?_
        refine e_l rfl rfl rfl ?_
        refine e_as rfl (g_155) T.1 ?_
        replace T := T.2
        refine e_l rfl rfl rfl ?_
        refine e_gr rfl (g_145) rfl (r_145_13) ?_
        refine e_k rfl rfl rfl ic_2 ?_
        refine e_l rfl rfl rfl ?_
        refine e_gi rfl (g_145) (by decide) ?_
        refine e_p rfl rfl rfl ?_
        refine e_k rfl rfl rfl ic_1 ?_
        refine e_p rfl rfl rfl ?_
        refine e_l rfl rfl rfl ?_
        refine e_as rfl (g_155) T.1 ?_
        replace T := T.2
        refine e_l rfl rfl rfl ?_
        refine e_p rfl rfl rfl ?_
        refine e_gi rfl (g_145) (by decide) ?_
        refine e_k rfl rfl rfl ic_1 ?_
        refine e_p rfl rfl rfl ?_
        refine e_pi rfl (g_145) rfl ?_
        refine e_l rfl rfl rfl ?_
        refine e_gi rfl (g_145) (by decide) ?_
        exact e_ri rfl rfl ⟨_, rfl, T⟩
      · replace T := T.2 hA
        refine e_k rfl rfl rfl ib_m4 ?_
        exact e_ri rfl rfl ⟨_, rfl, T⟩
    · replace T := T.2 hA
      refine e_k rfl rfl rfl ib_m2 ?_
      exact e_ri rfl rfl ⟨_, rfl, T⟩
set_option maxRecDepth 10000 in
set_option maxHeartbeats 4000000 in
theorem vc_X11_fire {X : mm_X} {d : Nat} {I : tI} {J : tJ} {P : Int32 → tI → tJ → Prop} {v1 : Int32}  (T : EI X d n_X11_isHour [.int v1] I J (fun x_1 I_2 J_3 => (x_1 ≠ 0 → (((I_2 145 14) ≠ 4 → (ix (I_2 145 14) 4 ∧ (P ((mm_u (mm_u I_2 156 (tn (I_2 145 14)) v1) 145 14 (((mm_u I_2 156 (tn (I_2 145 14)) v1) 145 14) + 1)) 145 14) (mm_u (mm_u I_2 156 (tn (I_2 145 14)) v1) 145 14 (((mm_u I_2 156 (tn (I_2 145 14)) v1) 145 14) + 1)) J_3))) ∧ (¬ ((I_2 145 14) ≠ 4) → (P (-4) I_2 J_3)))) ∧ (¬ (x_1 ≠ 0) → (P (-2) I_2 J_3)))) : EI X (d + 1) n_X11_fire [.ref 145, .int v1] I J P := by
  refine ⟨M_X11_fire, tb_X11_fire, Nat.le_of_ble_eq_true rfl, ?_⟩
  show Er X (d + 1) M_X11_fire 0 [some (.ref 145), some (.int v1)] [] I J (qI P)
  refine e_l rfl rfl rfl ?_
  refine e_csI (as := [.int v1]) (rs := []) rfl rfl rfl T (fun x_1 I_2 J_3 T => ?_)
  try dsimp only at T
  refine e_b rfl rfl rfl (fun hA => ?_) (fun hA => ?_)
  · replace T := T.1 hA
    refine e_l rfl rfl rfl ?_
    refine e_gi rfl (g_145) (by decide) ?_
    refine e_k rfl rfl rfl ic_4 ?_
    refine e_b rfl rfl rfl (fun hA => ?_) (fun hA => ?_)
    · replace T := T.1 hA
      refine e_l rfl rfl rfl ?_
      refine e_gr rfl (g_145) rfl (r_145_15) ?_
      refine e_l rfl rfl rfl ?_
      refine e_gi rfl (g_145) (by decide) ?_
      refine e_l rfl rfl rfl ?_
      refine e_as rfl (g_156) T.1 ?_
      replace T := T.2
      refine e_l rfl rfl rfl ?_
      refine e_p rfl rfl rfl ?_
      refine e_gi rfl (g_145) (by decide) ?_
      refine e_k rfl rfl rfl ic_1 ?_
      refine e_p rfl rfl rfl ?_
      refine e_pi rfl (g_145) rfl ?_
      refine e_l rfl rfl rfl ?_
      refine e_gi rfl (g_145) (by decide) ?_
      exact e_ri rfl rfl ⟨_, rfl, T⟩
    · replace T := T.2 hA
      refine e_k rfl rfl rfl ib_m4 ?_
      exact e_ri rfl rfl ⟨_, rfl, T⟩
  · replace T := T.2 hA
    refine e_k rfl rfl rfl ib_m2 ?_
    exact e_ri rfl rfl ⟨_, rfl, T⟩
set_option maxRecDepth 10000 in
set_option maxHeartbeats 4000000 in
theorem vc_X11_back {X : mm_X} {d : Nat} {I : tI} {J : tJ} {P : Int32 → tI → tJ → Prop} {v1 : Int32}  (T : EI X d n_X11_isTwo [.int v1] I J (fun x_1 I_2 J_3 => (x_1 ≠ 0 → ((v1 ≠ 0 → (Er X (d + 1) M_X11_back 12 [some (.ref 145), some (.int v1), none] [.int (I_2 145 14)] I_2 J_3 (qI P))) ∧ (¬ (v1 ≠ 0) → (Er X (d + 1) M_X11_back 12 [some (.ref 145), some (.int v1), none] [.int (I_2 145 12)] I_2 J_3 (qI P))))) ∧ (¬ (x_1 ≠ 0) → (P (-2) I_2 J_3)))) : EI X (d + 1) n_X11_back [.ref 145, .int v1] I J P := by
  refine ⟨M_X11_back, tb_X11_back, Nat.le_of_ble_eq_true rfl, ?_⟩
  show Er X (d + 1) M_X11_back 0 [some (.ref 145), some (.int v1), none] [] I J (qI P)
  refine e_l rfl rfl rfl ?_
  refine e_csI (as := [.int v1]) (rs := []) rfl rfl rfl T (fun x_1 I_2 J_3 T => ?_)
  try dsimp only at T
  refine e_b rfl rfl rfl (fun hA => ?_) (fun hA => ?_)
  · replace T := T.1 hA
    refine e_l rfl rfl rfl ?_
    refine e_b rfl rfl rfl (fun hA => ?_) (fun hA => ?_)
    · replace T := T.1 hA
      refine e_l rfl rfl rfl ?_
      refine e_gi rfl (g_145) (by decide) ?_
      exact T
    · replace T := T.2 hA
      refine e_l rfl rfl rfl ?_
      refine e_gi rfl (g_145) (by decide) ?_
      refine e_g rfl ?_
      exact T
  · replace T := T.2 hA
    refine e_k rfl rfl rfl ib_m2 ?_
    exact e_ri rfl rfl ⟨_, rfl, T⟩
set_option maxRecDepth 10000 in
set_option maxHeartbeats 4000000 in
theorem vc_X11_back_12 {X : mm_X} {d : Nat} {I : tI} {J : tJ} {P : Int32 → tI → tJ → Prop} {v1 : Int32} {s0 : Int32}  (T : (s0 ≠ 0 → ((v1 ≠ 0 → (Er X (d + 1) M_X11_back 25 [some (.ref 145), some (.int v1), some (.int s0)] [.int 0, .int (I 145 12), .ref 145] I J (qI P))) ∧ (¬ (v1 ≠ 0) → (Er X (d + 1) M_X11_back 25 [some (.ref 145), some (.int v1), some (.int s0)] [.int 1, .int (I 145 12), .ref 145] I J (qI P))))) ∧ (¬ (s0 ≠ 0) → (P (-3) I J))) : Er X (d + 1) M_X11_back 12 [some (.ref 145), some (.int v1), none] [.int s0] I J (qI P) := by
  refine e_l (L' := [some (.ref 145), some (.int v1), some (.int s0)]) rfl rfl rfl ?_
  refine e_l rfl rfl rfl ?_
  refine e_b rfl rfl rfl (fun hA => ?_) (fun hA => ?_)
  · replace T := T.1 hA
    refine e_l rfl rfl rfl ?_
    refine e_p rfl rfl rfl ?_
    refine e_gi rfl (g_145) (by decide) ?_
    refine e_l rfl rfl rfl ?_
    refine e_b rfl rfl rfl (fun hA => ?_) (fun hA => ?_)
    · replace T := T.1 hA
      refine e_k rfl rfl rfl ic_0 ?_
      exact T
    · replace T := T.2 hA
      refine e_k rfl rfl rfl ic_1 ?_
      refine e_g rfl ?_
      exact T
  · replace T := T.2 hA
    refine e_k rfl rfl rfl ib_m3 ?_
    exact e_ri rfl rfl ⟨_, rfl, T⟩
set_option maxRecDepth 10000 in
set_option maxHeartbeats 4000000 in
theorem vc_X11_back_25 {X : mm_X} {d : Nat} {I : tI} {J : tJ} {P : Int32 → tI → tJ → Prop} {v1 : Int32} {v2 : Int32} {s1 : Int32} {s2 : Int32}  (T : P (v2 - 1) (mm_u (mm_u I 145 12 (s1 - s2)) 145 14 (((mm_u I 145 12 (s1 - s2)) 145 14) - v1)) J) : Er X (d + 1) M_X11_back 25 [some (.ref 145), some (.int v1), some (.int v2)] [.int s2, .int s1, .ref 145] I J (qI P) := by
  refine e_p rfl rfl rfl ?_
  refine e_pi rfl (g_145) rfl ?_
  refine e_l rfl rfl rfl ?_
  refine e_p rfl rfl rfl ?_
  refine e_gi rfl (g_145) (by decide) ?_
  refine e_l rfl rfl rfl ?_
  refine e_p rfl rfl rfl ?_
  refine e_pi rfl (g_145) rfl ?_
  refine e_l rfl rfl rfl ?_
  refine e_k rfl rfl rfl ic_1 ?_
  refine e_p rfl rfl rfl ?_
  exact e_ri rfl rfl ⟨_, rfl, T⟩
set_option maxRecDepth 10000 in
set_option maxHeartbeats 4000000 in
theorem vc_X11_read {X : mm_X} {d : Nat} {I : tI} {J : tJ} {P : Int32 → tI → tJ → Prop} {v1 : Int32}  (T : EI X d n_X11_isSheet [.int v1] I J (fun x_1 I_2 J_3 => (x_1 ≠ 0 → (ix v1 4 ∧ ((0 ≤ (I_2 146 (tn v1)) → (Er X (d + 1) M_X11_read 18 [some (.ref 145), some (.int v1), some (.int 0), some (.int 1)] [] I_2 J_3 (qI P))) ∧ (¬ (0 ≤ (I_2 146 (tn v1))) → (EI X d n_X11_finds [.ref 145, .int 1] I_2 J_3 (fun x_4 I_5 J_6 => P x_4 I_5 J_6)))))) ∧ (¬ (x_1 ≠ 0) → (P (-2) I_2 J_3)))) : EI X (d + 1) n_X11_read [.ref 145, .int v1] I J P := by
  refine ⟨M_X11_read, tb_X11_read, Nat.le_of_ble_eq_true rfl, ?_⟩
  show Er X (d + 1) M_X11_read 0 [some (.ref 145), some (.int v1), none, none] [] I J (qI P)
  refine e_l rfl rfl rfl ?_
  refine e_csI (as := [.int v1]) (rs := []) rfl rfl rfl T (fun x_1 I_2 J_3 T => ?_)
  try dsimp only at T
  refine e_b rfl rfl rfl (fun hA => ?_) (fun hA => ?_)
  · replace T := T.1 hA
    refine e_l rfl rfl rfl ?_
    refine e_gr rfl (g_145) rfl (r_145_0) ?_
    refine e_l rfl rfl rfl ?_
    refine e_ia rfl (g_146) T.1 ?_
    replace T := T.2
    refine e_b rfl rfl rfl (fun hA => ?_) (fun hA => ?_)
    · replace T := T.1 hA
      refine e_k rfl rfl rfl ic_0 ?_
      refine e_l (L' := [some (.ref 145), some (.int v1), some (.int 0), none]) rfl rfl rfl ?_
      refine e_k rfl rfl rfl ic_1 ?_
      refine e_l (L' := [some (.ref 145), some (.int v1), some (.int 0), some (.int 1)]) rfl rfl rfl ?_
      exact T
    · replace T := T.2 hA
      refine e_l rfl rfl rfl ?_
      refine e_k rfl rfl rfl ic_1 ?_
      refine e_cvI (as := [.int 1]) (rs := []) rfl rfl (g_145) rfl T (fun x_4 I_5 J_6 T => ?_)
      try dsimp only at T
      exact e_ri rfl rfl ⟨_, rfl, T⟩
  · replace T := T.2 hA
    refine e_k rfl rfl rfl ib_m2 ?_
    exact e_ri rfl rfl ⟨_, rfl, T⟩
set_option maxRecDepth 10000 in
set_option maxHeartbeats 4000000 in
theorem vc_X11_read_18 {X : mm_X} {d : Nat} {I : tI} {J : tJ} {P : Int32 → tI → tJ → Prop} {v1 : Int32} {v2 : Int32} {v3 : Int32}  (T : (v3 = 0 → (P v2 I J)) ∧ (¬ (v3 = 0) → (ix v1 4 ∧ (((I 147 (tn v1)) < ((2 * v2) + 2) → (P v2 I J)) ∧ (¬ ((I 147 (tn v1)) < ((2 * v2) + 2)) → (ix ((60 * v1) + (2 * v2)) 240 ∧ (ix (((60 * v1) + (2 * v2)) + 1) 240 ∧ (EI X d n_X11_butter [.ref 145, .int (I 148 (tn ((60 * v1) + (2 * v2)))), .int (I 148 (tn (((60 * v1) + (2 * v2)) + 1)))] I J (fun x_1 I_2 J_3 => (x_1 < 0 → (Er X (d + 1) M_X11_read 58 [some (.ref 145), some (.int v1), some (.int v2), some (.int v3)] [.int 0] I_2 J_3 (qI P))) ∧ (¬ (x_1 < 0) → (Er X (d + 1) M_X11_read 58 [some (.ref 145), some (.int v1), some (.int v2), some (.int v3)] [.int 1] I_2 J_3 (qI P)))))))))))) : Er X (d + 1) M_X11_read 18 [some (.ref 145), some (.int v1), some (.int v2), some (.int v3)] [] I J (qI P) := by
  refine e_l rfl rfl rfl ?_
  refine e_b rfl rfl rfl (fun hA => ?_) (fun hA => ?_)
  · replace T := T.1 hA
    refine e_l rfl rfl rfl ?_
    exact e_ri rfl rfl ⟨_, rfl, T⟩
  · replace T := T.2 hA
    refine e_k rfl rfl rfl ic_2 ?_
    refine e_l rfl rfl rfl ?_
    refine e_p rfl rfl rfl ?_
    refine e_k rfl rfl rfl ic_2 ?_
    refine e_p rfl rfl rfl ?_
    refine e_l rfl rfl rfl ?_
    refine e_gr rfl (g_145) rfl (r_145_1) ?_
    refine e_l rfl rfl rfl ?_
    refine e_ia rfl (g_147) T.1 ?_
    replace T := T.2
    refine e_b rfl rfl rfl (fun hA => ?_) (fun hA => ?_)
    · replace T := T.1 hA
      refine e_l rfl rfl rfl ?_
      exact e_ri rfl rfl ⟨_, rfl, T⟩
    · replace T := T.2 hA
      refine e_l rfl rfl rfl ?_
      refine e_l rfl rfl rfl ?_
      refine e_gr rfl (g_145) rfl (r_145_2) ?_
      refine e_k rfl rfl rfl ib_60 ?_
      refine e_l rfl rfl rfl ?_
      refine e_p rfl rfl rfl ?_
      refine e_k rfl rfl rfl ic_2 ?_
      refine e_l rfl rfl rfl ?_
      refine e_p rfl rfl rfl ?_
      refine e_p rfl rfl rfl ?_
      refine e_ia rfl (g_148) T.1 ?_
      replace T := T.2
      refine e_l rfl rfl rfl ?_
      refine e_gr rfl (g_145) rfl (r_145_2) ?_
      refine e_k rfl rfl rfl ib_60 ?_
      refine e_l rfl rfl rfl ?_
      refine e_p rfl rfl rfl ?_
      refine e_k rfl rfl rfl ic_2 ?_
      refine e_l rfl rfl rfl ?_
      refine e_p rfl rfl rfl ?_
      refine e_p rfl rfl rfl ?_
      refine e_k rfl rfl rfl ic_1 ?_
      refine e_p rfl rfl rfl ?_
      refine e_ia rfl (g_148) T.1 ?_
      replace T := T.2
      refine e_cvI (as := [.int (I 148 (tn ((60 * v1) + (2 * v2)))), .int (I 148 (tn (((60 * v1) + (2 * v2)) + 1)))]) (rs := []) rfl rfl (g_145) rfl T (fun x_1 I_2 J_3 T => ?_)
      try dsimp only at T
      refine e_b rfl rfl rfl (fun hA => ?_) (fun hA => ?_)
      · replace T := T.1 hA
        refine e_k rfl rfl rfl ic_0 ?_
        exact T
      · replace T := T.2 hA
        refine e_k rfl rfl rfl ic_1 ?_
        refine e_g rfl ?_
        exact T
set_option maxRecDepth 10000 in
set_option maxHeartbeats 4000000 in
theorem vc_X11_read_58 {X : mm_X} {d : Nat} {I : tI} {J : tJ} {P : Int32 → tI → tJ → Prop} {v1 : Int32} {v2 : Int32} {v3 : Int32} {s0 : Int32}  (T : (s0 = 0 → (∀ y2_1 : Int32, y2_1 = (v2 + 0) → (Er X (d + 1) M_X11_read 18 [some (.ref 145), some (.int v1), some (.int y2_1), some (.int s0)] [] I J (qI P)))) ∧ (¬ (s0 = 0) → (∀ y2_2 : Int32, y2_2 = (v2 + 1) → (Er X (d + 1) M_X11_read 18 [some (.ref 145), some (.int v1), some (.int y2_2), some (.int s0)] [] I J (qI P))))) : Er X (d + 1) M_X11_read 58 [some (.ref 145), some (.int v1), some (.int v2), some (.int v3)] [.int s0] I J (qI P) := by
  refine e_l (L' := [some (.ref 145), some (.int v1), some (.int v2), some (.int s0)]) rfl rfl rfl ?_
  refine e_l rfl rfl rfl ?_
  refine e_l rfl rfl rfl ?_
  refine e_b rfl rfl rfl (fun hA => ?_) (fun hA => ?_)
  · replace T := T.1 hA
    refine e_k rfl rfl rfl ic_0 ?_
    refine e_p rfl rfl rfl ?_
    refine e_si (Lf := fun y2_1 => [some (.ref 145), some (.int v1), some (.int y2_1), some (.int s0)]) rfl rfl rfl (fun y2_1 hy2_1 => ?_)
    replace T := T y2_1 hy2_1
    refine e_g rfl ?_
    exact T
  · replace T := T.2 hA
    refine e_k rfl rfl rfl ic_1 ?_
    refine e_g rfl ?_
    refine e_p rfl rfl rfl ?_
    refine e_si (Lf := fun y2_2 => [some (.ref 145), some (.int v1), some (.int y2_2), some (.int s0)]) rfl rfl rfl (fun y2_2 hy2_2 => ?_)
    replace T := T y2_2 hy2_2
    refine e_g rfl ?_
    exact T
set_option maxRecDepth 10000 in
set_option maxHeartbeats 4000000 in
theorem vc_X11_isHere {X : mm_X} {d : Nat} {I : tI} {J : tJ} {P : Int32 → tI → tJ → Prop} {v1 : Int32}  (T : ix v1 8 ∧ ((2 ≤ (I 158 (tn v1)) → (P 0 I J)) ∧ (¬ (2 ≤ (I 158 (tn v1))) → (P 1 I J)))) : EI X d n_X11_isHere [.ref 145, .int v1] I J P := by
  refine ⟨M_X11_isHere, tb_X11_isHere, Nat.le_of_ble_eq_true rfl, ?_⟩
  show Er X d M_X11_isHere 0 [some (.ref 145), some (.int v1)] [] I J (qI P)
  refine e_l rfl rfl rfl ?_
  refine e_gr rfl (g_145) rfl (r_145_17) ?_
  refine e_l rfl rfl rfl ?_
  refine e_ia rfl (g_158) T.1 ?_
  replace T := T.2
  refine e_k rfl rfl rfl ic_2 ?_
  refine e_b rfl rfl rfl (fun hA => ?_) (fun hA => ?_)
  · replace T := T.1 hA
    refine e_k rfl rfl rfl ic_0 ?_
    exact e_rz rfl rfl (by decide) ⟨_, rfl, T⟩
  · replace T := T.2 hA
    refine e_k rfl rfl rfl ic_1 ?_
    refine e_g rfl ?_
    exact e_rz rfl rfl (by decide) ⟨_, rfl, T⟩
set_option maxRecDepth 10000 in
set_option maxHeartbeats 4000000 in
theorem vc_X11_standingIn {X : mm_X} {d : Nat} {I : tI} {J : tJ} {P : Int32 → tI → tJ → Prop} {v1 : Int32}  (T : Er X d M_X11_standingIn 2 [some (.ref 145), some (.int v1), some (.int 0)] [] I J (qI P)) : EI X d n_X11_standingIn [.ref 145, .int v1] I J P := by
  refine ⟨M_X11_standingIn, tb_X11_standingIn, Nat.le_of_ble_eq_true rfl, ?_⟩
  show Er X d M_X11_standingIn 0 [some (.ref 145), some (.int v1), none] [] I J (qI P)
  refine e_k rfl rfl rfl ic_0 ?_
  refine e_l (L' := [some (.ref 145), some (.int v1), some (.int 0)]) rfl rfl rfl ?_
  exact T
set_option maxRecDepth 10000 in
set_option maxHeartbeats 4000000 in
theorem vc_X11_standingIn_2 {X : mm_X} {d : Nat} {I : tI} {J : tJ} {P : Int32 → tI → tJ → Prop} {v1 : Int32} {v2 : Int32}  (T : ((I 145 9) ≤ v2 → (P (-1) I J)) ∧ (¬ ((I 145 9) ≤ v2) → (ix v2 8 ∧ (((I 158 (tn v2)) ≠ 1 → (Er X d M_X11_standingIn 2 [some (.ref 145), some (.int v1), some (.int (v2 + 1))] [] I J (qI P))) ∧ (¬ ((I 158 (tn v2)) ≠ 1) → (ix ((3 * v2) + 2) 24 ∧ (((I 153 (tn ((3 * v2) + 2))) ≠ v1 → (Er X d M_X11_standingIn 2 [some (.ref 145), some (.int v1), some (.int (v2 + 1))] [] I J (qI P))) ∧ (¬ ((I 153 (tn ((3 * v2) + 2))) ≠ v1) → (P v2 I J))))))))) : Er X d M_X11_standingIn 2 [some (.ref 145), some (.int v1), some (.int v2)] [] I J (qI P) := by
  refine e_l rfl rfl rfl ?_
  refine e_l rfl rfl rfl ?_
  refine e_gi rfl (g_145) (by decide) ?_
  refine e_b rfl rfl rfl (fun hA => ?_) (fun hA => ?_)
  · replace T := T.1 hA
    refine e_k rfl rfl rfl ic_m1 ?_
    exact e_ri rfl rfl ⟨_, rfl, T⟩
  · replace T := T.2 hA
    refine e_l rfl rfl rfl ?_
    refine e_gr rfl (g_145) rfl (r_145_17) ?_
    refine e_l rfl rfl rfl ?_
    refine e_ia rfl (g_158) T.1 ?_
    replace T := T.2
    refine e_k rfl rfl rfl ic_1 ?_
    refine e_b rfl rfl rfl (fun hA => ?_) (fun hA => ?_)
    · replace T := T.1 hA
      refine e_ic (v := (v2 + 1)) (L' := [some (.ref 145), some (.int v1), some (.int (v2 + 1))]) rfl rfl rfl ic_1 rfl ?_
      refine e_g rfl ?_
      exact T
    · replace T := T.2 hA
      refine e_l rfl rfl rfl ?_
      refine e_gr rfl (g_145) rfl (r_145_10) ?_
      refine e_k rfl rfl rfl ic_3 ?_
      refine e_l rfl rfl rfl ?_
      refine e_p rfl rfl rfl ?_
      refine e_k rfl rfl rfl ic_2 ?_
      refine e_p rfl rfl rfl ?_
      refine e_ia rfl (g_153) T.1 ?_
      replace T := T.2
      refine e_l rfl rfl rfl ?_
      refine e_b rfl rfl rfl (fun hA => ?_) (fun hA => ?_)
      · replace T := T.1 hA
        refine e_ic (v := (v2 + 1)) (L' := [some (.ref 145), some (.int v1), some (.int (v2 + 1))]) rfl rfl rfl ic_1 rfl ?_
        refine e_g rfl ?_
        exact T
      · replace T := T.2 hA
        refine e_l rfl rfl rfl ?_
        exact e_ri rfl rfl ⟨_, rfl, T⟩
set_option maxRecDepth 10000 in
set_option maxHeartbeats 4000000 in
theorem vc_X11_comesAgain {X : mm_X} {d : Nat} {I : tI} {J : tJ} {P : tI → tJ → Prop} {v1 : Int32} {v2 : Int32}  (T : ix (3 * v2) 24 ∧ (((I 153 (tn (3 * v2))) ≠ 1 → (P I J)) ∧ (¬ ((I 153 (tn (3 * v2))) ≠ 1) → (ix v2 8 ∧ (((I 158 (tn v2)) ≠ 2 → (P I J)) ∧ (¬ ((I 158 (tn v2)) ≠ 2) → (ix v2 8 ∧ (((I 160 (tn v2)) ≠ (v1 - 3) → (P I J)) ∧ (¬ ((I 160 (tn v2)) ≠ (v1 - 3)) → (ix v2 8 ∧ ((((I 159 (tn v2)) / 2) ≤ (I 154 (tn 0)) → (P I J)) ∧ (¬ (((I 159 (tn v2)) / 2) ≤ (I 154 (tn 0))) → (ix v2 8 ∧ (ix v2 8 ∧ (ix v2 8 ∧ (ix v2 8 ∧ (ix v2 8 ∧ (P (mm_u (mm_u (mm_u I 159 (tn v2) ((I 159 (tn v2)) / 2)) 157 (tn v2) ((mm_u I 159 (tn v2) ((I 159 (tn v2)) / 2)) 159 (tn v2))) 158 (tn v2) 0) J)))))))))))))))))) : EV X d n_X11_comesAgain [.ref 145, .int v1, .int v2] I J P := by
  refine ⟨M_X11_comesAgain, tb_X11_comesAgain, Nat.le_of_ble_eq_true rfl, ?_⟩
  show Er X d M_X11_comesAgain 0 [some (.ref 145), some (.int v1), some (.int v2)] [] I J (qV P)
  refine e_l rfl rfl rfl ?_
  refine e_gr rfl (g_145) rfl (r_145_10) ?_
  refine e_k rfl rfl rfl ic_3 ?_
  refine e_l rfl rfl rfl ?_
  refine e_p rfl rfl rfl ?_
  refine e_ia rfl (g_153) T.1 ?_
  replace T := T.2
  refine e_k rfl rfl rfl ic_1 ?_
  refine e_b rfl rfl rfl (fun hA => ?_) (fun hA => ?_)
  · replace T := T.1 hA
    exact e_rv rfl rfl ⟨rfl, T⟩
  · replace T := T.2 hA
    refine e_l rfl rfl rfl ?_
    refine e_gr rfl (g_145) rfl (r_145_17) ?_
    refine e_l rfl rfl rfl ?_
    refine e_ia rfl (g_158) T.1 ?_
    replace T := T.2
    refine e_k rfl rfl rfl ic_2 ?_
    refine e_b rfl rfl rfl (fun hA => ?_) (fun hA => ?_)
    · replace T := T.1 hA
      exact e_rv rfl rfl ⟨rfl, T⟩
    · replace T := T.2 hA
      refine e_l rfl rfl rfl ?_
      refine e_gr rfl (g_145) rfl (r_145_19) ?_
      refine e_l rfl rfl rfl ?_
      refine e_ia rfl (g_160) T.1 ?_
      replace T := T.2
      refine e_l rfl rfl rfl ?_
      refine e_k rfl rfl rfl ic_3 ?_
      refine e_p rfl rfl rfl ?_
      refine e_b rfl rfl rfl (fun hA => ?_) (fun hA => ?_)
      · replace T := T.1 hA
        exact e_rv rfl rfl ⟨rfl, T⟩
      · replace T := T.2 hA
        refine e_l rfl rfl rfl ?_
        refine e_gr rfl (g_145) rfl (r_145_18) ?_
        refine e_l rfl rfl rfl ?_
        refine e_ia rfl (g_159) T.1 ?_
        replace T := T.2
        refine e_k rfl rfl rfl ic_2 ?_
        refine e_dv rfl (by decide) ?_
        refine e_l rfl rfl rfl ?_
        refine e_gr rfl (g_145) rfl (r_145_11) ?_
        refine e_k rfl rfl rfl ic_0 ?_
        refine e_ia rfl (g_154) (by decide) ?_
        refine e_b rfl rfl rfl (fun hA => ?_) (fun hA => ?_)
        · replace T := T.1 hA
          exact e_rv rfl rfl ⟨rfl, T⟩
        · replace T := T.2 hA
          refine e_l rfl rfl rfl ?_
          refine e_gr rfl (g_145) rfl (r_145_18) ?_
          refine e_l rfl rfl rfl ?_
          refine e_p rfl rfl rfl ?_
          refine e_ia rfl (g_159) T.1 ?_
          replace T := T.2
          refine e_k rfl rfl rfl ic_2 ?_
          refine e_dv rfl (by decide) ?_
          refine e_as rfl (g_159) T.1 ?_
          replace T := T.2
          refine e_l rfl rfl rfl ?_
          refine e_gr rfl (g_145) rfl (r_145_16) ?_
          refine e_l rfl rfl rfl ?_
          refine e_l rfl rfl rfl ?_
          refine e_gr rfl (g_145) rfl (r_145_18) ?_
          refine e_l rfl rfl rfl ?_
          refine e_ia rfl (g_159) T.1 ?_
          replace T := T.2
          refine e_as rfl (g_157) T.1 ?_
          replace T := T.2
          refine e_l rfl rfl rfl ?_
          refine e_gr rfl (g_145) rfl (r_145_17) ?_
          refine e_l rfl rfl rfl ?_
          refine e_k rfl rfl rfl ic_0 ?_
          refine e_as rfl (g_158) T.1 ?_
          replace T := T.2
          exact e_rv rfl rfl ⟨rfl, T⟩
set_option maxRecDepth 10000 in
set_option maxHeartbeats 4000000 in
theorem vc_X11_burns {X : mm_X} {d : Nat} {I : tI} {J : tJ} {P : tI → tJ → Prop} {v1 : Int32}  (T : Er X (d + 1) M_X11_burns 2 [some (.ref 145), some (.int v1), some (.int 0), none] [] I J (qV P)) : EV X (d + 1) n_X11_burns [.ref 145, .int v1] I J P := by
  refine ⟨M_X11_burns, tb_X11_burns, Nat.le_of_ble_eq_true rfl, ?_⟩
  show Er X (d + 1) M_X11_burns 0 [some (.ref 145), some (.int v1), none, none] [] I J (qV P)
  refine e_k rfl rfl rfl ic_0 ?_
  refine e_l (L' := [some (.ref 145), some (.int v1), some (.int 0), none]) rfl rfl rfl ?_
  exact T
set_option maxRecDepth 10000 in
set_option maxHeartbeats 4000000 in
theorem vc_X11_burns_2 {X : mm_X} {d : Nat} {I : tI} {J : tJ} {P : tI → tJ → Prop} {v1 : Int32} {v2 : Int32} {o3 : Option Value}  (T : ((I 145 14) ≤ v2 → (P I J)) ∧ (¬ ((I 145 14) ≤ v2) → (Er X (d + 1) M_X11_burns 8 [some (.ref 145), some (.int v1), some (.int v2), some (.int 0)] [] I J (qV P)))) : Er X (d + 1) M_X11_burns 2 [some (.ref 145), some (.int v1), some (.int v2), o3] [] I J (qV P) := by
  refine e_l rfl rfl rfl ?_
  refine e_l rfl rfl rfl ?_
  refine e_gi rfl (g_145) (by decide) ?_
  refine e_b rfl rfl rfl (fun hA => ?_) (fun hA => ?_)
  · replace T := T.1 hA
    exact e_rv rfl rfl ⟨rfl, T⟩
  · replace T := T.2 hA
    refine e_k rfl rfl rfl ic_0 ?_
    refine e_l (L' := [some (.ref 145), some (.int v1), some (.int v2), some (.int 0)]) rfl rfl rfl ?_
    exact T
set_option maxRecDepth 10000 in
set_option maxHeartbeats 4000000 in
theorem vc_X11_burns_8 {X : mm_X} {d : Nat} {I : tI} {J : tJ} {P : tI → tJ → Prop} {v1 : Int32} {v2 : Int32} {v3 : Int32}  (T : ((I 145 9) ≤ v3 → (Er X (d + 1) M_X11_burns 2 [some (.ref 145), some (.int v1), some (.int (v2 + 1)), some (.int v3)] [] I J (qV P))) ∧ (¬ ((I 145 9) ≤ v3) → (ix v2 4 ∧ (((I 156 (tn v2)) ≠ v1 → (Er X (d + 1) M_X11_burns 2 [some (.ref 145), some (.int v1), some (.int (v2 + 1)), some (.int v3)] [] I J (qV P))) ∧ (¬ ((I 156 (tn v2)) ≠ v1) → (ix v3 8 ∧ (((I 158 (tn v3)) ≠ 1 → (ix v3 8 ∧ (ix v3 8 ∧ (Er X (d + 1) M_X11_burns 8 [some (.ref 145), some (.int v1), some (.int v2), some (.int (v3 + 1))] [] (mm_u I 157 (tn v3) (I 157 (tn v3))) J (qV P))))) ∧ (¬ ((I 158 (tn v3)) ≠ 1) → (ix v3 8 ∧ (EI X d n_X11_lesser [.int ((I 157 (tn v3)) + 20), .int 99] I J (fun x_1 I_2 J_3 => ix v3 8 ∧ (Er X (d + 1) M_X11_burns 8 [some (.ref 145), some (.int v1), some (.int v2), some (.int (v3 + 1))] [] (mm_u I_2 157 (tn v3) x_1) J_3 (qV P))))))))))))) : Er X (d + 1) M_X11_burns 8 [some (.ref 145), some (.int v1), some (.int v2), some (.int v3)] [] I J (qV P) := by
  refine e_l rfl rfl rfl ?_
  refine e_l rfl rfl rfl ?_
  refine e_gi rfl (g_145) (by decide) ?_
  refine e_b rfl rfl rfl (fun hA => ?_) (fun hA => ?_)
  · replace T := T.1 hA
    refine e_ic (v := (v2 + 1)) (L' := [some (.ref 145), some (.int v1), some (.int (v2 + 1)), some (.int v3)]) rfl rfl rfl ic_1 rfl ?_
    refine e_g rfl ?_
    exact T
  · replace T := T.2 hA
    refine e_l rfl rfl rfl ?_
    refine e_gr rfl (g_145) rfl (r_145_15) ?_
    refine e_l rfl rfl rfl ?_
    refine e_ia rfl (g_156) T.1 ?_
    replace T := T.2
    refine e_l rfl rfl rfl ?_
    refine e_b rfl rfl rfl (fun hA => ?_) (fun hA => ?_)
    · replace T := T.1 hA
      refine e_ic (v := (v2 + 1)) (L' := [some (.ref 145), some (.int v1), some (.int (v2 + 1)), some (.int v3)]) rfl rfl rfl ic_1 rfl ?_
      refine e_g rfl ?_
      exact T
    · replace T := T.2 hA
      refine e_l rfl rfl rfl ?_
      refine e_gr rfl (g_145) rfl (r_145_16) ?_
      refine e_l rfl rfl rfl ?_
      refine e_l rfl rfl rfl ?_
      refine e_gr rfl (g_145) rfl (r_145_17) ?_
      refine e_l rfl rfl rfl ?_
      refine e_ia rfl (g_158) T.1 ?_
      replace T := T.2
      refine e_k rfl rfl rfl ic_1 ?_
      refine e_b rfl rfl rfl (fun hA => ?_) (fun hA => ?_)
      · replace T := T.1 hA
        refine e_l rfl rfl rfl ?_
        refine e_gr rfl (g_145) rfl (r_145_16) ?_
        refine e_l rfl rfl rfl ?_
        refine e_ia rfl (g_157) T.1 ?_
        replace T := T.2
        refine e_as rfl (g_157) T.1 ?_
        replace T := T.2
        refine e_ic (v := (v3 + 1)) (L' := [some (.ref 145), some (.int v1), some (.int v2), some (.int (v3 + 1))]) rfl rfl rfl ic_1 rfl ?_
        refine e_g rfl ?_
        exact T
      · replace T := T.2 hA
        refine e_l rfl rfl rfl ?_
        refine e_gr rfl (g_145) rfl (r_145_16) ?_
        refine e_l rfl rfl rfl ?_
        refine e_ia rfl (g_157) T.1 ?_
        replace T := T.2
        refine e_k rfl rfl rfl ib_20 ?_
        refine e_p rfl rfl rfl ?_
        refine e_k rfl rfl rfl ib_99 ?_
        refine e_csI (as := [.int ((I 157 (tn v3)) + 20), .int 99]) (rs := [.int v3, .ref 157]) rfl rfl rfl T (fun x_1 I_2 J_3 T => ?_)
        try dsimp only at T
        refine e_g rfl ?_
        refine e_as rfl (g_157) T.1 ?_
        replace T := T.2
        refine e_ic (v := (v3 + 1)) (L' := [some (.ref 145), some (.int v1), some (.int v2), some (.int (v3 + 1))]) rfl rfl rfl ic_1 rfl ?_
        refine e_g rfl ?_
        exact T
set_option maxRecDepth 10000 in
set_option maxHeartbeats 4000000 in
theorem vc_X11_spreads {X : mm_X} {d : Nat} {I : tI} {J : tJ} {P : tI → tJ → Prop} {v1 : Int32}  (T : Er X (d + 1) M_X11_spreads 2 [some (.ref 145), some (.int v1), some (.int 0), none] [] I J (qV P)) : EV X (d + 1) n_X11_spreads [.ref 145, .int v1] I J P := by
  refine ⟨M_X11_spreads, tb_X11_spreads, Nat.le_of_ble_eq_true rfl, ?_⟩
  show Er X (d + 1) M_X11_spreads 0 [some (.ref 145), some (.int v1), none, none] [] I J (qV P)
  refine e_k rfl rfl rfl ic_0 ?_
  refine e_l (L' := [some (.ref 145), some (.int v1), some (.int 0), none]) rfl rfl rfl ?_
  exact T
set_option maxRecDepth 10000 in
set_option maxHeartbeats 4000000 in
theorem vc_X11_spreads_2 {X : mm_X} {d : Nat} {I : tI} {J : tJ} {P : tI → tJ → Prop} {v1 : Int32} {v2 : Int32}  (T : ((I 145 9) ≤ v2 → (Er X (d + 1) M_X11_spreads 39 [some (.ref 145), some (.int v1), some (.int 0), none] [] I J (qV P))) ∧ (¬ ((I 145 9) ≤ v2) → (ix v2 8 ∧ (((I 166 (tn v2)) ≠ (-1) → (ix v2 8 ∧ (ix v2 8 ∧ (Er X (d + 1) M_X11_spreads 2 [some (.ref 145), some (.int v1), some (.int (v2 + 1)), none] [] (mm_u I 166 (tn v2) (I 166 (tn v2))) J (qV P))))) ∧ (¬ ((I 166 (tn v2)) ≠ (-1)) → (EI X d n_X11_isHere [.ref 145, .int v2] I J (fun x_1 I_2 J_3 => (x_1 = 0 → (ix v2 8 ∧ (ix v2 8 ∧ (Er X (d + 1) M_X11_spreads 2 [some (.ref 145), some (.int v1), some (.int (v2 + 1)), none] [] (mm_u I_2 166 (tn v2) (I_2 166 (tn v2))) J_3 (qV P))))) ∧ (¬ (x_1 = 0) → (ix v2 8 ∧ (((I_2 154 (tn 2)) < (I_2 157 (tn v2)) → (ix v2 8 ∧ (ix v2 8 ∧ (Er X (d + 1) M_X11_spreads 2 [some (.ref 145), some (.int v1), some (.int (v2 + 1)), none] [] (mm_u I_2 166 (tn v2) (I_2 166 (tn v2))) J_3 (qV P))))) ∧ (¬ ((I_2 154 (tn 2)) < (I_2 157 (tn v2))) → (ix v2 8 ∧ (Er X (d + 1) M_X11_spreads 2 [some (.ref 145), some (.int v1), some (.int (v2 + 1)), none] [] (mm_u I_2 166 (tn v2) v1) J_3 (qV P)))))))))))))) : Er X (d + 1) M_X11_spreads 2 [some (.ref 145), some (.int v1), some (.int v2), none] [] I J (qV P) := by
  refine e_l rfl rfl rfl ?_
  refine e_l rfl rfl rfl ?_
  refine e_gi rfl (g_145) (by decide) ?_
  refine e_b rfl rfl rfl (fun hA => ?_) (fun hA => ?_)
  · replace T := T.1 hA
    refine e_k rfl rfl rfl ic_0 ?_
    refine e_l (L' := [some (.ref 145), some (.int v1), some (.int 0), none]) rfl rfl rfl ?_
    exact T
  · replace T := T.2 hA
    refine e_l rfl rfl rfl ?_
    refine e_gr rfl (g_145) rfl (r_145_25) ?_
    refine e_l rfl rfl rfl ?_
    refine e_l rfl rfl rfl ?_
    refine e_gr rfl (g_145) rfl (r_145_25) ?_
    refine e_l rfl rfl rfl ?_
    refine e_ia rfl (g_166) T.1 ?_
    replace T := T.2
    refine e_k rfl rfl rfl ic_m1 ?_
    refine e_b rfl rfl rfl (fun hA => ?_) (fun hA => ?_)
    · replace T := T.1 hA
      refine e_l rfl rfl rfl ?_
      refine e_gr rfl (g_145) rfl (r_145_25) ?_
      refine e_l rfl rfl rfl ?_
      refine e_ia rfl (g_166) T.1 ?_
      replace T := T.2
      refine e_as rfl (g_166) T.1 ?_
      replace T := T.2
      refine e_ic (v := (v2 + 1)) (L' := [some (.ref 145), some (.int v1), some (.int (v2 + 1)), none]) rfl rfl rfl ic_1 rfl ?_
      refine e_g rfl ?_
      exact T
    · replace T := T.2 hA
      refine e_l rfl rfl rfl ?_
      refine e_l rfl rfl rfl ?_
      refine e_cvI (as := [.int v2]) (rs := [.int v2, .ref 166]) rfl rfl (g_145) rfl T (fun x_1 I_2 J_3 T => ?_)
      try dsimp only at T
      refine e_b rfl rfl rfl (fun hA => ?_) (fun hA => ?_)
      · replace T := T.1 hA
        refine e_l rfl rfl rfl ?_
        refine e_gr rfl (g_145) rfl (r_145_25) ?_
        refine e_l rfl rfl rfl ?_
        refine e_ia rfl (g_166) T.1 ?_
        replace T := T.2
        refine e_as rfl (g_166) T.1 ?_
        replace T := T.2
        refine e_ic (v := (v2 + 1)) (L' := [some (.ref 145), some (.int v1), some (.int (v2 + 1)), none]) rfl rfl rfl ic_1 rfl ?_
        refine e_g rfl ?_
        exact T
      · replace T := T.2 hA
        refine e_l rfl rfl rfl ?_
        refine e_gr rfl (g_145) rfl (r_145_16) ?_
        refine e_l rfl rfl rfl ?_
        refine e_ia rfl (g_157) T.1 ?_
        replace T := T.2
        refine e_l rfl rfl rfl ?_
        refine e_gr rfl (g_145) rfl (r_145_11) ?_
        refine e_k rfl rfl rfl ic_2 ?_
        refine e_ia rfl (g_154) (by decide) ?_
        refine e_b rfl rfl rfl (fun hA => ?_) (fun hA => ?_)
        · replace T := T.1 hA
          refine e_l rfl rfl rfl ?_
          refine e_gr rfl (g_145) rfl (r_145_25) ?_
          refine e_l rfl rfl rfl ?_
          refine e_ia rfl (g_166) T.1 ?_
          replace T := T.2
          refine e_as rfl (g_166) T.1 ?_
          replace T := T.2
          refine e_ic (v := (v2 + 1)) (L' := [some (.ref 145), some (.int v1), some (.int (v2 + 1)), none]) rfl rfl rfl ic_1 rfl ?_
          refine e_g rfl ?_
          exact T
        · replace T := T.2 hA
          refine e_l rfl rfl rfl ?_
          refine e_g rfl ?_
          refine e_as rfl (g_166) T.1 ?_
          replace T := T.2
          refine e_ic (v := (v2 + 1)) (L' := [some (.ref 145), some (.int v1), some (.int (v2 + 1)), none]) rfl rfl rfl ic_1 rfl ?_
          refine e_g rfl ?_
          exact T
set_option maxRecDepth 10000 in
set_option maxHeartbeats 4000000 in
theorem vc_X11_spreads_39 {X : mm_X} {d : Nat} {I : tI} {J : tJ} {P : tI → tJ → Prop} {v1 : Int32} {v2 : Int32} {o3 : Option Value}  (T : ((I 145 12) ≤ v2 → (P I J)) ∧ (¬ ((I 145 12) ≤ v2) → (ix ((2 * v2) + 1) 16 ∧ (∀ y3_1 : Int32, y3_1 = (I 155 (tn ((2 * v2) + 1))) → (ix (2 * v2) 16 ∧ (((I 155 (tn (2 * v2))) ≠ v1 → (Er X (d + 1) M_X11_spreads 39 [some (.ref 145), some (.int v1), some (.int (v2 + 1)), some (.int y3_1)] [] I J (qV P))) ∧ (¬ ((I 155 (tn (2 * v2))) ≠ v1) → (EI X d n_X11_isSlice [.ref 145, .int y3_1] I J (fun x_2 I_3 J_4 => (x_2 = 0 → (Er X (d + 1) M_X11_spreads 39 [some (.ref 145), some (.int v1), some (.int (v2 + 1)), some (.int y3_1)] [] I_3 J_4 (qV P))) ∧ (¬ (x_2 = 0) → (EI X d n_X11_isHere [.ref 145, .int y3_1] I_3 J_4 (fun x_5 I_6 J_7 => (x_5 = 0 → (Er X (d + 1) M_X11_spreads 39 [some (.ref 145), some (.int v1), some (.int (v2 + 1)), some (.int y3_1)] [] I_6 J_7 (qV P))) ∧ (¬ (x_5 = 0) → (ix y3_1 8 ∧ (((I_6 157 (tn y3_1)) ≤ (I_6 154 (tn 2)) → (Er X (d + 1) M_X11_spreads 39 [some (.ref 145), some (.int v1), some (.int (v2 + 1)), some (.int y3_1)] [] I_6 J_7 (qV P))) ∧ (¬ ((I_6 157 (tn y3_1)) ≤ (I_6 154 (tn 2))) → (ix y3_1 8 ∧ (Er X (d + 1) M_X11_spreads 39 [some (.ref 145), some (.int v1), some (.int (v2 + 1)), some (.int y3_1)] [] (mm_u I_6 158 (tn y3_1) 3) J_7 (qV P))))))))))))))))))) : Er X (d + 1) M_X11_spreads 39 [some (.ref 145), some (.int v1), some (.int v2), o3] [] I J (qV P) := by
  refine e_l rfl rfl rfl ?_
  refine e_l rfl rfl rfl ?_
  refine e_gi rfl (g_145) (by decide) ?_
  refine e_b rfl rfl rfl (fun hA => ?_) (fun hA => ?_)
  · replace T := T.1 hA
    exact e_rv rfl rfl ⟨rfl, T⟩
  · replace T := T.2 hA
    refine e_l rfl rfl rfl ?_
    refine e_gr rfl (g_145) rfl (r_145_13) ?_
    refine e_k rfl rfl rfl ic_2 ?_
    refine e_l rfl rfl rfl ?_
    refine e_p rfl rfl rfl ?_
    refine e_k rfl rfl rfl ic_1 ?_
    refine e_p rfl rfl rfl ?_
    refine e_ia rfl (g_155) T.1 ?_
    replace T := T.2
    refine e_si (Lf := fun y3_1 => [some (.ref 145), some (.int v1), some (.int v2), some (.int y3_1)]) rfl rfl rfl (fun y3_1 hy3_1 => ?_)
    replace T := T y3_1 hy3_1
    refine e_l rfl rfl rfl ?_
    refine e_gr rfl (g_145) rfl (r_145_13) ?_
    refine e_k rfl rfl rfl ic_2 ?_
    refine e_l rfl rfl rfl ?_
    refine e_p rfl rfl rfl ?_
    refine e_ia rfl (g_155) T.1 ?_
    replace T := T.2
    refine e_l rfl rfl rfl ?_
    refine e_b rfl rfl rfl (fun hA => ?_) (fun hA => ?_)
    · replace T := T.1 hA
      refine e_ic (v := (v2 + 1)) (L' := [some (.ref 145), some (.int v1), some (.int (v2 + 1)), some (.int y3_1)]) rfl rfl rfl ic_1 rfl ?_
      refine e_g rfl ?_
      exact T
    · replace T := T.2 hA
      refine e_l rfl rfl rfl ?_
      refine e_l rfl rfl rfl ?_
      refine e_cvI (as := [.int y3_1]) (rs := []) rfl rfl (g_145) rfl T (fun x_2 I_3 J_4 T => ?_)
      try dsimp only at T
      refine e_b rfl rfl rfl (fun hA => ?_) (fun hA => ?_)
      · replace T := T.1 hA
        refine e_ic (v := (v2 + 1)) (L' := [some (.ref 145), some (.int v1), some (.int (v2 + 1)), some (.int y3_1)]) rfl rfl rfl ic_1 rfl ?_
        refine e_g rfl ?_
        exact T
      · replace T := T.2 hA
        refine e_l rfl rfl rfl ?_
        refine e_l rfl rfl rfl ?_
        refine e_cvI (as := [.int y3_1]) (rs := []) rfl rfl (g_145) rfl T (fun x_5 I_6 J_7 T => ?_)
        try dsimp only at T
        refine e_b rfl rfl rfl (fun hA => ?_) (fun hA => ?_)
        · replace T := T.1 hA
          refine e_ic (v := (v2 + 1)) (L' := [some (.ref 145), some (.int v1), some (.int (v2 + 1)), some (.int y3_1)]) rfl rfl rfl ic_1 rfl ?_
          refine e_g rfl ?_
          exact T
        · replace T := T.2 hA
          refine e_l rfl rfl rfl ?_
          refine e_gr rfl (g_145) rfl (r_145_16) ?_
          refine e_l rfl rfl rfl ?_
          refine e_ia rfl (g_157) T.1 ?_
          replace T := T.2
          refine e_l rfl rfl rfl ?_
          refine e_gr rfl (g_145) rfl (r_145_11) ?_
          refine e_k rfl rfl rfl ic_2 ?_
          refine e_ia rfl (g_154) (by decide) ?_
          refine e_b rfl rfl rfl (fun hA => ?_) (fun hA => ?_)
          · replace T := T.1 hA
            refine e_ic (v := (v2 + 1)) (L' := [some (.ref 145), some (.int v1), some (.int (v2 + 1)), some (.int y3_1)]) rfl rfl rfl ic_1 rfl ?_
            refine e_g rfl ?_
            exact T
          · replace T := T.2 hA
            refine e_l rfl rfl rfl ?_
            refine e_gr rfl (g_145) rfl (r_145_17) ?_
            refine e_l rfl rfl rfl ?_
            refine e_k rfl rfl rfl ic_3 ?_
            refine e_as rfl (g_158) T.1 ?_
            replace T := T.2
            refine e_ic (v := (v2 + 1)) (L' := [some (.ref 145), some (.int v1), some (.int (v2 + 1)), some (.int y3_1)]) rfl rfl rfl ic_1 rfl ?_
            refine e_g rfl ?_
            exact T
set_option maxRecDepth 10000 in
set_option maxHeartbeats 4000000 in
theorem vc_X11_hotter {X : mm_X} {d : Nat} {I : tI} {J : tJ} {P : Int32 → tI → tJ → Prop} {v1 : Int32} {v2 : Int32}  (T : EI X d n_X11_in [.long (Int32.toInt64 v2), .long 0, .long (Int32.toInt64 ((I 145 7) - 1))] I J (fun x_1 I_2 J_3 => (x_1 = 0 → (Er X (d + 1) M_X11_hotter 15 [some (.ref 145), some (.int v1), some (.int v2), none] [.int (-1)] I_2 J_3 (qI P))) ∧ (¬ (x_1 = 0) → (EI X d n_X11_standingIn [.ref 145, .int v2] I_2 J_3 (fun x_4 I_5 J_6 => Er X (d + 1) M_X11_hotter 15 [some (.ref 145), some (.int v1), some (.int v2), none] [.int x_4] I_5 J_6 (qI P)))))) : EI X (d + 1) n_X11_hotter [.ref 145, .int v1, .int v2] I J P := by
  refine ⟨M_X11_hotter, tb_X11_hotter, Nat.le_of_ble_eq_true rfl, ?_⟩
  show Er X (d + 1) M_X11_hotter 0 [some (.ref 145), some (.int v1), some (.int v2), none] [] I J (qI P)
  refine e_l rfl rfl rfl ?_
  refine e_p rfl rfl rfl ?_
  refine e_kl rfl rfl rfl lc_0 ?_
  refine e_l rfl rfl rfl ?_
  refine e_gi rfl (g_145) (by decide) ?_
  refine e_k rfl rfl rfl ic_1 ?_
  refine e_p rfl rfl rfl ?_
  refine e_p rfl rfl rfl ?_
  refine e_csI (as := [.long (Int32.toInt64 v2), .long 0, .long (Int32.toInt64 ((I 145 7) - 1))]) (rs := []) rfl rfl rfl T (fun x_1 I_2 J_3 T => ?_)
  try dsimp only at T
  refine e_b rfl rfl rfl (fun hA => ?_) (fun hA => ?_)
  · replace T := T.1 hA
    refine e_k rfl rfl rfl ic_m1 ?_
    exact T
  · replace T := T.2 hA
    refine e_l rfl rfl rfl ?_
    refine e_l rfl rfl rfl ?_
    refine e_cvI (as := [.int v2]) (rs := []) rfl rfl (g_145) rfl T (fun x_4 I_5 J_6 T => ?_)
    try dsimp only at T
    refine e_g rfl ?_
    exact T
set_option maxRecDepth 10000 in
set_option maxHeartbeats 4000000 in
theorem vc_X11_hotter_15 {X : mm_X} {d : Nat} {I : tI} {J : tJ} {P : Int32 → tI → tJ → Prop} {v1 : Int32} {v2 : Int32} {s0 : Int32}  (T : (s0 = (-1) → (P 0 I J)) ∧ (¬ (s0 = (-1)) → (ix s0 8 ∧ (ix v1 8 ∧ (((I 157 (tn s0)) ≤ (I 157 (tn v1)) → (P 0 I J)) ∧ (¬ ((I 157 (tn s0)) ≤ (I 157 (tn v1))) → (P 1 I J))))))) : Er X (d + 1) M_X11_hotter 15 [some (.ref 145), some (.int v1), some (.int v2), none] [.int s0] I J (qI P) := by
  refine e_l (L' := [some (.ref 145), some (.int v1), some (.int v2), some (.int s0)]) rfl rfl rfl ?_
  refine e_l rfl rfl rfl ?_
  refine e_k rfl rfl rfl ic_m1 ?_
  refine e_b rfl rfl rfl (fun hA => ?_) (fun hA => ?_)
  · replace T := T.1 hA
    refine e_k rfl rfl rfl ic_0 ?_
    exact e_ri rfl rfl ⟨_, rfl, T⟩
  · replace T := T.2 hA
    refine e_l rfl rfl rfl ?_
    refine e_gr rfl (g_145) rfl (r_145_16) ?_
    refine e_l rfl rfl rfl ?_
    refine e_ia rfl (g_157) T.1 ?_
    replace T := T.2
    refine e_l rfl rfl rfl ?_
    refine e_gr rfl (g_145) rfl (r_145_16) ?_
    refine e_l rfl rfl rfl ?_
    refine e_ia rfl (g_157) T.1 ?_
    replace T := T.2
    refine e_b rfl rfl rfl (fun hA => ?_) (fun hA => ?_)
    · replace T := T.1 hA
      refine e_k rfl rfl rfl ic_0 ?_
      exact e_ri rfl rfl ⟨_, rfl, T⟩
    · replace T := T.2 hA
      refine e_k rfl rfl rfl ic_1 ?_
      refine e_g rfl ?_
      exact e_ri rfl rfl ⟨_, rfl, T⟩
set_option maxRecDepth 10000 in
set_option maxHeartbeats 4000000 in
theorem vc_X11_coolsBy {X : mm_X} {d : Nat} {I : tI} {J : tJ} {P : Int32 → tI → tJ → Prop} {v1 : Int32} {v2 : Int32}  (T : ix v2 8 ∧ (((I 158 (tn v2)) ≠ 0 → (ix ((3 * v2) + 2) 24 ∧ (∀ y3_1 : Int32, y3_1 = (I 153 (tn ((3 * v2) + 2))) → (ix (3 * v2) 24 ∧ (∀ y4_2 : Int32, y4_2 = (I 153 (tn (3 * v2))) → (ix y3_1 10 ∧ ((10 ≤ v1 → (Er X (d + 1) M_X11_coolsBy 45 [some (.ref 145), some (.int v1), some (.int v2), some (.int y3_1), some (.int y4_2), none] [.int 0, .int (((I 152 (tn y3_1)) + 1) - (I 154 (tn 1)))] I J (qI P))) ∧ (¬ (10 ≤ v1) → (EI X d n_X11_isIn [.int (I 145 26), .int v1] I J (fun x_3 I_4 J_5 => (x_3 = 0 → (Er X (d + 1) M_X11_coolsBy 45 [some (.ref 145), some (.int v1), some (.int v2), some (.int y3_1), some (.int y4_2), none] [.int 0, .int (((I 152 (tn y3_1)) + 1) - (I 154 (tn 1)))] I_4 J_5 (qI P))) ∧ (¬ (x_3 = 0) → (Er X (d + 1) M_X11_coolsBy 45 [some (.ref 145), some (.int v1), some (.int v2), some (.int y3_1), some (.int y4_2), none] [.int 3, .int (((I 152 (tn y3_1)) + 1) - (I 154 (tn 1)))] I_4 J_5 (qI P))))))))))))) ∧ (¬ ((I 158 (tn v2)) ≠ 0) → (P 1 I J)))) : EI X (d + 1) n_X11_coolsBy [.ref 145, .int v1, .int v2] I J P := by
  refine ⟨M_X11_coolsBy, tb_X11_coolsBy, Nat.le_of_ble_eq_true rfl, ?_⟩
  show Er X (d + 1) M_X11_coolsBy 0 [some (.ref 145), some (.int v1), some (.int v2), none, none, none] [] I J (qI P)
  refine e_l rfl rfl rfl ?_
  refine e_gr rfl (g_145) rfl (r_145_17) ?_
  refine e_l rfl rfl rfl ?_
  refine e_ia rfl (g_158) T.1 ?_
  replace T := T.2
  refine e_b rfl rfl rfl (fun hA => ?_) (fun hA => ?_)
  · replace T := T.1 hA
    refine e_l rfl rfl rfl ?_
    refine e_gr rfl (g_145) rfl (r_145_10) ?_
    refine e_k rfl rfl rfl ic_3 ?_
    refine e_l rfl rfl rfl ?_
    refine e_p rfl rfl rfl ?_
    refine e_k rfl rfl rfl ic_2 ?_
    refine e_p rfl rfl rfl ?_
    refine e_ia rfl (g_153) T.1 ?_
    replace T := T.2
    refine e_si (Lf := fun y3_1 => [some (.ref 145), some (.int v1), some (.int v2), some (.int y3_1), none, none]) rfl rfl rfl (fun y3_1 hy3_1 => ?_)
    replace T := T y3_1 hy3_1
    refine e_l rfl rfl rfl ?_
    refine e_gr rfl (g_145) rfl (r_145_10) ?_
    refine e_k rfl rfl rfl ic_3 ?_
    refine e_l rfl rfl rfl ?_
    refine e_p rfl rfl rfl ?_
    refine e_ia rfl (g_153) T.1 ?_
    replace T := T.2
    refine e_si (Lf := fun y4_2 => [some (.ref 145), some (.int v1), some (.int v2), some (.int y3_1), some (.int y4_2), none]) rfl rfl rfl (fun y4_2 hy4_2 => ?_)
    replace T := T y4_2 hy4_2
    refine e_l rfl rfl rfl ?_
    refine e_gr rfl (g_145) rfl (r_145_8) ?_
    refine e_l rfl rfl rfl ?_
    refine e_ia rfl (g_152) T.1 ?_
    replace T := T.2
    refine e_k rfl rfl rfl ic_1 ?_
    refine e_p rfl rfl rfl ?_
    refine e_l rfl rfl rfl ?_
    refine e_gr rfl (g_145) rfl (r_145_11) ?_
    refine e_k rfl rfl rfl ic_1 ?_
    refine e_ia rfl (g_154) (by decide) ?_
    refine e_p rfl rfl rfl ?_
    refine e_l rfl rfl rfl ?_
    refine e_k rfl rfl rfl ib_10 ?_
    refine e_b rfl rfl rfl (fun hA => ?_) (fun hA => ?_)
    · replace T := T.1 hA
      refine e_k rfl rfl rfl ic_0 ?_
      exact T
    · replace T := T.2 hA
      refine e_l rfl rfl rfl ?_
      refine e_gi rfl (g_145) (by decide) ?_
      refine e_l rfl rfl rfl ?_
      refine e_csI (as := [.int (I 145 26), .int v1]) (rs := [.int (((I 152 (tn y3_1)) + 1) - (I 154 (tn 1)))]) rfl rfl rfl T (fun x_3 I_4 J_5 T => ?_)
      try dsimp only at T
      refine e_b rfl rfl rfl (fun hA => ?_) (fun hA => ?_)
      · replace T := T.1 hA
        refine e_k rfl rfl rfl ic_0 ?_
        exact T
      · replace T := T.2 hA
        refine e_k rfl rfl rfl ic_3 ?_
        refine e_g rfl ?_
        exact T
  · replace T := T.2 hA
    refine e_k rfl rfl rfl ic_1 ?_
    exact e_ri rfl rfl ⟨_, rfl, T⟩
set_option maxRecDepth 10000 in
set_option maxHeartbeats 4000000 in
theorem vc_X11_coolsBy_45 {X : mm_X} {d : Nat} {I : tI} {J : tJ} {P : Int32 → tI → tJ → Prop} {v1 : Int32} {v2 : Int32} {v3 : Int32} {v4 : Int32} {s0 : Int32} {s1 : Int32}  (T : ∀ y5_1 : Int32, y5_1 = (s0 + s1) → ((v4 ≠ 3 → (EI X d n_X11_hotter [.ref 145, .int v2, .int (v3 - 1)] I J (fun x_2 I_3 J_4 => EI X d n_X11_hotter [.ref 145, .int v2, .int (v3 + 1)] I_3 J_4 (fun x_5 I_6 J_7 => Er X (d + 1) M_X11_coolsBy 66 [some (.ref 145), some (.int v1), some (.int v2), some (.int v3), some (.int v4), some (.int y5_1)] [.int (x_2 + x_5), .int y5_1] I_6 J_7 (qI P))))) ∧ (¬ (v4 ≠ 3) → (Er X (d + 1) M_X11_coolsBy 66 [some (.ref 145), some (.int v1), some (.int v2), some (.int v3), some (.int v4), some (.int y5_1)] [.int 0, .int y5_1] I J (qI P))))) : Er X (d + 1) M_X11_coolsBy 45 [some (.ref 145), some (.int v1), some (.int v2), some (.int v3), some (.int v4), none] [.int s1, .int s0] I J (qI P) := by
  refine e_p rfl rfl rfl ?_
  refine e_si (Lf := fun y5_1 => [some (.ref 145), some (.int v1), some (.int v2), some (.int v3), some (.int v4), some (.int y5_1)]) rfl rfl rfl (fun y5_1 hy5_1 => ?_)
  replace T := T y5_1 hy5_1
  refine e_l rfl rfl rfl ?_
  refine e_l rfl rfl rfl ?_
  refine e_k rfl rfl rfl ic_3 ?_
  refine e_b rfl rfl rfl (fun hA => ?_) (fun hA => ?_)
  · replace T := T.1 hA
    refine e_l rfl rfl rfl ?_
    refine e_l rfl rfl rfl ?_
    refine e_l rfl rfl rfl ?_
    refine e_k rfl rfl rfl ic_1 ?_
    refine e_p rfl rfl rfl ?_
    refine e_cvI (as := [.int v2, .int (v3 - 1)]) (rs := [.int y5_1]) rfl rfl (g_145) rfl T (fun x_2 I_3 J_4 T => ?_)
    try dsimp only at T
    refine e_l rfl rfl rfl ?_
    refine e_l rfl rfl rfl ?_
    refine e_l rfl rfl rfl ?_
    refine e_k rfl rfl rfl ic_1 ?_
    refine e_p rfl rfl rfl ?_
    refine e_cvI (as := [.int v2, .int (v3 + 1)]) (rs := [.int x_2, .int y5_1]) rfl rfl (g_145) rfl T (fun x_5 I_6 J_7 T => ?_)
    try dsimp only at T
    refine e_p rfl rfl rfl ?_
    exact T
  · replace T := T.2 hA
    refine e_k rfl rfl rfl ic_0 ?_
    refine e_g rfl ?_
    exact T
set_option maxRecDepth 10000 in
set_option maxHeartbeats 4000000 in
theorem vc_X11_coolsBy_66 {X : mm_X} {d : Nat} {I : tI} {J : tJ} {P : Int32 → tI → tJ → Prop} {v1 : Int32} {v2 : Int32} {v3 : Int32} {v4 : Int32} {v5 : Int32} {s0 : Int32} {s1 : Int32}  (T : ∀ y5_1 : Int32, y5_1 = (s0 - s1) → (EI X d n_X11_greater [.int y5_1, .int 0] I J (fun x_2 I_3 J_4 => (v4 ≠ 0 → ((v4 ≠ 2 → (P x_2 I_3 J_4)) ∧ (¬ (v4 ≠ 2) → (P (x_2 / 2) I_3 J_4)))) ∧ (¬ (v4 ≠ 0) → (P (x_2 + 1) I_3 J_4))))) : Er X (d + 1) M_X11_coolsBy 66 [some (.ref 145), some (.int v1), some (.int v2), some (.int v3), some (.int v4), some (.int v5)] [.int s1, .int s0] I J (qI P) := by
  refine e_p rfl rfl rfl ?_
  refine e_si (Lf := fun y5_1 => [some (.ref 145), some (.int v1), some (.int v2), some (.int v3), some (.int v4), some (.int y5_1)]) rfl rfl rfl (fun y5_1 hy5_1 => ?_)
  replace T := T y5_1 hy5_1
  refine e_l rfl rfl rfl ?_
  refine e_k rfl rfl rfl ic_0 ?_
  refine e_csI (as := [.int y5_1, .int 0]) (rs := []) rfl rfl rfl T (fun x_2 I_3 J_4 T => ?_)
  try dsimp only at T
  refine e_l (L' := [some (.ref 145), some (.int v1), some (.int v2), some (.int v3), some (.int v4), some (.int x_2)]) rfl rfl rfl ?_
  refine e_l rfl rfl rfl ?_
  refine e_b rfl rfl rfl (fun hA => ?_) (fun hA => ?_)
  · replace T := T.1 hA
    refine e_l rfl rfl rfl ?_
    refine e_k rfl rfl rfl ic_2 ?_
    refine e_b rfl rfl rfl (fun hA => ?_) (fun hA => ?_)
    · replace T := T.1 hA
      refine e_l rfl rfl rfl ?_
      exact e_ri rfl rfl ⟨_, rfl, T⟩
    · replace T := T.2 hA
      refine e_l rfl rfl rfl ?_
      refine e_k rfl rfl rfl ic_2 ?_
      refine e_dv rfl (by decide) ?_
      refine e_g rfl ?_
      exact e_ri rfl rfl ⟨_, rfl, T⟩
  · replace T := T.2 hA
    refine e_l rfl rfl rfl ?_
    refine e_k rfl rfl rfl ic_1 ?_
    refine e_p rfl rfl rfl ?_
    refine e_g rfl ?_
    exact e_ri rfl rfl ⟨_, rfl, T⟩
set_option maxRecDepth 10000 in
set_option maxHeartbeats 4000000 in
theorem vc_X11_cool {X : mm_X} {d : Nat} {I : tI} {J : tJ} {P : tI → tJ → Prop} {v1 : Int32}  (T : Er X (d + 1) M_X11_cool 2 [some (.ref 145), some (.int v1), some (.int 0)] [] I J (qV P)) : EV X (d + 1) n_X11_cool [.ref 145, .int v1] I J P := by
  refine ⟨M_X11_cool, tb_X11_cool, Nat.le_of_ble_eq_true rfl, ?_⟩
  show Er X (d + 1) M_X11_cool 0 [some (.ref 145), some (.int v1), none] [] I J (qV P)
  refine e_k rfl rfl rfl ic_0 ?_
  refine e_l (L' := [some (.ref 145), some (.int v1), some (.int 0)]) rfl rfl rfl ?_
  exact T
set_option maxRecDepth 10000 in
set_option maxHeartbeats 4000000 in
theorem vc_X11_cool_2 {X : mm_X} {d : Nat} {I : tI} {J : tJ} {P : tI → tJ → Prop} {v1 : Int32} {v2 : Int32}  (T : ((I 145 9) ≤ v2 → (Er X (d + 1) M_X11_cool 24 [some (.ref 145), some (.int v1), some (.int 0)] [] I J (qV P))) ∧ (¬ ((I 145 9) ≤ v2) → (EI X d n_X11_isHere [.ref 145, .int v2] I J (fun x_1 I_2 J_3 => (x_1 = 0 → (ix v2 8 ∧ (Er X (d + 1) M_X11_cool 2 [some (.ref 145), some (.int v1), some (.int (v2 + 1))] [] (mm_u I_2 161 (tn v2) 0) J_3 (qV P)))) ∧ (¬ (x_1 = 0) → (EI X d n_X11_coolsBy [.ref 145, .int v1, .int v2] I_2 J_3 (fun x_4 I_5 J_6 => ix v2 8 ∧ (Er X (d + 1) M_X11_cool 2 [some (.ref 145), some (.int v1), some (.int (v2 + 1))] [] (mm_u I_5 161 (tn v2) x_4) J_6 (qV P))))))))) : Er X (d + 1) M_X11_cool 2 [some (.ref 145), some (.int v1), some (.int v2)] [] I J (qV P) := by
  refine e_l rfl rfl rfl ?_
  refine e_l rfl rfl rfl ?_
  refine e_gi rfl (g_145) (by decide) ?_
  refine e_b rfl rfl rfl (fun hA => ?_) (fun hA => ?_)
  · replace T := T.1 hA
    refine e_k rfl rfl rfl ic_0 ?_
    refine e_l (L' := [some (.ref 145), some (.int v1), some (.int 0)]) rfl rfl rfl ?_
    exact T
  · replace T := T.2 hA
    refine e_l rfl rfl rfl ?_
    refine e_gr rfl (g_145) rfl (r_145_20) ?_
    refine e_l rfl rfl rfl ?_
    refine e_l rfl rfl rfl ?_
    refine e_l rfl rfl rfl ?_
    refine e_cvI (as := [.int v2]) (rs := [.int v2, .ref 161]) rfl rfl (g_145) rfl T (fun x_1 I_2 J_3 T => ?_)
    try dsimp only at T
    refine e_b rfl rfl rfl (fun hA => ?_) (fun hA => ?_)
    · replace T := T.1 hA
      refine e_k rfl rfl rfl ic_0 ?_
      refine e_as rfl (g_161) T.1 ?_
      replace T := T.2
      refine e_ic (v := (v2 + 1)) (L' := [some (.ref 145), some (.int v1), some (.int (v2 + 1))]) rfl rfl rfl ic_1 rfl ?_
      refine e_g rfl ?_
      exact T
    · replace T := T.2 hA
      refine e_l rfl rfl rfl ?_
      refine e_l rfl rfl rfl ?_
      refine e_l rfl rfl rfl ?_
      refine e_cvI (as := [.int v1, .int v2]) (rs := [.int v2, .ref 161]) rfl rfl (g_145) rfl T (fun x_4 I_5 J_6 T => ?_)
      try dsimp only at T
      refine e_g rfl ?_
      refine e_as rfl (g_161) T.1 ?_
      replace T := T.2
      refine e_ic (v := (v2 + 1)) (L' := [some (.ref 145), some (.int v1), some (.int (v2 + 1))]) rfl rfl rfl ic_1 rfl ?_
      refine e_g rfl ?_
      exact T
set_option maxRecDepth 10000 in
set_option maxHeartbeats 4000000 in
theorem vc_X11_cool_24 {X : mm_X} {d : Nat} {I : tI} {J : tJ} {P : tI → tJ → Prop} {v1 : Int32} {v2 : Int32}  (T : ((I 145 9) ≤ v2 → (P I J)) ∧ (¬ ((I 145 9) ≤ v2) → (EI X d n_X11_isHere [.ref 145, .int v2] I J (fun x_1 I_2 J_3 => (x_1 = 0 → (ix v2 8 ∧ (Er X (d + 1) M_X11_cool 51 [some (.ref 145), some (.int v1), some (.int v2)] [.int (I_2 157 (tn v2)), .int v2, .ref 157] I_2 J_3 (qV P)))) ∧ (¬ (x_1 = 0) → (ix v2 8 ∧ (ix v2 8 ∧ (EI X d n_X11_greater [.int ((I_2 157 (tn v2)) - (I_2 161 (tn v2))), .int 0] I_2 J_3 (fun x_4 I_5 J_6 => Er X (d + 1) M_X11_cool 51 [some (.ref 145), some (.int v1), some (.int v2)] [.int x_4, .int v2, .ref 157] I_5 J_6 (qV P)))))))))) : Er X (d + 1) M_X11_cool 24 [some (.ref 145), some (.int v1), some (.int v2)] [] I J (qV P) := by
  refine e_l rfl rfl rfl ?_
  refine e_l rfl rfl rfl ?_
  refine e_gi rfl (g_145) (by decide) ?_
  refine e_b rfl rfl rfl (fun hA => ?_) (fun hA => ?_)
  · replace T := T.1 hA
    exact e_rv rfl rfl ⟨rfl, T⟩
  · replace T := T.2 hA
    refine e_l rfl rfl rfl ?_
    refine e_gr rfl (g_145) rfl (r_145_16) ?_
    refine e_l rfl rfl rfl ?_
    refine e_l rfl rfl rfl ?_
    refine e_l rfl rfl rfl ?_
    refine e_cvI (as := [.int v2]) (rs := [.int v2, .ref 157]) rfl rfl (g_145) rfl T (fun x_1 I_2 J_3 T => ?_)
    try dsimp only at T
    refine e_b rfl rfl rfl (fun hA => ?_) (fun hA => ?_)
    · replace T := T.1 hA
      refine e_l rfl rfl rfl ?_
      refine e_gr rfl (g_145) rfl (r_145_16) ?_
      refine e_l rfl rfl rfl ?_
      refine e_ia rfl (g_157) T.1 ?_
      replace T := T.2
      exact T
    · replace T := T.2 hA
      refine e_l rfl rfl rfl ?_
      refine e_gr rfl (g_145) rfl (r_145_16) ?_
      refine e_l rfl rfl rfl ?_
      refine e_ia rfl (g_157) T.1 ?_
      replace T := T.2
      refine e_l rfl rfl rfl ?_
      refine e_gr rfl (g_145) rfl (r_145_20) ?_
      refine e_l rfl rfl rfl ?_
      refine e_ia rfl (g_161) T.1 ?_
      replace T := T.2
      refine e_p rfl rfl rfl ?_
      refine e_k rfl rfl rfl ic_0 ?_
      refine e_csI (as := [.int ((I_2 157 (tn v2)) - (I_2 161 (tn v2))), .int 0]) (rs := [.int v2, .ref 157]) rfl rfl rfl T (fun x_4 I_5 J_6 T => ?_)
      try dsimp only at T
      refine e_g rfl ?_
      exact T
set_option maxRecDepth 10000 in
set_option maxHeartbeats 4000000 in
theorem vc_X11_cool_51 {X : mm_X} {d : Nat} {I : tI} {J : tJ} {P : tI → tJ → Prop} {v1 : Int32} {v2 : Int32} {s1 : Int32} {s2 : Int32}  (T : ix s1 8 ∧ (EI X d n_X11_isHere [.ref 145, .int v2] (mm_u I 157 (tn s1) s2) J (fun x_1 I_2 J_3 => (x_1 = 0 → (Er X (d + 1) M_X11_cool 24 [some (.ref 145), some (.int v1), some (.int (v2 + 1))] [] I_2 J_3 (qV P))) ∧ (¬ (x_1 = 0) → (ix v2 8 ∧ (((I_2 154 (tn 0)) < (I_2 157 (tn v2)) → (Er X (d + 1) M_X11_cool 24 [some (.ref 145), some (.int v1), some (.int (v2 + 1))] [] I_2 J_3 (qV P))) ∧ (¬ ((I_2 154 (tn 0)) < (I_2 157 (tn v2))) → (ix v2 8 ∧ (ix v2 8 ∧ (ix v2 8 ∧ (ix v2 8 ∧ (ix v2 8 ∧ ((((mm_u (mm_u (mm_u I_2 158 (tn v2) 2) 160 (tn v2) v1) 165 (tn v2) (((mm_u (mm_u I_2 158 (tn v2) 2) 160 (tn v2) v1) 165 (tn v2)) + 1)) 164 (tn v2)) ≠ (-1) → (ix v2 8 ∧ (ix v2 8 ∧ (Er X (d + 1) M_X11_cool 24 [some (.ref 145), some (.int v1), some (.int (v2 + 1))] [] (mm_u (mm_u (mm_u (mm_u I_2 158 (tn v2) 2) 160 (tn v2) v1) 165 (tn v2) (((mm_u (mm_u I_2 158 (tn v2) 2) 160 (tn v2) v1) 165 (tn v2)) + 1)) 164 (tn v2) ((mm_u (mm_u (mm_u I_2 158 (tn v2) 2) 160 (tn v2) v1) 165 (tn v2) (((mm_u (mm_u I_2 158 (tn v2) 2) 160 (tn v2) v1) 165 (tn v2)) + 1)) 164 (tn v2))) J_3 (qV P))))) ∧ (¬ (((mm_u (mm_u (mm_u I_2 158 (tn v2) 2) 160 (tn v2) v1) 165 (tn v2) (((mm_u (mm_u I_2 158 (tn v2) 2) 160 (tn v2) v1) 165 (tn v2)) + 1)) 164 (tn v2)) ≠ (-1)) → (ix v2 8 ∧ (Er X (d + 1) M_X11_cool 24 [some (.ref 145), some (.int v1), some (.int (v2 + 1))] [] (mm_u (mm_u (mm_u (mm_u I_2 158 (tn v2) 2) 160 (tn v2) v1) 165 (tn v2) (((mm_u (mm_u I_2 158 (tn v2) 2) 160 (tn v2) v1) 165 (tn v2)) + 1)) 164 (tn v2) v1) J_3 (qV P))))))))))))))))) : Er X (d + 1) M_X11_cool 51 [some (.ref 145), some (.int v1), some (.int v2)] [.int s2, .int s1, .ref 157] I J (qV P) := by
  refine e_as rfl (g_157) T.1 ?_
  replace T := T.2
  refine e_l rfl rfl rfl ?_
  refine e_l rfl rfl rfl ?_
  refine e_cvI (as := [.int v2]) (rs := []) rfl rfl (g_145) rfl T (fun x_1 I_2 J_3 T => ?_)
  try dsimp only at T
  refine e_b rfl rfl rfl (fun hA => ?_) (fun hA => ?_)
  · replace T := T.1 hA
    refine e_ic (v := (v2 + 1)) (L' := [some (.ref 145), some (.int v1), some (.int (v2 + 1))]) rfl rfl rfl ic_1 rfl ?_
    refine e_g rfl ?_
    exact T
  · replace T := T.2 hA
    refine e_l rfl rfl rfl ?_
    refine e_gr rfl (g_145) rfl (r_145_16) ?_
    refine e_l rfl rfl rfl ?_
    refine e_ia rfl (g_157) T.1 ?_
    replace T := T.2
    refine e_l rfl rfl rfl ?_
    refine e_gr rfl (g_145) rfl (r_145_11) ?_
    refine e_k rfl rfl rfl ic_0 ?_
    refine e_ia rfl (g_154) (by decide) ?_
    refine e_b rfl rfl rfl (fun hA => ?_) (fun hA => ?_)
    · replace T := T.1 hA
      refine e_ic (v := (v2 + 1)) (L' := [some (.ref 145), some (.int v1), some (.int (v2 + 1))]) rfl rfl rfl ic_1 rfl ?_
      refine e_g rfl ?_
      exact T
    · replace T := T.2 hA
      refine e_l rfl rfl rfl ?_
      refine e_gr rfl (g_145) rfl (r_145_17) ?_
      refine e_l rfl rfl rfl ?_
      refine e_k rfl rfl rfl ic_2 ?_
      refine e_as rfl (g_158) T.1 ?_
      replace T := T.2
      refine e_l rfl rfl rfl ?_
      refine e_gr rfl (g_145) rfl (r_145_19) ?_
      refine e_l rfl rfl rfl ?_
      refine e_l rfl rfl rfl ?_
      refine e_as rfl (g_160) T.1 ?_
      replace T := T.2
      refine e_l rfl rfl rfl ?_
      refine e_gr rfl (g_145) rfl (r_145_24) ?_
      refine e_l rfl rfl rfl ?_
      refine e_p rfl rfl rfl ?_
      refine e_ia rfl (g_165) T.1 ?_
      replace T := T.2
      refine e_k rfl rfl rfl ic_1 ?_
      refine e_p rfl rfl rfl ?_
      refine e_as rfl (g_165) T.1 ?_
      replace T := T.2
      refine e_l rfl rfl rfl ?_
      refine e_gr rfl (g_145) rfl (r_145_23) ?_
      refine e_l rfl rfl rfl ?_
      refine e_l rfl rfl rfl ?_
      refine e_gr rfl (g_145) rfl (r_145_23) ?_
      refine e_l rfl rfl rfl ?_
      refine e_ia rfl (g_164) T.1 ?_
      replace T := T.2
      refine e_k rfl rfl rfl ic_m1 ?_
      refine e_b rfl rfl rfl (fun hA => ?_) (fun hA => ?_)
      · replace T := T.1 hA
        refine e_l rfl rfl rfl ?_
        refine e_gr rfl (g_145) rfl (r_145_23) ?_
        refine e_l rfl rfl rfl ?_
        refine e_ia rfl (g_164) T.1 ?_
        replace T := T.2
        refine e_as rfl (g_164) T.1 ?_
        replace T := T.2
        refine e_ic (v := (v2 + 1)) (L' := [some (.ref 145), some (.int v1), some (.int (v2 + 1))]) rfl rfl rfl ic_1 rfl ?_
        refine e_g rfl ?_
        exact T
      · replace T := T.2 hA
        refine e_l rfl rfl rfl ?_
        refine e_g rfl ?_
        refine e_as rfl (g_164) T.1 ?_
        replace T := T.2
        refine e_ic (v := (v2 + 1)) (L' := [some (.ref 145), some (.int v1), some (.int (v2 + 1))]) rfl rfl rfl ic_1 rfl ?_
        refine e_g rfl ?_
        exact T
set_option maxRecDepth 10000 in
set_option maxHeartbeats 4000000 in
theorem vc_X11_lives {X : mm_X} {d : Nat} {I : tI} {J : tJ} {P : tI → tJ → Prop}   (T : Er X (d + 1) M_X11_lives 2 [some (.ref 145), some (.int 0), none, none] [] I J (qV P)) : EV X (d + 1) n_X11_lives [.ref 145] I J P := by
  refine ⟨M_X11_lives, tb_X11_lives, Nat.le_of_ble_eq_true rfl, ?_⟩
  show Er X (d + 1) M_X11_lives 0 [some (.ref 145), none, none, none] [] I J (qV P)
  refine e_k rfl rfl rfl ic_0 ?_
  refine e_l (L' := [some (.ref 145), some (.int 0), none, none]) rfl rfl rfl ?_
  exact T
set_option maxRecDepth 10000 in
set_option maxHeartbeats 4000000 in
theorem vc_X11_lives_2 {X : mm_X} {d : Nat} {I : tI} {J : tJ} {P : tI → tJ → Prop} {v1 : Int32}  (T : ((I 145 9) ≤ v1 → (Er X (d + 1) M_X11_lives 55 [some (.ref 145), some (.int 0), none, none] [] I J (qV P))) ∧ (¬ ((I 145 9) ≤ v1) → (ix ((3 * v1) + 1) 24 ∧ (ix v1 8 ∧ (ix v1 8 ∧ (ix v1 8 ∧ (ix v1 8 ∧ (ix v1 8 ∧ (ix v1 8 ∧ (ix v1 8 ∧ (ix v1 8 ∧ (Er X (d + 1) M_X11_lives 2 [some (.ref 145), some (.int (v1 + 1)), none, none] [] (mm_u (mm_u (mm_u (mm_u (mm_u (mm_u (mm_u I 157 (tn v1) (I 153 (tn ((3 * v1) + 1)))) 159 (tn v1) ((mm_u I 157 (tn v1) (I 153 (tn ((3 * v1) + 1)))) 157 (tn v1))) 158 (tn v1) 0) 160 (tn v1) (-9)) 164 (tn v1) (-1)) 165 (tn v1) 0) 166 (tn v1) (-1)) J (qV P))))))))))))) : Er X (d + 1) M_X11_lives 2 [some (.ref 145), some (.int v1), none, none] [] I J (qV P) := by
  refine e_l rfl rfl rfl ?_
  refine e_l rfl rfl rfl ?_
  refine e_gi rfl (g_145) (by decide) ?_
  refine e_b rfl rfl rfl (fun hA => ?_) (fun hA => ?_)
  · replace T := T.1 hA
    refine e_k rfl rfl rfl ic_0 ?_
    refine e_l (L' := [some (.ref 145), some (.int 0), none, none]) rfl rfl rfl ?_
    exact T
  · replace T := T.2 hA
    refine e_l rfl rfl rfl ?_
    refine e_gr rfl (g_145) rfl (r_145_16) ?_
    refine e_l rfl rfl rfl ?_
    refine e_l rfl rfl rfl ?_
    refine e_gr rfl (g_145) rfl (r_145_10) ?_
    refine e_k rfl rfl rfl ic_3 ?_
    refine e_l rfl rfl rfl ?_
    refine e_p rfl rfl rfl ?_
    refine e_k rfl rfl rfl ic_1 ?_
    refine e_p rfl rfl rfl ?_
    refine e_ia rfl (g_153) T.1 ?_
    replace T := T.2
    refine e_as rfl (g_157) T.1 ?_
    replace T := T.2
    refine e_l rfl rfl rfl ?_
    refine e_gr rfl (g_145) rfl (r_145_18) ?_
    refine e_l rfl rfl rfl ?_
    refine e_l rfl rfl rfl ?_
    refine e_gr rfl (g_145) rfl (r_145_16) ?_
    refine e_l rfl rfl rfl ?_
    refine e_ia rfl (g_157) T.1 ?_
    replace T := T.2
    refine e_as rfl (g_159) T.1 ?_
    replace T := T.2
    refine e_l rfl rfl rfl ?_
    refine e_gr rfl (g_145) rfl (r_145_17) ?_
    refine e_l rfl rfl rfl ?_
    refine e_k rfl rfl rfl ic_0 ?_
    refine e_as rfl (g_158) T.1 ?_
    replace T := T.2
    refine e_l rfl rfl rfl ?_
    refine e_gr rfl (g_145) rfl (r_145_19) ?_
    refine e_l rfl rfl rfl ?_
    refine e_k rfl rfl rfl ib_m9 ?_
    refine e_as rfl (g_160) T.1 ?_
    replace T := T.2
    refine e_l rfl rfl rfl ?_
    refine e_gr rfl (g_145) rfl (r_145_23) ?_
    refine e_l rfl rfl rfl ?_
    refine e_k rfl rfl rfl ic_m1 ?_
    refine e_as rfl (g_164) T.1 ?_
    replace T := T.2
    refine e_l rfl rfl rfl ?_
    refine e_gr rfl (g_145) rfl (r_145_24) ?_
    refine e_l rfl rfl rfl ?_
    refine e_k rfl rfl rfl ic_0 ?_
    refine e_as rfl (g_165) T.1 ?_
    replace T := T.2
    refine e_l rfl rfl rfl ?_
    refine e_gr rfl (g_145) rfl (r_145_25) ?_
    refine e_l rfl rfl rfl ?_
    refine e_k rfl rfl rfl ic_m1 ?_
    refine e_as rfl (g_166) T.1 ?_
    replace T := T.2
    refine e_ic (v := (v1 + 1)) (L' := [some (.ref 145), some (.int (v1 + 1)), none, none]) rfl rfl rfl ic_1 rfl ?_
    refine e_g rfl ?_
    exact T
set_option maxRecDepth 10000 in
set_option maxHeartbeats 4000000 in
theorem vc_X11_lives_55 {X : mm_X} {d : Nat} {I : tI} {J : tJ} {P : tI → tJ → Prop} {v1 : Int32} {o2 : Option Value} {o3 : Option Value}  (T : (30 ≤ v1 → (P I J)) ∧ (¬ (30 ≤ v1) → (Er X (d + 1) M_X11_lives 60 [some (.ref 145), some (.int v1), some (.int 0), o3] [] I J (qV P)))) : Er X (d + 1) M_X11_lives 55 [some (.ref 145), some (.int v1), o2, o3] [] I J (qV P) := by
  refine e_l rfl rfl rfl ?_
  refine e_k rfl rfl rfl ib_30 ?_
  refine e_b rfl rfl rfl (fun hA => ?_) (fun hA => ?_)
  · replace T := T.1 hA
    exact e_rv rfl rfl ⟨rfl, T⟩
  · replace T := T.2 hA
    refine e_k rfl rfl rfl ic_0 ?_
    refine e_l (L' := [some (.ref 145), some (.int v1), some (.int 0), o3]) rfl rfl rfl ?_
    exact T
set_option maxRecDepth 10000 in
set_option maxHeartbeats 4000000 in
theorem vc_X11_lives_60 {X : mm_X} {d : Nat} {I : tI} {J : tJ} {P : tI → tJ → Prop} {v1 : Int32} {v2 : Int32} {o3 : Option Value}  (T : ((I 145 9) ≤ v2 → (Er X (d + 1) M_X11_lives 72 [some (.ref 145), some (.int v1), some (.int 0), o3] [] I J (qV P))) ∧ (¬ ((I 145 9) ≤ v2) → (EV X d n_X11_comesAgain [.ref 145, .int v1, .int v2] I J (fun I_2 J_3 => Er X (d + 1) M_X11_lives 60 [some (.ref 145), some (.int v1), some (.int (v2 + 1)), o3] [] I_2 J_3 (qV P))))) : Er X (d + 1) M_X11_lives 60 [some (.ref 145), some (.int v1), some (.int v2), o3] [] I J (qV P) := by
  refine e_l rfl rfl rfl ?_
  refine e_l rfl rfl rfl ?_
  refine e_gi rfl (g_145) (by decide) ?_
  refine e_b rfl rfl rfl (fun hA => ?_) (fun hA => ?_)
  · replace T := T.1 hA
    refine e_k rfl rfl rfl ic_0 ?_
    refine e_l (L' := [some (.ref 145), some (.int v1), some (.int 0), o3]) rfl rfl rfl ?_
    exact T
  · replace T := T.2 hA
    refine e_l rfl rfl rfl ?_
    refine e_l rfl rfl rfl ?_
    refine e_l rfl rfl rfl ?_
    refine e_cvV (as := [.int v1, .int v2]) (rs := []) rfl rfl (g_145) rfl T (fun I_2 J_3 T => ?_)
    try dsimp only at T
    refine e_ic (v := (v2 + 1)) (L' := [some (.ref 145), some (.int v1), some (.int (v2 + 1)), o3]) rfl rfl rfl ic_1 rfl ?_
    refine e_g rfl ?_
    exact T
set_option maxRecDepth 10000 in
set_option maxHeartbeats 4000000 in
theorem vc_X11_lives_72 {X : mm_X} {d : Nat} {I : tI} {J : tJ} {P : tI → tJ → Prop} {v1 : Int32} {v2 : Int32} {o3 : Option Value}  (T : ((I 145 9) ≤ v2 → (EV X d n_X11_burns [.ref 145, .int v1] I J (fun I_2 J_3 => EV X d n_X11_spreads [.ref 145, .int v1] I_2 J_3 (fun I_5 J_6 => EV X d n_X11_cool [.ref 145, .int v1] I_5 J_6 (fun I_8 J_9 => Er X (d + 1) M_X11_lives 133 [some (.ref 145), some (.int v1), some (.int 0), o3] [] I_8 J_9 (qV P)))))) ∧ (¬ ((I 145 9) ≤ v2) → (ix v2 8 ∧ (((I 158 (tn v2)) ≠ 0 → (Er X (d + 1) M_X11_lives 107 [some (.ref 145), some (.int v1), some (.int v2), o3] [.int 0] I J (qV P))) ∧ (¬ ((I 158 (tn v2)) ≠ 0) → (ix ((3 * v2) + 2) 24 ∧ (((I 145 7) ≤ (I 153 (tn ((3 * v2) + 2))) → (Er X (d + 1) M_X11_lives 107 [some (.ref 145), some (.int v1), some (.int v2), o3] [.int 0] I J (qV P))) ∧ (¬ ((I 145 7) ≤ (I 153 (tn ((3 * v2) + 2)))) → (ix ((3 * v2) + 2) 24 ∧ (EI X d n_X11_standingIn [.ref 145, .int (I 153 (tn ((3 * v2) + 2)))] I J (fun x_10 I_11 J_12 => (x_10 ≠ (-1) → (Er X (d + 1) M_X11_lives 107 [some (.ref 145), some (.int v1), some (.int v2), o3] [.int 0] I_11 J_12 (qV P))) ∧ (¬ (x_10 ≠ (-1)) → (Er X (d + 1) M_X11_lives 107 [some (.ref 145), some (.int v1), some (.int v2), o3] [.int 1] I_11 J_12 (qV P)))))))))))))) : Er X (d + 1) M_X11_lives 72 [some (.ref 145), some (.int v1), some (.int v2), o3] [] I J (qV P) := by
  refine e_l rfl rfl rfl ?_
  refine e_l rfl rfl rfl ?_
  refine e_gi rfl (g_145) (by decide) ?_
  refine e_b rfl rfl rfl (fun hA => ?_) (fun hA => ?_)
  · replace T := T.1 hA
    refine e_l rfl rfl rfl ?_
    refine e_l rfl rfl rfl ?_
    refine e_cvV (as := [.int v1]) (rs := []) rfl rfl (g_145) rfl T (fun I_2 J_3 T => ?_)
    try dsimp only at T
    refine e_l rfl rfl rfl ?_
    refine e_l rfl rfl rfl ?_
    refine e_cvV (as := [.int v1]) (rs := []) rfl rfl (g_145) rfl T (fun I_5 J_6 T => ?_)
    try dsimp only at T
    refine e_l rfl rfl rfl ?_
    refine e_l rfl rfl rfl ?_
    refine e_cvV (as := [.int v1]) (rs := []) rfl rfl (g_145) rfl T (fun I_8 J_9 T => ?_)
    try dsimp only at T
    refine e_k rfl rfl rfl ic_0 ?_
    refine e_l (L' := [some (.ref 145), some (.int v1), some (.int 0), o3]) rfl rfl rfl ?_
    exact T
  · replace T := T.2 hA
    refine e_l rfl rfl rfl ?_
    refine e_gr rfl (g_145) rfl (r_145_17) ?_
    refine e_l rfl rfl rfl ?_
    refine e_ia rfl (g_158) T.1 ?_
    replace T := T.2
    refine e_b rfl rfl rfl (fun hA => ?_) (fun hA => ?_)
    · replace T := T.1 hA
      refine e_k rfl rfl rfl ic_0 ?_
      exact T
    · replace T := T.2 hA
      refine e_l rfl rfl rfl ?_
      refine e_gr rfl (g_145) rfl (r_145_10) ?_
      refine e_k rfl rfl rfl ic_3 ?_
      refine e_l rfl rfl rfl ?_
      refine e_p rfl rfl rfl ?_
      refine e_k rfl rfl rfl ic_2 ?_
      refine e_p rfl rfl rfl ?_
      refine e_ia rfl (g_153) T.1 ?_
      replace T := T.2
      refine e_l rfl rfl rfl ?_
      refine e_gi rfl (g_145) (by decide) ?_
      refine e_b rfl rfl rfl (fun hA => ?_) (fun hA => ?_)
      · replace T := T.1 hA
        refine e_k rfl rfl rfl ic_0 ?_
        exact T
      · replace T := T.2 hA
        refine e_l rfl rfl rfl ?_
        refine e_l rfl rfl rfl ?_
        refine e_gr rfl (g_145) rfl (r_145_10) ?_
        refine e_k rfl rfl rfl ic_3 ?_
        refine e_l rfl rfl rfl ?_
        refine e_p rfl rfl rfl ?_
        refine e_k rfl rfl rfl ic_2 ?_
        refine e_p rfl rfl rfl ?_
        refine e_ia rfl (g_153) T.1 ?_
        replace T := T.2
        refine e_cvI (as := [.int (I 153 (tn ((3 * v2) + 2)))]) (rs := []) rfl rfl (g_145) rfl T (fun x_10 I_11 J_12 T => ?_)
        try dsimp only at T
        refine e_k rfl rfl rfl ic_m1 ?_
        refine e_b rfl rfl rfl (fun hA => ?_) (fun hA => ?_)
        · replace T := T.1 hA
          refine e_k rfl rfl rfl ic_0 ?_
          exact T
        · replace T := T.2 hA
          refine e_k rfl rfl rfl ic_1 ?_
          refine e_g rfl ?_
          exact T
set_option maxRecDepth 10000 in
set_option maxHeartbeats 4000000 in
theorem vc_X11_lives_107 {X : mm_X} {d : Nat} {I : tI} {J : tJ} {P : tI → tJ → Prop} {v1 : Int32} {v2 : Int32} {o3 : Option Value} {s0 : Int32}  (T : (s0 = 0 → (ix v2 8 ∧ (ix v2 8 ∧ (Er X (d + 1) M_X11_lives 72 [some (.ref 145), some (.int v1), some (.int (v2 + 1)), some (.int s0)] [] (mm_u I 158 (tn v2) (I 158 (tn v2))) J (qV P))))) ∧ (¬ (s0 = 0) → (ix v2 8 ∧ (Er X (d + 1) M_X11_lives 72 [some (.ref 145), some (.int v1), some (.int (v2 + 1)), some (.int s0)] [] (mm_u I 158 (tn v2) 1) J (qV P))))) : Er X (d + 1) M_X11_lives 107 [some (.ref 145), some (.int v1), some (.int v2), o3] [.int s0] I J (qV P) := by
  refine e_l (L' := [some (.ref 145), some (.int v1), some (.int v2), some (.int s0)]) rfl rfl rfl ?_
  refine e_l rfl rfl rfl ?_
  refine e_gr rfl (g_145) rfl (r_145_17) ?_
  refine e_l rfl rfl rfl ?_
  refine e_l rfl rfl rfl ?_
  refine e_b rfl rfl rfl (fun hA => ?_) (fun hA => ?_)
  · replace T := T.1 hA
    refine e_l rfl rfl rfl ?_
    refine e_gr rfl (g_145) rfl (r_145_17) ?_
    refine e_l rfl rfl rfl ?_
    refine e_ia rfl (g_158) T.1 ?_
    replace T := T.2
    refine e_as rfl (g_158) T.1 ?_
    replace T := T.2
    refine e_ic (v := (v2 + 1)) (L' := [some (.ref 145), some (.int v1), some (.int (v2 + 1)), some (.int s0)]) rfl rfl rfl ic_1 rfl ?_
    refine e_g rfl ?_
    exact T
  · replace T := T.2 hA
    refine e_k rfl rfl rfl ic_1 ?_
    refine e_g rfl ?_
    refine e_as rfl (g_158) T.1 ?_
    replace T := T.2
    refine e_ic (v := (v2 + 1)) (L' := [some (.ref 145), some (.int v1), some (.int (v2 + 1)), some (.int s0)]) rfl rfl rfl ic_1 rfl ?_
    refine e_g rfl ?_
    exact T
set_option maxRecDepth 10000 in
set_option maxHeartbeats 4000000 in
theorem vc_X11_lives_133 {X : mm_X} {d : Nat} {I : tI} {J : tJ} {P : tI → tJ → Prop} {v1 : Int32} {v2 : Int32} {o3 : Option Value}  (T : ((I 145 9) ≤ v2 → (Er X (d + 1) M_X11_lives 55 [some (.ref 145), some (.int (v1 + 1)), some (.int v2), o3] [] I J (qV P))) ∧ (¬ ((I 145 9) ≤ v2) → (ix v2 8 ∧ (ix ((8 * v1) + v2) 240 ∧ (ix v2 8 ∧ (ix ((8 * v1) + v2) 240 ∧ (Er X (d + 1) M_X11_lives 133 [some (.ref 145), some (.int v1), some (.int (v2 + 1)), o3] [] (mm_u (mm_u I 162 (tn ((8 * v1) + v2)) (I 157 (tn v2))) 163 (tn ((8 * v1) + v2)) ((mm_u I 162 (tn ((8 * v1) + v2)) (I 157 (tn v2))) 158 (tn v2))) J (qV P)))))))) : Er X (d + 1) M_X11_lives 133 [some (.ref 145), some (.int v1), some (.int v2), o3] [] I J (qV P) := by
  refine e_l rfl rfl rfl ?_
  refine e_l rfl rfl rfl ?_
  refine e_gi rfl (g_145) (by decide) ?_
  refine e_b rfl rfl rfl (fun hA => ?_) (fun hA => ?_)
  · replace T := T.1 hA
    refine e_ic (v := (v1 + 1)) (L' := [some (.ref 145), some (.int (v1 + 1)), some (.int v2), o3]) rfl rfl rfl ic_1 rfl ?_
    refine e_g rfl ?_
    exact T
  · replace T := T.2 hA
    refine e_l rfl rfl rfl ?_
    refine e_gr rfl (g_145) rfl (r_145_21) ?_
    refine e_k rfl rfl rfl ib_8 ?_
    refine e_l rfl rfl rfl ?_
    refine e_p rfl rfl rfl ?_
    refine e_l rfl rfl rfl ?_
    refine e_p rfl rfl rfl ?_
    refine e_l rfl rfl rfl ?_
    refine e_gr rfl (g_145) rfl (r_145_16) ?_
    refine e_l rfl rfl rfl ?_
    refine e_ia rfl (g_157) T.1 ?_
    replace T := T.2
    refine e_as rfl (g_162) T.1 ?_
    replace T := T.2
    refine e_l rfl rfl rfl ?_
    refine e_gr rfl (g_145) rfl (r_145_22) ?_
    refine e_k rfl rfl rfl ib_8 ?_
    refine e_l rfl rfl rfl ?_
    refine e_p rfl rfl rfl ?_
    refine e_l rfl rfl rfl ?_
    refine e_p rfl rfl rfl ?_
    refine e_l rfl rfl rfl ?_
    refine e_gr rfl (g_145) rfl (r_145_17) ?_
    refine e_l rfl rfl rfl ?_
    refine e_ia rfl (g_158) T.1 ?_
    replace T := T.2
    refine e_as rfl (g_163) T.1 ?_
    replace T := T.2
    refine e_ic (v := (v2 + 1)) (L' := [some (.ref 145), some (.int v1), some (.int (v2 + 1)), o3]) rfl rfl rfl ic_1 rfl ?_
    refine e_g rfl ?_
    exact T
set_option maxRecDepth 10000 in
set_option maxHeartbeats 4000000 in
theorem vc_X11_find {X : mm_X} {d : Nat} {I : tI} {J : tJ} {P : tI → tJ → Prop}   (T : EI X d n_X11_readsRack [.ref 145] I J (fun x_1 I_2 J_3 => EI X d n_X11_readsSlices [.ref 145] I_2 J_3 (fun x_4 I_5 J_6 => EV X d n_X11_lives [.ref 145] I_5 J_6 (fun I_8 J_9 => P I_8 J_9)))) : EV X (d + 1) n_X11_find [.ref 145] I J P := by
  refine ⟨M_X11_find, tb_X11_find, Nat.le_of_ble_eq_true rfl, ?_⟩
  show Er X (d + 1) M_X11_find 0 [some (.ref 145)] [] I J (qV P)
  refine e_l rfl rfl rfl ?_
  refine e_cvI (as := []) (rs := []) rfl rfl (g_145) rfl T (fun x_1 I_2 J_3 T => ?_)
  try dsimp only at T
  refine e_p rfl rfl rfl ?_
  refine e_l rfl rfl rfl ?_
  refine e_cvI (as := []) (rs := []) rfl rfl (g_145) rfl T (fun x_4 I_5 J_6 T => ?_)
  try dsimp only at T
  refine e_p rfl rfl rfl ?_
  refine e_l rfl rfl rfl ?_
  refine e_cvV (as := []) (rs := []) rfl rfl (g_145) rfl T (fun I_8 J_9 T => ?_)
  try dsimp only at T
  exact e_rv rfl rfl ⟨rfl, T⟩
set_option maxRecDepth 10000 in
set_option maxHeartbeats 4000000 in
theorem vc_X11_heat {X : mm_X} {d : Nat} {I : tI} {J : tJ} {P : Int32 → tI → tJ → Prop} {v1 : Int32} {v2 : Int32}  (T : EV X d n_X11_find [.ref 145] I J (fun I_2 J_3 => EI X d n_X11_isHour [.int v1] I_2 J_3 (fun x_4 I_5 J_6 => (x_4 = 0 → (P (-2) I_5 J_6)) ∧ (¬ (x_4 = 0) → (EI X d n_X11_isSlice [.ref 145, .int v2] I_5 J_6 (fun x_7 I_8 J_9 => (x_7 = 0 → (P (-2) I_8 J_9)) ∧ (¬ (x_7 = 0) → (ix ((8 * v1) + v2) 240 ∧ (P (I_8 162 (tn ((8 * v1) + v2))) I_8 J_9))))))))) : EI X (d + 1) n_X11_heat [.ref 145, .int v1, .int v2] I J P := by
  refine ⟨M_X11_heat, tb_X11_heat, Nat.le_of_ble_eq_true rfl, ?_⟩
  show Er X (d + 1) M_X11_heat 0 [some (.ref 145), some (.int v1), some (.int v2)] [] I J (qI P)
  refine e_l rfl rfl rfl ?_
  refine e_cvV (as := []) (rs := []) rfl rfl (g_145) rfl T (fun I_2 J_3 T => ?_)
  try dsimp only at T
  refine e_l rfl rfl rfl ?_
  refine e_csI (as := [.int v1]) (rs := []) rfl rfl rfl T (fun x_4 I_5 J_6 T => ?_)
  try dsimp only at T
  refine e_b rfl rfl rfl (fun hA => ?_) (fun hA => ?_)
  · replace T := T.1 hA
    refine e_k rfl rfl rfl ib_m2 ?_
    exact e_ri rfl rfl ⟨_, rfl, T⟩
  · replace T := T.2 hA
    refine e_l rfl rfl rfl ?_
    refine e_l rfl rfl rfl ?_
    refine e_cvI (as := [.int v2]) (rs := []) rfl rfl (g_145) rfl T (fun x_7 I_8 J_9 T => ?_)
    try dsimp only at T
    refine e_b rfl rfl rfl (fun hA => ?_) (fun hA => ?_)
    · replace T := T.1 hA
      refine e_k rfl rfl rfl ib_m2 ?_
      exact e_ri rfl rfl ⟨_, rfl, T⟩
    · replace T := T.2 hA
      refine e_l rfl rfl rfl ?_
      refine e_gr rfl (g_145) rfl (r_145_21) ?_
      refine e_k rfl rfl rfl ib_8 ?_
      refine e_l rfl rfl rfl ?_
      refine e_p rfl rfl rfl ?_
      refine e_l rfl rfl rfl ?_
      refine e_p rfl rfl rfl ?_
      refine e_ia rfl (g_162) T.1 ?_
      replace T := T.2
      refine e_g rfl ?_
      exact e_ri rfl rfl ⟨_, rfl, T⟩
set_option maxRecDepth 10000 in
set_option maxHeartbeats 4000000 in
theorem vc_X11_state {X : mm_X} {d : Nat} {I : tI} {J : tJ} {P : Int32 → tI → tJ → Prop} {v1 : Int32} {v2 : Int32}  (T : EV X d n_X11_find [.ref 145] I J (fun I_2 J_3 => EI X d n_X11_isHour [.int v1] I_2 J_3 (fun x_4 I_5 J_6 => (x_4 = 0 → (P (-2) I_5 J_6)) ∧ (¬ (x_4 = 0) → (EI X d n_X11_isSlice [.ref 145, .int v2] I_5 J_6 (fun x_7 I_8 J_9 => (x_7 = 0 → (P (-2) I_8 J_9)) ∧ (¬ (x_7 = 0) → (ix ((8 * v1) + v2) 240 ∧ (P (I_8 163 (tn ((8 * v1) + v2))) I_8 J_9))))))))) : EI X (d + 1) n_X11_state [.ref 145, .int v1, .int v2] I J P := by
  refine ⟨M_X11_state, tb_X11_state, Nat.le_of_ble_eq_true rfl, ?_⟩
  show Er X (d + 1) M_X11_state 0 [some (.ref 145), some (.int v1), some (.int v2)] [] I J (qI P)
  refine e_l rfl rfl rfl ?_
  refine e_cvV (as := []) (rs := []) rfl rfl (g_145) rfl T (fun I_2 J_3 T => ?_)
  try dsimp only at T
  refine e_l rfl rfl rfl ?_
  refine e_csI (as := [.int v1]) (rs := []) rfl rfl rfl T (fun x_4 I_5 J_6 T => ?_)
  try dsimp only at T
  refine e_b rfl rfl rfl (fun hA => ?_) (fun hA => ?_)
  · replace T := T.1 hA
    refine e_k rfl rfl rfl ib_m2 ?_
    exact e_ri rfl rfl ⟨_, rfl, T⟩
  · replace T := T.2 hA
    refine e_l rfl rfl rfl ?_
    refine e_l rfl rfl rfl ?_
    refine e_cvI (as := [.int v2]) (rs := []) rfl rfl (g_145) rfl T (fun x_7 I_8 J_9 T => ?_)
    try dsimp only at T
    refine e_b rfl rfl rfl (fun hA => ?_) (fun hA => ?_)
    · replace T := T.1 hA
      refine e_k rfl rfl rfl ib_m2 ?_
      exact e_ri rfl rfl ⟨_, rfl, T⟩
    · replace T := T.2 hA
      refine e_l rfl rfl rfl ?_
      refine e_gr rfl (g_145) rfl (r_145_22) ?_
      refine e_k rfl rfl rfl ib_8 ?_
      refine e_l rfl rfl rfl ?_
      refine e_p rfl rfl rfl ?_
      refine e_l rfl rfl rfl ?_
      refine e_p rfl rfl rfl ?_
      refine e_ia rfl (g_163) T.1 ?_
      replace T := T.2
      refine e_g rfl ?_
      exact e_ri rfl rfl ⟨_, rfl, T⟩
set_option maxRecDepth 10000 in
set_option maxHeartbeats 4000000 in
theorem vc_X11_heldBy {X : mm_X} {d : Nat} {I : tI} {J : tJ} {P : Int32 → tI → tJ → Prop} {v1 : Int32}  (T : Er X d M_X11_heldBy 4 [some (.ref 145), some (.int v1), some (.int 0), some (.int 0)] [] I J (qI P)) : EI X d n_X11_heldBy [.ref 145, .int v1] I J P := by
  refine ⟨M_X11_heldBy, tb_X11_heldBy, Nat.le_of_ble_eq_true rfl, ?_⟩
  show Er X d M_X11_heldBy 0 [some (.ref 145), some (.int v1), none, none] [] I J (qI P)
  refine e_k rfl rfl rfl ic_0 ?_
  refine e_l (L' := [some (.ref 145), some (.int v1), some (.int 0), none]) rfl rfl rfl ?_
  refine e_k rfl rfl rfl ic_0 ?_
  refine e_l (L' := [some (.ref 145), some (.int v1), some (.int 0), some (.int 0)]) rfl rfl rfl ?_
  exact T
set_option maxRecDepth 10000 in
set_option maxHeartbeats 4000000 in
theorem vc_X11_heldBy_4 {X : mm_X} {d : Nat} {I : tI} {J : tJ} {P : Int32 → tI → tJ → Prop} {v1 : Int32} {v2 : Int32} {v3 : Int32}  (T : ((I 145 9) ≤ v3 → (P v2 I J)) ∧ (¬ ((I 145 9) ≤ v3) → (ix ((8 * v1) + v3) 240 ∧ (((I 163 (tn ((8 * v1) + v3))) ≠ 1 → (∀ y2_1 : Int32, y2_1 = (v2 ||| 0) → (Er X d M_X11_heldBy 4 [some (.ref 145), some (.int v1), some (.int y2_1), some (.int (v3 + 1))] [] I J (qI P)))) ∧ (¬ ((I 163 (tn ((8 * v1) + v3))) ≠ 1) → (ix ((3 * v3) + 2) 24 ∧ (∀ y2_2 : Int32, y2_2 = (v2 ||| (1 <<< ((I 153 (tn ((3 * v3) + 2))) &&& 31))) → (Er X d M_X11_heldBy 4 [some (.ref 145), some (.int v1), some (.int y2_2), some (.int (v3 + 1))] [] I J (qI P))))))))) : Er X d M_X11_heldBy 4 [some (.ref 145), some (.int v1), some (.int v2), some (.int v3)] [] I J (qI P) := by
  refine e_l rfl rfl rfl ?_
  refine e_l rfl rfl rfl ?_
  refine e_gi rfl (g_145) (by decide) ?_
  refine e_b rfl rfl rfl (fun hA => ?_) (fun hA => ?_)
  · replace T := T.1 hA
    refine e_l rfl rfl rfl ?_
    exact e_ri rfl rfl ⟨_, rfl, T⟩
  · replace T := T.2 hA
    refine e_l rfl rfl rfl ?_
    refine e_l rfl rfl rfl ?_
    refine e_gr rfl (g_145) rfl (r_145_22) ?_
    refine e_k rfl rfl rfl ib_8 ?_
    refine e_l rfl rfl rfl ?_
    refine e_p rfl rfl rfl ?_
    refine e_l rfl rfl rfl ?_
    refine e_p rfl rfl rfl ?_
    refine e_ia rfl (g_163) T.1 ?_
    replace T := T.2
    refine e_k rfl rfl rfl ic_1 ?_
    refine e_b rfl rfl rfl (fun hA => ?_) (fun hA => ?_)
    · replace T := T.1 hA
      refine e_k rfl rfl rfl ic_0 ?_
      refine e_p rfl rfl rfl ?_
      refine e_si (Lf := fun y2_1 => [some (.ref 145), some (.int v1), some (.int y2_1), some (.int v3)]) rfl rfl rfl (fun y2_1 hy2_1 => ?_)
      replace T := T y2_1 hy2_1
      refine e_ic (v := (v3 + 1)) (L' := [some (.ref 145), some (.int v1), some (.int y2_1), some (.int (v3 + 1))]) rfl rfl rfl ic_1 rfl ?_
      refine e_g rfl ?_
      exact T
    · replace T := T.2 hA
      refine e_k rfl rfl rfl ic_1 ?_
      refine e_l rfl rfl rfl ?_
      refine e_gr rfl (g_145) rfl (r_145_10) ?_
      refine e_k rfl rfl rfl ic_3 ?_
      refine e_l rfl rfl rfl ?_
      refine e_p rfl rfl rfl ?_
      refine e_k rfl rfl rfl ic_2 ?_
      refine e_p rfl rfl rfl ?_
      refine e_ia rfl (g_153) T.1 ?_
      replace T := T.2
      refine e_p rfl rfl rfl ?_
      refine e_g rfl ?_
      refine e_p rfl rfl rfl ?_
      refine e_si (Lf := fun y2_2 => [some (.ref 145), some (.int v1), some (.int y2_2), some (.int v3)]) rfl rfl rfl (fun y2_2 hy2_2 => ?_)
      replace T := T y2_2 hy2_2
      refine e_ic (v := (v3 + 1)) (L' := [some (.ref 145), some (.int v1), some (.int y2_2), some (.int (v3 + 1))]) rfl rfl rfl ic_1 rfl ?_
      refine e_g rfl ?_
      exact T
set_option maxRecDepth 10000 in
set_option maxHeartbeats 4000000 in
theorem vc_X11_held {X : mm_X} {d : Nat} {I : tI} {J : tJ} {P : Int32 → tI → tJ → Prop} {v1 : Int32}  (T : EV X d n_X11_find [.ref 145] I J (fun I_2 J_3 => EI X d n_X11_isHour [.int v1] I_2 J_3 (fun x_4 I_5 J_6 => (x_4 = 0 → (P (-2) I_5 J_6)) ∧ (¬ (x_4 = 0) → (EI X d n_X11_heldBy [.ref 145, .int v1] I_5 J_6 (fun x_7 I_8 J_9 => P x_7 I_8 J_9)))))) : EI X (d + 1) n_X11_held [.ref 145, .int v1] I J P := by
  refine ⟨M_X11_held, tb_X11_held, Nat.le_of_ble_eq_true rfl, ?_⟩
  show Er X (d + 1) M_X11_held 0 [some (.ref 145), some (.int v1)] [] I J (qI P)
  refine e_l rfl rfl rfl ?_
  refine e_cvV (as := []) (rs := []) rfl rfl (g_145) rfl T (fun I_2 J_3 T => ?_)
  try dsimp only at T
  refine e_l rfl rfl rfl ?_
  refine e_csI (as := [.int v1]) (rs := []) rfl rfl rfl T (fun x_4 I_5 J_6 T => ?_)
  try dsimp only at T
  refine e_b rfl rfl rfl (fun hA => ?_) (fun hA => ?_)
  · replace T := T.1 hA
    refine e_k rfl rfl rfl ib_m2 ?_
    exact e_ri rfl rfl ⟨_, rfl, T⟩
  · replace T := T.2 hA
    refine e_l rfl rfl rfl ?_
    refine e_l rfl rfl rfl ?_
    refine e_cvI (as := [.int v1]) (rs := []) rfl rfl (g_145) rfl T (fun x_7 I_8 J_9 T => ?_)
    try dsimp only at T
    refine e_g rfl ?_
    exact e_ri rfl rfl ⟨_, rfl, T⟩
set_option maxRecDepth 10000 in
set_option maxHeartbeats 4000000 in
theorem vc_X11_freedBy {X : mm_X} {d : Nat} {I : tI} {J : tJ} {P : Int32 → tI → tJ → Prop} {v1 : Int32} {v2 : Int32}  (T : (v2 ≠ 0 → (ix v1 8 ∧ (P (I 165 (tn v1)) I J))) ∧ (¬ (v2 ≠ 0) → (ix v1 8 ∧ (P (I 164 (tn v1)) I J)))) : EI X d n_X11_freedBy [.ref 145, .int v1, .int v2] I J P := by
  refine ⟨M_X11_freedBy, tb_X11_freedBy, Nat.le_of_ble_eq_true rfl, ?_⟩
  show Er X d M_X11_freedBy 0 [some (.ref 145), some (.int v1), some (.int v2)] [] I J (qI P)
  refine e_l rfl rfl rfl ?_
  refine e_b rfl rfl rfl (fun hA => ?_) (fun hA => ?_)
  · replace T := T.1 hA
    refine e_l rfl rfl rfl ?_
    refine e_gr rfl (g_145) rfl (r_145_24) ?_
    refine e_l rfl rfl rfl ?_
    refine e_ia rfl (g_165) T.1 ?_
    replace T := T.2
    exact e_ri rfl rfl ⟨_, rfl, T⟩
  · replace T := T.2 hA
    refine e_l rfl rfl rfl ?_
    refine e_gr rfl (g_145) rfl (r_145_23) ?_
    refine e_l rfl rfl rfl ?_
    refine e_ia rfl (g_164) T.1 ?_
    replace T := T.2
    refine e_g rfl ?_
    exact e_ri rfl rfl ⟨_, rfl, T⟩
set_option maxRecDepth 10000 in
set_option maxHeartbeats 4000000 in
theorem vc_X11_freed {X : mm_X} {d : Nat} {I : tI} {J : tJ} {P : Int32 → tI → tJ → Prop} {v1 : Int32} {v2 : Int32}  (T : EV X d n_X11_find [.ref 145] I J (fun I_2 J_3 => EI X d n_X11_isSlice [.ref 145, .int v1] I_2 J_3 (fun x_4 I_5 J_6 => (x_4 = 0 → (P (-2) I_5 J_6)) ∧ (¬ (x_4 = 0) → (EI X d n_X11_isTwo [.int v2] I_5 J_6 (fun x_7 I_8 J_9 => (x_7 = 0 → (P (-2) I_8 J_9)) ∧ (¬ (x_7 = 0) → (EI X d n_X11_freedBy [.ref 145, .int v1, .int v2] I_8 J_9 (fun x_10 I_11 J_12 => P x_10 I_11 J_12))))))))) : EI X (d + 1) n_X11_freed [.ref 145, .int v1, .int v2] I J P := by
  refine ⟨M_X11_freed, tb_X11_freed, Nat.le_of_ble_eq_true rfl, ?_⟩
  show Er X (d + 1) M_X11_freed 0 [some (.ref 145), some (.int v1), some (.int v2)] [] I J (qI P)
  refine e_l rfl rfl rfl ?_
  refine e_cvV (as := []) (rs := []) rfl rfl (g_145) rfl T (fun I_2 J_3 T => ?_)
  try dsimp only at T
  refine e_l rfl rfl rfl ?_
  refine e_l rfl rfl rfl ?_
  refine e_cvI (as := [.int v1]) (rs := []) rfl rfl (g_145) rfl T (fun x_4 I_5 J_6 T => ?_)
  try dsimp only at T
  refine e_b rfl rfl rfl (fun hA => ?_) (fun hA => ?_)
  · replace T := T.1 hA
    refine e_k rfl rfl rfl ib_m2 ?_
    exact e_ri rfl rfl ⟨_, rfl, T⟩
  · replace T := T.2 hA
    refine e_l rfl rfl rfl ?_
    refine e_csI (as := [.int v2]) (rs := []) rfl rfl rfl T (fun x_7 I_8 J_9 T => ?_)
    try dsimp only at T
    refine e_b rfl rfl rfl (fun hA => ?_) (fun hA => ?_)
    · replace T := T.1 hA
      refine e_k rfl rfl rfl ib_m2 ?_
      exact e_ri rfl rfl ⟨_, rfl, T⟩
    · replace T := T.2 hA
      refine e_l rfl rfl rfl ?_
      refine e_l rfl rfl rfl ?_
      refine e_l rfl rfl rfl ?_
      refine e_cvI (as := [.int v1, .int v2]) (rs := []) rfl rfl (g_145) rfl T (fun x_10 I_11 J_12 T => ?_)
      try dsimp only at T
      refine e_g rfl ?_
      exact e_ri rfl rfl ⟨_, rfl, T⟩
set_option maxRecDepth 10000 in
set_option maxHeartbeats 4000000 in
theorem vc_X11_spoiltNow {X : mm_X} {d : Nat} {I : tI} {J : tJ} {P : Int32 → tI → tJ → Prop}   (T : Er X d M_X11_spoiltNow 4 [some (.ref 145), some (.int 0), some (.int 0)] [] I J (qI P)) : EI X d n_X11_spoiltNow [.ref 145] I J P := by
  refine ⟨M_X11_spoiltNow, tb_X11_spoiltNow, Nat.le_of_ble_eq_true rfl, ?_⟩
  show Er X d M_X11_spoiltNow 0 [some (.ref 145), none, none] [] I J (qI P)
  refine e_k rfl rfl rfl ic_0 ?_
  refine e_l (L' := [some (.ref 145), some (.int 0), none]) rfl rfl rfl ?_
  refine e_k rfl rfl rfl ic_0 ?_
  refine e_l (L' := [some (.ref 145), some (.int 0), some (.int 0)]) rfl rfl rfl ?_
  exact T
set_option maxRecDepth 10000 in
set_option maxHeartbeats 4000000 in
theorem vc_X11_spoiltNow_4 {X : mm_X} {d : Nat} {I : tI} {J : tJ} {P : Int32 → tI → tJ → Prop} {v1 : Int32} {v2 : Int32}  (T : ((I 145 9) ≤ v2 → (P v1 I J)) ∧ (¬ ((I 145 9) ≤ v2) → (ix v2 8 ∧ (((I 158 (tn v2)) ≠ 3 → (∀ y1_1 : Int32, y1_1 = (v1 ||| 0) → (Er X d M_X11_spoiltNow 4 [some (.ref 145), some (.int y1_1), some (.int (v2 + 1))] [] I J (qI P)))) ∧ (¬ ((I 158 (tn v2)) ≠ 3) → (∀ y1_2 : Int32, y1_2 = (v1 ||| (1 <<< (v2 &&& 31))) → (Er X d M_X11_spoiltNow 4 [some (.ref 145), some (.int y1_2), some (.int (v2 + 1))] [] I J (qI P)))))))) : Er X d M_X11_spoiltNow 4 [some (.ref 145), some (.int v1), some (.int v2)] [] I J (qI P) := by
  refine e_l rfl rfl rfl ?_
  refine e_l rfl rfl rfl ?_
  refine e_gi rfl (g_145) (by decide) ?_
  refine e_b rfl rfl rfl (fun hA => ?_) (fun hA => ?_)
  · replace T := T.1 hA
    refine e_l rfl rfl rfl ?_
    exact e_ri rfl rfl ⟨_, rfl, T⟩
  · replace T := T.2 hA
    refine e_l rfl rfl rfl ?_
    refine e_l rfl rfl rfl ?_
    refine e_gr rfl (g_145) rfl (r_145_17) ?_
    refine e_l rfl rfl rfl ?_
    refine e_ia rfl (g_158) T.1 ?_
    replace T := T.2
    refine e_k rfl rfl rfl ic_3 ?_
    refine e_b rfl rfl rfl (fun hA => ?_) (fun hA => ?_)
    · replace T := T.1 hA
      refine e_k rfl rfl rfl ic_0 ?_
      refine e_p rfl rfl rfl ?_
      refine e_si (Lf := fun y1_1 => [some (.ref 145), some (.int y1_1), some (.int v2)]) rfl rfl rfl (fun y1_1 hy1_1 => ?_)
      replace T := T y1_1 hy1_1
      refine e_ic (v := (v2 + 1)) (L' := [some (.ref 145), some (.int y1_1), some (.int (v2 + 1))]) rfl rfl rfl ic_1 rfl ?_
      refine e_g rfl ?_
      exact T
    · replace T := T.2 hA
      refine e_k rfl rfl rfl ic_1 ?_
      refine e_l rfl rfl rfl ?_
      refine e_p rfl rfl rfl ?_
      refine e_g rfl ?_
      refine e_p rfl rfl rfl ?_
      refine e_si (Lf := fun y1_2 => [some (.ref 145), some (.int y1_2), some (.int v2)]) rfl rfl rfl (fun y1_2 hy1_2 => ?_)
      replace T := T y1_2 hy1_2
      refine e_ic (v := (v2 + 1)) (L' := [some (.ref 145), some (.int y1_2), some (.int (v2 + 1))]) rfl rfl rfl ic_1 rfl ?_
      refine e_g rfl ?_
      exact T
