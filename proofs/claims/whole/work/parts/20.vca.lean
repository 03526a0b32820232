set_option maxRecDepth 10000 in
set_option maxHeartbeats 4000000 in
theorem vc_X0_begin {X : mm_X} {d : Nat} {I : tI} {J : tJ} {P : tI → tJ → Prop} {c : Nat} (hc : c ∈ mm_crs) (T : Er X d M_X0_begin 5 [some (.ref c), some (.int 0)] [] (mm_u I c 8 0) J (qV P)) : EV X d n_X0_begin [.ref c] I J P := by
  refine ⟨M_X0_begin, tb_X0_begin, Nat.le_of_ble_eq_true rfl, ?_⟩
  show Er X d M_X0_begin 0 [some (.ref c), none] [] I J (qV P)
  refine e_l rfl rfl rfl ?_
  refine e_k rfl rfl rfl ic_0 ?_
  refine e_pi rfl (crs_g c hc) rfl ?_
  refine e_k rfl rfl rfl ic_0 ?_
  refine e_l (L' := [some (.ref c), some (.int 0)]) rfl rfl rfl ?_
  exact T
set_option maxRecDepth 10000 in
set_option maxHeartbeats 4000000 in
theorem vc_X0_begin_5 {X : mm_X} {d : Nat} {I : tI} {J : tJ} {P : tI → tJ → Prop} {c : Nat} {v1 : Int32} (hc : c ∈ mm_crs) (T : ((I 2 2) ≤ v1 → (P I J)) ∧ (¬ ((I 2 2) ≤ v1) → (ix v1 8 ∧ (ix v1 8 ∧ (ix v1 8 ∧ (ix v1 8 ∧ (ix v1 8 ∧ (ix v1 8 ∧ (ix v1 8 ∧ (Er X d M_X0_begin 5 [some (.ref c), some (.int (v1 + 1))] [] (mm_u (mm_u (mm_u (mm_u (mm_u I (c + 1) (tn v1) (I 5 (tn v1))) (c + 3) (tn v1) ((mm_u I (c + 1) (tn v1) (I 5 (tn v1))) 5 (tn v1))) (c + 2) (tn v1) 0) (c + 5) (tn v1) (-1)) (c + 6) (tn v1) 0) J (qV P))))))))))) : Er X d M_X0_begin 5 [some (.ref c), some (.int v1)] [] I J (qV P) := by
  refine e_l rfl rfl rfl ?_
  refine e_l rfl rfl rfl ?_
  refine e_gr rfl (crs_g c hc) rfl (crs_r0 c hc) ?_
  refine e_gi rfl (g_2) (by decide) ?_
  refine e_b rfl rfl rfl (fun hA => ?_) (fun hA => ?_)
  · replace T := T.1 hA
    exact e_rv rfl rfl ⟨rfl, T⟩
  · replace T := T.2 hA
    refine e_l rfl rfl rfl ?_
    refine e_gr rfl (crs_g c hc) rfl (crs_r1 c hc) ?_
    refine e_l rfl rfl rfl ?_
    refine e_l rfl rfl rfl ?_
    refine e_gr rfl (crs_g c hc) rfl (crs_r0 c hc) ?_
    refine e_gr rfl (g_2) rfl (r_2_4) ?_
    refine e_l rfl rfl rfl ?_
    refine e_ia rfl (g_5) T.1 ?_
    replace T := T.2
    refine e_as rfl (crs_a1 c hc) T.1 ?_
    replace T := T.2
    refine e_l rfl rfl rfl ?_
    refine e_gr rfl (crs_g c hc) rfl (crs_r3 c hc) ?_
    refine e_l rfl rfl rfl ?_
    refine e_l rfl rfl rfl ?_
    refine e_gr rfl (crs_g c hc) rfl (crs_r0 c hc) ?_
    refine e_gr rfl (g_2) rfl (r_2_4) ?_
    refine e_l rfl rfl rfl ?_
    refine e_ia rfl (g_5) T.1 ?_
    replace T := T.2
    refine e_as rfl (crs_a3 c hc) T.1 ?_
    replace T := T.2
    refine e_l rfl rfl rfl ?_
    refine e_gr rfl (crs_g c hc) rfl (crs_r2 c hc) ?_
    refine e_l rfl rfl rfl ?_
    refine e_k rfl rfl rfl ic_0 ?_
    refine e_as rfl (crs_a2 c hc) T.1 ?_
    replace T := T.2
    refine e_l rfl rfl rfl ?_
    refine e_gr rfl (crs_g c hc) rfl (crs_r5 c hc) ?_
    refine e_l rfl rfl rfl ?_
    refine e_k rfl rfl rfl ic_m1 ?_
    refine e_as rfl (crs_a5 c hc) T.1 ?_
    replace T := T.2
    refine e_l rfl rfl rfl ?_
    refine e_gr rfl (crs_g c hc) rfl (crs_r6 c hc) ?_
    refine e_l rfl rfl rfl ?_
    refine e_k rfl rfl rfl ic_0 ?_
    refine e_as rfl (crs_a6 c hc) T.1 ?_
    replace T := T.2
    refine e_ic (v := (v1 + 1)) (L' := [some (.ref c), some (.int (v1 + 1))]) rfl rfl rfl ic_1 rfl ?_
    refine e_g rfl ?_
    exact T
set_option maxRecDepth 10000 in
set_option maxHeartbeats 4000000 in
theorem vc_X0_goThrough {X : mm_X} {d : Nat} {I : tI} {J : tJ} {P : tI → tJ → Prop} {c : Nat} (hc : c ∈ mm_crs) (T : EV X d n_X0_begin [.ref c] I J (fun I_2 J_3 => Er X (d + 1) M_X0_goThrough 4 [some (.ref c), some (.int 0)] [] I_2 J_3 (qV P))) : EV X (d + 1) n_X0_goThrough [.ref c] I J P := by
  refine ⟨M_X0_goThrough, tb_X0_goThrough, Nat.le_of_ble_eq_true rfl, ?_⟩
  show Er X (d + 1) M_X0_goThrough 0 [some (.ref c), none] [] I J (qV P)
  refine e_l rfl rfl rfl ?_
  refine e_cvV (as := []) (rs := []) rfl rfl (crs_g c hc) rfl T (fun I_2 J_3 T => ?_)
  try dsimp only at T
  refine e_k rfl rfl rfl ic_0 ?_
  refine e_l (L' := [some (.ref c), some (.int 0)]) rfl rfl rfl ?_
  exact T
set_option maxRecDepth 10000 in
set_option maxHeartbeats 4000000 in
theorem vc_X0_goThrough_4 {X : mm_X} {d : Nat} {I : tI} {J : tJ} {P : tI → tJ → Prop} {c : Nat} {v1 : Int32} (hc : c ∈ mm_crs) (T : (30 ≤ v1 → (P I J)) ∧ (¬ (30 ≤ v1) → (EV X d n_X0_untilButters [.ref c, .int v1] I J (fun I_2 J_3 => EV X d n_X0_fromButters [.ref c, .int v1, .int 0] I_2 J_3 (fun I_5 J_6 => Er X (d + 1) M_X0_goThrough 4 [some (.ref c), some (.int (v1 + 1))] [] I_5 J_6 (qV P)))))) : Er X (d + 1) M_X0_goThrough 4 [some (.ref c), some (.int v1)] [] I J (qV P) := by
  refine e_l rfl rfl rfl ?_
  refine e_k rfl rfl rfl ib_30 ?_
  refine e_b rfl rfl rfl (fun hA => ?_) (fun hA => ?_)
  · replace T := T.1 hA
    exact e_rv rfl rfl ⟨rfl, T⟩
  · replace T := T.2 hA
    refine e_l rfl rfl rfl ?_
    refine e_l rfl rfl rfl ?_
    refine e_cvV (as := [.int v1]) (rs := []) rfl rfl (crs_g c hc) rfl T (fun I_2 J_3 T => ?_)
    try dsimp only at T
    refine e_l rfl rfl rfl ?_
    refine e_l rfl rfl rfl ?_
    refine e_k rfl rfl rfl ic_0 ?_
    refine e_cvV (as := [.int v1, .int 0]) (rs := []) rfl rfl (crs_g c hc) rfl T (fun I_5 J_6 T => ?_)
    try dsimp only at T
    refine e_ic (v := (v1 + 1)) (L' := [some (.ref c), some (.int (v1 + 1))]) rfl rfl rfl ic_1 rfl ?_
    refine e_g rfl ?_
    exact T
set_option maxRecDepth 10000 in
set_option maxHeartbeats 4000000 in
theorem vc_X0_follow {X : mm_X} {d : Nat} {I : tI} {J : tJ} {P : tI → tJ → Prop} {c : Nat} {c2 : Nat} {v2 : Int32} {v3 : Int32} (hc : c ∈ mm_crs) (hc2 : c2 ∈ mm_crs) (T : (¬ (0 : Int32) < 0 ∧ ¬ (0 : Int32) < 0 ∧ ¬ (8 : Int32) < 0 ∧ tn 0 + tn 8 ≤ 8 ∧ tn 0 + tn 8 ≤ 8) ∧ (∀ I_1 : tI, I_1 = (mm_z I (c + 1) (va_cpy (I (c2 + 1)) (I (c + 1)) (tn 0) (tn 0) (tn 8))) → ((¬ (0 : Int32) < 0 ∧ ¬ (0 : Int32) < 0 ∧ ¬ (8 : Int32) < 0 ∧ tn 0 + tn 8 ≤ 8 ∧ tn 0 + tn 8 ≤ 8) ∧ (∀ I_2 : tI, I_2 = (mm_z I_1 (c + 2) (va_cpy (I_1 (c2 + 2)) (I_1 (c + 2)) (tn 0) (tn 0) (tn 8))) → ((¬ (0 : Int32) < 0 ∧ ¬ (0 : Int32) < 0 ∧ ¬ (8 : Int32) < 0 ∧ tn 0 + tn 8 ≤ 8 ∧ tn 0 + tn 8 ≤ 8) ∧ (∀ I_3 : tI, I_3 = (mm_z I_2 (c + 3) (va_cpy (I_2 (c2 + 3)) (I_2 (c + 3)) (tn 0) (tn 0) (tn 8))) → ((¬ (0 : Int32) < 0 ∧ ¬ (0 : Int32) < 0 ∧ ¬ (8 : Int32) < 0 ∧ tn 0 + tn 8 ≤ 8 ∧ tn 0 + tn 8 ≤ 8) ∧ (∀ I_4 : tI, I_4 = (mm_z I_3 (c + 4) (va_cpy (I_3 (c2 + 4)) (I_3 (c + 4)) (tn 0) (tn 0) (tn 8))) → ((¬ (0 : Int32) < 0 ∧ ¬ (0 : Int32) < 0 ∧ ¬ (8 : Int32) < 0 ∧ tn 0 + tn 8 ≤ 8 ∧ tn 0 + tn 8 ≤ 8) ∧ (∀ I_5 : tI, I_5 = (mm_z I_4 (c + 5) (va_cpy (I_4 (c2 + 5)) (I_4 (c + 5)) (tn 0) (tn 0) (tn 8))) → ((¬ (0 : Int32) < 0 ∧ ¬ (0 : Int32) < 0 ∧ ¬ (8 : Int32) < 0 ∧ tn 0 + tn 8 ≤ 8 ∧ tn 0 + tn 8 ≤ 8) ∧ (∀ I_6 : tI, I_6 = (mm_z I_5 (c + 6) (va_cpy (I_5 (c2 + 6)) (I_5 (c + 6)) (tn 0) (tn 0) (tn 8))) → (EV X d n_X0_untilButters [.ref c, .int v2] (mm_u I_6 c 8 (I_6 c2 8)) J (fun I_8 J_9 => EV X d n_X0_fromButters [.ref c, .int v2, .int v3] I_8 J_9 (fun I_11 J_12 => P I_11 J_12))))))))))))))) : EV X (d + 1) n_X0_follow [.ref c, .ref c2, .int v2, .int v3] I J P := by
  refine ⟨M_X0_follow, tb_X0_follow, Nat.le_of_ble_eq_true rfl, ?_⟩
  show Er X (d + 1) M_X0_follow 0 [some (.ref c), some (.ref c2), some (.int v2), some (.int v3)] [] I J (qV P)
  refine e_l rfl rfl rfl ?_
  refine e_gr rfl (crs_g c2 hc2) rfl (crs_r1 c2 hc2) ?_
  refine e_k rfl rfl rfl ic_0 ?_
  refine e_l rfl rfl rfl ?_
  refine e_gr rfl (crs_g c hc) rfl (crs_r1 c hc) ?_
  refine e_k rfl rfl rfl ic_0 ?_
  refine e_k rfl rfl rfl ib_8 ?_
  refine e_cp2 rfl (Nat.le_of_ble_eq_true rfl) (crs_a1 c2 hc2) (crs_a1 c hc) T.1 (fun I_1 hI_1 => ?_)
  replace T := T.2 I_1 hI_1
  refine e_l rfl rfl rfl ?_
  refine e_gr rfl (crs_g c2 hc2) rfl (crs_r2 c2 hc2) ?_
  refine e_k rfl rfl rfl ic_0 ?_
  refine e_l rfl rfl rfl ?_
  refine e_gr rfl (crs_g c hc) rfl (crs_r2 c hc) ?_
  refine e_k rfl rfl rfl ic_0 ?_
  refine e_k rfl rfl rfl ib_8 ?_
  refine e_cp2 rfl (Nat.le_of_ble_eq_true rfl) (crs_a2 c2 hc2) (crs_a2 c hc) T.1 (fun I_2 hI_2 => ?_)
  replace T := T.2 I_2 hI_2
  refine e_l rfl rfl rfl ?_
  refine e_gr rfl (crs_g c2 hc2) rfl (crs_r3 c2 hc2) ?_
  refine e_k rfl rfl rfl ic_0 ?_
  refine e_l rfl rfl rfl ?_
  refine e_gr rfl (crs_g c hc) rfl (crs_r3 c hc) ?_
  refine e_k rfl rfl rfl ic_0 ?_
  refine e_k rfl rfl rfl ib_8 ?_
  refine e_cp2 rfl (Nat.le_of_ble_eq_true rfl) (crs_a3 c2 hc2) (crs_a3 c hc) T.1 (fun I_3 hI_3 => ?_)
  replace T := T.2 I_3 hI_3
  refine e_l rfl rfl rfl ?_
  refine e_gr rfl (crs_g c2 hc2) rfl (crs_r4 c2 hc2) ?_
  refine e_k rfl rfl rfl ic_0 ?_
  refine e_l rfl rfl rfl ?_
  refine e_gr rfl (crs_g c hc) rfl (crs_r4 c hc) ?_
  refine e_k rfl rfl rfl ic_0 ?_
  refine e_k rfl rfl rfl ib_8 ?_
  refine e_cp2 rfl (Nat.le_of_ble_eq_true rfl) (crs_a4 c2 hc2) (crs_a4 c hc) T.1 (fun I_4 hI_4 => ?_)
  replace T := T.2 I_4 hI_4
  refine e_l rfl rfl rfl ?_
  refine e_gr rfl (crs_g c2 hc2) rfl (crs_r5 c2 hc2) ?_
  refine e_k rfl rfl rfl ic_0 ?_
  refine e_l rfl rfl rfl ?_
  refine e_gr rfl (crs_g c hc) rfl (crs_r5 c hc) ?_
  refine e_k rfl rfl rfl ic_0 ?_
  refine e_k rfl rfl rfl ib_8 ?_
  refine e_cp2 rfl (Nat.le_of_ble_eq_true rfl) (crs_a5 c2 hc2) (crs_a5 c hc) T.1 (fun I_5 hI_5 => ?_)
  replace T := T.2 I_5 hI_5
  refine e_l rfl rfl rfl ?_
  refine e_gr rfl (crs_g c2 hc2) rfl (crs_r6 c2 hc2) ?_
  refine e_k rfl rfl rfl ic_0 ?_
  refine e_l rfl rfl rfl ?_
  refine e_gr rfl (crs_g c hc) rfl (crs_r6 c hc) ?_
  refine e_k rfl rfl rfl ic_0 ?_
  refine e_k rfl rfl rfl ib_8 ?_
  refine e_cp2 rfl (Nat.le_of_ble_eq_true rfl) (crs_a6 c2 hc2) (crs_a6 c hc) T.1 (fun I_6 hI_6 => ?_)
  replace T := T.2 I_6 hI_6
  refine e_l rfl rfl rfl ?_
  refine e_l rfl rfl rfl ?_
  refine e_gi rfl (crs_g c2 hc2) (by decide) ?_
  refine e_pi rfl (crs_g c hc) rfl ?_
  refine e_l rfl rfl rfl ?_
  refine e_l rfl rfl rfl ?_
  refine e_cvV (as := [.int v2]) (rs := []) rfl rfl (crs_g c hc) rfl T (fun I_8 J_9 T => ?_)
  try dsimp only at T
  refine e_l rfl rfl rfl ?_
  refine e_l rfl rfl rfl ?_
  refine e_l rfl rfl rfl ?_
  refine e_cvV (as := [.int v2, .int v3]) (rs := []) rfl rfl (crs_g c hc) rfl T (fun I_11 J_12 T => ?_)
  try dsimp only at T
  exact e_rv rfl rfl ⟨rfl, T⟩
set_option maxRecDepth 10000 in
set_option maxHeartbeats 4000000 in
theorem vc_X0_untilButters {X : mm_X} {d : Nat} {I : tI} {J : tJ} {P : tI → tJ → Prop} {c : Nat} {v1 : Int32} (hc : c ∈ mm_crs) (T : EV X d n_X0_comeAgain [.ref c, .int v1] I J (fun I_2 J_3 => EV X d n_X0_takePlaces [.ref c] I_2 J_3 (fun I_5 J_6 => EI X d n_X5_firesIn [.ref 2, .int v1] I_5 J_6 (fun x_7 I_8 J_9 => EV X d n_X0_warm [.ref c, .int x_7] I_8 J_9 (fun I_11 J_12 => P I_11 J_12))))) : EV X (d + 1) n_X0_untilButters [.ref c, .int v1] I J P := by
  refine ⟨M_X0_untilButters, tb_X0_untilButters, Nat.le_of_ble_eq_true rfl, ?_⟩
  show Er X (d + 1) M_X0_untilButters 0 [some (.ref c), some (.int v1)] [] I J (qV P)
  refine e_l rfl rfl rfl ?_
  refine e_l rfl rfl rfl ?_
  refine e_cvV (as := [.int v1]) (rs := []) rfl rfl (crs_g c hc) rfl T (fun I_2 J_3 T => ?_)
  try dsimp only at T
  refine e_l rfl rfl rfl ?_
  refine e_cvV (as := []) (rs := []) rfl rfl (crs_g c hc) rfl T (fun I_5 J_6 T => ?_)
  try dsimp only at T
  refine e_l rfl rfl rfl ?_
  refine e_l rfl rfl rfl ?_
  refine e_gr rfl (crs_g c hc) rfl (crs_r0 c hc) ?_
  refine e_l rfl rfl rfl ?_
  refine e_cvI (as := [.int v1]) (rs := [.ref c]) rfl rfl (g_2) rfl T (fun x_7 I_8 J_9 T => ?_)
  try dsimp only at T
  refine e_cvV (as := [.int x_7]) (rs := []) rfl rfl (crs_g c hc) rfl T (fun I_11 J_12 T => ?_)
  try dsimp only at T
  exact e_rv rfl rfl ⟨rfl, T⟩
set_option maxRecDepth 10000 in
set_option maxHeartbeats 4000000 in
theorem vc_X0_fromButters {X : mm_X} {d : Nat} {I : tI} {J : tJ} {P : tI → tJ → Prop} {c : Nat} {v1 : Int32} {v2 : Int32} (hc : c ∈ mm_crs) (T : EV X d n_X0_spread [.ref c, .int v1] I J (fun I_2 J_3 => EV X d n_X0_feelWarmth [.ref c] I_2 J_3 (fun I_5 J_6 => Er X (d + 1) M_X0_fromButters 7 [some (.ref c), some (.int v1), some (.int v2), some (.int 0)] [] I_5 J_6 (qV P)))) : EV X (d + 1) n_X0_fromButters [.ref c, .int v1, .int v2] I J P := by
  refine ⟨M_X0_fromButters, tb_X0_fromButters, Nat.le_of_ble_eq_true rfl, ?_⟩
  show Er X (d + 1) M_X0_fromButters 0 [some (.ref c), some (.int v1), some (.int v2), none] [] I J (qV P)
  refine e_l rfl rfl rfl ?_
  refine e_l rfl rfl rfl ?_
  refine e_cvV (as := [.int v1]) (rs := []) rfl rfl (crs_g c hc) rfl T (fun I_2 J_3 T => ?_)
  try dsimp only at T
  refine e_l rfl rfl rfl ?_
  refine e_cvV (as := []) (rs := []) rfl rfl (crs_g c hc) rfl T (fun I_5 J_6 T => ?_)
  try dsimp only at T
  refine e_k rfl rfl rfl ic_0 ?_
  refine e_l (L' := [some (.ref c), some (.int v1), some (.int v2), some (.int 0)]) rfl rfl rfl ?_
  exact T
set_option maxRecDepth 10000 in
set_option maxHeartbeats 4000000 in
theorem vc_X0_fromButters_7 {X : mm_X} {d : Nat} {I : tI} {J : tJ} {P : tI → tJ → Prop} {c : Nat} {v1 : Int32} {v2 : Int32} {v3 : Int32} (hc : c ∈ mm_crs) (T : ((I 2 2) ≤ v3 → (P I J)) ∧ (¬ ((I 2 2) ≤ v3) → (EI X d n_X0_isIn [.ref c, .int v3] I J (fun x_1 I_2 J_3 => (x_1 = 0 → (Er X (d + 1) M_X0_fromButters 7 [some (.ref c), some (.int v1), some (.int v2), some (.int (v3 + 1))] [] I_2 J_3 (qV P))) ∧ (¬ (x_1 = 0) → (ix v3 8 ∧ (EI X d n_X0_cooling [.ref c, .int v3, .int v2] I_2 J_3 (fun x_4 I_5 J_6 => ix v3 8 ∧ (ix v3 8 ∧ ((((mm_u I_5 (c + 1) (tn v3) (if (0 : Int32) < ((I_2 (c + 1) (tn v3)) - x_4) then ((I_2 (c + 1) (tn v3)) - x_4) else 0)) 7 (tn 0)) < ((mm_u I_5 (c + 1) (tn v3) (if (0 : Int32) < ((I_2 (c + 1) (tn v3)) - x_4) then ((I_2 (c + 1) (tn v3)) - x_4) else 0)) (c + 1) (tn v3)) → (Er X (d + 1) M_X0_fromButters 7 [some (.ref c), some (.int v1), some (.int v2), some (.int (v3 + 1))] [] (mm_u I_5 (c + 1) (tn v3) (if (0 : Int32) < ((I_2 (c + 1) (tn v3)) - x_4) then ((I_2 (c + 1) (tn v3)) - x_4) else 0)) J_6 (qV P))) ∧ (¬ (((mm_u I_5 (c + 1) (tn v3) (if (0 : Int32) < ((I_2 (c + 1) (tn v3)) - x_4) then ((I_2 (c + 1) (tn v3)) - x_4) else 0)) 7 (tn 0)) < ((mm_u I_5 (c + 1) (tn v3) (if (0 : Int32) < ((I_2 (c + 1) (tn v3)) - x_4) then ((I_2 (c + 1) (tn v3)) - x_4) else 0)) (c + 1) (tn v3))) → (EV X d n_X0_letGo [.ref c, .int v3, .int v1] (mm_u I_5 (c + 1) (tn v3) (if (0 : Int32) < ((I_2 (c + 1) (tn v3)) - x_4) then ((I_2 (c + 1) (tn v3)) - x_4) else 0)) J_6 (fun I_8 J_9 => Er X (d + 1) M_X0_fromButters 7 [some (.ref c), some (.int v1), some (.int v2), some (.int (v3 + 1))] [] I_8 J_9 (qV P)))))))))))))) : Er X (d + 1) M_X0_fromButters 7 [some (.ref c), some (.int v1), some (.int v2), some (.int v3)] [] I J (qV P) := by
  refine e_l rfl rfl rfl ?_
  refine e_l rfl rfl rfl ?_
  refine e_gr rfl (crs_g c hc) rfl (crs_r0 c hc) ?_
  refine e_gi rfl (g_2) (by decide) ?_
  refine e_b rfl rfl rfl (fun hA => ?_) (fun hA => ?_)
  · replace T := T.1 hA
    exact e_rv rfl rfl ⟨rfl, T⟩
  · replace T := T.2 hA
    refine e_l rfl rfl rfl ?_
    refine e_l rfl rfl rfl ?_
    refine e_cvI (as := [.int v3]) (rs := []) rfl rfl (crs_g c hc) rfl T (fun x_1 I_2 J_3 T => ?_)
    try dsimp only at T
    refine e_b rfl rfl rfl (fun hA => ?_) (fun hA => ?_)
    · replace T := T.1 hA
      refine e_ic (v := (v3 + 1)) (L' := [some (.ref c), some (.int v1), some (.int v2), some (.int (v3 + 1))]) rfl rfl rfl ic_1 rfl ?_
      refine e_g rfl ?_
      exact T
    · replace T := T.2 hA
      refine e_l rfl rfl rfl ?_
      refine e_gr rfl (crs_g c hc) rfl (crs_r1 c hc) ?_
      refine e_l rfl rfl rfl ?_
      refine e_k rfl rfl rfl ic_0 ?_
      refine e_l rfl rfl rfl ?_
      refine e_gr rfl (crs_g c hc) rfl (crs_r1 c hc) ?_
      refine e_l rfl rfl rfl ?_
      refine e_ia rfl (crs_a1 c hc) T.1 ?_
      replace T := T.2
      refine e_l rfl rfl rfl ?_
      refine e_l rfl rfl rfl ?_
      refine e_l rfl rfl rfl ?_
      refine e_cvI (as := [.int v3, .int v2]) (rs := [.int (I_2 (c + 1) (tn v3)), .int 0, .int v3, .ref (c + 1)]) rfl rfl (crs_g c hc) rfl T (fun x_4 I_5 J_6 T => ?_)
      try dsimp only at T
      refine e_p rfl rfl rfl ?_
      refine e_mx rfl (Nat.le_of_ble_eq_true rfl) ?_
      refine e_as rfl (crs_a1 c hc) T.1 ?_
      replace T := T.2
      refine e_l rfl rfl rfl ?_
      refine e_gr rfl (crs_g c hc) rfl (crs_r1 c hc) ?_
      refine e_l rfl rfl rfl ?_
      refine e_ia rfl (crs_a1 c hc) T.1 ?_
      replace T := T.2
      refine e_l rfl rfl rfl ?_
      refine e_gr rfl (crs_g c hc) rfl (crs_r0 c hc) ?_
      refine e_gr rfl (g_2) rfl (r_2_6) ?_
      refine e_k rfl rfl rfl ic_0 ?_
      refine e_ia rfl (g_7) (by decide) ?_
      refine e_b rfl rfl rfl (fun hA => ?_) (fun hA => ?_)
      · replace T := T.1 hA
        refine e_ic (v := (v3 + 1)) (L' := [some (.ref c), some (.int v1), some (.int v2), some (.int (v3 + 1))]) rfl rfl rfl ic_1 rfl ?_
        refine e_g rfl ?_
        exact T
      · replace T := T.2 hA
        refine e_l rfl rfl rfl ?_
        refine e_l rfl rfl rfl ?_
        refine e_l rfl rfl rfl ?_
        refine e_cvV (as := [.int v3, .int v1]) (rs := []) rfl rfl (crs_g c hc) rfl T (fun I_8 J_9 T => ?_)
        try dsimp only at T
        refine e_ic (v := (v3 + 1)) (L' := [some (.ref c), some (.int v1), some (.int v2), some (.int (v3 + 1))]) rfl rfl rfl ic_1 rfl ?_
        refine e_g rfl ?_
        exact T
set_option maxRecDepth 10000 in
set_option maxHeartbeats 4000000 in
theorem vc_X0_isIn {X : mm_X} {d : Nat} {I : tI} {J : tJ} {P : Int32 → tI → tJ → Prop} {c : Nat} {v1 : Int32} (hc : c ∈ mm_crs) (T : ix v1 8 ∧ (((I (c + 2) (tn v1)) = 0 → (P 1 I J)) ∧ (¬ ((I (c + 2) (tn v1)) = 0) → (ix v1 8 ∧ (((I (c + 2) (tn v1)) ≠ 1 → (P 0 I J)) ∧ (¬ ((I (c + 2) (tn v1)) ≠ 1) → (P 1 I J))))))) : EI X d n_X0_isIn [.ref c, .int v1] I J P := by
  refine ⟨M_X0_isIn, tb_X0_isIn, Nat.le_of_ble_eq_true rfl, ?_⟩
  show Er X d M_X0_isIn 0 [some (.ref c), some (.int v1)] [] I J (qI P)
  refine e_l rfl rfl rfl ?_
  refine e_gr rfl (crs_g c hc) rfl (crs_r2 c hc) ?_
  refine e_l rfl rfl rfl ?_
  refine e_ia rfl (crs_a2 c hc) T.1 ?_
  replace T := T.2
  refine e_b rfl rfl rfl (fun hA => ?_) (fun hA => ?_)
  · replace T := T.1 hA
    refine e_k rfl rfl rfl ic_1 ?_
    refine e_g rfl ?_
    exact e_rz rfl rfl (by decide) ⟨_, rfl, T⟩
  · replace T := T.2 hA
    refine e_l rfl rfl rfl ?_
    refine e_gr rfl (crs_g c hc) rfl (crs_r2 c hc) ?_
    refine e_l rfl rfl rfl ?_
    refine e_ia rfl (crs_a2 c hc) T.1 ?_
    replace T := T.2
    refine e_k rfl rfl rfl ic_1 ?_
    refine e_b rfl rfl rfl (fun hA => ?_) (fun hA => ?_)
    · replace T := T.1 hA
      refine e_k rfl rfl rfl ic_0 ?_
      exact e_rz rfl rfl (by decide) ⟨_, rfl, T⟩
    · replace T := T.2 hA
      refine e_k rfl rfl rfl ic_1 ?_
      refine e_g rfl ?_
      exact e_rz rfl rfl (by decide) ⟨_, rfl, T⟩
set_option maxRecDepth 10000 in
set_option maxHeartbeats 4000000 in
theorem vc_X0_howManyIn {X : mm_X} {d : Nat} {I : tI} {J : tJ} {P : Int32 → tI → tJ → Prop} {c : Nat} (hc : c ∈ mm_crs) (T : Er X (d + 1) M_X0_howManyIn 4 [some (.ref c), some (.int 0), some (.int 0)] [] I J (qI P)) : EI X (d + 1) n_X0_howManyIn [.ref c] I J P := by
  refine ⟨M_X0_howManyIn, tb_X0_howManyIn, Nat.le_of_ble_eq_true rfl, ?_⟩
  show Er X (d + 1) M_X0_howManyIn 0 [some (.ref c), none, none] [] I J (qI P)
  refine e_k rfl rfl rfl ic_0 ?_
  refine e_l (L' := [some (.ref c), some (.int 0), none]) rfl rfl rfl ?_
  refine e_k rfl rfl rfl ic_0 ?_
  refine e_l (L' := [some (.ref c), some (.int 0), some (.int 0)]) rfl rfl rfl ?_
  exact T
set_option maxRecDepth 10000 in
set_option maxHeartbeats 4000000 in
theorem vc_X0_howManyIn_4 {X : mm_X} {d : Nat} {I : tI} {J : tJ} {P : Int32 → tI → tJ → Prop} {c : Nat} {v1 : Int32} {v2 : Int32} (hc : c ∈ mm_crs) (T : ((I 2 2) ≤ v2 → (P v1 I J)) ∧ (¬ ((I 2 2) ≤ v2) → (EI X d n_X0_isIn [.ref c, .int v2] I J (fun x_1 I_2 J_3 => (x_1 = 0 → (Er X (d + 1) M_X0_howManyIn 4 [some (.ref c), some (.int v1), some (.int (v2 + 1))] [] I_2 J_3 (qI P))) ∧ (¬ (x_1 = 0) → (Er X (d + 1) M_X0_howManyIn 4 [some (.ref c), some (.int (v1 + 1)), some (.int (v2 + 1))] [] I_2 J_3 (qI P))))))) : Er X (d + 1) M_X0_howManyIn 4 [some (.ref c), some (.int v1), some (.int v2)] [] I J (qI P) := by
  refine e_l rfl rfl rfl ?_
  refine e_l rfl rfl rfl ?_
  refine e_gr rfl (crs_g c hc) rfl (crs_r0 c hc) ?_
  refine e_gi rfl (g_2) (by decide) ?_
  refine e_b rfl rfl rfl (fun hA => ?_) (fun hA => ?_)
  · replace T := T.1 hA
    refine e_l rfl rfl rfl ?_
    exact e_ri rfl rfl ⟨_, rfl, T⟩
  · replace T := T.2 hA
    refine e_l rfl rfl rfl ?_
    refine e_l rfl rfl rfl ?_
    refine e_cvI (as := [.int v2]) (rs := []) rfl rfl (crs_g c hc) rfl T (fun x_1 I_2 J_3 T => ?_)
    try dsimp only at T
    refine e_b rfl rfl rfl (fun hA => ?_) (fun hA => ?_)
    · replace T := T.1 hA
      refine e_ic (v := (v2 + 1)) (L' := [some (.ref c), some (.int v1), some (.int (v2 + 1))]) rfl rfl rfl ic_1 rfl ?_
      refine e_g rfl ?_
      exact T
    · replace T := T.2 hA
      refine e_ic (v := (v1 + 1)) (L' := [some (.ref c), some (.int (v1 + 1)), some (.int v2)]) rfl rfl rfl ic_1 rfl ?_
      refine e_ic (v := (v2 + 1)) (L' := [some (.ref c), some (.int (v1 + 1)), some (.int (v2 + 1))]) rfl rfl rfl ic_1 rfl ?_
      refine e_g rfl ?_
      exact T
set_option maxRecDepth 10000 in
set_option maxHeartbeats 4000000 in
theorem vc_X0_comeAgain {X : mm_X} {d : Nat} {I : tI} {J : tJ} {P : tI → tJ → Prop} {c : Nat} {v1 : Int32} (hc : c ∈ mm_crs) (T : Er X d M_X0_comeAgain 2 [some (.ref c), some (.int v1), some (.int 0)] [] I J (qV P)) : EV X d n_X0_comeAgain [.ref c, .int v1] I J P := by
  refine ⟨M_X0_comeAgain, tb_X0_comeAgain, Nat.le_of_ble_eq_true rfl, ?_⟩
  show Er X d M_X0_comeAgain 0 [some (.ref c), some (.int v1), none] [] I J (qV P)
  refine e_k rfl rfl rfl ic_0 ?_
  refine e_l (L' := [some (.ref c), some (.int v1), some (.int 0)]) rfl rfl rfl ?_
  exact T
set_option maxRecDepth 10000 in
set_option maxHeartbeats 4000000 in
theorem vc_X0_comeAgain_2 {X : mm_X} {d : Nat} {I : tI} {J : tJ} {P : tI → tJ → Prop} {c : Nat} {v1 : Int32} {v2 : Int32} (hc : c ∈ mm_crs) (T : ((I 2 2) ≤ v2 → (P I J)) ∧ (¬ ((I 2 2) ≤ v2) → (ix v2 8 ∧ (((I (c + 2) (tn v2)) ≠ 2 → (Er X d M_X0_comeAgain 2 [some (.ref c), some (.int v1), some (.int (v2 + 1))] [] I J (qV P))) ∧ (¬ ((I (c + 2) (tn v2)) ≠ 2) → (ix v2 8 ∧ (((I 4 (tn v2)) ≠ 1 → (Er X d M_X0_comeAgain 2 [some (.ref c), some (.int v1), some (.int (v2 + 1))] [] I J (qV P))) ∧ (¬ ((I 4 (tn v2)) ≠ 1) → (ix v2 8 ∧ (((I (c + 4) (tn v2)) ≠ (v1 - 3) → (Er X d M_X0_comeAgain 2 [some (.ref c), some (.int v1), some (.int (v2 + 1))] [] I J (qV P))) ∧ (¬ ((I (c + 4) (tn v2)) ≠ (v1 - 3)) → (ix v2 8 ∧ ((((I (c + 3) (tn v2)) / 2) ≤ (I 7 (tn 0)) → (Er X d M_X0_comeAgain 2 [some (.ref c), some (.int v1), some (.int (v2 + 1))] [] I J (qV P))) ∧ (¬ (((I (c + 3) (tn v2)) / 2) ≤ (I 7 (tn 0))) → (ix v2 8 ∧ (ix v2 8 ∧ (ix v2 8 ∧ (ix v2 8 ∧ (ix v2 8 ∧ (Er X d M_X0_comeAgain 2 [some (.ref c), some (.int v1), some (.int (v2 + 1))] [] (mm_u (mm_u (mm_u I (c + 3) (tn v2) ((I (c + 3) (tn v2)) / 2)) (c + 1) (tn v2) ((mm_u I (c + 3) (tn v2) ((I (c + 3) (tn v2)) / 2)) (c + 3) (tn v2))) (c + 2) (tn v2) 0) J (qV P))))))))))))))))))))) : Er X d M_X0_comeAgain 2 [some (.ref c), some (.int v1), some (.int v2)] [] I J (qV P) := by
  refine e_l rfl rfl rfl ?_
  refine e_l rfl rfl rfl ?_
  refine e_gr rfl (crs_g c hc) rfl (crs_r0 c hc) ?_
  refine e_gi rfl (g_2) (by decide) ?_
  refine e_b rfl rfl rfl (fun hA => ?_) (fun hA => ?_)
  · replace T := T.1 hA
    exact e_rv rfl rfl ⟨rfl, T⟩
  · replace T := T.2 hA
    refine e_l rfl rfl rfl ?_
    refine e_gr rfl (crs_g c hc) rfl (crs_r2 c hc) ?_
    refine e_l rfl rfl rfl ?_
    refine e_ia rfl (crs_a2 c hc) T.1 ?_
    replace T := T.2
    refine e_k rfl rfl rfl ic_2 ?_
    refine e_b rfl rfl rfl (fun hA => ?_) (fun hA => ?_)
    · replace T := T.1 hA
      refine e_ic (v := (v2 + 1)) (L' := [some (.ref c), some (.int v1), some (.int (v2 + 1))]) rfl rfl rfl ic_1 rfl ?_
      refine e_g rfl ?_
      exact T
    · replace T := T.2 hA
      refine e_l rfl rfl rfl ?_
      refine e_gr rfl (crs_g c hc) rfl (crs_r0 c hc) ?_
      refine e_gr rfl (g_2) rfl (r_2_3) ?_
      refine e_l rfl rfl rfl ?_
      refine e_ia rfl (g_4) T.1 ?_
      replace T := T.2
      refine e_k rfl rfl rfl ic_1 ?_
      refine e_b rfl rfl rfl (fun hA => ?_) (fun hA => ?_)
      · replace T := T.1 hA
        refine e_ic (v := (v2 + 1)) (L' := [some (.ref c), some (.int v1), some (.int (v2 + 1))]) rfl rfl rfl ic_1 rfl ?_
        refine e_g rfl ?_
        exact T
      · replace T := T.2 hA
        refine e_l rfl rfl rfl ?_
        refine e_gr rfl (crs_g c hc) rfl (crs_r4 c hc) ?_
        refine e_l rfl rfl rfl ?_
        refine e_ia rfl (crs_a4 c hc) T.1 ?_
        replace T := T.2
        refine e_l rfl rfl rfl ?_
        refine e_k rfl rfl rfl ic_3 ?_
        refine e_p rfl rfl rfl ?_
        refine e_b rfl rfl rfl (fun hA => ?_) (fun hA => ?_)
        · replace T := T.1 hA
          refine e_ic (v := (v2 + 1)) (L' := [some (.ref c), some (.int v1), some (.int (v2 + 1))]) rfl rfl rfl ic_1 rfl ?_
          refine e_g rfl ?_
          exact T
        · replace T := T.2 hA
          refine e_l rfl rfl rfl ?_
          refine e_gr rfl (crs_g c hc) rfl (crs_r3 c hc) ?_
          refine e_l rfl rfl rfl ?_
          refine e_ia rfl (crs_a3 c hc) T.1 ?_
          replace T := T.2
          refine e_k rfl rfl rfl ic_2 ?_
          refine e_dv rfl (by decide) ?_
          refine e_l rfl rfl rfl ?_
          refine e_gr rfl (crs_g c hc) rfl (crs_r0 c hc) ?_
          refine e_gr rfl (g_2) rfl (r_2_6) ?_
          refine e_k rfl rfl rfl ic_0 ?_
          refine e_ia rfl (g_7) (by decide) ?_
          refine e_b rfl rfl rfl (fun hA => ?_) (fun hA => ?_)
          · replace T := T.1 hA
            refine e_ic (v := (v2 + 1)) (L' := [some (.ref c), some (.int v1), some (.int (v2 + 1))]) rfl rfl rfl ic_1 rfl ?_
            refine e_g rfl ?_
            exact T
          · replace T := T.2 hA
            refine e_l rfl rfl rfl ?_
            refine e_gr rfl (crs_g c hc) rfl (crs_r3 c hc) ?_
            refine e_l rfl rfl rfl ?_
            refine e_l rfl rfl rfl ?_
            refine e_gr rfl (crs_g c hc) rfl (crs_r3 c hc) ?_
            refine e_l rfl rfl rfl ?_
            refine e_ia rfl (crs_a3 c hc) T.1 ?_
            replace T := T.2
            refine e_k rfl rfl rfl ic_2 ?_
            refine e_dv rfl (by decide) ?_
            refine e_as rfl (crs_a3 c hc) T.1 ?_
            replace T := T.2
            refine e_l rfl rfl rfl ?_
            refine e_gr rfl (crs_g c hc) rfl (crs_r1 c hc) ?_
            refine e_l rfl rfl rfl ?_
            refine e_l rfl rfl rfl ?_
            refine e_gr rfl (crs_g c hc) rfl (crs_r3 c hc) ?_
            refine e_l rfl rfl rfl ?_
            refine e_ia rfl (crs_a3 c hc) T.1 ?_
            replace T := T.2
            refine e_as rfl (crs_a1 c hc) T.1 ?_
            replace T := T.2
            refine e_l rfl rfl rfl ?_
            refine e_gr rfl (crs_g c hc) rfl (crs_r2 c hc) ?_
            refine e_l rfl rfl rfl ?_
            refine e_k rfl rfl rfl ic_0 ?_
            refine e_as rfl (crs_a2 c hc) T.1 ?_
            replace T := T.2
            refine e_ic (v := (v2 + 1)) (L' := [some (.ref c), some (.int v1), some (.int (v2 + 1))]) rfl rfl rfl ic_1 rfl ?_
            refine e_g rfl ?_
            exact T
set_option maxRecDepth 10000 in
set_option maxHeartbeats 4000000 in
theorem vc_X0_takePlaces {X : mm_X} {d : Nat} {I : tI} {J : tJ} {P : tI → tJ → Prop} {c : Nat} (hc : c ∈ mm_crs) (T : Er X d M_X0_takePlaces 2 [some (.ref c), some (.int 0), none] [] I J (qV P)) : EV X d n_X0_takePlaces [.ref c] I J P := by
  refine ⟨M_X0_takePlaces, tb_X0_takePlaces, Nat.le_of_ble_eq_true rfl, ?_⟩
  show Er X d M_X0_takePlaces 0 [some (.ref c), none, none] [] I J (qV P)
  refine e_k rfl rfl rfl ic_0 ?_
  refine e_l (L' := [some (.ref c), some (.int 0), none]) rfl rfl rfl ?_
  exact T
set_option maxRecDepth 10000 in
set_option maxHeartbeats 4000000 in
theorem vc_X0_takePlaces_2 {X : mm_X} {d : Nat} {I : tI} {J : tJ} {P : tI → tJ → Prop} {c : Nat} {v1 : Int32} {o2 : Option Value} (hc : c ∈ mm_crs) (T : ((I 2 2) ≤ v1 → (P I J)) ∧ (¬ ((I 2 2) ≤ v1) → (ix v1 8 ∧ (∀ y2_1 : Int32, y2_1 = (I 6 (tn v1)) → (ix v1 8 ∧ (((I (c + 2) (tn v1)) ≠ 0 → (Er X d M_X0_takePlaces 2 [some (.ref c), some (.int (v1 + 1)), some (.int y2_1)] [] I J (qV P))) ∧ (¬ ((I (c + 2) (tn v1)) ≠ 0) → (((I 2 0) ≤ y2_1 → (Er X d M_X0_takePlaces 2 [some (.ref c), some (.int (v1 + 1)), some (.int y2_1)] [] I J (qV P))) ∧ (¬ ((I 2 0) ≤ y2_1) → (((((I c 8) >>> (y2_1 &&& 31)) &&& 1) ≠ 0 → (Er X d M_X0_takePlaces 2 [some (.ref c), some (.int (v1 + 1)), some (.int y2_1)] [] I J (qV P))) ∧ (¬ ((((I c 8) >>> (y2_1 &&& 31)) &&& 1) ≠ 0) → (ix v1 8 ∧ (Er X d M_X0_takePlaces 2 [some (.ref c), some (.int (v1 + 1)), some (.int y2_1)] [] (mm_u (mm_u I (c + 2) (tn v1) 1) c 8 (((mm_u I (c + 2) (tn v1) 1) c 8) ||| (1 <<< (y2_1 &&& 31)))) J (qV P)))))))))))))) : Er X d M_X0_takePlaces 2 [some (.ref c), some (.int v1), o2] [] I J (qV P) := by
  refine e_l rfl rfl rfl ?_
  refine e_l rfl rfl rfl ?_
  refine e_gr rfl (crs_g c hc) rfl (crs_r0 c hc) ?_
  refine e_gi rfl (g_2) (by decide) ?_
  refine e_b rfl rfl rfl (fun hA => ?_) (fun hA => ?_)
  · replace T := T.1 hA
    exact e_rv rfl rfl ⟨rfl, T⟩
  · replace T := T.2 hA
    refine e_l rfl rfl rfl ?_
    refine e_gr rfl (crs_g c hc) rfl (crs_r0 c hc) ?_
    refine e_gr rfl (g_2) rfl (r_2_5) ?_
    refine e_l rfl rfl rfl ?_
    refine e_ia rfl (g_6) T.1 ?_
    replace T := T.2
    refine e_si (Lf := fun y2_1 => [some (.ref c), some (.int v1), some (.int y2_1)]) rfl rfl rfl (fun y2_1 hy2_1 => ?_)
    replace T := T y2_1 hy2_1
    refine e_l rfl rfl rfl ?_
    refine e_gr rfl (crs_g c hc) rfl (crs_r2 c hc) ?_
    refine e_l rfl rfl rfl ?_
    refine e_ia rfl (crs_a2 c hc) T.1 ?_
    replace T := T.2
    refine e_b rfl rfl rfl (fun hA => ?_) (fun hA => ?_)
    · replace T := T.1 hA
      refine e_ic (v := (v1 + 1)) (L' := [some (.ref c), some (.int (v1 + 1)), some (.int y2_1)]) rfl rfl rfl ic_1 rfl ?_
      refine e_g rfl ?_
      exact T
    · replace T := T.2 hA
      refine e_l rfl rfl rfl ?_
      refine e_l rfl rfl rfl ?_
      refine e_gr rfl (crs_g c hc) rfl (crs_r0 c hc) ?_
      refine e_gi rfl (g_2) (by decide) ?_
      refine e_b rfl rfl rfl (fun hA => ?_) (fun hA => ?_)
      · replace T := T.1 hA
        refine e_ic (v := (v1 + 1)) (L' := [some (.ref c), some (.int (v1 + 1)), some (.int y2_1)]) rfl rfl rfl ic_1 rfl ?_
        refine e_g rfl ?_
        exact T
      · replace T := T.2 hA
        refine e_l rfl rfl rfl ?_
        refine e_gi rfl (crs_g c hc) (by decide) ?_
        refine e_l rfl rfl rfl ?_
        refine e_p rfl rfl rfl ?_
        refine e_k rfl rfl rfl ic_1 ?_
        refine e_p rfl rfl rfl ?_
        refine e_b rfl rfl rfl (fun hA => ?_) (fun hA => ?_)
        · replace T := T.1 hA
          refine e_ic (v := (v1 + 1)) (L' := [some (.ref c), some (.int (v1 + 1)), some (.int y2_1)]) rfl rfl rfl ic_1 rfl ?_
          refine e_g rfl ?_
          exact T
        · replace T := T.2 hA
          refine e_l rfl rfl rfl ?_
          refine e_gr rfl (crs_g c hc) rfl (crs_r2 c hc) ?_
          refine e_l rfl rfl rfl ?_
          refine e_k rfl rfl rfl ic_1 ?_
          refine e_as rfl (crs_a2 c hc) T.1 ?_
          replace T := T.2
          refine e_l rfl rfl rfl ?_
          refine e_p rfl rfl rfl ?_
          refine e_gi rfl (crs_g c hc) (by decide) ?_
          refine e_k rfl rfl rfl ic_1 ?_
          refine e_l rfl rfl rfl ?_
          refine e_p rfl rfl rfl ?_
          refine e_p rfl rfl rfl ?_
          refine e_pi rfl (crs_g c hc) rfl ?_
          refine e_ic (v := (v1 + 1)) (L' := [some (.ref c), some (.int (v1 + 1)), some (.int y2_1)]) rfl rfl rfl ic_1 rfl ?_
          refine e_g rfl ?_
          exact T
set_option maxRecDepth 10000 in
set_option maxHeartbeats 4000000 in
theorem vc_X0_warm {X : mm_X} {d : Nat} {I : tI} {J : tJ} {P : tI → tJ → Prop} {c : Nat} {v1 : Int32} (hc : c ∈ mm_crs) (T : (v1 ≠ 0 → (Er X d M_X0_warm 5 [some (.ref c), some (.int v1), some (.int 0)] [] I J (qV P))) ∧ (¬ (v1 ≠ 0) → (P I J))) : EV X d n_X0_warm [.ref c, .int v1] I J P := by
  refine ⟨M_X0_warm, tb_X0_warm, Nat.le_of_ble_eq_true rfl, ?_⟩
  show Er X d M_X0_warm 0 [some (.ref c), some (.int v1), none] [] I J (qV P)
  refine e_l rfl rfl rfl ?_
  refine e_b rfl rfl rfl (fun hA => ?_) (fun hA => ?_)
  · replace T := T.1 hA
    refine e_k rfl rfl rfl ic_0 ?_
    refine e_l (L' := [some (.ref c), some (.int v1), some (.int 0)]) rfl rfl rfl ?_
    exact T
  · replace T := T.2 hA
    exact e_rv rfl rfl ⟨rfl, T⟩
set_option maxRecDepth 10000 in
set_option maxHeartbeats 4000000 in
theorem vc_X0_warm_5 {X : mm_X} {d : Nat} {I : tI} {J : tJ} {P : tI → tJ → Prop} {c : Nat} {v1 : Int32} {v2 : Int32} (hc : c ∈ mm_crs) (T : ((I 2 2) ≤ v2 → (P I J)) ∧ (¬ ((I 2 2) ≤ v2) → (ix v2 8 ∧ (((I (c + 2) (tn v2)) ≠ 1 → (Er X d M_X0_warm 5 [some (.ref c), some (.int v1), some (.int (v2 + 1))] [] I J (qV P))) ∧ (¬ ((I (c + 2) (tn v2)) ≠ 1) → (ix v2 8 ∧ (ix v2 8 ∧ (Er X d M_X0_warm 5 [some (.ref c), some (.int v1), some (.int (v2 + 1))] [] (mm_u I (c + 1) (tn v2) (if ((I (c + 1) (tn v2)) + (20 * v1)) < (99 : Int32) then ((I (c + 1) (tn v2)) + (20 * v1)) else 99)) J (qV P))))))))) : Er X d M_X0_warm 5 [some (.ref c), some (.int v1), some (.int v2)] [] I J (qV P) := by
  refine e_l rfl rfl rfl ?_
  refine e_l rfl rfl rfl ?_
  refine e_gr rfl (crs_g c hc) rfl (crs_r0 c hc) ?_
  refine e_gi rfl (g_2) (by decide) ?_
  refine e_b rfl rfl rfl (fun hA => ?_) (fun hA => ?_)
  · replace T := T.1 hA
    exact e_rv rfl rfl ⟨rfl, T⟩
  · replace T := T.2 hA
    refine e_l rfl rfl rfl ?_
    refine e_gr rfl (crs_g c hc) rfl (crs_r2 c hc) ?_
    refine e_l rfl rfl rfl ?_
    refine e_ia rfl (crs_a2 c hc) T.1 ?_
    replace T := T.2
    refine e_k rfl rfl rfl ic_1 ?_
    refine e_b rfl rfl rfl (fun hA => ?_) (fun hA => ?_)
    · replace T := T.1 hA
      refine e_ic (v := (v2 + 1)) (L' := [some (.ref c), some (.int v1), some (.int (v2 + 1))]) rfl rfl rfl ic_1 rfl ?_
      refine e_g rfl ?_
      exact T
    · replace T := T.2 hA
      refine e_l rfl rfl rfl ?_
      refine e_gr rfl (crs_g c hc) rfl (crs_r1 c hc) ?_
      refine e_l rfl rfl rfl ?_
      refine e_k rfl rfl rfl ib_99 ?_
      refine e_l rfl rfl rfl ?_
      refine e_gr rfl (crs_g c hc) rfl (crs_r1 c hc) ?_
      refine e_l rfl rfl rfl ?_
      refine e_ia rfl (crs_a1 c hc) T.1 ?_
      replace T := T.2
      refine e_k rfl rfl rfl ib_20 ?_
      refine e_l rfl rfl rfl ?_
      refine e_p rfl rfl rfl ?_
      refine e_p rfl rfl rfl ?_
      refine e_mn rfl (Nat.le_of_ble_eq_true rfl) ?_
      refine e_as rfl (crs_a1 c hc) T.1 ?_
      replace T := T.2
      refine e_ic (v := (v2 + 1)) (L' := [some (.ref c), some (.int v1), some (.int (v2 + 1))]) rfl rfl rfl ic_1 rfl ?_
      refine e_g rfl ?_
      exact T
set_option maxRecDepth 10000 in
set_option maxHeartbeats 4000000 in
theorem vc_X0_spread {X : mm_X} {d : Nat} {I : tI} {J : tJ} {P : tI → tJ → Prop} {c : Nat} {v1 : Int32} (hc : c ∈ mm_crs) (T : Er X (d + 1) M_X0_spread 2 [some (.ref c), some (.int v1), some (.int 0), none] [] I J (qV P)) : EV X (d + 1) n_X0_spread [.ref c, .int v1] I J P := by
  refine ⟨M_X0_spread, tb_X0_spread, Nat.le_of_ble_eq_true rfl, ?_⟩
  show Er X (d + 1) M_X0_spread 0 [some (.ref c), some (.int v1), none, none] [] I J (qV P)
  refine e_k rfl rfl rfl ic_0 ?_
  refine e_l (L' := [some (.ref c), some (.int v1), some (.int 0), none]) rfl rfl rfl ?_
  exact T
set_option maxRecDepth 10000 in
set_option maxHeartbeats 4000000 in
theorem vc_X0_spread_2 {X : mm_X} {d : Nat} {I : tI} {J : tJ} {P : tI → tJ → Prop} {c : Nat} {v1 : Int32} {v2 : Int32} {o3 : Option Value} (hc : c ∈ mm_crs) (T : ((I 2 7) ≤ v2 → (P I J)) ∧ (¬ ((I 2 7) ≤ v2) → (ix v2 8 ∧ (∀ y3_1 : Int32, y3_1 = (I 9 (tn v2)) → (ix v2 8 ∧ (((I 8 (tn v2)) ≠ v1 → (Er X (d + 1) M_X0_spread 2 [some (.ref c), some (.int v1), some (.int (v2 + 1)), some (.int y3_1)] [] I J (qV P))) ∧ (¬ ((I 8 (tn v2)) ≠ v1) → (((I 2 2) ≤ y3_1 → (Er X (d + 1) M_X0_spread 2 [some (.ref c), some (.int v1), some (.int (v2 + 1)), some (.int y3_1)] [] I J (qV P))) ∧ (¬ ((I 2 2) ≤ y3_1) → (EI X d n_X0_isIn [.ref c, .int y3_1] I J (fun x_2 I_3 J_4 => (x_2 = 0 → (Er X (d + 1) M_X0_spread 2 [some (.ref c), some (.int v1), some (.int (v2 + 1)), some (.int y3_1)] [] I_3 J_4 (qV P))) ∧ (¬ (x_2 = 0) → (ix y3_1 8 ∧ (((I_3 (c + 1) (tn y3_1)) ≤ (I_3 7 (tn 2)) → (Er X (d + 1) M_X0_spread 2 [some (.ref c), some (.int v1), some (.int (v2 + 1)), some (.int y3_1)] [] I_3 J_4 (qV P))) ∧ (¬ ((I_3 (c + 1) (tn y3_1)) ≤ (I_3 7 (tn 2))) → (EV X d n_X0_leave [.ref c, .int y3_1, .int 3] I_3 J_4 (fun I_6 J_7 => Er X (d + 1) M_X0_spread 2 [some (.ref c), some (.int v1), some (.int (v2 + 1)), some (.int y3_1)] [] I_6 J_7 (qV P)))))))))))))))))) : Er X (d + 1) M_X0_spread 2 [some (.ref c), some (.int v1), some (.int v2), o3] [] I J (qV P) := by
  refine e_l rfl rfl rfl ?_
  refine e_l rfl rfl rfl ?_
  refine e_gr rfl (crs_g c hc) rfl (crs_r0 c hc) ?_
  refine e_gi rfl (g_2) (by decide) ?_
  refine e_b rfl rfl rfl (fun hA => ?_) (fun hA => ?_)
  · replace T := T.1 hA
    exact e_rv rfl rfl ⟨rfl, T⟩
  · replace T := T.2 hA
    refine e_l rfl rfl rfl ?_
    refine e_gr rfl (crs_g c hc) rfl (crs_r0 c hc) ?_
    refine e_gr rfl (g_2) rfl (r_2_9) ?_
    refine e_l rfl rfl rfl ?_
    refine e_ia rfl (g_9) T.1 ?_
    replace T := T.2
    refine e_si (Lf := fun y3_1 => [some (.ref c), some (.int v1), some (.int v2), some (.int y3_1)]) rfl rfl rfl (fun y3_1 hy3_1 => ?_)
    replace T := T y3_1 hy3_1
    refine e_l rfl rfl rfl ?_
    refine e_gr rfl (crs_g c hc) rfl (crs_r0 c hc) ?_
    refine e_gr rfl (g_2) rfl (r_2_8) ?_
    refine e_l rfl rfl rfl ?_
    refine e_ia rfl (g_8) T.1 ?_
    replace T := T.2
    refine e_l rfl rfl rfl ?_
    refine e_b rfl rfl rfl (fun hA => ?_) (fun hA => ?_)
    · replace T := T.1 hA
      refine e_ic (v := (v2 + 1)) (L' := [some (.ref c), some (.int v1), some (.int (v2 + 1)), some (.int y3_1)]) rfl rfl rfl ic_1 rfl ?_
      refine e_g rfl ?_
      exact T
    · replace T := T.2 hA
      refine e_l rfl rfl rfl ?_
      refine e_l rfl rfl rfl ?_
      refine e_gr rfl (crs_g c hc) rfl (crs_r0 c hc) ?_
      refine e_gi rfl (g_2) (by decide) ?_
      refine e_b rfl rfl rfl (fun hA => ?_) (fun hA => ?_)
      · replace T := T.1 hA
        refine e_ic (v := (v2 + 1)) (L' := [some (.ref c), some (.int v1), some (.int (v2 + 1)), some (.int y3_1)]) rfl rfl rfl ic_1 rfl ?_
        refine e_g rfl ?_
        exact T
      · replace T := T.2 hA
        refine e_l rfl rfl rfl ?_
        refine e_l rfl rfl rfl ?_
        refine e_cvI (as := [.int y3_1]) (rs := []) rfl rfl (crs_g c hc) rfl T (fun x_2 I_3 J_4 T => ?_)
        try dsimp only at T
        refine e_b rfl rfl rfl (fun hA => ?_) (fun hA => ?_)
        · replace T := T.1 hA
          refine e_ic (v := (v2 + 1)) (L' := [some (.ref c), some (.int v1), some (.int (v2 + 1)), some (.int y3_1)]) rfl rfl rfl ic_1 rfl ?_
          refine e_g rfl ?_
          exact T
        · replace T := T.2 hA
          refine e_l rfl rfl rfl ?_
          refine e_gr rfl (crs_g c hc) rfl (crs_r1 c hc) ?_
          refine e_l rfl rfl rfl ?_
          refine e_ia rfl (crs_a1 c hc) T.1 ?_
          replace T := T.2
          refine e_l rfl rfl rfl ?_
          refine e_gr rfl (crs_g c hc) rfl (crs_r0 c hc) ?_
          refine e_gr rfl (g_2) rfl (r_2_6) ?_
          refine e_k rfl rfl rfl ic_2 ?_
          refine e_ia rfl (g_7) (by decide) ?_
          refine e_b rfl rfl rfl (fun hA => ?_) (fun hA => ?_)
          · replace T := T.1 hA
            refine e_ic (v := (v2 + 1)) (L' := [some (.ref c), some (.int v1), some (.int (v2 + 1)), some (.int y3_1)]) rfl rfl rfl ic_1 rfl ?_
            refine e_g rfl ?_
            exact T
          · replace T := T.2 hA
            refine e_l rfl rfl rfl ?_
            refine e_l rfl rfl rfl ?_
            refine e_k rfl rfl rfl ic_3 ?_
            refine e_cvV (as := [.int y3_1, .int 3]) (rs := []) rfl rfl (crs_g c hc) rfl T (fun I_6 J_7 T => ?_)
            try dsimp only at T
            refine e_ic (v := (v2 + 1)) (L' := [some (.ref c), some (.int v1), some (.int (v2 + 1)), some (.int y3_1)]) rfl rfl rfl ic_1 rfl ?_
            refine e_g rfl ?_
            exact T
set_option maxRecDepth 10000 in
set_option maxHeartbeats 4000000 in
theorem vc_X0_leave {X : mm_X} {d : Nat} {I : tI} {J : tJ} {P : tI → tJ → Prop} {c : Nat} {v1 : Int32} {v2 : Int32} (hc : c ∈ mm_crs) (T : ix v1 8 ∧ (((I (c + 2) (tn v1)) ≠ 1 → (ix v1 8 ∧ (P (mm_u I (c + 2) (tn v1) v2) J))) ∧ (¬ ((I (c + 2) (tn v1)) ≠ 1) → (ix v1 8 ∧ (ix v1 8 ∧ (P (mm_u (mm_u I c 8 ((I c 8) &&& ((1 <<< ((I 6 (tn v1)) &&& 31)) ^^^ (-1)))) (c + 2) (tn v1) v2) J)))))) : EV X d n_X0_leave [.ref c, .int v1, .int v2] I J P := by
  refine ⟨M_X0_leave, tb_X0_leave, Nat.le_of_ble_eq_true rfl, ?_⟩
  show Er X d M_X0_leave 0 [some (.ref c), some (.int v1), some (.int v2)] [] I J (qV P)
  refine e_l rfl rfl rfl ?_
  refine e_gr rfl (crs_g c hc) rfl (crs_r2 c hc) ?_
  refine e_l rfl rfl rfl ?_
  refine e_ia rfl (crs_a2 c hc) T.1 ?_
  replace T := T.2
  refine e_k rfl rfl rfl ic_1 ?_
  refine e_b rfl rfl rfl (fun hA => ?_) (fun hA => ?_)
  · replace T := T.1 hA
    refine e_l rfl rfl rfl ?_
    refine e_gr rfl (crs_g c hc) rfl (crs_r2 c hc) ?_
    refine e_l rfl rfl rfl ?_
    refine e_l rfl rfl rfl ?_
    refine e_as rfl (crs_a2 c hc) T.1 ?_
    replace T := T.2
    exact e_rv rfl rfl ⟨rfl, T⟩
  · replace T := T.2 hA
    refine e_l rfl rfl rfl ?_
    refine e_p rfl rfl rfl ?_
    refine e_gi rfl (crs_g c hc) (by decide) ?_
    refine e_k rfl rfl rfl ic_1 ?_
    refine e_l rfl rfl rfl ?_
    refine e_gr rfl (crs_g c hc) rfl (crs_r0 c hc) ?_
    refine e_gr rfl (g_2) rfl (r_2_5) ?_
    refine e_l rfl rfl rfl ?_
    refine e_ia rfl (g_6) T.1 ?_
    replace T := T.2
    refine e_p rfl rfl rfl ?_
    refine e_k rfl rfl rfl ic_m1 ?_
    refine e_p rfl rfl rfl ?_
    refine e_p rfl rfl rfl ?_
    refine e_pi rfl (crs_g c hc) rfl ?_
    refine e_l rfl rfl rfl ?_
    refine e_gr rfl (crs_g c hc) rfl (crs_r2 c hc) ?_
    refine e_l rfl rfl rfl ?_
    refine e_l rfl rfl rfl ?_
    refine e_as rfl (crs_a2 c hc) T.1 ?_
    replace T := T.2
    exact e_rv rfl rfl ⟨rfl, T⟩
set_option maxRecDepth 10000 in
set_option maxHeartbeats 4000000 in
theorem vc_X0_feelWarmth {X : mm_X} {d : Nat} {I : tI} {J : tJ} {P : tI → tJ → Prop} {c : Nat} (hc : c ∈ mm_crs) (T : ∀ y1_1 : Int32, y1_1 = (if 12 < ((I 2 0) + 2) then 12 else ((I 2 0) + 2)) → (Er X d M_X0_feelWarmth 10 [some (.ref c), some (.int y1_1), some (.int 0)] [] I J (qV P))) : EV X d n_X0_feelWarmth [.ref c] I J P := by
  refine ⟨M_X0_feelWarmth, tb_X0_feelWarmth, Nat.le_of_ble_eq_true rfl, ?_⟩
  show Er X d M_X0_feelWarmth 0 [some (.ref c), none, none] [] I J (qV P)
  refine e_l rfl rfl rfl ?_
  refine e_gr rfl (crs_g c hc) rfl (crs_r0 c hc) ?_
  refine e_gi rfl (g_2) (by decide) ?_
  refine e_k rfl rfl rfl ic_2 ?_
  refine e_p rfl rfl rfl ?_
  refine e_k rfl rfl rfl ib_12 ?_
  refine e_mn rfl (Nat.le_of_ble_eq_true rfl) ?_
  refine e_si (Lf := fun y1_1 => [some (.ref c), some (.int y1_1), none]) rfl rfl rfl (fun y1_1 hy1_1 => ?_)
  replace T := T y1_1 hy1_1
  refine e_k rfl rfl rfl ic_0 ?_
  refine e_l (L' := [some (.ref c), some (.int y1_1), some (.int 0)]) rfl rfl rfl ?_
  exact T
set_option maxRecDepth 10000 in
set_option maxHeartbeats 4000000 in
theorem vc_X0_feelWarmth_10 {X : mm_X} {d : Nat} {I : tI} {J : tJ} {P : tI → tJ → Prop} {c : Nat} {v1 : Int32} {v2 : Int32} (hc : c ∈ mm_crs) (T : (v1 ≤ v2 → (Er X d M_X0_feelWarmth 22 [some (.ref c), some (.int v1), some (.int 0)] [] I J (qV P))) ∧ (¬ (v1 ≤ v2) → (ix v2 12 ∧ (Er X d M_X0_feelWarmth 10 [some (.ref c), some (.int v1), some (.int (v2 + 1))] [] (mm_u I (c + 7) (tn v2) 0) J (qV P))))) : Er X d M_X0_feelWarmth 10 [some (.ref c), some (.int v1), some (.int v2)] [] I J (qV P) := by
  refine e_l rfl rfl rfl ?_
  refine e_l rfl rfl rfl ?_
  refine e_b rfl rfl rfl (fun hA => ?_) (fun hA => ?_)
  · replace T := T.1 hA
    refine e_k rfl rfl rfl ic_0 ?_
    refine e_l (L' := [some (.ref c), some (.int v1), some (.int 0)]) rfl rfl rfl ?_
    exact T
  · replace T := T.2 hA
    refine e_l rfl rfl rfl ?_
    refine e_gr rfl (crs_g c hc) rfl (crs_r7 c hc) ?_
    refine e_l rfl rfl rfl ?_
    refine e_k rfl rfl rfl ic_0 ?_
    refine e_as rfl (crs_a7 c hc) T.1 ?_
    replace T := T.2
    refine e_ic (v := (v2 + 1)) (L' := [some (.ref c), some (.int v1), some (.int (v2 + 1))]) rfl rfl rfl ic_1 rfl ?_
    refine e_g rfl ?_
    exact T
set_option maxRecDepth 10000 in
set_option maxHeartbeats 4000000 in
theorem vc_X0_feelWarmth_22 {X : mm_X} {d : Nat} {I : tI} {J : tJ} {P : tI → tJ → Prop} {c : Nat} {v1 : Int32} {v2 : Int32} (hc : c ∈ mm_crs) (T : ((I 2 2) ≤ v2 → (P I J)) ∧ (¬ ((I 2 2) ≤ v2) → (ix v2 8 ∧ (((I (c + 2) (tn v2)) ≠ 1 → (Er X d M_X0_feelWarmth 22 [some (.ref c), some (.int v1), some (.int (v2 + 1))] [] I J (qV P))) ∧ (¬ ((I (c + 2) (tn v2)) ≠ 1) → (ix v2 8 ∧ (ix v2 8 ∧ (ix ((I 6 (tn v2)) + 1) 12 ∧ (Er X d M_X0_feelWarmth 22 [some (.ref c), some (.int v1), some (.int (v2 + 1))] [] (mm_u I (c + 7) (tn ((I 6 (tn v2)) + 1)) (I (c + 1) (tn v2))) J (qV P)))))))))) : Er X d M_X0_feelWarmth 22 [some (.ref c), some (.int v1), some (.int v2)] [] I J (qV P) := by
  refine e_l rfl rfl rfl ?_
  refine e_l rfl rfl rfl ?_
  refine e_gr rfl (crs_g c hc) rfl (crs_r0 c hc) ?_
  refine e_gi rfl (g_2) (by decide) ?_
  refine e_b rfl rfl rfl (fun hA => ?_) (fun hA => ?_)
  · replace T := T.1 hA
    exact e_rv rfl rfl ⟨rfl, T⟩
  · replace T := T.2 hA
    refine e_l rfl rfl rfl ?_
    refine e_gr rfl (crs_g c hc) rfl (crs_r2 c hc) ?_
    refine e_l rfl rfl rfl ?_
    refine e_ia rfl (crs_a2 c hc) T.1 ?_
    replace T := T.2
    refine e_k rfl rfl rfl ic_1 ?_
    refine e_b rfl rfl rfl (fun hA => ?_) (fun hA => ?_)
    · replace T := T.1 hA
      refine e_ic (v := (v2 + 1)) (L' := [some (.ref c), some (.int v1), some (.int (v2 + 1))]) rfl rfl rfl ic_1 rfl ?_
      refine e_g rfl ?_
      exact T
    · replace T := T.2 hA
      refine e_l rfl rfl rfl ?_
      refine e_gr rfl (crs_g c hc) rfl (crs_r7 c hc) ?_
      refine e_l rfl rfl rfl ?_
      refine e_gr rfl (crs_g c hc) rfl (crs_r0 c hc) ?_
      refine e_gr rfl (g_2) rfl (r_2_5) ?_
      refine e_l rfl rfl rfl ?_
      refine e_ia rfl (g_6) T.1 ?_
      replace T := T.2
      refine e_k rfl rfl rfl ic_1 ?_
      refine e_p rfl rfl rfl ?_
      refine e_l rfl rfl rfl ?_
      refine e_gr rfl (crs_g c hc) rfl (crs_r1 c hc) ?_
      refine e_l rfl rfl rfl ?_
      refine e_ia rfl (crs_a1 c hc) T.1 ?_
      replace T := T.2
      refine e_as rfl (crs_a7 c hc) T.1 ?_
      replace T := T.2
      refine e_ic (v := (v2 + 1)) (L' := [some (.ref c), some (.int v1), some (.int (v2 + 1))]) rfl rfl rfl ic_1 rfl ?_
      refine e_g rfl ?_
      exact T
set_option maxRecDepth 10000 in
set_option maxHeartbeats 4000000 in
theorem vc_X0_cooling {X : mm_X} {d : Nat} {I : tI} {J : tJ} {P : Int32 → tI → tJ → Prop} {c : Nat} {v1 : Int32} {v2 : Int32} (hc : c ∈ mm_crs) (T : ix v1 8 ∧ (((I (c + 2) (tn v1)) ≠ 0 → (ix v1 8 ∧ (∀ y3_1 : Int32, y3_1 = (I 6 (tn v1)) → (ix v1 8 ∧ (∀ y4_2 : Int32, y4_2 = (I 4 (tn v1)) → (ix y3_1 10 ∧ (∀ y5_3 : Int32, y5_3 = ((((I 3 (tn y3_1)) + v2) + 1) - (I 7 (tn 1))) → ((y4_2 = 3 → (Er X d M_X0_cooling 48 [some (.ref c), some (.int v1), some (.int v2), some (.int y3_1), some (.int y4_2), some (.int y5_3)] [] I J (qI P))) ∧ (¬ (y4_2 = 3) → (ix y3_1 12 ∧ (ix v1 8 ∧ (((I (c + 7) (tn y3_1)) ≤ (I (c + 1) (tn v1)) → (Er X d M_X0_cooling 48 [some (.ref c), some (.int v1), some (.int v2), some (.int y3_1), some (.int y4_2), some (.int y5_3)] [] I J (qI P))) ∧ (¬ ((I (c + 7) (tn y3_1)) ≤ (I (c + 1) (tn v1))) → (Er X d M_X0_cooling 48 [some (.ref c), some (.int v1), some (.int v2), some (.int y3_1), some (.int y4_2), some (.int (y5_3 + (-1)))] [] I J (qI P))))))))))))))) ∧ (¬ ((I (c + 2) (tn v1)) ≠ 0) → (P 1 I J)))) : EI X d n_X0_cooling [.ref c, .int v1, .int v2] I J P := by
  refine ⟨M_X0_cooling, tb_X0_cooling, Nat.le_of_ble_eq_true rfl, ?_⟩
  show Er X d M_X0_cooling 0 [some (.ref c), some (.int v1), some (.int v2), none, none, none] [] I J (qI P)
  refine e_l rfl rfl rfl ?_
  refine e_gr rfl (crs_g c hc) rfl (crs_r2 c hc) ?_
  refine e_l rfl rfl rfl ?_
  refine e_ia rfl (crs_a2 c hc) T.1 ?_
  replace T := T.2
  refine e_b rfl rfl rfl (fun hA => ?_) (fun hA => ?_)
  · replace T := T.1 hA
    refine e_l rfl rfl rfl ?_
    refine e_gr rfl (crs_g c hc) rfl (crs_r0 c hc) ?_
    refine e_gr rfl (g_2) rfl (r_2_5) ?_
    refine e_l rfl rfl rfl ?_
    refine e_ia rfl (g_6) T.1 ?_
    replace T := T.2
    refine e_si (Lf := fun y3_1 => [some (.ref c), some (.int v1), some (.int v2), some (.int y3_1), none, none]) rfl rfl rfl (fun y3_1 hy3_1 => ?_)
    replace T := T y3_1 hy3_1
    refine e_l rfl rfl rfl ?_
    refine e_gr rfl (crs_g c hc) rfl (crs_r0 c hc) ?_
    refine e_gr rfl (g_2) rfl (r_2_3) ?_
    refine e_l rfl rfl rfl ?_
    refine e_ia rfl (g_4) T.1 ?_
    replace T := T.2
    refine e_si (Lf := fun y4_2 => [some (.ref c), some (.int v1), some (.int v2), some (.int y3_1), some (.int y4_2), none]) rfl rfl rfl (fun y4_2 hy4_2 => ?_)
    replace T := T y4_2 hy4_2
    refine e_l rfl rfl rfl ?_
    refine e_gr rfl (crs_g c hc) rfl (crs_r0 c hc) ?_
    refine e_gr rfl (g_2) rfl (r_2_1) ?_
    refine e_l rfl rfl rfl ?_
    refine e_ia rfl (g_3) T.1 ?_
    replace T := T.2
    refine e_l rfl rfl rfl ?_
    refine e_p rfl rfl rfl ?_
    refine e_k rfl rfl rfl ic_1 ?_
    refine e_p rfl rfl rfl ?_
    refine e_l rfl rfl rfl ?_
    refine e_gr rfl (crs_g c hc) rfl (crs_r0 c hc) ?_
    refine e_gr rfl (g_2) rfl (r_2_6) ?_
    refine e_k rfl rfl rfl ic_1 ?_
    refine e_ia rfl (g_7) (by decide) ?_
    refine e_p rfl rfl rfl ?_
    refine e_si (Lf := fun y5_3 => [some (.ref c), some (.int v1), some (.int v2), some (.int y3_1), some (.int y4_2), some (.int y5_3)]) rfl rfl rfl (fun y5_3 hy5_3 => ?_)
    replace T := T y5_3 hy5_3
    refine e_l rfl rfl rfl ?_
    refine e_k rfl rfl rfl ic_3 ?_
    refine e_b rfl rfl rfl (fun hA => ?_) (fun hA => ?_)
    · replace T := T.1 hA
      exact T
    · replace T := T.2 hA
      refine e_l rfl rfl rfl ?_
      refine e_gr rfl (crs_g c hc) rfl (crs_r7 c hc) ?_
      refine e_l rfl rfl rfl ?_
      refine e_ia rfl (crs_a7 c hc) T.1 ?_
      replace T := T.2
      refine e_l rfl rfl rfl ?_
      refine e_gr rfl (crs_g c hc) rfl (crs_r1 c hc) ?_
      refine e_l rfl rfl rfl ?_
      refine e_ia rfl (crs_a1 c hc) T.1 ?_
      replace T := T.2
      refine e_b rfl rfl rfl (fun hA => ?_) (fun hA => ?_)
      · replace T := T.1 hA
        exact T
      · replace T := T.2 hA
        refine e_ic (v := (y5_3 + (-1))) (L' := [some (.ref c), some (.int v1), some (.int v2), some (.int y3_1), some (.int y4_2), some (.int (y5_3 + (-1)))]) rfl rfl rfl ic_m1 rfl ?_
        exact T
  · replace T := T.2 hA
    refine e_k rfl rfl rfl ic_1 ?_
    exact e_ri rfl rfl ⟨_, rfl, T⟩
set_option maxRecDepth 10000 in
set_option maxHeartbeats 4000000 in
theorem vc_X0_cooling_48 {X : mm_X} {d : Nat} {I : tI} {J : tJ} {P : Int32 → tI → tJ → Prop} {c : Nat} {v1 : Int32} {v2 : Int32} {v3 : Int32} {v4 : Int32} {v5 : Int32} (hc : c ∈ mm_crs) (T : (v4 = 3 → (Er X d M_X0_cooling 63 [some (.ref c), some (.int v1), some (.int v2), some (.int v3), some (.int v4), some (.int v5)] [] I J (qI P))) ∧ (¬ (v4 = 3) → (ix (v3 + 2) 12 ∧ (ix v1 8 ∧ (((I (c + 7) (tn (v3 + 2))) ≤ (I (c + 1) (tn v1)) → (Er X d M_X0_cooling 63 [some (.ref c), some (.int v1), some (.int v2), some (.int v3), some (.int v4), some (.int v5)] [] I J (qI P))) ∧ (¬ ((I (c + 7) (tn (v3 + 2))) ≤ (I (c + 1) (tn v1))) → (Er X d M_X0_cooling 63 [some (.ref c), some (.int v1), some (.int v2), some (.int v3), some (.int v4), some (.int (v5 + (-1)))] [] I J (qI P)))))))) : Er X d M_X0_cooling 48 [some (.ref c), some (.int v1), some (.int v2), some (.int v3), some (.int v4), some (.int v5)] [] I J (qI P) := by
  refine e_l rfl rfl rfl ?_
  refine e_k rfl rfl rfl ic_3 ?_
  refine e_b rfl rfl rfl (fun hA => ?_) (fun hA => ?_)
  · replace T := T.1 hA
    exact T
  · replace T := T.2 hA
    refine e_l rfl rfl rfl ?_
    refine e_gr rfl (crs_g c hc) rfl (crs_r7 c hc) ?_
    refine e_l rfl rfl rfl ?_
    refine e_k rfl rfl rfl ic_2 ?_
    refine e_p rfl rfl rfl ?_
    refine e_ia rfl (crs_a7 c hc) T.1 ?_
    replace T := T.2
    refine e_l rfl rfl rfl ?_
    refine e_gr rfl (crs_g c hc) rfl (crs_r1 c hc) ?_
    refine e_l rfl rfl rfl ?_
    refine e_ia rfl (crs_a1 c hc) T.1 ?_
    replace T := T.2
    refine e_b rfl rfl rfl (fun hA => ?_) (fun hA => ?_)
    · replace T := T.1 hA
      exact T
    · replace T := T.2 hA
      refine e_ic (v := (v5 + (-1))) (L' := [some (.ref c), some (.int v1), some (.int v2), some (.int v3), some (.int v4), some (.int (v5 + (-1)))]) rfl rfl rfl ic_m1 rfl ?_
      exact T
set_option maxRecDepth 10000 in
set_option maxHeartbeats 4000000 in
theorem vc_X0_cooling_63 {X : mm_X} {d : Nat} {I : tI} {J : tJ} {P : Int32 → tI → tJ → Prop} {c : Nat} {v1 : Int32} {v2 : Int32} {v3 : Int32} {v4 : Int32} {v5 : Int32} (hc : c ∈ mm_crs) (T : ∀ y5_1 : Int32, y5_1 = (if (0 : Int32) < v5 then v5 else 0) → ((v4 ≠ 0 → ((v4 ≠ 2 → (P y5_1 I J)) ∧ (¬ (v4 ≠ 2) → (P (y5_1 / 2) I J)))) ∧ (¬ (v4 ≠ 0) → (P (y5_1 + 1) I J)))) : Er X d M_X0_cooling 63 [some (.ref c), some (.int v1), some (.int v2), some (.int v3), some (.int v4), some (.int v5)] [] I J (qI P) := by
  refine e_k rfl rfl rfl ic_0 ?_
  refine e_l rfl rfl rfl ?_
  refine e_mx rfl (Nat.le_of_ble_eq_true rfl) ?_
  refine e_si (Lf := fun y5_1 => [some (.ref c), some (.int v1), some (.int v2), some (.int v3), some (.int v4), some (.int y5_1)]) rfl rfl rfl (fun y5_1 hy5_1 => ?_)
  replace T := T y5_1 hy5_1
  refine e_l rfl rfl rfl ?_
  refine e_b rfl rfl rfl (fun hA => ?_) (fun hA => ?_)
  · replace T := T.1 hA
    refine e_l rfl rfl rfl ?_
    refine e_k rfl rfl rfl ic_2 ?_
    refine e_b rfl rfl rfl (fun hA => ?_) (fun hA => ?_)
    · replace T := T.1 hA
      refine e_l rfl rfl rfl ?_
      exact e_ri rfl rfl ⟨_, rfl, T⟩
    · replace T := T.2 hA
      refine e_l rfl rfl rfl ?_
      refine e_k rfl rfl rfl ic_2 ?_
      refine e_dv rfl (by decide) ?_
      refine e_g rfl ?_
      exact e_ri rfl rfl ⟨_, rfl, T⟩
  · replace T := T.2 hA
    refine e_l rfl rfl rfl ?_
    refine e_k rfl rfl rfl ic_1 ?_
    refine e_p rfl rfl rfl ?_
    exact e_ri rfl rfl ⟨_, rfl, T⟩
set_option maxRecDepth 10000 in
set_option maxHeartbeats 4000000 in
theorem vc_X0_letGo {X : mm_X} {d : Nat} {I : tI} {J : tJ} {P : tI → tJ → Prop} {c : Nat} {v1 : Int32} {v2 : Int32} (hc : c ∈ mm_crs) (T : EV X d n_X0_leave [.ref c, .int v1, .int 2] I J (fun I_2 J_3 => ix v1 8 ∧ (ix v1 8 ∧ (ix v1 8 ∧ (ix v1 8 ∧ ((((mm_u (mm_u I_2 (c + 4) (tn v1) v2) (c + 6) (tn v1) (((mm_u I_2 (c + 4) (tn v1) v2) (c + 6) (tn v1)) + 1)) (c + 5) (tn v1)) ≠ (-1) → (P (mm_u (mm_u I_2 (c + 4) (tn v1) v2) (c + 6) (tn v1) (((mm_u I_2 (c + 4) (tn v1) v2) (c + 6) (tn v1)) + 1)) J_3)) ∧ (¬ (((mm_u (mm_u I_2 (c + 4) (tn v1) v2) (c + 6) (tn v1) (((mm_u I_2 (c + 4) (tn v1) v2) (c + 6) (tn v1)) + 1)) (c + 5) (tn v1)) ≠ (-1)) → (ix v1 8 ∧ (P (mm_u (mm_u (mm_u I_2 (c + 4) (tn v1) v2) (c + 6) (tn v1) (((mm_u I_2 (c + 4) (tn v1) v2) (c + 6) (tn v1)) + 1)) (c + 5) (tn v1) v2) J_3))))))))) : EV X (d + 1) n_X0_letGo [.ref c, .int v1, .int v2] I J P := by
  refine ⟨M_X0_letGo, tb_X0_letGo, Nat.le_of_ble_eq_true rfl, ?_⟩
  show Er X (d + 1) M_X0_letGo 0 [some (.ref c), some (.int v1), some (.int v2)] [] I J (qV P)
  refine e_l rfl rfl rfl ?_
  refine e_l rfl rfl rfl ?_
  refine e_k rfl rfl rfl ic_2 ?_
  refine e_cvV (as := [.int v1, .int 2]) (rs := []) rfl rfl (crs_g c hc) rfl T (fun I_2 J_3 T => ?_)
  try dsimp only at T
  refine e_l rfl rfl rfl ?_
  refine e_gr rfl (crs_g c hc) rfl (crs_r4 c hc) ?_
  refine e_l rfl rfl rfl ?_
  refine e_l rfl rfl rfl ?_
  refine e_as rfl (crs_a4 c hc) T.1 ?_
  replace T := T.2
  refine e_l rfl rfl rfl ?_
  refine e_gr rfl (crs_g c hc) rfl (crs_r6 c hc) ?_
  refine e_l rfl rfl rfl ?_
  refine e_p rfl rfl rfl ?_
  refine e_ia rfl (crs_a6 c hc) T.1 ?_
  replace T := T.2
  refine e_k rfl rfl rfl ic_1 ?_
  refine e_p rfl rfl rfl ?_
  refine e_as rfl (crs_a6 c hc) T.1 ?_
  replace T := T.2
  refine e_l rfl rfl rfl ?_
  refine e_gr rfl (crs_g c hc) rfl (crs_r5 c hc) ?_
  refine e_l rfl rfl rfl ?_
  refine e_ia rfl (crs_a5 c hc) T.1 ?_
  replace T := T.2
  refine e_k rfl rfl rfl ic_m1 ?_
  refine e_b rfl rfl rfl (fun hA => ?_) (fun hA => ?_)
  · replace T := T.1 hA
    exact e_rv rfl rfl ⟨rfl, T⟩
  · replace T := T.2 hA
    refine e_l rfl rfl rfl ?_
    refine e_gr rfl (crs_g c hc) rfl (crs_r5 c hc) ?_
    refine e_l rfl rfl rfl ?_
    refine e_l rfl rfl rfl ?_
    refine e_as rfl (crs_a5 c hc) T.1 ?_
    replace T := T.2
    exact e_rv rfl rfl ⟨rfl, T⟩
