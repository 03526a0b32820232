set_option maxRecDepth 10000 in
set_option maxHeartbeats 4000000 in
theorem vc_X10_type {X : mm_X} {d : Nat} {I : tI} {J : tJ} {P : Int32 → tI → tJ → Prop} {v1 : Int32} {v2 : Int32}  (T : EI X d n_X10_isText [.int v1] I J (fun x_1 I_2 J_3 => (x_1 = 0 → (P (-2) I_2 J_3)) ∧ (¬ (x_1 = 0) → (EI X d n_X10_isWithin [.int v2, .int 255] I_2 J_3 (fun x_4 I_5 J_6 => (x_4 ≠ 0 → (ix v1 2 ∧ (∃ k12, mm_R0 1 (tn v1) = some k12 ∧ k12 ∈ mm_txs ∧ (((I_5 k12 1) < (Int32.ofNat (if k12 = 133 then 10 else 39)) → (ix (I_5 k12 1) (if k12 = 133 then 10 else 39) ∧ (EV X d n_X10_learn [.ref 0, .int v1] (mm_u (mm_u I_5 (k12 + 1) (tn (I_5 k12 1)) v2) k12 1 (((mm_u I_5 (k12 + 1) (tn (I_5 k12 1)) v2) k12 1) + 1)) J_6 (fun I_8 J_9 => P (I_8 k12 1) I_8 J_9)))) ∧ (¬ ((I_5 k12 1) < (Int32.ofNat (if k12 = 133 then 10 else 39))) → (P (-4) I_5 J_6)))))) ∧ (¬ (x_4 ≠ 0) → (P (-2) I_5 J_6))))))) : EI X (d + 1) n_X10_type [.ref 0, .int v1, .int v2] I J P := by
  refine ⟨M_X10_type, tb_X10_type, Nat.le_of_ble_eq_true rfl, ?_⟩
  show Er X (d + 1) M_X10_type 0 [some (.ref 0), some (.int v1), some (.int v2), none] [] I J (qI P)
  refine e_l rfl rfl rfl ?_
  refine e_csI (as := [.int v1]) (rs := []) rfl rfl rfl T (fun x_1 I_2 J_3 T => ?_)
  try dsimp only at T
  refine e_b rfl rfl rfl (fun hA => ?_) (fun hA => ?_)
  · replace T := T.1 hA
    refine e_k rfl rfl rfl ib_m2 ?_
    exact e_ri rfl rfl ⟨_, rfl, T⟩
  · replace T := T.2 hA
    refine e_l rfl rfl rfl ?_
    refine e_k rfl rfl rfl is_255 ?_
    refine e_csI (as := [.int v2, .int 255]) (rs := []) rfl rfl rfl T (fun x_4 I_5 J_6 T => ?_)
    try dsimp only at T
    refine e_b rfl rfl rfl (fun hA => ?_) (fun hA => ?_)
    · replace T := T.1 hA
      refine e_l rfl rfl rfl ?_
      refine e_gr rfl (g_0) rfl (r_0_0) ?_
      refine e_l rfl rfl rfl ?_
      obtain ⟨hj, k12, hR, hk12, T⟩ := T
      refine e_aa rfl (g_1) hj hR ?_
      refine e_l (L' := [some (.ref 0), some (.int v1), some (.int v2), some (.ref k12)]) rfl rfl rfl ?_
      refine e_l rfl rfl rfl ?_
      refine e_gi rfl (txs_g k12 hk12) (by decide) ?_
      refine e_l rfl rfl rfl ?_
      refine e_gr rfl (txs_g k12 hk12) rfl (txs_r0 k12 hk12) ?_
      refine e_al rfl (txs_a1 k12 hk12) ?_
      refine e_b rfl rfl rfl (fun hA => ?_) (fun hA => ?_)
      · replace T := T.1 hA
        refine e_l rfl rfl rfl ?_
        refine e_gr rfl (txs_g k12 hk12) rfl (txs_r0 k12 hk12) ?_
        refine e_l rfl rfl rfl ?_
        refine e_gi rfl (txs_g k12 hk12) (by decide) ?_
        refine e_l rfl rfl rfl ?_
        refine e_as rfl (txs_a1 k12 hk12) T.1 ?_
        replace T := T.2
        refine e_l rfl rfl rfl ?_
        refine e_p rfl rfl rfl ?_
        refine e_gi rfl (txs_g k12 hk12) (by decide) ?_
        refine e_k rfl rfl rfl ic_1 ?_
        refine e_p rfl rfl rfl ?_
        refine e_pi rfl (txs_g k12 hk12) rfl ?_
        refine e_l rfl rfl rfl ?_
        refine e_l rfl rfl rfl ?_
        refine e_cvV (as := [.int v1]) (rs := []) rfl rfl (g_0) rfl T (fun I_8 J_9 T => ?_)
        try dsimp only at T
        refine e_l rfl rfl rfl ?_
        refine e_gi rfl (txs_g k12 hk12) (by decide) ?_
        exact e_ri rfl rfl ⟨_, rfl, T⟩
      · replace T := T.2 hA
        refine e_k rfl rfl rfl ib_m4 ?_
        exact e_ri rfl rfl ⟨_, rfl, T⟩
    · replace T := T.2 hA
      refine e_k rfl rfl rfl ib_m2 ?_
      exact e_ri rfl rfl ⟨_, rfl, T⟩
set_option maxRecDepth 10000 in
set_option maxHeartbeats 4000000 in
theorem vc_X10_wipe {X : mm_X} {d : Nat} {I : tI} {J : tJ} {P : Int32 → tI → tJ → Prop} {v1 : Int32}  (T : EI X d n_X10_isText [.int v1] I J (fun x_1 I_2 J_3 => (x_1 ≠ 0 → (ix v1 2 ∧ (∃ k8, mm_R0 1 (tn v1) = some k8 ∧ k8 ∈ mm_txs ∧ (∀ y2_4 : Int32, y2_4 = (I_2 k8 1) → (ix v1 2 ∧ (∃ k14, mm_R0 1 (tn v1) = some k14 ∧ k14 ∈ mm_txs ∧ (EV X d n_X10_learn [.ref 0, .int v1] (mm_u I_2 k14 1 0) J_3 (fun I_6 J_7 => P y2_4 I_6 J_7)))))))) ∧ (¬ (x_1 ≠ 0) → (P (-2) I_2 J_3)))) : EI X (d + 1) n_X10_wipe [.ref 0, .int v1] I J P := by
  refine ⟨M_X10_wipe, tb_X10_wipe, Nat.le_of_ble_eq_true rfl, ?_⟩
  show Er X (d + 1) M_X10_wipe 0 [some (.ref 0), some (.int v1), none] [] I J (qI P)
  refine e_l rfl rfl rfl ?_
  refine e_csI (as := [.int v1]) (rs := []) rfl rfl rfl T (fun x_1 I_2 J_3 T => ?_)
  try dsimp only at T
  refine e_b rfl rfl rfl (fun hA => ?_) (fun hA => ?_)
  · replace T := T.1 hA
    refine e_l rfl rfl rfl ?_
    refine e_gr rfl (g_0) rfl (r_0_0) ?_
    refine e_l rfl rfl rfl ?_
    obtain ⟨hj, k8, hR, hk8, T⟩ := T
    refine e_aa rfl (g_1) hj hR ?_
    refine e_gi rfl (txs_g k8 hk8) (by decide) ?_
    refine e_si (Lf := fun y2_4 => [some (.ref 0), some (.int v1), some (.int y2_4)]) rfl rfl rfl (fun y2_4 hy2_4 => ?_)
    replace T := T y2_4 hy2_4
    refine e_l rfl rfl rfl ?_
    refine e_gr rfl (g_0) rfl (r_0_0) ?_
    refine e_l rfl rfl rfl ?_
    obtain ⟨hj, k14, hR, hk14, T⟩ := T
    refine e_aa rfl (g_1) hj hR ?_
    refine e_k rfl rfl rfl ic_0 ?_
    refine e_pi rfl (txs_g k14 hk14) rfl ?_
    refine e_l rfl rfl rfl ?_
    refine e_l rfl rfl rfl ?_
    refine e_cvV (as := [.int v1]) (rs := []) rfl rfl (g_0) rfl T (fun I_6 J_7 T => ?_)
    try dsimp only at T
    refine e_l rfl rfl rfl ?_
    exact e_ri rfl rfl ⟨_, rfl, T⟩
  · replace T := T.2 hA
    refine e_k rfl rfl rfl ib_m2 ?_
    exact e_ri rfl rfl ⟨_, rfl, T⟩
set_option maxRecDepth 10000 in
set_option maxHeartbeats 4000000 in
theorem vc_X10_undo {X : mm_X} {d : Nat} {I : tI} {J : tJ} {P : Int32 → tI → tJ → Prop} {v1 : Int32}  (T : EI X d n_X10_isText [.int v1] I J (fun x_1 I_2 J_3 => (x_1 ≠ 0 → (ix v1 2 ∧ (∃ k8, mm_R0 1 (tn v1) = some k8 ∧ k8 ∈ mm_txs ∧ (((I_2 k8 1) ≠ 0 → (ix v1 2 ∧ (∃ k16, mm_R0 1 (tn v1) = some k16 ∧ k16 ∈ mm_txs ∧ (EV X d n_X10_learn [.ref 0, .int v1] (mm_u I_2 k16 1 ((I_2 k16 1) - 1)) J_3 (fun I_5 J_6 => ix v1 2 ∧ (∃ k28, mm_R0 1 (tn v1) = some k28 ∧ k28 ∈ mm_txs ∧ (P (I_5 k28 1) I_5 J_6))))))) ∧ (¬ ((I_2 k8 1) ≠ 0) → (P (-3) I_2 J_3)))))) ∧ (¬ (x_1 ≠ 0) → (P (-2) I_2 J_3)))) : EI X (d + 1) n_X10_undo [.ref 0, .int v1] I J P := by
  refine ⟨M_X10_undo, tb_X10_undo, Nat.le_of_ble_eq_true rfl, ?_⟩
  show Er X (d + 1) M_X10_undo 0 [some (.ref 0), some (.int v1)] [] I J (qI P)
  refine e_l rfl rfl rfl ?_
  refine e_csI (as := [.int v1]) (rs := []) rfl rfl rfl T (fun x_1 I_2 J_3 T => ?_)
  try dsimp only at T
  refine e_b rfl rfl rfl (fun hA => ?_) (fun hA => ?_)
  · replace T := T.1 hA
    refine e_l rfl rfl rfl ?_
    refine e_gr rfl (g_0) rfl (r_0_0) ?_
    refine e_l rfl rfl rfl ?_
    obtain ⟨hj, k8, hR, hk8, T⟩ := T
    refine e_aa rfl (g_1) hj hR ?_
    refine e_gi rfl (txs_g k8 hk8) (by decide) ?_
    refine e_b rfl rfl rfl (fun hA => ?_) (fun hA => ?_)
    · replace T := T.1 hA
      refine e_l rfl rfl rfl ?_
      refine e_gr rfl (g_0) rfl (r_0_0) ?_
      refine e_l rfl rfl rfl ?_
      obtain ⟨hj, k16, hR, hk16, T⟩ := T
      refine e_aa rfl (g_1) hj hR ?_
      refine e_p rfl rfl rfl ?_
      refine e_gi rfl (txs_g k16 hk16) (by decide) ?_
      refine e_k rfl rfl rfl ic_1 ?_
      refine e_p rfl rfl rfl ?_
      refine e_pi rfl (txs_g k16 hk16) rfl ?_
      refine e_l rfl rfl rfl ?_
      refine e_l rfl rfl rfl ?_
      refine e_cvV (as := [.int v1]) (rs := []) rfl rfl (g_0) rfl T (fun I_5 J_6 T => ?_)
      try dsimp only at T
      refine e_l rfl rfl rfl ?_
      refine e_gr rfl (g_0) rfl (r_0_0) ?_
      refine e_l rfl rfl rfl ?_
      obtain ⟨hj, k28, hR, hk28, T⟩ := T
      refine e_aa rfl (g_1) hj hR ?_
      refine e_gi rfl (txs_g k28 hk28) (by decide) ?_
      exact e_ri rfl rfl ⟨_, rfl, T⟩
    · replace T := T.2 hA
      refine e_k rfl rfl rfl ib_m3 ?_
      exact e_ri rfl rfl ⟨_, rfl, T⟩
  · replace T := T.2 hA
    refine e_k rfl rfl rfl ib_m2 ?_
    exact e_ri rfl rfl ⟨_, rfl, T⟩
set_option maxRecDepth 10000 in
set_option maxHeartbeats 4000000 in
theorem vc_X10_fault {X : mm_X} {d : Nat} {I : tI} {J : tJ} {P : Int32 → tI → tJ → Prop} {v1 : Int32}  (T : EI X d n_X10_isText [.int v1] I J (fun x_1 I_2 J_3 => (x_1 ≠ 0 → ((v1 ≠ 0 → (EI X d n_X8_faultAsSlices [.ref 135] I_2 J_3 (fun x_4 I_5 J_6 => P x_4 I_5 J_6))) ∧ (¬ (v1 ≠ 0) → (EI X d n_X8_faultAsRack [.ref 133] I_2 J_3 (fun x_7 I_8 J_9 => P x_7 I_8 J_9))))) ∧ (¬ (x_1 ≠ 0) → (P (-2) I_2 J_3)))) : EI X (d + 1) n_X10_fault [.ref 0, .int v1] I J P := by
  refine ⟨M_X10_fault, tb_X10_fault, Nat.le_of_ble_eq_true rfl, ?_⟩
  show Er X (d + 1) M_X10_fault 0 [some (.ref 0), some (.int v1)] [] I J (qI P)
  refine e_l rfl rfl rfl ?_
  refine e_csI (as := [.int v1]) (rs := []) rfl rfl rfl T (fun x_1 I_2 J_3 T => ?_)
  try dsimp only at T
  refine e_b rfl rfl rfl (fun hA => ?_) (fun hA => ?_)
  · replace T := T.1 hA
    refine e_l rfl rfl rfl ?_
    refine e_b rfl rfl rfl (fun hA => ?_) (fun hA => ?_)
    · replace T := T.1 hA
      refine e_l rfl rfl rfl ?_
      refine e_gr rfl (g_0) rfl (r_0_0) ?_
      refine e_k rfl rfl rfl ic_1 ?_
      refine e_aa rfl (g_1) (by decide) r_1_1 ?_
      refine e_cvI (as := []) (rs := []) rfl rfl (g_135) rfl T (fun x_4 I_5 J_6 T => ?_)
      try dsimp only at T
      exact e_ri rfl rfl ⟨_, rfl, T⟩
    · replace T := T.2 hA
      refine e_l rfl rfl rfl ?_
      refine e_gr rfl (g_0) rfl (r_0_0) ?_
      refine e_k rfl rfl rfl ic_0 ?_
      refine e_aa rfl (g_1) (by decide) r_1_0 ?_
      refine e_cvI (as := []) (rs := []) rfl rfl (g_133) rfl T (fun x_7 I_8 J_9 T => ?_)
      try dsimp only at T
      refine e_g rfl ?_
      exact e_ri rfl rfl ⟨_, rfl, T⟩
  · replace T := T.2 hA
    refine e_k rfl rfl rfl ib_m2 ?_
    exact e_ri rfl rfl ⟨_, rfl, T⟩
set_option maxRecDepth 10000 in
set_option maxHeartbeats 4000000 in
theorem vc_X10_draws {X : mm_X} {d : Nat} {I : tI} {J : tJ} {P : Int32 → tI → tJ → Prop} {v1 : Int32}  (T : EI X d n_X10_isWithin [.int v1, .int ((I 2 0) - 1)] I J (fun x_1 I_2 J_3 => (x_1 = 0 → (P (-2) I_2 J_3)) ∧ (¬ (x_1 = 0) → (ix v1 10 ∧ (P (I_2 3 (tn v1)) I_2 J_3))))) : EI X (d + 1) n_X10_draws [.ref 0, .int v1] I J P := by
  refine ⟨M_X10_draws, tb_X10_draws, Nat.le_of_ble_eq_true rfl, ?_⟩
  show Er X (d + 1) M_X10_draws 0 [some (.ref 0), some (.int v1)] [] I J (qI P)
  refine e_l rfl rfl rfl ?_
  refine e_l rfl rfl rfl ?_
  refine e_gr rfl (g_0) rfl (r_0_1) ?_
  refine e_gi rfl (g_2) (by decide) ?_
  refine e_k rfl rfl rfl ic_1 ?_
  refine e_p rfl rfl rfl ?_
  refine e_csI (as := [.int v1, .int ((I 2 0) - 1)]) (rs := []) rfl rfl rfl T (fun x_1 I_2 J_3 T => ?_)
  try dsimp only at T
  refine e_b rfl rfl rfl (fun hA => ?_) (fun hA => ?_)
  · replace T := T.1 hA
    refine e_k rfl rfl rfl ib_m2 ?_
    exact e_ri rfl rfl ⟨_, rfl, T⟩
  · replace T := T.2 hA
    refine e_l rfl rfl rfl ?_
    refine e_gr rfl (g_0) rfl (r_0_1) ?_
    refine e_gr rfl (g_2) rfl (r_2_1) ?_
    refine e_l rfl rfl rfl ?_
    refine e_ia rfl (g_3) T.1 ?_
    replace T := T.2
    refine e_g rfl ?_
    exact e_ri rfl rfl ⟨_, rfl, T⟩
set_option maxRecDepth 10000 in
set_option maxHeartbeats 4000000 in
theorem vc_X10_slice {X : mm_X} {d : Nat} {I : tI} {J : tJ} {P : Int32 → tI → tJ → Prop} {v1 : Int32} {v2 : Int32}  (T : EI X d n_X10_isSlice [.ref 0, .int v1] I J (fun x_1 I_2 J_3 => (x_1 = 0 → (P (-2) I_2 J_3)) ∧ (¬ (x_1 = 0) → (EI X d n_X10_isWithin [.int v2, .int 2] I_2 J_3 (fun x_4 I_5 J_6 => (x_4 ≠ 0 → ((v2 ≠ 0 → ((v2 ≠ 1 → (ix v1 8 ∧ (P (I_5 6 (tn v1)) I_5 J_6))) ∧ (¬ (v2 ≠ 1) → (ix v1 8 ∧ (P (I_5 5 (tn v1)) I_5 J_6))))) ∧ (¬ (v2 ≠ 0) → (ix v1 8 ∧ (P (I_5 4 (tn v1)) I_5 J_6))))) ∧ (¬ (x_4 ≠ 0) → (P (-2) I_5 J_6))))))) : EI X (d + 1) n_X10_slice [.ref 0, .int v1, .int v2] I J P := by
  refine ⟨M_X10_slice, tb_X10_slice, Nat.le_of_ble_eq_true rfl, ?_⟩
  show Er X (d + 1) M_X10_slice 0 [some (.ref 0), some (.int v1), some (.int v2)] [] I J (qI P)
  refine e_l rfl rfl rfl ?_
  refine e_l rfl rfl rfl ?_
  refine e_cvI (as := [.int v1]) (rs := []) rfl rfl (g_0) rfl T (fun x_1 I_2 J_3 T => ?_)
  try dsimp only at T
  refine e_b rfl rfl rfl (fun hA => ?_) (fun hA => ?_)
  · replace T := T.1 hA
    refine e_k rfl rfl rfl ib_m2 ?_
    exact e_ri rfl rfl ⟨_, rfl, T⟩
  · replace T := T.2 hA
    refine e_l rfl rfl rfl ?_
    refine e_k rfl rfl rfl ic_2 ?_
    refine e_csI (as := [.int v2, .int 2]) (rs := []) rfl rfl rfl T (fun x_4 I_5 J_6 T => ?_)
    try dsimp only at T
    refine e_b rfl rfl rfl (fun hA => ?_) (fun hA => ?_)
    · replace T := T.1 hA
      refine e_l rfl rfl rfl ?_
      refine e_b rfl rfl rfl (fun hA => ?_) (fun hA => ?_)
      · replace T := T.1 hA
        refine e_l rfl rfl rfl ?_
        refine e_k rfl rfl rfl ic_1 ?_
        refine e_b rfl rfl rfl (fun hA => ?_) (fun hA => ?_)
        · replace T := T.1 hA
          refine e_l rfl rfl rfl ?_
          refine e_gr rfl (g_0) rfl (r_0_1) ?_
          refine e_gr rfl (g_2) rfl (r_2_5) ?_
          refine e_l rfl rfl rfl ?_
          refine e_ia rfl (g_6) T.1 ?_
          replace T := T.2
          exact e_ri rfl rfl ⟨_, rfl, T⟩
        · replace T := T.2 hA
          refine e_l rfl rfl rfl ?_
          refine e_gr rfl (g_0) rfl (r_0_1) ?_
          refine e_gr rfl (g_2) rfl (r_2_4) ?_
          refine e_l rfl rfl rfl ?_
          refine e_ia rfl (g_5) T.1 ?_
          replace T := T.2
          refine e_g rfl ?_
          exact e_ri rfl rfl ⟨_, rfl, T⟩
      · replace T := T.2 hA
        refine e_l rfl rfl rfl ?_
        refine e_gr rfl (g_0) rfl (r_0_1) ?_
        refine e_gr rfl (g_2) rfl (r_2_3) ?_
        refine e_l rfl rfl rfl ?_
        refine e_ia rfl (g_4) T.1 ?_
        replace T := T.2
        exact e_ri rfl rfl ⟨_, rfl, T⟩
    · replace T := T.2 hA
      refine e_k rfl rfl rfl ib_m2 ?_
      exact e_ri rfl rfl ⟨_, rfl, T⟩
set_option maxRecDepth 10000 in
set_option maxHeartbeats 4000000 in
theorem vc_X10_set {X : mm_X} {d : Nat} {I : tI} {J : tJ} {P : Int32 → tI → tJ → Prop} {v1 : Int32} {v2 : Int32} (hX1 : X 1 = some (3, mm_gr)) (T : EI X d n_X10_isWithin [.int v1, .int 2] I J (fun x_1 I_2 J_3 => (x_1 = 0 → (P (-2) I_2 J_3)) ∧ (¬ (x_1 = 0) → (ix v1 3 ∧ (EI X d n_X10_isWithin [.int v2, .int (mm_gr (tn v1))] I_2 J_3 (fun x_4 I_5 J_6 => (x_4 ≠ 0 → (ix v1 3 ∧ (∀ y3_7 : Int32, y3_7 = (I_5 7 (tn v1)) → (ix v1 3 ∧ (P y3_7 (mm_u (mm_u I_5 7 (tn v1) v2) 11 5 0) J_6))))) ∧ (¬ (x_4 ≠ 0) → (P (-2) I_5 J_6)))))))) : EI X (d + 1) n_X10_set [.ref 0, .int v1, .int v2] I J P := by
  refine ⟨M_X10_set, tb_X10_set, Nat.le_of_ble_eq_true rfl, ?_⟩
  show Er X (d + 1) M_X10_set 0 [some (.ref 0), some (.int v1), some (.int v2), none] [] I J (qI P)
  refine e_l rfl rfl rfl ?_
  refine e_k rfl rfl rfl ic_2 ?_
  refine e_csI (as := [.int v1, .int 2]) (rs := []) rfl rfl rfl T (fun x_1 I_2 J_3 T => ?_)
  try dsimp only at T
  refine e_b rfl rfl rfl (fun hA => ?_) (fun hA => ?_)
  · replace T := T.1 hA
    refine e_k rfl rfl rfl ib_m2 ?_
    exact e_ri rfl rfl ⟨_, rfl, T⟩
  · replace T := T.2 hA
    refine e_l rfl rfl rfl ?_
    refine e_gs rfl ?_
    refine e_l rfl rfl rfl ?_
    refine e_ix (k := 1) rfl hX1 T.1 ?_
    replace T := T.2
    refine e_csI (as := [.int v2, .int (mm_gr (tn v1))]) (rs := []) rfl rfl rfl T (fun x_4 I_5 J_6 T => ?_)
    try dsimp only at T
    refine e_b rfl rfl rfl (fun hA => ?_) (fun hA => ?_)
    · replace T := T.1 hA
      refine e_l rfl rfl rfl ?_
      refine e_gr rfl (g_0) rfl (r_0_1) ?_
      refine e_gr rfl (g_2) rfl (r_2_6) ?_
      refine e_l rfl rfl rfl ?_
      refine e_ia rfl (g_7) T.1 ?_
      replace T := T.2
      refine e_si (Lf := fun y3_7 => [some (.ref 0), some (.int v1), some (.int v2), some (.int y3_7)]) rfl rfl rfl (fun y3_7 hy3_7 => ?_)
      replace T := T y3_7 hy3_7
      refine e_l rfl rfl rfl ?_
      refine e_gr rfl (g_0) rfl (r_0_1) ?_
      refine e_gr rfl (g_2) rfl (r_2_6) ?_
      refine e_l rfl rfl rfl ?_
      refine e_l rfl rfl rfl ?_
      refine e_as rfl (g_7) T.1 ?_
      replace T := T.2
      refine e_l rfl rfl rfl ?_
      refine e_gr rfl (g_0) rfl (r_0_2) ?_
      refine e_k rfl rfl rfl ic_0 ?_
      refine e_pb rfl (g_11) rfl (by decide) ?_
      refine e_l rfl rfl rfl ?_
      exact e_ri rfl rfl ⟨_, rfl, T⟩
    · replace T := T.2 hA
      refine e_k rfl rfl rfl ib_m2 ?_
      exact e_ri rfl rfl ⟨_, rfl, T⟩
set_option maxRecDepth 10000 in
set_option maxHeartbeats 4000000 in
theorem vc_X10_butter {X : mm_X} {d : Nat} {I : tI} {J : tJ} {P : Int32 → tI → tJ → Prop} {v1 : Int32} {v2 : Int32}  (T : EI X d n_X10_isHour [.int v1] I J (fun x_1 I_2 J_3 => (x_1 = 0 → (P (-2) I_2 J_3)) ∧ (¬ (x_1 = 0) → (EI X d n_X10_isWithin [.int v2, .int 7] I_2 J_3 (fun x_4 I_5 J_6 => (x_4 ≠ 0 → (((I_5 2 7) < 8 → (ix (I_5 2 7) 8 ∧ (ix ((mm_u I_5 8 (tn (I_5 2 7)) v1) 2 7) 8 ∧ (P ((mm_u (mm_u (mm_u (mm_u I_5 8 (tn (I_5 2 7)) v1) 9 (tn ((mm_u I_5 8 (tn (I_5 2 7)) v1) 2 7)) v2) 2 7 (((mm_u (mm_u I_5 8 (tn (I_5 2 7)) v1) 9 (tn ((mm_u I_5 8 (tn (I_5 2 7)) v1) 2 7)) v2) 2 7) + 1)) 11 5 0) 2 7) (mm_u (mm_u (mm_u (mm_u I_5 8 (tn (I_5 2 7)) v1) 9 (tn ((mm_u I_5 8 (tn (I_5 2 7)) v1) 2 7)) v2) 2 7 (((mm_u (mm_u I_5 8 (tn (I_5 2 7)) v1) 9 (tn ((mm_u I_5 8 (tn (I_5 2 7)) v1) 2 7)) v2) 2 7) + 1)) 11 5 0) J_6)))) ∧ (¬ ((I_5 2 7) < 8) → (P (-4) I_5 J_6)))) ∧ (¬ (x_4 ≠ 0) → (P (-2) I_5 J_6))))))) : EI X (d + 1) n_X10_butter [.ref 0, .int v1, .int v2] I J P := by
  refine ⟨M_X10_butter, tb_X10_butter, Nat.le_of_ble_eq_true rfl, ?_⟩
  show Er X (d + 1) M_X10_butter 0 [some (.ref 0), some (.int v1), some (.int v2)] [] I J (qI P)
  refine e_l rfl rfl rfl ?_
  refine e_csI (as := [.int v1]) (rs := []) rfl rfl rfl T (fun x_1 I_2 J_3 T => ?_)
  try dsimp only at T
  refine e_b rfl rfl rfl (fun hA => ?_) (fun hA => ?_)
  · replace T := T.1 hA
    refine e_k rfl rfl rfl ib_m2 ?_
    exact e_ri rfl rfl ⟨_, rfl, T⟩
  · replace T := T.2 hA
    refine e_l rfl rfl rfl ?_
    refine e_k rfl rfl rfl ib_7 ?_
    refine e_csI (as := [.int v2, .int 7]) (rs := []) rfl rfl rfl T (fun x_4 I_5 J_6 T => ?_)
    try dsimp only at T
    refine e_b rfl rfl rfl (fun hA => ?_) (fun hA => ?_)
    · replace T := T.1 hA
      refine e_l rfl rfl rfl ?_
      refine e_gr rfl (g_0) rfl (r_0_1) ?_
      refine e_gi rfl (g_2) (by decide) ?_
      refine e_k rfl rfl rfl ib_8 ?_
      refine e_b rfl rfl rfl (fun hA => ?_) (fun hA => ?_)
      · replace T := T.1 hA
        refine e_l rfl rfl rfl ?_
        refine e_gr rfl (g_0) rfl (r_0_1) ?_
        refine e_gr rfl (g_2) rfl (r_2_8) ?_
        refine e_l rfl rfl rfl ?_
        refine e_gr rfl (g_0) rfl (r_0_1) ?_
        refine e_gi rfl (g_2) (by decide) ?_
        refine e_l rfl rfl rfl ?_
        refine e_as rfl (g_8) T.1 ?_
        replace T := T.2
        refine e_l rfl rfl rfl ?_
        refine e_gr rfl (g_0) rfl (r_0_1) ?_
        refine e_gr rfl (g_2) rfl (r_2_9) ?_
        refine e_l rfl rfl rfl ?_
        refine e_gr rfl (g_0) rfl (r_0_1) ?_
        refine e_gi rfl (g_2) (by decide) ?_
        refine e_l rfl rfl rfl ?_
        refine e_as rfl (g_9) T.1 ?_
        replace T := T.2
        refine e_l rfl rfl rfl ?_
        refine e_gr rfl (g_0) rfl (r_0_1) ?_
        refine e_p rfl rfl rfl ?_
        refine e_gi rfl (g_2) (by decide) ?_
        refine e_k rfl rfl rfl ic_1 ?_
        refine e_p rfl rfl rfl ?_
        refine e_pi rfl (g_2) rfl ?_
        refine e_l rfl rfl rfl ?_
        refine e_gr rfl (g_0) rfl (r_0_2) ?_
        refine e_k rfl rfl rfl ic_0 ?_
        refine e_pb rfl (g_11) rfl (by decide) ?_
        refine e_l rfl rfl rfl ?_
        refine e_gr rfl (g_0) rfl (r_0_1) ?_
        refine e_gi rfl (g_2) (by decide) ?_
        exact e_ri rfl rfl ⟨_, rfl, T⟩
      · replace T := T.2 hA
        refine e_k rfl rfl rfl ib_m4 ?_
        exact e_ri rfl rfl ⟨_, rfl, T⟩
    · replace T := T.2 hA
      refine e_k rfl rfl rfl ib_m2 ?_
      exact e_ri rfl rfl ⟨_, rfl, T⟩
set_option maxRecDepth 10000 in
set_option maxHeartbeats 4000000 in
theorem vc_X10_fire {X : mm_X} {d : Nat} {I : tI} {J : tJ} {P : Int32 → tI → tJ → Prop} {v1 : Int32}  (T : EI X d n_X10_isHour [.int v1] I J (fun x_1 I_2 J_3 => (x_1 ≠ 0 → (((I_2 2 10) < 4 → (ix (I_2 2 10) 4 ∧ (P ((mm_u (mm_u (mm_u I_2 10 (tn (I_2 2 10)) v1) 2 10 (((mm_u I_2 10 (tn (I_2 2 10)) v1) 2 10) + 1)) 11 5 0) 2 10) (mm_u (mm_u (mm_u I_2 10 (tn (I_2 2 10)) v1) 2 10 (((mm_u I_2 10 (tn (I_2 2 10)) v1) 2 10) + 1)) 11 5 0) J_3))) ∧ (¬ ((I_2 2 10) < 4) → (P (-4) I_2 J_3)))) ∧ (¬ (x_1 ≠ 0) → (P (-2) I_2 J_3)))) : EI X (d + 1) n_X10_fire [.ref 0, .int v1] I J P := by
  refine ⟨M_X10_fire, tb_X10_fire, Nat.le_of_ble_eq_true rfl, ?_⟩
  show Er X (d + 1) M_X10_fire 0 [some (.ref 0), some (.int v1)] [] I J (qI P)
  refine e_l rfl rfl rfl ?_
  refine e_csI (as := [.int v1]) (rs := []) rfl rfl rfl T (fun x_1 I_2 J_3 T => ?_)
  try dsimp only at T
  refine e_b rfl rfl rfl (fun hA => ?_) (fun hA => ?_)
  · replace T := T.1 hA
    refine e_l rfl rfl rfl ?_
    refine e_gr rfl (g_0) rfl (r_0_1) ?_
    refine e_gi rfl (g_2) (by decide) ?_
    refine e_k rfl rfl rfl ic_4 ?_
    refine e_b rfl rfl rfl (fun hA => ?_) (fun hA => ?_)
    · replace T := T.1 hA
      refine e_l rfl rfl rfl ?_
      refine e_gr rfl (g_0) rfl (r_0_1) ?_
      refine e_gr rfl (g_2) rfl (r_2_11) ?_
      refine e_l rfl rfl rfl ?_
      refine e_gr rfl (g_0) rfl (r_0_1) ?_
      refine e_gi rfl (g_2) (by decide) ?_
      refine e_l rfl rfl rfl ?_
      refine e_as rfl (g_10) T.1 ?_
      replace T := T.2
      refine e_l rfl rfl rfl ?_
      refine e_gr rfl (g_0) rfl (r_0_1) ?_
      refine e_p rfl rfl rfl ?_
      refine e_gi rfl (g_2) (by decide) ?_
      refine e_k rfl rfl rfl ic_1 ?_
      refine e_p rfl rfl rfl ?_
      refine e_pi rfl (g_2) rfl ?_
      refine e_l rfl rfl rfl ?_
      refine e_gr rfl (g_0) rfl (r_0_2) ?_
      refine e_k rfl rfl rfl ic_0 ?_
      refine e_pb rfl (g_11) rfl (by decide) ?_
      refine e_l rfl rfl rfl ?_
      refine e_gr rfl (g_0) rfl (r_0_1) ?_
      refine e_gi rfl (g_2) (by decide) ?_
      exact e_ri rfl rfl ⟨_, rfl, T⟩
    · replace T := T.2 hA
      refine e_k rfl rfl rfl ib_m4 ?_
      exact e_ri rfl rfl ⟨_, rfl, T⟩
  · replace T := T.2 hA
    refine e_k rfl rfl rfl ib_m2 ?_
    exact e_ri rfl rfl ⟨_, rfl, T⟩
set_option maxRecDepth 10000 in
set_option maxHeartbeats 4000000 in
theorem vc_X10_back {X : mm_X} {d : Nat} {I : tI} {J : tJ} {P : Int32 → tI → tJ → Prop} {v1 : Int32}  (T : EI X d n_X10_isWithin [.int v1, .int 1] I J (fun x_1 I_2 J_3 => (x_1 ≠ 0 → ((v1 ≠ 0 → (Er X (d + 1) M_X10_back 15 [some (.ref 0), some (.int v1), none] [.int (I_2 2 10)] I_2 J_3 (qI P))) ∧ (¬ (v1 ≠ 0) → (Er X (d + 1) M_X10_back 15 [some (.ref 0), some (.int v1), none] [.int (I_2 2 7)] I_2 J_3 (qI P))))) ∧ (¬ (x_1 ≠ 0) → (P (-2) I_2 J_3)))) : EI X (d + 1) n_X10_back [.ref 0, .int v1] I J P := by
  refine ⟨M_X10_back, tb_X10_back, Nat.le_of_ble_eq_true rfl, ?_⟩
  show Er X (d + 1) M_X10_back 0 [some (.ref 0), some (.int v1), none] [] I J (qI P)
  refine e_l rfl rfl rfl ?_
  refine e_k rfl rfl rfl ic_1 ?_
  refine e_csI (as := [.int v1, .int 1]) (rs := []) rfl rfl rfl T (fun x_1 I_2 J_3 T => ?_)
  try dsimp only at T
  refine e_b rfl rfl rfl (fun hA => ?_) (fun hA => ?_)
  · replace T := T.1 hA
    refine e_l rfl rfl rfl ?_
    refine e_b rfl rfl rfl (fun hA => ?_) (fun hA => ?_)
    · replace T := T.1 hA
      refine e_l rfl rfl rfl ?_
      refine e_gr rfl (g_0) rfl (r_0_1) ?_
      refine e_gi rfl (g_2) (by decide) ?_
      exact T
    · replace T := T.2 hA
      refine e_l rfl rfl rfl ?_
      refine e_gr rfl (g_0) rfl (r_0_1) ?_
      refine e_gi rfl (g_2) (by decide) ?_
      refine e_g rfl ?_
      exact T
  · replace T := T.2 hA
    refine e_k rfl rfl rfl ib_m2 ?_
    exact e_ri rfl rfl ⟨_, rfl, T⟩
set_option maxRecDepth 10000 in
set_option maxHeartbeats 4000000 in
theorem vc_X10_back_15 {X : mm_X} {d : Nat} {I : tI} {J : tJ} {P : Int32 → tI → tJ → Prop} {v1 : Int32} {s0 : Int32}  (T : (s0 ≠ 0 → ((v1 ≠ 0 → (P (s0 - 1) (mm_u (mm_u I 2 10 ((I 2 10) - 1)) 11 5 0) J)) ∧ (¬ (v1 ≠ 0) → (P (s0 - 1) (mm_u (mm_u I 2 7 ((I 2 7) - 1)) 11 5 0) J)))) ∧ (¬ (s0 ≠ 0) → (P (-3) I J))) : Er X (d + 1) M_X10_back 15 [some (.ref 0), some (.int v1), none] [.int s0] I J (qI P) := by
  refine e_l (L' := [some (.ref 0), some (.int v1), some (.int s0)]) rfl rfl rfl ?_
  refine e_l rfl rfl rfl ?_
  refine e_b rfl rfl rfl (fun hA => ?_) (fun hA => ?_)
  · replace T := T.1 hA
    refine e_l rfl rfl rfl ?_
    refine e_b rfl rfl rfl (fun hA => ?_) (fun hA => ?_)
    · replace T := T.1 hA
      refine e_l rfl rfl rfl ?_
      refine e_gr rfl (g_0) rfl (r_0_1) ?_
      refine e_p rfl rfl rfl ?_
      refine e_gi rfl (g_2) (by decide) ?_
      refine e_k rfl rfl rfl ic_1 ?_
      refine e_p rfl rfl rfl ?_
      refine e_pi rfl (g_2) rfl ?_
      refine e_l rfl rfl rfl ?_
      refine e_gr rfl (g_0) rfl (r_0_2) ?_
      refine e_k rfl rfl rfl ic_0 ?_
      refine e_pb rfl (g_11) rfl (by decide) ?_
      refine e_l rfl rfl rfl ?_
      refine e_k rfl rfl rfl ic_1 ?_
      refine e_p rfl rfl rfl ?_
      exact e_ri rfl rfl ⟨_, rfl, T⟩
    · replace T := T.2 hA
      refine e_l rfl rfl rfl ?_
      refine e_gr rfl (g_0) rfl (r_0_1) ?_
      refine e_p rfl rfl rfl ?_
      refine e_gi rfl (g_2) (by decide) ?_
      refine e_k rfl rfl rfl ic_1 ?_
      refine e_p rfl rfl rfl ?_
      refine e_pi rfl (g_2) rfl ?_
      refine e_g rfl ?_
      refine e_l rfl rfl rfl ?_
      refine e_gr rfl (g_0) rfl (r_0_2) ?_
      refine e_k rfl rfl rfl ic_0 ?_
      refine e_pb rfl (g_11) rfl (by decide) ?_
      refine e_l rfl rfl rfl ?_
      refine e_k rfl rfl rfl ic_1 ?_
      refine e_p rfl rfl rfl ?_
      exact e_ri rfl rfl ⟨_, rfl, T⟩
  · replace T := T.2 hA
    refine e_k rfl rfl rfl ib_m3 ?_
    exact e_ri rfl rfl ⟨_, rfl, T⟩
set_option maxRecDepth 10000 in
set_option maxHeartbeats 4000000 in
theorem vc_X10_read {X : mm_X} {d : Nat} {I : tI} {J : tJ} {P : Int32 → tI → tJ → Prop} {v1 : Int32}  (T : EI X d n_X10_isSheet [.int v1] I J (fun x_1 I_2 J_3 => (x_1 ≠ 0 → (ix v1 4 ∧ (∃ k8, mm_R0 132 (tn v1) = some k8 ∧ k8 ∈ mm_shs ∧ (EI X d n_X6_isLost [.ref k8] I_2 J_3 (fun x_4 I_5 J_6 => (x_4 = 0 → (Er X (d + 1) M_X10_read 19 [some (.ref 0), some (.int v1), some (.int 0), some (.int 0)] [] I_5 J_6 (qI P))) ∧ (¬ (x_4 = 0) → (EI X d n_X10_found [.ref 0, .int 1] I_5 J_6 (fun x_7 I_8 J_9 => P x_7 I_8 J_9)))))))) ∧ (¬ (x_1 ≠ 0) → (P (-2) I_2 J_3)))) : EI X (d + 1) n_X10_read [.ref 0, .int v1] I J P := by
  refine ⟨M_X10_read, tb_X10_read, Nat.le_of_ble_eq_true rfl, ?_⟩
  show Er X (d + 1) M_X10_read 0 [some (.ref 0), some (.int v1), none, none] [] I J (qI P)
  refine e_l rfl rfl rfl ?_
  refine e_csI (as := [.int v1]) (rs := []) rfl rfl rfl T (fun x_1 I_2 J_3 T => ?_)
  try dsimp only at T
  refine e_b rfl rfl rfl (fun hA => ?_) (fun hA => ?_)
  · replace T := T.1 hA
    refine e_l rfl rfl rfl ?_
    refine e_gr rfl (g_0) rfl (r_0_9) ?_
    refine e_l rfl rfl rfl ?_
    obtain ⟨hj, k8, hR, hk8, T⟩ := T
    refine e_aa rfl (g_132) hj hR ?_
    refine e_cvI (as := []) (rs := []) rfl rfl (shs_g k8 hk8) rfl T (fun x_4 I_5 J_6 T => ?_)
    try dsimp only at T
    refine e_b rfl rfl rfl (fun hA => ?_) (fun hA => ?_)
    · replace T := T.1 hA
      refine e_k rfl rfl rfl ic_0 ?_
      refine e_l (L' := [some (.ref 0), some (.int v1), some (.int 0), none]) rfl rfl rfl ?_
      refine e_k rfl rfl rfl ic_0 ?_
      refine e_l (L' := [some (.ref 0), some (.int v1), some (.int 0), some (.int 0)]) rfl rfl rfl ?_
      exact T
    · replace T := T.2 hA
      refine e_l rfl rfl rfl ?_
      refine e_k rfl rfl rfl ic_1 ?_
      refine e_cvI (as := [.int 1]) (rs := []) rfl rfl (g_0) rfl T (fun x_7 I_8 J_9 T => ?_)
      try dsimp only at T
      exact e_ri rfl rfl ⟨_, rfl, T⟩
  · replace T := T.2 hA
    refine e_k rfl rfl rfl ib_m2 ?_
    exact e_ri rfl rfl ⟨_, rfl, T⟩
set_option maxRecDepth 10000 in
set_option maxHeartbeats 4000000 in
theorem vc_X10_read_19 {X : mm_X} {d : Nat} {I : tI} {J : tJ} {P : Int32 → tI → tJ → Prop} {v1 : Int32} {v2 : Int32} {v3 : Int32}  (T : ix v1 4 ∧ (∃ k25, mm_R0 132 (tn v1) = some k25 ∧ k25 ∈ mm_shs ∧ (((I k25 1) ≤ (v3 + 1) → (P v2 I J)) ∧ (¬ ((I k25 1) ≤ (v3 + 1)) → (ix v1 4 ∧ (∃ k32, mm_R0 132 (tn v1) = some k32 ∧ k32 ∈ mm_shs ∧ (ix v3 60 ∧ (ix v1 4 ∧ (∃ k39, mm_R0 132 (tn v1) = some k39 ∧ k39 ∈ mm_shs ∧ (ix (v3 + 1) 60 ∧ (EI X d n_X10_butter [.ref 0, .int (I (k32 + 1) (tn v3)), .int (I (k39 + 1) (tn (v3 + 1)))] I J (fun x_1 I_2 J_3 => (0 ≤ x_1 → (Er X (d + 1) M_X10_read 19 [some (.ref 0), some (.int v1), some (.int (v2 + 1)), some (.int (v3 + 2))] [] I_2 J_3 (qI P))) ∧ (¬ (0 ≤ x_1) → (P v2 I_2 J_3)))))))))))))) : Er X (d + 1) M_X10_read 19 [some (.ref 0), some (.int v1), some (.int v2), some (.int v3)] [] I J (qI P) := by
  refine e_l rfl rfl rfl ?_
  refine e_k rfl rfl rfl ic_1 ?_
  refine e_p rfl rfl rfl ?_
  refine e_l rfl rfl rfl ?_
  refine e_gr rfl (g_0) rfl (r_0_9) ?_
  refine e_l rfl rfl rfl ?_
  obtain ⟨hj, k25, hR, hk25, T⟩ := T
  refine e_aa rfl (g_132) hj hR ?_
  refine e_gi rfl (shs_g k25 hk25) (by decide) ?_
  refine e_b rfl rfl rfl (fun hA => ?_) (fun hA => ?_)
  · replace T := T.1 hA
    refine e_l rfl rfl rfl ?_
    exact e_ri rfl rfl ⟨_, rfl, T⟩
  · replace T := T.2 hA
    refine e_l rfl rfl rfl ?_
    refine e_l rfl rfl rfl ?_
    refine e_gr rfl (g_0) rfl (r_0_9) ?_
    refine e_l rfl rfl rfl ?_
    obtain ⟨hj, k32, hR, hk32, T⟩ := T
    refine e_aa rfl (g_132) hj hR ?_
    refine e_gr rfl (shs_g k32 hk32) rfl (shs_r2 k32 hk32) ?_
    refine e_l rfl rfl rfl ?_
    refine e_ia rfl (shs_a1 k32 hk32) T.1 ?_
    replace T := T.2
    refine e_l rfl rfl rfl ?_
    refine e_gr rfl (g_0) rfl (r_0_9) ?_
    refine e_l rfl rfl rfl ?_
    obtain ⟨hj, k39, hR, hk39, T⟩ := T
    refine e_aa rfl (g_132) hj hR ?_
    refine e_gr rfl (shs_g k39 hk39) rfl (shs_r2 k39 hk39) ?_
    refine e_l rfl rfl rfl ?_
    refine e_k rfl rfl rfl ic_1 ?_
    refine e_p rfl rfl rfl ?_
    refine e_ia rfl (shs_a1 k39 hk39) T.1 ?_
    replace T := T.2
    refine e_cvI (as := [.int (I (k32 + 1) (tn v3)), .int (I (k39 + 1) (tn (v3 + 1)))]) (rs := []) rfl rfl (g_0) rfl T (fun x_1 I_2 J_3 T => ?_)
    try dsimp only at T
    refine e_b rfl rfl rfl (fun hA => ?_) (fun hA => ?_)
    · replace T := T.1 hA
      refine e_ic (v := (v2 + 1)) (L' := [some (.ref 0), some (.int v1), some (.int (v2 + 1)), some (.int v3)]) rfl rfl rfl ic_1 rfl ?_
      refine e_ic (v := (v3 + 2)) (L' := [some (.ref 0), some (.int v1), some (.int (v2 + 1)), some (.int (v3 + 2))]) rfl rfl rfl ic_2 rfl ?_
      refine e_g rfl ?_
      exact T
    · replace T := T.2 hA
      refine e_g rfl ?_
      refine e_l rfl rfl rfl ?_
      exact e_ri rfl rfl ⟨_, rfl, T⟩
set_option maxRecDepth 10000 in
set_option maxHeartbeats 4000000 in
theorem vc_X10_heat {X : mm_X} {d : Nat} {I : tI} {J : tJ} {P : Int32 → tI → tJ → Prop} {v1 : Int32} {v2 : Int32}  (T : EI X d n_X10_isHour [.int v1] I J (fun x_1 I_2 J_3 => (x_1 = 0 → (P (-2) I_2 J_3)) ∧ (¬ (x_1 = 0) → (EI X d n_X10_isSlice [.ref 0, .int v2] I_2 J_3 (fun x_4 I_5 J_6 => (x_4 ≠ 0 → (EV X d n_X2_bringUpToDate [.ref 11] I_5 J_6 (fun I_8 J_9 => ix ((v1 * 8) + v2) 240 ∧ (P (I_8 12 (tn ((v1 * 8) + v2))) I_8 J_9)))) ∧ (¬ (x_4 ≠ 0) → (P (-2) I_5 J_6))))))) : EI X (d + 1) n_X10_heat [.ref 0, .int v1, .int v2] I J P := by
  refine ⟨M_X10_heat, tb_X10_heat, Nat.le_of_ble_eq_true rfl, ?_⟩
  show Er X (d + 1) M_X10_heat 0 [some (.ref 0), some (.int v1), some (.int v2)] [] I J (qI P)
  refine e_l rfl rfl rfl ?_
  refine e_csI (as := [.int v1]) (rs := []) rfl rfl rfl T (fun x_1 I_2 J_3 T => ?_)
  try dsimp only at T
  refine e_b rfl rfl rfl (fun hA => ?_) (fun hA => ?_)
  · replace T := T.1 hA
    refine e_k rfl rfl rfl ib_m2 ?_
    exact e_ri rfl rfl ⟨_, rfl, T⟩
  · replace T := T.2 hA
    refine e_l rfl rfl rfl ?_
    refine e_l rfl rfl rfl ?_
    refine e_cvI (as := [.int v2]) (rs := []) rfl rfl (g_0) rfl T (fun x_4 I_5 J_6 T => ?_)
    try dsimp only at T
    refine e_b rfl rfl rfl (fun hA => ?_) (fun hA => ?_)
    · replace T := T.1 hA
      refine e_l rfl rfl rfl ?_
      refine e_gr rfl (g_0) rfl (r_0_2) ?_
      refine e_cvV (as := []) (rs := []) rfl rfl (g_11) rfl T (fun I_8 J_9 T => ?_)
      try dsimp only at T
      refine e_l rfl rfl rfl ?_
      refine e_gr rfl (g_0) rfl (r_0_2) ?_
      refine e_gr rfl (g_11) rfl (r_11_2) ?_
      refine e_l rfl rfl rfl ?_
      refine e_k rfl rfl rfl ib_8 ?_
      refine e_p rfl rfl rfl ?_
      refine e_l rfl rfl rfl ?_
      refine e_p rfl rfl rfl ?_
      refine e_ia rfl (g_12) T.1 ?_
      replace T := T.2
      exact e_ri rfl rfl ⟨_, rfl, T⟩
    · replace T := T.2 hA
      refine e_k rfl rfl rfl ib_m2 ?_
      exact e_ri rfl rfl ⟨_, rfl, T⟩
set_option maxRecDepth 10000 in
set_option maxHeartbeats 4000000 in
theorem vc_X10_state {X : mm_X} {d : Nat} {I : tI} {J : tJ} {P : Int32 → tI → tJ → Prop} {v1 : Int32} {v2 : Int32}  (T : EI X d n_X10_isHour [.int v1] I J (fun x_1 I_2 J_3 => (x_1 = 0 → (P (-2) I_2 J_3)) ∧ (¬ (x_1 = 0) → (EI X d n_X10_isSlice [.ref 0, .int v2] I_2 J_3 (fun x_4 I_5 J_6 => (x_4 ≠ 0 → (EV X d n_X2_bringUpToDate [.ref 11] I_5 J_6 (fun I_8 J_9 => ix ((v1 * 8) + v2) 240 ∧ (P (I_8 13 (tn ((v1 * 8) + v2))) I_8 J_9)))) ∧ (¬ (x_4 ≠ 0) → (P (-2) I_5 J_6))))))) : EI X (d + 1) n_X10_state [.ref 0, .int v1, .int v2] I J P := by
  refine ⟨M_X10_state, tb_X10_state, Nat.le_of_ble_eq_true rfl, ?_⟩
  show Er X (d + 1) M_X10_state 0 [some (.ref 0), some (.int v1), some (.int v2)] [] I J (qI P)
  refine e_l rfl rfl rfl ?_
  refine e_csI (as := [.int v1]) (rs := []) rfl rfl rfl T (fun x_1 I_2 J_3 T => ?_)
  try dsimp only at T
  refine e_b rfl rfl rfl (fun hA => ?_) (fun hA => ?_)
  · replace T := T.1 hA
    refine e_k rfl rfl rfl ib_m2 ?_
    exact e_ri rfl rfl ⟨_, rfl, T⟩
  · replace T := T.2 hA
    refine e_l rfl rfl rfl ?_
    refine e_l rfl rfl rfl ?_
    refine e_cvI (as := [.int v2]) (rs := []) rfl rfl (g_0) rfl T (fun x_4 I_5 J_6 T => ?_)
    try dsimp only at T
    refine e_b rfl rfl rfl (fun hA => ?_) (fun hA => ?_)
    · replace T := T.1 hA
      refine e_l rfl rfl rfl ?_
      refine e_gr rfl (g_0) rfl (r_0_2) ?_
      refine e_cvV (as := []) (rs := []) rfl rfl (g_11) rfl T (fun I_8 J_9 T => ?_)
      try dsimp only at T
      refine e_l rfl rfl rfl ?_
      refine e_gr rfl (g_0) rfl (r_0_2) ?_
      refine e_gr rfl (g_11) rfl (r_11_3) ?_
      refine e_l rfl rfl rfl ?_
      refine e_k rfl rfl rfl ib_8 ?_
      refine e_p rfl rfl rfl ?_
      refine e_l rfl rfl rfl ?_
      refine e_p rfl rfl rfl ?_
      refine e_ia rfl (g_13) T.1 ?_
      replace T := T.2
      exact e_ri rfl rfl ⟨_, rfl, T⟩
    · replace T := T.2 hA
      refine e_k rfl rfl rfl ib_m2 ?_
      exact e_ri rfl rfl ⟨_, rfl, T⟩
set_option maxRecDepth 10000 in
set_option maxHeartbeats 4000000 in
theorem vc_X10_held {X : mm_X} {d : Nat} {I : tI} {J : tJ} {P : Int32 → tI → tJ → Prop} {v1 : Int32}  (T : EI X d n_X10_isHour [.int v1] I J (fun x_1 I_2 J_3 => (x_1 ≠ 0 → (EV X d n_X2_bringUpToDate [.ref 11] I_2 J_3 (fun I_5 J_6 => ix v1 30 ∧ (P (I_5 14 (tn v1)) I_5 J_6)))) ∧ (¬ (x_1 ≠ 0) → (P (-2) I_2 J_3)))) : EI X (d + 1) n_X10_held [.ref 0, .int v1] I J P := by
  refine ⟨M_X10_held, tb_X10_held, Nat.le_of_ble_eq_true rfl, ?_⟩
  show Er X (d + 1) M_X10_held 0 [some (.ref 0), some (.int v1)] [] I J (qI P)
  refine e_l rfl rfl rfl ?_
  refine e_csI (as := [.int v1]) (rs := []) rfl rfl rfl T (fun x_1 I_2 J_3 T => ?_)
  try dsimp only at T
  refine e_b rfl rfl rfl (fun hA => ?_) (fun hA => ?_)
  · replace T := T.1 hA
    refine e_l rfl rfl rfl ?_
    refine e_gr rfl (g_0) rfl (r_0_2) ?_
    refine e_cvV (as := []) (rs := []) rfl rfl (g_11) rfl T (fun I_5 J_6 T => ?_)
    try dsimp only at T
    refine e_l rfl rfl rfl ?_
    refine e_gr rfl (g_0) rfl (r_0_2) ?_
    refine e_gr rfl (g_11) rfl (r_11_4) ?_
    refine e_l rfl rfl rfl ?_
    refine e_ia rfl (g_14) T.1 ?_
    replace T := T.2
    exact e_ri rfl rfl ⟨_, rfl, T⟩
  · replace T := T.2 hA
    refine e_k rfl rfl rfl ib_m2 ?_
    exact e_ri rfl rfl ⟨_, rfl, T⟩
set_option maxRecDepth 10000 in
set_option maxHeartbeats 4000000 in
theorem vc_X10_freed {X : mm_X} {d : Nat} {I : tI} {J : tJ} {P : Int32 → tI → tJ → Prop} {v1 : Int32} {v2 : Int32}  (T : EI X d n_X10_isSlice [.ref 0, .int v1] I J (fun x_1 I_2 J_3 => (x_1 = 0 → (P (-2) I_2 J_3)) ∧ (¬ (x_1 = 0) → (EI X d n_X10_isWithin [.int v2, .int 1] I_2 J_3 (fun x_4 I_5 J_6 => (x_4 ≠ 0 → (EV X d n_X2_bringUpToDate [.ref 11] I_5 J_6 (fun I_8 J_9 => (v2 ≠ 0 → (ix v1 8 ∧ (P (I_8 21 (tn v1)) I_8 J_9))) ∧ (¬ (v2 ≠ 0) → (ix v1 8 ∧ (P (I_8 20 (tn v1)) I_8 J_9)))))) ∧ (¬ (x_4 ≠ 0) → (P (-2) I_5 J_6))))))) : EI X (d + 1) n_X10_freed [.ref 0, .int v1, .int v2] I J P := by
  refine ⟨M_X10_freed, tb_X10_freed, Nat.le_of_ble_eq_true rfl, ?_⟩
  show Er X (d + 1) M_X10_freed 0 [some (.ref 0), some (.int v1), some (.int v2)] [] I J (qI P)
  refine e_l rfl rfl rfl ?_
  refine e_l rfl rfl rfl ?_
  refine e_cvI (as := [.int v1]) (rs := []) rfl rfl (g_0) rfl T (fun x_1 I_2 J_3 T => ?_)
  try dsimp only at T
  refine e_b rfl rfl rfl (fun hA => ?_) (fun hA => ?_)
  · replace T := T.1 hA
    refine e_k rfl rfl rfl ib_m2 ?_
    exact e_ri rfl rfl ⟨_, rfl, T⟩
  · replace T := T.2 hA
    refine e_l rfl rfl rfl ?_
    refine e_k rfl rfl rfl ic_1 ?_
    refine e_csI (as := [.int v2, .int 1]) (rs := []) rfl rfl rfl T (fun x_4 I_5 J_6 T => ?_)
    try dsimp only at T
    refine e_b rfl rfl rfl (fun hA => ?_) (fun hA => ?_)
    · replace T := T.1 hA
      refine e_l rfl rfl rfl ?_
      refine e_gr rfl (g_0) rfl (r_0_2) ?_
      refine e_cvV (as := []) (rs := []) rfl rfl (g_11) rfl T (fun I_8 J_9 T => ?_)
      try dsimp only at T
      refine e_l rfl rfl rfl ?_
      refine e_b rfl rfl rfl (fun hA => ?_) (fun hA => ?_)
      · replace T := T.1 hA
        refine e_l rfl rfl rfl ?_
        refine e_gr rfl (g_0) rfl (r_0_2) ?_
        refine e_gr rfl (g_11) rfl (r_11_1) ?_
        refine e_gr rfl (g_15) rfl (r_15_6) ?_
        refine e_l rfl rfl rfl ?_
        refine e_ia rfl (g_21) T.1 ?_
        replace T := T.2
        exact e_ri rfl rfl ⟨_, rfl, T⟩
      · replace T := T.2 hA
        refine e_l rfl rfl rfl ?_
        refine e_gr rfl (g_0) rfl (r_0_2) ?_
        refine e_gr rfl (g_11) rfl (r_11_1) ?_
        refine e_gr rfl (g_15) rfl (r_15_5) ?_
        refine e_l rfl rfl rfl ?_
        refine e_ia rfl (g_20) T.1 ?_
        replace T := T.2
        refine e_g rfl ?_
        exact e_ri rfl rfl ⟨_, rfl, T⟩
    · replace T := T.2 hA
      refine e_k rfl rfl rfl ib_m2 ?_
      exact e_ri rfl rfl ⟨_, rfl, T⟩
set_option maxRecDepth 10000 in
set_option maxHeartbeats 4000000 in
theorem vc_X10_spoilt {X : mm_X} {d : Nat} {I : tI} {J : tJ} {P : Int32 → tI → tJ → Prop}   (T : EV X d n_X2_bringUpToDate [.ref 11] I J (fun I_2 J_3 => Er X (d + 1) M_X10_spoilt 7 [some (.ref 0), some (.int 0), some (.int 0)] [] I_2 J_3 (qI P))) : EI X (d + 1) n_X10_spoilt [.ref 0] I J P := by
  refine ⟨M_X10_spoilt, tb_X10_spoilt, Nat.le_of_ble_eq_true rfl, ?_⟩
  show Er X (d + 1) M_X10_spoilt 0 [some (.ref 0), none, none] [] I J (qI P)
  refine e_l rfl rfl rfl ?_
  refine e_gr rfl (g_0) rfl (r_0_2) ?_
  refine e_cvV (as := []) (rs := []) rfl rfl (g_11) rfl T (fun I_2 J_3 T => ?_)
  try dsimp only at T
  refine e_k rfl rfl rfl ic_0 ?_
  refine e_l (L' := [some (.ref 0), some (.int 0), none]) rfl rfl rfl ?_
  refine e_k rfl rfl rfl ic_0 ?_
  refine e_l (L' := [some (.ref 0), some (.int 0), some (.int 0)]) rfl rfl rfl ?_
  exact T
set_option maxRecDepth 10000 in
set_option maxHeartbeats 4000000 in
theorem vc_X10_spoilt_7 {X : mm_X} {d : Nat} {I : tI} {J : tJ} {P : Int32 → tI → tJ → Prop} {v1 : Int32} {v2 : Int32}  (T : ((I 2 2) ≤ v2 → (P v1 I J)) ∧ (¬ ((I 2 2) ≤ v2) → (ix v2 8 ∧ (((I 17 (tn v2)) ≠ 3 → (Er X (d + 1) M_X10_spoilt 7 [some (.ref 0), some (.int v1), some (.int (v2 + 1))] [] I J (qI P))) ∧ (¬ ((I 17 (tn v2)) ≠ 3) → (∀ y1_1 : Int32, y1_1 = (v1 ||| (1 <<< (v2 &&& 31))) → (Er X (d + 1) M_X10_spoilt 7 [some (.ref 0), some (.int y1_1), some (.int (v2 + 1))] [] I J (qI P)))))))) : Er X (d + 1) M_X10_spoilt 7 [some (.ref 0), some (.int v1), some (.int v2)] [] I J (qI P) := by
  refine e_l rfl rfl rfl ?_
  refine e_l rfl rfl rfl ?_
  refine e_gr rfl (g_0) rfl (r_0_1) ?_
  refine e_gi rfl (g_2) (by decide) ?_
  refine e_b rfl rfl rfl (fun hA => ?_) (fun hA => ?_)
  · replace T := T.1 hA
    refine e_l rfl rfl rfl ?_
    exact e_ri rfl rfl ⟨_, rfl, T⟩
  · replace T := T.2 hA
    refine e_l rfl rfl rfl ?_
    refine e_gr rfl (g_0) rfl (r_0_2) ?_
    refine e_gr rfl (g_11) rfl (r_11_1) ?_
    refine e_gr rfl (g_15) rfl (r_15_2) ?_
    refine e_l rfl rfl rfl ?_
    refine e_ia rfl (g_17) T.1 ?_
    replace T := T.2
    refine e_k rfl rfl rfl ic_3 ?_
    refine e_b rfl rfl rfl (fun hA => ?_) (fun hA => ?_)
    · replace T := T.1 hA
      refine e_ic (v := (v2 + 1)) (L' := [some (.ref 0), some (.int v1), some (.int (v2 + 1))]) rfl rfl rfl ic_1 rfl ?_
      refine e_g rfl ?_
      exact T
    · replace T := T.2 hA
      refine e_l rfl rfl rfl ?_
      refine e_k rfl rfl rfl ic_1 ?_
      refine e_l rfl rfl rfl ?_
      refine e_p rfl rfl rfl ?_
      refine e_p rfl rfl rfl ?_
      refine e_si (Lf := fun y1_1 => [some (.ref 0), some (.int y1_1), some (.int v2)]) rfl rfl rfl (fun y1_1 hy1_1 => ?_)
      replace T := T y1_1 hy1_1
      refine e_ic (v := (v2 + 1)) (L' := [some (.ref 0), some (.int y1_1), some (.int (v2 + 1))]) rfl rfl rfl ic_1 rfl ?_
      refine e_g rfl ?_
      exact T
set_option maxRecDepth 10000 in
set_option maxHeartbeats 4000000 in
theorem vc_X10_quiet {X : mm_X} {d : Nat} {I : tI} {J : tJ} {P : Int32 → tI → tJ → Prop}   (T : EV X d n_X2_bringUpToDate [.ref 11] I J (fun I_2 J_3 => Er X (d + 1) M_X10_quiet 5 [some (.ref 0), some (.int 0)] [] I_2 J_3 (qI P))) : EI X (d + 1) n_X10_quiet [.ref 0] I J P := by
  refine ⟨M_X10_quiet, tb_X10_quiet, Nat.le_of_ble_eq_true rfl, ?_⟩
  show Er X (d + 1) M_X10_quiet 0 [some (.ref 0), none] [] I J (qI P)
  refine e_l rfl rfl rfl ?_
  refine e_gr rfl (g_0) rfl (r_0_2) ?_
  refine e_cvV (as := []) (rs := []) rfl rfl (g_11) rfl T (fun I_2 J_3 T => ?_)
  try dsimp only at T
  refine e_k rfl rfl rfl ic_0 ?_
  refine e_l (L' := [some (.ref 0), some (.int 0)]) rfl rfl rfl ?_
  exact T
set_option maxRecDepth 10000 in
set_option maxHeartbeats 4000000 in
theorem vc_X10_quiet_5 {X : mm_X} {d : Nat} {I : tI} {J : tJ} {P : Int32 → tI → tJ → Prop} {v1 : Int32}  (T : (30 ≤ v1 → (P (-1) I J)) ∧ (¬ (30 ≤ v1) → (ix v1 30 ∧ (((I 14 (tn v1)) ≠ 0 → (Er X (d + 1) M_X10_quiet 5 [some (.ref 0), some (.int (v1 + 1))] [] I J (qI P))) ∧ (¬ ((I 14 (tn v1)) ≠ 0) → (EI X d n_X2_leastLeaning [.ref 11, .int v1] I J (fun x_1 I_2 J_3 => (x_1 ≠ (-1) → (Er X (d + 1) M_X10_quiet 5 [some (.ref 0), some (.int (v1 + 1))] [] I_2 J_3 (qI P))) ∧ (¬ (x_1 ≠ (-1)) → (P v1 I_2 J_3))))))))) : Er X (d + 1) M_X10_quiet 5 [some (.ref 0), some (.int v1)] [] I J (qI P) := by
  refine e_l rfl rfl rfl ?_
  refine e_k rfl rfl rfl ib_30 ?_
  refine e_b rfl rfl rfl (fun hA => ?_) (fun hA => ?_)
  · replace T := T.1 hA
    refine e_k rfl rfl rfl ic_m1 ?_
    exact e_ri rfl rfl ⟨_, rfl, T⟩
  · replace T := T.2 hA
    refine e_l rfl rfl rfl ?_
    refine e_gr rfl (g_0) rfl (r_0_2) ?_
    refine e_gr rfl (g_11) rfl (r_11_4) ?_
    refine e_l rfl rfl rfl ?_
    refine e_ia rfl (g_14) T.1 ?_
    replace T := T.2
    refine e_b rfl rfl rfl (fun hA => ?_) (fun hA => ?_)
    · replace T := T.1 hA
      refine e_ic (v := (v1 + 1)) (L' := [some (.ref 0), some (.int (v1 + 1))]) rfl rfl rfl ic_1 rfl ?_
      refine e_g rfl ?_
      exact T
    · replace T := T.2 hA
      refine e_l rfl rfl rfl ?_
      refine e_gr rfl (g_0) rfl (r_0_2) ?_
      refine e_l rfl rfl rfl ?_
      refine e_cvI (as := [.int v1]) (rs := []) rfl rfl (g_11) rfl T (fun x_1 I_2 J_3 T => ?_)
      try dsimp only at T
      refine e_k rfl rfl rfl ic_m1 ?_
      refine e_b rfl rfl rfl (fun hA => ?_) (fun hA => ?_)
      · replace T := T.1 hA
        refine e_ic (v := (v1 + 1)) (L' := [some (.ref 0), some (.int (v1 + 1))]) rfl rfl rfl ic_1 rfl ?_
        refine e_g rfl ?_
        exact T
      · replace T := T.2 hA
        refine e_l rfl rfl rfl ?_
        exact e_ri rfl rfl ⟨_, rfl, T⟩
set_option maxRecDepth 10000 in
set_option maxHeartbeats 4000000 in
theorem vc_X10_crowd {X : mm_X} {d : Nat} {I : tI} {J : tJ} {P : Int32 → tI → tJ → Prop} {v1 : Int32}  (T : EI X d n_X10_isWithin [.int v1, .int 1] I J (fun x_1 I_2 J_3 => (x_1 ≠ 0 → (EV X d n_X2_bringUpToDate [.ref 11] I_2 J_3 (fun I_5 J_6 => Er X (d + 1) M_X10_crowd 11 [some (.ref 0), some (.int v1), some (.int 0), none] [] I_5 J_6 (qI P)))) ∧ (¬ (x_1 ≠ 0) → (P (-2) I_2 J_3)))) : EI X (d + 1) n_X10_crowd [.ref 0, .int v1] I J P := by
  refine ⟨M_X10_crowd, tb_X10_crowd, Nat.le_of_ble_eq_true rfl, ?_⟩
  show Er X (d + 1) M_X10_crowd 0 [some (.ref 0), some (.int v1), none, none] [] I J (qI P)
  refine e_l rfl rfl rfl ?_
  refine e_k rfl rfl rfl ic_1 ?_
  refine e_csI (as := [.int v1, .int 1]) (rs := []) rfl rfl rfl T (fun x_1 I_2 J_3 T => ?_)
  try dsimp only at T
  refine e_b rfl rfl rfl (fun hA => ?_) (fun hA => ?_)
  · replace T := T.1 hA
    refine e_l rfl rfl rfl ?_
    refine e_gr rfl (g_0) rfl (r_0_2) ?_
    refine e_cvV (as := []) (rs := []) rfl rfl (g_11) rfl T (fun I_5 J_6 T => ?_)
    try dsimp only at T
    refine e_k rfl rfl rfl ic_0 ?_
    refine e_l (L' := [some (.ref 0), some (.int v1), some (.int 0), none]) rfl rfl rfl ?_
    exact T
  · replace T := T.2 hA
    refine e_k rfl rfl rfl ib_m2 ?_
    exact e_ri rfl rfl ⟨_, rfl, T⟩
set_option maxRecDepth 10000 in
set_option maxHeartbeats 4000000 in
theorem vc_X10_crowd_11 {X : mm_X} {d : Nat} {I : tI} {J : tJ} {P : Int32 → tI → tJ → Prop} {v1 : Int32} {v2 : Int32} {o3 : Option Value}  (T : (30 ≤ v2 → (P (-1) I J)) ∧ (¬ (30 ≤ v2) → (EI X d n_X2_leastLeaning [.ref 11, .int v2] I J (fun x_1 I_2 J_3 => (x_1 = (-1) → (Er X (d + 1) M_X10_crowd 11 [some (.ref 0), some (.int v1), some (.int (v2 + 1)), some (.int x_1)] [] I_2 J_3 (qI P))) ∧ (¬ (x_1 = (-1)) → ((v1 ≠ 0 → (P x_1 I_2 J_3)) ∧ (¬ (v1 ≠ 0) → (P v2 I_2 J_3)))))))) : Er X (d + 1) M_X10_crowd 11 [some (.ref 0), some (.int v1), some (.int v2), o3] [] I J (qI P) := by
  refine e_l rfl rfl rfl ?_
  refine e_k rfl rfl rfl ib_30 ?_
  refine e_b rfl rfl rfl (fun hA => ?_) (fun hA => ?_)
  · replace T := T.1 hA
    refine e_k rfl rfl rfl ic_m1 ?_
    exact e_ri rfl rfl ⟨_, rfl, T⟩
  · replace T := T.2 hA
    refine e_l rfl rfl rfl ?_
    refine e_gr rfl (g_0) rfl (r_0_2) ?_
    refine e_l rfl rfl rfl ?_
    refine e_cvI (as := [.int v2]) (rs := []) rfl rfl (g_11) rfl T (fun x_1 I_2 J_3 T => ?_)
    try dsimp only at T
    refine e_l (L' := [some (.ref 0), some (.int v1), some (.int v2), some (.int x_1)]) rfl rfl rfl ?_
    refine e_l rfl rfl rfl ?_
    refine e_k rfl rfl rfl ic_m1 ?_
    refine e_b rfl rfl rfl (fun hA => ?_) (fun hA => ?_)
    · replace T := T.1 hA
      refine e_ic (v := (v2 + 1)) (L' := [some (.ref 0), some (.int v1), some (.int (v2 + 1)), some (.int x_1)]) rfl rfl rfl ic_1 rfl ?_
      refine e_g rfl ?_
      exact T
    · replace T := T.2 hA
      refine e_l rfl rfl rfl ?_
      refine e_b rfl rfl rfl (fun hA => ?_) (fun hA => ?_)
      · replace T := T.1 hA
        refine e_l rfl rfl rfl ?_
        exact e_ri rfl rfl ⟨_, rfl, T⟩
      · replace T := T.2 hA
        refine e_l rfl rfl rfl ?_
        refine e_g rfl ?_
        exact e_ri rfl rfl ⟨_, rfl, T⟩
set_option maxRecDepth 10000 in
set_option maxHeartbeats 4000000 in
theorem vc_X10_move {X : mm_X} {d : Nat} {I : tI} {J : tJ} {P : Int32 → tI → tJ → Prop} {v1 : Int32} {v2 : Int32}  (T : EI X d n_X10_isSlice [.ref 0, .int v1] I J (fun x_1 I_2 J_3 => (x_1 = 0 → (P (-2) I_2 J_3)) ∧ (¬ (x_1 = 0) → (EI X d n_X10_isWithin [.int v2, .int 1] I_2 J_3 (fun x_4 I_5 J_6 => (x_4 ≠ 0 → (EV X d n_X4_findMove [.ref 31, .int v1] I_5 J_6 (fun I_8 J_9 => (v2 ≠ 0 → (P (I_8 31 3) I_8 J_9)) ∧ (¬ (v2 ≠ 0) → (P (I_8 31 2) I_8 J_9))))) ∧ (¬ (x_4 ≠ 0) → (P (-2) I_5 J_6))))))) : EI X (d + 1) n_X10_move [.ref 0, .int v1, .int v2] I J P := by
  refine ⟨M_X10_move, tb_X10_move, Nat.le_of_ble_eq_true rfl, ?_⟩
  show Er X (d + 1) M_X10_move 0 [some (.ref 0), some (.int v1), some (.int v2)] [] I J (qI P)
  refine e_l rfl rfl rfl ?_
  refine e_l rfl rfl rfl ?_
  refine e_cvI (as := [.int v1]) (rs := []) rfl rfl (g_0) rfl T (fun x_1 I_2 J_3 T => ?_)
  try dsimp only at T
  refine e_b rfl rfl rfl (fun hA => ?_) (fun hA => ?_)
  · replace T := T.1 hA
    refine e_k rfl rfl rfl ib_m2 ?_
    exact e_ri rfl rfl ⟨_, rfl, T⟩
  · replace T := T.2 hA
    refine e_l rfl rfl rfl ?_
    refine e_k rfl rfl rfl ic_1 ?_
    refine e_csI (as := [.int v2, .int 1]) (rs := []) rfl rfl rfl T (fun x_4 I_5 J_6 T => ?_)
    try dsimp only at T
    refine e_b rfl rfl rfl (fun hA => ?_) (fun hA => ?_)
    · replace T := T.1 hA
      refine e_l rfl rfl rfl ?_
      refine e_gr rfl (g_0) rfl (r_0_4) ?_
      refine e_l rfl rfl rfl ?_
      refine e_cvV (as := [.int v1]) (rs := []) rfl rfl (g_31) rfl T (fun I_8 J_9 T => ?_)
      try dsimp only at T
      refine e_l rfl rfl rfl ?_
      refine e_b rfl rfl rfl (fun hA => ?_) (fun hA => ?_)
      · replace T := T.1 hA
        refine e_l rfl rfl rfl ?_
        refine e_gr rfl (g_0) rfl (r_0_4) ?_
        refine e_gi rfl (g_31) (by decide) ?_
        exact e_ri rfl rfl ⟨_, rfl, T⟩
      · replace T := T.2 hA
        refine e_l rfl rfl rfl ?_
        refine e_gr rfl (g_0) rfl (r_0_4) ?_
        refine e_gi rfl (g_31) (by decide) ?_
        refine e_g rfl ?_
        exact e_ri rfl rfl ⟨_, rfl, T⟩
    · replace T := T.2 hA
      refine e_k rfl rfl rfl ib_m2 ?_
      exact e_ri rfl rfl ⟨_, rfl, T⟩
set_option maxRecDepth 10000 in
set_option maxHeartbeats 4000000 in
theorem vc_X10_swap {X : mm_X} {d : Nat} {I : tI} {J : tJ} {P : Int32 → tI → tJ → Prop} {v1 : Int32}  (T : EI X d n_X10_isWithin [.int v1, .int 2] I J (fun x_1 I_2 J_3 => (x_1 ≠ 0 → (EV X d n_X4_findSwap [.ref 31] I_2 J_3 (fun I_5 J_6 => (v1 ≠ 0 → ((v1 ≠ 1 → (P (I_5 31 6) I_5 J_6)) ∧ (¬ (v1 ≠ 1) → (P (I_5 31 5) I_5 J_6)))) ∧ (¬ (v1 ≠ 0) → (P (I_5 31 4) I_5 J_6))))) ∧ (¬ (x_1 ≠ 0) → (P (-2) I_2 J_3)))) : EI X (d + 1) n_X10_swap [.ref 0, .int v1] I J P := by
  refine ⟨M_X10_swap, tb_X10_swap, Nat.le_of_ble_eq_true rfl, ?_⟩
  show Er X (d + 1) M_X10_swap 0 [some (.ref 0), some (.int v1)] [] I J (qI P)
  refine e_l rfl rfl rfl ?_
  refine e_k rfl rfl rfl ic_2 ?_
  refine e_csI (as := [.int v1, .int 2]) (rs := []) rfl rfl rfl T (fun x_1 I_2 J_3 T => ?_)
  try dsimp only at T
  refine e_b rfl rfl rfl (fun hA => ?_) (fun hA => ?_)
  · replace T := T.1 hA
    refine e_l rfl rfl rfl ?_
    refine e_gr rfl (g_0) rfl (r_0_4) ?_
    refine e_cvV (as := []) (rs := []) rfl rfl (g_31) rfl T (fun I_5 J_6 T => ?_)
    try dsimp only at T
    refine e_l rfl rfl rfl ?_
    refine e_b rfl rfl rfl (fun hA => ?_) (fun hA => ?_)
    · replace T := T.1 hA
      refine e_l rfl rfl rfl ?_
      refine e_k rfl rfl rfl ic_1 ?_
      refine e_b rfl rfl rfl (fun hA => ?_) (fun hA => ?_)
      · replace T := T.1 hA
        refine e_l rfl rfl rfl ?_
        refine e_gr rfl (g_0) rfl (r_0_4) ?_
        refine e_gi rfl (g_31) (by decide) ?_
        exact e_ri rfl rfl ⟨_, rfl, T⟩
      · replace T := T.2 hA
        refine e_l rfl rfl rfl ?_
        refine e_gr rfl (g_0) rfl (r_0_4) ?_
        refine e_gi rfl (g_31) (by decide) ?_
        refine e_g rfl ?_
        exact e_ri rfl rfl ⟨_, rfl, T⟩
    · replace T := T.2 hA
      refine e_l rfl rfl rfl ?_
      refine e_gr rfl (g_0) rfl (r_0_4) ?_
      refine e_gi rfl (g_31) (by decide) ?_
      exact e_ri rfl rfl ⟨_, rfl, T⟩
  · replace T := T.2 hA
    refine e_k rfl rfl rfl ib_m2 ?_
    exact e_ri rfl rfl ⟨_, rfl, T⟩
set_option maxRecDepth 10000 in
set_option maxHeartbeats 4000000 in
theorem vc_X10_line {X : mm_X} {d : Nat} {I : tI} {J : tJ} {P : Int32 → tI → tJ → Prop} {v1 : Int32}  (T : EI X d n_X10_isSlice [.ref 0, .int v1] I J (fun x_1 I_2 J_3 => (x_1 = 0 → (P (-2) I_2 J_3)) ∧ (¬ (x_1 = 0) → (EI X d n_X4_firstButterHour [.ref 31, .int v1] I_2 J_3 (fun x_4 I_5 J_6 => P x_4 I_5 J_6))))) : EI X (d + 1) n_X10_line [.ref 0, .int v1] I J P := by
  refine ⟨M_X10_line, tb_X10_line, Nat.le_of_ble_eq_true rfl, ?_⟩
  show Er X (d + 1) M_X10_line 0 [some (.ref 0), some (.int v1)] [] I J (qI P)
  refine e_l rfl rfl rfl ?_
  refine e_l rfl rfl rfl ?_
  refine e_cvI (as := [.int v1]) (rs := []) rfl rfl (g_0) rfl T (fun x_1 I_2 J_3 T => ?_)
  try dsimp only at T
  refine e_b rfl rfl rfl (fun hA => ?_) (fun hA => ?_)
  · replace T := T.1 hA
    refine e_k rfl rfl rfl ib_m2 ?_
    exact e_ri rfl rfl ⟨_, rfl, T⟩
  · replace T := T.2 hA
    refine e_l rfl rfl rfl ?_
    refine e_gr rfl (g_0) rfl (r_0_4) ?_
    refine e_l rfl rfl rfl ?_
    refine e_cvI (as := [.int v1]) (rs := []) rfl rfl (g_31) rfl T (fun x_4 I_5 J_6 T => ?_)
    try dsimp only at T
    refine e_g rfl ?_
    exact e_ri rfl rfl ⟨_, rfl, T⟩
set_option maxRecDepth 10000 in
set_option maxHeartbeats 4000000 in
theorem vc_X10_bear {X : mm_X} {d : Nat} {I : tI} {J : tJ} {P : Int32 → tI → tJ → Prop}   (T : EI X d n_X4_greatestSummer [.ref 31] I J (fun x_1 I_2 J_3 => P x_1 I_2 J_3)) : EI X (d + 1) n_X10_bear [.ref 0] I J P := by
  refine ⟨M_X10_bear, tb_X10_bear, Nat.le_of_ble_eq_true rfl, ?_⟩
  show Er X (d + 1) M_X10_bear 0 [some (.ref 0)] [] I J (qI P)
  refine e_l rfl rfl rfl ?_
  refine e_gr rfl (g_0) rfl (r_0_4) ?_
  refine e_cvI (as := []) (rs := []) rfl rfl (g_31) rfl T (fun x_1 I_2 J_3 T => ?_)
  try dsimp only at T
  exact e_ri rfl rfl ⟨_, rfl, T⟩
set_option maxRecDepth 10000 in
set_option maxHeartbeats 4000000 in
theorem vc_X10_seen {X : mm_X} {d : Nat} {I : tI} {J : tJ} {P : Int32 → tI → tJ → Prop} {v1 : Int32} {v2 : Int32} {v3 : Int32}  (T : EI X d n_X10_isHour [.int v1] I J (fun x_1 I_2 J_3 => (x_1 = 0 → (P (-2) I_2 J_3)) ∧ (¬ (x_1 = 0) → (EI X d n_X10_isWithin [.int v2, .int 7] I_2 J_3 (fun x_4 I_5 J_6 => (x_4 = 0 → (P (-2) I_5 J_6)) ∧ (¬ (x_4 = 0) → (EI X d n_X10_isWithin [.int v3, .int 3] I_5 J_6 (fun x_7 I_8 J_9 => (x_7 ≠ 0 → (((I_8 32 4) < 8 → (EV X d n_X7_add [.ref 32, .int v1, .int v2, .int v3] I_8 J_9 (fun I_11 J_12 => P (I_11 32 4) I_11 J_12))) ∧ (¬ ((I_8 32 4) < 8) → (P (-4) I_8 J_9)))) ∧ (¬ (x_7 ≠ 0) → (P (-2) I_8 J_9)))))))))) : EI X (d + 1) n_X10_seen [.ref 0, .int v1, .int v2, .int v3] I J P := by
  refine ⟨M_X10_seen, tb_X10_seen, Nat.le_of_ble_eq_true rfl, ?_⟩
  show Er X (d + 1) M_X10_seen 0 [some (.ref 0), some (.int v1), some (.int v2), some (.int v3)] [] I J (qI P)
  refine e_l rfl rfl rfl ?_
  refine e_csI (as := [.int v1]) (rs := []) rfl rfl rfl T (fun x_1 I_2 J_3 T => ?_)
  try dsimp only at T
  refine e_b rfl rfl rfl (fun hA => ?_) (fun hA => ?_)
  · replace T := T.1 hA
    refine e_k rfl rfl rfl ib_m2 ?_
    exact e_ri rfl rfl ⟨_, rfl, T⟩
  · replace T := T.2 hA
    refine e_l rfl rfl rfl ?_
    refine e_k rfl rfl rfl ib_7 ?_
    refine e_csI (as := [.int v2, .int 7]) (rs := []) rfl rfl rfl T (fun x_4 I_5 J_6 T => ?_)
    try dsimp only at T
    refine e_b rfl rfl rfl (fun hA => ?_) (fun hA => ?_)
    · replace T := T.1 hA
      refine e_k rfl rfl rfl ib_m2 ?_
      exact e_ri rfl rfl ⟨_, rfl, T⟩
    · replace T := T.2 hA
      refine e_l rfl rfl rfl ?_
      refine e_k rfl rfl rfl ic_3 ?_
      refine e_csI (as := [.int v3, .int 3]) (rs := []) rfl rfl rfl T (fun x_7 I_8 J_9 T => ?_)
      try dsimp only at T
      refine e_b rfl rfl rfl (fun hA => ?_) (fun hA => ?_)
      · replace T := T.1 hA
        refine e_l rfl rfl rfl ?_
        refine e_gr rfl (g_0) rfl (r_0_5) ?_
        refine e_gi rfl (g_32) (by decide) ?_
        refine e_k rfl rfl rfl ib_8 ?_
        refine e_b rfl rfl rfl (fun hA => ?_) (fun hA => ?_)
        · replace T := T.1 hA
          refine e_l rfl rfl rfl ?_
          refine e_gr rfl (g_0) rfl (r_0_5) ?_
          refine e_l rfl rfl rfl ?_
          refine e_l rfl rfl rfl ?_
          refine e_l rfl rfl rfl ?_
          refine e_cvV (as := [.int v1, .int v2, .int v3]) (rs := []) rfl rfl (g_32) rfl T (fun I_11 J_12 T => ?_)
          try dsimp only at T
          refine e_l rfl rfl rfl ?_
          refine e_gr rfl (g_0) rfl (r_0_5) ?_
          refine e_gi rfl (g_32) (by decide) ?_
          exact e_ri rfl rfl ⟨_, rfl, T⟩
        · replace T := T.2 hA
          refine e_k rfl rfl rfl ib_m4 ?_
          exact e_ri rfl rfl ⟨_, rfl, T⟩
      · replace T := T.2 hA
        refine e_k rfl rfl rfl ib_m2 ?_
        exact e_ri rfl rfl ⟨_, rfl, T⟩
set_option maxRecDepth 10000 in
set_option maxHeartbeats 4000000 in
theorem vc_X10_forget {X : mm_X} {d : Nat} {I : tI} {J : tJ} {P : Int32 → tI → tJ → Prop}   (T : ∀ y1_1 : Int32, y1_1 = (I 32 4) → (P y1_1 (mm_u I 32 4 0) J)) : EI X d n_X10_forget [.ref 0] I J P := by
  refine ⟨M_X10_forget, tb_X10_forget, Nat.le_of_ble_eq_true rfl, ?_⟩
  show Er X d M_X10_forget 0 [some (.ref 0), none] [] I J (qI P)
  refine e_l rfl rfl rfl ?_
  refine e_gr rfl (g_0) rfl (r_0_5) ?_
  refine e_gi rfl (g_32) (by decide) ?_
  refine e_si (Lf := fun y1_1 => [some (.ref 0), some (.int y1_1)]) rfl rfl rfl (fun y1_1 hy1_1 => ?_)
  replace T := T y1_1 hy1_1
  refine e_l rfl rfl rfl ?_
  refine e_gr rfl (g_0) rfl (r_0_5) ?_
  refine e_k rfl rfl rfl ic_0 ?_
  refine e_pi rfl (g_32) rfl ?_
  refine e_l rfl rfl rfl ?_
  exact e_ri rfl rfl ⟨_, rfl, T⟩
set_option maxRecDepth 10000 in
set_option maxHeartbeats 4000000 in
theorem vc_X10_heats {X : mm_X} {d : Nat} {I : tI} {J : tJ} {P : Int32 → tI → tJ → Prop} {v1 : Int32} {v2 : Int32}  (T : EI X d n_X10_isSlice [.ref 0, .int v1] I J (fun x_1 I_2 J_3 => (x_1 = 0 → (P (-2) I_2 J_3)) ∧ (¬ (x_1 = 0) → ((v2 < (-1) → (P (-2) I_2 J_3)) ∧ (¬ (v2 < (-1)) → ((v2 < 100 → (EV X d n_X1_findHeats [.ref 36, .int v1] I_2 J_3 (fun I_5 J_6 => EI X d n_X1_heatAt [.ref 36, .int v2] I_5 J_6 (fun x_7 I_8 J_9 => P x_7 I_8 J_9)))) ∧ (¬ (v2 < 100) → (P (-2) I_2 J_3)))))))) : EI X (d + 1) n_X10_heats [.ref 0, .int v1, .int v2] I J P := by
  refine ⟨M_X10_heats, tb_X10_heats, Nat.le_of_ble_eq_true rfl, ?_⟩
  show Er X (d + 1) M_X10_heats 0 [some (.ref 0), some (.int v1), some (.int v2)] [] I J (qI P)
  refine e_l rfl rfl rfl ?_
  refine e_l rfl rfl rfl ?_
  refine e_cvI (as := [.int v1]) (rs := []) rfl rfl (g_0) rfl T (fun x_1 I_2 J_3 T => ?_)
  try dsimp only at T
  refine e_b rfl rfl rfl (fun hA => ?_) (fun hA => ?_)
  · replace T := T.1 hA
    refine e_k rfl rfl rfl ib_m2 ?_
    exact e_ri rfl rfl ⟨_, rfl, T⟩
  · replace T := T.2 hA
    refine e_l rfl rfl rfl ?_
    refine e_k rfl rfl rfl ic_m1 ?_
    refine e_b rfl rfl rfl (fun hA => ?_) (fun hA => ?_)
    · replace T := T.1 hA
      refine e_k rfl rfl rfl ib_m2 ?_
      exact e_ri rfl rfl ⟨_, rfl, T⟩
    · replace T := T.2 hA
      refine e_l rfl rfl rfl ?_
      refine e_k rfl rfl rfl ib_100 ?_
      refine e_b rfl rfl rfl (fun hA => ?_) (fun hA => ?_)
      · replace T := T.1 hA
        refine e_l rfl rfl rfl ?_
        refine e_gr rfl (g_0) rfl (r_0_6) ?_
        refine e_l rfl rfl rfl ?_
        refine e_cvV (as := [.int v1]) (rs := []) rfl rfl (g_36) rfl T (fun I_5 J_6 T => ?_)
        try dsimp only at T
        refine e_l rfl rfl rfl ?_
        refine e_gr rfl (g_0) rfl (r_0_6) ?_
        refine e_l rfl rfl rfl ?_
        refine e_cvI (as := [.int v2]) (rs := []) rfl rfl (g_36) rfl T (fun x_7 I_8 J_9 T => ?_)
        try dsimp only at T
        exact e_ri rfl rfl ⟨_, rfl, T⟩
      · replace T := T.2 hA
        refine e_k rfl rfl rfl ib_m2 ?_
        exact e_ri rfl rfl ⟨_, rfl, T⟩
set_option maxRecDepth 10000 in
set_option maxHeartbeats 4000000 in
theorem vc_X10_slots {X : mm_X} {d : Nat} {I : tI} {J : tJ} {P : Int32 → tI → tJ → Prop} {v1 : Int32}  (T : EI X d n_X10_isSlice [.ref 0, .int v1] I J (fun x_1 I_2 J_3 => (x_1 = 0 → (P (-2) I_2 J_3)) ∧ (¬ (x_1 = 0) → (EI X d n_X1_slotsOf [.ref 36, .int v1] I_2 J_3 (fun x_4 I_5 J_6 => P x_4 I_5 J_6))))) : EI X (d + 1) n_X10_slots [.ref 0, .int v1] I J P := by
  refine ⟨M_X10_slots, tb_X10_slots, Nat.le_of_ble_eq_true rfl, ?_⟩
  show Er X (d + 1) M_X10_slots 0 [some (.ref 0), some (.int v1)] [] I J (qI P)
  refine e_l rfl rfl rfl ?_
  refine e_l rfl rfl rfl ?_
  refine e_cvI (as := [.int v1]) (rs := []) rfl rfl (g_0) rfl T (fun x_1 I_2 J_3 T => ?_)
  try dsimp only at T
  refine e_b rfl rfl rfl (fun hA => ?_) (fun hA => ?_)
  · replace T := T.1 hA
    refine e_k rfl rfl rfl ib_m2 ?_
    exact e_ri rfl rfl ⟨_, rfl, T⟩
  · replace T := T.2 hA
    refine e_l rfl rfl rfl ?_
    refine e_gr rfl (g_0) rfl (r_0_6) ?_
    refine e_l rfl rfl rfl ?_
    refine e_cvI (as := [.int v1]) (rs := []) rfl rfl (g_36) rfl T (fun x_4 I_5 J_6 T => ?_)
    try dsimp only at T
    refine e_g rfl ?_
    exact e_ri rfl rfl ⟨_, rfl, T⟩
set_option maxRecDepth 10000 in
set_option maxHeartbeats 4000000 in
theorem vc_X10_ask {X : mm_X} {d : Nat} {I : tI} {J : tJ} {P : Int32 → tI → tJ → Prop} {v1 : Int32}  (T : EI X d n_X10_isHour [.int v1] I J (fun x_1 I_2 J_3 => (x_1 = 0 → (P (-2) I_2 J_3)) ∧ (¬ (x_1 = 0) → (EI X d n_X1_nextToTouch [.ref 36, .int v1] I_2 J_3 (fun x_4 I_5 J_6 => P x_4 I_5 J_6))))) : EI X (d + 1) n_X10_ask [.ref 0, .int v1] I J P := by
  refine ⟨M_X10_ask, tb_X10_ask, Nat.le_of_ble_eq_true rfl, ?_⟩
  show Er X (d + 1) M_X10_ask 0 [some (.ref 0), some (.int v1)] [] I J (qI P)
  refine e_l rfl rfl rfl ?_
  refine e_csI (as := [.int v1]) (rs := []) rfl rfl rfl T (fun x_1 I_2 J_3 T => ?_)
  try dsimp only at T
  refine e_b rfl rfl rfl (fun hA => ?_) (fun hA => ?_)
  · replace T := T.1 hA
    refine e_k rfl rfl rfl ib_m2 ?_
    exact e_ri rfl rfl ⟨_, rfl, T⟩
  · replace T := T.2 hA
    refine e_l rfl rfl rfl ?_
    refine e_gr rfl (g_0) rfl (r_0_6) ?_
    refine e_l rfl rfl rfl ?_
    refine e_cvI (as := [.int v1]) (rs := []) rfl rfl (g_36) rfl T (fun x_4 I_5 J_6 T => ?_)
    try dsimp only at T
    refine e_g rfl ?_
    exact e_ri rfl rfl ⟨_, rfl, T⟩
set_option maxRecDepth 10000 in
set_option maxHeartbeats 4000000 in
theorem vc_X10_window {X : mm_X} {d : Nat} {I : tI} {J : tJ} {P : Int64 → tI → tJ → Prop} {v1 : Int32} {v2 : Int32} {v3 : Int32} {v4 : Int32} {v5 : Int32}  (T : EI X d n_X10_isWithin [.int v1, .int 16] I J (fun x_1 I_2 J_3 => (x_1 = 0 → (P (-9223372036854775806) I_2 J_3)) ∧ (¬ (x_1 = 0) → (EI X d n_X10_isWithin [.int v2, .int 9] I_2 J_3 (fun x_4 I_5 J_6 => (x_4 = 0 → (P (-9223372036854775806) I_5 J_6)) ∧ (¬ (x_4 = 0) → (EI X d n_X10_isSlice [.ref 0, .int v3] I_5 J_6 (fun x_7 I_8 J_9 => (x_7 = 0 → (P (-9223372036854775806) I_8 J_9)) ∧ (¬ (x_7 = 0) → (EI X d n_X10_isHour [.int v4] I_8 J_9 (fun x_10 I_11 J_12 => (x_10 = 0 → (P (-9223372036854775806) I_11 J_12)) ∧ (¬ (x_10 = 0) → (EI X d n_X10_isWithin [.int v5, .int 1] I_11 J_12 (fun x_13 I_14 J_15 => (x_13 ≠ 0 → (EV X d n_X9_weigh [.ref 40, .int v1, .int v2, .int v3, .int v4] I_14 J_15 (fun I_17 J_18 => (v5 ≠ 0 → (P (J_18 40 6) I_17 J_18)) ∧ (¬ (v5 ≠ 0) → (P (J_18 40 5) I_17 J_18))))) ∧ (¬ (x_13 ≠ 0) → (P (-9223372036854775806) I_14 J_15)))))))))))))))) : EL X (d + 1) n_X10_window [.ref 0, .int v1, .int v2, .int v3, .int v4, .int v5] I J P := by
  refine ⟨M_X10_window, tb_X10_window, Nat.le_of_ble_eq_true rfl, ?_⟩
  show Er X (d + 1) M_X10_window 0 [some (.ref 0), some (.int v1), some (.int v2), some (.int v3), some (.int v4), some (.int v5)] [] I J (qL P)
  refine e_l rfl rfl rfl ?_
  refine e_k rfl rfl rfl ib_16 ?_
  refine e_csI (as := [.int v1, .int 16]) (rs := []) rfl rfl rfl T (fun x_1 I_2 J_3 T => ?_)
  try dsimp only at T
  refine e_b rfl rfl rfl (fun hA => ?_) (fun hA => ?_)
  · replace T := T.1 hA
    refine e_kl rfl rfl rfl lk_9223372036854775810 ?_
    exact e_rl rfl rfl ⟨_, rfl, T⟩
  · replace T := T.2 hA
    refine e_l rfl rfl rfl ?_
    refine e_k rfl rfl rfl ib_9 ?_
    refine e_csI (as := [.int v2, .int 9]) (rs := []) rfl rfl rfl T (fun x_4 I_5 J_6 T => ?_)
    try dsimp only at T
    refine e_b rfl rfl rfl (fun hA => ?_) (fun hA => ?_)
    · replace T := T.1 hA
      refine e_kl rfl rfl rfl lk_9223372036854775810 ?_
      exact e_rl rfl rfl ⟨_, rfl, T⟩
    · replace T := T.2 hA
      refine e_l rfl rfl rfl ?_
      refine e_l rfl rfl rfl ?_
      refine e_cvI (as := [.int v3]) (rs := []) rfl rfl (g_0) rfl T (fun x_7 I_8 J_9 T => ?_)
      try dsimp only at T
      refine e_b rfl rfl rfl (fun hA => ?_) (fun hA => ?_)
      · replace T := T.1 hA
        refine e_kl rfl rfl rfl lk_9223372036854775810 ?_
        exact e_rl rfl rfl ⟨_, rfl, T⟩
      · replace T := T.2 hA
        refine e_l rfl rfl rfl ?_
        refine e_csI (as := [.int v4]) (rs := []) rfl rfl rfl T (fun x_10 I_11 J_12 T => ?_)
        try dsimp only at T
        refine e_b rfl rfl rfl (fun hA => ?_) (fun hA => ?_)
        · replace T := T.1 hA
          refine e_kl rfl rfl rfl lk_9223372036854775810 ?_
          exact e_rl rfl rfl ⟨_, rfl, T⟩
        · replace T := T.2 hA
          refine e_l rfl rfl rfl ?_
          refine e_k rfl rfl rfl ic_1 ?_
          refine e_csI (as := [.int v5, .int 1]) (rs := []) rfl rfl rfl T (fun x_13 I_14 J_15 T => ?_)
          try dsimp only at T
          refine e_b rfl rfl rfl (fun hA => ?_) (fun hA => ?_)
          · replace T := T.1 hA
            refine e_l rfl rfl rfl ?_
            refine e_gr rfl (g_0) rfl (r_0_7) ?_
            refine e_l rfl rfl rfl ?_
            refine e_l rfl rfl rfl ?_
            refine e_l rfl rfl rfl ?_
            refine e_l rfl rfl rfl ?_
            refine e_cvV (as := [.int v1, .int v2, .int v3, .int v4]) (rs := []) rfl rfl (g_40) rfl T (fun I_17 J_18 T => ?_)
            try dsimp only at T
            refine e_l rfl rfl rfl ?_
            refine e_b rfl rfl rfl (fun hA => ?_) (fun hA => ?_)
            · replace T := T.1 hA
              refine e_l rfl rfl rfl ?_
              refine e_gr rfl (g_0) rfl (r_0_7) ?_
              refine e_gl rfl (g_40) rfl ?_
              exact e_rl rfl rfl ⟨_, rfl, T⟩
            · replace T := T.2 hA
              refine e_l rfl rfl rfl ?_
              refine e_gr rfl (g_0) rfl (r_0_7) ?_
              refine e_gl rfl (g_40) rfl ?_
              refine e_g rfl ?_
              exact e_rl rfl rfl ⟨_, rfl, T⟩
          · replace T := T.2 hA
            refine e_kl rfl rfl rfl lk_9223372036854775810 ?_
            exact e_rl rfl rfl ⟨_, rfl, T⟩
set_option maxRecDepth 10000 in
set_option maxHeartbeats 4000000 in
theorem vc_X10_others {X : mm_X} {d : Nat} {I : tI} {J : tJ} {P : Int32 → tI → tJ → Prop} {v1 : Int32} {v2 : Int32}  (T : EI X d n_X10_isWithin [.int v2, .int 1] I J (fun x_1 I_2 J_3 => (x_1 ≠ 0 → (EV X d n_X3_draw [.ref 130, .int v1] I_2 J_3 (fun I_5 J_6 => (v2 ≠ 0 → (P (I_5 130 4) I_5 J_6)) ∧ (¬ (v2 ≠ 0) → (P (I_5 130 3) I_5 J_6))))) ∧ (¬ (x_1 ≠ 0) → (P (-2) I_2 J_3)))) : EI X (d + 1) n_X10_others [.ref 0, .int v1, .int v2] I J P := by
  refine ⟨M_X10_others, tb_X10_others, Nat.le_of_ble_eq_true rfl, ?_⟩
  show Er X (d + 1) M_X10_others 0 [some (.ref 0), some (.int v1), some (.int v2)] [] I J (qI P)
  refine e_l rfl rfl rfl ?_
  refine e_k rfl rfl rfl ic_1 ?_
  refine e_csI (as := [.int v2, .int 1]) (rs := []) rfl rfl rfl T (fun x_1 I_2 J_3 T => ?_)
  try dsimp only at T
  refine e_b rfl rfl rfl (fun hA => ?_) (fun hA => ?_)
  · replace T := T.1 hA
    refine e_l rfl rfl rfl ?_
    refine e_gr rfl (g_0) rfl (r_0_8) ?_
    refine e_l rfl rfl rfl ?_
    refine e_cvV (as := [.int v1]) (rs := []) rfl rfl (g_130) rfl T (fun I_5 J_6 T => ?_)
    try dsimp only at T
    refine e_l rfl rfl rfl ?_
    refine e_b rfl rfl rfl (fun hA => ?_) (fun hA => ?_)
    · replace T := T.1 hA
      refine e_l rfl rfl rfl ?_
      refine e_gr rfl (g_0) rfl (r_0_8) ?_
      refine e_gi rfl (g_130) (by decide) ?_
      exact e_ri rfl rfl ⟨_, rfl, T⟩
    · replace T := T.2 hA
      refine e_l rfl rfl rfl ?_
      refine e_gr rfl (g_0) rfl (r_0_8) ?_
      refine e_gi rfl (g_130) (by decide) ?_
      refine e_g rfl ?_
      exact e_ri rfl rfl ⟨_, rfl, T⟩
  · replace T := T.2 hA
    refine e_k rfl rfl rfl ib_m2 ?_
    exact e_ri rfl rfl ⟨_, rfl, T⟩
set_option maxRecDepth 10000 in
set_option maxHeartbeats 4000000 in
theorem vc_X10_sheet {X : mm_X} {d : Nat} {I : tI} {J : tJ} {P : Int32 → tI → tJ → Prop} {v1 : Int32} {v2 : Int32} {v3 : Int32}  (T : EI X d n_X10_isSheet [.int v1] I J (fun x_1 I_2 J_3 => (x_1 = 0 → (P (-2) I_2 J_3)) ∧ (¬ (x_1 = 0) → (EI X d n_X10_isForm [.int v2] I_2 J_3 (fun x_4 I_5 J_6 => (x_4 = 0 → (P (-2) I_5 J_6)) ∧ (¬ (x_4 = 0) → ((v3 ≤ 60 → ((0 ≤ v3 → (ix v1 4 ∧ (∃ k20, mm_R0 132 (tn v1) = some k20 ∧ k20 ∈ mm_shs ∧ (EV X d n_X6_renew [.ref k20, .int v2, .int v3] I_5 J_6 (fun I_8 J_9 => P v3 I_8 J_9))))) ∧ (¬ (0 ≤ v3) → (EI X d n_X10_found [.ref 0, .int 5] I_5 J_6 (fun x_10 I_11 J_12 => P x_10 I_11 J_12))))) ∧ (¬ (v3 ≤ 60) → (P (-2) I_5 J_6))))))))) : EI X (d + 1) n_X10_sheet [.ref 0, .int v1, .int v2, .int v3] I J P := by
  refine ⟨M_X10_sheet, tb_X10_sheet, Nat.le_of_ble_eq_true rfl, ?_⟩
  show Er X (d + 1) M_X10_sheet 0 [some (.ref 0), some (.int v1), some (.int v2), some (.int v3)] [] I J (qI P)
  refine e_l rfl rfl rfl ?_
  refine e_csI (as := [.int v1]) (rs := []) rfl rfl rfl T (fun x_1 I_2 J_3 T => ?_)
  try dsimp only at T
  refine e_b rfl rfl rfl (fun hA => ?_) (fun hA => ?_)
  · replace T := T.1 hA
    refine e_k rfl rfl rfl ib_m2 ?_
    exact e_ri rfl rfl ⟨_, rfl, T⟩
  · replace T := T.2 hA
    refine e_l rfl rfl rfl ?_
    refine e_csI (as := [.int v2]) (rs := []) rfl rfl rfl T (fun x_4 I_5 J_6 T => ?_)
    try dsimp only at T
    refine e_b rfl rfl rfl (fun hA => ?_) (fun hA => ?_)
    · replace T := T.1 hA
      refine e_k rfl rfl rfl ib_m2 ?_
      exact e_ri rfl rfl ⟨_, rfl, T⟩
    · replace T := T.2 hA
      refine e_l rfl rfl rfl ?_
      refine e_k rfl rfl rfl ib_60 ?_
      refine e_b rfl rfl rfl (fun hA => ?_) (fun hA => ?_)
      · replace T := T.1 hA
        refine e_l rfl rfl rfl ?_
        refine e_b rfl rfl rfl (fun hA => ?_) (fun hA => ?_)
        · replace T := T.1 hA
          refine e_l rfl rfl rfl ?_
          refine e_gr rfl (g_0) rfl (r_0_9) ?_
          refine e_l rfl rfl rfl ?_
          obtain ⟨hj, k20, hR, hk20, T⟩ := T
          refine e_aa rfl (g_132) hj hR ?_
          refine e_l rfl rfl rfl ?_
          refine e_l rfl rfl rfl ?_
          refine e_cvV (as := [.int v2, .int v3]) (rs := []) rfl rfl (shs_g k20 hk20) rfl T (fun I_8 J_9 T => ?_)
          try dsimp only at T
          refine e_l rfl rfl rfl ?_
          exact e_ri rfl rfl ⟨_, rfl, T⟩
        · replace T := T.2 hA
          refine e_l rfl rfl rfl ?_
          refine e_k rfl rfl rfl ic_5 ?_
          refine e_cvI (as := [.int 5]) (rs := []) rfl rfl (g_0) rfl T (fun x_10 I_11 J_12 T => ?_)
          try dsimp only at T
          exact e_ri rfl rfl ⟨_, rfl, T⟩
      · replace T := T.2 hA
        refine e_k rfl rfl rfl ib_m2 ?_
        exact e_ri rfl rfl ⟨_, rfl, T⟩
set_option maxRecDepth 10000 in
set_option maxHeartbeats 4000000 in
theorem vc_X10_lose {X : mm_X} {d : Nat} {I : tI} {J : tJ} {P : Int32 → tI → tJ → Prop} {v1 : Int32}  (T : EI X d n_X10_isSheet [.int v1] I J (fun x_1 I_2 J_3 => (x_1 ≠ 0 → (ix v1 4 ∧ (∃ k8, mm_R0 132 (tn v1) = some k8 ∧ k8 ∈ mm_shs ∧ (EI X d n_X6_isLost [.ref k8] I_2 J_3 (fun x_4 I_5 J_6 => (x_4 = 0 → (ix v1 4 ∧ (∃ k18, mm_R0 132 (tn v1) = some k18 ∧ k18 ∈ mm_shs ∧ (∀ y2_7 : Int32, y2_7 = (I_5 k18 1) → (ix v1 4 ∧ (∃ k24, mm_R0 132 (tn v1) = some k24 ∧ k24 ∈ mm_shs ∧ (EV X d n_X6_renew [.ref k24, .int (-1), .int 0] I_5 J_6 (fun I_9 J_10 => P y2_7 I_9 J_10)))))))) ∧ (¬ (x_4 = 0) → (EI X d n_X10_found [.ref 0, .int 1] I_5 J_6 (fun x_11 I_12 J_13 => P x_11 I_12 J_13)))))))) ∧ (¬ (x_1 ≠ 0) → (P (-2) I_2 J_3)))) : EI X (d + 1) n_X10_lose [.ref 0, .int v1] I J P := by
  refine ⟨M_X10_lose, tb_X10_lose, Nat.le_of_ble_eq_true rfl, ?_⟩
  show Er X (d + 1) M_X10_lose 0 [some (.ref 0), some (.int v1), none] [] I J (qI P)
  refine e_l rfl rfl rfl ?_
  refine e_csI (as := [.int v1]) (rs := []) rfl rfl rfl T (fun x_1 I_2 J_3 T => ?_)
  try dsimp only at T
  refine e_b rfl rfl rfl (fun hA => ?_) (fun hA => ?_)
  · replace T := T.1 hA
    refine e_l rfl rfl rfl ?_
    refine e_gr rfl (g_0) rfl (r_0_9) ?_
    refine e_l rfl rfl rfl ?_
    obtain ⟨hj, k8, hR, hk8, T⟩ := T
    refine e_aa rfl (g_132) hj hR ?_
    refine e_cvI (as := []) (rs := []) rfl rfl (shs_g k8 hk8) rfl T (fun x_4 I_5 J_6 T => ?_)
    try dsimp only at T
    refine e_b rfl rfl rfl (fun hA => ?_) (fun hA => ?_)
    · replace T := T.1 hA
      refine e_l rfl rfl rfl ?_
      refine e_gr rfl (g_0) rfl (r_0_9) ?_
      refine e_l rfl rfl rfl ?_
      obtain ⟨hj, k18, hR, hk18, T⟩ := T
      refine e_aa rfl (g_132) hj hR ?_
      refine e_gi rfl (shs_g k18 hk18) (by decide) ?_
      refine e_si (Lf := fun y2_7 => [some (.ref 0), some (.int v1), some (.int y2_7)]) rfl rfl rfl (fun y2_7 hy2_7 => ?_)
      replace T := T y2_7 hy2_7
      refine e_l rfl rfl rfl ?_
      refine e_gr rfl (g_0) rfl (r_0_9) ?_
      refine e_l rfl rfl rfl ?_
      obtain ⟨hj, k24, hR, hk24, T⟩ := T
      refine e_aa rfl (g_132) hj hR ?_
      refine e_k rfl rfl rfl ic_m1 ?_
      refine e_k rfl rfl rfl ic_0 ?_
      refine e_cvV (as := [.int (-1), .int 0]) (rs := []) rfl rfl (shs_g k24 hk24) rfl T (fun I_9 J_10 T => ?_)
      try dsimp only at T
      refine e_l rfl rfl rfl ?_
      exact e_ri rfl rfl ⟨_, rfl, T⟩
    · replace T := T.2 hA
      refine e_l rfl rfl rfl ?_
      refine e_k rfl rfl rfl ic_1 ?_
      refine e_cvI (as := [.int 1]) (rs := []) rfl rfl (g_0) rfl T (fun x_11 I_12 J_13 T => ?_)
      try dsimp only at T
      exact e_ri rfl rfl ⟨_, rfl, T⟩
  · replace T := T.2 hA
    refine e_k rfl rfl rfl ib_m2 ?_
    exact e_ri rfl rfl ⟨_, rfl, T⟩
set_option maxRecDepth 10000 in
set_option maxHeartbeats 4000000 in
theorem vc_X10_lay {X : mm_X} {d : Nat} {I : tI} {J : tJ} {P : Int32 → tI → tJ → Prop} {v1 : Int32} {v2 : Int32} {v3 : Int32} {v4 : Int32}  (T : EI X d n_X10_isSheet [.int v1] I J (fun x_1 I_2 J_3 => (x_1 = 0 → (P (-2) I_2 J_3)) ∧ (¬ (x_1 = 0) → (EI X d n_X10_isForm [.int v2] I_2 J_3 (fun x_4 I_5 J_6 => (x_4 ≠ 0 → (EI X d n_X10_findingAt [.ref 0, .int v1, .int v2, .int v3] I_5 J_6 (fun x_7 I_8 J_9 => (x_7 = 0 → (ix v1 4 ∧ (∃ k23, mm_R0 132 (tn v1) = some k23 ∧ k23 ∈ mm_shs ∧ (EV X d n_X6_put [.ref k23, .int v3, .int v4] I_8 J_9 (fun I_11 J_12 => P 1 I_11 J_12))))) ∧ (¬ (x_7 = 0) → (EI X d n_X10_found [.ref 0, .int x_7] I_8 J_9 (fun x_13 I_14 J_15 => P x_13 I_14 J_15)))))) ∧ (¬ (x_4 ≠ 0) → (P (-2) I_5 J_6))))))) : EI X (d + 1) n_X10_lay [.ref 0, .int v1, .int v2, .int v3, .int v4] I J P := by
  refine ⟨M_X10_lay, tb_X10_lay, Nat.le_of_ble_eq_true rfl, ?_⟩
  show Er X (d + 1) M_X10_lay 0 [some (.ref 0), some (.int v1), some (.int v2), some (.int v3), some (.int v4), none] [] I J (qI P)
  refine e_l rfl rfl rfl ?_
  refine e_csI (as := [.int v1]) (rs := []) rfl rfl rfl T (fun x_1 I_2 J_3 T => ?_)
  try dsimp only at T
  refine e_b rfl rfl rfl (fun hA => ?_) (fun hA => ?_)
  · replace T := T.1 hA
    refine e_k rfl rfl rfl ib_m2 ?_
    exact e_ri rfl rfl ⟨_, rfl, T⟩
  · replace T := T.2 hA
    refine e_l rfl rfl rfl ?_
    refine e_csI (as := [.int v2]) (rs := []) rfl rfl rfl T (fun x_4 I_5 J_6 T => ?_)
    try dsimp only at T
    refine e_b rfl rfl rfl (fun hA => ?_) (fun hA => ?_)
    · replace T := T.1 hA
      refine e_l rfl rfl rfl ?_
      refine e_l rfl rfl rfl ?_
      refine e_l rfl rfl rfl ?_
      refine e_l rfl rfl rfl ?_
      refine e_cvI (as := [.int v1, .int v2, .int v3]) (rs := []) rfl rfl (g_0) rfl T (fun x_7 I_8 J_9 T => ?_)
      try dsimp only at T
      refine e_l (L' := [some (.ref 0), some (.int v1), some (.int v2), some (.int v3), some (.int v4), some (.int x_7)]) rfl rfl rfl ?_
      refine e_l rfl rfl rfl ?_
      refine e_b rfl rfl rfl (fun hA => ?_) (fun hA => ?_)
      · replace T := T.1 hA
        refine e_l rfl rfl rfl ?_
        refine e_gr rfl (g_0) rfl (r_0_9) ?_
        refine e_l rfl rfl rfl ?_
        obtain ⟨hj, k23, hR, hk23, T⟩ := T
        refine e_aa rfl (g_132) hj hR ?_
        refine e_l rfl rfl rfl ?_
        refine e_l rfl rfl rfl ?_
        refine e_cvV (as := [.int v3, .int v4]) (rs := []) rfl rfl (shs_g k23 hk23) rfl T (fun I_11 J_12 T => ?_)
        try dsimp only at T
        refine e_k rfl rfl rfl ic_1 ?_
        exact e_ri rfl rfl ⟨_, rfl, T⟩
      · replace T := T.2 hA
        refine e_l rfl rfl rfl ?_
        refine e_l rfl rfl rfl ?_
        refine e_cvI (as := [.int x_7]) (rs := []) rfl rfl (g_0) rfl T (fun x_13 I_14 J_15 T => ?_)
        try dsimp only at T
        exact e_ri rfl rfl ⟨_, rfl, T⟩
    · replace T := T.2 hA
      refine e_k rfl rfl rfl ib_m2 ?_
      exact e_ri rfl rfl ⟨_, rfl, T⟩
set_option maxRecDepth 10000 in
set_option maxHeartbeats 4000000 in
theorem vc_X10_get {X : mm_X} {d : Nat} {I : tI} {J : tJ} {P : Int32 → tI → tJ → Prop} {v1 : Int32} {v2 : Int32} {v3 : Int32}  (T : EI X d n_X10_isSheet [.int v1] I J (fun x_1 I_2 J_3 => (x_1 = 0 → (P (-2147483648) I_2 J_3)) ∧ (¬ (x_1 = 0) → (EI X d n_X10_isForm [.int v2] I_2 J_3 (fun x_4 I_5 J_6 => (x_4 ≠ 0 → (EI X d n_X10_findingAt [.ref 0, .int v1, .int v2, .int v3] I_5 J_6 (fun x_7 I_8 J_9 => (x_7 = 0 → (ix v1 4 ∧ (∃ k24, mm_R0 132 (tn v1) = some k24 ∧ k24 ∈ mm_shs ∧ (ix v3 60 ∧ (P (I_8 (k24 + 1) (tn v3)) I_8 J_9))))) ∧ (¬ (x_7 = 0) → (P (-2147483648) (mm_u I_8 0 10 x_7) J_9))))) ∧ (¬ (x_4 ≠ 0) → (P (-2147483648) I_5 J_6))))))) : EI X (d + 1) n_X10_get [.ref 0, .int v1, .int v2, .int v3] I J P := by
  refine ⟨M_X10_get, tb_X10_get, Nat.le_of_ble_eq_true rfl, ?_⟩
  show Er X (d + 1) M_X10_get 0 [some (.ref 0), some (.int v1), some (.int v2), some (.int v3), none] [] I J (qI P)
  refine e_l rfl rfl rfl ?_
  refine e_csI (as := [.int v1]) (rs := []) rfl rfl rfl T (fun x_1 I_2 J_3 T => ?_)
  try dsimp only at T
  refine e_b rfl rfl rfl (fun hA => ?_) (fun hA => ?_)
  · replace T := T.1 hA
    refine e_k rfl rfl rfl ik_2147483648 ?_
    exact e_ri rfl rfl ⟨_, rfl, T⟩
  · replace T := T.2 hA
    refine e_l rfl rfl rfl ?_
    refine e_csI (as := [.int v2]) (rs := []) rfl rfl rfl T (fun x_4 I_5 J_6 T => ?_)
    try dsimp only at T
    refine e_b rfl rfl rfl (fun hA => ?_) (fun hA => ?_)
    · replace T := T.1 hA
      refine e_l rfl rfl rfl ?_
      refine e_l rfl rfl rfl ?_
      refine e_l rfl rfl rfl ?_
      refine e_l rfl rfl rfl ?_
      refine e_cvI (as := [.int v1, .int v2, .int v3]) (rs := []) rfl rfl (g_0) rfl T (fun x_7 I_8 J_9 T => ?_)
      try dsimp only at T
      refine e_l (L' := [some (.ref 0), some (.int v1), some (.int v2), some (.int v3), some (.int x_7)]) rfl rfl rfl ?_
      refine e_l rfl rfl rfl ?_
      refine e_b rfl rfl rfl (fun hA => ?_) (fun hA => ?_)
      · replace T := T.1 hA
        refine e_l rfl rfl rfl ?_
        refine e_gr rfl (g_0) rfl (r_0_9) ?_
        refine e_l rfl rfl rfl ?_
        obtain ⟨hj, k24, hR, hk24, T⟩ := T
        refine e_aa rfl (g_132) hj hR ?_
        refine e_gr rfl (shs_g k24 hk24) rfl (shs_r2 k24 hk24) ?_
        refine e_l rfl rfl rfl ?_
        refine e_ia rfl (shs_a1 k24 hk24) T.1 ?_
        replace T := T.2
        exact e_ri rfl rfl ⟨_, rfl, T⟩
      · replace T := T.2 hA
        refine e_l rfl rfl rfl ?_
        refine e_l rfl rfl rfl ?_
        refine e_pi rfl (g_0) rfl ?_
        refine e_k rfl rfl rfl ik_2147483648 ?_
        exact e_ri rfl rfl ⟨_, rfl, T⟩
    · replace T := T.2 hA
      refine e_k rfl rfl rfl ik_2147483648 ?_
      exact e_ri rfl rfl ⟨_, rfl, T⟩
set_option maxRecDepth 10000 in
set_option maxHeartbeats 4000000 in
theorem vc_X10_copy {X : mm_X} {d : Nat} {I : tI} {J : tJ} {P : Int32 → tI → tJ → Prop} {v1 : Int32} {v2 : Int32} {v3 : Int32} {v4 : Int32} {v5 : Int32}  (T : EI X d n_X10_isSheet [.int v1] I J (fun x_1 I_2 J_3 => (x_1 = 0 → (P (-2) I_2 J_3)) ∧ (¬ (x_1 = 0) → (EI X d n_X10_isSheet [.int v3] I_2 J_3 (fun x_4 I_5 J_6 => (x_4 ≠ 0 → (ix v1 4 ∧ (∃ k11, mm_R0 132 (tn v1) = some k11 ∧ k11 ∈ mm_shs ∧ (ix v3 4 ∧ (∃ k16, mm_R0 132 (tn v3) = some k16 ∧ k16 ∈ mm_shs ∧ (EI X d n_X6_isLost [.ref k11] I_5 J_6 (fun x_7 I_8 J_9 => (x_7 ≠ 0 → (EI X d n_X10_found [.ref 0, .int 1] I_8 J_9 (fun x_10 I_11 J_12 => P x_10 I_11 J_12))) ∧ (¬ (x_7 ≠ 0) → (EI X d n_X6_isLost [.ref k16] I_8 J_9 (fun x_13 I_14 J_15 => (x_13 = 0 → (((I_14 k11 0) = (I_14 k16 0) → (EI X d n_X6_hasRun [.ref k11, .int v2, .int v5] I_14 J_15 (fun x_16 I_17 J_18 => (x_16 = 0 → (EI X d n_X10_found [.ref 0, .int 2] I_17 J_18 (fun x_19 I_20 J_21 => P x_19 I_20 J_21))) ∧ (¬ (x_16 = 0) → (EI X d n_X6_hasRun [.ref k16, .int v4, .int v5] I_17 J_18 (fun x_22 I_23 J_24 => (x_22 ≠ 0 → ((¬ v2 < 0 ∧ ¬ v4 < 0 ∧ ¬ v5 < 0 ∧ tn v2 + tn v5 ≤ 60 ∧ tn v4 + tn v5 ≤ 60) ∧ (∀ I_25 : tI, I_25 = (mm_z I_23 (k16 + 1) (va_cpy (I_23 (k11 + 1)) (I_23 (k16 + 1)) (tn v2) (tn v4) (tn v5))) → (P 1 I_25 J_24)))) ∧ (¬ (x_22 ≠ 0) → (EI X d n_X10_found [.ref 0, .int 2] I_23 J_24 (fun x_26 I_27 J_28 => P x_26 I_27 J_28))))))))) ∧ (¬ ((I_14 k11 0) = (I_14 k16 0)) → (EI X d n_X10_found [.ref 0, .int 4] I_14 J_15 (fun x_29 I_30 J_31 => P x_29 I_30 J_31))))) ∧ (¬ (x_13 = 0) → (EI X d n_X10_found [.ref 0, .int 1] I_14 J_15 (fun x_32 I_33 J_34 => P x_32 I_33 J_34))))))))))))) ∧ (¬ (x_4 ≠ 0) → (P (-2) I_5 J_6))))))) : EI X (d + 1) n_X10_copy [.ref 0, .int v1, .int v2, .int v3, .int v4, .int v5] I J P := by
  refine ⟨M_X10_copy, tb_X10_copy, Nat.le_of_ble_eq_true rfl, ?_⟩
  show Er X (d + 1) M_X10_copy 0 [some (.ref 0), some (.int v1), some (.int v2), some (.int v3), some (.int v4), some (.int v5), none, none] [] I J (qI P)
  refine e_l rfl rfl rfl ?_
  refine e_csI (as := [.int v1]) (rs := []) rfl rfl rfl T (fun x_1 I_2 J_3 T => ?_)
  try dsimp only at T
  refine e_b rfl rfl rfl (fun hA => ?_) (fun hA => ?_)
  · replace T := T.1 hA
    refine e_k rfl rfl rfl ib_m2 ?_
    exact e_ri rfl rfl ⟨_, rfl, T⟩
  · replace T := T.2 hA
    refine e_l rfl rfl rfl ?_
    refine e_csI (as := [.int v3]) (rs := []) rfl rfl rfl T (fun x_4 I_5 J_6 T => ?_)
    try dsimp only at T
    refine e_b rfl rfl rfl (fun hA => ?_) (fun hA => ?_)
    · replace T := T.1 hA
      refine e_l rfl rfl rfl ?_
      refine e_gr rfl (g_0) rfl (r_0_9) ?_
      refine e_l rfl rfl rfl ?_
      obtain ⟨hj, k11, hR, hk11, T⟩ := T
      refine e_aa rfl (g_132) hj hR ?_
      refine e_l (L' := [some (.ref 0), some (.int v1), some (.int v2), some (.int v3), some (.int v4), some (.int v5), some (.ref k11), none]) rfl rfl rfl ?_
      refine e_l rfl rfl rfl ?_
      refine e_gr rfl (g_0) rfl (r_0_9) ?_
      refine e_l rfl rfl rfl ?_
      obtain ⟨hj, k16, hR, hk16, T⟩ := T
      refine e_aa rfl (g_132) hj hR ?_
      refine e_l (L' := [some (.ref 0), some (.int v1), some (.int v2), some (.int v3), some (.int v4), some (.int v5), some (.ref k11), some (.ref k16)]) rfl rfl rfl ?_
      refine e_l rfl rfl rfl ?_
      refine e_cvI (as := []) (rs := []) rfl rfl (shs_g k11 hk11) rfl T (fun x_7 I_8 J_9 T => ?_)
      try dsimp only at T
      refine e_b rfl rfl rfl (fun hA => ?_) (fun hA => ?_)
      · replace T := T.1 hA
        refine e_l rfl rfl rfl ?_
        refine e_k rfl rfl rfl ic_1 ?_
        refine e_cvI (as := [.int 1]) (rs := []) rfl rfl (g_0) rfl T (fun x_10 I_11 J_12 T => ?_)
        try dsimp only at T
        exact e_ri rfl rfl ⟨_, rfl, T⟩
      · replace T := T.2 hA
        refine e_l rfl rfl rfl ?_
        refine e_cvI (as := []) (rs := []) rfl rfl (shs_g k16 hk16) rfl T (fun x_13 I_14 J_15 T => ?_)
        try dsimp only at T
        refine e_b rfl rfl rfl (fun hA => ?_) (fun hA => ?_)
        · replace T := T.1 hA
          refine e_l rfl rfl rfl ?_
          refine e_gi rfl (shs_g k11 hk11) (by decide) ?_
          refine e_l rfl rfl rfl ?_
          refine e_gi rfl (shs_g k16 hk16) (by decide) ?_
          refine e_b rfl rfl rfl (fun hA => ?_) (fun hA => ?_)
          · replace T := T.1 hA
            refine e_l rfl rfl rfl ?_
            refine e_l rfl rfl rfl ?_
            refine e_l rfl rfl rfl ?_
            refine e_cvI (as := [.int v2, .int v5]) (rs := []) rfl rfl (shs_g k11 hk11) rfl T (fun x_16 I_17 J_18 T => ?_)
            try dsimp only at T
            refine e_b rfl rfl rfl (fun hA => ?_) (fun hA => ?_)
            · replace T := T.1 hA
              refine e_l rfl rfl rfl ?_
              refine e_k rfl rfl rfl ic_2 ?_
              refine e_cvI (as := [.int 2]) (rs := []) rfl rfl (g_0) rfl T (fun x_19 I_20 J_21 T => ?_)
              try dsimp only at T
              exact e_ri rfl rfl ⟨_, rfl, T⟩
            · replace T := T.2 hA
              refine e_l rfl rfl rfl ?_
              refine e_l rfl rfl rfl ?_
              refine e_l rfl rfl rfl ?_
              refine e_cvI (as := [.int v4, .int v5]) (rs := []) rfl rfl (shs_g k16 hk16) rfl T (fun x_22 I_23 J_24 T => ?_)
              try dsimp only at T
              refine e_b rfl rfl rfl (fun hA => ?_) (fun hA => ?_)
              · replace T := T.1 hA
                refine e_l rfl rfl rfl ?_
                refine e_gr rfl (shs_g k11 hk11) rfl (shs_r2 k11 hk11) ?_
                refine e_l rfl rfl rfl ?_
                refine e_l rfl rfl rfl ?_
                refine e_gr rfl (shs_g k16 hk16) rfl (shs_r2 k16 hk16) ?_
                refine e_l rfl rfl rfl ?_
                refine e_l rfl rfl rfl ?_
                refine e_cp2 rfl (Nat.le_of_ble_eq_true rfl) (shs_a1 k11 hk11) (shs_a1 k16 hk16) T.1 (fun I_25 hI_25 => ?_)
                replace T := T.2 I_25 hI_25
                refine e_k rfl rfl rfl ic_1 ?_
                exact e_ri rfl rfl ⟨_, rfl, T⟩
              · replace T := T.2 hA
                refine e_l rfl rfl rfl ?_
                refine e_k rfl rfl rfl ic_2 ?_
                refine e_cvI (as := [.int 2]) (rs := []) rfl rfl (g_0) rfl T (fun x_26 I_27 J_28 T => ?_)
                try dsimp only at T
                exact e_ri rfl rfl ⟨_, rfl, T⟩
          · replace T := T.2 hA
            refine e_l rfl rfl rfl ?_
            refine e_k rfl rfl rfl ic_4 ?_
            refine e_cvI (as := [.int 4]) (rs := []) rfl rfl (g_0) rfl T (fun x_29 I_30 J_31 T => ?_)
            try dsimp only at T
            exact e_ri rfl rfl ⟨_, rfl, T⟩
        · replace T := T.2 hA
          refine e_l rfl rfl rfl ?_
          refine e_k rfl rfl rfl ic_1 ?_
          refine e_cvI (as := [.int 1]) (rs := []) rfl rfl (g_0) rfl T (fun x_32 I_33 J_34 T => ?_)
          try dsimp only at T
          exact e_ri rfl rfl ⟨_, rfl, T⟩
    · replace T := T.2 hA
      refine e_k rfl rfl rfl ib_m2 ?_
      exact e_ri rfl rfl ⟨_, rfl, T⟩
set_option maxRecDepth 10000 in
set_option maxHeartbeats 4000000 in
theorem vc_X10_write {X : mm_X} {d : Nat} {I : tI} {J : tJ} {P : Int32 → tI → tJ → Prop} {v1 : Int32} {v2 : Int32}  (T : EI X d n_X10_isHour [.int v1] I J (fun x_1 I_2 J_3 => (x_1 = 0 → (P (-2) I_2 J_3)) ∧ (¬ (x_1 = 0) → (EI X d n_X10_isSheet [.int v2] I_2 J_3 (fun x_4 I_5 J_6 => (x_4 ≠ 0 → (ix v2 4 ∧ (∃ k11, mm_R0 132 (tn v2) = some k11 ∧ k11 ∈ mm_shs ∧ (EI X d n_X6_isLost [.ref k11] I_5 J_6 (fun x_7 I_8 J_9 => (x_7 = 0 → (EV X d n_X2_bringUpToDate [.ref 11] I_8 J_9 (fun I_11 J_12 => ix v2 4 ∧ (∃ k24, mm_R0 132 (tn v2) = some k24 ∧ k24 ∈ mm_shs ∧ (∀ y3_13 : Int32, y3_13 = (if (I_11 2 2) < (I_11 k24 1) then (I_11 2 2) else (I_11 k24 1)) → (Er X (d + 1) M_X10_write 33 [some (.ref 0), some (.int v1), some (.int v2), some (.int y3_13), some (.int 0)] [] I_11 J_12 (qI P))))))) ∧ (¬ (x_7 = 0) → (EI X d n_X10_found [.ref 0, .int 1] I_8 J_9 (fun x_14 I_15 J_16 => P x_14 I_15 J_16)))))))) ∧ (¬ (x_4 ≠ 0) → (P (-2) I_5 J_6))))))) : EI X (d + 1) n_X10_write [.ref 0, .int v1, .int v2] I J P := by
  refine ⟨M_X10_write, tb_X10_write, Nat.le_of_ble_eq_true rfl, ?_⟩
  show Er X (d + 1) M_X10_write 0 [some (.ref 0), some (.int v1), some (.int v2), none, none] [] I J (qI P)
  refine e_l rfl rfl rfl ?_
  refine e_csI (as := [.int v1]) (rs := []) rfl rfl rfl T (fun x_1 I_2 J_3 T => ?_)
  try dsimp only at T
  refine e_b rfl rfl rfl (fun hA => ?_) (fun hA => ?_)
  · replace T := T.1 hA
    refine e_k rfl rfl rfl ib_m2 ?_
    exact e_ri rfl rfl ⟨_, rfl, T⟩
  · replace T := T.2 hA
    refine e_l rfl rfl rfl ?_
    refine e_csI (as := [.int v2]) (rs := []) rfl rfl rfl T (fun x_4 I_5 J_6 T => ?_)
    try dsimp only at T
    refine e_b rfl rfl rfl (fun hA => ?_) (fun hA => ?_)
    · replace T := T.1 hA
      refine e_l rfl rfl rfl ?_
      refine e_gr rfl (g_0) rfl (r_0_9) ?_
      refine e_l rfl rfl rfl ?_
      obtain ⟨hj, k11, hR, hk11, T⟩ := T
      refine e_aa rfl (g_132) hj hR ?_
      refine e_cvI (as := []) (rs := []) rfl rfl (shs_g k11 hk11) rfl T (fun x_7 I_8 J_9 T => ?_)
      try dsimp only at T
      refine e_b rfl rfl rfl (fun hA => ?_) (fun hA => ?_)
      · replace T := T.1 hA
        refine e_l rfl rfl rfl ?_
        refine e_gr rfl (g_0) rfl (r_0_2) ?_
        refine e_cvV (as := []) (rs := []) rfl rfl (g_11) rfl T (fun I_11 J_12 T => ?_)
        try dsimp only at T
        refine e_l rfl rfl rfl ?_
        refine e_gr rfl (g_0) rfl (r_0_9) ?_
        refine e_l rfl rfl rfl ?_
        obtain ⟨hj, k24, hR, hk24, T⟩ := T
        refine e_aa rfl (g_132) hj hR ?_
        refine e_gi rfl (shs_g k24 hk24) (by decide) ?_
        refine e_l rfl rfl rfl ?_
        refine e_gr rfl (g_0) rfl (r_0_1) ?_
        refine e_gi rfl (g_2) (by decide) ?_
        refine e_mn rfl (Nat.le_of_ble_eq_true rfl) ?_
        refine e_si (Lf := fun y3_13 => [some (.ref 0), some (.int v1), some (.int v2), some (.int y3_13), none]) rfl rfl rfl (fun y3_13 hy3_13 => ?_)
        replace T := T y3_13 hy3_13
        refine e_k rfl rfl rfl ic_0 ?_
        refine e_l (L' := [some (.ref 0), some (.int v1), some (.int v2), some (.int y3_13), some (.int 0)]) rfl rfl rfl ?_
        exact T
      · replace T := T.2 hA
        refine e_l rfl rfl rfl ?_
        refine e_k rfl rfl rfl ic_1 ?_
        refine e_cvI (as := [.int 1]) (rs := []) rfl rfl (g_0) rfl T (fun x_14 I_15 J_16 T => ?_)
        try dsimp only at T
        exact e_ri rfl rfl ⟨_, rfl, T⟩
    · replace T := T.2 hA
      refine e_k rfl rfl rfl ib_m2 ?_
      exact e_ri rfl rfl ⟨_, rfl, T⟩
set_option maxRecDepth 10000 in
set_option maxHeartbeats 4000000 in
theorem vc_X10_write_33 {X : mm_X} {d : Nat} {I : tI} {J : tJ} {P : Int32 → tI → tJ → Prop} {v1 : Int32} {v2 : Int32} {v3 : Int32} {v4 : Int32}  (T : (v3 ≤ v4 → (P v3 I J)) ∧ (¬ (v3 ≤ v4) → (ix v2 4 ∧ (∃ k39, mm_R0 132 (tn v2) = some k39 ∧ k39 ∈ mm_shs ∧ (ix ((v1 * 8) + v4) 240 ∧ (EV X d n_X6_put [.ref k39, .int v4, .int (I 12 (tn ((v1 * 8) + v4)))] I J (fun I_2 J_3 => Er X (d + 1) M_X10_write 33 [some (.ref 0), some (.int v1), some (.int v2), some (.int v3), some (.int (v4 + 1))] [] I_2 J_3 (qI P)))))))) : Er X (d + 1) M_X10_write 33 [some (.ref 0), some (.int v1), some (.int v2), some (.int v3), some (.int v4)] [] I J (qI P) := by
  refine e_l rfl rfl rfl ?_
  refine e_l rfl rfl rfl ?_
  refine e_b rfl rfl rfl (fun hA => ?_) (fun hA => ?_)
  · replace T := T.1 hA
    refine e_l rfl rfl rfl ?_
    exact e_ri rfl rfl ⟨_, rfl, T⟩
  · replace T := T.2 hA
    refine e_l rfl rfl rfl ?_
    refine e_gr rfl (g_0) rfl (r_0_9) ?_
    refine e_l rfl rfl rfl ?_
    obtain ⟨hj, k39, hR, hk39, T⟩ := T
    refine e_aa rfl (g_132) hj hR ?_
    refine e_l rfl rfl rfl ?_
    refine e_l rfl rfl rfl ?_
    refine e_gr rfl (g_0) rfl (r_0_2) ?_
    refine e_gr rfl (g_11) rfl (r_11_2) ?_
    refine e_l rfl rfl rfl ?_
    refine e_k rfl rfl rfl ib_8 ?_
    refine e_p rfl rfl rfl ?_
    refine e_l rfl rfl rfl ?_
    refine e_p rfl rfl rfl ?_
    refine e_ia rfl (g_12) T.1 ?_
    replace T := T.2
    refine e_cvV (as := [.int v4, .int (I 12 (tn ((v1 * 8) + v4)))]) (rs := []) rfl rfl (shs_g k39 hk39) rfl T (fun I_2 J_3 T => ?_)
    try dsimp only at T
    refine e_ic (v := (v4 + 1)) (L' := [some (.ref 0), some (.int v1), some (.int v2), some (.int v3), some (.int (v4 + 1))]) rfl rfl rfl ic_1 rfl ?_
    refine e_g rfl ?_
    exact T
set_option maxRecDepth 10000 in
set_option maxHeartbeats 4000000 in
theorem vc_X10_count {X : mm_X} {d : Nat} {I : tI} {J : tJ} {P : Int32 → tI → tJ → Prop} {v1 : Int32}  (T : (Int32.toInt v1 = 0 → (P (I 2 0) I J)) ∧ (¬ Int32.toInt v1 = 0 → ((Int32.toInt v1 = 1 → (P (I 2 2) I J)) ∧ (¬ Int32.toInt v1 = 1 → ((Int32.toInt v1 = 2 → (P (I 133 1) I J)) ∧ (¬ Int32.toInt v1 = 2 → ((Int32.toInt v1 = 3 → (P (I 135 1) I J)) ∧ (¬ Int32.toInt v1 = 3 → ((Int32.toInt v1 = 4 → (P (I 2 7) I J)) ∧ (¬ Int32.toInt v1 = 4 → ((Int32.toInt v1 = 5 → (P (I 2 10) I J)) ∧ (¬ Int32.toInt v1 = 5 → ((Int32.toInt v1 = 6 → (EI X d n_X10_timesLetGo [.ref 0] I J (fun x_1 I_2 J_3 => P x_1 I_2 J_3))) ∧ (¬ Int32.toInt v1 = 6 → ((Int32.toInt v1 = 7 → (P (I 32 4) I J)) ∧ (¬ Int32.toInt v1 = 7 → ((Int32.toInt v1 = 8 → (P (I 0 10) I J)) ∧ (¬ Int32.toInt v1 = 8 → (P (-2) I J))))))))))))))))))) : EI X (d + 1) n_X10_count [.ref 0, .int v1] I J P := by
  refine ⟨M_X10_count, tb_X10_count, Nat.le_of_ble_eq_true rfl, ?_⟩
  show Er X (d + 1) M_X10_count 0 [some (.ref 0), some (.int v1)] [] I J (qI P)
  refine e_l rfl rfl rfl ?_
  refine e_sw rfl rfl rfl ?_
  show Er X _ _ (mm_tg [(0, 2), (1, 6), (2, 10), (3, 16), (4, 22), (5, 26), (6, 30), (7, 33), (8, 37)] 40 v1) _ _ _ _ _
  refine e_tg (fun hA => ?_) (fun hA => ?_)
  · replace T := T.1 hA
    refine e_l rfl rfl rfl ?_
    refine e_gr rfl (g_0) rfl (r_0_1) ?_
    refine e_gi rfl (g_2) (by decide) ?_
    exact e_ri rfl rfl ⟨_, rfl, T⟩
  replace T := T.2 hA
  refine e_tg (fun hA => ?_) (fun hA => ?_)
  · replace T := T.1 hA
    refine e_l rfl rfl rfl ?_
    refine e_gr rfl (g_0) rfl (r_0_1) ?_
    refine e_gi rfl (g_2) (by decide) ?_
    exact e_ri rfl rfl ⟨_, rfl, T⟩
  replace T := T.2 hA
  refine e_tg (fun hA => ?_) (fun hA => ?_)
  · replace T := T.1 hA
    refine e_l rfl rfl rfl ?_
    refine e_gr rfl (g_0) rfl (r_0_0) ?_
    refine e_k rfl rfl rfl ic_0 ?_
    refine e_aa rfl (g_1) (by decide) r_1_0 ?_
    refine e_gi rfl (g_133) (by decide) ?_
    exact e_ri rfl rfl ⟨_, rfl, T⟩
  replace T := T.2 hA
  refine e_tg (fun hA => ?_) (fun hA => ?_)
  · replace T := T.1 hA
    refine e_l rfl rfl rfl ?_
    refine e_gr rfl (g_0) rfl (r_0_0) ?_
    refine e_k rfl rfl rfl ic_1 ?_
    refine e_aa rfl (g_1) (by decide) r_1_1 ?_
    refine e_gi rfl (g_135) (by decide) ?_
    exact e_ri rfl rfl ⟨_, rfl, T⟩
  replace T := T.2 hA
  refine e_tg (fun hA => ?_) (fun hA => ?_)
  · replace T := T.1 hA
    refine e_l rfl rfl rfl ?_
    refine e_gr rfl (g_0) rfl (r_0_1) ?_
    refine e_gi rfl (g_2) (by decide) ?_
    exact e_ri rfl rfl ⟨_, rfl, T⟩
  replace T := T.2 hA
  refine e_tg (fun hA => ?_) (fun hA => ?_)
  · replace T := T.1 hA
    refine e_l rfl rfl rfl ?_
    refine e_gr rfl (g_0) rfl (r_0_1) ?_
    refine e_gi rfl (g_2) (by decide) ?_
    exact e_ri rfl rfl ⟨_, rfl, T⟩
  replace T := T.2 hA
  refine e_tg (fun hA => ?_) (fun hA => ?_)
  · replace T := T.1 hA
    refine e_l rfl rfl rfl ?_
    refine e_cvI (as := []) (rs := []) rfl rfl (g_0) rfl T (fun x_1 I_2 J_3 T => ?_)
    try dsimp only at T
    exact e_ri rfl rfl ⟨_, rfl, T⟩
  replace T := T.2 hA
  refine e_tg (fun hA => ?_) (fun hA => ?_)
  · replace T := T.1 hA
    refine e_l rfl rfl rfl ?_
    refine e_gr rfl (g_0) rfl (r_0_5) ?_
    refine e_gi rfl (g_32) (by decide) ?_
    exact e_ri rfl rfl ⟨_, rfl, T⟩
  replace T := T.2 hA
  refine e_tg (fun hA => ?_) (fun hA => ?_)
  · replace T := T.1 hA
    refine e_l rfl rfl rfl ?_
    refine e_gi rfl (g_0) (by decide) ?_
    exact e_ri rfl rfl ⟨_, rfl, T⟩
  replace T := T.2 hA
  refine e_tg0 ?_
  refine e_k rfl rfl rfl ib_m2 ?_
  exact e_ri rfl rfl ⟨_, rfl, T⟩
set_option maxRecDepth 10000 in
set_option maxHeartbeats 4000000 in
theorem vc_X10_digest {X : mm_X} {d : Nat} {I : tI} {J : tJ} {P : Int64 → tI → tJ → Prop}   (T : Er X (d + 1) M_X10_digest 4 [some (.ref 0), some (.long 17), none, some (.int 0)] [] I J (qL P)) : EL X (d + 1) n_X10_digest [.ref 0] I J P := by
  refine ⟨M_X10_digest, tb_X10_digest, Nat.le_of_ble_eq_true rfl, ?_⟩
  show Er X (d + 1) M_X10_digest 0 [some (.ref 0), none, none, none] [] I J (qL P)
  refine e_kl rfl rfl rfl lk_17 ?_
  refine e_l (L' := [some (.ref 0), some (.long 17), none, none]) rfl rfl rfl ?_
  refine e_k rfl rfl rfl ic_0 ?_
  refine e_l (L' := [some (.ref 0), some (.long 17), none, some (.int 0)]) rfl rfl rfl ?_
  exact T
set_option maxRecDepth 10000 in
set_option maxHeartbeats 4000000 in
theorem vc_X10_digest_4 {X : mm_X} {d : Nat} {I : tI} {J : tJ} {P : Int64 → tI → tJ → Prop} {v1 : Int64} {v3 : Int32}  (T : (7 < v3 → (EI X d n_X10_fault [.ref 0, .int 0] I J (fun x_1 I_2 J_3 => EL X d n_X10_mix [.long v1, .long (Int32.toInt64 x_1)] I_2 J_3 (fun x_4 I_5 J_6 => EI X d n_X10_fault [.ref 0, .int 1] I_5 J_6 (fun x_7 I_8 J_9 => EL X d n_X10_mix [.long x_4, .long (Int32.toInt64 x_7)] I_8 J_9 (fun x_10 I_11 J_12 => Er X (d + 1) M_X10_digest 32 [some (.ref 0), some (.long x_10), none, some (.int 0)] [] I_11 J_12 (qL P))))))) ∧ (¬ (7 < v3) → (EI X d n_X10_count [.ref 0, .int v3] I J (fun x_13 I_14 J_15 => EL X d n_X10_mix [.long v1, .long (Int32.toInt64 x_13)] I_14 J_15 (fun x_16 I_17 J_18 => Er X (d + 1) M_X10_digest 4 [some (.ref 0), some (.long x_16), none, some (.int (v3 + 1))] [] I_17 J_18 (qL P)))))) : Er X (d + 1) M_X10_digest 4 [some (.ref 0), some (.long v1), none, some (.int v3)] [] I J (qL P) := by
  refine e_l rfl rfl rfl ?_
  refine e_k rfl rfl rfl ib_7 ?_
  refine e_b rfl rfl rfl (fun hA => ?_) (fun hA => ?_)
  · replace T := T.1 hA
    refine e_l rfl rfl rfl ?_
    refine e_l rfl rfl rfl ?_
    refine e_k rfl rfl rfl ic_0 ?_
    refine e_cvI (as := [.int 0]) (rs := [.long v1]) rfl rfl (g_0) rfl T (fun x_1 I_2 J_3 T => ?_)
    try dsimp only at T
    refine e_p rfl rfl rfl ?_
    refine e_csL (as := [.long v1, .long (Int32.toInt64 x_1)]) (rs := []) rfl rfl rfl T (fun x_4 I_5 J_6 T => ?_)
    try dsimp only at T
    refine e_l (L' := [some (.ref 0), some (.long x_4), none, some (.int v3)]) rfl rfl rfl ?_
    refine e_l rfl rfl rfl ?_
    refine e_l rfl rfl rfl ?_
    refine e_k rfl rfl rfl ic_1 ?_
    refine e_cvI (as := [.int 1]) (rs := [.long x_4]) rfl rfl (g_0) rfl T (fun x_7 I_8 J_9 T => ?_)
    try dsimp only at T
    refine e_p rfl rfl rfl ?_
    refine e_csL (as := [.long x_4, .long (Int32.toInt64 x_7)]) (rs := []) rfl rfl rfl T (fun x_10 I_11 J_12 T => ?_)
    try dsimp only at T
    refine e_l (L' := [some (.ref 0), some (.long x_10), none, some (.int v3)]) rfl rfl rfl ?_
    refine e_k rfl rfl rfl ic_0 ?_
    refine e_l (L' := [some (.ref 0), some (.long x_10), none, some (.int 0)]) rfl rfl rfl ?_
    exact T
  · replace T := T.2 hA
    refine e_l rfl rfl rfl ?_
    refine e_l rfl rfl rfl ?_
    refine e_l rfl rfl rfl ?_
    refine e_cvI (as := [.int v3]) (rs := [.long v1]) rfl rfl (g_0) rfl T (fun x_13 I_14 J_15 T => ?_)
    try dsimp only at T
    refine e_p rfl rfl rfl ?_
    refine e_csL (as := [.long v1, .long (Int32.toInt64 x_13)]) (rs := []) rfl rfl rfl T (fun x_16 I_17 J_18 T => ?_)
    try dsimp only at T
    refine e_l (L' := [some (.ref 0), some (.long x_16), none, some (.int v3)]) rfl rfl rfl ?_
    refine e_ic (v := (v3 + 1)) (L' := [some (.ref 0), some (.long x_16), none, some (.int (v3 + 1))]) rfl rfl rfl ic_1 rfl ?_
    refine e_g rfl ?_
    exact T
set_option maxRecDepth 10000 in
set_option maxHeartbeats 4000000 in
theorem vc_X10_digest_32 {X : mm_X} {d : Nat} {I : tI} {J : tJ} {P : Int64 → tI → tJ → Prop} {v1 : Int64} {v3 : Int32}  (T : ((I 2 0) ≤ v3 → (Er X (d + 1) M_X10_digest 50 [some (.ref 0), some (.long v1), none, some (.int 0)] [] I J (qL P))) ∧ (¬ ((I 2 0) ≤ v3) → (ix v3 10 ∧ (EL X d n_X10_mix [.long v1, .long (Int32.toInt64 (I 3 (tn v3)))] I J (fun x_1 I_2 J_3 => Er X (d + 1) M_X10_digest 32 [some (.ref 0), some (.long x_1), none, some (.int (v3 + 1))] [] I_2 J_3 (qL P)))))) : Er X (d + 1) M_X10_digest 32 [some (.ref 0), some (.long v1), none, some (.int v3)] [] I J (qL P) := by
  refine e_l rfl rfl rfl ?_
  refine e_l rfl rfl rfl ?_
  refine e_gr rfl (g_0) rfl (r_0_1) ?_
  refine e_gi rfl (g_2) (by decide) ?_
  refine e_b rfl rfl rfl (fun hA => ?_) (fun hA => ?_)
  · replace T := T.1 hA
    refine e_k rfl rfl rfl ic_0 ?_
    refine e_l (L' := [some (.ref 0), some (.long v1), none, some (.int 0)]) rfl rfl rfl ?_
    exact T
  · replace T := T.2 hA
    refine e_l rfl rfl rfl ?_
    refine e_l rfl rfl rfl ?_
    refine e_gr rfl (g_0) rfl (r_0_1) ?_
    refine e_gr rfl (g_2) rfl (r_2_1) ?_
    refine e_l rfl rfl rfl ?_
    refine e_ia rfl (g_3) T.1 ?_
    replace T := T.2
    refine e_p rfl rfl rfl ?_
    refine e_csL (as := [.long v1, .long (Int32.toInt64 (I 3 (tn v3)))]) (rs := []) rfl rfl rfl T (fun x_1 I_2 J_3 T => ?_)
    try dsimp only at T
    refine e_l (L' := [some (.ref 0), some (.long x_1), none, some (.int v3)]) rfl rfl rfl ?_
    refine e_ic (v := (v3 + 1)) (L' := [some (.ref 0), some (.long x_1), none, some (.int (v3 + 1))]) rfl rfl rfl ic_1 rfl ?_
    refine e_g rfl ?_
    exact T
set_option maxRecDepth 10000 in
set_option maxHeartbeats 4000000 in
theorem vc_X10_digest_50 {X : mm_X} {d : Nat} {I : tI} {J : tJ} {P : Int64 → tI → tJ → Prop} {v1 : Int64} {v3 : Int32}  (T : ((I 2 2) ≤ v3 → (EI X d n_X10_held [.ref 0, .int 5] I J (fun x_1 I_2 J_3 => EL X d n_X10_mix [.long v1, .long (Int32.toInt64 x_1)] I_2 J_3 (fun x_4 I_5 J_6 => EI X d n_X10_spoilt [.ref 0] I_5 J_6 (fun x_7 I_8 J_9 => EL X d n_X10_mix [.long x_4, .long (Int32.toInt64 x_7)] I_8 J_9 (fun x_10 I_11 J_12 => EI X d n_X10_quiet [.ref 0] I_11 J_12 (fun x_13 I_14 J_15 => EL X d n_X10_mix [.long x_10, .long (Int32.toInt64 x_13)] I_14 J_15 (fun x_16 I_17 J_18 => EI X d n_X10_crowd [.ref 0, .int 0] I_17 J_18 (fun x_19 I_20 J_21 => EL X d n_X10_mix [.long x_16, .long (Int32.toInt64 x_19)] I_20 J_21 (fun x_22 I_23 J_24 => EI X d n_X10_crowd [.ref 0, .int 1] I_23 J_24 (fun x_25 I_26 J_27 => EL X d n_X10_mix [.long x_22, .long (Int32.toInt64 x_25)] I_26 J_27 (fun x_28 I_29 J_30 => EV X d n_X4_findSwap [.ref 31] I_29 J_30 (fun I_32 J_33 => EL X d n_X10_mix [.long x_28, .long (Int32.toInt64 (I_32 31 4))] I_32 J_33 (fun x_34 I_35 J_36 => EL X d n_X10_mix [.long x_34, .long (Int32.toInt64 (I_35 31 5))] I_35 J_36 (fun x_37 I_38 J_39 => EL X d n_X10_mix [.long x_37, .long (Int32.toInt64 (I_38 31 6))] I_38 J_39 (fun x_40 I_41 J_42 => EI X d n_X10_bear [.ref 0] I_41 J_42 (fun x_43 I_44 J_45 => EL X d n_X10_mix [.long x_40, .long (Int32.toInt64 x_43)] I_44 J_45 (fun x_46 I_47 J_48 => EI X d n_X10_ask [.ref 0, .int 5] I_47 J_48 (fun x_49 I_50 J_51 => EL X d n_X10_mix [.long x_46, .long (Int32.toInt64 x_49)] I_50 J_51 (fun x_52 I_53 J_54 => EV X d n_X3_draw [.ref 130, .int 7] I_53 J_54 (fun I_56 J_57 => EL X d n_X10_mix [.long x_52, .long (Int32.toInt64 (I_56 130 3))] I_56 J_57 (fun x_58 I_59 J_60 => EL X d n_X10_mix [.long x_58, .long (Int32.toInt64 (I_59 130 4))] I_59 J_60 (fun x_61 I_62 J_63 => P x_61 I_62 J_63))))))))))))))))))))))) ∧ (¬ ((I 2 2) ≤ v3) → (EL X d n_X10_mixTold [.ref 0, .long v1, .int v3] I J (fun x_64 I_65 J_66 => EL X d n_X10_mixFound [.ref 0, .long x_64, .int v3] I_65 J_66 (fun x_67 I_68 J_69 => Er X (d + 1) M_X10_digest 50 [some (.ref 0), some (.long x_67), none, some (.int (v3 + 1))] [] I_68 J_69 (qL P)))))) : Er X (d + 1) M_X10_digest 50 [some (.ref 0), some (.long v1), none, some (.int v3)] [] I J (qL P) := by
  refine e_l rfl rfl rfl ?_
  refine e_l rfl rfl rfl ?_
  refine e_gr rfl (g_0) rfl (r_0_1) ?_
  refine e_gi rfl (g_2) (by decide) ?_
  refine e_b rfl rfl rfl (fun hA => ?_) (fun hA => ?_)
  · replace T := T.1 hA
    refine e_l rfl rfl rfl ?_
    refine e_l rfl rfl rfl ?_
    refine e_k rfl rfl rfl ic_5 ?_
    refine e_cvI (as := [.int 5]) (rs := [.long v1]) rfl rfl (g_0) rfl T (fun x_1 I_2 J_3 T => ?_)
    try dsimp only at T
    refine e_p rfl rfl rfl ?_
    refine e_csL (as := [.long v1, .long (Int32.toInt64 x_1)]) (rs := []) rfl rfl rfl T (fun x_4 I_5 J_6 T => ?_)
    try dsimp only at T
    refine e_l (L' := [some (.ref 0), some (.long x_4), none, some (.int v3)]) rfl rfl rfl ?_
    refine e_l rfl rfl rfl ?_
    refine e_l rfl rfl rfl ?_
    refine e_cvI (as := []) (rs := [.long x_4]) rfl rfl (g_0) rfl T (fun x_7 I_8 J_9 T => ?_)
    try dsimp only at T
    refine e_p rfl rfl rfl ?_
    refine e_csL (as := [.long x_4, .long (Int32.toInt64 x_7)]) (rs := []) rfl rfl rfl T (fun x_10 I_11 J_12 T => ?_)
    try dsimp only at T
    refine e_l (L' := [some (.ref 0), some (.long x_10), none, some (.int v3)]) rfl rfl rfl ?_
    refine e_l rfl rfl rfl ?_
    refine e_l rfl rfl rfl ?_
    refine e_cvI (as := []) (rs := [.long x_10]) rfl rfl (g_0) rfl T (fun x_13 I_14 J_15 T => ?_)
    try dsimp only at T
    refine e_p rfl rfl rfl ?_
    refine e_csL (as := [.long x_10, .long (Int32.toInt64 x_13)]) (rs := []) rfl rfl rfl T (fun x_16 I_17 J_18 T => ?_)
    try dsimp only at T
    refine e_l (L' := [some (.ref 0), some (.long x_16), none, some (.int v3)]) rfl rfl rfl ?_
    refine e_l rfl rfl rfl ?_
    refine e_l rfl rfl rfl ?_
    refine e_k rfl rfl rfl ic_0 ?_
    refine e_cvI (as := [.int 0]) (rs := [.long x_16]) rfl rfl (g_0) rfl T (fun x_19 I_20 J_21 T => ?_)
    try dsimp only at T
    refine e_p rfl rfl rfl ?_
    refine e_csL (as := [.long x_16, .long (Int32.toInt64 x_19)]) (rs := []) rfl rfl rfl T (fun x_22 I_23 J_24 T => ?_)
    try dsimp only at T
    refine e_l (L' := [some (.ref 0), some (.long x_22), none, some (.int v3)]) rfl rfl rfl ?_
    refine e_l rfl rfl rfl ?_
    refine e_l rfl rfl rfl ?_
    refine e_k rfl rfl rfl ic_1 ?_
    refine e_cvI (as := [.int 1]) (rs := [.long x_22]) rfl rfl (g_0) rfl T (fun x_25 I_26 J_27 T => ?_)
    try dsimp only at T
    refine e_p rfl rfl rfl ?_
    refine e_csL (as := [.long x_22, .long (Int32.toInt64 x_25)]) (rs := []) rfl rfl rfl T (fun x_28 I_29 J_30 T => ?_)
    try dsimp only at T
    refine e_l (L' := [some (.ref 0), some (.long x_28), none, some (.int v3)]) rfl rfl rfl ?_
    refine e_l rfl rfl rfl ?_
    refine e_gr rfl (g_0) rfl (r_0_4) ?_
    refine e_cvV (as := []) (rs := []) rfl rfl (g_31) rfl T (fun I_32 J_33 T => ?_)
    try dsimp only at T
    refine e_l rfl rfl rfl ?_
    refine e_l rfl rfl rfl ?_
    refine e_gr rfl (g_0) rfl (r_0_4) ?_
    refine e_gi rfl (g_31) (by decide) ?_
    refine e_p rfl rfl rfl ?_
    refine e_csL (as := [.long x_28, .long (Int32.toInt64 (I_32 31 4))]) (rs := []) rfl rfl rfl T (fun x_34 I_35 J_36 T => ?_)
    try dsimp only at T
    refine e_l (L' := [some (.ref 0), some (.long x_34), none, some (.int v3)]) rfl rfl rfl ?_
    refine e_l rfl rfl rfl ?_
    refine e_l rfl rfl rfl ?_
    refine e_gr rfl (g_0) rfl (r_0_4) ?_
    refine e_gi rfl (g_31) (by decide) ?_
    refine e_p rfl rfl rfl ?_
    refine e_csL (as := [.long x_34, .long (Int32.toInt64 (I_35 31 5))]) (rs := []) rfl rfl rfl T (fun x_37 I_38 J_39 T => ?_)
    try dsimp only at T
    refine e_l (L' := [some (.ref 0), some (.long x_37), none, some (.int v3)]) rfl rfl rfl ?_
    refine e_l rfl rfl rfl ?_
    refine e_l rfl rfl rfl ?_
    refine e_gr rfl (g_0) rfl (r_0_4) ?_
    refine e_gi rfl (g_31) (by decide) ?_
    refine e_p rfl rfl rfl ?_
    refine e_csL (as := [.long x_37, .long (Int32.toInt64 (I_38 31 6))]) (rs := []) rfl rfl rfl T (fun x_40 I_41 J_42 T => ?_)
    try dsimp only at T
    refine e_l (L' := [some (.ref 0), some (.long x_40), none, some (.int v3)]) rfl rfl rfl ?_
    refine e_l rfl rfl rfl ?_
    refine e_l rfl rfl rfl ?_
    refine e_cvI (as := []) (rs := [.long x_40]) rfl rfl (g_0) rfl T (fun x_43 I_44 J_45 T => ?_)
    try dsimp only at T
    refine e_p rfl rfl rfl ?_
    refine e_csL (as := [.long x_40, .long (Int32.toInt64 x_43)]) (rs := []) rfl rfl rfl T (fun x_46 I_47 J_48 T => ?_)
    try dsimp only at T
    refine e_l (L' := [some (.ref 0), some (.long x_46), none, some (.int v3)]) rfl rfl rfl ?_
    refine e_l rfl rfl rfl ?_
    refine e_l rfl rfl rfl ?_
    refine e_k rfl rfl rfl ic_5 ?_
    refine e_cvI (as := [.int 5]) (rs := [.long x_46]) rfl rfl (g_0) rfl T (fun x_49 I_50 J_51 T => ?_)
    try dsimp only at T
    refine e_p rfl rfl rfl ?_
    refine e_csL (as := [.long x_46, .long (Int32.toInt64 x_49)]) (rs := []) rfl rfl rfl T (fun x_52 I_53 J_54 T => ?_)
    try dsimp only at T
    refine e_l (L' := [some (.ref 0), some (.long x_52), none, some (.int v3)]) rfl rfl rfl ?_
    refine e_l rfl rfl rfl ?_
    refine e_gr rfl (g_0) rfl (r_0_8) ?_
    refine e_k rfl rfl rfl ib_7 ?_
    refine e_cvV (as := [.int 7]) (rs := []) rfl rfl (g_130) rfl T (fun I_56 J_57 T => ?_)
    try dsimp only at T
    refine e_l rfl rfl rfl ?_
    refine e_l rfl rfl rfl ?_
    refine e_gr rfl (g_0) rfl (r_0_8) ?_
    refine e_gi rfl (g_130) (by decide) ?_
    refine e_p rfl rfl rfl ?_
    refine e_csL (as := [.long x_52, .long (Int32.toInt64 (I_56 130 3))]) (rs := []) rfl rfl rfl T (fun x_58 I_59 J_60 T => ?_)
    try dsimp only at T
    refine e_l (L' := [some (.ref 0), some (.long x_58), none, some (.int v3)]) rfl rfl rfl ?_
    refine e_l rfl rfl rfl ?_
    refine e_l rfl rfl rfl ?_
    refine e_gr rfl (g_0) rfl (r_0_8) ?_
    refine e_gi rfl (g_130) (by decide) ?_
    refine e_p rfl rfl rfl ?_
    refine e_csL (as := [.long x_58, .long (Int32.toInt64 (I_59 130 4))]) (rs := []) rfl rfl rfl T (fun x_61 I_62 J_63 T => ?_)
    try dsimp only at T
    exact e_rl rfl rfl ⟨_, rfl, T⟩
  · replace T := T.2 hA
    refine e_l rfl rfl rfl ?_
    refine e_l rfl rfl rfl ?_
    refine e_l rfl rfl rfl ?_
    refine e_cvL (as := [.long v1, .int v3]) (rs := []) rfl rfl (g_0) rfl T (fun x_64 I_65 J_66 T => ?_)
    try dsimp only at T
    refine e_l (L' := [some (.ref 0), some (.long x_64), none, some (.int v3)]) rfl rfl rfl ?_
    refine e_l rfl rfl rfl ?_
    refine e_l rfl rfl rfl ?_
    refine e_l rfl rfl rfl ?_
    refine e_cvL (as := [.long x_64, .int v3]) (rs := []) rfl rfl (g_0) rfl T (fun x_67 I_68 J_69 T => ?_)
    try dsimp only at T
    refine e_l (L' := [some (.ref 0), some (.long x_67), none, some (.int v3)]) rfl rfl rfl ?_
    refine e_ic (v := (v3 + 1)) (L' := [some (.ref 0), some (.long x_67), none, some (.int (v3 + 1))]) rfl rfl rfl ic_1 rfl ?_
    refine e_g rfl ?_
    exact T
set_option maxRecDepth 10000 in
set_option maxHeartbeats 4000000 in
theorem vc_X10_mix {X : mm_X} {d : Nat} {I : tI} {J : tJ} {P : Int64 → tI → tJ → Prop} {v0 : Int64} {v2 : Int64}  (T : P ((31 * v0) + v2) I J) : EL X d n_X10_mix [.long v0, .long v2] I J P := by
  refine ⟨M_X10_mix, tb_X10_mix, Nat.le_of_ble_eq_true rfl, ?_⟩
  show Er X d M_X10_mix 0 [some (.long v0), none, some (.long v2), none] [] I J (qL P)
  refine e_kl rfl rfl rfl lk_31 ?_
  refine e_l rfl rfl rfl ?_
  refine e_p rfl rfl rfl ?_
  refine e_l rfl rfl rfl ?_
  refine e_p rfl rfl rfl ?_
  exact e_rl rfl rfl ⟨_, rfl, T⟩
set_option maxRecDepth 10000 in
set_option maxHeartbeats 4000000 in
theorem vc_X10_mixTold {X : mm_X} {d : Nat} {I : tI} {J : tJ} {P : Int64 → tI → tJ → Prop} {v1 : Int64} {v3 : Int32}  (T : Er X (d + 1) M_X10_mixTold 4 [some (.ref 0), some (.long v1), none, some (.int v3), some (.long v1), none, some (.int 0), none, none, none] [] I J (qL P)) : EL X (d + 1) n_X10_mixTold [.ref 0, .long v1, .int v3] I J P := by
  refine ⟨M_X10_mixTold, tb_X10_mixTold, Nat.le_of_ble_eq_true rfl, ?_⟩
  show Er X (d + 1) M_X10_mixTold 0 [some (.ref 0), some (.long v1), none, some (.int v3), none, none, none, none, none, none] [] I J (qL P)
  refine e_l rfl rfl rfl ?_
  refine e_l (L' := [some (.ref 0), some (.long v1), none, some (.int v3), some (.long v1), none, none, none, none, none]) rfl rfl rfl ?_
  refine e_k rfl rfl rfl ic_0 ?_
  refine e_l (L' := [some (.ref 0), some (.long v1), none, some (.int v3), some (.long v1), none, some (.int 0), none, none, none]) rfl rfl rfl ?_
  exact T
set_option maxRecDepth 10000 in
set_option maxHeartbeats 4000000 in
theorem vc_X10_mixTold_4 {X : mm_X} {d : Nat} {I : tI} {J : tJ} {P : Int64 → tI → tJ → Prop} {v1 : Int64} {v3 : Int32} {v4 : Int64} {v6 : Int32} (hX2 : X 2 = some (3, mm_dh)) (T : (2 < v6 → (∀ y7_1 : Int32, y7_1 = (Int32.ofNat 3) → (Er X (d + 1) M_X10_mixTold 24 [some (.ref 0), some (.long v1), none, some (.int v3), some (.long v4), none, some (.ref 1002), some (.int y7_1), some (.int 0), none] [] I J (qL P)))) ∧ (¬ (2 < v6) → (EI X d n_X10_slice [.ref 0, .int v3, .int v6] I J (fun x_2 I_3 J_4 => EL X d n_X10_mix [.long v4, .long (Int32.toInt64 x_2)] I_3 J_4 (fun x_5 I_6 J_7 => Er X (d + 1) M_X10_mixTold 4 [some (.ref 0), some (.long v1), none, some (.int v3), some (.long x_5), none, some (.int (v6 + 1)), none, none, none] [] I_6 J_7 (qL P)))))) : Er X (d + 1) M_X10_mixTold 4 [some (.ref 0), some (.long v1), none, some (.int v3), some (.long v4), none, some (.int v6), none, none, none] [] I J (qL P) := by
  refine e_l rfl rfl rfl ?_
  refine e_k rfl rfl rfl ic_2 ?_
  refine e_b rfl rfl rfl (fun hA => ?_) (fun hA => ?_)
  · replace T := T.1 hA
    refine e_gs rfl ?_
    refine e_l (L' := [some (.ref 0), some (.long v1), none, some (.int v3), some (.long v4), none, some (.ref 1002), none, none, none]) rfl rfl rfl ?_
    refine e_l rfl rfl rfl ?_
    refine e_ax (k := 2) rfl hX2 ?_
    refine e_si (Lf := fun y7_1 => [some (.ref 0), some (.long v1), none, some (.int v3), some (.long v4), none, some (.ref 1002), some (.int y7_1), none, none]) rfl rfl rfl (fun y7_1 hy7_1 => ?_)
    replace T := T y7_1 hy7_1
    refine e_k rfl rfl rfl ic_0 ?_
    refine e_l (L' := [some (.ref 0), some (.long v1), none, some (.int v3), some (.long v4), none, some (.ref 1002), some (.int y7_1), some (.int 0), none]) rfl rfl rfl ?_
    exact T
  · replace T := T.2 hA
    refine e_l rfl rfl rfl ?_
    refine e_l rfl rfl rfl ?_
    refine e_l rfl rfl rfl ?_
    refine e_l rfl rfl rfl ?_
    refine e_cvI (as := [.int v3, .int v6]) (rs := [.long v4]) rfl rfl (g_0) rfl T (fun x_2 I_3 J_4 T => ?_)
    try dsimp only at T
    refine e_p rfl rfl rfl ?_
    refine e_csL (as := [.long v4, .long (Int32.toInt64 x_2)]) (rs := []) rfl rfl rfl T (fun x_5 I_6 J_7 T => ?_)
    try dsimp only at T
    refine e_l (L' := [some (.ref 0), some (.long v1), none, some (.int v3), some (.long x_5), none, some (.int v6), none, none, none]) rfl rfl rfl ?_
    refine e_ic (v := (v6 + 1)) (L' := [some (.ref 0), some (.long v1), none, some (.int v3), some (.long x_5), none, some (.int (v6 + 1)), none, none, none]) rfl rfl rfl ic_1 rfl ?_
    refine e_g rfl ?_
    exact T
set_option maxRecDepth 10000 in
set_option maxHeartbeats 4000000 in
theorem vc_X10_mixTold_24 {X : mm_X} {d : Nat} {I : tI} {J : tJ} {P : Int64 → tI → tJ → Prop} {v1 : Int64} {v3 : Int32} {v4 : Int64} {v7 : Int32} {v8 : Int32} {o9 : Option Value} (hX2 : X 2 = some (3, mm_dh)) (T : (v7 ≤ v8 → (EI X d n_X10_freed [.ref 0, .int v3, .int 0] I J (fun x_1 I_2 J_3 => EL X d n_X10_mix [.long v4, .long (Int32.toInt64 x_1)] I_2 J_3 (fun x_4 I_5 J_6 => EI X d n_X10_freed [.ref 0, .int v3, .int 1] I_5 J_6 (fun x_7 I_8 J_9 => EL X d n_X10_mix [.long x_4, .long (Int32.toInt64 x_7)] I_8 J_9 (fun x_10 I_11 J_12 => P x_10 I_11 J_12)))))) ∧ (¬ (v7 ≤ v8) → (ix v8 3 ∧ (∀ y9_13 : Int32, y9_13 = (mm_dh (tn v8)) → (EI X d n_X10_heat [.ref 0, .int y9_13, .int v3] I J (fun x_14 I_15 J_16 => EL X d n_X10_mix [.long v4, .long (Int32.toInt64 x_14)] I_15 J_16 (fun x_17 I_18 J_19 => EI X d n_X10_state [.ref 0, .int y9_13, .int v3] I_18 J_19 (fun x_20 I_21 J_22 => EL X d n_X10_mix [.long x_17, .long (Int32.toInt64 x_20)] I_21 J_22 (fun x_23 I_24 J_25 => Er X (d + 1) M_X10_mixTold 24 [some (.ref 0), some (.long v1), none, some (.int v3), some (.long x_23), none, some (.ref 1002), some (.int v7), some (.int (v8 + 1)), some (.int y9_13)] [] I_24 J_25 (qL P)))))))))) : Er X (d + 1) M_X10_mixTold 24 [some (.ref 0), some (.long v1), none, some (.int v3), some (.long v4), none, some (.ref 1002), some (.int v7), some (.int v8), o9] [] I J (qL P) := by
  refine e_l rfl rfl rfl ?_
  refine e_l rfl rfl rfl ?_
  refine e_b rfl rfl rfl (fun hA => ?_) (fun hA => ?_)
  · replace T := T.1 hA
    refine e_l rfl rfl rfl ?_
    refine e_l rfl rfl rfl ?_
    refine e_l rfl rfl rfl ?_
    refine e_k rfl rfl rfl ic_0 ?_
    refine e_cvI (as := [.int v3, .int 0]) (rs := [.long v4]) rfl rfl (g_0) rfl T (fun x_1 I_2 J_3 T => ?_)
    try dsimp only at T
    refine e_p rfl rfl rfl ?_
    refine e_csL (as := [.long v4, .long (Int32.toInt64 x_1)]) (rs := []) rfl rfl rfl T (fun x_4 I_5 J_6 T => ?_)
    try dsimp only at T
    refine e_l (L' := [some (.ref 0), some (.long v1), none, some (.int v3), some (.long x_4), none, some (.ref 1002), some (.int v7), some (.int v8), o9]) rfl rfl rfl ?_
    refine e_l rfl rfl rfl ?_
    refine e_l rfl rfl rfl ?_
    refine e_l rfl rfl rfl ?_
    refine e_k rfl rfl rfl ic_1 ?_
    refine e_cvI (as := [.int v3, .int 1]) (rs := [.long x_4]) rfl rfl (g_0) rfl T (fun x_7 I_8 J_9 T => ?_)
    try dsimp only at T
    refine e_p rfl rfl rfl ?_
    refine e_csL (as := [.long x_4, .long (Int32.toInt64 x_7)]) (rs := []) rfl rfl rfl T (fun x_10 I_11 J_12 T => ?_)
    try dsimp only at T
    exact e_rl rfl rfl ⟨_, rfl, T⟩
  · replace T := T.2 hA
    refine e_l rfl rfl rfl ?_
    refine e_l rfl rfl rfl ?_
    refine e_ix (k := 2) rfl hX2 T.1 ?_
    replace T := T.2
    refine e_si (Lf := fun y9_13 => [some (.ref 0), some (.long v1), none, some (.int v3), some (.long v4), none, some (.ref 1002), some (.int v7), some (.int v8), some (.int y9_13)]) rfl rfl rfl (fun y9_13 hy9_13 => ?_)
    replace T := T y9_13 hy9_13
    refine e_l rfl rfl rfl ?_
    refine e_l rfl rfl rfl ?_
    refine e_l rfl rfl rfl ?_
    refine e_l rfl rfl rfl ?_
    refine e_cvI (as := [.int y9_13, .int v3]) (rs := [.long v4]) rfl rfl (g_0) rfl T (fun x_14 I_15 J_16 T => ?_)
    try dsimp only at T
    refine e_p rfl rfl rfl ?_
    refine e_csL (as := [.long v4, .long (Int32.toInt64 x_14)]) (rs := []) rfl rfl rfl T (fun x_17 I_18 J_19 T => ?_)
    try dsimp only at T
    refine e_l rfl rfl rfl ?_
    refine e_l rfl rfl rfl ?_
    refine e_l rfl rfl rfl ?_
    refine e_cvI (as := [.int y9_13, .int v3]) (rs := [.long x_17]) rfl rfl (g_0) rfl T (fun x_20 I_21 J_22 T => ?_)
    try dsimp only at T
    refine e_p rfl rfl rfl ?_
    refine e_csL (as := [.long x_17, .long (Int32.toInt64 x_20)]) (rs := []) rfl rfl rfl T (fun x_23 I_24 J_25 T => ?_)
    try dsimp only at T
    refine e_l (L' := [some (.ref 0), some (.long v1), none, some (.int v3), some (.long x_23), none, some (.ref 1002), some (.int v7), some (.int v8), some (.int y9_13)]) rfl rfl rfl ?_
    refine e_ic (v := (v8 + 1)) (L' := [some (.ref 0), some (.long v1), none, some (.int v3), some (.long x_23), none, some (.ref 1002), some (.int v7), some (.int (v8 + 1)), some (.int y9_13)]) rfl rfl rfl ic_1 rfl ?_
    refine e_g rfl ?_
    exact T
set_option maxRecDepth 10000 in
set_option maxHeartbeats 4000000 in
theorem vc_X10_mixFound {X : mm_X} {d : Nat} {I : tI} {J : tJ} {P : Int64 → tI → tJ → Prop} {v1 : Int64} {v3 : Int32}  (T : EV X d n_X4_findMove [.ref 31, .int v3] I J (fun I_2 J_3 => EL X d n_X10_mix [.long v1, .long (Int32.toInt64 (I_2 31 2))] I_2 J_3 (fun x_4 I_5 J_6 => EL X d n_X10_mix [.long x_4, .long (Int32.toInt64 (I_5 31 3))] I_5 J_6 (fun x_7 I_8 J_9 => EI X d n_X4_firstButterHour [.ref 31, .int v3] I_8 J_9 (fun x_10 I_11 J_12 => EL X d n_X10_mix [.long x_7, .long (Int32.toInt64 x_10)] I_11 J_12 (fun x_13 I_14 J_15 => EV X d n_X1_findHeats [.ref 36, .int v3] I_14 J_15 (fun I_17 J_18 => EI X d n_X1_heatAt [.ref 36, .int (-1)] I_17 J_18 (fun x_19 I_20 J_21 => EL X d n_X10_mix [.long x_13, .long (Int32.toInt64 x_19)] I_20 J_21 (fun x_22 I_23 J_24 => EI X d n_X1_heatAt [.ref 36, .int 0] I_23 J_24 (fun x_25 I_26 J_27 => EL X d n_X10_mix [.long x_22, .long (Int32.toInt64 x_25)] I_26 J_27 (fun x_28 I_29 J_30 => EI X d n_X1_slotsOf [.ref 36, .int v3] I_29 J_30 (fun x_31 I_32 J_33 => EL X d n_X10_mix [.long x_28, .long (Int32.toInt64 x_31)] I_32 J_33 (fun x_34 I_35 J_36 => EV X d n_X9_weigh [.ref 40, .int 5, .int 5, .int v3, .int 9] I_35 J_36 (fun I_38 J_39 => EL X d n_X10_mix [.long x_34, .long (J_39 40 5)] I_38 J_39 (fun x_40 I_41 J_42 => EL X d n_X10_mix [.long x_40, .long (J_42 40 6)] I_41 J_42 (fun x_43 I_44 J_45 => P x_43 I_44 J_45)))))))))))))))) : EL X (d + 1) n_X10_mixFound [.ref 0, .long v1, .int v3] I J P := by
  refine ⟨M_X10_mixFound, tb_X10_mixFound, Nat.le_of_ble_eq_true rfl, ?_⟩
  show Er X (d + 1) M_X10_mixFound 0 [some (.ref 0), some (.long v1), none, some (.int v3), none, none] [] I J (qL P)
  refine e_l rfl rfl rfl ?_
  refine e_gr rfl (g_0) rfl (r_0_4) ?_
  refine e_l rfl rfl rfl ?_
  refine e_cvV (as := [.int v3]) (rs := []) rfl rfl (g_31) rfl T (fun I_2 J_3 T => ?_)
  try dsimp only at T
  refine e_l rfl rfl rfl ?_
  refine e_l rfl rfl rfl ?_
  refine e_gr rfl (g_0) rfl (r_0_4) ?_
  refine e_gi rfl (g_31) (by decide) ?_
  refine e_p rfl rfl rfl ?_
  refine e_csL (as := [.long v1, .long (Int32.toInt64 (I_2 31 2))]) (rs := []) rfl rfl rfl T (fun x_4 I_5 J_6 T => ?_)
  try dsimp only at T
  refine e_l rfl rfl rfl ?_
  refine e_gr rfl (g_0) rfl (r_0_4) ?_
  refine e_gi rfl (g_31) (by decide) ?_
  refine e_p rfl rfl rfl ?_
  refine e_csL (as := [.long x_4, .long (Int32.toInt64 (I_5 31 3))]) (rs := []) rfl rfl rfl T (fun x_7 I_8 J_9 T => ?_)
  try dsimp only at T
  refine e_l (L' := [some (.ref 0), some (.long v1), none, some (.int v3), some (.long x_7), none]) rfl rfl rfl ?_
  refine e_l rfl rfl rfl ?_
  refine e_l rfl rfl rfl ?_
  refine e_gr rfl (g_0) rfl (r_0_4) ?_
  refine e_l rfl rfl rfl ?_
  refine e_cvI (as := [.int v3]) (rs := [.long x_7]) rfl rfl (g_31) rfl T (fun x_10 I_11 J_12 T => ?_)
  try dsimp only at T
  refine e_p rfl rfl rfl ?_
  refine e_csL (as := [.long x_7, .long (Int32.toInt64 x_10)]) (rs := []) rfl rfl rfl T (fun x_13 I_14 J_15 T => ?_)
  try dsimp only at T
  refine e_l (L' := [some (.ref 0), some (.long v1), none, some (.int v3), some (.long x_13), none]) rfl rfl rfl ?_
  refine e_l rfl rfl rfl ?_
  refine e_gr rfl (g_0) rfl (r_0_6) ?_
  refine e_l rfl rfl rfl ?_
  refine e_cvV (as := [.int v3]) (rs := []) rfl rfl (g_36) rfl T (fun I_17 J_18 T => ?_)
  try dsimp only at T
  refine e_l rfl rfl rfl ?_
  refine e_l rfl rfl rfl ?_
  refine e_gr rfl (g_0) rfl (r_0_6) ?_
  refine e_k rfl rfl rfl ic_m1 ?_
  refine e_cvI (as := [.int (-1)]) (rs := [.long x_13]) rfl rfl (g_36) rfl T (fun x_19 I_20 J_21 T => ?_)
  try dsimp only at T
  refine e_p rfl rfl rfl ?_
  refine e_csL (as := [.long x_13, .long (Int32.toInt64 x_19)]) (rs := []) rfl rfl rfl T (fun x_22 I_23 J_24 T => ?_)
  try dsimp only at T
  refine e_l rfl rfl rfl ?_
  refine e_gr rfl (g_0) rfl (r_0_6) ?_
  refine e_k rfl rfl rfl ic_0 ?_
  refine e_cvI (as := [.int 0]) (rs := [.long x_22]) rfl rfl (g_36) rfl T (fun x_25 I_26 J_27 T => ?_)
  try dsimp only at T
  refine e_p rfl rfl rfl ?_
  refine e_csL (as := [.long x_22, .long (Int32.toInt64 x_25)]) (rs := []) rfl rfl rfl T (fun x_28 I_29 J_30 T => ?_)
  try dsimp only at T
  refine e_l (L' := [some (.ref 0), some (.long v1), none, some (.int v3), some (.long x_28), none]) rfl rfl rfl ?_
  refine e_l rfl rfl rfl ?_
  refine e_l rfl rfl rfl ?_
  refine e_gr rfl (g_0) rfl (r_0_6) ?_
  refine e_l rfl rfl rfl ?_
  refine e_cvI (as := [.int v3]) (rs := [.long x_28]) rfl rfl (g_36) rfl T (fun x_31 I_32 J_33 T => ?_)
  try dsimp only at T
  refine e_p rfl rfl rfl ?_
  refine e_csL (as := [.long x_28, .long (Int32.toInt64 x_31)]) (rs := []) rfl rfl rfl T (fun x_34 I_35 J_36 T => ?_)
  try dsimp only at T
  refine e_l (L' := [some (.ref 0), some (.long v1), none, some (.int v3), some (.long x_34), none]) rfl rfl rfl ?_
  refine e_l rfl rfl rfl ?_
  refine e_gr rfl (g_0) rfl (r_0_7) ?_
  refine e_k rfl rfl rfl ic_5 ?_
  refine e_k rfl rfl rfl ic_5 ?_
  refine e_l rfl rfl rfl ?_
  refine e_k rfl rfl rfl ib_9 ?_
  refine e_cvV (as := [.int 5, .int 5, .int v3, .int 9]) (rs := []) rfl rfl (g_40) rfl T (fun I_38 J_39 T => ?_)
  try dsimp only at T
  refine e_l rfl rfl rfl ?_
  refine e_l rfl rfl rfl ?_
  refine e_gr rfl (g_0) rfl (r_0_7) ?_
  refine e_gl rfl (g_40) rfl ?_
  refine e_csL (as := [.long x_34, .long (J_39 40 5)]) (rs := []) rfl rfl rfl T (fun x_40 I_41 J_42 T => ?_)
  try dsimp only at T
  refine e_l rfl rfl rfl ?_
  refine e_gr rfl (g_0) rfl (r_0_7) ?_
  refine e_gl rfl (g_40) rfl ?_
  refine e_csL (as := [.long x_40, .long (J_42 40 6)]) (rs := []) rfl rfl rfl T (fun x_43 I_44 J_45 T => ?_)
  try dsimp only at T
  exact e_rl rfl rfl ⟨_, rfl, T⟩
set_option maxRecDepth 10000 in
set_option maxHeartbeats 4000000 in
theorem vc_X10_timesLetGo {X : mm_X} {d : Nat} {I : tI} {J : tJ} {P : Int32 → tI → tJ → Prop}   (T : EV X d n_X2_bringUpToDate [.ref 11] I J (fun I_2 J_3 => Er X (d + 1) M_X10_timesLetGo 7 [some (.ref 0), some (.int 0), some (.int 0)] [] I_2 J_3 (qI P))) : EI X (d + 1) n_X10_timesLetGo [.ref 0] I J P := by
  refine ⟨M_X10_timesLetGo, tb_X10_timesLetGo, Nat.le_of_ble_eq_true rfl, ?_⟩
  show Er X (d + 1) M_X10_timesLetGo 0 [some (.ref 0), none, none] [] I J (qI P)
  refine e_l rfl rfl rfl ?_
  refine e_gr rfl (g_0) rfl (r_0_2) ?_
  refine e_cvV (as := []) (rs := []) rfl rfl (g_11) rfl T (fun I_2 J_3 T => ?_)
  try dsimp only at T
  refine e_k rfl rfl rfl ic_0 ?_
  refine e_l (L' := [some (.ref 0), some (.int 0), none]) rfl rfl rfl ?_
  refine e_k rfl rfl rfl ic_0 ?_
  refine e_l (L' := [some (.ref 0), some (.int 0), some (.int 0)]) rfl rfl rfl ?_
  exact T
set_option maxRecDepth 10000 in
set_option maxHeartbeats 4000000 in
theorem vc_X10_timesLetGo_7 {X : mm_X} {d : Nat} {I : tI} {J : tJ} {P : Int32 → tI → tJ → Prop} {v1 : Int32} {v2 : Int32}  (T : ((I 2 2) ≤ v2 → (P v1 I J)) ∧ (¬ ((I 2 2) ≤ v2) → (ix v2 8 ∧ (∀ y1_1 : Int32, y1_1 = (v1 + (I 21 (tn v2))) → (Er X (d + 1) M_X10_timesLetGo 7 [some (.ref 0), some (.int y1_1), some (.int (v2 + 1))] [] I J (qI P)))))) : Er X (d + 1) M_X10_timesLetGo 7 [some (.ref 0), some (.int v1), some (.int v2)] [] I J (qI P) := by
  refine e_l rfl rfl rfl ?_
  refine e_l rfl rfl rfl ?_
  refine e_gr rfl (g_0) rfl (r_0_1) ?_
  refine e_gi rfl (g_2) (by decide) ?_
  refine e_b rfl rfl rfl (fun hA => ?_) (fun hA => ?_)
  · replace T := T.1 hA
    refine e_l rfl rfl rfl ?_
    exact e_ri rfl rfl ⟨_, rfl, T⟩
  · replace T := T.2 hA
    refine e_l rfl rfl rfl ?_
    refine e_l rfl rfl rfl ?_
    refine e_gr rfl (g_0) rfl (r_0_2) ?_
    refine e_gr rfl (g_11) rfl (r_11_1) ?_
    refine e_gr rfl (g_15) rfl (r_15_6) ?_
    refine e_l rfl rfl rfl ?_
    refine e_ia rfl (g_21) T.1 ?_
    replace T := T.2
    refine e_p rfl rfl rfl ?_
    refine e_si (Lf := fun y1_1 => [some (.ref 0), some (.int y1_1), some (.int v2)]) rfl rfl rfl (fun y1_1 hy1_1 => ?_)
    replace T := T y1_1 hy1_1
    refine e_ic (v := (v2 + 1)) (L' := [some (.ref 0), some (.int y1_1), some (.int (v2 + 1))]) rfl rfl rfl ic_1 rfl ?_
    refine e_g rfl ?_
    exact T
set_option maxRecDepth 10000 in
set_option maxHeartbeats 4000000 in
theorem vc_X10_learn {X : mm_X} {d : Nat} {I : tI} {J : tJ} {P : tI → tJ → Prop} {v1 : Int32}  (T : (v1 ≠ 0 → (EV X d n_X5_takeSlices [.ref 2, .ref 135] I J (fun I_2 J_3 => P (mm_u I_2 11 5 0) J_3))) ∧ (¬ (v1 ≠ 0) → (EV X d n_X5_takeRack [.ref 2, .ref 133] I J (fun I_5 J_6 => P (mm_u I_5 11 5 0) J_6)))) : EV X (d + 1) n_X10_learn [.ref 0, .int v1] I J P := by
  refine ⟨M_X10_learn, tb_X10_learn, Nat.le_of_ble_eq_true rfl, ?_⟩
  show Er X (d + 1) M_X10_learn 0 [some (.ref 0), some (.int v1)] [] I J (qV P)
  refine e_l rfl rfl rfl ?_
  refine e_b rfl rfl rfl (fun hA => ?_) (fun hA => ?_)
  · replace T := T.1 hA
    refine e_l rfl rfl rfl ?_
    refine e_gr rfl (g_0) rfl (r_0_1) ?_
    refine e_l rfl rfl rfl ?_
    refine e_gr rfl (g_0) rfl (r_0_0) ?_
    refine e_k rfl rfl rfl ic_1 ?_
    refine e_aa rfl (g_1) (by decide) r_1_1 ?_
    refine e_cvV (as := [.ref 135]) (rs := []) rfl rfl (g_2) rfl T (fun I_2 J_3 T => ?_)
    try dsimp only at T
    refine e_l rfl rfl rfl ?_
    refine e_gr rfl (g_0) rfl (r_0_2) ?_
    refine e_k rfl rfl rfl ic_0 ?_
    refine e_pb rfl (g_11) rfl (by decide) ?_
    exact e_rv rfl rfl ⟨rfl, T⟩
  · replace T := T.2 hA
    refine e_l rfl rfl rfl ?_
    refine e_gr rfl (g_0) rfl (r_0_1) ?_
    refine e_l rfl rfl rfl ?_
    refine e_gr rfl (g_0) rfl (r_0_0) ?_
    refine e_k rfl rfl rfl ic_0 ?_
    refine e_aa rfl (g_1) (by decide) r_1_0 ?_
    refine e_cvV (as := [.ref 133]) (rs := []) rfl rfl (g_2) rfl T (fun I_5 J_6 T => ?_)
    try dsimp only at T
    refine e_g rfl ?_
    refine e_l rfl rfl rfl ?_
    refine e_gr rfl (g_0) rfl (r_0_2) ?_
    refine e_k rfl rfl rfl ic_0 ?_
    refine e_pb rfl (g_11) rfl (by decide) ?_
    exact e_rv rfl rfl ⟨rfl, T⟩
set_option maxRecDepth 10000 in
set_option maxHeartbeats 4000000 in
theorem vc_X10_found {X : mm_X} {d : Nat} {I : tI} {J : tJ} {P : Int32 → tI → tJ → Prop} {v1 : Int32}  (T : P ((-10) - v1) (mm_u I 0 10 v1) J) : EI X d n_X10_found [.ref 0, .int v1] I J P := by
  refine ⟨M_X10_found, tb_X10_found, Nat.le_of_ble_eq_true rfl, ?_⟩
  show Er X d M_X10_found 0 [some (.ref 0), some (.int v1)] [] I J (qI P)
  refine e_l rfl rfl rfl ?_
  refine e_l rfl rfl rfl ?_
  refine e_pi rfl (g_0) rfl ?_
  refine e_k rfl rfl rfl ib_m10 ?_
  refine e_l rfl rfl rfl ?_
  refine e_p rfl rfl rfl ?_
  exact e_ri rfl rfl ⟨_, rfl, T⟩
set_option maxRecDepth 10000 in
set_option maxHeartbeats 4000000 in
theorem vc_X10_findingAt {X : mm_X} {d : Nat} {I : tI} {J : tJ} {P : Int32 → tI → tJ → Prop} {v1 : Int32} {v2 : Int32} {v3 : Int32}  (T : ix v1 4 ∧ (∃ k3, mm_R0 132 (tn v1) = some k3 ∧ k3 ∈ mm_shs ∧ (EI X d n_X6_isLost [.ref k3] I J (fun x_1 I_2 J_3 => (x_1 = 0 → (ix v1 4 ∧ (∃ k11, mm_R0 132 (tn v1) = some k11 ∧ k11 ∈ mm_shs ∧ (((I_2 k11 0) = v2 → (ix v1 4 ∧ (∃ k21, mm_R0 132 (tn v1) = some k21 ∧ k21 ∈ mm_shs ∧ (EI X d n_X10_isWithin [.int v3, .int ((I_2 k21 1) - 1)] I_2 J_3 (fun x_4 I_5 J_6 => (x_4 = 0 → (P 2 I_5 J_6)) ∧ (¬ (x_4 = 0) → (P 0 I_5 J_6))))))) ∧ (¬ ((I_2 k11 0) = v2) → (P 3 I_2 J_3)))))) ∧ (¬ (x_1 = 0) → (P 1 I_2 J_3)))))) : EI X (d + 1) n_X10_findingAt [.ref 0, .int v1, .int v2, .int v3] I J P := by
  refine ⟨M_X10_findingAt, tb_X10_findingAt, Nat.le_of_ble_eq_true rfl, ?_⟩
  show Er X (d + 1) M_X10_findingAt 0 [some (.ref 0), some (.int v1), some (.int v2), some (.int v3)] [] I J (qI P)
  refine e_l rfl rfl rfl ?_
  refine e_gr rfl (g_0) rfl (r_0_9) ?_
  refine e_l rfl rfl rfl ?_
  obtain ⟨hj, k3, hR, hk3, T⟩ := T
  refine e_aa rfl (g_132) hj hR ?_
  refine e_cvI (as := []) (rs := []) rfl rfl (shs_g k3 hk3) rfl T (fun x_1 I_2 J_3 T => ?_)
  try dsimp only at T
  refine e_b rfl rfl rfl (fun hA => ?_) (fun hA => ?_)
  · replace T := T.1 hA
    refine e_l rfl rfl rfl ?_
    refine e_gr rfl (g_0) rfl (r_0_9) ?_
    refine e_l rfl rfl rfl ?_
    obtain ⟨hj, k11, hR, hk11, T⟩ := T
    refine e_aa rfl (g_132) hj hR ?_
    refine e_gi rfl (shs_g k11 hk11) (by decide) ?_
    refine e_l rfl rfl rfl ?_
    refine e_b rfl rfl rfl (fun hA => ?_) (fun hA => ?_)
    · replace T := T.1 hA
      refine e_l rfl rfl rfl ?_
      refine e_l rfl rfl rfl ?_
      refine e_gr rfl (g_0) rfl (r_0_9) ?_
      refine e_l rfl rfl rfl ?_
      obtain ⟨hj, k21, hR, hk21, T⟩ := T
      refine e_aa rfl (g_132) hj hR ?_
      refine e_gi rfl (shs_g k21 hk21) (by decide) ?_
      refine e_k rfl rfl rfl ic_1 ?_
      refine e_p rfl rfl rfl ?_
      refine e_csI (as := [.int v3, .int ((I_2 k21 1) - 1)]) (rs := []) rfl rfl rfl T (fun x_4 I_5 J_6 T => ?_)
      try dsimp only at T
      refine e_b rfl rfl rfl (fun hA => ?_) (fun hA => ?_)
      · replace T := T.1 hA
        refine e_k rfl rfl rfl ic_2 ?_
        exact e_ri rfl rfl ⟨_, rfl, T⟩
      · replace T := T.2 hA
        refine e_k rfl rfl rfl ic_0 ?_
        refine e_g rfl ?_
        exact e_ri rfl rfl ⟨_, rfl, T⟩
    · replace T := T.2 hA
      refine e_k rfl rfl rfl ic_3 ?_
      exact e_ri rfl rfl ⟨_, rfl, T⟩
  · replace T := T.2 hA
    refine e_k rfl rfl rfl ic_1 ?_
    exact e_ri rfl rfl ⟨_, rfl, T⟩
set_option maxRecDepth 10000 in
set_option maxHeartbeats 4000000 in
theorem vc_X10_isWithin {X : mm_X} {d : Nat} {I : tI} {J : tJ} {P : Int32 → tI → tJ → Prop} {v0 : Int32} {v1 : Int32}  (T : (v0 < 0 → (P 0 I J)) ∧ (¬ (v0 < 0) → ((v1 < v0 → (P 0 I J)) ∧ (¬ (v1 < v0) → (P 1 I J))))) : EI X d n_X10_isWithin [.int v0, .int v1] I J P := by
  refine ⟨M_X10_isWithin, tb_X10_isWithin, Nat.le_of_ble_eq_true rfl, ?_⟩
  show Er X d M_X10_isWithin 0 [some (.int v0), some (.int v1)] [] I J (qI P)
  refine e_l rfl rfl rfl ?_
  refine e_b rfl rfl rfl (fun hA => ?_) (fun hA => ?_)
  · replace T := T.1 hA
    refine e_k rfl rfl rfl ic_0 ?_
    exact e_rz rfl rfl (by decide) ⟨_, rfl, T⟩
  · replace T := T.2 hA
    refine e_l rfl rfl rfl ?_
    refine e_l rfl rfl rfl ?_
    refine e_b rfl rfl rfl (fun hA => ?_) (fun hA => ?_)
    · replace T := T.1 hA
      refine e_k rfl rfl rfl ic_0 ?_
      exact e_rz rfl rfl (by decide) ⟨_, rfl, T⟩
    · replace T := T.2 hA
      refine e_k rfl rfl rfl ic_1 ?_
      refine e_g rfl ?_
      exact e_rz rfl rfl (by decide) ⟨_, rfl, T⟩
set_option maxRecDepth 10000 in
set_option maxHeartbeats 4000000 in
theorem vc_X10_isText {X : mm_X} {d : Nat} {I : tI} {J : tJ} {P : Int32 → tI → tJ → Prop} {v0 : Int32}  (T : (v0 = 0 → (P 1 I J)) ∧ (¬ (v0 = 0) → ((v0 ≠ 1 → (P 0 I J)) ∧ (¬ (v0 ≠ 1) → (P 1 I J))))) : EI X d n_X10_isText [.int v0] I J P := by
  refine ⟨M_X10_isText, tb_X10_isText, Nat.le_of_ble_eq_true rfl, ?_⟩
  show Er X d M_X10_isText 0 [some (.int v0)] [] I J (qI P)
  refine e_l rfl rfl rfl ?_
  refine e_b rfl rfl rfl (fun hA => ?_) (fun hA => ?_)
  · replace T := T.1 hA
    refine e_k rfl rfl rfl ic_1 ?_
    refine e_g rfl ?_
    exact e_rz rfl rfl (by decide) ⟨_, rfl, T⟩
  · replace T := T.2 hA
    refine e_l rfl rfl rfl ?_
    refine e_k rfl rfl rfl ic_1 ?_
    refine e_b rfl rfl rfl (fun hA => ?_) (fun hA => ?_)
    · replace T := T.1 hA
      refine e_k rfl rfl rfl ic_0 ?_
      exact e_rz rfl rfl (by decide) ⟨_, rfl, T⟩
    · replace T := T.2 hA
      refine e_k rfl rfl rfl ic_1 ?_
      refine e_g rfl ?_
      exact e_rz rfl rfl (by decide) ⟨_, rfl, T⟩
set_option maxRecDepth 10000 in
set_option maxHeartbeats 4000000 in
theorem vc_X10_isHour {X : mm_X} {d : Nat} {I : tI} {J : tJ} {P : Int32 → tI → tJ → Prop} {v0 : Int32}  (T : EI X d n_X10_isWithin [.int v0, .int 29] I J (fun x_1 I_2 J_3 => (x_1 = 0 ∨ x_1 = 1) ∧ P x_1 I_2 J_3)) : EI X (d + 1) n_X10_isHour [.int v0] I J P := by
  refine ⟨M_X10_isHour, tb_X10_isHour, Nat.le_of_ble_eq_true rfl, ?_⟩
  show Er X (d + 1) M_X10_isHour 0 [some (.int v0)] [] I J (qI P)
  refine e_l rfl rfl rfl ?_
  refine e_k rfl rfl rfl ib_29 ?_
  refine e_csI (as := [.int v0, .int 29]) (rs := []) rfl rfl rfl T (fun x_1 I_2 J_3 T => ?_)
  try dsimp only at T
  exact e_rz rfl rfl T.1 ⟨_, rfl, T.2⟩
set_option maxRecDepth 10000 in
set_option maxHeartbeats 4000000 in
theorem vc_X10_isSlice {X : mm_X} {d : Nat} {I : tI} {J : tJ} {P : Int32 → tI → tJ → Prop} {v1 : Int32}  (T : EI X d n_X10_isWithin [.int v1, .int ((I 2 2) - 1)] I J (fun x_1 I_2 J_3 => (x_1 = 0 ∨ x_1 = 1) ∧ P x_1 I_2 J_3)) : EI X (d + 1) n_X10_isSlice [.ref 0, .int v1] I J P := by
  refine ⟨M_X10_isSlice, tb_X10_isSlice, Nat.le_of_ble_eq_true rfl, ?_⟩
  show Er X (d + 1) M_X10_isSlice 0 [some (.ref 0), some (.int v1)] [] I J (qI P)
  refine e_l rfl rfl rfl ?_
  refine e_l rfl rfl rfl ?_
  refine e_gr rfl (g_0) rfl (r_0_1) ?_
  refine e_gi rfl (g_2) (by decide) ?_
  refine e_k rfl rfl rfl ic_1 ?_
  refine e_p rfl rfl rfl ?_
  refine e_csI (as := [.int v1, .int ((I 2 2) - 1)]) (rs := []) rfl rfl rfl T (fun x_1 I_2 J_3 T => ?_)
  try dsimp only at T
  exact e_rz rfl rfl T.1 ⟨_, rfl, T.2⟩
set_option maxRecDepth 10000 in
set_option maxHeartbeats 4000000 in
theorem vc_X10_isSheet {X : mm_X} {d : Nat} {I : tI} {J : tJ} {P : Int32 → tI → tJ → Prop} {v0 : Int32}  (T : EI X d n_X10_isWithin [.int v0, .int 3] I J (fun x_1 I_2 J_3 => (x_1 = 0 ∨ x_1 = 1) ∧ P x_1 I_2 J_3)) : EI X (d + 1) n_X10_isSheet [.int v0] I J P := by
  refine ⟨M_X10_isSheet, tb_X10_isSheet, Nat.le_of_ble_eq_true rfl, ?_⟩
  show Er X (d + 1) M_X10_isSheet 0 [some (.int v0)] [] I J (qI P)
  refine e_l rfl rfl rfl ?_
  refine e_k rfl rfl rfl ic_3 ?_
  refine e_csI (as := [.int v0, .int 3]) (rs := []) rfl rfl rfl T (fun x_1 I_2 J_3 T => ?_)
  try dsimp only at T
  exact e_rz rfl rfl T.1 ⟨_, rfl, T.2⟩
set_option maxRecDepth 10000 in
set_option maxHeartbeats 4000000 in
theorem vc_X10_isForm {X : mm_X} {d : Nat} {I : tI} {J : tJ} {P : Int32 → tI → tJ → Prop} {v0 : Int32}  (T : EI X d n_X10_isWithin [.int v0, .int 2] I J (fun x_1 I_2 J_3 => (x_1 = 0 ∨ x_1 = 1) ∧ P x_1 I_2 J_3)) : EI X (d + 1) n_X10_isForm [.int v0] I J P := by
  refine ⟨M_X10_isForm, tb_X10_isForm, Nat.le_of_ble_eq_true rfl, ?_⟩
  show Er X (d + 1) M_X10_isForm 0 [some (.int v0)] [] I J (qI P)
  refine e_l rfl rfl rfl ?_
  refine e_k rfl rfl rfl ic_2 ?_
  refine e_csI (as := [.int v0, .int 2]) (rs := []) rfl rfl rfl T (fun x_1 I_2 J_3 T => ?_)
  try dsimp only at T
  exact e_rz rfl rfl T.1 ⟨_, rfl, T.2⟩
set_option maxRecDepth 10000 in
set_option maxHeartbeats 4000000 in
theorem vc_X10_isFigure {X : mm_X} {d : Nat} {I : tI} {J : tJ} {P : Int32 → tI → tJ → Prop} {v0 : Int32}  (T : (v0 < 48 → (P 0 I J)) ∧ (¬ (v0 < 48) → ((57 < v0 → (P 0 I J)) ∧ (¬ (57 < v0) → (P 1 I J))))) : EI X d n_X10_isFigure [.int v0] I J P := by
  refine ⟨M_X10_isFigure, tb_X10_isFigure, Nat.le_of_ble_eq_true rfl, ?_⟩
  show Er X d M_X10_isFigure 0 [some (.int v0)] [] I J (qI P)
  refine e_l rfl rfl rfl ?_
  refine e_k rfl rfl rfl ib_48 ?_
  refine e_b rfl rfl rfl (fun hA => ?_) (fun hA => ?_)
  · replace T := T.1 hA
    refine e_k rfl rfl rfl ic_0 ?_
    exact e_rz rfl rfl (by decide) ⟨_, rfl, T⟩
  · replace T := T.2 hA
    refine e_l rfl rfl rfl ?_
    refine e_k rfl rfl rfl ib_57 ?_
    refine e_b rfl rfl rfl (fun hA => ?_) (fun hA => ?_)
    · replace T := T.1 hA
      refine e_k rfl rfl rfl ic_0 ?_
      exact e_rz rfl rfl (by decide) ⟨_, rfl, T⟩
    · replace T := T.2 hA
      refine e_k rfl rfl rfl ic_1 ?_
      refine e_g rfl ?_
      exact e_rz rfl rfl (by decide) ⟨_, rfl, T⟩
