/-! the law, case by case: printed by wip/tools/law.py -/
section LAWC
theorem lf0 {j : Nat} {q : mm_I} (h : k_L0[j]? = some q) : M_L_law.2.2[0 + j]? = some q := by
  show k_L_law[0 + j]? = some q
  have hj : j < k_L0.length := (List.getElem?_eq_some_iff.mp h).1
  unfold k_L_law
  rw [List.getElem?_append_left (by rw [show k_L0.length = 100 from rfl] at hj ⊢; omega)]
  rw [show 0 + j = j by omega]
  exact h
theorem lf1 {j : Nat} {q : mm_I} (h : k_L1[j]? = some q) : M_L_law.2.2[100 + j]? = some q := by
  show k_L_law[100 + j]? = some q
  have hj : j < k_L1.length := (List.getElem?_eq_some_iff.mp h).1
  unfold k_L_law
  rw [List.getElem?_append_right (by rw [show k_L0.length = 100 from rfl]; omega), show k_L0.length = 100 from rfl]
  rw [List.getElem?_append_left (by rw [show k_L1.length = 100 from rfl] at hj ⊢; omega)]
  rw [show 100 + j - 100 = j by omega]
  exact h
theorem lf2 {j : Nat} {q : mm_I} (h : k_L2[j]? = some q) : M_L_law.2.2[200 + j]? = some q := by
  show k_L_law[200 + j]? = some q
  have hj : j < k_L2.length := (List.getElem?_eq_some_iff.mp h).1
  unfold k_L_law
  rw [List.getElem?_append_right (by rw [show k_L0.length = 100 from rfl]; omega), show k_L0.length = 100 from rfl]
  rw [List.getElem?_append_right (by rw [show k_L1.length = 100 from rfl]; omega), show k_L1.length = 100 from rfl]
  rw [List.getElem?_append_left (by rw [show k_L2.length = 100 from rfl] at hj ⊢; omega)]
  rw [show 200 + j - 100 - 100 = j by omega]
  exact h
theorem lf3 {j : Nat} {q : mm_I} (h : k_L3[j]? = some q) : M_L_law.2.2[300 + j]? = some q := by
  show k_L_law[300 + j]? = some q
  have hj : j < k_L3.length := (List.getElem?_eq_some_iff.mp h).1
  unfold k_L_law
  rw [List.getElem?_append_right (by rw [show k_L0.length = 100 from rfl]; omega), show k_L0.length = 100 from rfl]
  rw [List.getElem?_append_right (by rw [show k_L1.length = 100 from rfl]; omega), show k_L1.length = 100 from rfl]
  rw [List.getElem?_append_right (by rw [show k_L2.length = 100 from rfl]; omega), show k_L2.length = 100 from rfl]
  rw [List.getElem?_append_left (by rw [show k_L3.length = 100 from rfl] at hj ⊢; omega)]
  rw [show 300 + j - 100 - 100 - 100 = j by omega]
  exact h
theorem lf4 {j : Nat} {q : mm_I} (h : k_L4[j]? = some q) : M_L_law.2.2[400 + j]? = some q := by
  show k_L_law[400 + j]? = some q
  have hj : j < k_L4.length := (List.getElem?_eq_some_iff.mp h).1
  unfold k_L_law
  rw [List.getElem?_append_right (by rw [show k_L0.length = 100 from rfl]; omega), show k_L0.length = 100 from rfl]
  rw [List.getElem?_append_right (by rw [show k_L1.length = 100 from rfl]; omega), show k_L1.length = 100 from rfl]
  rw [List.getElem?_append_right (by rw [show k_L2.length = 100 from rfl]; omega), show k_L2.length = 100 from rfl]
  rw [List.getElem?_append_right (by rw [show k_L3.length = 100 from rfl]; omega), show k_L3.length = 100 from rfl]
  rw [List.getElem?_append_left (by rw [show k_L4.length = 100 from rfl] at hj ⊢; omega)]
  rw [show 400 + j - 100 - 100 - 100 - 100 = j by omega]
  exact h
theorem lf5 {j : Nat} {q : mm_I} (h : k_L5[j]? = some q) : M_L_law.2.2[500 + j]? = some q := by
  show k_L_law[500 + j]? = some q
  have hj : j < k_L5.length := (List.getElem?_eq_some_iff.mp h).1
  unfold k_L_law
  rw [List.getElem?_append_right (by rw [show k_L0.length = 100 from rfl]; omega), show k_L0.length = 100 from rfl]
  rw [List.getElem?_append_right (by rw [show k_L1.length = 100 from rfl]; omega), show k_L1.length = 100 from rfl]
  rw [List.getElem?_append_right (by rw [show k_L2.length = 100 from rfl]; omega), show k_L2.length = 100 from rfl]
  rw [List.getElem?_append_right (by rw [show k_L3.length = 100 from rfl]; omega), show k_L3.length = 100 from rfl]
  rw [List.getElem?_append_right (by rw [show k_L4.length = 100 from rfl]; omega), show k_L4.length = 100 from rfl]
  rw [List.getElem?_append_left (by rw [show k_L5.length = 100 from rfl] at hj ⊢; omega)]
  rw [show 500 + j - 100 - 100 - 100 - 100 - 100 = j by omega]
  exact h
theorem lf6 {j : Nat} {q : mm_I} (h : k_L6[j]? = some q) : M_L_law.2.2[600 + j]? = some q := by
  show k_L_law[600 + j]? = some q
  have hj : j < k_L6.length := (List.getElem?_eq_some_iff.mp h).1
  unfold k_L_law
  rw [List.getElem?_append_right (by rw [show k_L0.length = 100 from rfl]; omega), show k_L0.length = 100 from rfl]
  rw [List.getElem?_append_right (by rw [show k_L1.length = 100 from rfl]; omega), show k_L1.length = 100 from rfl]
  rw [List.getElem?_append_right (by rw [show k_L2.length = 100 from rfl]; omega), show k_L2.length = 100 from rfl]
  rw [List.getElem?_append_right (by rw [show k_L3.length = 100 from rfl]; omega), show k_L3.length = 100 from rfl]
  rw [List.getElem?_append_right (by rw [show k_L4.length = 100 from rfl]; omega), show k_L4.length = 100 from rfl]
  rw [List.getElem?_append_right (by rw [show k_L5.length = 100 from rfl]; omega), show k_L5.length = 100 from rfl]
  rw [List.getElem?_append_left (by rw [show k_L6.length = 100 from rfl] at hj ⊢; omega)]
  rw [show 600 + j - 100 - 100 - 100 - 100 - 100 - 100 = j by omega]
  exact h
theorem lf7 {j : Nat} {q : mm_I} (h : k_L7[j]? = some q) : M_L_law.2.2[700 + j]? = some q := by
  show k_L_law[700 + j]? = some q
  have hj : j < k_L7.length := (List.getElem?_eq_some_iff.mp h).1
  unfold k_L_law
  rw [List.getElem?_append_right (by rw [show k_L0.length = 100 from rfl]; omega), show k_L0.length = 100 from rfl]
  rw [List.getElem?_append_right (by rw [show k_L1.length = 100 from rfl]; omega), show k_L1.length = 100 from rfl]
  rw [List.getElem?_append_right (by rw [show k_L2.length = 100 from rfl]; omega), show k_L2.length = 100 from rfl]
  rw [List.getElem?_append_right (by rw [show k_L3.length = 100 from rfl]; omega), show k_L3.length = 100 from rfl]
  rw [List.getElem?_append_right (by rw [show k_L4.length = 100 from rfl]; omega), show k_L4.length = 100 from rfl]
  rw [List.getElem?_append_right (by rw [show k_L5.length = 100 from rfl]; omega), show k_L5.length = 100 from rfl]
  rw [List.getElem?_append_right (by rw [show k_L6.length = 100 from rfl]; omega), show k_L6.length = 100 from rfl]
  rw [List.getElem?_append_left (by rw [show k_L7.length = 100 from rfl] at hj ⊢; omega)]
  rw [show 700 + j - 100 - 100 - 100 - 100 - 100 - 100 - 100 = j by omega]
  exact h
theorem lf8 {j : Nat} {q : mm_I} (h : k_L8[j]? = some q) : M_L_law.2.2[800 + j]? = some q := by
  show k_L_law[800 + j]? = some q
  have hj : j < k_L8.length := (List.getElem?_eq_some_iff.mp h).1
  unfold k_L_law
  rw [List.getElem?_append_right (by rw [show k_L0.length = 100 from rfl]; omega), show k_L0.length = 100 from rfl]
  rw [List.getElem?_append_right (by rw [show k_L1.length = 100 from rfl]; omega), show k_L1.length = 100 from rfl]
  rw [List.getElem?_append_right (by rw [show k_L2.length = 100 from rfl]; omega), show k_L2.length = 100 from rfl]
  rw [List.getElem?_append_right (by rw [show k_L3.length = 100 from rfl]; omega), show k_L3.length = 100 from rfl]
  rw [List.getElem?_append_right (by rw [show k_L4.length = 100 from rfl]; omega), show k_L4.length = 100 from rfl]
  rw [List.getElem?_append_right (by rw [show k_L5.length = 100 from rfl]; omega), show k_L5.length = 100 from rfl]
  rw [List.getElem?_append_right (by rw [show k_L6.length = 100 from rfl]; omega), show k_L6.length = 100 from rfl]
  rw [List.getElem?_append_right (by rw [show k_L7.length = 100 from rfl]; omega), show k_L7.length = 100 from rfl]
  rw [show 800 + j - 100 - 100 - 100 - 100 - 100 - 100 - 100 - 100 = j by omega]
  exact h
variable {X : mm_X} {d nS : Nat} {xs : Nat → Int32} {I : tI} {J : tJ} {v : Int32} {P : Option Value → tI → tJ → Prop}
theorem lca_0 (hX0 : X 0 = some (nS, xs)) (h1 : ix (v + 1) nS) (h2 : ix (v + 2) nS) (T : PB X d n_X10_type n_X11_type [.int (xs (tn (v + 1))), .int (xs (tn (v + 2)))] I J) (hn : ∀ I' J', RR I' → Er X (d + 1) M_L_law 883 [some (.ref 1000), some (.ref 0), some (.ref 145), some (.int v)] [] I' J' P) : Er X (d + 1) M_L_law 22 [some (.ref 1000), some (.ref 0), some (.ref 145), some (.int v)] [] I J P := by
  refine e_l (lf0 (j := 22) rfl) rfl rfl ?_
  refine e_l (lf0 (j := 23) rfl) rfl rfl ?_
  refine e_l (lf0 (j := 24) rfl) rfl rfl ?_
  refine e_k (lf0 (j := 25) rfl) rfl rfl ic_1 ?_
  refine e_p (lf0 (j := 26) rfl) rfl rfl ?_
  refine e_ix (k := 0) (lf0 (j := 27) rfl) hX0 h1 ?_
  refine e_l (lf0 (j := 28) rfl) rfl rfl ?_
  refine e_l (lf0 (j := 29) rfl) rfl rfl ?_
  refine e_k (lf0 (j := 30) rfl) rfl rfl ic_2 ?_
  refine e_p (lf0 (j := 31) rfl) rfl rfl ?_
  refine e_ix (k := 0) (lf0 (j := 32) rfl) hX0 h2 ?_
  refine e_cvI (as := [.int (xs (tn (v + 1))), .int (xs (tn (v + 2)))]) (rs := []) (lf0 (j := 33) rfl) rfl g_0 rfl T (fun x I1 J1 T => ?_)
  refine e_l (lf0 (j := 34) rfl) rfl rfl ?_
  refine e_l (lf0 (j := 35) rfl) rfl rfl ?_
  refine e_l (lf0 (j := 36) rfl) rfl rfl ?_
  refine e_k (lf0 (j := 37) rfl) rfl rfl ic_1 ?_
  refine e_p (lf0 (j := 38) rfl) rfl rfl ?_
  refine e_ix (k := 0) (lf0 (j := 39) rfl) hX0 h1 ?_
  refine e_l (lf0 (j := 40) rfl) rfl rfl ?_
  refine e_l (lf0 (j := 41) rfl) rfl rfl ?_
  refine e_k (lf0 (j := 42) rfl) rfl rfl ic_2 ?_
  refine e_p (lf0 (j := 43) rfl) rfl rfl ?_
  refine e_ix (k := 0) (lf0 (j := 44) rfl) hX0 h2 ?_
  refine e_cvI (as := [.int (xs (tn (v + 1))), .int (xs (tn (v + 2)))]) (rs := [.int x]) (lf0 (j := 45) rfl) rfl g_145 rfl T (fun y I2 J2 T => ?_)
  exact e_b (lf0 (j := 46) rfl) rfl rfl (fun _ => hn I2 J2 T.2) (fun hA => absurd T.1.symm hA)
theorem lca_1 (hX0 : X 0 = some (nS, xs)) (h1 : ix (v + 1) nS) (T : PB X d n_X10_wipe n_X11_wipe [.int (xs (tn (v + 1)))] I J) (hn : ∀ I' J', RR I' → Er X (d + 1) M_L_law 883 [some (.ref 1000), some (.ref 0), some (.ref 145), some (.int v)] [] I' J' P) : Er X (d + 1) M_L_law 49 [some (.ref 1000), some (.ref 0), some (.ref 145), some (.int v)] [] I J P := by
  refine e_l (lf0 (j := 49) rfl) rfl rfl ?_
  refine e_l (lf0 (j := 50) rfl) rfl rfl ?_
  refine e_l (lf0 (j := 51) rfl) rfl rfl ?_
  refine e_k (lf0 (j := 52) rfl) rfl rfl ic_1 ?_
  refine e_p (lf0 (j := 53) rfl) rfl rfl ?_
  refine e_ix (k := 0) (lf0 (j := 54) rfl) hX0 h1 ?_
  refine e_cvI (as := [.int (xs (tn (v + 1)))]) (rs := []) (lf0 (j := 55) rfl) rfl g_0 rfl T (fun x I1 J1 T => ?_)
  refine e_l (lf0 (j := 56) rfl) rfl rfl ?_
  refine e_l (lf0 (j := 57) rfl) rfl rfl ?_
  refine e_l (lf0 (j := 58) rfl) rfl rfl ?_
  refine e_k (lf0 (j := 59) rfl) rfl rfl ic_1 ?_
  refine e_p (lf0 (j := 60) rfl) rfl rfl ?_
  refine e_ix (k := 0) (lf0 (j := 61) rfl) hX0 h1 ?_
  refine e_cvI (as := [.int (xs (tn (v + 1)))]) (rs := [.int x]) (lf0 (j := 62) rfl) rfl g_145 rfl T (fun y I2 J2 T => ?_)
  exact e_b (lf0 (j := 63) rfl) rfl rfl (fun _ => hn I2 J2 T.2) (fun hA => absurd T.1.symm hA)
theorem lca_2 (hX0 : X 0 = some (nS, xs)) (h1 : ix (v + 1) nS) (T : PB X d n_X10_undo n_X11_undo [.int (xs (tn (v + 1)))] I J) (hn : ∀ I' J', RR I' → Er X (d + 1) M_L_law 883 [some (.ref 1000), some (.ref 0), some (.ref 145), some (.int v)] [] I' J' P) : Er X (d + 1) M_L_law 66 [some (.ref 1000), some (.ref 0), some (.ref 145), some (.int v)] [] I J P := by
  refine e_l (lf0 (j := 66) rfl) rfl rfl ?_
  refine e_l (lf0 (j := 67) rfl) rfl rfl ?_
  refine e_l (lf0 (j := 68) rfl) rfl rfl ?_
  refine e_k (lf0 (j := 69) rfl) rfl rfl ic_1 ?_
  refine e_p (lf0 (j := 70) rfl) rfl rfl ?_
  refine e_ix (k := 0) (lf0 (j := 71) rfl) hX0 h1 ?_
  refine e_cvI (as := [.int (xs (tn (v + 1)))]) (rs := []) (lf0 (j := 72) rfl) rfl g_0 rfl T (fun x I1 J1 T => ?_)
  refine e_l (lf0 (j := 73) rfl) rfl rfl ?_
  refine e_l (lf0 (j := 74) rfl) rfl rfl ?_
  refine e_l (lf0 (j := 75) rfl) rfl rfl ?_
  refine e_k (lf0 (j := 76) rfl) rfl rfl ic_1 ?_
  refine e_p (lf0 (j := 77) rfl) rfl rfl ?_
  refine e_ix (k := 0) (lf0 (j := 78) rfl) hX0 h1 ?_
  refine e_cvI (as := [.int (xs (tn (v + 1)))]) (rs := [.int x]) (lf0 (j := 79) rfl) rfl g_145 rfl T (fun y I2 J2 T => ?_)
  exact e_b (lf0 (j := 80) rfl) rfl rfl (fun _ => hn I2 J2 T.2) (fun hA => absurd T.1.symm hA)
theorem lca_3 (hX0 : X 0 = some (nS, xs)) (h1 : ix (v + 1) nS) (T : PB X d n_X10_fault n_X11_fault [.int (xs (tn (v + 1)))] I J) (hn : ∀ I' J', RR I' → Er X (d + 1) M_L_law 883 [some (.ref 1000), some (.ref 0), some (.ref 145), some (.int v)] [] I' J' P) : Er X (d + 1) M_L_law 83 [some (.ref 1000), some (.ref 0), some (.ref 145), some (.int v)] [] I J P := by
  refine e_l (lf0 (j := 83) rfl) rfl rfl ?_
  refine e_l (lf0 (j := 84) rfl) rfl rfl ?_
  refine e_l (lf0 (j := 85) rfl) rfl rfl ?_
  refine e_k (lf0 (j := 86) rfl) rfl rfl ic_1 ?_
  refine e_p (lf0 (j := 87) rfl) rfl rfl ?_
  refine e_ix (k := 0) (lf0 (j := 88) rfl) hX0 h1 ?_
  refine e_cvI (as := [.int (xs (tn (v + 1)))]) (rs := []) (lf0 (j := 89) rfl) rfl g_0 rfl T (fun x I1 J1 T => ?_)
  refine e_l (lf0 (j := 90) rfl) rfl rfl ?_
  refine e_l (lf0 (j := 91) rfl) rfl rfl ?_
  refine e_l (lf0 (j := 92) rfl) rfl rfl ?_
  refine e_k (lf0 (j := 93) rfl) rfl rfl ic_1 ?_
  refine e_p (lf0 (j := 94) rfl) rfl rfl ?_
  refine e_ix (k := 0) (lf0 (j := 95) rfl) hX0 h1 ?_
  refine e_cvI (as := [.int (xs (tn (v + 1)))]) (rs := [.int x]) (lf0 (j := 96) rfl) rfl g_145 rfl T (fun y I2 J2 T => ?_)
  exact e_b (lf0 (j := 97) rfl) rfl rfl (fun _ => hn I2 J2 T.2) (fun hA => absurd T.1.symm hA)
theorem lca_4 (hX0 : X 0 = some (nS, xs)) (h1 : ix (v + 1) nS) (T : PB X d n_X10_draws n_X11_draws [.int (xs (tn (v + 1)))] I J) (hn : ∀ I' J', RR I' → Er X (d + 1) M_L_law 883 [some (.ref 1000), some (.ref 0), some (.ref 145), some (.int v)] [] I' J' P) : Er X (d + 1) M_L_law 100 [some (.ref 1000), some (.ref 0), some (.ref 145), some (.int v)] [] I J P := by
  refine e_l (lf1 (j := 0) rfl) rfl rfl ?_
  refine e_l (lf1 (j := 1) rfl) rfl rfl ?_
  refine e_l (lf1 (j := 2) rfl) rfl rfl ?_
  refine e_k (lf1 (j := 3) rfl) rfl rfl ic_1 ?_
  refine e_p (lf1 (j := 4) rfl) rfl rfl ?_
  refine e_ix (k := 0) (lf1 (j := 5) rfl) hX0 h1 ?_
  refine e_cvI (as := [.int (xs (tn (v + 1)))]) (rs := []) (lf1 (j := 6) rfl) rfl g_0 rfl T (fun x I1 J1 T => ?_)
  refine e_l (lf1 (j := 7) rfl) rfl rfl ?_
  refine e_l (lf1 (j := 8) rfl) rfl rfl ?_
  refine e_l (lf1 (j := 9) rfl) rfl rfl ?_
  refine e_k (lf1 (j := 10) rfl) rfl rfl ic_1 ?_
  refine e_p (lf1 (j := 11) rfl) rfl rfl ?_
  refine e_ix (k := 0) (lf1 (j := 12) rfl) hX0 h1 ?_
  refine e_cvI (as := [.int (xs (tn (v + 1)))]) (rs := [.int x]) (lf1 (j := 13) rfl) rfl g_145 rfl T (fun y I2 J2 T => ?_)
  exact e_b (lf1 (j := 14) rfl) rfl rfl (fun _ => hn I2 J2 T.2) (fun hA => absurd T.1.symm hA)
theorem lca_5 (hX0 : X 0 = some (nS, xs)) (h1 : ix (v + 1) nS) (h2 : ix (v + 2) nS) (T : PB X d n_X10_slice n_X11_slice [.int (xs (tn (v + 1))), .int (xs (tn (v + 2)))] I J) (hn : ∀ I' J', RR I' → Er X (d + 1) M_L_law 883 [some (.ref 1000), some (.ref 0), some (.ref 145), some (.int v)] [] I' J' P) : Er X (d + 1) M_L_law 117 [some (.ref 1000), some (.ref 0), some (.ref 145), some (.int v)] [] I J P := by
  refine e_l (lf1 (j := 17) rfl) rfl rfl ?_
  refine e_l (lf1 (j := 18) rfl) rfl rfl ?_
  refine e_l (lf1 (j := 19) rfl) rfl rfl ?_
  refine e_k (lf1 (j := 20) rfl) rfl rfl ic_1 ?_
  refine e_p (lf1 (j := 21) rfl) rfl rfl ?_
  refine e_ix (k := 0) (lf1 (j := 22) rfl) hX0 h1 ?_
  refine e_l (lf1 (j := 23) rfl) rfl rfl ?_
  refine e_l (lf1 (j := 24) rfl) rfl rfl ?_
  refine e_k (lf1 (j := 25) rfl) rfl rfl ic_2 ?_
  refine e_p (lf1 (j := 26) rfl) rfl rfl ?_
  refine e_ix (k := 0) (lf1 (j := 27) rfl) hX0 h2 ?_
  refine e_cvI (as := [.int (xs (tn (v + 1))), .int (xs (tn (v + 2)))]) (rs := []) (lf1 (j := 28) rfl) rfl g_0 rfl T (fun x I1 J1 T => ?_)
  refine e_l (lf1 (j := 29) rfl) rfl rfl ?_
  refine e_l (lf1 (j := 30) rfl) rfl rfl ?_
  refine e_l (lf1 (j := 31) rfl) rfl rfl ?_
  refine e_k (lf1 (j := 32) rfl) rfl rfl ic_1 ?_
  refine e_p (lf1 (j := 33) rfl) rfl rfl ?_
  refine e_ix (k := 0) (lf1 (j := 34) rfl) hX0 h1 ?_
  refine e_l (lf1 (j := 35) rfl) rfl rfl ?_
  refine e_l (lf1 (j := 36) rfl) rfl rfl ?_
  refine e_k (lf1 (j := 37) rfl) rfl rfl ic_2 ?_
  refine e_p (lf1 (j := 38) rfl) rfl rfl ?_
  refine e_ix (k := 0) (lf1 (j := 39) rfl) hX0 h2 ?_
  refine e_cvI (as := [.int (xs (tn (v + 1))), .int (xs (tn (v + 2)))]) (rs := [.int x]) (lf1 (j := 40) rfl) rfl g_145 rfl T (fun y I2 J2 T => ?_)
  exact e_b (lf1 (j := 41) rfl) rfl rfl (fun _ => hn I2 J2 T.2) (fun hA => absurd T.1.symm hA)
theorem lca_6 (hX0 : X 0 = some (nS, xs)) (h1 : ix (v + 1) nS) (h2 : ix (v + 2) nS) (T : PB X d n_X10_set n_X11_set [.int (xs (tn (v + 1))), .int (xs (tn (v + 2)))] I J) (hn : ∀ I' J', RR I' → Er X (d + 1) M_L_law 883 [some (.ref 1000), some (.ref 0), some (.ref 145), some (.int v)] [] I' J' P) : Er X (d + 1) M_L_law 144 [some (.ref 1000), some (.ref 0), some (.ref 145), some (.int v)] [] I J P := by
  refine e_l (lf1 (j := 44) rfl) rfl rfl ?_
  refine e_l (lf1 (j := 45) rfl) rfl rfl ?_
  refine e_l (lf1 (j := 46) rfl) rfl rfl ?_
  refine e_k (lf1 (j := 47) rfl) rfl rfl ic_1 ?_
  refine e_p (lf1 (j := 48) rfl) rfl rfl ?_
  refine e_ix (k := 0) (lf1 (j := 49) rfl) hX0 h1 ?_
  refine e_l (lf1 (j := 50) rfl) rfl rfl ?_
  refine e_l (lf1 (j := 51) rfl) rfl rfl ?_
  refine e_k (lf1 (j := 52) rfl) rfl rfl ic_2 ?_
  refine e_p (lf1 (j := 53) rfl) rfl rfl ?_
  refine e_ix (k := 0) (lf1 (j := 54) rfl) hX0 h2 ?_
  refine e_cvI (as := [.int (xs (tn (v + 1))), .int (xs (tn (v + 2)))]) (rs := []) (lf1 (j := 55) rfl) rfl g_0 rfl T (fun x I1 J1 T => ?_)
  refine e_l (lf1 (j := 56) rfl) rfl rfl ?_
  refine e_l (lf1 (j := 57) rfl) rfl rfl ?_
  refine e_l (lf1 (j := 58) rfl) rfl rfl ?_
  refine e_k (lf1 (j := 59) rfl) rfl rfl ic_1 ?_
  refine e_p (lf1 (j := 60) rfl) rfl rfl ?_
  refine e_ix (k := 0) (lf1 (j := 61) rfl) hX0 h1 ?_
  refine e_l (lf1 (j := 62) rfl) rfl rfl ?_
  refine e_l (lf1 (j := 63) rfl) rfl rfl ?_
  refine e_k (lf1 (j := 64) rfl) rfl rfl ic_2 ?_
  refine e_p (lf1 (j := 65) rfl) rfl rfl ?_
  refine e_ix (k := 0) (lf1 (j := 66) rfl) hX0 h2 ?_
  refine e_cvI (as := [.int (xs (tn (v + 1))), .int (xs (tn (v + 2)))]) (rs := [.int x]) (lf1 (j := 67) rfl) rfl g_145 rfl T (fun y I2 J2 T => ?_)
  exact e_b (lf1 (j := 68) rfl) rfl rfl (fun _ => hn I2 J2 T.2) (fun hA => absurd T.1.symm hA)
theorem lca_7 (hX0 : X 0 = some (nS, xs)) (h1 : ix (v + 1) nS) (h2 : ix (v + 2) nS) (T : PB X d n_X10_butter n_X11_butter [.int (xs (tn (v + 1))), .int (xs (tn (v + 2)))] I J) (hn : ∀ I' J', RR I' → Er X (d + 1) M_L_law 883 [some (.ref 1000), some (.ref 0), some (.ref 145), some (.int v)] [] I' J' P) : Er X (d + 1) M_L_law 171 [some (.ref 1000), some (.ref 0), some (.ref 145), some (.int v)] [] I J P := by
  refine e_l (lf1 (j := 71) rfl) rfl rfl ?_
  refine e_l (lf1 (j := 72) rfl) rfl rfl ?_
  refine e_l (lf1 (j := 73) rfl) rfl rfl ?_
  refine e_k (lf1 (j := 74) rfl) rfl rfl ic_1 ?_
  refine e_p (lf1 (j := 75) rfl) rfl rfl ?_
  refine e_ix (k := 0) (lf1 (j := 76) rfl) hX0 h1 ?_
  refine e_l (lf1 (j := 77) rfl) rfl rfl ?_
  refine e_l (lf1 (j := 78) rfl) rfl rfl ?_
  refine e_k (lf1 (j := 79) rfl) rfl rfl ic_2 ?_
  refine e_p (lf1 (j := 80) rfl) rfl rfl ?_
  refine e_ix (k := 0) (lf1 (j := 81) rfl) hX0 h2 ?_
  refine e_cvI (as := [.int (xs (tn (v + 1))), .int (xs (tn (v + 2)))]) (rs := []) (lf1 (j := 82) rfl) rfl g_0 rfl T (fun x I1 J1 T => ?_)
  refine e_l (lf1 (j := 83) rfl) rfl rfl ?_
  refine e_l (lf1 (j := 84) rfl) rfl rfl ?_
  refine e_l (lf1 (j := 85) rfl) rfl rfl ?_
  refine e_k (lf1 (j := 86) rfl) rfl rfl ic_1 ?_
  refine e_p (lf1 (j := 87) rfl) rfl rfl ?_
  refine e_ix (k := 0) (lf1 (j := 88) rfl) hX0 h1 ?_
  refine e_l (lf1 (j := 89) rfl) rfl rfl ?_
  refine e_l (lf1 (j := 90) rfl) rfl rfl ?_
  refine e_k (lf1 (j := 91) rfl) rfl rfl ic_2 ?_
  refine e_p (lf1 (j := 92) rfl) rfl rfl ?_
  refine e_ix (k := 0) (lf1 (j := 93) rfl) hX0 h2 ?_
  refine e_cvI (as := [.int (xs (tn (v + 1))), .int (xs (tn (v + 2)))]) (rs := [.int x]) (lf1 (j := 94) rfl) rfl g_145 rfl T (fun y I2 J2 T => ?_)
  exact e_b (lf1 (j := 95) rfl) rfl rfl (fun _ => hn I2 J2 T.2) (fun hA => absurd T.1.symm hA)
theorem lca_8 (hX0 : X 0 = some (nS, xs)) (h1 : ix (v + 1) nS) (T : PB X d n_X10_fire n_X11_fire [.int (xs (tn (v + 1)))] I J) (hn : ∀ I' J', RR I' → Er X (d + 1) M_L_law 883 [some (.ref 1000), some (.ref 0), some (.ref 145), some (.int v)] [] I' J' P) : Er X (d + 1) M_L_law 198 [some (.ref 1000), some (.ref 0), some (.ref 145), some (.int v)] [] I J P := by
  refine e_l (lf1 (j := 98) rfl) rfl rfl ?_
  refine e_l (lf1 (j := 99) rfl) rfl rfl ?_
  refine e_l (lf2 (j := 0) rfl) rfl rfl ?_
  refine e_k (lf2 (j := 1) rfl) rfl rfl ic_1 ?_
  refine e_p (lf2 (j := 2) rfl) rfl rfl ?_
  refine e_ix (k := 0) (lf2 (j := 3) rfl) hX0 h1 ?_
  refine e_cvI (as := [.int (xs (tn (v + 1)))]) (rs := []) (lf2 (j := 4) rfl) rfl g_0 rfl T (fun x I1 J1 T => ?_)
  refine e_l (lf2 (j := 5) rfl) rfl rfl ?_
  refine e_l (lf2 (j := 6) rfl) rfl rfl ?_
  refine e_l (lf2 (j := 7) rfl) rfl rfl ?_
  refine e_k (lf2 (j := 8) rfl) rfl rfl ic_1 ?_
  refine e_p (lf2 (j := 9) rfl) rfl rfl ?_
  refine e_ix (k := 0) (lf2 (j := 10) rfl) hX0 h1 ?_
  refine e_cvI (as := [.int (xs (tn (v + 1)))]) (rs := [.int x]) (lf2 (j := 11) rfl) rfl g_145 rfl T (fun y I2 J2 T => ?_)
  exact e_b (lf2 (j := 12) rfl) rfl rfl (fun _ => hn I2 J2 T.2) (fun hA => absurd T.1.symm hA)
theorem lca_9 (hX0 : X 0 = some (nS, xs)) (h1 : ix (v + 1) nS) (T : PB X d n_X10_back n_X11_back [.int (xs (tn (v + 1)))] I J) (hn : ∀ I' J', RR I' → Er X (d + 1) M_L_law 883 [some (.ref 1000), some (.ref 0), some (.ref 145), some (.int v)] [] I' J' P) : Er X (d + 1) M_L_law 215 [some (.ref 1000), some (.ref 0), some (.ref 145), some (.int v)] [] I J P := by
  refine e_l (lf2 (j := 15) rfl) rfl rfl ?_
  refine e_l (lf2 (j := 16) rfl) rfl rfl ?_
  refine e_l (lf2 (j := 17) rfl) rfl rfl ?_
  refine e_k (lf2 (j := 18) rfl) rfl rfl ic_1 ?_
  refine e_p (lf2 (j := 19) rfl) rfl rfl ?_
  refine e_ix (k := 0) (lf2 (j := 20) rfl) hX0 h1 ?_
  refine e_cvI (as := [.int (xs (tn (v + 1)))]) (rs := []) (lf2 (j := 21) rfl) rfl g_0 rfl T (fun x I1 J1 T => ?_)
  refine e_l (lf2 (j := 22) rfl) rfl rfl ?_
  refine e_l (lf2 (j := 23) rfl) rfl rfl ?_
  refine e_l (lf2 (j := 24) rfl) rfl rfl ?_
  refine e_k (lf2 (j := 25) rfl) rfl rfl ic_1 ?_
  refine e_p (lf2 (j := 26) rfl) rfl rfl ?_
  refine e_ix (k := 0) (lf2 (j := 27) rfl) hX0 h1 ?_
  refine e_cvI (as := [.int (xs (tn (v + 1)))]) (rs := [.int x]) (lf2 (j := 28) rfl) rfl g_145 rfl T (fun y I2 J2 T => ?_)
  exact e_b (lf2 (j := 29) rfl) rfl rfl (fun _ => hn I2 J2 T.2) (fun hA => absurd T.1.symm hA)
theorem lca_10 (hX0 : X 0 = some (nS, xs)) (h1 : ix (v + 1) nS) (T : PB X d n_X10_read n_X11_read [.int (xs (tn (v + 1)))] I J) (hn : ∀ I' J', RR I' → Er X (d + 1) M_L_law 883 [some (.ref 1000), some (.ref 0), some (.ref 145), some (.int v)] [] I' J' P) : Er X (d + 1) M_L_law 232 [some (.ref 1000), some (.ref 0), some (.ref 145), some (.int v)] [] I J P := by
  refine e_l (lf2 (j := 32) rfl) rfl rfl ?_
  refine e_l (lf2 (j := 33) rfl) rfl rfl ?_
  refine e_l (lf2 (j := 34) rfl) rfl rfl ?_
  refine e_k (lf2 (j := 35) rfl) rfl rfl ic_1 ?_
  refine e_p (lf2 (j := 36) rfl) rfl rfl ?_
  refine e_ix (k := 0) (lf2 (j := 37) rfl) hX0 h1 ?_
  refine e_cvI (as := [.int (xs (tn (v + 1)))]) (rs := []) (lf2 (j := 38) rfl) rfl g_0 rfl T (fun x I1 J1 T => ?_)
  refine e_l (lf2 (j := 39) rfl) rfl rfl ?_
  refine e_l (lf2 (j := 40) rfl) rfl rfl ?_
  refine e_l (lf2 (j := 41) rfl) rfl rfl ?_
  refine e_k (lf2 (j := 42) rfl) rfl rfl ic_1 ?_
  refine e_p (lf2 (j := 43) rfl) rfl rfl ?_
  refine e_ix (k := 0) (lf2 (j := 44) rfl) hX0 h1 ?_
  refine e_cvI (as := [.int (xs (tn (v + 1)))]) (rs := [.int x]) (lf2 (j := 45) rfl) rfl g_145 rfl T (fun y I2 J2 T => ?_)
  exact e_b (lf2 (j := 46) rfl) rfl rfl (fun _ => hn I2 J2 T.2) (fun hA => absurd T.1.symm hA)
theorem lca_11 (hX0 : X 0 = some (nS, xs)) (h1 : ix (v + 1) nS) (h2 : ix (v + 2) nS) (T : PB X d n_X10_heat n_X11_heat [.int (xs (tn (v + 1))), .int (xs (tn (v + 2)))] I J) (hn : ∀ I' J', RR I' → Er X (d + 1) M_L_law 883 [some (.ref 1000), some (.ref 0), some (.ref 145), some (.int v)] [] I' J' P) : Er X (d + 1) M_L_law 249 [some (.ref 1000), some (.ref 0), some (.ref 145), some (.int v)] [] I J P := by
  refine e_l (lf2 (j := 49) rfl) rfl rfl ?_
  refine e_l (lf2 (j := 50) rfl) rfl rfl ?_
  refine e_l (lf2 (j := 51) rfl) rfl rfl ?_
  refine e_k (lf2 (j := 52) rfl) rfl rfl ic_1 ?_
  refine e_p (lf2 (j := 53) rfl) rfl rfl ?_
  refine e_ix (k := 0) (lf2 (j := 54) rfl) hX0 h1 ?_
  refine e_l (lf2 (j := 55) rfl) rfl rfl ?_
  refine e_l (lf2 (j := 56) rfl) rfl rfl ?_
  refine e_k (lf2 (j := 57) rfl) rfl rfl ic_2 ?_
  refine e_p (lf2 (j := 58) rfl) rfl rfl ?_
  refine e_ix (k := 0) (lf2 (j := 59) rfl) hX0 h2 ?_
  refine e_cvI (as := [.int (xs (tn (v + 1))), .int (xs (tn (v + 2)))]) (rs := []) (lf2 (j := 60) rfl) rfl g_0 rfl T (fun x I1 J1 T => ?_)
  refine e_l (lf2 (j := 61) rfl) rfl rfl ?_
  refine e_l (lf2 (j := 62) rfl) rfl rfl ?_
  refine e_l (lf2 (j := 63) rfl) rfl rfl ?_
  refine e_k (lf2 (j := 64) rfl) rfl rfl ic_1 ?_
  refine e_p (lf2 (j := 65) rfl) rfl rfl ?_
  refine e_ix (k := 0) (lf2 (j := 66) rfl) hX0 h1 ?_
  refine e_l (lf2 (j := 67) rfl) rfl rfl ?_
  refine e_l (lf2 (j := 68) rfl) rfl rfl ?_
  refine e_k (lf2 (j := 69) rfl) rfl rfl ic_2 ?_
  refine e_p (lf2 (j := 70) rfl) rfl rfl ?_
  refine e_ix (k := 0) (lf2 (j := 71) rfl) hX0 h2 ?_
  refine e_cvI (as := [.int (xs (tn (v + 1))), .int (xs (tn (v + 2)))]) (rs := [.int x]) (lf2 (j := 72) rfl) rfl g_145 rfl T (fun y I2 J2 T => ?_)
  exact e_b (lf2 (j := 73) rfl) rfl rfl (fun _ => hn I2 J2 T.2) (fun hA => absurd T.1.symm hA)
theorem lca_12 (hX0 : X 0 = some (nS, xs)) (h1 : ix (v + 1) nS) (h2 : ix (v + 2) nS) (T : PB X d n_X10_state n_X11_state [.int (xs (tn (v + 1))), .int (xs (tn (v + 2)))] I J) (hn : ∀ I' J', RR I' → Er X (d + 1) M_L_law 883 [some (.ref 1000), some (.ref 0), some (.ref 145), some (.int v)] [] I' J' P) : Er X (d + 1) M_L_law 276 [some (.ref 1000), some (.ref 0), some (.ref 145), some (.int v)] [] I J P := by
  refine e_l (lf2 (j := 76) rfl) rfl rfl ?_
  refine e_l (lf2 (j := 77) rfl) rfl rfl ?_
  refine e_l (lf2 (j := 78) rfl) rfl rfl ?_
  refine e_k (lf2 (j := 79) rfl) rfl rfl ic_1 ?_
  refine e_p (lf2 (j := 80) rfl) rfl rfl ?_
  refine e_ix (k := 0) (lf2 (j := 81) rfl) hX0 h1 ?_
  refine e_l (lf2 (j := 82) rfl) rfl rfl ?_
  refine e_l (lf2 (j := 83) rfl) rfl rfl ?_
  refine e_k (lf2 (j := 84) rfl) rfl rfl ic_2 ?_
  refine e_p (lf2 (j := 85) rfl) rfl rfl ?_
  refine e_ix (k := 0) (lf2 (j := 86) rfl) hX0 h2 ?_
  refine e_cvI (as := [.int (xs (tn (v + 1))), .int (xs (tn (v + 2)))]) (rs := []) (lf2 (j := 87) rfl) rfl g_0 rfl T (fun x I1 J1 T => ?_)
  refine e_l (lf2 (j := 88) rfl) rfl rfl ?_
  refine e_l (lf2 (j := 89) rfl) rfl rfl ?_
  refine e_l (lf2 (j := 90) rfl) rfl rfl ?_
  refine e_k (lf2 (j := 91) rfl) rfl rfl ic_1 ?_
  refine e_p (lf2 (j := 92) rfl) rfl rfl ?_
  refine e_ix (k := 0) (lf2 (j := 93) rfl) hX0 h1 ?_
  refine e_l (lf2 (j := 94) rfl) rfl rfl ?_
  refine e_l (lf2 (j := 95) rfl) rfl rfl ?_
  refine e_k (lf2 (j := 96) rfl) rfl rfl ic_2 ?_
  refine e_p (lf2 (j := 97) rfl) rfl rfl ?_
  refine e_ix (k := 0) (lf2 (j := 98) rfl) hX0 h2 ?_
  refine e_cvI (as := [.int (xs (tn (v + 1))), .int (xs (tn (v + 2)))]) (rs := [.int x]) (lf2 (j := 99) rfl) rfl g_145 rfl T (fun y I2 J2 T => ?_)
  exact e_b (lf3 (j := 0) rfl) rfl rfl (fun _ => hn I2 J2 T.2) (fun hA => absurd T.1.symm hA)
theorem lca_13 (hX0 : X 0 = some (nS, xs)) (h1 : ix (v + 1) nS) (T : PB X d n_X10_held n_X11_held [.int (xs (tn (v + 1)))] I J) (hn : ∀ I' J', RR I' → Er X (d + 1) M_L_law 883 [some (.ref 1000), some (.ref 0), some (.ref 145), some (.int v)] [] I' J' P) : Er X (d + 1) M_L_law 303 [some (.ref 1000), some (.ref 0), some (.ref 145), some (.int v)] [] I J P := by
  refine e_l (lf3 (j := 3) rfl) rfl rfl ?_
  refine e_l (lf3 (j := 4) rfl) rfl rfl ?_
  refine e_l (lf3 (j := 5) rfl) rfl rfl ?_
  refine e_k (lf3 (j := 6) rfl) rfl rfl ic_1 ?_
  refine e_p (lf3 (j := 7) rfl) rfl rfl ?_
  refine e_ix (k := 0) (lf3 (j := 8) rfl) hX0 h1 ?_
  refine e_cvI (as := [.int (xs (tn (v + 1)))]) (rs := []) (lf3 (j := 9) rfl) rfl g_0 rfl T (fun x I1 J1 T => ?_)
  refine e_l (lf3 (j := 10) rfl) rfl rfl ?_
  refine e_l (lf3 (j := 11) rfl) rfl rfl ?_
  refine e_l (lf3 (j := 12) rfl) rfl rfl ?_
  refine e_k (lf3 (j := 13) rfl) rfl rfl ic_1 ?_
  refine e_p (lf3 (j := 14) rfl) rfl rfl ?_
  refine e_ix (k := 0) (lf3 (j := 15) rfl) hX0 h1 ?_
  refine e_cvI (as := [.int (xs (tn (v + 1)))]) (rs := [.int x]) (lf3 (j := 16) rfl) rfl g_145 rfl T (fun y I2 J2 T => ?_)
  exact e_b (lf3 (j := 17) rfl) rfl rfl (fun _ => hn I2 J2 T.2) (fun hA => absurd T.1.symm hA)
theorem lca_14 (hX0 : X 0 = some (nS, xs)) (h1 : ix (v + 1) nS) (h2 : ix (v + 2) nS) (T : PB X d n_X10_freed n_X11_freed [.int (xs (tn (v + 1))), .int (xs (tn (v + 2)))] I J) (hn : ∀ I' J', RR I' → Er X (d + 1) M_L_law 883 [some (.ref 1000), some (.ref 0), some (.ref 145), some (.int v)] [] I' J' P) : Er X (d + 1) M_L_law 320 [some (.ref 1000), some (.ref 0), some (.ref 145), some (.int v)] [] I J P := by
  refine e_l (lf3 (j := 20) rfl) rfl rfl ?_
  refine e_l (lf3 (j := 21) rfl) rfl rfl ?_
  refine e_l (lf3 (j := 22) rfl) rfl rfl ?_
  refine e_k (lf3 (j := 23) rfl) rfl rfl ic_1 ?_
  refine e_p (lf3 (j := 24) rfl) rfl rfl ?_
  refine e_ix (k := 0) (lf3 (j := 25) rfl) hX0 h1 ?_
  refine e_l (lf3 (j := 26) rfl) rfl rfl ?_
  refine e_l (lf3 (j := 27) rfl) rfl rfl ?_
  refine e_k (lf3 (j := 28) rfl) rfl rfl ic_2 ?_
  refine e_p (lf3 (j := 29) rfl) rfl rfl ?_
  refine e_ix (k := 0) (lf3 (j := 30) rfl) hX0 h2 ?_
  refine e_cvI (as := [.int (xs (tn (v + 1))), .int (xs (tn (v + 2)))]) (rs := []) (lf3 (j := 31) rfl) rfl g_0 rfl T (fun x I1 J1 T => ?_)
  refine e_l (lf3 (j := 32) rfl) rfl rfl ?_
  refine e_l (lf3 (j := 33) rfl) rfl rfl ?_
  refine e_l (lf3 (j := 34) rfl) rfl rfl ?_
  refine e_k (lf3 (j := 35) rfl) rfl rfl ic_1 ?_
  refine e_p (lf3 (j := 36) rfl) rfl rfl ?_
  refine e_ix (k := 0) (lf3 (j := 37) rfl) hX0 h1 ?_
  refine e_l (lf3 (j := 38) rfl) rfl rfl ?_
  refine e_l (lf3 (j := 39) rfl) rfl rfl ?_
  refine e_k (lf3 (j := 40) rfl) rfl rfl ic_2 ?_
  refine e_p (lf3 (j := 41) rfl) rfl rfl ?_
  refine e_ix (k := 0) (lf3 (j := 42) rfl) hX0 h2 ?_
  refine e_cvI (as := [.int (xs (tn (v + 1))), .int (xs (tn (v + 2)))]) (rs := [.int x]) (lf3 (j := 43) rfl) rfl g_145 rfl T (fun y I2 J2 T => ?_)
  exact e_b (lf3 (j := 44) rfl) rfl rfl (fun _ => hn I2 J2 T.2) (fun hA => absurd T.1.symm hA)
theorem lca_15 (hX0 : X 0 = some (nS, xs))  (T : PB X d n_X10_spoilt n_X11_spoilt [] I J) (hn : ∀ I' J', RR I' → Er X (d + 1) M_L_law 883 [some (.ref 1000), some (.ref 0), some (.ref 145), some (.int v)] [] I' J' P) : Er X (d + 1) M_L_law 347 [some (.ref 1000), some (.ref 0), some (.ref 145), some (.int v)] [] I J P := by
  refine e_l (lf3 (j := 47) rfl) rfl rfl ?_
  refine e_cvI (as := []) (rs := []) (lf3 (j := 48) rfl) rfl g_0 rfl T (fun x I1 J1 T => ?_)
  refine e_l (lf3 (j := 49) rfl) rfl rfl ?_
  refine e_cvI (as := []) (rs := [.int x]) (lf3 (j := 50) rfl) rfl g_145 rfl T (fun y I2 J2 T => ?_)
  exact e_b (lf3 (j := 51) rfl) rfl rfl (fun _ => hn I2 J2 T.2) (fun hA => absurd T.1.symm hA)
theorem lca_16 (hX0 : X 0 = some (nS, xs))  (T : PB X d n_X10_quiet n_X11_quiet [] I J) (hn : ∀ I' J', RR I' → Er X (d + 1) M_L_law 883 [some (.ref 1000), some (.ref 0), some (.ref 145), some (.int v)] [] I' J' P) : Er X (d + 1) M_L_law 354 [some (.ref 1000), some (.ref 0), some (.ref 145), some (.int v)] [] I J P := by
  refine e_l (lf3 (j := 54) rfl) rfl rfl ?_
  refine e_cvI (as := []) (rs := []) (lf3 (j := 55) rfl) rfl g_0 rfl T (fun x I1 J1 T => ?_)
  refine e_l (lf3 (j := 56) rfl) rfl rfl ?_
  refine e_cvI (as := []) (rs := [.int x]) (lf3 (j := 57) rfl) rfl g_145 rfl T (fun y I2 J2 T => ?_)
  exact e_b (lf3 (j := 58) rfl) rfl rfl (fun _ => hn I2 J2 T.2) (fun hA => absurd T.1.symm hA)
theorem lca_17 (hX0 : X 0 = some (nS, xs)) (h1 : ix (v + 1) nS) (T : PB X d n_X10_crowd n_X11_crowd [.int (xs (tn (v + 1)))] I J) (hn : ∀ I' J', RR I' → Er X (d + 1) M_L_law 883 [some (.ref 1000), some (.ref 0), some (.ref 145), some (.int v)] [] I' J' P) : Er X (d + 1) M_L_law 361 [some (.ref 1000), some (.ref 0), some (.ref 145), some (.int v)] [] I J P := by
  refine e_l (lf3 (j := 61) rfl) rfl rfl ?_
  refine e_l (lf3 (j := 62) rfl) rfl rfl ?_
  refine e_l (lf3 (j := 63) rfl) rfl rfl ?_
  refine e_k (lf3 (j := 64) rfl) rfl rfl ic_1 ?_
  refine e_p (lf3 (j := 65) rfl) rfl rfl ?_
  refine e_ix (k := 0) (lf3 (j := 66) rfl) hX0 h1 ?_
  refine e_cvI (as := [.int (xs (tn (v + 1)))]) (rs := []) (lf3 (j := 67) rfl) rfl g_0 rfl T (fun x I1 J1 T => ?_)
  refine e_l (lf3 (j := 68) rfl) rfl rfl ?_
  refine e_l (lf3 (j := 69) rfl) rfl rfl ?_
  refine e_l (lf3 (j := 70) rfl) rfl rfl ?_
  refine e_k (lf3 (j := 71) rfl) rfl rfl ic_1 ?_
  refine e_p (lf3 (j := 72) rfl) rfl rfl ?_
  refine e_ix (k := 0) (lf3 (j := 73) rfl) hX0 h1 ?_
  refine e_cvI (as := [.int (xs (tn (v + 1)))]) (rs := [.int x]) (lf3 (j := 74) rfl) rfl g_145 rfl T (fun y I2 J2 T => ?_)
  exact e_b (lf3 (j := 75) rfl) rfl rfl (fun _ => hn I2 J2 T.2) (fun hA => absurd T.1.symm hA)
theorem lca_18 (hX0 : X 0 = some (nS, xs)) (h1 : ix (v + 1) nS) (h2 : ix (v + 2) nS) (T : PB X d n_X10_move n_X11_move [.int (xs (tn (v + 1))), .int (xs (tn (v + 2)))] I J) (hn : ∀ I' J', RR I' → Er X (d + 1) M_L_law 883 [some (.ref 1000), some (.ref 0), some (.ref 145), some (.int v)] [] I' J' P) : Er X (d + 1) M_L_law 378 [some (.ref 1000), some (.ref 0), some (.ref 145), some (.int v)] [] I J P := by
  refine e_l (lf3 (j := 78) rfl) rfl rfl ?_
  refine e_l (lf3 (j := 79) rfl) rfl rfl ?_
  refine e_l (lf3 (j := 80) rfl) rfl rfl ?_
  refine e_k (lf3 (j := 81) rfl) rfl rfl ic_1 ?_
  refine e_p (lf3 (j := 82) rfl) rfl rfl ?_
  refine e_ix (k := 0) (lf3 (j := 83) rfl) hX0 h1 ?_
  refine e_l (lf3 (j := 84) rfl) rfl rfl ?_
  refine e_l (lf3 (j := 85) rfl) rfl rfl ?_
  refine e_k (lf3 (j := 86) rfl) rfl rfl ic_2 ?_
  refine e_p (lf3 (j := 87) rfl) rfl rfl ?_
  refine e_ix (k := 0) (lf3 (j := 88) rfl) hX0 h2 ?_
  refine e_cvI (as := [.int (xs (tn (v + 1))), .int (xs (tn (v + 2)))]) (rs := []) (lf3 (j := 89) rfl) rfl g_0 rfl T (fun x I1 J1 T => ?_)
  refine e_l (lf3 (j := 90) rfl) rfl rfl ?_
  refine e_l (lf3 (j := 91) rfl) rfl rfl ?_
  refine e_l (lf3 (j := 92) rfl) rfl rfl ?_
  refine e_k (lf3 (j := 93) rfl) rfl rfl ic_1 ?_
  refine e_p (lf3 (j := 94) rfl) rfl rfl ?_
  refine e_ix (k := 0) (lf3 (j := 95) rfl) hX0 h1 ?_
  refine e_l (lf3 (j := 96) rfl) rfl rfl ?_
  refine e_l (lf3 (j := 97) rfl) rfl rfl ?_
  refine e_k (lf3 (j := 98) rfl) rfl rfl ic_2 ?_
  refine e_p (lf3 (j := 99) rfl) rfl rfl ?_
  refine e_ix (k := 0) (lf4 (j := 0) rfl) hX0 h2 ?_
  refine e_cvI (as := [.int (xs (tn (v + 1))), .int (xs (tn (v + 2)))]) (rs := [.int x]) (lf4 (j := 1) rfl) rfl g_145 rfl T (fun y I2 J2 T => ?_)
  exact e_b (lf4 (j := 2) rfl) rfl rfl (fun _ => hn I2 J2 T.2) (fun hA => absurd T.1.symm hA)
theorem lca_19 (hX0 : X 0 = some (nS, xs)) (h1 : ix (v + 1) nS) (T : PB X d n_X10_swap n_X11_swap [.int (xs (tn (v + 1)))] I J) (hn : ∀ I' J', RR I' → Er X (d + 1) M_L_law 883 [some (.ref 1000), some (.ref 0), some (.ref 145), some (.int v)] [] I' J' P) : Er X (d + 1) M_L_law 405 [some (.ref 1000), some (.ref 0), some (.ref 145), some (.int v)] [] I J P := by
  refine e_l (lf4 (j := 5) rfl) rfl rfl ?_
  refine e_l (lf4 (j := 6) rfl) rfl rfl ?_
  refine e_l (lf4 (j := 7) rfl) rfl rfl ?_
  refine e_k (lf4 (j := 8) rfl) rfl rfl ic_1 ?_
  refine e_p (lf4 (j := 9) rfl) rfl rfl ?_
  refine e_ix (k := 0) (lf4 (j := 10) rfl) hX0 h1 ?_
  refine e_cvI (as := [.int (xs (tn (v + 1)))]) (rs := []) (lf4 (j := 11) rfl) rfl g_0 rfl T (fun x I1 J1 T => ?_)
  refine e_l (lf4 (j := 12) rfl) rfl rfl ?_
  refine e_l (lf4 (j := 13) rfl) rfl rfl ?_
  refine e_l (lf4 (j := 14) rfl) rfl rfl ?_
  refine e_k (lf4 (j := 15) rfl) rfl rfl ic_1 ?_
  refine e_p (lf4 (j := 16) rfl) rfl rfl ?_
  refine e_ix (k := 0) (lf4 (j := 17) rfl) hX0 h1 ?_
  refine e_cvI (as := [.int (xs (tn (v + 1)))]) (rs := [.int x]) (lf4 (j := 18) rfl) rfl g_145 rfl T (fun y I2 J2 T => ?_)
  exact e_b (lf4 (j := 19) rfl) rfl rfl (fun _ => hn I2 J2 T.2) (fun hA => absurd T.1.symm hA)
theorem lca_20 (hX0 : X 0 = some (nS, xs)) (h1 : ix (v + 1) nS) (T : PB X d n_X10_line n_X11_line [.int (xs (tn (v + 1)))] I J) (hn : ∀ I' J', RR I' → Er X (d + 1) M_L_law 883 [some (.ref 1000), some (.ref 0), some (.ref 145), some (.int v)] [] I' J' P) : Er X (d + 1) M_L_law 422 [some (.ref 1000), some (.ref 0), some (.ref 145), some (.int v)] [] I J P := by
  refine e_l (lf4 (j := 22) rfl) rfl rfl ?_
  refine e_l (lf4 (j := 23) rfl) rfl rfl ?_
  refine e_l (lf4 (j := 24) rfl) rfl rfl ?_
  refine e_k (lf4 (j := 25) rfl) rfl rfl ic_1 ?_
  refine e_p (lf4 (j := 26) rfl) rfl rfl ?_
  refine e_ix (k := 0) (lf4 (j := 27) rfl) hX0 h1 ?_
  refine e_cvI (as := [.int (xs (tn (v + 1)))]) (rs := []) (lf4 (j := 28) rfl) rfl g_0 rfl T (fun x I1 J1 T => ?_)
  refine e_l (lf4 (j := 29) rfl) rfl rfl ?_
  refine e_l (lf4 (j := 30) rfl) rfl rfl ?_
  refine e_l (lf4 (j := 31) rfl) rfl rfl ?_
  refine e_k (lf4 (j := 32) rfl) rfl rfl ic_1 ?_
  refine e_p (lf4 (j := 33) rfl) rfl rfl ?_
  refine e_ix (k := 0) (lf4 (j := 34) rfl) hX0 h1 ?_
  refine e_cvI (as := [.int (xs (tn (v + 1)))]) (rs := [.int x]) (lf4 (j := 35) rfl) rfl g_145 rfl T (fun y I2 J2 T => ?_)
  exact e_b (lf4 (j := 36) rfl) rfl rfl (fun _ => hn I2 J2 T.2) (fun hA => absurd T.1.symm hA)
theorem lca_21 (hX0 : X 0 = some (nS, xs))  (T : PB X d n_X10_bear n_X11_bear [] I J) (hn : ∀ I' J', RR I' → Er X (d + 1) M_L_law 883 [some (.ref 1000), some (.ref 0), some (.ref 145), some (.int v)] [] I' J' P) : Er X (d + 1) M_L_law 439 [some (.ref 1000), some (.ref 0), some (.ref 145), some (.int v)] [] I J P := by
  refine e_l (lf4 (j := 39) rfl) rfl rfl ?_
  refine e_cvI (as := []) (rs := []) (lf4 (j := 40) rfl) rfl g_0 rfl T (fun x I1 J1 T => ?_)
  refine e_l (lf4 (j := 41) rfl) rfl rfl ?_
  refine e_cvI (as := []) (rs := [.int x]) (lf4 (j := 42) rfl) rfl g_145 rfl T (fun y I2 J2 T => ?_)
  exact e_b (lf4 (j := 43) rfl) rfl rfl (fun _ => hn I2 J2 T.2) (fun hA => absurd T.1.symm hA)
theorem lca_22 (hX0 : X 0 = some (nS, xs)) (h1 : ix (v + 1) nS) (h2 : ix (v + 2) nS) (h3 : ix (v + 3) nS) (T : PB X d n_X10_seen n_X11_seen [.int (xs (tn (v + 1))), .int (xs (tn (v + 2))), .int (xs (tn (v + 3)))] I J) (hn : ∀ I' J', RR I' → Er X (d + 1) M_L_law 883 [some (.ref 1000), some (.ref 0), some (.ref 145), some (.int v)] [] I' J' P) : Er X (d + 1) M_L_law 446 [some (.ref 1000), some (.ref 0), some (.ref 145), some (.int v)] [] I J P := by
  refine e_l (lf4 (j := 46) rfl) rfl rfl ?_
  refine e_l (lf4 (j := 47) rfl) rfl rfl ?_
  refine e_l (lf4 (j := 48) rfl) rfl rfl ?_
  refine e_k (lf4 (j := 49) rfl) rfl rfl ic_1 ?_
  refine e_p (lf4 (j := 50) rfl) rfl rfl ?_
  refine e_ix (k := 0) (lf4 (j := 51) rfl) hX0 h1 ?_
  refine e_l (lf4 (j := 52) rfl) rfl rfl ?_
  refine e_l (lf4 (j := 53) rfl) rfl rfl ?_
  refine e_k (lf4 (j := 54) rfl) rfl rfl ic_2 ?_
  refine e_p (lf4 (j := 55) rfl) rfl rfl ?_
  refine e_ix (k := 0) (lf4 (j := 56) rfl) hX0 h2 ?_
  refine e_l (lf4 (j := 57) rfl) rfl rfl ?_
  refine e_l (lf4 (j := 58) rfl) rfl rfl ?_
  refine e_k (lf4 (j := 59) rfl) rfl rfl ic_3 ?_
  refine e_p (lf4 (j := 60) rfl) rfl rfl ?_
  refine e_ix (k := 0) (lf4 (j := 61) rfl) hX0 h3 ?_
  refine e_cvI (as := [.int (xs (tn (v + 1))), .int (xs (tn (v + 2))), .int (xs (tn (v + 3)))]) (rs := []) (lf4 (j := 62) rfl) rfl g_0 rfl T (fun x I1 J1 T => ?_)
  refine e_l (lf4 (j := 63) rfl) rfl rfl ?_
  refine e_l (lf4 (j := 64) rfl) rfl rfl ?_
  refine e_l (lf4 (j := 65) rfl) rfl rfl ?_
  refine e_k (lf4 (j := 66) rfl) rfl rfl ic_1 ?_
  refine e_p (lf4 (j := 67) rfl) rfl rfl ?_
  refine e_ix (k := 0) (lf4 (j := 68) rfl) hX0 h1 ?_
  refine e_l (lf4 (j := 69) rfl) rfl rfl ?_
  refine e_l (lf4 (j := 70) rfl) rfl rfl ?_
  refine e_k (lf4 (j := 71) rfl) rfl rfl ic_2 ?_
  refine e_p (lf4 (j := 72) rfl) rfl rfl ?_
  refine e_ix (k := 0) (lf4 (j := 73) rfl) hX0 h2 ?_
  refine e_l (lf4 (j := 74) rfl) rfl rfl ?_
  refine e_l (lf4 (j := 75) rfl) rfl rfl ?_
  refine e_k (lf4 (j := 76) rfl) rfl rfl ic_3 ?_
  refine e_p (lf4 (j := 77) rfl) rfl rfl ?_
  refine e_ix (k := 0) (lf4 (j := 78) rfl) hX0 h3 ?_
  refine e_cvI (as := [.int (xs (tn (v + 1))), .int (xs (tn (v + 2))), .int (xs (tn (v + 3)))]) (rs := [.int x]) (lf4 (j := 79) rfl) rfl g_145 rfl T (fun y I2 J2 T => ?_)
  exact e_b (lf4 (j := 80) rfl) rfl rfl (fun _ => hn I2 J2 T.2) (fun hA => absurd T.1.symm hA)
theorem lca_23 (hX0 : X 0 = some (nS, xs))  (T : PB X d n_X10_forget n_X11_forget [] I J) (hn : ∀ I' J', RR I' → Er X (d + 1) M_L_law 883 [some (.ref 1000), some (.ref 0), some (.ref 145), some (.int v)] [] I' J' P) : Er X (d + 1) M_L_law 483 [some (.ref 1000), some (.ref 0), some (.ref 145), some (.int v)] [] I J P := by
  refine e_l (lf4 (j := 83) rfl) rfl rfl ?_
  refine e_cvI (as := []) (rs := []) (lf4 (j := 84) rfl) rfl g_0 rfl T (fun x I1 J1 T => ?_)
  refine e_l (lf4 (j := 85) rfl) rfl rfl ?_
  refine e_cvI (as := []) (rs := [.int x]) (lf4 (j := 86) rfl) rfl g_145 rfl T (fun y I2 J2 T => ?_)
  exact e_b (lf4 (j := 87) rfl) rfl rfl (fun _ => hn I2 J2 T.2) (fun hA => absurd T.1.symm hA)
theorem lca_24 (hX0 : X 0 = some (nS, xs)) (h1 : ix (v + 1) nS) (h2 : ix (v + 2) nS) (T : PB X d n_X10_heats n_X11_heats [.int (xs (tn (v + 1))), .int (xs (tn (v + 2)))] I J) (hn : ∀ I' J', RR I' → Er X (d + 1) M_L_law 883 [some (.ref 1000), some (.ref 0), some (.ref 145), some (.int v)] [] I' J' P) : Er X (d + 1) M_L_law 490 [some (.ref 1000), some (.ref 0), some (.ref 145), some (.int v)] [] I J P := by
  refine e_l (lf4 (j := 90) rfl) rfl rfl ?_
  refine e_l (lf4 (j := 91) rfl) rfl rfl ?_
  refine e_l (lf4 (j := 92) rfl) rfl rfl ?_
  refine e_k (lf4 (j := 93) rfl) rfl rfl ic_1 ?_
  refine e_p (lf4 (j := 94) rfl) rfl rfl ?_
  refine e_ix (k := 0) (lf4 (j := 95) rfl) hX0 h1 ?_
  refine e_l (lf4 (j := 96) rfl) rfl rfl ?_
  refine e_l (lf4 (j := 97) rfl) rfl rfl ?_
  refine e_k (lf4 (j := 98) rfl) rfl rfl ic_2 ?_
  refine e_p (lf4 (j := 99) rfl) rfl rfl ?_
  refine e_ix (k := 0) (lf5 (j := 0) rfl) hX0 h2 ?_
  refine e_cvI (as := [.int (xs (tn (v + 1))), .int (xs (tn (v + 2)))]) (rs := []) (lf5 (j := 1) rfl) rfl g_0 rfl T (fun x I1 J1 T => ?_)
  refine e_l (lf5 (j := 2) rfl) rfl rfl ?_
  refine e_l (lf5 (j := 3) rfl) rfl rfl ?_
  refine e_l (lf5 (j := 4) rfl) rfl rfl ?_
  refine e_k (lf5 (j := 5) rfl) rfl rfl ic_1 ?_
  refine e_p (lf5 (j := 6) rfl) rfl rfl ?_
  refine e_ix (k := 0) (lf5 (j := 7) rfl) hX0 h1 ?_
  refine e_l (lf5 (j := 8) rfl) rfl rfl ?_
  refine e_l (lf5 (j := 9) rfl) rfl rfl ?_
  refine e_k (lf5 (j := 10) rfl) rfl rfl ic_2 ?_
  refine e_p (lf5 (j := 11) rfl) rfl rfl ?_
  refine e_ix (k := 0) (lf5 (j := 12) rfl) hX0 h2 ?_
  refine e_cvI (as := [.int (xs (tn (v + 1))), .int (xs (tn (v + 2)))]) (rs := [.int x]) (lf5 (j := 13) rfl) rfl g_145 rfl T (fun y I2 J2 T => ?_)
  exact e_b (lf5 (j := 14) rfl) rfl rfl (fun _ => hn I2 J2 T.2) (fun hA => absurd T.1.symm hA)
theorem lca_25 (hX0 : X 0 = some (nS, xs)) (h1 : ix (v + 1) nS) (T : PB X d n_X10_slots n_X11_slots [.int (xs (tn (v + 1)))] I J) (hn : ∀ I' J', RR I' → Er X (d + 1) M_L_law 883 [some (.ref 1000), some (.ref 0), some (.ref 145), some (.int v)] [] I' J' P) : Er X (d + 1) M_L_law 517 [some (.ref 1000), some (.ref 0), some (.ref 145), some (.int v)] [] I J P := by
  refine e_l (lf5 (j := 17) rfl) rfl rfl ?_
  refine e_l (lf5 (j := 18) rfl) rfl rfl ?_
  refine e_l (lf5 (j := 19) rfl) rfl rfl ?_
  refine e_k (lf5 (j := 20) rfl) rfl rfl ic_1 ?_
  refine e_p (lf5 (j := 21) rfl) rfl rfl ?_
  refine e_ix (k := 0) (lf5 (j := 22) rfl) hX0 h1 ?_
  refine e_cvI (as := [.int (xs (tn (v + 1)))]) (rs := []) (lf5 (j := 23) rfl) rfl g_0 rfl T (fun x I1 J1 T => ?_)
  refine e_l (lf5 (j := 24) rfl) rfl rfl ?_
  refine e_l (lf5 (j := 25) rfl) rfl rfl ?_
  refine e_l (lf5 (j := 26) rfl) rfl rfl ?_
  refine e_k (lf5 (j := 27) rfl) rfl rfl ic_1 ?_
  refine e_p (lf5 (j := 28) rfl) rfl rfl ?_
  refine e_ix (k := 0) (lf5 (j := 29) rfl) hX0 h1 ?_
  refine e_cvI (as := [.int (xs (tn (v + 1)))]) (rs := [.int x]) (lf5 (j := 30) rfl) rfl g_145 rfl T (fun y I2 J2 T => ?_)
  exact e_b (lf5 (j := 31) rfl) rfl rfl (fun _ => hn I2 J2 T.2) (fun hA => absurd T.1.symm hA)
theorem lca_26 (hX0 : X 0 = some (nS, xs)) (h1 : ix (v + 1) nS) (T : PB X d n_X10_ask n_X11_ask [.int (xs (tn (v + 1)))] I J) (hn : ∀ I' J', RR I' → Er X (d + 1) M_L_law 883 [some (.ref 1000), some (.ref 0), some (.ref 145), some (.int v)] [] I' J' P) : Er X (d + 1) M_L_law 534 [some (.ref 1000), some (.ref 0), some (.ref 145), some (.int v)] [] I J P := by
  refine e_l (lf5 (j := 34) rfl) rfl rfl ?_
  refine e_l (lf5 (j := 35) rfl) rfl rfl ?_
  refine e_l (lf5 (j := 36) rfl) rfl rfl ?_
  refine e_k (lf5 (j := 37) rfl) rfl rfl ic_1 ?_
  refine e_p (lf5 (j := 38) rfl) rfl rfl ?_
  refine e_ix (k := 0) (lf5 (j := 39) rfl) hX0 h1 ?_
  refine e_cvI (as := [.int (xs (tn (v + 1)))]) (rs := []) (lf5 (j := 40) rfl) rfl g_0 rfl T (fun x I1 J1 T => ?_)
  refine e_l (lf5 (j := 41) rfl) rfl rfl ?_
  refine e_l (lf5 (j := 42) rfl) rfl rfl ?_
  refine e_l (lf5 (j := 43) rfl) rfl rfl ?_
  refine e_k (lf5 (j := 44) rfl) rfl rfl ic_1 ?_
  refine e_p (lf5 (j := 45) rfl) rfl rfl ?_
  refine e_ix (k := 0) (lf5 (j := 46) rfl) hX0 h1 ?_
  refine e_cvI (as := [.int (xs (tn (v + 1)))]) (rs := [.int x]) (lf5 (j := 47) rfl) rfl g_145 rfl T (fun y I2 J2 T => ?_)
  exact e_b (lf5 (j := 48) rfl) rfl rfl (fun _ => hn I2 J2 T.2) (fun hA => absurd T.1.symm hA)
theorem lca_27 (hX0 : X 0 = some (nS, xs)) (h1 : ix (v + 1) nS) (h2 : ix (v + 2) nS) (h3 : ix (v + 3) nS) (h4 : ix (v + 4) nS) (h5 : ix (v + 5) nS) (T : PBL X d n_X10_window n_X11_window [.int (xs (tn (v + 1))), .int (xs (tn (v + 2))), .int (xs (tn (v + 3))), .int (xs (tn (v + 4))), .int (xs (tn (v + 5)))] I J) (hn : ∀ I' J', RR I' → Er X (d + 1) M_L_law 883 [some (.ref 1000), some (.ref 0), some (.ref 145), some (.int v)] [] I' J' P) : Er X (d + 1) M_L_law 551 [some (.ref 1000), some (.ref 0), some (.ref 145), some (.int v)] [] I J P := by
  refine e_l (lf5 (j := 51) rfl) rfl rfl ?_
  refine e_l (lf5 (j := 52) rfl) rfl rfl ?_
  refine e_l (lf5 (j := 53) rfl) rfl rfl ?_
  refine e_k (lf5 (j := 54) rfl) rfl rfl ic_1 ?_
  refine e_p (lf5 (j := 55) rfl) rfl rfl ?_
  refine e_ix (k := 0) (lf5 (j := 56) rfl) hX0 h1 ?_
  refine e_l (lf5 (j := 57) rfl) rfl rfl ?_
  refine e_l (lf5 (j := 58) rfl) rfl rfl ?_
  refine e_k (lf5 (j := 59) rfl) rfl rfl ic_2 ?_
  refine e_p (lf5 (j := 60) rfl) rfl rfl ?_
  refine e_ix (k := 0) (lf5 (j := 61) rfl) hX0 h2 ?_
  refine e_l (lf5 (j := 62) rfl) rfl rfl ?_
  refine e_l (lf5 (j := 63) rfl) rfl rfl ?_
  refine e_k (lf5 (j := 64) rfl) rfl rfl ic_3 ?_
  refine e_p (lf5 (j := 65) rfl) rfl rfl ?_
  refine e_ix (k := 0) (lf5 (j := 66) rfl) hX0 h3 ?_
  refine e_l (lf5 (j := 67) rfl) rfl rfl ?_
  refine e_l (lf5 (j := 68) rfl) rfl rfl ?_
  refine e_k (lf5 (j := 69) rfl) rfl rfl ic_4 ?_
  refine e_p (lf5 (j := 70) rfl) rfl rfl ?_
  refine e_ix (k := 0) (lf5 (j := 71) rfl) hX0 h4 ?_
  refine e_l (lf5 (j := 72) rfl) rfl rfl ?_
  refine e_l (lf5 (j := 73) rfl) rfl rfl ?_
  refine e_k (lf5 (j := 74) rfl) rfl rfl ic_5 ?_
  refine e_p (lf5 (j := 75) rfl) rfl rfl ?_
  refine e_ix (k := 0) (lf5 (j := 76) rfl) hX0 h5 ?_
  refine e_cvL (as := [.int (xs (tn (v + 1))), .int (xs (tn (v + 2))), .int (xs (tn (v + 3))), .int (xs (tn (v + 4))), .int (xs (tn (v + 5)))]) (rs := []) (lf5 (j := 77) rfl) rfl g_0 rfl T (fun x I1 J1 T => ?_)
  refine e_l (lf5 (j := 78) rfl) rfl rfl ?_
  refine e_l (lf5 (j := 79) rfl) rfl rfl ?_
  refine e_l (lf5 (j := 80) rfl) rfl rfl ?_
  refine e_k (lf5 (j := 81) rfl) rfl rfl ic_1 ?_
  refine e_p (lf5 (j := 82) rfl) rfl rfl ?_
  refine e_ix (k := 0) (lf5 (j := 83) rfl) hX0 h1 ?_
  refine e_l (lf5 (j := 84) rfl) rfl rfl ?_
  refine e_l (lf5 (j := 85) rfl) rfl rfl ?_
  refine e_k (lf5 (j := 86) rfl) rfl rfl ic_2 ?_
  refine e_p (lf5 (j := 87) rfl) rfl rfl ?_
  refine e_ix (k := 0) (lf5 (j := 88) rfl) hX0 h2 ?_
  refine e_l (lf5 (j := 89) rfl) rfl rfl ?_
  refine e_l (lf5 (j := 90) rfl) rfl rfl ?_
  refine e_k (lf5 (j := 91) rfl) rfl rfl ic_3 ?_
  refine e_p (lf5 (j := 92) rfl) rfl rfl ?_
  refine e_ix (k := 0) (lf5 (j := 93) rfl) hX0 h3 ?_
  refine e_l (lf5 (j := 94) rfl) rfl rfl ?_
  refine e_l (lf5 (j := 95) rfl) rfl rfl ?_
  refine e_k (lf5 (j := 96) rfl) rfl rfl ic_4 ?_
  refine e_p (lf5 (j := 97) rfl) rfl rfl ?_
  refine e_ix (k := 0) (lf5 (j := 98) rfl) hX0 h4 ?_
  refine e_l (lf5 (j := 99) rfl) rfl rfl ?_
  refine e_l (lf6 (j := 0) rfl) rfl rfl ?_
  refine e_k (lf6 (j := 1) rfl) rfl rfl ic_5 ?_
  refine e_p (lf6 (j := 2) rfl) rfl rfl ?_
  refine e_ix (k := 0) (lf6 (j := 3) rfl) hX0 h5 ?_
  refine e_cvL (as := [.int (xs (tn (v + 1))), .int (xs (tn (v + 2))), .int (xs (tn (v + 3))), .int (xs (tn (v + 4))), .int (xs (tn (v + 5)))]) (rs := [.long x]) (lf6 (j := 4) rfl) rfl g_145 rfl T (fun y I2 J2 T => ?_)
  refine e_p (lf6 (j := 5) rfl) rfl rfl ?_
  exact e_b (lf6 (j := 6) rfl) rfl rfl (fun _ => hn I2 J2 T.2) (fun hA => absurd ((lg_cmp_eq _ _).mpr T.1.symm) hA)
theorem lca_28 (hX0 : X 0 = some (nS, xs)) (h1 : ix (v + 1) nS) (h2 : ix (v + 2) nS) (T : PB X d n_X10_others n_X11_others [.int (xs (tn (v + 1))), .int (xs (tn (v + 2)))] I J) (hn : ∀ I' J', RR I' → Er X (d + 1) M_L_law 883 [some (.ref 1000), some (.ref 0), some (.ref 145), some (.int v)] [] I' J' P) : Er X (d + 1) M_L_law 609 [some (.ref 1000), some (.ref 0), some (.ref 145), some (.int v)] [] I J P := by
  refine e_l (lf6 (j := 9) rfl) rfl rfl ?_
  refine e_l (lf6 (j := 10) rfl) rfl rfl ?_
  refine e_l (lf6 (j := 11) rfl) rfl rfl ?_
  refine e_k (lf6 (j := 12) rfl) rfl rfl ic_1 ?_
  refine e_p (lf6 (j := 13) rfl) rfl rfl ?_
  refine e_ix (k := 0) (lf6 (j := 14) rfl) hX0 h1 ?_
  refine e_l (lf6 (j := 15) rfl) rfl rfl ?_
  refine e_l (lf6 (j := 16) rfl) rfl rfl ?_
  refine e_k (lf6 (j := 17) rfl) rfl rfl ic_2 ?_
  refine e_p (lf6 (j := 18) rfl) rfl rfl ?_
  refine e_ix (k := 0) (lf6 (j := 19) rfl) hX0 h2 ?_
  refine e_cvI (as := [.int (xs (tn (v + 1))), .int (xs (tn (v + 2)))]) (rs := []) (lf6 (j := 20) rfl) rfl g_0 rfl T (fun x I1 J1 T => ?_)
  refine e_l (lf6 (j := 21) rfl) rfl rfl ?_
  refine e_l (lf6 (j := 22) rfl) rfl rfl ?_
  refine e_l (lf6 (j := 23) rfl) rfl rfl ?_
  refine e_k (lf6 (j := 24) rfl) rfl rfl ic_1 ?_
  refine e_p (lf6 (j := 25) rfl) rfl rfl ?_
  refine e_ix (k := 0) (lf6 (j := 26) rfl) hX0 h1 ?_
  refine e_l (lf6 (j := 27) rfl) rfl rfl ?_
  refine e_l (lf6 (j := 28) rfl) rfl rfl ?_
  refine e_k (lf6 (j := 29) rfl) rfl rfl ic_2 ?_
  refine e_p (lf6 (j := 30) rfl) rfl rfl ?_
  refine e_ix (k := 0) (lf6 (j := 31) rfl) hX0 h2 ?_
  refine e_cvI (as := [.int (xs (tn (v + 1))), .int (xs (tn (v + 2)))]) (rs := [.int x]) (lf6 (j := 32) rfl) rfl g_145 rfl T (fun y I2 J2 T => ?_)
  exact e_b (lf6 (j := 33) rfl) rfl rfl (fun _ => hn I2 J2 T.2) (fun hA => absurd T.1.symm hA)
theorem lca_29 (hX0 : X 0 = some (nS, xs)) (h1 : ix (v + 1) nS) (h2 : ix (v + 2) nS) (h3 : ix (v + 3) nS) (T : PB X d n_X10_sheet n_X11_sheet [.int (xs (tn (v + 1))), .int (xs (tn (v + 2))), .int (xs (tn (v + 3)))] I J) (hn : ∀ I' J', RR I' → Er X (d + 1) M_L_law 883 [some (.ref 1000), some (.ref 0), some (.ref 145), some (.int v)] [] I' J' P) : Er X (d + 1) M_L_law 636 [some (.ref 1000), some (.ref 0), some (.ref 145), some (.int v)] [] I J P := by
  refine e_l (lf6 (j := 36) rfl) rfl rfl ?_
  refine e_l (lf6 (j := 37) rfl) rfl rfl ?_
  refine e_l (lf6 (j := 38) rfl) rfl rfl ?_
  refine e_k (lf6 (j := 39) rfl) rfl rfl ic_1 ?_
  refine e_p (lf6 (j := 40) rfl) rfl rfl ?_
  refine e_ix (k := 0) (lf6 (j := 41) rfl) hX0 h1 ?_
  refine e_l (lf6 (j := 42) rfl) rfl rfl ?_
  refine e_l (lf6 (j := 43) rfl) rfl rfl ?_
  refine e_k (lf6 (j := 44) rfl) rfl rfl ic_2 ?_
  refine e_p (lf6 (j := 45) rfl) rfl rfl ?_
  refine e_ix (k := 0) (lf6 (j := 46) rfl) hX0 h2 ?_
  refine e_l (lf6 (j := 47) rfl) rfl rfl ?_
  refine e_l (lf6 (j := 48) rfl) rfl rfl ?_
  refine e_k (lf6 (j := 49) rfl) rfl rfl ic_3 ?_
  refine e_p (lf6 (j := 50) rfl) rfl rfl ?_
  refine e_ix (k := 0) (lf6 (j := 51) rfl) hX0 h3 ?_
  refine e_cvI (as := [.int (xs (tn (v + 1))), .int (xs (tn (v + 2))), .int (xs (tn (v + 3)))]) (rs := []) (lf6 (j := 52) rfl) rfl g_0 rfl T (fun x I1 J1 T => ?_)
  refine e_l (lf6 (j := 53) rfl) rfl rfl ?_
  refine e_l (lf6 (j := 54) rfl) rfl rfl ?_
  refine e_l (lf6 (j := 55) rfl) rfl rfl ?_
  refine e_k (lf6 (j := 56) rfl) rfl rfl ic_1 ?_
  refine e_p (lf6 (j := 57) rfl) rfl rfl ?_
  refine e_ix (k := 0) (lf6 (j := 58) rfl) hX0 h1 ?_
  refine e_l (lf6 (j := 59) rfl) rfl rfl ?_
  refine e_l (lf6 (j := 60) rfl) rfl rfl ?_
  refine e_k (lf6 (j := 61) rfl) rfl rfl ic_2 ?_
  refine e_p (lf6 (j := 62) rfl) rfl rfl ?_
  refine e_ix (k := 0) (lf6 (j := 63) rfl) hX0 h2 ?_
  refine e_l (lf6 (j := 64) rfl) rfl rfl ?_
  refine e_l (lf6 (j := 65) rfl) rfl rfl ?_
  refine e_k (lf6 (j := 66) rfl) rfl rfl ic_3 ?_
  refine e_p (lf6 (j := 67) rfl) rfl rfl ?_
  refine e_ix (k := 0) (lf6 (j := 68) rfl) hX0 h3 ?_
  refine e_cvI (as := [.int (xs (tn (v + 1))), .int (xs (tn (v + 2))), .int (xs (tn (v + 3)))]) (rs := [.int x]) (lf6 (j := 69) rfl) rfl g_145 rfl T (fun y I2 J2 T => ?_)
  exact e_b (lf6 (j := 70) rfl) rfl rfl (fun _ => hn I2 J2 T.2) (fun hA => absurd T.1.symm hA)
theorem lca_30 (hX0 : X 0 = some (nS, xs)) (h1 : ix (v + 1) nS) (T : PB X d n_X10_lose n_X11_lose [.int (xs (tn (v + 1)))] I J) (hn : ∀ I' J', RR I' → Er X (d + 1) M_L_law 883 [some (.ref 1000), some (.ref 0), some (.ref 145), some (.int v)] [] I' J' P) : Er X (d + 1) M_L_law 673 [some (.ref 1000), some (.ref 0), some (.ref 145), some (.int v)] [] I J P := by
  refine e_l (lf6 (j := 73) rfl) rfl rfl ?_
  refine e_l (lf6 (j := 74) rfl) rfl rfl ?_
  refine e_l (lf6 (j := 75) rfl) rfl rfl ?_
  refine e_k (lf6 (j := 76) rfl) rfl rfl ic_1 ?_
  refine e_p (lf6 (j := 77) rfl) rfl rfl ?_
  refine e_ix (k := 0) (lf6 (j := 78) rfl) hX0 h1 ?_
  refine e_cvI (as := [.int (xs (tn (v + 1)))]) (rs := []) (lf6 (j := 79) rfl) rfl g_0 rfl T (fun x I1 J1 T => ?_)
  refine e_l (lf6 (j := 80) rfl) rfl rfl ?_
  refine e_l (lf6 (j := 81) rfl) rfl rfl ?_
  refine e_l (lf6 (j := 82) rfl) rfl rfl ?_
  refine e_k (lf6 (j := 83) rfl) rfl rfl ic_1 ?_
  refine e_p (lf6 (j := 84) rfl) rfl rfl ?_
  refine e_ix (k := 0) (lf6 (j := 85) rfl) hX0 h1 ?_
  refine e_cvI (as := [.int (xs (tn (v + 1)))]) (rs := [.int x]) (lf6 (j := 86) rfl) rfl g_145 rfl T (fun y I2 J2 T => ?_)
  exact e_b (lf6 (j := 87) rfl) rfl rfl (fun _ => hn I2 J2 T.2) (fun hA => absurd T.1.symm hA)
theorem lca_31 (hX0 : X 0 = some (nS, xs)) (h1 : ix (v + 1) nS) (h2 : ix (v + 2) nS) (h3 : ix (v + 3) nS) (h4 : ix (v + 4) nS) (T : PB X d n_X10_lay n_X11_lay [.int (xs (tn (v + 1))), .int (xs (tn (v + 2))), .int (xs (tn (v + 3))), .int (xs (tn (v + 4)))] I J) (hn : ∀ I' J', RR I' → Er X (d + 1) M_L_law 883 [some (.ref 1000), some (.ref 0), some (.ref 145), some (.int v)] [] I' J' P) : Er X (d + 1) M_L_law 690 [some (.ref 1000), some (.ref 0), some (.ref 145), some (.int v)] [] I J P := by
  refine e_l (lf6 (j := 90) rfl) rfl rfl ?_
  refine e_l (lf6 (j := 91) rfl) rfl rfl ?_
  refine e_l (lf6 (j := 92) rfl) rfl rfl ?_
  refine e_k (lf6 (j := 93) rfl) rfl rfl ic_1 ?_
  refine e_p (lf6 (j := 94) rfl) rfl rfl ?_
  refine e_ix (k := 0) (lf6 (j := 95) rfl) hX0 h1 ?_
  refine e_l (lf6 (j := 96) rfl) rfl rfl ?_
  refine e_l (lf6 (j := 97) rfl) rfl rfl ?_
  refine e_k (lf6 (j := 98) rfl) rfl rfl ic_2 ?_
  refine e_p (lf6 (j := 99) rfl) rfl rfl ?_
  refine e_ix (k := 0) (lf7 (j := 0) rfl) hX0 h2 ?_
  refine e_l (lf7 (j := 1) rfl) rfl rfl ?_
  refine e_l (lf7 (j := 2) rfl) rfl rfl ?_
  refine e_k (lf7 (j := 3) rfl) rfl rfl ic_3 ?_
  refine e_p (lf7 (j := 4) rfl) rfl rfl ?_
  refine e_ix (k := 0) (lf7 (j := 5) rfl) hX0 h3 ?_
  refine e_l (lf7 (j := 6) rfl) rfl rfl ?_
  refine e_l (lf7 (j := 7) rfl) rfl rfl ?_
  refine e_k (lf7 (j := 8) rfl) rfl rfl ic_4 ?_
  refine e_p (lf7 (j := 9) rfl) rfl rfl ?_
  refine e_ix (k := 0) (lf7 (j := 10) rfl) hX0 h4 ?_
  refine e_cvI (as := [.int (xs (tn (v + 1))), .int (xs (tn (v + 2))), .int (xs (tn (v + 3))), .int (xs (tn (v + 4)))]) (rs := []) (lf7 (j := 11) rfl) rfl g_0 rfl T (fun x I1 J1 T => ?_)
  refine e_l (lf7 (j := 12) rfl) rfl rfl ?_
  refine e_l (lf7 (j := 13) rfl) rfl rfl ?_
  refine e_l (lf7 (j := 14) rfl) rfl rfl ?_
  refine e_k (lf7 (j := 15) rfl) rfl rfl ic_1 ?_
  refine e_p (lf7 (j := 16) rfl) rfl rfl ?_
  refine e_ix (k := 0) (lf7 (j := 17) rfl) hX0 h1 ?_
  refine e_l (lf7 (j := 18) rfl) rfl rfl ?_
  refine e_l (lf7 (j := 19) rfl) rfl rfl ?_
  refine e_k (lf7 (j := 20) rfl) rfl rfl ic_2 ?_
  refine e_p (lf7 (j := 21) rfl) rfl rfl ?_
  refine e_ix (k := 0) (lf7 (j := 22) rfl) hX0 h2 ?_
  refine e_l (lf7 (j := 23) rfl) rfl rfl ?_
  refine e_l (lf7 (j := 24) rfl) rfl rfl ?_
  refine e_k (lf7 (j := 25) rfl) rfl rfl ic_3 ?_
  refine e_p (lf7 (j := 26) rfl) rfl rfl ?_
  refine e_ix (k := 0) (lf7 (j := 27) rfl) hX0 h3 ?_
  refine e_l (lf7 (j := 28) rfl) rfl rfl ?_
  refine e_l (lf7 (j := 29) rfl) rfl rfl ?_
  refine e_k (lf7 (j := 30) rfl) rfl rfl ic_4 ?_
  refine e_p (lf7 (j := 31) rfl) rfl rfl ?_
  refine e_ix (k := 0) (lf7 (j := 32) rfl) hX0 h4 ?_
  refine e_cvI (as := [.int (xs (tn (v + 1))), .int (xs (tn (v + 2))), .int (xs (tn (v + 3))), .int (xs (tn (v + 4)))]) (rs := [.int x]) (lf7 (j := 33) rfl) rfl g_145 rfl T (fun y I2 J2 T => ?_)
  exact e_b (lf7 (j := 34) rfl) rfl rfl (fun _ => hn I2 J2 T.2) (fun hA => absurd T.1.symm hA)
theorem lca_32 (hX0 : X 0 = some (nS, xs)) (h1 : ix (v + 1) nS) (h2 : ix (v + 2) nS) (h3 : ix (v + 3) nS) (T : PB X d n_X10_get n_X11_get [.int (xs (tn (v + 1))), .int (xs (tn (v + 2))), .int (xs (tn (v + 3)))] I J) (hn : ∀ I' J', RR I' → Er X (d + 1) M_L_law 883 [some (.ref 1000), some (.ref 0), some (.ref 145), some (.int v)] [] I' J' P) : Er X (d + 1) M_L_law 737 [some (.ref 1000), some (.ref 0), some (.ref 145), some (.int v)] [] I J P := by
  refine e_l (lf7 (j := 37) rfl) rfl rfl ?_
  refine e_l (lf7 (j := 38) rfl) rfl rfl ?_
  refine e_l (lf7 (j := 39) rfl) rfl rfl ?_
  refine e_k (lf7 (j := 40) rfl) rfl rfl ic_1 ?_
  refine e_p (lf7 (j := 41) rfl) rfl rfl ?_
  refine e_ix (k := 0) (lf7 (j := 42) rfl) hX0 h1 ?_
  refine e_l (lf7 (j := 43) rfl) rfl rfl ?_
  refine e_l (lf7 (j := 44) rfl) rfl rfl ?_
  refine e_k (lf7 (j := 45) rfl) rfl rfl ic_2 ?_
  refine e_p (lf7 (j := 46) rfl) rfl rfl ?_
  refine e_ix (k := 0) (lf7 (j := 47) rfl) hX0 h2 ?_
  refine e_l (lf7 (j := 48) rfl) rfl rfl ?_
  refine e_l (lf7 (j := 49) rfl) rfl rfl ?_
  refine e_k (lf7 (j := 50) rfl) rfl rfl ic_3 ?_
  refine e_p (lf7 (j := 51) rfl) rfl rfl ?_
  refine e_ix (k := 0) (lf7 (j := 52) rfl) hX0 h3 ?_
  refine e_cvI (as := [.int (xs (tn (v + 1))), .int (xs (tn (v + 2))), .int (xs (tn (v + 3)))]) (rs := []) (lf7 (j := 53) rfl) rfl g_0 rfl T (fun x I1 J1 T => ?_)
  refine e_l (lf7 (j := 54) rfl) rfl rfl ?_
  refine e_l (lf7 (j := 55) rfl) rfl rfl ?_
  refine e_l (lf7 (j := 56) rfl) rfl rfl ?_
  refine e_k (lf7 (j := 57) rfl) rfl rfl ic_1 ?_
  refine e_p (lf7 (j := 58) rfl) rfl rfl ?_
  refine e_ix (k := 0) (lf7 (j := 59) rfl) hX0 h1 ?_
  refine e_l (lf7 (j := 60) rfl) rfl rfl ?_
  refine e_l (lf7 (j := 61) rfl) rfl rfl ?_
  refine e_k (lf7 (j := 62) rfl) rfl rfl ic_2 ?_
  refine e_p (lf7 (j := 63) rfl) rfl rfl ?_
  refine e_ix (k := 0) (lf7 (j := 64) rfl) hX0 h2 ?_
  refine e_l (lf7 (j := 65) rfl) rfl rfl ?_
  refine e_l (lf7 (j := 66) rfl) rfl rfl ?_
  refine e_k (lf7 (j := 67) rfl) rfl rfl ic_3 ?_
  refine e_p (lf7 (j := 68) rfl) rfl rfl ?_
  refine e_ix (k := 0) (lf7 (j := 69) rfl) hX0 h3 ?_
  refine e_cvI (as := [.int (xs (tn (v + 1))), .int (xs (tn (v + 2))), .int (xs (tn (v + 3)))]) (rs := [.int x]) (lf7 (j := 70) rfl) rfl g_145 rfl T (fun y I2 J2 T => ?_)
  exact e_b (lf7 (j := 71) rfl) rfl rfl (fun _ => hn I2 J2 T.2) (fun hA => absurd T.1.symm hA)
theorem lca_33 (hX0 : X 0 = some (nS, xs)) (h1 : ix (v + 1) nS) (h2 : ix (v + 2) nS) (h3 : ix (v + 3) nS) (h4 : ix (v + 4) nS) (h5 : ix (v + 5) nS) (T : PB X d n_X10_copy n_X11_copy [.int (xs (tn (v + 1))), .int (xs (tn (v + 2))), .int (xs (tn (v + 3))), .int (xs (tn (v + 4))), .int (xs (tn (v + 5)))] I J) (hn : ∀ I' J', RR I' → Er X (d + 1) M_L_law 883 [some (.ref 1000), some (.ref 0), some (.ref 145), some (.int v)] [] I' J' P) : Er X (d + 1) M_L_law 774 [some (.ref 1000), some (.ref 0), some (.ref 145), some (.int v)] [] I J P := by
  refine e_l (lf7 (j := 74) rfl) rfl rfl ?_
  refine e_l (lf7 (j := 75) rfl) rfl rfl ?_
  refine e_l (lf7 (j := 76) rfl) rfl rfl ?_
  refine e_k (lf7 (j := 77) rfl) rfl rfl ic_1 ?_
  refine e_p (lf7 (j := 78) rfl) rfl rfl ?_
  refine e_ix (k := 0) (lf7 (j := 79) rfl) hX0 h1 ?_
  refine e_l (lf7 (j := 80) rfl) rfl rfl ?_
  refine e_l (lf7 (j := 81) rfl) rfl rfl ?_
  refine e_k (lf7 (j := 82) rfl) rfl rfl ic_2 ?_
  refine e_p (lf7 (j := 83) rfl) rfl rfl ?_
  refine e_ix (k := 0) (lf7 (j := 84) rfl) hX0 h2 ?_
  refine e_l (lf7 (j := 85) rfl) rfl rfl ?_
  refine e_l (lf7 (j := 86) rfl) rfl rfl ?_
  refine e_k (lf7 (j := 87) rfl) rfl rfl ic_3 ?_
  refine e_p (lf7 (j := 88) rfl) rfl rfl ?_
  refine e_ix (k := 0) (lf7 (j := 89) rfl) hX0 h3 ?_
  refine e_l (lf7 (j := 90) rfl) rfl rfl ?_
  refine e_l (lf7 (j := 91) rfl) rfl rfl ?_
  refine e_k (lf7 (j := 92) rfl) rfl rfl ic_4 ?_
  refine e_p (lf7 (j := 93) rfl) rfl rfl ?_
  refine e_ix (k := 0) (lf7 (j := 94) rfl) hX0 h4 ?_
  refine e_l (lf7 (j := 95) rfl) rfl rfl ?_
  refine e_l (lf7 (j := 96) rfl) rfl rfl ?_
  refine e_k (lf7 (j := 97) rfl) rfl rfl ic_5 ?_
  refine e_p (lf7 (j := 98) rfl) rfl rfl ?_
  refine e_ix (k := 0) (lf7 (j := 99) rfl) hX0 h5 ?_
  refine e_cvI (as := [.int (xs (tn (v + 1))), .int (xs (tn (v + 2))), .int (xs (tn (v + 3))), .int (xs (tn (v + 4))), .int (xs (tn (v + 5)))]) (rs := []) (lf8 (j := 0) rfl) rfl g_0 rfl T (fun x I1 J1 T => ?_)
  refine e_l (lf8 (j := 1) rfl) rfl rfl ?_
  refine e_l (lf8 (j := 2) rfl) rfl rfl ?_
  refine e_l (lf8 (j := 3) rfl) rfl rfl ?_
  refine e_k (lf8 (j := 4) rfl) rfl rfl ic_1 ?_
  refine e_p (lf8 (j := 5) rfl) rfl rfl ?_
  refine e_ix (k := 0) (lf8 (j := 6) rfl) hX0 h1 ?_
  refine e_l (lf8 (j := 7) rfl) rfl rfl ?_
  refine e_l (lf8 (j := 8) rfl) rfl rfl ?_
  refine e_k (lf8 (j := 9) rfl) rfl rfl ic_2 ?_
  refine e_p (lf8 (j := 10) rfl) rfl rfl ?_
  refine e_ix (k := 0) (lf8 (j := 11) rfl) hX0 h2 ?_
  refine e_l (lf8 (j := 12) rfl) rfl rfl ?_
  refine e_l (lf8 (j := 13) rfl) rfl rfl ?_
  refine e_k (lf8 (j := 14) rfl) rfl rfl ic_3 ?_
  refine e_p (lf8 (j := 15) rfl) rfl rfl ?_
  refine e_ix (k := 0) (lf8 (j := 16) rfl) hX0 h3 ?_
  refine e_l (lf8 (j := 17) rfl) rfl rfl ?_
  refine e_l (lf8 (j := 18) rfl) rfl rfl ?_
  refine e_k (lf8 (j := 19) rfl) rfl rfl ic_4 ?_
  refine e_p (lf8 (j := 20) rfl) rfl rfl ?_
  refine e_ix (k := 0) (lf8 (j := 21) rfl) hX0 h4 ?_
  refine e_l (lf8 (j := 22) rfl) rfl rfl ?_
  refine e_l (lf8 (j := 23) rfl) rfl rfl ?_
  refine e_k (lf8 (j := 24) rfl) rfl rfl ic_5 ?_
  refine e_p (lf8 (j := 25) rfl) rfl rfl ?_
  refine e_ix (k := 0) (lf8 (j := 26) rfl) hX0 h5 ?_
  refine e_cvI (as := [.int (xs (tn (v + 1))), .int (xs (tn (v + 2))), .int (xs (tn (v + 3))), .int (xs (tn (v + 4))), .int (xs (tn (v + 5)))]) (rs := [.int x]) (lf8 (j := 27) rfl) rfl g_145 rfl T (fun y I2 J2 T => ?_)
  exact e_b (lf8 (j := 28) rfl) rfl rfl (fun _ => hn I2 J2 T.2) (fun hA => absurd T.1.symm hA)
theorem lca_34 (hX0 : X 0 = some (nS, xs)) (h1 : ix (v + 1) nS) (h2 : ix (v + 2) nS) (T : PB X d n_X10_write n_X11_write [.int (xs (tn (v + 1))), .int (xs (tn (v + 2)))] I J) (hn : ∀ I' J', RR I' → Er X (d + 1) M_L_law 883 [some (.ref 1000), some (.ref 0), some (.ref 145), some (.int v)] [] I' J' P) : Er X (d + 1) M_L_law 831 [some (.ref 1000), some (.ref 0), some (.ref 145), some (.int v)] [] I J P := by
  refine e_l (lf8 (j := 31) rfl) rfl rfl ?_
  refine e_l (lf8 (j := 32) rfl) rfl rfl ?_
  refine e_l (lf8 (j := 33) rfl) rfl rfl ?_
  refine e_k (lf8 (j := 34) rfl) rfl rfl ic_1 ?_
  refine e_p (lf8 (j := 35) rfl) rfl rfl ?_
  refine e_ix (k := 0) (lf8 (j := 36) rfl) hX0 h1 ?_
  refine e_l (lf8 (j := 37) rfl) rfl rfl ?_
  refine e_l (lf8 (j := 38) rfl) rfl rfl ?_
  refine e_k (lf8 (j := 39) rfl) rfl rfl ic_2 ?_
  refine e_p (lf8 (j := 40) rfl) rfl rfl ?_
  refine e_ix (k := 0) (lf8 (j := 41) rfl) hX0 h2 ?_
  refine e_cvI (as := [.int (xs (tn (v + 1))), .int (xs (tn (v + 2)))]) (rs := []) (lf8 (j := 42) rfl) rfl g_0 rfl T (fun x I1 J1 T => ?_)
  refine e_l (lf8 (j := 43) rfl) rfl rfl ?_
  refine e_l (lf8 (j := 44) rfl) rfl rfl ?_
  refine e_l (lf8 (j := 45) rfl) rfl rfl ?_
  refine e_k (lf8 (j := 46) rfl) rfl rfl ic_1 ?_
  refine e_p (lf8 (j := 47) rfl) rfl rfl ?_
  refine e_ix (k := 0) (lf8 (j := 48) rfl) hX0 h1 ?_
  refine e_l (lf8 (j := 49) rfl) rfl rfl ?_
  refine e_l (lf8 (j := 50) rfl) rfl rfl ?_
  refine e_k (lf8 (j := 51) rfl) rfl rfl ic_2 ?_
  refine e_p (lf8 (j := 52) rfl) rfl rfl ?_
  refine e_ix (k := 0) (lf8 (j := 53) rfl) hX0 h2 ?_
  refine e_cvI (as := [.int (xs (tn (v + 1))), .int (xs (tn (v + 2)))]) (rs := [.int x]) (lf8 (j := 54) rfl) rfl g_145 rfl T (fun y I2 J2 T => ?_)
  exact e_b (lf8 (j := 55) rfl) rfl rfl (fun _ => hn I2 J2 T.2) (fun hA => absurd T.1.symm hA)
theorem lca_35 (hX0 : X 0 = some (nS, xs)) (h1 : ix (v + 1) nS) (T : PB X d n_X10_count n_X11_count [.int (xs (tn (v + 1)))] I J) (hn : ∀ I' J', RR I' → Er X (d + 1) M_L_law 883 [some (.ref 1000), some (.ref 0), some (.ref 145), some (.int v)] [] I' J' P) : Er X (d + 1) M_L_law 858 [some (.ref 1000), some (.ref 0), some (.ref 145), some (.int v)] [] I J P := by
  refine e_l (lf8 (j := 58) rfl) rfl rfl ?_
  refine e_l (lf8 (j := 59) rfl) rfl rfl ?_
  refine e_l (lf8 (j := 60) rfl) rfl rfl ?_
  refine e_k (lf8 (j := 61) rfl) rfl rfl ic_1 ?_
  refine e_p (lf8 (j := 62) rfl) rfl rfl ?_
  refine e_ix (k := 0) (lf8 (j := 63) rfl) hX0 h1 ?_
  refine e_cvI (as := [.int (xs (tn (v + 1)))]) (rs := []) (lf8 (j := 64) rfl) rfl g_0 rfl T (fun x I1 J1 T => ?_)
  refine e_l (lf8 (j := 65) rfl) rfl rfl ?_
  refine e_l (lf8 (j := 66) rfl) rfl rfl ?_
  refine e_l (lf8 (j := 67) rfl) rfl rfl ?_
  refine e_k (lf8 (j := 68) rfl) rfl rfl ic_1 ?_
  refine e_p (lf8 (j := 69) rfl) rfl rfl ?_
  refine e_ix (k := 0) (lf8 (j := 70) rfl) hX0 h1 ?_
  refine e_cvI (as := [.int (xs (tn (v + 1)))]) (rs := [.int x]) (lf8 (j := 71) rfl) rfl g_145 rfl T (fun y I2 J2 T => ?_)
  exact e_b (lf8 (j := 72) rfl) rfl rfl (fun _ => hn I2 J2 T.2) (fun hA => absurd T.1.symm hA)
theorem lca_36 (hX0 : X 0 = some (nS, xs))  (T : PBL X d n_X10_digest n_X11_digest [] I J) (hn : ∀ I' J', RR I' → Er X (d + 1) M_L_law 883 [some (.ref 1000), some (.ref 0), some (.ref 145), some (.int v)] [] I' J' P) : Er X (d + 1) M_L_law 875 [some (.ref 1000), some (.ref 0), some (.ref 145), some (.int v)] [] I J P := by
  refine e_l (lf8 (j := 75) rfl) rfl rfl ?_
  refine e_cvL (as := []) (rs := []) (lf8 (j := 76) rfl) rfl g_0 rfl T (fun x I1 J1 T => ?_)
  refine e_l (lf8 (j := 77) rfl) rfl rfl ?_
  refine e_cvL (as := []) (rs := [.long x]) (lf8 (j := 78) rfl) rfl g_145 rfl T (fun y I2 J2 T => ?_)
  refine e_p (lf8 (j := 79) rfl) rfl rfl ?_
  exact e_b (lf8 (j := 80) rfl) rfl rfl (fun _ => hn I2 J2 T.2) (fun hA => absurd ((lg_cmp_eq _ _).mpr T.1.symm) hA)
end LAWC
