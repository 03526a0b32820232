/-! ===== the law's loop, and its start ===== -/
section LAW
variable {X : mm_X} {d nS : Nat} {xs : Nat → Int32} {I : tI} {J : tJ} {v : Int32} {P : Option Value → tI → tJ → Prop}
theorem lw_cases : mm_sw 3 = [(0, 22), (1, 49), (2, 66), (3, 83), (4, 100), (5, 117), (6, 144), (7, 171), (8, 198), (9, 215), (10, 232), (11, 249), (12, 276), (13, 303), (14, 320), (15, 347), (16, 354), (17, 361), (18, 378), (19, 405), (20, 422), (21, 439), (22, 446), (23, 483), (24, 490), (25, 517), (26, 534), (27, 551), (28, 609), (29, 636), (30, 673), (31, 690), (32, 737), (33, 774), (34, 831), (35, 858), (36, 875)] := rfl
/-- the loop's body, at a call -/
theorem lw_body (hX0 : X 0 = some (nS, xs)) (hX1 : X 1 = some (3, mm_gr)) (hX2 : X 2 = some (3, mm_dh)) (h1 : ix (v + 1) nS) (h2 : ix (v + 2) nS) (h3 : ix (v + 3) nS) (h4 : ix (v + 4) nS) (h5 : ix (v + 5) nS) (hr : RR I) (x : Int32) (hn : ∀ I' J', RR I' → Er X (d + 26) M_L_law 883 [some (.ref 1000), some (.ref 0), some (.ref 145), some (.int v)] [] I' J' P) : Er X (d + 26) M_L_law (mm_tg (mm_sw 3) 883 x) [some (.ref 1000), some (.ref 0), some (.ref 145), some (.int v)] [] I J P := by
  obtain ⟨g, q, n, ns, nb, nf, nq, tr, ts, h⟩ := hr
  rw [lw_cases]
  refine e_tg (fun _ => lca_0 hX0 h1 h2 (pb_type h) hn) (fun _ => ?_)
  refine e_tg (fun _ => lca_1 hX0 h1 (pb_wipe h) hn) (fun _ => ?_)
  refine e_tg (fun _ => lca_2 hX0 h1 (pb_undo h) hn) (fun _ => ?_)
  refine e_tg (fun _ => lca_3 hX0 h1 (pb_fault h) hn) (fun _ => ?_)
  refine e_tg (fun _ => lca_4 hX0 h1 (pb_draws h) hn) (fun _ => ?_)
  refine e_tg (fun _ => lca_5 hX0 h1 h2 (pb_slice h) hn) (fun _ => ?_)
  refine e_tg (fun _ => lca_6 hX0 h1 h2 (pb_set hX1 h) hn) (fun _ => ?_)
  refine e_tg (fun _ => lca_7 hX0 h1 h2 (pb_butter h) hn) (fun _ => ?_)
  refine e_tg (fun _ => lca_8 hX0 h1 (pb_fire h) hn) (fun _ => ?_)
  refine e_tg (fun _ => lca_9 hX0 h1 (pb_back h) hn) (fun _ => ?_)
  refine e_tg (fun _ => lca_10 hX0 h1 (pb_read h) hn) (fun _ => ?_)
  refine e_tg (fun _ => lca_11 hX0 h1 h2 (pb_heat h) hn) (fun _ => ?_)
  refine e_tg (fun _ => lca_12 hX0 h1 h2 (pb_state h) hn) (fun _ => ?_)
  refine e_tg (fun _ => lca_13 hX0 h1 (pb_held h) hn) (fun _ => ?_)
  refine e_tg (fun _ => lca_14 hX0 h1 h2 (pb_freed h) hn) (fun _ => ?_)
  refine e_tg (fun _ => lca_15 hX0 (pb_spoilt h) hn) (fun _ => ?_)
  refine e_tg (fun _ => lca_16 hX0 (pb_quiet h) hn) (fun _ => ?_)
  refine e_tg (fun _ => lca_17 hX0 h1 (pb_crowd h) hn) (fun _ => ?_)
  refine e_tg (fun _ => lca_18 hX0 h1 h2 (pb_move h) hn) (fun _ => ?_)
  refine e_tg (fun _ => lca_19 hX0 h1 (pb_swap h) hn) (fun _ => ?_)
  refine e_tg (fun _ => lca_20 hX0 h1 (pb_line h) hn) (fun _ => ?_)
  refine e_tg (fun _ => lca_21 hX0 (pb_bear h) hn) (fun _ => ?_)
  refine e_tg (fun _ => lca_22 hX0 h1 h2 h3 (pb_seen h) hn) (fun _ => ?_)
  refine e_tg (fun _ => lca_23 hX0 (pb_forget h) hn) (fun _ => ?_)
  refine e_tg (fun _ => lca_24 hX0 h1 h2 (pb_heats h) hn) (fun _ => ?_)
  refine e_tg (fun _ => lca_25 hX0 h1 (pb_slots h) hn) (fun _ => ?_)
  refine e_tg (fun _ => lca_26 hX0 h1 (pb_ask h) hn) (fun _ => ?_)
  refine e_tg (fun _ => lca_27 hX0 h1 h2 h3 h4 h5 (pb_window h) hn) (fun _ => ?_)
  refine e_tg (fun _ => lca_28 hX0 h1 h2 (pb_others h) hn) (fun _ => ?_)
  refine e_tg (fun _ => lca_29 hX0 h1 h2 h3 (pb_sheet h) hn) (fun _ => ?_)
  refine e_tg (fun _ => lca_30 hX0 h1 (pb_lose h) hn) (fun _ => ?_)
  refine e_tg (fun _ => lca_31 hX0 h1 h2 h3 h4 (pb_lay h) hn) (fun _ => ?_)
  refine e_tg (fun _ => lca_32 hX0 h1 h2 h3 (pb_get h) hn) (fun _ => ?_)
  refine e_tg (fun _ => lca_33 hX0 h1 h2 h3 h4 h5 (pb_copy h) hn) (fun _ => ?_)
  refine e_tg (fun _ => lca_34 hX0 h1 h2 (pb_write h) hn) (fun _ => ?_)
  refine e_tg (fun _ => lca_35 hX0 h1 (pb_count h) hn) (fun _ => ?_)
  refine e_tg (fun _ => lca_36 hX0 (pb_digest hX2 h) hn) (fun _ => ?_)
  exact e_tg0 (hn I J h.r)
theorem ib_6 : (Int8.ofInt 6).toInt32 = 6 := by decide
theorem ib_63 : (Int8.ofInt 63).toInt32 = 63 := by decide
theorem ic_6 : Int32.ofInt 6 = 6 := by decide
theorem lw_loop (hS : nS ≤ 384) : ∀ (m i : Nat), i + m = 390 → ∀ (I : tI) (J : tJ), RR I → Er (lX nS xs) (d + 26) M_L_law 10 [some (.ref 1000), some (.ref 0), some (.ref 145), some (.int (nI i))] [] I J (qI (fun x _ _ => x = 1)) := by
  intro m
  induction m using Nat.strongRecOn with
  | ind m ih =>
    intro i hi I J hr
    have hX0 : lX nS xs 0 = some (nS, xs) := rfl
    have hX1 : lX nS xs 1 = some (3, mm_gr) := rfl
    have hX2 : lX nS xs 2 = some (3, mm_dh) := rfl
    refine e_l (lf0 (j := 10) rfl) rfl rfl ?_
    refine e_l (lf0 (j := 11) rfl) rfl rfl ?_
    refine e_ax (k := 0) (lf0 (j := 12) rfl) hX0 ?_
    refine e_k (lf0 (j := 13) rfl) rfl rfl ib_6 ?_
    refine e_p (lf0 (j := 14) rfl) rfl rfl ?_
    have ei : (Int32.ofNat nS - 6 : Int32).toInt = (nS : Int) - 6 := pk_sub_toInt (a := nS) (b := 6) (by omega) (by omega)
    refine e_b (A := (Int32.ofNat nS - 6) < nI i) (lf0 (j := 15) rfl) rfl rfl (fun hA => ?_) (fun hA => ?_)
    · refine e_k (lf8 (j := 85) rfl) rfl rfl ic_1 ?_
      exact e_rz (lf8 (j := 86) rfl) rfl (by decide) ⟨1, rfl, rfl⟩
    · rw [Int32.lt_iff_toInt_lt, ei, nI_toInt (by omega)] at hA
      have hb : i + 6 ≤ nS := by omega
      have hx : ∀ j : Nat, j < 6 → ix (nI i + nI j) nS := fun j hj => by rw [nI_add]; exact nI_in (by omega) (by omega)
      refine e_l (lf0 (j := 16) rfl) rfl rfl ?_
      refine e_l (lf0 (j := 17) rfl) rfl rfl ?_
      refine e_ix (k := 0) (lf0 (j := 18) rfl) hX0 (nI_in (by omega) (by omega)) ?_
      refine e_k (lf0 (j := 19) rfl) rfl rfl ib_63 ?_
      refine e_p (lf0 (j := 20) rfl) rfl rfl ?_
      refine e_sw (lf0 (j := 21) rfl) rfl rfl ?_
      refine lw_body hX0 hX1 hX2 (hx 1 (by omega)) (hx 2 (by omega)) (hx 3 (by omega)) (hx 4 (by omega)) (hx 5 (by omega)) hr _ (fun I2 J2 r2 => ?_)
      refine e_ic (v := nI (i + 6)) (L' := [some (.ref 1000), some (.ref 0), some (.ref 145), some (.int (nI (i + 6)))]) (lf8 (j := 83) rfl) rfl ?_ ic_6 rfl ?_
      · rw [show (6 : Int32) = nI 6 from rfl, nI_add]
      refine e_g (lf8 (j := 84) rfl) ?_
      exact ih (m - 6) (by omega) (i + 6) (by omega) I2 J2 r2
end LAW
section LAW0
/-- at the start -/
def st0 (I : tI) : Prop := (I 2 2 = 0 ∧ I 2 0 = 0 ∧ I 2 7 = 0 ∧ I 2 10 = 0 ∧ I 7 1 = 0 ∧ I 133 1 = 0 ∧ I 151 0 = 0 ∧ I 135 1 = 0 ∧ I 151 1 = 0) ∧ (∀ j, j < 3 → I 154 j = I 7 j) ∧ (I 145 12 = 0 ∧ I 145 14 = 0 ∧ I 145 26 = 0 ∧ I 32 4 = 0 ∧ I 145 27 = 0 ∧ I 0 10 = I 145 4 ∧ I 11 5 = 0) ∧ (∀ s, s < 4 → I 146 s = I (137 + 2 * s) 0 ∧ I (137 + 2 * s) 0 = -1)
theorem lw_i0 : st0 mm_I0 := by
  unfold st0
  decide +kernel
theorem nR_0 (b : Nat → Int32) : nR b 0 = 0 := by unfold nR; split <;> rfl
theorem nS_0 (b : Nat → Int32) : nS b 0 = 0 := by unfold nS; split <;> rfl
theorem rr_start {I : tI} (h : st0 I) : RR I := by
  obtain ⟨⟨a1, a2, a3, a4, a5, a6, a7, a8, a9⟩, b, ⟨c1, c2, c3, c4, c5, c6, c7⟩, e⟩ := h
  have no : ∀ {Q : Nat → Prop}, ∀ k, k < 0 → Q k := fun k hk => absurd hk (Nat.not_lt_zero _)
  have rq : Rq (fun _ _ => 0) 0 := ⟨by omega, no⟩
  have gp : Gp (gC I) 0 0 := ⟨no, no, 0, by omega, a5⟩
  exact ⟨gC I, fun _ _ => 0, 0, 0, 0, 0, 0, 0, 0, ⟨rfl, ⟨⟨a1, by omega⟩, ⟨a2, by omega⟩, ⟨a3, by omega⟩, ⟨a4, by omega⟩, no, no⟩, gp⟩, ⟨a6, by omega, a7, no⟩, ⟨a8, by omega, a9, no⟩, ⟨(nR_0 _).symm, no⟩, ⟨(nS_0 _).symm, no⟩, b, ⟨c1, no⟩, ⟨c2, no⟩, c3, ⟨rq, c4, no⟩, ⟨rq, c5, no⟩, fun s hs => ⟨(e s hs).1, Or.inl (e s hs).2⟩, c6, fun z => absurd c7 z⟩
theorem lw_rr : RR mm_I0 := rr_start lw_i0
end LAW0
