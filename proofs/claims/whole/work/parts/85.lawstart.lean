/-! ===== the law from its entry: two objects made, then the loop ===== -/
section LAWS
variable {X : mm_X} {d : Nat} {M : mm_M} {i : Nat} {L : mm_L} {S : List Value} {w : mm_W} {P : Option Value → mm_W → Prop}
variable {q : Instr} {a b nx pc ln : Nat}
theorem w_new {n k : Nat} (hf : M.2.2[i]? = some (.new n, a, b, nx, pc, ln)) (hw : w.1.length = k) (hk : k < 1000) (h : Ew X d M nx L (.ref k :: S) (mm_wn w a) P) : Ew X d M i L S w P := by
  refine Ew.next hf ?_ h
  have e : mm_heap X (.new n) a b S w = some (.ref k :: S, mm_wn w a) := by
    simp only [mm_heap]
    rw [hw, if_pos hk]
    unfold mm_wn
    rw [hw]
  unfold mm_step
  show (mm_heap X (.new n) a b S w).map _ = _
  rw [e]
  rfl
theorem w_p {S' : List Value} (hf : M.2.2[i]? = some (q, a, b, nx, pc, ln)) (hk : mm_kd q a = 0) (hp : mm_pure q a S = some S') (h : Ew X d M nx L S' w P) : Ew X d M i L S w P :=
  Ew.next hf (by unfold mm_step; rw [hk]; show (mm_pure q a S).map _ = _; rw [hp]; rfl) h
theorem w_l {L' : mm_L} {S' : List Value} (hf : M.2.2[i]? = some (q, a, b, nx, pc, ln)) (hk : mm_kd q a = 1) (hp : mm_loc q L S = some (L', S')) (h : Ew X d M nx L' S' w P) : Ew X d M i L S w P :=
  Ew.next hf (by unfold mm_step; rw [hk]; show (mm_loc q L S).map _ = _; rw [hp]; rfl) h
/-- a constructor that was run before -/
theorem w_init {n m : Nat} {k nn : Nat} {M' : mm_M} {w' : mm_W} {r : List Value} (hf : M.2.2[i]? = some (.invokespecial n, a, 1, nx, pc, ln)) (ha : a < 1000) (hr : (r.map fun v => v.category).sum ≤ 8) (ht : mm_tab a = some M') (hl : (mm_la [.ref k]).length ≤ M'.2.1) (hrun : mm_run (fun _ => none) mm_rk mm_sw mm_tab nn m M' (0, mm_en [.ref k] M'.2.1, [], w) = some (none, w')) (hm : m ≤ d) (h : Ew X (d + 1) M nx L r w' P) : Ew X (d + 1) M i L (.ref k :: r) w P := by
  refine Ew.call (as := [.ref k]) (rs := r) hf (by unfold mm_kd; exact if_pos ha) ?_ ht hl ?_
  · show (if a < 1000 ∧ 1 ≤ (Value.ref k :: r).length ∧ (((Value.ref k :: r).drop 1).map fun v => v.category).sum ≤ 8 then _ else none) = _
    rw [if_pos ⟨ha, by simp, hr⟩]
    rfl
  · exact ⟨nn, none, w', mm_mono (X := fun _ => none) (fun j nf hj => by cases hj) nn m M' _ _ nn d (Nat.le_refl _) hm hrun, h⟩
end LAWS
section LAWH
theorem lw_room : mm_G0.length ≤ 600000 ∧ mm_sz mm_G0 ≤ 7302250 := by decide +kernel
theorem lw_hlaw (nS : Nat) (xs : Nat → Int32) (hS : nS ≤ 384) : ∃ n w', mm_run (lX nS xs) mm_rk mm_sw mm_tab n 63 M_L_law (0, mm_en [.ref 1000] 4, [], mm_w0) = some (some (.int 1), w') ∧ w'.1.length ≤ 600000 ∧ mm_sz w'.1 ≤ 7302250 := by
  have E : Ew (lX nS xs) 63 M_L_law 0 [some (.ref 1000), none, none, none] [] mm_w0 (fun r w => ∃ I' J', w = mm_w I' J' ∧ ∃ x : Int32, r = some (.int x) ∧ x = 1) := by
    refine w_new (k := 0) (lf0 (j := 0) rfl) rfl (by decide) ?_
    refine w_p (lf0 (j := 1) rfl) rfl rfl ?_
    refine w_init (d := 62) (lf0 (j := 2) rfl) (by decide) (by decide) tb_X10_init (Nat.le_of_ble_eq_true rfl) mm_wB_run (by decide) ?_
    refine w_l (L' := [some (.ref 1000), some (.ref 0), none, none]) (S' := []) (lf0 (j := 3) rfl) rfl rfl ?_
    refine w_new (k := 145) (lf0 (j := 4) rfl) mm_wB_len (by decide) ?_
    refine w_p (lf0 (j := 5) rfl) rfl rfl ?_
    refine w_init (d := 62) (lf0 (j := 6) rfl) (by decide) (by decide) tb_X11_init (Nat.le_of_ble_eq_true rfl) mm_wD_run (by decide) ?_
    refine w_l (L' := [some (.ref 1000), some (.ref 0), some (.ref 145), none]) (S' := []) (lf0 (j := 7) rfl) rfl rfl ?_
    rw [mm_wD_eq]
    show Er (lX nS xs) 63 M_L_law 8 [some (.ref 1000), some (.ref 0), some (.ref 145), none] [] mm_I0 mm_J0 (qI (fun x _ _ => x = 1))
    refine e_k (lf0 (j := 8) rfl) rfl rfl ic_0 ?_
    refine e_l (L' := [some (.ref 1000), some (.ref 0), some (.ref 145), some (.int 0)]) (S' := []) (lf0 (j := 9) rfl) rfl rfl ?_
    exact lw_loop (d := 37) hS 390 0 (by omega) mm_I0 mm_J0 lw_rr
  obtain ⟨n, r, w', h1, I', J', rfl, x, rfl, rfl⟩ := E
  exact ⟨n, _, h1, lw_room.1, lw_room.2⟩
end LAWH
/-- from the entry, for every script of at most 384 ints, the law comes to its end with true -/
theorem whole_start {p : Program} {e : Env} {s : State} {m : MethodId} {below : List Frame} {meth : Method} {c : Code} (l : Launch) {b L : Nat} {xs : Nat → Int32} (hL : L ≤ 384) (C0 : lw_At p s m meth c b L xs) : W p l e room_1 s m #[Value.ref b] below meth c s.heap [] 0 0 (lw_Z below #[Value.ref b] s) (entryFrame m ([Value.ref b] : List Value).toArray 4) := whole_start_open lw_hlaw l hL C0
