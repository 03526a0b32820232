/-! THE CLAIM OUT OF ONE WALK OF THE LAW'S BODY. Your part is whole_start (and what it stands on); all else here is the same for every law, but numbers. -/
def R_law : String := "ToastGaolLaw"
def lw_P (b : Addr) (xs : List Int32) (args : Array Value) (s : State) : Prop := args = #[.ref b] ∧ s.IntsAt b xs ∧ xs.length ≤ 384 ∧ (Jvm.Cond.and given_1 narrow_1).before args s = true
def lw_Q (_ : Array Value) (s : State) (o : Outcome) (t : State) : Prop := o = .returned (some (.int 1)) ∧ Framed s o t [] 600000 7302250
def lw_Z (below : List Frame) (a : Array Value) (s : State) : State → Prop := fun t => ∃ o, t.status = .running ∧ Ended t below o ∧ lw_Q a s o t
/-- the law's own end, with 1 on the stack, nothing written that was there before, its room as the claim has it -/
theorem lw_ret {p : Program} {l : Launch} {e : Env} {s : State} {m : MethodId} {below : List Frame} {meth : Method} {c : Code} {b : Nat} (hx : p.tables.exec = Jvm.exec) (hb : c.code = code) (hr : meth.sig.returnType = ret) (hlocks : meth.locks = false) {pc : Nat} {H : Heap} {ls : Array Slot} (hdg : decode code pc = .ok (.ireturn, 1)) : W p l e room_1 s m #[Value.ref b] below meth c H [] 600000 7302250 (lw_Z below #[Value.ref b] s) (F0 m pc ls [.int 1]) := by
  intro T hT X
  obtain ⟨fs, hret, hrun, hended, hW, hframe⟩ := X.leave (v := some (.int 1)) (hlocks := hlocks) (fun h => by rw [hr] at h; cases h)
  have hmeth' : T.vm.method? m = some meth := X.method'
  refine ⟨T.setFrames fs, ?_, .returned (some (.int 1)), hrun, hended, rfl, ⟨_, rfl⟩, hW, hframe⟩
  jvm_step X.here [X.here.top, hx, hb, hdg, hmeth', hr, ret, narrow_b1]
  (try refine ⟨rfl, ?_⟩); (try refine ⟨rfl, ?_⟩)
  first | (intro acts; rw [hret _ acts rfl rfl rfl]) | rw [hret _ _ rfl rfl rfl]
  exact Steps.refl _
/-- what holds at the law's entry: the machine, the code, the tables' words (any of lw_tbl by 'hts w (by decide +kernel)'), the script of L ints xs at the cell b, what the Statement gives of the start (any of its parts by flat_of_before) -/
def lw_At (p : Program) (s : State) (m : MethodId) (meth : Method) (c : Code) (b L : Nat) (xs : Nat → Int32) : Prop :=
  p.tables.exec = Jvm.exec ∧ c.code = code ∧ meth.sig.returnType = ret ∧ c.maxLocals = 4 ∧ s.vm.findClass R_law = some m.cls ∧ (∀ w ∈ lw_tbl, w.before #[Value.ref b] s = true) ∧ va_X b L xs s s.heap ∧ b < s.heap.size ∧ meth.locks = false ∧ (Jvm.Cond.and given_1 narrow_1).before #[Value.ref b] s = true

/-- the rows outside: the script, the class's constant rows -/
def lX (nS : Nat) (xs : Nat → Int32) : mm_X := fun j => match j with
  | 0 => some (nS, xs)
  | 1 => some (3, mm_gr)
  | 2 => some (3, mm_dh)
  | _ => none
theorem lw_known {s : State} {args : Array Value} (hts : ∀ w ∈ lw_tbl, w.before args s = true) : ∃ (D : va_G) (cAI : ClassId) (cAR : Nat → ClassId), va_K D vwCl (mm_tys cAI cAR) s := by
  have hk : ∀ a : Nat, ∃ q : ClassId × (Nat → Nat), a < 12 → u_Kn s (mm_nm a) (mm_tT a) (mm_nf a) q.1 q.2 := by
    intro a
    by_cases ha : a < 12
    · obtain ⟨c0, iS0, h0⟩ := u_known (C := mm_nm a) (T := mm_tT a) (N := mm_nf a) (n := mm_nf a) hts (mm_class ha).2.1 (hts _ (mm_inst_ok a ha))
      exact ⟨(c0, iS0), fun _ => h0⟩
    · exact ⟨(0, fun _ => 0), fun h => absurd h ha⟩
  obtain ⟨cI, kI, compI, f1, f2, f3⟩ := Cond.arrayClass_spec (hts _ mm_t_int)
  have hr : ∀ a : Nat, ∃ cA : ClassId, (a = 8 ∨ a = 6 ∨ a = 0) → ArrOfT s cA (.object (mm_nm a)) ∧ va_RA s cA (.object (mm_nm a)) := by
    intro a
    by_cases ha : a = 8 ∨ a = 6 ∨ a = 0
    · obtain ⟨comp, cA, kA, g1, g2, g3, g4, g5⟩ := Cond.arrayOver_spec (hts _ (mm_t_over a ha))
      exact ⟨cA, fun _ => ⟨fun N z => ⟨(fun k h => by cases h), kA, g3, comp, g4⟩, kA, comp, g3, g4, g1, g5⟩⟩
    · exact ⟨0, fun h => absurd h ha⟩
  refine ⟨(fun a => (Classical.choose (hk a)).1, fun a => (Classical.choose (hk a)).2), cI, fun a => Classical.choose (hr a), fun a q hq => ?_, fun k q hq => ?_⟩
  · have ha : a < 12 := by
      have := (List.getElem?_eq_some_iff.mp hq).1
      simpa [vwCl] using this
    have h1 := Classical.choose_spec (hk a) ha
    rw [(mm_class ha).1] at hq
    cases hq
    exact h1
  · match k, hq with
    | 0, hq => cases hq; exact ⟨fun N z => ⟨(fun k h => by cases h), kI, f2, compI, f3⟩, f1⟩
    | 1, hq => cases hq; exact Classical.choose_spec (hr 8) (Or.inl rfl)
    | 2, hq => cases hq; exact Classical.choose_spec (hr 6) (Or.inr (Or.inl rfl))
    | 3, hq => cases hq; exact Classical.choose_spec (hr 0) (Or.inr (Or.inr rfl))
    | k + 4, hq => simp [mm_tys] at hq
theorem lw_stat {s : State} {args : Array Value} {nm : String} {f : Nat → Int32} (hl : (Cond.laysStatic "ToastGaol" nm "[I").before args s = true) (hini : (Cond.initialized "ToastGaol").before args s = true) (harr : (Cond.arrayOf (.static "ToastGaol" nm "[I") .int).before args s = true) (hlen : (Cond.eq (.length (.static "ToastGaol" nm "[I")) (.int 3)).before args s = true)
    (h0 : (Cond.eq (.elem (.static "ToastGaol" nm "[I") (.int 0)) (.int (f 0))).before args s = true) (h1 : (Cond.eq (.elem (.static "ToastGaol" nm "[I") (.int 1)) (.int (f 1))).before args s = true) (h2 : (Cond.eq (.elem (.static "ToastGaol" nm "[I") (.int 2)) (.int (f 2))).before args s = true) :
    ∃ t : Nat, va_Z "ToastGaol" nm "[I" (.ref t) (fun q => s.heap.size ≤ q) s s.heap ∧ va_T .int t 3 (fun i => .int (f i)) (fun q => s.heap.size ≤ q) s s.heap := by
  have hA : ∀ a : Nat, a < s.heap.size → ¬ (fun q : Nat => s.heap.size ≤ q) a := fun a h => Nat.not_le.mpr h
  obtain ⟨t, e, hT⟩ := va_Tof (N := 3) (f := fun i => .int (f i)) (by decide) harr (va_eqt hlen) (fun j hj => by
    rcases (by omega : j = 0 ∨ j = 1 ∨ j = 2) with rfl | rfl | rfl
    · exact va_eqt h0
    · exact va_eqt h1
    · exact va_eqt h2) hA
  exact ⟨t, va_Zref hl hini e hA, hT⟩
set_option maxHeartbeats 4000000 in
set_option maxRecDepth 20000 in
theorem whole_start_open (hlaw : ∀ (nS : Nat) (xs : Nat → Int32), nS ≤ 384 → ∃ n w', mm_run (lX nS xs) mm_rk mm_sw mm_tab n 63 M_L_law (0, mm_en [.ref 1000] 4, [], mm_w0) = some (some (.int 1), w') ∧ w'.1.length ≤ 600000 ∧ mm_sz w'.1 ≤ 7302250)
    {p : Program} {e : Env} {s : State} {m : MethodId} {below : List Frame} {meth : Method} {c : Code} (l : Launch) {b L : Nat} {xs : Nat → Int32} (hL : L ≤ 384) (C0 : lw_At p s m meth c b L xs) : W p l e room_1 s m #[Value.ref b] below meth c s.heap [] 0 0 (lw_Z below #[Value.ref b] s) (entryFrame m ([Value.ref b] : List Value).toArray 4) := by
  obtain ⟨hx, hb, hr, hml, hown, hts, hX, hbl, hlocks, hgv⟩ := id C0
  obtain ⟨n, w', hrun, hc1, hc2⟩ := hlaw L xs hL
  obtain ⟨D, cAI, cAR, hK⟩ := lw_known hts
  have hflat := flat_of_before _ hgv
  have hini : (Cond.initialized "ToastGaol").before #[Value.ref b] s = true := hts _ (mm_init_ok 10 (by decide))
  obtain ⟨t1, hZ1, hT1⟩ := lw_stat (nm := "GREATEST") (f := mm_gr) (hts _ (by decide +kernel)) hini (hflat _ (by decide +kernel)) (hflat _ (by decide +kernel)) (hflat _ (by decide +kernel)) (hflat _ (by decide +kernel)) (hflat _ (by decide +kernel))
  obtain ⟨t2, hZ2, hT2⟩ := lw_stat (nm := "DIGEST_HOURS") (f := mm_dh) (hts _ (by decide +kernel)) hini (hflat _ (by decide +kernel)) (hflat _ (by decide +kernel)) (hflat _ (by decide +kernel)) (hflat _ (by decide +kernel)) (hflat _ (by decide +kernel))
  have hT0 : va_T .int b L (fun i => .int (xs i)) (fun q => s.heap.size ≤ q) s s.heap := by
    obtain ⟨scr, g1, g2, g3, g4, g5⟩ := hX
    exact ⟨scr, g1, g2, g3, by omega, by rw [g4], g5, Nat.not_le.mpr hbl⟩
  have C : mm_cx D cAI cAR (fun j => if j = 0 then b else if j = 1 then t1 else t2) (lX L xs) s.heap.size #[Value.ref b] s := by
    refine ⟨fun w hw => hts w (List.mem_filter.mp hw).1, hK, fun j nf hj => ?_, hZ1, hZ2, Nat.le_refl _⟩
    match j, hj with
    | 0, hj => cases hj; exact hT0
    | 1, hj => cases hj; exact hT1
    | 2, hj => cases hj; exact hT2
    | j + 3, hj => cases hj
  have hl := lv_entry ([.ref b]) (n := 4) (Nat.le_of_ble_eq_true rfl)
  rw [lg_entry_eq]
  generalize (lg_sl ([.ref b]) ++ List.replicate (4 - (lg_sl ([.ref b])).length) Slot.unset).toArray = ls at hl ⊢
  obtain ⟨i, hi⟩ := mm_run_fetch hrun
  have hk : mm_zl[198]? = some ((12, yL_law, cL_law, 4, (some .boolean), true, false), M_L_law) := rfl
  have hi0 : i = (.new 7, 10, 0, 1, 0, 3) := by
    have h2 : M_L_law.2.2[0]? = some (.new 7, 10, 0, 1, 0, 3) := rfl
    rw [h2] at hi
    exact (Option.some.inj hi).symm
  subst hi0
  have hentry : mm_lh (mm_ad s.heap.size (fun j => if j = 0 then b else if j = 1 then t1 else t2)) ls (mm_en [.ref 1000] 4) := mm_lh_entry (vs := [.ref 1000]) (n := 4) (Nat.le_of_ble_eq_true rfl) hl
  have key := mm_sound (l := l) (X := lX L xs) (D := D) (cAI := cAI) (cAR := cAR) (E := fun j => if j = 0 then b else if j = 1 then t1 else t2) (base := s.heap.size) n 63 198 _ (0, mm_en [.ref 1000] 4, [], mm_w0) (some (.int 1)) w' hk hrun p e room_1 s m #[Value.ref b] below meth c s.heap [] ls (lw_Z below #[Value.ref b] s) 0 0 hx hb hml hown (fun h => by cases h) C
    ⟨Nat.le_of_ble_eq_true rfl, fun k cn h => by simp [mm_w0] at h⟩ (fun k q h => by simp [mm_wl, mm_w0] at h) va_S.rf hentry rfl rfl (Nat.le_refl _) (Nat.le_refl _) (by show w'.1.length - 0 ≤ 600000; omega) (by show mm_sz w'.1 - 0 ≤ 7302250; omega) (Nat.le_of_ble_eq_true rfl) (Nat.le_of_ble_eq_true rfl) ?_ _ hi
  · exact key
  · intro pc H locs ls q S hd hret hP1 hS1
    have hq : q = .ireturn ∧ S = [.int 1] := by
      cases q with
      | return_ => simp [mm_ret, M_L_law] at hret
      | ireturn => simp only [mm_ret] at hret
                   split at hret <;> first | cases hret; done | skip
                   split at hret <;> first | cases hret; done | skip
                   cases hret
                   exact ⟨rfl, rfl⟩
      | lreturn => simp only [mm_ret] at hret
                   split at hret <;> first | (cases hret; done) | (split at hret <;> cases hret)
      | _ => simp [mm_ret] at hret
    obtain ⟨rfl, rfl⟩ := hq
    refine va_forget (fun q hq => hS1.2.2 q hq) ?_
    refine W.widen (k := 600000) (n := 7302250) (by omega) (by omega) ?_
    exact lw_ret hx hb hr hlocks hd
