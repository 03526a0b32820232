/-- what is claimed of a run of n steps: the machine itself comes, from where the small one stands, to where it ends -/
def mm_SP (l : Launch) (X : mm_X) (D : va_G) (cAI : ClassId) (cAR : Nat → ClassId) (E : Nat → Nat) (base n : Nat) : Prop :=
  ∀ (d k : Nat) (t : mm_N × mm_M) (cf : mm_C) (r : Option Value) (w' : mm_W), mm_zl[k]? = some t → mm_run X mm_rk mm_sw mm_tab n d t.2 cf = some (r, w') →
  ∀ (p : Program) (e : Env) (R : Room) (s : State) (m : MethodId) (args : Array Value) (below : List Frame) (meth : Method) (c : Code) (H : Heap) (locs : List Loc) (ls : Array Slot) (Q : State → Prop) (len0 sz0 : Nat),
  p.tables.exec = Jvm.exec → c.code = t.1.2.2.1 → c.maxLocals = t.1.2.2.2.1 → s.vm.findClass (mm_nm t.1.1) = some m.cls → (t.1.2.2.2.2.2.2 = true → meth.name = "<init>") → mm_cx D cAI cAR E X base args s → mm_wfw cf.2.2.2 → va_P D vwCl (mm_wl cAI cAR (mm_ad base E) cf.2.2.2) H → va_S (fun q => base ≤ q) s.heap H locs → mm_lh (mm_ad base E) ls cf.2.1 → cf.2.1.length = t.1.2.2.2.1 → s.heap.size = base + len0 → len0 ≤ cf.2.2.2.1.length → sz0 ≤ mm_sz cf.2.2.2.1 → w'.1.length - len0 ≤ R.cells → mm_sz w'.1 - sz0 ≤ R.slots → d + 1 ≤ R.frames → 64 * (d + 1) ≤ R.locals →
  (∀ (pc : Nat) (H : Heap) (locs : List Loc) (ls : Array Slot) (q : Instr) (S : List Value), decode t.1.2.2.1 pc = .ok (q, 1) → mm_ret t.2.1 q S = some r → va_P D vwCl (mm_wl cAI cAR (mm_ad base E) w') H → va_S (fun q => base ≤ q) s.heap H locs → W p l e R s m args below meth c H locs (w'.1.length - len0) (mm_sz w'.1 - sz0) Q (F0 m pc ls (S.map (mm_tv (mm_ad base E))))) →
  ∀ i, t.2.2.2[cf.1]? = some i → W p l e R s m args below meth c H locs (cf.2.2.2.1.length - len0) (mm_sz cf.2.2.2.1 - sz0) Q (F0 m i.2.2.2.2.1 ls (cf.2.2.1.map (mm_tv (mm_ad base E))))
theorem mm_okH_of {t : mm_N × mm_M} (h : t ∈ mm_zl) : t.2.1 = mm_rt t.1.2.2.2.2.1 ∧ t.2.2.1 = t.1.2.2.2.1 ∧ t.1.2.2.2.1 ≤ 40 ∧ t.1.2.1.cls = mm_nm t.1.1 ∧ (t.1.2.2.2.2.2.2 = true → t.1.2.1.name = "<init>") ∧ plainName t.1.2.1.cls = true ∧ t.1.2.1.cls ≠ "java/lang/invoke/MethodHandle" ∧ t.1.2.1.cls ≠ "java/lang/invoke/VarHandle" ∧ mm_pcAt t.2.2.2 0 0 = true ∧ ∀ i ∈ t.2.2.2, mm_okI t.1.1 t.1.2.2.2.2.2.2 t.1.2.2.1 t.2.2.2 i = true := by
  have h1 := mm_zok t h
  simp only [mm_okM, mm_okH, Bool.and_eq_true, decide_eq_true_eq] at h1
  obtain ⟨⟨⟨⟨⟨⟨⟨⟨⟨⟨a1, a2⟩, a3⟩, a4⟩, a5⟩, a6⟩, a7⟩, a8⟩, a9⟩, a10⟩, a11⟩ := h1
  exact ⟨a1, a2, a3, a4, a6, a7, a8, a9, a10, fun i hi => List.all_eq_true.mp a11 i hi⟩
section MET
variable {l : Launch} {X : mm_X} {D : va_G} {cAI : ClassId} {cAR : Nat → ClassId} {E : Nat → Nat} {base n : Nat}
set_option maxHeartbeats 4000000 in
theorem mm_met (hSP : mm_SP l X D cAI cAR E base n) {d k : Nat} {t : mm_N × mm_M} {vs : List Value} {w w1 : mm_W} {r : Option Value} (hk : mm_zl[k]? = some t) (hlen : (mm_la vs).length ≤ t.2.2.1) (hrun : mm_run X mm_rk mm_sw mm_tab n d t.2 (0, mm_en vs t.2.2.1, [], w) = some (r, w1)) (hwf : mm_wfw w) :
    Met l t.1.2.1 [.code t.1.2.1 t.1.2.2.1 t.1.2.2.2.1 t.1.2.2.2.2.1] { frames := d + 1, cells := w1.1.length - w.1.length, slots := mm_sz w1.1 - mm_sz w.1, locals := 64 * (d + 1) }
      (fun v U => v = (vs.map (mm_tv (mm_ad base E))).toArray ∧ (∀ a', mm_cx D cAI cAR E X base a' U) ∧ va_P D vwCl (mm_wl cAI cAR (mm_ad base E) w) U.heap ∧ U.heap.size = base + w.1.length)
      (fun _ st o u => o = .returned (r.map (mm_tv (mm_ad base E))) ∧ va_P D vwCl (mm_wl cAI cAR (mm_ad base E) w1) u.heap ∧ va_F (fun q => base ≤ q) st u) (w1.1.length - w.1.length) (mm_sz w1.1 - mm_sz w.1) (fun q => base ≤ q) := by
  obtain ⟨k1, k2, k3, k4, k5, k6, -, -, k9, -⟩ := mm_okH_of (List.mem_of_getElem? hk)
  refine Met.ofW (cc := t.1.2.2.1) (maxL := t.1.2.2.2.1) (ret := t.1.2.2.2.2.1) k6 rfl ?_
  intro p e s m args below meth c s₁ B hml hv
  obtain ⟨rfl, hC, hP, hsz⟩ := hv
  have hx := B.exec
  have hb := B.bytes
  have hr := B.returns
  have hlocks := B.notSynchronized
  have hown : s.vm.findClass t.1.2.1.cls = some m.cls := findClass_of_methodNamed B.named
  rw [k4] at hown
  have hin : meth.name = t.1.2.1.name := (name_of_methodNamed B.named B.method).1
  have hlen2 : (mm_la vs).length ≤ t.1.2.2.2.1 := by rw [← k2]; exact hlen
  have hl := lv_entry (vs.map (mm_tv (mm_ad base E))) (n := t.1.2.2.2.1) (by rw [mm_la_len]; exact hlen2)
  rw [lg_entry_eq]
  generalize (lg_sl (vs.map (mm_tv (mm_ad base E))) ++ List.replicate (t.1.2.2.2.1 - (lg_sl (vs.map (mm_tv (mm_ad base E)))).length) Slot.unset).toArray = ls at hl ⊢
  obtain ⟨i, hi⟩ := mm_run_fetch hrun
  have hpc : i.2.2.2.2.1 = 0 := by have := mm_pcAt_of k9 hi; omega
  have key := hSP d k t _ r w1 hk hrun p e { frames := d + 1, cells := w1.1.length - w.1.length, slots := mm_sz w1.1 - mm_sz w.1, locals := 64 * (d + 1) } s m (vs.map (mm_tv (mm_ad base E))).toArray below meth c s.heap [] ls
    (MQ below (fun _ st o u => o = .returned (r.map (mm_tv (mm_ad base E))) ∧ va_P D vwCl (mm_wl cAI cAR (mm_ad base E) w1) u.heap ∧ va_F (fun q => base ≤ q) st u) (vs.map (mm_tv (mm_ad base E))).toArray s (w1.1.length - w.1.length) (mm_sz w1.1 - mm_sz w.1) (fun q => base ≤ q)) w.1.length (mm_sz w.1) hx hb hml hown
    (fun h => by rw [hin]; exact k5 h) (hC _) hwf hP va_S.rf (by rw [k2]; exact mm_lh_entry hlen2 hl) (by rw [mm_en_len hlen, k2]) hsz (Nat.le_refl _) (Nat.le_refl _) (Nat.le_refl _) (Nat.le_refl _) (Nat.le_refl _) (Nat.le_refl _) ?_ i hi
  · simp only [Nat.sub_self, hpc] at key
    exact key
  · intro pc H locs ls q S hd hret hP1 hS1
    have hQ : ∀ (u : State), u.heap = H → ∀ (_ : s.WarmedH u.vm), (Outcome.returned (r.map (mm_tv (mm_ad base E))) = Outcome.returned (r.map (mm_tv (mm_ad base E))) ∧ va_P D vwCl (mm_wl cAI cAR (mm_ad base E) w1) u.heap ∧ va_F (fun q => base ≤ q) s u) := fun u hu _ => ⟨rfl, by rw [hu]; exact hP1, hS1.F hu⟩
    cases q with
    | return_ =>
      simp only [mm_ret] at hret
      split at hret <;> first | cases hret; done | skip
      rename_i h0
      cases hret
      obtain ⟨h01, rfl⟩ := h0
      have hn : t.1.2.2.2.2.1 = none := by
        rw [k1] at h01
        cases h : t.1.2.2.2.2.1 with
        | none => rfl
        | some ty => rw [h] at h01; cases ty <;> simp [mm_rt] at h01
      rw [hn] at hr
      exact W.vret hx hb hr hQ hS1.2.2 hd
    | ireturn =>
      simp only [mm_ret] at hret
      split at hret <;> first | cases hret; done | skip
      rename_i x
      split at hret <;> first | cases hret; done | skip
      rename_i h0
      cases hret
      rw [k1] at h0
      rcases h0 with h0 | ⟨h0, hx01⟩
      · have hn : t.1.2.2.2.2.1 = some .int := by
          cases h : t.1.2.2.2.2.1 with
          | none => rw [h] at h0; simp [mm_rt] at h0
          | some ty => rw [h] at h0; cases ty <;> first | rfl | (simp [mm_rt] at h0)
        rw [hn] at hr
        exact W.iret hx hb hr hQ hS1.2.2 hd
      · have hn : t.1.2.2.2.2.1 = some .boolean := by
          cases h : t.1.2.2.2.2.1 with
          | none => rw [h] at h0; simp [mm_rt] at h0
          | some ty => rw [h] at h0; cases ty <;> first | rfl | (simp [mm_rt] at h0)
        rw [hn] at hr
        exact W.zret hx hb hr (by rcases hx01 with rfl | rfl <;> rfl) hQ hS1.2.2 hd
    | lreturn =>
      simp only [mm_ret] at hret
      split at hret <;> first | cases hret; done | skip
      rename_i x
      split at hret <;> first | cases hret; done | skip
      rename_i h0
      cases hret
      rw [k1] at h0
      have hn : t.1.2.2.2.2.1 = some .long := by
        cases h : t.1.2.2.2.2.1 with
        | none => rw [h] at h0; simp [mm_rt] at h0
        | some ty => rw [h] at h0; cases ty <;> first | rfl | (simp [mm_rt] at h0)
      rw [hn] at hr
      exact W.lret hx hb hr hQ hS1.2.2 hd
    | _ => simp [mm_ret] at hret
end MET
theorem mm_lk_of {o : Nat} {ini : Bool} {q : Instr} {a b : Nat} (h : mm_lkb o ini q a b = true) : mm_lk o ini q a b := by
  cases q with
  | getfield i =>
    simp only [mm_lkb, decide_eq_true_eq] at h
    exact ⟨(mm_in_f2 _ h).1, (mm_in_f2 _ h).2, mm_in_f _ h⟩
  | putfield i =>
    simp only [mm_lkb, Bool.and_eq_true, decide_eq_true_eq, Bool.or_eq_true, Bool.not_eq_true'] at h
    refine ⟨(mm_in_f2 _ h.1).1, (mm_in_f2 _ h.1).2, mm_in_f _ h.1, ?_⟩
    cases hf : (mm_tT a b).2.2.2 with
    | false => exact Or.inl rfl
    | true =>
      rcases h.2 with h2 | h2
      · rw [hf] at h2; cases h2
      · exact Or.inr ⟨rfl, h2.1.1, h2.1.2, h2.2⟩
  | new i =>
    simp only [mm_lkb, Bool.and_eq_true, decide_eq_true_eq] at h
    exact ⟨h.2, mm_in_c _ h.1⟩
  | anewarray i =>
    simp only [mm_lkb, Bool.and_eq_true, decide_eq_true_eq] at h
    exact ⟨Option.isSome_iff_exists.mp h.2, mm_in_c _ h.1⟩
  | newarray t =>
    simp only [mm_lkb, decide_eq_true_eq] at h
    exact h
  | getstatic i =>
    simp only [mm_lkb, Bool.and_eq_true, decide_eq_true_eq, Bool.or_eq_true] at h
    have hw := mm_in_s _ h.1
    rcases h.2 with rfl | rfl
    · exact Or.inl ⟨rfl, hw⟩
    · exact Or.inr ⟨rfl, hw⟩
  | invokestatic i =>
    simp only [mm_lkb] at h
    split at h
    · exact ⟨fun e => by omega, fun e => by omega, fun e => by omega⟩
    · simp only [decide_eq_true_eq] at h
      have hw := mm_in_x _ h
      exact ⟨fun e => by subst e; exact hw, fun e => by subst e; exact hw, fun e => by subst e; exact hw⟩
  | invokespecial i =>
    simp only [mm_lkb] at h
    split at h
    · exact fun e => by omega
    · simp only [decide_eq_true_eq] at h
      have hw := mm_in_x _ h
      exact fun e => by subst e; exact hw
  | _ => trivial
theorem mm_cst_of {o : Nat} {ini : Bool} {q : Instr} {a b : Nat} {args : Array Value} {s : State} (h : mm_lkb o ini q a b = true) (hts : ∀ w ∈ lw_t2, w.before args s = true) : mm_cst (mm_nm o) q a args s := by
  cases q with
  | ldc i => simp only [mm_lkb, decide_eq_true_eq] at h; exact hts _ (mm_in2 (mm_in_k _ h) rfl)
  | ldc_w i => simp only [mm_lkb, decide_eq_true_eq] at h; exact hts _ (mm_in2 (mm_in_k _ h) rfl)
  | ldc2_w i => simp only [mm_lkb, decide_eq_true_eq] at h; exact hts _ (mm_in2 (mm_in_l _ h) rfl)
  | _ => trivial
