/-! the small machine against the machine itself: instruction by instruction -/
def mm_ad (base : Nat) (E : Nat → Nat) (k : Nat) : Nat := if k < 1000 then base + k else E (k - 1000)
def mm_tv (ad : Nat → Nat) (v : Value) : Value := match v with
  | .ref k => .ref (ad k)
  | v => v
theorem mm_tv_cat (ad : Nat → Nat) (v : Value) : (mm_tv ad v).category = v.category := by cases v <;> rfl
theorem mm_tv_sum (ad : Nat → Nat) (S : List Value) : ((S.map (mm_tv ad)).map fun v => v.category).sum = (S.map fun v => v.category).sum := by
  rw [List.map_map]
  congr 1
  apply List.map_congr_left
  intro v _
  exact mm_tv_cat ad v
/-- an instruction's length -/
def mm_ln (q : Instr) : Nat := match q with
  | .bipush _ | .ldc _ | .iload _ | .lload _ | .aload _ | .istore _ | .lstore _ | .astore _ | .newarray _ => 2
  | .sipush _ | .ldc_w _ | .ldc2_w _ | .iinc _ _ | .goto _ | .ifCond _ _ | .if_icmp _ _ | .getfield _ | .putfield _ | .getstatic _ | .anewarray _ | .new _ | .invokestatic _ | .invokespecial _ | .invokevirtual _ => 3
  | _ => 1
def mm_cst (own : String) (q : Instr) (a : Nat) (args : Array Value) (s : State) : Prop := match q with
  | .ldc i => (Cond.constant own i (Int32.ofNat a)).before args s = true
  | .ldc_w i => (Cond.constant own i (Int32.ofNat a)).before args s = true
  | .ldc2_w i => (Cond.constantLong own i (Int64.ofNat a)).before args s = true
  | _ => True
section SO
variable {p : Program} {l : Launch} {e : Env} {R : Room} {s : State} {m : MethodId} {args : Array Value} {below : List Frame} {meth : Method} {c : Code} {H : Heap} {locs : List Loc} {cells slots : Nat} {Q : State → Prop}
variable {cc : ByteArray} {pc : Nat} {ls : Array Slot}
set_option maxHeartbeats 4000000 in
theorem so_pure (hx : p.tables.exec = Jvm.exec) (hb : c.code = cc) {own : String} (hown : s.vm.findClass own = some m.cls) {ad : Nat → Nat} {q : Instr} {a len : Nat} {S S' : List Value} (hc : mm_cst own q a args s) (hn : mm_ln q = len) (hd : decode cc pc = .ok (q, len)) (h : mm_pure q a S = some S')
    (kk : W p l e R s m args below meth c H locs cells slots Q (F0 m (pc + len) ls (S'.map (mm_tv ad)))) : W p l e R s m args below meth c H locs cells slots Q (F0 m pc ls (S.map (mm_tv ad))) := by
  subst hn
  cases q with
  | iconst n => cases h; exact lv_iconst hx hb hd rfl kk
  | bipush n => cases h; exact lv_bipush hx hb hd rfl kk
  | sipush n => cases h; exact lv_sipush hx hb hd rfl kk
  | lconst n => cases h; exact lv_lconst hx hb hd rfl kk
  | ldc n => cases h; exact lv_ldc hx hb hown hc hd kk
  | ldc_w n => cases h; exact lv_ldcw hx hb hown hc hd kk
  | ldc2_w n => cases h; exact lv_ldc2 hx hb hown hc hd kk
  | iadd => simp only [mm_pure] at h; split at h <;> first | cases h | skip
            exact lv_iadd hx hb hd kk
  | isub => simp only [mm_pure] at h; split at h <;> first | cases h | skip
            exact lv_isub hx hb hd kk
  | imul => simp only [mm_pure] at h; split at h <;> first | cases h | skip
            exact lv_imul hx hb hd kk
  | iand => simp only [mm_pure] at h; split at h <;> first | cases h | skip
            exact lv_iand hx hb hd kk
  | ior => simp only [mm_pure] at h; split at h <;> first | cases h | skip
           exact lv_ior hx hb hd kk
  | ixor => simp only [mm_pure] at h; split at h <;> first | cases h | skip
            exact lv_ixor hx hb hd kk
  | ishl => simp only [mm_pure] at h; split at h <;> first | cases h | skip
            exact lv_ishl hx hb hd kk
  | ishr => simp only [mm_pure] at h; split at h <;> first | cases h | skip
            exact lv_ishr hx hb hd kk
  | iushr => simp only [mm_pure] at h; split at h <;> first | cases h | skip
             exact lv_iushr hx hb hd rfl kk
  | idiv => simp only [mm_pure] at h; split at h <;> first | cases h; done | skip
            split at h
            · cases h
            · cases h; exact lv_idiv hx hb hd (by assumption) kk
  | irem => simp only [mm_pure] at h; split at h <;> first | cases h; done | skip
            split at h
            · cases h
            · cases h; exact lv_irem hx hb hd (by assumption) kk
  | ladd => simp only [mm_pure] at h; split at h <;> first | cases h | skip
            exact lv_ladd hx hb hd kk
  | lsub => simp only [mm_pure] at h; split at h <;> first | cases h | skip
            exact lv_lsub hx hb hd kk
  | lmul => simp only [mm_pure] at h; split at h <;> first | cases h | skip
            exact lv_lmul hx hb hd kk
  | land => simp only [mm_pure] at h; split at h <;> first | cases h | skip
            exact lv_land hx hb hd kk
  | ldiv => simp only [mm_pure] at h; split at h <;> first | cases h; done | skip
            split at h
            · cases h
            · cases h; exact lv_ldiv hx hb hd (by assumption) kk
  | lrem => simp only [mm_pure] at h; split at h <;> first | cases h; done | skip
            split at h
            · cases h
            · cases h; exact lv_lrem hx hb hd (by assumption) kk
  | lshl => simp only [mm_pure] at h; split at h <;> first | cases h | skip
            exact lv_lshl hx hb hd rfl kk
  | lshr => simp only [mm_pure] at h; split at h <;> first | cases h | skip
            exact lv_lshr hx hb hd rfl kk
  | lcmp => simp only [mm_pure] at h; split at h <;> first | cases h | skip
            exact W.lcmp hx hb hd kk
  | i2l => simp only [mm_pure] at h; split at h <;> first | cases h | skip
           exact lv_i2l hx hb hd rfl kk
  | i2b => simp only [mm_pure] at h; split at h <;> first | cases h | skip
           exact lv_i2b hx hb hd rfl kk
  | i2s => simp only [mm_pure] at h; split at h <;> first | cases h | skip
           exact lv_i2s hx hb hd rfl kk
  | dup => simp only [mm_pure] at h; split at h <;> first | cases h; done | skip
           split at h
           · cases h; exact lv_dup hx hb hd (by rw [mm_tv_cat]; assumption) kk
           · cases h
  | dup2 => simp only [mm_pure] at h; split at h <;> first | cases h; done | skip
            split at h
            · rename_i hcc
              cases h; exact lv_dup2_11 hx hb hd (by rw [mm_tv_cat]; exact hcc.1) (by rw [mm_tv_cat]; exact hcc.2) kk
            · cases h
  | pop => simp only [mm_pure] at h; split at h <;> first | cases h; done | skip
           split at h
           · cases h; exact lv_pop hx hb hd (by rw [mm_tv_cat]; assumption) kk
           · cases h
  | _ => simp [mm_pure] at h
/-! locals -/
/-- the locals hold what they should -/
def mm_lh (ad : Nat → Nat) (ls : Array Slot) (L : mm_L) : Prop := ls.size = L.length ∧ lv_wf ls ∧ ∀ (j : Nat) (v : Value), L[j]? = some (some v) → ls[j]? = some (.val (mm_tv ad v))
/-- the list of them that the kit's rows take -/
def mm_pr (ad : Nat → Nat) (L : mm_L) : List (Nat × Value) := (List.range L.length).filterMap (fun j => match L[j]? with | some (some v) => some (j, mm_tv ad v) | _ => none)
theorem mm_pr_mem {ad : Nat → Nat} {L : mm_L} {q : Nat × Value} : q ∈ mm_pr ad L ↔ ∃ v, L[q.1]? = some (some v) ∧ q.2 = mm_tv ad v := by
  obtain ⟨j, u⟩ := q
  simp only [mm_pr, List.mem_filterMap, List.mem_range]
  constructor
  · rintro ⟨i, hi, h⟩
    split at h
    · rename_i v hv
      cases h
      exact ⟨v, hv, rfl⟩
    · cases h
  · rintro ⟨v, hv, rfl⟩
    exact ⟨j, (List.getElem?_eq_some_iff.mp hv).1, by rw [hv]⟩
theorem mm_lh.has {ad : Nat → Nat} {ls : Array Slot} {L : mm_L} (h : mm_lh ad ls L) : lv_has ls L.length (mm_pr ad L) := by
  refine ⟨h.1, h.2.1, fun q hq => ?_⟩
  obtain ⟨v, h1, h2⟩ := mm_pr_mem.mp hq
  rw [h2]
  exact h.2.2 _ _ h1
theorem mm_ld_some {L : mm_L} {i : Nat} {v : Value} (h : mm_ld L i = some v) : L[i]? = some (some v) := by
  unfold mm_ld at h
  split at h
  · rename_i u hu
    cases h
    exact hu
  · cases h
theorem mm_lh.at {ad : Nat → Nat} {ls : Array Slot} {L : mm_L} (h : mm_lh ad ls L) {i : Nat} {v : Value} (hv : mm_ld L i = some v) : ls[i]? = some (.val (mm_tv ad v)) := h.2.2 _ _ (mm_ld_some hv)
theorem mm_cl_len (L : mm_L) (i : Nat) : (mm_cl L i).length = L.length := by
  unfold mm_cl
  split
  · rfl
  · split
    · split
      · simp
      · rfl
    · rfl
/-- what stands in the locals when one of the first kind was set -/
theorem mm_st_1 {L L' : mm_L} {i : Nat} {v : Value} (hv : v.category = 1) (h : mm_st L i v = some L') : i < L.length ∧ L'.length = L.length ∧ ∀ (j : Nat) (u : Value), L'[j]? = some (some u) → (j = i ∧ u = v) ∨ (j ≠ i ∧ L[j]? = some (some u) ∧ ¬ (j + 1 = i ∧ u.category = 2)) := by
  unfold mm_st at h
  rw [if_neg (by omega)] at h
  split at h
  · rename_i hi
    cases h
    refine ⟨hi, by rw [List.length_set, mm_cl_len], fun j u hu => ?_⟩
    by_cases hj : j = i
    · subst hj
      rw [List.getElem?_set_self (by rw [mm_cl_len]; exact hi)] at hu
      cases hu
      exact Or.inl ⟨rfl, rfl⟩
    · rw [List.getElem?_set_ne (Ne.symm hj)] at hu
      refine Or.inr ⟨hj, ?_⟩
      unfold mm_cl at hu
      split at hu
      · exact ⟨hu, by omega⟩
      · rename_i k
        split at hu
        · rename_i w hw
          split at hu
          · by_cases hjk : j = k
            · subst hjk
              rw [List.getElem?_set_self (List.getElem?_eq_some_iff.mp hw).1] at hu
              cases hu
            · rw [List.getElem?_set_ne (Ne.symm hjk)] at hu
              exact ⟨hu, by omega⟩
          · rename_i hcat
            refine ⟨hu, fun hh => ?_⟩
            have e : j = k := by omega
            subst e
            rw [hw] at hu
            cases hu
            exact hcat hh.2
        · rename_i hno
          refine ⟨hu, fun hh => ?_⟩
          have e : j = k := by omega
          subst e
          exact hno u hu
  · cases h
theorem mm_st_2 {L L' : mm_L} {i : Nat} {v : Value} (hv : v.category = 2) (h : mm_st L i v = some L') : i + 1 < L.length ∧ L'.length = L.length ∧ ∀ (j : Nat) (u : Value), L'[j]? = some (some u) → (j = i ∧ u = v) ∨ (j ≠ i ∧ j ≠ i + 1 ∧ L[j]? = some (some u) ∧ ¬ (j + 1 = i ∧ u.category = 2)) := by
  unfold mm_st at h
  rw [if_pos hv] at h
  split at h
  · rename_i hi
    cases h
    refine ⟨hi, by rw [List.length_set, List.length_set, mm_cl_len], fun j u hu => ?_⟩
    by_cases hj1 : j = i + 1
    · subst hj1
      rw [List.getElem?_set_self (by rw [List.length_set, mm_cl_len]; exact hi)] at hu
      cases hu
    rw [List.getElem?_set_ne (Ne.symm hj1)] at hu
    by_cases hj : j = i
    · subst hj
      rw [List.getElem?_set_self (by rw [mm_cl_len]; omega)] at hu
      cases hu
      exact Or.inl ⟨rfl, rfl⟩
    · rw [List.getElem?_set_ne (Ne.symm hj)] at hu
      refine Or.inr ⟨hj, hj1, ?_⟩
      unfold mm_cl at hu
      split at hu
      · exact ⟨hu, by omega⟩
      · rename_i k
        split at hu
        · rename_i w hw
          split at hu
          · by_cases hjk : j = k
            · subst hjk
              rw [List.getElem?_set_self (List.getElem?_eq_some_iff.mp hw).1] at hu
              cases hu
            · rw [List.getElem?_set_ne (Ne.symm hjk)] at hu
              exact ⟨hu, by omega⟩
          · rename_i hcat
            refine ⟨hu, fun hh => ?_⟩
            have e : j = k := by omega
            subst e
            rw [hw] at hu
            cases hu
            exact hcat hh.2
        · rename_i hno
          refine ⟨hu, fun hh => ?_⟩
          have e : j = k := by omega
          subst e
          exact hno u hu
  · cases h
theorem mm_lh.set1 {ad : Nat → Nat} {ls' : Array Slot} {L L' : mm_L} {i : Nat} {v : Value} (hv : v.category = 1) (h : mm_st L i v = some L') (hl : lv_has ls' L.length ((i, mm_tv ad v) :: (mm_pr ad L).filter (fun q => !(q.1 == i) && !(q.1 + 1 == i && q.2.category == 2)))) : mm_lh ad ls' L' := by
  obtain ⟨-, h2, h3⟩ := mm_st_1 hv h
  refine ⟨by rw [h2]; exact hl.1, hl.2.1, fun j u hu => ?_⟩
  rcases h3 j u hu with ⟨rfl, rfl⟩ | ⟨g1, g2, g3⟩
  · exact hl.2.2 _ List.mem_cons_self
  · refine hl.2.2 (j, mm_tv ad u) (List.mem_cons_of_mem _ (List.mem_filter.mpr ⟨mm_pr_mem.mpr ⟨u, g2, rfl⟩, ?_⟩))
    simp only [mm_tv_cat, Bool.and_eq_true, Bool.not_eq_true', beq_eq_false_iff_ne, Bool.and_eq_false_iff]
    refine ⟨g1, ?_⟩
    by_cases e : j + 1 = i
    · exact Or.inr (fun hc => g3 ⟨e, hc⟩)
    · exact Or.inl e
theorem mm_lh.set2 {ad : Nat → Nat} {ls' : Array Slot} {L L' : mm_L} {i : Nat} {v : Value} (hv : v.category = 2) (h : mm_st L i v = some L') (hl : lv_has ls' L.length ((i, mm_tv ad v) :: (mm_pr ad L).filter (fun q => !(q.1 == i) && (!(q.1 == i + 1) && !(q.1 + 1 == i && q.2.category == 2))))) : mm_lh ad ls' L' := by
  obtain ⟨-, h2, h3⟩ := mm_st_2 hv h
  refine ⟨by rw [h2]; exact hl.1, hl.2.1, fun j u hu => ?_⟩
  rcases h3 j u hu with ⟨rfl, rfl⟩ | ⟨g1, g1', g2, g3⟩
  · exact hl.2.2 _ List.mem_cons_self
  · refine hl.2.2 (j, mm_tv ad u) (List.mem_cons_of_mem _ (List.mem_filter.mpr ⟨mm_pr_mem.mpr ⟨u, g2, rfl⟩, ?_⟩))
    simp only [mm_tv_cat, Bool.and_eq_true, Bool.not_eq_true', beq_eq_false_iff_ne, Bool.and_eq_false_iff]
    refine ⟨g1, g1', ?_⟩
    by_cases e : j + 1 = i
    · exact Or.inr (fun hc => g3 ⟨e, hc⟩)
    · exact Or.inl e
set_option maxHeartbeats 4000000 in
theorem so_loc (hx : p.tables.exec = Jvm.exec) (hb : c.code = cc) {ad : Nat → Nat} {q : Instr} {len : Nat} {L : mm_L} {S : List Value} {z : mm_L × List Value} (hl : mm_lh ad ls L) (hn : mm_ln q = len) (hd : decode cc pc = .ok (q, len)) (h : mm_loc q L S = some z)
    (kk : ∀ ls' : Array Slot, mm_lh ad ls' z.1 → W p l e R s m args below meth c H locs cells slots Q (F0 m (pc + len) ls' (z.2.map (mm_tv ad)))) : W p l e R s m args below meth c H locs cells slots Q (F0 m pc ls (S.map (mm_tv ad))) := by
  subst hn
  cases q with
  | iload i => simp only [mm_loc] at h; split at h <;> first | cases h; done | skip
               rename_i x hv
               cases h; exact lv_iload hx hb hd (hl.at hv) (kk ls hl)
  | iload_n i => simp only [mm_loc] at h; split at h <;> first | cases h; done | skip
                 rename_i x hv
                 cases h; exact lv_iload_n hx hb hd rfl (hl.at hv) (kk ls hl)
  | lload i => simp only [mm_loc] at h; split at h <;> first | cases h; done | skip
               rename_i x hv
               cases h; exact lv_lload hx hb hd (hl.at hv) (kk ls hl)
  | lload_n i => simp only [mm_loc] at h; split at h <;> first | cases h; done | skip
                 rename_i x hv
                 cases h; exact lv_lload_n hx hb hd rfl (hl.at hv) (kk ls hl)
  | aload i => simp only [mm_loc] at h; split at h <;> first | cases h; done | skip
               rename_i x hv
               cases h; exact lv_aload hx hb hd (hl.at hv) (kk ls hl)
  | aload_n i => simp only [mm_loc] at h; split at h <;> first | cases h; done | skip
                 rename_i x hv
                 cases h; exact lv_aload_n hx hb hd rfl (hl.at hv) (kk ls hl)
  | istore i => simp only [mm_loc] at h; split at h <;> first | cases h; done | skip
                obtain ⟨L', h1, h2⟩ := Option.map_eq_some_iff.mp h
                subst h2
                exact lv_istore hx hb hd hl.has (mm_st_1 rfl h1).1 rfl (fun ls' hl' => kk ls' (mm_lh.set1 rfl h1 hl'))
  | istore_n i => simp only [mm_loc] at h; split at h <;> first | cases h; done | skip
                  obtain ⟨L', h1, h2⟩ := Option.map_eq_some_iff.mp h
                  subst h2
                  exact lv_istore_n hx hb hd rfl hl.has (mm_st_1 rfl h1).1 rfl (fun ls' hl' => kk ls' (mm_lh.set1 rfl h1 hl'))
  | lstore i => simp only [mm_loc] at h; split at h <;> first | cases h; done | skip
                obtain ⟨L', h1, h2⟩ := Option.map_eq_some_iff.mp h
                subst h2
                exact lv_lstore hx hb hd hl.has (mm_st_2 rfl h1).1 rfl (fun ls' hl' => kk ls' (mm_lh.set2 rfl h1 hl'))
  | lstore_n i => simp only [mm_loc] at h; split at h <;> first | cases h; done | skip
                  obtain ⟨L', h1, h2⟩ := Option.map_eq_some_iff.mp h
                  subst h2
                  exact lv_lstore_n hx hb hd rfl hl.has (mm_st_2 rfl h1).1 rfl (fun ls' hl' => kk ls' (mm_lh.set2 rfl h1 hl'))
  | astore i => simp only [mm_loc] at h; split at h <;> first | cases h; done | skip
                obtain ⟨L', h1, h2⟩ := Option.map_eq_some_iff.mp h
                subst h2
                exact lv_astore hx hb hd hl.has (mm_st_1 rfl h1).1 rfl (fun ls' hl' => kk ls' (mm_lh.set1 rfl h1 hl'))
  | astore_n i => simp only [mm_loc] at h; split at h <;> first | cases h; done | skip
                  obtain ⟨L', h1, h2⟩ := Option.map_eq_some_iff.mp h
                  subst h2
                  exact lv_astore_n hx hb hd rfl hl.has (mm_st_1 rfl h1).1 rfl (fun ls' hl' => kk ls' (mm_lh.set1 rfl h1 hl'))
  | iinc i n => simp only [mm_loc] at h; split at h <;> first | cases h; done | skip
                rename_i x hv
                obtain ⟨L', h1, h2⟩ := Option.map_eq_some_iff.mp h
                subst h2
                obtain ⟨k, hk⟩ := List.mem_iff_getElem?.mp (mm_pr_mem (ad := ad) (q := (i, .int x)).mpr ⟨.int x, mm_ld_some hv, rfl⟩)
                exact lv_iinc hx hb hd hl.has hk rfl (mm_st_1 rfl h1).1 rfl (fun ls' hl' => kk ls' (mm_lh.set1 rfl h1 hl'))
  | _ => simp [mm_loc] at h
set_option maxHeartbeats 4000000 in
theorem so_br (hx : p.tables.exec = Jvm.exec) (hb : c.code = cc) {ad : Nat → Nat} {q : Instr} {a nx len pa pn : Nat} {S : List Value} {z : Nat × List Value} {off : Int} (ho : q = .goto off ∨ (∃ k, q = .ifCond k off) ∨ ∃ k, q = .if_icmp k off) (hn : mm_ln q = len) (hd : decode cc pc = .ok (q, len)) (ht : (pc : Int) + off = (pa : Int)) (hpn : pn = pc + len) (h : mm_br q a nx S = some z)
    (kk : ∀ pz : Nat, (z.1 = a ∧ pz = pa ∨ z.1 = nx ∧ pz = pn) → W p l e R s m args below meth c H locs cells slots Q (F0 m pz ls (z.2.map (mm_tv ad)))) : W p l e R s m args below meth c H locs cells slots Q (F0 m pc ls (S.map (mm_tv ad))) := by
  subst hn
  subst hpn
  rcases ho with rfl | ⟨k, rfl⟩ | ⟨k, rfl⟩
  · cases h
    exact lv_goto hx hb hd ht (kk pa (Or.inl ⟨rfl, rfl⟩))
  · cases k with
    | eq => simp only [mm_br] at h; split at h <;> cases h
            exact lv_if_eq hx hb hd ht (fun hc => kk _ (Or.inl ⟨if_pos hc, rfl⟩)) (fun hc => kk _ (Or.inr ⟨if_neg hc, rfl⟩))
    | ne => simp only [mm_br] at h; split at h <;> cases h
            exact lv_if_ne hx hb hd ht (fun hc => kk _ (Or.inl ⟨if_pos hc, rfl⟩)) (fun hc => kk _ (Or.inr ⟨if_neg (fun h => h hc), rfl⟩))
    | lt => simp only [mm_br] at h; split at h <;> cases h
            exact lv_if_lt hx hb hd ht (fun hc => kk _ (Or.inl ⟨if_pos hc, rfl⟩)) (fun hc => kk _ (Or.inr ⟨if_neg hc, rfl⟩))
    | ge => simp only [mm_br] at h; split at h <;> cases h
            exact lv_if_ge hx hb hd ht (fun hc => kk _ (Or.inl ⟨if_pos hc, rfl⟩)) (fun hc => kk _ (Or.inr ⟨if_neg hc, rfl⟩))
    | gt => simp only [mm_br] at h; split at h <;> cases h
            exact lv_if_gt hx hb hd ht (fun hc => kk _ (Or.inl ⟨if_pos hc, rfl⟩)) (fun hc => kk _ (Or.inr ⟨if_neg hc, rfl⟩))
    | le => simp only [mm_br] at h; split at h <;> cases h
            exact lv_if_le hx hb hd ht (fun hc => kk _ (Or.inl ⟨if_pos hc, rfl⟩)) (fun hc => kk _ (Or.inr ⟨if_neg hc, rfl⟩))
  · cases k with
    | eq => simp only [mm_br] at h; split at h <;> cases h
            exact lv_icmp_eq hx hb hd ht (fun hc => kk _ (Or.inl ⟨if_pos hc, rfl⟩)) (fun hc => kk _ (Or.inr ⟨if_neg hc, rfl⟩))
    | ne => simp only [mm_br] at h; split at h <;> cases h
            exact lv_icmp_ne hx hb hd ht (fun hc => kk _ (Or.inl ⟨if_pos hc, rfl⟩)) (fun hc => kk _ (Or.inr ⟨if_neg (fun h => h hc), rfl⟩))
    | lt => simp only [mm_br] at h; split at h <;> cases h
            exact lv_icmp_lt hx hb hd ht (fun hc => kk _ (Or.inl ⟨if_pos hc, rfl⟩)) (fun hc => kk _ (Or.inr ⟨if_neg hc, rfl⟩))
    | ge => simp only [mm_br] at h; split at h <;> cases h
            exact lv_icmp_ge hx hb hd ht (fun hc => kk _ (Or.inl ⟨if_pos hc, rfl⟩)) (fun hc => kk _ (Or.inr ⟨if_neg hc, rfl⟩))
    | gt => simp only [mm_br] at h; split at h <;> cases h
            exact lv_icmp_gt hx hb hd ht (fun hc => kk _ (Or.inl ⟨if_pos hc, rfl⟩)) (fun hc => kk _ (Or.inr ⟨if_neg hc, rfl⟩))
    | le => simp only [mm_br] at h; split at h <;> cases h
            exact lv_icmp_le hx hb hd ht (fun hc => kk _ (Or.inl ⟨if_pos hc, rfl⟩)) (fun hc => kk _ (Or.inr ⟨if_neg hc, rfl⟩))
end SO
