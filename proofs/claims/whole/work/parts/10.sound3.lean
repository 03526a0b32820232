/-! the heap's instructions -/
/-- a word of the tables that goes with the state, whatever is resolved meanwhile -/
def mm_nl (w : Cond) : Bool := match w with
  | .laysStatic _ _ _ => false
  | _ => true
def lw_t2 : List Cond := lw_tbl.filter mm_nl
theorem mm_in2 {w : Cond} (h : w ∈ lw_tbl) (h2 : mm_nl w = true) : w ∈ lw_t2 := List.mem_filter.mpr ⟨h, h2⟩
theorem mm_class2 {a : Nat} (ha : a < 12) : ∀ w ∈ u_ws (mm_nm a) (mm_tT a) (mm_nf a), w ∈ lw_t2 := by
  intro w hw
  refine mm_in2 ((mm_class ha).2.1 w hw) ?_
  obtain ⟨k, -, rfl⟩ := List.mem_map.mp hw
  unfold u_lay
  split <;> rfl
def mm_cx (D : va_G) (cAI : ClassId) (cAR : Nat → ClassId) (E : Nat → Nat) (X : mm_X) (base : Nat) (args : Array Value) (s : State) : Prop :=
  (∀ w ∈ lw_t2, w.before args s = true) ∧ va_K D vwCl (mm_tys cAI cAR) s ∧ (∀ j nf, X j = some nf → va_T .int (E j) nf.1 (fun i => .int (nf.2 i)) (fun q => base ≤ q) s s.heap) ∧ va_Z "ToastGaol" "GREATEST" "[I" (.ref (E 1)) (fun q => base ≤ q) s s.heap ∧ va_Z "ToastGaol" "DIGEST_HOURS" "[I" (.ref (E 2)) (fun q => base ≤ q) s s.heap ∧ base ≤ s.heap.size
set_option maxRecDepth 20000 in
theorem mm_t_max : Cond.static Lib.Math.max.name ∈ lw_tbl ∧ Cond.initialized "java/lang/Math" ∈ lw_tbl ∧ Cond.code Lib.Math.max.name Lib.Math.max.code 2 (some .int) ∈ lw_tbl := ⟨List.mem_of_getElem? (i := 421) rfl, List.mem_of_getElem? (i := 101) rfl, List.mem_of_getElem? (i := 422) rfl⟩
set_option maxRecDepth 20000 in
theorem mm_t_min : Cond.static Lib.Math.min.name ∈ lw_tbl ∧ Cond.initialized "java/lang/Math" ∈ lw_tbl ∧ Cond.code Lib.Math.min.name Lib.Math.min.code 2 (some .int) ∈ lw_tbl := ⟨List.mem_of_getElem? (i := 512) rfl, List.mem_of_getElem? (i := 101) rfl, List.mem_of_getElem? (i := 513) rfl⟩
set_option maxRecDepth 20000 in
theorem mm_t_cpy : Cond.static arraycopyName ∈ lw_tbl ∧ Cond.initialized "java/lang/System" ∈ lw_tbl ∧ Cond.native arraycopyName ∈ lw_tbl := ⟨List.mem_of_getElem? (i := 655) rfl, List.mem_of_getElem? (i := 104) rfl, List.mem_of_getElem? (i := 656) rfl⟩
theorem mm_t_obj : Cond.instanceMethod Lib.objectInit ∈ lw_tbl ∧ Cond.code Lib.objectInit ⟨#[0xb1]⟩ 1 none ∈ lw_tbl := ⟨List.mem_of_getElem? (i := 111) rfl, List.mem_of_getElem? (i := 112) rfl⟩
theorem mm_t_int : Cond.arrayClass .int ∈ lw_tbl := by decide +kernel
theorem mm_t_over : ∀ a, a = 8 ∨ a = 6 ∨ a = 0 → Cond.arrayOver (.object (mm_nm a)) ∈ lw_tbl := by
  intro a h
  rcases h with rfl | rfl | rfl <;> decide +kernel
theorem mm_rix_of {a i : Nat} (h : mm_rix a = some i) : a = 8 ∨ a = 6 ∨ a = 0 := by
  unfold mm_rix at h
  split at h
  · exact Or.inl (by assumption)
  · split at h
    · exact Or.inr (Or.inl (by assumption))
    · split at h
      · exact Or.inr (Or.inr (by assumption))
      · cases h
theorem mm_map_set {n j : Nat} {f g : Nat → Value} (hj : j < n) (h : ∀ i, i ≠ j → g i = f i) : ((List.range n).map f).set j (g j) = (List.range n).map g := by
  apply List.ext_getElem?
  intro i
  by_cases hi : i = j
  · subst hi
    rw [List.getElem?_set_self (by simp; exact hj), List.getElem?_map, List.getElem?_range hj]
    rfl
  · rw [List.getElem?_set_ne (Ne.symm hi), List.getElem?_map, List.getElem?_map]
    cases hr : (List.range n)[i]? with
    | none => rfl
    | some k =>
      have : k = i := by
        have h1 := List.getElem?_eq_some_iff.mp hr
        obtain ⟨h2, h3⟩ := h1
        simpa using h3.symm
      subst this
      simp [h k hi]
section SH
variable {p : Program} {l : Launch} {e : Env} {R : Room} {s : State} {m : MethodId} {args : Array Value} {below : List Frame} {meth : Method} {c : Code} {H : Heap} {locs : List Loc} {cells slots : Nat} {Q : State → Prop}
variable {cc : ByteArray} {pc : Nat} {ls : Array Slot} {D : va_G} {cAI : ClassId} {cAR : Nat → ClassId} {E : Nat → Nat} {X : mm_X} {base o : Nat} {ini : Bool}
theorem mm_W_sz {g : JFrame} (k : H.size ≤ s.heap.size + cells → W p l e R s m args below meth c H locs cells slots Q g) : W p l e R s m args below meth c H locs cells slots Q g := fun T hT X => k (by rw [← hT]; exact X.heapSize) T hT X
theorem so_get (hx : p.tables.exec = Jvm.exec) (hb : c.code = cc) (hown : s.vm.findClass (mm_nm o) = some m.cls) (C : mm_cx D cAI cAR E X base args s) {i a b : Nat} {S : List Value} {w : mm_W} {z : List Value × mm_W} (hlk : mm_lk o ini (.getfield i) a b) (hd : decode cc pc = .ok (.getfield i, 3)) (hP : va_P D vwCl (mm_wl cAI cAR (mm_ad base E) w) H)
    (h : mm_heap X (.getfield i) a b S w = some z)
    (kk : z.2 = w → W p l e R s m args below meth c H locs cells slots Q (F0 m (pc + 3) ls (z.1.map (mm_tv (mm_ad base E))))) : W p l e R s m args below meth c H locs cells slots Q (F0 m pc ls (S.map (mm_tv (mm_ad base E)))) := by
  obtain ⟨ha, hbn, hw⟩ := hlk
  obtain ⟨hcl, -, -, -⟩ := mm_class ha
  have hin := mm_class2 ha
  simp only [mm_heap] at h
  split at h <;> first | cases h; done | skip
  rename_i k r
  split at h <;> first | cases h; done | skip
  rename_i hk
  have he := mm_wl_at (cAI := cAI) (cAR := cAR) (ad := mm_ad base E) hk.1
  have hv : ((List.range (mm_nf a)).map (mm_fv (mm_ad base E) w a k))[b]? = some (mm_fv (mm_ad base E) w a k b) := by rw [List.getElem?_map, List.getElem?_range hbn]; rfl
  have hz : z.2 = w ∧ z.1.map (mm_tv (mm_ad base E)) = mm_fv (mm_ad base E) w a k b :: r.map (mm_tv (mm_ad base E)) := by
    split at h
    · rename_i h1
      cases h
      exact ⟨rfl, by simp [mm_fv, h1, mm_tv]⟩
    · rename_i h1
      split at h
      · rename_i h2
        cases h
        exact ⟨rfl, by simp [mm_fv, h2, mm_tv]⟩
      · rename_i h2
        split at h
        · cases h
          exact ⟨rfl, by simp [mm_fv, h1, h2, mm_tv_rf]⟩
        · cases h
  have kk := kk hz.1
  rw [hz.2] at kk
  by_cases ho : o = a
  · rw [mm_flw, if_pos ho] at hw
    exact va_get hx hb C.1 hin hown C.2.1 hP k he hcl b hbn (C.1 _ (mm_in2 hw rfl)) (fun _ h => h) hv hd kk
  · rw [mm_flw, if_neg ho] at hw
    exact va_getN hx hb C.1 hin hown C.2.1 hP k he hcl b hbn (C.1 _ (mm_in2 hw rfl)) (fun _ h => h) hv hd kk
theorem so_put (hx : p.tables.exec = Jvm.exec) (hb : c.code = cc) (hini : ini = true → meth.name = "<init>") (hown : s.vm.findClass (mm_nm o) = some m.cls) (C : mm_cx D cAI cAR E X base args s) {i a b : Nat} {S : List Value} {w : mm_W} {z : List Value × mm_W} (hlk : mm_lk o ini (.putfield i) a b) (hd : decode cc pc = .ok (.putfield i, 3)) (hl : w.1.length ≤ 1000) (hP : va_P D vwCl (mm_wl cAI cAR (mm_ad base E) w) H) (hS : va_S (fun q => base ≤ q) s.heap H locs)
    (h : mm_heap X (.putfield i) a b S w = some z)
    (kk : z.2.1 = w.1 → ∀ (H1 : Heap) (locs1 : List Loc), va_P D vwCl (mm_wl cAI cAR (mm_ad base E) z.2) H1 → va_S (fun q => base ≤ q) s.heap H1 locs1 → W p l e R s m args below meth c H1 locs1 cells slots Q (F0 m (pc + 3) ls (z.1.map (mm_tv (mm_ad base E))))) : W p l e R s m args below meth c H locs cells slots Q (F0 m pc ls (S.map (mm_tv (mm_ad base E)))) := by
  obtain ⟨ha, hbn, hw, hfin⟩ := hlk
  obtain ⟨hcl, -, hty, hnm⟩ := mm_class ha
  have hin := mm_class2 ha
  have hkind := mm_kind ha hbn
  have hD := mm_wl_D (cAI := cAI) (cAR := cAR) (base := base) (E := E) hl
  -- the general put
  have gen : ∀ (v : Value) (k : Nat) (r : List Value), w.1[k]? = some (.inr (.inr a)) → narrow (mm_ty a b) (mm_tv (mm_ad base E) v) = mm_tv (mm_ad base E) v → fits (mm_ty a b) (mm_tv (mm_ad base E) v) = true → z.1 = r → z.2.1 = w.1 →
      (∀ k', k' ≠ k → z.2.2.1 k' = w.2.1 k' ∧ z.2.2.2.1 k' = w.2.2.1 k' ∧ z.2.2.2.2 k' = w.2.2.2 k') → (∀ j, j ≠ b → mm_fv (mm_ad base E) z.2 a k j = mm_fv (mm_ad base E) w a k j) → mm_fv (mm_ad base E) z.2 a k b = mm_tv (mm_ad base E) v →
      W p l e R s m args below meth c H locs cells slots Q (F0 m pc ls (mm_tv (mm_ad base E) v :: Value.ref (mm_ad base E k) :: r.map (mm_tv (mm_ad base E)))) := by
    intro v k r hk hnar hfit hz1 hzG hne hoth hown2
    have he := mm_wl_at (cAI := cAI) (cAR := cAR) (ad := mm_ad base E) hk
    have hset : (mm_wl cAI cAR (mm_ad base E) w).set k (mm_ad base E k, .inr (a, ((List.range (mm_nf a)).map (mm_fv (mm_ad base E) w a k)).set b (mm_tv (mm_ad base E) v))) = mm_wl cAI cAR (mm_ad base E) z.2 := by
      refine mm_wl_set hzG hne (fun sh hsh => ?_)
      rw [hk] at hsh
      cases hsh
      show Sum.inr _ = Sum.inr _
      rw [← hown2, mm_map_set hbn hoth]
    have kk' : ∀ (H1 : Heap) (locs1 : List Loc), va_P D vwCl ((mm_wl cAI cAR (mm_ad base E) w).set k (mm_ad base E k, .inr (a, ((List.range (mm_nf a)).map (mm_fv (mm_ad base E) w a k)).set b (mm_tv (mm_ad base E) v)))) H1 → va_D (fun q => base ≤ q) ((mm_wl cAI cAR (mm_ad base E) w).set k (mm_ad base E k, .inr (a, ((List.range (mm_nf a)).map (mm_fv (mm_ad base E) w a k)).set b (mm_tv (mm_ad base E) v)))) → va_S (fun q => base ≤ q) s.heap H1 locs1 → W p l e R s m args below meth c H1 locs1 cells slots Q (F0 m (pc + 3) ls (r.map (mm_tv (mm_ad base E)))) := by
      intro H1 locs1 g1 _ g3
      rw [hset] at g1
      rw [← hz1]
      exact kk hzG H1 locs1 g1 g3
    have hlen : b < ((List.range (mm_nf a)).map (mm_fv (mm_ad base E) w a k)).length := by simp; exact hbn
    rcases hfin with hf | ⟨hf, hi, hoa, hdecl⟩
    · by_cases ho : o = a
      · rw [mm_flw, if_pos ho] at hw
        exact va_put hx hb C.1 hin (mm_ty a) hty hnm hown C.2.1 hP hD hS k he hcl b hbn (C.1 _ (mm_in2 hw rfl)) (fun _ h => h) hf (hty b hbn) hnar hfit hlen hd kk'
      · rw [mm_flw, if_neg ho] at hw
        exact va_putN hx hb C.1 hin (mm_ty a) hty hnm hown C.2.1 hP hD hS k he hcl b hbn (C.1 _ (mm_in2 hw rfl)) (fun _ h => h) hf (hty b hbn) hnar hfit hlen hd kk'
    · rw [mm_flw, if_pos hoa] at hw
      exact va_putF hx hb C.1 hin (mm_ty a) hty hnm hown C.2.1 hP hD hS k he hcl b hbn (C.1 _ (mm_in2 hw rfl)) (fun _ h => h) hf (hini hi) hdecl (hty b hbn) hnar hfit hlen hd kk'
  simp only [mm_heap] at h
  split at h
  · rename_i x k r
    split at h <;> first | cases h; done | skip
    rename_i hk
    cases h
    refine gen (.int x) k r hk.1 ?_ ?_ rfl rfl (fun k' hk' => ⟨rfl, by funext j; simp [mm_u, hk'], rfl⟩) (fun j hj => by simp [mm_fv, mm_u, hj]) ?_
    · rcases hk.2.2 with h0 | ⟨h1, hx01⟩
      · rw [h0] at hkind
        cases ht : mm_ty a b <;> rw [ht] at hkind <;> first | (simp [mm_kty] at hkind; done) | rfl
      · rw [h1] at hkind
        cases ht : mm_ty a b <;> rw [ht] at hkind <;> first | (simp [mm_kty] at hkind; done) | (rcases hx01 with rfl | rfl <;> rfl)
    · rcases hk.2.2 with h0 | ⟨h1, hx01⟩
      · rw [h0] at hkind
        cases ht : mm_ty a b <;> rw [ht] at hkind <;> first | (simp [mm_kty] at hkind; done) | rfl
      · rw [h1] at hkind
        cases ht : mm_ty a b <;> rw [ht] at hkind <;> first | (simp [mm_kty] at hkind; done) | (rcases hx01 with rfl | rfl <;> rfl)
    · have : mm_fk a b ≤ 1 := by rcases hk.2.2 with h0 | ⟨h1, -⟩ <;> omega
      simp [mm_fv, this, mm_u, mm_tv]
  · rename_i x k r
    split at h <;> first | cases h; done | skip
    rename_i hk
    cases h
    refine gen (.long x) k r hk.1 ?_ ?_ rfl rfl (fun k' hk' => ⟨rfl, rfl, by funext j; simp [mm_u, hk']⟩) (fun j hj => by simp [mm_fv, mm_u, hj]) ?_
    · rw [hk.2.2] at hkind
      cases ht : mm_ty a b <;> rw [ht] at hkind <;> first | (simp [mm_kty] at hkind; done) | rfl
    · rw [hk.2.2] at hkind
      cases ht : mm_ty a b <;> rw [ht] at hkind <;> first | (simp [mm_kty] at hkind; done) | rfl
    · simp [mm_fv, hk.2.2, mm_u, mm_tv]
  · rename_i x k r
    split at h <;> first | cases h; done | skip
    rename_i hk
    cases h
    refine gen (.ref x) k r hk.1 ?_ ?_ rfl rfl (fun k' hk' => ⟨by funext j; simp [mm_u, hk'], rfl, rfl⟩) (fun j hj => by simp [mm_fv, mm_u, hj]) ?_
    · rw [hk.2.2] at hkind
      cases ht : mm_ty a b <;> rw [ht] at hkind <;> first | (simp [mm_kty] at hkind; done) | rfl
    · rw [hk.2.2] at hkind
      cases ht : mm_ty a b <;> rw [ht] at hkind <;> first | (simp [mm_kty] at hkind; done) | rfl
    · simp [mm_fv, hk.2.2, mm_u, mm_tv, va_rf]
  · cases h
theorem mm_ad_lt {k : Nat} (h : k < 1000) : mm_ad base E k = base + k := if_pos h
theorem mm_arr_in {w : mm_W} {k : Nat} {nf : Nat × (Nat → Int32)} (h : mm_arr X w k = some nf) : (w.1[k]? = some (.inl nf.1) ∧ nf.2 = w.2.2.1 k) ∨ (¬ k < 1000 ∧ X (k - 1000) = some nf) := by
  unfold mm_arr at h
  split at h
  · split at h
    · rename_i n hn
      cases h
      exact Or.inl ⟨hn, rfl⟩
    · cases h
  · exact Or.inr ⟨by assumption, h⟩
theorem so_iald (hx : p.tables.exec = Jvm.exec) (hb : c.code = cc) (C : mm_cx D cAI cAR E X base args s) {a b : Nat} {S : List Value} {w : mm_W} {z : List Value × mm_W} (hd : decode cc pc = .ok (.iaload, 1)) (hP : va_P D vwCl (mm_wl cAI cAR (mm_ad base E) w) H) (hS : va_S (fun q => base ≤ q) s.heap H locs)
    (h : mm_heap X .iaload a b S w = some z)
    (kk : z.2 = w → W p l e R s m args below meth c H locs cells slots Q (F0 m (pc + 1) ls (z.1.map (mm_tv (mm_ad base E))))) : W p l e R s m args below meth c H locs cells slots Q (F0 m pc ls (S.map (mm_tv (mm_ad base E)))) := by
  simp only [mm_heap] at h
  split at h <;> first | cases h; done | skip
  rename_i i k r
  split at h <;> first | cases h; done | skip
  rename_i nf hnf
  split at h <;> first | cases h; done | skip
  rename_i hin
  cases h
  rcases mm_arr_in hnf with ⟨h1, h2⟩ | ⟨h1, h2⟩
  · have kk := kk rfl
    rw [h2] at kk
    exact va_iald hx hb C.2.1 hP k 0 (mm_wl_at h1) rfl hin hd kk
  · have ek : mm_ad base E k = E (k - 1000) := if_neg h1
    show W p l e R s m args below meth c H locs cells slots Q (F0 m pc ls (Value.int i :: Value.ref (mm_ad base E k) :: r.map (mm_tv (mm_ad base E))))
    rw [ek]
    exact va_ti hx hb (C.2.2.1 _ _ h2) hS hin rfl hd (kk rfl)
theorem so_alen (hx : p.tables.exec = Jvm.exec) (hb : c.code = cc) (C : mm_cx D cAI cAR E X base args s) {a b : Nat} {S : List Value} {w : mm_W} {z : List Value × mm_W} (hd : decode cc pc = .ok (.arraylength, 1)) (hP : va_P D vwCl (mm_wl cAI cAR (mm_ad base E) w) H) (hS : va_S (fun q => base ≤ q) s.heap H locs)
    (h : mm_heap X .arraylength a b S w = some z)
    (kk : z.2 = w → W p l e R s m args below meth c H locs cells slots Q (F0 m (pc + 1) ls (z.1.map (mm_tv (mm_ad base E))))) : W p l e R s m args below meth c H locs cells slots Q (F0 m pc ls (S.map (mm_tv (mm_ad base E)))) := by
  simp only [mm_heap] at h
  split at h <;> first | cases h; done | skip
  rename_i k r
  split at h <;> first | cases h; done | skip
  rename_i nf hnf
  cases h
  rcases mm_arr_in hnf with ⟨h1, h2⟩ | ⟨h1, h2⟩
  · exact va_alen hx hb C.2.1 hP k 0 (mm_wl_at h1) (ty := .int) rfl rfl hd (kk rfl)
  · have ek : mm_ad base E k = E (k - 1000) := if_neg h1
    show W p l e R s m args below meth c H locs cells slots Q (F0 m pc ls (Value.ref (mm_ad base E k) :: r.map (mm_tv (mm_ad base E))))
    rw [ek]
    exact va_tlen hx hb (C.2.2.1 _ _ h2) hS rfl hd (kk rfl)
theorem mm_arw_in {w : mm_W} {k n : Nat} (h : mm_arw w k = some n) : w.1[k]? = some (.inl n) := by
  unfold mm_arw at h
  split at h
  · rename_i n' hn
    cases h
    exact hn
  · cases h
theorem so_iast (hx : p.tables.exec = Jvm.exec) (hb : c.code = cc) (C : mm_cx D cAI cAR E X base args s) {a b : Nat} {S : List Value} {w : mm_W} {z : List Value × mm_W} (hd : decode cc pc = .ok (.iastore, 1)) (hl : w.1.length ≤ 1000) (hP : va_P D vwCl (mm_wl cAI cAR (mm_ad base E) w) H) (hS : va_S (fun q => base ≤ q) s.heap H locs)
    (h : mm_heap X .iastore a b S w = some z)
    (kk : z.2.1 = w.1 → ∀ (H1 : Heap) (locs1 : List Loc), va_P D vwCl (mm_wl cAI cAR (mm_ad base E) z.2) H1 → va_S (fun q => base ≤ q) s.heap H1 locs1 → W p l e R s m args below meth c H1 locs1 cells slots Q (F0 m (pc + 1) ls (z.1.map (mm_tv (mm_ad base E))))) : W p l e R s m args below meth c H locs cells slots Q (F0 m pc ls (S.map (mm_tv (mm_ad base E)))) := by
  simp only [mm_heap] at h
  split at h <;> first | cases h; done | skip
  rename_i x i k r
  split at h <;> first | cases h; done | skip
  rename_i n hn
  split at h <;> first | cases h; done | skip
  rename_i hin
  cases h
  have h1 := mm_arw_in hn
  refine va_iast hx hb C.2.1 hP (mm_wl_D hl) hS k 0 (mm_wl_at h1) rfl hin.1 hd (fun H1 locs1 g1 _ g3 => kk rfl H1 locs1 ?_ g3)
  have hset := mm_wl_set (cAI := cAI) (cAR := cAR) (ad := mm_ad base E) (w := w) (w' := (w.1, w.2.1, mm_u w.2.2.1 k i.toNatClampNeg x, w.2.2.2)) (k := k) (e := .inl (cAI, n, .inl (upd (w.2.2.1 k) i.toNatClampNeg x))) rfl (fun k' hk' => ⟨rfl, by funext j; simp [mm_u, hk'], rfl⟩) (fun sh hsh => ?_)
  · rw [hset] at g1
    exact g1
  · rw [h1] at hsh
    cases hsh
    show Sum.inl _ = Sum.inl _
    have e : mm_u w.2.2.1 k i.toNatClampNeg x k = upd (w.2.2.1 k) i.toNatClampNeg x := by
      funext j
      simp [mm_u, upd]
    simp only [e]
theorem so_aald (hx : p.tables.exec = Jvm.exec) (hb : c.code = cc) (C : mm_cx D cAI cAR E X base args s) {a b : Nat} {S : List Value} {w : mm_W} {z : List Value × mm_W} (hd : decode cc pc = .ok (.aaload, 1)) (hr : ∀ (k : Nat) (cn : Nat × Nat), w.1[k]? = some (.inr (.inl cn)) → ∃ t, mm_rix cn.1 = some t) (hP : va_P D vwCl (mm_wl cAI cAR (mm_ad base E) w) H)
    (h : mm_heap X .aaload a b S w = some z)
    (kk : z.2 = w → W p l e R s m args below meth c H locs cells slots Q (F0 m (pc + 1) ls (z.1.map (mm_tv (mm_ad base E))))) : W p l e R s m args below meth c H locs cells slots Q (F0 m pc ls (S.map (mm_tv (mm_ad base E)))) := by
  simp only [mm_heap] at h
  split at h <;> first | cases h; done | skip
  rename_i i k r
  split at h <;> first | cases h; done | skip
  rename_i cn hcn
  split at h <;> first | cases h; done | skip
  rename_i hin
  cases h
  obtain ⟨t, ht⟩ := hr k cn hcn
  have kk := kk rfl
  rw [List.map_cons, mm_tv_rf] at kk
  exact va_aldq hx hb C.2.1 hP k t (mm_wl_at hcn) (mm_tys_ref ht) hin.1 hd kk
theorem so_aast (hx : p.tables.exec = Jvm.exec) (hb : c.code = cc) (C : mm_cx D cAI cAR E X base args s) {a b : Nat} {S : List Value} {w : mm_W} {z : List Value × mm_W} (hd : decode cc pc = .ok (.aastore, 1)) (hl : w.1.length ≤ 1000) (hr : ∀ (k : Nat) (cn : Nat × Nat), w.1[k]? = some (.inr (.inl cn)) → ∃ t, mm_rix cn.1 = some t) (hP : va_P D vwCl (mm_wl cAI cAR (mm_ad base E) w) H) (hS : va_S (fun q => base ≤ q) s.heap H locs)
    (h : mm_heap X .aastore a b S w = some z)
    (kk : z.2.1 = w.1 → ∀ (H1 : Heap) (locs1 : List Loc), va_P D vwCl (mm_wl cAI cAR (mm_ad base E) z.2) H1 → va_S (fun q => base ≤ q) s.heap H1 locs1 → W p l e R s m args below meth c H1 locs1 cells slots Q (F0 m (pc + 1) ls (z.1.map (mm_tv (mm_ad base E))))) : W p l e R s m args below meth c H locs cells slots Q (F0 m pc ls (S.map (mm_tv (mm_ad base E)))) := by
  simp only [mm_heap] at h
  split at h <;> first | cases h; done | skip
  rename_i v i k r
  split at h <;> first | cases h; done | skip
  rename_i cn hcn
  split at h <;> first | cases h; done | skip
  rename_i hin
  cases h
  obtain ⟨t, ht⟩ := hr k cn hcn
  have hc12 : cn.1 < 12 := by rcases mm_rix_of ht with h | h | h <;> omega
  obtain ⟨hcl, -⟩ := mm_class hc12
  refine va_astq hx hb C.2.1 hP (mm_wl_D hl) hS k t v cn.1 (r := (mm_nm cn.1, mm_tT cn.1, mm_nf cn.1)) (mm_wl_at hcn) (mm_tys_ref ht) (mm_wl_at hin.2.2.2) hcl hin.1 hd (fun H1 locs1 g1 _ g3 => kk rfl H1 locs1 ?_ g3)
  have hset := mm_wl_set (cAI := cAI) (cAR := cAR) (ad := mm_ad base E) (w := w) (w' := (w.1, mm_u w.2.1 k i.toNatClampNeg (some v), w.2.2.1, w.2.2.2)) (k := k) (e := .inl (cAR cn.1, cn.2, .inr (.inr (.inr (.inr (va_up (fun j => (w.2.1 k j).map (mm_ad base E)) i.toNatClampNeg (some (mm_ad base E v)))))))) rfl (fun k' hk' => ⟨by funext j; simp [mm_u, hk'], rfl, rfl⟩) (fun sh hsh => ?_)
  · rw [hset] at g1
    exact g1
  · rw [hcn] at hsh
    cases hsh
    show Sum.inl _ = Sum.inl _
    have e : va_up (fun j => (w.2.1 k j).map (mm_ad base E)) i.toNatClampNeg (some (mm_ad base E v)) = fun j => (mm_u w.2.1 k i.toNatClampNeg (some v) k j).map (mm_ad base E) := by
      funext j
      by_cases hj : j = i.toNatClampNeg <;> simp [mm_u, va_up, hj]
    simp only [e]
/-- the address of a new cell -/
theorem mm_newad {w : mm_W} {H1 : Heap} {q : Nat} {x : va_E} (hl : w.1.length < 1000) (hP : va_P D vwCl (mm_wl cAI cAR (mm_ad base E) w ++ [(q, x)]) H1) (hD : va_D (fun q => base ≤ q) (mm_wl cAI cAR (mm_ad base E) w ++ [(q, x)])) (hz : H1.size ≤ base + w.1.length + 1) : q = mm_ad base E w.1.length := by
  rw [mm_ad_lt hl]
  have hlast : (mm_wl cAI cAR (mm_ad base E) w ++ [(q, x)])[w.1.length]? = some (q, x) := by
    rw [List.getElem?_append_right (by rw [mm_wl_len]; omega), mm_wl_len, Nat.sub_self]
    rfl
  have h1 : q < H1.size := (hP _ _ hlast).lt
  have h2 : base ≤ q := hD.2 _ _ hlast
  by_cases h3 : q < base + w.1.length
  · exfalso
    have hk : q - base < w.1.length := by omega
    obtain ⟨sh, hsh⟩ : ∃ sh, w.1[q - base]? = some sh := ⟨_, List.getElem?_eq_getElem hk⟩
    have h4 : (mm_wl cAI cAR (mm_ad base E) w ++ [(q, x)])[q - base]? = some (mm_ad base E (q - base), mm_el cAI cAR (mm_ad base E) w (q - base) sh) := by
      rw [List.getElem?_append_left (by rw [mm_wl_len]; exact hk)]
      exact mm_wl_at hsh
    have h5 := hD.1 _ _ _ _ h4 hlast (by show mm_ad base E (q - base) = q; rw [mm_ad_lt (by omega)]; omega)
    omega
  · omega
theorem so_new (hx : p.tables.exec = Jvm.exec) (hb : c.code = cc) (hown : s.vm.findClass (mm_nm o) = some m.cls) (C : mm_cx D cAI cAR E X base args s) {i a b : Nat} {S : List Value} {w : mm_W} {z : List Value × mm_W} (hlk : mm_lk o ini (.new i) a b) (hd : decode cc pc = .ok (.new i, 3)) (hl : w.1.length ≤ 1000) (hP : va_P D vwCl (mm_wl cAI cAR (mm_ad base E) w) H) (hS : va_S (fun q => base ≤ q) s.heap H locs) (hsz : s.heap.size + cells = base + w.1.length) (hR : cells + (z.2.1.length - w.1.length) ≤ R.cells ∧ slots + (mm_sz z.2.1 - mm_sz w.1) ≤ R.slots)
    (h : mm_heap X (.new i) a b S w = some z)
    (kk : ∀ (H1 : Heap) (locs1 : List Loc), va_P D vwCl (mm_wl cAI cAR (mm_ad base E) z.2) H1 → va_S (fun q => base ≤ q) s.heap H1 locs1 → W p l e R s m args below meth c H1 locs1 (cells + (z.2.1.length - w.1.length)) (slots + (mm_sz z.2.1 - mm_sz w.1)) Q (F0 m (pc + 3) ls (z.1.map (mm_tv (mm_ad base E))))) : W p l e R s m args below meth c H locs cells slots Q (F0 m pc ls (S.map (mm_tv (mm_ad base E)))) := by
  obtain ⟨ha, hw⟩ := hlk
  obtain ⟨hcl, -, hty, -⟩ := mm_class ha
  have hin := mm_class2 ha
  simp only [mm_heap] at h
  split at h <;> first | cases h; done | skip
  rename_i hlen
  cases h
  have e1 : (w.1 ++ [Sum.inr (Sum.inr a)] : mm_G).length - w.1.length = 1 := by simp
  have e2 : mm_sz (w.1 ++ [Sum.inr (Sum.inr a)]) - mm_sz w.1 = mm_nf a := by rw [mm_sz_app]; simp [mm_sl]
  simp only [e1, e2] at hR kk
  have hfs : ∀ j, j < mm_nf a → defaultValue (mm_ty a j) = vp_V ((List.range (mm_nf a)).map (mm_fv (mm_ad base E) (w.1 ++ [Sum.inr (Sum.inr a)], mm_z w.2.1 w.1.length (fun _ => none), mm_z w.2.2.1 w.1.length (fun _ => 0), mm_z w.2.2.2 w.1.length (fun _ => 0)) a w.1.length)) j := by
    intro j hj
    have hk := mm_kind ha hj
    have hv : ((List.range (mm_nf a)).map (mm_fv (mm_ad base E) (w.1 ++ [Sum.inr (Sum.inr a)], mm_z w.2.1 w.1.length (fun _ => none), mm_z w.2.2.1 w.1.length (fun _ => 0), mm_z w.2.2.2 w.1.length (fun _ => 0)) a w.1.length))[j]? = some (mm_fv (mm_ad base E) (w.1 ++ [Sum.inr (Sum.inr a)], mm_z w.2.1 w.1.length (fun _ => none), mm_z w.2.2.1 w.1.length (fun _ => 0), mm_z w.2.2.2 w.1.length (fun _ => 0)) a w.1.length j) := by rw [List.getElem?_map, List.getElem?_range hj]; rfl
    show _ = Option.getD _ _
    rw [hv, Option.getD_some]
    simp only [mm_fv, mm_z, if_true]
    cases hf : mm_fk a j with
    | zero => rw [hf] at hk; cases ht : mm_ty a j <;> rw [ht] at hk <;> first | (simp [mm_kty] at hk; done) | rfl
    | succ f1 => cases f1 with
      | zero => rw [hf] at hk; cases ht : mm_ty a j <;> rw [ht] at hk <;> first | (simp [mm_kty] at hk; done) | rfl
      | succ f2 => cases f2 with
        | zero => rw [hf] at hk; cases ht : mm_ty a j <;> rw [ht] at hk <;> first | (simp [mm_kty] at hk; done) | rfl
        | succ f3 => cases f3 with
          | zero => rw [hf] at hk; cases ht : mm_ty a j <;> rw [ht] at hk <;> first | (simp [mm_kty] at hk; done) | rfl
          | succ f4 => rw [hf] at hk; cases ht : mm_ty a j <;> rw [ht] at hk <;> simp [mm_kty] at hk
  refine va_new hx hb C.1 hin (mm_ty a) hty hown (C.1 _ (mm_in2 hw rfl)) (C.1 _ (mm_in2 (mm_inst_ok a ha) rfl)) (C.1 _ (mm_in2 (mm_init_ok a ha) rfl)) C.2.1 hP (mm_wl_D hl) hS (fun q hq => Nat.le_trans C.2.2.2.2.2 hq) hcl hfs hR.1 hR.2 hd (fun q H1 g1 g2 g3 => ?_)
  refine mm_W_sz (fun hz => ?_)
  have hq := mm_newad hlen g1 g2 (by omega)
  subst hq
  refine kk H1 locs ?_ g3
  have happ := mm_wl_app (cAI := cAI) (cAR := cAR) (ad := mm_ad base E) (w := w) (w' := (w.1 ++ [Sum.inr (Sum.inr a)], mm_z w.2.1 w.1.length (fun _ => none), mm_z w.2.2.1 w.1.length (fun _ => 0), mm_z w.2.2.2 w.1.length (fun _ => 0))) (sh := Sum.inr (Sum.inr a)) rfl (fun k' hk' => ⟨by funext j; simp [mm_z, hk'], by funext j; simp [mm_z, hk'], by funext j; simp [mm_z, hk']⟩) rfl
  exact happ ▸ g1
theorem so_newa (hx : p.tables.exec = Jvm.exec) (hb : c.code = cc) (C : mm_cx D cAI cAR E X base args s) {a b : Nat} {S : List Value} {w : mm_W} {z : List Value × mm_W} (hd : decode cc pc = .ok (.newarray .int, 2)) (hl : w.1.length ≤ 1000) (hP : va_P D vwCl (mm_wl cAI cAR (mm_ad base E) w) H) (hS : va_S (fun q => base ≤ q) s.heap H locs) (hsz : s.heap.size + cells = base + w.1.length) (hR : cells + (z.2.1.length - w.1.length) ≤ R.cells ∧ slots + (mm_sz z.2.1 - mm_sz w.1) ≤ R.slots)
    (h : mm_heap X (.newarray .int) a b S w = some z)
    (kk : ∀ (H1 : Heap) (locs1 : List Loc), va_P D vwCl (mm_wl cAI cAR (mm_ad base E) z.2) H1 → va_S (fun q => base ≤ q) s.heap H1 locs1 → W p l e R s m args below meth c H1 locs1 (cells + (z.2.1.length - w.1.length)) (slots + (mm_sz z.2.1 - mm_sz w.1)) Q (F0 m (pc + 2) ls (z.1.map (mm_tv (mm_ad base E))))) : W p l e R s m args below meth c H locs cells slots Q (F0 m pc ls (S.map (mm_tv (mm_ad base E)))) := by
  simp only [mm_heap] at h
  split at h <;> first | cases h; done | skip
  rename_i n r
  split at h <;> first | cases h; done | skip
  rename_i hn
  cases h
  have e1 : (w.1 ++ [Sum.inl n.toNatClampNeg] : mm_G).length - w.1.length = 1 := by simp
  have e2 : mm_sz (w.1 ++ [Sum.inl n.toNatClampNeg]) - mm_sz w.1 = n.toNatClampNeg := by rw [mm_sz_app]; simp [mm_sl]
  simp only [e1, e2] at hR kk
  refine va_newa hx hb (atype := .int) (C.1 _ (mm_in2 mm_t_int rfl)) (ty := .int) rfl C.2.1 hP (mm_wl_D hl) hS (fun q hq => Nat.le_trans C.2.2.2.2.2 hq) (a0 := (n.toNatClampNeg, .inl (fun _ => 0))) (fun _ => rfl) hn.1 rfl (by show n.toNatClampNeg * 4 ≤ _; omega) hR.1 hR.2 hd (fun q cA H1 g0 g1 g2 g3 => ?_)
  refine mm_W_sz (fun hz => ?_)
  have hq := mm_newad hn.2.2 g1 g2 (by omega)
  subst hq
  have hcA : cA = cAI := by
    have h1 := (g0.2 4 (cA, .int) rfl).2
    have h2 := (g0.2 0 (cAI, .int) rfl).2
    exact Option.some.inj (Eq.trans (Eq.symm h1) h2)
  subst hcA
  refine kk H1 locs ?_ g3
  have happ := mm_wl_app (cAI := cA) (cAR := cAR) (ad := mm_ad base E) (w := w) (w' := (w.1 ++ [Sum.inl n.toNatClampNeg], w.2.1, mm_z w.2.2.1 w.1.length (fun _ => 0), w.2.2.2)) (sh := Sum.inl n.toNatClampNeg) (e := .inl (cA, (n.toNatClampNeg, .inl (fun _ => 0)))) rfl (fun k' hk' => ⟨rfl, by funext j; simp [mm_z, hk'], rfl⟩) (by
    show Sum.inl _ = Sum.inl _
    have e : mm_z w.2.2.1 w.1.length (fun _ => 0) w.1.length = fun _ => (0 : Int32) := by funext j; simp [mm_z]
    simp only [e])
  exact happ ▸ g1
theorem so_anew (hx : p.tables.exec = Jvm.exec) (hb : c.code = cc) (hown : s.vm.findClass (mm_nm o) = some m.cls) (C : mm_cx D cAI cAR E X base args s) {i a b : Nat} {S : List Value} {w : mm_W} {z : List Value × mm_W} (hlk : mm_lk o ini (.anewarray i) a b) (hd : decode cc pc = .ok (.anewarray i, 3)) (hl : w.1.length ≤ 1000) (hP : va_P D vwCl (mm_wl cAI cAR (mm_ad base E) w) H) (hS : va_S (fun q => base ≤ q) s.heap H locs) (hsz : s.heap.size + cells = base + w.1.length) (hR : cells + (z.2.1.length - w.1.length) ≤ R.cells ∧ slots + (mm_sz z.2.1 - mm_sz w.1) ≤ R.slots)
    (h : mm_heap X (.anewarray i) a b S w = some z)
    (kk : ∀ (H1 : Heap) (locs1 : List Loc), va_P D vwCl (mm_wl cAI cAR (mm_ad base E) z.2) H1 → va_S (fun q => base ≤ q) s.heap H1 locs1 → W p l e R s m args below meth c H1 locs1 (cells + (z.2.1.length - w.1.length)) (slots + (mm_sz z.2.1 - mm_sz w.1)) Q (F0 m (pc + 3) ls (z.1.map (mm_tv (mm_ad base E))))) : W p l e R s m args below meth c H locs cells slots Q (F0 m pc ls (S.map (mm_tv (mm_ad base E)))) := by
  obtain ⟨⟨t, ht⟩, hw⟩ := hlk
  simp only [mm_heap] at h
  split at h <;> first | cases h; done | skip
  rename_i n r
  split at h <;> first | cases h; done | skip
  rename_i hn
  cases h
  have e1 : (w.1 ++ [Sum.inr (Sum.inl (a, n.toNatClampNeg))] : mm_G).length - w.1.length = 1 := by simp
  have e2 : mm_sz (w.1 ++ [Sum.inr (Sum.inl (a, n.toNatClampNeg))]) - mm_sz w.1 = n.toNatClampNeg := by rw [mm_sz_app]; simp [mm_sl]
  simp only [e1, e2] at hR kk
  refine va_newq hx hb hown (C.1 _ (mm_in2 hw rfl)) (va_AO.of (C.1 _ (mm_in2 (mm_t_over a (mm_rix_of ht)) rfl))) C.2.1 hP (mm_wl_D hl) hS (fun q hq => Nat.le_trans C.2.2.2.2.2 hq) hn.1 rfl (by omega) hR.1 hR.2 hd (fun q cA H1 g0 g1 g2 g3 => ?_)
  refine mm_W_sz (fun hz => ?_)
  have hq := mm_newad hn.2.2 g1 g2 (by omega)
  subst hq
  have hcA : cA = cAR a := by
    obtain ⟨_, _, _, _, _, h1⟩ := (g0.2 4 (cA, .object (mm_nm a)) rfl).2
    obtain ⟨_, _, _, _, _, h2⟩ := (C.2.1.2 t _ (mm_tys_ref ht)).2
    exact Option.some.inj (Eq.trans (Eq.symm h1) h2)
  subst hcA
  refine kk H1 locs ?_ g3
  have happ := mm_wl_app (cAI := cAI) (cAR := cAR) (ad := mm_ad base E) (w := w) (w' := (w.1 ++ [Sum.inr (Sum.inl (a, n.toNatClampNeg))], mm_z w.2.1 w.1.length (fun _ => none), w.2.2.1, w.2.2.2)) (sh := Sum.inr (Sum.inl (a, n.toNatClampNeg))) (e := .inl (cAR a, n.toNatClampNeg, .inr (.inr (.inr (.inr (fun _ => none)))))) rfl (fun k' hk' => ⟨by funext j; simp [mm_z, hk'], rfl, rfl⟩) (by
    show Sum.inl _ = Sum.inl _
    have e : (fun j => (mm_z w.2.1 w.1.length (fun _ => none) w.1.length j).map (mm_ad base E)) = fun _ => (none : Option Nat) := by funext j; simp [mm_z]
    simp only [e])
  exact happ ▸ g1
theorem so_gets (hx : p.tables.exec = Jvm.exec) (hb : c.code = cc) (hown : s.vm.findClass (mm_nm o) = some m.cls) (C : mm_cx D cAI cAR E X base args s) {i a b : Nat} {S : List Value} {w : mm_W} {z : List Value × mm_W} (hlk : mm_lk o ini (.getstatic i) a b) (hd : decode cc pc = .ok (.getstatic i, 3)) (hS : va_S (fun q => base ≤ q) s.heap H locs)
    (h : mm_heap X (.getstatic i) a b S w = some z)
    (kk : z.2 = w → W p l e R s m args below meth c H locs cells slots Q (F0 m (pc + 3) ls (z.1.map (mm_tv (mm_ad base E))))) : W p l e R s m args below meth c H locs cells slots Q (F0 m pc ls (S.map (mm_tv (mm_ad base E)))) := by
  cases h
  rcases hlk with ⟨rfl, hw⟩ | ⟨rfl, hw⟩
  · exact va_gets hx hb C.2.2.2.1 hS hown (C.1 _ (mm_in2 hw rfl)) (fun _ h => h) hd (kk rfl)
  · exact va_gets hx hb C.2.2.2.2.1 hS hown (C.1 _ (mm_in2 hw rfl)) (fun _ h => h) hd (kk rfl)
theorem mm_nfw : nativeFrameWords "java/lang/System" "arraycopy" 5 + 11 ≤ 50 := by decide +kernel
theorem so_stat (hx : p.tables.exec = Jvm.exec) (hb : c.code = cc) (hml : c.maxLocals = ls.size) (hown : s.vm.findClass (mm_nm o) = some m.cls) (C : mm_cx D cAI cAR E X base args s) {i a b : Nat} {S : List Value} {w : mm_W} {z : List Value × mm_W} (hlk : mm_lk o ini (.invokestatic i) a b) (hd : decode cc pc = .ok (.invokestatic i, 3)) (hl : w.1.length ≤ 1000) (hP : va_P D vwCl (mm_wl cAI cAR (mm_ad base E) w) H) (hS : va_S (fun q => base ≤ q) s.heap H locs) (hR : cells ≤ R.cells ∧ slots ≤ R.slots) (hfr : 1 ≤ R.frames) (hlo : 64 ≤ R.locals)
    (h : mm_heap X (.invokestatic i) a b S w = some z)
    (kk : z.2.1 = w.1 → ∀ (H1 : Heap) (locs1 : List Loc), va_P D vwCl (mm_wl cAI cAR (mm_ad base E) z.2) H1 → va_S (fun q => base ≤ q) s.heap H1 locs1 → W p l e R s m args below meth c H1 locs1 cells slots Q (F0 m (pc + 3) ls (z.1.map (mm_tv (mm_ad base E))))) : W p l e R s m args below meth c H locs cells slots Q (F0 m pc ls (S.map (mm_tv (mm_ad base E)))) := by
  simp only [mm_heap] at h
  split at h
  · rename_i ha
    split at h <;> first | cases h; done | skip
    rename_i y x r
    split at h <;> first | cases h; done | skip
    rename_i hr
    cases h
    exact va_mmax hx hb hml hown (C.1 _ (mm_in2 (hlk.1 ha) rfl)) (C.1 _ (mm_in2 mm_t_max.1 rfl)) (C.1 _ (mm_in2 mm_t_max.2.1 rfl)) (C.1 _ (mm_in2 mm_t_max.2.2 rfl)) hfr (by rw [mm_tv_sum]; omega) hR.1 hR.2 hd (kk rfl H locs hP hS)
  · split at h
    · rename_i ha
      split at h <;> first | cases h; done | skip
      rename_i y x r
      split at h <;> first | cases h; done | skip
      rename_i hr
      cases h
      exact va_mmin hx hb hml hown (C.1 _ (mm_in2 (hlk.2.1 ha) rfl)) (C.1 _ (mm_in2 mm_t_min.1 rfl)) (C.1 _ (mm_in2 mm_t_min.2.1 rfl)) (C.1 _ (mm_in2 mm_t_min.2.2 rfl)) hfr (by rw [mm_tv_sum]; omega) hR.1 hR.2 hd (kk rfl H locs hP hS)
    · split at h
      · rename_i ha
        split at h <;> first | cases h; done | skip
        rename_i n dp kd sp ks r
        split at h <;> first | cases h; done | skip
        rename_i n0 n1 g0 g1
        split at h <;> first | cases h; done | skip
        rename_i hc
        cases h
        obtain ⟨⟨c1, c2, c3, c4, c5⟩, -, -, hr⟩ := hc
        have k0 := mm_arw_in g0
        have k1 := mm_arw_in g1
        have hnw := mm_nfw
        refine va_copyi hx hb hml hown (C.1 _ (mm_in2 (hlk.2.2 ha) rfl)) (C.1 _ (mm_in2 mm_t_cpy.2.2 rfl)) (C.1 _ (mm_in2 mm_t_cpy.1 rfl)) (C.1 _ (mm_in2 mm_t_cpy.2.1 rfl)) C.2.1 hP (mm_wl_D hl) hS ks kd 0 0 (mm_wl_at k0) (mm_wl_at k1) (ty := .int) rfl rfl rfl c1 c2 c3 c4 c5 (fun _ _ => rfl) hfr (by rw [mm_tv_sum]; omega) hd (fun H1 locs1 f1 _ f3 => kk rfl H1 locs1 ?_ f3)
        have hset := mm_wl_set (cAI := cAI) (cAR := cAR) (ad := mm_ad base E) (w := w) (w' := (w.1, w.2.1, mm_z w.2.2.1 kd (va_cpy (w.2.2.1 ks) (w.2.2.1 kd) sp.toNatClampNeg dp.toNatClampNeg n.toNatClampNeg), w.2.2.2)) (k := kd) (e := .inl (cAI, n1, .inl (va_cpy (w.2.2.1 ks) (w.2.2.1 kd) sp.toNatClampNeg dp.toNatClampNeg n.toNatClampNeg))) rfl (fun k' hk' => ⟨rfl, by funext j; simp [mm_z, hk'], rfl⟩) (fun sh hsh => ?_)
        · rw [hset] at f1
          exact f1
        · rw [k1] at hsh
          cases hsh
          show Sum.inl _ = Sum.inl _
          have e : mm_z w.2.2.1 kd (va_cpy (w.2.2.1 ks) (w.2.2.1 kd) sp.toNatClampNeg dp.toNatClampNeg n.toNatClampNeg) kd = va_cpy (w.2.2.1 ks) (w.2.2.1 kd) sp.toNatClampNeg dp.toNatClampNeg n.toNatClampNeg := by funext j; simp [mm_z]
          simp only [e]
      · cases h
theorem so_spec (hx : p.tables.exec = Jvm.exec) (hb : c.code = cc) (hml : c.maxLocals = ls.size) (hown : s.vm.findClass (mm_nm o) = some m.cls) (C : mm_cx D cAI cAR E X base args s) {i a b : Nat} {S : List Value} {w : mm_W} {z : List Value × mm_W} (hlk : mm_lk o ini (.invokespecial i) a b) (hd : decode cc pc = .ok (.invokespecial i, 3)) (hfr : 1 ≤ R.frames) (hlo : 64 ≤ R.locals)
    (h : mm_heap X (.invokespecial i) a b S w = some z)
    (kk : z.2 = w → W p l e R s m args below meth c H locs cells slots Q (F0 m (pc + 3) ls (z.1.map (mm_tv (mm_ad base E))))) : W p l e R s m args below meth c H locs cells slots Q (F0 m pc ls (S.map (mm_tv (mm_ad base E)))) := by
  simp only [mm_heap] at h
  split at h <;> first | cases h; done | skip
  rename_i ha
  split at h <;> first | cases h; done | skip
  rename_i k r
  split at h <;> first | cases h; done | skip
  rename_i hr
  cases h
  have hroom := lv_room (m := m) (pc := pc) (ls := ls) (rest := r.map (mm_tv (mm_ad base E))) (st := r.map (mm_tv (mm_ad base E))) (by rw [mm_tv_sum]; exact hr)
  exact W.objInit hx hb hown (C.1 _ (mm_in2 (hlk ha) rfl)) (C.1 _ (mm_in2 mm_t_obj.1 rfl)) (C.1 _ (mm_in2 mm_t_obj.2 rfl)) rfl hml.symm rfl hd hfr (by
    show 2 * (F0 m pc ls (Value.ref (mm_ad base E k) :: r.map (mm_tv (mm_ad base E)))).monitorRoom + _ + 12 ≤ _
    have : (F0 m pc ls (Value.ref (mm_ad base E k) :: r.map (mm_tv (mm_ad base E)))).monitorRoom = (F0 m pc ls (r.map (mm_tv (mm_ad base E)))).monitorRoom := rfl
    rw [this]; omega) (kk rfl)
end SH
