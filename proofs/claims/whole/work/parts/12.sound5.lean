/-! the small machine is sound -/
theorem mm_en_args (ad : Nat → Nat) : ∀ (vs : List Value) (i j : Nat) (v : Value), (mm_la vs)[j]? = some (some v) → (i + j, mm_tv ad v) ∈ lv_args i (vs.map (mm_tv ad))
  | [], i, j, v, h => by simp [mm_la] at h
  | u :: vs, i, j, v, h => by
    have e : mm_la (u :: vs) = (if u.category = 2 then [some u, none] else [some u]) ++ mm_la vs := by simp [mm_la]
    rw [e] at h
    rw [List.map_cons, lv_args, mm_tv_cat]
    by_cases hc : u.category = 2
    · rw [if_pos hc] at h ⊢
      match j, h with
      | 0, h => cases h; exact List.mem_cons_self
      | 1, h => cases h
      | j + 2, h =>
        have h2 := mm_en_args ad vs (i + 2) j v (by simpa using h)
        rw [show i + (j + 2) = i + 2 + j by omega]
        exact List.mem_cons_of_mem _ h2
    · rw [if_neg hc] at h ⊢
      match j, h with
      | 0, h => cases h; exact List.mem_cons_self
      | j + 1, h =>
        have h2 := mm_en_args ad vs (i + 1) j v (by simpa using h)
        rw [show i + (j + 1) = i + 1 + j by omega]
        exact List.mem_cons_of_mem _ h2
theorem mm_la_len (ad : Nat → Nat) : ∀ vs : List Value, (lg_sl (vs.map (mm_tv ad))).length = (mm_la vs).length
  | [] => rfl
  | u :: vs => by
    have h := mm_la_len ad vs
    simp only [lg_sl, mm_la, List.map_cons, List.flatMap_cons, List.length_append, mm_tv_cat] at h ⊢
    rw [h]
    by_cases hc : u.category = 2 <;> simp [hc]
theorem mm_en_len {vs : List Value} {n : Nat} (h : (mm_la vs).length ≤ n) : (mm_en vs n).length = n := by
  simp only [mm_en, List.length_append, List.length_replicate]
  omega
theorem mm_lh_entry {ad : Nat → Nat} {ls : Array Slot} {vs : List Value} {n : Nat} (h : (mm_la vs).length ≤ n) (hl : lv_has ls n (lv_args 0 (vs.map (mm_tv ad)))) : mm_lh ad ls (mm_en vs n) := by
  refine ⟨by rw [mm_en_len h]; exact hl.1, hl.2.1, fun j v hj => ?_⟩
  by_cases hlt : j < (mm_la vs).length
  · rw [mm_en, List.getElem?_append_left hlt] at hj
    have h1 := mm_en_args ad vs 0 j v hj
    rw [Nat.zero_add] at h1
    exact hl.2.2 _ h1
  · rw [mm_en, List.getElem?_append_right (by omega), List.getElem?_replicate] at hj
    split at hj <;> cases hj
/-! what a step is -/
theorem mm_step_inv {X : mm_X} {rk : Nat → Nat} {sw : Nat → List (Int × Nat)} {rt : Nat} {q : Instr} {a b nx : Nat} {c : mm_C} {z : mm_R} (h : mm_step X rk sw rt q a b nx c = some z) :
    (mm_kd q a = 0 ∧ ∃ S', mm_pure q a c.2.2.1 = some S' ∧ z = .inl (nx, c.2.1, S', c.2.2.2)) ∨ (mm_kd q a = 1 ∧ ∃ y, mm_loc q c.2.1 c.2.2.1 = some y ∧ z = .inl (nx, y.1, y.2, c.2.2.2)) ∨ (mm_kd q a = 2 ∧ ∃ y, mm_br q a nx c.2.2.1 = some y ∧ z = .inl (y.1, c.2.1, y.2, c.2.2.2)) ∨
    (mm_kd q a = 3 ∧ ∃ y, mm_heap X q a b c.2.2.1 c.2.2.2 = some y ∧ z = .inl (nx, c.2.1, y.1, y.2)) ∨ (mm_kd q a = 4 ∧ ∃ y, mm_inv rk q a b c.2.2.1 c.2.2.2 = some y ∧ z = .inr (.inr (a, y.1, (nx, c.2.1, y.2, c.2.2.2)))) ∨ (mm_kd q a = 5 ∧ ∃ v, mm_ret rt q c.2.2.1 = some v ∧ z = .inr (.inl (v, c.2.2.2))) ∨
    (mm_kd q a = 6 ∧ ∃ y, mm_swi sw q a b c.2.2.1 = some y ∧ z = .inl (y.1, c.2.1, y.2, c.2.2.2)) := by
  unfold mm_step at h
  split at h
  · rename_i hk; obtain ⟨y, h1, h2⟩ := Option.map_eq_some_iff.mp h; exact Or.inl ⟨hk, y, h1, h2.symm⟩
  · rename_i hk; obtain ⟨y, h1, h2⟩ := Option.map_eq_some_iff.mp h; exact Or.inr (Or.inl ⟨hk, y, h1, h2.symm⟩)
  · rename_i hk; obtain ⟨y, h1, h2⟩ := Option.map_eq_some_iff.mp h; exact Or.inr (Or.inr (Or.inl ⟨hk, y, h1, h2.symm⟩))
  · rename_i hk; obtain ⟨y, h1, h2⟩ := Option.map_eq_some_iff.mp h; exact Or.inr (Or.inr (Or.inr (Or.inl ⟨hk, y, h1, h2.symm⟩)))
  · rename_i hk; obtain ⟨y, h1, h2⟩ := Option.map_eq_some_iff.mp h; exact Or.inr (Or.inr (Or.inr (Or.inr (Or.inl ⟨hk, y, h1, h2.symm⟩))))
  · rename_i hk; obtain ⟨y, h1, h2⟩ := Option.map_eq_some_iff.mp h; exact Or.inr (Or.inr (Or.inr (Or.inr (Or.inr (Or.inl ⟨hk, y, h1, h2.symm⟩)))))
  · rename_i hk; obtain ⟨y, h1, h2⟩ := Option.map_eq_some_iff.mp h; exact Or.inr (Or.inr (Or.inr (Or.inr (Or.inr (Or.inr ⟨hk, y, h1, h2.symm⟩)))))
  · cases h
set_option maxHeartbeats 4000000 in
theorem mm_heap_mono {X : mm_X} {q : Instr} {a b : Nat} {S : List Value} {w : mm_W} {z : List Value × mm_W} (h : mm_heap X q a b S w = some z) : ∃ t, z.2.1 = w.1 ++ t := by
  have nil : ∀ {y : mm_W}, y.1 = w.1 → ∃ t, y.1 = w.1 ++ t := fun h => ⟨[], by rw [h, List.append_nil]⟩
  cases q with
  | getfield i => simp only [mm_heap] at h; (repeat' split at h) <;> first | (cases h; done) | (cases h; exact nil rfl)
  | putfield i => simp only [mm_heap] at h; (repeat' split at h) <;> first | (cases h; done) | (cases h; exact nil rfl)
  | iaload => simp only [mm_heap] at h; (repeat' split at h) <;> first | (cases h; done) | (cases h; exact nil rfl)
  | iastore => simp only [mm_heap] at h; (repeat' split at h) <;> first | (cases h; done) | (cases h; exact nil rfl)
  | arraylength => simp only [mm_heap] at h; (repeat' split at h) <;> first | (cases h; done) | (cases h; exact nil rfl)
  | aaload => simp only [mm_heap] at h; (repeat' split at h) <;> first | (cases h; done) | (cases h; exact nil rfl)
  | aastore => simp only [mm_heap] at h; (repeat' split at h) <;> first | (cases h; done) | (cases h; exact nil rfl)
  | newarray t => cases t <;> first | (simp [mm_heap] at h; done) | (simp only [mm_heap] at h; (repeat' split at h) <;> first | (cases h; done) | (cases h; exact ⟨_, rfl⟩))
  | anewarray i => simp only [mm_heap] at h; (repeat' split at h) <;> first | (cases h; done) | (cases h; exact ⟨_, rfl⟩)
  | new i => simp only [mm_heap] at h; (repeat' split at h) <;> first | (cases h; done) | (cases h; exact ⟨_, rfl⟩)
  | getstatic i => cases h; exact nil rfl
  | invokestatic i => simp only [mm_heap] at h; (repeat' split at h) <;> first | (cases h; done) | (cases h; exact nil rfl)
  | invokespecial i => simp only [mm_heap] at h; (repeat' split at h) <;> first | (cases h; done) | (cases h; exact nil rfl)
  | _ => simp [mm_heap] at h
section RUN
variable {X : mm_X} {rk : Nat → Nat} {sw : Nat → List (Int × Nat)} {tab : Nat → Option mm_M}
theorem mm_run_fetch {n d : Nat} {M : mm_M} {c : mm_C} {z : Option Value × mm_W} (h : mm_run X rk sw tab n d M c = some z) : ∃ i, M.2.2[c.1]? = some i := by
  cases n with
  | zero => simp [mm_run] at h
  | succ n =>
    unfold mm_run at h
    split at h
    · cases h
    · rename_i i hi; exact ⟨i, hi⟩
/-- a run that succeeds, by its first step -/
theorem mm_run_inv {n d : Nat} {M : mm_M} {c : mm_C} {z : Option Value × mm_W} {i : mm_I} (hi : M.2.2[c.1]? = some i) (h : mm_run X rk sw tab (n + 1) d M c = some z) : ∃ y, mm_step X rk sw M.1 i.1 i.2.1 i.2.2.1 i.2.2.2.1 c = some y ∧
    ((∃ c', y = .inl c' ∧ mm_run X rk sw tab n d M c' = some z) ∨ y = .inr (.inl z) ∨ (∃ (u : Nat × List Value × mm_C) (d' : Nat) (M' : mm_M) (x : Option Value × mm_W), y = .inr (.inr u) ∧ d = d' + 1 ∧ tab u.1 = some M' ∧ (mm_la u.2.1).length ≤ M'.2.1 ∧ mm_run X rk sw tab n d' M' (0, mm_en u.2.1 M'.2.1, [], u.2.2.2.2.2) = some x ∧ mm_run X rk sw tab n (d' + 1) M (u.2.2.1, u.2.2.2.1, x.1.toList ++ u.2.2.2.2.1, x.2) = some z)) := by
  unfold mm_run at h
  rw [hi] at h
  dsimp only at h
  split at h
  · cases h
  · rename_i c' hc; exact ⟨_, hc, Or.inl ⟨c', rfl, h⟩⟩
  · rename_i y hy; cases h; exact ⟨_, hy, Or.inr (Or.inl rfl)⟩
  · rename_i u hu
    refine ⟨_, hu, Or.inr (Or.inr ?_)⟩
    cases d with
    | zero => simp at h
    | succ d' =>
      dsimp only at h
      split at h
      · cases h
      · rename_i M' hM
        split at h
        · rename_i hl
          split at h
          · cases h
          · rename_i x hx
            exact ⟨u, d', M', x, rfl, rfl, hM, hl, hx, h⟩
        · cases h
theorem mm_run_mono : ∀ (n d : Nat) (M : mm_M) (c : mm_C) (z : Option Value × mm_W), mm_run X rk sw tab n d M c = some z → ∃ t, z.2.1 = c.2.2.2.1 ++ t
  | 0, d, M, c, z, h => by simp [mm_run] at h
  | n + 1, d, M, c, z, h => by
    obtain ⟨i, hi⟩ := mm_run_fetch h
    obtain ⟨y, hy, hz⟩ := mm_run_inv hi h
    rcases mm_step_inv hy with ⟨-, S', -, e⟩ | ⟨-, S', -, e⟩ | ⟨-, S', -, e⟩ | ⟨-, S', h1, e⟩ | ⟨-, S', -, e⟩ | ⟨-, S', -, e⟩ | ⟨-, S', -, e⟩ <;> subst e <;> rcases hz with ⟨c', e, hr⟩ | e | ⟨u, d', M', x, e, -, -, -, hr1, hr2⟩ <;> first | (cases e; done) | skip
    · cases e; have h9 := mm_run_mono n d M _ z hr; exact h9
    · cases e; have h9 := mm_run_mono n d M _ z hr; exact h9
    · cases e; have h9 := mm_run_mono n d M _ z hr; exact h9
    · cases e
      obtain ⟨t1, e1⟩ := mm_heap_mono h1
      obtain ⟨t2, e2⟩ := mm_run_mono n d M _ z hr
      exact ⟨t1 ++ t2, by rw [e2]; show S'.2.1 ++ t2 = _; rw [e1, List.append_assoc]⟩
    · cases e
      obtain ⟨t1, e1⟩ := mm_run_mono n d' M' _ x hr1
      obtain ⟨t2, e2⟩ := mm_run_mono n (d' + 1) M _ z hr2
      exact ⟨t1 ++ t2, by rw [e2]; show x.2.1 ++ t2 = _; rw [e1, List.append_assoc]⟩
    · cases e; exact ⟨[], by simp⟩
    · cases e; have h9 := mm_run_mono n d M _ z hr; exact h9
end RUN
theorem mm_sz_app2 (G t : mm_G) : mm_sz (G ++ t) = mm_sz G + mm_sz t := by simp [mm_sz]
theorem mm_app_le {G G' t : mm_G} (h : G' = G ++ t) : G.length ≤ G'.length ∧ mm_sz G ≤ mm_sz G' := by
  subst h
  refine ⟨by simp, by rw [mm_sz_app2]; omega⟩
def mm_wfw (w : mm_W) : Prop := w.1.length ≤ 1000 ∧ ∀ (k : Nat) (cn : Nat × Nat), w.1[k]? = some (.inr (.inl cn)) → ∃ t, mm_rix cn.1 = some t
theorem mm_o12 : ∀ t ∈ mm_za, t.1.1 < 12 := by decide +kernel
theorem mm_za_of {k : Nat} {t : mm_N × mm_M} (h : mm_zl[k]? = some t) (hk : k < 198) : t ∈ mm_za := by
  have hl : mm_za.length = 198 := by decide +kernel
  rw [mm_zl, List.getElem?_append_left (by omega)] at h
  exact List.mem_of_getElem? h
