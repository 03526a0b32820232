/-! the small machine's world, as the kit's list of cells -/
def mm_nms : List String := [RX0, RX1, RX2, RX3, RX4, RX5, RX6, RX7, RX8, RX9, RX10, RX11, RL]
def mm_nm (o : Nat) : String := mm_nms[o]?.getD ""
def mm_tT (a : Nat) : u_T := ((vwCl[a]?).getD (RX0, TX0, 0)).2.1
def mm_ty (a : Nat) : Nat → FieldType := match a with
  | 0 => tyX0 | 1 => tyX1 | 2 => tyX2 | 3 => tyX3 | 4 => tyX4 | 5 => tyX5 | 6 => tyX6 | 7 => tyX7 | 8 => tyX8 | 9 => tyX9 | 10 => tyX10 | _ => tyX11
def mm_kty (k : Nat) (t : FieldType) : Bool := match k, t with
  | 0, .int => true
  | 1, .boolean => true
  | 2, .long => true
  | 3, .object _ => true
  | 3, .array _ => true
  | _, _ => false
theorem mm_kty_ok : (List.range 12).all (fun a => (List.range (mm_nf a)).all (fun j => mm_kty (mm_fk a j) (mm_ty a j))) = true := by decide +kernel
theorem mm_inst_ok : ∀ a, a < 12 → Cond.instantiable (mm_nm a) (mm_nf a) ∈ lw_tbl := by decide +kernel
theorem mm_init_ok : ∀ a, a < 12 → Cond.initialized (mm_nm a) ∈ lw_tbl := by decide +kernel
/-- what is known of a class by its number -/
theorem mm_class {a : Nat} (ha : a < 12) : vwCl[a]? = some (mm_nm a, mm_tT a, mm_nf a) ∧ (∀ w ∈ u_ws (mm_nm a) (mm_tT a) (mm_nf a), w ∈ lw_tbl) ∧ (∀ k, k < mm_nf a → parseFieldDescriptor (mm_tT a k).2.2.1 = some (mm_ty a k)) ∧ (∀ x, x < mm_nf a → ∀ y, y < mm_nf a → x ≠ y → (mm_tT a x).2.1 ≠ (mm_tT a y).2.1) := by
  rcases (by omega : a = 0 ∨ a = 1 ∨ a = 2 ∨ a = 3 ∨ a = 4 ∨ a = 5 ∨ a = 6 ∨ a = 7 ∨ a = 8 ∨ a = 9 ∨ a = 10 ∨ a = 11) with rfl | rfl | rfl | rfl | rfl | rfl | rfl | rfl | rfl | rfl | rfl | rfl
  · exact ⟨rfl, inX0, tyX0_ok, nmX0⟩
  · exact ⟨rfl, inX1, tyX1_ok, nmX1⟩
  · exact ⟨rfl, inX2, tyX2_ok, nmX2⟩
  · exact ⟨rfl, inX3, tyX3_ok, nmX3⟩
  · exact ⟨rfl, inX4, tyX4_ok, nmX4⟩
  · exact ⟨rfl, inX5, tyX5_ok, nmX5⟩
  · exact ⟨rfl, inX6, tyX6_ok, nmX6⟩
  · exact ⟨rfl, inX7, tyX7_ok, nmX7⟩
  · exact ⟨rfl, inX8, tyX8_ok, nmX8⟩
  · exact ⟨rfl, inX9, tyX9_ok, nmX9⟩
  · exact ⟨rfl, inX10, tyX10_ok, nmX10⟩
  · exact ⟨rfl, inX11, tyX11_ok, nmX11⟩
theorem mm_kind {a j : Nat} (ha : a < 12) (hj : j < mm_nf a) : mm_kty (mm_fk a j) (mm_ty a j) = true :=
  List.all_eq_true.mp (List.all_eq_true.mp mm_kty_ok a (List.mem_range.mpr ha)) j (List.mem_range.mpr hj)
def mm_fv (ad : Nat → Nat) (w : mm_W) (c k j : Nat) : Value := if mm_fk c j ≤ 1 then .int (w.2.2.1 k j) else if mm_fk c j = 2 then .long (w.2.2.2 k j) else va_rf ((w.2.1 k j).map ad)
def mm_el (cAI : ClassId) (cAR : Nat → ClassId) (ad : Nat → Nat) (w : mm_W) (k : Nat) (sh : Nat ⊕ ((Nat × Nat) ⊕ Nat)) : va_E := match sh with
  | .inl n => .inl (cAI, (n, .inl (w.2.2.1 k)))
  | .inr (.inl cn) => .inl (cAR cn.1, (cn.2, .inr (.inr (.inr (.inr (fun j => (w.2.1 k j).map ad))))))
  | .inr (.inr c) => .inr (c, (List.range (mm_nf c)).map (mm_fv ad w c k))
def mm_wl (cAI : ClassId) (cAR : Nat → ClassId) (ad : Nat → Nat) (w : mm_W) : va_W := w.1.mapIdx (fun k sh => (ad k, mm_el cAI cAR ad w k sh))
def mm_sl (sh : Nat ⊕ ((Nat × Nat) ⊕ Nat)) : Nat := match sh with
  | .inl n => n
  | .inr (.inl cn) => cn.2
  | .inr (.inr c) => mm_nf c
def mm_sz (G : mm_G) : Nat := (G.map mm_sl).sum
theorem mm_sz_app (G : mm_G) (sh : Nat ⊕ ((Nat × Nat) ⊕ Nat)) : mm_sz (G ++ [sh]) = mm_sz G + mm_sl sh := by simp [mm_sz]
theorem mm_tv_rf (ad : Nat → Nat) (r : Option Nat) : mm_tv ad (mm_rf r) = va_rf (r.map ad) := by cases r <;> rfl
section WL
variable {cAI : ClassId} {cAR : Nat → ClassId} {ad : Nat → Nat} {w w' : mm_W}
theorem mm_wl_len : (mm_wl cAI cAR ad w).length = w.1.length := by simp [mm_wl]
theorem mm_wl_at {k : Nat} {sh : Nat ⊕ ((Nat × Nat) ⊕ Nat)} (h : w.1[k]? = some sh) : (mm_wl cAI cAR ad w)[k]? = some (ad k, mm_el cAI cAR ad w k sh) := by
  simp [mm_wl, h]
theorem mm_wl_of {k : Nat} {q : Nat × va_E} (h : (mm_wl cAI cAR ad w)[k]? = some q) : ∃ sh, w.1[k]? = some sh ∧ q = (ad k, mm_el cAI cAR ad w k sh) := by
  simp only [mm_wl, List.getElem?_mapIdx, Option.map_eq_some_iff] at h
  obtain ⟨sh, h1, h2⟩ := h
  exact ⟨sh, h1, h2.symm⟩
theorem mm_el_eq {k : Nat} {sh : Nat ⊕ ((Nat × Nat) ⊕ Nat)} (h1 : w'.2.1 k = w.2.1 k) (h2 : w'.2.2.1 k = w.2.2.1 k) (h3 : w'.2.2.2 k = w.2.2.2 k) : mm_el cAI cAR ad w' k sh = mm_el cAI cAR ad w k sh := by
  have e : ∀ c, mm_fv ad w' c k = mm_fv ad w c k := fun c => by funext j; simp only [mm_fv, h1, h2, h3]
  rcases sh with n | cn | c
  · simp only [mm_el, h2]
  · simp only [mm_el, h1]
  · simp only [mm_el, e]
theorem mm_wl_set {k : Nat} {e : va_E} (hG : w'.1 = w.1) (hne : ∀ k', k' ≠ k → w'.2.1 k' = w.2.1 k' ∧ w'.2.2.1 k' = w.2.2.1 k' ∧ w'.2.2.2 k' = w.2.2.2 k') (he : ∀ sh, w.1[k]? = some sh → e = mm_el cAI cAR ad w' k sh) : (mm_wl cAI cAR ad w).set k (ad k, e) = mm_wl cAI cAR ad w' := by
  apply List.ext_getElem?
  intro i
  by_cases hi : i = k
  · subst hi
    cases hs : w.1[i]? with
    | none =>
      have hlen : w.1.length ≤ i := List.getElem?_eq_none_iff.mp hs
      rw [List.getElem?_eq_none (by rw [List.length_set, mm_wl_len]; exact hlen), List.getElem?_eq_none (by rw [mm_wl_len, hG]; exact hlen)]
    | some sh =>
      rw [List.getElem?_set_self (by rw [mm_wl_len]; exact (List.getElem?_eq_some_iff.mp hs).1), mm_wl_at (w := w') (k := i) (sh := sh) (by rw [hG]; exact hs), he sh hs]
  · rw [List.getElem?_set_ne (Ne.symm hi)]
    obtain ⟨h1, h2, h3⟩ := hne i hi
    simp only [mm_wl, List.getElem?_mapIdx, hG]
    cases w.1[i]? with
    | none => rfl
    | some sh => simp only [Option.map_some, mm_el_eq h1 h2 h3]
theorem mm_wl_app {sh : Nat ⊕ ((Nat × Nat) ⊕ Nat)} {e : va_E} (hG : w'.1 = w.1 ++ [sh]) (hne : ∀ k', k' ≠ w.1.length → w'.2.1 k' = w.2.1 k' ∧ w'.2.2.1 k' = w.2.2.1 k' ∧ w'.2.2.2 k' = w.2.2.2 k') (he : e = mm_el cAI cAR ad w' w.1.length sh) : mm_wl cAI cAR ad w ++ [(ad w.1.length, e)] = mm_wl cAI cAR ad w' := by
  apply List.ext_getElem?
  intro i
  by_cases hi : i < w.1.length
  · rw [List.getElem?_append_left (by rw [mm_wl_len]; exact hi)]
    obtain ⟨h1, h2, h3⟩ := hne i (by omega)
    simp only [mm_wl, List.getElem?_mapIdx, hG, List.getElem?_append_left hi]
    cases w.1[i]? with
    | none => rfl
    | some sh => simp only [Option.map_some, mm_el_eq h1 h2 h3]
  · rw [List.getElem?_append_right (by rw [mm_wl_len]; omega), mm_wl_len]
    by_cases hi2 : i = w.1.length
    · subst hi2
      rw [Nat.sub_self, mm_wl_at (w := w') (k := w.1.length) (sh := sh) (by rw [hG]; simp), he]
      rfl
    · rw [List.getElem?_eq_none (by simp; omega), List.getElem?_eq_none (by rw [mm_wl_len, hG]; simp; omega)]
theorem mm_wl_D {base : Nat} {E : Nat → Nat} (hl : w.1.length ≤ 1000) : va_D (fun q => base ≤ q) (mm_wl cAI cAR (mm_ad base E) w) := by
  have key : ∀ (k : Nat) (q : Nat × va_E), (mm_wl cAI cAR (mm_ad base E) w)[k]? = some q → q.1 = base + k := by
    intro k q h
    obtain ⟨sh, h1, rfl⟩ := mm_wl_of h
    have := (List.getElem?_eq_some_iff.mp h1).1
    show mm_ad base E k = base + k
    rw [mm_ad, if_pos (by omega)]
  refine ⟨fun i j x y hx hy h => ?_, fun k q h => ?_⟩
  · rw [key i x hx, key j y hy] at h
    omega
  · show base ≤ q.1
    rw [key k q h]
    omega
end WL
def mm_tys (cAI : ClassId) (cAR : Nat → ClassId) : List (ClassId × FieldType) := [(cAI, .int), (cAR 8, .object (mm_nm 8)), (cAR 6, .object (mm_nm 6)), (cAR 0, .object (mm_nm 0))]
def mm_rix (a : Nat) : Option Nat := if a = 8 then some 1 else if a = 6 then some 2 else if a = 0 then some 3 else none
theorem mm_tys_ref {cAI : ClassId} {cAR : Nat → ClassId} {a i : Nat} (h : mm_rix a = some i) : (mm_tys cAI cAR)[i]? = some (cAR a, .object (mm_nm a)) := by
  unfold mm_rix at h
  split at h
  · rename_i e; subst e; cases h; rfl
  · split at h
    · rename_i e; subst e; cases h; rfl
    · split at h
      · rename_i e; subst e; cases h; rfl
      · cases h
def mm_flw (o i a b : Nat) : Cond := if o = a then .fieldLink (mm_nm o) i (mm_tT a b).1 (mm_tT a b).2.1 (mm_tT a b).2.2.1 else .fieldLinkNest (mm_nm o) i (mm_tT a b).1 (mm_tT a b).2.1 (mm_tT a b).2.2.1 "ToastGaol"
/-- what the tables must say for an instruction of class o's method (ini: a constructor) -/
def mm_lk (o : Nat) (ini : Bool) (q : Instr) (a b : Nat) : Prop := match q with
  | .getfield i => a < 12 ∧ b < mm_nf a ∧ mm_flw o i a b ∈ lw_tbl
  | .putfield i => a < 12 ∧ b < mm_nf a ∧ mm_flw o i a b ∈ lw_tbl ∧ ((mm_tT a b).2.2.2 = false ∨ ((mm_tT a b).2.2.2 = true ∧ ini = true ∧ o = a ∧ (mm_tT a b).1 = mm_nm o))
  | .new i => a < 12 ∧ Cond.classLink (mm_nm o) i (mm_nm a) ∈ lw_tbl
  | .anewarray i => (∃ t, mm_rix a = some t) ∧ Cond.classLink (mm_nm o) i (mm_nm a) ∈ lw_tbl
  | .newarray t => t = .int
  | .getstatic i => (a = 1001 ∧ Cond.fieldLink (mm_nm o) i "ToastGaol" "GREATEST" "[I" ∈ lw_tbl) ∨ (a = 1002 ∧ Cond.fieldLink (mm_nm o) i "ToastGaol" "DIGEST_HOURS" "[I" ∈ lw_tbl)
  | .invokestatic i => (a = 1001 → Cond.methodLink (mm_nm o) i Lib.Math.max.name ∈ lw_tbl) ∧ (a = 1002 → Cond.methodLink (mm_nm o) i Lib.Math.min.name ∈ lw_tbl) ∧ (a = 1003 → Cond.methodLink (mm_nm o) i arraycopyName ∈ lw_tbl)
  | .invokespecial i => a = 1000 → Cond.methodLink (mm_nm o) i Lib.objectInit ∈ lw_tbl
  | _ => True
