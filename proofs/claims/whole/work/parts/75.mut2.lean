section MUT2
variable {X : mm_X} {d : Nat} {I I' Ia I1 I2 : tI} {J : tJ} {n ns nb nf nq tr ts t : Nat} {g s q : tI}
theorem sp_learn0 {P : tI → tJ → Prop} (ht : I 133 1 = nI t ∧ t ≤ 10) (hP : ∀ I', I' 2 0 = nI (nR (I 134) t) → (∀ i, i < nR (I 134) t → I' 3 i = vD (I 134) i) → I' 11 5 = 0 → (∀ x j, x ≠ 3 → (x = 2 → j ≠ 0) → (x = 11 → j ≠ 5) → I' x j = I x j) → P I' J) : EV X (d + 3) n_X10_learn [.ref 0, .int 0] I J P := by
  refine vc_X10_learn ⟨fun z => absurd rfl z, fun _ => sp_takeRack ht (fun I' a1 a2 a3 => ?_)⟩
  refine hP _ (by rw [mm_u_k (by omega)]; exact a1) (fun i hi => by rw [mm_u_k (by omega)]; exact a2 i hi) (by rw [mm_u_s]) (fun x j h1 h2 h3 => ?_)
  by_cases e : x = 11
  · rw [mm_u_j (h3 e)]; exact a3 x j h1 h2
  · rw [mm_u_k e]; exact a3 x j h1 h2
theorem sp_learn1 {P : tI → tJ → Prop} (ht : I 135 1 = nI t ∧ t ≤ 39) (hP : ∀ I', I' 2 2 = nI (nS (I 136) t) → (∀ i, i < nS (I 136) t → I' 4 i = vK (I 136) i ∧ I' 5 i = vH (I 136) i ∧ I' 6 i = vP (I 136) i) → I' 11 5 = 0 → (∀ x j, x ≠ 4 → x ≠ 5 → x ≠ 6 → (x = 2 → j ≠ 2) → (x = 11 → j ≠ 5) → I' x j = I x j) → P I' J) : EV X (d + 4) n_X10_learn [.ref 0, .int 1] I J P := by
  refine vc_X10_learn ⟨fun _ => sp_takeSlices ht (fun I' a1 a2 a3 => ?_), fun z => absurd ne10 z⟩
  refine hP _ (by rw [mm_u_k (by omega)]; exact a1) (fun i hi => by rw [mm_u_k (by omega), mm_u_k (by omega), mm_u_k (by omega)]; exact a2 i hi) (by rw [mm_u_s]) (fun x j h1 h2 h3 h4 h5 => ?_)
  by_cases e : x = 11
  · rw [mm_u_j (h5 e)]; exact a3 x j h1 h2 h3 h4
  · rw [mm_u_k e]; exact a3 x j h1 h2 h3 h4
theorem Rl.rackOp (h : Rl I g q n ns nb nf nq tr ts) (ht : t ≤ 10) (p1 : Ia 133 1 = nI t) (pf : ∀ x, x ≠ 133 → x ≠ 134 → Ia x = I x) (a1 : I1 2 0 = nI (nR (Ia 134) t)) (a2 : ∀ i, i < nR (Ia 134) t → I1 3 i = vD (Ia 134) i) (a3 : I1 11 5 = 0) (a4 : ∀ x j, x ≠ 3 → (x = 2 → j ≠ 0) → (x = 11 → j ≠ 5) → I1 x j = Ia x j) (m1 : I2 151 0 = nI t) (m2 : I2 151 1 = I1 151 1) (m3 : ∀ j, j < t → I2 150 j = Ia 134 j) (m4 : ∀ j, I2 150 (40 + j) = I1 150 (40 + j)) (mf : ∀ x, x ≠ 150 → x ≠ 151 → I2 x = I1 x) : RR I2 := by
  have r : ∀ x, x ≠ 3 → x ≠ 2 → x ≠ 11 → I1 x = Ia x := fun x h1 h2 h3 => by funext j; exact a4 x j h1 (fun e => absurd e h2) (fun e => absurd e h3)
  have e134 : I2 134 = Ia 134 := (mf 134 (by omega) (by omega)).trans (r 134 (by omega) (by omega) (by omega))
  refine h.rack t ht ?_ m1 ?_ ?_ ?_ ?_ ?_ ?_ ?_ ?_
  · rw [mf 133 (by omega) (by omega), r 133 (by omega) (by omega) (by omega)]; exact p1
  · rw [m2, r 151 (by omega) (by omega) (by omega), pf 151 (by omega) (by omega)]
  · intro j hj; rw [m3 j hj, e134]
  · intro j; rw [m4, r 150 (by omega) (by omega) (by omega), pf 150 (by omega) (by omega)]
  · rw [e134, mf 2 (by omega) (by omega)]; exact a1
  · rw [e134, mf 3 (by omega) (by omega)]; exact a2
  · intro j hj; rw [mf 2 (by omega) (by omega), a4 2 j (by omega) (fun _ => hj) (fun e => absurd e (by omega)), pf 2 (by omega) (by omega)]
  · rw [mf 11 (by omega) (by omega)]; exact a3
  · intro x h1 h2 h3 h4 h5 h6 h7
    rw [mf x h6 h7, r x h2 h1 h3, pf x h4 h5]
theorem Rl.breadOp (h : Rl I g q n ns nb nf nq tr ts) (ht : t ≤ 39) (p1 : Ia 135 1 = nI t) (pf : ∀ x, x ≠ 135 → x ≠ 136 → Ia x = I x) (a1 : I1 2 2 = nI (nS (Ia 136) t)) (a2 : ∀ i, i < nS (Ia 136) t → I1 4 i = vK (Ia 136) i ∧ I1 5 i = vH (Ia 136) i ∧ I1 6 i = vP (Ia 136) i) (a3 : I1 11 5 = 0) (a4 : ∀ x j, x ≠ 4 → x ≠ 5 → x ≠ 6 → (x = 2 → j ≠ 2) → (x = 11 → j ≠ 5) → I1 x j = Ia x j) (m1 : I2 151 1 = nI t) (m2 : I2 151 0 = I1 151 0) (m3 : ∀ j, j < t → I2 150 (40 + j) = Ia 136 j) (m4 : ∀ j, j < 40 → I2 150 j = I1 150 j) (mf : ∀ x, x ≠ 150 → x ≠ 151 → I2 x = I1 x) : RR I2 := by
  have r : ∀ x, x ≠ 4 → x ≠ 5 → x ≠ 6 → x ≠ 2 → x ≠ 11 → I1 x = Ia x := fun x h1 h2 h3 h4 h5 => by funext j; exact a4 x j h1 h2 h3 (fun e => absurd e h4) (fun e => absurd e h5)
  have e136 : I2 136 = Ia 136 := (mf 136 (by omega) (by omega)).trans (r 136 (by omega) (by omega) (by omega) (by omega) (by omega))
  refine h.bread t ht ?_ m1 ?_ ?_ ?_ ?_ ?_ ?_ ?_ ?_
  · rw [mf 135 (by omega) (by omega), r 135 (by omega) (by omega) (by omega) (by omega) (by omega)]; exact p1
  · rw [m2, r 151 (by omega) (by omega) (by omega) (by omega) (by omega), pf 151 (by omega) (by omega)]
  · intro j hj; rw [m3 j hj, e136]
  · intro j hj; rw [m4 j hj, r 150 (by omega) (by omega) (by omega) (by omega) (by omega), pf 150 (by omega) (by omega)]
  · rw [e136, mf 2 (by omega) (by omega)]; exact a1
  · rw [e136, mf 4 (by omega) (by omega), mf 5 (by omega) (by omega), mf 6 (by omega) (by omega)]; exact a2
  · intro j hj; rw [mf 2 (by omega) (by omega), a4 2 j (by omega) (by omega) (by omega) (fun _ => hj) (fun e => absurd e (by omega)), pf 2 (by omega) (by omega)]
  · rw [mf 11 (by omega) (by omega)]; exact a3
  · intro x h1 h2 h3 h4 h5 h6 h7 h8 h9
    rw [mf x h8 h9, r x h2 h3 h4 h1 h5, pf x h6 h7]
theorem m_typeBad {P : Int32 → tI → tJ → Prop} {v1 v2 : Int32} (hb : ¬ (inR v1 0 1 ∧ inR v2 0 255)) (hP : P (-2) I J) : EI X (d + 25) n_X11_type [.ref 145, .int v1, .int v2] I J P :=
  vc_X11_type (sp_mTwo (fun a => ⟨fun z => absurd z ne10, fun _ => sp_in32 0 255 rfl rfl (fun b c => absurd ⟨a, b, c⟩ hb) (fun b => ⟨fun z => absurd rfl z, fun _ => hP⟩)⟩) (fun a => ⟨fun _ => hP, fun z => absurd rfl z⟩))
theorem t0 : tn 0 = 0 := rfl
theorem t1 : tn 1 = 1 := rfl
theorem pb_type {v1 v2 : Int32} (h : Rl I g q n ns nb nf nq tr ts) : PB X (d + 25) n_X10_type n_X11_type [.int v1, .int v2] I J := by
  unfold PB
  refine vc_X10_type (vc_X10_isText ⟨fun a => ⟨fun z => absurd z ne10, fun _ => ?_⟩, fun a => ⟨fun b => ⟨fun _ => ?_, fun z => absurd rfl z⟩, fun b => ⟨fun z => absurd z ne10, fun _ => ?_⟩⟩⟩)
  · subst a
    obtain ⟨x1, x2, x3, x4⟩ := h.2.1
    refine sp_isWithin (fun b c => ⟨fun _ => ⟨by decide, 133, r_1_0, by decide, ?_⟩, fun z => absurd ne10 z⟩) (fun b => ⟨fun z => absurd rfl z, fun _ => m_typeBad (fun z => b z.2) ⟨rfl, h.r⟩⟩)
    have bad : ¬ ¬ (inR 0 0 1 ∧ inR v2 0 255) := fun z => z ⟨by decide, b, c⟩
    have e10 : Int32.ofNat (if (133 : Nat) = 133 then 10 else 39) = nI 10 := rfl
    rw [x1, e10, lt_nI (by omega) (by omega), tn_nI (by omega)]
    refine ⟨fun lt => ⟨ix_nI lt (by decide), ?_⟩, fun ge => ?_⟩
    · have ea : mm_u I (133 + 1) tr v2 133 1 = nI tr := by rw [mm_u_k (by omega)]; exact x1
      rw [ea, nI_1]
      refine sp_learn0 (t := tr + 1) ⟨by rw [mm_u_s], by omega⟩ (fun I1 a1 a2 a3 a4 => ?_)
      have e133 : I1 133 1 = nI (tr + 1) := by rw [a4 133 1 (by omega) (fun e => absurd e (by omega)) (fun e => absurd e (by omega)), mm_u_s]
      have e151 : I1 151 0 = nI tr := by rw [a4 151 0 (by omega) (fun e => absurd e (by omega)) (fun e => absurd e (by omega)), mm_u_k (by omega), mm_u_k (by omega)]; exact x3
      refine vc_X11_type (sp_mTwo (fun _ => ⟨fun z => absurd z ne10, fun _ => sp_in32 0 255 rfl rfl (fun _ _ => ⟨fun _ => ⟨by decide, fun z => absurd rfl z, fun _ => ?_⟩, fun z => absurd ne10 z⟩) (fun z => absurd ⟨b, c⟩ z)⟩) (fun z => absurd (by decide) z))
      rw [t0, e151, e133]
      refine vc_X11_type_20 ⟨fun _ => ?_, fun z => absurd (fun (y : nI tr = 10) => ?_) z⟩
      · have i0 : ix (0 : Int32) 2 := by decide
        rw [t0, e151, Int32.mul_zero, Int32.zero_add, tn_nI (by omega)]
        refine ⟨i0, ix_nI (by omega) (by omega), i0, i0, i0, ?_, ?_⟩
        · rw [mm_u_s, mm_u_k (by omega), e151, nI_1]
        · refine h.rackOp (t := tr + 1) (by omega) (mm_u_s) (fun x h1 h2 => by rw [mm_u_k h1, mm_u_k h2]) a1 a2 a3 a4 ?_ ?_ ?_ ?_ ?_
          · rw [mm_u_s, mm_u_k (by omega), e151, nI_1]
          · rw [mm_u_j (by omega), mm_u_k (by omega)]
          · intro j hj
            rw [mm_u_k (k := 151) (by omega), mm_u_k (k := 133) (by omega)]
            by_cases e : j = tr
            · rw [e, mm_u_s]; exact mm_u_s.symm
            · rw [mm_u_j e, mm_u_j e, a4 150 j (by omega) (fun e => absurd e (by omega)) (fun e => absurd e (by omega)), mm_u_k (by omega), mm_u_k (by omega)]
              exact x4 j (by omega)
          · intro j; rw [mm_u_k (by omega), mm_u_j (by omega)]
          · intro x h1 h2; rw [mm_u_k h2, mm_u_k h1]
      · rw [show (10 : Int32) = nI 10 from rfl] at y
        have := (nI_eq (by omega) (by omega)).mp y; omega
    · refine vc_X11_type (sp_mTwo (fun _ => ⟨fun z => absurd z ne10, fun _ => sp_in32 0 255 rfl rfl (fun _ _ => ⟨fun _ => ⟨by decide, fun z => absurd rfl z, fun _ => ?_⟩, fun z => absurd ne10 z⟩) (fun z => absurd ⟨b, c⟩ z)⟩) (fun z => absurd (by decide) z))
      rw [t0, x3, show tr = 10 by omega]
      exact vc_X11_type_20 ⟨fun z => absurd rfl z, fun _ => ⟨rfl, h.r⟩⟩
  · exact m_typeBad (fun z => (two_iff.mp z.1).elim a b) ⟨rfl, h.r⟩
  · have b := Decidable.not_not.mp b
    subst b
    obtain ⟨x1, x2, x3, x4⟩ := h.2.2.1
    refine sp_isWithin (fun b c => ⟨fun _ => ⟨by decide, 135, r_1_1, by decide, ?_⟩, fun z => absurd ne10 z⟩) (fun b => ⟨fun z => absurd rfl z, fun _ => m_typeBad (fun z => b z.2) ⟨rfl, h.r⟩⟩)
    have e10 : Int32.ofNat (if (135 : Nat) = 133 then 10 else 39) = nI 39 := rfl
    rw [x1, e10, lt_nI (by omega) (by omega), tn_nI (by omega)]
    refine ⟨fun lt => ⟨ix_nI lt (by decide), ?_⟩, fun ge => ?_⟩
    · have ea : mm_u I (135 + 1) ts v2 135 1 = nI ts := by rw [mm_u_k (by omega)]; exact x1
      rw [ea, nI_1]
      refine sp_learn1 (t := ts + 1) ⟨by rw [mm_u_s], by omega⟩ (fun I1 a1 a2 a3 a4 => ?_)
      have e133 : I1 135 1 = nI (ts + 1) := by rw [a4 135 1 (by omega) (by omega) (by omega) (fun e => absurd e (by omega)) (fun e => absurd e (by omega)), mm_u_s]
      have e151 : I1 151 1 = nI ts := by rw [a4 151 1 (by omega) (by omega) (by omega) (fun e => absurd e (by omega)) (fun e => absurd e (by omega)), mm_u_k (by omega), mm_u_k (by omega)]; exact x3
      refine vc_X11_type (sp_mTwo (fun _ => ⟨fun z => absurd z ne10, fun _ => sp_in32 0 255 rfl rfl (fun _ _ => ⟨fun _ => ⟨by decide, fun _ => ?_, fun z => absurd ne10 z⟩, fun z => absurd ne10 z⟩) (fun z => absurd ⟨b, c⟩ z)⟩) (fun z => absurd (by decide) z))
      rw [t1, e151, e133]
      refine vc_X11_type_20 ⟨fun _ => ?_, fun z => absurd (fun (y : nI ts = 39) => ?_) z⟩
      · have i0 : ix (1 : Int32) 2 := by decide
        rw [t1, e151, Int32.mul_one, show (40 : Int32) = nI 40 from rfl, nI_add, tn_nI (by omega)]
        refine ⟨i0, ix_nI (by omega) (by omega), i0, i0, i0, ?_, ?_⟩
        · rw [mm_u_s, mm_u_k (by omega), e151, nI_1]
        · refine h.breadOp (t := ts + 1) (by omega) (mm_u_s) (fun x h1 h2 => by rw [mm_u_k h1, mm_u_k h2]) a1 a2 a3 a4 ?_ ?_ ?_ ?_ ?_
          · rw [mm_u_s, mm_u_k (by omega), e151, nI_1]
          · rw [mm_u_j (by omega), mm_u_k (by omega)]
          · intro j hj
            rw [mm_u_k (k := 151) (by omega), mm_u_k (k := 135) (by omega)]
            by_cases e : j = ts
            · rw [e, mm_u_s]; exact mm_u_s.symm
            · rw [mm_u_j (k := 150) (by omega), mm_u_j e, a4 150 (40 + j) (by omega) (by omega) (by omega) (fun e => absurd e (by omega)) (fun e => absurd e (by omega)), mm_u_k (by omega), mm_u_k (by omega)]
              exact x4 j (by omega)
          · intro j hj; rw [mm_u_k (by omega), mm_u_j (by omega)]
          · intro x h1 h2; rw [mm_u_k h2, mm_u_k h1]
      · rw [show (39 : Int32) = nI 39 from rfl] at y
        have := (nI_eq (by omega) (by omega)).mp y; omega
    · refine vc_X11_type (sp_mTwo (fun _ => ⟨fun z => absurd z ne10, fun _ => sp_in32 0 255 rfl rfl (fun _ _ => ⟨fun _ => ⟨by decide, fun _ => ?_, fun z => absurd ne10 z⟩, fun z => absurd ne10 z⟩) (fun z => absurd ⟨b, c⟩ z)⟩) (fun z => absurd (by decide) z))
      rw [t1, x3, show ts = 39 by omega]
      exact vc_X11_type_20 ⟨fun z => absurd rfl z, fun _ => ⟨rfl, h.r⟩⟩
theorem pb_wipe {v1 : Int32} (h : Rl I g q n ns nb nf nq tr ts) : PB X (d + 25) n_X10_wipe n_X11_wipe [.int v1] I J := by
  unfold PB
  refine vc_X10_wipe (vc_X10_isText ⟨fun a => ⟨fun _ => ?_, fun z => absurd ne10 z⟩, fun a => ⟨fun b => ⟨fun z => absurd rfl z, fun _ => ?_⟩, fun b => ⟨fun _ => ?_, fun z => absurd ne10 z⟩⟩⟩)
  · subst a
    obtain ⟨x1, x2, x3, x4⟩ := h.2.1
    refine ⟨by decide, 133, r_1_0, by decide, fun y hy => ⟨by decide, 133, r_1_0, by decide, ?_⟩⟩
    rw [x1] at hy
    subst hy
    refine sp_learn0 (t := 0) ⟨by rw [mm_u_s]; rfl, by omega⟩ (fun I1 a1 a2 a3 a4 => ?_)
    have e151 : I1 151 0 = nI tr := by rw [a4 151 0 (by omega) (fun e => absurd e (by omega)) (fun e => absurd e (by omega)), mm_u_k (by omega)]; exact x3
    refine vc_X11_wipe (sp_mTwo (fun _ => ⟨fun _ => ⟨by decide, fun y hy => ⟨by decide, ?_, ?_⟩⟩, fun z => absurd ne10 z⟩) (fun z => absurd (by decide) z))
    · rw [hy, t0, e151]
    · rw [t0]
      refine h.rackOp (t := 0) (by omega) (mm_u_s) (fun x h1 h2 => by rw [mm_u_k h1]) a1 a2 a3 a4 (by rw [mm_u_s]; rfl) (by rw [mm_u_j (by omega)]) (fun j hj => absurd hj (Nat.not_lt_zero _)) (fun j => by rw [mm_u_k (by omega)]) (fun x h1 h2 => by rw [mm_u_k h2])
  · exact vc_X11_wipe (sp_mTwo (fun z => absurd (two_iff.mp z) (fun y => y.elim a b)) (fun _ => ⟨fun z => absurd rfl z, fun _ => ⟨rfl, h.r⟩⟩))
  · have b := Decidable.not_not.mp b
    subst b
    obtain ⟨x1, x2, x3, x4⟩ := h.2.2.1
    refine ⟨by decide, 135, r_1_1, by decide, fun y hy => ⟨by decide, 135, r_1_1, by decide, ?_⟩⟩
    rw [x1] at hy
    subst hy
    refine sp_learn1 (t := 0) ⟨by rw [mm_u_s]; rfl, by omega⟩ (fun I1 a1 a2 a3 a4 => ?_)
    have e151 : I1 151 1 = nI ts := by rw [a4 151 1 (by omega) (by omega) (by omega) (fun e => absurd e (by omega)) (fun e => absurd e (by omega)), mm_u_k (by omega)]; exact x3
    refine vc_X11_wipe (sp_mTwo (fun _ => ⟨fun _ => ⟨by decide, fun y hy => ⟨by decide, ?_, ?_⟩⟩, fun z => absurd ne10 z⟩) (fun z => absurd (by decide) z))
    · rw [hy, t1, e151]
    · rw [t1]
      refine h.breadOp (t := 0) (by omega) (mm_u_s) (fun x h1 h2 => by rw [mm_u_k h1]) a1 a2 a3 a4 (by rw [mm_u_s]; rfl) (by rw [mm_u_j (by omega)]) (fun j hj => absurd hj (Nat.not_lt_zero _)) (fun j _ => by rw [mm_u_k (by omega)]) (fun x h1 h2 => by rw [mm_u_k h2])
theorem pb_undo {v1 : Int32} (h : Rl I g q n ns nb nf nq tr ts) : PB X (d + 25) n_X10_undo n_X11_undo [.int v1] I J := by
  unfold PB
  refine vc_X10_undo (vc_X10_isText ⟨fun a => ⟨fun _ => ?_, fun z => absurd ne10 z⟩, fun a => ⟨fun b => ⟨fun z => absurd rfl z, fun _ => ?_⟩, fun b => ⟨fun _ => ?_, fun z => absurd ne10 z⟩⟩⟩)
  · subst a
    obtain ⟨x1, x2, x3, x4⟩ := h.2.1
    refine ⟨by decide, 133, r_1_0, by decide, ?_⟩
    rw [x1]
    refine ⟨fun ne => ⟨by decide, 133, r_1_0, by decide, ?_⟩, fun z => ?_⟩
    · obtain ⟨m, rfl⟩ : ∃ m, tr = m + 1 := ⟨tr - 1, by
        have : tr ≠ 0 := fun e => ne (by rw [e]; rfl)
        omega⟩
      rw [x1, nI_pred]
      refine sp_learn0 (t := m) ⟨by rw [mm_u_s], by omega⟩ (fun I1 a1 a2 a3 a4 => ⟨by decide, 133, r_1_0, by decide, ?_⟩)
      have e133 : I1 133 1 = nI m := by rw [a4 133 1 (by omega) (fun e => absurd e (by omega)) (fun e => absurd e (by omega)), mm_u_s]
      have e151 : I1 151 0 = nI (m + 1) := by rw [a4 151 0 (by omega) (fun e => absurd e (by omega)) (fun e => absurd e (by omega)), mm_u_k (by omega)]; exact x3
      have i0 : ix (0 : Int32) 2 := by decide
      refine vc_X11_undo (sp_mTwo (fun _ => ⟨fun _ => ⟨i0, ?_⟩, fun z => absurd ne10 z⟩) (fun z => absurd (by decide) z))
      rw [t0, e151, nI_pred, e133]
      refine ⟨fun _ => ⟨i0, i0, i0, by rw [mm_u_s], ?_⟩, fun z => absurd ne z⟩
      refine h.rackOp (t := m) (by omega) (mm_u_s) (fun x h1 h2 => by rw [mm_u_k h1]) a1 a2 a3 a4 (by rw [mm_u_s]) (by rw [mm_u_j (by omega)]) (fun j hj => ?_) (fun j => by rw [mm_u_k (by omega)]) (fun x h1 h2 => by rw [mm_u_k h2])
      rw [mm_u_k (by omega), mm_u_k (by omega), a4 150 j (by omega) (fun e => absurd e (by omega)) (fun e => absurd e (by omega)), mm_u_k (by omega)]
      exact x4 j (by omega)
    · have i0 : ix (0 : Int32) 2 := by decide
      refine vc_X11_undo (sp_mTwo (fun _ => ⟨fun _ => ⟨i0, ?_⟩, fun z => absurd ne10 z⟩) (fun z => absurd (by decide) z))
      rw [t0, x3]
      exact ⟨fun y => absurd y z, fun _ => ⟨rfl, h.r⟩⟩
  · exact vc_X11_undo (sp_mTwo (fun z => absurd (two_iff.mp z) (fun y => y.elim a b)) (fun _ => ⟨fun z => absurd rfl z, fun _ => ⟨rfl, h.r⟩⟩))
  · have b := Decidable.not_not.mp b
    subst b
    obtain ⟨x1, x2, x3, x4⟩ := h.2.2.1
    refine ⟨by decide, 135, r_1_1, by decide, ?_⟩
    rw [x1]
    refine ⟨fun ne => ⟨by decide, 135, r_1_1, by decide, ?_⟩, fun z => ?_⟩
    · obtain ⟨m, rfl⟩ : ∃ m, ts = m + 1 := ⟨ts - 1, by
        have : ts ≠ 0 := fun e => ne (by rw [e]; rfl)
        omega⟩
      rw [x1, nI_pred]
      refine sp_learn1 (t := m) ⟨by rw [mm_u_s], by omega⟩ (fun I1 a1 a2 a3 a4 => ⟨by decide, 135, r_1_1, by decide, ?_⟩)
      have e133 : I1 135 1 = nI m := by rw [a4 135 1 (by omega) (by omega) (by omega) (fun e => absurd e (by omega)) (fun e => absurd e (by omega)), mm_u_s]
      have e151 : I1 151 1 = nI (m + 1) := by rw [a4 151 1 (by omega) (by omega) (by omega) (fun e => absurd e (by omega)) (fun e => absurd e (by omega)), mm_u_k (by omega)]; exact x3
      have i0 : ix (1 : Int32) 2 := by decide
      refine vc_X11_undo (sp_mTwo (fun _ => ⟨fun _ => ⟨i0, ?_⟩, fun z => absurd ne10 z⟩) (fun z => absurd (by decide) z))
      rw [t1, e151, nI_pred, e133]
      refine ⟨fun _ => ⟨i0, i0, i0, by rw [mm_u_s], ?_⟩, fun z => absurd ne z⟩
      refine h.breadOp (t := m) (by omega) (mm_u_s) (fun x h1 h2 => by rw [mm_u_k h1]) a1 a2 a3 a4 (by rw [mm_u_s]) (by rw [mm_u_j (by omega)]) (fun j hj => ?_) (fun j _ => by rw [mm_u_k (by omega)]) (fun x h1 h2 => by rw [mm_u_k h2])
      rw [mm_u_k (by omega), mm_u_k (by omega), a4 150 (40 + j) (by omega) (by omega) (by omega) (fun e => absurd e (by omega)) (fun e => absurd e (by omega)), mm_u_k (by omega)]
      exact x4 j (by omega)
    · have i0 : ix (1 : Int32) 2 := by decide
      refine vc_X11_undo (sp_mTwo (fun _ => ⟨fun _ => ⟨i0, ?_⟩, fun z => absurd ne10 z⟩) (fun z => absurd (by decide) z))
      rw [t1, x3]
      exact ⟨fun y => absurd y z, fun _ => ⟨rfl, h.r⟩⟩
end MUT2
