/-! ===== the reference reads the texts ===== -/
def vS (b : Nat → Int32) (i : Nat) : Int32 := if i % 5 = 0 then kof (b i) else if i % 5 = 4 then 0 else b i - 48
section TX3
variable {X : mm_X} {d : Nat} {I : tI} {J : tJ} {t : Nat}
theorem fig_ne {v : Int32} (h : figs v) : v - 48 ≠ -9 := fun z => by
  have e : v = 39 := by grind
  subst e
  exact absurd h.1 (by decide)
theorem kof_ne (v : Int32) : kof v ≠ -9 := by
  unfold kof
  split
  · decide
  · split
    · decide
    · split
      · decide
      · split <;> decide
theorem vS_ne {b : Nat → Int32} {i : Nat} (h : okS b i) : vS b i ≠ -9 := by
  unfold vS
  unfold okS at h
  split
  · exact kof_ne _
  · rename_i q
    rw [if_neg q] at h
    split
    · decide
    · rename_i q2
      rw [if_neg q2] at h
      exact fig_ne h
theorem sp_figureOf {P : Int32 → tI → tJ → Prop} {v : Int32} (h1 : figs v → P (v - 48) I J) (h0 : ¬ figs v → P (-9) I J) : EI X (d + 1) n_X11_figureOf [.int v] I J P :=
  vc_X11_figureOf (sp_in32 48 57 (by decide) (by decide) (fun a b => ⟨fun z => absurd z (by decide), fun _ => h1 ⟨a, b⟩⟩) (fun a => ⟨fun _ => h0 a, fun z => absurd rfl z⟩))
theorem sp_sliceOf {P : Int32 → tI → tJ → Prop} {b : Nat → Int32} {i : Nat} {v : Int32} (hi : i < 40) (hv : v = b i) (h1 : okS b i → P (vS b i) I J) (h0 : ¬ okS b i → P (-9) I J) : EI X (d + 2) n_X11_sliceOf [.int (nI i - nI i / 5 * 5), .int v] I J P := by
  subst hv
  refine vc_X11_sliceOf ?_
  unfold okS vS at h1
  unfold okS at h0
  refine ⟨fun q => ⟨fun r => ?_, fun r => ?_⟩, fun q => ?_⟩
  · rw [Ne, md5_0 hi] at q
    rw [Ne, md5_4 hi] at r
    rw [if_neg q, if_neg r, if_neg q, if_neg r] at h1
    rw [if_neg q, if_neg r] at h0
    exact sp_figureOf h1 h0
  · have r := (md5_4 hi).mp (Decidable.not_not.mp r)
    rw [Ne, md5_0 hi] at q
    rw [if_neg q, if_pos r, if_neg q, if_pos r] at h1
    rw [if_neg q, if_pos r] at h0
    exact ⟨fun z => h0 z, fun z => h1 (Decidable.not_not.mp z)⟩
  · have q := (md5_0 hi).mp (Decidable.not_not.mp q)
    rw [if_pos q, if_pos q] at h1
    rw [if_pos q] at h0
    refine ⟨fun a => ⟨fun c => ⟨fun e => ⟨fun f => h0 ?_, fun f => ?_⟩, fun e => ?_⟩, fun c => ?_⟩, fun a => ?_⟩
    · unfold kof; rw [if_neg a, if_neg c, if_neg e, if_neg f]; exact fun z => z rfl
    · rw [Decidable.not_not.mp f] at h1; exact h1 (by decide)
    · rw [Decidable.not_not.mp e] at h1; exact h1 (by decide)
    · rw [Decidable.not_not.mp c] at h1; exact h1 (by decide)
    · rw [Decidable.not_not.mp a] at h1; exact h1 (by decide)
theorem sp_readsRack {P : Int32 → tI → tJ → Prop} (ht : I 151 0 = nI t ∧ t ≤ 10) (h : ∀ I', I' 145 7 = nI (nR (I 150) t) → (∀ i, i < nR (I 150) t → I' 152 i = vD (I 150) i) → (∀ x j, x ≠ 152 → (x = 145 → j ≠ 7) → I' x j = I x j) → P (fR (I 150) t) I' J) : EI X (d + 2) n_X11_readsRack [.ref 145] I J P := by
  have ht10 := ht.2
  have fr0 : ∀ (K : tI) (v : Int32), (∀ x j, x ≠ 152 → (x = 145 → j ≠ 7) → K x j = I x j) → ∀ x j, x ≠ 152 → (x = 145 → j ≠ 7) → mm_u K 145 7 v x j = I x j := fun K v hK x j h1 h2 => by
    by_cases e : x = 145
    · rw [mm_u_j (h2 e)]; exact hK x j h1 h2
    · rw [mm_u_k e]; exact hK x j h1 h2
  have key : ∀ i, i ≤ t → ∀ (o : Option Value) (I1 : tI), ff (okR (I 150)) i = -1 → I1 145 7 = nI i → (∀ j, j < i → I1 152 j = vD (I 150) j) → (∀ x j, x ≠ 152 → (x = 145 → j ≠ 7) → I1 x j = I x j) → Er X (d + 2) M_X11_readsRack 5 [some (.ref 145), some (.int (nI i)), o] [] I1 J (qI P) := by
    refine up_loop ?_ ?_
    · intro o I1 q a1 a2 a3
      have e : fR (I 150) t = -1 := q
      have e2 : nR (I 150) t = t := by unfold nR; rw [if_pos e]
      rw [e, e2] at h
      refine vc_X11_readsRack_5 ⟨fun _ => h I1 a1 a2 a3, fun hh => ?_⟩
      rw [show tn 0 = 0 from rfl, a3 151 0 (by omega) (by omega), ht.1] at hh; exact absurd (Int32.le_refl _) hh
    · intro i hi ih o I1 q a1 a2 a3
      refine vc_X11_readsRack_5 ⟨fun hh => ?_, fun _ => ⟨ix_nI (by omega) (by omega), ?_⟩⟩
      · rw [show tn 0 = 0 from rfl, a3 151 0 (by omega) (by omega), ht.1, le_nI (by omega) (by omega)] at hh; omega
      rw [tn_nI (k := i) (by omega), nI_1, a3 150 i (by omega) (by omega)]
      refine sp_figureOf (fun z => ⟨fun _ => ⟨ix_nI (by omega) (by omega), ?_⟩, fun w => absurd (fig_ne z) w⟩) (fun z => ⟨fun w => absurd rfl w, fun _ => ?_⟩)
      · rw [mm_u_k (by omega : (145 : Nat) ≠ 152), a1, nI_1]
        refine ih _ _ (ff_yes q z) (by rw [mm_u_s]) (fun j hj => ?_) (fr0 _ _ (fun x j h1 h2 => by rw [mm_u_k h1]; exact a3 x j h1 h2))
        rw [mm_u_k (by omega)]
        by_cases e : j = i
        · subst e; rw [mm_u_s]; rfl
        · rw [mm_u_j e]; exact a2 j (by omega)
      · have e : fR (I 150) t = nI i := ff_stay (ff_no q z) (nI_ne (by omega)) t (by omega)
        have e2 : nR (I 150) t = 0 := by unfold nR; rw [if_neg (by rw [e]; exact nI_ne (by omega))]
        rw [e, e2] at h
        exact h _ (by rw [mm_u_s]; rfl) (fun j hj => absurd hj (Nat.not_lt_zero _)) (fr0 _ _ a3)
  exact vc_X11_readsRack (key 0 (Nat.zero_le _) none _ rfl (by rw [mm_u_s]; rfl) (fun j hj => absurd hj (Nat.not_lt_zero _)) (fr0 _ _ (fun _ _ _ _ => rfl)))
/-- what stands in the reference's slices when i bytes have been read -/
def rd (b : Nat → Int32) (i : Nat) (K : Nat → Int32) : Prop := ∀ q, (5 * q < i → K (3 * q) = vK b q) ∧ (5 * q + 1 < i → K (3 * q + 1) = if i = 5 * q + 2 then 10 * (b (5 * q + 1) - 48) else vH b q) ∧ (5 * q + 3 < i → K (3 * q + 2) = vP b q)
theorem sp_readsSlices {P : Int32 → tI → tJ → Prop} {b : Nat → Int32} (hb : ∀ j, b j = I 150 (40 + j)) (ht : I 151 1 = nI t ∧ t ≤ 39) (h : ∀ I', I' 145 9 = nI (nS b t) → (∀ i, i < nS b t → I' 153 (3 * i) = vK b i ∧ I' 153 (3 * i + 1) = vH b i ∧ I' 153 (3 * i + 2) = vP b i) → (∀ x j, x ≠ 153 → (x = 145 → j ≠ 9) → I' x j = I x j) → P (fS b t) I' J) : EI X (d + 3) n_X11_readsSlices [.ref 145] I J P := by
  have ht10 := ht.2
  have fr0 : ∀ (K : tI) (v : Int32), (∀ x j, x ≠ 153 → (x = 145 → j ≠ 9) → K x j = I x j) → ∀ x j, x ≠ 153 → (x = 145 → j ≠ 9) → mm_u K 145 9 v x j = I x j := fun K v hK x j h1 h2 => by
    by_cases e : x = 145
    · rw [mm_u_j (h2 e)]; exact hK x j h1 h2
    · rw [mm_u_k e]; exact hK x j h1 h2
  have fr1 : ∀ (K : tI) (k : Nat) (v : Int32), (∀ x j, x ≠ 153 → (x = 145 → j ≠ 9) → K x j = I x j) → ∀ x j, x ≠ 153 → (x = 145 → j ≠ 9) → mm_u K 153 k v x j = I x j := fun K k v hK x j h1 h2 => by
    rw [mm_u_k h1]; exact hK x j h1 h2
  have key : ∀ i, i ≤ t → ∀ (o o' o'' : Option Value) (I1 : tI), ff (okS b) i = -1 → I1 145 9 = nI ((i + 1) / 5) → rd b i (I1 153) → (∀ x j, x ≠ 153 → (x = 145 → j ≠ 9) → I1 x j = I x j) → Er X (d + 3) M_X11_readsSlices 10 [some (.ref 145), some (.int (nI t)), some (.int (nI i)), o, o', o''] [] I1 J (qI P) := by
    refine up_loop ?_ ?_
    · intro o o' o'' I1 q a1 a2 a3
      have z0 : (nI t ≤ 0) = (t ≤ 0) := le_nI (a := t) (b := 0) (by omega) (by omega)
      have fin : (t = 0 ∨ t % 5 = 4) → P (-1) I1 J := fun w => by
        have e : fS b t = -1 := by unfold fS; rw [if_neg (fun z => z q), if_pos w]
        have e2 : nS b t = (t + 1) / 5 := by unfold nS; rw [if_pos e]
        rw [e, e2] at h
        refine h I1 a1 (fun i hi => ?_) a3
        obtain ⟨r1, r2, r3⟩ := a2 i
        have r2 := r2 (by omega)
        rw [if_neg (by omega)] at r2
        exact ⟨r1 (by omega), r2, r3 (by omega)⟩
      refine vc_X11_readsSlices_10 ⟨fun _ => ⟨fun w => fin (Or.inl (by rw [z0] at w; omega)), fun w => ⟨fun u => fin (Or.inr ((md5_4 (by omega)).mp u)), fun u => ?_⟩⟩, fun hh => absurd (Int32.le_refl _) hh⟩
      rw [z0] at w
      rw [md5_4 (by omega)] at u
      have e : fS b t = nI t := by unfold fS; rw [if_neg (fun z => z q), if_neg (by omega)]
      have e2 : nS b t = 0 := by unfold nS; rw [if_neg (by rw [e]; exact nI_ne (by omega))]
      rw [e, e2] at h
      exact h _ (by rw [mm_u_s]; rfl) (fun j hj => absurd hj (Nat.not_lt_zero _)) (fr0 _ _ a3)
    · intro i hi ih o o' o'' I1 q a1 a2 a3
      refine vc_X11_readsSlices_10 ⟨fun hh => ?_, fun _ y hy => ?_⟩
      · rw [le_nI (by omega) (by omega)] at hh; omega
      subst hy
      rw [show (40 : Int32) + nI i = nI (40 + i) from nI_add 40 i, tn_nI (k := 40 + i) (by omega), nI_1 i, dv5 i (by omega), nI_mul3]
      rw [a3 150 _ (by omega) (by omega)]
      refine ⟨ix_nI (by omega) (by omega), ?_⟩
      rw [← dv5 i (by omega)]
      refine sp_sliceOf (b := b) (by omega) (hb i).symm (fun z => ⟨fun _ y hy => ?_, fun w => absurd (vS_ne z) w⟩) (fun z => ⟨fun w => absurd rfl w, fun _ => ?_⟩)
      · subst hy
        have m1 : nI i - nI i / 5 * 5 = 1 ↔ i % 5 = 1 := by rw [md5 i (by omega)]; exact nI_eq (a := i % 5) (b := 1) (by omega) (by omega)
        have m2 : nI i - nI i / 5 * 5 = 2 ↔ i % 5 = 2 := by rw [md5 i (by omega)]; exact nI_eq (a := i % 5) (b := 2) (by omega) (by omega)
        have m3 : nI i - nI i / 5 * 5 = 3 ↔ i % 5 = 3 := by rw [md5 i (by omega)]; exact nI_eq (a := i % 5) (b := 3) (by omega) (by omega)
        simp only [Ne, md5_0 (show i < 40 by omega), m1, m2, m3]
        rw [nI_1, nI_2, tn_nI (k := 3 * (i / 5)) (by omega), tn_nI (k := 3 * (i / 5) + 1) (by omega), tn_nI (k := 3 * (i / 5) + 2) (by omega)]
        have hx : ∀ j, j < 3 → ix (nI (3 * (i / 5) + j)) 24 := fun j hj => ix_nI (by omega) (by omega)
        have z' := ff_yes q z
        refine ⟨fun c0 => ⟨fun c1 => ⟨fun c2 => ⟨fun c3 => ?_, fun c3 => ⟨hx 2 (by omega), ?_⟩⟩, fun c2 => ⟨hx 1 (by omega), hx 1 (by omega), ?_⟩⟩, fun c1 => ⟨hx 1 (by omega), ?_⟩⟩, fun c0 => ⟨hx 0 (by omega), ?_⟩⟩
        · refine ih _ _ _ I1 z' (by rw [a1]; congr 1; omega) (fun k => ?_) a3
          obtain ⟨r1, r2, r3⟩ := a2 k
          refine ⟨fun w => r1 (by omega), fun w => ?_, fun w => r3 (by omega)⟩
          have r2 := r2 (by omega)
          rw [if_neg (by omega)] at r2
          rw [if_neg (by omega)]; exact r2
        · have c3 := Decidable.not_not.mp c3
          rw [mm_u_k (by omega : (145 : Nat) ≠ 153), a1, nI_1]
          refine ih _ _ _ _ z' (by rw [mm_u_s]; congr 1; omega) (fun k => ?_) (fr0 _ _ (fr1 _ _ _ a3))
          obtain ⟨r1, r2, r3⟩ := a2 k
          rw [mm_u_k (by omega : (153 : Nat) ≠ 145), mm_u_j (by omega : 3 * k ≠ 3 * (i / 5) + 2), mm_u_j (by omega : 3 * k + 1 ≠ 3 * (i / 5) + 2)]
          refine ⟨fun w => r1 (by omega), fun w => ?_, fun w => ?_⟩
          · have r2 := r2 (by omega)
            rw [if_neg (by omega)] at r2
            rw [if_neg (by omega)]; exact r2
          · by_cases e : k = i / 5
            · have ei : i = 5 * k + 3 := by omega
              subst e
              rw [mm_u_s]
              unfold vS vP
              rw [if_neg c0, if_neg (by omega)]
              rw [← ei]
            · rw [mm_u_j (by omega)]; exact r3 (by omega)
        · have c2 := Decidable.not_not.mp c2
          refine ih _ _ _ _ z' (by rw [mm_u_k (by omega), a1]; congr 1; omega) (fun k => ?_) (fr1 _ _ _ a3)
          obtain ⟨r1, r2, r3⟩ := a2 k
          rw [mm_u_j (by omega : 3 * k ≠ 3 * (i / 5) + 1), mm_u_j (by omega : 3 * k + 2 ≠ 3 * (i / 5) + 1)]
          refine ⟨fun w => r1 (by omega), fun w => ?_, fun w => r3 (by omega)⟩
          rw [if_neg (by omega)]
          by_cases e : k = i / 5
          · have ei : i = 5 * k + 2 := by omega
            have r2 := r2 (by omega)
            rw [if_pos ei] at r2
            subst e
            rw [mm_u_s, r2]
            unfold vS vH
            rw [if_neg c0, if_neg (by omega), ← ei]
            grind
          · have r2 := r2 (by omega)
            rw [if_neg (by omega)] at r2
            rw [mm_u_j (by omega)]; exact r2
        · have c1 := Decidable.not_not.mp c1
          refine ih _ _ _ _ z' (by rw [mm_u_k (by omega), a1]; congr 1; omega) (fun k => ?_) (fr1 _ _ _ a3)
          obtain ⟨r1, r2, r3⟩ := a2 k
          rw [mm_u_j (by omega : 3 * k ≠ 3 * (i / 5) + 1), mm_u_j (by omega : 3 * k + 2 ≠ 3 * (i / 5) + 1)]
          refine ⟨fun w => r1 (by omega), fun w => ?_, fun w => r3 (by omega)⟩
          by_cases e : k = i / 5
          · have ei : i = 5 * k + 1 := by omega
            subst e
            rw [mm_u_s, if_pos (by omega)]
            unfold vS
            rw [if_neg c0, if_neg (by omega), ← ei]
          · have r2 := r2 (by omega)
            rw [if_neg (by omega)] at r2
            rw [mm_u_j (by omega), if_neg (by omega)]; exact r2
        · have c0 := Decidable.not_not.mp c0
          refine ih _ _ _ _ z' (by rw [mm_u_k (by omega), a1]; congr 1; omega) (fun k => ?_) (fr1 _ _ _ a3)
          obtain ⟨r1, r2, r3⟩ := a2 k
          rw [mm_u_j (by omega : 3 * k + 1 ≠ 3 * (i / 5)), mm_u_j (by omega : 3 * k + 2 ≠ 3 * (i / 5))]
          refine ⟨fun w => ?_, fun w => ?_, fun w => r3 (by omega)⟩
          · by_cases e : k = i / 5
            · have ei : i = 5 * k := by omega
              subst e
              rw [mm_u_s]
              unfold vS vK
              rw [if_pos c0, ← ei]
            · rw [mm_u_j (by omega)]; exact r1 (by omega)
          · have r2 := r2 (by omega)
            rw [if_neg (by omega)] at r2
            rw [if_neg (by omega)]; exact r2
      · have e0 := ff_stay (ff_no q z) (nI_ne (by omega)) t (by omega)
        have e : fS b t = nI i := by unfold fS; rw [e0, if_pos (nI_ne (by omega))]
        have e2 : nS b t = 0 := by unfold nS; rw [if_neg (by rw [e]; exact nI_ne (by omega))]
        rw [e, e2] at h
        exact h _ (by rw [mm_u_s]; rfl) (fun j hj => absurd hj (Nat.not_lt_zero _)) (fr0 _ _ a3)
  refine vc_X11_readsSlices (fun y hy => ?_)
  have hy : y = nI t := by rw [hy, mm_u_k (by omega)]; exact ht.1
  subst hy
  exact key 0 (Nat.zero_le _) none none none _ rfl (by rw [mm_u_s]; rfl) (fun k => ⟨fun w => absurd w (Nat.not_lt_zero _), fun w => absurd w (Nat.not_lt_zero _), fun w => absurd w (Nat.not_lt_zero _)⟩) (fr0 _ _ (fun _ _ _ _ => rfl))
end TX3
