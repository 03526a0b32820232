/-! ===== texts: what the bytes say ===== -/
def figs (b : Int32) : Prop := 48 ≤ b ∧ b ≤ 57
def kof (b : Int32) : Int32 := if b = 119 then 0 else if b = 99 then 1 else if b = 98 then 2 else if b = 116 then 3 else -1
def okR (b : Nat → Int32) (i : Nat) : Prop := figs (b i)
def okS (b : Nat → Int32) (i : Nat) : Prop := if i % 5 = 0 then kof (b i) ≠ -1 else if i % 5 = 4 then b i = 59 else figs (b i)
/-- the first place where it does not go on, or -1 -/
noncomputable def ff (ok : Nat → Prop) : Nat → Int32
  | 0 => -1
  | t + 1 => if ff ok t ≠ -1 then ff ok t else @ite _ (ok t) (Classical.propDecidable _) (-1) (nI t)
noncomputable def fR (b : Nat → Int32) (t : Nat) : Int32 := ff (okR b) t
noncomputable def fS (b : Nat → Int32) (t : Nat) : Int32 := if ff (okS b) t ≠ -1 then ff (okS b) t else if t = 0 ∨ t % 5 = 4 then -1 else nI t
noncomputable def nR (b : Nat → Int32) (t : Nat) : Nat := if fR b t = -1 then t else 0
noncomputable def nS (b : Nat → Int32) (t : Nat) : Nat := if fS b t = -1 then (t + 1) / 5 else 0
def vD (b : Nat → Int32) (i : Nat) : Int32 := b i - 48
def vK (b : Nat → Int32) (i : Nat) : Int32 := kof (b (5 * i))
def vH (b : Nat → Int32) (i : Nat) : Int32 := (b (5 * i + 1) - 48) * 10 + b (5 * i + 2) - 48
def vP (b : Nat → Int32) (i : Nat) : Int32 := b (5 * i + 3) - 48
section TX
variable {ok : Nat → Prop} {b : Nat → Int32} {t i : Nat}
theorem nI_ne {j : Nat} (h : j < 1000) : nI j ≠ -1 := fun z => by
  have : (nI j).toInt = (-1 : Int32).toInt := by rw [z]
  rw [nI_toInt (by omega)] at this
  have e : (-1 : Int32).toInt = -1 := by decide
  omega
theorem ff_yes (h : ff ok t = -1) (h2 : ok t) : ff ok (t + 1) = -1 := by
  rw [ff, if_neg (fun z => z h), if_pos h2]
theorem ff_no (h : ff ok t = -1) (h2 : ¬ ok t) : ff ok (t + 1) = nI t := by
  rw [ff, if_neg (fun z => z h), if_neg h2]
theorem ff_stay {v : Int32} (h : ff ok i = v) (hv : v ≠ -1) : ∀ t, i ≤ t → ff ok t = v := by
  intro t ht
  induction t with
  | zero => rw [show i = 0 by omega] at h; exact h
  | succ t ih =>
    by_cases e : i = t + 1
    · subst e; exact h
    · have := ih (by omega)
      rw [ff, if_pos (by rw [this]; exact hv)]; exact this
theorem ff_before (ht : t < 1000) (h : ff ok t = -1) : ∀ i, i ≤ t → ff ok i = -1 := fun i hi => Decidable.byContradiction (fun q => q (by rw [← ff_stay rfl q t hi]; exact h))
theorem ff_ok (ht : t < 1000) (h : ff ok t = -1) : ∀ i, i < t → ok i := fun i hi => Classical.byContradiction (fun q => by
  have h1 := ff_no (ff_before ht h i (by omega)) q
  rw [ff_before ht h (i + 1) (by omega)] at h1
  exact nI_ne (by omega) h1.symm)
theorem md5 : ∀ i, i < 40 → nI i - nI i / 5 * 5 = nI (i % 5) := by decide +kernel
theorem dv5 : ∀ i, i < 41 → nI i / 5 = nI (i / 5) := by decide +kernel
theorem md5_0 (hi : i < 40) : nI i - nI i / 5 * 5 = 0 ↔ i % 5 = 0 := by
  rw [md5 i hi]; exact nI_eq (a := i % 5) (b := 0) (by omega) (by omega)
theorem md5_4 (hi : i < 40) : nI i - nI i / 5 * 5 = 4 ↔ i % 5 = 4 := by
  rw [md5 i hi]; exact nI_eq (a := i % 5) (b := 4) (by omega) (by omega)
end TX
section TX2
variable {X : mm_X} {d : Nat} {I : tI} {J : tJ} {t t1 : Nat}
theorem sp_isFigure {P : Int32 → tI → tJ → Prop} {v : Int32} (h1 : figs v → P 1 I J) (h0 : ¬ figs v → P 0 I J) : EI X d n_X10_isFigure [.int v] I J P :=
  vc_X10_isFigure ⟨fun q => h0 (fun z => Int32.not_le.mpr q z.1), fun q => ⟨fun q2 => h0 (fun z => Int32.not_le.mpr q2 z.2), fun q2 => h1 ⟨Int32.not_lt.mp q, Int32.not_lt.mp q2⟩⟩⟩
theorem sp_isWithin {P : Int32 → tI → tJ → Prop} {v m : Int32} (h1 : 0 ≤ v → v ≤ m → P 1 I J) (h0 : ¬ (0 ≤ v ∧ v ≤ m) → P 0 I J) : EI X d n_X10_isWithin [.int v, .int m] I J P :=
  vc_X10_isWithin ⟨fun q => h0 (fun z => Int32.not_le.mpr q z.1), fun q => ⟨fun q2 => h0 (fun z => Int32.not_le.mpr q2 z.2), fun q2 => h1 (Int32.not_lt.mp q) (Int32.not_lt.mp q2)⟩⟩
theorem sp_kindOf {P : Int32 → tI → tJ → Prop} {v : Int32} (h : P (kof v) I J) : EI X d n_X8_kindOf [.int v] I J P := by
  have e : ∀ w : Int32, v.toInt = w.toInt ↔ v = w := fun w => Int32.toInt_inj
  have e98 : (v.toInt = 98) ↔ v = 98 := e 98
  have e99 : (v.toInt = 99) ↔ v = 99 := e 99
  have e116 : (v.toInt = 116) ↔ v = 116 := e 116
  have e119 : (v.toInt = 119) ↔ v = 119 := e 119
  refine vc_X8_kindOf ?_
  rw [e98, e99, e116, e119]
  unfold kof at h
  refine ⟨fun a => ?_, fun a => ⟨fun b => ?_, fun b => ⟨fun c => ?_, fun c => ⟨fun f => ?_, fun f => ?_⟩⟩⟩⟩
  · subst a; exact h
  · subst b; exact h
  · subst c; exact h
  · subst f; exact h
  · rw [if_neg f, if_neg b, if_neg a, if_neg c] at h; exact h
theorem sp_faultAsRack {P : Int32 → tI → tJ → Prop} (ht : I 133 1 = nI t ∧ t ≤ 10) (h : P (fR (I 134) t) I J) : EI X (d + 1) n_X8_faultAsRack [.ref 133] I J P := by
  have ht10 := ht.2
  refine vc_X8_faultAsRack ?_
  have key : ∀ i, i ≤ t → ff (okR (I 134)) i = -1 → Er X (d + 1) M_X8_faultAsRack 2 [some (.ref 133), some (.int (nI i))] [] I J (qI P) := by
    refine up_loop ?_ ?_
    · intro q
      refine vc_X8_faultAsRack_2 ⟨fun _ => ?_, fun hh => ?_⟩
      · unfold fR at h; rw [q] at h; exact h
      · rw [ht.1] at hh; exact absurd (Int32.le_refl _) hh
    · intro i hi ih q
      refine vc_X8_faultAsRack_2 ⟨fun hh => ?_, fun _ => ⟨ix_nI (by omega) (by omega), ?_⟩⟩
      · rw [ht.1, le_nI (by omega) (by omega)] at hh; omega
      rw [tn_nI (k := i) (by omega), nI_1]
      refine sp_isFigure (fun z => ⟨fun _ => ih (ff_yes q z), fun z => absurd (by decide) z⟩) (fun z => ⟨fun z => absurd rfl z, fun _ => ?_⟩)
      unfold fR at h
      rw [ff_stay (ff_no q z) (nI_ne (by omega)) t (by omega)] at h; exact h
  exact key 0 (Nat.zero_le _) rfl
theorem sp_goesOn {P : Int32 → tI → tJ → Prop} {b : Nat → Int32} {i : Nat} (hi : i < 40) (h1 : okS b i → P 1 I J) (h0 : ¬ okS b i → P 0 I J) : EI X (d + 1) n_X8_goesOn [.int (nI i - nI i / 5 * 5), .int (b i)] I J P := by
  refine vc_X8_goesOn ?_
  unfold okS at h1 h0
  refine ⟨fun q => ⟨fun r => ?_, fun r => ?_⟩, fun q => ?_⟩
  · rw [Ne, md5_0 hi] at q
    rw [Ne, md5_4 hi] at r
    rw [if_neg q, if_neg r] at h1 h0
    exact sp_isFigure (fun z => ⟨Or.inr rfl, h1 z⟩) (fun z => ⟨Or.inl rfl, h0 z⟩)
  · have r := (md5_4 hi).mp (Decidable.not_not.mp r)
    rw [Ne, md5_0 hi] at q
    rw [if_neg q, if_pos r] at h1 h0
    exact ⟨fun z => h0 z, fun z => h1 (Decidable.not_not.mp z)⟩
  · have q := (md5_0 hi).mp (Decidable.not_not.mp q)
    rw [if_pos q] at h1 h0
    exact sp_kindOf ⟨fun z => h0 (fun w => w z), fun z => h1 z⟩
theorem sp_faultAsSlices {P : Int32 → tI → tJ → Prop} (ht : I 135 1 = nI t ∧ t ≤ 39) (h : P (fS (I 136) t) I J) : EI X (d + 2) n_X8_faultAsSlices [.ref 135] I J P := by
  have ht10 := ht.2
  refine vc_X8_faultAsSlices ?_
  have key : ∀ i, i ≤ t → ff (okS (I 136)) i = -1 → Er X (d + 2) M_X8_faultAsSlices 2 [some (.ref 135), some (.int (nI i))] [] I J (qI P) := by
    refine up_loop ?_ ?_
    · intro q
      unfold fS at h
      rw [if_neg (fun z => z q)] at h
      refine vc_X8_faultAsSlices_2 ⟨fun _ => ?_, fun hh => ?_⟩
      · rw [ht.1]
        have z0 : nI t = 0 ↔ t = 0 := nI_eq (a := t) (b := 0) (by omega) (by omega)
        refine ⟨fun a => ?_, fun a => ⟨fun c => ?_, fun c => ?_⟩⟩
        · rw [if_pos (Or.inl (z0.mp a))] at h; exact h
        · rw [Ne, md5_4 (by omega)] at c
          rw [if_neg (fun z => z.elim (fun z => a (z0.mpr z)) c)] at h; exact h
        · rw [if_pos (Or.inr ((md5_4 (by omega)).mp (Decidable.not_not.mp c)))] at h; exact h
      · rw [ht.1] at hh; exact absurd (Int32.le_refl _) hh
    · intro i hi ih q
      refine vc_X8_faultAsSlices_2 ⟨fun hh => ?_, fun _ => ⟨ix_nI (by omega) (by omega), ?_⟩⟩
      · rw [ht.1, le_nI (by omega) (by omega)] at hh; omega
      rw [tn_nI (k := i) (by omega), nI_1]
      refine sp_goesOn (by omega) (fun z => ⟨fun _ => ih (ff_yes q z), fun z => absurd (by decide) z⟩) (fun z => ⟨fun z => absurd rfl z, fun _ => ?_⟩)
      unfold fS at h
      have e := ff_stay (ff_no q z) (nI_ne (by omega)) t (by omega)
      rw [e, if_pos (nI_ne (by omega))] at h; exact h
  exact key 0 (Nat.zero_le _) rfl
/-- the rack is taken -/
theorem sp_takeRack {P : tI → tJ → Prop} (ht : I 133 1 = nI t ∧ t ≤ 10) (h : ∀ I', I' 2 0 = nI (nR (I 134) t) → (∀ i, i < nR (I 134) t → I' 3 i = vD (I 134) i) → (∀ x j, x ≠ 3 → (x = 2 → j ≠ 0) → I' x j = I x j) → P I' J) : EV X (d + 2) n_X5_takeRack [.ref 2, .ref 133] I J P := by
  have ht10 := ht.2
  have hn : nR (I 134) t ≤ 10 := by unfold nR; split <;> omega
  have key : ∀ i, i ≤ nR (I 134) t → ∀ I1 : tI, I1 2 0 = nI (nR (I 134) t) → (∀ j, j < i → I1 3 j = vD (I 134) j) → (∀ x j, x ≠ 3 → (x = 2 → j ≠ 0) → I1 x j = I x j) → Er X (d + 2) M_X5_takeRack 14 [some (.ref 2), some (.ref 133), some (.int (nI i))] [] I1 J (qV P) := by
    refine up_loop ?_ ?_
    · intro I1 a1 a2 a3
      refine vc_X5_takeRack_14 ⟨fun _ => h I1 a1 a2 a3, fun hh => ?_⟩
      rw [a1] at hh; exact absurd (Int32.le_refl _) hh
    · intro i hi ih I1 a1 a2 a3
      refine vc_X5_takeRack_14 ⟨fun hh => ?_, fun _ => ⟨ix_nI (by omega) (by omega), ix_nI (by omega) (by omega), ?_⟩⟩
      · rw [a1, le_nI (by omega) (by omega)] at hh; omega
      rw [tn_nI (k := i) (by omega), nI_1, a3 134 i (by omega) (by omega)]
      refine ih _ (by rw [mm_u_k (by omega)]; exact a1) (fun j hj => ?_) (fun x j h1 h2 => ?_)
      · by_cases e : j = i
        · subst e; rw [mm_u_s]; rfl
        · rw [mm_u_j e]; exact a2 j (by omega)
      · rw [mm_u_k h1]; exact a3 x j h1 h2
  have fr : ∀ (v : Int32) x j, x ≠ 3 → (x = 2 → j ≠ 0) → mm_u I 2 0 v x j = I x j := fun v x j _ h2 => by
    by_cases e : x = 2
    · rw [mm_u_j (h2 e)]
    · rw [mm_u_k e]
  refine vc_X5_takeRack (sp_faultAsRack ht ⟨fun q => ?_, fun q => ?_⟩)
  · refine key 0 (Nat.zero_le _) _ ?_ (fun j hj => absurd hj (Nat.not_lt_zero _)) (fr _)
    rw [mm_u_s]
    unfold nR; rw [if_neg q]; rfl
  · refine key 0 (Nat.zero_le _) _ ?_ (fun j hj => absurd hj (Nat.not_lt_zero _)) (fr _)
    rw [mm_u_s, ht.1]
    unfold nR; rw [if_pos (Decidable.not_not.mp q)]
    rw [if_neg (fun z => by have z : nI 10 < nI t := z; rw [lt_nI (by omega) (by omega)] at z; omega)]
theorem sp_takeSlices {P : tI → tJ → Prop} (ht : I 135 1 = nI t ∧ t ≤ 39) (h : ∀ I', I' 2 2 = nI (nS (I 136) t) → (∀ i, i < nS (I 136) t → I' 4 i = vK (I 136) i ∧ I' 5 i = vH (I 136) i ∧ I' 6 i = vP (I 136) i) → (∀ x j, x ≠ 4 → x ≠ 5 → x ≠ 6 → (x = 2 → j ≠ 2) → I' x j = I x j) → P I' J) : EV X (d + 3) n_X5_takeSlices [.ref 2, .ref 135] I J P := by
  have ht10 := ht.2
  have hn : nS (I 136) t ≤ 8 ∧ 5 * nS (I 136) t ≤ t + 1 := by unfold nS; split <;> omega
  have key : ∀ i, i ≤ nS (I 136) t → ∀ (v : Int32) (o : Option Value) (I1 : tI), I1 2 2 = nI (nS (I 136) t) → (∀ j, j < i → I1 4 j = vK (I 136) j ∧ I1 5 j = vH (I 136) j ∧ I1 6 j = vP (I 136) j) → (∀ x j, x ≠ 4 → x ≠ 5 → x ≠ 6 → (x = 2 → j ≠ 2) → I1 x j = I x j) → Er X (d + 3) M_X5_takeSlices 20 [some (.ref 2), some (.ref 135), some (.int v), some (.int (nI i)), o] [] I1 J (qV P) := by
    refine up_loop ?_ ?_
    · intro v o I1 a1 a2 a3
      refine vc_X5_takeSlices_20 ⟨fun _ => h I1 a1 a2 a3, fun hh => ?_⟩
      rw [a1] at hh; exact absurd (Int32.le_refl _) hh
    · intro i hi ih v o I1 a1 a2 a3
      have hx := ix_nI (k := i) (n := 8) (by omega) (by omega)
      have b : ∀ j, I1 136 j = I 136 j := fun j => a3 136 j (by omega) (by omega) (by omega) (by omega)
      refine vc_X5_takeSlices_20 ⟨fun hh => ?_, fun _ y hy => ?_⟩
      · rw [a1, le_nI (by omega) (by omega)] at hh; omega
      have hy : y = nI (5 * i) := by rw [hy, Nat.mul_comm]; exact pk_mul i 5
      subst hy
      rw [nI_1, nI_1, nI_2, show nI (5 * i) + 3 = nI (5 * i + 3) from nI_add _ 3, tn_nI (k := 5 * i) (by omega), tn_nI (k := 5 * i + 1) (by omega), tn_nI (k := 5 * i + 2) (by omega), tn_nI (k := 5 * i + 3) (by omega), tn_nI (k := i) (by omega)]
      refine ⟨ix_nI (by omega) (by omega), sp_kindOf ⟨hx, ix_nI (by omega) (by omega), ix_nI (by omega) (by omega), hx, ix_nI (by omega) (by omega), hx, ?_⟩⟩
      rw [mm_u_k (by omega : (136 : Nat) ≠ 4), mm_u_k (by omega : (136 : Nat) ≠ 5), mm_u_k (by omega : (136 : Nat) ≠ 4), b, b, b, b]
      refine ih _ _ _ ?_ (fun j hj => ?_) (fun x j h1 h2 h3 h4 => ?_)
      · rw [mm_u_k (by omega), mm_u_k (by omega), mm_u_k (by omega)]; exact a1
      · by_cases e : j = i
        · subst e; simp [mm_u, vK, vH, vP]
        · rw [mm_u_j e, mm_u_j e, mm_u_j e, mm_u_j e, mm_u_j e, mm_u_j e, mm_u_j e, mm_u_j e, mm_u_j e]; exact a2 j (by omega)
      · rw [mm_u_k h3, mm_u_k h2, mm_u_k h1]; exact a3 x j h1 h2 h3 h4
  have fr : ∀ (v : Int32) x j, x ≠ 4 → x ≠ 5 → x ≠ 6 → (x = 2 → j ≠ 2) → mm_u I 2 2 v x j = I x j := fun v x j _ _ _ h2 => by
    by_cases e : x = 2
    · rw [mm_u_j (h2 e)]
    · rw [mm_u_k e]
  refine vc_X5_takeSlices (sp_faultAsSlices ht ⟨fun q => ?_, fun q y hy => ?_⟩)
  · refine key 0 (Nat.zero_le _) _ _ _ ?_ (fun j hj => absurd hj (Nat.not_lt_zero _)) (fr _)
    rw [mm_u_s]
    unfold nS; rw [if_neg q]; rfl
  · refine key 0 (Nat.zero_le _) _ _ _ ?_ (fun j hj => absurd hj (Nat.not_lt_zero _)) (fr _)
    rw [mm_u_s, hy, ht.1, nI_1, dv5 _ (by omega)]
    unfold nS; rw [if_pos (Decidable.not_not.mp q)]
    rw [if_neg (fun z => by have z : nI 8 < nI ((t + 1) / 5) := z; rw [lt_nI (by omega) (by omega)] at z; omega)]
end TX2
