section WIN5
variable {X : mm_X} {d : Nat} {I I' : tI} {J : tJ} {n ns nb nf : Nat} {g s q : tI}
theorem ok_in {h k t : Nat} (hh : h < 30) : okW g n nb nf h k t ↔ (0 ≤ zN g n nb nf (mO (nI t)) 30 5 k ∧ zN g n nb nf (mO (nI t)) 30 5 k ≤ nI h) := by
  unfold okW
  rcases first_is (g := g) (n := n) (nb := nb) (nf := nf) (mo := mO (nI t)) k 30 (Nat.le_refl _) with w | ⟨j, j1, j2⟩
  · refine ⟨fun z => ?_, fun z => ?_⟩
    · rw [← first_stay k z 30 (by omega)] at z; exact absurd w z
    · rw [w] at z; exact absurd z.1 (by decide)
  · rw [j2]
    refine ⟨fun z => ⟨nI_pos' (by omega), ?_⟩, fun z => ?_⟩
    · rcases first_is (g := g) (n := n) (nb := nb) (nf := nf) (mo := mO (nI t)) k (h + 1) (by omega) with u | ⟨i, i1, i2⟩
      · exact absurd u z
      · have e := first_stay k z 30 (by omega)
        rw [j2, i2] at e
        have := (nI_eq (by omega) (by omega)).mp e
        rw [le_nI (by omega) (by omega)]; omega
    · intro u
      have l := first_late k (by omega) u j2 j1
      rw [le_nI (by omega) (by omega)] at z; omega
theorem s2l : ∀ l, l < 10 → (2 : Int32) <<< (nI l &&& 31) = nI (2 ^ (l + 1)) := by decide +kernel
theorem Mg.op {v : Int32} (hg : Mg I g n ns nb nf) : Mg (mm_u I 145 26 v) g n ns nb nf := by
  unfold Mg
  rw [mm_u_j (by omega), mm_u_j (by omega), mm_u_j (by omega), mm_u_j (by omega), mm_u_k (by omega), mm_u_k (by omega), mm_u_k (by omega), mm_u_k (by omega), mm_u_k (by omega)]
  exact hg
theorem sp_windowOf {P : Int64 → tI → tJ → Prop} {c l k h : Nat} {w : Int32} (hg : Mg I g n ns nb nf) (ho : I 145 26 = 0) (hc : c ≤ 16) (hl : l ≤ 9) (hk : k < n) (hh : h < 30) (hP : ∀ I', FL I I' → P (winV g n nb nf c l k h w) I' J) : EL X (d + 5) n_X11_windowOf [.ref 145, .int (nI c), .int (nI l), .int (nI k), .int (nI h), .int w] I J P := by
  have hn8 := hg.1.2
  have hx := ix_nI (k := k) (n := 8) (by omega) (by omega)
  have hpl : 2 ^ (l + 1) ≤ 1024 := by have := Nat.pow_le_pow_right (n := 2) (by decide) (show l + 1 ≤ 10 by omega); simpa using this
  refine vc_X11_windowOf ?_
  have key : ∀ t, t ≤ 2 ^ (l + 1) → ∀ (o9 o11 : Option Value) (I1 : tI), (∀ x, (x < 157 ∨ 166 < x) → x ≠ 145 → I1 x = I x) → (∀ j, j ≠ 26 → I1 145 j = I 145 j) → Er X (d + 4 + 1) M_X11_windowOf 4 [some (.ref 145), some (.int (nI c)), some (.int (nI l)), some (.int (nI k)), some (.int (nI h)), some (.int w), some (.long (lN (sm (fun t => wt c t (l + 1) * wy c (okW g n nb nf h k) 0 (l + 1) t) t))), none, some (.int (nI t)), o9, none, o11] [] I1 J (qL P) := by
    refine up_loop ?_ ?_
    · intro o9 o11 I1 a1 a2
      refine vc_X11_windowOf_4 ⟨fun _ => ?_, fun z => ?_⟩
      · rw [nI_1, p16 _ (by omega), sm_wy, Nat.zero_add]
        have h16 : 16 ^ (l + 1) ≤ 16 ^ 10 := Nat.pow_le_pow_right (by decide) (by omega)
        have h1610 : (16 : Nat) ^ 10 = 1099511627776 := by decide
        have wl := wy_le (ok := okW g n nb nf h k) hc (l + 1) 0 0
        refine sp_part (by omega) (Nat.pow_pos (by decide)) (by omega) (hP _ (fun x hx => ?_))
        by_cases e : x = 145
        · subst e
          funext j
          by_cases ej : j = 26
          · subst ej; rw [mm_u_s, ho]
          · rw [mm_u_j ej]; exact a2 j ej
        · rw [mm_u_k e]; exact a1 x hx e
      · rw [s2l l (by omega)] at z; exact absurd (Int32.le_refl _) z
    · intro t ht ih o9 o11 I1 a1 a2
      have g1 : Mg I1 g n ns nb nf := by
        unfold Mg
        rw [a2 9 (by omega), a2 7 (by omega), a2 12 (by omega), a2 14 (by omega), a1 152 (by omega) (by omega), a1 153 (by omega) (by omega), a1 154 (by omega) (by omega), a1 155 (by omega) (by omega), a1 156 (by omega) (by omega)]
        exact hg
      refine vc_X11_windowOf_4 ⟨fun z => ?_, fun _ => ?_⟩
      · rw [s2l l (by omega), nI_leI (by omega) (by omega)] at z; omega
      rw [nI_1]
      refine sp_lives g1.op (fun I2 f2 k2 r2 => ⟨hx, ?_⟩)
      rw [mm_u_s] at r2
      have e5 : I2 164 k = zN g n nb nf (mO (nI t)) 30 5 k := (r2.r hk).2.2.2.2.1
      have b1 : ∀ x, (x < 157 ∨ 166 < x) → x ≠ 145 → I2 x = I x := fun x hx e => by rw [f2 x hx, mm_u_k e]; exact a1 x hx e
      have b2 : ∀ j, j ≠ 26 → I2 145 j = I 145 j := fun j e => by rw [f2 145 (by omega), mm_u_j e]; exact a2 j e
      rw [tn_nI (k := k) (by omega), e5]
      have esm : ∀ v, wy c (okW g n nb nf h k) 0 (l + 1) t = v → sm (fun t => wt c t (l + 1) * wy c (okW g n nb nf h k) 0 (l + 1) t) (t + 1) = sm (fun t => wt c t (l + 1) * wy c (okW g n nb nf h k) 0 (l + 1) t) t + wt c t (l + 1) * v := fun v hv => by rw [sm, hv]
      refine sp_in32 0 (nI h) rfl rfl (fun q1 q2 => ⟨fun z => absurd z (by decide), fun _ => ?_⟩) (fun q => ⟨fun _ => ?_, fun z => absurd rfl z⟩)
      · have hv : wy c (okW g n nb nf h k) 0 (l + 1) t = 1 := by rw [wy, if_pos ((ok_in hh).mpr ⟨q1, q2⟩)]
        rw [esm 1 hv, Nat.mul_one] at ih
        have inner : ∀ i, i ≤ l + 1 → Er X (d + 4 + 1) M_X11_windowOf 28 [some (.ref 145), some (.int (nI c)), some (.int (nI l)), some (.int (nI k)), some (.int (nI h)), some (.int w), some (.long (lN (sm (fun t => wt c t (l + 1) * wy c (okW g n nb nf h k) 0 (l + 1) t) t))), none, some (.int (nI t)), some (.long (lN (wt c t i))), none, some (.int (nI i))] [] I2 J (qL P) := by
          refine up_loop ?_ ?_
          · refine vc_X11_windowOf_28 ⟨fun _ y hy => ?_, fun z => ?_⟩
            · rw [lN_add] at hy
              rw [hy, nI_1]
              exact ih _ _ I2 b1 b2
            · rw [lt_nI (by omega) (by omega)] at z; omega
          · intro i hi ih2
            refine vc_X11_windowOf_28 ⟨fun z => ?_, fun _ => ?_⟩
            · rw [lt_nI (by omega) (by omega)] at z; omega
            refine vc_X11_isIn ⟨fun q => ⟨fun _ y hy => ?_, fun z => absurd rfl z⟩, fun q => ⟨fun z => absurd z (by decide), fun _ y hy => ?_⟩⟩
            · rw [show (16 : Int32) = nI 16 from rfl, pk_sub hc, nI_l (by omega), lN_mul] at hy
              rw [hy, nI_1]
              rw [wt, if_neg (fun z => q ((bit_is t (by omega)).mpr z))] at ih2
              exact ih2
            · rw [nI_l (by omega), lN_mul] at hy
              rw [hy, nI_1]
              rw [wt, if_pos ((bit_is t (by omega)).mp (Decidable.not_not.mp q))] at ih2
              exact ih2
        exact inner 0 (Nat.zero_le _)
      · have hv : wy c (okW g n nb nf h k) 0 (l + 1) t = 0 := by rw [wy, if_neg (fun z => q ((ok_in hh).mp z))]
        rw [esm 0 hv, Nat.mul_zero, Nat.add_zero] at ih
        exact ih _ _ I2 b1 b2
  exact key 0 (Nat.zero_le _) none none I (fun _ _ _ => rfl) (fun _ _ => rfl)
end WIN5
