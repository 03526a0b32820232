/-! ===== a butter's hour, a summer ===== -/
noncomputable def bP (n nb nf : Nat) (g : tI) : Nat → Int32
  | 0 => -1
  | v + 1 => if cnI (zN (mm_u g 5 1 (nI v)) n nb nf (fun _ => 0) 30 2) n = 0 then nI v else bP n nb nf g v
section BEAR
variable {X : mm_X} {d : Nat} {I I' : tI} {J : tJ} {c n ns nb nf : Nat} {g s : tI}
theorem sp_firstButterHour {P : Int32 → tI → tJ → Prop} {k : Nat} (hs : Sg I g n ns nb nf) (hk : k < n) (hP : ∀ I', FC 23 I I' → P (zN g n nb nf (fun _ => 0) 30 7 k) I' J) : EI X (d + 3) n_X4_firstButterHour [.ref 31, .int (nI k)] I J P := by
  have hn8 := hs.2.1.1.2
  have hx := ix_nI (k := k) (n := 8) (by omega) (by omega)
  refine vc_X4_firstButterHour (sp_beginZ c23 hs (fun I1 f1 c1 => ?_))
  have key : ∀ m, m ≤ 30 → ∀ I2 : tI, FC 23 I I2 → zN g n nb nf (fun _ => 0) m 7 k = -1 → Cs 23 n I2 (zN g n nb nf (fun _ => 0) m) → Er X (d + 3) M_X4_firstButterHour 5 [some (.ref 31), some (.int (nI k)), some (.int (nI m))] [] I2 J (qI P) := by
    refine up_loop ?_ ?_
    · intro I2 f2 w2 c2
      refine vc_X4_firstButterHour_5 ⟨fun _ => ?_, fun hh => absurd (by decide) hh⟩
      have hP := hP I2 f2
      rw [w2] at hP; exact hP
    · intro m hm ih I2 f2 w2 c2
      have s2 := hs.fc (by omega) f2
      refine vc_X4_firstButterHour_5 ⟨fun hh => (le30 hm hh).elim, fun _ => ?_⟩
      refine sp_untilZ c23 s2 c2 (fun I3 f3 c3 => ?_)
      have s3 := s2.fc (by omega) f3
      have hz : zN g n nb nf (fun _ => 0) (m + 1) 7 k = zl g (nI m) (zU g n nf (nI m) (zN g n nb nf (fun _ => 0) m)) 7 k := r7_H k
      have w3 : zU g n nf (nI m) (zN g n nb nf (fun _ => 0) m) 7 k = -1 := (r7_U k).trans w2
      have g5 : I3 7 2 = g 5 2 := by rw [← s3.1]; rfl
      have e1 : I3 24 k = _ := (c3.2.1 k hk).1
      have e2 : I3 25 k = _ := (c3.2.1 k hk).2.1
      have go : ¬ ((I3 25 k = 0 ∨ I3 25 k = 1) ∧ I3 24 k ≤ I3 7 2) → EV X (d + 2) n_X0_fromButters [.ref 23, .int (nI m), .int 0] I3 J (fun I_8 J_9 => Er X (d + 3) M_X4_firstButterHour 5 [some (.ref 31), some (.int (nI k)), some (.int (nI m + 1))] [] I_8 J_9 (qI P)) := fun q => by
        refine sp_fromZ (m := 0) c23 s3 c3 (by omega) (fun I4 f4 c4 => ?_)
        rw [nI_1]
        refine ih I4 ((f2.tr f3).tr f4) ?_ c4
        rw [e1, e2, g5] at q
        rw [hz]
        unfold zl
        rw [if_neg (fun z => q ⟨z.2.2.1, z.2.2.2⟩)]; exact w3
      refine sp_isIn c23 (by omega) (fun q => ⟨fun z => absurd z (by decide), fun _ => ⟨hx, fun z => go (fun u => ?_), fun z => ?_⟩⟩) (fun q => ⟨fun _ => go (fun u => q u.1), fun z => absurd rfl z⟩)
      · rw [tn_nI (k := k) (by omega)] at z
        exact Int32.not_le.mpr z u.2
      · rw [tn_nI (k := k) (by omega)] at z
        have z : I3 24 k ≤ I3 7 2 := Int32.not_lt.mp z
        have q : I3 25 k = 0 ∨ I3 25 k = 1 := q
        rw [e1, g5] at z
        rw [e2] at q
        have e : zN g n nb nf (fun _ => 0) (m + 1) 7 k = nI m := by
          rw [hz]
          unfold zl
          rw [if_pos ⟨rfl, w3, q, z⟩]
        have e30 := line_stay (g := g) (n := n) (nb := nb) (nf := nf) (mo := fun _ => 0) k (m := m + 1) (by rw [e]; exact nI_ne (by omega)) 30 (by omega)
        rw [e30, e] at hP
        exact hP I3 (f2.tr f3)
  exact key 0 (Nat.zero_le _) I1 f1 rfl c1
theorem nI_m1 (v : Nat) : nI (v + 1) + (-1) = nI v := by
  have := nI_1 v
  grind
theorem sp_greatestSummer {P : Int32 → tI → tJ → Prop} (hs : Sg I g n ns nb nf) (hP : ∀ I', FT I I' → P (bP n nb nf g 10) I' J) : EI X (d + 4) n_X4_greatestSummer [.ref 31] I J P := by
  refine vc_X4_greatestSummer (fun y hy => ?_)
  rw [show tn 1 = 1 from rfl] at hy
  subst hy
  have back : ∀ I1 : tI, (∀ x, (x < 23 ∨ 31 < x) → x ≠ 7 → I1 x = I x) → (∀ j, j ≠ 1 → I1 7 j = I 7 j) → FT I (mm_u I1 7 1 (I 7 1)) := fun I1 a1 a2 x hx => by
    by_cases e : x = 7
    · subst e
      funext j
      by_cases e2 : j = 1
      · subst e2; rw [mm_u_s]
      · rw [mm_u_j e2]; exact a2 j e2
    · rw [mm_u_k e]; exact a1 x hx e
  have key : ∀ i, i ≤ 10 → ∀ I1 : tI, (∀ x, (x < 23 ∨ 31 < x) → x ≠ 7 → I1 x = I x) → (∀ j, j ≠ 1 → I1 7 j = I 7 j) → bP n nb nf g 10 = bP n nb nf g i → Er X (d + 4) M_X4_greatestSummer 10 [some (.ref 31), some (.int (I 7 1)), some (.int (-1)), some (.int (nI i + (-1)))] [] I1 J (qI P) := by
    intro i
    induction i with
    | zero =>
      intro _ I1 a1 a2 e
      refine vc_X4_greatestSummer_10 ⟨fun _ => ?_, fun hh => absurd (by decide) hh⟩
      rw [e] at hP
      exact hP _ (back I1 a1 a2)
    | succ v ih =>
      intro hv I1 a1 a2 e
      rw [nI_m1]
      refine vc_X4_greatestSummer_10 ⟨fun hh => absurd (nI_pos' (by omega)) (Int32.not_le.mpr hh), fun _ => ⟨fun z => absurd rfl z, fun _ => ?_⟩⟩
      rw [show tn 1 = 1 from rfl]
      have s1 : Sg (mm_u I1 7 1 (nI v)) (mm_u g 5 1 (nI v)) n ns nb nf := (hs.summer (v := v) (by omega)).eq (fun x h1 h2 => by
        by_cases e : x = 7
        · subst e
          funext j
          by_cases e2 : j = 1
          · subst e2; rw [mm_u_s, mm_u_s]
          · rw [mm_u_j e2, mm_u_j e2]; exact a2 j e2
        · rw [mm_u_k e, mm_u_k e]; exact a1 x (by omega) e)
      refine sp_goThroughZ c23 s1 (fun I2 f2 c2 => sp_howManyZ c23 (s1.fc (by omega) f2) c2 ?_)
      have b1 : ∀ x, (x < 23 ∨ 31 < x) → x ≠ 7 → I2 x = I x := fun x hx e => by rw [f2 x (by omega), mm_u_k e]; exact a1 x hx e
      have b2 : ∀ j, j ≠ 1 → I2 7 j = I 7 j := fun j e => by rw [f2 7 (by omega), mm_u_j e]; exact a2 j e
      rw [show bP n nb nf g (v + 1) = if cnI (zN (mm_u g 5 1 (nI v)) n nb nf (fun _ => 0) 30 2) n = 0 then nI v else bP n nb nf g v from rfl] at e
      refine ⟨fun q => ?_, fun q => ?_⟩
      · rw [if_neg q] at e; exact ih (by omega) I2 b1 b2 e
      · rw [if_pos (Decidable.not_not.mp q)] at e
        rw [e] at hP
        exact vc_X4_greatestSummer_10 ⟨fun _ => hP _ (back I2 b1 b2), fun _ => ⟨fun _ => hP _ (back I2 b1 b2), fun z => absurd (nI_ne (by omega)) z⟩⟩
  exact key 10 (Nat.le_refl _) I (fun _ _ _ => rfl) (fun _ _ => rfl) rfl
theorem sp_bearNow {P : Int32 → tI → tJ → Prop} (hg : Mg I g n ns nb nf) (ho : I 145 26 = 0) (hP : ∀ I', FL I I' → P (bP n nb nf g 10) I' J) : EI X (d + 5) n_X11_bearNow [.ref 145] I J P := by
  refine vc_X11_bearNow (fun y hy => ?_)
  rw [show tn 1 = 1 from rfl] at hy
  subst hy
  have key : ∀ v, v ≤ 10 → ∀ I1 : tI, (∀ x, (x < 157 ∨ 166 < x) → x ≠ 154 → I1 x = I x) → (∀ j, j ≠ 1 → I1 154 j = I 154 j) → Er X (d + 5) M_X11_bearNow 9 [some (.ref 145), some (.int (I 154 1)), some (.int (bP n nb nf g v)), some (.int (nI v))] [] I1 J (qI P) := by
    refine up_loop ?_ ?_
    · intro I1 a1 a2
      refine vc_X11_bearNow_9 ⟨fun _ => hP _ (fun x hx => ?_), fun hh => absurd (by decide) hh⟩
      rw [show tn 1 = 1 from rfl]
      by_cases e : x = 154
      · subst e
        funext j
        by_cases e2 : j = 1
        · subst e2; rw [mm_u_s]
        · rw [mm_u_j e2]; exact a2 j e2
      · rw [mm_u_k e]; exact a1 x hx e
    · intro v hv ih I1 a1 a2
      refine vc_X11_bearNow_9 ⟨fun hh => ?_, fun _ => ?_⟩
      · rw [show (10 : Int32) = nI 10 from rfl, le_nI (by omega) (by omega)] at hh; omega
      rw [show tn 1 = 1 from rfl, nI_1]
      have eqf : FL (mm_u I 154 1 (nI v)) (mm_u I1 154 1 (nI v)) := fun x hx => by
        by_cases e : x = 154
        · subst e
          funext j
          by_cases e2 : j = 1
          · subst e2; rw [mm_u_s, mm_u_s]
          · rw [mm_u_j e2, mm_u_j e2]; exact a2 j e2
        · rw [mm_u_k e, mm_u_k e]; exact a1 x hx e
      have g1 := (hg.summer (v := nI v)).fl eqf
      refine sp_lives0 g1 (by rw [mm_u_k (by omega), a1 145 (by omega) (by omega)]; exact ho) (fun I2 f2 k2 r2 => ?_)
      have b1 : ∀ x, (x < 157 ∨ 166 < x) → x ≠ 154 → I2 x = I x := fun x hx e => by rw [f2 x hx, mm_u_k e]; exact a1 x hx e
      have b2 : ∀ j, j ≠ 1 → I2 154 j = I 154 j := fun j e => by rw [f2 154 (by omega), mm_u_j e]; exact a2 j e
      rw [bP] at ih
      refine sp_here (m := 29) (g1.fl f2).1 (by omega) k2 ⟨fun q => ?_, fun q => ?_⟩
      · rw [if_neg q] at ih; exact ih I2 b1 b2
      · rw [if_pos (Decidable.not_not.mp q)] at ih; exact ih I2 b1 b2
  exact key 0 (Nat.zero_le _) I (fun _ _ _ => rfl) (fun _ _ => rfl)
end BEAR
