section OTHERS2
def FO (I I' : tI) : Prop := ∀ x, (x < 23 ∨ 30 < x) → x ≠ 130 → x ≠ 131 → I' x = I x
variable {X : mm_X} {d : Nat} {I I' : tI} {J : tJ} {n ns nb nf nq : Nat} {g s q : tI}
theorem cnA_congr {st st' : Nat → Int32} {a : Int32} : ∀ n, (∀ k, k < n → st k = st' k) → cnA st a n = cnA st' a n
  | 0, _ => rfl
  | n + 1, h => by rw [cnA, cnA, cnA_congr n (fun k hk => h k (by omega)), h n (by omega)]
theorem sp_howManyAre {P : Int32 → tI → tJ → Prop} {a : Int32} (hn : I 2 2 = nI n ∧ n ≤ 8) (hP : P (cnA (I 25) a n) I J) : EI X d n_X3_howManyAre [.ref 130, .int a] I J P := by
  have hn8 := hn.2
  refine vc_X3_howManyAre ?_
  have key : ∀ k, k ≤ n → Er X d M_X3_howManyAre 4 [some (.ref 130), some (.int a), some (.int (cnA (I 25) a k)), some (.int (nI k))] [] I J (qI P) := by
    refine up_loop ?_ ?_
    · refine vc_X3_howManyAre_4 ⟨fun _ => hP, fun hh => ?_⟩
      rw [hn.1] at hh; exact absurd (Int32.le_refl _) hh
    · intro k hk ih
      refine vc_X3_howManyAre_4 ⟨fun hh => ?_, fun _ => ⟨ix_nI (by omega) (by omega), ?_⟩⟩
      · rw [hn.1, le_nI (by omega) (by omega)] at hh; omega
      rw [tn_nI (k := k) (by omega), nI_1]
      rw [cnA] at ih
      exact ⟨fun z => by rw [if_neg z] at ih; exact ih, fun z => by rw [if_pos (Decidable.not_not.mp z)] at ih; exact ih⟩
  exact key 0 (Nat.zero_le _)
theorem sp_draw {P : tI → tJ → Prop} {seed : Int32} (hs : Sg I g n ns nb nf) (hP : ∀ I', FO I I' → I' 130 3 = cnA (zN (gO g seed n) n nb nf (fun _ => 0) 30 2) 2 n → I' 130 4 = cnA (zN (gO g seed n) n nb nf (fun _ => 0) 30 2) 3 n → P I' J) : EV X (d + 4) n_X3_draw [.ref 130, .int seed] I J P := by
  have hn8 := hs.2.1.1.2
  refine vc_X3_draw ⟨by decide, fun I1 h1 => ?_⟩
  rw [cpy8] at h1
  have key : ∀ m, m ≤ n → ∀ I2 : tI, (∀ x, x ≠ 5 → x ≠ 131 → I2 x = I x) → (∀ j, j < 8 → I2 131 j = I 5 j) → (∀ j, 8 ≤ j → I2 5 j = I 5 j) → Sg I2 (gO g seed m) n ns nb nf → Er X (d + 4) M_X3_draw 13 [some (.ref 130), some (.int seed), some (.int (sd seed m)), some (.int (nI m))] [] I2 J (qV P) := by
    refine up_loop ?_ ?_
    · intro I2 a1 a2 a3 s2
      refine vc_X3_draw_13 ⟨fun _ => ?_, fun hh => ?_⟩
      · refine sp_goThroughZ c23 s2 (fun I3 f3 c3 => ⟨by decide, fun I4 h4 => ?_⟩)
        rw [cpy8] at h4
        have e4 : ∀ x, x ≠ 5 → I4 x = I3 x := fun x hx => by rw [h4, mm_z_k hx]
        have n4 : I4 2 2 = nI n ∧ n ≤ 8 := by rw [e4 2 (by omega), f3 2 (by omega)]; exact s2.2.1.1
        have st : ∀ k, k < n → I4 25 k = zN (gO g seed n) n nb nf (fun _ => 0) 30 2 k := fun k hk => by rw [e4 25 (by omega)]; exact (c3.2.1 k hk).2.1
        refine sp_howManyAre n4 (sp_howManyAre (n := n) (by rw [mm_u_k (by omega)]; exact n4) (hP _ (fun x h1 h2 h3 => ?_) ?_ ?_))
        · rw [mm_u_k h2, mm_u_k h2]
          by_cases e : x = 5
          · subst e
            rw [h4, mm_z_s]
            funext j
            show (if j < 8 then I3 131 j else I3 5 j) = I 5 j
            by_cases ej : j < 8
            · rw [if_pos ej, f3 131 (by omega)]; exact a2 j ej
            · rw [if_neg ej, f3 5 (by omega)]; exact a3 j (by omega)
          · rw [e4 x e, f3 x (by omega)]; exact a1 x e h3
        · rw [mm_u_j (by omega), mm_u_s]; exact cnA_congr n st
        · rw [mm_u_s, mm_u_k (by omega)]; exact cnA_congr n st
      · rw [a1 2 (by omega) (by omega), hs.2.1.1.1] at hh; exact absurd (Int32.le_refl _) hh
    · intro m hm ih I2 a1 a2 a3 s2
      refine vc_X3_draw_13 ⟨fun hh => ?_, fun _ y hy => ⟨ix_nI (by omega) (by omega), ?_⟩⟩
      · rw [a1 2 (by omega) (by omega), hs.2.1.1.1, le_nI (by omega) (by omega)] at hh; omega
      rw [tn_nI (k := m) (by omega), nI_1]
      have ey : y = sd seed (m + 1) := hy
      subst ey
      obtain ⟨p, p1, p2⟩ := lt1_ok (sd seed (m + 1))
      have s3 := s2.heat (k := m) p1
      rw [← p2] at s3
      refine ih (mm_u I2 5 m (lt1 (sd seed (m + 1)))) (fun x h1 h2 => by rw [mm_u_k h1]; exact a1 x h1 h2) (fun j hj => by rw [mm_u_k (by omega)]; exact a2 j hj) (fun j hj => by rw [mm_u_j (by omega)]; exact a3 j hj) s3
  refine key 0 (Nat.zero_le _) I1 (fun x _ h2 => by rw [h1, mm_z_k h2]) (fun j hj => ?_) (fun j hj => by rw [h1, mm_z_k (by omega)]) (hs.eq (fun x _ _ => by rw [h1, mm_z_k (by omega)]))
  rw [h1, mm_z_s]
  show (if j < 8 then I 5 j else I 131 j) = I 5 j
  rw [if_pos hj]
end OTHERS2
