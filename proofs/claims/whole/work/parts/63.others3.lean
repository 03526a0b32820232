section OTHERS3
variable {X : mm_X} {d : Nat} {I I' : tI} {J : tJ} {n ns nb nf nq t : Nat} {g s q : tI}
/-- the reference's setting hangs on these cells only -/
theorem Mg.ex (hg : Mg I g n ns nb nf) (h1 : ∀ j, j ≠ 30 → I' 145 j = I 145 j) (h2 : ∀ x, 152 ≤ x → x ≤ 156 → I' x = I x) : Mg I' g n ns nb nf := by
  unfold Mg
  rw [h1 9 (by omega), h1 7 (by omega), h1 12 (by omega), h1 14 (by omega), h2 152 (by omega) (by omega), h2 153 (by omega) (by omega), h2 154 (by omega) (by omega), h2 155 (by omega) (by omega), h2 156 (by omega) (by omega)]
  exact hg
theorem sp_lot {P : Int32 → tI → tJ → Prop} (h : P (lt1 (1103515245 * I 145 30 + 12345)) (mm_u I 145 30 (1103515245 * I 145 30 + 12345)) J) : EI X d n_X11_lot [.ref 145, .int 100] I J P := by
  refine vc_X11_lot ⟨by decide, ?_⟩
  rw [mm_u_s]
  exact h
theorem sp_othersOf {P : Int32 → tI → tJ → Prop} {seed w : Int32} {b : Nat → Int32} (hg : Mg I g n ns nb nf) (ho : I 145 26 = 0) (hb : ∀ j, b j = I 150 (40 + j)) (ht : I 151 1 = nI t ∧ t ≤ 39) (hn : n = nS b t) (hv : ∀ i, i < n → g 2 i = vK b i ∧ g 3 i = vH b i ∧ g 4 i = vP b i) (hP : ∀ I', (∀ x, (x < 157 ∨ 166 < x) → x ≠ 153 → x ≠ 145 → I' x = I x) → (∀ j, j ≠ 30 → I' 145 j = I 145 j) → Mg I' g n ns nb nf → P (cnA (zN (gO g seed n) n nb nf (fun _ => 0) 30 2) (w + 2) n) I' J) : EI X (d + 5) n_X11_othersOf [.ref 145, .int seed, .int w] I J P := by
  have hn8 := hg.1.2
  refine vc_X11_othersOf ?_
  have key : ∀ m, m ≤ n → ∀ I1 : tI, (∀ x, x ≠ 153 → x ≠ 145 → I1 x = I x) → (∀ j, j ≠ 30 → I1 145 j = I 145 j) → I1 145 30 = sd seed m → Mg I1 (gO g seed m) n ns nb nf → Er X (d + 5) M_X11_othersOf 5 [some (.ref 145), some (.int seed), some (.int w), some (.int (nI m)), none] [] I1 J (qI P) := by
    refine up_loop ?_ ?_
    · intro I1 a1 a2 a3 g1
      refine vc_X11_othersOf_5 ⟨fun _ => ?_, fun hh => ?_⟩
      · refine sp_lives0 g1 (by rw [a2 26 (by omega)]; exact ho) (fun I2 f2 k2 r2 => ?_)
        refine sp_readsSlices (b := b) (t := t) (fun j => by rw [f2 150 (by omega), a1 150 (by omega) (by omega)]; exact hb j) (by rw [f2 151 (by omega), a1 151 (by omega) (by omega)]; exact ht) (fun I3 c1 c2 c3 => ?_)
        rw [← hn] at c1 c2
        have e145 : ∀ j, j ≠ 30 → I3 145 j = I 145 j := fun j hj => by
          by_cases e : j = 9
          · subst e; rw [c1, hg.1.1]
          · rw [c3 145 j (by omega) (fun _ => e), f2 145 (by omega)]; exact a2 j hj
        have ex : ∀ x, (x < 157 ∨ 166 < x) → x ≠ 153 → x ≠ 145 → I3 x = I x := fun x h1 h2 h3 => by
          funext j
          rw [c3 x j h2 (fun e => absurd e h3), f2 x h1, a1 x h2 h3]
        have g3 : Mg I3 g n ns nb nf := by
          obtain ⟨m1, m2, m3, m4, m5, m6, m7, m8, m9, m10, m11, m12⟩ := hg
          unfold Mg
          rw [e145 9 (by omega), e145 7 (by omega), e145 12 (by omega), e145 14 (by omega), ex 152 (by omega) (by omega) (by omega), ex 154 (by omega) (by omega) (by omega), ex 155 (by omega) (by omega) (by omega), ex 156 (by omega) (by omega) (by omega)]
          refine ⟨m1, m2, m3, m4, fun k hk => ?_, m6, m7, m8, m9, m10, m11, m12⟩
          obtain ⟨v1, v2, v3⟩ := hv k hk
          obtain ⟨u1, u2, u3⟩ := c2 k hk
          rw [v1, v2, v3]; exact ⟨u1, u2, u3⟩
        have st : ∀ k, k < n → I3 158 k = zN (gO g seed n) n nb nf (fun _ => 0) 30 2 k := fun k hk => by
          rw [c3 158 k (by omega) (fun e => absurd e (by omega))]; exact (r2.r hk).2.1
        have count : ∀ k, k ≤ n → Er X (d + 5) M_X11_othersOf 31 [some (.ref 145), some (.int seed), some (.int w), some (.int (cnA (zN (gO g seed n) n nb nf (fun _ => 0) 30 2) (w + 2) k)), some (.int (nI k))] [] I3 J (qI P) := by
          refine up_loop ?_ ?_
          · refine vc_X11_othersOf_31 ⟨fun _ => hP I3 ex e145 g3, fun hh => ?_⟩
            rw [g3.1.1] at hh; exact absurd (Int32.le_refl _) hh
          · intro k hk ih
            refine vc_X11_othersOf_31 ⟨fun hh => ?_, fun _ => ⟨ix_nI (by omega) (by omega), ?_⟩⟩
            · rw [g3.1.1, le_nI (by omega) (by omega)] at hh; omega
            rw [tn_nI (k := k) (by omega), nI_1, st k hk]
            rw [cnA] at ih
            refine ⟨fun z y hy => ?_, fun z y hy => ?_⟩
            · rw [if_neg z] at ih
              rw [hy, Int32.add_zero]; exact ih
            · rw [if_pos (Decidable.not_not.mp z)] at ih
              rw [hy]; exact ih
        exact count 0 (Nat.zero_le _)
      · rw [a2 9 (by omega), hg.1.1] at hh; exact absurd (Int32.le_refl _) hh
    · intro m hm ih I1 a1 a2 a3 g1
      refine vc_X11_othersOf_5 ⟨fun hh => ?_, fun _ => sp_lot ?_⟩
      · rw [a2 9 (by omega), hg.1.1, le_nI (by omega) (by omega)] at hh; omega
      rw [a3, nI_mul3, nI_1, nI_1, tn_nI (k := 3 * m + 1) (by omega)]
      refine ⟨ix_nI (k := 3 * m + 1) (by omega) (by omega), ?_⟩
      have e30 : ∀ v j, j ≠ 30 → mm_u I1 145 30 v 145 j = I 145 j := fun v j hj => by rw [mm_u_j hj]; exact a2 j hj
      have g2 : Mg (mm_u I1 145 30 (sd seed (m + 1))) (gO g seed m) n ns nb nf := g1.ex (fun j hj => by rw [mm_u_j hj]) (fun x h1 h2 => by rw [mm_u_k (by omega)])
      refine ih (mm_u (mm_u I1 145 30 (sd seed (m + 1))) 153 (3 * m + 1) (lt1 (sd seed (m + 1)))) (fun x h1 h2 => ?_) (fun j hj => ?_) ?_ (g2.heat hm)
      · rw [mm_u_k h1, mm_u_k h2]; exact a1 x h1 h2
      · rw [mm_u_k (by omega)]; exact e30 _ j hj
      · rw [mm_u_k (by omega), mm_u_s]
  exact key 0 (Nat.zero_le _) _ (fun x _ h2 => by rw [mm_u_k h2]) (fun j hj => by rw [mm_u_j hj]) (by rw [mm_u_s]; rfl) (hg.ex (fun j hj => by rw [mm_u_j hj]) (fun x h1 h2 => by rw [mm_u_k (by omega)]))
end OTHERS3
