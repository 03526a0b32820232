/-! ===== the next to touch, by the reference ===== -/
section ASK2
/-- only the reference's cells of a life, and its tally, have changed -/
def FA (I I' : tI) : Prop := ∀ x, (x < 157 ∨ 166 < x) → x ≠ 168 → I' x = I x
variable {X : mm_X} {d : Nat} {I I' : tI} {J : tJ} {n ns nb nf nq : Nat} {g s q : tI}
theorem Mg.fa (h : Mg I g n ns nb nf) (hf : FA I I') : Mg I' g n ns nb nf := by
  unfold Mg
  rw [hf 145 (by omega) (by omega), hf 153 (by omega) (by omega), hf 152 (by omega) (by omega), hf 154 (by omega) (by omega), hf 155 (by omega) (by omega), hf 156 (by omega) (by omega)]
  exact h
theorem mul4' (h : Nat) : 4 * nI h = nI (4 * h) := pk_mul 4 h
theorem sp_askOf {P : Int32 → tI → tJ → Prop} {h : Nat} (hh : h < 30) (hg : Mg I g n ns nb nf) (ho : I 145 26 = 0) (hq : Mq I q nq) (hP : ∀ I', FA I I' → P (la (tY n nb nf nq g q h 10) n).1 I' J) : EI X (d + 6) n_X11_askOf [.ref 145, .int (nI h)] I J P := by
  have hn8 := hg.1.2
  refine vc_X11_askOf (fun y hy => ?_)
  rw [show tn 1 = 1 from rfl] at hy
  subst hy
  -- the least of the greatest
  have third : ∀ I1 : tI, FA I I1 → (∀ j, j < 32 → I1 168 j = tY n nb nf nq g q h 10 j) → ∀ k, k ≤ n → ∀ (b l : Int32) (o o' : Option Value), (k = 0 ∧ b = -1 ∨ 0 < k ∧ b = (la (tY n nb nf nq g q h 10) k).1 ∧ l = (la (tY n nb nf nq g q h 10) k).2 ∧ b ≠ -1) → Er X (d + 6) M_X11_askOf 72 [some (.ref 145), some (.int (nI h)), some (.int (I 154 1)), some (.int b), some (.int l), some (.int (nI k)), o, o'] [] I1 J (qI P) := by
    intro I1 f1 t1
    have tle := tY_le (n := n) (nb := nb) (nf := nf) (nq := nq) (g := g) (q := q) (h := h) 10
    generalize tY n nb nf nq g q h 10 = t at hP t1 tle ⊢
    have n1 := (hg.fa f1).1
    refine up_loop ?_ ?_
    · intro b l o o' hb
      refine vc_X11_askOf_72 ⟨fun _ => ?_, fun hh => ?_⟩
      · have e : b = (la t n).1 := by
          rcases hb with ⟨e, hb⟩ | ⟨-, hb, -⟩
          · rw [e, hb]; rfl
          · exact hb
        rw [e]; exact hP I1 f1
      · rw [n1.1] at hh; exact absurd (Int32.le_refl _) hh
    · intro k hk ih b l o o' hb
      refine vc_X11_askOf_72 ⟨fun hh => ?_, fun _ => ?_⟩
      · rw [n1.1, le_nI (by omega) (by omega)] at hh; omega
      have inner : ∀ j, j ≤ 4 → Er X (d + 6) M_X11_askOf 80 [some (.ref 145), some (.int (nI h)), some (.int (I 154 1)), some (.int b), some (.int l), some (.int (nI k)), some (.int (m4 t k j)), some (.int (nI j))] [] I1 J (qI P) := by
        refine up_loop ?_ ?_
        · have hla : la t (k + 1) = if m4 t k 4 < (la t k).2 then (nI k, m4 t k 4) else la t k := rfl
          have yes : m4 t k 4 < (la t k).2 → Er X (d + 6) M_X11_askOf 111 [some (.ref 145), some (.int (nI h)), some (.int (I 154 1)), some (.int b), some (.int l), some (.int (nI k)), some (.int (m4 t k 4)), some (.int 1)] [.int (nI k)] I1 J (qI P) := fun z => by
            rw [if_pos z] at hla
            refine vc_X11_askOf_111 ⟨fun z => absurd z (by decide), fun _ => ?_⟩
            rw [nI_1]
            exact ih _ _ _ _ (Or.inr ⟨by omega, by rw [hla], by rw [hla], nI_ne (by omega)⟩)
          refine vc_X11_askOf_80 ⟨fun _ => ⟨fun z => ⟨fun z => absurd z (by decide), fun _ => yes ?_⟩, fun z => ?_⟩, fun hh => absurd (by decide) hh⟩
          · rcases hb with ⟨e, -⟩ | ⟨-, -, -, hb⟩
            · subst e
              obtain ⟨c, c1, c2⟩ := m4_le (k := 0) tle 4
              rw [c2]
              show nI c < nI 11
              rw [lt_nI (by omega) (by omega)]; omega
            · exact absurd z hb
          · obtain ⟨k0, hb1, hb2, hb3⟩ := hb.resolve_left (fun u => z u.2)
            refine ⟨fun u => ⟨fun _ => ?_, fun z => absurd rfl z⟩, fun u => ⟨fun z => absurd z (by decide), fun _ => yes (by rw [← hb2]; exact Int32.not_le.mp u)⟩⟩
            rw [hb2] at u
            rw [if_neg (Int32.not_lt.mpr u)] at hla
            refine vc_X11_askOf_111 ⟨fun _ => ?_, fun z => absurd rfl z⟩
            rw [nI_1]
            exact ih _ _ _ _ (Or.inr ⟨by omega, by rw [hla]; exact hb1, by rw [hla]; exact hb2, hb3⟩)
        · intro j hj ih2
          refine vc_X11_askOf_80 ⟨fun hh => ?_, fun _ => ?_⟩
          · rw [show (4 : Int32) = nI 4 from rfl, le_nI (by omega) (by omega)] at hh; omega
          rw [mul4', show nI (4 * k) + nI j = nI (4 * k + j) from nI_add _ _, tn_nI (k := 4 * k + j) (by omega), nI_1, t1 _ (by omega)]
          exact ⟨ix_nI (by omega) (by omega), sp_greater ih2⟩
      exact inner 0 (by omega)
  have second : ∀ v, v ≤ 10 → ∀ (o o' : Option Value) (I1 : tI), (∀ x, (x < 157 ∨ 166 < x) → x ≠ 168 → x ≠ 154 → I1 x = I x) → (∀ j, j ≠ 1 → I1 154 j = I 154 j) → (∀ j, j < 32 → I1 168 j = tY n nb nf nq g q h v j) → Er X (d + 6) M_X11_askOf 19 [some (.ref 145), some (.int (nI h)), some (.int (I 154 1)), some (.int (nI v)), o, o', none, none] [] I1 J (qI P) := by
    refine up_loop ?_ ?_
    · intro o o' I1 a1 a2 a3
      refine vc_X11_askOf_19 ⟨fun _ => ?_, fun hh => absurd (by decide) hh⟩
      rw [show tn 1 = 1 from rfl]
      refine third _ (fun x h1 h2 => ?_) (fun j hj => by rw [mm_u_k (by omega)]; exact a3 j hj) 0 (Nat.zero_le _) (-1) 0 none none (Or.inl ⟨rfl, rfl⟩)
      by_cases e : x = 154
      · subst e
        funext j
        by_cases e2 : j = 1
        · subst e2; rw [mm_u_s]
        · rw [mm_u_j e2]; exact a2 j e2
      · rw [mm_u_k e]; exact a1 x h1 h2 e
    · intro v hv ih o o' I1 a1 a2 a3
      refine vc_X11_askOf_19 ⟨fun hh => ?_, fun _ => ?_⟩
      · rw [show (10 : Int32) = nI 10 from rfl, le_nI (by omega) (by omega)] at hh; omega
      rw [show tn 1 = 1 from rfl]
      have eqf : FA (mm_u I 154 1 (nI v)) (mm_u I1 154 1 (nI v)) := fun x h1 h2 => by
        by_cases e : x = 154
        · subst e
          funext j
          by_cases e2 : j = 1
          · subst e2; rw [mm_u_s, mm_u_s]
          · rw [mm_u_j e2, mm_u_j e2]; exact a2 j e2
        · rw [mm_u_k e, mm_u_k e]; exact a1 x h1 h2 e
      have g1 := (hg.summer (v := nI v)).fa eqf
      have q1 : Mq (mm_u I1 154 1 (nI v)) q nq := by
        unfold Mq
        rw [mm_u_k (by omega), mm_u_k (by omega), a1 145 (by omega) (by omega) (by omega), a1 167 (by omega) (by omega) (by omega)]; exact hq
      have fr : ∀ I2, FL (mm_u I1 154 1 (nI v)) I2 → (∀ x, (x < 157 ∨ 166 < x) → x ≠ 168 → x ≠ 154 → I2 x = I x) ∧ (∀ j, j ≠ 1 → I2 154 j = I 154 j) ∧ I2 168 = I1 168 := fun I2 f2 => ⟨fun x h1 h2 e => by rw [f2 x h1, mm_u_k e]; exact a1 x h1 h2 e, fun j e => by rw [f2 154 (by omega), mm_u_j e]; exact a2 j e, by rw [f2 168 (by omega), mm_u_k (by omega)]⟩
      rw [tY] at ih
      refine sp_isSeen g1 (by rw [mm_u_k (by omega), a1 145 (by omega) (by omega) (by omega)]; exact ho) q1 (fun I2 f2 k2 c => ?_) (fun I2 f2 c => ?_)
      · obtain ⟨b1, b2, b3⟩ := fr I2 f2
        rw [if_pos c] at ih
        have hst := (un_N (g := mm_u g 5 1 (nI v)) (n := n) (nb := nb) (nf := nf) (fun _ => 0) (h + 1)).2.2
        have k2' : ∀ k, k < n → I2 163 (8 * h + k) = zN (mm_u g 5 1 (nI v)) n nb nf (fun _ => 0) (h + 1) 2 k := fun k hk => (k2 h k hh hk).2
        generalize zN (mm_u g 5 1 (nI v)) n nb nf (fun _ => 0) (h + 1) 2 = st at ih hst k2'
        generalize tY n nb nf nq g q h v = t at ih a3
        have count : ∀ k, k ≤ n → ∀ I3 : tI, (∀ x, x ≠ 168 → I3 x = I2 x) → (∀ j, j < 32 → I3 168 j = bmp st k t j) → Er X (d + 6) M_X11_askOf 32 [some (.ref 145), some (.int (nI h)), some (.int (I 154 1)), some (.int (nI v)), some (.int 1), some (.int (nI k)), none, none] [] I3 J (qI P) := by
          refine up_loop ?_ ?_
          · intro I3 e3 t3
            refine vc_X11_askOf_32 ⟨fun _ => ?_, fun hh => ?_⟩
            · rw [nI_1]
              exact ih _ _ I3 (fun x h1 h2 e => by rw [e3 x h2]; exact b1 x h1 h2 e) (fun j e => by rw [e3 154 (by omega)]; exact b2 j e) t3
            · rw [e3 145 (by omega), b1 145 (by omega) (by omega) (by omega), hg.1.1] at hh; exact absurd (Int32.le_refl _) hh
          · intro k hk ih2 I3 e3 t3
            obtain ⟨t4, te⟩ := tn3 hst hk
            refine vc_X11_askOf_32 ⟨fun hh => ?_, fun _ => ⟨fun z => absurd z (by decide), fun _ => ?_⟩⟩
            · rw [e3 145 (by omega), b1 145 (by omega) (by omega) (by omega), hg.1.1, le_nI (by omega) (by omega)] at hh; omega
            rw [show (8 : Int32) * nI h = nI (8 * h) from pk_mul 8 h, show nI (8 * h) + nI k = nI (8 * h + k) from nI_add _ _, tn_nI (k := 8 * h + k) (by omega), e3 163 (by omega), k2' k hk, te, mul4', show nI (4 * k) + nI (tn (st k)) = nI (4 * k + tn (st k)) from nI_add _ _, tn_nI (k := 4 * k + tn (st k)) (by omega), nI_1 k]
            refine ⟨ix_nI (by omega) (by omega), ix_nI (by omega) (by omega), ix_nI (by omega) (by omega), ih2 _ (fun x hx => by rw [mm_u_k hx]; exact e3 x hx) (fun j hj => ?_)⟩
            rw [bmp_step t4]
            by_cases e : j = 4 * k + tn (st k)
            · rw [if_pos e, ← e, mm_u_s, t3 j hj]
            · rw [if_neg e, mm_u_j e]; exact t3 j hj
        refine count 0 (Nat.zero_le _) I2 (fun _ _ => rfl) (fun j hj => ?_)
        unfold bmp
        rw [if_neg (fun z => absurd z.1 (Nat.not_lt_zero _)), b3]; exact a3 j hj
      · obtain ⟨b1, b2, b3⟩ := fr I2 f2
        rw [if_neg c] at ih
        have go := fun (o o' : Option Value) => ih o o' I2 b1 b2 (fun j hj => by rw [b3]; exact a3 j hj)
        refine vc_X11_askOf_32 ⟨fun _ => ?_, fun _ => ⟨fun _ => ?_, fun z => absurd rfl z⟩⟩
        · rw [nI_1]; exact go _ _
        · rw [nI_1]; exact go _ _
  have first : ∀ m, m ≤ 32 → ∀ I1 : tI, (∀ x, x ≠ 168 → I1 x = I x) → (∀ j, j < m → I1 168 j = 0) → Er X (d + 6) M_X11_askOf 7 [some (.ref 145), some (.int (nI h)), some (.int (I 154 1)), some (.int (nI m)), none, none, none, none] [] I1 J (qI P) := by
    refine up_loop ?_ ?_
    · intro I1 a1 a2
      refine vc_X11_askOf_7 ⟨fun _ => ?_, fun hh => absurd (by decide) hh⟩
      exact second 0 (by omega) _ _ I1 (fun x h1 h2 e => a1 x h2) (fun j e => by rw [a1 154 (by omega)]) a2
    · intro m hm ih I1 a1 a2
      refine vc_X11_askOf_7 ⟨fun hh => ?_, fun _ => ⟨ix_nI (by omega) (by omega), ?_⟩⟩
      · rw [show (32 : Int32) = nI 32 from rfl, le_nI (by omega) (by omega)] at hh; omega
      rw [tn_nI (k := m) (by omega), nI_1]
      refine ih _ (fun x hx => by rw [mm_u_k hx]; exact a1 x hx) (fun j hj => ?_)
      by_cases e : j = m
      · rw [e, mm_u_s]
      · rw [mm_u_j e]; exact a2 j (by omega)
  exact first 0 (by omega) I (fun _ _ => rfl) (fun j hj => absurd hj (Nat.not_lt_zero _))
end ASK2
