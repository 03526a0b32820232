section SHEETS3
variable {X : mm_X} {d : Nat} {I I' K L I1 I2 : tI} {J : tJ} {n ns nb nf nq tr ts k s t c : Nat} {g q : tI} {v1 v2 v3 v4 v5 v w : Int32}
/-- from v on there are w items, of z -/
def hasR (z : Nat) (v w : Int32) : Prop := ∃ i m : Nat, v = nI i ∧ w = nI m ∧ i + m ≤ z
theorem sp_hasRun {P : Int32 → tI → tJ → Prop} {z : Nat} (hc : c ∈ mm_shs) (hz : z ≤ 60) (ez : I c 1 = nI z) (h1 : hasR z v w → P 1 I J) (h0 : ¬ hasR z v w → P 0 I J) : EI X d n_X6_hasRun [.ref c, .int v, .int w] I J P := by
  refine vc_X6_hasRun hc ?_
  rw [ez]
  refine ⟨fun a => h0 ?_, fun a => ⟨fun b => h0 ?_, fun b => ?_⟩⟩
  · rintro ⟨i, m, rfl, rfl, e⟩; exact absurd a (nI_pos (by omega))
  · rintro ⟨i, m, rfl, rfl, e⟩; exact absurd b (nI_pos (by omega))
  · obtain ⟨i, hi, rfl⟩ := nI_of a
    obtain ⟨m, hm, rfl⟩ := nI_of b
    have inj : ∀ {i' m' : Nat}, nI i = nI i' → nI m = nI m' → i' + m' ≤ z → i + m ≤ z := fun {i' m'} e1 e2 e3 => by
      rw [nI_eq (by omega) (by omega)] at e1 e2; omega
    rw [nI_ltI (by omega) hi]
    refine ⟨fun c1 => h0 ?_, fun c1 => ?_⟩
    · rintro ⟨i', m', e1, e2, e3⟩; have := inj e1 e2 e3; omega
    · rw [pk_sub (by omega), nI_ltI (by omega) hm]
      refine ⟨fun c2 => h0 ?_, fun c2 => h1 ⟨i, m, rfl, rfl, by omega⟩⟩
      rintro ⟨i', m', e1, e2, e3⟩; have := inj e1 e2 e3; omega
theorem hasR_iff {z : Nat} (hz : z ≤ 60) (a : ¬ v < 0) (b : ¬ w < 0) : hasR z v w ↔ Int32.toInt64 v + Int32.toInt64 w ≤ Int32.toInt64 (nI z) := by
  obtain ⟨i, hi, rfl⟩ := nI_of a
  obtain ⟨m, hm, rfl⟩ := nI_of b
  rw [nI_l hi, nI_l hm, nI_l (by omega), lN_add, pk_lLE (by omega) (by omega)]
  refine ⟨fun ⟨i', m', e1, e2, e3⟩ => ?_, fun h => ⟨i, m, rfl, rfl, h⟩⟩
  rw [nI_eq (by omega) (by omega)] at e1 e2; omega
/-- the reference's two loops -/
theorem m_copy71 {P : Int32 → tI → tJ → Prop} {i j m : Nat} (hs : s < 4) (ht : t < 4) (hi : i + m ≤ 60) (hj : j + m ≤ 60) (hP : ∀ L, (∀ a, a < m → L 148 (60 * t + j + a) = K 148 (60 * s + i + a)) → (∀ y, (y < 60 * t + j ∨ 60 * t + j + m ≤ y) → L 148 y = K 148 y) → (∀ x, x ≠ 148 → x ≠ 149 → L x = K x) → P 1 L J) : Er X (d + 1) M_X11_copy 71 [some (.ref 145), some (.int (nI s)), some (.int (nI i)), some (.int (nI t)), some (.int (nI j)), some (.int (nI m)), some (.int 0)] [] K J (qI P) := by
  have key2 : ∀ L0 : tI, (∀ a, a < m → L0 149 a = K 148 (60 * s + i + a)) → (∀ x, x ≠ 149 → L0 x = K x) → ∀ a, a ≤ m → ∀ L : tI, (∀ b, b < a → L 148 (60 * t + j + b) = K 148 (60 * s + i + b)) → (∀ y, (y < 60 * t + j ∨ 60 * t + j + m ≤ y) → L 148 y = K 148 y) → (∀ x, x ≠ 148 → L x = L0 x) → Er X (d + 1) M_X11_copy 92 [some (.ref 145), some (.int (nI s)), some (.int (nI i)), some (.int (nI t)), some (.int (nI j)), some (.int (nI m)), some (.int (nI a))] [] L J (qI P) := by
    intro L0 z1 z2
    refine up_loop ?_ ?_
    · intro L b1 b2 b3
      exact vc_X11_copy_92 ⟨fun _ => hP L b1 b2 (fun x x1 x2 => by rw [b3 x x1, z2 x x2]), fun y => absurd (Int32.le_refl _) y⟩
    · intro a ha ih L b1 b2 b3
      refine vc_X11_copy_92 ⟨fun y => ?_, fun _ => ⟨ix_nI (by omega) (by omega), ?_⟩⟩
      · rw [le_nI (by omega) (by omega)] at y; omega
      rw [mul60, nI_add, nI_add, nI_1, tn_nI (by omega), tn_nI (by omega), b3 149 (by omega), z1 a ha]
      refine ⟨ix_nI (by omega) (by omega), ih _ (fun b hb => ?_) (fun y hy => by rw [mm_u_j (by omega)]; exact b2 y hy) (fun x hx => by rw [mm_u_k hx]; exact b3 x hx)⟩
      by_cases e : b = a
      · rw [e, mm_u_s]
      · rw [mm_u_j (by omega)]; exact b1 b (by omega)
  have key1 : ∀ a, a ≤ m → ∀ L : tI, (∀ b, b < a → L 149 b = K 148 (60 * s + i + b)) → (∀ x, x ≠ 149 → L x = K x) → Er X (d + 1) M_X11_copy 71 [some (.ref 145), some (.int (nI s)), some (.int (nI i)), some (.int (nI t)), some (.int (nI j)), some (.int (nI m)), some (.int (nI a))] [] L J (qI P) := by
    refine up_loop ?_ ?_
    · intro L b1 b2
      refine vc_X11_copy_71 ⟨fun _ => ?_, fun y => absurd (Int32.le_refl _) y⟩
      exact key2 L b1 b2 0 (Nat.zero_le _) L (fun b hb => absurd hb (Nat.not_lt_zero _)) (fun y _ => by rw [b2 148 (by omega)]) (fun _ _ => rfl)
    · intro a ha ih L b1 b2
      refine vc_X11_copy_71 ⟨fun y => ?_, fun _ => ?_⟩
      · rw [le_nI (by omega) (by omega)] at y; omega
      rw [mul60, nI_add, nI_add, nI_1, tn_nI (by omega), tn_nI (by omega), b2 148 (by omega)]
      refine ⟨ix_nI (by omega) (by omega), ix_nI (by omega) (by omega), ih _ (fun b hb => ?_) (fun x hx => by rw [mm_u_k hx]; exact b2 x hx)⟩
      by_cases e : b = a
      · rw [e, mm_u_s]
      · rw [mm_u_j e]; exact b1 b (by omega)
  exact key1 0 (Nat.zero_le _) K (fun b hb => absurd hb (Nat.not_lt_zero _)) (fun _ _ => rfl)
theorem pb_copy (h : Rl I g q n ns nb nf nq tr ts) : PB X (d + 25) n_X10_copy n_X11_copy [.int v1, .int v2, .int v3, .int v4, .int v5] I J := by
  unfold PB
  have bad : ∀ {dd : Nat}, ¬ (inR v1 0 3 ∧ inR v3 0 3) → EI X (dd + 25) n_X11_copy [.ref 145, .int v1, .int v2, .int v3, .int v4, .int v5] I J (fun y I2 _ => y = -2 ∧ RR I2) := fun z => vc_X11_copy (sp_mSheet (fun a => ⟨fun z => absurd z ne10, fun _ => sp_mSheet (fun b => absurd ⟨a, b⟩ z) (fun _ => ⟨fun z => absurd rfl z, fun _ => ⟨rfl, h.r⟩⟩)⟩) (fun _ => ⟨fun _ => ⟨rfl, h.r⟩, fun z => absurd rfl z⟩))
  refine vc_X10_copy (sp_cSheet (fun a => ⟨fun z => absurd z ne10, fun _ => sp_cSheet (fun b => ⟨fun _ => ?_, fun z => absurd ne10 z⟩) (fun b => ⟨fun z => absurd rfl z, fun _ => bad (fun z => b z.2)⟩)⟩) (fun a => ⟨fun _ => bad (fun z => a z.1), fun z => absurd rfl z⟩))
  have a' := a
  have b' := b
  obtain ⟨s, hs', rfl⟩ := in_nat (m := 3) (by omega) a
  obtain ⟨t, ht', rfl⟩ := in_nat (m := 3) (by omega) b
  have hs : s < 4 := by omega
  have ht : t < 4 := by omega
  have hxs := ix_nI (k := s) (n := 4) (by omega) (by omega)
  have hxt := ix_nI (k := t) (n := 4) (by omega) (by omega)
  have shs := h.shs hs
  have sht := h.shs ht
  rw [tn_nI (k := s) (by omega), tn_nI (k := t) (by omega)]
  -- the reference, with its first tests behind it
  have e146 : ∀ f, mm_u I 0 10 f 146 = I 146 := fun f => mm_u_k (by omega)
  have e147 : ∀ f, mm_u I 0 10 f 147 = I 147 := fun f => mm_u_k (by omega)
  refine ⟨hxs, 137 + 2 * s, r132 s hs, shm s hs, hxt, 137 + 2 * t, r132 t ht, shm t ht, vc_X6_isLost (shm s hs) ⟨fun es => ⟨fun z => absurd rfl z, fun _ => ?_⟩, fun es => ⟨fun _ => vc_X10_found ?_, fun z => absurd ne10 z⟩⟩⟩
  · refine vc_X6_isLost (shm t ht) ⟨fun et => ⟨fun _ => ?_, fun z => absurd rfl z⟩, fun et => ⟨fun z => absurd z ne10, fun _ => vc_X10_found ?_⟩⟩
    · rcases shs.2 with w | ⟨_, zs, zs1, zs2, zs3, zs4⟩
      · exact absurd w es
      rcases sht.2 with w | ⟨ft, zt, zt1, zt2, zt3, zt4⟩
      · exact absurd w et
      have ges : 0 ≤ I 146 s := shs.ge.mpr es
      have get : 0 ≤ I 146 t := sht.ge.mpr et
      refine ⟨fun ef => ?_, fun ef => vc_X10_found ?_⟩
      · -- the reference behind its forms, wherever the class stands
        have tail : ∀ {K : tI} {P : Int32 → tI → tJ → Prop}, K 146 = I 146 → K 147 = I 147 → (¬ (hasR zs v2 v5 ∧ hasR zt v4 v5) → P ((-10) - 2) (mm_u K 145 4 2) J) → (hasR zs v2 v5 → hasR zt v4 v5 → Er X (d + 24 + 1) M_X11_copy 71 [some (.ref 145), some (.int (nI s)), some (.int v2), some (.int (nI t)), some (.int v4), some (.int v5), some (.int 0)] [] K J (qI P)) → EI X (d + 25) n_X11_copy [.ref 145, .int (nI s), .int v2, .int (nI t), .int v4, .int v5] K J P := by
          intro K P k1 k2 hno hyes
          refine vc_X11_copy (sp_mSheet (fun _ => ⟨fun z => absurd z ne10, fun _ => sp_mSheet (fun _ => ⟨fun _ => ?_, fun z => absurd ne10 z⟩) (fun z => absurd b' z)⟩) (fun z => absurd a' z))
          rw [tn_nI (k := s) (by omega), tn_nI (k := t) (by omega), k1, k2, zs3, zt3]
          refine ⟨hxs, fun z => absurd ges (Int32.not_le.mpr z), fun _ => ⟨hxt, fun _ => ⟨hxs, hxt, fun _ => ⟨fun c1 => vc_X11_finds (hno ?_), fun c1 => ⟨fun c2 => vc_X11_finds (hno ?_), fun c2 => ⟨fun c3 => vc_X11_finds (hno ?_), fun c3 => ⟨hxs, fun c4 => vc_X11_finds (hno ?_), fun c4 => ⟨hxt, fun c5 => hyes ?_ ?_, fun c5 => vc_X11_finds (hno ?_)⟩⟩⟩⟩⟩, fun z => absurd (by rw [shs.1, sht.1]; exact ef) z⟩, fun z => absurd get z⟩⟩
          · rintro ⟨⟨i, m, rfl, rfl, e⟩, _⟩; exact absurd c1 (nI_pos (by omega))
          · rintro ⟨_, ⟨i, m, rfl, rfl, e⟩⟩; exact absurd c2 (nI_pos (by omega))
          · rintro ⟨⟨i, m, rfl, rfl, e⟩, _⟩; exact absurd c3 (nI_pos (by omega))
          · rintro ⟨x, _⟩
            exact absurd ((hasR_iff zs1 c1 c3).mp x) (Int64.not_le.mpr ((lg_cmp_gt _ _).mp c4))
          · exact (hasR_iff zs1 c1 c3).mpr (Int64.not_lt.mp (fun y => c4 ((lg_cmp_gt _ _).mpr y)))
          · exact (hasR_iff zt1 c2 c3).mpr ((lg_cmp_le _ _).mp c5)
          · rintro ⟨_, x⟩
            exact absurd ((lg_cmp_le _ _).mpr ((hasR_iff zt1 c2 c3).mp x)) c5
        refine sp_hasRun (shm s hs) zs1 zs2 (fun r1 => ⟨fun z => absurd z ne10, fun _ => sp_hasRun (shm t ht) zt1 zt2 (fun r2 => ⟨fun _ => ?_, fun z => absurd ne10 z⟩) (fun r2 => ⟨fun z => absurd rfl z, fun _ => vc_X10_found (tail (e146 _) (e147 _) (fun _ => ⟨rfl, h.fd 2⟩) (fun _ z => absurd z r2))⟩)⟩) (fun r1 => ⟨fun _ => vc_X10_found (tail (e146 _) (e147 _) (fun _ => ⟨rfl, h.fd 2⟩) (fun z _ => absurd z r1)), fun z => absurd rfl z⟩)
        have r1' := r1
        have r2' := r2
        obtain ⟨i, m, rfl, rfl, hi⟩ := r1
        obtain ⟨j, m', rfl, em, hj⟩ := r2
        have em' : m = m' := by
          rw [nI_eq (by omega) (by omega)] at em; exact em
        subst em'
        rw [tn_nI (by omega), tn_nI (by omega), tn_nI (by omega)]
        refine ⟨⟨nI_pos (by omega), nI_pos (by omega), nI_pos (by omega), by omega, by omega⟩, fun K hK => ?_⟩
        have fk : ∀ x, x ≠ 137 + 2 * t + 1 → K x = I x := fun x hx => by rw [hK, mm_z_k hx]
        have k0 : K (137 + 2 * t + 1) = va_cpy (I (137 + 2 * s + 1)) (I (137 + 2 * t + 1)) i j m := by rw [hK, mm_z_s]
        refine tail (fk 146 (by omega)) (fk 147 (by omega)) (fun z => absurd ⟨r1', r2'⟩ z) (fun _ _ => ?_)
        refine m_copy71 hs ht (by omega) (by omega) (fun L l1 l2 l3 => ⟨rfl, ?_⟩)
        have fl : ∀ x, x ≠ 148 → x ≠ 149 → x ≠ 137 + 2 * t + 1 → L x = I x := fun x x1 x2 x3 => by rw [l3 x x1 x2, fk x x3]
        refine h.sh (fun s' hs' => ?_) ?_ ?_ ?_
        · by_cases est : s' = t
          · subst est
            unfold Sh
            rw [fl 146 (by omega) (by omega) (by omega), fl 147 (by omega) (by omega) (by omega), fl (137 + 2 * s') (by omega) (by omega) (by omega), l3 (137 + 2 * s' + 1) (by omega) (by omega), k0]
            refine ⟨sht.1, Or.inr ⟨ft, zt, zt1, zt2, zt3, fun y hy => ?_⟩⟩
            show _ = if j ≤ y ∧ y < j + m then I (137 + 2 * s + 1) (i + (y - j)) else I (137 + 2 * s' + 1) y
            by_cases e : j ≤ y ∧ y < j + m
            · rw [if_pos e]
              have w := l1 (y - j) (by omega)
              rw [show 60 * s' + j + (y - j) = 60 * s' + y by omega, fk 148 (by omega), show 60 * s + i + (y - j) = 60 * s + (i + (y - j)) by omega, zs4 _ (by omega)] at w
              exact w
            · rw [if_neg e, l2 _ (by omega), fk 148 (by omega)]
              exact zt4 y hy
          · refine (h.shs hs').keep hs' (fun j _ => ?_) ?_ ?_ ?_ (fun y y1 y2 => ?_)
            · rw [fl _ (by omega) (by omega) (by omega)]
            · rw [fl _ (by omega) (by omega) (by omega)]
            · rw [fl _ (by omega) (by omega) (by omega)]
            · rw [fl _ (by omega) (by omega) (by omega)]
            · rw [l2 y (by omega), fk 148 (by omega)]
        · rw [fl 0 (by omega) (by omega) (by omega), fl 145 (by omega) (by omega) (by omega)]; exact h.fi
        · intro j _; rw [fl 145 (by omega) (by omega) (by omega)]
        · intro x hx; rw [fl x (by omega) (by omega) (by omega)]
      · refine vc_X11_copy (sp_mSheet (fun _ => ⟨fun z => absurd z ne10, fun _ => sp_mSheet (fun _ => ⟨fun _ => ?_, fun z => absurd ne10 z⟩) (fun z => absurd b' z)⟩) (fun z => absurd a' z))
        rw [tn_nI (k := s) (by omega), tn_nI (k := t) (by omega), e146]
        exact ⟨hxs, fun z => absurd ges (Int32.not_le.mpr z), fun _ => ⟨hxt, fun _ => ⟨hxs, hxt, fun z => absurd (by rw [shs.1, sht.1] at z; exact z) ef, fun _ => vc_X11_finds ⟨rfl, h.fd 4⟩⟩, fun z => absurd get z⟩⟩
    · refine vc_X11_copy (sp_mSheet (fun _ => ⟨fun z => absurd z ne10, fun _ => sp_mSheet (fun _ => ⟨fun _ => ?_, fun z => absurd ne10 z⟩) (fun z => absurd b' z)⟩) (fun z => absurd a' z))
      rw [tn_nI (k := s) (by omega), tn_nI (k := t) (by omega), e146]
      exact ⟨hxs, fun _ => vc_X11_finds ⟨rfl, h.fd 1⟩, fun _ => ⟨hxt, fun z => absurd (sht.ge.mp z) et, fun _ => vc_X11_finds ⟨rfl, h.fd 1⟩⟩⟩
  · refine vc_X11_copy (sp_mSheet (fun _ => ⟨fun z => absurd z ne10, fun _ => sp_mSheet (fun _ => ⟨fun _ => ?_, fun z => absurd ne10 z⟩) (fun z => absurd b' z)⟩) (fun z => absurd a' z))
    rw [tn_nI (k := s) (by omega), tn_nI (k := t) (by omega), e146]
    exact ⟨hxs, fun _ => vc_X11_finds ⟨rfl, h.fd 1⟩, fun z => absurd (Int32.not_lt.mp z) (fun y => es (shs.ge.mp y))⟩
end SHEETS3
