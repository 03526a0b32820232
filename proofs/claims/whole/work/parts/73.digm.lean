section DIGM
variable {X : mm_X} {d : Nat} {I I' I'' : tI} {J : tJ} {n ns nb nf nq tr ts : Nat} {g s q : tI}
theorem m_tellsSlice {P : Int64 → tI → tJ → Prop} {k : Nat} {x : Int64} (h : Rl I g q n ns nb nf nq tr ts) (mg : Mg I g n ns nb nf) (hk : k < n) (hP : ∀ I', KM I I' → Mg I' g n ns nb nf → P (slF g q n ns nb nf nq k (slT g n nb nf k x)) I' J) : EL X (d + 21) n_X11_tellsSlice [.ref 145, .long x, .int (nI k)] I J P := by
  have hn8 := h.n8
  refine vc_X11_tellsSlice (sp_lives0 mg h.o (fun I1 f1 kp rm => ?_))
  have m1 := mg.fl f1
  have km1 : KM I I1 := KM.rf.fl f1
  have r1 := h.m km1
  have hx := ix_nI (k := k) (n := 8) (by omega) (by omega)
  have key2 : ∀ j, j ≤ 3 → ∀ (o7 : Option Value), Er X (d + 20 + 1) M_X11_tellsSlice 27 [some (.ref 145), some (.long x), none, some (.int (nI k)), some (.long (slT2 g n nb nf k x j)), none, some (.int (nI j)), o7] [] I1 J (qL P) := by
    refine up_loop ?_ ?_
    · intro o7
      refine vc_X11_tellsSlice_27 ⟨fun _ => ?_, fun z => absurd (by decide) z⟩
      rw [tn_nI (k := k) (by omega), (rm.r hk).2.2.2.2.1, (rm.r hk).2.2.2.2.2.1, (rm.r hk).2.2.2.2.2.2]
      refine ⟨hx, fun y1 e1 => ⟨hx, fun y2 e2 => ⟨hx, fun y3 e3 => ?_⟩⟩⟩
      subst e1 e2 e3
      refine sp_moveOf m1 r1.o hk (fun I2 f2 y4 e4 => ?_)
      subst e4
      rw [if_neg (by decide)]
      have m2 := m1.fl f2
      have km2 := km1.fl f2
      have r2 := h.m km2
      refine sp_moveOf m2 r2.o hk (fun I3 f3 y5 e5 y6 e6 => ?_)
      subst e5 e6
      rw [if_pos (by decide)]
      have m3 := m2.fl f3
      have km3 := km2.fl f3
      have r3 := h.m km3
      refine sp_heatsOf m3 r3.o r3.mq hk (fun I4 f4 y7 e7 => ?_)
      subst e7
      have m4 := m3.fl f4
      have km4 := km3.fl f4
      have r4 := h.m km4
      refine sp_heatsOf m4 r4.o r4.mq hk (fun I5 f5 y8 e8 => ?_)
      subst e8
      have m5 := m4.fl f5
      have km5 := km4.fl f5
      have r5 := h.m km5
      refine sp_slotsOfM m5 r5.o r5.mq hk (fun I6 f6 y9 e9 => ?_)
      subst e9
      have m6 := m5.fl f6
      have km6 := km5.fl f6
      have r6 := h.m km6
      refine sp_windowOf (c := 5) (l := 5) (h := 9) m6 r6.o (by omega) (by omega) hk (by omega) (fun I7 f7 y10 e10 => ?_)
      subst e10
      have m7 := m6.fl f7
      have km7 := km6.fl f7
      have r7 := h.m km7
      refine sp_windowOf (c := 5) (l := 5) (h := 9) m7 r7.o (by omega) (by omega) hk (by omega) (fun I8 f8 => ?_)
      exact hP I8 (km7.fl f8) (m7.fl f8)
    · intro j hj ih o7
      have hu := hr_lt j hj
      have s40 : ∀ s0 : Int32, s0 = nI (hr j) → Er X (d + 20 + 1) M_X11_tellsSlice 40 [some (.ref 145), some (.long x), none, some (.int (nI k)), some (.long (slT2 g n nb nf k x j)), none, some (.int (nI j)), o7] [.int s0] I1 J (qL P) := by
        intro s0 e0
        refine vc_X11_tellsSlice_40 ?_
        rw [e0, mul8', nI_add, tn_nI (by omega), (kp (hr j) k (by omega) hk).1, (kp (hr j) k (by omega) hk).2, nI_1]
        refine ⟨ix_nI (by omega) (by omega), fun y1 e1 => ⟨ix_nI (by omega) (by omega), fun y2 e2 => ?_⟩⟩
        subst e1 e2
        exact ih _
      refine vc_X11_tellsSlice_27 ⟨fun z => ?_, fun _ => ?_⟩
      · rw [show (3 : Int32) = nI 3 from rfl, le_nI (by omega) (by omega)] at z; omega
      rcases (by omega : j = 0 ∨ j = 1 ∨ j = 2) with rfl | rfl | rfl
      · exact ⟨fun z => absurd rfl z, fun _ => s40 0 rfl⟩
      · exact ⟨fun _ => ⟨fun z => absurd rfl z, fun _ => s40 5 rfl⟩, fun z => absurd (by decide) z⟩
      · exact ⟨fun _ => ⟨fun _ => s40 29 rfl, fun z => absurd (by decide) z⟩, fun z => absurd (by decide) z⟩
  have key1 : ∀ j, j ≤ 3 → Er X (d + 20 + 1) M_X11_tellsSlice 6 [some (.ref 145), some (.long x), none, some (.int (nI k)), some (.long (slT1 g k x j)), none, some (.int (nI j)), none] [] I1 J (qL P) := by
    refine up_loop ?_ ?_
    · exact vc_X11_tellsSlice_6 ⟨fun _ => key2 0 (Nat.zero_le _) none, fun z => absurd (by decide) z⟩
    · intro j hj ih
      refine vc_X11_tellsSlice_6 ⟨fun z => ?_, fun _ => ?_⟩
      · rw [show (3 : Int32) = nI 3 from rfl, le_nI (by omega) (by omega)] at z; omega
      have e : I1 153 (3 * k + j) = g (2 + j) k := by
        obtain ⟨u1, u2, u3⟩ := m1.2.2.2.2.1 k hk
        rcases (by omega : j = 0 ∨ j = 1 ∨ j = 2) with rfl | rfl | rfl
        · exact u1
        · exact u2
        · exact u3
      rw [nI_mul3, nI_add, tn_nI (k := 3 * k + j) (by omega), e, nI_1]
      refine ⟨ix_nI (by omega) (by omega), fun y hy => ?_⟩
      subst hy
      exact ih
  exact key1 0 (Nat.zero_le _)
theorem m_digest {P : Int64 → tI → tJ → Prop} (h : Rl I g q n ns nb nf nq tr ts) (hP : ∀ I', KM I I' → P (dgV g q n ns nb nf nq tr ts (I 145 4) (fR (I 134) tr) (fS (I 136) ts)) I' J) : EL X (d + 25) n_X11_digest [.ref 145] I J P := by
  have hn8 := h.n8
  have hns := h.1.2.1.2.1.2
  have key6 : ∀ (x : Int64), (∀ I', KM I I' → P (dg7 g q n nb nf nq (dg6 g n nb nf x 3)) I' J) → ∀ j, j ≤ 3 → ∀ (I1 : tI), KM I I1 → Mg I1 g n ns nb nf → Er X (d + 24 + 1) M_X11_digest 112 [some (.ref 145), some (.long (dg6 g n nb nf x j)), none, some (.int (nI j))] [] I1 J (qL P) := by
    intro x hP
    refine up_loop ?_ ?_
    · intro I1 k1 m1
      have r1 := h.m k1
      refine vc_X11_digest_112 ⟨fun _ => ?_, fun z => absurd (by decide) z⟩
      refine sp_bearNow m1 r1.o (fun I2 f2 y1 e1 => ?_)
      subst e1
      have m2 := m1.fl f2
      have k2 := k1.fl f2
      have r2 := h.m k2
      refine sp_askOf (h := 5) (by omega) m2 r2.o r2.mq (fun I3 f3 y2 e2 => ?_)
      subst e2
      have m3 := m2.fa f3
      have k3 := k2.fa f3
      have r3 := h.m k3
      refine sp_oth r3 m3 (fun I4 f4 m4 y3 e3 => ?_)
      subst e3
      have k4 := k3.then f4
      refine sp_oth (h.m k4) m4 (fun I5 f5 m5 => ?_)
      exact hP I5 (k4.then f5)
    · intro j hj ih I1 k1 m1
      have r1 := h.m k1
      refine vc_X11_digest_112 ⟨fun z => ?_, fun _ => ?_⟩
      · rw [show (3 : Int32) = nI 3 from rfl, le_nI (by omega) (by omega)] at z; omega
      rw [nI_1]
      refine sp_swapBy m1 r1.o (fun I2 f2 y1 e1 => ?_)
      subst e1
      exact ih I2 (k1.fl f2) (m1.fl f2)
  have key4 : ∀ (x : Int64), (∀ I', KM I I' → P (dg7 g q n nb nf nq (dg6 g n nb nf (dg5 g n nb nf (dg4 g q n ns nb nf nq x n)) 3)) I' J) → ∀ k, k ≤ n → ∀ (I1 : tI), KM I I1 → Mg I1 g n ns nb nf → Er X (d + 24 + 1) M_X11_digest 54 [some (.ref 145), some (.long (dg4 g q n ns nb nf nq x k)), none, some (.int (nI k))] [] I1 J (qL P) := by
    intro x hP
    refine up_loop ?_ ?_
    · intro I1 k1 m1
      have r1 := h.m k1
      refine vc_X11_digest_54 ⟨fun _ => ?_, fun z => ?_⟩
      · refine sp_lives0 m1 r1.o (fun I2 f2 kp rm => ?_)
        have m2 := m1.fl f2
        have k2 := k1.fl f2
        refine sp_heldBy (u := 5) (by omega) m2 kp (fun y1 e1 => ?_)
        subst e1
        refine sp_spoiltNow m2.1 (fun k hk => (rm.r hk).2.1) (fun y2 e2 => ?_)
        subst e2
        refine sp_quietNow m2.1 kp (fun y3 e3 => ?_)
        subst e3
        refine sp_crowdBy m2.1 kp (fun y4 e4 => ?_)
        subst e4
        refine sp_crowdBy m2.1 kp (fun y5 e5 => ?_)
        subst e5
        exact key6 _ hP 0 (Nat.zero_le _) I2 k2 m2
      · rw [m1.1.1] at z; exact absurd (Int32.le_refl _) z
    · intro k hk ih I1 k1 m1
      refine vc_X11_digest_54 ⟨fun z => ?_, fun _ => ?_⟩
      · rw [m1.1.1, le_nI (by omega) (by omega)] at z; omega
      rw [nI_1]
      refine m_tellsSlice (h.m k1) m1 hk (fun I2 k2 m2 => ?_)
      exact ih I2 (k1.then k2) m2
  have key3 : ∀ (x : Int64), (∀ I', KM I I' → P (dg7 g q n nb nf nq (dg6 g n nb nf (dg5 g n nb nf (dg4 g q n ns nb nf nq (dg3 g x ns) n)) 3)) I' J) → ∀ (I1 : tI), KM I I1 → Mg I1 g n ns nb nf → ∀ p, p ≤ ns → Er X (d + 24 + 1) M_X11_digest 36 [some (.ref 145), some (.long (dg3 g x p)), none, some (.int (nI p))] [] I1 J (qL P) := by
    intro x hP I1 k1 m1
    refine up_loop ?_ ?_
    · refine vc_X11_digest_36 ⟨fun _ => key4 _ hP 0 (Nat.zero_le _) I1 k1 m1, fun z => ?_⟩
      rw [m1.2.1.1] at z; exact absurd (Int32.le_refl _) z
    · intro p hp ih
      refine vc_X11_digest_36 ⟨fun z => ?_, fun _ => ⟨ix_nI (by omega) (by omega), fun y hy => ?_⟩⟩
      · rw [m1.2.1.1, le_nI (by omega) (by omega)] at z; omega
      rw [tn_nI (k := p) (by omega), m1.2.2.2.2.2.1 p hp] at hy
      subst hy
      rw [nI_1]
      exact ih
  have key1 : ∀ j, j ≤ 8 → ∀ (I1 : tI), KM I I1 → Er X (d + 24 + 1) M_X11_digest 4 [some (.ref 145), some (.long (dg1 g n ns nb nf nq tr ts (I 145 4) j)), none, some (.int (nI j))] [] I1 J (qL P) := by
    refine up_loop ?_ ?_
    · intro I1 k1
      have r1 := h.m k1
      refine vc_X11_digest_4 ⟨fun _ => ?_, fun z => absurd (by decide) z⟩
      refine sp_rR r1 (fun I2 k2 a1 a2 a3 a4 y1 e1 => ?_)
      subst e1
      have r2 := r1.m k2
      refine sp_rS r2 (fun I3 k3 b1 b2 b3 b4 y2 e2 => ?_)
      subst e2
      have r3 := r2.m k3
      have m3 := r3.mg b3 (b1.trans a3) b4 (fun i hi => by rw [b2]; exact a4 i hi)
      rw [k2.1 136 (by omega) (by omega), k1.1 136 (by omega) (by omega), k1.1 134 (by omega) (by omega)]
      exact key3 _ hP I3 ((k1.then k2).then k3) m3 0 (Nat.zero_le _)
    · intro j hj ih I1 k1
      have r1 := h.m k1
      refine vc_X11_digest_4 ⟨fun z => ?_, fun _ => ?_⟩
      · rw [show (8 : Int32) = nI 8 from rfl, le_nI (by omega) (by omega)] at z; omega
      rw [nI_1]
      refine m_count r1 (fun I2 k2 y1 e1 => ?_)
      rw [k1.2 4 (by omega) (by omega) (by omega)] at e1
      subst e1
      exact ih I2 (k1.then k2)
  exact vc_X11_digest (key1 0 (Nat.zero_le _) I KM.rf)
end DIGM
