section WRITE
variable {X : mm_X} {d : Nat} {I I' K L I1 I2 : tI} {J : tJ} {n ns nb nf nq tr ts k s t c : Nat} {g q : tI} {v1 v2 v3 v4 v5 v : Int32}
/-- all but sheets, findings, the log and what was seen -/
def RlW (I g : tI) (n ns nb nf tr ts : Nat) : Prop :=
  Sg I g n ns nb nf ∧
  (I 133 1 = nI tr ∧ tr ≤ 10 ∧ I 151 0 = nI tr ∧ ∀ j, j < tr → I 150 j = I 134 j) ∧
  (I 135 1 = nI ts ∧ ts ≤ 39 ∧ I 151 1 = nI ts ∧ ∀ j, j < ts → I 150 (40 + j) = I 136 j) ∧
  (ns = nR (I 134) tr ∧ ∀ i, i < ns → I 3 i = vD (I 134) i) ∧
  (n = nS (I 136) ts ∧ ∀ i, i < n → I 4 i = vK (I 136) i ∧ I 5 i = vH (I 136) i ∧ I 6 i = vP (I 136) i) ∧
  (∀ j, j < 3 → I 154 j = I 7 j) ∧
  (I 145 12 = nI nb ∧ ∀ k, k < nb → I 155 (2 * k) = I 8 k ∧ I 155 (2 * k + 1) = I 9 k) ∧
  (I 145 14 = nI nf ∧ ∀ k, k < nf → I 156 k = I 10 k) ∧
  I 145 26 = 0
theorem Rl.w (h : Rl I g q n ns nb nf nq tr ts) (f : ∀ x, (x < 137 ∨ 144 < x) → I' x = I x) : RlW I' g n ns nb nf tr ts := by
  obtain ⟨h1, h2, h3, h4, h5, h6, h7, h8, h9, h10, h11, h12, h13, h14⟩ := h
  refine ⟨h1.eq (fun x a b => f x (by omega)), ?_, ?_, ?_, ?_, ?_, ?_, ?_, ?_⟩
  · rw [f 133 (by omega), f 151 (by omega), f 150 (by omega), f 134 (by omega)]; exact h2
  · rw [f 135 (by omega), f 151 (by omega), f 150 (by omega), f 136 (by omega)]; exact h3
  · rw [f 134 (by omega), f 3 (by omega)]; exact h4
  · rw [f 136 (by omega), f 4 (by omega), f 5 (by omega), f 6 (by omega)]; exact h5
  · rw [f 154 (by omega), f 7 (by omega)]; exact h6
  · rw [f 145 (by omega), f 155 (by omega), f 8 (by omega), f 9 (by omega)]; exact h7
  · rw [f 145 (by omega), f 156 (by omega), f 10 (by omega)]; exact h8
  · rw [f 145 (by omega)]; exact h9
theorem RlW.m (h : RlW I g n ns nb nf tr ts) (k : KM I I') : RlW I' g n ns nb nf tr ts := by
  obtain ⟨h1, h2, h3, h4, h5, h6, h7, h8, h9⟩ := h
  have e := k.1
  have e5 := k.2
  refine ⟨h1.eq (fun x a b => e x (by omega) (by omega)), ?_, ?_, ?_, ?_, ?_, ?_, ?_, ?_⟩
  · rw [e 133 (by omega) (by omega), e 151 (by omega) (by omega), e 150 (by omega) (by omega), e 134 (by omega) (by omega)]; exact h2
  · rw [e 135 (by omega) (by omega), e 151 (by omega) (by omega), e 150 (by omega) (by omega), e 136 (by omega) (by omega)]; exact h3
  · rw [e 134 (by omega) (by omega), e 3 (by omega) (by omega)]; exact h4
  · rw [e 136 (by omega) (by omega), e 4 (by omega) (by omega), e 5 (by omega) (by omega), e 6 (by omega) (by omega)]; exact h5
  · rw [e 154 (by omega) (by omega), e 7 (by omega) (by omega)]; exact h6
  · rw [e5 12 (by omega) (by omega) (by omega), e 155 (by omega) (by omega), e 8 (by omega) (by omega), e 9 (by omega) (by omega)]; exact h7
  · rw [e5 14 (by omega) (by omega) (by omega), e 156 (by omega) (by omega), e 10 (by omega) (by omega)]; exact h8
  · rw [e5 26 (by omega) (by omega) (by omega)]; exact h9
theorem sp_rRw {P : Int32 → tI → tJ → Prop} (h : RlW I g n ns nb nf tr ts) (hP : ∀ I', KM I I' → I' 145 7 = nI ns → (∀ i, i < ns → I' 152 i = g 1 i) → P (fR (I 134) tr) I' J) : EI X (d + 2) n_X11_readsRack [.ref 145] I J P := by
  have t1 := h.2.1
  have r1 := h.2.2.2.1
  have eb : ∀ j, j < tr → I 150 j = I 134 j := t1.2.2.2
  refine sp_readsRack (t := tr) ⟨t1.2.2.1, t1.2.1⟩ (fun I' a1 a2 a3 => ?_)
  rw [fR_congr eb]
  have en : nR (I 150) tr = ns := (nR_congr eb).trans r1.1.symm
  rw [en] at a1 a2
  refine hP I' ⟨fun x h1 h2 => ?_, fun j h1 h2 h3 => a3 145 j (by omega) (fun _ => h1)⟩ a1 (fun i hi => ?_)
  · funext j; exact a3 x j (by omega) (fun e => absurd e h1)
  · rw [a2 i hi, vD_congr eb (by rw [en]; exact hi), ← r1.2 i hi, ← h.1.1]; rfl
theorem sp_rSw {P : Int32 → tI → tJ → Prop} (h : RlW I g n ns nb nf tr ts) (hP : ∀ I', KM I I' → I' 145 7 = I 145 7 → I' 152 = I 152 → I' 145 9 = nI n → (∀ i, i < n → I' 153 (3 * i) = g 2 i ∧ I' 153 (3 * i + 1) = g 3 i ∧ I' 153 (3 * i + 2) = g 4 i) → P (fS (I 136) ts) I' J) : EI X (d + 3) n_X11_readsSlices [.ref 145] I J P := by
  have t1 := h.2.2.1
  have r1 := h.2.2.2.2.1
  have eb : ∀ j, j < ts → (fun j => I 150 (40 + j)) j = I 136 j := t1.2.2.2
  refine sp_readsSlices (b := fun j => I 150 (40 + j)) (t := ts) (fun _ => rfl) ⟨t1.2.2.1, t1.2.1⟩ (fun I' a1 a2 a3 => ?_)
  rw [fS_congr eb]
  have en : nS (fun j => I 150 (40 + j)) ts = n := (nS_congr eb).trans r1.1.symm
  rw [en] at a1 a2
  refine hP I' ⟨fun x h1 h2 => ?_, fun j h1 h2 h3 => a3 145 j (by omega) (fun _ => h2)⟩ (a3 145 7 (by omega) (fun _ => by omega)) ?_ a1 (fun i hi => ?_)
  · funext j; exact a3 x j (by omega) (fun e => absurd e h1)
  · funext j; exact a3 152 j (by omega) (fun e => absurd e (by omega))
  · obtain ⟨c1, c2, c3⟩ := vS_congr eb (i := i) (by rw [en]; exact hi)
    obtain ⟨u1, u2, u3⟩ := a2 i hi
    obtain ⟨w1, w2, w3⟩ := r1.2 i hi
    rw [u1, u2, u3, c1, c2, c3, ← w1, ← w2, ← w3, ← h.1.1]
    exact ⟨rfl, rfl, rfl⟩
theorem sp_findW {P : tI → tJ → Prop} (h : RlW I g n ns nb nf tr ts) (hP : ∀ I', KM I I' → Mg I' g n ns nb nf → Kp n 30 I' (zN g n nb nf (fun _ => 0)) → P I' J) : EV X (d + 5) n_X11_find [.ref 145] I J P := by
  refine vc_X11_find (sp_rRw h (fun I1 k1 e3 e4 => ?_))
  refine sp_rSw (h.m k1) (fun I2 k2 f1 f2 f3 f4 => ?_)
  have h2 := (h.m k1).m k2
  have m2 : Mg I2 g n ns nb nf := by
    obtain ⟨⟨e, gd, gp⟩, a2, a3, a4, a5, a6, a7, a8, a9⟩ := h2
    obtain ⟨d1, d2, d3, d4, d5, d6⟩ := gd
    subst e
    exact ⟨⟨f3, d1.2⟩, ⟨f1.trans e3, d2.2⟩, ⟨a7.1, d3.2⟩, ⟨a8.1, d4.2⟩, f4, (fun i hi => by rw [f2]; exact e4 i hi), a6, a7.2, a8.2, d2.1, d5, d6⟩
  refine sp_lives0 m2 h2.2.2.2.2.2.2.2.2 (fun I3 f3' k3 r3 => ?_)
  exact hP I3 ((k1.then k2).fl f3') (m2.fl f3') k3
theorem c_write33 {P : Int32 → tI → tJ → Prop} {u z w : Nat} {Z : Nat → Int32} {F : Int32} (hs : s < 4) (hu : u < 30) (hz : z ≤ 60) (hw : w ≤ z) (hw8 : w ≤ 8) (e0 : I (137 + 2 * s) 0 = F) (e1 : I (137 + 2 * s) 1 = nI z) (e2 : ∀ j, j < w → I 12 (8 * u + j) = Z j) (hP : ∀ K, (∀ j, j < w → K (137 + 2 * s + 1) j = ctt F (Z j)) → (∀ j, w ≤ j → K (137 + 2 * s + 1) j = I (137 + 2 * s + 1) j) → (∀ x, x ≠ 137 + 2 * s + 1 → K x = I x) → P (nI w) K J) : Er X (d + 1) M_X10_write 33 [some (.ref 0), some (.int (nI u)), some (.int (nI s)), some (.int (nI w)), some (.int 0)] [] I J (qI P) := by
  have hx := ix_nI (k := s) (n := 4) (by omega) (by omega)
  have key : ∀ m, m ≤ w → ∀ K : tI, (∀ j, j < m → K (137 + 2 * s + 1) j = ctt F (Z j)) → (∀ j, w ≤ j → K (137 + 2 * s + 1) j = I (137 + 2 * s + 1) j) → (∀ x, x ≠ 137 + 2 * s + 1 → K x = I x) → Er X (d + 1) M_X10_write 33 [some (.ref 0), some (.int (nI u)), some (.int (nI s)), some (.int (nI w)), some (.int (nI m))] [] K J (qI P) := by
    refine up_loop ?_ ?_
    · intro K a1 a2 a3
      exact vc_X10_write_33 ⟨fun _ => hP K a1 a2 a3, fun y => absurd (Int32.le_refl _) y⟩
    · intro m hm ih K a1 a2 a3
      refine vc_X10_write_33 ⟨fun y => ?_, fun _ => ⟨hx, 137 + 2 * s, by rw [tn_nI (by omega)]; exact r132 s hs, shm s hs, ?_⟩⟩
      · rw [le_nI (by omega) (by omega)] at y; omega
      rw [mul8, nI_add, nI_1, tn_nI (by omega), a3 12 (by omega), e2 m hm]
      refine ⟨ix_nI (by omega) (by omega), sp_put (shm s hs) (z := z) (by omega) hz (by rw [a3 _ (by omega)]; exact e1) ?_⟩
      rw [a3 (137 + 2 * s) (by omega), e0]
      refine ih _ (fun j hj => ?_) (fun j hj => by rw [mm_u_j (by omega)]; exact a2 j hj) (fun x hx => by rw [mm_u_k hx]; exact a3 x hx)
      by_cases e : j = m
      · rw [e, mm_u_s]
      · rw [mm_u_j e]; exact a1 j (by omega)
  exact key 0 (Nat.zero_le _) I (fun j hj => absurd hj (Nat.not_lt_zero _)) (fun _ _ => rfl) (fun _ _ => rfl)
theorem m_write29 {P : Int32 → tI → tJ → Prop} {u w : Nat} {Z : Nat → Int32} {F : Int32} (hs : s < 4) (hu : u < 30) (hw8 : w ≤ 8) (e0 : I 146 s = F) (e2 : ∀ j, j < w → I 162 (8 * u + j) = Z j) (hP : ∀ K, (∀ j, j < w → K 148 (60 * s + j) = ctt F (Z j)) → (∀ y, (y < 60 * s ∨ 60 * s + w ≤ y) → K 148 y = I 148 y) → (∀ x, x ≠ 148 → K x = I x) → P (nI w) K J) : Er X (d + 1) M_X11_write 29 [some (.ref 145), some (.int (nI u)), some (.int (nI s)), some (.int (nI w)), some (.int 0)] [] I J (qI P) := by
  have hx := ix_nI (k := s) (n := 4) (by omega) (by omega)
  have key : ∀ m, m ≤ w → ∀ K : tI, (∀ j, j < m → K 148 (60 * s + j) = ctt F (Z j)) → (∀ y, (y < 60 * s ∨ 60 * s + w ≤ y) → K 148 y = I 148 y) → (∀ x, x ≠ 148 → K x = I x) → Er X (d + 1) M_X11_write 29 [some (.ref 145), some (.int (nI u)), some (.int (nI s)), some (.int (nI w)), some (.int (nI m))] [] K J (qI P) := by
    refine up_loop ?_ ?_
    · intro K a1 a2 a3
      exact vc_X11_write_29 ⟨fun _ => hP K a1 a2 a3, fun y => absurd (Int32.le_refl _) y⟩
    · intro m hm ih K a1 a2 a3
      refine vc_X11_write_29 ⟨fun y => ?_, fun _ => ⟨hx, ?_⟩⟩
      · rw [le_nI (by omega) (by omega)] at y; omega
      rw [mul8', nI_add, nI_1, tn_nI (k := s) (by omega), tn_nI (k := 8 * u + m) (by omega), a3 162 (by omega), a3 146 (by omega), e2 m hm, e0]
      refine ⟨ix_nI (by omega) (by omega), sp_cut ?_⟩
      rw [mul60, nI_add, tn_nI (by omega)]
      refine ⟨ix_nI (by omega) (by omega), ih _ (fun j hj => ?_) (fun y hy => by rw [mm_u_j (by omega)]; exact a2 y hy) (fun x hx => by rw [mm_u_k hx]; exact a3 x hx)⟩
      by_cases e : j = m
      · rw [e, mm_u_s]
      · rw [mm_u_j (by omega)]; exact a1 j (by omega)
  exact key 0 (Nat.zero_le _) I (fun j hj => absurd hj (Nat.not_lt_zero _)) (fun _ _ => rfl) (fun _ _ => rfl)
theorem pb_write (h : Rl I g q n ns nb nf nq tr ts) : PB X (d + 25) n_X10_write n_X11_write [.int v1, .int v2] I J := by
  unfold PB
  have hn8 := h.n8
  have bad : ∀ {dd : Nat}, ¬ (inR v1 0 29 ∧ inR v2 0 3) → EI X (dd + 25) n_X11_write [.ref 145, .int v1, .int v2] I J (fun y I2 _ => y = -2 ∧ RR I2) := fun z => vc_X11_write (sp_mHour (fun a => ⟨fun z => absurd z ne10, fun _ => sp_mSheet (fun b => absurd ⟨a, b⟩ z) (fun _ => ⟨fun z => absurd rfl z, fun _ => ⟨rfl, h.r⟩⟩)⟩) (fun _ => ⟨fun _ => ⟨rfl, h.r⟩, fun z => absurd rfl z⟩))
  refine vc_X10_write (sp_cHour (fun a => ⟨fun z => absurd z ne10, fun _ => sp_cSheet (fun b => ⟨fun _ => ?_, fun z => absurd ne10 z⟩) (fun b => ⟨fun z => absurd rfl z, fun _ => bad (fun z => b z.2)⟩)⟩) (fun a => ⟨fun _ => bad (fun z => a z.1), fun z => absurd rfl z⟩))
  have a' := a
  have b' := b
  obtain ⟨u, hu, rfl⟩ := in_nat (m := 29) (by omega) a
  obtain ⟨s, hs', rfl⟩ := in_nat (m := 3) (by omega) b
  have hs : s < 4 := by omega
  have hx := ix_nI (k := s) (n := 4) (by omega) (by omega)
  have sh := h.shs hs
  rw [tn_nI (k := s) (by omega)]
  refine ⟨hx, 137 + 2 * s, r132 s hs, shm s hs, vc_X6_isLost (shm s hs) ⟨fun e => ⟨fun _ => ?_, fun z => absurd rfl z⟩, fun e => ⟨fun z => absurd z ne10, fun _ => vc_X10_found ?_⟩⟩⟩
  · refine sp_bring h.1 h.lg (fun I1 f1 fr1 l1 => ?_)
    have kc := h.kb f1 l1
    have h1 := h.c kc
    have sh1 := h1.shs hs
    have e1 : I1 (137 + 2 * s) 0 ≠ -1 := by rw [kc.1 _ (by omega)]; exact e
    rcases sh1.2 with w | ⟨ff, z, z1, z2, z3, z4⟩
    · exact absurd w e1
    refine ⟨hx, 137 + 2 * s, r132 s hs, shm s hs, fun y hy => ?_⟩
    have ey : y = nI (min n z) := by
      rw [hy, h1.1.2.1.1.1, z2]
      by_cases c : n < z
      · rw [if_pos (by rw [lt_nI (by omega) (by omega)]; exact c), show min n z = n by omega]
      · rw [if_neg (by rw [lt_nI (by omega) (by omega)]; exact c), show min n z = z by omega]
    rw [ey]
    refine c_write33 (z := z) (w := min n z) (Z := zN g n nb nf (fun _ => 0) (u + 1) 1) (F := I1 (137 + 2 * s) 0) hs (by omega) z1 (by omega) (by omega) rfl z2 (fun j hj => (l1.1.1 u j (by omega) (by omega)).1) (fun K k1 k2 k3 => ?_)
    refine vc_X11_write (sp_mHour (fun _ => ⟨fun z => absurd z ne10, fun _ => sp_mSheet (fun _ => ⟨fun _ => ⟨hx, ?_⟩, fun z => absurd ne10 z⟩) (fun z => absurd b' z)⟩) (fun z => absurd a' z))
    rw [tn_nI (k := s) (by omega), k3 146 (by omega)]
    refine ⟨fun _ => ?_, fun z => absurd (sh1.ge.mpr e1) z⟩
    refine sp_findW (h1.w (fun x hx => k3 x (by omega))) (fun L km mg kp => ⟨hx, ?_⟩)
    have l146 : L 146 s = I1 (137 + 2 * s) 0 := by rw [km.1 146 (by omega) (by omega), k3 146 (by omega)]; exact sh1.1
    have l147 : L 147 s = nI z := by rw [km.1 147 (by omega) (by omega), k3 147 (by omega)]; exact z3
    rw [l147, mg.1.1]
    refine sp_lesser ?_
    have em : (if nI z < nI n then nI z else nI n) = nI (min n z) := by
      by_cases c : z < n
      · rw [if_pos (by rw [lt_nI (by omega) (by omega)]; exact c), show min n z = z by omega]
      · rw [if_neg (by rw [lt_nI (by omega) (by omega)]; exact c), show min n z = n by omega]
    rw [em]
    refine m_write29 (w := min n z) (Z := zN g n nb nf (fun _ => 0) (u + 1) 1) (F := I1 (137 + 2 * s) 0) hs (by omega) (by omega) l146 (fun j hj => (kp u j (by omega) (by omega)).1) (fun M m1 m2 m3 => ⟨rfl, ?_⟩)
    -- between: the class's and the reference's items written, all else as it was
    have rv : RR (mm_z K 148 (M 148)) := by
      refine h1.sh (fun s' hs' => ?_) ?_ ?_ ?_
      · have vx : ∀ x, x ≠ 148 → mm_z K 148 (M 148) x = K x := fun x hx => mm_z_k hx
        have v8 : mm_z K 148 (M 148) 148 = M 148 := mm_z_s
        by_cases es : s' = s
        · subst es
          unfold Sh
          rw [vx 146 (by omega), vx 147 (by omega), v8, vx (137 + 2 * s') (by omega), vx (137 + 2 * s' + 1) (by omega), k3 146 (by omega), k3 147 (by omega), k3 (137 + 2 * s') (by omega)]
          refine ⟨sh1.1, Or.inr ⟨ff, z, z1, z2, z3, fun j hj => ?_⟩⟩
          by_cases c : j < min n z
          · rw [m1 j c, k1 j c]
          · rw [m2 _ (by omega), k2 j (by omega), km.1 148 (by omega) (by omega), k3 148 (by omega)]; exact z4 j hj
        · refine (h1.shs hs').keep hs' (fun j _ => ?_) ?_ ?_ ?_ (fun y y1 y2 => ?_)
          · rw [vx _ (by omega), k3 _ (by omega)]
          · rw [vx _ (by omega), k3 _ (by omega)]
          · rw [vx _ (by omega), k3 _ (by omega)]
          · rw [vx _ (by omega), k3 _ (by omega)]
          · rw [v8, m2 y (by omega), km.1 148 (by omega) (by omega), k3 148 (by omega)]
      · rw [mm_z_k (by omega), mm_z_k (by omega), k3 0 (by omega), k3 145 (by omega)]; exact h1.fi
      · intro j _
        rw [mm_z_k (by omega), k3 145 (by omega)]
      · intro x hx
        rw [mm_z_k (by omega), k3 x (by omega)]
    obtain ⟨g', q', x1, x2, x3, x4, x5, x6, x7, hv⟩ := rv
    refine (hv.m ⟨fun x y1 y2 => ?_, fun j j1 j2 j3 => ?_⟩).r
    · by_cases e8 : x = 148
      · rw [e8, mm_z_s]
      · rw [mm_z_k e8, m3 x e8, km.1 x y1 y2]
    · rw [mm_z_k (by omega), m3 145 (by omega), km.2 j j1 j2 j3]
  · refine vc_X11_write (sp_mHour (fun _ => ⟨fun z => absurd z ne10, fun _ => sp_mSheet (fun _ => ⟨fun _ => ⟨hx, ?_⟩, fun z => absurd ne10 z⟩) (fun z => absurd b' z)⟩) (fun z => absurd a' z))
    rw [tn_nI (k := s) (by omega), mm_u_k (k := 0) (x := 146) (by omega)]
    exact ⟨fun z => absurd (sh.ge.mp z) e, fun _ => vc_X11_finds ⟨rfl, h.fd 1⟩⟩
end WRITE
