section MUT3
variable {X : mm_X} {d : Nat} {I I' K L I1 I2 : tI} {J : tJ} {n ns nb nf nq tr ts t k : Nat} {g s q : tI} {v1 v2 v3 : Int32}
theorem u167 (f : tI) (j : Nat) (v : Int32) : mm_u f 167 j v 145 = f 145 := mm_u_k (by omega)
theorem m_set {P : Int32 → tI → tJ → Prop} {w : Nat} (hw : w < 3) (h1 : inR v2 0 (mm_gr w) → P (I 154 w) (mm_u I 154 w v2) J) (h0 : ¬ inR v2 0 (mm_gr w) → P (-2) I J) : EI X (d + 25) n_X11_set [.ref 145, .int (nI w), .int v2] I J P := by
  refine vc_X11_set (sp_in32 0 2 rfl rfl (fun _ _ => ⟨fun z => absurd z ne10, fun _ => ?_⟩) (fun z => absurd (inR_of (m := 2) (by omega) (by omega)) z))
  have s19 : ∀ s2 : Int64, s2 = (mm_gr w).toInt64 → Er X (d + 24 + 1) M_X11_set 19 [some (.ref 145), some (.int (nI w)), some (.int v2), none] [.long s2, .long 0, .long (Int32.toInt64 v2)] I J (qI P) := fun s2 hs => by
    have hx := ix_nI (k := w) (n := 3) (by omega) (by omega)
    refine vc_X11_set_19 (sp_in32 0 (mm_gr w) rfl hs (fun a b => ⟨fun _ => ⟨hx, fun y hy => ⟨hx, ?_⟩⟩, fun z => absurd ne10 z⟩) (fun a => ⟨fun z => absurd rfl z, fun _ => h0 a⟩))
    rw [hy, tn_nI (by omega)]
    exact h1 ⟨a, b⟩
  rcases (by omega : w = 0 ∨ w = 1 ∨ w = 2) with rfl | rfl | rfl
  · exact ⟨fun z => absurd rfl z, fun _ => s19 30 (by decide)⟩
  · exact ⟨fun _ => ⟨fun z => absurd rfl z, fun _ => s19 9 (by decide)⟩, fun z => absurd (by decide) z⟩
  · exact ⟨fun _ => ⟨fun _ => s19 99 (by decide), fun z => absurd (by decide) z⟩, fun z => absurd (by decide) z⟩
theorem pb_set (hX1 : X 1 = some (3, mm_gr)) (h : Rl I g q n ns nb nf nq tr ts) : PB X (d + 25) n_X10_set n_X11_set [.int v1, .int v2] I J := by
  unfold PB
  refine vc_X10_set hX1 (sp_isWithin (fun a b => ⟨fun z => absurd z ne10, fun _ => ?_⟩) (fun a => ⟨fun _ => ?_, fun z => absurd rfl z⟩))
  · obtain ⟨w, hw, rfl⟩ := in_nat (m := 2) (by omega) ⟨a, b⟩
    have hx := ix_nI (k := w) (n := 3) (by omega) (by omega)
    rw [tn_nI (by omega)]
    refine ⟨hx, sp_isWithin (fun c e => ⟨fun _ => ⟨hx, fun y hy => ⟨hx, ?_⟩⟩, fun z => absurd ne10 z⟩) (fun c => ⟨fun z => absurd rfl z, fun _ => m_set (by omega) (fun z => absurd z c) (fun _ => ⟨rfl, h.r⟩)⟩)⟩
    refine m_set (by omega) (fun _ => ⟨?_, ?_⟩) (fun z => absurd ⟨c, e⟩ z)
    · rw [hy, mm_u_k (by omega), mm_u_k (by omega)]; exact h.2.2.2.2.2.1 w (by omega)
    · refine h.rule ?_ (fun j hj => ?_) ?_ (fun x h1 h2 h3 => by rw [mm_u_k h3, mm_u_k h2, mm_u_k h1])
      · rw [mm_u_k (by omega), mm_u_k (by omega)]
        by_cases e1 : w = 1
        · subst e1
          rw [mm_u_s]
          exact in_nat (m := 9) (by omega) ⟨c, e⟩
        · rw [mm_u_j (fun z => e1 z.symm)]
          have := h.1.2.2.2.2
          rw [← h.1.1] at this
          exact this
      · rw [mm_u_k (k := 154) (x := 7) (by omega), mm_u_k (k := 11) (x := 7) (by omega)]
        by_cases ej : j = w
        · rw [ej, mm_u_s, mm_u_s]
        · rw [mm_u_j ej, mm_u_j ej, mm_u_k (by omega), mm_u_k (by omega)]
          exact h.2.2.2.2.2.1 j hj
      · rw [mm_u_k (by omega), mm_u_s]
  · exact vc_X11_set (sp_in32 0 2 rfl rfl (fun b c => absurd ⟨b, c⟩ a) (fun _ => ⟨fun _ => ⟨rfl, h.r⟩, fun z => absurd rfl z⟩))
/-! butters -/
def bU (I : tI) (m : Nat) (a b : Int32) : tI := mm_u (mm_u (mm_u (mm_u I 8 m a) 9 m b) 2 7 (nI (m + 1))) 11 5 0
def mU (I : tI) (m : Nat) (a b : Int32) : tI := mm_u (mm_u (mm_u I 155 (2 * m) a) 155 (2 * m + 1) b) 145 12 (nI (m + 1))
theorem c_butter {P : Int32 → tI → tJ → Prop} (hb : I 2 7 = nI nb ∧ nb ≤ 8) (h1 : inR v1 0 29 → inR v2 0 7 → nb < 8 → P (nI (nb + 1)) (bU I nb v1 v2) J) (h0 : ¬ (inR v1 0 29 ∧ inR v2 0 7) → P (-2) I J) (h4 : inR v1 0 29 → inR v2 0 7 → ¬ nb < 8 → P (-4) I J) : EI X (d + 2) n_X10_butter [.ref 0, .int v1, .int v2] I J P := by
  have hb8 := hb.2
  refine vc_X10_butter (sp_cHour (fun a => ⟨fun z => absurd z ne10, fun _ => sp_isWithin (fun b c => ⟨fun _ => ?_, fun z => absurd ne10 z⟩) (fun b => ⟨fun z => absurd rfl z, fun _ => h0 (fun z => b z.2)⟩)⟩) (fun a => ⟨fun _ => h0 (fun z => a z.1), fun z => absurd rfl z⟩))
  rw [hb.1]
  have e1 : ∀ x, mm_u I 8 (tn (nI nb)) x 2 7 = nI nb := fun x => by rw [mm_u_k (by omega)]; exact hb.1
  have e2 : ∀ x y j, mm_u (mm_u I 8 (tn (nI nb)) x) 9 j y 2 7 = nI nb := fun x y j => by rw [mm_u_k (by omega)]; exact e1 x
  rw [e1, e2, tn_nI (by omega), nI_1]
  refine ⟨fun lt => ?_, fun ge => ?_⟩
  · rw [show (8 : Int32) = nI 8 from rfl, lt_nI (by omega) (by omega)] at lt
    refine ⟨ix_nI lt (by omega), ix_nI lt (by omega), ?_⟩
    rw [mm_u_k (k := 11) (by omega), mm_u_s]
    exact h1 a ⟨b, c⟩ lt
  · rw [show (8 : Int32) = nI 8 from rfl, lt_nI (by omega) (by omega)] at ge
    exact h4 a ⟨b, c⟩ ge
theorem mul2 (k : Nat) : 2 * nI k = nI (2 * k) := pk_mul 2 k
theorem m_butter {P : Int32 → tI → tJ → Prop} (hb : I 145 12 = nI nb ∧ nb ≤ 8) (h1 : inR v1 0 29 → inR v2 0 7 → nb < 8 → P (nI (nb + 1)) (mU I nb v1 v2) J) (h0 : ¬ (inR v1 0 29 ∧ inR v2 0 7) → P (-2) I J) (h4 : inR v1 0 29 → inR v2 0 7 → ¬ nb < 8 → P (-4) I J) : EI X (d + 2) n_X11_butter [.ref 145, .int v1, .int v2] I J P := by
  have hb8 := hb.2
  refine vc_X11_butter (sp_mHour (fun a => ⟨fun z => absurd z ne10, fun _ => sp_in32 0 7 rfl rfl (fun b c => ⟨fun _ => ?_, fun z => absurd ne10 z⟩) (fun b => ⟨fun z => absurd rfl z, fun _ => h0 (fun z => b z.2)⟩)⟩) (fun a => ⟨fun _ => h0 (fun z => a z.1), fun z => absurd rfl z⟩))
  have e1 : ∀ (f : tI) x j, mm_u f 155 j x 145 = f 145 := fun f x j => mm_u_k (by omega)
  simp only [e1]
  rw [hb.1, mul2, nI_1, nI_1, tn_nI (by omega), tn_nI (by omega), mm_u_s]
  refine ⟨fun ne => ?_, fun z => ?_⟩
  · have lt : nb < 8 := by
      refine Decidable.byContradiction (fun z => ne ?_)
      rw [show nb = 8 by omega]; rfl
    exact ⟨ix_nI (by omega) (by omega), ix_nI (by omega) (by omega), h1 a ⟨b, c⟩ lt⟩
  · have := (nI_eq (a := nb) (b := 8) (by omega) (by omega)).mp (Decidable.not_not.mp z)
    exact h4 a ⟨b, c⟩ (by omega)
/-- behind k butters: the class's cells, the reference's -/
def BC (nb : Nat) (I K : tI) (k : Nat) (va vb : Nat → Int32) : Prop := K 2 7 = nI (nb + k) ∧ (∀ j, j ≠ 7 → K 2 j = I 2 j) ∧ (∀ j, j < nb → K 8 j = I 8 j ∧ K 9 j = I 9 j) ∧ (∀ i, i < k → K 8 (nb + i) = va i ∧ K 9 (nb + i) = vb i) ∧ (∀ x, x ≠ 2 → x ≠ 8 → x ≠ 9 → x ≠ 11 → K x = I x) ∧ (0 < k → K 11 5 = 0) ∧ (k = 0 → K = I)
def BM (nb : Nat) (K L : tI) (k : Nat) (va vb : Nat → Int32) : Prop := L 145 12 = nI (nb + k) ∧ (∀ j, j ≠ 12 → L 145 j = K 145 j) ∧ (∀ j, j < 2 * nb → L 155 j = K 155 j) ∧ (∀ i, i < k → L 155 (2 * (nb + i)) = va i ∧ L 155 (2 * (nb + i) + 1) = vb i) ∧ (∀ x, x ≠ 145 → x ≠ 155 → L x = K x) ∧ (k = 0 → L = K)
variable {va vb : Nat → Int32}
theorem BC.zero (h : I 2 7 = nI nb) : BC nb I I 0 va vb := ⟨h, fun _ _ => rfl, fun _ _ => ⟨rfl, rfl⟩, fun i hi => absurd hi (Nat.not_lt_zero _), fun _ _ _ _ _ => rfl, fun z => absurd z (Nat.lt_irrefl _), fun _ => rfl⟩
theorem BM.zero (h : K 145 12 = nI nb) : BM nb K K 0 va vb := ⟨h, fun _ _ => rfl, fun _ _ => rfl, fun i hi => absurd hi (Nat.not_lt_zero _), fun _ _ _ => rfl, fun _ => rfl⟩
theorem BC.step (h : BC nb I K k va vb) : BC nb I (bU K (nb + k) (va k) (vb k)) (k + 1) va vb := by
  obtain ⟨h1, h2, h3, h4, h5, h6, h7⟩ := h
  have r8 : bU K (nb + k) (va k) (vb k) 8 = mm_u K 8 (nb + k) (va k) 8 := by unfold bU; rw [mm_u_k (k := 11) (by omega), mm_u_k (k := 2) (by omega), mm_u_k (k := 9) (by omega)]
  have r9 : bU K (nb + k) (va k) (vb k) 9 = mm_u (mm_u K 8 (nb + k) (va k)) 9 (nb + k) (vb k) 9 := by unfold bU; rw [mm_u_k (k := 11) (by omega), mm_u_k (k := 2) (by omega)]
  have k8 : mm_u K 8 (nb + k) (va k) 9 = K 9 := mm_u_k (by omega)
  refine ⟨?_, fun j hj => ?_, fun j hj => ?_, fun i hi => ?_, fun x x1 x2 x3 x4 => ?_, fun _ => ?_, fun z => absurd z (by omega)⟩
  · unfold bU; rw [mm_u_k (k := 11) (by omega), mm_u_s]; rfl
  · unfold bU; rw [mm_u_k (k := 11) (by omega), mm_u_j hj, mm_u_k (k := 9) (by omega), mm_u_k (k := 8) (by omega)]; exact h2 j hj
  · rw [r8, r9, mm_u_j (by omega), mm_u_j (by omega), k8]; exact h3 j hj
  · rw [r8, r9]
    by_cases e : i = k
    · subst e; rw [mm_u_s, mm_u_s]; exact ⟨rfl, rfl⟩
    · rw [mm_u_j (by omega), mm_u_j (by omega), k8]; exact h4 i (by omega)
  · unfold bU; rw [mm_u_k x4, mm_u_k x1, mm_u_k x3, mm_u_k x2]; exact h5 x x1 x2 x3 x4
  · unfold bU; rw [mm_u_s]
theorem BM.step (h : BM nb K L k va vb) : BM nb K (mU L (nb + k) (va k) (vb k)) (k + 1) va vb := by
  obtain ⟨h1, h2, h3, h4, h5, h7⟩ := h
  have r : mU L (nb + k) (va k) (vb k) 155 = mm_u (mm_u L 155 (2 * (nb + k)) (va k)) 155 (2 * (nb + k) + 1) (vb k) 155 := by unfold mU; rw [mm_u_k (k := 145) (by omega)]
  refine ⟨?_, fun j hj => ?_, fun j hj => ?_, fun i hi => ?_, fun x x1 x2 => ?_, fun z => absurd z (by omega)⟩
  · unfold mU; rw [mm_u_s]; rfl
  · unfold mU; rw [mm_u_j hj, mm_u_k (k := 155) (by omega), mm_u_k (k := 155) (by omega)]; exact h2 j hj
  · rw [r, mm_u_j (by omega), mm_u_j (by omega)]; exact h3 j hj
  · rw [r]
    by_cases e : i = k
    · subst e; rw [mm_u_j (by omega), mm_u_s, mm_u_s]; exact ⟨rfl, rfl⟩
    · rw [mm_u_j (by omega), mm_u_j (by omega), mm_u_j (by omega), mm_u_j (by omega)]; exact h4 i (by omega)
  · unfold mU; rw [mm_u_k x1, mm_u_k x2, mm_u_k x2]; exact h5 x x1 x2
theorem Rl.btn (h : Rl I g q n ns nb nf nq tr ts) (hk : nb + k ≤ 8) (hv : ∀ i, i < k → ∃ p, p < 8 ∧ vb i = nI p) (c : BC nb I K k va vb) (m : BM nb K L k va vb) : RR L := by
  obtain ⟨c1, c2, c3, c4, c5, c6, c7⟩ := c
  obtain ⟨m1, m2, m3, m4, m5, m6⟩ := m
  by_cases e0 : k = 0
  · rw [m6 e0, c7 e0]; exact h.r
  · have hg := h
    obtain ⟨⟨h1, gd, gp⟩, h2, h3, h4, h5, h6, h7, h8, h9, h10, h11, h12, h13, h14⟩ := hg
    obtain ⟨d1, d2, d3, d4, d5, d6⟩ := gd
    have r : ∀ x, x ≠ 145 → x ≠ 155 → L x = K x := m5
    refine h.bf (nb + k) nf hk d4.2 ?_ ?_ ?_ ?_ m1 ?_ ?_ ?_ ?_ ?_ ?_
    · rw [r 2 (by omega) (by omega)]; exact c1
    · rw [r 2 (by omega) (by omega), c2 10 (by omega)]; exact d4.1
    · intro j j1 j2; rw [r 2 (by omega) (by omega), c2 j j1]
    · intro j hj
      rw [r 9 (by omega) (by omega)]
      by_cases e : j < nb
      · rw [(c3 j e).2]; exact d6 j e
      · have w := (c4 (j - nb) (by omega)).2
        rw [show nb + (j - nb) = j by omega] at w
        rw [w]; exact hv (j - nb) (by omega)
    · rw [m2 14 (by omega), c5 145 (by omega) (by omega) (by omega) (by omega)]; exact h8.1
    · intro j j1 j2; rw [m2 j j1, c5 145 (by omega) (by omega) (by omega) (by omega)]
    · intro j hj
      rw [r 8 (by omega) (by omega), r 9 (by omega) (by omega)]
      by_cases e : j < nb
      · rw [m3 (2 * j) (by omega), m3 (2 * j + 1) (by omega), c5 155 (by omega) (by omega) (by omega) (by omega), (c3 j e).1, (c3 j e).2]; exact h7.2 j e
      · have w := c4 (j - nb) (by omega)
        have u := m4 (j - nb) (by omega)
        rw [show nb + (j - nb) = j by omega] at w u
        rw [w.1, w.2, u.1, u.2]; exact ⟨rfl, rfl⟩
    · intro j hj
      rw [r 156 (by omega) (by omega), r 10 (by omega) (by omega), c5 156 (by omega) (by omega) (by omega) (by omega), c5 10 (by omega) (by omega) (by omega) (by omega)]; exact h8.2 j hj
    · rw [r 11 (by omega) (by omega)]; exact c6 (by omega)
    · intro x x1 x2 x3 x4 x5 x6 x7 x8
      rw [r x x6 x7, c5 x x1 x2 x3 x5]
theorem Rl.nb8 (h : Rl I g q n ns nb nf nq tr ts) : I 2 7 = nI nb ∧ nb ≤ 8 := h.1.2.1.2.2.1
theorem pb_butter (h : Rl I g q n ns nb nf nq tr ts) : PB X (d + 25) n_X10_butter n_X11_butter [.int v1, .int v2] I J := by
  unfold PB
  have hm : I 145 12 = nI nb ∧ nb ≤ 8 := ⟨h.2.2.2.2.2.2.1.1, h.nb8.2⟩
  refine c_butter h.nb8 (fun a b c => ?_) (fun a => ?_) (fun a b c => ?_)
  · have c1 : BC nb I (bU I nb v1 v2) 1 (fun _ => v1) (fun _ => v2) := BC.step (va := fun _ => v1) (vb := fun _ => v2) (BC.zero h.nb8.1)
    have hm1 : bU I nb v1 v2 145 12 = nI nb ∧ nb ≤ 8 := by rw [c1.2.2.2.2.1 145 (by omega) (by omega) (by omega) (by omega)]; exact hm
    refine m_butter hm1 (fun _ _ _ => ⟨rfl, ?_⟩) (fun z => absurd ⟨a, b⟩ z) (fun _ _ z => absurd c z)
    have m1 : BM nb (bU I nb v1 v2) (mU (bU I nb v1 v2) nb v1 v2) 1 (fun _ => v1) (fun _ => v2) := BM.step (va := fun _ => v1) (vb := fun _ => v2) (BM.zero hm1.1)
    refine h.btn (k := 1) (by omega) (fun i _ => ?_) c1 m1
    obtain ⟨p, hp, e⟩ := in_nat (m := 7) (by omega) b
    exact ⟨p, by omega, e⟩
  · exact m_butter hm (fun x y _ => absurd ⟨x, y⟩ a) (fun _ => ⟨rfl, h.r⟩) (fun x y _ => absurd ⟨x, y⟩ a)
  · exact m_butter hm (fun _ _ z => absurd z c) (fun z => absurd ⟨a, b⟩ z) (fun _ _ _ => ⟨rfl, h.r⟩)
theorem pb_fire (h : Rl I g q n ns nb nf nq tr ts) : PB X (d + 25) n_X10_fire n_X11_fire [.int v1] I J := by
  unfold PB
  have hg := h
  obtain ⟨⟨h1, gd, gp⟩, h2, h3, h4, h5, h6, h7, h8, h9, h10, h11, h12, h13, h14⟩ := hg
  obtain ⟨d1, d2, d3, d4, d5, d6⟩ := gd
  have hf4 := d4.2
  refine vc_X10_fire (sp_cHour (fun a => ⟨fun _ => ?_, fun z => absurd ne10 z⟩) (fun a => ⟨fun z => absurd rfl z, fun _ => ?_⟩))
  · have e1 : ∀ x j, mm_u I 10 j x 2 10 = nI nf := fun x j => by rw [mm_u_k (by omega)]; exact d4.1
    rw [e1, d4.1, tn_nI (by omega), nI_1]
    refine ⟨fun lt => ?_, fun ge => ?_⟩
    · rw [show (4 : Int32) = nI 4 from rfl, lt_nI (by omega) (by omega)] at lt
      refine ⟨ix_nI lt (by omega), ?_⟩
      rw [mm_u_k (k := 11) (by omega), mm_u_s]
      refine vc_X11_fire (sp_mHour (fun _ => ⟨fun _ => ?_, fun z => absurd ne10 z⟩) (fun z => absurd a z))
      have q145 : ∀ x y z j, mm_u (mm_u (mm_u I 10 j x) 2 10 y) 11 5 z 145 = I 145 := fun x y z j => by rw [mm_u_k (by omega), mm_u_k (by omega), mm_u_k (by omega)]
      rw [q145, h8.1, tn_nI (by omega)]
      refine ⟨fun _ => ⟨ix_nI lt (by omega), ?_, ?_⟩, fun z => ?_⟩
      · rw [mm_u_s, mm_u_k (by omega), q145, h8.1, nI_1]
      · have l145 : ∀ x, mm_u (mm_u (mm_u (mm_u I 10 nf v1) 2 10 (nI (nf + 1))) 11 5 0) 156 nf x 145 14 = nI nf := fun x => by rw [mm_u_k (by omega), q145]; exact h8.1
        rw [l145, nI_1]
        refine h.bf nb (nf + 1) d3.2 (by omega) ?_ ?_ ?_ ?_ ?_ ?_ ?_ ?_ ?_ ?_ ?_
        · rw [mm_u_k (by omega), mm_u_k (by omega), mm_u_k (by omega), mm_u_j (by omega), mm_u_k (by omega)]; exact d3.1
        · rw [mm_u_k (by omega), mm_u_k (by omega), mm_u_k (by omega), mm_u_s]
        · intro j j1 j2; rw [mm_u_k (by omega), mm_u_k (by omega), mm_u_k (by omega), mm_u_j j2, mm_u_k (by omega)]
        · rw [mm_u_k (by omega), mm_u_k (by omega), mm_u_k (by omega), mm_u_k (by omega), mm_u_k (by omega)]; exact d6
        · rw [mm_u_j (by omega), mm_u_k (by omega), q145]; exact h7.1
        · rw [mm_u_s]
        · intro j j1 j2; rw [mm_u_j j2, mm_u_k (by omega), q145]
        · rw [mm_u_k (k := 145) (x := 155) (by omega), mm_u_k (k := 145) (x := 8) (by omega), mm_u_k (k := 145) (x := 9) (by omega), mm_u_k (k := 156) (x := 155) (by omega), mm_u_k (k := 156) (x := 8) (by omega), mm_u_k (k := 156) (x := 9) (by omega), mm_u_k (k := 11) (x := 155) (by omega), mm_u_k (k := 11) (x := 8) (by omega), mm_u_k (k := 11) (x := 9) (by omega), mm_u_k (k := 2) (x := 155) (by omega), mm_u_k (k := 2) (x := 8) (by omega), mm_u_k (k := 2) (x := 9) (by omega), mm_u_k (k := 10) (x := 155) (by omega), mm_u_k (k := 10) (x := 8) (by omega), mm_u_k (k := 10) (x := 9) (by omega)]; exact h7.2
        · intro j hj
          rw [mm_u_k (k := 145) (x := 156) (by omega), mm_u_k (k := 145) (x := 10) (by omega), mm_u_k (k := 156) (x := 10) (by omega), mm_u_k (k := 11) (x := 10) (by omega), mm_u_k (k := 2) (x := 10) (by omega)]
          by_cases e : j = nf
          · rw [e, mm_u_s, mm_u_s]
          · rw [mm_u_j e, mm_u_j e, mm_u_k (by omega), mm_u_k (by omega), mm_u_k (by omega)]; exact h8.2 j (by omega)
        · rw [mm_u_k (by omega), mm_u_k (by omega), mm_u_s]
        · intro x x1 x2 x3 x4 x5 x6 x7 x8; rw [mm_u_k x6, mm_u_k x8, mm_u_k x5, mm_u_k x1, mm_u_k x4]
      · have := (nI_eq (a := nf) (b := 4) (by omega) (by omega)).mp (Decidable.not_not.mp z); omega
    · rw [show (4 : Int32) = nI 4 from rfl, lt_nI (by omega) (by omega)] at ge
      refine vc_X11_fire (sp_mHour (fun _ => ⟨fun _ => ?_, fun z => absurd ne10 z⟩) (fun z => absurd a z))
      rw [h8.1, show nf = 4 by omega]
      exact ⟨fun z => absurd rfl z, fun _ => ⟨rfl, h.r⟩⟩
  · exact vc_X11_fire (sp_mHour (fun z => absurd z a) (fun _ => ⟨fun z => absurd rfl z, fun _ => ⟨rfl, h.r⟩⟩))
end MUT3
