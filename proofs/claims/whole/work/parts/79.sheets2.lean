section SHEETS2
variable {X : mm_X} {d : Nat} {I I' K L I1 I2 : tI} {J : tJ} {n ns nb nf nq tr ts k s c : Nat} {g q : tI} {v1 v2 v3 v4 v5 : Int32}
theorem pb_get (h : Rl I g q n ns nb nf nq tr ts) : PB X (d + 25) n_X10_get n_X11_get [.int v1, .int v2, .int v3] I J := by
  unfold PB
  have bad : ∀ {dd : Nat}, ¬ (inR v1 0 3 ∧ inR v2 0 2) → EI X (dd + 25) n_X11_get [.ref 145, .int v1, .int v2, .int v3] I J (fun y I2 _ => y = -2147483648 ∧ RR I2) := fun z => vc_X11_get (sp_mSheet (fun a => ⟨fun z => absurd z ne10, fun _ => sp_in32 0 2 rfl rfl (fun b c => absurd ⟨a, b, c⟩ z) (fun _ => ⟨fun _ => ⟨rfl, h.r⟩, fun z => absurd rfl z⟩)⟩) (fun _ => ⟨fun _ => ⟨rfl, h.r⟩, fun z => absurd rfl z⟩))
  refine vc_X10_get (sp_cSheet (fun a => ⟨fun z => absurd z ne10, fun _ => sp_cForm (fun b => ⟨fun _ => ?_, fun z => absurd ne10 z⟩) (fun b => ⟨fun z => absurd rfl z, fun _ => bad (fun z => b z.2)⟩)⟩) (fun a => ⟨fun _ => bad (fun z => a z.1), fun z => absurd rfl z⟩))
  have a' := a
  obtain ⟨s, hs', rfl⟩ := in_nat (m := 3) (by omega) a
  have hs : s < 4 := by omega
  have hx := ix_nI (k := s) (n := 4) (by omega) (by omega)
  have sh := h.shs hs
  have run : ∀ {K : tI} {P : Int32 → tI → tJ → Prop}, EI X (d + 24) n_X11_lacks [.ref 145, .int (nI s), .int v2, .int v3] K J (fun x_7 I_8 J_9 => (x_7 = 0 → (ix ((60 * nI s) + v3) 240 ∧ (P (I_8 148 (tn ((60 * nI s) + v3))) I_8 J_9))) ∧ (¬ (x_7 = 0) → (P (-2147483648) I_8 J_9))) → EI X (d + 25) n_X11_get [.ref 145, .int (nI s), .int v2, .int v3] K J P := fun T => vc_X11_get (sp_mSheet (fun _ => ⟨fun z => absurd z ne10, fun _ => sp_in32 0 2 rfl rfl (fun _ _ => ⟨fun z => absurd z ne10, fun _ => T⟩) (fun z => absurd b z)⟩) (fun z => absurd a' z))
  refine sp_findingAt hs ⟨fun f0 => ⟨hx, 137 + 2 * s, by rw [tn_nI (by omega)]; exact r132 s hs, shm s hs, ?_⟩, fun f0 => run ?_⟩
  · obtain ⟨w1, w2, w3⟩ := fn_zero f0
    rcases sh.2 with w | ⟨_, z, z1, z2, z3, z4⟩
    · exact absurd w w1
    rw [z2] at w3
    obtain ⟨i, hi, rfl⟩ := isK_nat2 (by omega) w3
    rw [tn_nI (by omega)]
    refine ⟨ix_nI (by omega) (by omega), run ?_⟩
    refine sp_lacks (F := I (137 + 2 * s) 0) (Z := I (137 + 2 * s) 1) hs sh.1 sh.e2 (fun y => sh.e3 y) (fun _ => ⟨fun _ => ?_, fun y => absurd rfl y⟩) (fun y => absurd f0 y)
    rw [mul60, nI_add, tn_nI (by omega)]
    exact ⟨ix_nI (by omega) (by omega), z4 i hi, h.r⟩
  · have e146 : ∀ f, mm_u I 0 10 f 146 = I 146 := fun f => mm_u_k (by omega)
    have e147 : ∀ f, mm_u I 0 10 f 147 = I 147 := fun f => mm_u_k (by omega)
    have ne : ∀ F Z : Int32, fn F Z v2 v3 ≠ 0 → ¬ ((-10) - fn F Z v2 v3 = 0) := fun F Z hn => by
      unfold fn at hn ⊢
      split
      · decide
      · split
        · split
          · rename_i p1 p2 p3
            rw [if_neg p1, if_pos p2, if_pos p3] at hn; exact absurd rfl hn
          · decide
        · decide
    exact sp_lacks (F := I (137 + 2 * s) 0) (Z := I (137 + 2 * s) 1) hs (by rw [e146]; exact sh.1) sh.e2 (fun y => by rw [e147]; exact sh.e3 y) (fun y => absurd y f0) (fun y => ⟨fun z => absurd z (ne _ _ y), fun _ => ⟨rfl, h.fd _⟩⟩)
/-! butters from a sheet -/
def okB (nb : Nat) (va vb : Nat → Int32) (i : Nat) : Prop := inR (va i) 0 29 ∧ inR (vb i) 0 7 ∧ nb + i < 8
theorem c_read19 {P : Int32 → tI → tJ → Prop} {z : Nat} {f : Nat → Int32} (hs : s < 4) (hnb : I 2 7 = nI nb ∧ nb ≤ 8) (hz : z ≤ 60) (e1 : I (137 + 2 * s) 1 = nI z) (e2 : ∀ j, j < 60 → I (137 + 2 * s + 1) j = f j) (hP : ∀ K k, BC nb I K k (fun i => f (2 * i)) (fun i => f (2 * i + 1)) → (∀ i, i < k → 2 * i + 2 ≤ z ∧ okB nb (fun i => f (2 * i)) (fun i => f (2 * i + 1)) i) → (z ≤ 2 * k + 1 ∨ ¬ okB nb (fun i => f (2 * i)) (fun i => f (2 * i + 1)) k) → P (nI k) K J) : Er X (d + 3) M_X10_read 19 [some (.ref 0), some (.int (nI s)), some (.int 0), some (.int 0)] [] I J (qI P) := by
  have hx := ix_nI (k := s) (n := 4) (by omega) (by omega)
  have hr := r132 s hs
  have key : ∀ k, k ≤ 31 → ∀ K : tI, BC nb I K k (fun i => f (2 * i)) (fun i => f (2 * i + 1)) → (∀ i, i < k → 2 * i + 2 ≤ z ∧ okB nb (fun i => f (2 * i)) (fun i => f (2 * i + 1)) i) → Er X (d + 2 + 1) M_X10_read 19 [some (.ref 0), some (.int (nI s)), some (.int (nI k)), some (.int (nI (2 * k)))] [] K J (qI P) := by
    refine up_loop ?_ ?_
    · intro K bc hk
      have fr : K (137 + 2 * s) = I (137 + 2 * s) := bc.2.2.2.2.1 _ (by omega) (by omega) (by omega) (by omega)
      refine vc_X10_read_19 ⟨hx, 137 + 2 * s, by rw [tn_nI (by omega)]; exact hr, shm s hs, fun _ => hP K 31 bc hk (Or.inl (by omega)), fun y => ?_⟩
      rw [fr, e1, nI_1, le_nI (by omega) (by omega)] at y; omega
    · intro k hk31 ih K bc hk
      have fr : ∀ x, x ≠ 2 → x ≠ 8 → x ≠ 9 → x ≠ 11 → K x = I x := bc.2.2.2.2.1
      have f1 : K (137 + 2 * s) = I (137 + 2 * s) := fr _ (by omega) (by omega) (by omega) (by omega)
      have f2 : K (137 + 2 * s + 1) = I (137 + 2 * s + 1) := fr _ (by omega) (by omega) (by omega) (by omega)
      refine vc_X10_read_19 ?_
      rw [tn_nI (k := s) (by omega), nI_1]
      refine ⟨hx, 137 + 2 * s, hr, shm s hs, ?_⟩
      rw [f1, e1, le_nI (by omega) (by omega)]
      refine ⟨fun y => hP K k bc hk (Or.inl (by omega)), fun y => ?_⟩
      rw [tn_nI (k := 2 * k) (by omega), tn_nI (k := 2 * k + 1) (by omega)]
      refine ⟨hx, 137 + 2 * s, hr, shm s hs, ix_nI (by omega) (by omega), hx, 137 + 2 * s, hr, shm s hs, ix_nI (by omega) (by omega), ?_⟩
      rw [f2, e2 _ (by omega), e2 _ (by omega), nI_1, nI_2]
      have hk8 : nb + k ≤ 8 := by
        cases k with
        | zero => exact hnb.2
        | succ k => have := (hk k (by omega)).2.2.2; omega
      refine c_butter (nb := nb + k) ⟨bc.1, hk8⟩ (fun a b c => ⟨fun _ => ?_, fun y => absurd (nI_pos' (by omega)) y⟩) (fun a => ⟨fun y => absurd y (by decide), fun _ => hP K k bc hk (Or.inr (fun y => a ⟨y.1, y.2.1⟩))⟩) (fun a b c => ⟨fun y => absurd y (by decide), fun _ => hP K k bc hk (Or.inr (fun y => c y.2.2))⟩)
      refine ih _ bc.step (fun i hi => ?_)
      by_cases e : i = k
      · subst e; exact ⟨by omega, a, b, c⟩
      · exact hk i (by omega)
  exact key 0 (by omega) I (BC.zero hnb.1) (fun i hi => absurd hi (Nat.not_lt_zero _))
theorem m_read18 {P : Int32 → tI → tJ → Prop} {z : Nat} {f : Nat → Int32} (hs : s < 4) (hnb : K 145 12 = nI nb ∧ nb ≤ 8) (hz : z ≤ 60) (e1 : K 147 s = nI z) (e2 : ∀ j, j < z → K 148 (60 * s + j) = f j) (hk : ∀ i, i < k → 2 * i + 2 ≤ z ∧ okB nb (fun i => f (2 * i)) (fun i => f (2 * i + 1)) i) (he : z ≤ 2 * k + 1 ∨ ¬ okB nb (fun i => f (2 * i)) (fun i => f (2 * i + 1)) k) (hP : ∀ L, BM nb K L k (fun i => f (2 * i)) (fun i => f (2 * i + 1)) → P (nI k) L J) : Er X (d + 3) M_X11_read 18 [some (.ref 145), some (.int (nI s)), some (.int 0), some (.int 1)] [] K J (qI P) := by
  have hx := ix_nI (k := s) (n := 4) (by omega) (by omega)
  have hk30 : k ≤ 30 := by
    cases k with
    | zero => omega
    | succ k => have := (hk k (by omega)).1; omega
  have hk8 : nb + k ≤ 8 := by
    cases k with
    | zero => exact hnb.2
    | succ k => have := (hk k (by omega)).2.2.2; omega
  have key : ∀ j, j ≤ k → ∀ L : tI, BM nb K L j (fun i => f (2 * i)) (fun i => f (2 * i + 1)) → Er X (d + 2 + 1) M_X11_read 18 [some (.ref 145), some (.int (nI s)), some (.int (nI j)), some (.int 1)] [] L J (qI P) := by
    refine up_loop ?_ ?_
    · intro L bm
      have f1 : L 147 = K 147 := bm.2.2.2.2.1 _ (by omega) (by omega)
      have f2 : L 148 = K 148 := bm.2.2.2.2.1 _ (by omega) (by omega)
      refine vc_X11_read_18 ⟨fun y => absurd y ne10, fun _ => ?_⟩
      rw [tn_nI (k := s) (by omega), f1, e1, mul2, nI_2, lt_nI (by omega) (by omega)]
      refine ⟨hx, fun _ => hP L bm, fun y => ?_⟩
      rw [mul60, nI_add, nI_1, tn_nI (by omega), tn_nI (by omega), f2, e2 _ (by omega), show 60 * s + 2 * k + 1 = 60 * s + (2 * k + 1) by omega, e2 _ (by omega)]
      have no : ¬ okB nb (fun i => f (2 * i)) (fun i => f (2 * i + 1)) k := he.resolve_left (by omega)
      have stop : ∀ L : tI, P (nI k) L J → Er X (d + 2 + 1) M_X11_read 58 [some (.ref 145), some (.int (nI s)), some (.int (nI k)), some (.int 1)] [.int 0] L J (qI P) := fun L hp => by
        refine vc_X11_read_58 ⟨fun _ y hy => ?_, fun y => absurd rfl y⟩
        rw [hy, Int32.add_zero]
        exact vc_X11_read_18 ⟨fun _ => hp, fun y => absurd rfl y⟩
      refine ⟨ix_nI (by omega) (by omega), ix_nI (by omega) (by omega), ?_⟩
      exact m_butter (nb := nb + k) ⟨bm.1, hk8⟩ (fun a b c => absurd ⟨a, b, c⟩ no) (fun _ => ⟨fun _ => stop L (hP L bm), fun y => absurd (by decide) y⟩) (fun _ _ _ => ⟨fun _ => stop L (hP L bm), fun y => absurd (by decide) y⟩)
    · intro j hj ih L bm
      obtain ⟨y1, y2, y3, y4⟩ := hk j hj
      have f1 : L 147 = K 147 := bm.2.2.2.2.1 _ (by omega) (by omega)
      have f2 : L 148 = K 148 := bm.2.2.2.2.1 _ (by omega) (by omega)
      refine vc_X11_read_18 ⟨fun y => absurd y ne10, fun _ => ?_⟩
      rw [tn_nI (k := s) (by omega), f1, e1, mul2, nI_2, lt_nI (by omega) (by omega)]
      refine ⟨hx, fun y => absurd y (by omega), fun _ => ?_⟩
      rw [mul60, nI_add, nI_1, tn_nI (by omega), tn_nI (by omega), f2, e2 _ (by omega), show 60 * s + 2 * j + 1 = 60 * s + (2 * j + 1) by omega, e2 _ (by omega)]
      refine ⟨ix_nI (by omega) (by omega), ix_nI (by omega) (by omega), ?_⟩
      refine m_butter (nb := nb + j) ⟨bm.1, by omega⟩ (fun a b c => ⟨fun y => absurd y (nI_pos (by omega)), fun _ => ?_⟩) (fun y => absurd ⟨y2, y3⟩ y) (fun _ _ y => absurd y4 y)
      refine vc_X11_read_58 ⟨fun y => absurd y ne10, fun _ y hy => ?_⟩
      rw [hy, nI_1]
      exact ih _ bm.step
  exact key 0 (Nat.zero_le _) K (BM.zero hnb.1)
theorem pb_read (h : Rl I g q n ns nb nf nq tr ts) : PB X (d + 25) n_X10_read n_X11_read [.int v1] I J := by
  unfold PB
  refine vc_X10_read (sp_cSheet (fun a => ⟨fun _ => ?_, fun z => absurd ne10 z⟩) (fun a => ⟨fun z => absurd rfl z, fun _ => vc_X11_read (sp_mSheet (fun z => absurd z a) (fun _ => ⟨fun z => absurd rfl z, fun _ => ⟨rfl, h.r⟩⟩))⟩))
  have a' := a
  obtain ⟨s, hs', rfl⟩ := in_nat (m := 3) (by omega) a
  have hs : s < 4 := by omega
  have hx := ix_nI (k := s) (n := 4) (by omega) (by omega)
  have sh := h.shs hs
  rw [tn_nI (by omega)]
  refine ⟨hx, 137 + 2 * s, r132 s hs, shm s hs, vc_X6_isLost (shm s hs) ⟨fun e => ⟨fun _ => ?_, fun z => absurd rfl z⟩, fun e => ⟨fun z => absurd z ne10, fun _ => vc_X10_found ?_⟩⟩⟩
  · rcases sh.2 with w | ⟨_, z, z1, z2, z3, z4⟩
    · exact absurd w e
    refine c_read19 (f := I (137 + 2 * s + 1)) hs h.nb8 z1 z2 (fun _ _ => rfl) (fun K k bc hk he => ?_)
    have fr : ∀ x, x ≠ 2 → x ≠ 8 → x ≠ 9 → x ≠ 11 → K x = I x := bc.2.2.2.2.1
    refine vc_X11_read (sp_mSheet (fun _ => ⟨fun _ => ⟨hx, ?_⟩, fun z => absurd ne10 z⟩) (fun z => absurd a' z))
    rw [tn_nI (by omega), fr 146 (by omega) (by omega) (by omega) (by omega)]
    refine ⟨fun _ => ?_, fun y => absurd (sh.ge.mpr e) y⟩
    refine m_read18 (f := I (137 + 2 * s + 1)) (k := k) hs ⟨by rw [fr 145 (by omega) (by omega) (by omega) (by omega)]; exact h.2.2.2.2.2.2.1.1, h.nb8.2⟩ z1 (by rw [fr 147 (by omega) (by omega) (by omega) (by omega)]; exact z3) (fun j hj => by rw [fr 148 (by omega) (by omega) (by omega) (by omega)]; exact z4 j hj) hk he (fun L bm => ⟨rfl, ?_⟩)
    have hk8 : nb + k ≤ 8 := by
      cases k with
      | zero => exact h.nb8.2
      | succ k => have := (hk k (by omega)).2.2.2; omega
    refine h.btn hk8 (fun i hi => ?_) bc bm
    obtain ⟨p, hp, ep⟩ := in_nat (m := 7) (by omega) (hk i hi).2.2.1
    exact ⟨p, by omega, ep⟩
  · refine vc_X11_read (sp_mSheet (fun _ => ⟨fun _ => ⟨hx, ?_⟩, fun z => absurd ne10 z⟩) (fun z => absurd a' z))
    rw [tn_nI (by omega), mm_u_k (k := 0) (x := 146) (by omega)]
    exact ⟨fun z => absurd (sh.ge.mp z) e, fun _ => vc_X11_finds ⟨rfl, h.fd 1⟩⟩
end SHEETS2
