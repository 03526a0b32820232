section MUT4
variable {X : mm_X} {d : Nat} {I I' K L I1 I2 : tI} {J : tJ} {n ns nb nf nq tr ts t k : Nat} {g s q : tI} {v1 v2 v3 : Int32}
theorem pb_back (h : Rl I g q n ns nb nf nq tr ts) : PB X (d + 25) n_X10_back n_X11_back [.int v1] I J := by
  unfold PB
  have hg := h
  obtain ⟨⟨h1, gd, gp⟩, h2, h3, h4, h5, h6, h7, h8, h9, h10, h11, h12, h13, h14⟩ := hg
  obtain ⟨d1, d2, d3, d4, d5, d6⟩ := gd
  have hf4 := d4.2
  have hb8 := d3.2
  refine vc_X10_back (sp_isWithin (fun a b => ⟨fun _ => ?_, fun z => absurd ne10 z⟩) (fun a => ⟨fun z => absurd rfl z, fun _ => vc_X11_back (sp_mTwo (fun z => absurd z a) (fun _ => ⟨fun z => absurd rfl z, fun _ => ⟨rfl, h.r⟩⟩))⟩))
  rcases two_iff.mp ⟨a, b⟩ with rfl | rfl
  · refine ⟨fun z => absurd rfl z, fun _ => ?_⟩
    rw [d3.1]
    refine vc_X10_back_15 ⟨fun ne => ⟨fun z => absurd rfl z, fun _ => ?_⟩, fun z => ?_⟩
    · obtain ⟨m, rfl⟩ : ∃ m, nb = m + 1 := ⟨nb - 1, by
        have : nb ≠ 0 := fun e => ne (by rw [e]; rfl)
        omega⟩
      rw [d3.1, nI_pred]
      have q145 : ∀ x, mm_u (mm_u I 2 7 x) 11 5 0 145 = I 145 := fun x => by rw [mm_u_k (by omega), mm_u_k (by omega)]
      refine vc_X11_back (sp_mTwo (fun _ => ⟨fun _ => ⟨fun z => absurd rfl z, fun _ => ?_⟩, fun z => absurd ne10 z⟩) (fun z => absurd (by decide) z))
      rw [q145, h7.1]
      refine vc_X11_back_12 ⟨fun _ => ⟨fun z => absurd rfl z, fun _ => ?_⟩, fun z => absurd ne z⟩
      rw [q145, h7.1]
      refine vc_X11_back_25 ?_
      have e14 : ∀ x, mm_u (mm_u (mm_u I 2 7 (nI m)) 11 5 0) 145 12 x 145 14 = nI nf := fun x => by rw [mm_u_j (by omega), q145]; exact h8.1
      rw [nI_pred, e14, Int32.sub_zero]
      refine ⟨rfl, h.bf m nf (by omega) hf4 ?_ ?_ ?_ ?_ ?_ ?_ ?_ ?_ ?_ ?_ ?_⟩
      · rw [mm_u_k (by omega), mm_u_k (by omega), mm_u_k (by omega), mm_u_s]
      · rw [mm_u_k (by omega), mm_u_k (by omega), mm_u_k (by omega), mm_u_j (by omega)]; exact d4.1
      · intro j j1 j2; rw [mm_u_k (by omega), mm_u_k (by omega), mm_u_k (by omega), mm_u_j j1]
      · intro k hk; rw [mm_u_k (by omega), mm_u_k (by omega), mm_u_k (by omega), mm_u_k (by omega)]; exact d6 k (by omega)
      · rw [mm_u_j (by omega), mm_u_s]
      · rw [mm_u_s]
      · intro j j1 j2; rw [mm_u_j j2, mm_u_j j1, q145]
      · intro k hk
        have u : ∀ x, x ≠ 145 → x ≠ 11 → x ≠ 2 → mm_u (mm_u (mm_u (mm_u I 2 7 (nI m)) 11 5 0) 145 12 (nI m)) 145 14 (nI nf) x = I x := fun x x1 x2 x3 => by rw [mm_u_k x1, mm_u_k x1, mm_u_k x2, mm_u_k x3]
        rw [u 155 (by omega) (by omega) (by omega), u 8 (by omega) (by omega) (by omega), u 9 (by omega) (by omega) (by omega)]
        exact h7.2 k (by omega)
      · intro k hk
        have u : ∀ x, x ≠ 145 → x ≠ 11 → x ≠ 2 → mm_u (mm_u (mm_u (mm_u I 2 7 (nI m)) 11 5 0) 145 12 (nI m)) 145 14 (nI nf) x = I x := fun x x1 x2 x3 => by rw [mm_u_k x1, mm_u_k x1, mm_u_k x2, mm_u_k x3]
        rw [u 156 (by omega) (by omega) (by omega), u 10 (by omega) (by omega) (by omega)]
        exact h8.2 k hk
      · rw [mm_u_k (by omega), mm_u_k (by omega), mm_u_s]
      · intro x x1 x2 x3 x4 x5 x6 x7 x8; rw [mm_u_k x6, mm_u_k x6, mm_u_k x5, mm_u_k x1]
    · refine vc_X11_back (sp_mTwo (fun _ => ⟨fun _ => ⟨fun z => absurd rfl z, fun _ => ?_⟩, fun z => absurd ne10 z⟩) (fun z => absurd (by decide) z))
      rw [h7.1]
      exact vc_X11_back_12 ⟨fun y => absurd y z, fun _ => ⟨rfl, h.r⟩⟩
  · refine ⟨fun _ => ?_, fun z => absurd ne10 z⟩
    rw [d4.1]
    refine vc_X10_back_15 ⟨fun ne => ⟨fun _ => ?_, fun z => absurd ne10 z⟩, fun z => ?_⟩
    · obtain ⟨m, rfl⟩ : ∃ m, nf = m + 1 := ⟨nf - 1, by
        have : nf ≠ 0 := fun e => ne (by rw [e]; rfl)
        omega⟩
      rw [d4.1, nI_pred]
      have q145 : ∀ x, mm_u (mm_u I 2 10 x) 11 5 0 145 = I 145 := fun x => by rw [mm_u_k (by omega), mm_u_k (by omega)]
      refine vc_X11_back (sp_mTwo (fun _ => ⟨fun _ => ⟨fun _ => ?_, fun z => absurd ne10 z⟩, fun z => absurd ne10 z⟩) (fun z => absurd (by decide) z))
      rw [q145, h8.1]
      refine vc_X11_back_12 ⟨fun _ => ⟨fun _ => ?_, fun z => absurd ne10 z⟩, fun z => absurd ne z⟩
      rw [q145, h7.1]
      refine vc_X11_back_25 ?_
      have e14 : ∀ x, mm_u (mm_u (mm_u I 2 10 (nI m)) 11 5 0) 145 12 x 145 14 = nI (m + 1) := fun x => by rw [mm_u_j (by omega), q145]; exact h8.1
      rw [nI_pred, e14, Int32.sub_zero, nI_pred]
      have u : ∀ x, x ≠ 145 → x ≠ 11 → x ≠ 2 → mm_u (mm_u (mm_u (mm_u I 2 10 (nI m)) 11 5 0) 145 12 (nI nb)) 145 14 (nI m) x = I x := fun x x1 x2 x3 => by rw [mm_u_k x1, mm_u_k x1, mm_u_k x2, mm_u_k x3]
      refine ⟨rfl, h.bf nb m hb8 (by omega) ?_ ?_ ?_ ?_ ?_ ?_ ?_ ?_ ?_ ?_ ?_⟩
      · rw [mm_u_k (by omega), mm_u_k (by omega), mm_u_k (by omega), mm_u_j (by omega)]; exact d3.1
      · rw [mm_u_k (by omega), mm_u_k (by omega), mm_u_k (by omega), mm_u_s]
      · intro j j1 j2; rw [mm_u_k (by omega), mm_u_k (by omega), mm_u_k (by omega), mm_u_j j2]
      · rw [u 9 (by omega) (by omega) (by omega)]; exact d6
      · rw [mm_u_j (by omega), mm_u_s]
      · rw [mm_u_s]
      · intro j j1 j2; rw [mm_u_j j2, mm_u_j j1, q145]
      · rw [u 155 (by omega) (by omega) (by omega), u 8 (by omega) (by omega) (by omega), u 9 (by omega) (by omega) (by omega)]; exact h7.2
      · intro k hk
        rw [u 156 (by omega) (by omega) (by omega), u 10 (by omega) (by omega) (by omega)]
        exact h8.2 k (by omega)
      · rw [mm_u_k (by omega), mm_u_k (by omega), mm_u_s]
      · intro x x1 x2 x3 x4 x5 x6 x7 x8; rw [mm_u_k x6, mm_u_k x6, mm_u_k x5, mm_u_k x1]
    · refine vc_X11_back (sp_mTwo (fun _ => ⟨fun _ => ⟨fun _ => ?_, fun z => absurd ne10 z⟩, fun z => absurd ne10 z⟩) (fun z => absurd (by decide) z))
      rw [h8.1]
      exact vc_X11_back_12 ⟨fun y => absurd y z, fun _ => ⟨rfl, h.r⟩⟩
def sU (I : tI) (m : Nat) (a b c : Int32) : tI := mm_u (mm_u (mm_u (mm_u I 33 m a) 34 m b) 35 m c) 32 4 (nI (m + 1))
def qU (q : tI) (m : Nat) (a b c : Int32) : tI := mm_u (mm_u (mm_u q 0 m a) 1 m b) 2 m c
def tU (I : tI) (m : Nat) (a b c : Int32) : tI := mm_u (mm_u (mm_u (mm_u I 167 (3 * m) a) 167 (3 * m + 1) b) 167 (3 * m + 2) c) 145 27 (nI (m + 1))
theorem sp_add {P : tI → tJ → Prop} (hq : I 32 4 = nI nq) (lt : nq < 8) (hP : P (sU I nq v1 v2 v3) J) : EV X d n_X7_add [.ref 32, .int v1, .int v2, .int v3] I J P := by
  refine vc_X7_add ⟨fun _ => ?_, fun z => ?_⟩
  · have e3 : ∀ (f : tI) x j, mm_u f 33 j x 32 = f 32 := fun f x j => mm_u_k (by omega)
    have e4 : ∀ (f : tI) x j, mm_u f 34 j x 32 = f 32 := fun f x j => mm_u_k (by omega)
    have e5 : ∀ (f : tI) x j, mm_u f 35 j x 32 = f 32 := fun f x j => mm_u_k (by omega)
    simp only [e3, e4, e5]
    rw [hq, tn_nI (by omega), nI_1]
    exact ⟨ix_nI lt (by omega), ix_nI lt (by omega), ix_nI lt (by omega), hP⟩
  · rw [hq, show (8 : Int32) = nI 8 from rfl, lt_nI (by omega) (by omega)] at z; exact absurd lt z
theorem rq_step (hr : Rq q nq) (lt : nq < 8) (a : inR v1 0 29) (b : inR v2 0 7) : Rq (qU q nq v1 v2 v3) (nq + 1) := by
  refine ⟨by omega, fun i hi => ?_⟩
  unfold qU
  rw [mm_u_k (k := 2) (x := 0) (by omega), mm_u_k (k := 1) (x := 0) (by omega), mm_u_k (k := 2) (x := 1) (by omega)]
  by_cases e : i = nq
  · rw [e, mm_u_s, mm_u_s]
    obtain ⟨x, hx, ex⟩ := in_nat (m := 29) (by omega) a
    obtain ⟨y, hy, ey⟩ := in_nat (m := 7) (by omega) b
    exact ⟨⟨x, by omega, ex⟩, ⟨y, by omega, ey⟩⟩
  · rw [mm_u_j e, mm_u_j e, mm_u_k (k := 0) (x := 1) (by omega)]; exact hr.2 i (by omega)
theorem sq_step (h : Sq I q nq) (lt : nq < 8) (a : inR v1 0 29) (b : inR v2 0 7) : Sq (sU I nq v1 v2 v3) (qU q nq v1 v2 v3) (nq + 1) := by
  obtain ⟨r, h1, h2⟩ := h
  refine ⟨rq_step r lt a b, by unfold sU; rw [mm_u_s], fun i hi => ?_⟩
  unfold sU qU
  rw [mm_u_k (k := 32) (x := 33) (by omega), mm_u_k (k := 32) (x := 34) (by omega), mm_u_k (k := 32) (x := 35) (by omega), mm_u_k (k := 35) (x := 33) (by omega), mm_u_k (k := 35) (x := 34) (by omega), mm_u_k (k := 34) (x := 33) (by omega), mm_u_k (k := 2) (x := 0) (by omega), mm_u_k (k := 1) (x := 0) (by omega), mm_u_k (k := 2) (x := 1) (by omega)]
  by_cases e : i = nq
  · rw [e, mm_u_s, mm_u_s, mm_u_s, mm_u_s, mm_u_s, mm_u_s]; exact ⟨rfl, rfl, rfl⟩
  · simp only [mm_u_j e]
    exact h2 i (by omega)
theorem mq_step (h : Mq I q nq) (lt : nq < 8) (a : inR v1 0 29) (b : inR v2 0 7) : Mq (tU I nq v1 v2 v3) (qU q nq v1 v2 v3) (nq + 1) := by
  obtain ⟨r, h1, h2⟩ := h
  refine ⟨rq_step r lt a b, by unfold tU; rw [mm_u_s], fun i hi => ?_⟩
  unfold tU qU
  rw [mm_u_k (k := 145) (x := 167) (by omega), mm_u_k (k := 2) (x := 0) (by omega), mm_u_k (k := 1) (x := 0) (by omega), mm_u_k (k := 2) (x := 1) (by omega)]
  by_cases e : i = nq
  · rw [e, mm_u_s, mm_u_s, mm_u_s, mm_u_s, mm_u_j (by omega), mm_u_j (by omega), mm_u_s, mm_u_j (by omega), mm_u_s]; exact ⟨rfl, rfl, rfl⟩
  · simp only [mm_u_j e]
    rw [mm_u_j (by omega), mm_u_j (by omega), mm_u_j (by omega), mm_u_j (by omega), mm_u_j (by omega), mm_u_j (by omega), mm_u_j (by omega), mm_u_j (by omega), mm_u_j (by omega)]
    exact h2 i (by omega)
theorem m_seen {P : Int32 → tI → tJ → Prop} (hq : I 145 27 = nI nq ∧ nq ≤ 8) (h1 : inR v1 0 29 → inR v2 0 7 → inR v3 0 3 → nq < 8 → P (nI (nq + 1)) (tU I nq v1 v2 v3) J) (h0 : ¬ (inR v1 0 29 ∧ inR v2 0 7 ∧ inR v3 0 3) → P (-2) I J) (h4 : inR v1 0 29 → inR v2 0 7 → inR v3 0 3 → ¬ nq < 8 → P (-4) I J) : EI X (d + 25) n_X11_seen [.ref 145, .int v1, .int v2, .int v3] I J P := by
  have hq8 := hq.2
  refine vc_X11_seen (sp_mHour (fun a => ⟨fun z => absurd z ne10, fun _ => sp_in32 0 7 rfl rfl (fun b1 b2 => ⟨fun z => absurd z ne10, fun _ => sp_in32 0 3 rfl rfl (fun c1 c2 => ⟨fun _ => ?_, fun z => absurd ne10 z⟩) (fun c => ⟨fun z => absurd rfl z, fun _ => h0 (fun z => c z.2.2)⟩)⟩) (fun b => ⟨fun _ => h0 (fun z => b z.2.1), fun z => absurd rfl z⟩)⟩) (fun a => ⟨fun _ => h0 (fun z => a z.1), fun z => absurd rfl z⟩))
  simp only [u167]
  rw [hq.1, nI_mul3, nI_1, nI_1, nI_2, tn_nI (k := 3 * nq) (by omega), tn_nI (k := 3 * nq + 1) (by omega), tn_nI (k := 3 * nq + 2) (by omega), mm_u_s]
  refine ⟨fun ne => ?_, fun z => ?_⟩
  · have lt : nq < 8 := by
      refine Decidable.byContradiction (fun z => ne ?_)
      rw [show nq = 8 by omega]; rfl
    exact ⟨ix_nI (by omega) (by omega), ix_nI (by omega) (by omega), ix_nI (by omega) (by omega), h1 a ⟨b1, b2⟩ ⟨c1, c2⟩ lt⟩
  · have := (nI_eq (a := nq) (b := 8) (by omega) (by omega)).mp (Decidable.not_not.mp z)
    exact h4 a ⟨b1, b2⟩ ⟨c1, c2⟩ (by omega)
theorem pb_seen (h : Rl I g q n ns nb nf nq tr ts) : PB X (d + 25) n_X10_seen n_X11_seen [.int v1, .int v2, .int v3] I J := by
  unfold PB
  have hq8 := h.sq.1.1
  have hm : I 145 27 = nI nq ∧ nq ≤ 8 := ⟨h.mq.2.1, hq8⟩
  have bad : ∀ {dd : Nat}, ¬ (inR v1 0 29 ∧ inR v2 0 7 ∧ inR v3 0 3) → EI X (dd + 25) n_X11_seen [.ref 145, .int v1, .int v2, .int v3] I J (fun y I2 _ => y = -2 ∧ RR I2) := fun z => m_seen hm (fun a b c _ => absurd ⟨a, b, c⟩ z) (fun _ => ⟨rfl, h.r⟩) (fun a b c _ => absurd ⟨a, b, c⟩ z)
  refine vc_X10_seen (sp_cHour (fun a => ⟨fun z => absurd z ne10, fun _ => sp_isWithin (fun b1 b2 => ⟨fun z => absurd z ne10, fun _ => sp_isWithin (fun c1 c2 => ⟨fun _ => ?_, fun z => absurd ne10 z⟩) (fun c => ⟨fun z => absurd rfl z, fun _ => bad (fun z => c z.2.2)⟩)⟩) (fun b => ⟨fun _ => bad (fun z => b z.2.1), fun z => absurd rfl z⟩)⟩) (fun a => ⟨fun _ => bad (fun z => a z.1), fun z => absurd rfl z⟩))
  have all : inR v1 0 29 ∧ inR v2 0 7 ∧ inR v3 0 3 := ⟨a, ⟨b1, b2⟩, c1, c2⟩
  rw [h.sq.2.1]
  refine ⟨fun lt => ?_, fun ge => ?_⟩
  · rw [show (8 : Int32) = nI 8 from rfl, lt_nI (by omega) (by omega)] at lt
    refine sp_add h.sq.2.1 lt ?_
    have e1 : sU I nq v1 v2 v3 32 4 = nI (nq + 1) := by unfold sU; rw [mm_u_s]
    have fx : ∀ x, (x < 32 ∨ 35 < x) → sU I nq v1 v2 v3 x = I x := fun x hx => by unfold sU; rw [mm_u_k (by omega), mm_u_k (by omega), mm_u_k (by omega), mm_u_k (by omega)]
    have gx : ∀ x, x ≠ 145 → x ≠ 167 → tU (sU I nq v1 v2 v3) nq v1 v2 v3 x = sU I nq v1 v2 v3 x := fun x x1 x2 => by unfold tU; rw [mm_u_k x1, mm_u_k x2, mm_u_k x2, mm_u_k x2]
    rw [e1]
    refine m_seen (nq := nq) (by rw [fx 145 (by omega)]; exact hm) (fun _ _ _ _ => ⟨rfl, ?_⟩) (fun z => absurd all z) (fun _ _ _ z => absurd lt z)
    refine h.sn (qU q nq v1 v2 v3) (nq + 1) ?_ ?_ ?_ ?_
    · have w := sq_step (v3 := v3) h.sq lt a ⟨b1, b2⟩
      unfold Sq at w ⊢
      rw [gx 32 (by omega) (by omega), gx 33 (by omega) (by omega), gx 34 (by omega) (by omega), gx 35 (by omega) (by omega)]; exact w
    · refine mq_step ?_ lt a ⟨b1, b2⟩
      have w := h.mq
      unfold Mq at w ⊢
      rw [fx 145 (by omega), fx 167 (by omega)]; exact w
    · intro j hj
      unfold tU
      rw [mm_u_j hj, u167, u167, u167, fx 145 (by omega)]
    · intro x x1 x2 x3; rw [gx x x2 x3, fx x x1]
  · rw [show (8 : Int32) = nI 8 from rfl, lt_nI (by omega) (by omega)] at ge
    exact m_seen hm (fun _ _ _ z => absurd z ge) (fun z => absurd all z) (fun _ _ _ _ => ⟨rfl, h.r⟩)
theorem pb_forget (h : Rl I g q n ns nb nf nq tr ts) : PB X (d + 25) n_X10_forget n_X11_forget [] I J := by
  unfold PB
  refine vc_X10_forget (fun y hy => vc_X11_forget (fun z hz => ⟨?_, ?_⟩))
  · rw [hz, hy, mm_u_k (by omega), h.sq.2.1]; exact h.mq.2.1
  · have rq : Rq q 0 := ⟨by omega, fun i hi => absurd hi (Nat.not_lt_zero _)⟩
    refine h.sn q 0 ⟨rq, ?_, fun i hi => absurd hi (Nat.not_lt_zero _)⟩ ⟨rq, ?_, fun i hi => absurd hi (Nat.not_lt_zero _)⟩ ?_ ?_
    · rw [mm_u_k (by omega), mm_u_s]; rfl
    · rw [mm_u_s]; rfl
    · intro j hj; rw [mm_u_j hj, mm_u_k (by omega)]
    · intro x x1 x2 x3; rw [mm_u_k x2, mm_u_k (by omega)]
end MUT4
