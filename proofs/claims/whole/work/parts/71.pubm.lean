/-! ===== the reference's questions ===== -/
section PUBM
variable {X : mm_X} {d : Nat} {I I' I'' : tI} {J : tJ} {n ns nb nf nq tr ts : Nat} {g s q : tI}
theorem sp_mHour {P : Int32 → tI → tJ → Prop} {v : Int32} (h1 : inR v 0 29 → P 1 I J) (h0 : ¬ inR v 0 29 → P 0 I J) : EI X (d + 1) n_X11_isHour [.int v] I J P := vc_X11_isHour (sp_in32 0 29 rfl rfl (fun a b => ⟨Or.inr rfl, h1 ⟨a, b⟩⟩) (fun a => ⟨Or.inl rfl, h0 a⟩))
theorem sp_mTwo {P : Int32 → tI → tJ → Prop} {v : Int32} (h1 : inR v 0 1 → P 1 I J) (h0 : ¬ inR v 0 1 → P 0 I J) : EI X (d + 1) n_X11_isTwo [.int v] I J P := vc_X11_isTwo (sp_in32 0 1 rfl rfl (fun a b => ⟨Or.inr rfl, h1 ⟨a, b⟩⟩) (fun a => ⟨Or.inl rfl, h0 a⟩))
theorem sp_mSheet {P : Int32 → tI → tJ → Prop} {v : Int32} (h1 : inR v 0 3 → P 1 I J) (h0 : ¬ inR v 0 3 → P 0 I J) : EI X (d + 1) n_X11_isSheet [.int v] I J P := vc_X11_isSheet (sp_in32 0 3 rfl rfl (fun a b => ⟨Or.inr rfl, h1 ⟨a, b⟩⟩) (fun a => ⟨Or.inl rfl, h0 a⟩))
theorem sp_mSlice {P : Int32 → tI → tJ → Prop} {v : Int32} (hn : I 145 9 = nI n) (h1 : isK n v → P 1 I J) (h0 : ¬ isK n v → P 0 I J) : EI X (d + 1) n_X11_isSlice [.ref 145, .int v] I J P := by
  refine vc_X11_isSlice ?_
  rw [hn]
  exact sp_in32 0 (nI n - 1) rfl rfl (fun a b => ⟨Or.inr rfl, h1 ⟨a, b⟩⟩) (fun a => ⟨Or.inl rfl, h0 a⟩)
theorem mul8' (h : Nat) : 8 * nI h = nI (8 * h) := pk_mul 8 h
theorem m_heat {P : Int32 → tI → tJ → Prop} {v1 v2 : Int32} (h : Rl I g q n ns nb nf nq tr ts) (hP : ∀ I', KM I I' → P (if inR v1 0 29 ∧ isK n v2 then zN g n nb nf (fun _ => 0) (tn v1 + 1) 1 (tn v2) else -2) I' J) : EI X (d + 20) n_X11_heat [.ref 145, .int v1, .int v2] I J P := by
  have hn8 := h.n8
  refine vc_X11_heat (sp_find h (fun I' km hR mg kp rm => ?_))
  have hP := hP I' km
  refine sp_mHour (fun a => ⟨fun z => absurd z ne10, fun _ => sp_mSlice mg.1.1 (fun b => ⟨fun z => absurd z ne10, fun _ => ?_⟩) (fun b => ⟨fun _ => ?_, fun z => absurd rfl z⟩)⟩) (fun a => ⟨fun _ => ?_, fun z => absurd rfl z⟩)
  · rw [if_pos ⟨a, b⟩] at hP
    obtain ⟨u, hu, rfl⟩ := in_nat (m := 29) (by omega) a
    obtain ⟨k, hk, rfl⟩ := isK_nat (by omega) b
    rw [tn_nI (by omega), tn_nI (by omega)] at hP
    rw [mul8', nI_add, tn_nI (by omega), (kp u k (by omega) hk).1]
    exact ⟨ix_nI (by omega) (by omega), hP⟩
  · rw [if_neg (fun z => b z.2)] at hP; exact hP
  · rw [if_neg (fun z => a z.1)] at hP; exact hP
theorem m_state {P : Int32 → tI → tJ → Prop} {v1 v2 : Int32} (h : Rl I g q n ns nb nf nq tr ts) (hP : ∀ I', KM I I' → P (if inR v1 0 29 ∧ isK n v2 then zN g n nb nf (fun _ => 0) (tn v1 + 1) 2 (tn v2) else -2) I' J) : EI X (d + 20) n_X11_state [.ref 145, .int v1, .int v2] I J P := by
  have hn8 := h.n8
  refine vc_X11_state (sp_find h (fun I' km hR mg kp rm => ?_))
  have hP := hP I' km
  refine sp_mHour (fun a => ⟨fun z => absurd z ne10, fun _ => sp_mSlice mg.1.1 (fun b => ⟨fun z => absurd z ne10, fun _ => ?_⟩) (fun b => ⟨fun _ => ?_, fun z => absurd rfl z⟩)⟩) (fun a => ⟨fun _ => ?_, fun z => absurd rfl z⟩)
  · rw [if_pos ⟨a, b⟩] at hP
    obtain ⟨u, hu, rfl⟩ := in_nat (m := 29) (by omega) a
    obtain ⟨k, hk, rfl⟩ := isK_nat (by omega) b
    rw [tn_nI (by omega), tn_nI (by omega)] at hP
    rw [mul8', nI_add, tn_nI (by omega), (kp u k (by omega) hk).2]
    exact ⟨ix_nI (by omega) (by omega), hP⟩
  · rw [if_neg (fun z => b z.2)] at hP; exact hP
  · rw [if_neg (fun z => a z.1)] at hP; exact hP
theorem sp_heldBy {P : Int32 → tI → tJ → Prop} {u : Nat} (hu : u < 30) (mg : Mg I g n ns nb nf) (kp : Kp n 30 I (zN g n nb nf (fun _ => 0))) (hP : P (hm (g 4) (zN g n nb nf (fun _ => 0) (u + 1) 2) n) I J) : EI X d n_X11_heldBy [.ref 145, .int (nI u)] I J P := by
  have hn8 := mg.1.2
  refine vc_X11_heldBy ?_
  have key : ∀ k, k ≤ n → Er X d M_X11_heldBy 4 [some (.ref 145), some (.int (nI u)), some (.int (hm (g 4) (zN g n nb nf (fun _ => 0) (u + 1) 2) k)), some (.int (nI k))] [] I J (qI P) := by
    refine up_loop ?_ ?_
    · refine vc_X11_heldBy_4 ⟨fun _ => hP, fun hh => ?_⟩
      rw [mg.1.1] at hh; exact absurd (Int32.le_refl _) hh
    · intro k hk ih
      refine vc_X11_heldBy_4 ⟨fun hh => ?_, fun _ => ?_⟩
      · rw [mg.1.1, le_nI (by omega) (by omega)] at hh; omega
      rw [mul8', nI_add, tn_nI (by omega), (kp u k hu hk).2, nI_mul3, nI_2, tn_nI (k := 3 * k + 2) (by omega), (mg.2.2.2.2.1 k hk).2.2, nI_1]
      rw [hm] at ih
      refine ⟨ix_nI (by omega) (by omega), fun z y hy => ?_, fun z => ⟨ix_nI (by omega) (by omega), fun y hy => ?_⟩⟩
      · rw [if_neg z] at ih
        rw [hy, Int32.or_zero]; exact ih
      · rw [if_pos (Decidable.not_not.mp z)] at ih
        rw [hy]; exact ih
  exact key 0 (Nat.zero_le _)
theorem m_held {P : Int32 → tI → tJ → Prop} {v1 : Int32} (h : Rl I g q n ns nb nf nq tr ts) (hP : ∀ I', KM I I' → P (if inR v1 0 29 then hm (g 4) (zN g n nb nf (fun _ => 0) (tn v1 + 1) 2) n else -2) I' J) : EI X (d + 20) n_X11_held [.ref 145, .int v1] I J P := by
  refine vc_X11_held (sp_find h (fun I' km hR mg kp rm => ?_))
  have hP := hP I' km
  refine sp_mHour (fun a => ⟨fun z => absurd z ne10, fun _ => ?_⟩) (fun a => ⟨fun _ => ?_, fun z => absurd rfl z⟩)
  · rw [if_pos a] at hP
    obtain ⟨u, hu, rfl⟩ := in_nat (m := 29) (by omega) a
    rw [tn_nI (by omega)] at hP
    exact sp_heldBy (by omega) mg kp hP
  · rw [if_neg a] at hP; exact hP
theorem m_freed {P : Int32 → tI → tJ → Prop} {v1 v2 : Int32} (h : Rl I g q n ns nb nf nq tr ts) (hP : ∀ I', KM I I' → P (if isK n v1 ∧ inR v2 0 1 then (if v2 ≠ 0 then zN g n nb nf (fun _ => 0) 30 6 (tn v1) else zN g n nb nf (fun _ => 0) 30 5 (tn v1)) else -2) I' J) : EI X (d + 20) n_X11_freed [.ref 145, .int v1, .int v2] I J P := by
  have hn8 := h.n8
  refine vc_X11_freed (sp_find h (fun I' km hR mg kp rm => ?_))
  have hP := hP I' km
  refine sp_mSlice mg.1.1 (fun a => ⟨fun z => absurd z ne10, fun _ => sp_mTwo (fun b => ⟨fun z => absurd z ne10, fun _ => vc_X11_freedBy ?_⟩) (fun b => ⟨fun _ => ?_, fun z => absurd rfl z⟩)⟩) (fun a => ⟨fun _ => ?_, fun z => absurd rfl z⟩)
  · rw [if_pos ⟨a, b⟩] at hP
    obtain ⟨k, hk, rfl⟩ := isK_nat (by omega) a
    rw [tn_nI (by omega)] at hP ⊢
    rw [(rm.r hk).2.2.2.2.1, (rm.r hk).2.2.2.2.2.1]
    exact ⟨fun y => ⟨ix_nI (by omega) (by omega), by rw [if_pos y] at hP; exact hP⟩, fun y => ⟨ix_nI (by omega) (by omega), by rw [if_neg y] at hP; exact hP⟩⟩
  · rw [if_neg (fun z => b z.2)] at hP; exact hP
  · rw [if_neg (fun z => a z.1)] at hP; exact hP
theorem sp_spoiltNow {P : Int32 → tI → tJ → Prop} (hn : I 145 9 = nI n ∧ n ≤ 8) {st : Nat → Int32} (rm : ∀ k, k < n → I 158 k = st k) (hP : P (spB st n) I J) : EI X d n_X11_spoiltNow [.ref 145] I J P := by
  have hn8 := hn.2
  refine vc_X11_spoiltNow ?_
  have key : ∀ k, k ≤ n → Er X d M_X11_spoiltNow 4 [some (.ref 145), some (.int (spB st k)), some (.int (nI k))] [] I J (qI P) := by
    refine up_loop ?_ ?_
    · refine vc_X11_spoiltNow_4 ⟨fun _ => hP, fun hh => ?_⟩
      rw [hn.1] at hh; exact absurd (Int32.le_refl _) hh
    · intro k hk ih
      refine vc_X11_spoiltNow_4 ⟨fun hh => ?_, fun _ => ⟨ix_nI (by omega) (by omega), ?_⟩⟩
      · rw [hn.1, le_nI (by omega) (by omega)] at hh; omega
      rw [tn_nI (k := k) (by omega), nI_1, rm k hk]
      rw [spB] at ih
      exact ⟨fun z y hy => by rw [if_neg z] at ih; rw [hy, Int32.or_zero]; exact ih, fun z y hy => by rw [if_pos (Decidable.not_not.mp z)] at ih; rw [hy]; exact ih⟩
  exact key 0 (Nat.zero_le _)
theorem m_spoilt {P : Int32 → tI → tJ → Prop} (h : Rl I g q n ns nb nf nq tr ts) (hP : ∀ I', KM I I' → P (spB (zN g n nb nf (fun _ => 0) 30 2) n) I' J) : EI X (d + 20) n_X11_spoilt [.ref 145] I J P :=
  vc_X11_spoilt (sp_find h (fun I' km hR mg kp rm => sp_spoiltNow mg.1 (fun k hk => (rm.r hk).2.1) (hP I' km)))
theorem cnI_le {st : Nat → Int32} : ∀ k, ∃ m, m ≤ k ∧ cnI st k = nI m
  | 0 => ⟨0, Nat.le_refl _, rfl⟩
  | k + 1 => by
    obtain ⟨m, m1, m2⟩ := cnI_le (st := st) k
    rw [cnI, m2]
    split
    · exact ⟨m + 1, by omega, nI_1 m⟩
    · exact ⟨m, by omega, rfl⟩
theorem cnI_zero {st : Nat → Int32} : ∀ k, k ≤ 8 → (cnI st k = 0 ↔ qtH k st)
  | 0, _ => ⟨fun _ k hk => absurd hk (Nat.not_lt_zero _), fun _ => rfl⟩
  | k + 1, h => by
    have ih := cnI_zero (st := st) k (by omega)
    rw [cnI]
    by_cases c : st k = 0 ∨ st k = 1
    · rw [if_pos c]
      refine ⟨fun z => ?_, fun z => absurd c (z k (by omega))⟩
      obtain ⟨m, m1, m2⟩ := cnI_le (st := st) k
      rw [m2, nI_1] at z
      exact absurd z (nI_ne0 (by omega) (by omega))
    · rw [if_neg c, ih]
      refine ⟨fun z j hj => ?_, fun z j hj => z j (by omega)⟩
      by_cases e : j = k
      · subst e; exact c
      · exact z j (by omega)
theorem sp_quietNow {P : Int32 → tI → tJ → Prop} (hn : I 145 9 = nI n ∧ n ≤ 8) (kp : Kp n 30 I (zN g n nb nf (fun _ => 0))) (hP : P (fh (fun u => qtH n (zN g n nb nf (fun _ => 0) (u + 1) 2)) 30 0) I J) : EI X (d + 1) n_X11_quietNow [.ref 145] I J P := by
  refine vc_X11_quietNow ?_
  have key : ∀ r u, u + r = 30 → P (fh (fun u => qtH n (zN g n nb nf (fun _ => 0) (u + 1) 2)) r u) I J → Er X (d + 1) M_X11_quietNow 2 [some (.ref 145), some (.int (nI u))] [] I J (qI P) := by
    intro r
    induction r with
    | zero =>
      intro u hu hP
      refine vc_X11_quietNow_2 ⟨fun _ => hP, fun hh => ?_⟩
      rw [show u = 30 by omega] at hh; exact absurd (Int32.le_refl _) hh
    | succ r ih =>
      intro u hu hP
      refine vc_X11_quietNow_2 ⟨fun hh => (le30 (by omega) hh).elim, fun _ => ?_⟩
      rw [nI_1]
      rw [fh] at hP
      refine sp_here hn (by omega) kp ⟨fun z => ?_, fun z => ?_⟩
      · rw [if_neg (fun y => z ((cnI_zero n hn.2).mpr y))] at hP
        exact ih (u + 1) (by omega) hP
      · rw [if_pos ((cnI_zero n hn.2).mp (Decidable.not_not.mp z))] at hP
        exact hP
  exact key 30 0 (by omega) hP
theorem m_quiet {P : Int32 → tI → tJ → Prop} (h : Rl I g q n ns nb nf nq tr ts) (hP : ∀ I', KM I I' → P (fh (fun u => qtH n (zN g n nb nf (fun _ => 0) (u + 1) 2)) 30 0) I' J) : EI X (d + 20) n_X11_quiet [.ref 145] I J P :=
  vc_X11_quiet (sp_find h (fun I' km hR mg kp rm => sp_quietNow mg.1 kp (hP I' km)))
theorem sp_crowdBy {P : Int32 → tI → tJ → Prop} {v : Int32} (hn : I 145 9 = nI n ∧ n ≤ 8) (kp : Kp n 30 I (zN g n nb nf (fun _ => 0))) (hP : P (crP (zN g n nb nf (fun _ => 0)) n v 30 0) I J) : EI X d n_X11_crowdBy [.ref 145, .int v] I J P := by
  have hn8 := hn.2
  refine vc_X11_crowdBy ?_
  have key : ∀ r u, u + r = 30 → ∀ o : Option Value, P (crP (zN g n nb nf (fun _ => 0)) n v r u) I J → Er X d M_X11_crowdBy 2 [some (.ref 145), some (.int v), some (.int (nI u)), o] [] I J (qI P) := by
    intro r
    induction r with
    | zero =>
      intro u hu o hP
      refine vc_X11_crowdBy_2 ⟨fun _ => hP, fun hh => ?_⟩
      rw [show u = 30 by omega] at hh; exact absurd (Int32.le_refl _) hh
    | succ r ih =>
      intro u hu o hP
      refine vc_X11_crowdBy_2 ⟨fun hh => (le30 (by omega) hh).elim, fun _ => ?_⟩
      rw [crP] at hP
      unfold ll at hP
      have inner : ∀ e k, k + e = n → P (if fh (fun k => zN g n nb nf (fun _ => 0) (u + 1) 2 k = 0) e k = -1 then crP (zN g n nb nf (fun _ => 0)) n v r (u + 1) else if v ≠ 0 then fh (fun k => zN g n nb nf (fun _ => 0) (u + 1) 2 k = 0) e k else nI u) I J → Er X d M_X11_crowdBy 7 [some (.ref 145), some (.int v), some (.int (nI u)), some (.int (nI k))] [] I J (qI P) := by
        intro e
        induction e with
        | zero =>
          intro k hk hP
          rw [fh, if_pos rfl] at hP
          refine vc_X11_crowdBy_7 ⟨fun _ => ?_, fun hh => ?_⟩
          · rw [nI_1]; exact ih (u + 1) (by omega) _ hP
          · rw [hn.1, show k = n by omega] at hh; exact absurd (Int32.le_refl _) hh
        | succ e ih2 =>
          intro k hk hP
          refine vc_X11_crowdBy_7 ⟨fun hh => ?_, fun _ => ?_⟩
          · rw [hn.1, le_nI (by omega) (by omega)] at hh; omega
          rw [mul8', nI_add, tn_nI (by omega), (kp u k (by omega) (by omega)).2, nI_1]
          rw [fh] at hP
          refine ⟨ix_nI (by omega) (by omega), fun z => ?_, fun z => ?_⟩
          · rw [if_neg z] at hP; exact ih2 (k + 1) (by omega) hP
          · rw [if_pos (Decidable.not_not.mp z), if_neg (nI_ne (by omega))] at hP
            exact ⟨fun w => by rw [if_pos w] at hP; exact hP, fun w => by rw [if_neg w] at hP; exact hP⟩
      exact inner n 0 (by omega) hP
  exact key 30 0 (by omega) none hP
theorem m_crowd {P : Int32 → tI → tJ → Prop} {v : Int32} (h : Rl I g q n ns nb nf nq tr ts) (hP : ∀ I', KM I I' → P (if inR v 0 1 then crP (zN g n nb nf (fun _ => 0)) n v 30 0 else -2) I' J) : EI X (d + 20) n_X11_crowd [.ref 145, .int v] I J P := by
  refine vc_X11_crowd (sp_find h (fun I' km hR mg kp rm => ?_))
  have hP := hP I' km
  refine sp_mTwo (fun a => ⟨fun z => absurd z ne10, fun _ => ?_⟩) (fun a => ⟨fun _ => ?_, fun z => absurd rfl z⟩)
  · rw [if_pos a] at hP; exact sp_crowdBy mg.1 kp hP
  · rw [if_neg a] at hP; exact hP
theorem m_move {P : Int32 → tI → tJ → Prop} {v1 v2 : Int32} (h : Rl I g q n ns nb nf nq tr ts) (hP : ∀ I', KM I I' → P (if isK n v1 ∧ inR v2 0 1 then (if v2 ≠ 0 then (mvP n nb nf g (tn v1) ns).2 else (mvP n nb nf g (tn v1) ns).1) else -2) I' J) : EI X (d + 20) n_X11_move [.ref 145, .int v1, .int v2] I J P := by
  have hn8 := h.n8
  refine vc_X11_move (sp_find h (fun I' km hR mg kp rm => ?_))
  have hP0 := hP I' km
  refine sp_mSlice mg.1.1 (fun a => ⟨fun z => absurd z ne10, fun _ => sp_mTwo (fun b => ⟨fun z => absurd z ne10, fun _ => ?_⟩) (fun b => ⟨fun _ => ?_, fun z => absurd rfl z⟩)⟩) (fun a => ⟨fun _ => ?_, fun z => absurd rfl z⟩)
  · have ab : isK n v1 ∧ inR v2 0 1 := ⟨a, b⟩
    obtain ⟨k, hk, rfl⟩ := isK_nat (by omega) a
    refine sp_moveOf mg hR.o hk (fun I2 f2 => ?_)
    have hP := hP I2 (km.fl f2)
    rw [if_pos ab, tn_nI (by omega)] at hP
    exact hP
  · rw [if_neg (fun z => b z.2)] at hP0; exact hP0
  · rw [if_neg (fun z => a z.1)] at hP0; exact hP0
theorem m_swap {P : Int32 → tI → tJ → Prop} {v : Int32} (h : Rl I g q n ns nb nf nq tr ts) (hP : ∀ I', KM I I' → P (if inR v 0 2 then swR (swP n nb nf g 64) v else -2) I' J) : EI X (d + 20) n_X11_swap [.ref 145, .int v] I J P := by
  refine vc_X11_swap (sp_find h (fun I' km hR mg kp rm => ?_))
  have hP0 := hP I' km
  refine sp_in32 0 2 rfl rfl (fun a b => ⟨fun z => absurd z ne10, fun _ => ?_⟩) (fun a => ⟨fun _ => ?_, fun z => absurd rfl z⟩)
  · refine sp_swapBy mg hR.o (fun I2 f2 => ?_)
    have hP := hP I2 (km.fl f2)
    rw [if_pos ⟨a, b⟩] at hP
    exact hP
  · rw [if_neg a] at hP0; exact hP0
theorem m_line {P : Int32 → tI → tJ → Prop} {v : Int32} (h : Rl I g q n ns nb nf nq tr ts) (hP : ∀ I', KM I I' → P (if isK n v then zN g n nb nf (fun _ => 0) 30 7 (tn v) else -2) I' J) : EI X (d + 20) n_X11_line [.ref 145, .int v] I J P := by
  have hn8 := h.n8
  refine vc_X11_line (sp_find h (fun I' km hR mg kp rm => ?_))
  have hP := hP I' km
  refine sp_mSlice mg.1.1 (fun a => ⟨fun z => absurd z ne10, fun _ => ?_⟩) (fun a => ⟨fun _ => ?_, fun z => absurd rfl z⟩)
  · rw [if_pos a] at hP
    obtain ⟨k, hk, rfl⟩ := isK_nat (by omega) a
    rw [tn_nI (by omega)] at hP ⊢
    rw [(rm.r hk).2.2.2.2.2.2]
    exact ⟨ix_nI (by omega) (by omega), hP⟩
  · rw [if_neg a] at hP; exact hP
theorem m_bear {P : Int32 → tI → tJ → Prop} (h : Rl I g q n ns nb nf nq tr ts) (hP : ∀ I', KM I I' → P (bP n nb nf g 10) I' J) : EI X (d + 20) n_X11_bear [.ref 145] I J P :=
  vc_X11_bear (sp_find h (fun I' km hR mg kp rm => sp_bearNow mg hR.o (fun I2 f2 => hP I2 (km.fl f2))))
theorem m_heats {P : Int32 → tI → tJ → Prop} {v1 v2 : Int32} (h : Rl I g q n ns nb nf nq tr ts) (hP : ∀ I', KM I I' → P (if isK n v1 ∧ inR v2 (-1) 99 then hA n nb nf nq g q (tn v1) v2 else -2) I' J) : EI X (d + 20) n_X11_heats [.ref 145, .int v1, .int v2] I J P := by
  have hn8 := h.n8
  refine vc_X11_heats (sp_find h (fun I' km hR mg kp rm => ?_))
  have hP0 := hP I' km
  refine sp_mSlice mg.1.1 (fun a => ⟨fun z => absurd z ne10, fun _ => sp_in32 (-1) 99 (by decide) (by decide) (fun b c => ⟨fun z => absurd z ne10, fun _ => ?_⟩) (fun b => ⟨fun _ => ?_, fun z => absurd rfl z⟩)⟩) (fun a => ⟨fun _ => ?_, fun z => absurd rfl z⟩)
  · have ab : isK n v1 ∧ inR v2 (-1) 99 := ⟨a, b, c⟩
    obtain ⟨k, hk, rfl⟩ := isK_nat (by omega) a
    refine sp_heatsOf mg hR.o hR.mq hk (fun I2 f2 => ?_)
    have hP := hP I2 (km.fl f2)
    rw [if_pos ab, tn_nI (by omega)] at hP
    exact hP
  · rw [if_neg (fun z => b z.2)] at hP0; exact hP0
  · rw [if_neg (fun z => a z.1)] at hP0; exact hP0
theorem m_slots {P : Int32 → tI → tJ → Prop} {v : Int32} (h : Rl I g q n ns nb nf nq tr ts) (hP : ∀ I', KM I I' → P (if isK n v then sB n nb nf nq g q (tn v) 10 else -2) I' J) : EI X (d + 20) n_X11_slots [.ref 145, .int v] I J P := by
  have hn8 := h.n8
  refine vc_X11_slots (sp_find h (fun I' km hR mg kp rm => ?_))
  have hP0 := hP I' km
  refine sp_mSlice mg.1.1 (fun a => ⟨fun z => absurd z ne10, fun _ => ?_⟩) (fun a => ⟨fun _ => ?_, fun z => absurd rfl z⟩)
  · have a' := a
    obtain ⟨k, hk, rfl⟩ := isK_nat (by omega) a
    refine sp_slotsOfM mg hR.o hR.mq hk (fun I2 f2 => ?_)
    have hP := hP I2 (km.fl f2)
    rw [if_pos a', tn_nI (by omega)] at hP
    exact hP
  · rw [if_neg a] at hP0; exact hP0
theorem m_ask {P : Int32 → tI → tJ → Prop} {v : Int32} (h : Rl I g q n ns nb nf nq tr ts) (hP : ∀ I', KM I I' → P (if inR v 0 29 then (la (tY n nb nf nq g q (tn v) 10) n).1 else -2) I' J) : EI X (d + 20) n_X11_ask [.ref 145, .int v] I J P := by
  refine vc_X11_ask (sp_find h (fun I' km hR mg kp rm => ?_))
  have hP0 := hP I' km
  refine sp_mHour (fun a => ⟨fun z => absurd z ne10, fun _ => ?_⟩) (fun a => ⟨fun _ => ?_, fun z => absurd rfl z⟩)
  · have a' := a
    obtain ⟨u, hu, rfl⟩ := in_nat (m := 29) (by omega) a
    refine sp_askOf (by omega) mg hR.o hR.mq (fun I2 f2 => ?_)
    have hP := hP I2 (km.fa f2)
    rw [if_pos a', tn_nI (by omega)] at hP
    exact hP
  · rw [if_neg a] at hP0; exact hP0
theorem m_window {P : Int64 → tI → tJ → Prop} {v1 v2 v3 v4 v5 : Int32} (h : Rl I g q n ns nb nf nq tr ts) (hP : ∀ I', KM I I' → P (if inR v1 0 16 ∧ inR v2 0 9 ∧ isK n v3 ∧ inR v4 0 29 ∧ inR v5 0 1 then winV g n nb nf (tn v1) (tn v2) (tn v3) (tn v4) v5 else -9223372036854775806) I' J) : EL X (d + 20) n_X11_window [.ref 145, .int v1, .int v2, .int v3, .int v4, .int v5] I J P := by
  have hn8 := h.n8
  refine vc_X11_window (sp_find h (fun I' km hR mg kp rm => ?_))
  have no : ∀ {dd : Nat}, ¬ (inR v1 0 16 ∧ inR v2 0 9 ∧ isK n v3 ∧ inR v4 0 29 ∧ inR v5 0 1) → EL X dd n_X11_no [.int (-2)] I' J (fun x I J => P x I J) := fun z => by
    have hP := hP I' km
    rw [if_neg z] at hP
    refine vc_X11_no ?_
    rw [show (-9223372036854775808 : Int64) - Int32.toInt64 (-2) = -9223372036854775806 by decide]
    exact hP
  refine sp_in32 0 16 rfl rfl (fun a1 a2 => ⟨fun z => absurd z ne10, fun _ => sp_in32 0 9 rfl rfl (fun b1 b2 => ⟨fun z => absurd z ne10, fun _ => sp_mSlice mg.1.1 (fun c => ⟨fun z => absurd z ne10, fun _ => sp_mHour (fun e => ⟨fun z => absurd z ne10, fun _ => sp_mTwo (fun f => ⟨fun z => absurd z ne10, fun _ => ?_⟩) (fun y => ⟨fun _ => no (fun z => y z.2.2.2.2), fun z => absurd rfl z⟩)⟩) (fun y => ⟨fun _ => no (fun z => y z.2.2.2.1), fun z => absurd rfl z⟩)⟩) (fun y => ⟨fun _ => no (fun z => y z.2.2.1), fun z => absurd rfl z⟩)⟩) (fun y => ⟨fun _ => no (fun z => y z.2.1), fun z => absurd rfl z⟩)⟩) (fun y => ⟨fun _ => no (fun z => y z.1), fun z => absurd rfl z⟩)
  have all : inR v1 0 16 ∧ inR v2 0 9 ∧ isK n v3 ∧ inR v4 0 29 ∧ inR v5 0 1 := ⟨⟨a1, a2⟩, ⟨b1, b2⟩, c, e, f⟩
  obtain ⟨x1, y1, rfl⟩ := in_nat (m := 16) (by omega) ⟨a1, a2⟩
  obtain ⟨x2, y2, rfl⟩ := in_nat (m := 9) (by omega) ⟨b1, b2⟩
  obtain ⟨x3, y3, rfl⟩ := isK_nat (by omega) c
  obtain ⟨x4, y4, rfl⟩ := in_nat (m := 29) (by omega) e
  refine sp_windowOf mg hR.o y1 y2 y3 (by omega) (fun I2 f2 => ?_)
  have hP := hP I2 (km.fl f2)
  rw [if_pos all, tn_nI (by omega), tn_nI (by omega), tn_nI (by omega), tn_nI (by omega)] at hP
  exact hP
theorem sp_oth {P : Int32 → tI → tJ → Prop} {seed w : Int32} (hR : Rl I g q n ns nb nf nq tr ts) (mg : Mg I g n ns nb nf) (hP : ∀ I', KM I I' → Mg I' g n ns nb nf → P (cnA (zN (gO g seed n) n nb nf (fun _ => 0) 30 2) (w + 2) n) I' J) : EI X (d + 5) n_X11_othersOf [.ref 145, .int seed, .int w] I J P := by
  have t1 := hR.2.2.1
  have r1 := hR.2.2.2.2.1
  have eb : ∀ j, j < ts → (fun j => I 150 (40 + j)) j = I 136 j := t1.2.2.2
  have en : n = nS (fun j => I 150 (40 + j)) ts := r1.1.trans (nS_congr eb).symm
  refine sp_othersOf (b := fun j => I 150 (40 + j)) (t := ts) mg hR.o (fun _ => rfl) ⟨t1.2.2.1, t1.2.1⟩ en (fun i hi => ?_) (fun I2 f1 f2 m2 => ?_)
  · obtain ⟨c1, c2, c3⟩ := vS_congr eb (i := i) (by rw [← en]; exact hi)
    obtain ⟨w1, w2, w3⟩ := r1.2 i hi
    rw [c1, c2, c3, ← w1, ← w2, ← w3, ← hR.1.1]
    exact ⟨rfl, rfl, rfl⟩
  · exact hP I2 ⟨fun x h1 h2 => f1 x (by omega) (by omega) h1, fun j _ _ h3 => f2 j h3⟩ m2
theorem m_others {P : Int32 → tI → tJ → Prop} {v1 v2 : Int32} (h : Rl I g q n ns nb nf nq tr ts) (hP : ∀ I', KM I I' → P (if inR v2 0 1 then cnA (zN (gO g v1 n) n nb nf (fun _ => 0) 30 2) (v2 + 2) n else -2) I' J) : EI X (d + 20) n_X11_others [.ref 145, .int v1, .int v2] I J P := by
  refine vc_X11_others (sp_find h (fun I' km hR mg kp rm => ?_))
  have hP0 := hP I' km
  refine sp_mTwo (fun a => ⟨fun z => absurd z ne10, fun _ => ?_⟩) (fun a => ⟨fun _ => ?_, fun z => absurd rfl z⟩)
  · refine sp_oth hR mg (fun I2 k2 m2 => ?_)
    have hP := hP I2 (km.then k2)
    rw [if_pos a] at hP
    exact hP
  · rw [if_neg a] at hP0; exact hP0
theorem sp_allFreed {P : Int32 → tI → tJ → Prop} (hn : I 145 9 = nI n ∧ n ≤ 8) {st : Nat → Int32} (rm : ∀ k, k < n → I 165 k = st k) (hP : P (tmP st n) I J) : EI X d n_X11_allFreed [.ref 145] I J P := by
  have hn8 := hn.2
  refine vc_X11_allFreed ?_
  have key : ∀ k, k ≤ n → Er X d M_X11_allFreed 4 [some (.ref 145), some (.int (tmP st k)), some (.int (nI k))] [] I J (qI P) := by
    refine up_loop ?_ ?_
    · refine vc_X11_allFreed_4 ⟨fun _ => hP, fun hh => ?_⟩
      rw [hn.1] at hh; exact absurd (Int32.le_refl _) hh
    · intro k hk ih
      refine vc_X11_allFreed_4 ⟨fun hh => ?_, fun _ => ⟨ix_nI (by omega) (by omega), fun y hy => ?_⟩⟩
      · rw [hn.1, le_nI (by omega) (by omega)] at hh; omega
      rw [tn_nI (k := k) (by omega), rm k hk] at hy
      rw [nI_1, hy]
      exact ih
  exact key 0 (Nat.zero_le _)
theorem m_count {P : Int32 → tI → tJ → Prop} {v : Int32} (h : Rl I g q n ns nb nf nq tr ts) (hP : ∀ I', KM I I' → P (ctV g n ns nb nf nq tr ts (I 145 4) v) I' J) : EI X (d + 20) n_X11_count [.ref 145, .int v] I J P := by
  refine vc_X11_count (sp_find h (fun I' km hR mg kp rm => ?_))
  have hP0 := hP I' km
  have e4 : I' 145 4 = I 145 4 := km.2 4 (by omega) (by omega) (by omega)
  have v2 : v.toInt = 2 → v = 2 := fun z => Int32.toInt_inj.mp (by rw [z]; decide)
  have v3 : v.toInt = 3 → v = 3 := fun z => Int32.toInt_inj.mp (by rw [z]; decide)
  unfold ctV at hP0
  refine ⟨fun c => ?_, fun c => ⟨fun c1 => ?_, fun c1 => ⟨fun c2 => ?_, fun c2 => ⟨fun c3 => ?_, fun c3 => ⟨fun c4 => ?_, fun c4 => ⟨fun c5 => ?_, fun c5 => ⟨fun c6 => ?_, fun c6 => ⟨fun c7 => ?_, fun c7 => ⟨fun c8 => ?_, fun c8 => ?_⟩⟩⟩⟩⟩⟩⟩⟩⟩
  · rw [if_pos c] at hP0; rw [mg.2.1.1]; exact hP0
  · rw [if_neg c, if_pos c1] at hP0; rw [mg.1.1]; exact hP0
  · rw [if_neg c, if_neg c1, if_pos c2] at hP0
    rw [v2 c2]
    refine ⟨by decide, ?_⟩
    show P (I' 151 0) I' J
    rw [hR.2.1.2.2.1]; exact hP0
  · rw [if_neg c, if_neg c1, if_neg c2, if_pos c3] at hP0
    rw [v3 c3]
    refine ⟨by decide, ?_⟩
    show P (I' 151 1) I' J
    rw [hR.2.2.1.2.2.1]; exact hP0
  · rw [if_neg c, if_neg c1, if_neg c2, if_neg c3, if_pos c4] at hP0; rw [mg.2.2.1.1]; exact hP0
  · rw [if_neg c, if_neg c1, if_neg c2, if_neg c3, if_neg c4, if_pos c5] at hP0; rw [mg.2.2.2.1.1]; exact hP0
  · rw [if_neg c, if_neg c1, if_neg c2, if_neg c3, if_neg c4, if_neg c5, if_pos c6] at hP0
    exact sp_allFreed mg.1 (fun k hk => (rm.r hk).2.2.2.2.2.1) hP0
  · rw [if_neg c, if_neg c1, if_neg c2, if_neg c3, if_neg c4, if_neg c5, if_neg c6, if_pos c7] at hP0; rw [hR.mq.2.1]; exact hP0
  · rw [if_neg c, if_neg c1, if_neg c2, if_neg c3, if_neg c4, if_neg c5, if_neg c6, if_neg c7, if_pos c8] at hP0; rw [e4]; exact hP0
  · rw [if_neg c, if_neg c1, if_neg c2, if_neg c3, if_neg c4, if_neg c5, if_neg c6, if_neg c7, if_neg c8] at hP0; exact hP0
theorem m_fault {P : Int32 → tI → tJ → Prop} {v : Int32} (h : Rl I g q n ns nb nf nq tr ts) (hP : ∀ I', KM I I' → P (if inR v 0 1 then (if v ≠ 0 then fS (I 136) ts else fR (I 134) tr) else -2) I' J) : EI X (d + 20) n_X11_fault [.ref 145, .int v] I J P := by
  refine vc_X11_fault (sp_mTwo (fun a => ⟨fun _ => ⟨fun w => ?_, fun w => ?_⟩, fun z => absurd ne10 z⟩) (fun a => ⟨fun z => absurd rfl z, fun _ => ?_⟩))
  · refine sp_rS h (fun I' k _ _ _ _ => ?_)
    have hP := hP I' k
    rw [if_pos a, if_pos w] at hP; exact hP
  · refine sp_rR h (fun I' k _ _ _ _ => ?_)
    have hP := hP I' k
    rw [if_pos a, if_neg w] at hP; exact hP
  · have hP := hP I KM.rf
    rw [if_neg a] at hP; exact hP
theorem m_draws {P : Int32 → tI → tJ → Prop} {v : Int32} (h : Rl I g q n ns nb nf nq tr ts) (hP : ∀ I', KM I I' → P (if isK ns v then g 1 (tn v) else -2) I' J) : EI X (d + 20) n_X11_draws [.ref 145, .int v] I J P := by
  have hs := h.1.2.1.2.1
  refine vc_X11_draws (sp_rR h (fun I' k _ _ e7 e8 => ?_))
  have hP := hP I' k
  rw [e7]
  refine sp_in32 0 (nI ns - 1) rfl rfl (fun a b => ⟨fun z => absurd z ne10, fun _ => ?_⟩) (fun a => ⟨fun _ => ?_, fun z => absurd rfl z⟩)
  · rw [if_pos ⟨a, b⟩] at hP
    obtain ⟨p, hp, rfl⟩ := isK_nat hs.2 ⟨a, b⟩
    rw [tn_nI (by omega)] at hP ⊢
    rw [e8 p hp]
    exact ⟨ix_nI (by omega) (by omega), hP⟩
  · rw [if_neg a] at hP; exact hP
theorem m_slice {P : Int32 → tI → tJ → Prop} {v1 v2 : Int32} (h : Rl I g q n ns nb nf nq tr ts) (hP : ∀ I', KM I I' → P (if isK n v1 ∧ inR v2 0 2 then (if v2 ≠ 0 then (if v2 ≠ 1 then g 4 (tn v1) else g 3 (tn v1)) else g 2 (tn v1)) else -2) I' J) : EI X (d + 20) n_X11_slice [.ref 145, .int v1, .int v2] I J P := by
  have hn8 := h.n8
  refine vc_X11_slice (sp_rS h (fun I' km _ _ e9 e3 => ?_))
  have hP := hP I' km
  refine sp_mSlice e9 (fun a => ⟨fun z => absurd z ne10, fun _ => sp_in32 0 2 rfl rfl (fun b c => ⟨fun z => absurd z ne10, fun _ => ?_⟩) (fun b => ⟨fun _ => ?_, fun z => absurd rfl z⟩)⟩) (fun a => ⟨fun _ => ?_, fun z => absurd rfl z⟩)
  · rw [if_pos ⟨a, b, c⟩] at hP
    obtain ⟨k, hk, rfl⟩ := isK_nat (by omega) a
    obtain ⟨w, hw, rfl⟩ := in_nat (m := 2) (by omega) ⟨b, c⟩
    rw [tn_nI (by omega)] at hP
    rw [nI_mul3, nI_add, tn_nI (k := 3 * k + w) (by omega)]
    refine ⟨ix_nI (by omega) (by omega), ?_⟩
    rcases (by omega : w = 0 ∨ w = 1 ∨ w = 2) with rfl | rfl | rfl
    · rw [if_neg (by decide)] at hP; rw [Nat.add_zero, (e3 k hk).1]; exact hP
    · rw [if_pos (by decide), if_neg (by decide)] at hP; rw [(e3 k hk).2.1]; exact hP
    · rw [if_pos (by decide), if_pos (by decide)] at hP; rw [(e3 k hk).2.2]; exact hP
  · rw [if_neg (fun z => b z.2)] at hP; exact hP
  · rw [if_neg (fun z => a z.1)] at hP; exact hP
end PUBM
