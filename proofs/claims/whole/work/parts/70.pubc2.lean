section PUBC2
variable {X : mm_X} {d : Nat} {I I' I'' : tI} {J : tJ} {n ns nb nf nq tr ts : Nat} {g s q : tI}
theorem c_move {P : Int32 → tI → tJ → Prop} {v1 v2 : Int32} (h : Rl I g q n ns nb nf nq tr ts) (hP : ∀ I', KC n nb nf g I I' → P (if isK n v1 ∧ inR v2 0 1 then (if v2 ≠ 0 then (mvP n nb nf g (tn v1) ns).2 else (mvP n nb nf g (tn v1) ns).1) else -2) I' J) : EI X (d + 20) n_X10_move [.ref 0, .int v1, .int v2] I J P := by
  have hn8 := h.n8
  refine vc_X10_move (sp_cSlice h.1.2.1.1.1 (fun a => ⟨fun z => absurd z ne10, fun _ => sp_isWithin (fun b c => ⟨fun _ => ?_, fun z => absurd ne10 z⟩) (fun b => ⟨fun z => absurd rfl z, fun _ => ?_⟩)⟩) (fun a => ⟨fun _ => ?_, fun z => absurd rfl z⟩))
  · have ab : isK n v1 ∧ inR v2 0 1 := ⟨a, b, c⟩
    obtain ⟨k, hk, rfl⟩ := isK_nat (by omega) a
    refine sp_findMove h.1 hk (fun I' f e1 e2 => ?_)
    have hP := hP I' (h.kc (fun x hx => f x (by omega)))
    rw [if_pos ab, tn_nI (by omega)] at hP
    rw [e1, e2]
    exact ⟨fun w => by rw [if_pos w] at hP; exact hP, fun w => by rw [if_neg w] at hP; exact hP⟩
  · have hP := hP I h.rc
    rw [if_neg (fun z => b z.2)] at hP; exact hP
  · have hP := hP I h.rc
    rw [if_neg (fun z => a z.1)] at hP; exact hP
theorem swR_2 {p : Int32 × Int32} {v : Int32} (h0 : v ≠ 0) (h1 : v ≠ 1) : swR p v = swR p 2 := by
  unfold swR; rw [if_pos h0, if_pos h1, if_pos (show (2 : Int32) ≠ 0 by decide), if_pos (show (2 : Int32) ≠ 1 by decide)]
theorem c_swap {P : Int32 → tI → tJ → Prop} {v : Int32} (h : Rl I g q n ns nb nf nq tr ts) (hP : ∀ I', KC n nb nf g I I' → P (if inR v 0 2 then swR (swP n nb nf g 64) v else -2) I' J) : EI X (d + 20) n_X10_swap [.ref 0, .int v] I J P := by
  refine vc_X10_swap (sp_isWithin (fun a b => ⟨fun _ => ?_, fun z => absurd ne10 z⟩) (fun a => ⟨fun z => absurd rfl z, fun _ => ?_⟩))
  · refine sp_findSwap h.1 (fun I' f e1 e2 e3 => ?_)
    have hP := hP I' (h.kc (fun x hx => f x (by omega)))
    rw [if_pos ⟨a, b⟩] at hP
    rw [e1, e2, e3]
    refine ⟨fun w0 => ⟨fun w1 => ?_, fun w1 => ?_⟩, fun w0 => ?_⟩
    · rw [swR_2 w0 w1] at hP; exact hP
    · rw [Decidable.not_not.mp w1] at hP; exact hP
    · rw [Decidable.not_not.mp w0] at hP; exact hP
  · have hP := hP I h.rc
    rw [if_neg a] at hP; exact hP
theorem c_line {P : Int32 → tI → tJ → Prop} {v : Int32} (h : Rl I g q n ns nb nf nq tr ts) (hP : ∀ I', KC n nb nf g I I' → P (if isK n v then zN g n nb nf (fun _ => 0) 30 7 (tn v) else -2) I' J) : EI X (d + 20) n_X10_line [.ref 0, .int v] I J P := by
  have hn8 := h.n8
  refine vc_X10_line (sp_cSlice h.1.2.1.1.1 (fun a => ⟨fun z => absurd z ne10, fun _ => ?_⟩) (fun a => ⟨fun _ => ?_, fun z => absurd rfl z⟩))
  · have a' := a
    obtain ⟨k, hk, rfl⟩ := isK_nat (by omega) a
    refine sp_firstButterHour h.1 hk (fun I' f => ?_)
    have hP := hP I' (h.kc (fun x hx => f x (by omega)))
    rw [if_pos a', tn_nI (by omega)] at hP
    exact hP
  · have hP := hP I h.rc
    rw [if_neg a] at hP; exact hP
theorem c_bear {P : Int32 → tI → tJ → Prop} (h : Rl I g q n ns nb nf nq tr ts) (hP : ∀ I', KC n nb nf g I I' → P (bP n nb nf g 10) I' J) : EI X (d + 20) n_X10_bear [.ref 0] I J P :=
  vc_X10_bear (sp_greatestSummer h.1 (fun I' f => hP I' (h.kc (fun x hx => f x (by omega)))))
theorem sp_heatAt {P : Int32 → tI → tJ → Prop} {k : Nat} {v : Int32} (hv : inR v (-1) 99) (e1 : I 36 4 = nI (hN n nb nf nq g q k 100)) (e2 : ∀ i, i < hN n nb nf nq g q k 100 → I 37 i = hF n nb nf nq g q k (nI i) 100) (hP : P (hA n nb nf nq g q k v) I J) : EI X d n_X1_heatAt [.ref 36, .int v] I J P := by
  have hl := hN_le (n := n) (nb := nb) (nf := nf) (nq := nq) (g := g) (q := q) (k := k) 100
  refine vc_X1_heatAt ⟨fun w => ?_, fun w => ?_⟩
  · have hP' := hP
    unfold hA at hP'
    rw [if_pos w] at hP'
    have h0 : ¬ v < 0 := fun z => w (by
      have a1 := Int32.le_iff_toInt_le.mp hv.1
      have a2 := Int32.lt_iff_toInt_lt.mp z
      have m1 : (-1 : Int32).toInt = -1 := by decide
      have m0 : (0 : Int32).toInt = 0 := by decide
      exact Int32.toInt_inj.mp (by omega))
    refine ⟨fun z => absurd z h0, fun _ => ?_⟩
    obtain ⟨i, hi, rfl⟩ := in_nat (m := 99) (by omega) ⟨Int32.not_lt.mp h0, hv.2⟩
    rw [e1, le_nI (by omega) (by omega), tn_nI (by omega)]
    refine ⟨fun z => ?_, fun z => ⟨ix_nI (by omega) (by omega), ?_⟩⟩
    · rw [hF_none (by omega) 100 (by omega) z] at hP'; exact hP'
    · rw [e2 i (by omega)]; exact hP'
  · unfold hA at hP
    rw [if_neg w] at hP
    rw [e1]; exact hP
theorem lt_m1 {v : Int32} : ¬ v < -1 ↔ -1 ≤ v := Int32.not_lt
theorem lt_100 {v : Int32} : v < 100 ↔ v ≤ 99 := by
  rw [Int32.lt_iff_toInt_lt, Int32.le_iff_toInt_le, show (100 : Int32).toInt = 100 by decide, show (99 : Int32).toInt = 99 by decide]; omega
theorem c_heats {P : Int32 → tI → tJ → Prop} {v1 v2 : Int32} (h : Rl I g q n ns nb nf nq tr ts) (hP : ∀ I', KC n nb nf g I I' → P (if isK n v1 ∧ inR v2 (-1) 99 then hA n nb nf nq g q (tn v1) v2 else -2) I' J) : EI X (d + 20) n_X10_heats [.ref 0, .int v1, .int v2] I J P := by
  have hn8 := h.n8
  have hP0 : ¬ (isK n v1 ∧ inR v2 (-1) 99) → P (-2) I J := fun z => by
    have hP := hP I h.rc
    rw [if_neg z] at hP; exact hP
  refine vc_X10_heats (sp_cSlice h.1.2.1.1.1 (fun a => ⟨fun z => absurd z ne10, fun _ => ⟨fun b => hP0 (fun z => lt_m1.mpr z.2.1 b), fun b => ⟨fun c => ?_, fun c => hP0 (fun z => c (lt_100.mpr z.2.2))⟩⟩⟩) (fun a => ⟨fun _ => hP0 (fun z => a z.1), fun z => absurd rfl z⟩))
  have hin : inR v2 (-1) 99 := ⟨lt_m1.mp b, lt_100.mp c⟩
  have ab : isK n v1 ∧ inR v2 (-1) 99 := ⟨a, hin⟩
  obtain ⟨k, hk, rfl⟩ := isK_nat (by omega) a
  refine sp_findHeats h.1 h.sq hk (fun I' f e1 e2 => ?_)
  have hP := hP I' (h.kc (fun x hx => f x (by omega) (by omega)))
  rw [if_pos ab, tn_nI (by omega)] at hP
  exact sp_heatAt hin e1 e2 hP
theorem c_slots {P : Int32 → tI → tJ → Prop} {v : Int32} (h : Rl I g q n ns nb nf nq tr ts) (hP : ∀ I', KC n nb nf g I I' → P (if isK n v then sB n nb nf nq g q (tn v) 10 else -2) I' J) : EI X (d + 20) n_X10_slots [.ref 0, .int v] I J P := by
  have hn8 := h.n8
  refine vc_X10_slots (sp_cSlice h.1.2.1.1.1 (fun a => ⟨fun z => absurd z ne10, fun _ => ?_⟩) (fun a => ⟨fun _ => ?_, fun z => absurd rfl z⟩))
  · have a' := a
    obtain ⟨k, hk, rfl⟩ := isK_nat (by omega) a
    refine sp_slotsOfC h.1 h.sq hk (fun I' f => ?_)
    have hP := hP I' (h.kc (fun x hx => f x (by omega) (by omega)))
    rw [if_pos a', tn_nI (by omega)] at hP
    exact hP
  · have hP := hP I h.rc
    rw [if_neg a] at hP; exact hP
theorem c_ask {P : Int32 → tI → tJ → Prop} {v : Int32} (h : Rl I g q n ns nb nf nq tr ts) (hP : ∀ I', KC n nb nf g I I' → P (if inR v 0 29 then (la (tY n nb nf nq g q (tn v) 10) n).1 else -2) I' J) : EI X (d + 20) n_X10_ask [.ref 0, .int v] I J P := by
  refine vc_X10_ask (sp_cHour (fun a => ⟨fun z => absurd z ne10, fun _ => ?_⟩) (fun a => ⟨fun _ => ?_, fun z => absurd rfl z⟩))
  · have a' := a
    obtain ⟨u, hu, rfl⟩ := in_nat (m := 29) (by omega) a
    refine sp_nextToTouch (by omega) h.1 h.sq (fun I' f => ?_)
    have hP := hP I' (h.kc (fun x hx => f x (by omega) (by omega)))
    rw [if_pos a', tn_nI (by omega)] at hP
    exact hP
  · have hP := hP I h.rc
    rw [if_neg a] at hP; exact hP
theorem winV_1 {c l k u : Nat} {w : Int32} (hw : w ≠ 0) : winV g n nb nf c l k u w = winV g n nb nf c l k u 1 := by
  unfold winV pfW; rw [if_pos hw, if_pos (show (1 : Int32) ≠ 0 by decide)]
theorem c_window {P : Int64 → tI → tJ → Prop} {v1 v2 v3 v4 v5 : Int32} (h : Rl I g q n ns nb nf nq tr ts) (hP : ∀ I' J', KC n nb nf g I I' → P (if inR v1 0 16 ∧ inR v2 0 9 ∧ isK n v3 ∧ inR v4 0 29 ∧ inR v5 0 1 then winV g n nb nf (tn v1) (tn v2) (tn v3) (tn v4) v5 else -9223372036854775806) I' J') : EL X (d + 20) n_X10_window [.ref 0, .int v1, .int v2, .int v3, .int v4, .int v5] I J P := by
  have hn8 := h.n8
  have hP0 : ¬ (inR v1 0 16 ∧ inR v2 0 9 ∧ isK n v3 ∧ inR v4 0 29 ∧ inR v5 0 1) → P (-9223372036854775806) I J := fun z => by
    have hP := hP I J h.rc
    rw [if_neg z] at hP; exact hP
  refine vc_X10_window (sp_isWithin (fun a1 a2 => ⟨fun z => absurd z ne10, fun _ => sp_isWithin (fun b1 b2 => ⟨fun z => absurd z ne10, fun _ => sp_cSlice h.1.2.1.1.1 (fun c => ⟨fun z => absurd z ne10, fun _ => sp_cHour (fun e => ⟨fun z => absurd z ne10, fun _ => sp_isWithin (fun f1 f2 => ⟨fun _ => ?_, fun z => absurd ne10 z⟩) (fun y => ⟨fun z => absurd rfl z, fun _ => hP0 (fun z => y z.2.2.2.2)⟩)⟩) (fun y => ⟨fun _ => hP0 (fun z => y z.2.2.2.1), fun z => absurd rfl z⟩)⟩) (fun y => ⟨fun _ => hP0 (fun z => y z.2.2.1), fun z => absurd rfl z⟩)⟩) (fun y => ⟨fun _ => hP0 (fun z => y z.2.1), fun z => absurd rfl z⟩)⟩) (fun y => ⟨fun _ => hP0 (fun z => y z.1), fun z => absurd rfl z⟩))
  have all : inR v1 0 16 ∧ inR v2 0 9 ∧ isK n v3 ∧ inR v4 0 29 ∧ inR v5 0 1 := ⟨⟨a1, a2⟩, ⟨b1, b2⟩, c, e, f1, f2⟩
  obtain ⟨x1, y1, rfl⟩ := in_nat (m := 16) (by omega) ⟨a1, a2⟩
  obtain ⟨x2, y2, rfl⟩ := in_nat (m := 9) (by omega) ⟨b1, b2⟩
  obtain ⟨x3, y3, rfl⟩ := isK_nat (by omega) c
  obtain ⟨x4, y4, rfl⟩ := in_nat (m := 29) (by omega) e
  refine sp_weigh h.1 y1 y2 y3 (by omega) (fun I' J' f e1 e2 => ?_)
  have hP := hP I' J' (h.kc (fun x hx => f x (by omega)))
  rw [if_pos all, tn_nI (by omega), tn_nI (by omega), tn_nI (by omega), tn_nI (by omega)] at hP
  rw [e1, e2]
  refine ⟨fun w => ?_, fun w => ?_⟩
  · rw [winV_1 w] at hP; exact hP
  · rw [Decidable.not_not.mp w] at hP; exact hP
theorem two_iff {v : Int32} : inR v 0 1 ↔ v = 0 ∨ v = 1 := by
  refine ⟨fun h => ?_, fun h => ?_⟩
  · obtain ⟨k, hk, rfl⟩ := in_nat (m := 1) (by omega) h
    rcases (by omega : k = 0 ∨ k = 1) with rfl | rfl
    · exact Or.inl rfl
    · exact Or.inr rfl
  · rcases h with rfl | rfl <;> decide
theorem c_others {P : Int32 → tI → tJ → Prop} {v1 v2 : Int32} (h : Rl I g q n ns nb nf nq tr ts) (hP : ∀ I', KC n nb nf g I I' → P (if inR v2 0 1 then cnA (zN (gO g v1 n) n nb nf (fun _ => 0) 30 2) (v2 + 2) n else -2) I' J) : EI X (d + 20) n_X10_others [.ref 0, .int v1, .int v2] I J P := by
  refine vc_X10_others (sp_isWithin (fun a b => ⟨fun _ => ?_, fun z => absurd ne10 z⟩) (fun a => ⟨fun z => absurd rfl z, fun _ => ?_⟩))
  · refine sp_draw h.1 (fun I' f e1 e2 => ?_)
    have hP := hP I' (h.kc (fun x hx => f x (by omega) (by omega) (by omega)))
    rw [if_pos ⟨a, b⟩] at hP
    rw [e1, e2]
    rcases two_iff.mp ⟨a, b⟩ with rfl | rfl
    · exact ⟨fun w => absurd rfl w, fun _ => hP⟩
    · exact ⟨fun _ => hP, fun w => absurd ne10 w⟩
  · have hP := hP I h.rc
    rw [if_neg a] at hP; exact hP
theorem c_timesLetGo {P : Int32 → tI → tJ → Prop} (h : Rl I g q n ns nb nf nq tr ts) (hP : ∀ I', KC n nb nf g I I' → P (tmP (zN g n nb nf (fun _ => 0) 30 6) n) I' J) : EI X (d + 19) n_X10_timesLetGo [.ref 0] I J P := by
  have hn8 := h.n8
  refine vc_X10_timesLetGo (sp_bring h.1 h.lg (fun I' f e l => ?_))
  have s1 := (h.c (h.kb f l)).1
  have key : ∀ k, k ≤ n → Er X (d + 18 + 1) M_X10_timesLetGo 7 [some (.ref 0), some (.int (tmP (zN g n nb nf (fun _ => 0) 30 6) k)), some (.int (nI k))] [] I' J (qI P) := by
    refine up_loop ?_ ?_
    · refine vc_X10_timesLetGo_7 ⟨fun _ => hP I' (h.kb f l), fun hh => ?_⟩
      rw [s1.2.1.1.1] at hh; exact absurd (Int32.le_refl _) hh
    · intro k hk ih
      refine vc_X10_timesLetGo_7 ⟨fun hh => ?_, fun _ => ⟨ix_nI (by omega) (by omega), fun y hy => ?_⟩⟩
      · rw [s1.2.1.1.1, le_nI (by omega) (by omega)] at hh; omega
      rw [tn_nI (k := k) (by omega), show I' 21 k = _ from (l.2 k hk).2.2.2.2.1] at hy
      rw [nI_1, hy]
      exact ih
  exact key 0 (Nat.zero_le _)
/-- what is counted -/
noncomputable def ctV (g : tI) (n ns nb nf nq tr ts : Nat) (fi v : Int32) : Int32 := if v.toInt = 0 then nI ns else if v.toInt = 1 then nI n else if v.toInt = 2 then nI tr else if v.toInt = 3 then nI ts else if v.toInt = 4 then nI nb else if v.toInt = 5 then nI nf else if v.toInt = 6 then tmP (zN g n nb nf (fun _ => 0) 30 6) n else if v.toInt = 7 then nI nq else if v.toInt = 8 then fi else -2
theorem c_count {P : Int32 → tI → tJ → Prop} {v : Int32} (h : Rl I g q n ns nb nf nq tr ts) (hP : ∀ I', KC n nb nf g I I' → P (ctV g n ns nb nf nq tr ts (I 0 10) v) I' J) : EI X (d + 20) n_X10_count [.ref 0, .int v] I J P := by
  have hP0 := hP I h.rc
  obtain ⟨d1, d2, d3, d4, d5, d6⟩ := h.1.2.1
  have e1 : I 2 0 = nI ns := d2.1
  have e2 : I 2 2 = nI n := d1.1
  have e3 : I 133 1 = nI tr := h.2.1.1
  have e4 : I 135 1 = nI ts := h.2.2.1.1
  have e5 : I 2 7 = nI nb := d3.1
  have e6 : I 2 10 = nI nf := d4.1
  have e7 : I 32 4 = nI nq := h.sq.2.1
  unfold ctV at hP hP0
  refine vc_X10_count ⟨fun c => ?_, fun c => ⟨fun c1 => ?_, fun c1 => ⟨fun c2 => ?_, fun c2 => ⟨fun c3 => ?_, fun c3 => ⟨fun c4 => ?_, fun c4 => ⟨fun c5 => ?_, fun c5 => ⟨fun c6 => ?_, fun c6 => ⟨fun c7 => ?_, fun c7 => ⟨fun c8 => ?_, fun c8 => ?_⟩⟩⟩⟩⟩⟩⟩⟩⟩
  · rw [if_pos c] at hP0; rw [e1]; exact hP0
  · rw [if_neg c, if_pos c1] at hP0; rw [e2]; exact hP0
  · rw [if_neg c, if_neg c1, if_pos c2] at hP0; rw [e3]; exact hP0
  · rw [if_neg c, if_neg c1, if_neg c2, if_pos c3] at hP0; rw [e4]; exact hP0
  · rw [if_neg c, if_neg c1, if_neg c2, if_neg c3, if_pos c4] at hP0; rw [e5]; exact hP0
  · rw [if_neg c, if_neg c1, if_neg c2, if_neg c3, if_neg c4, if_pos c5] at hP0; rw [e6]; exact hP0
  · refine c_timesLetGo h (fun I' k => ?_)
    have hP := hP I' k
    rw [if_neg c, if_neg c1, if_neg c2, if_neg c3, if_neg c4, if_neg c5, if_pos c6] at hP; exact hP
  · rw [if_neg c, if_neg c1, if_neg c2, if_neg c3, if_neg c4, if_neg c5, if_neg c6, if_pos c7] at hP0; rw [e7]; exact hP0
  · rw [if_neg c, if_neg c1, if_neg c2, if_neg c3, if_neg c4, if_neg c5, if_neg c6, if_neg c7, if_pos c8] at hP0; exact hP0
  · rw [if_neg c, if_neg c1, if_neg c2, if_neg c3, if_neg c4, if_neg c5, if_neg c6, if_neg c7, if_neg c8] at hP0; exact hP0
theorem c_fault {P : Int32 → tI → tJ → Prop} {v : Int32} (h : Rl I g q n ns nb nf nq tr ts) (hP : P (if inR v 0 1 then (if v ≠ 0 then fS (I 136) ts else fR (I 134) tr) else -2) I J) : EI X (d + 20) n_X10_fault [.ref 0, .int v] I J P := by
  refine vc_X10_fault (vc_X10_isText ⟨fun a => ?_, fun a => ⟨fun b => ?_, fun b => ?_⟩⟩)
  · rw [if_pos (two_iff.mpr (Or.inl a)), if_neg (fun z => z a)] at hP
    exact ⟨fun _ => ⟨fun z => absurd a z, fun _ => sp_faultAsRack ⟨h.2.1.1, h.2.1.2.1⟩ hP⟩, fun z => absurd ne10 z⟩
  · rw [if_neg (fun z => (two_iff.mp z).elim a b)] at hP
    exact ⟨fun z => absurd rfl z, fun _ => hP⟩
  · rw [if_pos (two_iff.mpr (Or.inr (Decidable.not_not.mp b))), if_pos a] at hP
    exact ⟨fun _ => ⟨fun _ => sp_faultAsSlices ⟨h.2.2.1.1, h.2.2.1.2.1⟩ hP, fun z => absurd a z⟩, fun z => absurd ne10 z⟩
theorem c_draws {P : Int32 → tI → tJ → Prop} {v : Int32} (h : Rl I g q n ns nb nf nq tr ts) (hP : P (if isK ns v then g 1 (tn v) else -2) I J) : EI X (d + 20) n_X10_draws [.ref 0, .int v] I J P := by
  have hs := h.1.2.1.2.1
  refine vc_X10_draws ?_
  rw [hs.1]
  refine sp_isWithin (fun a b => ⟨fun z => absurd z ne10, fun _ => ?_⟩) (fun a => ⟨fun _ => by rw [if_neg a] at hP; exact hP, fun z => absurd rfl z⟩)
  rw [if_pos ⟨a, b⟩, ← h.1.1] at hP
  obtain ⟨k, hk, rfl⟩ := isK_nat hs.2 ⟨a, b⟩
  exact ⟨ix_nI (by omega) (by omega), hP⟩
theorem c_slice {P : Int32 → tI → tJ → Prop} {v1 v2 : Int32} (h : Rl I g q n ns nb nf nq tr ts) (hP : P (if isK n v1 ∧ inR v2 0 2 then (if v2 ≠ 0 then (if v2 ≠ 1 then g 4 (tn v1) else g 3 (tn v1)) else g 2 (tn v1)) else -2) I J) : EI X (d + 20) n_X10_slice [.ref 0, .int v1, .int v2] I J P := by
  have hn8 := h.n8
  rw [← h.1.1] at hP
  refine vc_X10_slice (sp_cSlice h.1.2.1.1.1 (fun a => ⟨fun z => absurd z ne10, fun _ => sp_isWithin (fun b c => ⟨fun _ => ?_, fun z => absurd ne10 z⟩) (fun b => ⟨fun z => absurd rfl z, fun _ => ?_⟩)⟩) (fun a => ⟨fun _ => ?_, fun z => absurd rfl z⟩))
  · rw [if_pos ⟨a, b, c⟩] at hP
    obtain ⟨k, hk, rfl⟩ := isK_nat (by omega) a
    have hx := ix_nI (k := k) (n := 8) (by omega) (by omega)
    refine ⟨fun w0 => ⟨fun w1 => ⟨hx, ?_⟩, fun w1 => ⟨hx, ?_⟩⟩, fun w0 => ⟨hx, ?_⟩⟩
    · rw [if_pos w0, if_pos w1] at hP; exact hP
    · rw [if_pos w0, if_neg w1] at hP; exact hP
    · rw [if_neg w0] at hP; exact hP
  · rw [if_neg (fun z => b z.2)] at hP; exact hP
  · rw [if_neg (fun z => a z.1)] at hP; exact hP
end PUBC2
