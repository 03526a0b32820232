/-! ===== the digest ===== -/
section DIG
def mx (h : Int64) (x : Int32) : Int64 := 31 * h + x.toInt64
def hr (j : Nat) : Nat := if j = 0 then 0 else if j = 1 then 5 else 29
noncomputable def slT1 (g : tI) (k : Nat) (x : Int64) (j : Nat) : Int64 := it (fun j y => mx y (g (2 + j) k)) x j
noncomputable def slT2 (g : tI) (n nb nf k : Nat) (x : Int64) (j : Nat) : Int64 := it (fun j y => mx (mx y (zN g n nb nf (fun _ => 0) (hr j + 1) 1 k)) (zN g n nb nf (fun _ => 0) (hr j + 1) 2 k)) (slT1 g k x 3) j
noncomputable def slT (g : tI) (n nb nf k : Nat) (x : Int64) : Int64 := mx (mx (slT2 g n nb nf k x 3) (zN g n nb nf (fun _ => 0) 30 5 k)) (zN g n nb nf (fun _ => 0) 30 6 k)
noncomputable def slF (g q : tI) (n ns nb nf nq k : Nat) (x : Int64) : Int64 := 31 * (31 * (mx (mx (mx (mx (mx (mx x (mvP n nb nf g k ns).1) (mvP n nb nf g k ns).2) (zN g n nb nf (fun _ => 0) 30 7 k)) (hA n nb nf nq g q k (-1))) (hA n nb nf nq g q k 0)) (sB n nb nf nq g q k 10)) + winV g n nb nf 5 5 k 9 0) + winV g n nb nf 5 5 k 9 1
noncomputable def dg1 (g : tI) (n ns nb nf nq tr ts : Nat) (fi : Int32) (j : Nat) : Int64 := it (fun j y => mx y (ctV g n ns nb nf nq tr ts fi (nI j))) 17 j
noncomputable def dg3 (g : tI) (x : Int64) (p : Nat) : Int64 := it (fun p y => mx y (g 1 p)) x p
noncomputable def dg4 (g q : tI) (n ns nb nf nq : Nat) (x : Int64) (k : Nat) : Int64 := it (fun k y => slF g q n ns nb nf nq k (slT g n nb nf k y)) x k
noncomputable def dg5 (g : tI) (n nb nf : Nat) (x : Int64) : Int64 := mx (mx (mx (mx (mx x (hm (g 4) (zN g n nb nf (fun _ => 0) 6 2) n)) (spB (zN g n nb nf (fun _ => 0) 30 2) n)) (fh (fun u => qtH n (zN g n nb nf (fun _ => 0) (u + 1) 2)) 30 0)) (crP (zN g n nb nf (fun _ => 0)) n 0 30 0)) (crP (zN g n nb nf (fun _ => 0)) n 1 30 0)
noncomputable def dg6 (g : tI) (n nb nf : Nat) (x : Int64) (j : Nat) : Int64 := it (fun j y => mx y (swR (swP n nb nf g 64) (nI j))) x j
noncomputable def dg7 (g q : tI) (n nb nf nq : Nat) (x : Int64) : Int64 := mx (mx (mx (mx x (bP n nb nf g 10)) (la (tY n nb nf nq g q 5 10) n).1) (cnA (zN (gO g 7 n) n nb nf (fun _ => 0) 30 2) 2 n)) (cnA (zN (gO g 7 n) n nb nf (fun _ => 0) 30 2) 3 n)
noncomputable def dgV (g q : tI) (n ns nb nf nq tr ts : Nat) (fi f0 f1 : Int32) : Int64 := dg7 g q n nb nf nq (dg6 g n nb nf (dg5 g n nb nf (dg4 g q n ns nb nf nq (dg3 g (mx (mx (dg1 g n ns nb nf nq tr ts fi 8) f0) f1) ns) n)) 3)
variable {X : mm_X} {d : Nat} {I I' I'' : tI} {J : tJ} {n ns nb nf nq tr ts : Nat} {g s q : tI}
theorem dh_hr : ∀ j, j < 3 → mm_dh j = nI (hr j) := by decide +kernel
theorem hr_lt : ∀ j, j < 3 → hr j < 30 := by decide +kernel
theorem mix_s {P : Int64 → tI → tJ → Prop} {h : Int64} {x : Int32} (hP : P (mx h x) I J) : EL X d n_X10_mix [.long h, .long x.toInt64] I J P := vc_X10_mix hP
theorem c_mixTold {P : Int64 → tI → tJ → Prop} {k : Nat} {x : Int64} (hX2 : X 2 = some (3, mm_dh)) (h : Rl I g q n ns nb nf nq tr ts) (hk : k < n) (hP : ∀ I', KC n nb nf g I I' → P (slT g n nb nf k x) I' J) : EL X (d + 21) n_X10_mixTold [.ref 0, .long x, .int (nI k)] I J P := by
  have hn8 := h.n8
  have ik : isK n (nI k) := isK_of (by omega) hk
  have key2 : ∀ j, j ≤ 3 → ∀ (o9 : Option Value) (I1 : tI), KC n nb nf g I I1 → Er X (d + 20 + 1) M_X10_mixTold 24 [some (.ref 0), some (.long x), none, some (.int (nI k)), some (.long (slT2 g n nb nf k x j)), none, some (.ref 1002), some (.int (Int32.ofNat 3)), some (.int (nI j)), o9] [] I1 J (qL P) := by
    refine up_loop ?_ ?_
    · intro o9 I1 k1
      have r1 := h.c k1
      refine vc_X10_mixTold_24 hX2 ⟨fun _ => ?_, fun z => absurd (Int32.le_refl _) z⟩
      refine c_freed r1 (fun I2 k2 => ?_)
      rw [if_pos ⟨ik, by decide⟩, if_neg (by decide), tn_nI (by omega)]
      refine mix_s (c_freed (r1.c k2) (fun I3 k3 => ?_))
      rw [if_pos ⟨ik, by decide⟩, if_pos (by decide), tn_nI (by omega)]
      exact mix_s (hP I3 ((k1.then k2).then k3))
    · intro j hj ih o9 I1 k1
      have r1 := h.c k1
      have hu := hr_lt j hj
      refine vc_X10_mixTold_24 hX2 ⟨fun z => ?_, fun _ => ⟨ix_nI (by omega) (by omega), fun y hy => ?_⟩⟩
      · rw [show Int32.ofNat 3 = nI 3 from rfl, le_nI (by omega) (by omega)] at z; omega
      rw [tn_nI (by omega), dh_hr j hj] at hy
      rw [hy, nI_1]
      have ih' : Int32 := 0
      refine c_heat r1 (fun I2 k2 => ?_)
      rw [if_pos ⟨inR_of (m := 29) (by omega) (by omega), ik⟩, tn_nI (k := hr j) (by omega), tn_nI (k := k) (by omega)]
      refine mix_s (c_state (r1.c k2) (fun I3 k3 => ?_))
      rw [if_pos ⟨inR_of (m := 29) (by omega) (by omega), ik⟩, tn_nI (k := hr j) (by omega), tn_nI (k := k) (by omega)]
      exact mix_s (ih _ I3 ((k1.then k2).then k3))
  refine vc_X10_mixTold ?_
  have key1 : ∀ j, j ≤ 3 → Er X (d + 20 + 1) M_X10_mixTold 4 [some (.ref 0), some (.long x), none, some (.int (nI k)), some (.long (slT1 g k x j)), none, some (.int (nI j)), none, none, none] [] I J (qL P) := by
    refine up_loop ?_ ?_
    · refine vc_X10_mixTold_4 hX2 ⟨fun _ y hy => ?_, fun z => absurd (by decide) z⟩
      rw [hy]
      exact key2 0 (Nat.zero_le _) none I h.rc
    · intro j hj ih
      refine vc_X10_mixTold_4 hX2 ⟨fun z => ?_, fun _ => ?_⟩
      · rw [show (2 : Int32) = nI 2 from rfl, lt_nI (by omega) (by omega)] at z; omega
      rw [nI_1]
      refine c_slice h ?_
      rw [if_pos ⟨ik, inR_of (m := 2) (by omega) (by omega)⟩, tn_nI (k := k) (by omega)]
      refine mix_s ?_
      have e : (if nI j ≠ 0 then (if nI j ≠ 1 then g 4 k else g 3 k) else g 2 k) = g (2 + j) k := by
        rcases (by omega : j = 0 ∨ j = 1 ∨ j = 2) with rfl | rfl | rfl
        · rw [if_neg (by decide)]
        · rw [if_pos (by decide), if_neg (by decide)]
        · rw [if_pos (by decide), if_pos (by decide)]
      rw [e]
      exact ih
  exact key1 0 (Nat.zero_le _)
theorem c_mixFound {P : Int64 → tI → tJ → Prop} {k : Nat} {x : Int64} (h : Rl I g q n ns nb nf nq tr ts) (hk : k < n) (hP : ∀ I' J', KC n nb nf g I I' → P (slF g q n ns nb nf nq k x) I' J') : EL X (d + 21) n_X10_mixFound [.ref 0, .long x, .int (nI k)] I J P := by
  have hn8 := h.n8
  refine vc_X10_mixFound (sp_findMove h.1 hk (fun I1 f1 a1 a2 => ?_))
  have k1 : KC n nb nf g I I1 := h.kc (fun x hx => f1 x (by omega))
  have r1 := h.c k1
  rw [a1]
  refine mix_s ?_
  rw [a2]
  refine mix_s (sp_firstButterHour r1.1 hk (fun I2 f2 => ?_))
  have k2 : KC n nb nf g I1 I2 := r1.kc (fun x hx => f2 x (by omega))
  have r2 := r1.c k2
  refine mix_s (sp_findHeats r2.1 r2.sq hk (fun I3 f3 b1 b2 => ?_))
  have k3 : KC n nb nf g I2 I3 := r2.kc (fun x hx => f3 x (by omega) (by omega))
  have r3 := r2.c k3
  refine sp_heatAt (n := n) (nb := nb) (nf := nf) (nq := nq) (g := g) (q := q) (k := k) (by decide) b1 b2 (mix_s ?_)
  refine sp_heatAt (n := n) (nb := nb) (nf := nf) (nq := nq) (g := g) (q := q) (k := k) (by decide) b1 b2 (mix_s ?_)
  refine sp_slotsOfC r3.1 r3.sq hk (fun I4 f4 => ?_)
  have k4 : KC n nb nf g I3 I4 := r3.kc (fun x hx => f4 x (by omega) (by omega))
  have r4 := r3.c k4
  refine mix_s (sp_weigh (c := 5) (l := 5) (h := 9) r4.1 (by omega) (by omega) hk (by omega) (fun I5 J5 f5 c1 c2 => ?_))
  have k5 : KC n nb nf g I4 I5 := r4.kc (fun x hx => f5 x (by omega))
  rw [c1]
  refine vc_X10_mix ?_
  rw [c2]
  exact vc_X10_mix (hP I5 J5 ((((k1.then k2).then k3).then k4).then k5))
theorem c_digest {P : Int64 → tI → tJ → Prop} (hX2 : X 2 = some (3, mm_dh)) (h : Rl I g q n ns nb nf nq tr ts) (hP : ∀ I' J', KC n nb nf g I I' → P (dgV g q n ns nb nf nq tr ts (I 0 10) (fR (I 134) tr) (fS (I 136) ts)) I' J') : EL X (d + 25) n_X10_digest [.ref 0] I J P := by
  have hn8 := h.n8
  have hns := h.1.2.1.2.1.2
  -- behind all slices
  have fin : ∀ (x : Int64) (I1 : tI) (J1 : tJ), KC n nb nf g I I1 → (∀ I' J', KC n nb nf g I I' → P (dg7 g q n nb nf nq (dg6 g n nb nf (dg5 g n nb nf x) 3)) I' J') → Er X (d + 24 + 1) M_X10_digest 50 [some (.ref 0), some (.long x), none, some (.int (nI n))] [] I1 J1 (qL P) := by
    intro x I1 J1 k1 hP
    have r1 := h.c k1
    refine vc_X10_digest_50 ⟨fun _ => ?_, fun z => ?_⟩
    · refine c_held r1 (fun I2 k2 => ?_)
      rw [if_pos (by decide)]
      have r2 := r1.c k2
      refine mix_s (c_spoilt r2 (fun I3 k3 => ?_))
      have r3 := r2.c k3
      refine mix_s (c_quiet r3 (fun I4 k4 => ?_))
      have r4 := r3.c k4
      refine mix_s (c_crowd r4 (fun I5 k5 => ?_))
      rw [if_pos (by decide)]
      have r5 := r4.c k5
      refine mix_s (c_crowd r5 (fun I6 k6 => ?_))
      rw [if_pos (by decide)]
      have r6 := r5.c k6
      refine mix_s (sp_findSwap r6.1 (fun I7 f7 a1 a2 a3 => ?_))
      have k7 : KC n nb nf g I6 I7 := r6.kc (fun x hx => f7 x (by omega))
      have r7 := r6.c k7
      rw [a1]
      refine mix_s ?_
      rw [a2]
      refine mix_s ?_
      rw [a3]
      refine mix_s (c_bear r7 (fun I8 k8 => ?_))
      have r8 := r7.c k8
      refine mix_s (c_ask r8 (fun I9 k9 => ?_))
      rw [if_pos (by decide)]
      have r9 := r8.c k9
      refine mix_s (sp_draw r9.1 (fun I10 f10 b1 b2 => ?_))
      have k10 : KC n nb nf g I9 I10 := r9.kc (fun x hx => f10 x (by omega) (by omega) (by omega))
      rw [b1]
      refine mix_s ?_
      rw [b2]
      refine mix_s ?_
      exact hP I10 J1 (((((((((k1.then k2).then k3).then k4).then k5).then k6).then k7).then k8).then k9).then k10)
    · rw [r1.1.2.1.1.1] at z; exact absurd (Int32.le_refl _) z
  have key4 : ∀ (x : Int64), (∀ I' J', KC n nb nf g I I' → P (dg7 g q n nb nf nq (dg6 g n nb nf (dg5 g n nb nf (dg4 g q n ns nb nf nq x n)) 3)) I' J') → ∀ k, k ≤ n → ∀ (I1 : tI) (J1 : tJ), KC n nb nf g I I1 → Er X (d + 24 + 1) M_X10_digest 50 [some (.ref 0), some (.long (dg4 g q n ns nb nf nq x k)), none, some (.int (nI k))] [] I1 J1 (qL P) := by
    intro x hP
    refine up_loop ?_ ?_
    · intro I1 J1 k1
      exact fin _ I1 J1 k1 hP
    · intro k hk ih I1 J1 k1
      have r1 := h.c k1
      refine vc_X10_digest_50 ⟨fun z => ?_, fun _ => ?_⟩
      · rw [r1.1.2.1.1.1, le_nI (by omega) (by omega)] at z; omega
      rw [nI_1]
      refine c_mixTold hX2 r1 hk (fun I2 k2 => ?_)
      refine c_mixFound (r1.c k2) hk (fun I3 J3 k3 => ?_)
      exact ih I3 J3 ((k1.then k2).then k3)
  have key3 : ∀ (x : Int64), (∀ I' J', KC n nb nf g I I' → P (dg7 g q n nb nf nq (dg6 g n nb nf (dg5 g n nb nf (dg4 g q n ns nb nf nq (dg3 g x ns) n)) 3)) I' J') → ∀ (I1 : tI), KC n nb nf g I I1 → ∀ p, p ≤ ns → Er X (d + 24 + 1) M_X10_digest 32 [some (.ref 0), some (.long (dg3 g x p)), none, some (.int (nI p))] [] I1 J (qL P) := by
    intro x hP I1 k1
    have r1 := h.c k1
    refine up_loop ?_ ?_
    · refine vc_X10_digest_32 ⟨fun _ => key4 _ hP 0 (Nat.zero_le _) I1 J k1, fun z => ?_⟩
      rw [r1.1.2.1.2.1.1] at z; exact absurd (Int32.le_refl _) z
    · intro p hp ih
      refine vc_X10_digest_32 ⟨fun z => ?_, fun _ => ⟨ix_nI (by omega) (by omega), ?_⟩⟩
      · rw [r1.1.2.1.2.1.1, le_nI (by omega) (by omega)] at z; omega
      rw [nI_1, tn_nI (k := p) (by omega), show I1 3 p = g 1 p by rw [← r1.1.1]; rfl]
      exact mix_s ih
  have key1 : ∀ j, j ≤ 8 → ∀ (I1 : tI), KC n nb nf g I I1 → Er X (d + 24 + 1) M_X10_digest 4 [some (.ref 0), some (.long (dg1 g n ns nb nf nq tr ts (I 0 10) j)), none, some (.int (nI j))] [] I1 J (qL P) := by
    refine up_loop ?_ ?_
    · intro I1 k1
      have r1 := h.c k1
      refine vc_X10_digest_4 ⟨fun _ => ?_, fun z => absurd (by decide) z⟩
      refine c_fault r1 ?_
      rw [if_pos (by decide), if_neg (by decide), k1.1 134 (by omega)]
      refine mix_s (c_fault r1 ?_)
      rw [if_pos (by decide), if_pos (by decide), k1.1 136 (by omega)]
      exact mix_s (key3 _ hP I1 k1 0 (Nat.zero_le _))
    · intro j hj ih I1 k1
      have r1 := h.c k1
      refine vc_X10_digest_4 ⟨fun z => ?_, fun _ => ?_⟩
      · rw [show (7 : Int32) = nI 7 from rfl, lt_nI (by omega) (by omega)] at z; omega
      rw [nI_1]
      refine c_count r1 (fun I2 k2 => ?_)
      rw [k1.1 0 (by omega)]
      exact mix_s (ih I2 (k1.then k2))
  exact vc_X10_digest (key1 0 (Nat.zero_le _) I h.rc)
end DIG
