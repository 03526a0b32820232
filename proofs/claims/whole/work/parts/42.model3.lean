/-! ===== the reference cools ===== -/
/-- how much more it draws in hour h with the window open in the hours of o -/
def mO (o : Int32) (h : Nat) : Int32 := if h < 10 ∧ ((o >>> (nI h &&& 31)) &&& 1) = 1 then 3 else 0
theorem mO_zero : mO 0 = fun _ => 0 := by
  funext h
  unfold mO
  rw [if_neg]
  rintro ⟨q, w⟩
  exact absurd w ((by decide +kernel : ∀ h, h < 10 → ¬ ((0 : Int32) >>> (nI h &&& 31)) &&& 1 = 1) h q)
section MOD3
variable {X : mm_X} {d : Nat} {I : tI} {J : tJ} {n ns nb nf : Nat} {g s : tI} {h : Nat}
theorem sp_hotter {P : Int32 → tI → tJ → Prop} {k : Nat} {p : Int32} (hg : Mg I g n ns nb nf) (hu : Un g n s) (hr : Rm n I s) (hk : k < n) (h1 : hot g n s k p → P 1 I J) (h0 : ¬ hot g n s k p → P 0 I J) : EI X (d + 1) n_X11_hotter [.ref 145, .int (nI k), .int p] I J P := by
  have hn8 := hg.1.2
  have hs10 := hg.2.1.2
  have g0 := hg.2.2.2.2.2.2.2.2.2.1
  have hm : (nI ns - 1).toInt = (ns : Int) - 1 := pk_sub_toInt (a := ns) (b := 1) (by omega) (by omega)
  refine vc_X11_hotter ?_
  rw [hg.2.1.1]
  refine sp_in32 (a := p) 0 (nI ns - 1) rfl rfl (fun q1 q2 => ⟨fun z => absurd z (by decide), fun _ => ?_⟩) (fun q => ⟨fun _ => vc_X11_hotter_15 ⟨fun _ => h0 ?_, fun z => absurd rfl z⟩, fun z => absurd rfl z⟩)
  · refine sp_standingIn hg.1 (fun j hj a b => ?_) (fun hno => vc_X11_hotter_15 ⟨fun _ => h0 ?_, fun z => absurd rfl z⟩)
    · obtain ⟨c1, c2, -⟩ := hr.r hj
      obtain ⟨e1, -⟩ := hr.r hk
      rw [(hg.2.2.2.2.1 j hj).2.2] at b
      rw [c2] at a
      refine vc_X11_hotter_15 ⟨fun z => ?_, fun _ => ⟨ix_nI (by omega) (by omega), ix_nI (by omega) (by omega), ?_⟩⟩
      · have : (nI j).toInt = (-1 : Int32).toInt := by rw [z]
        rw [nI_toInt (by omega)] at this
        have e : (-1 : Int32).toInt = -1 := by decide
        omega
      · rw [tn_nI (by omega), tn_nI (by omega), c1, e1]
        refine ⟨fun w => h0 ?_, fun w => h1 ⟨j, hj, a, b, Int32.not_le.mp w⟩⟩
        rintro ⟨i, i1, i2, i3, i4⟩
        have : i = j := hu.1 i j i1 hj i2 a (by rw [i3, b])
        subst this
        exact Int32.not_le.mpr i4 w
    · rintro ⟨j, j1, j2, j3, -⟩
      exact hno j j1 (by rw [(hr.r j1).2.1]; exact j2) (by rw [(hg.2.2.2.2.1 j j1).2.2]; exact j3)
  · rintro ⟨j, j1, j2, j3, -⟩
    obtain ⟨a, a1, a2⟩ := hg.2.2.2.2.2.2.2.2.2.2.1 j j1
    have lt := hu.2.1 j j1 j2
    rw [g0, a2, lt_nI (by omega) (by omega)] at lt
    refine q ⟨?_, ?_⟩
    · rw [← j3, a2]; exact nI_pos' (by omega)
    · rw [Int32.le_iff_toInt_le, hm, ← j3, a2, nI_toInt (by omega)]; omega
theorem sp_coolsBy {P : Int32 → tI → tJ → Prop} {k : Nat} (hg : Mg I g n ns nb nf) (hu : Un g n s) (hr : Rm n I s) (hh : h < 30) (hk : k < n) (hin : s 2 k = 0 ∨ s 2 k = 1) (hP : P (zc g n (mO (I 145 26) h) s k) I J) : EI X (d + 2) n_X11_coolsBy [.ref 145, .int (nI h), .int (nI k)] I J P := by
  have hn8 := hg.1.2
  have hs10 := hg.2.1.2
  have g0 := hg.2.2.2.2.2.2.2.2.2.1
  have hx := ix_nI (k := k) (n := 8) (by omega) (by omega)
  obtain ⟨c1, c2, -⟩ := hr.r hk
  obtain ⟨k2, -, k4⟩ := hg.2.2.2.2.1 k hk
  have g5 : I 154 1 = g 5 1 := hg.2.2.2.2.2.2.1 1 (by omega)
  refine vc_X11_coolsBy ?_
  rw [tn_nI (k := k) (by omega), nI_mul3, nI_2, tn_nI (k := 3 * k + 2) (by omega), tn_nI (k := 3 * k) (by omega), c2, show tn 1 = 1 from rfl, g5]
  refine ⟨hx, fun a => ⟨ix_nI (by omega) (by omega), fun y3 hy3 => ⟨ix_nI (by omega) (by omega), fun y4 hy4 => ?_⟩⟩, fun a => ?_⟩
  · have st : s 2 k = 1 := hin.resolve_left a
    obtain ⟨p, p1, p2⟩ := hg.2.2.2.2.2.2.2.2.2.2.1 k hk
    have lt := hu.2.1 k hk st
    rw [g0, p2, lt_nI (by omega) (by omega)] at lt
    rw [k4, p2] at hy3
    rw [k2] at hy4
    subst hy3 hy4
    have dr := hg.2.2.2.2.2.1 p lt
    rw [tn_nI (k := p) (by omega), dr]
    -- the last step
    have fin : ∀ (v x : Int32), vC3 (g 2 k) (v - x) = zc g n (mO (I 145 26) h) s k → Er X (d + 2) M_X11_coolsBy 66 [some (.ref 145), some (.int (nI h)), some (.int (nI k)), some (.int (nI p)), some (.int (g 2 k)), some (.int v)] [.int x, .int v] I J (qI P) := by
      intro v x e
      refine vc_X11_coolsBy_66 (fun y hy => ?_)
      subst hy
      refine sp_greater ?_
      rw [← e] at hP
      unfold vC3 at hP
      refine ⟨fun z => ⟨fun w => ?_, fun w => ?_⟩, fun z => ?_⟩
      · rw [if_neg z, if_neg w] at hP; exact hP
      · rw [if_neg z, if_pos (Decidable.not_not.mp w)] at hP; exact hP
      · rw [if_pos (Decidable.not_not.mp z)] at hP; exact hP
    -- from the draw on
    have mid : ∀ m : Int32, m = mO (I 145 26) h → Er X (d + 2) M_X11_coolsBy 45 [some (.ref 145), some (.int (nI h)), some (.int (nI k)), some (.int (nI p)), some (.int (g 2 k)), none] [.int m, .int ((g 1 p + 1) - g 5 1)] I J (qI P) := by
      intro m hm
      refine vc_X11_coolsBy_45 (fun v hv => ?_)
      have hv : v = ((g 1 p + m) + 1) - g 5 1 := by grind
      have zce : zc g n (mO (I 145 26) h) s k = vC3 (g 2 k) (zc1 g n s k (nI p + 1) (zc1 g n s k (nI p - 1) v)) := by
        unfold zc
        rw [if_neg a, p2, tn_nI (k := p) (by omega), hv, hm]
      refine ⟨fun q => ?_, fun q => ?_⟩
      · refine sp_hotter hg hu hr hk (fun w1 => ?_) (fun w1 => ?_) <;> refine sp_hotter hg hu hr hk (fun w2 => ?_) (fun w2 => ?_) <;> refine fin _ _ ?_ <;> rw [zce] <;> unfold zc1
        · rw [if_pos ⟨q, w2⟩, if_pos ⟨q, w1⟩]; exact congrArg (vC3 (g 2 k)) (by grind)
        · rw [if_neg (fun z => w2 z.2), if_pos ⟨q, w1⟩]; exact congrArg (vC3 (g 2 k)) (by grind)
        · rw [if_pos ⟨q, w2⟩, if_neg (fun z => w1 z.2)]; exact congrArg (vC3 (g 2 k)) (by grind)
        · rw [if_neg (fun z => w2 z.2), if_neg (fun z => w1 z.2)]; exact congrArg (vC3 (g 2 k)) (by grind)
      · refine fin _ _ ?_
        rw [zce]
        unfold zc1
        rw [if_neg (fun z => q z.1), if_neg (fun z => q z.1)]; exact congrArg (vC3 (g 2 k)) (by grind)
    have ten : ∀ h, h < 30 → ((10 : Int32) ≤ nI h ↔ 10 ≤ h) := fun h hh => iff_of_eq (le_nI (a := 10) (b := h) (by omega) (by omega))
    refine ⟨ix_nI (by omega) (by omega), fun b => mid 0 ?_, fun b => vc_X11_isIn ⟨fun w => ⟨fun _ => mid 0 ?_, fun z => absurd rfl z⟩, fun w => ⟨fun z => absurd z (by decide), fun _ => mid 3 ?_⟩⟩⟩
    · rw [ten h hh] at b
      unfold mO; rw [if_neg (fun z => by omega)]
    · unfold mO; rw [if_neg (fun z => w z.2)]
    · rw [ten h hh] at b
      unfold mO; rw [if_pos ⟨by omega, Decidable.not_not.mp w⟩]
  · unfold zc at hP
    rw [if_pos (Decidable.not_not.mp a)] at hP; exact hP
theorem sp_cool {P : tI → tJ → Prop} (hg : Mg I g n ns nb nf) (hu : Un g n s) (hr : Rm n I s) (hh : h < 30) (hP : ∀ I', FQ I I' → Rm n I' (z5 g n (nI h) (mO (I 145 26) h) s) → P I' J) : EV X (d + 3) n_X11_cool [.ref 145, .int (nI h)] I J P := by
  have hn8 := hg.1.2
  refine vc_X11_cool ?_
  -- they cool
  have second : ∀ m, m ≤ n → ∀ I1 : tI, FQ I I1 → (∀ k, k < n → (s 2 k = 0 ∨ s 2 k = 1) → I1 161 k = zc g n (mO (I 145 26) h) s k) → Rm n I1 (mix m (z5 g n (nI h) (mO (I 145 26) h) s) s) → Er X (d + 3) M_X11_cool 24 [some (.ref 145), some (.int (nI h)), some (.int (nI m))] [] I1 J (qV P) := by
    generalize mO (I 145 26) h = more at hP ⊢
    refine up_loop ?_ ?_
    · intro I1 f1 w1 r1
      refine vc_X11_cool_24 ⟨fun _ => hP I1 f1 r1.end_, fun hh => ?_⟩
      rw [(hg.fq f1).1.1] at hh
      exact absurd (Int32.le_refl _) hh
    · intro m hm ih I1 f1 w1 r1
      have g1 := hg.fq f1
      have hcol := r1.col hm
      have c1 : I1 157 m = s 1 m := hcol 1 (by omega) (by omega)
      have c2 : I1 158 m = s 2 m := hcol 2 (by omega) (by omega)
      have c3 : I1 159 m = s 3 m := hcol 3 (by omega) (by omega)
      have c4 : I1 160 m = s 4 m := hcol 4 (by omega) (by omega)
      have c5 : I1 164 m = s 5 m := hcol 5 (by omega) (by omega)
      have c6 : I1 165 m = s 6 m := hcol 6 (by omega) (by omega)
      have c7 : I1 166 m = s 7 m := hcol 7 (by omega) (by omega)
      have hx := ix_nI (k := m) (n := 8) (by omega) (by omega)
      have g5 : I1 154 0 = g 5 0 := g1.2.2.2.2.2.2.1 0 (by omega)
      refine vc_X11_cool_24 ⟨fun hh => ?_, fun _ => ?_⟩
      · rw [g1.1.1, le_nI (by omega) (by omega)] at hh; omega
      rw [tn_nI (k := m) (by omega)]
      refine sp_isHere (by omega) (fun b => ⟨fun z => absurd z (by decide), fun _ => ⟨hx, hx, sp_greater (vc_X11_cool_51 ⟨hx, ?_⟩)⟩⟩) (fun b => ⟨fun _ => ⟨hx, vc_X11_cool_51 ⟨hx, ?_⟩⟩, fun z => absurd rfl z⟩)
      · have b' := b
        rw [c2, here_lt hu hm] at b
        have ez : (if (0 : Int32) < I1 157 m - I1 161 m then I1 157 m - I1 161 m else 0) = zhe g n more s m := by
          rw [w1 m hm b, c1]; rfl
        rw [ez, tn_nI (k := m) (by omega), nI_1]
        refine sp_isHere (by omega) (fun b2 => ⟨fun z => absurd z (by decide), fun _ => ⟨hx, ?_⟩⟩) (fun b2 => absurd (by rw [mm_u_k (by omega)]; exact b') b2)
        rw [show tn 0 = 0 from rfl, mm_u_k (by omega : (154 : Nat) ≠ 157), mm_u_s, g5]
        refine ⟨fun q => ?_, fun q => ⟨hx, hx, hx, hx, hx, fun e => ⟨hx, hx, ?_⟩, fun e => ⟨hx, ?_⟩⟩⟩
        · refine ih _ (f1.u (by omega) (by omega) (by omega)) (fun k hk hi => ?_) (r1.step ?_ ?_)
          · rw [mm_u_k (by omega)]; exact w1 k hk hi
          · refine j7 ?_ ?_ ?_ ?_ ?_ ?_ ?_ <;> simp only [z5, if_pos b, if_neg (Int32.not_le.mpr q)] <;> simp [mm_u, mr, *]
          · intro j k j1 j2 hk
            rw [mm_u_j hk]
        · have e5 : s 5 m ≠ -1 := by
            rw [← c5]; simpa [mm_u] using e
          refine ih _ (((((f1.u (by omega) (by omega) (by omega)).u (by omega) (by omega) (by omega)).u (by omega) (by omega) (by omega)).u (by omega) (by omega) (by omega)).u (by omega) (by omega) (by omega)) (fun k hk hi => ?_) (r1.step ?_ ?_)
          · rw [mm_u_k (by omega), mm_u_k (by omega), mm_u_k (by omega), mm_u_k (by omega), mm_u_k (by omega)]; exact w1 k hk hi
          · refine j7 ?_ ?_ ?_ ?_ ?_ ?_ ?_ <;> simp only [z5, if_pos b, if_pos (Int32.not_lt.mp q), if_neg e5] <;> simp [mm_u, mr, *]
          · intro j k j1 j2 hk
            rw [mm_u_j hk, mm_u_j hk, mm_u_j hk, mm_u_j hk, mm_u_j hk]
        · have e5 : s 5 m = -1 := by
            rw [← c5]; simpa [mm_u] using e
          refine ih _ (((((f1.u (by omega) (by omega) (by omega)).u (by omega) (by omega) (by omega)).u (by omega) (by omega) (by omega)).u (by omega) (by omega) (by omega)).u (by omega) (by omega) (by omega)) (fun k hk hi => ?_) (r1.step ?_ ?_)
          · rw [mm_u_k (by omega), mm_u_k (by omega), mm_u_k (by omega), mm_u_k (by omega), mm_u_k (by omega)]; exact w1 k hk hi
          · refine j7 ?_ ?_ ?_ ?_ ?_ ?_ ?_ <;> simp only [z5, if_pos b, if_pos (Int32.not_lt.mp q), if_pos e5] <;> simp [mm_u, mr, *]
          · intro j k j1 j2 hk
            rw [mm_u_j hk, mm_u_j hk, mm_u_j hk, mm_u_j hk, mm_u_j hk]
      · rw [tn_nI (k := m) (by omega), mm_u_id, nI_1]
        refine sp_isHere (by omega) (fun b2 => absurd b2 b) (fun _ => ⟨fun _ => ih I1 f1 w1 (r1.step (fun j j1 j2 => ?_) (fun _ _ _ _ _ => rfl)), fun z => absurd rfl z⟩)
        rw [c2, here_lt hu hm] at b
        rw [hcol j j1 j2, z5, if_neg b]
  -- by how much
  have first : ∀ m, m ≤ n → ∀ I1 : tI, FQ I I1 → (∀ k, k < m → (s 2 k = 0 ∨ s 2 k = 1) → I1 161 k = zc g n (mO (I 145 26) h) s k) → Rm n I1 s → Er X (d + 3) M_X11_cool 2 [some (.ref 145), some (.int (nI h)), some (.int (nI m))] [] I1 J (qV P) := by
    refine up_loop ?_ ?_
    · intro I1 f1 w1 r1
      refine vc_X11_cool_2 ⟨fun _ => second 0 (Nat.zero_le _) I1 f1 w1 r1.start, fun hh => ?_⟩
      rw [(hg.fq f1).1.1] at hh
      exact absurd (Int32.le_refl _) hh
    · intro m hm ih I1 f1 w1 r1
      have g1 := hg.fq f1
      obtain ⟨c1, c2, -⟩ := r1.r hm
      have hx := ix_nI (k := m) (n := 8) (by omega) (by omega)
      have go : ∀ v, ((s 2 m = 0 ∨ s 2 m = 1) → v = zc g n (mO (I 145 26) h) s m) → Er X (d + 3) M_X11_cool 2 [some (.ref 145), some (.int (nI h)), some (.int (nI (m + 1)))] [] (mm_u I1 161 m v) J (qV P) := by
        intro v hv
        refine ih _ (f1.u (by omega) (by omega) (by omega)) (fun k hk hi => ?_) (fun j k j1 j2 hk => ?_)
        · by_cases e : k = m
          · subst e; rw [mm_u_s]; exact hv hi
          · rw [mm_u_j e]; exact w1 k (by omega) hi
        · have hmr : mr j ≠ 161 := by unfold mr; split <;> omega
          rw [mm_u_k hmr]; exact r1 j k j1 j2 hk
      refine vc_X11_cool_2 ⟨fun hh => ?_, fun _ => ?_⟩
      · rw [g1.1.1, le_nI (by omega) (by omega)] at hh; omega
      rw [tn_nI (k := m) (by omega), nI_1]
      refine sp_isHere (by omega) (fun b => ⟨fun z => absurd z (by decide), fun _ => ?_⟩) (fun b => ⟨fun _ => ⟨hx, go 0 ?_⟩, fun z => absurd rfl z⟩)
      · rw [c2, here_lt hu hm] at b
        refine sp_coolsBy g1 hu r1 hh hm b ⟨hx, go _ (fun _ => ?_)⟩
        rw [f1 145 (by omega)]
      · rw [c2, here_lt hu hm] at b
        exact fun z => absurd z b
  exact first 0 (Nat.zero_le _) I FQ.rf (fun k hk => absurd hk (Nat.not_lt_zero _)) hr
end MOD3
