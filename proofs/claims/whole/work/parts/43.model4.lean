/-! ===== the reference lives through thirty hours ===== -/
/-- only the reference's cells of a life have changed -/
def FL (I I' : tI) : Prop := ∀ x, (x < 157 ∨ 166 < x) → I' x = I x
/-- what it has kept, hour by hour, up to hour m -/
def Kp (n m : Nat) (I : tI) (Z : Nat → tI) : Prop := ∀ h k, h < m → k < n → I 162 (8 * h + k) = Z (h + 1) 1 k ∧ I 163 (8 * h + k) = Z (h + 1) 2 k
section MOD4
variable {X : mm_X} {d : Nat} {I : tI} {J : tJ} {n ns nb nf : Nat} {g s : tI} {h : Nat}
theorem FL.rf : FL I I := fun _ _ => rfl
theorem FL.tr {I' I'' : tI} (h : FL I I') (h' : FL I' I'') : FL I I'' := fun x hx => (h' x hx).trans (h x hx)
theorem FL.u {I' : tI} {k j : Nat} {v : Int32} (h : FL I I') (h1 : 157 ≤ k) (h2 : k ≤ 166) : FL I (mm_u I' k j v) := fun x hx => by rw [mm_u_k (by omega)]; exact h x hx
theorem FQ.l {I' : tI} (h : FQ I I') : FL I I' := fun x hx => h x (by omega)
theorem Mg.fl {I' : tI} (h : Mg I g n ns nb nf) (hf : FL I I') : Mg I' g n ns nb nf := by
  unfold Mg
  rw [hf 145 (by omega), hf 153 (by omega), hf 152 (by omega), hf 154 (by omega), hf 155 (by omega), hf 156 (by omega)]
  exact h
theorem Kp.fq {I' : tI} {m : Nat} {Z : Nat → tI} (h : Kp n m I Z) (hf : FQ I I') : Kp n m I' Z := by
  unfold Kp
  rw [hf 162 (by omega), hf 163 (by omega)]
  exact h
theorem un_U {hh : Int32} (hu : Un g n s) : Un g n (zU g n nf hh s) := un_3 (un_2 (un_1 hu) n (Nat.le_refl _))
theorem un_H {hh more : Int32} (hu : Un g n s) : Un g n (zH g n nb nf hh more s) := un_5 (un_4 (un_l (un_U hu)) nb)
theorem un_N (mo : Nat → Int32) : ∀ m, Un g n (zN g n nb nf mo m)
  | 0 => un_0
  | m + 1 => un_H (un_N mo m)
/-- one hour of it -/
theorem sp_hourM {P : tI → tJ → Prop} {o3 : Option Value} (hh : h < 30) (hg : Mg I g n ns nb nf) (hu : Un g n s) (hr : Rm n I s) (hP : ∀ I' o3, FQ I I' → Rm n I' (zH g n nb nf (nI h) (mO (I 145 26) h) s) → Er X (d + 4) M_X11_lives 133 [some (.ref 145), some (.int (nI h)), some (.int 0), o3] [] I' J (qV P)) :
    Er X (d + 4) M_X11_lives 60 [some (.ref 145), some (.int (nI h)), some (.int 0), o3] [] I J (qV P) := by
  have hn8 := hg.1.2
  have g0 := hg.2.2.2.2.2.2.2.2.2.1
  -- they take their places
  have second : ∀ m, m ≤ n → ∀ (o3 : Option Value) (I1 : tI), FQ I I1 → Rm n I1 (it (b2 g n) (z1 g (nI h) s) m) → Er X (d + 4) M_X11_lives 72 [some (.ref 145), some (.int (nI h)), some (.int (nI m)), o3] [] I1 J (qV P) := by
    refine up_loop ?_ ?_
    · intro o3 I1 f1 r1
      refine vc_X11_lives_72 ⟨fun _ => ?_, fun hh => ?_⟩
      · have u2 := un_2 (un_1 (h := nI h) hu) n (Nat.le_refl n)
        refine sp_burns (hg.fq f1) r1 (fun I2 f2 r2 => ?_)
        refine sp_spreads (hg.fq (f1.tr f2)) (un_3 u2) r2 (fun I3 f3 r3 => ?_)
        refine sp_cool (hg.fq ((f1.tr f2).tr f3)) (un_4 (un_l (un_3 u2)) nb) r3 hh (fun I4 f4 r4 => ?_)
        refine hP I4 o3 (((f1.tr f2).tr f3).tr f4) ?_
        rw [((f1.tr f2).tr f3) 145 (by omega)] at r4
        exact r4
      · rw [(hg.fq f1).1.1] at hh
        exact absurd (Int32.le_refl _) hh
    · intro m hm ih o3 I1 f1 r1
      have g1 := hg.fq f1
      have hx := ix_nI (k := m) (n := 8) (by omega) (by omega)
      have ih : ∀ (o : Option Value) (I1 : tI), FQ I I1 → Rm n I1 (b2 g n m (it (b2 g n) (z1 g (nI h) s) m)) → Er X (d + 4) M_X11_lives 72 [some (.ref 145), some (.int (nI h)), some (.int (nI (m + 1))), o] [] I1 J (qV P) := ih
      generalize it (b2 g n) (z1 g (nI h) s) m = t at r1 ih
      obtain ⟨c1, c2, -⟩ := r1.r hm
      have k4 := (g1.2.2.2.2.1 m hm).2.2
      have no : ¬ (t 2 m = 0 ∧ g 4 m < g 0 0 ∧ ¬ stood g n (t 2) (g 4 m)) → Er X (d + 4) M_X11_lives 107 [some (.ref 145), some (.int (nI h)), some (.int (nI m)), o3] [.int 0] I1 J (qV P) := by
        intro q
        refine vc_X11_lives_107 ⟨fun _ => ⟨hx, hx, ?_⟩, fun z => absurd rfl z⟩
        rw [tn_nI (k := m) (by omega), mm_u_id, nI_1]
        refine ih _ I1 f1 ?_
        unfold b2
        rw [if_neg q]; exact r1
      refine vc_X11_lives_72 ⟨fun hh => ?_, fun _ => ?_⟩
      · rw [g1.1.1, le_nI (by omega) (by omega)] at hh; omega
      rw [tn_nI (k := m) (by omega), nI_mul3, nI_2, tn_nI (k := 3 * m + 2) (by omega), c2, k4, g1.2.1.1, ← g0]
      refine ⟨hx, fun a => no (fun z => a z.1), fun a => ⟨ix_nI (by omega) (by omega), fun b => no (fun z => Int32.not_le.mpr z.2.1 b), fun b => ⟨ix_nI (by omega) (by omega), ?_⟩⟩⟩
      refine sp_standingIn g1.1 (fun j hj x y => ⟨fun _ => no (fun z => z.2.2 ⟨j, hj, ?_, ?_⟩), fun z => ?_⟩) (fun hno => ⟨fun z => absurd rfl z, fun _ => ?_⟩)
      · rw [← (r1.r hj).2.1]; exact x
      · rw [← (g1.2.2.2.2.1 j hj).2.2]; exact y
      · have : (nI j).toInt = (-1 : Int32).toInt := by rw [Decidable.not_not.mp z]
        rw [nI_toInt (by omega)] at this
        have e : (-1 : Int32).toInt = -1 := by decide
        omega
      · refine vc_X11_lives_107 ⟨fun z => absurd z (by decide), fun _ => ⟨hx, ?_⟩⟩
        rw [tn_nI (k := m) (by omega), nI_1]
        refine ih _ _ (f1.u (by omega) (by omega) (by omega)) ?_
        unfold b2
        have hns : ¬ stood g n (t 2) (g 4 m) := by
          rintro ⟨j, hj, x, y⟩
          exact hno j hj (by rw [(r1.r hj).2.1]; exact x) (by rw [(g1.2.2.2.2.1 j hj).2.2]; exact y)
        rw [if_pos ⟨Decidable.not_not.mp a, Int32.not_le.mp b, hns⟩]
        · intro j i j1 j2 hi
          by_cases e2 : j = 2
          · subst e2
            show mm_u I1 158 m 1 158 i = mm_u t 2 m 1 2 i
            simp only [mm_u]
            have := r1 2 i (by omega) (by omega) hi
            rw [show mr 2 = 158 from rfl] at this
            rw [this]
          · have hmr : mr j ≠ 158 := by unfold mr; split <;> omega
            rw [mm_u_k hmr, mm_u_k e2]; exact r1 j i j1 j2 hi
  -- the crusts come again
  have first : ∀ m, m ≤ n → ∀ I1 : tI, FQ I I1 → Rm n I1 (mix m (z1 g (nI h) s) s) → Er X (d + 4) M_X11_lives 60 [some (.ref 145), some (.int (nI h)), some (.int (nI m)), o3] [] I1 J (qV P) := by
    refine up_loop ?_ ?_
    · intro I1 f1 r1
      refine vc_X11_lives_60 ⟨fun _ => second 0 (Nat.zero_le _) o3 I1 f1 r1.end_, fun hh => ?_⟩
      rw [(hg.fq f1).1.1] at hh
      exact absurd (Int32.le_refl _) hh
    · intro m hm ih I1 f1 r1
      have g1 := hg.fq f1
      refine vc_X11_lives_60 ⟨fun hh => ?_, fun _ => sp_mcome g1 hm r1 (fun I2 f2 r2 => ?_)⟩
      · rw [g1.1.1, le_nI (by omega) (by omega)] at hh; omega
      · rw [nI_1]; exact ih I2 (f1.tr f2) r2
  exact first 0 (Nat.zero_le _) I FQ.rf hr.start
theorem sp_lives {P : tI → tJ → Prop} (hg : Mg I g n ns nb nf) (hP : ∀ I', FL I I' → Kp n 30 I' (zN g n nb nf (mO (I 145 26))) → Rm n I' (zN g n nb nf (mO (I 145 26)) 30) → P I' J) : EV X (d + 4) n_X11_lives [.ref 145] I J P := by
  have hn8 := hg.1.2
  refine vc_X11_lives ?_
  have hours : ∀ m, m ≤ 30 → ∀ (o2 o3 : Option Value) (I1 : tI), FL I I1 → Kp n m I1 (zN g n nb nf (mO (I 145 26))) → Rm n I1 (zN g n nb nf (mO (I 145 26)) m) → Er X (d + 4) M_X11_lives 55 [some (.ref 145), some (.int (nI m)), o2, o3] [] I1 J (qV P) := by
    refine up_loop ?_ ?_
    · intro o2 o3 I1 f1 k1 r1
      refine vc_X11_lives_55 ⟨fun _ => hP I1 f1 k1 r1, fun hh => absurd (by decide) hh⟩
    · intro m hm ih o2 o3 I1 f1 k1 r1
      refine vc_X11_lives_55 ⟨fun hh => ?_, fun _ => ?_⟩
      · have : (nI 30 ≤ nI m) := hh
        rw [le_nI (by omega) (by omega)] at this; omega
      refine sp_hourM hm (hg.fl f1) (un_N _ m) r1 (fun I2 o3 f2 r2 => ?_)
      rw [f1 145 (by omega)] at r2
      have r2 : Rm n I2 (zN g n nb nf (mO (I 145 26)) (m + 1)) := r2
      have f2' := f1.tr f2.l
      have k2 := k1.fq f2
      -- it keeps what they are
      have keep : ∀ k, k ≤ n → ∀ I3 : tI, FL I I3 → Kp n m I3 (zN g n nb nf (mO (I 145 26))) → Rm n I3 (zN g n nb nf (mO (I 145 26)) (m + 1)) → (∀ i, i < k → I3 162 (8 * m + i) = zN g n nb nf (mO (I 145 26)) (m + 1) 1 i ∧ I3 163 (8 * m + i) = zN g n nb nf (mO (I 145 26)) (m + 1) 2 i) → Er X (d + 4) M_X11_lives 133 [some (.ref 145), some (.int (nI m)), some (.int (nI k)), o3] [] I3 J (qV P) := by
        generalize zN g n nb nf (mO (I 145 26)) = Z at ih
        refine up_loop ?_ ?_
        · intro I3 f3 k3 r3 w3
          refine vc_X11_lives_133 ⟨fun _ => ?_, fun hh => ?_⟩
          · rw [nI_1]
            refine ih _ _ I3 f3 (fun h k hh hk => ?_) r3
            by_cases e : h = m
            · subst e; exact w3 k hk
            · exact k3 h k (by omega) hk
          · rw [(hg.fl f3).1.1] at hh
            exact absurd (Int32.le_refl _) hh
        · intro k hk ih2 I3 f3 k3 r3 w3
          have g3 := hg.fl f3
          have hx := ix_nI (k := k) (n := 8) (by omega) (by omega)
          obtain ⟨c1, c2, -⟩ := r3.r hk
          refine vc_X11_lives_133 ⟨fun hh => ?_, fun _ => ?_⟩
          · rw [g3.1.1, le_nI (by omega) (by omega)] at hh; omega
          rw [tn_nI (k := k) (by omega), show (8 : Int32) * nI m = nI (8 * m) from pk_mul 8 m, show nI (8 * m) + nI k = nI (8 * m + k) from nI_add _ _, tn_nI (k := 8 * m + k) (by omega), nI_1, c1, mm_u_k (by omega : (158 : Nat) ≠ 162), c2]
          have hy := ix_nI (k := 8 * m + k) (n := 240) (by omega) (by omega)
          refine ⟨hx, hy, hx, hy, ih2 _ ((f3.u (by omega) (by omega)).u (by omega) (by omega)) ?_ ?_ ?_⟩
          · intro h i hh hi
            rw [mm_u_k (by omega : (162 : Nat) ≠ 163), mm_u_j (by omega : 8 * h + i ≠ 8 * m + k), mm_u_j (by omega : 8 * h + i ≠ 8 * m + k), mm_u_k (by omega : (163 : Nat) ≠ 162)]
            exact k3 h i hh hi
          · intro j i j1 j2 hi
            have h1 : mr j ≠ 162 := by unfold mr; split <;> omega
            have h2 : mr j ≠ 163 := by unfold mr; split <;> omega
            rw [mm_u_k h2, mm_u_k h1]; exact r3 j i j1 j2 hi
          · intro i hi
            by_cases e : i = k
            · subst e
              rw [mm_u_k (by omega : (162 : Nat) ≠ 163), mm_u_s, mm_u_s]
              exact ⟨rfl, rfl⟩
            · rw [mm_u_k (by omega : (162 : Nat) ≠ 163), mm_u_j (by omega : 8 * m + i ≠ 8 * m + k), mm_u_j (by omega : 8 * m + i ≠ 8 * m + k), mm_u_k (by omega : (163 : Nat) ≠ 162)]
              exact w3 i (by omega)
      exact keep 0 (Nat.zero_le _) I2 f2' k2 r2 (fun i hi => absurd hi (Nat.not_lt_zero _))
  have init : ∀ m, m ≤ n → ∀ I1 : tI, FL I I1 → Rm m I1 (z0 g) → Er X (d + 4) M_X11_lives 2 [some (.ref 145), some (.int (nI m)), none, none] [] I1 J (qV P) := by
    refine up_loop ?_ ?_
    · intro I1 f1 r1
      refine vc_X11_lives_2 ⟨fun _ => hours 0 (Nat.zero_le _) none none I1 f1 (fun h k hh => absurd hh (Nat.not_lt_zero _)) r1, fun hh => ?_⟩
      rw [(hg.fl f1).1.1] at hh
      exact absurd (Int32.le_refl _) hh
    · intro m hm ih I1 f1 r1
      have g1 := hg.fl f1
      have hx := ix_nI (k := m) (n := 8) (by omega) (by omega)
      have k3 := (g1.2.2.2.2.1 m hm).2.1
      refine vc_X11_lives_2 ⟨fun hh => ?_, fun _ => ?_⟩
      · rw [g1.1.1, le_nI (by omega) (by omega)] at hh; omega
      rw [tn_nI (k := m) (by omega), nI_mul3, nI_1, tn_nI (k := 3 * m + 1) (by omega), nI_1, k3]
      refine ⟨ix_nI (by omega) (by omega), hx, hx, hx, hx, hx, hx, hx, hx, ?_⟩
      refine ih _ (((((((f1.u (by omega) (by omega)).u (by omega) (by omega)).u (by omega) (by omega)).u (by omega) (by omega)).u (by omega) (by omega)).u (by omega) (by omega)).u (by omega) (by omega)) ?_
      intro j i j1 j2 hi
      by_cases e : i = m
      · subst e
        revert j
        refine j7 ?_ ?_ ?_ ?_ ?_ ?_ ?_ <;> simp [mm_u, mr, z0]
      · rw [mm_u_j e, mm_u_j e, mm_u_j e, mm_u_j e, mm_u_j e, mm_u_j e, mm_u_j e]
        exact r1 j i j1 j2 (by omega)
  exact init 0 (Nat.zero_le _) I FL.rf (fun j k j1 j2 hk => absurd hk (Nat.not_lt_zero _))
end MOD4
