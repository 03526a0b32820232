/-! ===== the next to touch ===== -/
section ASK
/-- the first k are counted -/
def bmp (st : Nat → Int32) (k : Nat) (t : Nat → Int32) : Nat → Int32 := fun j => if j / 4 < k ∧ j % 4 = tn (st (j / 4)) then t j + 1 else t j
noncomputable def tY (n nb nf nq : Nat) (g q : tI) (h : Nat) : Nat → Nat → Int32
  | 0 => fun _ => 0
  | v + 1 => @ite _ (cmA n nb nf (mm_u g 5 1 (nI v)) q nq) (Classical.propDecidable _) (bmp (zN (mm_u g 5 1 (nI v)) n nb nf (fun _ => 0) (h + 1) 2) n (tY n nb nf nq g q h v)) (tY n nb nf nq g q h v)
def m4 (t : Nat → Int32) (k : Nat) : Nat → Int32
  | 0 => 0
  | j + 1 => if m4 t k j < t (4 * k + j) then t (4 * k + j) else m4 t k j
def la (t : Nat → Int32) : Nat → Int32 × Int32
  | 0 => (-1, 11)
  | k + 1 => if m4 t k 4 < (la t k).2 then (nI k, m4 t k 4) else la t k
variable {X : mm_X} {d : Nat} {I I' : tI} {J : tJ} {n ns nb nf nq : Nat} {g s q : tI}
theorem tn3 {n : Nat} {st : Nat → Int32} (h : ∀ k, k < n → st k = 0 ∨ st k = 1 ∨ st k = 2 ∨ st k = 3) {k : Nat} (hk : k < n) : tn (st k) < 4 ∧ st k = nI (tn (st k)) := by
  rcases h k hk with e | e | e | e <;> rw [e] <;> decide
theorem bmp_step {st t : Nat → Int32} {k : Nat} (h : tn (st k) < 4) : ∀ j, bmp st (k + 1) t j = if j = 4 * k + tn (st k) then bmp st k t j + 1 else bmp st k t j := by
  intro j
  unfold bmp
  by_cases e : j = 4 * k + tn (st k)
  · have e1 : j / 4 = k := by omega
    rw [if_pos e, e1, if_pos ⟨by omega, by omega⟩, if_neg (fun z => absurd z.1 (Nat.lt_irrefl _))]
  · rw [if_neg e]
    by_cases c : j / 4 < k
    · by_cases c2 : j % 4 = tn (st (j / 4))
      · rw [if_pos ⟨by omega, c2⟩, if_pos ⟨c, c2⟩]
      · rw [if_neg (fun z => c2 z.2), if_neg (fun z => c2 z.2)]
    · rw [if_neg (fun z => ?_), if_neg (fun z => c z.1)]
      have e1 : j / 4 = k := by omega
      rw [e1] at z
      omega
theorem tY_le {h : Nat} : ∀ v j, ∃ c, c ≤ v ∧ tY n nb nf nq g q h v j = nI c
  | 0, _ => ⟨0, Nat.le_refl _, rfl⟩
  | v + 1, j => by
    obtain ⟨c, c1, c2⟩ := tY_le (h := h) v j
    rw [tY]
    split
    · unfold bmp
      split
      · exact ⟨c + 1, by omega, by rw [c2, nI_1]⟩
      · exact ⟨c, by omega, c2⟩
    · exact ⟨c, by omega, c2⟩
theorem m4_le {t : Nat → Int32} {k v : Nat} (h : ∀ j, ∃ c, c ≤ v ∧ t j = nI c) : ∀ j, ∃ c, c ≤ v ∧ m4 t k j = nI c
  | 0 => ⟨0, by omega, rfl⟩
  | j + 1 => by
    rw [m4]
    split
    · exact h _
    · exact m4_le h j
theorem m4_congr {t t' : Nat → Int32} {k : Nat} (h : ∀ j, j < 32 → t j = t' j) (hk : k < 8) : ∀ j, j ≤ 4 → m4 t k j = m4 t' k j
  | 0, _ => rfl
  | j + 1, hj => by rw [m4, m4, m4_congr h hk j (by omega), h _ (by omega)]
theorem la_congr {t t' : Nat → Int32} (h : ∀ j, j < 32 → t j = t' j) : ∀ k, k ≤ 8 → la t k = la t' k
  | 0, _ => rfl
  | k + 1, hk => by rw [la, la, la_congr h k (by omega), m4_congr h (by omega) 4 (by omega)]
theorem mul4 (h : Nat) : nI h * 4 = nI (4 * h) := by rw [Nat.mul_comm]; exact pk_mul h 4
theorem sp_tallyNoted {P : tI → tJ → Prop} {st t : Nat → Int32} (hn : I 2 2 = nI n ∧ n ≤ 8) (hst : ∀ k, k < n → st k = 0 ∨ st k = 1 ∨ st k = 2 ∨ st k = 3) (h38 : ∀ k, k < n → I 38 k = st k) (h39 : ∀ j, j < 32 → I 39 j = t j) (hP : ∀ I', (∀ x, x ≠ 39 → I' x = I x) → (∀ j, j < 32 → I' 39 j = bmp st n t j) → P I' J) : EV X d n_X1_tallyNoted [.ref 36] I J P := by
  have hn8 := hn.2
  refine vc_X1_tallyNoted ?_
  have key : ∀ k, k ≤ n → ∀ I1 : tI, (∀ x, x ≠ 39 → I1 x = I x) → (∀ j, j < 32 → I1 39 j = bmp st k t j) → Er X d M_X1_tallyNoted 2 [some (.ref 36), some (.int (nI k))] [] I1 J (qV P) := by
    refine up_loop ?_ ?_
    · intro I1 a1 a2
      refine vc_X1_tallyNoted_2 ⟨fun _ => hP I1 a1 a2, fun hh => ?_⟩
      rw [a1 2 (by omega), hn.1] at hh; exact absurd (Int32.le_refl _) hh
    · intro k hk ih I1 a1 a2
      obtain ⟨t4, te⟩ := tn3 hst hk
      refine vc_X1_tallyNoted_2 ⟨fun hh => ?_, fun _ => ?_⟩
      · rw [a1 2 (by omega), hn.1, le_nI (by omega) (by omega)] at hh; omega
      rw [tn_nI (k := k) (by omega), a1 38 (by omega), h38 k hk, te, mul4, show nI (4 * k) + nI (tn (st k)) = nI (4 * k + tn (st k)) from nI_add _ _, tn_nI (k := 4 * k + tn (st k)) (by omega), nI_1 k]
      refine ⟨ix_nI (by omega) (by omega), ix_nI (by omega) (by omega), ix_nI (by omega) (by omega), ih _ (fun x hx => by rw [mm_u_k hx]; exact a1 x hx) (fun j hj => ?_)⟩
      rw [bmp_step t4]
      by_cases e : j = 4 * k + tn (st k)
      · rw [if_pos e, ← e, mm_u_s, a2 j hj]
      · rw [if_neg e, mm_u_j e]; exact a2 j hj
  refine key 0 (Nat.zero_le _) I (fun _ _ => rfl) (fun j hj => ?_)
  unfold bmp
  rw [if_neg (fun z => absurd z.1 (Nat.not_lt_zero _))]; exact h39 j hj
theorem sp_leastOf {P : Int32 → tI → tJ → Prop} (hn : I 2 2 = nI n ∧ n ≤ 8) (hP : P (la (I 39) n).1 I J) : EI X d n_X1_leastOfTheGreatest [.ref 36] I J P := by
  have hn8 := hn.2
  refine vc_X1_leastOfTheGreatest ?_
  have key : ∀ k, k ≤ n → ∀ (o o' : Option Value), Er X d M_X1_leastOfTheGreatest 6 [some (.ref 36), some (.int (la (I 39) k).1), some (.int (la (I 39) k).2), some (.int (nI k)), o, o'] [] I J (qI P) := by
    refine up_loop ?_ ?_
    · intro o o'
      refine vc_X1_leastOfTheGreatest_6 ⟨fun _ => hP, fun hh => ?_⟩
      rw [hn.1] at hh; exact absurd (Int32.le_refl _) hh
    · intro k hk ih o o'
      refine vc_X1_leastOfTheGreatest_6 ⟨fun hh => ?_, fun _ => ?_⟩
      · rw [hn.1, le_nI (by omega) (by omega)] at hh; omega
      rw [la] at ih
      have inner : ∀ j, j ≤ 4 → Er X d M_X1_leastOfTheGreatest 15 [some (.ref 36), some (.int (la (I 39) k).1), some (.int (la (I 39) k).2), some (.int (nI k)), some (.int (m4 (I 39) k j)), some (.int (nI j))] [] I J (qI P) := by
        refine up_loop ?_ ?_
        · refine vc_X1_leastOfTheGreatest_15 ⟨fun _ => ⟨fun z => ?_, fun z => ?_⟩, fun hh => absurd (by decide) hh⟩
          · rw [if_neg (Int32.not_lt.mpr z)] at ih
            rw [nI_1]; exact ih _ _
          · rw [if_pos (Int32.not_le.mp z)] at ih
            rw [nI_1]; exact ih _ _
        · intro j hj ih2
          refine vc_X1_leastOfTheGreatest_15 ⟨fun hh => ?_, fun _ => ?_⟩
          · rw [show (4 : Int32) = nI 4 from rfl, le_nI (by omega) (by omega)] at hh; omega
          rw [mul4, show nI (4 * k) + nI j = nI (4 * k + j) from nI_add _ _, tn_nI (k := 4 * k + j) (by omega), nI_1]
          exact ⟨ix_nI (by omega) (by omega), fun y hy => by rw [hy]; exact ih2⟩
      exact inner 0 (by omega)
  exact key 0 (Nat.zero_le _) none none
theorem sp_nextToTouch {P : Int32 → tI → tJ → Prop} {h : Nat} (hh : h < 30) (hs : Sg I g n ns nb nf) (hq : Sq I q nq) (hP : ∀ I', FH I I' → P (la (tY n nb nf nq g q h 10) n).1 I' J) : EI X (d + 4) n_X1_nextToTouch [.ref 36, .int (nI h)] I J P := by
  have hn8 := hs.2.1.1.2
  refine vc_X1_nextToTouch ?_
  have second : ∀ v, v ≤ 10 → ∀ I1 : tI, (∀ x, (x < 23 ∨ 30 < x) → (x < 36 ∨ 39 < x) → x ≠ 7 → I1 x = I x) → (∀ j, j ≠ 1 → I1 7 j = I 7 j) → (∀ j, j < 32 → I1 39 j = tY n nb nf nq g q h v j) → Er X (d + 4) M_X1_nextToTouch 20 [some (.ref 36), some (.int (nI h)), some (.int (I 7 1)), some (.int (nI v))] [] I1 J (qI P) := by
    refine up_loop ?_ ?_
    · intro I1 a1 a2 a3
      refine vc_X1_nextToTouch_20 ⟨fun _ => ?_, fun hh => absurd (by decide) hh⟩
      rw [show tn 1 = 1 from rfl]
      refine sp_leastOf (n := n) (by rw [mm_u_k (by omega), a1 2 (by omega) (by omega) (by omega)]; exact hs.2.1.1) ?_
      rw [mm_u_k (by omega), la_congr a3 n hn8]
      refine hP _ (fun x h1 h2 => ?_)
      by_cases e : x = 7
      · subst e
        funext j
        by_cases e2 : j = 1
        · subst e2; rw [mm_u_s]
        · rw [mm_u_j e2]; exact a2 j e2
      · rw [mm_u_k e]; exact a1 x h1 h2 e
    · intro v hv ih I1 a1 a2 a3
      refine vc_X1_nextToTouch_20 ⟨fun hh => ?_, fun _ => ?_⟩
      · rw [show (10 : Int32) = nI 10 from rfl, le_nI (by omega) (by omega)] at hh; omega
      rw [show tn 1 = 1 from rfl, nI_1]
      have s1 : Sg (mm_u I1 7 1 (nI v)) (mm_u g 5 1 (nI v)) n ns nb nf := (hs.summer (v := v) (by omega)).eq (fun x h1 h2 => by
        by_cases e : x = 7
        · subst e
          funext j
          by_cases e2 : j = 1
          · subst e2; rw [mm_u_s, mm_u_s]
          · rw [mm_u_j e2, mm_u_j e2]; exact a2 j e2
        · rw [mm_u_k e, mm_u_k e]; exact a1 x (by omega) (by omega) e)
      have q1 : Sq (mm_u I1 7 1 (nI v)) q nq := by
        unfold Sq
        rw [mm_u_k (by omega), mm_u_k (by omega), mm_u_k (by omega), mm_u_k (by omega), a1 32 (by omega) (by omega) (by omega), a1 33 (by omega) (by omega) (by omega), a1 34 (by omega) (by omega) (by omega), a1 35 (by omega) (by omega) (by omega)]
        exact hq
      have fr : ∀ I2, FG (mm_u I1 7 1 (nI v)) I2 → (∀ x, (x < 23 ∨ 30 < x) → (x < 36 ∨ 39 < x) → x ≠ 7 → I2 x = I x) ∧ (∀ j, j ≠ 1 → I2 7 j = I 7 j) ∧ I2 39 = I1 39 := fun I2 f2 =>
        ⟨fun x h1 h2 e => by rw [f2 x h1 (by omega), mm_u_k e]; exact a1 x h1 h2 e, fun j e => by rw [f2 7 (by omega) (by omega), mm_u_j e]; exact a2 j e, by rw [f2 39 (by omega) (by omega), mm_u_k (by omega)]⟩
      rw [tY] at ih
      rw [show nI h = nI (h + 1) + (-1) from (nI_m1 h).symm]
      refine sp_allComesOut (note := h + 1) (by omega) s1 q1 (fun I2 f2 c w => ⟨fun z => absurd z (by decide), fun _ => ?_⟩) (fun I2 f2 c => ⟨fun _ => ?_, fun z => absurd rfl z⟩)
      · obtain ⟨b1, b2, b3⟩ := fr I2 f2
        rw [if_pos c] at ih
        refine sp_tallyNoted (st := zN (mm_u g 5 1 (nI v)) n nb nf (fun _ => 0) (h + 1) 2) (t := tY n nb nf nq g q h v) (n := n) (by rw [b1 2 (by omega) (by omega) (by omega)]; exact hs.2.1.1) (un_N _ (h + 1)).2.2 (w (by omega)) (fun j hj => by rw [b3]; exact a3 j hj) (fun I3 e3 t3 => ?_)
        rw [nI_m1]
        exact ih I3 (fun x h1 h2 e => by rw [e3 x (by omega)]; exact b1 x h1 h2 e) (fun j e => by rw [e3 7 (by omega)]; exact b2 j e) t3
      · obtain ⟨b1, b2, b3⟩ := fr I2 f2
        rw [if_neg c] at ih
        rw [nI_m1]
        exact ih I2 b1 b2 (fun j hj => by rw [b3]; exact a3 j hj)
  have first : ∀ m, m ≤ 32 → ∀ I1 : tI, (∀ x, x ≠ 39 → I1 x = I x) → (∀ j, j < m → I1 39 j = 0) → Er X (d + 4) M_X1_nextToTouch 2 [some (.ref 36), some (.int (nI h)), some (.int (nI m)), none] [] I1 J (qI P) := by
    refine up_loop ?_ ?_
    · intro I1 a1 a2
      refine vc_X1_nextToTouch_2 ⟨fun _ y hy => ?_, fun hh => absurd (by decide) hh⟩
      rw [hy, show tn 1 = 1 from rfl, a1 7 (by omega)]
      exact second 0 (by omega) I1 (fun x h1 h2 e => a1 x (by omega)) (fun j e => by rw [a1 7 (by omega)]) a2
    · intro m hm ih I1 a1 a2
      refine vc_X1_nextToTouch_2 ⟨fun hh => ?_, fun _ => ⟨ix_nI (by omega) (by omega), ?_⟩⟩
      · rw [show (32 : Int32) = nI 32 from rfl, le_nI (by omega) (by omega)] at hh; omega
      rw [tn_nI (k := m) (by omega), nI_1]
      refine ih _ (fun x hx => by rw [mm_u_k hx]; exact a1 x hx) (fun j hj => ?_)
      by_cases e : j = m
      · rw [e, mm_u_s]
      · rw [mm_u_j e]; exact a2 j (by omega)
  exact first 0 (by omega) I (fun _ _ => rfl) (fun j hj => absurd hj (Nat.not_lt_zero _))
end ASK
