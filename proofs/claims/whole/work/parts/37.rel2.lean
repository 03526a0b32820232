section REL2
variable {c n ns nb nf : Nat} {I s g : tI}
theorem fLeave_at {i x y : Nat} {a : Int32} {K : tI} (hx : x ≠ c) : fLeave c i a K x y = if x = c + 2 ∧ y = i then a else K x y := by
  have h0 : (if K (c + 2) i = 1 then mm_u K c 8 (K c 8 &&& ((1 <<< (K 6 i &&& 31)) ^^^ (-1))) else K) x = K x := by
    split
    · rw [mm_u_k hx]
    · rfl
  unfold fLeave
  by_cases e : x = c + 2 ∧ y = i
  · obtain ⟨rfl, rfl⟩ := e
    rw [mm_u_s, if_pos ⟨rfl, rfl⟩]
  · rw [if_neg e]
    by_cases e2 : x = c + 2
    · rw [mm_u_j (fun z => e ⟨e2, z⟩), h0]
    · rw [mm_u_k e2, h0]
theorem fGo_at {i x y : Nat} {h : Int32} {K : tI} (hx : x ≠ c) : fGo c i h K x y = if y = i then (if x = c + 2 then 2 else if x = c + 4 then h else if x = c + 6 then K (c + 6) i + 1 else if x = c + 5 then (if K (c + 5) i = -1 then h else K (c + 5) i) else K x i) else K x y := by
  by_cases ey : y = i
  · subst ey
    rw [if_pos rfl]
    unfold fGo
    by_cases e2 : x = c + 2
    · subst e2
      rw [if_pos rfl]
      split
      · rw [mm_u_k (by omega), mm_u_k (by omega), mm_u_k (by omega), fLeave_at hx, if_pos ⟨rfl, rfl⟩]
      · rw [mm_u_k (by omega), mm_u_k (by omega), fLeave_at hx, if_pos ⟨rfl, rfl⟩]
    rw [if_neg e2]
    by_cases e4 : x = c + 4
    · subst e4
      rw [if_pos rfl]
      split
      · rw [mm_u_k (by omega), mm_u_k (by omega), mm_u_s]
      · rw [mm_u_k (by omega), mm_u_s]
    rw [if_neg e4]
    by_cases e6 : x = c + 6
    · subst e6
      rw [if_pos rfl]
      split
      · rw [mm_u_k (by omega), mm_u_s]
      · rw [mm_u_s]
    rw [if_neg e6]
    by_cases e5 : x = c + 5
    · subst e5
      rw [if_pos rfl]
      split
      · rw [mm_u_s]
      · rw [mm_u_k (by omega), mm_u_k (by omega), fLeave_at hx, if_neg (by omega)]
    rw [if_neg e5]
    split
    · rw [mm_u_k e5, mm_u_k e6, mm_u_k e4, fLeave_at hx, if_neg (by omega)]
    · rw [mm_u_k e6, mm_u_k e4, fLeave_at hx, if_neg (by omega)]
  · rw [if_neg ey]
    unfold fGo
    split
    · rw [mm_u_j ey, mm_u_j ey, mm_u_j ey, fLeave_at hx, if_neg (fun z => ey z.2)]
    · rw [mm_u_j ey, mm_u_j ey, fLeave_at hx, if_neg (fun z => ey z.2)]
theorem bCool_ne {k x y : Nat} {h more : Int32} {K : tI} (hx : x ≠ c) (hy : y ≠ k) : bCool c h more k K x y = K x y := by
  unfold bCool
  split
  · split
    · rw [fGo_at hx, if_neg hy, mm_u_j hy]
    · rw [mm_u_j hy]
  · rfl
theorem bCool_at {k x : Nat} {h more : Int32} {K : tI} (hc : 15 ≤ c) (hx : x ≠ c) : bCool c h more k K x k = if inn c k K then (if x = c + 1 then max0 (K (c + 1) k - vCool c k more K) else if max0 (K (c + 1) k - vCool c k more K) ≤ K 7 0 then (if x = c + 2 then 2 else if x = c + 4 then h else if x = c + 6 then K (c + 6) k + 1 else if x = c + 5 then (if K (c + 5) k = -1 then h else K (c + 5) k) else K x k) else K x k) else K x k := by
  unfold bCool
  split
  · split
    · rename_i h1 h2
      rw [fGo_at hx, if_pos rfl, mm_u_k (x := c + 6) (by omega), mm_u_k (x := c + 5) (by omega)]
      by_cases e : x = c + 1
      · subst e
        rw [if_neg (by omega), if_neg (by omega), if_neg (by omega), if_neg (by omega), mm_u_s, if_pos rfl]
      · rw [if_neg e, mm_u_k e]
    · rename_i h1 h2
      by_cases e : x = c + 1
      · subst e; rw [mm_u_s, if_pos rfl]
      · rw [mm_u_k e, if_neg e]
  · rfl
theorem vCool_congr {k : Nat} {more : Int32} {K : tI} (hc : 15 ≤ c) (a1 : ∀ x, x ≠ c → K x k = I x k) (a2 : ∀ x, x < c → K x = I x) (a3 : K (c + 7) = I (c + 7)) : vCool c k more K = vCool c k more I := by
  unfold vCool vC1
  rw [a1 (c + 2) (by omega), a2 4 (by omega), a2 6 (by omega), a2 3 (by omega), a2 7 (by omega), a1 (c + 1) (by omega), a3]
theorem col_cool (hc : 15 ≤ c) {h more : Int32} (m x y : Nat) (hx : x ≠ c) : it (bCool c h more) I m x y = if y < m then bCool c h more y I x y else I x y := by
  refine it_col (fc_cool c h more) (fun k K x y hx hy => bCool_ne hx hy) (fun k K a1 a2 a3 x hx => ?_) (fun k K => ?_) m x y hx
  · rw [bCool_at hc hx, bCool_at hc hx, vCool_congr hc a1 a2 a3, a1 (c + 1) (by omega), a1 (c + 6) (by omega), a1 (c + 5) (by omega), a1 x hx, a2 7 (by omega)]
    have : inn c k K ↔ inn c k I := by unfold inn; rw [a1 (c + 2) (by omega)]
    by_cases q : inn c k I
    · rw [if_pos q, if_pos (this.mpr q)]
    · rw [if_neg q, if_neg (fun z => q (this.mp z))]
  · funext y
    by_cases e : y = k
    · subst e
      rw [bCool_at hc (by omega)]
      split
      · rw [if_neg (by omega)]
        split
        · rw [if_neg (by omega), if_neg (by omega), if_neg (by omega), if_neg (by omega)]
        · rfl
      · rfl
    · exact bCool_ne (by omega) e
theorem rc_cool (hc : 15 ≤ c) {h more : Int32} (hG : Gd I n ns nb nf) (hd : Hd c n I) (hg : gC I = g) (hb : Bd n s) (hr : Rc c n I s) : Rc c n (it (bCool c h more) (fFeel c n ns I) n) (z5 g n h more s) := by
  intro k hk
  have e : ∀ x, x ≠ c → it (bCool c h more) (fFeel c n ns I) n x k = bCool c h more k (fFeel c n ns I) x k := fun x hx => by rw [col_cool hc n x k hx, if_pos hk]
  have f : ∀ x, x ≠ c + 7 → fFeel c n ns I x = I x := fun x hx => feel_row hc x hx
  obtain ⟨r1, r2, r3, r5, r6, r4⟩ := hr k hk
  have g7 : I 7 0 = g 5 0 := by rw [← hg]; rfl
  rw [e (c + 1) (by omega), e (c + 2) (by omega), e (c + 3) (by omega), e (c + 4) (by omega), e (c + 5) (by omega), e (c + 6) (by omega)]
  simp only [bCool_at hc (show c + 1 ≠ c by omega), bCool_at hc (show c + 2 ≠ c by omega), bCool_at hc (show c + 3 ≠ c by omega), bCool_at hc (show c + 4 ≠ c by omega), bCool_at hc (show c + 5 ≠ c by omega), bCool_at hc (show c + 6 ≠ c by omega)]
  unfold inn
  rw [f (c + 1) (by omega), f (c + 2) (by omega), f (c + 3) (by omega), f (c + 4) (by omega), f (c + 5) (by omega), f (c + 6) (by omega), f 7 (by omega)]
  by_cases q : I (c + 2) k = 0 ∨ I (c + 2) k = 1
  · have hv : max0 (I (c + 1) k - vCool c k more (fFeel c n ns I)) = zhe g n more s k := by
      unfold zhe
      rw [vCool_eq hc hG hd hg hr hb hk q, r1]
    rw [hv, g7]
    have q' : s 2 k = 0 ∨ s 2 k = 1 := by rw [← r2]; exact q
    unfold z5
    simp only [if_pos q, if_pos q']
    by_cases w : zhe g n more s k ≤ g 5 0
    · simp [w, r1, r2, r3, r5, r6]
    · simp [w, r1, r2, r3, r5, r6]; exact r4
  · have q' : ¬ (s 2 k = 0 ∨ s 2 k = 1) := by rw [← r2]; exact q
    unfold z5
    simp only [if_neg q, if_neg q']
    exact ⟨r1, r2, r3, r5, r6, r4⟩
/-! an hour; all hours -/
theorem gC_fc (hc : 15 ≤ c) {I' : tI} (hf : FC c I I') : gC I' = gC I := by
  funext k
  unfold gC
  split
  · exact hf (k + 2) (by omega)
  · rfl
theorem rc_until (hc : 15 ≤ c) {h : Int32} (hG : Gd I n ns nb nf) (hd : Hd c n I) (hb : Bd n s) (hr : Rc c n I s) : Rc c n (fUntil c n nf h I) (zU (gC I) n nf h s) := by
  have f1 : FC c I (it (bCome c h) I n) := FC.rf.it (fc_come c h) n
  have r1 := rc_come hc (h := h) rfl hr
  have f2 : FC c I (it (bPlace c) (it (bCome c h) I n) n) := f1.it (fc_place c) n
  have r2 := rc_place hc (hG.fc hc f1) (hd_come hc hd n) (gC_fc hc f1) r1 n (Nat.le_refl _)
  have r3 := rc_warm hc (h := h) (hG.fc hc f2) (I0 := I) rfl (bd_2 (bd_1 hb) n) r2
  unfold fUntil zU
  exact r3
theorem rc_from (hc : 15 ≤ c) {h more : Int32} (hG : Gd I n ns nb nf) (hd : Hd c n I) (hb : Bd n s) (hr : Rc c n I s) : Rc c n (fFrom c n ns nb h more I) (zF (gC I) n nb h more s) := by
  have f1 : FC c I (it (bSpread c h) I nb) := FC.rf.it (fc_spread c h) nb
  have r1 := rc_spread hc (h := h) hG rfl (rc_line (g := gC I) (h := h) hr) nb (Nat.le_refl _)
  exact rc_cool hc (hG.fc hc f1) (hd_spread hc hG hd nb (Nat.le_refl _)) (gC_fc hc f1) (bd_4 (bd_l hb) nb) r1
/-- one that stands has a slot that there is -/
def Sd (g : tI) (n ns : Nat) (s : tI) : Prop := ∀ k, k < n → s 2 k ≠ 0 → s 2 k ≠ 2 → s 2 k ≠ 3 → ∃ p, p < ns ∧ g 4 k = nI p
theorem sd_of (hc : 15 ≤ c) (hG : Gd I n ns nb nf) (hd : Hd c n I) (hr : Rc c n I s) : Sd (gC I) n ns s := by
  intro k hk h0 h2 h3
  have st : I (c + 2) k = 1 := by
    rcases hd.2.2.2.1 k hk with q | q | q | q
    · rw [(hr k hk).2.1] at q; exact absurd q h0
    · exact q
    · rw [(hr k hk).2.1] at q; exact absurd q h2
    · rw [(hr k hk).2.1] at q; exact absurd q h3
  obtain ⟨p, hp, ep⟩ := hG.2.2.2.2.1 k hk
  have hs := hG.2.1.2
  have := hd.2.2.1 k hk st
  rw [ep, hG.2.1.1, lt_nI (by omega) (by omega)] at this
  exact ⟨p, this, ep⟩
theorem bd_5' {h more : Int32} (hb : Bd n s) (hp : Gp g n ns) (hmo : ∃ m, m ≤ 3 ∧ more = nI m) (hsd : Sd g n ns s) (hs : ns ≤ 10) : Bd n (z5 g n h more s) := by
  intro k hk
  by_cases q : s 2 k = 0 ∨ s 2 k = 1
  · obtain ⟨z, hz1, hz2⟩ := zc_nI (k := k) (s := s) (n := n) hp hmo (fun h0 => by
      rcases q with q | q
      · exact absurd q h0
      · exact hsd k hk h0 (by rw [q]; decide) (by rw [q]; decide)) hs
    obtain ⟨⟨a, ha, ea⟩, h3⟩ := hb k hk
    have hh : zhe g n more s k = nI (a - z) := by unfold zhe; rw [ea, hz2, max0_sub (by omega) (by omega)]
    unfold z5
    simp only [if_pos q]
    refine ⟨⟨a - z, by omega, by simpa using hh⟩, ?_⟩
    simp only [Nat.reduceEqDiff, if_false, ite_self]
    exact h3
  · unfold z5
    simp only [if_neg q]
    exact hb k hk
/-- all that goes with a course -/
def Cs (c n : Nat) (I s : tI) : Prop := Hd c n I ∧ Rc c n I s ∧ Bd n s
theorem cs_until (hc : 15 ≤ c) {h : Int32} (hG : Gd I n ns nb nf) (hs : Cs c n I s) : Cs c n (fUntil c n nf h I) (zU (gC I) n nf h s) :=
  ⟨hd_until hc hG hs.1, rc_until hc hG hs.1 hs.2.2 hs.2.1, bd_3 hG.2.2.2.1.2 (bd_2 (bd_1 hs.2.2) n)⟩
theorem cs_from (hc : 15 ≤ c) {h more : Int32} (hG : Gd I n ns nb nf) (hp : Gp (gC I) n ns) (hmo : ∃ m, m ≤ 3 ∧ more = nI m) (hs : Cs c n I s) : Cs c n (fFrom c n ns nb h more I) (zF (gC I) n nb h more s) := by
  refine ⟨hd_from hc hG hs.1, rc_from hc hG hs.1 hs.2.2 hs.2.1, ?_⟩
  have f1 : FC c I (it (bSpread c h) I nb) := FC.rf.it (fc_spread c h) nb
  have r1 := rc_spread hc (h := h) hG rfl (rc_line (g := gC I) (h := h) hs.2.1) nb (Nat.le_refl _)
  have sd := sd_of hc (hG.fc hc f1) (hd_spread hc hG hs.1 nb (Nat.le_refl _)) r1
  rw [gC_fc hc f1] at sd
  exact bd_5' (bd_4 (bd_l hs.2.2) nb) hp hmo sd hG.2.1.2
theorem cs_hour (hc : 15 ≤ c) {h more : Int32} (hG : Gd I n ns nb nf) (hp : Gp (gC I) n ns) (hmo : ∃ m, m ≤ 3 ∧ more = nI m) (hs : Cs c n I s) : Cs c n (fHour c n ns nb nf h more I) (zH (gC I) n nb nf h more s) := by
  have f1 := fc_until c n nf h I
  have h1 := cs_from hc (h := h) (hG.fc hc f1) (by rw [gC_fc hc f1]; exact hp) hmo (cs_until hc hG hs)
  rw [gC_fc hc f1] at h1
  exact h1
theorem rc_begin (hc : 15 ≤ c) : Rc c n (fBegin c n I) (z0 (gC I)) := by
  have key : ∀ m, m ≤ n → ∀ k, k < m → it (bBegin c) (mm_u I c 8 0) m (c + 1) k = I 5 k ∧ it (bBegin c) (mm_u I c 8 0) m (c + 2) k = 0 ∧ it (bBegin c) (mm_u I c 8 0) m (c + 3) k = I 5 k ∧ it (bBegin c) (mm_u I c 8 0) m (c + 5) k = -1 ∧ it (bBegin c) (mm_u I c 8 0) m (c + 6) k = 0 := by
    intro m
    induction m with
    | zero => intro _ k hk; omega
    | succ m ih =>
      intro hm k hk
      have r5 : it (bBegin c) (mm_u I c 8 0) m 5 = I 5 := (FC.rf.u (by omega) (by omega) : FC c I (mm_u I c 8 0)).it (fc_begin c) m 5 (by omega)
      have ih := ih (by omega)
      show bBegin c m (it (bBegin c) (mm_u I c 8 0) m) (c + 1) k = I 5 k ∧ bBegin c m (it (bBegin c) (mm_u I c 8 0) m) (c + 2) k = 0 ∧ bBegin c m (it (bBegin c) (mm_u I c 8 0) m) (c + 3) k = I 5 k ∧ bBegin c m (it (bBegin c) (mm_u I c 8 0) m) (c + 5) k = -1 ∧ bBegin c m (it (bBegin c) (mm_u I c 8 0) m) (c + 6) k = 0
      generalize it (bBegin c) (mm_u I c 8 0) m = K at r5 ih ⊢
      unfold bBegin
      rw [r5]
      by_cases e : k = m
      · subst e; simp [mm_u]
      · have := ih k (by omega)
        simp [mm_u, e]; exact this
  intro k hk
  obtain ⟨q1, q2, q3, q5, q6⟩ := key n (Nat.le_refl _) k hk
  refine ⟨q1.trans ?_, q2.trans ?_, q3.trans ?_, q5.trans ?_, q6.trans ?_, fun z => ?_⟩
  · rfl
  · rfl
  · rfl
  · rfl
  · rfl
  · exact absurd z (by show ¬ (0 : Int32) = 2; decide)
theorem cs_begin (hc : 15 ≤ c) (hp : Gp (gC I) n ns) : Cs c n (fBegin c n I) (z0 (gC I)) := ⟨hd_begin hc, rc_begin hc, fun k hk => ⟨hp.1 k hk, hp.1 k hk⟩⟩
theorem cs_hours (hc : 15 ≤ c) (hG : Gd I n ns nb nf) (hp : Gp (gC I) n ns) : ∀ m, Cs c n (fHours c n ns nb nf I m) (zN (gC I) n nb nf (fun _ => 0) m)
  | 0 => cs_begin hc hp
  | m + 1 => by
    have f1 := fc_hours c n ns nb nf I m
    have h1 := cs_hour hc (h := nI m) (more := 0) (hG.fc hc f1) (by rw [gC_fc hc f1]; exact hp) ⟨0, by omega, rfl⟩ (cs_hours hc hG hp m)
    rw [gC_fc hc f1] at h1
    exact h1
end REL2
