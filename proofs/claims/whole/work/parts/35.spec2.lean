/-! ===== what the document says, as functions of numbers: g the setting (0 scalars, 1 draws, 2 kinds, 3 heats, 4 slots, 5 rules, 6 and 7 butters, 8 fires), s the slices (1 heat, 2 what it is, 3 came, 4 left, 5 first, 6 how often, 7 line) ===== -/
def gC (I : tI) : tI := fun k => if k ≤ 8 then I (k + 2) else fun _ => 0
def z0 (g : tI) : tI := fun j k => if j = 1 ∨ j = 3 then g 3 k else if j = 2 ∨ j = 6 then 0 else if j = 4 then -9 else -1
def z1 (g : tI) (h : Int32) (s : tI) : tI := fun j k => if s 2 k = 2 ∧ g 2 k = 1 ∧ s 4 k = h - 3 ∧ g 5 0 < s 3 k / 2 then (if j = 1 ∨ j = 3 then s 3 k / 2 else if j = 2 then 0 else s j k) else s j k
def stood (g : tI) (n : Nat) (st : Nat → Int32) (p : Int32) : Prop := ∃ j, j < n ∧ st j = 1 ∧ g 4 j = p
noncomputable def b2 (g : tI) (n k : Nat) (s : tI) : tI := @ite _ (s 2 k = 0 ∧ g 4 k < g 0 0 ∧ ¬ stood g n (s 2) (g 4 k)) (Classical.propDecidable _) (mm_u s 2 k 1) s
def frN : Nat → Int32 → Int32
  | 0, x => x
  | f + 1, x => if frN f x + 20 < 99 then frN f x + 20 else 99
def cntF (g : tI) (h : Int32) : Nat → Nat
  | 0 => 0
  | k + 1 => if g 8 k = h then cntF g h k + 1 else cntF g h k
def z3 (g : tI) (nf : Nat) (h : Int32) (s : tI) : tI := fun j k => if j = 1 ∧ s 2 k = 1 then frN (cntF g h nf) (s 1 k) else s j k
def zl (g : tI) (h : Int32) (s : tI) : tI := fun j k => if j = 7 ∧ s 7 k = -1 ∧ (s 2 k = 0 ∨ s 2 k = 1) ∧ s 1 k ≤ g 5 2 then h else s j k
def b4 (g : tI) (n : Nat) (h : Int32) (i : Nat) (s : tI) : tI := if g 6 i = h ∧ tn (g 7 i) < n ∧ (s 2 (tn (g 7 i)) = 0 ∨ s 2 (tn (g 7 i)) = 1) ∧ g 5 2 < s 1 (tn (g 7 i)) then mm_u s 2 (tn (g 7 i)) 3 else s
def hot (g : tI) (n : Nat) (s : tI) (k : Nat) (p : Int32) : Prop := ∃ j, j < n ∧ s 2 j = 1 ∧ g 4 j = p ∧ s 1 k < s 1 j
noncomputable def zc1 (g : tI) (n : Nat) (s : tI) (k : Nat) (p v : Int32) : Int32 := @ite _ (g 2 k ≠ 3 ∧ hot g n s k p) (Classical.propDecidable _) (v + (-1)) v
noncomputable def zc (g : tI) (n : Nat) (more : Int32) (s : tI) (k : Nat) : Int32 := if s 2 k = 0 then 1 else vC3 (g 2 k) (zc1 g n s k (g 4 k + 1) (zc1 g n s k (g 4 k - 1) (((g 1 (tn (g 4 k)) + more) + 1) - g 5 1)))
noncomputable def zhe (g : tI) (n : Nat) (more : Int32) (s : tI) (k : Nat) : Int32 := max0 (s 1 k - zc g n more s k)
noncomputable def z5 (g : tI) (n : Nat) (h more : Int32) (s : tI) : tI := fun j k => if s 2 k = 0 ∨ s 2 k = 1 then (if j = 1 then zhe g n more s k else if zhe g n more s k ≤ g 5 0 then (if j = 2 then 2 else if j = 4 then h else if j = 5 then (if s 5 k = -1 then h else s 5 k) else if j = 6 then s 6 k + 1 else s j k) else s j k) else s j k
noncomputable def zU (g : tI) (n nf : Nat) (h : Int32) (s : tI) : tI := z3 g nf h (it (b2 g n) (z1 g h s) n)
noncomputable def zF (g : tI) (n nb : Nat) (h more : Int32) (s : tI) : tI := z5 g n h more (it (b4 g n h) (zl g h s) nb)
noncomputable def zH (g : tI) (n nb nf : Nat) (h more : Int32) (s : tI) : tI := zF g n nb h more (zU g n nf h s)
/-- behind k hours; mo: how much more it draws in an hour -/
noncomputable def zN (g : tI) (n nb nf : Nat) (mo : Nat → Int32) (k : Nat) : tI := it (fun h => zH g n nb nf (nI h) (mo h)) (z0 g) k
/-! the class's course against it -/
def Rc (c n : Nat) (I s : tI) : Prop := ∀ k, k < n → I (c + 1) k = s 1 k ∧ I (c + 2) k = s 2 k ∧ I (c + 3) k = s 3 k ∧ I (c + 5) k = s 5 k ∧ I (c + 6) k = s 6 k ∧ (s 2 k = 2 → I (c + 4) k = s 4 k)
/-- heats are heats -/
def Bd (n : Nat) (s : tI) : Prop := ∀ k, k < n → (∃ a, a ≤ 99 ∧ s 1 k = nI a) ∧ (∃ a, a ≤ 99 ∧ s 3 k = nI a)
theorem it_col {B : Nat → tI → tI} {c : Nat} {I : tI} (hfc : ∀ k K, FC c K (B k K)) (p1 : ∀ k K x y, x ≠ c → y ≠ k → B k K x y = K x y) (p2 : ∀ k K, (∀ x, x ≠ c → K x k = I x k) → (∀ x, x < c → K x = I x) → K (c + 7) = I (c + 7) → ∀ x, x ≠ c → B k K x k = B k I x k) (p3 : ∀ k K, B k K (c + 7) = K (c + 7)) :
    ∀ m x y, x ≠ c → it B I m x y = if y < m then B y I x y else I x y := by
  have p4 : ∀ m, it B I m (c + 7) = I (c + 7) := fun m => by
    induction m with
    | zero => rfl
    | succ m ih => exact (p3 m _).trans ih
  intro m
  induction m with
  | zero => intro x y _; rw [if_neg (Nat.not_lt_zero _)]; rfl
  | succ m ih =>
    intro x y hx
    show B m (it B I m) x y = _
    by_cases hy : y = m
    · subst hy
      rw [if_pos (by omega)]
      exact p2 y _ (fun x hx => by rw [ih x y hx, if_neg (by omega)]) (fun x hx => FC.rf.it hfc y x (Or.inl hx)) (p4 y) x hx
    · rw [p1 m _ x y hx hy, ih x y hx]
      by_cases h1 : y < m
      · rw [if_pos h1, if_pos (by omega)]
      · rw [if_neg h1, if_neg (by omega)]
section RC
variable {c n ns nb nf : Nat} {I s g : tI}
theorem col_come (hc : 15 ≤ c) {h : Int32} (m x y : Nat) (hx : x ≠ c) : it (bCome c h) I m x y = if y < m then bCome c h y I x y else I x y := by
  refine it_col (fc_come c h) (fun k K x y hx hy => ?_) (fun k K a1 a2 a3 x hx => ?_) (fun k K => ?_) m x y hx
  · unfold bCome; split
    · rw [mm_u_j hy, mm_u_j hy, mm_u_j hy]
    · rfl
  · unfold bCome
    rw [a1 (c + 2) (by omega), a2 4 (by omega), a1 (c + 4) (by omega), a2 7 (by omega), a1 (c + 3) (by omega)]
    split
    · simp only [mm_u, a1 x hx]
    · exact a1 x hx
  · unfold bCome; split
    · rw [mm_u_k (by omega), mm_u_k (by omega), mm_u_k (by omega)]
    · rfl
theorem rc_come (hc : 15 ≤ c) {h : Int32} (hg : gC I = g) (hr : Rc c n I s) : Rc c n (it (bCome c h) I n) (z1 g h s) := by
  subst hg
  intro k hk
  obtain ⟨r1, r2, r3, r5, r6, r4⟩ := hr k hk
  have e : ∀ x, x ≠ c → it (bCome c h) I n x k = bCome c h k I x k := fun x hx => by rw [col_come hc n x k hx, if_pos hk]
  rw [e (c + 1) (by omega), e (c + 2) (by omega), e (c + 3) (by omega), e (c + 4) (by omega), e (c + 5) (by omega), e (c + 6) (by omega)]
  have hcond : (I (c + 2) k = 2 ∧ I 4 k = 1 ∧ I (c + 4) k = h - 3 ∧ I 7 0 < I (c + 3) k / 2) ↔ (s 2 k = 2 ∧ gC I 2 k = 1 ∧ s 4 k = h - 3 ∧ gC I 5 0 < s 3 k / 2) := by
    rw [r2, r3]
    constructor
    · rintro ⟨q1, q2, q3, q4⟩; exact ⟨q1, q2, by rw [← r4 q1]; exact q3, q4⟩
    · rintro ⟨q1, q2, q3, q4⟩; exact ⟨q1, q2, by rw [r4 q1]; exact q3, q4⟩
  unfold bCome z1
  by_cases q : I (c + 2) k = 2 ∧ I 4 k = 1 ∧ I (c + 4) k = h - 3 ∧ I 7 0 < I (c + 3) k / 2
  · rw [if_pos q]
    simp only [if_pos (hcond.mp q)]
    simp [mm_u, r1, r2, r3, r5, r6]
  · rw [if_neg q]
    simp only [if_neg (fun z => q (hcond.mpr z))]
    exact ⟨r1, r2, r3, r5, r6, r4⟩
theorem rc_place (hc : 15 ≤ c) (hG : Gd I n ns nb nf) (hd : Hd c n I) (hg : gC I = g) (hr : Rc c n I s) : ∀ m, m ≤ n → Rc c n (it (bPlace c) I m) (it (b2 g n) s m)
  | 0, _ => hr
  | m + 1, hm => by
    have ih := rc_place hc hG hd hg hr m (by omega)
    have hF : FC c I (it (bPlace c) I m) := FC.rf.it (fc_place c) m
    have hd' := hd_place hc hG hd m (by omega)
    have hG' := hG.fc hc hF
    show Rc c n (bPlace c m (it (bPlace c) I m)) (b2 g n m (it (b2 g n) s m))
    have g6 : ∀ k, g 4 k = it (bPlace c) I m 6 k := fun k => by rw [← hg, hF 6 (by omega)]; rfl
    have g2 : g 0 0 = it (bPlace c) I m 2 0 := by rw [← hg, hF 2 (by omega)]; rfl
    generalize it (bPlace c) I m = K at ih hd' hG' g6 g2 ⊢
    generalize it (b2 g n) s m = t at ih ⊢
    obtain ⟨p, hp, ep⟩ := hG'.2.2.2.2.1 m (by omega)
    have hst : ((K c 8 >>> (K 6 m &&& 31)) &&& 1) = 0 ↔ ¬ stood g n (t 2) (g 4 m) := by
      rw [ep, bt_test _ (by omega), g6, ep]
      have h1 := hd'.1 p hp
      constructor
      · rintro z ⟨j, j1, j2, j3⟩
        have : bt (K c 8) p = true := h1.mpr ⟨j, j1, by rw [(ih j j1).2.1]; exact j2, by rw [← g6]; exact j3⟩
        rw [z] at this; cases this
      · intro z
        cases hb : bt (K c 8) p with
        | false => rfl
        | true =>
          obtain ⟨j, j1, j2, j3⟩ := h1.mp hb
          exact absurd ⟨j, j1, by rw [← (ih j j1).2.1]; exact j2, by rw [g6]; exact j3⟩ z
    have hcond : (K (c + 2) m = 0 ∧ K 6 m < K 2 0 ∧ ((K c 8 >>> (K 6 m &&& 31)) &&& 1) = 0) ↔ (t 2 m = 0 ∧ g 4 m < g 0 0 ∧ ¬ stood g n (t 2) (g 4 m)) := by
      rw [hst, (ih m (by omega)).2.1, g6, g2]
    unfold bPlace b2
    by_cases q : K (c + 2) m = 0 ∧ K 6 m < K 2 0 ∧ ((K c 8 >>> (K 6 m &&& 31)) &&& 1) = 0
    · rw [if_pos q, if_pos (hcond.mp q)]
      intro k hk
      obtain ⟨r1, r2, r3, r5, r6, r4⟩ := ih k hk
      simp only [mm_u]
      by_cases e : k = m
      · subst e; simp [r1, r3, r5, r6]
      · simp [e, r1, r2, r3, r5, r6]; exact r4
    · rw [if_neg q, if_neg (fun z => q (hcond.mpr z))]
      exact ih
theorem rc_line {h : Int32} (hr : Rc c n I s) : Rc c n I (zl g h s) := hr
theorem rc_spread (hc : 15 ≤ c) {h : Int32} (hG : Gd I n ns nb nf) (hg : gC I = g) (hr : Rc c n I s) : ∀ m, m ≤ nb → Rc c n (it (bSpread c h) I m) (it (b4 g n h) s m)
  | 0, _ => hr
  | m + 1, hm => by
    have ih := rc_spread hc (h := h) hG hg hr m (by omega)
    have hF : FC c I (it (bSpread c h) I m) := FC.rf.it (fc_spread c h) m
    have hG' := hG.fc hc hF
    show Rc c n (bSpread c h m (it (bSpread c h) I m)) (b4 g n h m (it (b4 g n h) s m))
    have g8 : g 6 = it (bSpread c h) I m 8 := by rw [← hg, hF 8 (by omega)]; rfl
    have g9 : g 7 = it (bSpread c h) I m 9 := by rw [← hg, hF 9 (by omega)]; rfl
    have g7 : g 5 = it (bSpread c h) I m 7 := by rw [← hg, hF 7 (by omega)]; rfl
    generalize it (bSpread c h) I m = K at ih hG' g8 g9 g7 ⊢
    generalize it (b4 g n h) s m = t at ih ⊢
    obtain ⟨p, hp, ep⟩ := hG'.2.2.2.2.2 m (by omega)
    have hn8 := hG'.1.2
    have htp := tn_nI (k := p) (by omega)
    unfold bSpread b4
    rw [g8, g9, g7, ep, htp, hG'.1.1]
    have hpn : nI p < nI n ↔ p < n := by rw [lt_nI (by omega) (by omega)]
    have hcond : (K 8 m = h ∧ nI p < nI n ∧ inn c p K ∧ K 7 2 < K (c + 1) p) ↔ (K 8 m = h ∧ p < n ∧ (t 2 p = 0 ∨ t 2 p = 1) ∧ K 7 2 < t 1 p) := by
      constructor
      · rintro ⟨q1, q2, q3, q4⟩
        have q2 := hpn.mp q2
        refine ⟨q1, q2, ?_, ?_⟩
        · rw [← (ih p q2).2.1]; exact q3
        · rw [← (ih p q2).1]; exact q4
      · rintro ⟨q1, q2, q3, q4⟩; refine ⟨q1, hpn.mpr q2, ?_, ?_⟩
        · show K (c + 2) p = 0 ∨ K (c + 2) p = 1
          rw [(ih p q2).2.1]; exact q3
        · rw [(ih p q2).1]; exact q4
    by_cases q : K 8 m = h ∧ nI p < nI n ∧ inn c p K ∧ K 7 2 < K (c + 1) p
    · rw [if_pos q, if_pos (hcond.mp q)]
      intro k hk
      obtain ⟨r1, r2, r3, r5, r6, r4⟩ := ih k hk
      have rw1 : ∀ x, x ≠ c → x ≠ c + 2 → fLeave c p 3 K x = K x := fun x h1 h2 => by
        unfold fLeave
        rw [mm_u_k h2]
        split
        · rw [mm_u_k h1]
        · rfl
      have rw2 : fLeave c p 3 K (c + 2) k = if k = p then 3 else K (c + 2) k := by
        unfold fLeave
        by_cases e : k = p
        · subst e; rw [mm_u_s, if_pos rfl]
        · rw [mm_u_j e, if_neg e]
          split
          · rw [mm_u_k (by omega)]
          · rfl
      rw [rw1 (c + 1) (by omega) (by omega), rw1 (c + 3) (by omega) (by omega), rw1 (c + 4) (by omega) (by omega), rw1 (c + 5) (by omega) (by omega), rw1 (c + 6) (by omega) (by omega), rw2]
      simp only [mm_u]
      by_cases e : k = p
      · subst e; simp [r1, r3, r5, r6]
      · simp [e, r1, r2, r3, r5, r6]; exact r4
    · rw [if_neg q, if_neg (fun z => q (hcond.mpr z))]
      exact ih
end RC
