/-! ===== class and reference, side by side ===== -/
section REL3
/-- sheet s: the class's, the reference's -/
def Sh (I : tI) (s : Nat) : Prop := I 146 s = I (137 + 2 * s) 0 ∧ (I (137 + 2 * s) 0 = -1 ∨ ((I (137 + 2 * s) 0 = 0 ∨ I (137 + 2 * s) 0 = 1 ∨ I (137 + 2 * s) 0 = 2) ∧ ∃ z, z ≤ 60 ∧ I (137 + 2 * s) 1 = nI z ∧ I 147 s = nI z ∧ ∀ j, j < z → I 148 (60 * s + j) = I (137 + 2 * s + 1) j))
def Rl (I g q : tI) (n ns nb nf nq tr ts : Nat) : Prop :=
  Sg I g n ns nb nf ∧
  (I 133 1 = nI tr ∧ tr ≤ 10 ∧ I 151 0 = nI tr ∧ ∀ j, j < tr → I 150 j = I 134 j) ∧
  (I 135 1 = nI ts ∧ ts ≤ 39 ∧ I 151 1 = nI ts ∧ ∀ j, j < ts → I 150 (40 + j) = I 136 j) ∧
  (ns = nR (I 134) tr ∧ ∀ i, i < ns → I 3 i = vD (I 134) i) ∧
  (n = nS (I 136) ts ∧ ∀ i, i < n → I 4 i = vK (I 136) i ∧ I 5 i = vH (I 136) i ∧ I 6 i = vP (I 136) i) ∧
  (∀ j, j < 3 → I 154 j = I 7 j) ∧
  (I 145 12 = nI nb ∧ ∀ k, k < nb → I 155 (2 * k) = I 8 k ∧ I 155 (2 * k + 1) = I 9 k) ∧
  (I 145 14 = nI nf ∧ ∀ k, k < nf → I 156 k = I 10 k) ∧
  I 145 26 = 0 ∧ Sq I q nq ∧ Mq I q nq ∧ (∀ s, s < 4 → Sh I s) ∧ I 0 10 = I 145 4 ∧
  (I 11 5 ≠ 0 → LgOk n I g (zN g n nb nf (fun _ => 0)))
def RR (I : tI) : Prop := ∃ g q n ns nb nf nq tr ts, Rl I g q n ns nb nf nq tr ts
/-- a call that changes nothing that is told: the class's cells -/
def KC (n nb nf : Nat) (g I I' : tI) : Prop := (∀ x, (x < 11 ∨ (31 < x ∧ x < 36) ∨ 131 < x) → I' x = I x) ∧ (I' 11 5 ≠ 0 → LgOk n I' g (zN g n nb nf (fun _ => 0)))
/-- and the reference's -/
def KM (I I' : tI) : Prop := (∀ x, x ≠ 145 → (x < 152 ∨ (153 < x ∧ x < 157) ∨ x = 167 ∨ 168 < x) → I' x = I x) ∧ (∀ j, j ≠ 7 → j ≠ 9 → j ≠ 30 → I' 145 j = I 145 j)
variable {X : mm_X} {d : Nat} {I I' I'' : tI} {J : tJ} {n ns nb nf nq tr ts : Nat} {g s q : tI}
theorem KM.rf : KM I I := ⟨fun _ _ _ => rfl, fun _ _ _ _ => rfl⟩
theorem KM.then (h : KM I I') (h' : KM I' I'') : KM I I'' := ⟨fun x h1 h2 => (h'.1 x h1 h2).trans (h.1 x h1 h2), fun j h1 h2 h3 => (h'.2 j h1 h2 h3).trans (h.2 j h1 h2 h3)⟩
theorem KM.fl (h : KM I I') (h' : FL I' I'') : KM I I'' := h.then ⟨fun x h1 h2 => h' x (by omega), fun j _ _ _ => by rw [h' 145 (by omega)]⟩
theorem KM.fa (h : KM I I') (h' : FA I' I'') : KM I I'' := h.then ⟨fun x h1 h2 => h' x (by omega) (by omega), fun j _ _ _ => by rw [h' 145 (by omega) (by omega)]⟩
theorem KC.then (h : KC n nb nf g I I') (h' : KC n nb nf g I' I'') : KC n nb nf g I I'' := ⟨fun x hx => (h'.1 x hx).trans (h.1 x hx), h'.2⟩
theorem Lk.eq {Z : Nat → tI} (h : LgOk n I g Z) (e : ∀ x, 12 ≤ x → x < 23 → I' x = I x) : LgOk n I' g Z := by
  obtain ⟨⟨h1, h2⟩, h3⟩ := h
  refine ⟨⟨fun a b c d => ?_, fun a b => ?_⟩, fun k hk => ?_⟩
  · rw [e 12 (by omega) (by omega), e 13 (by omega) (by omega)]; exact h1 a b c d
  · rw [e 14 (by omega) (by omega)]; exact h2 a b
  · rw [e (15 + 1) (by omega) (by omega), e (15 + 2) (by omega) (by omega), e (15 + 3) (by omega) (by omega), e (15 + 4) (by omega) (by omega), e (15 + 5) (by omega) (by omega), e (15 + 6) (by omega) (by omega)]; exact h3 k hk
theorem Rl.sg (h : Rl I g q n ns nb nf nq tr ts) : Sg I g n ns nb nf := h.1
theorem Rl.sq (h : Rl I g q n ns nb nf nq tr ts) : Sq I q nq := h.2.2.2.2.2.2.2.2.2.1
theorem Rl.mq (h : Rl I g q n ns nb nf nq tr ts) : Mq I q nq := h.2.2.2.2.2.2.2.2.2.2.1
theorem Rl.o (h : Rl I g q n ns nb nf nq tr ts) : I 145 26 = 0 := h.2.2.2.2.2.2.2.2.1
theorem Rl.lg (h : Rl I g q n ns nb nf nq tr ts) : I 11 5 ≠ 0 → LgOk n I g (zN g n nb nf (fun _ => 0)) := h.2.2.2.2.2.2.2.2.2.2.2.2.2
theorem Rl.n8 (h : Rl I g q n ns nb nf nq tr ts) : n ≤ 8 := h.1.2.1.1.2
/-- a frame that leaves the log as it is -/
theorem Rl.kc (h : Rl I g q n ns nb nf nq tr ts) (f : ∀ x, (x < 23 ∨ (31 < x ∧ x < 36) ∨ 131 < x) → I' x = I x) : KC n nb nf g I I' :=
  ⟨fun x hx => f x (by omega), fun z => Lk.eq (h.lg (by rw [← f 11 (by omega)]; exact z)) (fun x h1 h2 => f x (by omega))⟩
theorem Rl.rc (h : Rl I g q n ns nb nf nq tr ts) : KC n nb nf g I I := h.kc (fun _ _ => rfl)
theorem Sh.eq {s : Nat} (h : Sh I s) (hs : s < 4) (e : ∀ x, 137 ≤ x → x < 149 → x ≠ 145 → I' x = I x) : Sh I' s := by
  unfold Sh
  rw [e 146 (by omega) (by omega) (by omega), e 147 (by omega) (by omega) (by omega), e 148 (by omega) (by omega) (by omega), e (137 + 2 * s) (by omega) (by omega) (by omega), e (137 + 2 * s + 1) (by omega) (by omega) (by omega)]
  exact h
theorem Rl.c (h : Rl I g q n ns nb nf nq tr ts) (k : KC n nb nf g I I') : Rl I' g q n ns nb nf nq tr ts := by
  obtain ⟨h1, h2, h3, h4, h5, h6, h7, h8, h9, h10, h11, h12, h13, h14⟩ := h
  have e := k.1
  refine ⟨h1.eq (fun x a b => e x (by omega)), ?_, ?_, ?_, ?_, ?_, ?_, ?_, ?_, ?_, ?_, fun s hs => (h12 s hs).eq hs (fun x a b c => e x (by omega)), ?_, k.2⟩
  · rw [e 133 (by omega), e 151 (by omega), e 150 (by omega), e 134 (by omega)]; exact h2
  · rw [e 135 (by omega), e 151 (by omega), e 150 (by omega), e 136 (by omega)]; exact h3
  · rw [e 134 (by omega), e 3 (by omega)]; exact h4
  · rw [e 136 (by omega), e 4 (by omega), e 5 (by omega), e 6 (by omega)]; exact h5
  · rw [e 154 (by omega), e 7 (by omega)]; exact h6
  · rw [e 145 (by omega), e 155 (by omega), e 8 (by omega), e 9 (by omega)]; exact h7
  · rw [e 145 (by omega), e 156 (by omega), e 10 (by omega)]; exact h8
  · rw [e 145 (by omega)]; exact h9
  · unfold Sq; rw [e 32 (by omega), e 33 (by omega), e 34 (by omega), e 35 (by omega)]; exact h10
  · unfold Mq; rw [e 145 (by omega), e 167 (by omega)]; exact h11
  · rw [e 0 (by omega), e 145 (by omega)]; exact h13
theorem Rl.m (h : Rl I g q n ns nb nf nq tr ts) (k : KM I I') : Rl I' g q n ns nb nf nq tr ts := by
  obtain ⟨h1, h2, h3, h4, h5, h6, h7, h8, h9, h10, h11, h12, h13, h14⟩ := h
  have e := k.1
  have e5 := k.2
  refine ⟨h1.eq (fun x a b => e x (by omega) (by omega)), ?_, ?_, ?_, ?_, ?_, ?_, ?_, ?_, ?_, ?_, fun s hs => (h12 s hs).eq hs (fun x a b c => e x (by omega) (by omega)), ?_, fun z => Lk.eq (h14 (by rw [← e 11 (by omega) (by omega)]; exact z)) (fun x a b => e x (by omega) (by omega))⟩
  · rw [e 133 (by omega) (by omega), e 151 (by omega) (by omega), e 150 (by omega) (by omega), e 134 (by omega) (by omega)]; exact h2
  · rw [e 135 (by omega) (by omega), e 151 (by omega) (by omega), e 150 (by omega) (by omega), e 136 (by omega) (by omega)]; exact h3
  · rw [e 134 (by omega) (by omega), e 3 (by omega) (by omega)]; exact h4
  · rw [e 136 (by omega) (by omega), e 4 (by omega) (by omega), e 5 (by omega) (by omega), e 6 (by omega) (by omega)]; exact h5
  · rw [e 154 (by omega) (by omega), e 7 (by omega) (by omega)]; exact h6
  · rw [e5 12 (by omega) (by omega) (by omega), e 155 (by omega) (by omega), e 8 (by omega) (by omega), e 9 (by omega) (by omega)]; exact h7
  · rw [e5 14 (by omega) (by omega) (by omega), e 156 (by omega) (by omega), e 10 (by omega) (by omega)]; exact h8
  · rw [e5 26 (by omega) (by omega) (by omega)]; exact h9
  · unfold Sq; rw [e 32 (by omega) (by omega), e 33 (by omega) (by omega), e 34 (by omega) (by omega), e 35 (by omega) (by omega)]; exact h10
  · unfold Mq; rw [e5 27 (by omega) (by omega) (by omega), e 167 (by omega) (by omega)]; exact h11
  · rw [e 0 (by omega) (by omega), e5 4 (by omega) (by omega) (by omega)]; exact h13
/-! the texts by their bytes -/
theorem ff_congr {ok ok' : Nat → Prop} : ∀ t, (∀ i, i < t → (ok i ↔ ok' i)) → ff ok t = ff ok' t
  | 0, _ => by rw [ff, ff]
  | t + 1, h => by
    rw [ff, ff, ff_congr t (fun i hi => h i (by omega))]
    by_cases q : ok t
    · rw [if_pos q, if_pos ((h t (by omega)).mp q)]
    · rw [if_neg q, if_neg (fun z => q ((h t (by omega)).mpr z))]
variable {b b' : Nat → Int32} {t : Nat}
theorem fR_congr (h : ∀ j, j < t → b j = b' j) : fR b t = fR b' t := ff_congr t (fun i hi => by unfold okR; rw [h i hi])
theorem fS_congr (h : ∀ j, j < t → b j = b' j) : fS b t = fS b' t := by
  have e : ff (okS b) t = ff (okS b') t := ff_congr t (fun i hi => by unfold okS; rw [h i hi])
  unfold fS; rw [e]
theorem nR_congr (h : ∀ j, j < t → b j = b' j) : nR b t = nR b' t := by unfold nR; rw [fR_congr h]
theorem nS_congr (h : ∀ j, j < t → b j = b' j) : nS b t = nS b' t := by unfold nS; rw [fS_congr h]
theorem nR_le : nR b t ≤ t := by unfold nR; split <;> omega
theorem nS_le : nS b t ≤ (t + 1) / 5 := by unfold nS; split <;> omega
theorem vD_congr (h : ∀ j, j < t → b j = b' j) {i : Nat} (hi : i < nR b t) : vD b i = vD b' i := by
  have := nR_le (b := b) (t := t)
  unfold vD; rw [h i (by omega)]
theorem vS_congr (h : ∀ j, j < t → b j = b' j) {i : Nat} (hi : i < nS b t) : vK b i = vK b' i ∧ vH b i = vH b' i ∧ vP b i = vP b' i := by
  have := nS_le (b := b) (t := t)
  unfold vK vH vP
  rw [h (5 * i) (by omega), h (5 * i + 1) (by omega), h (5 * i + 2) (by omega), h (5 * i + 3) (by omega)]
  exact ⟨rfl, rfl, rfl⟩
/-! the reference reads all anew -/
theorem sp_rR {P : Int32 → tI → tJ → Prop} (h : Rl I g q n ns nb nf nq tr ts) (hP : ∀ I', KM I I' → I' 145 9 = I 145 9 → I' 153 = I 153 → I' 145 7 = nI ns → (∀ i, i < ns → I' 152 i = g 1 i) → P (fR (I 134) tr) I' J) : EI X (d + 2) n_X11_readsRack [.ref 145] I J P := by
  have t1 := h.2.1
  have r1 := h.2.2.2.1
  have eb : ∀ j, j < tr → I 150 j = I 134 j := t1.2.2.2
  refine sp_readsRack (t := tr) ⟨t1.2.2.1, t1.2.1⟩ (fun I' a1 a2 a3 => ?_)
  rw [fR_congr eb]
  have en : nR (I 150) tr = ns := (nR_congr eb).trans r1.1.symm
  rw [en] at a1 a2
  refine hP I' ⟨fun x h1 h2 => ?_, fun j h1 h2 h3 => a3 145 j (by omega) (fun _ => h1)⟩ (a3 145 9 (by omega) (fun _ => by omega)) ?_ a1 (fun i hi => ?_)
  · funext j; exact a3 x j (by omega) (fun e => absurd e h1)
  · funext j; exact a3 153 j (by omega) (fun e => absurd e (by omega))
  · rw [a2 i hi, vD_congr eb (by rw [en]; exact hi), ← r1.2 i hi, ← h.1.1]; rfl
theorem sp_rS {P : Int32 → tI → tJ → Prop} (h : Rl I g q n ns nb nf nq tr ts) (hP : ∀ I', KM I I' → I' 145 7 = I 145 7 → I' 152 = I 152 → I' 145 9 = nI n → (∀ i, i < n → I' 153 (3 * i) = g 2 i ∧ I' 153 (3 * i + 1) = g 3 i ∧ I' 153 (3 * i + 2) = g 4 i) → P (fS (I 136) ts) I' J) : EI X (d + 3) n_X11_readsSlices [.ref 145] I J P := by
  have t1 := h.2.2.1
  have r1 := h.2.2.2.2.1
  have eb : ∀ j, j < ts → (fun j => I 150 (40 + j)) j = I 136 j := t1.2.2.2
  refine sp_readsSlices (b := fun j => I 150 (40 + j)) (t := ts) (fun _ => rfl) ⟨t1.2.2.1, t1.2.1⟩ (fun I' a1 a2 a3 => ?_)
  rw [fS_congr eb]
  have en : nS (fun j => I 150 (40 + j)) ts = n := (nS_congr eb).trans r1.1.symm
  rw [en] at a1 a2
  refine hP I' ⟨fun x h1 h2 => ?_, fun j h1 h2 h3 => a3 145 j (by omega) (fun _ => h2)⟩ (a3 145 7 (by omega) (fun _ => by omega)) ?_ a1 (fun i hi => ?_)
  · funext j; exact a3 x j (by omega) (fun e => absurd e h1)
  · funext j; exact a3 152 j (by omega) (fun e => absurd e (by omega))
  · obtain ⟨c1, c2, c3⟩ := vS_congr eb (i := i) (by rw [en]; exact hi)
    obtain ⟨u1, u2, u3⟩ := a2 i hi
    obtain ⟨w1, w2, w3⟩ := r1.2 i hi
    rw [u1, u2, u3, c1, c2, c3, ← w1, ← w2, ← w3, ← h.1.1]
    exact ⟨rfl, rfl, rfl⟩
theorem Rl.mg (h : Rl I g q n ns nb nf nq tr ts) (a1 : I 145 9 = nI n) (a2 : I 145 7 = nI ns) (a3 : ∀ i, i < n → I 153 (3 * i) = g 2 i ∧ I 153 (3 * i + 1) = g 3 i ∧ I 153 (3 * i + 2) = g 4 i) (a4 : ∀ i, i < ns → I 152 i = g 1 i) : Mg I g n ns nb nf := by
  obtain ⟨⟨e, gd, gp⟩, h2, h3, h4, h5, h6, h7, h8, h9, h10, h11, h12, h13, h14⟩ := h
  obtain ⟨d1, d2, d3, d4, d5, d6⟩ := gd
  subst e
  exact ⟨⟨a1, d1.2⟩, ⟨a2, d2.2⟩, ⟨h7.1, d3.2⟩, ⟨h8.1, d4.2⟩, a3, a4, h6, h7.2, h8.2, d2.1, d5, d6⟩
theorem sp_reads {P : tI → tJ → Prop} (h : Rl I g q n ns nb nf nq tr ts) (hP : ∀ I', KM I I' → Mg I' g n ns nb nf → EV X (d + 4) n_X11_lives [.ref 145] I' J P) : EV X (d + 5) n_X11_find [.ref 145] I J P := by
  refine vc_X11_find (sp_rR h (fun I1 k1 e1 e2 e3 e4 => ?_))
  refine sp_rS (h.m k1) (fun I2 k2 f1 f2 f3 f4 => ?_)
  have h2 := (h.m k1).m k2
  exact hP I2 (k1.then k2) (h2.mg f3 (f1.trans e3) f4 (fun i hi => by rw [f2]; exact e4 i hi))
theorem sp_find {P : tI → tJ → Prop} (h : Rl I g q n ns nb nf nq tr ts) (hP : ∀ I', KM I I' → Rl I' g q n ns nb nf nq tr ts → Mg I' g n ns nb nf → Kp n 30 I' (zN g n nb nf (fun _ => 0)) → Rm n I' (zN g n nb nf (fun _ => 0) 30) → P I' J) : EV X (d + 5) n_X11_find [.ref 145] I J P := by
  refine sp_reads h (fun I1 k1 m1 => ?_)
  refine sp_lives0 m1 (h.m k1).o (fun I2 f2 k2 r2 => ?_)
  exact hP I2 (k1.fl f2) (h.m (k1.fl f2)) (m1.fl f2) k2 r2
end REL3
