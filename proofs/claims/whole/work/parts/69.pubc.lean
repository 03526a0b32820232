/-! ===== the class's questions ===== -/
section PUBC
abbrev inR (v lo hi : Int32) : Prop := lo ≤ v ∧ v ≤ hi
abbrev isK (n : Nat) (v : Int32) : Prop := 0 ≤ v ∧ v ≤ nI n - 1
theorem in_nat {v : Int32} {m : Nat} (hm : m < 1000) (h : inR v 0 (nI m)) : ∃ k, k ≤ m ∧ v = nI k := by
  obtain ⟨j, hj, e⟩ := nI_of (Int32.not_lt.mpr h.1)
  refine ⟨j, ?_, e⟩
  have h2 := h.2
  rw [e, nI_leI hj (by omega)] at h2
  exact h2
theorem isK_nat {v : Int32} {n : Nat} (hn : n ≤ 10) (h : isK n v) : ∃ k, k < n ∧ v = nI k := by
  have hm : (nI n - 1).toInt = (n : Int) - 1 := pk_sub_toInt (a := n) (b := 1) (by omega) (by omega)
  obtain ⟨j, hj, e⟩ := nI_of (Int32.not_lt.mpr h.1)
  refine ⟨j, ?_, e⟩
  have h2 := h.2
  rw [Int32.le_iff_toInt_le, hm, e, nI_toInt hj] at h2
  omega
theorem isK_of {n k : Nat} (hn : n ≤ 10) (hk : k < n) : isK n (nI k) := by
  have hm : (nI n - 1).toInt = (n : Int) - 1 := pk_sub_toInt (a := n) (b := 1) (by omega) (by omega)
  refine ⟨nI_pos' (by omega), ?_⟩
  rw [Int32.le_iff_toInt_le, hm, nI_toInt (by omega)]; omega
theorem inR_of {m k : Nat} (hm : m < 1000) (hk : k ≤ m) : inR (nI k) 0 (nI m) := ⟨nI_pos' (by omega), by rw [le_nI (by omega) (by omega)]; exact hk⟩
/-- the first from h on, of r -/
noncomputable def fh (p : Nat → Prop) : Nat → Nat → Int32
  | 0, _ => -1
  | r + 1, h => @ite _ (p h) (Classical.propDecidable _) (nI h) (fh p r (h + 1))
noncomputable def ll (st : Nat → Int32) (n : Nat) : Int32 := fh (fun k => st k = 0) n 0
noncomputable def crP (Z : Nat → tI) (n : Nat) (v : Int32) : Nat → Nat → Int32
  | 0, _ => -1
  | r + 1, h => if ll (Z (h + 1) 2) n = -1 then crP Z n v r (h + 1) else if v ≠ 0 then ll (Z (h + 1) 2) n else nI h
def qtH (n : Nat) (st : Nat → Int32) : Prop := ∀ k, k < n → ¬ (st k = 0 ∨ st k = 1)
def spB (st : Nat → Int32) : Nat → Int32
  | 0 => 0
  | k + 1 => if st k = 3 then spB st k ||| (1 <<< (nI k &&& 31)) else spB st k
def tmP (s : Nat → Int32) : Nat → Int32
  | 0 => 0
  | k + 1 => tmP s k + s k
variable {X : mm_X} {d : Nat} {I I' I'' : tI} {J : tJ} {n ns nb nf nq tr ts : Nat} {g s q : tI}
theorem fh_none {p : Nat → Prop} : ∀ r h, h + r < 1000 → (fh p r h = -1 ↔ ∀ k, h ≤ k → k < h + r → ¬ p k)
  | 0, h, _ => by rw [fh]; exact ⟨fun _ k a b => by omega, fun _ => rfl⟩
  | r + 1, h, hr => by
    rw [fh]
    by_cases e : p h
    · rw [if_pos e]
      exact ⟨fun z => absurd z (nI_ne (by omega)), fun z => absurd e (z h (by omega) (by omega))⟩
    · rw [if_neg e, fh_none r (h + 1) (by omega)]
      refine ⟨fun z k a b => ?_, fun z k a b => z k (by omega) (by omega)⟩
      by_cases c : k = h
      · subst c; exact e
      · exact z k (by omega) (by omega)
theorem ll_none {st : Nat → Int32} (hn : n ≤ 8) : ll st n = -1 ↔ ∀ k, k < n → st k ≠ 0 := by
  unfold ll
  rw [fh_none n 0 (by omega)]
  exact ⟨fun z k hk => z k (by omega) (by omega), fun z k _ hk => z k (by omega)⟩
theorem hm_zero {g4 st : Nat → Int32} (hg : ∀ k, k < n → ∃ p, p < 10 ∧ g4 k = nI p) : hm g4 st n = 0 ↔ ∀ k, k < n → st k ≠ 1 := by
  refine ⟨fun z k hk e => ?_, fun z => ?_⟩
  · obtain ⟨p, p1, p2⟩ := hg k hk
    have w := (bt_hm (st := st) n hg p (by omega)).mpr ⟨k, hk, e, p2⟩
    rw [z, b_0] at w; cases w
  · refine b_ext (fun i hi => ?_)
    rw [b_0]
    refine Bool.not_eq_true _ |>.mp (fun y => ?_)
    obtain ⟨k, k1, k2, _⟩ := (bt_hm (st := st) n hg i hi).mp y
    exact z k k1 k2
theorem Rl.kb (h : Rl I g q n ns nb nf nq tr ts) (f : FLog I I') (l : LgOk n I' g (zN g n nb nf (fun _ => 0))) : KC n nb nf g I I' := ⟨fun x hx => f x (by omega), fun _ => l⟩
theorem sp_cHour {P : Int32 → tI → tJ → Prop} {v : Int32} (h1 : inR v 0 29 → P 1 I J) (h0 : ¬ inR v 0 29 → P 0 I J) : EI X (d + 1) n_X10_isHour [.int v] I J P := vc_X10_isHour (sp_isWithin (fun a b => ⟨Or.inr rfl, h1 ⟨a, b⟩⟩) (fun a => ⟨Or.inl rfl, h0 a⟩))
theorem sp_cSheet {P : Int32 → tI → tJ → Prop} {v : Int32} (h1 : inR v 0 3 → P 1 I J) (h0 : ¬ inR v 0 3 → P 0 I J) : EI X (d + 1) n_X10_isSheet [.int v] I J P := vc_X10_isSheet (sp_isWithin (fun a b => ⟨Or.inr rfl, h1 ⟨a, b⟩⟩) (fun a => ⟨Or.inl rfl, h0 a⟩))
theorem sp_cForm {P : Int32 → tI → tJ → Prop} {v : Int32} (h1 : inR v 0 2 → P 1 I J) (h0 : ¬ inR v 0 2 → P 0 I J) : EI X (d + 1) n_X10_isForm [.int v] I J P := vc_X10_isForm (sp_isWithin (fun a b => ⟨Or.inr rfl, h1 ⟨a, b⟩⟩) (fun a => ⟨Or.inl rfl, h0 a⟩))
theorem sp_cSlice {P : Int32 → tI → tJ → Prop} {v : Int32} (hn : I 2 2 = nI n) (h1 : isK n v → P 1 I J) (h0 : ¬ isK n v → P 0 I J) : EI X (d + 1) n_X10_isSlice [.ref 0, .int v] I J P := by
  refine vc_X10_isSlice ?_
  rw [hn]
  exact sp_isWithin (fun a b => ⟨Or.inr rfl, h1 ⟨a, b⟩⟩) (fun a => ⟨Or.inl rfl, h0 a⟩)
theorem ne10 : (1 : Int32) ≠ 0 := by decide
theorem c_heat {P : Int32 → tI → tJ → Prop} {v1 v2 : Int32} (h : Rl I g q n ns nb nf nq tr ts) (hP : ∀ I', KC n nb nf g I I' → P (if inR v1 0 29 ∧ isK n v2 then zN g n nb nf (fun _ => 0) (tn v1 + 1) 1 (tn v2) else -2) I' J) : EI X (d + 20) n_X10_heat [.ref 0, .int v1, .int v2] I J P := by
  have hn8 := h.n8
  refine vc_X10_heat (sp_cHour (fun a => ⟨fun z => absurd z ne10, fun _ => sp_cSlice h.1.2.1.1.1 (fun b => ⟨fun _ => ?_, fun z => absurd ne10 z⟩) (fun b => ⟨fun z => absurd rfl z, fun _ => ?_⟩)⟩) (fun a => ⟨fun _ => ?_, fun z => absurd rfl z⟩))
  · refine sp_bring h.1 h.lg (fun I' f e l => ?_)
    have hP := hP I' (h.kb f l)
    rw [if_pos ⟨a, b⟩] at hP
    obtain ⟨u, hu, rfl⟩ := in_nat (m := 29) (by omega) a
    obtain ⟨k, hk, rfl⟩ := isK_nat (by omega) b
    rw [tn_nI (by omega), tn_nI (by omega)] at hP
    rw [mul8, nI_add, tn_nI (by omega), (l.1.1 u k (by omega) hk).1]
    exact ⟨ix_nI (by omega) (by omega), hP⟩
  · have hP := hP I h.rc
    rw [if_neg (fun z => b z.2)] at hP; exact hP
  · have hP := hP I h.rc
    rw [if_neg (fun z => a z.1)] at hP; exact hP
theorem c_state {P : Int32 → tI → tJ → Prop} {v1 v2 : Int32} (h : Rl I g q n ns nb nf nq tr ts) (hP : ∀ I', KC n nb nf g I I' → P (if inR v1 0 29 ∧ isK n v2 then zN g n nb nf (fun _ => 0) (tn v1 + 1) 2 (tn v2) else -2) I' J) : EI X (d + 20) n_X10_state [.ref 0, .int v1, .int v2] I J P := by
  have hn8 := h.n8
  refine vc_X10_state (sp_cHour (fun a => ⟨fun z => absurd z ne10, fun _ => sp_cSlice h.1.2.1.1.1 (fun b => ⟨fun _ => ?_, fun z => absurd ne10 z⟩) (fun b => ⟨fun z => absurd rfl z, fun _ => ?_⟩)⟩) (fun a => ⟨fun _ => ?_, fun z => absurd rfl z⟩))
  · refine sp_bring h.1 h.lg (fun I' f e l => ?_)
    have hP := hP I' (h.kb f l)
    rw [if_pos ⟨a, b⟩] at hP
    obtain ⟨u, hu, rfl⟩ := in_nat (m := 29) (by omega) a
    obtain ⟨k, hk, rfl⟩ := isK_nat (by omega) b
    rw [tn_nI (by omega), tn_nI (by omega)] at hP
    rw [mul8, nI_add, tn_nI (by omega), (l.1.1 u k (by omega) hk).2]
    exact ⟨ix_nI (by omega) (by omega), hP⟩
  · have hP := hP I h.rc
    rw [if_neg (fun z => b z.2)] at hP; exact hP
  · have hP := hP I h.rc
    rw [if_neg (fun z => a z.1)] at hP; exact hP
theorem c_held {P : Int32 → tI → tJ → Prop} {v1 : Int32} (h : Rl I g q n ns nb nf nq tr ts) (hP : ∀ I', KC n nb nf g I I' → P (if inR v1 0 29 then hm (g 4) (zN g n nb nf (fun _ => 0) (tn v1 + 1) 2) n else -2) I' J) : EI X (d + 20) n_X10_held [.ref 0, .int v1] I J P := by
  refine vc_X10_held (sp_cHour (fun a => ⟨fun _ => ?_, fun z => absurd ne10 z⟩) (fun a => ⟨fun z => absurd rfl z, fun _ => ?_⟩))
  · refine sp_bring h.1 h.lg (fun I' f e l => ?_)
    have hP := hP I' (h.kb f l)
    rw [if_pos a] at hP
    obtain ⟨u, hu, rfl⟩ := in_nat (m := 29) (by omega) a
    rw [tn_nI (by omega)] at hP
    rw [tn_nI (by omega), l.1.2 u (by omega)]
    exact ⟨ix_nI (by omega) (by omega), hP⟩
  · have hP := hP I h.rc
    rw [if_neg a] at hP; exact hP
theorem c_freed {P : Int32 → tI → tJ → Prop} {v1 v2 : Int32} (h : Rl I g q n ns nb nf nq tr ts) (hP : ∀ I', KC n nb nf g I I' → P (if isK n v1 ∧ inR v2 0 1 then (if v2 ≠ 0 then zN g n nb nf (fun _ => 0) 30 6 (tn v1) else zN g n nb nf (fun _ => 0) 30 5 (tn v1)) else -2) I' J) : EI X (d + 20) n_X10_freed [.ref 0, .int v1, .int v2] I J P := by
  have hn8 := h.n8
  refine vc_X10_freed (sp_cSlice h.1.2.1.1.1 (fun a => ⟨fun z => absurd z ne10, fun _ => sp_isWithin (fun b c => ⟨fun _ => ?_, fun z => absurd ne10 z⟩) (fun b => ⟨fun z => absurd rfl z, fun _ => ?_⟩)⟩) (fun a => ⟨fun _ => ?_, fun z => absurd rfl z⟩))
  · refine sp_bring h.1 h.lg (fun I' f e l => ?_)
    have hP := hP I' (h.kb f l)
    rw [if_pos ⟨a, b, c⟩] at hP
    obtain ⟨k, hk, rfl⟩ := isK_nat (by omega) a
    rw [tn_nI (by omega)] at hP ⊢
    rw [show I' 21 k = _ from (l.2 k hk).2.2.2.2.1, show I' 20 k = _ from (l.2 k hk).2.2.2.1]
    exact ⟨fun y => ⟨ix_nI (by omega) (by omega), by rw [if_pos y] at hP; exact hP⟩, fun y => ⟨ix_nI (by omega) (by omega), by rw [if_neg y] at hP; exact hP⟩⟩
  · have hP := hP I h.rc
    rw [if_neg (fun z => b z.2)] at hP; exact hP
  · have hP := hP I h.rc
    rw [if_neg (fun z => a z.1)] at hP; exact hP
theorem c_spoilt {P : Int32 → tI → tJ → Prop} (h : Rl I g q n ns nb nf nq tr ts) (hP : ∀ I', KC n nb nf g I I' → P (spB (zN g n nb nf (fun _ => 0) 30 2) n) I' J) : EI X (d + 20) n_X10_spoilt [.ref 0] I J P := by
  have hn8 := h.n8
  refine vc_X10_spoilt (sp_bring h.1 h.lg (fun I' f e l => ?_))
  have s1 := (h.c (h.kb f l)).1
  have key : ∀ k, k ≤ n → Er X (d + 19 + 1) M_X10_spoilt 7 [some (.ref 0), some (.int (spB (zN g n nb nf (fun _ => 0) 30 2) k)), some (.int (nI k))] [] I' J (qI P) := by
    refine up_loop ?_ ?_
    · refine vc_X10_spoilt_7 ⟨fun _ => hP I' (h.kb f l), fun hh => ?_⟩
      rw [s1.2.1.1.1] at hh; exact absurd (Int32.le_refl _) hh
    · intro k hk ih
      refine vc_X10_spoilt_7 ⟨fun hh => ?_, fun _ => ⟨ix_nI (by omega) (by omega), ?_⟩⟩
      · rw [s1.2.1.1.1, le_nI (by omega) (by omega)] at hh; omega
      rw [tn_nI (k := k) (by omega), nI_1, show I' 17 k = _ from (l.2 k hk).2.1]
      rw [spB] at ih
      exact ⟨fun z => by rw [if_neg z] at ih; exact ih, fun z y hy => by rw [if_pos (Decidable.not_not.mp z)] at ih; rw [hy]; exact ih⟩
  exact key 0 (Nat.zero_le _)
theorem sp_leastLeaning {P : Int32 → tI → tJ → Prop} {u : Nat} {st : Nat → Int32} (hu : u < 30) (hn : I 2 2 = nI n ∧ n ≤ 8) (hl : ∀ k, k < n → I 13 (8 * u + k) = st k) (hP : P (ll st n) I J) : EI X d n_X2_leastLeaning [.ref 11, .int (nI u)] I J P := by
  have hn8 := hn.2
  refine vc_X2_leastLeaning ?_
  have key : ∀ r k, k + r = n → P (fh (fun k => st k = 0) r k) I J → Er X d M_X2_leastLeaning 2 [some (.ref 11), some (.int (nI u)), some (.int (nI k))] [] I J (qI P) := by
    intro r
    induction r with
    | zero =>
      intro k hk hP
      refine vc_X2_leastLeaning_2 ⟨fun _ => hP, fun hh => ?_⟩
      rw [hn.1, show k = n by omega] at hh; exact absurd (Int32.le_refl _) hh
    | succ r ih =>
      intro k hk hP
      refine vc_X2_leastLeaning_2 ⟨fun hh => ?_, fun _ => ?_⟩
      · rw [hn.1, le_nI (by omega) (by omega)] at hh; omega
      rw [mul8, nI_add, tn_nI (by omega), hl k (by omega), nI_1]
      rw [fh] at hP
      refine ⟨ix_nI (by omega) (by omega), fun z => ?_, fun z => ?_⟩
      · rw [if_neg z] at hP; exact ih (k + 1) (by omega) hP
      · rw [if_pos (Decidable.not_not.mp z)] at hP; exact hP
  exact key n 0 (by omega) hP
theorem c_quiet {P : Int32 → tI → tJ → Prop} (h : Rl I g q n ns nb nf nq tr ts) (hP : ∀ I', KC n nb nf g I I' → P (fh (fun u => qtH n (zN g n nb nf (fun _ => 0) (u + 1) 2)) 30 0) I' J) : EI X (d + 20) n_X10_quiet [.ref 0] I J P := by
  have hn8 := h.n8
  refine vc_X10_quiet (sp_bring h.1 h.lg (fun I' f e l => ?_))
  have s1 := (h.c (h.kb f l)).1
  have hg4 : ∀ k, k < n → ∃ p, p < 10 ∧ g 4 k = nI p := by rw [← s1.1]; exact s1.2.1.2.2.2.2.1
  have hP := hP I' (h.kb f l)
  have key : ∀ r u, u + r = 30 → P (fh (fun u => qtH n (zN g n nb nf (fun _ => 0) (u + 1) 2)) r u) I' J → Er X (d + 19 + 1) M_X10_quiet 5 [some (.ref 0), some (.int (nI u))] [] I' J (qI P) := by
    intro r
    induction r with
    | zero =>
      intro u hu hP
      refine vc_X10_quiet_5 ⟨fun _ => hP, fun hh => ?_⟩
      rw [show u = 30 by omega] at hh; exact absurd (Int32.le_refl _) hh
    | succ r ih =>
      intro u hu hP
      refine vc_X10_quiet_5 ⟨fun hh => (le30 (by omega) hh).elim, fun _ => ?_⟩
      rw [tn_nI (by omega), l.1.2 u (by omega), nI_1]
      rw [fh] at hP
      refine ⟨ix_nI (by omega) (by omega), fun z => ?_, fun z => ?_⟩
      · rw [if_neg (fun y => z ((hm_zero hg4).mpr (fun k hk e => y k hk (Or.inr e))))] at hP
        exact ih (u + 1) (by omega) hP
      · refine sp_leastLeaning (st := zN g n nb nf (fun _ => 0) (u + 1) 2) (by omega) s1.2.1.1 (fun k hk => (l.1.1 u k (by omega) hk).2) ⟨fun y => ?_, fun y => ?_⟩
        · rw [if_neg (fun w => y ((ll_none hn8).mpr (fun k hk e => w k hk (Or.inl e))))] at hP
          exact ih (u + 1) (by omega) hP
        · have a1 := (hm_zero hg4).mp (Decidable.not_not.mp z)
          have a2 := (ll_none hn8).mp (Decidable.not_not.mp y)
          have a3 : qtH n (zN g n nb nf (fun _ => 0) (u + 1) 2) := fun k hk w => w.elim (a2 k hk) (a1 k hk)
          rw [if_pos a3] at hP
          exact hP
  exact key 30 0 (by omega) hP
theorem c_crowd {P : Int32 → tI → tJ → Prop} {v : Int32} (h : Rl I g q n ns nb nf nq tr ts) (hP : ∀ I', KC n nb nf g I I' → P (if inR v 0 1 then crP (zN g n nb nf (fun _ => 0)) n v 30 0 else -2) I' J) : EI X (d + 20) n_X10_crowd [.ref 0, .int v] I J P := by
  have hn8 := h.n8
  refine vc_X10_crowd (sp_isWithin (fun a b => ⟨fun _ => ?_, fun z => absurd ne10 z⟩) (fun a => ⟨fun z => absurd rfl z, fun _ => ?_⟩))
  · refine sp_bring h.1 h.lg (fun I' f e l => ?_)
    have s1 := (h.c (h.kb f l)).1
    have hP := hP I' (h.kb f l)
    rw [if_pos ⟨a, b⟩] at hP
    have key : ∀ r u, u + r = 30 → ∀ o : Option Value, P (crP (zN g n nb nf (fun _ => 0)) n v r u) I' J → Er X (d + 19 + 1) M_X10_crowd 11 [some (.ref 0), some (.int v), some (.int (nI u)), o] [] I' J (qI P) := by
      intro r
      induction r with
      | zero =>
        intro u hu o hP
        refine vc_X10_crowd_11 ⟨fun _ => hP, fun hh => ?_⟩
        rw [show u = 30 by omega] at hh; exact absurd (Int32.le_refl _) hh
      | succ r ih =>
        intro u hu o hP
        refine vc_X10_crowd_11 ⟨fun hh => (le30 (by omega) hh).elim, fun _ => ?_⟩
        rw [nI_1]
        rw [crP] at hP
        refine sp_leastLeaning (st := zN g n nb nf (fun _ => 0) (u + 1) 2) (by omega) s1.2.1.1 (fun k hk => (l.1.1 u k (by omega) hk).2) ⟨fun y => ?_, fun y => ?_⟩
        · rw [if_pos y] at hP; exact ih (u + 1) (by omega) _ hP
        · rw [if_neg y] at hP
          exact ⟨fun w => by rw [if_pos w] at hP; exact hP, fun w => by rw [if_neg w] at hP; exact hP⟩
    exact key 30 0 (by omega) none hP
  · have hP := hP I h.rc
    rw [if_neg a] at hP; exact hP
end PUBC
