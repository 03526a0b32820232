/-! small facts for the proofs by hand -/
theorem crs_ge {c : Nat} (hc : c ∈ mm_crs) : 15 ≤ c ∧ c ≤ 122 := (show ∀ c ∈ mm_crs, 15 ≤ c ∧ c ≤ 122 by decide +kernel) c hc
theorem tn_nI {k : Nat} (h : k < 1000) : tn (nI k) = k := nI_clamp (by omega)
theorem ix_nI {k n : Nat} (h : k < n) (hn : n < 1000) : ix (nI k) n := vp_in_nI h (by omega)
theorem le_nI {a b : Nat} (ha : a < 1000) (hb : b < 1000) : (nI a ≤ nI b) = (a ≤ b) := propext (nI_leI (by omega) (by omega))
theorem lt_nI {a b : Nat} (ha : a < 1000) (hb : b < 1000) : (nI a < nI b) = (a < b) := propext (nI_ltI (by omega) (by omega))
theorem eq_nI {a b : Nat} (ha : a < 1000) (hb : b < 1000) : (nI a = nI b) = (a = b) := propext (nI_eq (by omega) (by omega))
theorem mm_u_k {α : Type} {f : Nat → Nat → α} {k j x : Nat} {v : α} (h : x ≠ k) : mm_u f k j v x = f x := by funext y; simp [mm_u, h]
theorem mm_u_s {α : Type} {f : Nat → Nat → α} {k j : Nat} {v : α} : mm_u f k j v k j = v := by simp [mm_u]
theorem mm_u_j {α : Type} {f : Nat → Nat → α} {k j x y : Nat} {v : α} (h : y ≠ j) : mm_u f k j v x y = f x y := by simp [mm_u, h]
theorem mm_z_k {α : Type} {f : Nat → Nat → α} {k x : Nat} {g : Nat → α} (h : x ≠ k) : mm_z f k g x = f x := by funext y; simp [mm_z, h]
theorem mm_z_s {α : Type} {f : Nat → Nat → α} {k : Nat} {g : Nat → α} : mm_z f k g k = g := by funext y; simp [mm_z]
/-- a loop that counts up -/
theorem up_loop {A : Nat → Prop} {n : Nat} (h0 : A n) (hs : ∀ k, k < n → A (k + 1) → A k) : ∀ k, k ≤ n → A k := by
  intro k hk
  obtain ⟨m, hm⟩ : ∃ m, k + m = n := ⟨n - k, by omega⟩
  induction m generalizing k with
  | zero => have : k = n := by omega
            rw [this]; exact h0
  | succ m ih => exact hs k (by omega) (ih (k + 1) (by omega) (by omega))
/-- a state, step by step -/
def it {α : Type} (B : Nat → α → α) (a : α) : Nat → α
  | 0 => a
  | k + 1 => B k (it B a k)
theorem it_loop {α : Type} {A : Nat → α → Prop} {B : Nat → α → α} {a : α} {n : Nat} (hx : A n (it B a n)) (hs : ∀ k, k < n → A (k + 1) (B k (it B a k)) → A k (it B a k)) : A 0 a := up_loop (A := fun k => A k (it B a k)) hx hs 0 (Nat.zero_le _)
theorem it_inv {α : Type} {Q : α → Prop} {B : Nat → α → α} {a : α} (h0 : Q a) (hs : ∀ k b, Q b → Q (B k b)) : ∀ n, Q (it B a n)
  | 0 => h0
  | n + 1 => hs n _ (it_inv h0 hs n)
/-- only a course's own cells have changed -/
def FC (c : Nat) (I I' : tI) : Prop := ∀ x, (x < c ∨ c + 7 < x) → I' x = I x
theorem FC.rf {c : Nat} {I : tI} : FC c I I := fun _ _ => rfl
theorem FC.tr {c : Nat} {I I' I'' : tI} (h : FC c I I') (h' : FC c I' I'') : FC c I I'' := fun x hx => (h' x hx).trans (h x hx)
theorem FC.u {c : Nat} {I I' : tI} {k j : Nat} {v : Int32} (h : FC c I I') (hk : c ≤ k) (hk2 : k ≤ c + 7) : FC c I (mm_u I' k j v) := fun x hx => by rw [mm_u_k (by omega)]; exact h x hx
theorem FC.z {c : Nat} {I I' : tI} {k : Nat} {g : Nat → Int32} (h : FC c I I') (hk : c ≤ k) (hk2 : k ≤ c + 7) : FC c I (mm_z I' k g) := fun x hx => by rw [mm_z_k (by omega)]; exact h x hx
theorem FC.it {c : Nat} {B : Nat → tI → tI} {I I' : tI} (h : FC c I I') (hB : ∀ k J, FC c J (B k J)) (n : Nat) : FC c I (it B I' n) := it_inv (Q := fun b => FC c I b) h (fun k b hb => hb.tr (hB k b)) n
/-- the setting is in order: n slices, ns slots, nb butters, nf fires -/
def Gd (I : tI) (n ns nb nf : Nat) : Prop := (I 2 2 = nI n ∧ n ≤ 8) ∧ (I 2 0 = nI ns ∧ ns ≤ 10) ∧ (I 2 7 = nI nb ∧ nb ≤ 8) ∧ (I 2 10 = nI nf ∧ nf ≤ 4) ∧ (∀ k, k < n → ∃ p, p < 10 ∧ I 6 k = nI p) ∧ (∀ k, k < nb → ∃ p, p < 8 ∧ I 9 k = nI p)
theorem Gd.fc {c n ns nb nf : Nat} {I I' : tI} (h : Gd I n ns nb nf) (hc : 15 ≤ c) (hf : FC c I I') : Gd I' n ns nb nf := by
  unfold Gd
  rw [hf 2 (by omega), hf 6 (by omega), hf 9 (by omega)]
  exact h
/-! ===== the course's methods, as functions of the state ===== -/
abbrev inn (c i : Nat) (I : tI) : Prop := I (c + 2) i = 0 ∨ I (c + 2) i = 1
def bBegin (c k : Nat) (I : tI) : tI := mm_u (mm_u (mm_u (mm_u (mm_u I (c + 1) k (I 5 k)) (c + 3) k (I 5 k)) (c + 2) k 0) (c + 5) k (-1)) (c + 6) k 0
def fBegin (c n : Nat) (I : tI) : tI := it (bBegin c) (mm_u I c 8 0) n
def bCome (c : Nat) (h : Int32) (k : Nat) (I : tI) : tI := if I (c + 2) k = 2 ∧ I 4 k = 1 ∧ I (c + 4) k = h - 3 ∧ I 7 0 < I (c + 3) k / 2 then mm_u (mm_u (mm_u I (c + 3) k (I (c + 3) k / 2)) (c + 1) k (I (c + 3) k / 2)) (c + 2) k 0 else I
def bPlace (c k : Nat) (I : tI) : tI := if I (c + 2) k = 0 ∧ I 6 k < I 2 0 ∧ ((I c 8 >>> (I 6 k &&& 31)) &&& 1) = 0 then mm_u (mm_u I (c + 2) k 1) c 8 (I c 8 ||| (1 <<< (I 6 k &&& 31))) else I
def bWarm (c : Nat) (f : Int32) (k : Nat) (I : tI) : tI := if I (c + 2) k = 1 then mm_u I (c + 1) k (if I (c + 1) k + 20 * f < 99 then I (c + 1) k + 20 * f else 99) else I
def vFires (I : tI) (h : Int32) : Nat → Int32
  | 0 => 0
  | k + 1 => if I 10 k = h then vFires I h k + 1 else vFires I h k
def fUntil (c n nf : Nat) (h : Int32) (I : tI) : tI := if vFires I h nf = 0 then it (bPlace c) (it (bCome c h) I n) n else it (bWarm c (vFires I h nf)) (it (bPlace c) (it (bCome c h) I n) n) n
def fLeave (c i : Nat) (a : Int32) (I : tI) : tI := mm_u (if I (c + 2) i = 1 then mm_u I c 8 (I c 8 &&& ((1 <<< (I 6 i &&& 31)) ^^^ (-1))) else I) (c + 2) i a
def bSpread (c : Nat) (h : Int32) (k : Nat) (I : tI) : tI := if I 8 k = h ∧ I 9 k < I 2 2 ∧ inn c (tn (I 9 k)) I ∧ I 7 2 < I (c + 1) (tn (I 9 k)) then fLeave c (tn (I 9 k)) 3 I else I
def bZero (c k : Nat) (I : tI) : tI := mm_u I (c + 7) k 0
def bFeel (c k : Nat) (I : tI) : tI := if I (c + 2) k = 1 then mm_u I (c + 7) (tn (I 6 k + 1)) (I (c + 1) k) else I
def fFeel (c n ns : Nat) (I : tI) : tI := it (bFeel c) (it (bZero c) I (ns + 2)) n
def vC1 (c i : Nat) (p : Int32) (I : tI) (v : Int32) : Int32 := if I 4 i ≠ 3 ∧ I (c + 1) i < I (c + 7) (tn p) then v + (-1) else v
def vC3 (k v : Int32) : Int32 := if k = 0 then (if (0 : Int32) < v then v else 0) + 1 else if k = 2 then (if (0 : Int32) < v then v else 0) / 2 else (if (0 : Int32) < v then v else 0)
def vCool (c i : Nat) (more : Int32) (I : tI) : Int32 := if I (c + 2) i = 0 then 1 else vC3 (I 4 i) (vC1 c i (I 6 i + 2) I (vC1 c i (I 6 i) I (((I 3 (tn (I 6 i)) + more) + 1) - I 7 1)))
def fGo (c i : Nat) (h : Int32) (I : tI) : tI := if I (c + 5) i = -1 then mm_u (mm_u (mm_u (fLeave c i 2 I) (c + 4) i h) (c + 6) i (I (c + 6) i + 1)) (c + 5) i h else mm_u (mm_u (fLeave c i 2 I) (c + 4) i h) (c + 6) i (I (c + 6) i + 1)
def max0 (x : Int32) : Int32 := if (0 : Int32) < x then x else 0
def bCool (c : Nat) (h more : Int32) (k : Nat) (I : tI) : tI := if inn c k I then (if max0 (I (c + 1) k - vCool c k more I) ≤ I 7 0 then fGo c k h (mm_u I (c + 1) k (max0 (I (c + 1) k - vCool c k more I))) else mm_u I (c + 1) k (max0 (I (c + 1) k - vCool c k more I))) else I
def fFrom (c n ns nb : Nat) (h more : Int32) (I : tI) : tI := it (bCool c h more) (fFeel c n ns (it (bSpread c h) I nb)) n
def vMany (c : Nat) (I : tI) : Nat → Int32
  | 0 => 0
  | k + 1 => if inn c k I then vMany c I k + 1 else vMany c I k
/-! what stays -/
theorem fc_begin (c k : Nat) (I : tI) : FC c I (bBegin c k I) := ((((FC.rf.u (by omega) (by omega)).u (by omega) (by omega)).u (by omega) (by omega)).u (by omega) (by omega)).u (by omega) (by omega)
theorem fc_come (c : Nat) (h : Int32) (k : Nat) (I : tI) : FC c I (bCome c h k I) := by
  unfold bCome; split
  · exact ((FC.rf.u (by omega) (by omega)).u (by omega) (by omega)).u (by omega) (by omega)
  · exact FC.rf
theorem fc_place (c k : Nat) (I : tI) : FC c I (bPlace c k I) := by
  unfold bPlace; split
  · exact (FC.rf.u (by omega) (by omega)).u (by omega) (by omega)
  · exact FC.rf
theorem fc_warm (c : Nat) (f : Int32) (k : Nat) (I : tI) : FC c I (bWarm c f k I) := by
  unfold bWarm; split
  · exact FC.rf.u (by omega) (by omega)
  · exact FC.rf
theorem fc_until (c n nf : Nat) (h : Int32) (I : tI) : FC c I (fUntil c n nf h I) := by
  have h2 : FC c I (it (bPlace c) (it (bCome c h) I n) n) := ((FC.rf.it (fc_come c h) n).it (fc_place c) n)
  unfold fUntil; split
  · exact h2
  · exact h2.it (fc_warm c _) n
theorem fc_leave (c i : Nat) (a : Int32) (I : tI) : FC c I (fLeave c i a I) := by
  unfold fLeave; split
  · exact (FC.rf.u (by omega) (by omega)).u (by omega) (by omega)
  · exact FC.rf.u (by omega) (by omega)
theorem fc_spread (c : Nat) (h : Int32) (k : Nat) (I : tI) : FC c I (bSpread c h k I) := by
  unfold bSpread; split
  · exact fc_leave _ _ _ _
  · exact FC.rf
theorem fc_zero (c k : Nat) (I : tI) : FC c I (bZero c k I) := FC.rf.u (by omega) (by omega)
theorem fc_feel1 (c k : Nat) (I : tI) : FC c I (bFeel c k I) := by
  unfold bFeel; split
  · exact FC.rf.u (by omega) (by omega)
  · exact FC.rf
theorem fc_feel (c n ns : Nat) (I : tI) : FC c I (fFeel c n ns I) := (FC.rf.it (fc_zero c) _).it (fc_feel1 c) n
theorem fc_go (c i : Nat) (h : Int32) (I : tI) : FC c I (fGo c i h I) := by
  have h1 : FC c I (mm_u (mm_u (fLeave c i 2 I) (c + 4) i h) (c + 6) i (I (c + 6) i + 1)) := ((fc_leave c i 2 I).u (by omega) (by omega)).u (by omega) (by omega)
  unfold fGo; split
  · exact h1.u (by omega) (by omega)
  · exact h1
theorem fc_cool (c : Nat) (h more : Int32) (k : Nat) (I : tI) : FC c I (bCool c h more k I) := by
  unfold bCool; split
  · split
    · exact (FC.rf.u (by omega) (by omega)).tr (fc_go _ _ _ _)
    · exact FC.rf.u (by omega) (by omega)
  · exact FC.rf
theorem fc_from (c n ns nb : Nat) (h more : Int32) (I : tI) : FC c I (fFrom c n ns nb h more I) := ((FC.rf.it (fc_spread c h) nb).tr (fc_feel c n ns _)).it (fc_cool c h more) n
theorem fc_beginAll (c n : Nat) (I : tI) : FC c I (fBegin c n I) := (FC.rf.u (by omega) (by omega)).it (fc_begin c) n
