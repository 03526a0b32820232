/-! rules: in the world that the constructors left, instruction by instruction -/
abbrev mm_w (I : Nat → Nat → Int32) (J : Nat → Nat → Int64) : mm_W := (mm_G0, mm_R0, I, J)
abbrev tI : Type := Nat → Nat → Int32
abbrev tJ : Type := Nat → Nat → Int64
abbrev ix (j : Int32) (n : Nat) : Prop := ¬ (j < 0 ∨ n ≤ j.toNatClampNeg)
abbrev tn (j : Int32) : Nat := j.toNatClampNeg
def Er (X : mm_X) (d : Nat) (M : mm_M) (i : Nat) (L : mm_L) (S : List Value) (I : tI) (J : tJ) (P : Option Value → tI → tJ → Prop) : Prop := Ew X d M i L S (mm_w I J) (fun r w => ∃ I' J', w = mm_w I' J' ∧ P r I' J')
def EC (X : mm_X) (d k : Nat) (as : List Value) (I : tI) (J : tJ) (P : Option Value → tI → tJ → Prop) : Prop := ∃ M, mm_tab k = some M ∧ (mm_la as).length ≤ M.2.1 ∧ Er X d M 0 (mm_en as M.2.1) [] I J P
abbrev qI (P : Int32 → tI → tJ → Prop) : Option Value → tI → tJ → Prop := fun r I J => ∃ x, r = some (.int x) ∧ P x I J
abbrev qL (P : Int64 → tI → tJ → Prop) : Option Value → tI → tJ → Prop := fun r I J => ∃ x, r = some (.long x) ∧ P x I J
abbrev qV (P : tI → tJ → Prop) : Option Value → tI → tJ → Prop := fun r I J => r = none ∧ P I J
abbrev EI (X : mm_X) (d k : Nat) (as : List Value) (I : tI) (J : tJ) (P : Int32 → tI → tJ → Prop) : Prop := EC X d k as I J (qI P)
abbrev EL (X : mm_X) (d k : Nat) (as : List Value) (I : tI) (J : tJ) (P : Int64 → tI → tJ → Prop) : Prop := EC X d k as I J (qL P)
abbrev EV (X : mm_X) (d k : Nat) (as : List Value) (I : tI) (J : tJ) (P : tI → tJ → Prop) : Prop := EC X d k as I J (qV P)
section RULES
variable {X : mm_X} {d : Nat} {M : mm_M} {i : Nat} {L : mm_L} {S : List Value} {I : tI} {J : tJ} {P P' : Option Value → tI → tJ → Prop}
variable {q : Instr} {a b nx pc ln : Nat}
theorem Er.mono (h : Er X d M i L S I J P) (hP : ∀ r I J, P r I J → P' r I J) : Er X d M i L S I J P' := Ew.mono h (fun r w ⟨I', J', e, h⟩ => ⟨I', J', e, hP r I' J' h⟩)
theorem e_p {S' : List Value} (hf : M.2.2[i]? = some (q, a, b, nx, pc, ln)) (hk : mm_kd q a = 0) (hp : mm_pure q a S = some S') (h : Er X d M nx L S' I J P) : Er X d M i L S I J P :=
  Ew.next hf (by unfold mm_step; rw [hk]; show (mm_pure q a S).map _ = _; rw [hp]; rfl) h
theorem e_k {u v : Int32} (hf : M.2.2[i]? = some (q, a, b, nx, pc, ln)) (hk : mm_kd q a = 0) (hp : mm_pure q a S = some (.int u :: S)) (hv : u = v) (h : Er X d M nx L (.int v :: S) I J P) : Er X d M i L S I J P := e_p hf hk hp (by rw [hv]; exact h)
theorem e_kl {u v : Int64} (hf : M.2.2[i]? = some (q, a, b, nx, pc, ln)) (hk : mm_kd q a = 0) (hp : mm_pure q a S = some (.long u :: S)) (hv : u = v) (h : Er X d M nx L (.long v :: S) I J P) : Er X d M i L S I J P := e_p hf hk hp (by rw [hv]; exact h)
theorem e_dv {x y : Int32} {r : List Value} (hf : M.2.2[i]? = some (.idiv, a, b, nx, pc, ln)) (hy : ¬ y = 0) (h : Er X d M nx L (.int (x / y) :: r) I J P) : Er X d M i L (.int y :: .int x :: r) I J P := e_p hf rfl (show (if y = 0 then none else some (Value.int (x / y) :: r)) = _ from if_neg hy) h
theorem e_rm {x y : Int32} {r : List Value} (hf : M.2.2[i]? = some (.irem, a, b, nx, pc, ln)) (hy : ¬ y = 0) (h : Er X d M nx L (.int (x - x / y * y) :: r) I J P) : Er X d M i L (.int y :: .int x :: r) I J P := e_p hf rfl (show (if y = 0 then none else some (Value.int (x - x / y * y) :: r)) = _ from if_neg hy) h
theorem e_ldv {x y : Int64} {r : List Value} (hf : M.2.2[i]? = some (.ldiv, a, b, nx, pc, ln)) (hy : ¬ y = 0) (h : Er X d M nx L (.long (x / y) :: r) I J P) : Er X d M i L (.long y :: .long x :: r) I J P := e_p hf rfl (show (if y = 0 then none else some (Value.long (x / y) :: r)) = _ from if_neg hy) h
theorem e_lrm {x y : Int64} {r : List Value} (hf : M.2.2[i]? = some (.lrem, a, b, nx, pc, ln)) (hy : ¬ y = 0) (h : Er X d M nx L (.long (x - x / y * y) :: r) I J P) : Er X d M i L (.long y :: .long x :: r) I J P := e_p hf rfl (show (if y = 0 then none else some (Value.long (x - x / y * y) :: r)) = _ from if_neg hy) h
theorem e_l {L' : mm_L} {S' : List Value} (hf : M.2.2[i]? = some (q, a, b, nx, pc, ln)) (hk : mm_kd q a = 1) (hp : mm_loc q L S = some (L', S')) (h : Er X d M nx L' S' I J P) : Er X d M i L S I J P :=
  Ew.next hf (by unfold mm_step; rw [hk]; show (mm_loc q L S).map _ = _; rw [hp]; rfl) h
theorem e_g {o : Int} (hf : M.2.2[i]? = some (.goto o, a, b, nx, pc, ln)) (h : Er X d M a L S I J P) : Er X d M i L S I J P := Ew.next hf rfl h
theorem e_b {A : Prop} {dA : Decidable A} {r : List Value} (hf : M.2.2[i]? = some (q, a, b, nx, pc, ln)) (hk : mm_kd q a = 2) (hp : mm_br q a nx S = some (if A then a else nx, r)) (ht : A → Er X d M a L r I J P) (he : ¬ A → Er X d M nx L r I J P) : Er X d M i L S I J P := by
  have hs : mm_step X mm_rk mm_sw M.1 q a b nx (i, L, S, mm_w I J) = some (.inl (if A then a else nx, L, r, mm_w I J)) := by
    unfold mm_step; rw [hk]; show (mm_br q a nx S).map _ = _; rw [hp]; rfl
  refine Ew.next hf hs ?_
  by_cases hA : A
  · rw [if_pos hA]; exact ht hA
  · rw [if_neg hA]; exact he hA
theorem e_sw {x : Int32} {r : List Value} (hf : M.2.2[i]? = some (q, a, b, nx, pc, ln)) (hk : mm_kd q a = 6) (hp : mm_swi mm_sw q a b (.int x :: r) = some (mm_tg (mm_sw b) a x, r)) (h : Er X d M (mm_tg (mm_sw b) a x) L r I J P) : Er X d M i L (.int x :: r) I J P :=
  Ew.next hf (by unfold mm_step; rw [hk]; show (mm_swi mm_sw q a b (.int x :: r)).map _ = _; rw [hp]; rfl) h
theorem e_h {S' : List Value} {I' : tI} {J' : tJ} (hf : M.2.2[i]? = some (q, a, b, nx, pc, ln)) (hk : mm_kd q a = 3) (hp : mm_heap X q a b S (mm_w I J) = some (S', mm_w I' J')) (h : Er X d M nx L S' I' J' P) : Er X d M i L S I J P :=
  Ew.next hf (by unfold mm_step; rw [hk]; show (mm_heap X q a b S (mm_w I J)).map _ = _; rw [hp]; rfl) h
theorem e_gi {n k : Nat} {r : List Value} (hf : M.2.2[i]? = some (.getfield n, a, b, nx, pc, ln)) (hG : mm_G0[k]? = some (.inr (.inr a)) ∧ k < 1000) (hk : mm_fk a b ≤ 1) (h : Er X d M nx L (.int (I k b) :: r) I J P) : Er X d M i L (.ref k :: r) I J P :=
  e_h hf rfl (by simp only [mm_heap]; rw [if_pos hG, if_pos hk]) h
theorem e_gl {n k : Nat} {r : List Value} (hf : M.2.2[i]? = some (.getfield n, a, b, nx, pc, ln)) (hG : mm_G0[k]? = some (.inr (.inr a)) ∧ k < 1000) (hk : mm_fk a b = 2) (h : Er X d M nx L (.long (J k b) :: r) I J P) : Er X d M i L (.ref k :: r) I J P :=
  e_h hf rfl (by simp only [mm_heap]; rw [if_pos hG, if_neg (by omega), if_pos hk]) h
theorem e_gr {n k k' : Nat} {r : List Value} (hf : M.2.2[i]? = some (.getfield n, a, b, nx, pc, ln)) (hG : mm_G0[k]? = some (.inr (.inr a)) ∧ k < 1000) (hk : mm_fk a b = 3) (hR : mm_R0 k b = some k') (h : Er X d M nx L (.ref k' :: r) I J P) : Er X d M i L (.ref k :: r) I J P :=
  e_h hf rfl (by simp only [mm_heap]; rw [if_pos hG, if_neg (by omega), if_neg (by omega), if_pos hk, hR]; rfl) h
theorem e_pi {n k : Nat} {x : Int32} {r : List Value} (hf : M.2.2[i]? = some (.putfield n, a, b, nx, pc, ln)) (hG : mm_G0[k]? = some (.inr (.inr a)) ∧ k < 1000) (hk : mm_fk a b = 0) (h : Er X d M nx L r (mm_u I k b x) J P) : Er X d M i L (.int x :: .ref k :: r) I J P :=
  e_h hf rfl (by simp only [mm_heap]; rw [if_pos ⟨hG.1, hG.2, Or.inl hk⟩]) h
theorem e_pb {n k : Nat} {x : Int32} {r : List Value} (hf : M.2.2[i]? = some (.putfield n, a, b, nx, pc, ln)) (hG : mm_G0[k]? = some (.inr (.inr a)) ∧ k < 1000) (hk : mm_fk a b = 1) (hx : x = 0 ∨ x = 1) (h : Er X d M nx L r (mm_u I k b x) J P) : Er X d M i L (.int x :: .ref k :: r) I J P :=
  e_h hf rfl (by simp only [mm_heap]; rw [if_pos ⟨hG.1, hG.2, Or.inr ⟨hk, hx⟩⟩]) h
theorem e_pl {n k : Nat} {x : Int64} {r : List Value} (hf : M.2.2[i]? = some (.putfield n, a, b, nx, pc, ln)) (hG : mm_G0[k]? = some (.inr (.inr a)) ∧ k < 1000) (hk : mm_fk a b = 2) (h : Er X d M nx L r I (mm_u J k b x) P) : Er X d M i L (.long x :: .ref k :: r) I J P :=
  e_h hf rfl (by simp only [mm_heap]; rw [if_pos ⟨hG.1, hG.2, hk⟩]) h
theorem mm_arr_in0 {k n : Nat} (hG : mm_G0[k]? = some (.inl n) ∧ k < 1000) : mm_arr X (mm_w I J) k = some (n, I k) := by
  unfold mm_arr
  rw [if_pos hG.2, hG.1]
theorem mm_arr_ex {k : Nat} {nf : Nat × (Nat → Int32)} (hX : X k = some nf) : mm_arr X (mm_w I J) (1000 + k) = some nf := by
  unfold mm_arr
  rw [if_neg (by omega), show 1000 + k - 1000 = k by omega]
  exact hX
theorem e_ia {k n : Nat} {j : Int32} {r : List Value} (hf : M.2.2[i]? = some (.iaload, a, b, nx, pc, ln)) (hG : mm_G0[k]? = some (.inl n) ∧ k < 1000) (hj : ix j n) (h : Er X d M nx L (.int (I k (tn j)) :: r) I J P) : Er X d M i L (.int j :: .ref k :: r) I J P :=
  e_h hf rfl (by simp only [mm_heap]; rw [mm_arr_in0 hG]; dsimp only; rw [if_pos hj]) h
theorem e_ix {k n : Nat} {f : Nat → Int32} {j : Int32} {r : List Value} (hf : M.2.2[i]? = some (.iaload, a, b, nx, pc, ln)) (hX : X k = some (n, f)) (hj : ix j n) (h : Er X d M nx L (.int (f (tn j)) :: r) I J P) : Er X d M i L (.int j :: .ref (1000 + k) :: r) I J P :=
  e_h hf rfl (by simp only [mm_heap]; rw [mm_arr_ex hX]; dsimp only; rw [if_pos hj]) h
theorem e_al {k n : Nat} {r : List Value} (hf : M.2.2[i]? = some (.arraylength, a, b, nx, pc, ln)) (hG : mm_G0[k]? = some (.inl n) ∧ k < 1000) (h : Er X d M nx L (.int (Int32.ofNat n) :: r) I J P) : Er X d M i L (.ref k :: r) I J P :=
  e_h hf rfl (by simp only [mm_heap]; rw [mm_arr_in0 hG]) h
theorem e_ax {k n : Nat} {f : Nat → Int32} {r : List Value} (hf : M.2.2[i]? = some (.arraylength, a, b, nx, pc, ln)) (hX : X k = some (n, f)) (h : Er X d M nx L (.int (Int32.ofNat n) :: r) I J P) : Er X d M i L (.ref (1000 + k) :: r) I J P :=
  e_h hf rfl (by simp only [mm_heap]; rw [mm_arr_ex hX]) h
theorem e_as {k n : Nat} {j x : Int32} {r : List Value} (hf : M.2.2[i]? = some (.iastore, a, b, nx, pc, ln)) (hG : mm_G0[k]? = some (.inl n) ∧ k < 1000) (hj : ix j n) (h : Er X d M nx L r (mm_u I k (tn j) x) J P) : Er X d M i L (.int x :: .int j :: .ref k :: r) I J P :=
  e_h hf rfl (by
    have e : mm_arw (mm_w I J) k = some n := by unfold mm_arw; rw [hG.1]
    simp only [mm_heap]; rw [e]; dsimp only; rw [if_pos ⟨hj, hG.2⟩]) h
theorem e_aa {k c n k' : Nat} {j : Int32} {r : List Value} (hf : M.2.2[i]? = some (.aaload, a, b, nx, pc, ln)) (hG : mm_G0[k]? = some (.inr (.inl (c, n))) ∧ k < 1000) (hj : ix j n) (hR : mm_R0 k (tn j) = some k') (h : Er X d M nx L (.ref k' :: r) I J P) : Er X d M i L (.int j :: .ref k :: r) I J P :=
  e_h hf rfl (by simp only [mm_heap]; rw [hG.1]; dsimp only; rw [if_pos ⟨hj, hG.2⟩, hR]; rfl) h
theorem e_gs {n : Nat} (hf : M.2.2[i]? = some (.getstatic n, a, b, nx, pc, ln)) (h : Er X d M nx L (.ref a :: S) I J P) : Er X d M i L S I J P := e_h hf rfl rfl h
theorem e_mx {n : Nat} {x y : Int32} {r : List Value} (hf : M.2.2[i]? = some (.invokestatic n, 1001, b, nx, pc, ln)) (hs : (r.map fun v => v.category).sum ≤ 8) (h : Er X d M nx L (.int (if x < y then y else x) :: r) I J P) : Er X d M i L (.int y :: .int x :: r) I J P :=
  e_h hf rfl (by show (if _ then _ else _) = _; rw [if_pos hs]) h
theorem e_mn {n : Nat} {x y : Int32} {r : List Value} (hf : M.2.2[i]? = some (.invokestatic n, 1002, b, nx, pc, ln)) (hs : (r.map fun v => v.category).sum ≤ 8) (h : Er X d M nx L (.int (if y < x then y else x) :: r) I J P) : Er X d M i L (.int y :: .int x :: r) I J P :=
  e_h hf rfl (by show (if _ then _ else _) = _; rw [if_pos hs]) h
theorem e_cp {n k k' n0 n1 : Nat} {m dp sp : Int32} {r : List Value} (hf : M.2.2[i]? = some (.invokestatic n, 1003, b, nx, pc, ln)) (hs : (r.map fun v => v.category).sum ≤ 8) (h0 : mm_G0[k]? = some (.inl n0) ∧ k < 1000) (h1 : mm_G0[k']? = some (.inl n1) ∧ k' < 1000) (hc : ¬ sp < 0 ∧ ¬ dp < 0 ∧ ¬ m < 0 ∧ tn sp + tn m ≤ n0 ∧ tn dp + tn m ≤ n1) (h : Er X d M nx L r (mm_z I k' (va_cpy (I k) (I k') (tn sp) (tn dp) (tn m))) J P) : Er X d M i L (.int m :: .int dp :: .ref k' :: .int sp :: .ref k :: r) I J P :=
  e_h hf rfl (by
    have e0 : mm_arw (mm_w I J) k = some n0 := by unfold mm_arw; rw [h0.1]
    have e1 : mm_arw (mm_w I J) k' = some n1 := by unfold mm_arw; rw [h1.1]
    show (match mm_arw (mm_w I J) k, mm_arw (mm_w I J) k' with | some n0, some n1 => _ | _, _ => _) = _
    rw [e0, e1]
    dsimp only
    rw [if_pos ⟨hc, h0.2, h1.2, hs⟩]) h
/-! calls -/
theorem e_cs {n : Nat} {as rs : List Value} {P2 : Option Value → tI → tJ → Prop} (hf : M.2.2[i]? = some (.invokestatic n, a, b, nx, pc, ln)) (hS : S = as.reverse ++ rs) (hc : (decide (a < 1000) && decide (as.length = b) && decide ((rs.map fun v => v.category).sum ≤ 8)) = true) (h : EC X d a as I J P2) (hk : ∀ r I J, P2 r I J → Er X (d + 1) M nx L (r.toList ++ rs) I J P) : Er X (d + 1) M i L S I J P := by
  simp only [Bool.and_eq_true, decide_eq_true_eq] at hc
  obtain ⟨⟨c1, c2⟩, c3⟩ := hc
  obtain ⟨M', ht, hl, h⟩ := h
  have e1 : S.take b = as.reverse := by rw [hS, ← c2]; simp
  have e2 : S.drop b = rs := by rw [hS, ← c2]; simp
  refine Ew.call hf (by simp [mm_kd, c1]) (as := as) (rs := rs) ?_ ht hl (Ew.mono h (fun r w ⟨I', J', e, h⟩ => by subst e; exact hk r I' J' h))
  simp only [mm_inv]
  rw [if_pos ⟨c1, by rw [hS]; simp; omega, by rw [e2]; exact c3⟩, e1, e2, List.reverse_reverse]
theorem e_cv {n k : Nat} {as rs : List Value} {P2 : Option Value → tI → tJ → Prop} (hf : M.2.2[i]? = some (.invokevirtual n, a, b, nx, pc, ln)) (hS : S = (.ref k :: as).reverse ++ rs) (hG : mm_G0[k]? = some (.inr (.inr (mm_rk a))) ∧ k < 1000) (hc : (decide (a < 1000) && decide (as.length + 1 = b) && decide ((rs.map fun v => v.category).sum ≤ 8)) = true) (h : EC X d a (.ref k :: as) I J P2) (hk : ∀ r I J, P2 r I J → Er X (d + 1) M nx L (r.toList ++ rs) I J P) : Er X (d + 1) M i L S I J P := by
  simp only [Bool.and_eq_true, decide_eq_true_eq] at hc
  obtain ⟨⟨c1, c2⟩, c3⟩ := hc
  obtain ⟨M', ht, hl, h⟩ := h
  have e1 : S.take b = (Value.ref k :: as).reverse := by rw [hS]; exact List.take_left' (by simp; omega)
  have e2 : S.drop b = rs := by rw [hS]; exact List.drop_left' (by simp; omega)
  refine Ew.call hf rfl (as := .ref k :: as) (rs := rs) ?_ ht hl (Ew.mono h (fun r w ⟨I', J', e, h⟩ => by subst e; exact hk r I' J' h))
  simp only [mm_inv]
  rw [if_pos ⟨c1, by rw [hS]; simp; omega, by rw [e2]; exact c3⟩, e1, e2, List.reverse_reverse]
  dsimp only
  rw [if_pos hG]
/-! returns -/
theorem e_rv (hf : M.2.2[i]? = some (.return_, a, b, nx, pc, ln)) (hr : M.1 = 0) (h : P none I J) : Er X d M i L [] I J P := Ew.ret hf rfl (by simp [mm_ret, hr]) ⟨I, J, rfl, h⟩
theorem e_ri {x : Int32} (hf : M.2.2[i]? = some (.ireturn, a, b, nx, pc, ln)) (hr : M.1 = 1) (h : P (some (.int x)) I J) : Er X d M i L [.int x] I J P := Ew.ret hf rfl (by simp [mm_ret, hr]) ⟨I, J, rfl, h⟩
theorem e_rz {x : Int32} (hf : M.2.2[i]? = some (.ireturn, a, b, nx, pc, ln)) (hr : M.1 = 2) (hx : x = 0 ∨ x = 1) (h : P (some (.int x)) I J) : Er X d M i L [.int x] I J P := Ew.ret hf rfl (by simp [mm_ret, hr, hx]) ⟨I, J, rfl, h⟩
theorem e_rl {x : Int64} (hf : M.2.2[i]? = some (.lreturn, a, b, nx, pc, ln)) (hr : M.1 = 3) (h : P (some (.long x)) I J) : Er X d M i L [.long x] I J P := Ew.ret hf rfl (by simp [mm_ret, hr]) ⟨I, J, rfl, h⟩
end RULES
