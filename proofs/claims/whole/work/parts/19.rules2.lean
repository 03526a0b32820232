/-! further rules: stores with a name, calls by what they return, switches; the constants -/
def mm_gr : Nat → Int32 := fun j => if j = 0 then 30 else if j = 1 then 9 else 99
def mm_dh : Nat → Int32 := fun j => if j = 0 then 0 else if j = 1 then 5 else 29
section RULES2
variable {X : mm_X} {d : Nat} {M : mm_M} {i : Nat} {L : mm_L} {S : List Value} {I : tI} {J : tJ} {P : Option Value → tI → tJ → Prop}
variable {q : Instr} {a b nx pc ln : Nat}
theorem e_si {Lf : Int32 → mm_L} {x : Int32} {r : List Value} (hf : M.2.2[i]? = some (q, a, b, nx, pc, ln)) (hk : mm_kd q a = 1) (hp : mm_loc q L (.int x :: r) = some (Lf x, r)) (h : ∀ y, y = x → Er X d M nx (Lf y) r I J P) : Er X d M i L (.int x :: r) I J P := e_l hf hk hp (h x rfl)
theorem e_sl {Lf : Int64 → mm_L} {x : Int64} {r : List Value} (hf : M.2.2[i]? = some (q, a, b, nx, pc, ln)) (hk : mm_kd q a = 1) (hp : mm_loc q L (.long x :: r) = some (Lf x, r)) (h : ∀ y, y = x → Er X d M nx (Lf y) r I J P) : Er X d M i L (.long x :: r) I J P := e_l hf hk hp (h x rfl)
theorem e_ic {k : Nat} {n : Int} {x m v : Int32} {L' : mm_L} (hf : M.2.2[i]? = some (.iinc k n, a, b, nx, pc, ln)) (hl : mm_ld L k = some (.int x)) (hv : x + m = v) (hm : Int32.ofInt n = m) (hs : mm_st L k (.int v) = some L') (h : Er X d M nx L' S I J P) : Er X d M i L S I J P :=
  e_l hf rfl (by simp only [mm_loc, hl]; rw [hm, hv, hs]; rfl) h
theorem e_cp2 {n k k' n0 n1 : Nat} {m dp sp : Int32} {r : List Value} (hf : M.2.2[i]? = some (.invokestatic n, 1003, b, nx, pc, ln)) (hs : (r.map fun v => v.category).sum ≤ 8) (h0 : mm_G0[k]? = some (.inl n0) ∧ k < 1000) (h1 : mm_G0[k']? = some (.inl n1) ∧ k' < 1000) (hc : ¬ sp < 0 ∧ ¬ dp < 0 ∧ ¬ m < 0 ∧ tn sp + tn m ≤ n0 ∧ tn dp + tn m ≤ n1) (h : ∀ I', I' = mm_z I k' (va_cpy (I k) (I k') (tn sp) (tn dp) (tn m)) → Er X d M nx L r I' J P) : Er X d M i L (.int m :: .int dp :: .ref k' :: .int sp :: .ref k :: r) I J P := e_cp hf hs h0 h1 hc (h _ rfl)
theorem e_csI {n : Nat} {as rs : List Value} {P2 : Int32 → tI → tJ → Prop} (hf : M.2.2[i]? = some (.invokestatic n, a, b, nx, pc, ln)) (hS : S = as.reverse ++ rs) (hc : (decide (a < 1000) && decide (as.length = b) && decide ((rs.map fun v => v.category).sum ≤ 8)) = true) (h : EI X d a as I J P2) (hk : ∀ x I J, P2 x I J → Er X (d + 1) M nx L (.int x :: rs) I J P) : Er X (d + 1) M i L S I J P := e_cs hf hS hc h (fun r I J ⟨x, e, h⟩ => by subst e; exact hk x I J h)
theorem e_csL {n : Nat} {as rs : List Value} {P2 : Int64 → tI → tJ → Prop} (hf : M.2.2[i]? = some (.invokestatic n, a, b, nx, pc, ln)) (hS : S = as.reverse ++ rs) (hc : (decide (a < 1000) && decide (as.length = b) && decide ((rs.map fun v => v.category).sum ≤ 8)) = true) (h : EL X d a as I J P2) (hk : ∀ x I J, P2 x I J → Er X (d + 1) M nx L (.long x :: rs) I J P) : Er X (d + 1) M i L S I J P := e_cs hf hS hc h (fun r I J ⟨x, e, h⟩ => by subst e; exact hk x I J h)
theorem e_csV {n : Nat} {as rs : List Value} {P2 : tI → tJ → Prop} (hf : M.2.2[i]? = some (.invokestatic n, a, b, nx, pc, ln)) (hS : S = as.reverse ++ rs) (hc : (decide (a < 1000) && decide (as.length = b) && decide ((rs.map fun v => v.category).sum ≤ 8)) = true) (h : EV X d a as I J P2) (hk : ∀ I J, P2 I J → Er X (d + 1) M nx L rs I J P) : Er X (d + 1) M i L S I J P := e_cs hf hS hc h (fun r I J ⟨e, h⟩ => by subst e; exact hk I J h)
theorem e_cvI {n k : Nat} {as rs : List Value} {P2 : Int32 → tI → tJ → Prop} (hf : M.2.2[i]? = some (.invokevirtual n, a, b, nx, pc, ln)) (hS : S = (.ref k :: as).reverse ++ rs) (hG : mm_G0[k]? = some (.inr (.inr (mm_rk a))) ∧ k < 1000) (hc : (decide (a < 1000) && decide (as.length + 1 = b) && decide ((rs.map fun v => v.category).sum ≤ 8)) = true) (h : EI X d a (.ref k :: as) I J P2) (hk : ∀ x I J, P2 x I J → Er X (d + 1) M nx L (.int x :: rs) I J P) : Er X (d + 1) M i L S I J P := e_cv hf hS hG hc h (fun r I J ⟨x, e, h⟩ => by subst e; exact hk x I J h)
theorem e_cvL {n k : Nat} {as rs : List Value} {P2 : Int64 → tI → tJ → Prop} (hf : M.2.2[i]? = some (.invokevirtual n, a, b, nx, pc, ln)) (hS : S = (.ref k :: as).reverse ++ rs) (hG : mm_G0[k]? = some (.inr (.inr (mm_rk a))) ∧ k < 1000) (hc : (decide (a < 1000) && decide (as.length + 1 = b) && decide ((rs.map fun v => v.category).sum ≤ 8)) = true) (h : EL X d a (.ref k :: as) I J P2) (hk : ∀ x I J, P2 x I J → Er X (d + 1) M nx L (.long x :: rs) I J P) : Er X (d + 1) M i L S I J P := e_cv hf hS hG hc h (fun r I J ⟨x, e, h⟩ => by subst e; exact hk x I J h)
theorem e_cvV {n k : Nat} {as rs : List Value} {P2 : tI → tJ → Prop} (hf : M.2.2[i]? = some (.invokevirtual n, a, b, nx, pc, ln)) (hS : S = (.ref k :: as).reverse ++ rs) (hG : mm_G0[k]? = some (.inr (.inr (mm_rk a))) ∧ k < 1000) (hc : (decide (a < 1000) && decide (as.length + 1 = b) && decide ((rs.map fun v => v.category).sum ≤ 8)) = true) (h : EV X d a (.ref k :: as) I J P2) (hk : ∀ I J, P2 I J → Er X (d + 1) M nx L rs I J P) : Er X (d + 1) M i L S I J P := e_cv hf hS hG hc h (fun r I J ⟨e, h⟩ => by subst e; exact hk I J h)
theorem e_tg {l : List (Int × Nat)} {v : Int} {t : Nat} {x : Int32} (h1 : x.toInt = v → Er X d M t L S I J P) (h2 : ¬ x.toInt = v → Er X d M (mm_tg l a x) L S I J P) : Er X d M (mm_tg ((v, t) :: l) a x) L S I J P := by
  by_cases h : x.toInt = v
  · rw [mm_tg, if_pos h]; exact h1 h
  · rw [mm_tg, if_neg h]; exact h2 h
theorem e_tg0 {x : Int32} (h : Er X d M a L S I J P) : Er X d M (mm_tg [] a x) L S I J P := h
end RULES2
theorem ic_m1 : Int32.ofInt (-1) = (-1) := by decide
theorem ic_0 : Int32.ofInt 0 = 0 := by decide
theorem ic_1 : Int32.ofInt 1 = 1 := by decide
theorem ic_2 : Int32.ofInt 2 = 2 := by decide
theorem ic_3 : Int32.ofInt 3 = 3 := by decide
theorem ic_4 : Int32.ofInt 4 = 4 := by decide
theorem ic_5 : Int32.ofInt 5 = 5 := by decide
theorem ib_m10 : (Int8.ofInt (-10)).toInt32 = (-10) := by decide
theorem ib_m9 : (Int8.ofInt (-9)).toInt32 = (-9) := by decide
theorem ib_m4 : (Int8.ofInt (-4)).toInt32 = (-4) := by decide
theorem ib_m3 : (Int8.ofInt (-3)).toInt32 = (-3) := by decide
theorem ib_m2 : (Int8.ofInt (-2)).toInt32 = (-2) := by decide
theorem ib_7 : (Int8.ofInt 7).toInt32 = 7 := by decide
theorem ib_8 : (Int8.ofInt 8).toInt32 = 8 := by decide
theorem ib_9 : (Int8.ofInt 9).toInt32 = 9 := by decide
theorem ib_10 : (Int8.ofInt 10).toInt32 = 10 := by decide
theorem ib_11 : (Int8.ofInt 11).toInt32 = 11 := by decide
theorem ib_12 : (Int8.ofInt 12).toInt32 = 12 := by decide
theorem ib_16 : (Int8.ofInt 16).toInt32 = 16 := by decide
theorem ib_20 : (Int8.ofInt 20).toInt32 = 20 := by decide
theorem ib_29 : (Int8.ofInt 29).toInt32 = 29 := by decide
theorem ib_30 : (Int8.ofInt 30).toInt32 = 30 := by decide
theorem ib_32 : (Int8.ofInt 32).toInt32 = 32 := by decide
theorem ib_39 : (Int8.ofInt 39).toInt32 = 39 := by decide
theorem ib_40 : (Int8.ofInt 40).toInt32 = 40 := by decide
theorem ib_48 : (Int8.ofInt 48).toInt32 = 48 := by decide
theorem ib_57 : (Int8.ofInt 57).toInt32 = 57 := by decide
theorem ib_59 : (Int8.ofInt 59).toInt32 = 59 := by decide
theorem ib_60 : (Int8.ofInt 60).toInt32 = 60 := by decide
theorem ib_64 : (Int8.ofInt 64).toInt32 = 64 := by decide
theorem ib_98 : (Int8.ofInt 98).toInt32 = 98 := by decide
theorem ib_99 : (Int8.ofInt 99).toInt32 = 99 := by decide
theorem ib_100 : (Int8.ofInt 100).toInt32 = 100 := by decide
theorem ib_116 : (Int8.ofInt 116).toInt32 = 116 := by decide
theorem ib_119 : (Int8.ofInt 119).toInt32 = 119 := by decide
theorem is_255 : (Int16.ofInt 255).toInt32 = 255 := by decide
theorem is_12345 : (Int16.ofInt 12345).toInt32 = 12345 := by decide
theorem ik_1103515245 : Int32.ofNat 1103515245 = 1103515245 := by decide
theorem ik_2147483648 : Int32.ofNat 2147483648 = (-2147483648) := by decide
theorem lc_0 : Int64.ofNat ((0 : Fin 2) : Nat) = 0 := by decide
theorem lc_1 : Int64.ofNat ((1 : Fin 2) : Nat) = 1 := by decide
theorem lk_2 : Int64.ofNat 2 = 2 := by decide
theorem lk_3 : Int64.ofNat 3 = 3 := by decide
theorem lk_7 : Int64.ofNat 7 = 7 := by decide
theorem lk_9 : Int64.ofNat 9 = 9 := by decide
theorem lk_16 : Int64.ofNat 16 = 16 := by decide
theorem lk_17 : Int64.ofNat 17 = 17 := by decide
theorem lk_29 : Int64.ofNat 29 = 29 := by decide
theorem lk_30 : Int64.ofNat 30 = 30 := by decide
theorem lk_31 : Int64.ofNat 31 = 31 := by decide
theorem lk_48 : Int64.ofNat 48 = 48 := by decide
theorem lk_57 : Int64.ofNat 57 = 57 := by decide
theorem lk_99 : Int64.ofNat 99 = 99 := by decide
theorem lk_255 : Int64.ofNat 255 = 255 := by decide
theorem lk_9223372036854775808 : Int64.ofNat 9223372036854775808 = (-9223372036854775808) := by decide
theorem lk_9223372036854775810 : Int64.ofNat 9223372036854775810 = (-9223372036854775806) := by decide
theorem lk_18446744073709551615 : Int64.ofNat 18446744073709551615 = (-1) := by decide
