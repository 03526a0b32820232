/-! reasoning about the small machine: with more steps, deeper, and more rows outside, it answers the same -/
section MONO
variable {X X' : mm_X} {rk : Nat → Nat} {sw : Nat → List (Int × Nat)} {tab : Nat → Option mm_M}
theorem mm_heap_X (hX : ∀ j nf, X j = some nf → X' j = some nf) {q : Instr} {a b : Nat} {S : List Value} {w : mm_W} {z : List Value × mm_W} (h : mm_heap X q a b S w = some z) : mm_heap X' q a b S w = some z := by
  have harr : ∀ {k : Nat} {nf : Nat × (Nat → Int32)}, mm_arr X w k = some nf → mm_arr X' w k = some nf := by
    intro k nf h
    unfold mm_arr at h ⊢
    split
    · rename_i hk; rw [if_pos hk] at h; exact h
    · rename_i hk; rw [if_neg hk] at h; exact hX _ _ h
  cases q with
  | iaload =>
    simp only [mm_heap] at h ⊢
    split at h <;> first | cases h; done | skip
    split at h <;> first | cases h; done | skip
    rename_i nf hnf
    rw [harr hnf]
    exact h
  | arraylength =>
    simp only [mm_heap] at h ⊢
    split at h <;> first | cases h; done | skip
    split at h <;> first | cases h; done | skip
    rename_i nf hnf
    rw [harr hnf]
    exact h
  | newarray t => cases t <;> exact h
  | _ => exact h
theorem mm_step_X (hX : ∀ j nf, X j = some nf → X' j = some nf) {rt : Nat} {q : Instr} {a b nx : Nat} {c : mm_C} {z : mm_R} (h : mm_step X rk sw rt q a b nx c = some z) : mm_step X' rk sw rt q a b nx c = some z := by
  unfold mm_step at h ⊢
  split at h
  all_goals first | exact h | skip
  obtain ⟨y, h1, h2⟩ := Option.map_eq_some_iff.mp h
  rw [mm_heap_X hX h1, ← h2]
  rfl
theorem mm_run_next {n d : Nat} {M : mm_M} {c c' : mm_C} {i : mm_I} (hi : M.2.2[c.1]? = some i) (hs : mm_step X rk sw M.1 i.1 i.2.1 i.2.2.1 i.2.2.2.1 c = some (.inl c')) : mm_run X rk sw tab (n + 1) d M c = mm_run X rk sw tab n d M c' := by
  conv => lhs; unfold mm_run
  rw [hi]
  dsimp only
  rw [hs]
theorem mm_run_ret {n d : Nat} {M : mm_M} {c : mm_C} {i : mm_I} {z : Option Value × mm_W} (hi : M.2.2[c.1]? = some i) (hs : mm_step X rk sw M.1 i.1 i.2.1 i.2.2.1 i.2.2.2.1 c = some (.inr (.inl z))) : mm_run X rk sw tab (n + 1) d M c = some z := by
  unfold mm_run
  rw [hi]
  dsimp only
  rw [hs]
theorem mm_run_call {n d : Nat} {M M' : mm_M} {c : mm_C} {i : mm_I} {u : Nat × List Value × mm_C} {x : Option Value × mm_W} (hi : M.2.2[c.1]? = some i) (hs : mm_step X rk sw M.1 i.1 i.2.1 i.2.2.1 i.2.2.2.1 c = some (.inr (.inr u))) (ht : tab u.1 = some M') (hl : (mm_la u.2.1).length ≤ M'.2.1) (h1 : mm_run X rk sw tab n d M' (0, mm_en u.2.1 M'.2.1, [], u.2.2.2.2.2) = some x) : mm_run X rk sw tab (n + 1) (d + 1) M c = mm_run X rk sw tab n (d + 1) M (u.2.2.1, u.2.2.2.1, x.1.toList ++ u.2.2.2.2.1, x.2) := by
  conv => lhs; unfold mm_run
  rw [hi]
  dsimp only
  rw [hs]
  dsimp only
  rw [ht]
  dsimp only
  rw [if_pos hl, h1]
theorem mm_mono (hX : ∀ j nf, X j = some nf → X' j = some nf) : ∀ (n d : Nat) (M : mm_M) (c : mm_C) (z : Option Value × mm_W) (n' d' : Nat), n ≤ n' → d ≤ d' → mm_run X rk sw tab n d M c = some z → mm_run X' rk sw tab n' d' M c = some z
  | 0, d, M, c, z, n', d', _, _, h => by simp [mm_run] at h
  | n + 1, d, M, c, z, n', d', hn, hd, h => by
    obtain ⟨k, rfl⟩ : ∃ k, n' = k + 1 := ⟨n' - 1, by omega⟩
    obtain ⟨i, hi⟩ := mm_run_fetch h
    obtain ⟨y, hy, hz⟩ := mm_run_inv hi h
    have hy' := mm_step_X hX hy
    rcases hz with ⟨c', rfl, hr⟩ | rfl | ⟨u, d0, M', x, rfl, rfl, ht, hl, h1, h2⟩
    · rw [mm_run_next hi hy']
      exact mm_mono hX n d M c' z k d' (by omega) hd hr
    · exact mm_run_ret hi hy'
    · obtain ⟨d1, rfl⟩ : ∃ d1, d' = d1 + 1 := ⟨d' - 1, by omega⟩
      rw [mm_run_call hi hy' ht hl (mm_mono hX n d0 M' _ x k d1 (by omega) (by omega) h1)]
      exact mm_mono hX n (d0 + 1) M _ z k (d1 + 1) (by omega) (by omega) h2
end MONO
/-! a run ends, and its end is so: over any world -/
def Ew (X : mm_X) (d : Nat) (M : mm_M) (i : Nat) (L : mm_L) (S : List Value) (w : mm_W) (P : Option Value → mm_W → Prop) : Prop := ∃ n r w', mm_run X mm_rk mm_sw mm_tab n d M (i, L, S, w) = some (r, w') ∧ P r w'
section EW
variable {X : mm_X} {d : Nat} {M : mm_M} {i : Nat} {L : mm_L} {S : List Value} {w : mm_W} {P P' : Option Value → mm_W → Prop}
variable {q : Instr} {a b nx pc ln : Nat}
theorem Ew.next {i' : Nat} {L' : mm_L} {S' : List Value} {w' : mm_W} (hf : M.2.2[i]? = some (q, a, b, nx, pc, ln)) (hs : mm_step X mm_rk mm_sw M.1 q a b nx (i, L, S, w) = some (.inl (i', L', S', w'))) (h : Ew X d M i' L' S' w' P) : Ew X d M i L S w P := by
  obtain ⟨n, r, w'', h1, h2⟩ := h
  exact ⟨n + 1, r, w'', by rw [mm_run_next hf hs]; exact h1, h2⟩
theorem Ew.ret {v : Option Value} (hf : M.2.2[i]? = some (q, a, b, nx, pc, ln)) (hk : mm_kd q a = 5) (hr : mm_ret M.1 q S = some v) (h : P v w) : Ew X d M i L S w P := by
  refine ⟨1, v, w, mm_run_ret hf ?_, h⟩
  show mm_step X mm_rk mm_sw M.1 q a b nx (i, L, S, w) = _
  unfold mm_step
  rw [hk]
  show (mm_ret M.1 q S).map _ = _
  rw [hr]
  rfl
theorem Ew.call {as rs : List Value} {M' : mm_M} (hf : M.2.2[i]? = some (q, a, b, nx, pc, ln)) (hk : mm_kd q a = 4) (hi : mm_inv mm_rk q a b S w = some (as, rs)) (ht : mm_tab a = some M') (hl : (mm_la as).length ≤ M'.2.1) (h : Ew X d M' 0 (mm_en as M'.2.1) [] w (fun r w' => Ew X (d + 1) M nx L (r.toList ++ rs) w' P)) : Ew X (d + 1) M i L S w P := by
  obtain ⟨n1, r1, w1, h1, n2, r2, w2, h2, h3⟩ := h
  have hs : mm_step X mm_rk mm_sw M.1 q a b nx (i, L, S, w) = some (.inr (.inr (a, as, (nx, L, rs, w)))) := by
    unfold mm_step
    rw [hk]
    show (mm_inv mm_rk q a b S w).map _ = _
    rw [hi]
    rfl
  refine ⟨max n1 n2 + 1, r2, w2, ?_, h3⟩
  rw [mm_run_call hf hs ht hl (mm_mono (fun _ _ h => h) n1 d M' _ _ _ d (Nat.le_max_left _ _) (Nat.le_refl _) h1)]
  exact mm_mono (fun _ _ h => h) n2 (d + 1) M _ _ _ (d + 1) (Nat.le_max_right _ _) (Nat.le_refl _) h2
theorem Ew.mono (h : Ew X d M i L S w P) (hP : ∀ r w', P r w' → P' r w') : Ew X d M i L S w P' := by
  obtain ⟨n, r, w', h1, h2⟩ := h
  exact ⟨n, r, w', h1, hP r w' h2⟩
theorem Ew.deeper {d' : Nat} (h : Ew X d M i L S w P) (hd : d ≤ d') : Ew X d' M i L S w P := by
  obtain ⟨n, r, w', h1, h2⟩ := h
  exact ⟨n, r, w', mm_mono (fun _ _ h => h) n d M _ _ n d' (Nat.le_refl _) hd h1, h2⟩
end EW
