/-! words and worlds go with the state -/
def mm_gb (w : Cond) : Bool := goodWord w || (match w with
  | .fieldLinkNest _ _ _ _ _ _ => true
  | .methodLinkNest _ _ _ _ => true
  | .arrayOver (.object _) => true
  | .privateMethod _ => true
  | _ => false)
theorem mm_gb_ok : lw_t2.all mm_gb = true := by decide +kernel
theorem mm_word {w : Cond} (hw : w ∈ lw_t2) {args a' : Array Value} {s U : State} (hW : s.WarmedH U.vm) (h : w.before args s = true) : w.before a' U = true := by
  have hg := List.all_eq_true.mp mm_gb_ok w hw
  simp only [mm_gb, Bool.or_eq_true] at hg
  rcases hg with hg | hg
  · exact word_at hW (good_of_word hg) h
  · split at hg
    · exact va_Nw.use rfl (va_Nw.warmF hW (va_Nw.of rfl h))
    · exact va_Nw.use rfl (va_Nw.warmM hW (va_Nw.of rfl h))
    · exact va_AO.use (va_AO.moved hW.alike (va_AO.of h))
    · exact va_tabs rfl (rfl : (s.setVm U.vm).vm = U.vm) (Cond.before_shiftedFace (State.Shifted.of_warmed hW) _ rfl h)
    · cases hg
section CX
variable {D : va_G} {cAI : ClassId} {cAR : Nat → ClassId} {E : Nat → Nat} {X : mm_X} {base : Nat} {args : Array Value} {s : State}
theorem mm_cx.warm (C : mm_cx D cAI cAR E X base args s) {U : State} {H : Heap} {locs : List Loc} (hS : va_S (fun q => base ≤ q) s.heap H locs) (hU : U.heap = H) (hW : s.WarmedH U.vm) (a' : Array Value) : mm_cx D cAI cAR E X base a' U := by
  subst hU
  exact ⟨fun w hw => mm_word hw hW (C.1 w hw), va_K.moved hW.alike C.2.1, fun j nf hj => (va_T.moved hW.alike (C.2.2.1 j nf hj)).kept hS.2.1, (va_Z.moved hW.alike C.2.2.2.1).kept hS.2.1, (va_Z.moved hW.alike C.2.2.2.2.1).kept hS.2.1, Nat.le_trans C.2.2.2.2.2 hS.1⟩
theorem mm_cx.call (C : mm_cx D cAI cAR E X base args s) (g : JFrame) (mk : MethodId) (x a' : Array Value) : mm_cx D cAI cAR E X base a' (s.calling g mk x) :=
  ⟨fun w hw => mm_word hw (s := s) (U := s.calling g mk x) (State.WarmedH.refl s) (C.1 w hw), va_K.moved (u := s) (U := s.calling g mk x) (Vm.Alike.refl s.vm) C.2.1, fun j nf hj => va_T.moved (u := s) (U := s.calling g mk x) (Vm.Alike.refl s.vm) (C.2.2.1 j nf hj), va_Z.moved (u := s) (U := s.calling g mk x) (Vm.Alike.refl s.vm) C.2.2.2.1, va_Z.moved (u := s) (U := s.calling g mk x) (Vm.Alike.refl s.vm) C.2.2.2.2.1, C.2.2.2.2.2⟩
end CX
/-! switches -/
theorem mm_swT_tg {code : List mm_I} {pc a : Nat} {x : Int32} : ∀ (l : List (Int × Nat)) (ks offs : List Int), mm_swT code pc l ks offs = true →
    (∃ (j : Nat) (f : Int), ks[j]? = some x.toInt ∧ offs[j]? = some f ∧ mm_pcAt code (mm_tg l a x) ((pc : Int) + f) = true ∧ ∀ j', j' < j → ks[j']? ≠ some x.toInt) ∨ ((∀ j : Nat, ks[j]? ≠ some x.toInt) ∧ mm_tg l a x = a)
  | [], [], [], _ => Or.inr ⟨fun j h => by simp at h, rfl⟩
  | q :: l', k :: ks', f :: offs', h => by
    simp only [mm_swT, Bool.and_eq_true, decide_eq_true_eq] at h
    obtain ⟨⟨h1, h2⟩, h3⟩ := h
    by_cases hx : x.toInt = q.1
    · refine Or.inl ⟨0, f, by simp [hx, h1], rfl, ?_, fun j' hj => absurd hj (Nat.not_lt_zero _)⟩
      rw [mm_tg, if_pos hx]
      exact h2
    · rcases mm_swT_tg (a := a) (x := x) l' ks' offs' h3 with ⟨j, g, g1, g2, g3, g4⟩ | ⟨g1, g2⟩
      · refine Or.inl ⟨j + 1, g, by simpa using g1, by simpa using g2, by rw [mm_tg, if_neg hx]; exact g3, fun j' hj' => ?_⟩
        cases j' with
        | zero => simp; rw [← h1]; exact fun e => hx e.symm
        | succ j'' => simpa using g4 j'' (by omega)
      · refine Or.inr ⟨fun j => ?_, by rw [mm_tg, if_neg hx]; exact g2⟩
        cases j with
        | zero => simp; rw [← h1]; exact fun e => hx e.symm
        | succ j' => simpa using g1 j'
  | [], [], _ :: _, h => by simp [mm_swT] at h
  | [], _ :: _, _, h => by simp [mm_swT] at h
  | _ :: _, [], _, h => by simp [mm_swT] at h
  | _ :: _, _ :: _, [], h => by simp [mm_swT] at h
theorem mm_off {x : Int32} {dflt : Int} : ∀ (ps : List (Int × Int)) (j : Nat) (f : Int), (ps.map (fun t => t.1))[j]? = some x.toInt → (ps.map (fun t => t.2))[j]? = some f → (∀ j', j' < j → (ps.map (fun t => t.1))[j']? ≠ some x.toInt) → Op.lookupswitch.offset ps dflt x.toInt = f
  | [], j, f, h, _, _ => by simp at h
  | (a, o) :: r, j, f, h1, h2, h3 => by
    rw [Op.lookupswitch.offset_cons]
    cases j with
    | zero =>
      simp at h1 h2
      rw [if_pos h1]
      exact h2
    | succ j' =>
      have h0 := h3 0 (by omega)
      simp at h0
      rw [if_neg h0]
      exact mm_off r j' f (by simpa using h1) (by simpa using h2) (fun j'' hj => by simpa using h3 (j'' + 1) (by omega))
theorem mm_off0 {x : Int32} {dflt : Int} : ∀ (ps : List (Int × Int)), (∀ j : Nat, (ps.map (fun t => t.1))[j]? ≠ some x.toInt) → Op.lookupswitch.offset ps dflt x.toInt = dflt
  | [], _ => rfl
  | (a, o) :: r, h => by
    rw [Op.lookupswitch.offset_cons]
    have h0 := h 0
    simp at h0
    rw [if_neg h0]
    exact mm_off0 r (fun j => by simpa using h (j + 1))
theorem mm_pcAt_of {code : List mm_I} {k : Nat} {v : Int} (h : mm_pcAt code k v = true) {i : mm_I} (hi : code[k]? = some i) : (i.2.2.2.2.1 : Int) = v := by
  unfold mm_pcAt at h
  rw [hi] at h
  simpa using h
def mm_swc (code : List mm_I) (pc a b : Nat) (q : Instr) : Bool := match q with
  | .tableswitch dflt lo hi offs => mm_pcAt code a ((pc : Int) + dflt) && decide (hi = lo + offs.size - 1) && mm_swT code pc (mm_sw b) ((List.range offs.size).map (fun (j : Nat) => lo + (j : Int))) offs.toList
  | .lookupswitch dflt ps => mm_pcAt code a ((pc : Int) + dflt) && (ps.toList.zip (ps.toList.drop 1)).all (fun (a, next) => a.1 < next.1) && mm_swT code pc (mm_sw b) (ps.toList.map (fun t => t.1)) (ps.toList.map (fun t => t.2))
  | _ => false
section SW
variable {p : Program} {l : Launch} {e : Env} {R : Room} {s : State} {m : MethodId} {args : Array Value} {below : List Frame} {meth : Method} {c : Code} {H : Heap} {locs : List Loc} {cells slots : Nat} {Q : State → Prop}
variable {cc : ByteArray} {pc : Nat} {ls : Array Slot}
theorem so_swi (hx : p.tables.exec = Jvm.exec) (hb : c.code = cc) {ad : Nat → Nat} {q : Instr} {a b len : Nat} {code : List mm_I} {S : List Value} {z : Nat × List Value} (hd : decode cc pc = .ok (q, len))
    (hck : mm_swc code pc a b q = true)
    (h : mm_swi mm_sw q a b S = some z) {i : mm_I} (hci : code[z.1]? = some i)
    (kk : W p l e R s m args below meth c H locs cells slots Q (F0 m i.2.2.2.2.1 ls (z.2.map (mm_tv ad)))) : W p l e R s m args below meth c H locs cells slots Q (F0 m pc ls (S.map (mm_tv ad))) := by
  cases q with
  | tableswitch dflt lo hi offs =>
    simp only [mm_swc, Bool.and_eq_true, decide_eq_true_eq] at hck
    obtain ⟨⟨h1, h2⟩, h3⟩ := hck
    simp only [mm_swi] at h
    split at h <;> first | cases h; done | skip
    rename_i x r
    cases h
    rcases mm_swT_tg (a := a) (x := x) _ _ _ h3 with ⟨j, f, g1, g2, g3, -⟩ | ⟨g1, g2⟩
    · have hj : j < offs.size := by
        have := (List.getElem?_eq_some_iff.mp g1).1
        simpa using this
      have hxj : x.toInt = lo + (j : Int) := by
        rw [List.getElem?_map, List.getElem?_range hj] at g1
        simpa using g1.symm
      refine lv_tableIn hx hb hd (by omega) (by omega) (off := f) ?_ (mm_pcAt_of g3 hci).symm kk
      rw [show (x.toInt - lo).toNat = j by omega, ← Array.getElem?_toList]
      exact g2
    · rw [g2] at hci
      refine lv_tableOut hx hb hd ?_ (mm_pcAt_of h1 hci).symm kk
      by_cases h4 : x.toInt < lo
      · exact Or.inl h4
      · right
        by_cases h5 : hi < x.toInt
        · exact h5
        · exfalso
          have hj : (x.toInt - lo).toNat < offs.size := by omega
          refine g1 (x.toInt - lo).toNat ?_
          rw [List.getElem?_map, List.getElem?_range hj]
          simp
          omega
  | lookupswitch dflt ps =>
    simp only [mm_swc, Bool.and_eq_true] at hck
    obtain ⟨⟨h1, h2⟩, h3⟩ := hck
    simp only [mm_swi] at h
    split at h <;> first | cases h; done | skip
    rename_i x r
    cases h
    rcases mm_swT_tg (a := a) (x := x) _ _ _ h3 with ⟨j, f, g1, g2, g3, g4⟩ | ⟨g1, g2⟩
    · exact lv_lookup hx hb hd h2 (mm_off _ j f g1 g2 g4) (mm_pcAt_of g3 hci).symm kk
    · rw [g2] at hci
      exact lv_lookup hx hb hd h2 (mm_off0 _ g1) (mm_pcAt_of h1 hci).symm kk
  | _ => simp [mm_swc] at hck
/-- behind a call -/
theorem mm_callk {pc : Nat} {mc ms base : Nat} {rest st0 : List Value} {rv : Option Value} {P1 : Heap → Prop} (hr : va_Run p l e R s m args below meth c H locs cells slots mc ms (F0 m pc ls st0) rest (fun st o t => o = .returned rv ∧ P1 t.heap ∧ va_F (fun q => base ≤ q) st t) (fun q => base ≤ q)) (hS : va_S (fun q => base ≤ q) s.heap H locs)
    (kk : ∀ (H1 : Heap) (locs1 : List Loc), P1 H1 → va_S (fun q => base ≤ q) s.heap H1 locs1 → W p l e R s m args below meth c H1 locs1 (cells + mc) (slots + ms) Q (F0 m (pc + 3) ls (rv.toList ++ rest))) : W p l e R s m args below meth c H locs cells slots Q (F0 m pc ls st0) := by
  intro T hT X
  obtain ⟨v, st₀, t, T', L, h0, X', hL, e1, e2, ⟨hv, hp, hz, hk⟩, st⟩ := hr T hT X
  cases hv
  rw [h0] at hz hk
  obtain ⟨t2, a1, b1⟩ := kk T'.heap (locs ++ L) (by rw [e1]; exact hp)
    ⟨Nat.le_trans hS.1 (by rw [e1]; exact hz), fun q h1 h2 => by rw [e1, hk q (Nat.lt_of_lt_of_le h1 hS.1) h2]; exact hS.2.1 q h1 h2, fun q hq => by
      rcases List.mem_append.mp hq with h | h
      · exact hS.2.2 q h
      · exact hL q h⟩ T' rfl X'
  exact ⟨t2, st t2 a1, b1⟩
end SW
