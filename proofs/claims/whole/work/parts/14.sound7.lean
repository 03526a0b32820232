section STEP
variable {l : Launch} {X : mm_X} {D : va_G} {cAI : ClassId} {cAR : Nat → ClassId} {E : Nat → Nat} {base n : Nat}
variable {p : Program} {e : Env} {R : Room} {s : State} {m : MethodId} {args : Array Value} {below : List Frame} {meth : Method} {c : Code} {H : Heap} {locs : List Loc} {ls : Array Slot} {Q : State → Prop} {cells slots : Nat}
/-- the heap's size, where the world lies -/
theorem mm_Hsz {w : mm_W} {len0 : Nat} (hl : w.1.length ≤ 1000) (hP : va_P D vwCl (mm_wl cAI cAR (mm_ad base E) w) H) (hS : va_S (fun q => base ≤ q) s.heap H locs) (h0 : s.heap.size = base + len0) (hle : len0 ≤ w.1.length) (hz : H.size ≤ s.heap.size + (w.1.length - len0)) : H.size = base + w.1.length := by
  have h1 := hS.1
  by_cases hw : w.1.length = 0
  · omega
  · obtain ⟨sh, hsh⟩ : ∃ sh, w.1[w.1.length - 1]? = some sh := ⟨_, List.getElem?_eq_getElem (by omega)⟩
    have h2 := (hP _ _ (mm_wl_at hsh)).lt
    have h3 : mm_ad base E (w.1.length - 1) < H.size := h2
    rw [mm_ad_lt (by omega)] at h3
    omega
set_option maxHeartbeats 4000000 in
/-- a call -/
theorem mm_call_sound (hSP : mm_SP l X D cAI cAR E base n) {o : Nat} {ini : Bool} {cc : ByteArray} {pc nL d a b len0 : Nat} {q : Instr} {S : List Value} {w w1 : mm_W} {y : List Value × List Value} {r : Option Value} {M' : mm_M} (hx : p.tables.exec = Jvm.exec) (hb : c.code = cc) (hml : c.maxLocals = nL) (hown : s.vm.findClass (mm_nm o) = some m.cls) (C : mm_cx D cAI cAR E X base args s) (hwf : mm_wfw w) (hP : va_P D vwCl (mm_wl cAI cAR (mm_ad base E) w) H) (hS : va_S (fun q => base ≤ q) s.heap H locs) (hls : ls.size = nL)
    (h0 : s.heap.size = base + len0) (hle : len0 ≤ w.1.length) (hcells : cells = w.1.length - len0) (hlkb : mm_lkb o ini q a b = true) (hkd : mm_kd q a = 4) (hcal : mm_cal q a b = true) (hd : decode cc pc = .ok (q, 3)) (hinv : mm_inv mm_rk q a b S w = some y) (htab : mm_tab a = some M') (hlen : (mm_la y.1).length ≤ M'.2.1) (hrun : mm_run X mm_rk mm_sw mm_tab n d M' (0, mm_en y.1 M'.2.1, [], w) = some (r, w1)) (hfr : d + 2 ≤ R.frames) (hlo : 64 * (d + 2) ≤ R.locals)
    (hR : cells + (w1.1.length - w.1.length) ≤ R.cells ∧ slots + (mm_sz w1.1 - mm_sz w.1) ≤ R.slots)
    (kk : ∀ (H1 : Heap) (locs1 : List Loc), va_P D vwCl (mm_wl cAI cAR (mm_ad base E) w1) H1 → va_S (fun q => base ≤ q) s.heap H1 locs1 → W p l e R s m args below meth c H1 locs1 (cells + (w1.1.length - w.1.length)) (slots + (mm_sz w1.1 - mm_sz w.1)) Q (F0 m (pc + 3) ls ((r.toList ++ y.2).map (mm_tv (mm_ad base E))))) :
    W p l e R s m args below meth c H locs cells slots Q (F0 m pc ls (S.map (mm_tv (mm_ad base E)))) := by
  refine mm_W_sz (fun hz => ?_)
  have hHz : H.size = base + w.1.length := mm_Hsz hwf.1 hP hS h0 hle (by rw [← hcells]; exact hz)
  -- the callee
  obtain ⟨t, ht, rfl⟩ : ∃ t, mm_zl[a]? = some t ∧ t.2 = M' := by
    unfold mm_tab at htab
    obtain ⟨t, h1, h2⟩ := Option.map_eq_some_iff.mp htab
    exact ⟨t, h1, h2⟩
  have hrk : mm_rk a = t.1.1 := by unfold mm_rk; rw [ht]; rfl
  have hy : mm_y a = t.1.2.1 := by unfold mm_y; rw [ht]; rfl
  unfold mm_cal at hcal
  rw [ht] at hcal
  simp only [Bool.and_eq_true, decide_eq_true_eq] at hcal
  obtain ⟨ha198, hcal⟩ := hcal
  have hza := mm_za_of ht ha198
  obtain ⟨k1, k2, k3, k4, k5, k6, k7, k8, k9, -⟩ := mm_okH_of (List.mem_of_getElem? ht)
  have ho12 := mm_o12 t hza
  have hcodew := mm_in_code t hza
  have hG : GoodIn lw_t2 [.code t.1.2.1 t.1.2.2.1 t.1.2.2.2.1 t.1.2.2.2.2.1] := fun w hw => by
    rw [List.mem_singleton] at hw
    subst hw
    exact ⟨mm_in2 hcodew rfl, Or.inl rfl⟩
  have hini : (Cond.initialized t.1.2.1.cls).before args s = true := by rw [k4]; exact C.1 _ (mm_in2 (mm_init_ok _ ho12) rfl)
  have hM := mm_met hSP ht hlen hrun hwf
  have hFB : FrameBlind (fun v U => v = (y.1.map (mm_tv (mm_ad base E))).toArray ∧ (∀ a', mm_cx D cAI cAR E X base a' U) ∧ va_P D vwCl (mm_wl cAI cAR (mm_ad base E) w) U.heap ∧ U.heap.size = base + w.1.length) := fun a U g mk h => ⟨h.1, fun a' => (h.2.1 a').call g mk a a', h.2.2.1, h.2.2.2⟩
  have hpre : ∀ U : State, U.heap = H → s.WarmedH U.vm → (∀ a', mm_cx D cAI cAR E X base a' U) ∧ va_P D vwCl (mm_wl cAI cAR (mm_ad base E) w) U.heap ∧ U.heap.size = base + w.1.length := fun U hU hW => ⟨fun a' => C.warm hS hU hW a', by rw [hU]; exact hP, by rw [hU]; exact hHz⟩
  have hroom : ({ frames := d + 1, cells := w1.1.length - w.1.length, slots := mm_sz w1.1 - mm_sz w.1, locals := 64 * (d + 1) } : Room).frames + 1 ≤ R.frames ∧ 8 + (t.1.2.2.2.1 + 11) + ({ frames := d + 1, cells := w1.1.length - w.1.length, slots := mm_sz w1.1 - mm_sz w.1, locals := 64 * (d + 1) } : Room).locals ≤ R.locals := ⟨by show d + 1 + 1 ≤ _; omega, by show 8 + (t.1.2.2.2.1 + 11) + 64 * (d + 1) ≤ _; omega⟩
  have S0 : CallFix p m c cc nL s args lw_t2 (mm_nm o) := ⟨hx, hb, hml, hown, C.1⟩
  have kk' : ∀ (H1 : Heap) (locs1 : List Loc), va_P D vwCl (mm_wl cAI cAR (mm_ad base E) w1) H1 → va_S (fun q => base ≤ q) s.heap H1 locs1 → W p l e R s m args below meth c H1 locs1 (cells + (w1.1.length - w.1.length)) (slots + (mm_sz w1.1 - mm_sz w.1)) Q (F0 m (pc + 3) ls ((r.map (mm_tv (mm_ad base E))).toList ++ y.2.map (mm_tv (mm_ad base E)))) := by
    intro H1 locs1 g1 g2
    have := kk H1 locs1 g1 g2
    rw [List.map_append] at this
    cases r <;> exact this
  have hSS : ∀ b', b' ≤ S.length → S = (S.take b').reverse.reverse ++ S.drop b' := fun b' _ => by rw [List.reverse_reverse, List.take_append_drop]
  cases q with
  | invokestatic idx =>
    simp only [mm_lkb] at hlkb
    simp only [mm_inv] at hinv
    split at hinv <;> first | cases hinv; done | skip
    rename_i hc
    cases hinv
    rw [if_pos hc.1] at hlkb
    simp only [decide_eq_true_eq] at hlkb
    have hw := mm_in_m _ hlkb
    simp only [Bool.and_eq_true, decide_eq_true_eq] at hcal
    have hst : (Cond.static t.1.2.1).before args s = true := by
      have := mm_in_kind t hza
      rw [if_pos hcal.1] at this
      exact C.1 _ (mm_in2 this rfl)
    have hlenA : ((S.take b).reverse.map (mm_tv (mm_ad base E))).length = b := by simp; omega
    have hstk : S.map (mm_tv (mm_ad base E)) = ((S.take b).reverse.map (mm_tv (mm_ad base E))).reverse ++ (S.drop b).map (mm_tv (mm_ad base E)) := by
      rw [← List.map_reverse, ← List.map_append, ← hSS b hc.2.1]
    have hrm := lv_room (m := m) (pc := pc) (ls := ls) (rest := S.map (mm_tv (mm_ad base E))) (st := (S.drop b).map (mm_tv (mm_ad base E))) (by rw [mm_tv_sum]; exact hc.2.2)
    have hdm : t.1.2.1.cls ≠ "java/lang/invoke/MethodHandle" ∧ t.1.2.1.cls ≠ "java/lang/invoke/VarHandle" ∧ (parseMethodDescriptor t.1.2.1.desc).map (fun d => d.parameters.length) = some b := ⟨k7, k8, hcal.2⟩
    unfold mm_wm at hw
    split at hw
    · rw [hy] at hw
      exact mm_callk (va_runSN (As := (S.take b).reverse.map (mm_tv (mm_ad base E))) (rest := (S.drop b).map (mm_tv (mm_ad base E))) S0 hM ⟨va_cnB b C.1 hG rfl rfl rfl (va_Nw.of rfl (C.1 _ (mm_in2 hw rfl))) hini hdm hroom, hst, trivial⟩ ⟨hFB, fun U hU hW => ⟨rfl, hpre U hU hW⟩⟩ rfl hlenA hls hstk hrm hd hR) hS kk'
    · rw [hy] at hw
      exact mm_callk (va_runS (As := (S.take b).reverse.map (mm_tv (mm_ad base E))) (rest := (S.drop b).map (mm_tv (mm_ad base E))) S0 hM ⟨callB_of b C.1 hG rfl rfl rfl hini (C.1 _ (mm_in2 hw rfl)) hdm hroom, hst⟩ ⟨hFB, fun U hU hW => ⟨rfl, hpre U hU hW⟩⟩ rfl hlenA hls hstk hrm hd hR) hS kk'
  | invokespecial idx =>
    simp only [mm_lkb] at hlkb
    simp only [mm_inv] at hinv
    split at hinv <;> first | cases hinv; done | skip
    rename_i hc
    split at hinv <;> first | cases hinv; done | skip
    rename_i k rr hks
    cases hinv
    rw [if_pos hc.1] at hlkb
    simp only [decide_eq_true_eq] at hlkb
    have hw := mm_in_m _ hlkb
    simp only [Bool.and_eq_true, decide_eq_true_eq, Bool.not_eq_true'] at hcal
    obtain ⟨⟨⟨c1, c2⟩, c3⟩, c4⟩ := hcal
    have hins : (Cond.instanceMethod t.1.2.1).before args s = true := by
      have := mm_in_kind t hza
      rw [if_neg (by rw [c1]; decide)] at this
      exact C.1 _ (mm_in2 this rfl)
    have hlen1 : rr.length + 1 = b := by
      have := congrArg List.length hks
      simp at this
      omega
    have hlenA : (rr.map (mm_tv (mm_ad base E))).length = b - 1 := by simp; omega
    have hS2 : S = rr.reverse ++ Value.ref k :: S.drop b := by
      have h1 := hSS b hc.2.1
      rw [hks] at h1
      simpa using h1
    have hstk : S.map (mm_tv (mm_ad base E)) = (rr.map (mm_tv (mm_ad base E))).reverse ++ Value.ref (mm_ad base E k) :: (S.drop b).map (mm_tv (mm_ad base E)) := by
      conv => lhs; rw [hS2]
      rw [List.map_append, List.map_reverse]
      rfl
    have hrm := lv_room (m := m) (pc := pc) (ls := ls) (rest := S.map (mm_tv (mm_ad base E))) (st := (S.drop b).map (mm_tv (mm_ad base E))) (by rw [mm_tv_sum]; exact hc.2.2)
    have hpar : (parseMethodDescriptor t.1.2.1.desc).map (fun d => d.parameters.length) = some (b - 1) := by
      cases hp : parseMethodDescriptor t.1.2.1.desc with
      | none => rw [hp] at c4; cases c4
      | some sig => rw [hp] at c4; simp at c4; simp; omega
    have hdm : t.1.2.1.cls ≠ "java/lang/invoke/MethodHandle" ∧ t.1.2.1.cls ≠ "java/lang/invoke/VarHandle" ∧ (parseMethodDescriptor t.1.2.1.desc).map (fun d => d.parameters.length) = some (b - 1) := ⟨k7, k8, hpar⟩
    rw [c3] at hM hG
    unfold mm_wm at hw
    split at hw
    · rw [hy] at hw
      exact mm_callk (va_runIN (b := mm_ad base E k) (As := rr.map (mm_tv (mm_ad base E))) (rest := (S.drop b).map (mm_tv (mm_ad base E))) S0 hM ⟨va_cnB (b - 1) C.1 hG rfl rfl rfl (va_Nw.of rfl (C.1 _ (mm_in2 hw rfl))) hini hdm hroom, k5 c2, hins⟩ ⟨hFB, fun U hU hW => ⟨rfl, hpre U hU hW⟩⟩ rfl hlenA hls hstk hrm hd hR) hS kk'
    · rw [hy] at hw
      exact mm_callk (va_runI (b := mm_ad base E k) (As := rr.map (mm_tv (mm_ad base E))) (rest := (S.drop b).map (mm_tv (mm_ad base E))) S0 hM ⟨callB_of (b - 1) C.1 hG rfl rfl rfl hini (C.1 _ (mm_in2 hw rfl)) hdm hroom, k5 c2, hins⟩ ⟨hFB, fun U hU hW => ⟨rfl, hpre U hU hW⟩⟩ rfl hlenA hls hstk hrm hd hR) hS kk'
  | invokevirtual idx =>
    simp only [mm_lkb, decide_eq_true_eq] at hlkb
    simp only [mm_inv] at hinv
    split at hinv <;> first | cases hinv; done | skip
    rename_i hc
    split at hinv <;> first | cases hinv; done | skip
    rename_i k rr hks
    split at hinv <;> first | cases hinv; done | skip
    rename_i hko
    cases hinv
    have hw := mm_in_m _ hlkb
    simp only [Bool.and_eq_true, decide_eq_true_eq, Bool.not_eq_true'] at hcal
    obtain ⟨⟨c1, c2⟩, c4⟩ := hcal
    have hins : (Cond.instanceMethod t.1.2.1).before args s = true := by
      have := mm_in_kind t hza
      rw [if_neg (by rw [c1]; decide)] at this
      exact C.1 _ (mm_in2 this rfl)
    have hsel : (Cond.selects (mm_nm t.1.1) t.1.2.1 t.1.2.1).before args s = true := by
      have := mm_in_sel t (List.mem_filter.mpr ⟨hza, by rw [c1, c2]; rfl⟩)
      rw [k4] at this
      exact C.1 _ (mm_in2 this rfl)
    have hlen1 : rr.length + 1 = b := by
      have := congrArg List.length hks
      simp at this
      omega
    have hlenA : (rr.map (mm_tv (mm_ad base E))).length = b - 1 := by simp; omega
    have hS2 : S = rr.reverse ++ Value.ref k :: S.drop b := by
      have h1 := hSS b hc.2.1
      rw [hks] at h1
      simpa using h1
    have hstk : S.map (mm_tv (mm_ad base E)) = (rr.map (mm_tv (mm_ad base E))).reverse ++ Value.ref (mm_ad base E k) :: (S.drop b).map (mm_tv (mm_ad base E)) := by
      conv => lhs; rw [hS2]
      rw [List.map_append, List.map_reverse]
      rfl
    have hrm := lv_room (m := m) (pc := pc) (ls := ls) (rest := S.map (mm_tv (mm_ad base E))) (st := (S.drop b).map (mm_tv (mm_ad base E))) (by rw [mm_tv_sum]; exact hc.2.2)
    have hpar : (parseMethodDescriptor t.1.2.1.desc).map (fun d => d.parameters.length) = some (b - 1) := by
      cases hp : parseMethodDescriptor t.1.2.1.desc with
      | none => rw [hp] at c4; cases c4
      | some sig => rw [hp] at c4; simp at c4; simp; omega
    have hdm : t.1.2.1.cls ≠ "java/lang/invoke/MethodHandle" ∧ t.1.2.1.cls ≠ "java/lang/invoke/VarHandle" ∧ (parseMethodDescriptor t.1.2.1.desc).map (fun d => d.parameters.length) = some (b - 1) := ⟨k7, k8, hpar⟩
    rw [hrk] at hko
    have hrecv := va_recv C.2.1 hP (mm_class ho12).1 (mm_wl_at hko.1)
    unfold mm_wm at hw
    split at hw
    · rw [hy] at hw
      exact mm_callk (va_runVN (C := mm_nm t.1.1) (b := mm_ad base E k) (As := rr.map (mm_tv (mm_ad base E))) (rest := (S.drop b).map (mm_tv (mm_ad base E))) S0 hM ⟨va_cnB (b - 1) C.1 hG rfl rfl rfl (va_Nw.of rfl (C.1 _ (mm_in2 hw rfl))) hini hdm hroom, hins, hsel⟩ ⟨hFB, hrecv, fun U hU hW => ⟨rfl, hpre U hU hW⟩⟩ rfl hlenA hls hstk hrm hd hR) hS kk'
    · rw [hy] at hw
      exact mm_callk (va_runV (C := mm_nm t.1.1) (b := mm_ad base E k) (As := rr.map (mm_tv (mm_ad base E))) (rest := (S.drop b).map (mm_tv (mm_ad base E))) S0 hM ⟨callB_of (b - 1) C.1 hG rfl rfl rfl hini (C.1 _ (mm_in2 hw rfl)) hdm hroom, hins, hsel⟩ ⟨hFB, hrecv, fun U hU hW => ⟨rfl, hpre U hU hW⟩⟩ rfl hlenA hls hstk hrm hd hR) hS kk'
  | _ => simp [mm_kd] at hkd
end STEP
