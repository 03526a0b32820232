set_option maxHeartbeats 4000000 in
theorem mm_heap_sh {X : mm_X} {q : Instr} {a b : Nat} {S : List Value} {w : mm_W} {z : List Value × mm_W} (h : mm_heap X q a b S w = some z) : z.2.1 = w.1 ∨ ∃ sh, z.2.1 = w.1 ++ [sh] ∧ w.1.length < 1000 ∧ ∀ cn, sh = Sum.inr (Sum.inl cn) → ∃ i, q = .anewarray i ∧ cn.1 = a := by
  cases q with
  | getfield i => simp only [mm_heap] at h; (repeat' split at h) <;> first | (cases h; done) | (cases h; exact Or.inl rfl)
  | putfield i => simp only [mm_heap] at h; (repeat' split at h) <;> first | (cases h; done) | (cases h; exact Or.inl rfl)
  | iaload => simp only [mm_heap] at h; (repeat' split at h) <;> first | (cases h; done) | (cases h; exact Or.inl rfl)
  | iastore => simp only [mm_heap] at h; (repeat' split at h) <;> first | (cases h; done) | (cases h; exact Or.inl rfl)
  | arraylength => simp only [mm_heap] at h; (repeat' split at h) <;> first | (cases h; done) | (cases h; exact Or.inl rfl)
  | aaload => simp only [mm_heap] at h; (repeat' split at h) <;> first | (cases h; done) | (cases h; exact Or.inl rfl)
  | aastore => simp only [mm_heap] at h; (repeat' split at h) <;> first | (cases h; done) | (cases h; exact Or.inl rfl)
  | newarray t => cases t <;> first | (simp [mm_heap] at h; done) | skip
                  simp only [mm_heap] at h
                  split at h <;> first | cases h; done | skip
                  split at h <;> first | cases h; done | skip
                  rename_i hc
                  cases h
                  exact Or.inr ⟨_, rfl, hc.2.2, fun cn e => by cases e⟩
  | anewarray i => simp only [mm_heap] at h
                   split at h <;> first | cases h; done | skip
                   split at h <;> first | cases h; done | skip
                   rename_i hc
                   cases h
                   exact Or.inr ⟨_, rfl, hc.2.2, fun cn e => by cases e; exact ⟨i, rfl, rfl⟩⟩
  | new i => simp only [mm_heap] at h
             split at h <;> first | cases h; done | skip
             rename_i hc
             cases h
             exact Or.inr ⟨_, rfl, hc, fun cn e => by cases e⟩
  | getstatic i => cases h; exact Or.inl rfl
  | invokestatic i => simp only [mm_heap] at h; (repeat' split at h) <;> first | (cases h; done) | (cases h; exact Or.inl rfl)
  | invokespecial i => simp only [mm_heap] at h; (repeat' split at h) <;> first | (cases h; done) | (cases h; exact Or.inl rfl)
  | _ => simp [mm_heap] at h
theorem mm_heap_wf {X : mm_X} {o : Nat} {ini : Bool} {q : Instr} {a b : Nat} {S : List Value} {w : mm_W} {z : List Value × mm_W} (hw : mm_wfw w) (hlk : mm_lk o ini q a b) (h : mm_heap X q a b S w = some z) : mm_wfw z.2 := by
  rcases mm_heap_sh h with e | ⟨sh, e, hl, hs⟩
  · unfold mm_wfw
    rw [e]
    exact hw
  · refine ⟨by rw [e]; simp; omega, fun k cn hk => ?_⟩
    rw [e] at hk
    by_cases hkl : k < w.1.length
    · rw [List.getElem?_append_left hkl] at hk
      exact hw.2 k cn hk
    · rw [List.getElem?_append_right (by omega)] at hk
      have hlt : k - w.1.length < 1 := by have := (List.getElem?_eq_some_iff.mp hk).1; simpa using this
      rw [show k - w.1.length = 0 by omega] at hk
      obtain ⟨i, rfl, rfl⟩ := hs cn (Option.some.inj hk)
      exact hlk.1
theorem mm_tab_ok {a : Nat} {M : mm_M} (h : mm_tab a = some M) : ∃ t ∈ mm_zl, t.2 = M := by
  unfold mm_tab at h
  obtain ⟨t, h1, h2⟩ := Option.map_eq_some_iff.mp h
  exact ⟨t, List.mem_of_getElem? h1, h2⟩
theorem mm_run_wf {X : mm_X} : ∀ (n d : Nat) (M : mm_M) (c : mm_C) (z : Option Value × mm_W), mm_run X mm_rk mm_sw mm_tab n d M c = some z → (∃ t ∈ mm_zl, t.2 = M) → mm_wfw c.2.2.2 → mm_wfw z.2
  | 0, d, M, c, z, h, _, _ => by simp [mm_run] at h
  | n + 1, d, M, c, z, h, hM, hw => by
    obtain ⟨i, hi⟩ := mm_run_fetch h
    obtain ⟨y, hy, hz⟩ := mm_run_inv hi h
    obtain ⟨t, ht, rfl⟩ := id hM
    obtain ⟨-, -, -, -, -, -, -, -, -, kok⟩ := mm_okH_of ht
    have hok := kok i (List.mem_of_getElem? hi)
    simp only [mm_okI, Bool.and_eq_true, decide_eq_true_eq] at hok
    rcases mm_step_inv hy with ⟨-, S', -, e⟩ | ⟨-, S', -, e⟩ | ⟨-, S', -, e⟩ | ⟨-, S', h1, e⟩ | ⟨-, S', -, e⟩ | ⟨-, S', -, e⟩ | ⟨-, S', -, e⟩ <;> subst e <;> rcases hz with ⟨c', e, hr⟩ | e | ⟨u, d', M', x, e, -, hT, -, hr1, hr2⟩ <;> first | (cases e; done) | skip
    · cases e; exact mm_run_wf n d _ _ z hr hM hw
    · cases e; exact mm_run_wf n d _ _ z hr hM hw
    · cases e; exact mm_run_wf n d _ _ z hr hM hw
    · cases e; exact mm_run_wf n d _ _ z hr hM (mm_heap_wf hw (mm_lk_of hok.1.2) h1)
    · cases e
      exact mm_run_wf n (d' + 1) _ _ z hr2 hM (mm_run_wf n d' M' _ x hr1 (mm_tab_ok hT) hw)
    · cases e; exact hw
    · cases e; exact mm_run_wf n d _ _ z hr hM hw
section SP
variable {l : Launch} {X : mm_X} {D : va_G} {cAI : ClassId} {cAR : Nat → ClassId} {E : Nat → Nat} {base n : Nat}
variable {p : Program} {e : Env} {R : Room} {s : State} {m : MethodId} {args : Array Value} {below : List Frame} {meth : Method} {c : Code} {H : Heap} {locs : List Loc} {ls : Array Slot} {Q : State → Prop} {cells slots : Nat}
set_option maxHeartbeats 4000000 in
theorem so_heap {o : Nat} {ini : Bool} {cc : ByteArray} {pc a b len : Nat} {q : Instr} {S : List Value} {w : mm_W} {z : List Value × mm_W} (hx : p.tables.exec = Jvm.exec) (hb : c.code = cc) (hml : c.maxLocals = ls.size) (hini : ini = true → meth.name = "<init>") (hown : s.vm.findClass (mm_nm o) = some m.cls) (C : mm_cx D cAI cAR E X base args s) (hlk : mm_lk o ini q a b) (hn : mm_ln q = len) (hd : decode cc pc = .ok (q, len)) (hwf : mm_wfw w) (hP : va_P D vwCl (mm_wl cAI cAR (mm_ad base E) w) H) (hS : va_S (fun q => base ≤ q) s.heap H locs)
    (hsz : s.heap.size + cells = base + w.1.length) (hR : cells + (z.2.1.length - w.1.length) ≤ R.cells ∧ slots + (mm_sz z.2.1 - mm_sz w.1) ≤ R.slots) (hfr : 1 ≤ R.frames) (hlo : 64 ≤ R.locals) (h : mm_heap X q a b S w = some z)
    (kk : ∀ (H1 : Heap) (locs1 : List Loc), va_P D vwCl (mm_wl cAI cAR (mm_ad base E) z.2) H1 → va_S (fun q => base ≤ q) s.heap H1 locs1 → W p l e R s m args below meth c H1 locs1 (cells + (z.2.1.length - w.1.length)) (slots + (mm_sz z.2.1 - mm_sz w.1)) Q (F0 m (pc + len) ls (z.1.map (mm_tv (mm_ad base E))))) : W p l e R s m args below meth c H locs cells slots Q (F0 m pc ls (S.map (mm_tv (mm_ad base E)))) := by
  subst hn
  have kr : z.2 = w → W p l e R s m args below meth c H locs cells slots Q (F0 m (pc + mm_ln q) ls (z.1.map (mm_tv (mm_ad base E)))) := fun hz => by
    have := kk H locs (by rw [hz]; exact hP) hS
    rw [hz] at this
    simp only [Nat.sub_self, Nat.add_zero] at this
    exact this
  have kw : z.2.1 = w.1 → ∀ (H1 : Heap) (locs1 : List Loc), va_P D vwCl (mm_wl cAI cAR (mm_ad base E) z.2) H1 → va_S (fun q => base ≤ q) s.heap H1 locs1 → W p l e R s m args below meth c H1 locs1 cells slots Q (F0 m (pc + mm_ln q) ls (z.1.map (mm_tv (mm_ad base E)))) := fun hz H1 locs1 g1 g2 => by
    have := kk H1 locs1 g1 g2
    rw [hz] at this
    simp only [Nat.sub_self, Nat.add_zero] at this
    exact this
  cases q with
  | getfield i => exact so_get hx hb hown C hlk hd hP h kr
  | putfield i => exact so_put hx hb hini hown C hlk hd hwf.1 hP hS h kw
  | iaload => exact so_iald hx hb C hd hP hS h kr
  | iastore => exact so_iast hx hb C hd hwf.1 hP hS h kw
  | arraylength => exact so_alen hx hb C hd hP hS h kr
  | aaload => exact so_aald hx hb C hd hwf.2 hP h kr
  | aastore => exact so_aast hx hb C hd hwf.1 hwf.2 hP hS h kw
  | newarray t => have ht : t = .int := hlk
                  subst ht
                  exact so_newa hx hb C hd hwf.1 hP hS hsz hR h kk
  | anewarray i => exact so_anew hx hb hown C hlk hd hwf.1 hP hS hsz hR h kk
  | new i => exact so_new hx hb hown C hlk hd hwf.1 hP hS hsz hR h kk
  | getstatic i => exact so_gets hx hb hown C hlk hd hS h kr
  | invokestatic i => exact so_stat hx hb hml hown C hlk hd hwf.1 hP hS ⟨by omega, by omega⟩ hfr hlo h kw
  | invokespecial i => exact so_spec hx hb hml hown C hlk hd hfr hlo h kr
  | _ => simp [mm_heap] at h
theorem mm_kd2 {q : Instr} {a : Nat} (h : mm_kd q a = 2) : ∃ off, q = .goto off ∨ (∃ k, q = .ifCond k off) ∨ ∃ k, q = .if_icmp k off := by
  cases q <;> first | exact ⟨_, Or.inl rfl⟩ | exact ⟨_, Or.inr (Or.inl ⟨_, rfl⟩)⟩ | exact ⟨_, Or.inr (Or.inr ⟨_, rfl⟩)⟩ | (simp [mm_kd] at h; done) | (simp only [mm_kd] at h; split at h <;> omega)
theorem mm_kd5 {q : Instr} {a : Nat} (h : mm_kd q a = 5) : mm_ln q = 1 := by
  cases q <;> first | rfl | (simp [mm_kd] at h; done) | (simp only [mm_kd] at h; split at h <;> omega)
theorem mm_kd4 {q : Instr} {a : Nat} (h : mm_kd q a = 4) : mm_ln q = 3 := by
  cases q <;> first | rfl | (simp [mm_kd] at h; done)
set_option maxHeartbeats 8000000 in
theorem mm_SP_succ (hSP : mm_SP l X D cAI cAR E base n) : mm_SP l X D cAI cAR E base (n + 1) := by
  intro d k t cf r w' hk hrun p e R s m args below meth c H locs ls Q len0 sz0 hx hb hml hown hini C hwf hP hS hl hL h0 hle hsle hRc hRs hfr hlo hret i hi
  obtain ⟨k1, k2, k3, k4, k5, k6, k7, k8, k9, kok⟩ := mm_okH_of (List.mem_of_getElem? hk)
  have hok := kok i (List.mem_of_getElem? hi)
  simp only [mm_okI, Bool.and_eq_true, decide_eq_true_eq] at hok
  obtain ⟨⟨hdec, hlkb⟩, hkk⟩ := hok
  obtain ⟨y, hy, hz⟩ := mm_run_inv hi hrun
  rcases mm_step_inv hy with ⟨hkd, S', hp, rfl⟩ | ⟨hkd, z, hp, rfl⟩ | ⟨hkd, z, hp, rfl⟩ | ⟨hkd, z, hp, rfl⟩ | ⟨hkd, z, hp, rfl⟩ | ⟨hkd, v, hp, rfl⟩ | ⟨hkd, z, hp, rfl⟩ <;> rcases hz with ⟨c', ez, hr⟩ | ez | ⟨u, d', M', x, ez, hdd, htab, hlen, hr1, hr2⟩ <;> first | (cases ez; done) | skip
  · cases ez
    rw [hkd] at hkk
    simp only [Bool.and_eq_true, decide_eq_true_eq] at hkk
    obtain ⟨i', hi'⟩ := mm_run_fetch hr
    have hpc := mm_pcAt_of hkk.2 hi'
    refine so_pure hx hb hown (mm_cst_of hlkb C.1) hkk.1 hdec hp ?_
    rw [show i.2.2.2.2.1 + i.2.2.2.2.2 = i'.2.2.2.2.1 by omega]
    exact hSP d k t _ r w' hk hr p e R s m args below meth c H locs ls Q len0 sz0 hx hb hml hown hini C hwf hP hS hl hL h0 hle hsle hRc hRs hfr hlo hret i' hi'
  · cases ez
    rw [hkd] at hkk
    simp only [Bool.and_eq_true, decide_eq_true_eq] at hkk
    obtain ⟨i', hi'⟩ := mm_run_fetch hr
    have hpc := mm_pcAt_of hkk.2 hi'
    refine so_loc hx hb hl hkk.1 hdec hp (fun ls' hl' => ?_)
    rw [show i.2.2.2.2.1 + i.2.2.2.2.2 = i'.2.2.2.2.1 by omega]
    have hL' : z.1.length = cf.2.1.length := by
      have h1 : ∀ {L L' : mm_L} {j : Nat} {v : Value}, mm_st L j v = some L' → L'.length = L.length := fun {L L' j v} h => by
        rcases lv_cat v with hc | hc
        · exact (mm_st_1 hc h).2.1
        · exact (mm_st_2 hc h).2.1
      generalize i.1 = q at hp
      cases q <;> first | (simp [mm_loc] at hp; done) | (simp only [mm_loc] at hp; split at hp <;> first | (cases hp; rfl) | (obtain ⟨L', g1, g2⟩ := Option.map_eq_some_iff.mp hp; subst g2; exact h1 g1) | (cases hp; done))
    exact hSP d k t _ r w' hk hr p e R s m args below meth c H locs ls' Q len0 sz0 hx hb hml hown hini C hwf hP hS hl' (hL'.trans hL) h0 hle hsle hRc hRs hfr hlo hret i' hi'
  · cases ez
    rw [hkd] at hkk
    simp only [Bool.and_eq_true, decide_eq_true_eq] at hkk
    obtain ⟨i', hi'⟩ := mm_run_fetch hr
    obtain ⟨off, ho⟩ := mm_kd2 hkd
    have go : W p l e R s m args below meth c H locs (cf.2.2.2.1.length - len0) (mm_sz cf.2.2.2.1 - sz0) Q (F0 m i'.2.2.2.2.1 ls (z.2.map (mm_tv (mm_ad base E)))) := hSP d k t _ r w' hk hr p e R s m args below meth c H locs ls Q len0 sz0 hx hb hml hown hini C hwf hP hS hl hL h0 hle hsle hRc hRs hfr hlo hret i' hi'
    have two : ∀ pa : Nat, mm_pcAt t.2.2.2 i.2.1 ((i.2.2.2.2.1 : Int) + off) = true → (i.2.2.2.2.1 : Int) + off = (pa : Int) → mm_pcAt t.2.2.2 i.2.2.2.1 ((i.2.2.2.2.1 : Int) + i.2.2.2.2.2) = true → ∀ pz : Nat, (z.1 = i.2.1 ∧ pz = pa ∨ z.1 = i.2.2.2.1 ∧ pz = i.2.2.2.2.1 + i.2.2.2.2.2) → W p l e R s m args below meth c H locs (cf.2.2.2.1.length - len0) (mm_sz cf.2.2.2.1 - sz0) Q (F0 m pz ls (z.2.map (mm_tv (mm_ad base E)))) := by
      intro pa g1 g2 g3 pz hpz
      have e : pz = i'.2.2.2.2.1 := by
        rcases hpz with ⟨h1, rfl⟩ | ⟨h1, rfl⟩
        · have := mm_pcAt_of g1 (by rw [← h1]; exact hi')
          omega
        · have := mm_pcAt_of g3 (by rw [← h1]; exact hi')
          omega
      rw [e]
      exact go
    have tgt : mm_pcAt t.2.2.2 i.2.1 ((i.2.2.2.2.1 : Int) + off) = true → ∃ pa : Nat, (i.2.2.2.2.1 : Int) + off = (pa : Int) := fun h => by
      unfold mm_pcAt at h
      split at h
      · rename_i j hj
        exact ⟨j.2.2.2.2.1, by simpa using (of_decide_eq_true h).symm⟩
      · cases h
    rcases ho with hq | ⟨kc, hq⟩ | ⟨kc, hq⟩
    · rw [hq] at hkk hp hdec
      dsimp only at hkk
      have hlen3 : i.2.2.2.2.2 = 3 := hkk.1.symm
      rw [hlen3] at hdec
      cases hp
      exact lv_goto hx hb hdec (mm_pcAt_of hkk.2 hi').symm go
    · rw [hq] at hkk
      simp only [Bool.and_eq_true] at hkk
      obtain ⟨pa, hpa⟩ := tgt hkk.2.1
      exact so_br hx hb (Or.inr (Or.inl ⟨kc, hq⟩)) (by rw [hq]; exact hkk.1) hdec hpa (pn := i.2.2.2.2.1 + i.2.2.2.2.2) rfl hp (two pa hkk.2.1 hpa hkk.2.2)
    · rw [hq] at hkk
      simp only [Bool.and_eq_true] at hkk
      obtain ⟨pa, hpa⟩ := tgt hkk.2.1
      exact so_br hx hb (Or.inr (Or.inr ⟨kc, hq⟩)) (by rw [hq]; exact hkk.1) hdec hpa (pn := i.2.2.2.2.1 + i.2.2.2.2.2) rfl hp (two pa hkk.2.1 hpa hkk.2.2)
  · cases ez
    rw [hkd] at hkk
    simp only [Bool.and_eq_true, decide_eq_true_eq] at hkk
    obtain ⟨i', hi'⟩ := mm_run_fetch hr
    have hpc := mm_pcAt_of hkk.2 hi'
    have hmono := mm_heap_mono hp
    obtain ⟨t1, e1⟩ := hmono
    obtain ⟨t2, e2⟩ := mm_run_mono _ _ _ _ _ hr
    have g1 := mm_app_le e1
    have g2 : z.2.1.length ≤ w'.1.length ∧ mm_sz z.2.1 ≤ mm_sz w'.1 := mm_app_le e2
    refine so_heap hx hb (hml.trans (hL.symm.trans hl.1.symm)) hini hown C (mm_lk_of hlkb) hkk.1 hdec hwf hP hS (by omega) ⟨by omega, by omega⟩ (by omega) (by omega) hp (fun H1 locs1 f1 f2 => ?_)
    rw [show i.2.2.2.2.1 + i.2.2.2.2.2 = i'.2.2.2.2.1 by omega, show cf.2.2.2.1.length - len0 + (z.2.1.length - cf.2.2.2.1.length) = z.2.1.length - len0 by omega, show mm_sz cf.2.2.2.1 - sz0 + (mm_sz z.2.1 - mm_sz cf.2.2.2.1) = mm_sz z.2.1 - sz0 by omega]
    exact hSP d k t _ r w' hk hr p e R s m args below meth c H1 locs1 ls Q len0 sz0 hx hb hml hown hini C (mm_heap_wf hwf (mm_lk_of hlkb) hp) f1 f2 hl hL h0 (by show len0 ≤ z.2.1.length; omega) (by show sz0 ≤ mm_sz z.2.1; omega) hRc hRs hfr hlo hret i' hi'
  · cases ez
    subst hdd
    rw [hkd] at hkk
    simp only [Bool.and_eq_true, decide_eq_true_eq] at hkk
    obtain ⟨⟨g1, g2⟩, g3⟩ := hkk
    have hl3 : i.2.2.2.2.2 = 3 := g1.symm.trans (mm_kd4 hkd)
    obtain ⟨i', hi'⟩ := mm_run_fetch hr2
    have hpc := mm_pcAt_of g2 hi'
    obtain ⟨t1, e1⟩ := mm_run_mono _ _ _ _ _ hr1
    obtain ⟨t2, e2⟩ := mm_run_mono _ _ _ _ _ hr2
    obtain ⟨r1, w1⟩ := x
    have f1 : cf.2.2.2.1.length ≤ w1.1.length ∧ mm_sz cf.2.2.2.1 ≤ mm_sz w1.1 := mm_app_le e1
    have f2 : w1.1.length ≤ w'.1.length ∧ mm_sz w1.1 ≤ mm_sz w'.1 := mm_app_le e2
    rw [hl3] at hdec
    refine mm_call_sound hSP hx hb hml hown C hwf hP hS (hl.1.trans hL) h0 hle rfl hlkb hkd g3 hdec hp htab hlen hr1 (by omega) (by omega) ⟨by omega, by omega⟩ (fun H1 locs1 j1 j2 => ?_)
    rw [show i.2.2.2.2.1 + 3 = i'.2.2.2.2.1 by omega, show cf.2.2.2.1.length - len0 + (w1.1.length - cf.2.2.2.1.length) = w1.1.length - len0 by omega, show mm_sz cf.2.2.2.1 - sz0 + (mm_sz w1.1 - mm_sz cf.2.2.2.1) = mm_sz w1.1 - sz0 by omega]
    exact hSP (d' + 1) k t _ r w' hk hr2 p e R s m args below meth c H1 locs1 ls Q len0 sz0 hx hb hml hown hini C (mm_run_wf _ _ _ _ _ hr1 (mm_tab_ok htab) hwf) j1 j2 hl hL h0 (by show len0 ≤ w1.1.length; omega) (by show sz0 ≤ mm_sz w1.1; omega) hRc hRs hfr hlo hret i' hi'
  · cases ez
    rw [hkd] at hkk
    simp only [decide_eq_true_eq] at hkk
    have hl1 : i.2.2.2.2.2 = 1 := hkk.symm.trans (mm_kd5 hkd)
    rw [hl1] at hdec
    exact hret _ H locs ls i.1 cf.2.2.1 hdec hp hP hS
  · cases ez
    rw [hkd] at hkk
    obtain ⟨i', hi'⟩ := mm_run_fetch hr
    have go : W p l e R s m args below meth c H locs (cf.2.2.2.1.length - len0) (mm_sz cf.2.2.2.1 - sz0) Q (F0 m i'.2.2.2.2.1 ls (z.2.map (mm_tv (mm_ad base E)))) := hSP d k t _ r w' hk hr p e R s m args below meth c H locs ls Q len0 sz0 hx hb hml hown hini C hwf hP hS hl hL h0 hle hsle hRc hRs hfr hlo hret i' hi'
    have hkk' : mm_swc t.2.2.2 i.2.2.2.2.1 i.2.1 i.2.2.1 i.1 = true := by
      unfold mm_swc
      exact hkk
    exact so_swi hx hb hdec hkk' hp hi' go
theorem mm_sound : ∀ n, mm_SP l X D cAI cAR E base n
  | 0 => fun d k t cf r w' _ h => by simp [mm_run] at h
  | n + 1 => mm_SP_succ (mm_sound n)
end SP
