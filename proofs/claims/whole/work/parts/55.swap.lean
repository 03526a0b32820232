/-! ===== two that change ===== -/
/-- how many of the first k are in -/
def cnI (st : Nat → Int32) : Nat → Int32
  | 0 => 0
  | k + 1 => if st k = 0 ∨ st k = 1 then cnI st k + 1 else cnI st k
/-- hours that all stay, the first h hours -/
noncomputable def stP (n nb nf : Nat) (g : tI) : Nat → Int32
  | 0 => 0
  | h + 1 => stP n nb nf g h + cnI (zN g n nb nf (fun _ => 0) (h + 1) 2) n
def gSw (g : tI) (a b : Nat) : tI := mm_u (mm_u g 4 a (g 4 b)) 4 b (g 4 a)
/-- of the pairs before code c: the best, and the fewest hours -/
noncomputable def swP (n nb nf : Nat) (g : tI) : Nat → Int32 × Int32
  | 0 => (-1, stP n nb nf g 30)
  | c + 1 => if c / 8 < c % 8 ∧ c % 8 < n ∧ stP n nb nf (gSw g (c / 8) (c % 8)) 30 < (swP n nb nf g c).2 then (nI c, stP n nb nf (gSw g (c / 8) (c % 8)) 30) else swP n nb nf g c
def swR (p : Int32 × Int32) (w : Int32) : Int32 := if p.1 ≠ -1 then (if w ≠ 0 then (if w ≠ 1 then p.2 else p.1 - p.1 / 8 * 8) else p.1 / 8) else -1
section SWAP
variable {X : mm_X} {d : Nat} {I I' : tI} {J : tJ} {c n ns nb nf : Nat} {g s : tI}
theorem cnI_congr {st st' : Nat → Int32} : ∀ n, (∀ k, k < n → st k = st' k) → cnI st n = cnI st' n
  | 0, _ => rfl
  | n + 1, h => by rw [cnI, cnI, cnI_congr n (fun k hk => h k (by omega)), h n (by omega)]
theorem vMany_eq : ∀ n, vMany c I n = cnI (I (c + 2)) n
  | 0 => rfl
  | n + 1 => by rw [vMany, cnI, vMany_eq n]
theorem sp_howManyZ {P : Int32 → tI → tJ → Prop} (hc : c ∈ mm_crs) (hs : Sg I g n ns nb nf) (hcs : Cs c n I s) (hP : P (cnI (s 2) n) I J) : EI X (d + 1) n_X0_howManyIn [.ref c] I J P := by
  refine sp_howMany hc hs.2.1.1 ?_
  rw [vMany_eq, cnI_congr n (fun k hk => (hcs.2.1 k hk).2.1)]
  exact hP
theorem sp_stayOfAll {P : Int32 → tI → tJ → Prop} (hs : Sg I g n ns nb nf) (hP : ∀ I', FC 23 I I' → P (stP n nb nf g 30) I' J) : EI X (d + 3) n_X4_stayOfAll [.ref 31] I J P := by
  refine vc_X4_stayOfAll (sp_beginZ c23 hs (fun I1 f1 c1 => ?_))
  have key : ∀ m, m ≤ 30 → ∀ I2 : tI, FC 23 I I2 → Cs 23 n I2 (zN g n nb nf (fun _ => 0) m) → Er X (d + 3) M_X4_stayOfAll 7 [some (.ref 31), some (.int (stP n nb nf g m)), some (.int (nI m))] [] I2 J (qI P) := by
    refine up_loop ?_ ?_
    · intro I2 f2 c2
      exact vc_X4_stayOfAll_7 ⟨fun _ => hP I2 f2, fun hh => absurd (by decide) hh⟩
    · intro m hm ih I2 f2 c2
      have s2 := hs.fc (by omega) f2
      refine vc_X4_stayOfAll_7 ⟨fun hh => (le30 hm hh).elim, fun _ => ?_⟩
      refine sp_untilZ c23 s2 c2 (fun I3 f3 c3 => ?_)
      refine sp_fromZ (m := 0) c23 (s2.fc (by omega) f3) c3 (by omega) (fun I4 f4 c4 => ?_)
      have c4 : Cs 23 n I4 (zN g n nb nf (fun _ => 0) (m + 1)) := c4
      refine sp_howManyZ c23 ((s2.fc (by omega) f3).fc (by omega) f4) c4 (fun y hy => ?_)
      rw [hy, nI_1]
      exact ih I4 ((f2.tr f3).tr f4) c4
  exact key 0 (Nat.zero_le _) I1 f1 c1
theorem u_sw (f : tI) (k a b : Nat) (hab : a ≠ b) : mm_u (mm_u (mm_u (mm_u f k a (f k b)) k b (f k a)) k a (f k a)) k b (f k b) = f := by
  funext x y
  unfold mm_u
  by_cases e1 : x = k ∧ y = b
  · rw [if_pos e1, e1.1, e1.2]
  · rw [if_neg e1]
    by_cases e2 : x = k ∧ y = a
    · rw [if_pos e2, e2.1, e2.2]
    · rw [if_neg e2, if_neg e1, if_neg e2]
theorem Sg.sw {a b : Nat} (hs : Sg I g n ns nb nf) (ha : a < n) (hb : b < n) : Sg (mm_u (mm_u I 6 a (I 6 b)) 6 b (I 6 a)) (gSw g a b) n ns nb nf := by
  obtain ⟨p, p1, p2⟩ := hs.2.1.2.2.2.2.1 a ha
  obtain ⟨q, q1, q2⟩ := hs.2.1.2.2.2.2.1 b hb
  have g4 : g 4 = I 6 := by rw [← hs.1]; rfl
  unfold gSw
  rw [g4, p2, q2]
  exact (hs.slot q1).slot p1
theorem sp_changeSlots {P : tI → tJ → Prop} {a b : Nat} (ha : a < 8) (hb : b < 8) (hP : P (mm_u (mm_u I 6 a (I 6 b)) 6 b (I 6 a)) J) : EV X d n_X4_changeSlots [.ref 31, .int (nI a), .int (nI b)] I J P := by
  have hx := ix_nI (k := a) (n := 8) ha (by omega)
  have hy := ix_nI (k := b) (n := 8) hb (by omega)
  refine vc_X4_changeSlots ?_
  rw [tn_nI (k := a) (by omega), tn_nI (k := b) (by omega)]
  exact ⟨hx, fun y h => ⟨hy, hx, hy, by rw [h]; exact hP⟩⟩
theorem sp_stayIfSwapped {P : Int32 → tI → tJ → Prop} {a b : Nat} (hs : Sg I g n ns nb nf) (ha : a < n) (hb : b < n) (hab : a ≠ b) (hP : ∀ I', FC 23 I I' → P (stP n nb nf (gSw g a b) 30) I' J) : EI X (d + 4) n_X4_stayIfSwapped [.ref 31, .int (nI a), .int (nI b)] I J P := by
  have hn8 := hs.2.1.1.2
  refine vc_X4_stayIfSwapped (sp_changeSlots (by omega) (by omega) (sp_stayOfAll (hs.sw ha hb) (fun I1 f1 => sp_changeSlots (by omega) (by omega) (hP _ (fun x hx => ?_)))))
  by_cases e : x = 6
  · subst e
    have e6 : I1 6 = mm_u (mm_u I 6 a (I 6 b)) 6 b (I 6 a) 6 := f1 6 (by omega)
    funext j
    have va : I1 6 a = I 6 b := by rw [e6, mm_u_j hab, mm_u_s]
    have vb : I1 6 b = I 6 a := by rw [e6, mm_u_s]
    by_cases eb : j = b
    · subst eb; rw [mm_u_s]; exact va
    · rw [mm_u_j eb]
      by_cases ea : j = a
      · subst ea; rw [mm_u_s]; exact vb
      · rw [mm_u_j ea, e6, mm_u_j eb, mm_u_j ea]
  · rw [mm_u_k e, mm_u_k e, f1 x hx, mm_u_k e, mm_u_k e]
theorem swP_skip {a : Nat} : ∀ b, a ≤ b → (∀ c, a ≤ c → c < b → ¬ (c / 8 < c % 8 ∧ c % 8 < n)) → swP n nb nf g b = swP n nb nf g a := by
  intro b hb h
  induction b with
  | zero => rw [show a = 0 by omega]
  | succ b ih =>
    by_cases e : a = b + 1
    · rw [e]
    · rw [swP, if_neg (fun z => h b (by omega) (by omega) ⟨z.1, z.2.1⟩)]
      exact ih (by omega) (fun c h1 h2 => h c h1 (by omega))
theorem dv8 : ∀ c, c < 64 → nI c / 8 = nI (c / 8) := by decide +kernel
theorem md8 : ∀ c, c < 64 → nI c - nI c / 8 * 8 = nI (c % 8) := by decide +kernel
theorem sp_findSwap {P : tI → tJ → Prop} (hs : Sg I g n ns nb nf) (hP : ∀ I', FT I I' → I' 31 4 = swR (swP n nb nf g 64) 0 → I' 31 5 = swR (swP n nb nf g 64) 1 → I' 31 6 = swR (swP n nb nf g 64) 2 → P I' J) : EV X (d + 5) n_X4_findSwap [.ref 31] I J P := by
  have hn8 := hs.2.1.1.2
  have ft0 : FT I (mm_u (mm_u (mm_u I 31 4 (-1)) 31 5 (-1)) 31 6 (-1)) := ((FT.rf.u (by omega) (by omega)).u (by omega) (by omega)).u (by omega) (by omega)
  refine vc_X4_findSwap (sp_stayOfAll (hs.ft ft0) (fun I1 f1 => ?_))
  have outer : ∀ a, a ≤ n → ∀ (o o' : Option Value) (I2 : tI), FT I I2 → I2 31 4 = swR (swP n nb nf g (8 * a)) 0 → I2 31 5 = swR (swP n nb nf g (8 * a)) 1 → I2 31 6 = swR (swP n nb nf g (8 * a)) 2 → Er X (d + 5) M_X4_findSwap 14 [some (.ref 31), some (.int (swP n nb nf g (8 * a)).2), some (.int (nI a)), o, o'] [] I2 J (qV P) := by
    refine up_loop ?_ ?_
    · intro o o' I2 f2 a1 a2 a3
      refine vc_X4_findSwap_14 ⟨fun _ => ?_, fun hh => ?_⟩
      · have e : swP n nb nf g 64 = swP n nb nf g (8 * n) := swP_skip 64 (by omega) (fun c h1 h2 => by omega)
        rw [e] at hP
        exact hP I2 f2 a1 a2 a3
      · rw [f2 2 (by omega), hs.2.1.1.1] at hh; exact absurd (Int32.le_refl _) hh
    · intro a ha ih o o' I2 f2 a1 a2 a3
      have inner : ∀ b, b ≤ n → a + 1 ≤ b → ∀ (o' : Option Value) (I3 : tI), FT I I3 → I3 31 4 = swR (swP n nb nf g (8 * a + b)) 0 → I3 31 5 = swR (swP n nb nf g (8 * a + b)) 1 → I3 31 6 = swR (swP n nb nf g (8 * a + b)) 2 → Er X (d + 5) M_X4_findSwap 23 [some (.ref 31), some (.int (swP n nb nf g (8 * a + b)).2), some (.int (nI a)), some (.int (nI b)), o'] [] I3 J (qV P) := by
        refine up_loop ?_ ?_
        · intro hb o' I3 f3 b1 b2 b3
          have e : swP n nb nf g (8 * (a + 1)) = swP n nb nf g (8 * a + n) := swP_skip _ (by omega) (fun c h1 h2 => by omega)
          rw [e] at ih
          refine vc_X4_findSwap_23 ⟨fun _ => ?_, fun hh => ?_⟩
          · rw [nI_1]; exact ih _ _ I3 f3 b1 b2 b3
          · rw [f3 2 (by omega), hs.2.1.1.1] at hh; exact absurd (Int32.le_refl _) hh
        · intro b hb ih2 hab o' I3 f3 b1 b2 b3
          have s3 := hs.ft f3
          refine vc_X4_findSwap_23 ⟨fun hh => ?_, fun _ => ?_⟩
          · rw [f3 2 (by omega), hs.2.1.1.1, le_nI (by omega) (by omega)] at hh; omega
          refine sp_stayIfSwapped s3 ha hb (by omega) (fun I4 f4 => ?_)
          have ih2 := ih2 (by omega)
          have e8 : swP n nb nf g (8 * a + (b + 1)) = if a < b ∧ b < n ∧ stP n nb nf (gSw g a b) 30 < (swP n nb nf g (8 * a + b)).2 then (nI (8 * a + b), stP n nb nf (gSw g a b) 30) else swP n nb nf g (8 * a + b) := by
            rw [show 8 * a + (b + 1) = (8 * a + b) + 1 by omega, swP, show (8 * a + b) / 8 = a by omega, show (8 * a + b) % 8 = b by omega]
          rw [e8] at ih2
          rw [nI_1]
          have f5 := f3.c f4
          have e31 : I4 31 = I3 31 := f4 31 (by omega)
          refine ⟨fun q => ?_, fun q => ?_⟩
          · rw [if_neg (fun z => Int32.not_le.mpr z.2.2 q)] at ih2
            exact ih2 _ I4 f5 (by rw [e31]; exact b1) (by rw [e31]; exact b2) (by rw [e31]; exact b3)
          · rw [if_pos ⟨by omega, hb, Int32.not_le.mp q⟩] at ih2
            have hne := nI_ne (j := 8 * a + b) (by omega)
            refine ih2 _ _ (((f5.u (by omega) (by omega)).u (by omega) (by omega)).u (by omega) (by omega)) ?_ ?_ ?_
            · rw [mm_u_j (by omega), mm_u_j (by omega), mm_u_s]
              unfold swR
              rw [if_pos hne, if_neg (fun z => z rfl), dv8 _ (by omega), show (8 * a + b) / 8 = a by omega]
            · rw [mm_u_j (by omega), mm_u_s]
              unfold swR
              rw [if_pos hne, if_pos (by decide), if_neg (fun z => z rfl), md8 _ (by omega), show (8 * a + b) % 8 = b by omega]
            · rw [mm_u_s]
              unfold swR
              rw [if_pos hne, if_pos (by decide), if_pos (by decide)]
      refine vc_X4_findSwap_14 ⟨fun hh => ?_, fun _ y hy => ?_⟩
      · rw [f2 2 (by omega), hs.2.1.1.1, le_nI (by omega) (by omega)] at hh; omega
      rw [hy, nI_1]
      have e : swP n nb nf g (8 * a + (a + 1)) = swP n nb nf g (8 * a) := swP_skip _ (by omega) (fun c h1 h2 => by omega)
      rw [← e] at a1 a2 a3 ⊢
      exact inner (a + 1) (by omega) (Nat.le_refl _) o' I2 f2 a1 a2 a3
  refine outer 0 (Nat.zero_le _) none none I1 (ft0.c f1) ?_ ?_ ?_
  · rw [f1 31 (by omega), mm_u_j (by omega), mm_u_j (by omega), mm_u_s]; rfl
  · rw [f1 31 (by omega), mm_u_j (by omega), mm_u_s]; rfl
  · rw [f1 31 (by omega), mm_u_s]; rfl
/-! the reference -/
theorem st_le (mo : Nat → Int32) (m : Nat) {k : Nat} (hk : k < n) : ¬ (2 : Int32) ≤ zN g n nb nf mo m 2 k ↔ (zN g n nb nf mo m 2 k = 0 ∨ zN g n nb nf mo m 2 k = 1) := by
  rw [Int32.not_le]; exact here_lt (un_N mo m) hk
theorem sp_here {P : Int32 → tI → tJ → Prop} {m : Nat} {mo : Nat → Int32} (hn : I 145 9 = nI n ∧ n ≤ 8) (hm : m < 30) (hk : Kp n 30 I (zN g n nb nf mo)) (hP : P (cnI (zN g n nb nf mo (m + 1) 2) n) I J) : EI X d n_X11_here [.ref 145, .int (nI m)] I J P := by
  have hn8 := hn.2
  refine vc_X11_here ?_
  have key : ∀ k, k ≤ n → Er X d M_X11_here 4 [some (.ref 145), some (.int (nI m)), some (.int (cnI (zN g n nb nf mo (m + 1) 2) k)), some (.int (nI k))] [] I J (qI P) := by
    refine up_loop ?_ ?_
    · refine vc_X11_here_4 ⟨fun _ => hP, fun hh => ?_⟩
      rw [hn.1] at hh; exact absurd (Int32.le_refl _) hh
    · intro k hkn ih
      refine vc_X11_here_4 ⟨fun hh => ?_, fun _ => ?_⟩
      · rw [hn.1, le_nI (by omega) (by omega)] at hh; omega
      rw [show (8 : Int32) * nI m = nI (8 * m) from pk_mul 8 m, show nI (8 * m) + nI k = nI (8 * m + k) from nI_add _ _, tn_nI (k := 8 * m + k) (by omega), (hk m k hm hkn).2, nI_1]
      rw [cnI] at ih
      have st := st_le (g := g) (nb := nb) (nf := nf) mo (m + 1) hkn
      refine ⟨ix_nI (by omega) (by omega), fun q y hy => ?_, fun q y hy => ?_⟩
      · rw [if_neg (fun z => st.mpr z q)] at ih
        rw [hy, Int32.add_zero]; exact ih
      · rw [if_pos (st.mp q)] at ih
        rw [hy]; exact ih
  exact key 0 (Nat.zero_le _)
theorem sp_allHere {P : Int32 → tI → tJ → Prop} (hn : I 145 9 = nI n ∧ n ≤ 8) (hk : Kp n 30 I (zN g n nb nf (fun _ => 0))) (hP : P (stP n nb nf g 30) I J) : EI X (d + 1) n_X11_allHere [.ref 145] I J P := by
  refine vc_X11_allHere ?_
  have key : ∀ m, m ≤ 30 → Er X (d + 1) M_X11_allHere 4 [some (.ref 145), some (.int (stP n nb nf g m)), some (.int (nI m))] [] I J (qI P) := by
    refine up_loop ?_ ?_
    · exact vc_X11_allHere_4 ⟨fun _ => hP, fun hh => absurd (by decide) hh⟩
    · intro m hm ih
      refine vc_X11_allHere_4 ⟨fun hh => (le30 hm hh).elim, fun _ => sp_here hn hm hk (fun y hy => ?_)⟩
      rw [hy, nI_1]; exact ih
  exact key 0 (Nat.zero_le _)
theorem sp_changes {P : tI → tJ → Prop} {a b : Nat} (ha : a < 8) (hb : b < 8) (hP : P (mm_u (mm_u I 153 (3 * a + 2) (I 153 (3 * b + 2))) 153 (3 * b + 2) (I 153 (3 * a + 2))) J) : EV X d n_X11_changes [.ref 145, .int (nI a), .int (nI b)] I J P := by
  have hx := ix_nI (k := 3 * a + 2) (n := 24) (by omega) (by omega)
  have hy := ix_nI (k := 3 * b + 2) (n := 24) (by omega) (by omega)
  refine vc_X11_changes ?_
  rw [nI_mul3, nI_mul3, nI_2, nI_2, tn_nI (k := 3 * a + 2) (by omega), tn_nI (k := 3 * b + 2) (by omega)]
  exact ⟨hx, fun y h => ⟨hy, hx, hy, by rw [h]; exact hP⟩⟩
theorem Mg.sw {a b : Nat} (hg : Mg I g n ns nb nf) (ha : a < n) (hb : b < n) : Mg (mm_u (mm_u I 153 (3 * a + 2) (I 153 (3 * b + 2))) 153 (3 * b + 2) (I 153 (3 * a + 2))) (gSw g a b) n ns nb nf := by
  obtain ⟨p, p1, p2⟩ := hg.2.2.2.2.2.2.2.2.2.2.1 a ha
  obtain ⟨q, q1, q2⟩ := hg.2.2.2.2.2.2.2.2.2.2.1 b hb
  unfold gSw
  rw [(hg.2.2.2.2.1 a ha).2.2, (hg.2.2.2.2.1 b hb).2.2, p2, q2]
  exact (hg.slot ha q1).slot hb p1
theorem sp_swapBy {P : Int32 → tI → tJ → Prop} {w : Int32} (hg : Mg I g n ns nb nf) (ho : I 145 26 = 0) (hP : ∀ I', FL I I' → P (swR (swP n nb nf g 64) w) I' J) : EI X (d + 5) n_X11_swapBy [.ref 145, .int w] I J P := by
  have hn8 := hg.1.2
  refine vc_X11_swapBy (sp_lives0 hg ho (fun I1 f1 k1 r1 => sp_allHere (hg.fl f1).1 k1 ?_))
  have key : ∀ c, c ≤ 64 → ∀ (o o' o'' : Option Value) (I2 : tI), FL I I2 → Er X (d + 5) M_X11_swapBy 9 [some (.ref 145), some (.int w), some (.int (swP n nb nf g c).1), some (.int (swP n nb nf g c).2), some (.int (nI c)), o, o', o''] [] I2 J (qI P) := by
    refine up_loop ?_ ?_
    · intro o o' o'' I2 f2
      have hP := hP I2 f2
      unfold swR at hP
      refine vc_X11_swapBy_9 ⟨fun _ => ⟨fun a => ⟨fun b => ⟨fun e => ?_, fun e => ?_⟩, fun b => ?_⟩, fun a => ?_⟩, fun hh => absurd (by decide) hh⟩
      · rw [if_pos a, if_pos b, if_pos e] at hP; exact hP
      · rw [if_pos a, if_pos b, if_neg e] at hP; exact hP
      · rw [if_pos a, if_neg b] at hP; exact hP
      · rw [if_neg a] at hP; exact hP
    · intro c hc ih o o' o'' I2 f2
      have g2 := hg.fl f2
      have hsw : swP n nb nf g (c + 1) = if c / 8 < c % 8 ∧ c % 8 < n ∧ stP n nb nf (gSw g (c / 8) (c % 8)) 30 < (swP n nb nf g c).2 then (nI c, stP n nb nf (gSw g (c / 8) (c % 8)) 30) else swP n nb nf g c := rfl
      rw [hsw] at ih
      refine vc_X11_swapBy_9 ⟨fun hh => ?_, fun _ y5 h5 y6 h6 => ?_⟩
      · rw [show (64 : Int32) = nI 64 from rfl, le_nI (by omega) (by omega)] at hh; omega
      rw [dv8 c hc] at h5
      rw [md8 c hc] at h6
      subst h5 h6
      rw [le_nI (by omega) (by omega), g2.1.1, le_nI (by omega) (by omega), nI_1]
      refine ⟨fun q => ?_, fun q => ⟨fun q2 => ?_, fun q2 => ?_⟩⟩
      · rw [if_neg (by omega)] at ih; exact ih _ _ _ I2 f2
      · rw [if_neg (by omega)] at ih; exact ih _ _ _ I2 f2
      · have ha : c / 8 < n := by omega
        have hb : c % 8 < n := by omega
        refine sp_changes (by omega) (by omega) ?_
        refine sp_lives0 (g2.sw ha hb) (by rw [mm_u_k (by omega), mm_u_k (by omega), f2 145 (by omega)]; exact ho) (fun I3 f3 k3 r3 => ?_)
        refine sp_allHere ((g2.sw ha hb).fl f3).1 k3 ?_
        generalize stP n nb nf (gSw g (c / 8) (c % 8)) 30 = now at ih ⊢
        -- it is put back
        have put : ∀ s0 v3, (∀ (o o' o'' : Option Value) (I2 : tI), FL I I2 → Er X (d + 5) M_X11_swapBy 9 [some (.ref 145), some (.int w), some (.int s0), some (.int v3), some (.int (nI (c + 1))), o, o', o''] [] I2 J (qI P)) → (if now < (swP n nb nf g c).2 then now else (swP n nb nf g c).2) = v3 → Er X (d + 5) M_X11_swapBy 42 [some (.ref 145), some (.int w), some (.int (swP n nb nf g c).1), some (.int (swP n nb nf g c).2), some (.int (nI c)), some (.int (nI (c / 8))), some (.int (nI (c % 8))), some (.int now)] [.int s0] I3 J (qI P) := by
          intro s0 v3 h1 h2
          refine vc_X11_swapBy_42 (sp_lesser ?_)
          rw [h2, nI_1]
          refine sp_changes (by omega) (by omega) (h1 _ _ _ _ (fun x hx => ?_))
          rw [← f2 x hx]
          by_cases e : x = 153
          · subst e
            have e3 : I3 153 = mm_u (mm_u I2 153 (3 * (c / 8) + 2) (I2 153 (3 * (c % 8) + 2))) 153 (3 * (c % 8) + 2) (I2 153 (3 * (c / 8) + 2)) 153 := f3 153 (by omega)
            have hne : 3 * (c / 8) + 2 ≠ 3 * (c % 8) + 2 := by omega
            generalize 3 * (c / 8) + 2 = a at e3 hne ⊢
            generalize 3 * (c % 8) + 2 = b at e3 hne ⊢
            have va : I3 153 a = I2 153 b := by rw [e3, mm_u_j hne, mm_u_s]
            have vb : I3 153 b = I2 153 a := by rw [e3, mm_u_s]
            funext j
            by_cases eb : j = b
            · subst eb; rw [mm_u_s]; exact va
            · rw [mm_u_j eb]
              by_cases ea : j = a
              · subst ea; rw [mm_u_s]; exact vb
              · rw [mm_u_j ea, e3, mm_u_j eb, mm_u_j ea]
          · rw [mm_u_k e, mm_u_k e, f3 x hx, mm_u_k e, mm_u_k e]
        refine ⟨fun z => ?_, fun z => ?_⟩
        · rw [if_neg (fun u => Int32.not_le.mpr u.2.2 z)] at ih
          exact put _ _ ih (by rw [if_neg (Int32.not_lt.mpr z)])
        · rw [if_pos ⟨by omega, hb, Int32.not_le.mp z⟩] at ih
          exact put _ _ ih (by rw [if_pos (Int32.not_le.mp z)])
  exact key 0 (Nat.zero_le _) none none none I1 f1
end SWAP
