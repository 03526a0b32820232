/-! ===== a window by chance: the class ===== -/
section WIN3
theorem r41 : ∀ m, m < 11 → mm_R0 41 m = some (42 + 8 * m) := fun m hm => mm_Rf ((show ∀ m, m < 11 → (41, m, 42 + 8 * m) ∈ mm_Rp by decide +kernel) m hm)
theorem crw : ∀ m, m < 11 → 42 + 8 * m ∈ mm_crs := by decide +kernel
theorem p16 : ∀ r, r < 11 → (1 : Int64) <<< (Int32.toInt64 (4 * nI r) &&& 63) = lN (16 ^ r) := by decide +kernel
/-- only the courses of the window from m on have changed -/
def FW (m : Nat) (I I' : tI) : Prop := ∀ x, (x < 42 + 8 * m ∨ 129 < x) → I' x = I x
variable {X : mm_X} {d : Nat} {I I' : tI} {J : tJ} {n ns nb nf : Nat} {g s q : tI}
theorem FW.c {m : Nat} (hm : m < 11) (h : FC (42 + 8 * m) I I') : FW m I I' := fun x hx => h x (by omega)
theorem mO_hi {t m a : Nat} (ht : t < 2 ^ m) (ha : m ≤ a) : mO (nI t) a = 0 := by
  rw [mO_bit, if_neg]
  rintro ⟨_, z⟩
  rw [Nat.testBit_lt_two_pow (Nat.lt_of_lt_of_le ht (Nat.pow_le_pow_right (by decide) ha))] at z
  cases z
theorem mO_top {t m : Nat} (ht : t < 2 ^ m) (hm : m < 10) : mO (nI (t + 2 ^ m)) m = 3 := by
  have b : (t + 2 ^ m).testBit m = true := by rw [Nat.add_comm, Nat.testBit_two_pow_add_eq, Nat.testBit_lt_two_pow ht, Bool.not_false]
  rw [mO_bit, if_pos ⟨hm, b⟩]
theorem zN_top {t m : Nat} : zN g n nb nf (mO (nI (t + 2 ^ m))) m = zN g n nb nf (mO (nI t)) m := zN_bits (by rw [show t + 2 ^ m = t + 2 ^ m * 1 by omega, mod_add])
theorem sp_isLetGoFrom {P : Int32 → tI → tJ → Prop} {m t h k : Nat} (hm : m ≤ 10) (hh : h < 30) (hk : k < n) (hs : Sg I g n ns nb nf) (h3 : I 40 3 = nI k) (h4 : I 40 4 = nI h) (ht : t < 2 ^ m) (hmh : m ≤ h + 1) (hcs : Cs (42 + 8 * m) n I (zN g n nb nf (mO (nI t)) m)) (h1 : ∀ I', FC (42 + 8 * m) I I' → okW g n nb nf h k t → P 1 I' J) (h0 : ∀ I', FC (42 + 8 * m) I I' → ¬ okW g n nb nf h k t → P 0 I' J) : EI X (d + 3) n_X9_isLetGoFrom [.ref 40, .int (nI m)] I J P := by
  have hn8 := hs.2.1.1.2
  have hc := crw m (by omega)
  refine vc_X9_isLetGoFrom ⟨ix_nI (by omega) (by omega), 42 + 8 * m, by rw [tn_nI (by omega)]; exact r41 m (by omega), hc, ?_⟩
  have fin : ∀ (v : Int32) (a : Nat) (I2 : tI), a ≤ h + 1 → FC (42 + 8 * m) I I2 → Cs (42 + 8 * m) n I2 (zN g n nb nf (mO (nI t)) a) → (zN g n nb nf (mO (nI t)) a 5 k ≠ -1 ∨ a = h + 1) → Er X (d + 2 + 1) M_X9_isLetGoFrom 27 [some (.ref 40), some (.int (nI m)), some (.ref (42 + 8 * m)), some (.int v)] [] I2 J (qI P) := by
    intro v a I2 ha f2 c2 hor
    refine vc_X9_isLetGoFrom_27 hc ?_
    rw [f2 40 (by omega), h3, tn_nI (by omega), show I2 (42 + 8 * m + 5) k = _ from (c2.2.1 k hk).2.2.2.1]
    refine ⟨ix_nI (by omega) (by omega), fun q => h0 I2 f2 (fun z => ?_), fun q => h1 I2 f2 (ok_go ha q)⟩
    rcases hor with w | w
    · exact w q
    · subst w; exact z q
  have key : ∀ a, a ≤ h + 1 → m ≤ a → ∀ I2 : tI, FC (42 + 8 * m) I I2 → Cs (42 + 8 * m) n I2 (zN g n nb nf (mO (nI t)) a) → Er X (d + 2 + 1) M_X9_isLetGoFrom 7 [some (.ref 40), some (.int (nI m)), some (.ref (42 + 8 * m)), some (.int (nI a))] [] I2 J (qI P) := by
    refine up_loop ?_ ?_
    · intro ha I2 f2 c2
      refine vc_X9_isLetGoFrom_7 hc ⟨fun _ => fin _ (h + 1) I2 (Nat.le_refl _) f2 c2 (Or.inr rfl), fun z => ?_⟩
      rw [f2 40 (by omega), h4, lt_nI (by omega) (by omega)] at z; omega
    · intro a ha ih hma I2 f2 c2
      have s2 := hs.fc (by omega) f2
      have e : zN g n nb nf (mO (nI t)) (a + 1) = zH g n nb nf (nI a) (nI 0) (zN g n nb nf (mO (nI t)) a) := by
        show zH g n nb nf (nI a) (mO (nI t) a) _ = _
        rw [mO_hi ht hma]; rfl
      refine vc_X9_isLetGoFrom_7 hc ⟨fun z => ?_, fun _ => ?_⟩
      · rw [f2 40 (by omega), h4, lt_nI (by omega) (by omega)] at z; omega
      rw [f2 40 (by omega), h3, tn_nI (k := k) (by omega), show I2 (42 + 8 * m + 5) k = _ from (c2.2.1 k hk).2.2.2.1, nI_1]
      refine ⟨ix_nI (by omega) (by omega), fun q => fin _ a I2 (by omega) f2 c2 (Or.inl q), fun _ => ?_⟩
      refine sp_untilZ hc s2 c2 (fun I3 f3 c3 => ?_)
      refine sp_fromZ (m := 0) hc (s2.fc (by omega) f3) c3 (by omega) (fun I4 f4 c4 => ?_)
      refine ih (by omega) I4 ((f2.tr f3).tr f4) ?_
      rw [e]; exact c4
  exact key m hmh (Nat.le_refl _) I FC.rf hcs
theorem cs_copy {c c2 : Nat} (hc : 15 ≤ c) (hn : n ≤ 8) (hdis : c2 + 7 < c ∨ c + 7 < c2) (h : Cs c2 n I s) : Cs c n (fCopy c c2 I) s := by
  have e8 : fCopy c c2 I c 8 = I c2 8 := by unfold fCopy; rw [if_neg (by omega), if_pos ⟨rfl, rfl⟩]
  have er : ∀ j k, 1 ≤ j → j ≤ 6 → k < 8 → fCopy c c2 I (c + j) k = I (c2 + j) k := fun j k h1 h2 hk => by
    simp only [fCopy]; rw [if_pos ⟨by omega, by omega⟩, if_pos hk, show c + j - c = j by omega]
  have e6 : fCopy c c2 I 6 = I 6 := fc_copy c c2 I 6 (by omega)
  have e2 : fCopy c c2 I 2 = I 2 := fc_copy c c2 I 2 (by omega)
  obtain ⟨⟨a1, a2, a3, a4, a5⟩, b, cc⟩ := h
  have r2 : ∀ k, k < n → fCopy c c2 I (c + 2) k = I (c2 + 2) k := fun k hk => er 2 k (by omega) (by omega) (by omega)
  refine ⟨⟨fun p hp => ?_, fun j k hj hk x y z => ?_, fun k hk x => ?_, fun k hk => ?_, fun p hp => ?_⟩, fun k hk => ?_, cc⟩
  · rw [e8, e6]
    refine (a1 p hp).trans ⟨fun ⟨k, k1, k2, k3⟩ => ⟨k, k1, by rw [r2 k k1]; exact k2, k3⟩, fun ⟨k, k1, k2, k3⟩ => ⟨k, k1, by rw [r2 k k1] at k2; exact k2, k3⟩⟩
  · rw [r2 j hj] at x; rw [r2 k hk] at y; rw [e6] at z; exact a2 j k hj hk x y z
  · rw [r2 k hk] at x; rw [e6, e2]; exact a3 k hk x
  · rw [r2 k hk]; exact a4 k hk
  · rw [e8]; exact a5 p hp
  · rw [er 1 k (by omega) (by omega) (by omega), er 2 k (by omega) (by omega) (by omega), er 3 k (by omega) (by omega) (by omega), er 5 k (by omega) (by omega) (by omega), er 6 k (by omega) (by omega) (by omega), er 4 k (by omega) (by omega) (by omega)]
    exact b k hk
theorem sp_followZ {P : tI → tJ → Prop} {c c2 m : Nat} {h : Int32} (hc : c ∈ mm_crs) (hc2 : c2 ∈ mm_crs) (hdis : c2 + 7 < c ∨ c + 7 < c2) (hs : Sg I g n ns nb nf) (hcs : Cs c2 n I s) (hm : m ≤ 3) (hP : ∀ I', FC c I I' → Cs c n I' (zH g n nb nf h (nI m) s) → P I' J) : EV X (d + 3) n_X0_follow [.ref c, .ref c2, .int h, .int (nI m)] I J P := by
  have hc15 := crs_ge hc
  have f1 := fc_copy c c2 I
  have s1 := hs.fc hc15.1 f1
  refine sp_follow hc hc2 hdis hs.2.1 (hP _ ?_ ?_)
  · exact f1.tr ((fc_until c n nf h _).tr (fc_from c n ns nb h (nI m) _))
  · have w := cs_hour hc15.1 (h := h) (more := nI m) s1.2.1 (by rw [s1.1]; exact hs.2.2) ⟨m, hm, rfl⟩ (cs_copy hc15.1 hs.2.1.1.2 hdis hcs)
    rw [s1.1] at w
    exact w
theorem sp_ways {c h k hh : Nat} (hc : c ≤ 16) (hk : k < n) (hh30 : h < 30) (hhh : hh ≤ h + 1) (hh10 : hh ≤ 10) : ∀ (r m t d : Nat) (I : tI) (P : Int64 → tI → tJ → Prop), m + r = hh → t < 2 ^ m → Sg I g n ns nb nf → I 40 1 = nI c → I 40 2 = nI hh → I 40 3 = nI k → I 40 4 = nI h → Cs (42 + 8 * m) n I (zN g n nb nf (mO (nI t)) m) → (∀ I', FW m I I' → P (lN (wy c (okW g n nb nf h k) r m t)) I' J) → EL X (d + r + 4) n_X9_ways [.ref 40, .int (nI m)] I J P := by
  intro r
  induction r with
  | zero =>
    intro m t d I P hmr ht hs h1 h2 h3 h4 hcs hP
    have hn8 := hs.2.1.1.2
    have hcm := crw m (by omega)
    refine vc_X9_ways ⟨fun z => absurd z (nI_pos (by omega)), fun _ => ⟨fun z => ?_, fun _ => ⟨fun _ => ⟨ix_nI (by omega) (by omega), 42 + 8 * m, by rw [tn_nI (by omega)]; exact r41 m (by omega), hcm, ?_⟩, fun z => ?_⟩⟩⟩
    · rw [h2, lt_nI (by omega) (by omega)] at z; omega
    · rw [h3, h2, tn_nI (k := k) (by omega), show I (42 + 8 * m + 5) k = _ from (hcs.2.1 k hk).2.2.2.1, show I (42 + 8 * m + 2) k = _ from (hcs.2.1 k hk).2.1]
      have hx := ix_nI (k := k) (n := 8) (by omega) (by omega)
      have hP0 : ∀ I', FW m I I' → ¬ okW g n nb nf h k t → P 0 I' J := fun I' f z => by
        have w := hP I' f
        rw [wy, if_neg z] at w; exact w
      have hP1 : ∀ I', FW m I I' → okW g n nb nf h k t → P 1 I' J := fun I' f z => by
        have w := hP I' f
        rw [wy, if_pos z] at w; exact w
      refine ⟨hx, fun q => ⟨hx, fun q2 => ⟨fun _ => ?_, fun z => ?_⟩, fun q2 => hP0 I (fun _ _ => rfl) (ok_not (by omega) q (Decidable.not_not.mp q2))⟩, fun q => ?_⟩
      · exact sp_isLetGoFrom (by omega) hh30 hk hs h3 h4 ht (by omega) hcs (fun I' f z => ⟨fun y => absurd y (by decide), fun _ => hP1 I' (FW.c (by omega) f) z⟩) (fun I' f z => ⟨fun _ => hP0 I' (FW.c (by omega) f) z, fun y => absurd rfl y⟩)
      · rw [le_nI (by omega) (by omega)] at z; omega
      · rw [pk_sub (by omega), p16 _ (by omega), show hh - m = 0 by omega]
        exact hP1 I (fun _ _ => rfl) (ok_go (by omega) q)
    · rw [show (10 : Int32) = nI 10 from rfl, le_nI (by omega) (by omega)] at z; omega
  | succ r ih =>
    intro m t d I P hmr ht hs h1 h2 h3 h4 hcs hP
    have hn8 := hs.2.1.1.2
    have hcm := crw m (by omega)
    have hcm1 := crw (m + 1) (by omega)
    have ht0 : t < 2 ^ (m + 1) := by rw [Nat.pow_succ]; omega
    have ht1 : t + 2 ^ m < 2 ^ (m + 1) := by rw [Nat.pow_succ]; omega
    have e0 : zN g n nb nf (mO (nI t)) (m + 1) = zH g n nb nf (nI m) (nI 0) (zN g n nb nf (mO (nI t)) m) := by
      show zH g n nb nf (nI m) (mO (nI t) m) _ = _
      rw [mO_hi ht (Nat.le_refl _)]; rfl
    have e1 : zN g n nb nf (mO (nI (t + 2 ^ m))) (m + 1) = zH g n nb nf (nI m) (nI 3) (zN g n nb nf (mO (nI t)) m) := by
      show zH g n nb nf (nI m) (mO (nI (t + 2 ^ m)) m) (zN g n nb nf (mO (nI (t + 2 ^ m))) m) = _
      rw [mO_top ht (by omega), zN_top]; rfl
    have rw1 : ∀ I1 : tI, FW (m + 1) I I1 → Sg I1 g n ns nb nf ∧ I1 40 = I 40 ∧ Cs (42 + 8 * m) n I1 (zN g n nb nf (mO (nI t)) m) := fun I1 f1 => by
      refine ⟨hs.eq (fun x h1 h2 => f1 x (by omega)), f1 40 (by omega), hcs.1.eq ?_ ?_ ?_ ?_, fun k hk => ?_, hcs.2.2⟩
      · rw [f1 _ (by omega)]
      · rw [f1 _ (by omega)]
      · rw [f1 _ (by omega)]
      · rw [f1 _ (by omega)]
      · rw [f1 _ (by omega), f1 _ (by omega), f1 _ (by omega), f1 _ (by omega), f1 _ (by omega), f1 _ (by omega)]; exact hcs.2.1 k hk
    -- one branch: the window is as `more` says
    have branch : ∀ (mo tt : Nat), mo ≤ 3 → tt < 2 ^ (m + 1) → zN g n nb nf (mO (nI tt)) (m + 1) = zH g n nb nf (nI m) (nI mo) (zN g n nb nf (mO (nI t)) m) → ∀ (I1 : tI) (P2 : Int64 → Int32 → tI → tJ → Prop), FW (m + 1) I I1 → (∀ I2, FW (m + 1) I I2 → P2 (lN (wy c (okW g n nb nf h k) r (m + 1) tt)) (nI c) I2 J) → EV X (d + r + 4) n_X0_follow [.ref (42 + 8 * (m + 1)), .ref (42 + 8 * m), .int (nI m), .int (nI mo)] I1 J (fun I2 J2 => EL X (d + r + 4) n_X9_ways [.ref 40, .int (nI (m + 1))] I2 J2 (fun x I3 J3 => P2 x (I2 40 1) I3 J3)) := by
      intro mo tt hmo htt ez I1 P2 f1 hP2
      obtain ⟨s1, r40, c1⟩ := rw1 I1 f1
      refine sp_followZ hcm1 hcm (by omega) s1 c1 hmo (fun I2 f2 c2 => ?_)
      have f12 : FW (m + 1) I I2 := fun x hx => by rw [f2 x (by omega)]; exact f1 x hx
      have q40 : I2 40 = I 40 := f12 40 (by omega)
      rw [q40, h1]
      rw [← ez] at c2
      exact ih (m + 1) tt d I2 _ (by omega) htt (s1.fc (by omega) f2) (by rw [q40]; exact h1) (by rw [q40]; exact h2) (by rw [q40]; exact h3) (by rw [q40]; exact h4) c2 (fun I3 f3 => hP2 I3 (fun x hx => by rw [f3 x (by omega)]; exact f12 x hx))
    have s83 : ∀ I1 : tI, FW (m + 1) I I1 → Er X (d + r + 4 + 1) M_X9_ways 83 [some (.ref 40), some (.int (nI m)), some (.ref (42 + 8 * m)), some (.long (lN (c * wy c (okW g n nb nf h k) r (m + 1) (t + 2 ^ m)))), none] [] I1 J (qL P) := fun I1 f1 => by
      have q40 : I1 40 = I 40 := f1 40 (by omega)
      refine vc_X9_ways_83 hcm ?_
      rw [q40, h1, nI_1]
      refine ⟨fun z => ?_, fun z => ⟨ix_nI (by omega) (by omega), 42 + 8 * (m + 1), by rw [tn_nI (by omega)]; exact r41 (m + 1) (by omega), hcm1, ?_⟩⟩
      · have hc16 : c = 16 := by
          rw [show (16 : Int32) = nI 16 from rfl, le_nI (by omega) (by omega)] at z; omega
        have w := hP I1 (fun x hx => f1 x (by omega))
        rw [wy, hc16] at w
        rw [hc16]
        simpa using w
      · refine branch 0 t (by omega) ht0 e0 I1 (fun x y I3 J3 => ∀ y3 : Int64, y3 = lN (c * wy c (okW g n nb nf h k) r (m + 1) (t + 2 ^ m)) + Int32.toInt64 (16 - y) * x → P y3 I3 J3) f1 (fun I2 f2 y3 hy => ?_)
        rw [show (16 : Int32) = nI 16 from rfl, pk_sub hc, nI_l (by omega), lN_mul, lN_add] at hy
        rw [hy, Nat.add_comm]
        exact hP I2 (fun x hx => f2 x (by omega))
    rw [show d + (r + 1) + 4 = d + r + 4 + 1 by omega]
    refine vc_X9_ways ⟨fun z => absurd z (nI_pos (by omega)), fun _ => ⟨fun z => ?_, fun _ => ⟨fun _ => ⟨ix_nI (by omega) (by omega), 42 + 8 * m, by rw [tn_nI (by omega)]; exact r41 m (by omega), hcm, ?_⟩, fun z => ?_⟩⟩⟩
    · rw [h2, lt_nI (by omega) (by omega)] at z; omega
    · rw [h3, h2, h1, nI_1, tn_nI (k := k) (by omega), show I (42 + 8 * m + 5) k = _ from (hcs.2.1 k hk).2.2.2.1, show I (42 + 8 * m + 2) k = _ from (hcs.2.1 k hk).2.1]
      have hx := ix_nI (k := k) (n := 8) (by omega) (by omega)
      refine ⟨hx, fun q => ⟨hx, fun q2 => ⟨fun z => ?_, fun _ => ⟨fun _ => ⟨fun z => ?_, fun z => ⟨ix_nI (by omega) (by omega), 42 + 8 * (m + 1), by rw [tn_nI (by omega)]; exact r41 (m + 1) (by omega), hcm1, ?_⟩⟩, fun z => ?_⟩⟩, fun q2 => ?_⟩, fun q => ?_⟩
      · rw [le_nI (by omega) (by omega)] at z; omega
      · have hc0 : c = 0 := by
          rw [show (0 : Int32) = nI 0 from rfl, le_nI (by omega) (by omega)] at z; omega
        have w := s83 I (fun _ _ => rfl)
        rw [hc0, Nat.zero_mul] at w
        exact w
      · refine branch 3 (t + 2 ^ m) (by omega) ht1 e1 I (fun x y I3 J3 => ∀ y3 : Int64, y3 = 0 + Int32.toInt64 y * x → Er X (d + r + 4 + 1) M_X9_ways 83 [some (.ref 40), some (.int (nI m)), some (.ref (42 + 8 * m)), some (.long y3), none] [] I3 J3 (qL P)) (fun _ _ => rfl) (fun I2 f2 y3 hy => ?_)
        rw [nI_l (by omega), lN_mul, Int64.zero_add] at hy
        rw [hy]
        exact s83 I2 f2
      · rw [show (9 : Int32) = nI 9 from rfl, le_nI (by omega) (by omega)] at z; omega
      · have w := hP I (fun _ _ => rfl)
        rw [wy_none (r + 1) m t (fun u => ?_)] at w
        · exact w
        · have e : (t + 2 ^ m * u) % 2 ^ m = t % 2 ^ m := mod_add _ _ _
          exact ok_not (m := m) (by omega) (by rw [zN_bits e]; exact q) (by rw [zN_bits e]; exact Decidable.not_not.mp q2)
      · rw [pk_sub (by omega), p16 _ (by omega), show hh - m = r + 1 by omega]
        have w := hP I (fun _ _ => rfl)
        rw [wy_all hc (r + 1) m t (fun u => ?_)] at w
        · exact w
        · have e : (t + 2 ^ m * u) % 2 ^ m = t % 2 ^ m := mod_add _ _ _
          exact ok_go (m := m) (by omega) (by rw [zN_bits e]; exact q)
    · rw [show (10 : Int32) = nI 10 from rfl, le_nI (by omega) (by omega)] at z; omega
end WIN3
