/-! ===== the log ===== -/
/-- the slots of those that stand, as bits -/
def hm (g4 st : Nat → Int32) : Nat → Int32
  | 0 => 0
  | k + 1 => if st k = 1 then hm g4 st k ||| ((1 : Int32) <<< (g4 k &&& 31)) else hm g4 st k
def Lg (n m : Nat) (I g : tI) (Z : Nat → tI) : Prop := (∀ h k, h < m → k < n → I 12 (8 * h + k) = Z (h + 1) 1 k ∧ I 13 (8 * h + k) = Z (h + 1) 2 k) ∧ (∀ h, h < m → I 14 h = hm (g 4) (Z (h + 1) 2) n)
def LgOk (n : Nat) (I g : tI) (Z : Nat → tI) : Prop := Lg n 30 I g Z ∧ Rc 15 n I (Z 30)
def FLog (I I' : tI) : Prop := ∀ x, (x < 11 ∨ 22 < x) → I' x = I x
section LOG
variable {X : mm_X} {d : Nat} {I I' : tI} {J : tJ} {c n ns nb nf : Nat} {g s : tI}
theorem bt_hm {g4 st : Nat → Int32} : ∀ n, (∀ k, k < n → ∃ p, p < 10 ∧ g4 k = nI p) → ∀ p, p < 32 → (bt (hm g4 st n) p = true ↔ ∃ k, k < n ∧ st k = 1 ∧ g4 k = nI p)
  | 0, _, p, hp => by
    rw [hm, b_0]
    exact ⟨fun z => absurd z (by decide), fun ⟨k, hk, _⟩ => absurd hk (Nat.not_lt_zero _)⟩
  | n + 1, hg, p, hp => by
    have ih := bt_hm (g4 := g4) (st := st) n (fun k hk => hg k (by omega)) p hp
    obtain ⟨q, hq, eq⟩ := hg n (by omega)
    rw [hm]
    by_cases e : st n = 1
    · rw [if_pos e, eq, bt_set _ (by omega) hp, Bool.or_eq_true, ih, decide_eq_true_eq]
      constructor
      · rintro (⟨k, k1, k2, k3⟩ | z)
        · exact ⟨k, by omega, k2, k3⟩
        · exact ⟨n, by omega, e, by rw [eq, z]⟩
      · rintro ⟨k, k1, k2, k3⟩
        by_cases ek : k = n
        · subst ek
          rw [eq] at k3
          exact Or.inr ((nI_eq (by omega) (by omega)).mp k3).symm
        · exact Or.inl ⟨k, by omega, k2, k3⟩
    · rw [if_neg e, ih]
      constructor
      · rintro ⟨k, k1, k2, k3⟩; exact ⟨k, by omega, k2, k3⟩
      · rintro ⟨k, k1, k2, k3⟩
        by_cases ek : k = n
        · subst ek; exact absurd k2 e
        · exact ⟨k, by omega, k2, k3⟩
theorem hm_congr {g4 st st' : Nat → Int32} : ∀ n, (∀ k, k < n → st k = st' k) → hm g4 st n = hm g4 st' n
  | 0, _ => rfl
  | n + 1, h => by rw [hm, hm, hm_congr n (fun k hk => h k (by omega)), h n (by omega)]
theorem cs_held (hs : Sg I g n ns nb nf) (hcs : Cs c n I s) : I c 8 = hm (g 4) (s 2) n := by
  have g4 : g 4 = I 6 := by rw [← hs.1]; rfl
  have e : hm (g 4) (s 2) n = hm (I 6) (I (c + 2)) n := by
    rw [g4]; exact hm_congr n (fun k hk => ((hcs.2.1 k hk).2.1).symm)
  rw [e]
  refine b_ext (fun p hp => ?_)
  have h1 := bt_hm (g4 := I 6) (st := I (c + 2)) n hs.2.1.2.2.2.2.1 p hp
  by_cases q : p < 10
  · have h2 := hcs.1.1 p q
    rw [Bool.eq_iff_iff, h1, h2]
  · rw [hcs.1.2.2.2.2 p (by omega)]
    cases hb : bt (hm (I 6) (I (c + 2)) n) p with
    | false => rfl
    | true =>
      obtain ⟨k, k1, k2, k3⟩ := h1.mp hb
      obtain ⟨r, r1, r2⟩ := hs.2.1.2.2.2.2.1 k k1
      rw [r2] at k3
      have := (nI_eq (by omega) (by omega)).mp k3
      omega
theorem mul8 (h : Nat) : nI h * 8 = nI (8 * h) := by rw [Nat.mul_comm]; exact pk_mul h 8
theorem sp_bring {P : tI → tJ → Prop} (hs : Sg I g n ns nb nf) (hfr : I 11 5 ≠ 0 → LgOk n I g (zN g n nb nf (fun _ => 0))) (hP : ∀ I', FLog I I' → I' 11 5 ≠ 0 → LgOk n I' g (zN g n nb nf (fun _ => 0)) → P I' J) : EV X (d + 3) n_X2_bringUpToDate [.ref 11] I J P := by
  have hn8 := hs.2.1.1.2
  have hc : 15 ∈ mm_crs := by decide
  have sgl : ∀ I', FLog I I' → Sg I' g n ns nb nf := fun I' hf => hs.eq (fun x h1 h2 => hf x (by omega))
  refine vc_X2_bringUpToDate ⟨fun _ => ?_, fun q => hP I (fun _ _ => rfl) q (hfr q)⟩
  refine sp_beginZ hc hs (fun I1 f1 c1 => ?_)
  have key : ∀ m, m ≤ 30 → ∀ I2 : tI, FLog I I2 → Lg n m I2 g (zN g n nb nf (fun _ => 0)) → Cs 15 n I2 (zN g n nb nf (fun _ => 0) m) → Er X (d + 3) M_X2_bringUpToDate 9 [some (.ref 11), some (.int (nI m))] [] I2 J (qV P) := by
    refine up_loop ?_ ?_
    · intro I2 f2 l2 c2
      refine vc_X2_bringUpToDate_9 ⟨fun _ => hP _ (fun x hx => by rw [mm_u_k (by omega)]; exact f2 x hx) (by rw [mm_u_s]; decide) ⟨?_, ?_⟩, fun hh => absurd (by decide) hh⟩
      · unfold Lg
        rw [mm_u_k (by omega), mm_u_k (by omega), mm_u_k (by omega)]; exact l2
      · unfold Rc
        simp only [mm_u_k (f := I2) (by omega : 15 + 1 ≠ 11), mm_u_k (f := I2) (by omega : 15 + 2 ≠ 11), mm_u_k (f := I2) (by omega : 15 + 3 ≠ 11), mm_u_k (f := I2) (by omega : 15 + 4 ≠ 11), mm_u_k (f := I2) (by omega : 15 + 5 ≠ 11), mm_u_k (f := I2) (by omega : 15 + 6 ≠ 11)]
        exact c2.2.1
    · intro m hm ih I2 f2 l2 c2
      have s2 := sgl I2 f2
      refine vc_X2_bringUpToDate_9 ⟨fun hh => ?_, fun _ => ?_⟩
      · rw [show (30 : Int32) = nI 30 from rfl, le_nI (by omega) (by omega)] at hh; omega
      refine sp_untilZ hc s2 c2 (fun I3 f3 c3 => ?_)
      refine sp_fromZ (m := 0) hc (s2.fc (by omega) f3) c3 (by omega) (fun I4 f4 c4 => ?_)
      have c4 : Cs 15 n I4 (zN g n nb nf (fun _ => 0) (m + 1)) := c4
      have f4 : FC 15 I2 I4 := f3.tr f4
      have s4 := s2.fc (by omega) f4
      have fl4 : FLog I I4 := fun x hx => by rw [f4 x (by omega)]; exact f2 x hx
      have l4 : Lg n m I4 g (zN g n nb nf (fun _ => 0)) := by
        unfold Lg; rw [f4 12 (by omega), f4 13 (by omega), f4 14 (by omega)]; exact l2
      have held := cs_held s4 c4
      generalize zN g n nb nf (fun _ => 0) = Z at ih l4 c4 held
      rw [mul8, tn_nI (k := 8 * m) (by omega), tn_nI (k := m) (by omega), nI_1]
      have ok : ¬ (0 : Int32) < 0 ∧ ¬ nI (8 * m) < 0 ∧ ¬ (8 : Int32) < 0 ∧ tn 0 + tn 8 ≤ 8 ∧ 8 * m + tn 8 ≤ 240 := ⟨by decide, Int32.not_lt.mpr (nI_pos' (by omega)), by decide, by decide, by show 8 * m + 8 ≤ 240; omega⟩
      refine ⟨ok, fun I5 h5 => ⟨ok, fun I6 h6 => ⟨ix_nI (by omega) (by omega), ?_⟩⟩⟩
      have e5 : ∀ x, x ≠ 12 → I5 x = I4 x := fun x hx => by rw [h5, mm_z_k hx]
      have e6 : ∀ x, x ≠ 13 → I6 x = I5 x := fun x hx => by rw [h6, mm_z_k hx]
      have e12 : ∀ k, I6 12 k = if 8 * m ≤ k ∧ k < 8 * m + 8 then I4 16 (0 + (k - 8 * m)) else I4 12 k := fun k => by rw [e6 12 (by omega), h5, mm_z_s]; rfl
      have e13 : ∀ k, I6 13 k = if 8 * m ≤ k ∧ k < 8 * m + 8 then I4 17 (0 + (k - 8 * m)) else I4 13 k := fun k => by rw [h6, mm_z_s, ← e5 17 (by omega), ← e5 13 (by omega)]; rfl
      have e0 : ∀ x, x ≠ 12 → x ≠ 13 → I6 x = I4 x := fun x h1 h2 => (e6 x h2).trans (e5 x h1)
      have hu : ∀ x, x ≠ 12 → x ≠ 13 → x ≠ 14 → mm_u I6 14 m (I6 15 8) x = I4 x := fun x h1 h2 h3 => by rw [mm_u_k h3]; exact e0 x h1 h2
      refine ih _ (fun x hx => ?_) ⟨fun h k hh hk => ?_, fun h hh => ?_⟩ ?_
      · rw [hu x (by omega) (by omega) (by omega)]; exact fl4 x hx
      · rw [mm_u_k (by omega), mm_u_k (by omega), e12, e13]
        by_cases e : h = m
        · subst e
          rw [if_pos (by omega), if_pos (by omega), show 0 + (8 * h + k - 8 * h) = k by omega]
          exact ⟨(c4.2.1 k hk).1, (c4.2.1 k hk).2.1⟩
        · rw [if_neg (by omega), if_neg (by omega)]; exact l4.1 h k (by omega) hk
      · by_cases e : h = m
        · subst e; rw [mm_u_s, e0 15 (by omega) (by omega)]; exact held
        · rw [mm_u_j e, e0 14 (by omega) (by omega)]; exact l4.2 h (by omega)
      · refine ⟨c4.1.eq ?_ ?_ ?_ ?_, ?_, c4.2.2⟩
        · rw [hu 15 (by omega) (by omega) (by omega)]
        · rw [hu (15 + 2) (by omega) (by omega) (by omega)]
        · rw [hu 6 (by omega) (by omega) (by omega)]
        · rw [hu 2 (by omega) (by omega) (by omega)]
        · have rc := c4.2.1
          unfold Rc at rc ⊢
          rw [hu (15 + 1) (by omega) (by omega) (by omega), hu (15 + 2) (by omega) (by omega) (by omega), hu (15 + 3) (by omega) (by omega) (by omega), hu (15 + 4) (by omega) (by omega) (by omega), hu (15 + 5) (by omega) (by omega) (by omega), hu (15 + 6) (by omega) (by omega) (by omega)]
          exact rc
  exact key 0 (Nat.zero_le _) I1 (fun x hx => f1 x (by omega)) ⟨fun h k hh => absurd hh (Nat.not_lt_zero _), fun h hh => absurd hh (Nat.not_lt_zero _)⟩ c1
end LOG
