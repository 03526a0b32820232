/-! ===== a window by chance: the class's fraction, the reference's ===== -/
section WIN4
theorem li_shr {a d : Nat} {D : Int64} (hD : (D.toBitVec.smod 64).toNat = d) (h : a < 2 ^ 62) : lN a >>> D = lN (a / 2 ^ d) := by
  have hd : a / 2 ^ d ≤ a := Nat.div_le_self _ _
  apply Int64.toInt_inj.mp
  have e : (lN a >>> D).toInt = (lN a).toInt >>> d := by
    rw [← hD]
    exact BitVec.toInt_sshiftRight ..
  rw [e, Int.shiftRight_eq_div_pow, pk_lT (by omega), pk_lT (by omega)]
  rfl
theorem li_a1 {n : Nat} (hn : n < 2 ^ 64) : lN n &&& 1 = lN (n % 2) := by
  apply Int64.toBitVec_inj.mp
  rw [Int64.toBitVec_and]
  show BitVec.ofNat 64 n &&& BitVec.ofNat 64 1 = BitVec.ofNat 64 (n % 2)
  apply BitVec.eq_of_toNat_eq
  rw [BitVec.toNat_and, BitVec.toNat_ofNat, BitVec.toNat_ofNat, BitVec.toNat_ofNat, Nat.mod_eq_of_lt hn, Nat.mod_eq_of_lt (show 1 < 2 ^ 64 by decide), Nat.and_one_is_mod, Nat.mod_eq_of_lt (show n % 2 < 2 ^ 64 by omega)]
theorem gcd_odd {a : Nat} (h : a % 2 = 1) (e : Nat) : Nat.gcd a (2 ^ e) = 1 := by
  have h2 : Nat.gcd a 2 = 1 := by rw [Nat.gcd_comm, Nat.gcd_rec, h]; rfl
  exact Nat.Coprime.pow_right e h2
theorem gcd_even {a : Nat} (h : a % 2 = 0) (e : Nat) : Nat.gcd a (2 ^ (e + 1)) = 2 * Nat.gcd (a / 2) (2 ^ e) := by
  have : a = 2 * (a / 2) := by omega
  conv => lhs; rw [this]
  rw [Nat.pow_succ, Nat.mul_comm (2 ^ e), Nat.gcd_mul_left]
variable {X : mm_X} {d : Nat} {I I' : tI} {J : tJ} {n ns nb nf : Nat} {g s q : tI}
theorem sp_halve {P : tI → tJ → Prop} {v1 v2 v3 v4 : Int32} : ∀ (e i a : Nat) (J1 : tJ), i + e ≤ 40 → a ≤ 2 ^ e → J1 40 5 = lN a → J1 40 6 = lN (2 ^ e) → (∀ J', J' 40 5 = lN (a / Nat.gcd a (2 ^ e)) → J' 40 6 = lN (2 ^ e / Nat.gcd a (2 ^ e)) → P I J') → Er X (d + 1) M_X9_weigh 38 [some (.ref 40), some (.int v1), some (.int v2), some (.int v3), some (.int v4), some (.int (nI i))] [] I J1 (qV P)
  | 0, i, a, J1, hi, ha, h5, h6, hP => by
    have w := hP J1
    rw [Nat.pow_zero, Nat.gcd_one_right, Nat.div_one, Nat.div_one] at w
    have w := w h5 h6
    refine vc_X9_weigh_38 ⟨fun _ => w, fun _ => ⟨fun _ => w, fun z => ?_⟩⟩
    rw [h6] at z
    exact absurd ((lg_cmp_le _ _).mpr (Int64.le_refl _)) z
  | e + 1, i, a, J1, hi, ha, h5, h6, hP => by
    have hp : 2 ^ (e + 1) ≤ 2 ^ 40 := Nat.pow_le_pow_right (by decide) (by omega)
    have hp2 : 2 ≤ 2 ^ (e + 1) := by have := Nat.pow_le_pow_right (n := 2) (by decide) (show 1 ≤ e + 1 by omega); simpa using this
    have h40 : (2 : Nat) ^ 40 = 1099511627776 := by decide
    refine vc_X9_weigh_38 ⟨fun z => ?_, fun _ => ⟨fun z => ?_, fun _ => ?_⟩⟩
    · rw [show (40 : Int32) = nI 40 from rfl, le_nI (by omega) (by omega)] at z; omega
    · rw [h6, lg_cmp_le, show (1 : Int64) = lN 1 from rfl, pk_lLE (by omega) (by omega)] at z; omega
    rw [h5, li_a1 (by omega)]
    refine ⟨fun z => ?_, fun z => ?_⟩
    · have ho : a % 2 = 1 := by
        refine Decidable.byContradiction (fun y => z ?_)
        rw [show a % 2 = 0 by omega]; decide
      have w := hP J1
      rw [gcd_odd ho, Nat.div_one, Nat.div_one] at w
      exact w h5 h6
    · have he : a % 2 = 0 := by
        refine Decidable.byContradiction (fun y => z ?_)
        rw [show a % 2 = 1 by omega]; decide
      rw [mm_u_j (by omega), h6, nI_1]
      have hD : ((Int32.toInt64 (1 : Int32) &&& 63).toBitVec.smod 64).toNat = 1 := by decide
      refine sp_halve e (i + 1) (a / 2) _ (by omega) ?_ ?_ ?_ ?_
      · rw [Nat.pow_succ] at ha; omega
      · rw [mm_u_j (by omega), mm_u_s, li_shr hD (by omega)]
      · rw [mm_u_s, li_shr hD (by omega), Nat.pow_succ, Nat.pow_one, Nat.mul_div_cancel _ (by decide)]
      · intro J' g5 g6
        refine hP J' ?_ ?_
        · rw [g5, gcd_even he]
          conv => rhs; rw [show a = 2 * (a / 2) by omega]
          rw [Nat.mul_div_mul_left _ _ (by decide), show 2 * (a / 2) / 2 = a / 2 by omega]
        · rw [g6, gcd_even he, Nat.pow_succ, Nat.mul_comm (2 ^ e), Nat.mul_div_mul_left _ _ (by decide)]
/-- the fraction in its least form -/
noncomputable def pfW (a b : Nat) (w : Int32) : Int64 := if w ≠ 0 then lN (b / Nat.gcd a b) else lN (a / Nat.gcd a b)
noncomputable def winV (g : tI) (n nb nf c l k h : Nat) (w : Int32) : Int64 := pfW (wy c (okW g n nb nf h k) (l + 1) 0 0) (16 ^ (l + 1)) w
theorem pfW_scale {a b m : Nat} (hm : 0 < m) (w : Int32) : pfW (m * a) (m * b) w = pfW a b w := by
  unfold pfW
  rw [Nat.gcd_mul_left, Nat.mul_div_mul_left _ _ hm, Nat.mul_div_mul_left _ _ hm]
theorem winV_less {c l k h : Nat} (hc : c ≤ 16) (hl : l ≤ 9) (w : Int32) : winV g n nb nf c l k h w = pfW (wy c (okW g n nb nf h k) (min l h + 1) 0 0) (16 ^ (min l h + 1)) w := by
  unfold winV
  have e : 16 ^ (l + 1) = 16 ^ (l + 1 - (min l h + 1)) * 16 ^ (min l h + 1) := by rw [← Nat.pow_add]; congr 1; omega
  rw [wy_more hc hl, e, pfW_scale (Nat.pow_pos (by decide))]
theorem pw16 (e : Nat) : 16 ^ e = 2 ^ (4 * e) := by rw [Nat.pow_mul]
/-- only the window's cells have changed -/
def FWi (I I' : tI) : Prop := ∀ x, (x < 40 ∨ 129 < x) → I' x = I x
theorem sp_weigh {P : tI → tJ → Prop} {c l k h : Nat} (hs : Sg I g n ns nb nf) (hc : c ≤ 16) (hl : l ≤ 9) (hk : k < n) (hh : h < 30) (hP : ∀ I' J', FWi I I' → J' 40 5 = winV g n nb nf c l k h 0 → J' 40 6 = winV g n nb nf c l k h 1 → P I' J') : EV X (d + 15) n_X9_weigh [.ref 40, .int (nI c), .int (nI l), .int (nI k), .int (nI h)] I J P := by
  have hn8 := hs.2.1.1.2
  have eh : ((if (9 : Int32) < (if nI h < nI l then nI h else nI l) then 9 else (if nI h < nI l then nI h else nI l)) + 1) = nI (min l h + 1) := by
    have e1 : (if nI h < nI l then nI h else nI l) = nI (min l h) := by
      by_cases q : h < l
      · rw [if_pos (by rw [lt_nI (by omega) (by omega)]; exact q), show min l h = h by omega]
      · rw [if_neg (by rw [lt_nI (by omega) (by omega)]; exact q), show min l h = l by omega]
    rw [e1, if_neg (by rw [show (9 : Int32) = nI 9 from rfl, lt_nI (by omega) (by omega)]; omega), nI_1]
  refine vc_X9_weigh ?_
  rw [eh]
  have s1 : Sg (mm_u (mm_u (mm_u (mm_u I 40 1 (nI c)) 40 3 (nI k)) 40 4 (nI h)) 40 2 (nI (min l h + 1))) g n ns nb nf := hs.eq (fun x h1 h2 => by rw [mm_u_k (by omega), mm_u_k (by omega), mm_u_k (by omega), mm_u_k (by omega)])
  refine sp_beginZ (crw 0 (by omega)) s1 (fun I2 f2 c2 => ?_)
  have r40 : I2 40 = _ := f2 40 (by omega)
  have hw := sp_ways (X := X) (J := J) (g := g) (n := n) (ns := ns) (nb := nb) (nf := nf) hc hk hh (show min l h + 1 ≤ h + 1 by omega) (show min l h + 1 ≤ 10 by omega) (min l h + 1) 0 0 (d + (10 - (min l h + 1))) I2 (fun x_4 I_5 J_6 => Er X (d + 14 + 1) M_X9_weigh 38 [some (.ref 40), some (.int (nI c)), some (.int (nI l)), some (.int (nI k)), some (.int (nI h)), some (.int 0)] [] I_5 (mm_u (mm_u J_6 40 5 x_4) 40 6 ((1 : Int64) <<< (Int32.toInt64 (4 * (I_5 40 2)) &&& 63))) (qV P)) (by omega) (by decide) (s1.fc (by omega) f2) (by rw [r40, mm_u_j (by omega), mm_u_j (by omega), mm_u_j (by omega), mm_u_s]) (by rw [r40, mm_u_s]) (by rw [r40, mm_u_j (by omega), mm_u_j (by omega), mm_u_s]) (by rw [r40, mm_u_j (by omega), mm_u_s]) c2 (fun I' f' => ?_)
  · rw [show d + (10 - (min l h + 1)) + (min l h + 1) + 4 = d + 14 by omega] at hw
    exact hw
  · have q40 : I' 40 = _ := (f' 40 (by omega)).trans r40
    rw [q40, mm_u_s, p16 _ (by omega)]
    have fin : FWi I I' := fun x hx => by
      rw [f' x (by omega), f2 x (by omega), mm_u_k (by omega), mm_u_k (by omega), mm_u_k (by omega), mm_u_k (by omega)]
    have w0 := winV_less (g := g) (n := n) (nb := nb) (nf := nf) (c := c) (l := l) (k := k) (h := h) hc hl 0
    have w1 := winV_less (g := g) (n := n) (nb := nb) (nf := nf) (c := c) (l := l) (k := k) (h := h) hc hl 1
    unfold pfW at w0 w1
    rw [if_neg (fun z => z rfl), pw16] at w0
    rw [if_pos (by decide), pw16] at w1
    refine sp_halve (4 * (min l h + 1)) 0 (wy c (okW g n nb nf h k) (min l h + 1) 0 0) _ (by omega) (by rw [← pw16]; exact wy_le hc _ _ _) (by rw [mm_u_j (by omega), mm_u_s]) (by rw [mm_u_s, pw16]) (fun J' g5 g6 => ?_)
    exact hP I' J' fin (by rw [g5, w0]) (by rw [g6, w1])
theorem sp_part {P : Int64 → tI → tJ → Prop} {A B : Nat} {w : Int32} (hA : A < 2 ^ 63) (hB0 : 0 < B) (hB : B < 2 ^ 63) (hP : P (pfW A B w) I J) : EL X d n_X11_part [.long (lN A), .long (lN B), .int w] I J P := by
  refine vc_X11_part ?_
  have hG := Nat.gcd_pos_of_pos_right A hB0
  have hGl : Nat.gcd A B < 2 ^ 63 := Nat.lt_of_le_of_lt (Nat.le_of_dvd hB0 (Nat.gcd_dvd_right A B)) hB
  have key : ∀ (b a : Nat) (o : Option Value), a < 2 ^ 63 → b < 2 ^ 63 → Nat.gcd a b = Nat.gcd A B → Er X d M_X11_part 4 [some (.long (lN A)), none, some (.long (lN B)), none, some (.int w), some (.long (lN a)), none, some (.long (lN b)), none, o, none] [] I J (qL P) := by
    intro b
    induction b using Nat.strongRecOn with
    | ind b ih =>
      intro a o ha hb e
      refine vc_X11_part_4 ⟨fun z => ?_, fun z => ?_⟩
      · rw [lg_cmp_eq, show (0 : Int64) = lN 0 from rfl, pk_lEQ hb (by decide)] at z
        subst z
        rw [Nat.gcd_zero_right] at e
        subst e
        have ne : ¬ lN (Nat.gcd A B) = 0 := fun y => by
          rw [show (0 : Int64) = lN 0 from rfl, pk_lEQ hGl (by decide)] at y; omega
        unfold pfW at hP
        refine ⟨fun q => ⟨ne, ?_⟩, fun q => ⟨ne, ?_⟩⟩
        · rw [if_pos q] at hP; rw [pk_lDiv hB hG hGl]; exact hP
        · rw [if_neg q] at hP; rw [pk_lDiv hA hG hGl]; exact hP
      · rw [lg_cmp_eq, show (0 : Int64) = lN 0 from rfl, pk_lEQ hb (by decide)] at z
        have hb0 : 0 < b := by omega
        have hm := Nat.mod_lt a hb0
        refine ⟨fun y => ?_, fun y hy => ?_⟩
        · rw [show (0 : Int64) = lN 0 from rfl, pk_lEQ hb (by decide)] at y; omega
        rw [pk_lRem ha hb0 hb] at hy
        rw [hy]
        refine ih (a % b) hm b _ hb (by omega) ?_
        rw [Nat.gcd_comm, ← Nat.gcd_rec, Nat.gcd_comm, e]
  exact key B A none hA hB rfl
end WIN4
