/-! ===== sheets ===== -/
section SHEETS
variable {X : mm_X} {d : Nat} {I I' K L I1 I2 : tI} {J : tJ} {n ns nb nf nq tr ts t k s c : Nat} {g q : tI} {v1 v2 v3 v4 : Int32}
theorem r132 : ∀ s, s < 4 → mm_R0 132 s = some (137 + 2 * s) := fun s hs => mm_Rf ((show ∀ s, s < 4 → (132, s, 137 + 2 * s) ∈ mm_Rp by decide +kernel) s hs)
theorem shm : ∀ s, s < 4 → 137 + 2 * s ∈ mm_shs := by decide +kernel
theorem mul60 (k : Nat) : 60 * nI k = nI (60 * k) := pk_mul 60 k
theorem isK_nat2 {v : Int32} {n : Nat} (hn : n < 1000) (h : isK n v) : ∃ k, k < n ∧ v = nI k := by
  have hm : (nI n - 1).toInt = (n : Int) - 1 := pk_sub_toInt (a := n) (b := 1) (by omega) (by omega)
  obtain ⟨j, hj, e⟩ := nI_of (Int32.not_lt.mpr h.1)
  refine ⟨j, ?_, e⟩
  have h2 := h.2
  rw [Int32.le_iff_toInt_le, hm, e, nI_toInt hj] at h2
  omega
theorem Rl.shs (h : Rl I g q n ns nb nf nq tr ts) (hs : s < 4) : Sh I s := h.2.2.2.2.2.2.2.2.2.2.2.1 s hs
theorem Rl.fi (h : Rl I g q n ns nb nf nq tr ts) : I 0 10 = I 145 4 := h.2.2.2.2.2.2.2.2.2.2.2.2.1
/-- another sheet stays -/
theorem Sh.keep (h : Sh I s) (hs : s < 4) (a1 : ∀ j, j < 2 → I2 (137 + 2 * s) j = I (137 + 2 * s) j) (a2 : I2 (137 + 2 * s + 1) = I (137 + 2 * s + 1)) (a3 : I2 146 s = I 146 s) (a4 : I2 147 s = I 147 s) (a5 : ∀ y, 60 * s ≤ y → y < 60 * s + 60 → I2 148 y = I 148 y) : Sh I2 s := by
  unfold Sh at h ⊢
  rw [a1 0 (by omega), a1 1 (by omega), a2, a3, a4]
  refine ⟨h.1, h.2.imp id (fun ⟨b1, z, z1, z2, z3, z4⟩ => ⟨b1, z, z1, z2, z3, fun j hj => ?_⟩)⟩
  rw [a5 _ (by omega) (by omega)]; exact z4 j hj
theorem Rl.fd (h : Rl I g q n ns nb nf nq tr ts) (f : Int32) : RR (mm_u (mm_u I 0 10 f) 145 4 f) := by
  refine h.sh (fun s hs => (h.shs hs).eq hs (fun x a b c => by rw [mm_u_k c, mm_u_k (by omega)])) (by rw [mm_u_k (by omega), mm_u_s, mm_u_s]) (fun j hj => by rw [mm_u_j hj, mm_u_k (by omega)]) (fun x hx => by rw [mm_u_k (by omega), mm_u_k (by omega)])
theorem Sh.ge (h : Sh I s) : 0 ≤ I 146 s ↔ I (137 + 2 * s) 0 ≠ -1 := by
  rw [h.1]
  rcases h.2 with e | ⟨e | e | e, _⟩ <;> rw [e] <;> decide
theorem sp_renew {P : tI → tJ → Prop} (hc : c ∈ mm_shs) (hP : ∀ I', I' c 0 = v1 → I' c 1 = v2 → (∀ j, j < 60 → I' (c + 1) j = 0) → (∀ x, x ≠ c → x ≠ c + 1 → I' x = I x) → P I' J) : EV X d n_X6_renew [.ref c, .int v1, .int v2] I J P := by
  refine vc_X6_renew hc ?_
  have key : ∀ m, m ≤ 60 → ∀ K : tI, K c 0 = v1 → K c 1 = v2 → (∀ j, j < m → K (c + 1) j = 0) → (∀ x, x ≠ c → x ≠ c + 1 → K x = I x) → Er X d M_X6_renew 8 [some (.ref c), some (.int v1), some (.int v2), some (.int (nI m))] [] K J (qV P) := by
    refine up_loop ?_ ?_
    · intro K a1 a2 a3 a4
      exact vc_X6_renew_8 hc ⟨fun _ => hP K a1 a2 a3 a4, fun z => absurd (by decide) z⟩
    · intro m hm ih K a1 a2 a3 a4
      refine vc_X6_renew_8 hc ⟨fun z => ?_, fun _ => ⟨ix_nI hm (by omega), ?_⟩⟩
      · rw [show (60 : Int32) = nI 60 from rfl, le_nI (by omega) (by omega)] at z; omega
      rw [nI_1, tn_nI (by omega)]
      refine ih _ (by rw [mm_u_k (by omega)]; exact a1) (by rw [mm_u_k (by omega)]; exact a2) (fun j hj => ?_) (fun x x1 x2 => by rw [mm_u_k x2]; exact a4 x x1 x2)
      by_cases e : j = m
      · rw [e, mm_u_s]
      · rw [mm_u_j e]; exact a3 j (by omega)
  exact key 0 (Nat.zero_le _) _ (by rw [mm_u_j (by omega), mm_u_s]) (by rw [mm_u_s]) (fun j hj => absurd hj (Nat.not_lt_zero _)) (fun x x1 _ => by rw [mm_u_k x1, mm_u_k x1])
/-- the reference's sheet: its first z items are 0 -/
theorem sp_sheet32 {P : Int32 → tI → tJ → Prop} {z : Nat} (hs : s < 4) (hz : z ≤ 60) (hP : ∀ I', (∀ j, j < z → I' 148 (60 * s + j) = 0) → (∀ y, (y < 60 * s ∨ 60 * s + 60 ≤ y) → I' 148 y = I 148 y) → (∀ x, x ≠ 148 → I' x = I x) → P (nI z) I' J) : Er X (d + 1) M_X11_sheet 32 [some (.ref 145), some (.int (nI s)), some (.int v2), some (.int (nI z)), some (.int 0)] [] I J (qI P) := by
  have key : ∀ m, m ≤ z → ∀ K : tI, (∀ j, j < m → K 148 (60 * s + j) = 0) → (∀ y, (y < 60 * s ∨ 60 * s + 60 ≤ y) → K 148 y = I 148 y) → (∀ x, x ≠ 148 → K x = I x) → Er X (d + 1) M_X11_sheet 32 [some (.ref 145), some (.int (nI s)), some (.int v2), some (.int (nI z)), some (.int (nI m))] [] K J (qI P) := by
    refine up_loop ?_ ?_
    · intro K a1 a2 a3
      exact vc_X11_sheet_32 ⟨fun _ => hP K a1 a2 a3, fun y => absurd (Int32.le_refl _) y⟩
    · intro m hm ih K a1 a2 a3
      refine vc_X11_sheet_32 ⟨fun y => ?_, fun _ => ?_⟩
      · rw [le_nI (by omega) (by omega)] at y; omega
      rw [mul60, nI_add, nI_1, tn_nI (by omega)]
      refine ⟨ix_nI (by omega) (by omega), ih _ (fun j hj => ?_) (fun y hy => by rw [mm_u_j (by omega)]; exact a2 y hy) (fun x hx => by rw [mm_u_k hx]; exact a3 x hx)⟩
      by_cases e : j = m
      · rw [e, mm_u_s]
      · rw [mm_u_j (by omega)]; exact a1 j (by omega)
  exact key 0 (Nat.zero_le _) I (fun j hj => absurd hj (Nat.not_lt_zero _)) (fun _ _ => rfl) (fun _ _ => rfl)
theorem form3 {v : Int32} (h : inR v 0 2) : v = 0 ∨ v = 1 ∨ v = 2 := by
  obtain ⟨k, hk, rfl⟩ := in_nat (m := 2) (by omega) h
  rcases (by omega : k = 0 ∨ k = 1 ∨ k = 2) with rfl | rfl | rfl
  · exact Or.inl rfl
  · exact Or.inr (Or.inl rfl)
  · exact Or.inr (Or.inr rfl)
theorem pb_sheet (h : Rl I g q n ns nb nf nq tr ts) : PB X (d + 25) n_X10_sheet n_X11_sheet [.int v1, .int v2, .int v3] I J := by
  unfold PB
  have bad : ∀ {dd : Nat}, ¬ (inR v1 0 3 ∧ inR v2 0 2 ∧ v3 ≤ 60) → EI X (dd + 25) n_X11_sheet [.ref 145, .int v1, .int v2, .int v3] I J (fun y I2 _ => y = -2 ∧ RR I2) := fun z => vc_X11_sheet (sp_mSheet (fun a => ⟨fun z => absurd z ne10, fun _ => sp_in32 0 2 rfl rfl (fun b c => ⟨fun z => absurd z ne10, fun _ => ⟨fun e => absurd ⟨a, ⟨b, c⟩, e⟩ z, fun _ => ⟨rfl, h.r⟩⟩⟩) (fun _ => ⟨fun _ => ⟨rfl, h.r⟩, fun z => absurd rfl z⟩)⟩) (fun _ => ⟨fun _ => ⟨rfl, h.r⟩, fun z => absurd rfl z⟩))
  refine vc_X10_sheet (sp_cSheet (fun a => ⟨fun z => absurd z ne10, fun _ => sp_cForm (fun b => ⟨fun z => absurd z ne10, fun _ => ⟨fun c => ⟨fun e => ?_, fun e => ?_⟩, fun c => bad (fun z => c z.2.2)⟩⟩) (fun b => ⟨fun _ => bad (fun z => b z.2.1), fun z => absurd rfl z⟩)⟩) (fun a => ⟨fun _ => bad (fun z => a z.1), fun z => absurd rfl z⟩))
  · have a' := a
    obtain ⟨s, hs', rfl⟩ := in_nat (m := 3) (by omega) a
    obtain ⟨z, hz, rfl⟩ := in_nat (m := 60) (by omega) ⟨e, c⟩
    have hs : s < 4 := by omega
    refine ⟨ix_nI hs (by omega), 137 + 2 * s, by rw [tn_nI (by omega)]; exact r132 s hs, shm s hs, ?_⟩
    refine sp_renew (shm s hs) (fun I1 b1 b2 b3 b4 => ?_)
    refine vc_X11_sheet (sp_mSheet (fun _ => ⟨fun z => absurd z ne10, fun _ => sp_in32 0 2 rfl rfl (fun _ _ => ⟨fun z => absurd z ne10, fun _ => ⟨fun _ => ⟨fun _ => ?_, fun y => absurd e y⟩, fun y => absurd c y⟩⟩) (fun y => absurd b y)⟩) (fun y => absurd a' y))
    refine ⟨ix_nI hs (by omega), ix_nI hs (by omega), ?_⟩
    rw [tn_nI (by omega)]
    refine sp_sheet32 hs hz (fun I2 c1 c2 c3 => ⟨rfl, ?_⟩)
    have fx : ∀ x, x ≠ 148 → x ≠ 146 → x ≠ 147 → I2 x = I1 x := fun x x1 x2 x3 => by rw [c3 x x1, mm_u_k x3, mm_u_k x2]
    refine h.sh (fun s' hs' => ?_) ?_ ?_ ?_
    · by_cases es : s' = s
      · subst es
        unfold Sh
        rw [fx (137 + 2 * s') (by omega) (by omega) (by omega), fx (137 + 2 * s' + 1) (by omega) (by omega) (by omega), c3 146 (by omega), c3 147 (by omega), mm_u_s, mm_u_k (by omega), mm_u_s, b1, b2]
        exact ⟨rfl, Or.inr ⟨form3 b, z, hz, rfl, rfl, fun j hj => by rw [c1 j hj, b3 j (by omega)]⟩⟩
      · refine (h.shs hs').keep hs' (fun j _ => ?_) ?_ ?_ ?_ (fun y y1 y2 => ?_)
        · rw [fx _ (by omega) (by omega) (by omega), b4 _ (by omega) (by omega)]
        · rw [fx _ (by omega) (by omega) (by omega), b4 _ (by omega) (by omega)]
        · rw [c3 146 (by omega), mm_u_k (by omega), mm_u_j es, b4 _ (by omega) (by omega)]
        · rw [c3 147 (by omega), mm_u_j es, mm_u_k (by omega), b4 _ (by omega) (by omega)]
        · rw [c2 y (by omega), mm_u_k (by omega), mm_u_k (by omega), b4 _ (by omega) (by omega)]
    · rw [fx 0 (by omega) (by omega) (by omega), fx 145 (by omega) (by omega) (by omega), b4 0 (by omega) (by omega), b4 145 (by omega) (by omega)]; exact h.fi
    · intro j _; rw [fx 145 (by omega) (by omega) (by omega), b4 145 (by omega) (by omega)]
    · intro x hx; rw [fx x (by omega) (by omega) (by omega), b4 x (by omega) (by omega)]
  · refine vc_X10_found ?_
    refine vc_X11_sheet (sp_mSheet (fun _ => ⟨fun z => absurd z ne10, fun _ => sp_in32 0 2 rfl rfl (fun _ _ => ⟨fun z => absurd z ne10, fun _ => ⟨fun _ => ⟨fun y => absurd y e, fun _ => vc_X11_finds ⟨rfl, h.fd 5⟩⟩, fun y => absurd c y⟩⟩) (fun y => absurd b y)⟩) (fun y => absurd a y))
theorem pb_lose (h : Rl I g q n ns nb nf nq tr ts) : PB X (d + 25) n_X10_lose n_X11_lose [.int v1] I J := by
  unfold PB
  refine vc_X10_lose (sp_cSheet (fun a => ⟨fun _ => ?_, fun z => absurd ne10 z⟩) (fun a => ⟨fun z => absurd rfl z, fun _ => vc_X11_lose (sp_mSheet (fun z => absurd z a) (fun _ => ⟨fun z => absurd rfl z, fun _ => ⟨rfl, h.r⟩⟩))⟩))
  have a' := a
  obtain ⟨s, hs', rfl⟩ := in_nat (m := 3) (by omega) a
  have hs : s < 4 := by omega
  have hx := ix_nI (k := s) (n := 4) (by omega) (by omega)
  have sh := h.shs hs
  rw [tn_nI (by omega)]
  refine ⟨hx, 137 + 2 * s, r132 s hs, shm s hs, vc_X6_isLost (shm s hs) ⟨fun e => ⟨fun _ => ?_, fun z => absurd rfl z⟩, fun e => ⟨fun z => absurd z ne10, fun _ => vc_X10_found ?_⟩⟩⟩
  · refine ⟨hx, 137 + 2 * s, r132 s hs, shm s hs, fun y hy => ⟨hx, 137 + 2 * s, r132 s hs, shm s hs, sp_renew (shm s hs) (fun I1 b1 b2 b3 b4 => ?_)⟩⟩
    have e146 : I1 146 = I 146 := b4 146 (by omega) (by omega)
    have e147 : I1 147 = I 147 := b4 147 (by omega) (by omega)
    refine vc_X11_lose (sp_mSheet (fun _ => ⟨fun _ => ⟨hx, ?_⟩, fun z => absurd ne10 z⟩) (fun z => absurd a' z))
    rw [tn_nI (by omega), e146]
    refine ⟨fun _ => ⟨hx, hx, ?_, ?_⟩, fun z => absurd (sh.ge.mpr e) z⟩
    · rw [mm_u_k (by omega), e147, hy]
      rcases sh.2 with w | ⟨_, z, _, z2, z3, _⟩
      · exact absurd w e
      · rw [z2, z3]
    · refine h.sh (fun s' hs' => ?_) ?_ ?_ ?_
      · by_cases es : s' = s
        · subst es
          unfold Sh
          rw [mm_u_s, mm_u_k (k := 146) (x := 137 + 2 * s') (by omega), b1]
          exact ⟨rfl, Or.inl rfl⟩
        · refine (h.shs hs').keep hs' (fun j _ => ?_) ?_ ?_ ?_ (fun y y1 y2 => ?_)
          · rw [mm_u_k (by omega), b4 _ (by omega) (by omega)]
          · rw [mm_u_k (by omega), b4 _ (by omega) (by omega)]
          · rw [mm_u_j es, b4 _ (by omega) (by omega)]
          · rw [mm_u_k (by omega), b4 _ (by omega) (by omega)]
          · rw [mm_u_k (by omega), b4 _ (by omega) (by omega)]
      · rw [mm_u_k (by omega), mm_u_k (by omega), b4 0 (by omega) (by omega), b4 145 (by omega) (by omega)]; exact h.fi
      · intro j _; rw [mm_u_k (by omega), b4 145 (by omega) (by omega)]
      · intro x hx; rw [mm_u_k (by omega), b4 x (by omega) (by omega)]
  · refine vc_X11_lose (sp_mSheet (fun _ => ⟨fun _ => ⟨hx, ?_⟩, fun z => absurd ne10 z⟩) (fun z => absurd a' z))
    rw [tn_nI (by omega), mm_u_k (k := 0) (x := 146) (by omega)]
    exact ⟨fun z => absurd (sh.ge.mp z) e, fun _ => vc_X11_finds ⟨rfl, h.fd 1⟩⟩
/-! what a place of a sheet lacks -/
def fn (F Z v2 v3 : Int32) : Int32 := if F = -1 then 1 else if F = v2 then (if inR v3 0 (Z - 1) then 0 else 2) else 3
def ctt (F v : Int32) : Int32 := if F ≠ 0 then (if F ≠ 1 then v else v.toInt16.toInt32) else v.toInt8.toInt32
theorem sp_findingAt {P : Int32 → tI → tJ → Prop} (hs : s < 4) (hP : P (fn (I (137 + 2 * s) 0) (I (137 + 2 * s) 1) v2 v3) I J) : EI X (d + 1) n_X10_findingAt [.ref 0, .int (nI s), .int v2, .int v3] I J P := by
  have hx := ix_nI (k := s) (n := 4) (by omega) (by omega)
  unfold fn at hP
  refine vc_X10_findingAt ?_
  rw [tn_nI (by omega)]
  refine ⟨hx, 137 + 2 * s, r132 s hs, shm s hs, vc_X6_isLost (shm s hs) ⟨fun e => ⟨fun _ => ?_, fun z => absurd rfl z⟩, fun e => ⟨fun z => absurd z ne10, fun _ => ?_⟩⟩⟩
  · rw [if_neg e] at hP
    refine ⟨hx, 137 + 2 * s, r132 s hs, shm s hs, fun e2 => ⟨hx, 137 + 2 * s, r132 s hs, shm s hs, ?_⟩, fun e2 => ?_⟩
    · rw [if_pos e2] at hP
      exact sp_isWithin (fun b c => ⟨fun z => absurd z ne10, fun _ => by rw [if_pos ⟨b, c⟩] at hP; exact hP⟩) (fun b => ⟨fun _ => by rw [if_neg b] at hP; exact hP, fun z => absurd rfl z⟩)
    · rw [if_neg e2] at hP; exact hP
  · rw [if_pos (Decidable.not_not.mp e)] at hP; exact hP
theorem sp_lacks {P : Int32 → tI → tJ → Prop} {F Z : Int32} (hs : s < 4) (e1 : K 146 s = F) (e2 : 0 ≤ F ↔ F ≠ -1) (e3 : F ≠ -1 → K 147 s = Z) (h0 : fn F Z v2 v3 = 0 → P 0 K J) (h1 : fn F Z v2 v3 ≠ 0 → P ((-10) - fn F Z v2 v3) (mm_u K 145 4 (fn F Z v2 v3)) J) : EI X (d + 1) n_X11_lacks [.ref 145, .int (nI s), .int v2, .int v3] K J P := by
  have hx := ix_nI (k := s) (n := 4) (by omega) (by omega)
  unfold fn at h0 h1
  refine vc_X11_lacks ?_
  rw [tn_nI (by omega), e1]
  refine ⟨hx, fun ge => ⟨hx, fun e => ⟨hx, ?_⟩, fun e => vc_X11_finds ?_⟩, fun ge => vc_X11_finds ?_⟩
  · have w := e2.mp ge
    rw [if_neg w, if_pos e] at h0 h1
    rw [e3 w]
    refine sp_in32 0 (Z - 1) rfl rfl (fun b c => ⟨fun z => absurd z ne10, fun _ => h0 (if_pos ⟨b, c⟩)⟩) (fun b => ⟨fun _ => vc_X11_finds ?_, fun z => absurd rfl z⟩)
    rw [if_neg b] at h1
    exact h1 (by decide)
  · rw [if_neg (e2.mp ge), if_neg e] at h1
    exact h1 (by decide)
  · have w : F = -1 := Decidable.byContradiction (fun y => ge (e2.mpr y))
    rw [if_pos w] at h1
    exact h1 (by decide)
theorem Sh.e2 (h : Sh I s) : 0 ≤ I (137 + 2 * s) 0 ↔ I (137 + 2 * s) 0 ≠ -1 := by rw [← h.ge, h.1]
theorem Sh.e3 (h : Sh I s) (w : I (137 + 2 * s) 0 ≠ -1) : I 147 s = I (137 + 2 * s) 1 := by
  rcases h.2 with e | ⟨_, z, _, z2, z3, _⟩
  · exact absurd e w
  · rw [z2, z3]
theorem fn_zero {F Z : Int32} (h : fn F Z v2 v3 = 0) : F ≠ -1 ∧ F = v2 ∧ inR v3 0 (Z - 1) := by
  unfold fn at h
  by_cases a : F = -1
  · rw [if_pos a] at h; exact absurd h (by decide)
  · rw [if_neg a] at h
    by_cases b : F = v2
    · rw [if_pos b] at h
      by_cases c : inR v3 0 (Z - 1)
      · exact ⟨a, b, c⟩
      · rw [if_neg c] at h; exact absurd h (by decide)
    · rw [if_neg b] at h; exact absurd h (by decide)
theorem sp_put {P : tI → tJ → Prop} {i z : Nat} {v : Int32} (hc : c ∈ mm_shs) (hi : i < z) (hz : z ≤ 60) (ez : I c 1 = nI z) (hP : P (mm_u I (c + 1) i (ctt (I c 0) v)) J) : EV X d n_X6_put [.ref c, .int (nI i), .int v] I J P := by
  have hx := ix_nI (k := i) (n := 60) (by omega) (by omega)
  refine vc_X6_put hc ⟨fun y => absurd y (nI_pos (by omega)), fun _ => ?_⟩
  rw [ez, lt_nI (by omega) (by omega), tn_nI (by omega)]
  unfold ctt at hP
  refine ⟨fun _ => ⟨fun e => ⟨fun e1 => ⟨hx, ?_⟩, fun e1 => ⟨hx, ?_⟩⟩, fun e => ⟨hx, ?_⟩⟩, fun y => absurd hi y⟩
  · rw [if_pos e, if_pos e1] at hP; exact hP
  · rw [if_pos e, if_neg e1] at hP; exact hP
  · rw [if_neg e] at hP; exact hP
theorem sp_cut {P : Int32 → tI → tJ → Prop} {F v : Int32} (hP : P (ctt F v) I J) : EI X d n_X11_cut [.int F, .int v] I J P := by
  unfold ctt at hP
  exact vc_X11_cut ⟨fun e => ⟨fun e1 => by rw [if_pos e, if_pos e1] at hP; exact hP, fun e1 => by rw [if_pos e, if_neg e1] at hP; exact hP⟩, fun e => by rw [if_neg e] at hP; exact hP⟩
theorem pb_lay (h : Rl I g q n ns nb nf nq tr ts) : PB X (d + 25) n_X10_lay n_X11_lay [.int v1, .int v2, .int v3, .int v4] I J := by
  unfold PB
  have bad : ∀ {dd : Nat}, ¬ (inR v1 0 3 ∧ inR v2 0 2) → EI X (dd + 25) n_X11_lay [.ref 145, .int v1, .int v2, .int v3, .int v4] I J (fun y I2 _ => y = -2 ∧ RR I2) := fun z => vc_X11_lay (sp_mSheet (fun a => ⟨fun z => absurd z ne10, fun _ => sp_in32 0 2 rfl rfl (fun b c => absurd ⟨a, b, c⟩ z) (fun _ => ⟨fun z => absurd rfl z, fun _ => ⟨rfl, h.r⟩⟩)⟩) (fun _ => ⟨fun _ => ⟨rfl, h.r⟩, fun z => absurd rfl z⟩))
  refine vc_X10_lay (sp_cSheet (fun a => ⟨fun z => absurd z ne10, fun _ => sp_cForm (fun b => ⟨fun _ => ?_, fun z => absurd ne10 z⟩) (fun b => ⟨fun z => absurd rfl z, fun _ => bad (fun z => b z.2)⟩)⟩) (fun a => ⟨fun _ => bad (fun z => a z.1), fun z => absurd rfl z⟩))
  have a' := a
  obtain ⟨s, hs', rfl⟩ := in_nat (m := 3) (by omega) a
  have hs : s < 4 := by omega
  have hx := ix_nI (k := s) (n := 4) (by omega) (by omega)
  have sh := h.shs hs
  have run : ∀ {K : tI} {P : Int32 → tI → tJ → Prop}, EI X (d + 24) n_X11_lacks [.ref 145, .int (nI s), .int v2, .int v3] K J (fun x_7 I_8 J_9 => (x_7 = 0 → (EI X (d + 24) n_X11_cut [.int v2, .int v4] I_8 J_9 (fun x_10 I_11 J_12 => ix ((60 * nI s) + v3) 240 ∧ (P 1 (mm_u I_11 148 (tn ((60 * nI s) + v3)) x_10) J_12)))) ∧ (¬ (x_7 = 0) → (P x_7 I_8 J_9))) → EI X (d + 25) n_X11_lay [.ref 145, .int (nI s), .int v2, .int v3, .int v4] K J P := fun T => vc_X11_lay (sp_mSheet (fun _ => ⟨fun z => absurd z ne10, fun _ => sp_in32 0 2 rfl rfl (fun _ _ => ⟨fun _ => T, fun z => absurd ne10 z⟩) (fun z => absurd b z)⟩) (fun z => absurd a' z))
  refine sp_findingAt hs ⟨fun f0 => ⟨hx, 137 + 2 * s, by rw [tn_nI (by omega)]; exact r132 s hs, shm s hs, ?_⟩, fun f0 => vc_X10_found ?_⟩
  · obtain ⟨w1, w2, w3⟩ := fn_zero f0
    rcases sh.2 with w | ⟨_, z, z1, z2, z3, z4⟩
    · exact absurd w w1
    rw [z2] at w3
    obtain ⟨i, hi, rfl⟩ := isK_nat2 (by omega) w3
    refine sp_put (shm s hs) hi z1 z2 (run ?_)
    have e146 : mm_u I (137 + 2 * s + 1) i (ctt (I (137 + 2 * s) 0) v4) 146 = I 146 := mm_u_k (by omega)
    have e147 : mm_u I (137 + 2 * s + 1) i (ctt (I (137 + 2 * s) 0) v4) 147 = I 147 := mm_u_k (by omega)
    refine sp_lacks (F := I (137 + 2 * s) 0) (Z := I (137 + 2 * s) 1) hs (by rw [e146]; exact sh.1) sh.e2 (fun y => by rw [e147]; exact sh.e3 y) (fun _ => ⟨fun _ => sp_cut ?_, fun y => absurd rfl y⟩) (fun y => absurd f0 y)
    rw [mul60, nI_add, tn_nI (by omega), ← w2]
    refine ⟨ix_nI (by omega) (by omega), rfl, ?_⟩
    have fx : ∀ x, x ≠ 137 + 2 * s + 1 → x ≠ 148 → mm_u (mm_u I (137 + 2 * s + 1) i (ctt (I (137 + 2 * s) 0) v4)) 148 (60 * s + i) (ctt (I (137 + 2 * s) 0) v4) x = I x := fun x x1 x2 => by rw [mm_u_k x2, mm_u_k x1]
    refine h.sh (fun s' hs' => ?_) ?_ ?_ ?_
    · by_cases es : s' = s
      · subst es
        unfold Sh
        rw [fx (137 + 2 * s') (by omega) (by omega), fx 146 (by omega) (by omega), fx 147 (by omega) (by omega), mm_u_k (k := 148) (x := 137 + 2 * s' + 1) (by omega)]
        refine ⟨sh.1, Or.inr ⟨?_, z, z1, z2, z3, fun j hj => ?_⟩⟩
        · rw [w2]; exact form3 b
        · by_cases e : j = i
          · rw [e, mm_u_s, mm_u_s]
          · rw [mm_u_j (by omega), mm_u_j e, mm_u_k (by omega)]; exact z4 j hj
      · refine (h.shs hs').keep hs' (fun j _ => ?_) ?_ ?_ ?_ (fun y y1 y2 => ?_)
        · rw [fx _ (by omega) (by omega)]
        · rw [fx _ (by omega) (by omega)]
        · rw [fx _ (by omega) (by omega)]
        · rw [fx _ (by omega) (by omega)]
        · rw [mm_u_j (by omega), mm_u_k (by omega)]
    · rw [fx 0 (by omega) (by omega), fx 145 (by omega) (by omega)]; exact h.fi
    · intro j _; rw [fx 145 (by omega) (by omega)]
    · intro x hx; rw [fx x (by omega) (by omega)]
  · refine run ?_
    have e146 : ∀ f, mm_u I 0 10 f 146 = I 146 := fun f => mm_u_k (by omega)
    have e147 : ∀ f, mm_u I 0 10 f 147 = I 147 := fun f => mm_u_k (by omega)
    have ne : ∀ F Z : Int32, fn F Z v2 v3 ≠ 0 → ¬ ((-10) - fn F Z v2 v3 = 0) := fun F Z hn => by
      unfold fn at hn ⊢
      split
      · decide
      · split
        · split
          · rename_i p1 p2 p3
            rw [if_neg p1, if_pos p2, if_pos p3] at hn; exact absurd rfl hn
          · decide
        · decide
    refine sp_lacks (F := I (137 + 2 * s) 0) (Z := I (137 + 2 * s) 1) hs (by rw [e146]; exact sh.1) sh.e2 (fun y => by rw [e147]; exact sh.e3 y) (fun y => absurd y f0) (fun y => ⟨fun z => absurd z (ne _ _ y), fun _ => ⟨rfl, h.fd _⟩⟩)
end SHEETS
