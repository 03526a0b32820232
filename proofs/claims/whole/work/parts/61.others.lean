/-! ===== the same slices, as a seed has it ===== -/
section OTHERS
def lt1 (y : Int32) : Int32 := (y.toUInt32 >>> ((16 : Int32).toUInt32 &&& Int32.toUInt32 31)).toInt32 - (y.toUInt32 >>> ((16 : Int32).toUInt32 &&& Int32.toUInt32 31)).toInt32 / 100 * 100
def sd (seed : Int32) : Nat → Int32
  | 0 => seed
  | i + 1 => 1103515245 * sd seed i + 12345
/-- the first m heats are the seed's -/
def gO (g : tI) (seed : Int32) : Nat → tI
  | 0 => g
  | m + 1 => mm_u (gO g seed m) 3 m (lt1 (sd seed (m + 1)))
/-- how many of the first k are so -/
def cnA (st : Nat → Int32) (a : Int32) : Nat → Int32
  | 0 => 0
  | k + 1 => if st k = a then cnA st a k + 1 else cnA st a k
theorem lt1_ok (y : Int32) : ∃ p, p ≤ 99 ∧ lt1 y = nI p := by
  have h := pk_ushr y 16 16 (by decide)
  unfold lt1
  generalize (y.toUInt32 >>> ((16 : Int32).toUInt32 &&& Int32.toUInt32 31)).toInt32 = u at h ⊢
  have hu : u = nI (u.toBitVec.toNat) := by
    apply Int32.toBitVec_inj.mp
    apply BitVec.eq_of_toNat_eq
    rw [pk_tn u.toBitVec.isLt]
  have lt : u.toBitVec.toNat < 65536 := by
    have := y.toBitVec.isLt
    rw [h]; omega
  generalize u.toBitVec.toNat = m at hu lt
  subst hu
  exact ⟨m % 100, by omega, pk_rem (a := m) (d := 100) (by omega) (by omega) (by omega)⟩
end OTHERS
