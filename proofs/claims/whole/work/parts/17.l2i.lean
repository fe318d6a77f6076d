theorem iL_iG (x : Int) : (iL x).toInt32 = iI (x % 4294967296) := by
  unfold iL iI
  rw [Int64.toInt32_ofInt]
  apply Int32.toInt_inj.mp
  rw [Int32.toInt_ofInt, Int32.toInt_ofInt]
  have e : (4294967296 : Int) = ((4294967296 : Nat) : Int) := rfl
  rw [e]
  exact (Int.emod_bmod x 4294967296).symm
