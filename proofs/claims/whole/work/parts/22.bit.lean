/-! a set's bit -/
theorem sh64 : ∀ s, s < 64 → ((nI s).toInt64.toUInt64 &&& Int64.toUInt64 63) = UInt64.ofNat s := by decide
theorem sh1 : ∀ u, u < 64 → (jshl (1 : Int64) (nI u)).toUInt64.toNat = 2 ^ u := by decide
theorem i64_u {a b : Int64} : a = b ↔ a.toUInt64 = b.toUInt64 := ⟨fun h => by rw [h], fun h => by
  cases a
  cases b
  exact congrArg Int64.ofUInt64 h⟩
def bN (x : Int64) : Nat := x.toUInt64.toNat
theorem bit_iff {x : Int64} {s : Nat} (hs : s < 64) : (jushr x (nI s) &&& (1 : Int64)) = 0 ↔ (bN x).testBit s = false := by
  unfold jushr bN
  rw [sh64 s hs, i64_u, ← UInt64.toNat_inj]
  have e1 : (((x.toUInt64 >>> UInt64.ofNat s).toInt64 &&& (1 : Int64)).toUInt64).toNat = (x.toUInt64.toNat >>> s) &&& 1 := by
    show ((x.toUInt64 >>> UInt64.ofNat s) &&& (1 : UInt64)).toNat = _
    rw [UInt64.toNat_and, UInt64.toNat_shiftRight, UInt64.toNat_ofNat', Nat.mod_eq_of_lt (by omega), Nat.mod_eq_of_lt (by omega)]
    rfl
  rw [e1, Nat.testBit, Nat.and_comm]
  show _ = 0 ↔ _
  generalize 1 &&& x.toUInt64.toNat >>> s = y
  by_cases q : y = 0
  · simp [q]
  · simp [q]
theorem bN_or {x y : Int64} {s : Nat} : (bN (x ||| y)).testBit s = ((bN x).testBit s || (bN y).testBit s) := by
  unfold bN
  have : (x ||| y).toUInt64 = x.toUInt64 ||| y.toUInt64 := rfl
  rw [this, UInt64.toNat_or, Nat.testBit_or]
theorem bN_one {u s : Nat} (hu : u < 64) : (bN (jshl (1 : Int64) (nI u))).testBit s = decide (u = s) := by
  unfold bN
  rw [sh1 u hu, Nat.testBit_two_pow]
