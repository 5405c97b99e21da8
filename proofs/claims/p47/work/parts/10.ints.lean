/-! numbers: Int32 of a natural number, places in a row -/
theorem mI_toInt {n : Nat} (h : n < 2 ^ 31) : (nI n).toInt = (n : Int) := by
  unfold nI
  rw [Int32.toInt_ofNat_of_lt (by simpa using h)]
theorem mI_lt {a b : Nat} (ha : a < 2 ^ 31) (hb : b < 2 ^ 31) : nI a < nI b ↔ a < b := by
  rw [Int32.lt_iff_toInt_lt, mI_toInt ha, mI_toInt hb]; omega
theorem mI_le {a b : Nat} (ha : a < 2 ^ 31) (hb : b < 2 ^ 31) : nI a ≤ nI b ↔ a ≤ b := by
  rw [Int32.le_iff_toInt_le, mI_toInt ha, mI_toInt hb]; omega
theorem mI_nonneg {a : Nat} (ha : a < 2 ^ 31) : ¬ nI a < 0 := by
  rw [Int32.lt_iff_toInt_lt, mI_toInt ha]
  show ¬ ((a : Int) < 0)
  omega
theorem mI_eq {a b : Nat} (ha : a < 2 ^ 31) (hb : b < 2 ^ 31) : nI a = nI b ↔ a = b := by
  constructor
  · intro h
    have := congrArg Int32.toInt h
    rw [mI_toInt ha, mI_toInt hb] at this
    omega
  · intro h; rw [h]
theorem mI_clamp {a : Nat} (ha : a < 2 ^ 31) : (nI a).toNatClampNeg = a := by
  unfold Int32.toNatClampNeg
  rw [mI_toInt ha]
  rfl
theorem mI_add (a b : Nat) : nI a + nI b = nI (a + b) := by unfold nI; rw [Int32.ofNat_add]
theorem mI_succ (a : Nat) : nI a + 1 = nI (a + 1) := by unfold nI; rw [Int32.ofNat_add]; rfl
theorem mI_pred {a : Nat} (h : 0 < a) : nI a - 1 = nI (a - 1) := by
  have : nI a = nI (a - 1) + 1 := by rw [mI_succ]; congr 1; omega
  rw [this, Int32.add_sub_cancel]
theorem mI_z : nI 0 = 0 := rfl
theorem mI_ix {j n : Nat} (hj : j < n) (hn : n ≤ 2 ^ 31) : gIx (nI j) j n := ⟨mI_nonneg (by omega), mI_clamp (by omega), hj⟩
theorem i32_cases (i : Int32) : i < 0 ∨ ∃ j, j < 2 ^ 31 ∧ i = nI j := by
  by_cases h : i < 0
  · exact Or.inl h
  · refine Or.inr ⟨i.toNatClampNeg, ?_, ?_⟩
    · have := Int32.toInt_lt i
      unfold Int32.toNatClampNeg
      omega
    · apply Int32.toInt_inj.mp
      have h1 := Int32.toInt_lt i
      have h2 : ¬ i.toInt < 0 := by
        rw [Int32.lt_iff_toInt_lt] at h
        exact h
      rw [mI_toInt (by unfold Int32.toNatClampNeg; omega)]
      unfold Int32.toNatClampNeg
      omega
/-- the place that an int names, if it is none less than 0 -/
def pIx (i : Int32) : Option Nat := if i < 0 then none else some i.toNatClampNeg
theorem pIx_neg {i : Int32} (h : i < 0) : pIx i = none := if_pos h
theorem pIx_mI {j : Nat} (h : j < 2 ^ 31) : pIx (nI j) = some j := by unfold pIx; rw [if_neg (mI_nonneg h), mI_clamp h]
/-- -1, or a place -/
def oI : Option Nat → Int32
  | none => -1
  | some j => nI j
theorem pIx_oI {o : Option Nat} (h : ∀ j, o = some j → j < 2 ^ 31) : pIx (oI o) = o := by
  cases o with
  | none => exact pIx_neg (by decide)
  | some j => exact pIx_mI (h j rfl)
theorem oI_neg {o : Option Nat} (h : ∀ j, o = some j → j < 2 ^ 31) : oI o < 0 ↔ o = none := by
  cases o with
  | none => simp only [oI, iff_true]; decide
  | some j => simp only [oI]; exact ⟨fun q => absurd q (mI_nonneg (h j rfl)), fun q => by cases q⟩
