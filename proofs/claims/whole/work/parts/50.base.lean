/-! pure part: small rows -/
def bI (c : Prop) [Decidable c] : Int32 := if c then 1 else 0
theorem bI_t {c : Prop} [Decidable c] (h : c) : bI c = 1 := if_pos h
theorem bI_f {c : Prop} [Decidable c] (h : ¬ c) : bI c = 0 := if_neg h
theorem bI_0 {c : Prop} [Decidable c] : bI c = 0 ↔ ¬ c := by
  by_cases h : c
  · rw [bI_t h]
    exact ⟨fun q => absurd q (by decide), fun q => absurd h q⟩
  · rw [bI_f h]
    exact ⟨fun _ => h, fun _ => rfl⟩
theorem bI_n {c : Prop} [Decidable c] : ¬ bI c = 0 ↔ c := by rw [bI_0, Decidable.not_not]
theorem bI_01 {c : Prop} [Decidable c] : bI c = 0 ∨ bI c = 1 := by
  by_cases h : c
  · exact Or.inr (bI_t h)
  · exact Or.inl (bI_f h)
theorem bI_c {c d : Prop} [Decidable c] [Decidable d] (h : c ↔ d) : bI c = bI d := by
  by_cases hd : d
  · rw [bI_t hd, bI_t (h.mpr hd)]
  · rw [bI_f hd, bI_f (fun q => hd (h.mp q))]
theorem lgc_lt {x y : Int64} : lg_cmp x y < 0 ↔ x.toInt < y.toInt := by
  unfold lg_cmp
  by_cases h : x > y
  · rw [if_pos h]
    have h2 := Int64.lt_iff_toInt_lt.mp h
    exact ⟨fun q => absurd q (by decide), fun q => by omega⟩
  · rw [if_neg h]
    have h2 : ¬ y.toInt < x.toInt := fun q => h (Int64.lt_iff_toInt_lt.mpr q)
    by_cases e : x = y
    · rw [if_pos e]
      subst e
      exact ⟨fun q => absurd q (by decide), fun q => by omega⟩
    · rw [if_neg e]
      have h3 : ¬ x.toInt = y.toInt := fun q => e (Int64.toInt_inj.mp q)
      exact ⟨fun _ => by omega, fun _ => by decide⟩
theorem lgc_gt {x y : Int64} : 0 < lg_cmp x y ↔ y.toInt < x.toInt := by
  unfold lg_cmp
  by_cases h : x > y
  · rw [if_pos h]
    have h2 := Int64.lt_iff_toInt_lt.mp h
    exact ⟨fun _ => h2, fun _ => by decide⟩
  · rw [if_neg h]
    have h2 : ¬ y.toInt < x.toInt := fun q => h (Int64.lt_iff_toInt_lt.mpr q)
    by_cases e : x = y
    · rw [if_pos e]
      exact ⟨fun q => absurd q (by decide), fun q => absurd q h2⟩
    · rw [if_neg e]
      exact ⟨fun q => absurd q (by decide), fun q => absurd q h2⟩
theorem lgc_eq {x y : Int64} : lg_cmp x y = 0 ↔ x = y := by
  unfold lg_cmp
  by_cases h : x > y
  · rw [if_pos h]
    refine ⟨fun q => absurd q (by decide), fun q => ?_⟩
    subst q
    have := Int64.lt_iff_toInt_lt.mp h
    omega
  · rw [if_neg h]
    by_cases e : x = y
    · rw [if_pos e]
      exact ⟨fun _ => e, fun _ => rfl⟩
    · rw [if_neg e]
      exact ⟨fun q => absurd q (by decide), fun q => absurd q e⟩
theorem i64 (x : Int32) : (Int32.toInt64 x).toInt = x.toInt := Int32.toInt_toInt64 x
theorem i32_lt {x y : Int32} : x < y ↔ x.toInt < y.toInt := Int32.lt_iff_toInt_lt
theorem i32_le {x y : Int32} : x ≤ y ↔ x.toInt ≤ y.toInt := Int32.le_iff_toInt_le
theorem i32_eq {x y : Int32} : x = y ↔ x.toInt = y.toInt := Int32.toInt_inj.symm
theorem i32_rng (x : Int32) : -2147483648 ≤ x.toInt ∧ x.toInt < 2147483648 := ⟨x.minValue_le_toInt, x.toInt_lt⟩
theorem i32_add {x y : Int32} (h1 : -2147483648 ≤ x.toInt + y.toInt) (h2 : x.toInt + y.toInt < 2147483648) : (x + y).toInt = x.toInt + y.toInt := by
  rw [Int32.toInt_add]
  exact Int.bmod_eq_of_le (by omega) (by omega)
theorem i32_sub {x y : Int32} (h1 : -2147483648 ≤ x.toInt - y.toInt) (h2 : x.toInt - y.toInt < 2147483648) : (x - y).toInt = x.toInt - y.toInt := by
  rw [Int32.toInt_sub]
  exact Int.bmod_eq_of_le (by omega) (by omega)
theorem i32_mul {x y : Int32} (h1 : -2147483648 ≤ x.toInt * y.toInt) (h2 : x.toInt * y.toInt < 2147483648) : (x * y).toInt = x.toInt * y.toInt := by
  rw [Int32.toInt_mul]
  exact Int.bmod_eq_of_le (by omega) (by omega)
theorem i32_clamp {x : Int32} (h : 0 ≤ x.toInt) : (x.toNatClampNeg : Int) = x.toInt := by
  show ((x.toInt.toNat : Nat) : Int) = x.toInt
  omega
theorem vin {x : Int32} {n : Nat} : vp_in x n ↔ 0 ≤ x.toInt ∧ x.toInt < n := vp_in_iff
theorem nI_int {n : Nat} (h : n < 2 ^ 31) : (nI n).toInt = n := nI_toInt h
/-- an int of known value -/
theorem nI_is {x : Int32} {n : Nat} (h : x.toInt = n) : x = nI n := by
  have h1 := i32_rng x
  apply i32_eq.mpr
  rw [nI_int (by omega), h]
theorem clampI {n : Nat} (h : n < 2 ^ 31) : Int32.toNatClampNeg (nI n) = n := nI_clamp h
section SPEC0
variable {X : Nat × (Nat → Int32)} {M : Mem} {Q : Option PV → Mem → Prop}
theorem s_in {a1 a2 a3 : Int64} (h : Q (some (pI (bI (a2.toInt ≤ a1.toInt ∧ a1.toInt ≤ a3.toInt)))) M) : TT X kX9_in 0 [some (pL a1), none, some (pL a2), none, some (pL a3), none] [] M Q := by
  refine rX9_in_0 ⟨fun z => ?_, fun z => ⟨fun z2 => ?_, fun z2 => ?_⟩⟩
  · rw [lgc_lt] at z
    rwa [bI_f (by omega)] at h
  · rw [lgc_lt] at z
    rw [lgc_gt] at z2
    rwa [bI_f (by omega)] at h
  · rw [lgc_lt] at z
    rw [lgc_gt] at z2
    rwa [bI_t (by omega)] at h
theorem s_isRow {a1 : Int32} (h : Q (some (pI (bI (0 ≤ a1.toInt ∧ a1.toInt < 8)))) M) : TT X kX9_isRow 0 [some (pI a1)] [] M Q := by
  refine rX9_isRow_0 (s_in ?_)
  refine ⟨bI_01, ?_⟩
  rwa [bI_c (d := 0 ≤ a1.toInt ∧ a1.toInt < 8) (by rw [i64, show (0 : Int64).toInt = 0 from rfl, show (7 : Int64).toInt = 7 from rfl]; omega)]
theorem s_isNumber {a1 : Int32} (h : Q (some (pI (bI (0 ≤ a1.toInt ∧ a1.toInt < 8)))) M) : TT X kX5_isNumber 0 [some (pR (5, 0, 0)), some (pI a1)] [] M Q := by
  refine rX5_isNumber_0 ⟨fun z => ?_, fun z => ⟨fun z2 => ?_, fun z2 => ?_⟩⟩
  · rw [i32_lt, show (0 : Int32).toInt = 0 from rfl] at z
    rwa [bI_f (by omega)] at h
  · rw [i32_le, show (8 : Int32).toInt = 8 from rfl] at z2
    rwa [bI_f (by omega)] at h
  · rw [i32_lt, show (0 : Int32).toInt = 0 from rfl] at z
    rw [i32_le, show (8 : Int32).toInt = 8 from rfl] at z2
    rwa [bI_t (by omega)] at h
end SPEC0
