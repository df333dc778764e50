/-! ### bits: numbers below 2^31 as Nats -/
theorem bv_n (a : Nat) : (iI (a : Int)).toBitVec = BitVec.ofNat 32 a := by
  show BitVec.ofInt 32 (a : Int) = _
  exact BitVec.ofInt_natCast 32 a
theorem bv_i {x : Int32} {n : Nat} (h : x.toBitVec = BitVec.ofNat 32 n) (hn : n < 2147483648) : x.toInt = (n : Int) := by
  show x.toBitVec.toInt = _
  rw [h, BitVec.toInt_eq_toNat_of_lt (by rw [BitVec.toNat_ofNat]; omega), BitVec.toNat_ofNat, Nat.mod_eq_of_lt (by omega)]
theorem lt231 {a : Nat} (h : a < 2147483648) : a < 2 ^ 32 := by omega
theorem gOr_n {a b : Nat} (ha : a < 2147483648) (hb : b < 2147483648) : gOr (a : Int) (b : Int) = ((a ||| b : Nat) : Int) := by
  unfold gOr
  refine bv_i ?_ (Nat.or_lt_two_pow (n := 31) ha hb)
  rw [Int32.toBitVec_or, bv_n, bv_n]
  apply BitVec.eq_of_toNat_eq
  rw [BitVec.toNat_or, BitVec.toNat_ofNat, BitVec.toNat_ofNat, BitVec.toNat_ofNat, Nat.mod_eq_of_lt (lt231 ha), Nat.mod_eq_of_lt (lt231 hb), Nat.mod_eq_of_lt (Nat.or_lt_two_pow (n := 32) (lt231 ha) (lt231 hb))]
theorem gAnd_n {a b : Nat} (ha : a < 2147483648) (hb : b < 2147483648) : gAnd (a : Int) (b : Int) = ((a &&& b : Nat) : Int) := by
  unfold gAnd
  refine bv_i ?_ (Nat.and_lt_two_pow (n := 31) a hb)
  rw [Int32.toBitVec_and, bv_n, bv_n]
  apply BitVec.eq_of_toNat_eq
  rw [BitVec.toNat_and, BitVec.toNat_ofNat, BitVec.toNat_ofNat, BitVec.toNat_ofNat, Nat.mod_eq_of_lt (lt231 ha), Nat.mod_eq_of_lt (lt231 hb), Nat.mod_eq_of_lt (Nat.and_lt_two_pow (n := 32) a (lt231 hb))]
theorem sh_n {t : Nat} (h : t < 32) : (iI (t : Int) &&& 31).toBitVec.smod 32 = BitVec.ofNat 32 t := by
  have key : ∀ t : Fin 32, (iI ((t.val : Nat) : Int) &&& 31).toBitVec.smod 32 = BitVec.ofNat 32 t.val := by decide +kernel
  exact key ⟨t, h⟩
theorem gShl_n {t : Nat} (h : t < 31) : gShl 1 (t : Int) = ((2 ^ t : Nat) : Int) := by
  have key : ∀ t : Fin 31, gShl 1 ((t.val : Nat) : Int) = ((2 ^ t.val : Nat) : Int) := by decide +kernel
  exact key ⟨t, h⟩
theorem gShr_n {a t : Nat} (ha : a < 2147483648) (ht : t < 31) : gShr (a : Int) (t : Int) = ((a >>> t : Nat) : Int) := by
  unfold gShr
  have hlt : a >>> t < 2147483648 := Nat.lt_of_le_of_lt (by rw [Nat.shiftRight_eq_div_pow]; exact Nat.div_le_self _ _) ha
  refine bv_i ?_ hlt
  rw [Int32.toBitVec_shiftRight, sh_n (by omega), bv_n]
  apply BitVec.eq_of_toNat_eq
  rw [BitVec.toNat_sshiftRight'_of_msb_false, BitVec.toNat_ofNat, BitVec.toNat_ofNat, BitVec.toNat_ofNat, Nat.mod_eq_of_lt (lt231 ha), Nat.mod_eq_of_lt (by omega), Nat.mod_eq_of_lt (by omega)]
  rw [BitVec.msb_eq_decide, BitVec.toNat_ofNat, Nat.mod_eq_of_lt (lt231 ha)]
  simpa using ha
theorem bit_n {a t : Nat} (ha : a < 2147483648) (ht : t < 31) : gAnd (gShr (a : Int) (t : Int)) 1 = if a.testBit t = true then 1 else 0 := by
  have hlt : a >>> t < 2147483648 := Nat.lt_of_le_of_lt (by rw [Nat.shiftRight_eq_div_pow]; exact Nat.div_le_self _ _) ha
  rw [gShr_n ha ht, show (1 : Int) = ((1 : Nat) : Int) from rfl, gAnd_n hlt (by decide), Nat.and_one_is_mod, Nat.testBit_eq_decide_div_mod_eq, Nat.shiftRight_eq_div_pow]
  generalize a / 2 ^ t = z
  by_cases h : z % 2 = 1
  · rw [if_pos (by simpa using h), h]
  · rw [if_neg (by simpa using h), show z % 2 = 0 by omega]
    rfl
theorem bit_1 {a t : Nat} (ha : a < 2147483648) (ht : t < 31) : (gAnd (gShr (a : Int) (t : Int)) 1 = 1) ↔ a.testBit t = true := by
  rw [bit_n ha ht]
  by_cases h : a.testBit t = true
  · rw [if_pos h]; exact ⟨fun _ => h, fun _ => rfl⟩
  · rw [if_neg h]; exact ⟨fun q => absurd q (by decide), fun q => absurd q h⟩
theorem bit_0 {a t : Nat} (ha : a < 2147483648) (ht : t < 31) : (gAnd (gShr (a : Int) (t : Int)) 1 = 0) ↔ a.testBit t = false := by
  rw [bit_n ha ht]
  by_cases h : a.testBit t = true
  · rw [if_pos h, h]; exact ⟨fun q => absurd q (by decide), fun q => absurd q (by decide)⟩
  · rw [if_neg h]; exact ⟨fun _ => Bool.eq_false_iff.mpr h, fun _ => rfl⟩
theorem sub_n {a g : Nat} (ha : a < 2147483648) : (gAnd (a : Int) (gXor (g : Int) (-1)) = 0) ↔ ∀ t, t < 31 → a.testBit t = true → g.testBit t = true := by
  have e : (gAnd (a : Int) (gXor (g : Int) (-1)) = 0) ↔ BitVec.ofNat 32 a &&& ~~~ BitVec.ofNat 32 g = 0#32 := by
    unfold gAnd gXor
    rw [← iI_of, ← Int32.toInt_zero, Int32.toInt_inj, ← Int32.toBitVec_inj, Int32.toBitVec_and, Int32.toBitVec_xor, bv_n, bv_n]
    show BitVec.ofNat 32 a &&& (BitVec.ofNat 32 g ^^^ BitVec.allOnes 32) = 0#32 ↔ _
    rw [BitVec.xor_allOnes]
  rw [e]
  constructor
  · intro h t ht hat
    have q := congrArg (fun x => x.getLsbD t) h
    simp only [BitVec.getLsbD_and, BitVec.getLsbD_not, BitVec.getLsbD_ofNat, BitVec.getLsbD_zero, hat, show t < 32 by omega, decide_true, Bool.true_and] at q
    simpa using q
  · intro h
    apply BitVec.eq_of_getLsbD_eq
    intro t ht
    simp only [BitVec.getLsbD_and, BitVec.getLsbD_not, BitVec.getLsbD_ofNat, BitVec.getLsbD_zero, ht, decide_true, Bool.true_and]
    by_cases hat : a.testBit t = true
    · by_cases h31 : t < 31
      · rw [h t h31 hat, hat]; simp
      · have : a.testBit t = false := Nat.testBit_lt_two_pow (Nat.lt_of_lt_of_le ha (by rw [show t = 31 by omega]; decide))
        rw [this] at hat
        cases hat
    · rw [Bool.eq_false_iff.mpr hat]; simp
theorem and0_n {a g : Nat} (ha : a < 2147483648) (hg : g < 2147483648) : (gAnd (a : Int) (g : Int) = 0) ↔ ∀ t, t < 31 → a.testBit t = true → g.testBit t = false := by
  rw [gAnd_n ha hg]
  constructor
  · intro h t ht hat
    have h' : a &&& g = 0 := by omega
    have q := congrArg (fun x => x.testBit t) h'
    simp only [Nat.testBit_and, hat, Bool.true_and, Nat.zero_testBit] at q
    exact q
  · intro h
    have h' : a &&& g = 0 := by
      apply Nat.eq_of_testBit_eq
      intro t
      rw [Nat.testBit_and, Nat.zero_testBit]
      by_cases hat : a.testBit t = true
      · by_cases h31 : t < 31
        · rw [h t h31 hat, hat]; rfl
        · have : a.testBit t = false := Nat.testBit_lt_two_pow (Nat.lt_of_lt_of_le ha (Nat.pow_le_pow_right (n := 2) (by decide) (show 31 ≤ t by omega)))
          rw [this]; rfl
      · rw [Bool.eq_false_iff.mpr hat]; rfl
    rw [h']
    rfl
theorem or_bit (a b t : Nat) : ((a ||| b).testBit t = true) ↔ (a.testBit t = true ∨ b.testBit t = true) := by
  rw [Nat.testBit_or]
  simp
theorem pow_bit (u t : Nat) : ((2 ^ u).testBit t = true) ↔ t = u := by
  rw [Nat.testBit_two_pow]
  constructor
  · intro h; exact (of_decide_eq_true h).symm
  · intro h; exact decide_eq_true h.symm
theorem lt14_31 {a : Nat} (h : a < 16384) : a < 2147483648 := by omega
theorem bit_ge {a t : Nat} (h : a < 16384) (ht : 14 ≤ t) : a.testBit t = false := Nat.testBit_lt_two_pow (Nat.lt_of_lt_of_le h (Nat.pow_le_pow_right (n := 2) (by decide) ht))
theorem bits_ext {a b : Nat} (h : ∀ t, a.testBit t = true ↔ b.testBit t = true) : a = b := by
  apply Nat.eq_of_testBit_eq
  intro t
  rw [Bool.eq_iff_iff]
  exact h t
theorem or_14 {a b : Nat} (ha : a < 16384) (hb : b < 16384) : a ||| b < 16384 := Nat.or_lt_two_pow (n := 14) ha hb
theorem pow_14 {u : Nat} (h : u < 14) : 2 ^ u < 16384 := Nat.pow_lt_pow_right (a := 2) (by decide) h
