/-! ## whole numbers: each number of the pictures is an Int in the range of an int; an operation wraps round by wI -/
def iI (e : Int) : Int32 := Int32.ofInt e
def nmI (e : Int) : Prop := -2147483648 ≤ e ∧ e ≤ 2147483647
def wI (e : Int) : Int := (e + 2147483648) % 4294967296 - 2147483648
theorem nmI_w (e : Int) : nmI (wI e) := by unfold nmI wI; omega
theorem wI_eq {e : Int} (h : nmI e) : wI e = e := by unfold nmI at h; unfold wI; omega
theorem iI_T {e : Int} (h : nmI e) : (iI e).toInt = e := Int32.toInt_ofInt_of_le h.1 (by have := h.2; omega)
theorem iI_bmod (e : Int) : (iI e).toInt = e.bmod 4294967296 := Int32.toInt_ofInt
theorem iI_TW (e : Int) : (iI e).toInt = wI e := by
  rw [iI_bmod]; unfold wI Int.bmod
  by_cases h : e % (4294967296 : Nat) < ((4294967296 : Nat) + 1) / 2
  · rw [if_pos h]; omega
  · rw [if_neg h]; omega
theorem iI_w (e : Int) : iI (wI e) = iI e := Int32.toInt_inj.mp (by rw [iI_T (nmI_w e), iI_TW])
theorem iI_of (x : Int32) : x = iI x.toInt := (Int32.ofInt_toInt x).symm
theorem nmI_of (x : Int32) : nmI x.toInt := ⟨Int32.le_toInt x, by have := Int32.toInt_lt x; omega⟩
theorem iI_ex (x : Int32) : ∃ e : Int, nmI e ∧ x = iI e := ⟨x.toInt, nmI_of x, iI_of x⟩
theorem iI_lt {a b : Int} (ha : nmI a) (hb : nmI b) : (iI a < iI b) ↔ a < b := by rw [Int32.lt_iff_toInt_lt, iI_T ha, iI_T hb]
theorem iI_le {a b : Int} (ha : nmI a) (hb : nmI b) : (iI a ≤ iI b) ↔ a ≤ b := by rw [Int32.le_iff_toInt_le, iI_T ha, iI_T hb]
theorem iI_eq {a b : Int} (ha : nmI a) (hb : nmI b) : (iI a = iI b) ↔ a = b := by
  constructor
  · intro h; rw [← iI_T ha, ← iI_T hb, h]
  · intro h; rw [h]
theorem nmI_0 : nmI 0 := by unfold nmI; omega
theorem iI_0 : iI 0 = 0 := rfl
theorem iI_lt0 {a : Int} (ha : nmI a) : (iI a < 0) ↔ a < 0 := by rw [← iI_0, iI_lt ha nmI_0]
theorem iI_le0 {a : Int} (ha : nmI a) : (iI a ≤ 0) ↔ a ≤ 0 := by rw [← iI_0, iI_le ha nmI_0]
theorem iI_0lt {a : Int} (ha : nmI a) : (0 < iI a) ↔ 0 < a := by rw [← iI_0, iI_lt nmI_0 ha]
theorem iI_0le {a : Int} (ha : nmI a) : (0 ≤ iI a) ↔ 0 ≤ a := by rw [← iI_0, iI_le nmI_0 ha]
theorem iI_eq0 {a : Int} (ha : nmI a) : (iI a = 0) ↔ a = 0 := by rw [← iI_0, iI_eq ha nmI_0]
theorem iI_add (a b : Int) : iI a + iI b = iI (wI (a + b)) := by rw [iI_w]; exact (Int32.ofInt_add a b).symm
theorem iI_sub (a b : Int) : iI a - iI b = iI (wI (a - b)) := by rw [iI_w]; exact (Int32.ofInt_sub a b).symm
theorem iI_mul (a b : Int) : iI a * iI b = iI (wI (a * b)) := by rw [iI_w]; exact (Int32.ofInt_mul a b).symm
theorem iI_neg (a : Int) : - iI a = iI (wI (- a)) := by rw [iI_w]; exact (Int32.ofInt_neg a).symm
theorem iI_div {a b : Int} (ha : nmI a) (hb : nmI b) : iI a / iI b = iI (wI (a.tdiv b)) := by
  apply Int32.toInt_inj.mp
  rw [Int32.toInt_div, iI_T ha, iI_T hb, iI_w, iI_bmod]
def gRem (a b : Int) : Int := wI (a.tmod b)
theorem iI_rem {a b : Int} (ha : nmI a) (hb : nmI b) : iI a - iI a / iI b * iI b = iI (gRem a b) := by
  rw [iI_div ha hb, iI_mul, iI_sub]
  unfold gRem
  rw [iI_w, iI_w]
  have h : a.tmod b = a - b * a.tdiv b := by have := Int.mul_tdiv_add_tmod a b; omega
  apply Int32.toInt_inj.mp
  rw [iI_TW, iI_TW, h]
  have h1 : wI (a.tdiv b) * b = a.tdiv b * b + (wI (a.tdiv b) - a.tdiv b) * b := by rw [← Int.add_mul]; congr 1; omega
  have h2 : ∃ k : Int, wI (a.tdiv b) - a.tdiv b = 4294967296 * k := ⟨(wI (a.tdiv b) - a.tdiv b) / 4294967296, by unfold wI; omega⟩
  obtain ⟨k, hk⟩ := h2
  rw [h1, hk, Int.mul_comm (a.tdiv b) b, Int.mul_assoc]
  unfold wI
  generalize b * a.tdiv b = z
  generalize k * b = y
  omega
def gAnd (a b : Int) : Int := (iI a &&& iI b).toInt
def gOr (a b : Int) : Int := (iI a ||| iI b).toInt
def gXor (a b : Int) : Int := (iI a ^^^ iI b).toInt
def gShl (a b : Int) : Int := (iI a <<< (iI b &&& 31)).toInt
def gShr (a b : Int) : Int := (iI a >>> (iI b &&& 31)).toInt
def gMax (a b : Int) : Int := if a < b then b else a
theorem nmI_and (a b : Int) : nmI (gAnd a b) := nmI_of _
theorem nmI_or (a b : Int) : nmI (gOr a b) := nmI_of _
theorem nmI_xor (a b : Int) : nmI (gXor a b) := nmI_of _
theorem nmI_shl (a b : Int) : nmI (gShl a b) := nmI_of _
theorem nmI_shr (a b : Int) : nmI (gShr a b) := nmI_of _
theorem nmI_rem (a b : Int) : nmI (gRem a b) := nmI_w _
theorem iI_clamp {a : Int} (ha : nmI a) : (iI a).toNatClampNeg = a.toNat := by rw [← Int32.toNat_toInt, iI_T ha]
theorem iI_in {a : Int} {n : Nat} (ha : nmI a) (h : 0 ≤ a ∧ a < (n : Int)) : vp_in (iI a) n := by
  unfold vp_in
  rw [iI_lt0 ha, iI_clamp ha]
  omega
/-! ## the pictures' little monad -/
def ob {α β : Type} (x : Option α) (f : α → Option β) : Option β := x.bind f
def og {β : Type} (c : Prop) [Decidable c] (x : Option β) : Option β := if c then x else none
def oj {κ β : Type} (k : κ) (f : κ → β) : β := f k
theorem ob_e {α β : Type} {x : Option α} {f : α → Option β} {p : β} (h : ob x f = some p) : ∃ a, x = some a ∧ f a = some p := by
  cases x with
  | none => cases h
  | some a => exact ⟨a, rfl, h⟩
theorem ob_s {α β : Type} {f : α → Option β} (a : α) : ob (some a) f = f a := rfl
theorem ob_n {α β : Type} {f : α → Option β} : ob none f = none := rfl
theorem og_e {β : Type} {c : Prop} [Decidable c] {x : Option β} {p : β} (h : og c x = some p) : c ∧ x = some p := by
  unfold og at h
  by_cases hc : c
  · rw [if_pos hc] at h; exact ⟨hc, h⟩
  · rw [if_neg hc] at h; cases h
theorem og_t {β : Type} {c : Prop} [Decidable c] {x : Option β} (hc : c) : og c x = x := if_pos hc
theorem oj_e {κ β : Type} {k : κ} {f : κ → β} {r : β} (h : oj k f = r) : ∃ k' : κ, k' = k ∧ f k' = r := ⟨k, rfl, h⟩
theorem it_t {β : Type} {c : Prop} [Decidable c] {x y r : β} (h : (if c then x else y) = r) (hc : c) : x = r := by rw [if_pos hc] at h; exact h
theorem it_f {β : Type} {c : Prop} [Decidable c] {x y r : β} (h : (if c then x else y) = r) (hc : ¬ c) : y = r := by rw [if_neg hc] at h; exact h
/-! ## the cells -/
abbrev gG : Type := Nat × va_G × (Nat → ClassId)
abbrev gM : Type := Nat → Nat → Nat → Int
def gU (M : gM) (r i k : Nat) (v : Int) : gM := fun r' i' k' => if r' = r ∧ i' = i ∧ k' = k then v else M r' i' k'
def g1 (m : Nat → Int) (k : Nat) (v : Int) : Nat → Int := fun j => if j = k then v else m j
theorem gU_same (M : gM) (r i k : Nat) (v : Int) : gU M r i k v r i = g1 (M r i) k v := by funext j; simp [gU, g1]
theorem gU_other {M : gM} {r i k r' i' : Nat} {v : Int} (h : ¬ (r' = r ∧ i' = i)) : gU M r i k v r' i' = M r' i' := by
  funext j
  unfold gU
  rw [if_neg (fun q => h ⟨q.1, q.2.1⟩)]

def gLay : List (Nat × Nat) := [(0, 0), (1, 0), (12, 0), (13, 0), (14, 0), (15, 0), (16, 0), (2, 0), (26, 0), (21, 0), (22, 0), (7, 14), (25, 14), (8, 14), (17, 14), (18, 14), (19, 14), (20, 14), (9, 56), (9, 57), (9, 58), (9, 59), (8, 15), (17, 15), (18, 15), (19, 15), (20, 15), (7, 0), (25, 0), (8, 0), (17, 0), (18, 0), (19, 0), (20, 0), (9, 0), (9, 1), (9, 2), (9, 3), (7, 1), (25, 1), (8, 1), (17, 1), (18, 1), (19, 1), (20, 1), (9, 4), (9, 5), (9, 6), (9, 7), (7, 2), (25, 2), (8, 2), (17, 2), (18, 2), (19, 2), (20, 2), (9, 8), (9, 9), (9, 10), (9, 11), (7, 3), (25, 3), (8, 3), (17, 3), (18, 3), (19, 3), (20, 3), (9, 12), (9, 13), (9, 14), (9, 15), (7, 4), (25, 4), (8, 4), (17, 4), (18, 4), (19, 4), (20, 4), (9, 16), (9, 17), (9, 18), (9, 19), (7, 5), (25, 5), (8, 5), (17, 5), (18, 5), (19, 5), (20, 5), (9, 20), (9, 21), (9, 22), (9, 23), (7, 6), (25, 6), (8, 6), (17, 6), (18, 6), (19, 6), (20, 6), (9, 24), (9, 25), (9, 26), (9, 27), (7, 7), (25, 7), (8, 7), (17, 7), (18, 7), (19, 7), (20, 7), (9, 28), (9, 29), (9, 30), (9, 31), (7, 8), (25, 8), (8, 8), (17, 8), (18, 8), (19, 8), (20, 8), (9, 32), (9, 33), (9, 34), (9, 35), (7, 9), (25, 9), (8, 9), (17, 9), (18, 9), (19, 9), (20, 9), (9, 36), (9, 37), (9, 38), (9, 39), (7, 10), (25, 10), (8, 10), (17, 10), (18, 10), (19, 10), (20, 10), (9, 40), (9, 41), (9, 42), (9, 43), (7, 11), (25, 11), (8, 11), (17, 11), (18, 11), (19, 11), (20, 11), (9, 44), (9, 45), (9, 46), (9, 47), (7, 12), (25, 12), (8, 12), (17, 12), (18, 12), (19, 12), (20, 12), (9, 48), (9, 49), (9, 50), (9, 51), (7, 13), (25, 13), (8, 13), (17, 13), (18, 13), (19, 13), (20, 13), (9, 52), (9, 53), (9, 54), (9, 55), (3, 0), (27, 0), (10, 0), (10, 1), (10, 2), (10, 3), (10, 4), (10, 5), (10, 6), (10, 7), (10, 8), (10, 9), (10, 10), (10, 11), (10, 12), (10, 13), (10, 14), (10, 15), (10, 16), (10, 17), (10, 18), (10, 19), (10, 20), (10, 21), (10, 22), (10, 23), (10, 24), (10, 25), (10, 26), (10, 27), (10, 28), (10, 29), (10, 30), (10, 31), (10, 32), (10, 33), (10, 34), (10, 35), (10, 36), (10, 37), (10, 38), (10, 39), (4, 0), (6, 0), (23, 0), (11, 0), (28, 0), (24, 0), (11, 1), (11, 2), (11, 3), (5, 0), (6, 1), (12, 1), (23, 1)]
def gPosT : List (List Nat) := [[0], [1], [7], [181], [223], [232], [224, 233], [27, 38, 49, 60, 71, 82, 93, 104, 115, 126, 137, 148, 159, 170, 11], [29, 40, 51, 62, 73, 84, 95, 106, 117, 128, 139, 150, 161, 172, 13, 22], [34, 35, 36, 37, 45, 46, 47, 48, 56, 57, 58, 59, 67, 68, 69, 70, 78, 79, 80, 81, 89, 90, 91, 92, 100, 101, 102, 103, 111, 112, 113, 114, 122, 123, 124, 125, 133, 134, 135, 136, 144, 145, 146, 147, 155, 156, 157, 158, 166, 167, 168, 169, 177, 178, 179, 180, 18, 19, 20, 21], [183, 184, 185, 186, 187, 188, 189, 190, 191, 192, 193, 194, 195, 196, 197, 198, 199, 200, 201, 202, 203, 204, 205, 206, 207, 208, 209, 210, 211, 212, 213, 214, 215, 216, 217, 218, 219, 220, 221, 222], [226, 229, 230, 231], [2, 234], [3], [4], [5], [6], [30, 41, 52, 63, 74, 85, 96, 107, 118, 129, 140, 151, 162, 173, 14, 23], [31, 42, 53, 64, 75, 86, 97, 108, 119, 130, 141, 152, 163, 174, 15, 24], [32, 43, 54, 65, 76, 87, 98, 109, 120, 131, 142, 153, 164, 175, 16, 25], [33, 44, 55, 66, 77, 88, 99, 110, 121, 132, 143, 154, 165, 176, 17, 26], [9], [10], [225, 235], [228], [28, 39, 50, 61, 72, 83, 94, 105, 116, 127, 138, 149, 160, 171, 12], [8], [182], [227]]
def gCntT : List Nat := [1, 1, 1, 1, 1, 1, 2, 15, 16, 60, 40, 4, 2, 1, 1, 1, 1, 16, 16, 16, 16, 1, 1, 2, 1, 15, 1, 1, 1]
def gPos (r i : Nat) : Nat := (gPosT.getD r []).getD i 0
def gCnt (r : Nat) : Nat := gCntT.getD r 0
def gAd (G : gG) (r i : Nat) : Nat := G.1 + gPos r i
def gAct (x : Int) : Option Nat := if x < 0 then none else some x.toNat
theorem gAct_nat (a : Nat) : gAct (a : Int) = some a := by unfold gAct; rw [if_neg (by omega)]; simp
theorem gAct_m1 : gAct (-1) = none := rfl
def gL (n : Nat) : Int64 := Int64.ofInt n
def gCell (G : gG) (r i : Nat) (m : Nat → Int) : va_E := match r with
  | 0 => .inr (11, [.ref (gAd G 1 0), .ref (gAd G 2 0), .ref (gAd G 3 0), .ref (gAd G 4 0), .ref (gAd G 5 0), .int (iI (m 5)), .int (iI (m 6))])
  | 1 => .inr (7, [.ref (gAd G 12 0), .ref (gAd G 13 0), .ref (gAd G 14 0), .ref (gAd G 15 0), .ref (gAd G 16 0), .int (iI (m 5))])
  | 2 => .inr (5, [.ref (gAd G 26 0), .ref (gAd G 7 14), .ref (gAd G 21 0), .ref (gAd G 22 0), .ref (gAd G 8 15), .int (iI (m 5))])
  | 3 => .inr (1, [.ref (gAd G 27 0), .int (iI (m 1)), .int (iI (m 2))])
  | 4 => .inr (2, [.ref (gAd G 2 0), .ref (gAd G 3 0), .ref (gAd G 6 0), .ref (gAd G 11 0), .ref (gAd G 28 0), .ref (gAd G 24 0), .int (iI (m 6)), .int (iI (m 7)), .int (iI (m 8)), .int (iI (m 9)), .int (iI (m 10))])
  | 5 => .inr (4, [.ref (gAd G 2 0), .ref (gAd G 1 0), .ref (gAd G 6 1), .int (iI (m 3))])
  | 6 => .inr (9, [.ref (gAd G 14 0), .ref (gAd G 12 i), .ref (gAd G 23 i)])
  | 7 => .inr (8, [.int (iI (m 0)), .ref (gAd G 8 i), .ref (gAd G 25 i), .int (iI (m 3)), .int (iI (m 4)), .int (iI (m 5)), .int (iI (m 6)), .int (iI (m 7)), .int (iI (m 8)), .int (iI (m 9)), .int (iI (m 10)), .int (iI (m 11)), .int (iI (m 12))])
  | 8 => .inr (6, [.ref (gAd G 13 0), .ref (gAd G 17 i), .ref (gAd G 18 i), .ref (gAd G 19 i), .ref (gAd G 20 i), .int (iI (m 5))])
  | 9 => .inr (0, [.int (iI (m 0)), .int (iI (m 1)), .int (iI (m 2)), .int (iI (m 3)), .int (iI (m 4)), .int (iI (m 5)), .int (iI (m 6)), .int (iI (m 7))])
  | 10 => .inr (3, [.int (iI (m 0)), .int (iI (m 1)), .int (iI (m 2)), .int (iI (m 3)), .int (iI (m 4)), .int (iI (m 5)), .int (iI (m 6))])
  | 11 => .inr (10, [.int (iI (m 0)), .int (iI (m 1)), .int (iI (m 2)), va_re (gAd G 9) (gAct (m 3)), .int (iI (m 4)), .int (iI (m 5)), .int (iI (m 6)), .int (iI (m 7))])
  | 12 => .inl (G.2.2 0, 16, .inl (fun k => iI (m k)))
  | 13 => .inl (G.2.2 0, 4, .inl (fun k => iI (m k)))
  | 14 => .inl (G.2.2 0, 4, .inl (fun k => iI (m k)))
  | 15 => .inl (G.2.2 0, 30, .inl (fun k => iI (m k)))
  | 16 => .inl (G.2.2 0, 30, .inl (fun k => iI (m k)))
  | 17 => .inl (G.2.2 0, 4, .inl (fun k => iI (m k)))
  | 18 => .inl (G.2.2 0, 4, .inl (fun k => iI (m k)))
  | 19 => .inl (G.2.2 0, 4, .inl (fun k => iI (m k)))
  | 20 => .inl (G.2.2 0, 4, .inl (fun k => iI (m k)))
  | 21 => .inl (G.2.2 0, 14, .inl (fun k => iI (m k)))
  | 22 => .inl (G.2.2 0, 14, .inl (fun k => iI (m k)))
  | 23 => .inl (G.2.2 0, 14, .inl (fun k => iI (m k)))
  | 24 => .inl (G.2.2 0, 5, .inl (fun k => iI (m k)))
  | 25 => .inl (G.2.2 2, 4, .inr (.inr (.inr (.inr (fun k => some (gAd G 9 (4 * i + k)))))))
  | 26 => .inl (G.2.2 4, 14, .inr (.inr (.inr (.inr (fun k => some (gAd G 7 k))))))
  | 27 => .inl (G.2.2 3, 40, .inr (.inr (.inr (.inr (fun k => some (gAd G 10 k))))))
  | 28 => .inl (G.2.2 5, 4, .inr (.inr (.inr (.inr (fun k => some (gAd G 11 k))))))
  | _ => .inr (0, [])
def gZ (r k : Nat) : Bool := match r with
  | 4 => k == 8 || k == 9 || k == 10
  | 9 => k == 5
  | 10 => k == 6
  | _ => false
abbrev gTys (G : gG) : List (ClassId × FieldType) := [(G.2.2 0, .int), (G.2.2 0, .int), (G.2.2 2, .object "BuildGrid$Action"), (G.2.2 3, .object "BuildGrid$Entry"), (G.2.2 4, .object "BuildGrid$Target"), (G.2.2 5, .object "BuildGrid$Worker")]
theorem gLay_ok : ∀ r, r < 29 → ∀ i, i < gCnt r → gPos r i < 236 ∧ gLay.getD (gPos r i) (0, 0) = (r, i) := by decide +kernel
theorem gLay_ok2 : ∀ k, k < 236 → (gLay.getD k (0, 0)).2 < gCnt (gLay.getD k (0, 0)).1 ∧ gPos (gLay.getD k (0, 0)).1 (gLay.getD k (0, 0)).2 = k := by decide +kernel
theorem gCnt_big {r : Nat} (h : 29 ≤ r) : gCnt r = 0 := by
  unfold gCnt
  rw [List.getD_eq_getElem?_getD, List.getElem?_eq_none (show gCntT.length ≤ r from h)]
  rfl
theorem gCnt_lt {r i : Nat} (h : i < gCnt r) : r < 29 := by
  rcases Nat.lt_or_ge r 29 with q | q
  · exact q
  · rw [gCnt_big q] at h; omega
def gN : Nat := 236
def gWn (G : gG) (M : gM) (n : Nat) : va_W := (List.range n).map (fun k => (G.1 + k, gCell G (gLay.getD k (0, 0)).1 (gLay.getD k (0, 0)).2 (M (gLay.getD k (0, 0)).1 (gLay.getD k (0, 0)).2)))
theorem gWn_at (G : gG) (M : gM) {n k : Nat} (h : k < n) : (gWn G M n)[k]? = some (G.1 + k, gCell G (gLay.getD k (0, 0)).1 (gLay.getD k (0, 0)).2 (M (gLay.getD k (0, 0)).1 (gLay.getD k (0, 0)).2)) := by
  unfold gWn
  rw [List.getElem?_map, List.getElem?_range h]
  rfl
theorem gWn_ge (G : gG) (M : gM) {n k : Nat} (h : n ≤ k) : (gWn G M n)[k]? = none := by
  unfold gWn
  apply List.getElem?_eq_none
  rw [List.length_map, List.length_range]
  exact h
theorem gWn_pos (G : gG) (M : gM) {n r i : Nat} (hi : i < gCnt r) (hn : gPos r i < n) : (gWn G M n)[gPos r i]? = some (gAd G r i, gCell G r i (M r i)) := by
  rw [gWn_at G M hn, (gLay_ok r (gCnt_lt hi) i hi).2]
  rfl
theorem gPos_lt {r i : Nat} (hi : i < gCnt r) : gPos r i < gN := (gLay_ok r (gCnt_lt hi) i hi).1
/-- a cell that is kept apart (its number and one more; 0: none): the law's own row, which no method of the class reaches -/
def gBan (G : gG) : Nat := G.2.1.2 1000 0
def gA (G : gG) : Nat → Prop := fun q => G.1 ≤ q ∧ (G.1 + gN ≤ q → q + 1 ≠ gBan G)
theorem gA_lt {G : gG} {k : Nat} (h : k < gN) : gA G (G.1 + k) := ⟨Nat.le_add_right _ _, fun q => absurd h (Nat.not_lt.mpr (Nat.le_of_add_le_add_left q))⟩
theorem gA_0 {G : gG} (h : gBan G = 0) {q : Nat} (hq : G.1 ≤ q) : gA G q := ⟨hq, fun _ => by rw [h]; exact Nat.succ_ne_zero _⟩
theorem gWn_D (G : gG) (M : gM) (n : Nat) (hn : n ≤ gN := by exact Nat.le_refl _) : va_D (gA G) (gWn G M n) := by
  refine ⟨fun i j p q hp hq hpq => ?_, fun k q hq => ?_⟩
  · rcases Nat.lt_or_ge i n with a | a
    · rcases Nat.lt_or_ge j n with b | b
      · rw [gWn_at G M a] at hp
        rw [gWn_at G M b] at hq
        cases hp; cases hq
        exact Nat.add_left_cancel hpq
      · rw [gWn_ge G M b] at hq; cases hq
    · rw [gWn_ge G M a] at hp; cases hp
  · rcases Nat.lt_or_ge k n with a | a
    · rw [gWn_at G M a] at hq
      cases hq
      exact gA_lt (Nat.lt_of_lt_of_le a hn)
    · rw [gWn_ge G M a] at hq; cases hq
theorem gWn_set (G : gG) (M : gM) {n r i k : Nat} {v : Int} (hi : i < gCnt r) (hn : n ≤ gN) : (gWn G M n).set (gPos r i) (gAd G r i, gCell G r i (g1 (M r i) k v)) = gWn G (gU M r i k v) n := by
  apply List.ext_getElem?
  intro j
  rcases Nat.lt_or_ge j n with a | a
  · rw [gWn_at _ _ a, List.getElem?_set]
    by_cases h : gPos r i = j
    · rw [if_pos h]
      subst h
      rw [(gLay_ok r (gCnt_lt hi) i hi).2, gU_same, if_pos (by unfold gWn; rw [List.length_map, List.length_range]; exact a)]
      rfl
    · rw [if_neg h, gWn_at _ _ a, gU_other]
      intro q
      have := (gLay_ok2 j (Nat.lt_of_lt_of_le a hn)).2
      rw [q.1, q.2] at this
      exact h this
  · rw [gWn_ge _ _ a, List.getElem?_set]
    by_cases h : gPos r i = j
    · rw [if_pos h, if_neg (by unfold gWn; rw [List.length_map, List.length_range]; omega)]
    · rw [if_neg h, gWn_ge _ _ a]
/-- the heap holds the picture -/
def gOk (M : gM) : Prop := (∀ r i k, nmI (M r i k)) ∧ (∀ r i k, gZ r k = true → M r i k = 0 ∨ M r i k = 1) ∧ ∀ i, M 11 i 3 < 60
def gH (G : gG) (M : gM) (H : Heap) : Prop := gOk M ∧ va_P G.2.1 gCl (gWn G M gN) H
def gK (G : gG) (U : State) : Prop := va_K G.2.1 gCl (gTys G) U ∧ ∀ w ∈ gNest, va_Nw w U
theorem gK_warm {G : gG} {s U : State} (h : gK G s) (hW : s.WarmedH U.vm) : gK G U := ⟨va_K.moved hW.alike h.1, fun w hw => gNw_warm (List.mem_filter.mp hw).2 hW (h.2 w hw)⟩
theorem gK_same {G : gG} {s U : State} (h : gK G s) (hW : s.vm = U.vm) : gK G U := ⟨va_K.moved (u := s) (U := U) (by rw [← hW]; exact Vm.Alike.refl s.vm) h.1, fun w hw => gNw_same (List.mem_filter.mp hw).2 hW (h.2 w hw)⟩
def gB (G : gG) (M : gM) (U : State) : Prop := gH G M U.heap ∧ gK G U
theorem gH_at {G : gG} {M : gM} {H : Heap} (_ : gH G M H) {r i : Nat} (hi : i < gCnt r) : (gWn G M gN)[gPos r i]? = some (gAd G r i, gCell G r i (M r i)) := gWn_pos G M hi (gPos_lt hi)
theorem gU_ok {M : gM} (h : gOk M) {r i k : Nat} {v : Int} (hv : nmI v) (hz : gZ r k = true → v = 0 ∨ v = 1) (hw : r = 11 → k = 3 → v < 60) : gOk (gU M r i k v) := by
  refine ⟨fun r' i' k' => ?_, fun r' i' k' q' => ?_, fun i' => ?_⟩
  · unfold gU
    by_cases q : r' = r ∧ i' = i ∧ k' = k
    · rw [if_pos q]; exact hv
    · rw [if_neg q]; exact h.1 _ _ _
  · unfold gU
    by_cases q : r' = r ∧ i' = i ∧ k' = k
    · rw [if_pos q]; exact hz (by rw [← q.1, ← q.2.2]; exact q')
    · rw [if_neg q]; exact h.2.1 _ _ _ q'
  · unfold gU
    by_cases q : 11 = r ∧ i' = i ∧ 3 = k
    · rw [if_pos q]; exact hw q.1.symm q.2.2.symm
    · rw [if_neg q]; exact h.2.2 _
theorem b01_and {a b : Int} (ha : a = 0 ∨ a = 1) (hb : b = 0 ∨ b = 1) : gAnd a b = 0 ∨ gAnd a b = 1 := by
  rcases ha with rfl | rfl <;> rcases hb with rfl | rfl <;> decide
theorem b01_or {a b : Int} (ha : a = 0 ∨ a = 1) (hb : b = 0 ∨ b = 1) : gOr a b = 0 ∨ gOr a b = 1 := by
  rcases ha with rfl | rfl <;> rcases hb with rfl | rfl <;> decide
theorem nmI_b {a : Int} (ha : a = 0 ∨ a = 1) : nmI a := by
  rcases ha with rfl | rfl <;> (unfold nmI; omega)
/-! ## what is said of classes and methods -/
def gWs (y : MethodName) (b : ByteArray) (n : Nat) (r : Option FieldType) : List Cond := .code y b n r :: gBIG
theorem gGood {y y' : MethodName} {b b' : ByteArray} {n n' : Nat} {r r' : Option FieldType} (h : Cond.code y' b' n' r' ∈ gBIG) : GoodIn (gWs y b n r) (gWs y' b' n' r') := by
  intro w hw
  rcases List.mem_cons.mp hw with e | e
  · subst e
    exact ⟨List.mem_cons_of_mem _ h, good_of_word rfl⟩
  · exact ⟨List.mem_cons_of_mem _ e, good_of_word (List.mem_filter.mp e).2⟩

