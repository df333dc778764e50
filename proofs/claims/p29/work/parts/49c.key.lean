/-! ### keys, results, digests -/
theorem plus_p (x y : Int) (M : gM) : f_X11_plus x y M = pls x y := rfl
theorem put_p (x y : Int) (M : gM) : f_X12_put x y M = pls x y := rfl
theorem pls_in {x y : Int} (hx : 0 ≤ x ∧ x ≤ 100002) (hy : 0 ≤ y ∧ y ≤ 1000000) : 0 ≤ pls x y ∧ pls x y ≤ 100002 := by
  obtain ⟨a, rfl⟩ : ∃ a : Nat, x = (a : Int) := ⟨x.toNat, by omega⟩
  obtain ⟨b, rfl⟩ : ∃ b : Nat, y = (b : Int) := ⟨y.toNat, by omega⟩
  have e : pls (a : Int) (b : Int) = (((31 * a + b + 1) % 100003 : Nat) : Int) := by
    unfold pls
    rw [show (31 * (a : Int)) = ((31 * a : Nat) : Int) by omega, wI_n (by omega), show ((31 * a : Nat) : Int) + (b : Int) = ((31 * a + b : Nat) : Int) by omega, wI_n (by omega), wI_s (by omega), show (100003 : Int) = ((100003 : Nat) : Int) from rfl, gRem_n (by omega) (by decide) (by decide)]
  rw [e]
  have := Nat.mod_lt (31 * a + b + 1) (show 0 < 100003 by decide)
  omega
/-- what stands in a key for an input -/
def inV (B : gM) (C D : Nat → Int) (t k : Nat) : Int := if chB B t k < 16 then C (chB B t k).toNat else D ((chB B t k).toNat - 16)
def kb0 (B : gM) (t s : Nat) : Int := pls (pls (pls (pls (pls 7 (B 35 0 t)) (B 36 0 t)) (B 32 0 (B 36 0 t).toNat)) (B 37 0 t)) (s : Int)
def keyS (B : gM) (C D : Nat → Int) (t s : Nat) : Int := itr (fun k x => pls x (inV B C D t k)) (B 41 0 t).toNat 0 (kb0 B t s)
theorem kb0_in {A B : gM} {n t s : Nat} (hS : RS A B) (hT : RT A B n) (ht : t < n) (hs : s < 4) : 0 ≤ kb0 B t s ∧ kb0 B t s ≤ 100002 := by
  obtain ⟨d1, d2, d3, -⟩ := (hT.2.2.2.2.2.2 t ht).2
  have q := hS.2.2.2.2.2.2.2.2.1 (B 36 0 t).toNat
  unfold kb0
  exact pls_in (pls_in (pls_in (pls_in (pls_in (by omega) (by omega)) (by omega)) (by omega)) (by omega)) (by omega)
theorem keyS_in {A B : gM} {n t s : Nat} {C D : Nat → Int} (hS : RS A B) (hT : RT A B n) (ht : t < n) (hs : s < 4) (hC : ∀ k, k < 16 → 0 ≤ C k ∧ C k ≤ 999) (hD : ∀ u, isI B t u → 0 ≤ D u ∧ D u ≤ 100002) : 0 ≤ keyS B C D t s ∧ keyS B C D t s ≤ 100002 := by
  obtain ⟨z, z1, z2, z3⟩ := szT hT ht
  unfold keyS
  rw [z3, Int.toNat_natCast]
  have key := itr_inv (st := fun k x => pls x (inV B C D t k)) (P := fun _ x => 0 ≤ x ∧ x ≤ 100002) (B := z) (fun i x hi hp => pls_in hp (by
    have q := ch_in hS hT ht (k := i) (by rw [z3]; omega)
    unfold inV
    by_cases e : chB B t i < 16
    · rw [if_pos e]
      have := hC (chB B t i).toNat (by omega)
      omega
    · rw [if_neg e]
      have := hD ((chB B t i).toNat - 16) ⟨i, by rw [z3]; omega, by omega⟩
      omega)) z 0 (kb0 B t s) (by omega) (kb0_in hS hT ht hs)
  exact key
theorem keyS_c {A B : gM} {n t s : Nat} {C D C' D' : Nat → Int} (hS : RS A B) (hT : RT A B n) (ht : t < n) (hC : ∀ k, k < 16 → C k = C' k) (hD : ∀ u, isI B t u → D u = D' u) : keyS B C D t s = keyS B C' D' t s := by
  obtain ⟨z, z1, z2, z3⟩ := szT hT ht
  unfold keyS
  rw [z3, Int.toNat_natCast]
  exact itr_congr (P := fun _ _ => True) (B := z) (fun i x hi _ => ⟨by
    have q := ch_in hS hT ht (k := i) (by rw [z3]; omega)
    show pls x (inV B C D t i) = pls x (inV B C' D' t i)
    unfold inV
    by_cases e : chB B t i < 16
    · rw [if_pos e, if_pos e, hC _ (by omega)]
    · rw [if_neg e, if_neg e, hD _ ⟨i, by rw [z3]; omega, by omega⟩], trivial⟩) z 0 _ (by omega) trivial
/-- the class's key, out of its files and digests of view i -/
theorem keyC {A B : gM} {n t i s : Nat} (hS : RS A B) (hT : RT A B n) (ht : t < n) : f_X9_keyOf i t (s : Int) A = some (keyS B (A 12 i) (A 23 i) t s) := by
  obtain ⟨z, z1, z2, z3⟩ := szT hT ht
  have h14 := hT.1
  obtain ⟨e1, e2, e3, -⟩ := hT.2.2.2.2.2.1 t
  have hRI := (hT.2.2.2.2.2.2 t ht).1
  obtain ⟨d1, d2, d3, -⟩ := (hT.2.2.2.2.2.2 t ht).2
  have base : f_X11_plus (f_X11_plus (f_X11_plus (f_X11_plus (f_X11_plus 7 (A 7 t 3) A) (A 7 t 4) A) (f_X11_at 14 0 4 (A 7 t 4) A) A) (A 7 t 5) A) (s : Int) A = kb0 B t s := by
    rw [e1, e2, e3]
    obtain ⟨w, hw⟩ : ∃ w : Nat, B 36 0 t = (w : Int) := ⟨(B 36 0 t).toNat, by omega⟩
    unfold kb0
    rw [hw, at_in (by omega), hS.2.2.2.1]
    rfl
  unfold f_X9_keyOf keyS
  rw [base, z3, Int.toNat_natCast]
  exact (loop_up (F := fun m (x : Int) k => f_X9_keyOf_L53 (fun (y3_53_119 : Int) => some y3_53_119) i t A m x k) (B := z) (K := fun x => some x) (st := fun k x => pls x (inV B (A 12 i) (A 23 i) t k)) (P := fun _ _ => True) (fun m k x hk _ => ⟨by
    obtain ⟨c1, c2, c3⟩ := chC hS.2.2.1 hRI (k := k) (by rw [z3]; omega)
    show f_X9_keyOf_L53 _ i t A (m + 1) x (k : Int) = _
    rw [f_X9_keyOf_L53, z2, if_pos (by omega), c1]
    dsimp only [oj]
    rw [isTg, wI_s (by omega)]
    unfold inV
    obtain ⟨u, hu⟩ : ∃ u : Nat, chB B t k = (u : Int) := ⟨(chB B t k).toNat, by omega⟩
    by_cases e : chB B t k < 16
    · rw [if_pos e, if_pos rfl, if_pos e, hu, at_in (by omega), Int.toNat_natCast]
      rfl
    · rw [if_neg e, if_neg ne10, if_neg e, hu, show (u : Int) - 16 = ((u - 16 : Nat) : Int) by omega, wI_n (by omega), at_in (by omega), Int.toNat_natCast]
      rfl, trivial⟩) (fun m x _ => by
    show f_X9_keyOf_L53 _ i t A (m + 1) x (z : Int) = _
    rw [f_X9_keyOf_L53, z2, if_neg (by omega)]) z 64 0 (kb0 B t s) (by omega) (by omega) trivial).1
theorem kbM {A B : gM} {n t : Nat} (s : Nat) (hT : RT A B n) (ht : t < n) : f_X12_keyBegin (t : Int) (s : Int) B = some (kb0 B t s) := by
  have h14 := hT.1
  obtain ⟨d1, d2, d3, -⟩ := (hT.2.2.2.2.2.2 t ht).2
  have g : (0 : Int) ≤ (t : Int) ∧ (t : Int) < 14 := by omega
  unfold f_X12_keyBegin
  rw [og_t g, og_t g, og_t g, Int.toNat_natCast, og_t (by omega), og_t g]
  rfl
theorem shT {A B : gM} {n t : Nat} (hT : RT A B n) (ht : t < n) : ∃ m : Nat, 1 ≤ m ∧ m ≤ 4 ∧ A 7 t 6 = (m : Int) ∧ B 38 0 t = (m : Int) := by
  obtain ⟨-, -, -, d4, -⟩ := (hT.2.2.2.2.2.2 t ht).2
  have e := (hT.2.2.2.2.2.1 t).2.2.2.1
  exact ⟨(B 38 0 t).toNat, by omega, by omega, by omega, by omega⟩
theorem dgM {A B : gM} {n t : Nat} (hT : RT A B n) (ht : t < n) : f_X12_digestOf (t : Int) B = some (dgS B t) := by
  obtain ⟨z, z1, z2, z3, z4⟩ := shT hT ht
  have h14 := hT.1
  unfold f_X12_digestOf dgS
  rw [z4, Int.toNat_natCast]
  exact (loop_up (F := fun m (x : Int) k => f_X12_digestOf_L5 (fun (y2_5_36 : Int) => some y2_5_36) (t : Int) B m x k) (B := z) (K := fun x => some x) (st := fun s x => pls x (B 61 0 (4 * t + s))) (P := fun _ _ => True) (fun m k x hk _ => ⟨by
    have w : wI (wI (4 * (t : Int)) + (k : Int)) = ((4 * t + k : Nat) : Int) := w4 (by omega) (by omega)
    show f_X12_digestOf_L5 _ (t : Int) B (m + 1) x (k : Int) = _
    rw [f_X12_digestOf_L5, og_t (by omega), Int.toNat_natCast, z4, if_pos (by omega), w, og_t (by omega), Int.toNat_natCast, wI_s (by omega)]
    rfl, trivial⟩) (fun m x _ => by
    show f_X12_digestOf_L5 _ (t : Int) B (m + 1) x (z : Int) = _
    rw [f_X12_digestOf_L5, og_t (by omega), Int.toNat_natCast, z4, if_neg (by omega)]) z 64 0 7 (by omega) (by omega) trivial).1
theorem dgS_in {A B : gM} {n t : Nat} (hT : RT A B n) (ht : t < n) (h61 : ∀ a, 0 ≤ B 61 0 a ∧ B 61 0 a ≤ 100002) : 0 ≤ dgS B t ∧ dgS B t ≤ 100002 := by
  obtain ⟨z, z1, z2, z3, z4⟩ := shT hT ht
  unfold dgS
  rw [z4, Int.toNat_natCast]
  exact itr_inv (st := fun s x => pls x (B 61 0 (4 * t + s))) (P := fun _ x => 0 ≤ x ∧ x ≤ 100002) (B := z) (fun i x _ hp => pls_in hp (by have := h61 (4 * t + i); omega)) z 0 7 (by omega) (by omega)
theorem td4 {t s : Nat} (ht : t < 14) (hs : s < 4) : wI (((4 * t + s : Nat) : Int).tdiv 4) = (t : Int) ∧ gRem ((4 * t + s : Nat) : Int) 4 = (s : Int) := by
  refine ⟨?_, ?_⟩
  · rw [show (4 : Int) = ((4 : Nat) : Int) from rfl, ← Int.ofNat_tdiv, show (4 * t + s) / 4 = t by omega, wI_n (by omega)]
  · rw [show (4 : Int) = ((4 : Nat) : Int) from rfl, gRem_n (by omega) (by decide) (by decide), show (4 * t + s) % 4 = s by omega]
theorem keyM {A B : gM} {n t s : Nat} (hS : RS A B) (hT : RT A B n) (ht : t < n) (hs : s < 4) : f_X12_keyOf ((4 * t + s : Nat) : Int) B = some (keyS B (B 30 0) (dgS B) t s) := by
  obtain ⟨z, z1, z2, z3⟩ := szT hT ht
  have h14 := hT.1
  have hRI := (hT.2.2.2.2.2.2 t ht).1
  obtain ⟨q1, q2⟩ := td4 (show t < 14 by omega) hs
  unfold f_X12_keyOf keyS
  rw [q1, q2, kbM s hT ht, ob_s, z3, Int.toNat_natCast]
  exact (loop_up (F := fun m (x : Int) k => f_X12_keyOf_L16 (fun (y3_16_73 : Int) => some y3_16_73) (t : Int) B m x k) (B := z) (K := fun x => some x) (st := fun k x => pls x (inV B (B 30 0) (dgS B) t k)) (P := fun _ _ => True) (fun m k x hk _ => ⟨by
    have c := ch_in hS hT ht (k := k) (by rw [z3]; omega)
    show f_X12_keyOf_L16 _ (t : Int) B (m + 1) x (k : Int) = _
    rw [f_X12_keyOf_L16, og_t (by omega), Int.toNat_natCast, z3, if_pos (by omega), inO hRI (by omega) (by rw [z3]; omega), ob_s]
    dsimp only [oj]
    rw [wI_s (by omega)]
    unfold inV
    obtain ⟨u, hu⟩ : ∃ u : Nat, chB B t k = (u : Int) := ⟨(chB B t k).toNat, by omega⟩
    by_cases e : chB B t k < 16
    · rw [if_pos e, if_pos e, og_t (by omega)]
      rfl
    · rw [if_neg e, if_neg e, hu, show (u : Int) - 16 = ((u - 16 : Nat) : Int) by omega, wI_n (by omega), dgM hT (by omega), ob_s, Int.toNat_natCast]
      rfl, trivial⟩) (fun m x _ => by
    show f_X12_keyOf_L16 _ (t : Int) B (m + 1) x (z : Int) = _
    rw [f_X12_keyOf_L16, og_t (by omega), Int.toNat_natCast, z3, if_neg (by omega)]) z 64 0 (kb0 B t s) (by omega) (by omega) trivial).1
/-- the file found by a key, its content, the result -/
def fnd (B : gM) (t : Nat) (key : Int) : Int := if B 39 0 t = -1 then -1 else gRem key 16
def cnt (B : gM) (C : Nat → Int) (t : Nat) (key : Int) : Int := if B 39 0 t = -1 then -1 else C (gRem key 16).toNat
def brk (B : gM) (t : Nat) (key : Int) : Int := if B 39 0 t = -1 then 0 else if gAnd (gShr (B 39 0 t) (gRem key 16)) 1 = 0 then 1 else 0
def res (B : gM) (C : Nat → Int) (t : Nat) (key : Int) : Int := if B 39 0 t = -1 then key else pls key (C (gRem key 16).toNat)
theorem r16 {key : Int} (hk : 0 ≤ key ∧ key ≤ 100002) : 0 ≤ gRem key 16 ∧ gRem key 16 < 16 ∧ ((gRem key 16).toNat < 16) ∧ gRem key 16 ≠ -1 := by
  obtain ⟨a, rfl⟩ : ∃ a : Nat, key = (a : Int) := ⟨key.toNat, by omega⟩
  rw [show (16 : Int) = ((16 : Nat) : Int) from rfl, gRem_n (by omega) (by decide) (by decide)]
  have := Nat.mod_lt a (show 0 < 16 by decide)
  omega
theorem fndC {A B : gM} {n t : Nat} (hT : RT A B n) (key : Int) : f_X8_fileFound t key A = fnd B t key := by
  unfold f_X8_fileFound fnd
  rw [(hT.2.2.2.2.2.1 t).2.2.2.2.1]
theorem cntC {A B : gM} {n t i : Nat} (hT : RT A B n) {key : Int} (hk : 0 ≤ key ∧ key ≤ 100002) : f_X9_contentFound i t key A = cnt B (A 12 i) t key := by
  obtain ⟨r1, r2, r3, r4⟩ := r16 hk
  unfold f_X9_contentFound
  rw [fndC hT]
  unfold fnd cnt
  by_cases e : B 39 0 t = -1
  · rw [if_pos e, if_pos e, at_neg (by decide)]
  · rw [if_neg e, if_neg e]
    obtain ⟨u, hu⟩ : ∃ u : Nat, gRem key 16 = (u : Int) := ⟨(gRem key 16).toNat, by omega⟩
    rw [hu] at r2 ⊢
    rw [at_in (by omega), Int.toNat_natCast]
theorem brkC {A B : gM} {n t : Nat} (hT : RT A B n) (key : Int) : f_X8_breaksOut t key A = brk B t key := by
  unfold f_X8_breaksOut brk
  rw [(hT.2.2.2.2.2.1 t).2.2.2.2.1]
  rfl
theorem resC {A B : gM} {n t i : Nat} (hT : RT A B n) {key : Int} (hk : 0 ≤ key ∧ key ≤ 100002) (hC : ∀ k, k < 16 → 0 ≤ A 12 i k ∧ A 12 i k ≤ 999) : f_X11_resultOf key (f_X9_contentFound i t key A) A = res B (A 12 i) t key := by
  obtain ⟨r1, r2, r3, r4⟩ := r16 hk
  rw [cntC hT hk]
  unfold f_X11_resultOf cnt res
  by_cases e : B 39 0 t = -1
  · rw [if_pos e, if_pos rfl, if_pos e]
  · have := hC _ r3
    rw [if_neg e, if_neg (by omega), if_neg e]
    rfl
theorem res_in {B : gM} {C : Nat → Int} {t : Nat} {key : Int} (hk : 0 ≤ key ∧ key ≤ 100002) (hC : ∀ k, k < 16 → 0 ≤ C k ∧ C k ≤ 999) : 0 ≤ res B C t key ∧ res B C t key ≤ 100002 := by
  obtain ⟨r1, r2, r3, r4⟩ := r16 hk
  unfold res
  by_cases e : B 39 0 t = -1
  · rw [if_pos e]; exact hk
  · rw [if_neg e]
    exact pls_in hk (by have := hC _ r3; omega)
theorem fndM {B : gM} {t : Nat} (ht : t < 14) (key : Int) : f_X12_foundBy (t : Int) key B = some (fnd B t key) := by
  unfold f_X12_foundBy fnd
  rw [og_t (by omega), Int.toNat_natCast]
  by_cases e : B 39 0 t = -1
  · rw [if_pos e, if_pos e]
  · rw [if_neg e, if_neg e]
theorem brkM {B : gM} {t : Nat} (ht : t < 14) (key : Int) : f_X12_breaks (t : Int) key B = some (brk B t key) := by
  unfold f_X12_breaks brk
  rw [og_t (by omega), Int.toNat_natCast, og_t (by omega)]
  by_cases e : B 39 0 t = -1
  · rw [if_pos e, if_pos e]
  · rw [if_neg e, if_neg e]
    by_cases e2 : gAnd (gShr (B 39 0 t) (gRem key 16)) 1 = 0
    · rw [if_pos e2, if_pos e2]
    · rw [if_neg e2, if_neg e2]
theorem brk01 (B : gM) (t : Nat) (key : Int) : brk B t key = 0 ∨ brk B t key = 1 := by
  unfold brk
  by_cases e : B 39 0 t = -1
  · rw [if_pos e]; exact Or.inl rfl
  · rw [if_neg e]
    by_cases e2 : gAnd (gShr (B 39 0 t) (gRem key 16)) 1 = 0
    · rw [if_pos e2]; exact Or.inr rfl
    · rw [if_neg e2]; exact Or.inl rfl
