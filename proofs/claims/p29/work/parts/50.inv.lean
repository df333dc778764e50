/-! ## p29, level 2: what the reference's memory holds while nothing is written: entries, results, who is at what; and how long it may take -/
def KK (B : gM) (t s : Nat) : Int := keyS B (B 30 0) (dgS B) t s
def rfc (key file con : Int) : Int := if file = -1 then key else pls key con
/-- the entries are honest -/
def XE (B : gM) : Prop := ∀ e : Nat, (e : Int) < B 29 0 21 → B 52 0 e = 0 ∧ B 51 0 e = sgB B e ∧ B 49 0 e = rfc (B 46 0 e) (B 47 0 e) (B 48 0 e)
def hasE (B : gM) (t : Nat) (K : Int) : Prop := B 29 0 21 = 40 ∨ ∃ e : Nat, (e : Int) < B 29 0 21 ∧ B 46 0 e = K ∧ B 47 0 e = fnd B t K ∧ B 48 0 e = cnt B (B 30 0) t K
/-- what is DONE is so with the result that is due, and, if it is no flake, an entry fits, unless the cache is full -/
def XD (B : gM) (n : Nat) : Prop := ∀ t s, s < 4 → aOK B n t s → ndd B t → B 60 0 (4 * t + s) = 3 → inD B n t ∧ brk B t (KK B t s) = 0 ∧ B 61 0 (4 * t + s) = res B (B 30 0) t (KK B t s) ∧ (B 64 0 (4 * t + s) = 0 → hasE B t (KK B t s))
def XB (B : gM) : Prop := ∀ w t s : Nat, w < 4 → s < 4 → B 54 0 w = ((4 * t + s : Nat) : Int) → same B t w (KK B t s)
def XX (B : gM) (n : Nat) : Prop := G1 B n ∧ XE B ∧ XD B n ∧ XB B
def EM (B B' : gM) : Prop := (B 29 0 21 = 40 → B' 29 0 21 = 40) ∧ (B' 29 0 21 = 40 ∨ (B 29 0 21 ≤ B' 29 0 21 ∧ ∀ e : Nat, (e : Int) < B 29 0 21 → B' 46 0 e = B 46 0 e ∧ B' 47 0 e = B 47 0 e ∧ B' 48 0 e = B 48 0 e))
theorem res_rfc {B : gM} {C : Nat → Int} {t : Nat} {key : Int} (hk : 0 ≤ key ∧ key ≤ 100002) : res B C t key = rfc key (fnd B t key) (cnt B C t key) := by
  unfold res rfc fnd cnt
  by_cases h : B 39 0 t = -1
  · rw [if_pos h, if_pos h, if_pos h, if_pos rfl]
  · rw [if_neg h, if_neg h, if_neg h, if_neg (r16 hk).2.2.2]
theorem dgS_k {B B' : gM} {u m : Nat} (hm : B 38 0 u = (m : Int)) (h38 : B' 38 = B 38) (h : ∀ s, s < m → B' 61 0 (4 * u + s) = B 61 0 (4 * u + s)) : dgS B' u = dgS B u := by
  unfold dgS
  rw [h38, hm, Int.toNat_natCast]
  exact itr_congr (P := fun _ _ => True) (B := m) (fun i x hi _ => ⟨by rw [h i hi], trivial⟩) m 0 7 (Nat.le_of_eq (Nat.zero_add m)) trivial
theorem KK_c {A B B' : gM} {n t s : Nat} (hS : RS A B) (hT : RT A B n) (ht : t < n) (hTd : Td B B') (h30 : B' 30 = B 30) (hD : ∀ u, isI B t u → dgS B' u = dgS B u) : KK B' t s = KK B t s := by
  unfold KK
  rw [keyS_t hTd, h30]
  exact keyS_c hS hT ht (fun _ _ => rfl) hD
theorem fnd_td {B B' : gM} (h : Td B B') (t : Nat) (K : Int) : fnd B' t K = fnd B t K := by
  unfold fnd
  rw [h 39 (by decide)]
theorem brk_td {B B' : gM} (h : Td B B') (t : Nat) (K : Int) : brk B' t K = brk B t K := by
  unfold brk
  rw [h 39 (by decide)]
theorem cnt_td {B B' : gM} (h : Td B B') (C : Nat → Int) (t : Nat) (K : Int) : cnt B' C t K = cnt B C t K := by
  unfold cnt
  rw [h 39 (by decide)]
theorem res_td {B B' : gM} (h : Td B B') (C : Nat → Int) (t : Nat) (K : Int) : res B' C t K = res B C t K := by
  unfold res
  rw [h 39 (by decide)]
theorem hasE_m {B B' : gM} {t : Nat} {K : Int} (h : hasE B t K) (hM : EM B B') (hT : Td B B') (h30 : B' 30 = B 30) : hasE B' t K := by
  rcases h with h | ⟨e, e1, e2, e3, e4⟩
  · exact Or.inl (hM.1 h)
  · rcases hM.2 with q | ⟨q1, q2⟩
    · exact Or.inl q
    · obtain ⟨y1, y2, y3⟩ := q2 e e1
      refine Or.inr ⟨e, Int.lt_of_lt_of_le e1 q1, y1.trans e2, ?_, ?_⟩
      · rw [y2, e3, fnd_td hT]
      · rw [y3, e4, cnt_td hT, h30]
theorem EM_r {B B' : gM} (h21 : B' 29 0 21 = B 29 0 21) (hq : ∀ q, q ∈ [46, 47, 48] → B' q = B q) : EM B B' :=
  ⟨fun h => h21.trans h, Or.inr ⟨Int.le_of_eq h21.symm, fun e _ => ⟨by rw [hq 46 (by decide)], by rw [hq 47 (by decide)], by rw [hq 48 (by decide)]⟩⟩⟩
theorem inD_k {A B : gM} {n t s t' : Nat} (hS : RS A B) (hT : RT A B n) {B' : gM} (hTd : Td B B') (ht' : t' < n) (hold : B 60 0 (4 * t + s) ≠ 3) (b60 : ∀ x, x ≠ 4 * t + s → B' 60 0 x = B 60 0 x) (h : inD B n t') : inD B' n t' := by
  intro u hu v hv ho
  have h3 := h u ((isI_t hTd t' u).mp hu) v hv ((aOK_t hTd n u v).mp ho)
  rw [b60 _ (fun e => hold (by rw [← e]; exact h3))]
  exact h3
theorem KK_k {A B B' : gM} {n t s t' s' : Nat} (hS : RS A B) (hT : RT A B n) (hTd : Td B B') (h30 : B' 30 = B 30) (ht' : t' < n) (hold : B 60 0 (4 * t + s) ≠ 3) (b61 : ∀ x, x ≠ 4 * t + s → B' 61 0 x = B 61 0 x) (h : inD B n t') : KK B' t' s' = KK B t' s' := by
  refine KK_c hS hT ht' hTd h30 (fun u hu => ?_)
  have hun : u < n := Nat.lt_trans (isI_lt hS hT ht' hu) ht'
  obtain ⟨m, m1, m2, -, m4⟩ := shT hT hun
  refine dgS_k m4 (hTd 38 (by decide)) (fun v hv => b61 _ (fun e => hold ?_))
  rw [← e]
  exact h u hu v (Nat.lt_of_lt_of_le hv m2) ⟨hun, by rw [m4]; exact Int.ofNat_lt.mpr hv⟩
theorem XX_act {A B B' : gM} {n t s : Nat} (hS : RS A B) (hT : RT A B n) (hW : W3 0 B n) (h2 : G2 B n) (hX : XX B n)
    (tN : TdN B B') (h30 : B' 30 = B 30) (hs : s < 4) (hold : B 60 0 (4 * t + s) ≠ 3)
    (b60 : ∀ x, x ≠ 4 * t + s → B' 60 0 x = B 60 0 x) (b61 : ∀ x, x ≠ 4 * t + s → B' 61 0 x = B 61 0 x) (b64 : ∀ x, x ≠ 4 * t + s → B' 64 0 x = B 64 0 x)
    (hE : XE B') (hM : EM B B') (ht : t < n)
    (hw : ∀ w, w < 4 → B' 54 0 w = -1 ∨ (B' 54 0 w = B 54 0 w ∧ B' 57 0 w = B 57 0 w ∧ B' 58 0 w = B 58 0 w) ∨ (inD B n t ∧ B' 54 0 w = ((4 * t + s : Nat) : Int) ∧ B' 57 0 w = KK B t s ∧ B' 58 0 w = cnt B (B 30 0) t (KK B t s)))
    (hnew : B' 60 0 (4 * t + s) = 3 → inD B n t ∧ brk B t (KK B t s) = 0 ∧ B' 61 0 (4 * t + s) = res B (B 30 0) t (KK B t s) ∧ (B' 64 0 (4 * t + s) = 0 → hasE B' t (KK B t s))) : XX B' n := by
  obtain ⟨x1, x2, x3, x4⟩ := hX
  refine ⟨G1_t tN x1, hE, fun t' s' hs' ho hd h3 => ?_, fun w t' s' hw4 hs' h54 => ?_⟩
  · have ho' := (aOK_t tN.1 n t' s').mp ho
    have hd' := (ndd_t tN t').mp hd
    by_cases e : 4 * t' + s' = 4 * t + s
    · obtain ⟨rfl, rfl⟩ := four hs' hs e
      obtain ⟨y1, y2, y3, y4⟩ := hnew h3
      have ek := KK_k (s' := s') hS hT tN.1 h30 ht hold b61 y1
      refine ⟨inD_k hS hT tN.1 ht hold b60 y1, ?_, ?_, fun q => ?_⟩
      · rw [ek, brk_td tN.1]; exact y2
      · rw [ek, res_td tN.1, h30]; exact y3
      · rw [ek]; exact y4 q
    · rw [b60 _ e] at h3
      obtain ⟨y1, y2, y3, y4⟩ := x3 t' s' hs' ho' hd' h3
      have ek := KK_k (s' := s') hS hT tN.1 h30 ho'.1 hold b61 y1
      refine ⟨inD_k hS hT tN.1 ho'.1 hold b60 y1, ?_, ?_, fun q => ?_⟩
      · rw [ek, brk_td tN.1]; exact y2
      · rw [ek, res_td tN.1, h30, b61 _ e]; exact y3
      · rw [b64 _ e] at q
        rw [ek]
        exact hasE_m (y4 q) hM tN.1 h30
  · rcases hw w hw4 with q | ⟨q1, q2, q3⟩ | ⟨q0, q1, q2, q3⟩
    · rw [q] at h54
      omega
    · rw [q1] at h54
      rcases hW w hw4 with z | ⟨t1, s1, z⟩
      · rw [z] at h54
        omega
      · obtain ⟨z1, z2, z3, z4, z5, -⟩ := z
        have e1 : 4 * t' + s' = 4 * t1 + s1 := Int.ofNat_inj.mp (h54.symm.trans z1)
        obtain ⟨rfl, rfl⟩ := four hs' z2 e1
        have hD : inD B n t' := fun u hu v hv ho => h2 t' s' z2 z3 z4 (Or.inr z5) u hu v hv ho
        have ek := KK_k (s' := s') hS hT tN.1 h30 z3.1 hold b61 hD
        obtain ⟨y1, y2⟩ := x4 w t' s' hw4 hs' h54
        unfold same
        rw [ek, q2, q3, cnt_td tN.1, h30]
        exact ⟨y1, y2⟩
    · have e1 : 4 * t' + s' = 4 * t + s := Int.ofNat_inj.mp (h54.symm.trans q1)
      obtain ⟨rfl, rfl⟩ := four hs' hs e1
      have ek := KK_k (s' := s') hS hT tN.1 h30 ht hold b61 q0
      unfold same
      rw [ek, q2, q3, cnt_td tN.1, h30]
      exact ⟨rfl, rfl⟩
theorem XE_c {B B' : gM} (h : XE B) (h21 : B' 29 0 21 = B 29 0 21) (hq : ∀ q, q ∈ [46, 47, 48, 49, 50, 51, 52] → B' q = B q) : XE B' := by
  intro e he
  rw [h21] at he
  unfold sgB
  rw [hq 46 (by decide), hq 47 (by decide), hq 48 (by decide), hq 49 (by decide), hq 50 (by decide), hq 51 (by decide), hq 52 (by decide)]
  exact h e he
theorem XX_fr {B B' : gM} {n : Nat} (hX : XX B n) (tN : TdN B B') (h30 : B' 30 = B 30) (h21 : B' 29 0 21 = B 29 0 21) (hq : ∀ q, q ∈ [46, 47, 48, 49, 50, 51, 52, 54, 57, 58, 60, 61, 64] → B' q = B q) : XX B' n := by
  obtain ⟨x1, x2, x3, x4⟩ := hX
  have ek : ∀ t s, KK B' t s = KK B t s := fun t s => by
    unfold KK
    rw [keyS_t tN.1, h30, dgS_t tN.1 (hq 61 (by decide))]
  have hM : EM B B' := EM_r h21 (fun q m => hq q (by simp only [List.mem_cons, List.not_mem_nil, or_false] at m ⊢; omega))
  refine ⟨G1_t tN x1, XE_c x2 h21 (fun q m => hq q (by simp only [List.mem_cons, List.not_mem_nil, or_false] at m ⊢; omega)), fun t s hs ho hd h3 => ?_, fun w t s hw hs h54 => ?_⟩
  · have ho' := (aOK_t tN.1 n t s).mp ho
    rw [hq 60 (by decide)] at h3
    obtain ⟨y1, y2, y3, y4⟩ := x3 t s hs ho' ((ndd_t tN t).mp hd) h3
    refine ⟨fun u hu v hv q => ?_, ?_, ?_, fun q => ?_⟩
    · rw [hq 60 (by decide)]
      exact y1 u ((isI_t tN.1 t u).mp hu) v hv ((aOK_t tN.1 n u v).mp q)
    · rw [ek, brk_td tN.1]; exact y2
    · rw [ek, res_td tN.1, h30, hq 61 (by decide)]; exact y3
    · rw [hq 64 (by decide)] at q
      rw [ek]
      exact hasE_m (y4 q) hM tN.1 h30
  · rw [hq 54 (by decide)] at h54
    obtain ⟨y1, y2⟩ := x4 w t s hw hs h54
    unfold same
    rw [ek, hq 57 (by decide), hq 58 (by decide), cnt_td tN.1, h30]
    exact ⟨y1, y2⟩
/-! ### how long it may take -/
def sm (f : Nat → Int) : Nat → Int
  | 0 => 0
  | m + 1 => sm f m + f m
theorem sm_le {f g : Nat → Int} (h : ∀ a, f a ≤ g a) : ∀ m, sm f m ≤ sm g m := by
  intro m
  induction m with
  | zero => exact Int.le_refl _
  | succ m ih => exact Int.add_le_add ih (h m)
theorem sm_lt {f g : Nat → Int} (h : ∀ a, f a ≤ g a) {a : Nat} (ha : f a + 1 ≤ g a) : ∀ m, a < m → sm f m + 1 ≤ sm g m := by
  intro m
  induction m with
  | zero => intro q; exact absurd q (Nat.not_lt_zero _)
  | succ m ih =>
    intro q
    show sm f m + f m + 1 ≤ sm g m + g m
    by_cases e : a = m
    · rw [e] at ha
      have := sm_le h m
      omega
    · have := ih (by omega)
      have := h m
      omega
theorem sm_nn {f : Nat → Int} (h : ∀ a, 0 ≤ f a) : ∀ m, 0 ≤ sm f m := by
  intro m
  induction m with
  | zero => exact Int.le_refl _
  | succ m ih => exact Int.add_nonneg ih (h m)
theorem sm_at {f : Nat → Int} (h : ∀ a, 0 ≤ f a) {a : Nat} : ∀ m, a < m → f a ≤ sm f m := by
  intro m
  induction m with
  | zero => intro q; exact absurd q (Nat.not_lt_zero _)
  | succ m ih =>
    intro q
    show f a ≤ sm f m + f m
    by_cases e : a = m
    · have := sm_nn h m
      rw [e]
      omega
    · have := ih (by omega)
      have := h m
      omega
def PC (B : gM) (a : Nat) (v : Int) : Prop := B 60 0 a < 3 → 0 ≤ B 63 0 a ∧ B 63 0 a ≤ 2 ∧ (B 60 0 a ≠ 2 → (3 - B 63 0 a) * 50 ≤ v) ∧ (B 60 0 a = 2 → ∃ w : Nat, w < 4 ∧ B 54 0 w = (a : Int) ∧ (2 - B 63 0 a) * 50 + B 55 0 w ≤ v)
/-- at most N ticks more -/
def PM (B : gM) (n : Nat) (N : Int) : Prop := ∃ f : Nat → Int, (∀ a, 0 ≤ f a) ∧ sm f 56 ≤ N ∧ ∀ t s, s < 4 → aOK B n t s → ndd B t → PC B (4 * t + s) (f (4 * t + s))
theorem PC_k {B B' : gM} {a b : Nat} {v : Int} (h : PC B a v) (e60 : B' 60 0 a = B 60 0 a) (e63 : B' 63 0 a = B 63 0 a) (hab : a ≠ b) (hw : ∀ w, w < 4 → B 54 0 w ≠ (b : Int) → B 54 0 w ≠ -1 → B' 54 0 w = B 54 0 w ∧ B' 55 0 w = B 55 0 w) : PC B' a v := by
  intro q
  rw [e60] at q
  obtain ⟨h1, h2, h3, h4⟩ := h q
  rw [e60, e63]
  refine ⟨h1, h2, h3, fun z => ?_⟩
  obtain ⟨w, w1, w2, w3⟩ := h4 z
  obtain ⟨y1, y2⟩ := hw w w1 (fun y => hab (Int.ofNat_inj.mp (w2.symm.trans y))) (fun y => by rw [w2] at y; omega)
  exact ⟨w, w1, y1.trans w2, by rw [y2]; exact w3⟩
theorem PM_act {B B' : gM} {n t s : Nat} {N : Int} (hP : PM B n N) (tN : TdN B B') (hs : s < 4) (b60 : ∀ x, x ≠ 4 * t + s → B' 60 0 x = B 60 0 x) (b63 : ∀ x, x ≠ 4 * t + s → B' 63 0 x = B 63 0 x)
    (hw : ∀ w, w < 4 → B 54 0 w ≠ ((4 * t + s : Nat) : Int) → B 54 0 w ≠ -1 → B' 54 0 w = B 54 0 w ∧ B' 55 0 w = B 55 0 w)
    (hnew : ∀ v, PC B (4 * t + s) v → PC B' (4 * t + s) v) : PM B' n N := by
  obtain ⟨f, f1, f2, f3⟩ := hP
  refine ⟨f, f1, f2, fun t' s' hs' ho hd => ?_⟩
  have q := f3 t' s' hs' ((aOK_t tN.1 n t' s').mp ho) ((ndd_t tN t').mp hd)
  by_cases e : 4 * t' + s' = 4 * t + s
  · rw [e] at q ⊢
    exact hnew _ q
  · exact PC_k q (b60 _ e) (b63 _ e) e hw
theorem PM_fr {B B' : gM} {n : Nat} {N : Int} (hP : PM B n N) (tN : TdN B B') (hq : ∀ q, q ∈ [54, 55, 60, 63] → B' q = B q) : PM B' n N := by
  obtain ⟨f, f1, f2, f3⟩ := hP
  refine ⟨f, f1, f2, fun t' s' hs' ho hd => ?_⟩
  have q := f3 t' s' hs' ((aOK_t tN.1 n t' s').mp ho) ((ndd_t tN t').mp hd)
  unfold PC at q ⊢
  rw [hq 54 (by decide), hq 55 (by decide), hq 60 (by decide), hq 63 (by decide)]
  exact q
theorem PM_nn {B : gM} {n : Nat} {N : Int} (hP : PM B n N) : 0 ≤ N := by
  obtain ⟨f, f1, f2, -⟩ := hP
  exact Int.le_trans (sm_nn f1 56) f2
theorem pc1 {x l v : Int} (h1 : x ≤ 2) (h2 : 1 ≤ l) (h3 : (2 - x) * 50 + l ≤ v) : 1 ≤ v ∧ (2 - x) * 50 + (l - 1) ≤ v - 1 := by omega
/-- a tick is spent -/
theorem PM_sp {B B' : gM} {n : Nat} {N : Int} (hn : n ≤ 14) (hP : PM B n N) (hW : W3 1 B n) (fB : But [55] B' B) (b55 : ∀ w, (w < 4 ∧ bsy B w → B' 55 0 w = B 55 0 w - 1)) (hr : ∃ t s, s < 4 ∧ aOK B n t s ∧ ndd B t ∧ B 60 0 (4 * t + s) = 2) : PM B' n (N - 1) := by
  obtain ⟨f, f1, f2, f3⟩ := hP
  have tN : TdN B B' := TdN_9 (But_w fB rfl)
  have e60 : B' 60 = B 60 := But_q fB rfl
  have e63 : B' 63 = B 63 := But_q fB rfl
  have e54 : B' 54 = B 54 := But_q fB rfl
  have key : ∀ t s, s < 4 → aOK B n t s → ndd B t → B 60 0 (4 * t + s) = 2 → 1 ≤ f (4 * t + s) ∧ PC B' (4 * t + s) (f (4 * t + s) - 1) := fun t s hs ho hd h2 => by
    obtain ⟨q1, q2, -, q4⟩ := f3 t s hs ho hd (by rw [h2]; decide)
    obtain ⟨w, w1, w2, w3⟩ := q4 h2
    have hb : bsy B w := fun z => by rw [w2] at z; omega
    have l1 : 1 ≤ B 55 0 w := by
      rcases hW w w1 with z | ⟨t', s', z⟩
      · exact absurd z hb
      · exact z.2.2.2.2.2.1
    obtain ⟨y1, y2⟩ := pc1 q2 l1 w3
    refine ⟨y1, fun _ => ?_⟩
    rw [e63, e60]
    exact ⟨q1, q2, fun z => absurd h2 z, fun _ => ⟨w, w1, by rw [e54]; exact w2, by rw [b55 w ⟨w1, hb⟩]; exact y2⟩⟩
  obtain ⟨t0, s0, r1, r2, r3, r4⟩ := hr
  have k0 := (key t0 s0 r1 r2 r3 r4).1
  have gle : ∀ a, (if B 60 0 a = 2 ∧ 1 ≤ f a then f a - 1 else f a) ≤ f a := fun a => by
    by_cases q : B 60 0 a = 2 ∧ 1 ≤ f a
    · rw [if_pos q]; omega
    · rw [if_neg q]; exact Int.le_refl _
  refine ⟨fun a => if B 60 0 a = 2 ∧ 1 ≤ f a then f a - 1 else f a, fun a => ?_, ?_, fun t s hs ho hd => ?_⟩
  · show 0 ≤ if B 60 0 a = 2 ∧ 1 ≤ f a then f a - 1 else f a
    by_cases q : B 60 0 a = 2 ∧ 1 ≤ f a
    · rw [if_pos q]
      have := q.2
      omega
    · rw [if_neg q]; exact f1 a
  · have ha : 4 * t0 + s0 < 56 := by
      have := r2.1
      omega
    have := sm_lt (f := fun a => if B 60 0 a = 2 ∧ 1 ≤ f a then f a - 1 else f a) (g := f) gle (a := 4 * t0 + s0) (by rw [if_pos ⟨r4, k0⟩]; omega) 56 ha
    omega
  · have ho' := (aOK_t tN.1 n t s).mp ho
    have hd' := (ndd_t tN t).mp hd
    show PC B' (4 * t + s) (if B 60 0 (4 * t + s) = 2 ∧ 1 ≤ f (4 * t + s) then f (4 * t + s) - 1 else f (4 * t + s))
    by_cases h2 : B 60 0 (4 * t + s) = 2
    · obtain ⟨k1, k2⟩ := key t s hs ho' hd' h2
      rw [if_pos ⟨h2, k1⟩]
      exact k2
    · rw [if_neg (fun z => h2 z.1)]
      intro q
      rw [e60] at q ⊢
      rw [e63]
      obtain ⟨q1, q2, q3, -⟩ := f3 t s hs ho' hd' q
      exact ⟨q1, q2, q3, fun z => absurd z h2⟩
