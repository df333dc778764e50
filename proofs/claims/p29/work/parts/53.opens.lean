/-! ## p29: what is OPEN -/
/-- what becomes of an OPEN action that is looked at -/
def LV (B : gM) (n t s : Nat) (B1 : gM) : Prop := (B1 = B ∧ unf B n t) ∨ (B1 = stB B (4 * t + s) 5 ∧ bad B n t) ∨ (B1 = stB B (4 * t + s) 1 ∧ inD B n t ∧ ∀ e : Nat, (e : Int) < B 29 0 21 → ¬ (brk B t (KK B t s) = 0 ∧ fits B (KK B t s) (fnd B t (KK B t s)) (cnt B (B 30 0) t (KK B t s)) e)) ∨ (inD B n t ∧ brk B t (KK B t s) = 0 ∧ ∃ e : Nat, (e : Int) < B 29 0 21 ∧ fits B (KK B t s) (fnd B t (KK B t s)) (cnt B (B 30 0) t (KK B t s)) e ∧ B1 = taB (dnB B (4 * t + s) (B 49 0 e) (B 50 0 e)) 1)
theorem lvX {A B : gM} {n c t s : Nat} (h : SI A B n c) (hs : s < 4) (hao : aOK B n t s) (hnd : ndd B t) (h60 : B 60 0 (4 * t + s) = 0) : ∃ B1 : gM, f_X12_opensOne (t : Int) ((4 * t + s : Nat) : Int) B = some B1 ∧ LV B n t s B1 := by
  have hh := h
  obtain ⟨h1, h2, ⟨z, f, p1, p2, p3, p4, p5, p6, p7⟩, h4, h5, h6, g1', g2, g4⟩ := hh
  have ht := hao.1
  have h14 : t < 14 := Nat.lt_of_lt_of_le ht h2.1
  obtain ⟨m, m1, m2, m3, m4⟩ := shT h2 ht
  obtain ⟨x0, x1, x2, x3⟩ := h6.2.2.2.2.2.2.2.1 t s h14 hs
  have st0 : A 9 (4 * t + s) 2 = 0 := (x2 ⟨hao, hnd⟩).1.trans h60
  have b56 : (0 : Int) ≤ ((4 * t + s : Nat) : Int) ∧ ((4 * t + s : Nat) : Int) < 56 := by omega
  have hE : ∀ u, isI B t u → stE A B n u := fun u hu => stE_of h6 (Nat.lt_trans (isI_lt h1 h2 ht hu) h14) (g1' t u ht hnd hu)
  have hk := key_in h1 h2 h6 ht hs
  have a49 : A 4 0 9 = B 29 0 19 := h4.1
  obtain ⟨y3, y4, e8, y3i, y4i, hu, hb⟩ := ops8 (z2 := ((4 * t + s : Nat) : Int)) (k := fun (y3_8_113 : Int) (y4_8_113 : Int) => if y3_8_113 = 0 then (oj (fun (xs0_132 : Int) => if xs0_132 = (-1) then (oj (fun (xs2_201 : Int) => og ((0 : Int) ≤ ((4 * t + s : Nat) : Int) ∧ (((4 * t + s : Nat) : Int) : Int) < 56) <| og ((0 : Int) ≤ ((4 * t + s : Nat) : Int) ∧ (((4 * t + s : Nat) : Int) : Int) < 56) <| some (gU (gU B 60 0 ((4 * t + s : Nat) : Int).toNat xs2_201) 63 0 ((4 * t + s : Nat) : Int).toNat 0)) fun k201 => if y4_8_113 = 0 then (k201 1) else (k201 5)) else (og ((0 : Int) ≤ ((4 * t + s : Nat) : Int) ∧ (((4 * t + s : Nat) : Int) : Int) < 56) <| og ((0 : Int) ≤ xs0_132 ∧ (xs0_132 : Int) < 40) <| og ((0 : Int) ≤ ((4 * t + s : Nat) : Int) ∧ (((4 * t + s : Nat) : Int) : Int) < 56) <| og ((0 : Int) ≤ xs0_132 ∧ (xs0_132 : Int) < 40) <| og ((0 : Int) ≤ ((4 * t + s : Nat) : Int) ∧ (((4 * t + s : Nat) : Int) : Int) < 56) <| og ((0 : Int) ≤ 1 ∧ (1 : Int) < 5) <| og ((0 : Int) ≤ 1 ∧ (1 : Int) < 5) <| some (gU (gU (gU (gU B 60 0 ((4 * t + s : Nat) : Int).toNat 3) 61 0 ((4 * t + s : Nat) : Int).toNat ((gU B 60 0 ((4 * t + s : Nat) : Int).toNat 3) 49 0 xs0_132.toNat)) 62 0 ((4 * t + s : Nat) : Int).toNat ((gU (gU B 60 0 ((4 * t + s : Nat) : Int).toNat 3) 61 0 ((4 * t + s : Nat) : Int).toNat ((gU B 60 0 ((4 * t + s : Nat) : Int).toNat 3) 49 0 xs0_132.toNat)) 50 0 xs0_132.toNat)) 68 0 1 (wI (((gU (gU (gU B 60 0 ((4 * t + s : Nat) : Int).toNat 3) 61 0 ((4 * t + s : Nat) : Int).toNat ((gU B 60 0 ((4 * t + s : Nat) : Int).toNat 3) 49 0 xs0_132.toNat)) 62 0 ((4 * t + s : Nat) : Int).toNat ((gU (gU B 60 0 ((4 * t + s : Nat) : Int).toNat 3) 61 0 ((4 * t + s : Nat) : Int).toNat ((gU B 60 0 ((4 * t + s : Nat) : Int).toNat 3) 49 0 xs0_132.toNat)) 50 0 xs0_132.toNat)) 68 0 1) + 1))))) fun k132 => if y4_8_113 = 0 then (ob (f_X12_hit ((4 * t + s : Nat) : Int) B) fun r129 => k132 r129) else (k132 ((-1)))) else (some B)) h1 h2 ht
  have re : f_X12_opensOne (t : Int) ((4 * t + s : Nat) : Int) B = _ := e8
  rcases soiC h1 h2 ht hE with ⟨c1, c2⟩ | ⟨c1, c2, c3⟩ | ⟨c1, c2, c3⟩
  · exact ⟨B, by rw [re, hu.mpr c2, if_neg ne10], Or.inl ⟨rfl, c2⟩⟩
  · have y30 : y3 = 0 := y3i.resolve_right (fun q => c2 (hu.mp q))
    refine ⟨stB B (4 * t + s) 5, ?_, Or.inr (Or.inl ⟨rfl, c3⟩)⟩
    rw [re, if_pos y30]
    dsimp only [oj]
    rw [hb.mpr c3, if_neg ne10, if_pos rfl, if_neg ne10, og_t b56, og_t b56, Int.toNat_natCast]
    rfl
  · have y30 : y3 = 0 := y3i.resolve_right (fun q => c2 (hu.mp q))
    have y40 : y4 = 0 := y4i.resolve_right (fun q => c3 (hb.mp q))
    have hD : inD B n t := fun u hu v hv ho => by
      have q1 : ¬ B 60 0 (4 * u + v) < 3 := fun q => c2 ⟨u, v, hu, hv, ho, q⟩
      have q2 : ¬ 3 < B 60 0 (4 * u + v) := fun q => c3 ⟨u, v, hu, hv, ho, q⟩
      omega
    have rf : f_X12_opensOne (t : Int) ((4 * t + s : Nat) : Int) B = ob (f_X12_hit_L40 (some (-1)) (t : Int) (keyS B (B 30 0) (dgS B) t s) (fnd B t (keyS B (B 30 0) (dgS B) t s)) (cnt B (B 30 0) t (keyS B (B 30 0) (dgS B) t s)) B 64 0) fun r129 => if r129 = (-1) then some (stB B (4 * t + s) 1) else (og ((0 : Int) ≤ r129 ∧ r129 < 40) <| some (taB (dnB B (4 * t + s) (B 49 0 r129.toNat) (B 50 0 r129.toNat)) 1)) := by
      rw [re, if_pos y30]
      dsimp only [oj]
      rw [if_pos y40, hitM h1 h2 h6 ht hs p1 p6]
      congr 1
      funext r129
      by_cases q : r129 = -1
      · rw [if_pos q, if_pos q, if_pos y40, og_t b56, og_t b56, Int.toNat_natCast]
        rfl
      · rw [if_neg q, if_neg q, og_t b56, Int.toNat_natCast]
        by_cases g : (0 : Int) ≤ r129 ∧ r129 < 40
        · rw [og_t g, og_t b56, og_t g, og_t b56, og_t (by decide), og_t (by decide), og_t g, gU_r (by decide), gU_r (by decide), gU_r (by decide)]
          rfl
        · unfold og
          rw [if_neg g, if_neg g]
    rcases brk01 B t (keyS B (B 30 0) (dgS B) t s) with b0 | b0
    · rcases ffM (K := some (-1)) h14 p1 p6 b0 (file := fnd B t (keyS B (B 30 0) (dgS B) t s)) (con := cnt B (B 30 0) t (keyS B (B 30 0) (dgS B) t s)) with ⟨e', f1, f2, f3, f4⟩ | ⟨f2, f3⟩
      · have e40 : e' < 40 := Nat.lt_of_lt_of_le f1 p1
        refine ⟨taB (dnB B (4 * t + s) (B 49 0 e') (B 50 0 e')) 1, ?_, Or.inr (Or.inr (Or.inr ⟨hD, b0, e', by rw [p6]; exact Int.ofNat_lt.mpr f1, f3, rfl⟩))⟩
        rw [rf, f2, ob_s, if_neg (show ¬ ((e' : Int) = -1) by omega), og_t (show (0 : Int) ≤ (e' : Int) ∧ (e' : Int) < 40 by omega), Int.toNat_natCast]
      · exact ⟨stB B (4 * t + s) 1, by rw [rf, f2, ob_s, if_pos rfl], Or.inr (Or.inr (Or.inl ⟨rfl, hD, fun e he q => f3 e (by rw [p6] at he; exact Int.ofNat_lt.mp he) q.2⟩))⟩
    · exact ⟨stB B (4 * t + s) 1, by rw [rf, ffM1 h14 p1 p6 b0, ob_s, if_pos rfl], Or.inr (Or.inr (Or.inl ⟨rfl, hD, fun e _ q => absurd (b0.symm.trans q.1) ne10⟩))⟩
def OS (B : gM) (n t s : Nat) (B1 : gM) : Prop := (B 60 0 (4 * t + s) ≠ 0 ∧ B1 = B) ∨ (B 60 0 (4 * t + s) = 0 ∧ LV B n t s B1)
theorem setSX {A0 B0 A B : gM} {n c t s n1 n2 : Nat} {x1 : Int} {k k' : gM → Option gM} (h : JI A0 B0 n c t s A B) (hb1 : 1 ≤ A0 4 0 7) (hs : s < 4) (hao : aOK B n t s) (hnd : ndd B t) : ∃ (A' B1 : gM) (g : Int), f_X2_settle_L39 k x1 t t 4 (n1 + 1) (s : Int) A = f_X2_settle_L39 k x1 t t 4 n1 ((s + 1 : Nat) : Int) A' ∧ f_X12_opens_L17 k' (t : Int) (n2 + 1) (s : Int) B = f_X12_opens_L17 k' (t : Int) n2 ((s + 1 : Nat) : Int) (gU B1 29 0 36 g) ∧ JI A0 B0 n c t (s + 1) A' (gU B1 29 0 36 g) ∧ OS B n t s B1 := by
  have hSI := h.1
  have hT := hSI.2.1
  have hRB := hSI.2.2.2.2.2.1
  have h14 : t < 14 := Nat.lt_of_lt_of_le hao.1 hT.1
  have g4 : (0 : Int) ≤ (s : Int) ∧ (s : Int) < 4 := by omega
  have g14 : (0 : Int) ≤ (t : Int) ∧ (t : Int) < 14 := by omega
  have g56 : (0 : Int) ≤ ((4 * t + s : Nat) : Int) ∧ ((4 * t + s : Nat) : Int) < 56 := by omega
  have w : wI (wI (4 * (t : Int)) + (s : Int)) = ((4 * t + s : Nat) : Int) := w4 (by omega) (by omega)
  have w1 : wI ((s : Int) + 1) = ((s + 1 : Nat) : Int) := wI_s (by omega)
  have i1 : f_X12_isNeeded (t : Int) B = 1 := if_pos hnd
  have stE' : ∀ {A1 B1 : gM}, SI A1 B1 n c → aOK B1 n t s → ndd B1 t → A1 9 (4 * t + s) 2 = B1 60 0 (4 * t + s) ∧ 0 ≤ B1 60 0 (4 * t + s) := fun {A1 B1} q q1 q2 => by
    have := (q.2.2.2.2.2.1.2.2.2.2.2.2.2.1 t s h14 hs).2.2.1 ⟨q1, q2⟩
    exact ⟨this.1, this.2.1.1⟩
  have core : ∀ A1 B1 : gM, SI A1 B1 n c → But [9, 23, 24] A1 A → But [60, 61, 62, 63, 68] B1 B → (∀ x, x ≠ 4 * t + s → B1 60 0 x = B 60 0 x) → (B1 60 0 (4 * t + s) = 0 → unf B n t) → JI A0 B0 n c t (s + 1) (gU A1 4 0 8 (if A1 4 0 8 = 0 then (if B1 60 0 (4 * t + s) < 3 then 1 else 0) else 1)) (gU B1 29 0 36 (gOr (B1 29 0 36) (if B1 60 0 (4 * t + s) < 3 then 1 else 0))) := by
    intro A1 B1 q1 fA fB q2 q3
    have e8 : A1 4 0 8 = B1 29 0 36 := q1.2.2.2.2.2.1.2.1
    have e01 := q1.2.2.2.2.2.1.2.2.1
    obtain ⟨f1, f2, f3⟩ := flagEq (st := B1 60 0 (4 * t + s)) (e01.imp id (fun z => z.1))
    rw [e8, ← f1]
    refine JI_step h hb1 hs hao hnd q1 fA fB q2 q3 f2 (f3.trans ?_)
    rw [But_q fB rfl]
  have clF : ∀ A1 B1 : gM, SI A1 B1 n c → aOK B1 n t s → ndd B1 t → (if A1 4 0 8 = 0 then (if f_X0_isUnfinished (4 * t + s) A1 = 0 then f_X2_settle_L39 k x1 t t 4 n1 ((s + 1 : Nat) : Int) (gU A1 4 0 8 0) else f_X2_settle_L39 k x1 t t 4 n1 ((s + 1 : Nat) : Int) (gU A1 4 0 8 1)) else f_X2_settle_L39 k x1 t t 4 n1 ((s + 1 : Nat) : Int) (gU A1 4 0 8 1)) = f_X2_settle_L39 k x1 t t 4 n1 ((s + 1 : Nat) : Int) (gU A1 4 0 8 (if A1 4 0 8 = 0 then (if B1 60 0 (4 * t + s) < 3 then 1 else 0) else 1)) := by
    intro A1 B1 q1 q2 q3
    obtain ⟨e1, e2⟩ := stE' q1 q2 q3
    by_cases a : A1 4 0 8 = 0
    · rw [if_pos a, if_pos a]
      by_cases b : B1 60 0 (4 * t + s) < 3
      · rw [isU1 (by rw [e1]; exact ⟨e2, b⟩), if_neg ne10, if_pos b]
      · rw [isU0 (Or.inr (by rw [e1]; exact Int.not_lt.mp b)), if_pos rfl, if_neg b]
    · rw [if_neg a, if_neg a]
  have rfF : ∀ B1 : gM, (if B1 60 0 (4 * t + s) < 3 then f_X12_opens_L17 k' (t : Int) n2 ((s + 1 : Nat) : Int) (gU B1 29 0 36 (gOr (B1 29 0 36) 1)) else f_X12_opens_L17 k' (t : Int) n2 ((s + 1 : Nat) : Int) (gU B1 29 0 36 (gOr (B1 29 0 36) 0))) = f_X12_opens_L17 k' (t : Int) n2 ((s + 1 : Nat) : Int) (gU B1 29 0 36 (gOr (B1 29 0 36) (if B1 60 0 (4 * t + s) < 3 then 1 else 0))) := by
    intro B1
    by_cases b : B1 60 0 (4 * t + s) < 3
    · rw [if_pos b, if_pos b]
    · rw [if_neg b, if_neg b]
  obtain ⟨e1, e2⟩ := stE' hSI hao hnd
  by_cases h60 : B 60 0 (4 * t + s) = 0
  · obtain ⟨A1, B1, r1, r2, r3, r4, r5, r6, r7⟩ := lvCM hSI hs hao hnd h60
    obtain ⟨B9, v1, v2⟩ := lvX hSI hs hao hnd h60
    have e9 : B9 = B1 := Option.some.inj (v1.symm.trans r2)
    rw [e9] at v2
    have tN : TdN B B1 := TdN_9 (But_w r5 rfl)
    refine ⟨_, _, _, ?_, ?_, core A1 B1 r3 r4 r5 r6 (fun q => ?_), Or.inr ⟨h60, v2⟩⟩
    · rw [f_X2_settle_L39, if_pos g4.2, og_t g4, Int.toNat_natCast]
      dsimp only [oj]
      rw [if_pos (e1.trans h60), r1, ob_s, w1]
      exact clF A1 B1 r3 ((aOK_t tN.1 n _ _).mpr hao) ((ndd_t tN _).mpr hnd)
    · rw [f_X12_opens_L17, og_t g14, Int.toNat_natCast, if_pos hao.2, i1, if_neg ne10, w, og_t g56]
      dsimp only [oj]
      rw [Int.toNat_natCast, if_pos h60, r2, ob_s, og_t g56, w1]
      exact rfF B1
    · rcases r7 with ⟨_, p⟩ | p
      · exact p
      · omega
  · refine ⟨_, _, _, ?_, ?_, core A B hSI But_r But_r (fun _ _ => rfl) (fun q => absurd q h60), Or.inl ⟨h60, rfl⟩⟩
    · rw [f_X2_settle_L39, if_pos g4.2, og_t g4, Int.toNat_natCast]
      dsimp only [oj]
      rw [if_neg (fun q => h60 (e1.symm.trans q)), w1]
      exact clF A B hSI hao hnd
    · rw [f_X12_opens_L17, og_t g14, Int.toNat_natCast, if_pos hao.2, i1, if_neg ne10, w, og_t g56]
      dsimp only [oj]
      rw [Int.toNat_natCast, if_neg h60, og_t g56, w1]
      exact rfF B
theorem setTX {A0 B0 : gM} {n c t m : Nat} {x1 : Int} {k k' : gM → Option gM} {XI : Nat → Nat → gM → Prop} (hst : ∀ t s A B B1 g, JI A0 B0 n c t s A B → s < 4 → aOK B n t s → ndd B t → XI t s B → OS B n t s B1 → XI t (s + 1) (gU B1 29 0 36 g)) (hb1 : 1 ≤ A0 4 0 7) (ht : t < n) (hm4 : m ≤ 4) (hm : B0 38 0 t = (m : Int)) (hnd : ndd B0 t) : ∀ (d s n1 n2 : Nat) (A B : gM), s + d = m → 4 < n1 + s → d < n2 → JI A0 B0 n c t s A B → XI t s B → ∃ A' B' : gM, f_X2_settle_L39 k x1 t t 4 n1 (s : Int) A = k A' ∧ f_X12_opens_L17 k' (t : Int) n2 (s : Int) B = k' B' ∧ JI A0 B0 n c t m A' B' ∧ XI t m B' := by
  intro d
  induction d with
  | zero =>
    intro s n1 n2 A B e h1 h2 h hXI
    obtain ⟨n2, rfl⟩ : ∃ x, n2 = x + 1 := ⟨n2 - 1, by omega⟩
    have e : s = m := by omega
    subst e
    have tN := JI_td h
    have hT := h.1.2.1
    have h14 : t < 14 := Nat.lt_of_lt_of_le ht hT.1
    have g14 : (0 : Int) ≤ (t : Int) ∧ (t : Int) < 14 := by omega
    have hmB : B 38 0 t = (s : Int) := by rw [tN.1 38 (by decide)]; exact hm
    have e8 : A 4 0 8 = B 29 0 36 := h.1.2.2.2.2.2.1.2.1
    have e01 := h.1.2.2.2.2.2.1.2.2.1
    refine ⟨A, B, ?_, ?_, h, hXI⟩
    · refine clSkip (by rw [e8]; exact e01.imp id (fun z => z.1)) (4 - s) s n1 (by omega) (by omega) (fun i q1 q2 => ?_)
      refine (h.1.2.2.2.2.2.1.2.2.2.2.2.2.2.1 t i h14 q2).2.2.2 (fun q => ?_)
      have := q.1.2
      rw [hmB] at this
      omega
    · rw [f_X12_opens_L17, og_t g14, Int.toNat_natCast, hmB, if_neg (Int.lt_irrefl _)]
  | succ d ih =>
    intro s n1 n2 A B e h1 h2 h hXI
    have hs : s < 4 := by omega
    obtain ⟨n1, rfl⟩ : ∃ x, n1 = x + 1 := ⟨n1 - 1, by omega⟩
    obtain ⟨n2, rfl⟩ : ∃ x, n2 = x + 1 := ⟨n2 - 1, by omega⟩
    have tN := JI_td h
    have hao : aOK B n t s := ⟨ht, by rw [tN.1 38 (by decide), hm]; omega⟩
    have hao' : aOK B n t s := hao
    obtain ⟨A', B1, g, r1, r2, r3, r4⟩ := setSX (n1 := n1) (n2 := n2) (x1 := x1) (k := k) (k' := k') h hb1 hs hao ((ndd_t tN _).mpr hnd)
    have hX1 := hst t s A B B1 g h hs hao' ((ndd_t tN _).mpr hnd) hXI r4
    obtain ⟨A2, B2, q1, q2, q3⟩ := ih (s + 1) n1 n2 A' (gU B1 29 0 36 g) (by omega) (by omega) (by omega) r3 hX1
    exact ⟨A2, B2, r1.trans q1, r2.trans q2, q3⟩
theorem setLX {A0 B0 : gM} {n c : Nat} {XI : Nat → Nat → gM → Prop} (hst : ∀ t s A B B1 g, JI A0 B0 n c t s A B → s < 4 → aOK B n t s → ndd B t → XI t s B → OS B n t s B1 → XI t (s + 1) (gU B1 29 0 36 g)) (hnx : ∀ t s B, XI t s B → (ndd B t → ∀ s', aOK B n t s' → s' < s) → XI (t + 1) 0 B) (hb1 : 1 ≤ A0 4 0 7) : ∀ (d t n1 n2 : Nat) (A B : gM), t + d = n → d < n1 → d < n2 → JI A0 B0 n c t 0 A B → XI t 0 B → ∃ A' B' : gM, f_X2_settle_L7 (fun (M_7_103 : gM) => some M_7_103) n1 (t : Int) A = some A' ∧ f_X12_opens_L7 (fun (M_7_92 : gM) => some M_7_92) n2 (t : Int) B = some B' ∧ JI A0 B0 n c n 0 A' B' ∧ XI n 0 B' := by
  intro d
  induction d with
  | zero =>
    intro t n1 n2 A B e h1 h2 h hXI
    obtain ⟨n1, rfl⟩ : ∃ x, n1 = x + 1 := ⟨n1 - 1, by omega⟩
    obtain ⟨n2, rfl⟩ : ∃ x, n2 = x + 1 := ⟨n2 - 1, by omega⟩
    have e : t = n := by omega
    subst e
    have hT := h.1.2.1
    refine ⟨A, B, ?_, ?_, h, hXI⟩
    · rw [f_X2_settle_L7, hT.2.1, if_neg (Int.lt_irrefl _)]
    · rw [f_X12_opens_L7, hT.2.2.1, if_neg (Int.lt_irrefl _)]
  | succ d ih =>
    intro t n1 n2 A B e h1 h2 h hXI
    obtain ⟨n1, rfl⟩ : ∃ x, n1 = x + 1 := ⟨n1 - 1, by omega⟩
    obtain ⟨n2, rfl⟩ : ∃ x, n2 = x + 1 := ⟨n2 - 1, by omega⟩
    have ht : t < n := by omega
    have hT := h.1.2.1
    have h14 : t < 14 := Nat.lt_of_lt_of_le ht hT.1
    have w1 : wI ((t : Int) + 1) = ((t + 1 : Nat) : Int) := wI_s (by omega)
    have htl : (t : Int) < (n : Int) := by omega
    have g14 : (0 : Int) ≤ (t : Int) ∧ (t : Int) < 14 := by omega
    obtain ⟨m, m1, m2, m3, m4⟩ := shT hT ht
    have tN := JI_td h
    have m0 : B0 38 0 t = (m : Int) := by rw [← tN.1 38 (by decide)]; exact m4
    have i1 : 0 + m = m := by omega
    have i2 : m < 64 := by omega
    have i3 : t + 1 + d = n := by omega
    have i4 : d < n1 := by omega
    have i5 : d < n2 := by omega
    have key : ∃ A' B' : gM, f_X2_settle_L39 (fun (M_39_97 : gM) => f_X2_settle_L7 (fun (M_7_103 : gM) => some M_7_103) n1 ((t + 1 : Nat) : Int) M_39_97) (t : Int) t t 4 64 0 A = f_X2_settle_L7 (fun (M_7_103 : gM) => some M_7_103) n1 ((t + 1 : Nat) : Int) A' ∧ f_X12_opens_L17 (fun (M_17_86 : gM) => f_X12_opens_L7 (fun (M_7_92 : gM) => some M_7_92) n2 ((t + 1 : Nat) : Int) M_17_86) (t : Int) 64 0 B = f_X12_opens_L7 (fun (M_7_92 : gM) => some M_7_92) n2 ((t + 1 : Nat) : Int) B' ∧ JI A0 B0 n c (t + 1) 0 A' B' ∧ XI (t + 1) 0 B' := by
      by_cases hnd : ndd B0 t
      · obtain ⟨A', B', q1, q2, q3, q4⟩ := setTX hst (x1 := (t : Int)) (k := fun (M_39_97 : gM) => f_X2_settle_L7 (fun (M_7_103 : gM) => some M_7_103) n1 ((t + 1 : Nat) : Int) M_39_97) (k' := fun (M_17_86 : gM) => f_X12_opens_L7 (fun (M_7_92 : gM) => some M_7_92) n2 ((t + 1 : Nat) : Int) M_17_86) hb1 ht m2 m0 hnd m 0 64 64 A B i1 (by decide) i2 h hXI
        have lst : ∀ s', aOK B' n t s' → s' < m := fun s' ho => by
          have := ho.2
          rw [(JI_td q3).1 38 (by decide), m0] at this
          exact Int.ofNat_lt.mp this
        exact ⟨A', B', q1, q2, JI_next q3 (fun _ s' ho => lst s' ho), hnx t m B' q4 (fun _ s' ho => lst s' ho)⟩
      · have hndB : ¬ ndd B t := fun q => hnd ((ndd_t tN _).mp q)
        have e8 : A 4 0 8 = B 29 0 36 := h.1.2.2.2.2.2.1.2.1
        have e01 := h.1.2.2.2.2.2.1.2.2.1
        refine ⟨A, B, ?_, ?_, JI_next h (fun q => absurd q hndB), hnx t 0 B hXI (fun q => absurd q hndB)⟩
        · exact clSkip (k := fun (M_39_97 : gM) => f_X2_settle_L7 (fun (M_7_103 : gM) => some M_7_103) n1 ((t + 1 : Nat) : Int) M_39_97) (by rw [e8]; exact e01.imp id (fun z => z.1)) 4 0 64 (by decide) (by decide) (fun i _ q2 => (h.1.2.2.2.2.2.1.2.2.2.2.2.2.2.1 t i h14 q2).2.2.2 (fun q => hndB q.2))
        · have i0 : f_X12_isNeeded (t : Int) B = 0 := if_neg hndB
          rw [f_X12_opens_L17, og_t g14, Int.toNat_natCast, m4, if_pos (show (0 : Int) < (m : Int) by omega), i0, if_pos rfl]
    obtain ⟨A', B', q1, q2, q3, q4⟩ := key
    obtain ⟨A2, B2, r1, r2, r3⟩ := ih (t + 1) n1 n2 A' B' i3 i4 i5 q3 q4
    refine ⟨A2, B2, ?_, ?_, r3⟩
    · rw [f_X2_settle_L7, hT.2.1, if_pos htl, tAt hT.2.1 hT.1 ht, w1]
      exact q1.trans r1
    · rw [f_X12_opens_L7, hT.2.2.1, if_pos htl, w1]
      exact q2.trans r2
theorem setCMX {A B : gM} {n c : Nat} {XI : Nat → Nat → gM → Prop} (hst : ∀ t s A1 B2 B1 g, JI A B n c t s A1 B2 → s < 4 → aOK B2 n t s → ndd B2 t → XI t s B2 → OS B2 n t s B1 → XI t (s + 1) (gU B1 29 0 36 g)) (hnx : ∀ t s B, XI t s B → (ndd B t → ∀ s', aOK B n t s' → s' < s) → XI (t + 1) 0 B) (hx0 : XI 0 0 (gU B 29 0 36 0)) (h : SI A B n c) (hb1 : 1 ≤ A 4 0 7) : ∃ A' B' : gM, f_X2_settle A = some A' ∧ f_X12_opens B = some B' ∧ SI A' B' n c ∧ RG B' n ∧ But [4, 9, 23, 24] A' A ∧ (∀ k, k ≠ 8 → A' 4 0 k = A 4 0 k) ∧ But [29, 60, 61, 62, 63, 68] B' B ∧ (∀ j, j ≠ 36 → B' 29 0 j = B 29 0 j) ∧ XI n 0 B' := by
  have h14 := h.2.1.1
  have hn : n < 64 := by omega
  have j0 : JI A B n c 0 0 (gU A 4 0 8 0) (gU B 29 0 36 0) := by
    refine ⟨SI_g h (Or.inl rfl), fun t' s' q => ?_, ?_, But_u But_r rfl, fun k hk => gU_k hk, But_u But_r rfl, fun j hj => gU_k hj⟩
    · unfold bef at q; omega
    · rw [gU_s]
      exact ⟨fun q => absurd q ne01, fun ⟨t', s', q, _⟩ => by unfold bef at q; omega⟩
  obtain ⟨A', B', r1, r2, ⟨j1, j2, j3, j4, j5, j6, j7⟩, j8⟩ := setLX hst hnx hb1 n 0 64 64 _ _ (by omega) hn hn j0 hx0
  have hb : ∀ t' s', aOK B' n t' s' → bef n 0 t' s' := fun t' s' q => Or.inl q.1
  refine ⟨A', B', r1, r2, j1, ⟨fun q t s hs ho hd => ?_, fun q => ?_⟩, j4, j5, j6, j7, j8⟩
  · have : ¬ B' 60 0 (4 * t + s) < 3 := fun x => by
      have := j3.mpr ⟨t, s, hb t s ho, hs, ho, hd, x⟩
      rw [q] at this
      exact ne01 this
    omega
  · obtain ⟨t, s, q1, q2, q3, q4, q5⟩ := j3.mp q
    exact ⟨⟨t, s, q2, q3, q4, q5⟩, j1.2.2.2.2.2.2.1, j1.2.2.2.2.2.2.2.1, fun t s hs ho hd hx => j2 t s (hb t s ho) hs ho hd hx, j1.2.2.2.2.2.2.2.2⟩
theorem lvXP {A B B1 : gM} {n c t s : Nat} {N : Int} (h : SI A B n c) (hX : XX B n) (hP : PM B n N) (hs : s < 4) (hao : aOK B n t s) (hnd : ndd B t) (h60 : B 60 0 (4 * t + s) = 0) (hL : LV B n t s B1) : XX B1 n ∧ PM B1 n N := by
  obtain ⟨h1, h2, h3, h4, h5, h6, g1', g2, g4⟩ := id h
  obtain ⟨i1, i2, i3⟩ := RW_iff.mp h5
  have h3' : B 60 0 (4 * t + s) ≠ 3 := by rw [h60]; decide
  have f0 : B 63 0 (4 * t + s) = 0 := (h6.2.2.2.2.2.2.2.2.2.2.2 t s hs hao hnd).1 h60
  have st : ∀ v : Int, (v = 1 ∨ v = 5) → XX (stB B (4 * t + s) v) n ∧ PM (stB B (4 * t + s) v) n N := fun v hv => by
    have fB : But [60, 63] (stB B (4 * t + s) v) B := stB_o
    have tN : TdN B (stB B (4 * t + s) v) := TdN_9 (But_w fB rfl)
    refine ⟨XX_act h1 h2 (W3_0 i2) g2 hX tN (But_q fB rfl) hs h3' (fun x hx => by rw [stB_60, if_neg hx]) (fun x _ => by rw [But_q fB rfl]) (fun x _ => by rw [But_q fB rfl]) (XE_c hX.2.1 (by rw [But_q fB rfl]) (But_l fB rfl)) (EM_r (by rw [But_q fB rfl]) (But_l fB rfl)) hao.1 (fun w _ => Or.inr (Or.inl ⟨by rw [But_q fB rfl], by rw [But_q fB rfl], by rw [But_q fB rfl]⟩)) (fun q => ?_), PM_act hP tN hs (fun x hx => by rw [stB_60, if_neg hx]) (fun x hx => by rw [stB_63, if_neg hx]) (fun w _ _ _ => ⟨by rw [But_q fB rfl], by rw [But_q fB rfl]⟩) (fun y hy => ?_)⟩
    · rw [stB_60, if_pos rfl] at q
      rcases hv with z | z <;> rw [z] at q <;> exact absurd q (by decide)
    · intro q
      rw [stB_60, if_pos rfl] at q
      obtain ⟨p1, p2, p3, -⟩ := hy (by rw [h60]; decide)
      have p3 := p3 (by rw [h60]; decide)
      rw [f0] at p3
      rw [stB_60, stB_63, if_pos rfl, if_pos rfl]
      refine ⟨by decide, by decide, fun _ => p3, fun z => ?_⟩
      rcases hv with z' | z' <;> rw [z'] at z <;> exact absurd z (by decide)
  rcases hL with ⟨e, -⟩ | ⟨e, -⟩ | ⟨e, -⟩ | ⟨y1, y2, e, e1, ⟨f1, f2, f3, f4, -⟩, eB⟩
  · rw [e]; exact ⟨hX, hP⟩
  · rw [e]; exact st 5 (Or.inr rfl)
  · rw [e]; exact st 1 (Or.inl rfl)
  · rw [eB]
    have fB : But [60, 61, 62, 68] (taB (dnB B (4 * t + s) (B 49 0 e) (B 50 0 e)) 1) B := But_t (But_w dnB_o rfl) (But_w taB_o rfl)
    have tN : TdN B (taB (dnB B (4 * t + s) (B 49 0 e) (B 50 0 e)) 1) := TdN_9 (But_w fB rfl)
    have e60 : ∀ x, taB (dnB B (4 * t + s) (B 49 0 e) (B 50 0 e)) 1 60 0 x = if x = 4 * t + s then 3 else B 60 0 x := fun x => by rw [But_q taB_o rfl, dnB_60]
    have e61 : ∀ x, taB (dnB B (4 * t + s) (B 49 0 e) (B 50 0 e)) 1 61 0 x = if x = 4 * t + s then B 49 0 e else B 61 0 x := fun x => by rw [But_q taB_o rfl, dnB_61]
    obtain ⟨z1, z2, z3⟩ := hX.2.1 e e1
    have hk := key_in h1 h2 h6 hao.1 hs
    have hM := EM_r (B := B) (B' := taB (dnB B (4 * t + s) (B 49 0 e) (B 50 0 e)) 1) (by rw [But_q fB rfl]) (But_l fB rfl)
    refine ⟨XX_act h1 h2 (W3_0 i2) g2 hX tN (But_q fB rfl) hs h3' (fun x hx => by rw [e60, if_neg hx]) (fun x hx => by rw [e61, if_neg hx]) (fun x _ => by rw [But_q fB rfl]) (XE_c hX.2.1 (by rw [But_q fB rfl]) (But_l fB rfl)) hM hao.1 (fun w _ => Or.inr (Or.inl ⟨by rw [But_q fB rfl], by rw [But_q fB rfl], by rw [But_q fB rfl]⟩)) (fun _ => ⟨y1, y2, ?_, fun _ => hasE_m (Or.inr ⟨e, e1, f1, f3, f4⟩) hM tN.1 (But_q fB rfl)⟩), PM_act hP tN hs (fun x hx => by rw [e60, if_neg hx]) (fun x _ => by rw [But_q fB rfl]) (fun w _ _ _ => ⟨by rw [But_q fB rfl], by rw [But_q fB rfl]⟩) (fun y _ q => ?_)⟩
    · rw [e61, if_pos rfl, z3, f1, f3, f4]
      exact (res_rfc hk).symm
    · rw [e60, if_pos rfl] at q
      exact absurd q (by decide)
theorem XX_g {B : gM} {n : Nat} {v : Int} (h : XX B n) : XX (gU B 29 0 36 v) n := by
  have fB : But [29] (gU B 29 0 36 v) B := But_u But_r rfl
  exact XX_fr h (TdN_b (But_w fB rfl) (gU_k (by decide))) (But_q fB rfl) (gU_k (by decide)) (But_l fB rfl)
theorem PM_g {B : gM} {n : Nat} {N v : Int} (h : PM B n N) : PM (gU B 29 0 36 v) n N := by
  have fB : But [29] (gU B 29 0 36 v) B := But_u But_r rfl
  exact PM_fr h (TdN_b (But_w fB rfl) (gU_k (by decide))) (But_l fB rfl)
/-- settle, with the invariants -/
theorem setXP {A B : gM} {n c : Nat} {N : Int} (h : SI A B n c) (hb1 : 1 ≤ A 4 0 7) (hX : XX B n) (hP : PM B n N) : ∃ A' B' : gM, f_X2_settle A = some A' ∧ f_X12_opens B = some B' ∧ SI A' B' n c ∧ RG B' n ∧ But [4, 9, 23, 24] A' A ∧ (∀ k, k ≠ 8 → A' 4 0 k = A 4 0 k) ∧ But [29, 60, 61, 62, 63, 68] B' B ∧ (∀ j, j ≠ 36 → B' 29 0 j = B 29 0 j) ∧ XX B' n ∧ PM B' n N :=
  setCMX (XI := fun _ _ B2 => XX B2 n ∧ PM B2 n N) (fun t s A1 B2 B1 g hJ hs hao hnd hxi ho => by
    rcases ho with ⟨-, e⟩ | ⟨h60, hL⟩
    · rw [e]; exact ⟨XX_g hxi.1, PM_g hxi.2⟩
    · obtain ⟨y1, y2⟩ := lvXP hJ.1 hxi.1 hxi.2 hs hao hnd h60 hL
      exact ⟨XX_g y1, PM_g y2⟩) (fun _ _ _ hxi _ => hxi) ⟨XX_g hX, PM_g hP⟩ h hb1
