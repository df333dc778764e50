/-! ## p29: the sound ones are built again, by hits alone -/
def hk (x : Int) : Nat → Int
  | 0 => x
  | k + 1 => wI (hk x k + 1)
theorem wI_wI (a b : Int) : wI (wI a + b) = wI (a + b) := by
  unfold wI
  omega
theorem hk_s (x : Int) : ∀ k : Nat, hk x (k + 1) = wI (x + ((k + 1 : Nat) : Int)) := by
  intro k
  induction k with
  | zero => rfl
  | succ k ih =>
    show wI (hk x (k + 1) + 1) = _
    rw [ih, wI_wI]
    congr 1
    omega
theorem wn_union {A B : gM} {n x : Nat} (hS : RS A B) (hT : RT A B n) (u : Nat) : (wnN B n x).testBit u = true ↔ ∃ t, x.testBit t = true ∧ (wnN B n (2 ^ t)).testBit u = true := by
  constructor
  · refine wn_min hS hT (S := fun u => ∃ t, x.testBit t = true ∧ (wnN B n (2 ^ t)).testBit u = true) (fun t v ht h hv => ?_) n x (Nat.le_refl _) (fun v hv => ⟨v, hv, wn_sub n _ v ((pow_bit v v).mpr rfl)⟩) u
    obtain ⟨r, r1, r2⟩ := h
    exact ⟨r, r1, wn_cl hS hT n _ t v (Nat.le_refl _) ht r2 hv⟩
  · rintro ⟨t, h1, h2⟩
    exact wn_min hS hT (S := fun u => (wnN B n x).testBit u = true) (fun a v ha h hv => wn_cl hS hT n _ a v (Nat.le_refl _) ha h hv) n (2 ^ t) (Nat.le_refl _) (fun v hv => by
      rw [(pow_bit t v).mp hv]
      exact wn_sub n x t h1) u h2
/-- the state of the second build's settling: whatever was looked at is a hit, with the first build's result -/
def HI (B : gM) (n N t s : Nat) (X : gM) : Prop := XX X n ∧ PM X n 1800 ∧ TdN X X ∧ Td B X ∧ X 30 = B 30 ∧ X 29 0 37 = (N : Int) ∧ (∀ q, q ∈ [46, 47, 48, 49, 50, 51, 52] → X q = B q) ∧ X 29 0 21 = B 29 0 21 ∧
  (∀ t' s', bef t s t' s' → s' < 4 → aOK X n t' s' → ndd X t' → X 60 0 (4 * t' + s') = 3 ∧ X 61 0 (4 * t' + s') = B 61 0 (4 * t' + s') ∧ X 64 0 (4 * t' + s') = 0) ∧
  (∀ t' s', ¬ bef t s t' s' → s' < 4 → aOK X n t' s' → ndd X t' → X 60 0 (4 * t' + s') = 0 ∧ X 64 0 (4 * t' + s') = 0) ∧
  X 68 0 0 = B 68 0 0 ∧ X 68 0 1 = hk (B 68 0 1) (opn B N t + (if N.testBit t = true then s else 0))
theorem bef_s {t s t' s' : Nat} : bef t (s + 1) t' s' ↔ bef t s t' s' ∨ (t' = t ∧ s' = s) := by
  unfold bef
  omega
theorem hi_step {A B X X1 A0 B0 A9 : gM} {n c N t s : Nat} {g : Int} (hSB : RS A B) (hTB : RT A B n) (hXB : XX B n) (h40 : B 29 0 21 ≠ 40) (hN : N < 16384) (hsn : ∀ t, t < n → N.testBit t = true → dnP B n 0 t)
    (hJ : JI A0 B0 n c t s A9 X) (hs : s < 4) (hao : aOK X n t s) (hnd : ndd X t) (h : HI B n N t s X) (ho : OS X n t s X1) : HI B n N t (s + 1) (gU X1 29 0 36 g) := by
  obtain ⟨x1, x2, x3, x4, x5, x6, x7, x8, x9, x10, x11, x12⟩ := h
  have hSI := hJ.1
  obtain ⟨hS, hT, -, -, -, h6, g1', -, -⟩ := id hSI
  have ht := hao.1
  have t31 : t < 31 := Nat.lt_of_lt_of_le (Nat.lt_of_lt_of_le ht hT.1) (by decide)
  have hNt : N.testBit t = true := by
    have q := hnd
    unfold ndd at q
    rw [x6] at q
    exact (bit_1 (lt14_31 hN) t31).mp q
  have haoB : aOK B n t s := (aOK_t x4 n t s).mp hao
  obtain ⟨d1, d2⟩ := hsn t ht hNt
  obtain ⟨b3, b0⟩ := d2 s hs haoB
  obtain ⟨z0, z0'⟩ := x10 t s (fun q => by unfold bef at q; omega) hs hao hnd
  -- all inputs were looked at
  have inp : ∀ u, isI X t u → ∀ v, v < 4 → aOK X n u v → X 60 0 (4 * u + v) = 3 ∧ X 61 0 (4 * u + v) = B 61 0 (4 * u + v) ∧ X 64 0 (4 * u + v) = 0 := fun u hu v hv hov =>
    x9 u v (Or.inl (isI_lt hS hT ht hu)) hv hov (g1' t u ht hnd hu)
  have ekB : KK X t s = KK B t s := by
    refine KK_c hSB hTB ht x4 x5 (fun u hu => ?_)
    have huX := (isI_t x4 t u).mpr hu
    have hun := Nat.lt_trans (isI_lt hSB hTB ht hu) ht
    obtain ⟨m, m1, m2, -, m4⟩ := shT hTB hun
    exact dgS_k m4 (x4 38 (by decide)) (fun v hv => (inp u huX v (Nat.lt_of_lt_of_le hv m2) ((aOK_t x4 n u v).mpr ⟨hun, by rw [m4]; exact Int.ofNat_lt.mpr hv⟩)).2.1)
  obtain ⟨y1, y2, y3, y4⟩ := hXB.2.2.1 t s hs haoB d1 b3
  rcases ho with ⟨q, -⟩ | ⟨-, hL⟩
  · exact absurd z0 q
  · have hXP := lvXP hSI x1 x2 hs hao hnd z0 hL
    have nob : ∀ e : Nat, (e : Int) < X 29 0 21 → X 46 0 e = KK X t s → X 47 0 e = fnd X t (KK X t s) → X 48 0 e = cnt X (X 30 0) t (KK X t s) → fits X (KK X t s) (fnd X t (KK X t s)) (cnt X (X 30 0) t (KK X t s)) e := fun e e1 e2 e3 e4 => by
      obtain ⟨w1, w2, -⟩ := x1.2.1 e e1
      exact ⟨e2, w1, e3, e4, Or.inr w2⟩
    rcases hL with ⟨-, u, v, u1, u2, u3, u4⟩ | ⟨-, u, v, u1, u2, u3, u4⟩ | ⟨-, -, hno⟩ | ⟨-, hb, e, e1, ⟨f1, f2, f3, f4, -⟩, eX⟩
    · rw [(inp u u1 v u2 u3).1] at u4
      exact absurd u4 (by decide)
    · rw [(inp u u1 v u2 u3).1] at u4
      exact absurd u4 (by decide)
    · rcases y4 (b0 rfl) with q | ⟨e, e1, e2, e3, e4⟩
      · exact absurd q h40
      · refine absurd ⟨?_, nob e (by rw [x8]; exact e1) ?_ ?_ ?_⟩ (hno e (by rw [x8]; exact e1))
        · rw [ekB, brk_td x4]; exact y2
        · rw [x7 46 (by decide), ekB]; exact e2
        · rw [x7 47 (by decide), ekB, fnd_td x4]; exact e3
        · rw [x7 48 (by decide), ekB, cnt_td x4, x5]; exact e4
    · have fX : But [60, 61, 62, 68] X1 X := by
        rw [eX]
        exact But_t (But_w dnB_o rfl) (But_w taB_o rfl)
      have fG : But [29, 60, 61, 62, 68] (gU X1 29 0 36 g) X := But_u (But_w fX rfl) rfl
      have g29 : ∀ j, j ≠ 36 → gU X1 29 0 36 g 29 0 j = X 29 0 j := fun j hj => by rw [gU_k hj, But_q fX rfl]
      have tN : TdN X (gU X1 29 0 36 g) := TdN_b (But_w fG rfl) (g29 37 (by decide))
      have e60 : ∀ a, gU X1 29 0 36 g 60 0 a = if a = 4 * t + s then 3 else X 60 0 a := fun a => by
        rw [gU_r (by decide), eX, But_q taB_o rfl, dnB_60]
      have e61 : ∀ a, gU X1 29 0 36 g 61 0 a = if a = 4 * t + s then X 49 0 e else X 61 0 a := fun a => by
        rw [gU_r (by decide), eX, But_q taB_o rfl, dnB_61]
      have e64 : gU X1 29 0 36 g 64 = X 64 := But_q fG rfl
      have e68 : ∀ j, gU X1 29 0 36 g 68 0 j = if j = 1 then wI (X 68 0 1 + 1) else X 68 0 j := fun j => by
        rw [gU_r (by decide), eX]
        unfold taB
        rw [gU_same]
        have q68 : dnB X (4 * t + s) (X 49 0 e) (X 50 0 e) 68 = X 68 := But_q dnB_o rfl
        rw [q68]
        rfl
      have hkk := key_in hS hT h6 ht hs
      have val : X 49 0 e = B 61 0 (4 * t + s) := by
        obtain ⟨-, -, w3⟩ := x1.2.1 e e1
        have r1 : X 49 0 e = res X (X 30 0) t (KK X t s) := by
          rw [w3, f1, f3, f4]
          exact (res_rfc hkk).symm
        rw [r1, res_td x4, x5, ekB]
        exact y3.symm
      refine ⟨XX_g hXP.1, PM_g hXP.2, ⟨fun _ _ => rfl, rfl⟩, fun q hq => (tN.1 q hq).trans (x4 q hq), (But_q fG rfl).trans x5, (g29 37 (by decide)).trans x6, fun q hq => (fG q (fun m => by simp only [List.mem_cons, List.not_mem_nil, or_false] at m hq; omega)).trans (x7 q hq), (g29 21 (by decide)).trans x8, fun t' s' hb' hs' ho' hd' => ?_, fun t' s' hb' hs' ho' hd' => ?_, ?_, ?_⟩
      · have ho'' := (aOK_t tN.1 n t' s').mp ho'
        have hd'' := (ndd_t tN t').mp hd'
        rw [e60, e61, e64]
        rcases bef_s.mp hb' with q | ⟨q1, q2⟩
        · have ne : 4 * t' + s' ≠ 4 * t + s := fun z => by
            have := four hs' hs z
            unfold bef at q
            omega
          rw [if_neg ne, if_neg ne]
          exact x9 t' s' q hs' ho'' hd''
        · subst q1 q2
          rw [if_pos rfl, if_pos rfl]
          exact ⟨rfl, val, z0'⟩
      · have ho'' := (aOK_t tN.1 n t' s').mp ho'
        have hd'' := (ndd_t tN t').mp hd'
        have nb : ¬ bef t s t' s' := fun z => hb' (bef_s.mpr (Or.inl z))
        have ne : 4 * t' + s' ≠ 4 * t + s := fun z => by
          obtain ⟨q1, q2⟩ := four hs' hs z
          exact hb' (bef_s.mpr (Or.inr ⟨q1, q2⟩))
        rw [e60, e64, if_neg ne]
        exact x10 t' s' nb hs' ho'' hd''
      · rw [e68, if_neg (by decide)]; exact x11
      · rw [e68, if_pos rfl, x12, if_pos hNt, if_pos hNt]
        rfl
theorem hi_next {B X : gM} {n N t s : Nat} (hN : N < 16384) (htn : t < n → 1 ≤ B 38 0 t) (h : HI B n N t s X) (hall : ndd X t → ∀ s', aOK X n t s' → s' < s) (hs0 : N.testBit t = true → (s : Int) = B 38 0 t) (ht31 : t < 31) : HI B n N (t + 1) 0 X := by
  obtain ⟨x1, x2, x3, x4, x5, x6, x7, x8, x9, x10, x11, x12⟩ := h
  have key : ∀ t' s', aOK X n t' s' → ndd X t' → (bef (t + 1) 0 t' s' ↔ bef t s t' s') := fun t' s' ho hd => by
    unfold bef
    by_cases e : t' = t
    · subst e
      have := hall hd s' ho
      omega
    · omega
  refine ⟨x1, x2, x3, x4, x5, x6, x7, x8, fun t' s' q hs' ho hd => x9 t' s' ((key t' s' ho hd).mp q) hs' ho hd, fun t' s' q hs' ho hd => x10 t' s' (fun z => q ((key t' s' ho hd).mpr z)) hs' ho hd, x11, ?_⟩
  rw [x12, opn_s]
  congr 1
  by_cases q : N.testBit t = true
  · have := hs0 q
    rw [if_pos q, if_pos q]
    by_cases y : N.testBit (t + 1) = true
    · rw [if_pos y]; omega
    · rw [if_neg y]; omega
  · rw [if_neg q, if_neg q]
    by_cases y : N.testBit (t + 1) = true
    · rw [if_pos y]
    · rw [if_neg y]
