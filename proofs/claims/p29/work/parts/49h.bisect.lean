/-! ### bisect -/
/-- the class's memory but for what the questions scribble on -/
def OKA (A1 A : gM) : Prop := But [0, 5, 12, 23] A1 A ∧ A1 12 0 = A 12 0 ∧ A1 23 0 = A 23 0 ∧ A1 0 0 5 = A 0 0 5
def OKB (B1 B : gM) : Prop := But [29, 69, 70, 71, 72] B1 B ∧ ∀ j, j ≠ 0 → j ≠ 49 → B1 29 0 j = B 29 0 j
theorem OKA_r {A : gM} : OKA A A := ⟨But_r, rfl, rfl, rfl⟩
theorem OKB_r {B : gM} : OKB B B := ⟨But_r, fun _ _ _ => rfl⟩
theorem OKA_t {A A1 A2 : gM} (h1 : OKA A1 A) (h2 : OKA A2 A1) : OKA A2 A := ⟨But_t h1.1 h2.1, h2.2.1.trans h1.2.1, h2.2.2.1.trans h1.2.2.1, h2.2.2.2.trans h1.2.2.2⟩
theorem OKB_t {B B1 B2 : gM} (h1 : OKB B1 B) (h2 : OKB B2 B1) : OKB B2 B := ⟨But_t h1.1 h2.1, fun j a b => (h2.2 j a b).trans (h1.2 j a b)⟩
theorem OKA_6 {A : gM} (v : Int) : OKA (gU A 0 0 6 v) A := ⟨But_u But_r rfl, by rw [gU_r (by decide)], by rw [gU_r (by decide)], gU_k (by decide)⟩
theorem OKB_49 {B : gM} (v : Int) : OKB (gU B 29 0 49 v) B := ⟨But_u But_r rfl, fun j _ h => gU_k h⟩
theorem OKB_0 {B : gM} (v : Int) : OKB (gU B 29 0 0 v) B := ⟨But_u But_r rfl, fun j h _ => gU_k h⟩
theorem RSa {A B A' : gM} (hS : RS A B) (h : OKA A' A) : RS A' B := RS_c hS (fun q hq => by
  by_cases e : q = 12
  · rw [e, h.2.1]
  · rw [h.1 q (fun m => by
      simp only [List.mem_cons, List.not_mem_nil, or_false] at m hq
      omega)]) (by rw [But_q h.1 rfl]) (fun _ _ => rfl) rfl
theorem RTa {A B A' : gM} {n : Nat} (hT : RT A B n) (h : OKA A' A) : RT A' B n := RT_c hT (But_l h.1 rfl) (by rw [But_q h.1 rfl]) (fun t k _ => by rw [But_q h.1 rfl]) (fun _ _ => rfl) rfl
theorem Rel_OK {c : Nat} {A B A' B' : gM} (h : Rel c A B) (hA : OKA A' A) (hB : OKB B' B) (h6 : A' 0 0 6 = B' 29 0 49) : Rel c A' B' := by
  obtain ⟨n, h1, h2, h3, h4, h5, h6', h7⟩ := h
  obtain ⟨a1, a2, a3, a4⟩ := hA
  obtain ⟨b1, b2⟩ := hB
  have q : ∀ j, j ≠ 0 → j ≠ 49 → B' 29 0 j = B 29 0 j := b2
  refine ⟨n, ?_, ?_, ?_, ?_, ?_, ?_, ?_⟩
  · refine RS_c h1 (fun q hq => ?_) (by rw [But_q a1 rfl]) (But_l b1 rfl) (b2 4 (by decide) (by decide))
    by_cases e : q = 12
    · rw [e, a2]
    · rw [a1 q (fun m => by
        simp only [List.mem_cons, List.not_mem_nil, or_false] at m hq
        omega)]
  · exact RT_c h2 (But_l a1 rfl) (by rw [But_q a1 rfl]) (fun t k _ => by rw [But_q a1 rfl]) (But_l b1 rfl) (b2 7 (by decide) (by decide))
  · exact RC_c h3 (But_q a1 rfl) (But_q a1 rfl) (But_l b1 rfl) (b2 21 (by decide) (by decide))
  · obtain ⟨o1, o2, o3, o4, o5, o6⟩ := h4
    refine ⟨?_, ?_, ?_, ?_, ?_, h6⟩
    · rw [But_q a1 rfl, b2 19 (by decide) (by decide)]; exact o1
    · rw [But_q a1 rfl, b2 20 (by decide) (by decide)]; exact o2
    · rw [b2 19 (by decide) (by decide)]; exact o3
    · rw [b2 20 (by decide) (by decide)]; exact o4
    · rw [But_q a1 rfl, But_q b1 rfl]; exact o5
  · exact RW_c h5 (But_q a1 rfl) (But_l b1 rfl) (b2 37 (by decide) (by decide))
  · exact RB_c h6' (But_q a1 rfl) a3 (by rw [But_q a1 rfl]) (by rw [But_q a1 rfl]) (by rw [But_q a1 rfl]) (fun t k _ => by rw [But_q a1 rfl]) a4 (But_l b1 rfl) (b2 37 (by decide) (by decide)) (b2 36 (by decide) (by decide)) (b2 43 (by decide) (by decide)) (b2 48 (by decide) (by decide))
  · exact RG_c h7 (But_l b1 rfl) (b2 36 (by decide) (by decide)) (b2 37 (by decide) (by decide))
theorem OKA_mk {A A' : gM} (h : But [5, 12, 23] A' A) (h1 : A' 12 0 = A 12 0) (h2 : A' 23 0 = A 23 0) : OKA A' A := ⟨But_w h rfl, h1, h2, by rw [But_q h rfl]⟩
theorem Td_OKB {B M : gM} (h : OKB M B) : Td B M := fun q hq => h.1 q (fun m => by
  simp only [List.mem_cons, List.not_mem_nil, or_false] at m hq
  omega)
theorem goodCM {A B : gM} {n z t m : Nat} (hS : RS A B) (hT : RT A B n) (hz : A 1 0 5 = (z : Int)) (hzB : B 29 0 4 = (z : Int)) (hz3 : z ≤ 30) (ht : t < n) (hm : m ≤ z) : ∃ b : Int, (b = 0 ∨ b = 1) ∧ (∀ A1, OKA A1 A → ∃ A2, f_X11_isGoodAfter (m : Int) (t : Int) A1 = some (b, A2) ∧ OKA A2 A1 ∧ A2 0 0 6 = A1 0 0 6) ∧ ∀ B1, OKB B1 B → ∃ B2, f_X12_isGood (t : Int) (m : Int) B1 = some (b, B2) ∧ OKB B2 B1 ∧ B2 29 = B1 29 := by
  have h14 := hT.1
  have ht14 : t < 14 := Nat.lt_of_lt_of_le ht h14
  have hCu : ∀ k, k < 16 → 0 ≤ und B z (z - m) k ∧ und B z (z - m) k ≤ 999 := fun k _ => und_in hS z _ k
  obtain ⟨A0, g, e1, e2, e3, e4, e5, e6, e7, e8, e9⟩ := makeC hS hT hz hz3 hm
  have hC0 : ∀ k, k < 16 → 0 ≤ A0 12 1 k ∧ A0 12 1 k ≤ 999 := fun k hk => by rw [e5 k hk]; exact hCu k hk
  refine ⟨if g.testBit t = true then 1 else 0, ?_, fun A1 h1 => ?_, fun B1 h1 => ?_⟩
  · by_cases e : g.testBit t = true
    · rw [if_pos e]; exact Or.inr rfl
    · rw [if_neg e]; exact Or.inl rfl
  · obtain ⟨A2, g', f1, f2, f3, f4, f5, f6, f7, f8, f9⟩ := makeC (RSa hS h1) (RTa hT h1) (by rw [But_q h1.1 rfl, hz]) hz3 hm
    have eq := isG_eq hS hT (fun k hk => by rw [e5 k hk, f5 k hk]) hC0 e6 f6 e9 f9 t ht
    refine ⟨A2, ?_, OKA_mk f2 f3 f4, by rw [But_q f2 rfl]⟩
    unfold f_X11_isGoodAfter f_X4_goodTargets
    rw [f1, ob_s, ob_s]
    dsimp only
    rw [f7]
    by_cases e : g.testBit t = true
    · rw [if_pos e, if_pos (show f_X11_bitOf (g' : Int) (t : Int) A2 = 1 from (bit_1 (lt14_31 f8) (by omega)).mpr (eq.mp e))]
    · rw [if_neg e, if_neg (show ¬ f_X11_bitOf (g' : Int) (t : Int) A2 = 1 from fun q => e (eq.mpr ((bit_1 (lt14_31 f8) (by omega)).mp q)))]
  · have hb1 := h1.1
    obtain ⟨M, f1, f2, f3⟩ := filM hS hzB hz3 hm (But_l hb1 rfl) (h1.2 4 (by decide) (by decide)) (t : Int) (fun (M_33_61 : gM) => ob (f_X12_freshen M_33_61) fun r62 => og ((0 : Int) ≤ (t : Int) ∧ ((t : Int) : Int) < 14) <| some ((r62 72 0 (t : Int).toNat, r62)))
    have fM : OKB M B1 := ⟨But_w f2 rfl, fun j _ _ => by rw [But_q f2 rfl]⟩
    have fMB := OKB_t h1 fM
    obtain ⟨B2, g1', g2, g3, g4, g5, g6⟩ := freshM hS hT (Td_OKB fMB) (fMB.2 7 (by decide) (by decide)) (fun k hk => by rw [f3 k hk]; exact hCu k hk)
    have eq := isG_eq hS hT (fun k hk => by rw [e5 k hk, f3 k hk]) hC0 e6 g3 e9 g5 t ht
    have f2' : OKB B2 M := ⟨But_w g2 rfl, fun j _ _ => by rw [But_q g2 rfl]⟩
    refine ⟨B2, ?_, OKB_t fM f2', by rw [But_q g2 rfl, But_q f2 rfl]⟩
    unfold f_X12_isGood
    rw [f1, g1', ob_s, og_t (show (0 : Int) ≤ (t : Int) ∧ (t : Int) < 14 by omega), Int.toNat_natCast]
    by_cases e : g.testBit t = true
    · rw [if_pos e, eq.mp e]
    · rw [if_neg e, (g4 t ht).resolve_right (fun q => e (eq.mpr q))]
theorem midw {lo hi : Nat} (h : hi ≤ 30) (hl : lo < hi) : wI ((hi : Int) - (lo : Int)) = ((hi - lo : Nat) : Int) ∧ wI ((wI ((lo : Int) + (hi : Int))).tdiv 2) = (((lo + hi) / 2 : Nat) : Int) := by
  refine ⟨?_, ?_⟩
  · rw [show (hi : Int) - (lo : Int) = ((hi - lo : Nat) : Int) by omega, wI_n (by omega)]
  · rw [show (lo : Int) + (hi : Int) = ((lo + hi : Nat) : Int) by omega, wI_n (by omega), show (2 : Int) = ((2 : Nat) : Int) from rfl, ← Int.ofNat_tdiv, wI_n (by omega)]
theorem bis_ar {lo hi d look z n1 n2 : Nat} (h1 : hi - lo ≤ d + 1) (h2 : d + 1 + look ≤ 30) (h3 : d + 1 < n1 + 1) (h4 : d + 1 < n2 + 1) (h6 : hi ≤ z) (e : ¬ hi - lo ≤ 1) : lo < (lo + hi) / 2 ∧ (lo + hi) / 2 < hi ∧ (lo + hi) / 2 ≤ z ∧ (lo + hi) / 2 - lo ≤ d ∧ hi - (lo + hi) / 2 ≤ d ∧ d + (look + 1) ≤ 30 ∧ d < n1 ∧ d < n2 := by
  refine ⟨?_, ?_, ?_, ?_, ?_, ?_, ?_, ?_⟩ <;> omega
theorem bisL {A B : gM} {n z t : Nat} {k : Int → gM → Option (Nat ⊕ (Int × gM))} {k' : Int → gM → Option (Int × gM)} (hS : RS A B) (hT : RT A B n) (hz : A 1 0 5 = (z : Int)) (hzB : B 29 0 4 = (z : Int)) (hz3 : z ≤ 30) (ht : t < n) : ∀ (d lo hi look n1 n2 : Nat) (A1 B1 : gM), hi - lo ≤ d → d + look ≤ 30 → d < n1 → d < n2 → lo < hi → hi ≤ z → OKA A1 A → OKB B1 B → A1 0 0 6 = B1 29 0 49 → ∃ h : Nat, ∃ A2 B2 : gM, f_X11_bisect_L43 k (t : Int) n1 (lo : Int) (hi : Int) (look : Int) A1 = k (h : Int) A2 ∧ f_X12_bisect_L49 k' (t : Int) n2 (lo : Int) (hi : Int) B1 = k' (h : Int) B2 ∧ OKA A2 A ∧ OKB B2 B ∧ A2 0 0 6 = B2 29 0 49 ∧ B2 29 0 0 = B1 29 0 0 := by
  intro d
  induction d with
  | zero => intro lo hi look n1 n2 A1 B1 h1 _ _ _ h2; omega
  | succ d ih =>
    intro lo hi look n1 n2 A1 B1 h1 h2 h3 h4 h5 h6 hA hB he
    obtain ⟨n1, rfl⟩ : ∃ x, n1 = x + 1 := ⟨n1 - 1, by omega⟩
    obtain ⟨n2, rfl⟩ : ∃ x, n2 = x + 1 := ⟨n2 - 1, by omega⟩
    have lk : (look : Int) < 30 := by omega
    have w3 : wI ((look : Int) + 1) = ((look + 1 : Nat) : Int) := wI_s (by omega)
    obtain ⟨w1, w2⟩ := midw (Nat.le_trans h6 hz3) h5
    by_cases e : hi - lo ≤ 1
    · have ne : ¬ (1 : Int) < ((hi - lo : Nat) : Int) := fun q => absurd (Int.ofNat_lt.mp q) (Nat.not_lt.mpr e)
      refine ⟨hi, A1, B1, ?_, ?_, hA, hB, he, rfl⟩
      · rw [f_X11_bisect_L43, if_pos lk, w1, if_neg ne]
      · rw [f_X12_bisect_L49, w1, if_neg ne]
    · have pe : (1 : Int) < ((hi - lo : Nat) : Int) := Int.ofNat_lt.mpr (Nat.lt_of_not_le e)
      obtain ⟨m1, m2, m3, i1, i2, i3, i4, i5⟩ := bis_ar h1 h2 h3 h4 h6 e
      obtain ⟨b, b01, bA, bB⟩ := goodCM hS hT hz hzB hz3 ht m3
      obtain ⟨A2, a1, a2, a3⟩ := bA _ (OKA_t hA (OKA_6 (wI ((A1 0 0 6) + 1))))
      obtain ⟨B2, c1, c2, c3⟩ := bB _ (OKB_t hB (OKB_49 (wI ((B1 29 0 49) + 1))))
      have oA : OKA A2 A := OKA_t (OKA_t hA (OKA_6 _)) a2
      have oB : OKB B2 B := OKB_t (OKB_t hB (OKB_49 _)) c2
      have he2 : A2 0 0 6 = B2 29 0 49 := by rw [a3, c3, gU_s, gU_s, he]
      have h00 : B2 29 0 0 = B1 29 0 0 := by rw [c3, gU_k (by decide)]
      by_cases eb : b = 0
      · obtain ⟨h, A3, B3, q1, q2, q3, q4, q5, q6⟩ := ih lo ((lo + hi) / 2) (look + 1) n1 n2 A2 B2 i1 i3 i4 i5 m1 m3 oA oB he2
        refine ⟨h, A3, B3, ?_, ?_, q3, q4, q5, q6.trans h00⟩
        · rw [f_X11_bisect_L43, if_pos lk, w1, if_pos pe, w2, a1, ob_s]
          dsimp only [oj]
          rw [if_pos eb, w3]
          exact q1
        · rw [f_X12_bisect_L49, w1, if_pos pe, w2, c1, ob_s]
          dsimp only [oj]
          rw [if_pos eb]
          exact q2
      · obtain ⟨h, A3, B3, q1, q2, q3, q4, q5, q6⟩ := ih ((lo + hi) / 2) hi (look + 1) n1 n2 A2 B2 i2 i3 i4 i5 m2 h6 oA oB he2
        refine ⟨h, A3, B3, ?_, ?_, q3, q4, q5, q6.trans h00⟩
        · rw [f_X11_bisect_L43, if_pos lk, w1, if_pos pe, w2, a1, ob_s]
          dsimp only [oj]
          rw [if_neg eb, w3]
          exact q1
        · rw [f_X12_bisect_L49, w1, if_pos pe, w2, c1, ob_s]
          dsimp only [oj]
          rw [if_neg eb]
          exact q2
theorem OKA_fr {A A' : gM} (h : OKA A' A) (v : Int) : ∀ q, 29 ≤ q → q ≠ 75 → gU A' 75 0 0 v q = A q := fun q q1 q2 => by
  rw [gU_r q2]
  exact But_c h.1 rfl q q1 q2
theorem OKB_fr {B B' : gM} (h : OKB B' B) : ∀ q, q < 29 ∨ q = 75 → B' q = B q := But_m h.1 rfl
theorem S_bisect {c : Nat} (v1 : Int) : Sim (Rel c) (Rel (c + 1)) (f_L_bisect v1) (f_X12_bisect v1) := by
  intro A B h
  have h0 := h
  obtain ⟨n, h1, h2, h3, h4, h5, h6, h7⟩ := h0
  obtain ⟨z, hz3, hz, hzB⟩ := h1.1
  have hA := h2.2.1
  have hB := h2.2.2.1
  have hn := h2.1
  by_cases ht : 0 ≤ v1 ∧ v1 < (n : Int)
  · obtain ⟨t, rfl⟩ : ∃ t : Nat, v1 = (t : Int) := ⟨v1.toNat, by omega⟩
    have htn : t < n := by omega
    have tB : OKB (gU (gU B 29 0 0 0) 29 0 49 0) B := OKB_t (OKB_0 0) (OKB_49 0)
    obtain ⟨b, b01, bA, bB⟩ := goodCM h1 h2 hz hzB hz3 htn (Nat.zero_le z)
    obtain ⟨A1, a1, a2, a3⟩ := bA _ (OKA_6 0)
    obtain ⟨B1, c1, c2, c3⟩ := bB _ tB
    have oA : OKA A1 A := OKA_t (OKA_6 0) a2
    have oB : OKB B1 B := OKB_t tB c2
    have he : A1 0 0 6 = B1 29 0 49 := by rw [a3, c3, gU_s, gU_s]
    obtain ⟨b', b01', bA', bB'⟩ := goodCM h1 h2 hz hzB hz3 htn (Nat.le_refl z)
    obtain ⟨A2, a1', a2', a3'⟩ := bA' A1 oA
    obtain ⟨B2, c1', c2', c3'⟩ := bB' B1 oB
    have oA' : OKA A2 A := OKA_t oA a2'
    have oB' : OKB B2 B := OKB_t oB c2'
    have he' : A2 0 0 6 = B2 29 0 49 := by rw [a3', c3', he]
    have h00 : B1 29 0 0 = 0 := by rw [c3, gU_k (by decide), gU_s]
    have h00' : B2 29 0 0 = 0 := by rw [c3', h00]
    have k5 : gU A 0 0 6 0 1 0 5 = (z : Int) := by rw [gU_r (by decide), hz]
    have k4 : B1 29 0 4 = (z : Int) := by rw [c3, gU_k (by decide), gU_k (by decide), hzB]
    have k4' : B2 29 0 4 = (z : Int) := by rw [c3', k4]
    have cl : f_X11_bisect (t : Int) A = if b = 0 then some (Sum.inr (-1, A1)) else if b' = 0 then f_X11_bisect_L43 (fun (y3_43_99 : Int) (M_43_99 : gM) => some (Sum.inr ((wI (y3_43_99 - 1), M_43_99)))) (t : Int) 64 0 (z : Int) 0 A2 else some (Sum.inr (-1, A2)) := by
      unfold f_X11_bisect
      rw [cTar hA, if_pos ht, ob_s, ox_r]
      rw [show f_X11_isGoodAfter 0 (t : Int) (gU A 0 0 6 0) = some (b, A1) from a1, ob_s]
      dsimp only
      rw [k5, a1', ob_s]
    have rf : f_X12_bisect (t : Int) B = if b = 0 then some (-1, B1) else if b' = 0 then f_X12_bisect_L49 (fun (y3_49_95 : Int) (M_49_95 : gM) => some ((wI (y3_49_95 - 1), M_49_95))) (t : Int) 64 0 (z : Int) B2 else some (-1, B2) := by
      unfold f_X12_bisect
      rw [isT hB hn, if_pos ht, ask1]
      dsimp only
      rw [if_neg ne10]
      rw [show f_X12_isGood (t : Int) 0 (gU (gU B 29 0 0 0) 29 0 49 0) = some (b, B1) from c1, ob_s]
      dsimp only
      rw [k4, c1', ob_s]
      dsimp only
      rw [k4']
    by_cases eb : b = 0
    · have e1 : f_L_bisect (t : Int) A = some (0, gU A1 75 0 0 (-1)) := by
        unfold f_L_bisect
        rw [cl, if_pos eb]
        rfl
      have e2 : f_X12_bisect (t : Int) B = some (-1, B1) := by rw [rf, if_pos eb]
      exact ⟨_, _, _, _, e1, e2, h00, fun _ => gU_s _ _ _ _ _, Rel_out _ (Rel_up (Rel_OK h oA oB he)), OKA_fr oA _, OKB_fr oB⟩
    · by_cases eb' : b' = 0
      · have zp : 0 < z := by
          rcases Nat.eq_zero_or_pos z with e | e
          · subst e
            obtain ⟨X, x1, -⟩ := bA A OKA_r
            obtain ⟨Y, y1, -⟩ := bA' A OKA_r
            rw [x1] at y1
            cases y1
            exact absurd eb' eb
          · exact e
        obtain ⟨h9, A3, B3, q1, q2, q3, q4, q5, q6⟩ := bisL (k := fun (y3_43_99 : Int) (M_43_99 : gM) => some (Sum.inr ((wI (y3_43_99 - 1), M_43_99)))) (k' := fun (y3_49_95 : Int) (M_49_95 : gM) => some ((wI (y3_49_95 - 1), M_49_95))) h1 h2 hz hzB hz3 htn 30 0 z 0 64 64 A2 B2 hz3 (Nat.le_refl _) (by decide) (by decide) zp (Nat.le_refl _) oA' oB' he'
        have e1 : f_L_bisect (t : Int) A = some (0, gU A3 75 0 0 (wI ((h9 : Int) - 1))) := by
          unfold f_L_bisect
          rw [cl, if_neg eb, if_pos eb', show f_X11_bisect_L43 (fun (y3_43_99 : Int) (M_43_99 : gM) => some (Sum.inr ((wI (y3_43_99 - 1), M_43_99)))) (t : Int) 64 0 (z : Int) 0 A2 = _ from q1]
          rfl
        have e2 : f_X12_bisect (t : Int) B = some (wI ((h9 : Int) - 1), B3) := by
          rw [rf, if_neg eb, if_pos eb']
          exact q2
        exact ⟨_, _, _, _, e1, e2, q6.trans h00', fun _ => gU_s _ _ _ _ _, Rel_out _ (Rel_up (Rel_OK h q3 q4 q5)), OKA_fr q3 _, OKB_fr q4⟩
      · have e1 : f_L_bisect (t : Int) A = some (0, gU A2 75 0 0 (-1)) := by
          unfold f_L_bisect
          rw [cl, if_neg eb, if_neg eb']
          rfl
        have e2 : f_X12_bisect (t : Int) B = some (-1, B2) := by rw [rf, if_neg eb, if_neg eb']
        exact ⟨_, _, _, _, e1, e2, h00', fun _ => gU_s _ _ _ _ _, Rel_out _ (Rel_up (Rel_OK h oA' oB' he')), OKA_fr oA' _, OKB_fr oB'⟩
  · have e1 : f_L_bisect v1 A = some (1, A) := by
      simp [f_L_bisect, f_X11_bisect, cTar hA, ht, ob_s, ox_l, ol_l']
    have e2 : f_X12_bisect v1 B = some (0, gU B 29 0 0 1) := by
      unfold f_X12_bisect
      rw [isT hB hn, if_neg ht, ask0]
      dsimp only
      rw [if_pos rfl]
    exact ⟨_, _, _, _, e1, e2, gU_s _ _ _ _ _, fun q => absurd q (by decide), Rel_thr _ (Rel_up h), fun q _ _ => rfl, fun q hq => gU_r (by omega)⟩
