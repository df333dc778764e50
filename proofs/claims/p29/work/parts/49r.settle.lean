/-- the flag alone has changed -/
theorem SI_g {A B : gM} {n c : Nat} {v : Int} (h : SI A B n c) (hv : v = 0 ∨ v = 1 ∧ 1 ≤ A 4 0 7) : SI (gU A 4 0 8 v) (gU B 29 0 36 v) n c := by
  obtain ⟨h1, h2, h3, h4, h5, h6, g1', g2, g4⟩ := h
  have fA : But [4] (gU A 4 0 8 v) A := But_u But_r rfl
  have fB : But [29] (gU B 29 0 36 v) B := But_u But_r rfl
  have b29 : ∀ j, j ≠ 36 → gU B 29 0 36 v 29 0 j = B 29 0 j := fun j hj => gU_k hj
  have a4 : ∀ j, j ≠ 8 → gU A 4 0 8 v 4 0 j = A 4 0 j := fun j hj => gU_k hj
  have tN : TdN B (gU B 29 0 36 v) := TdN_b (But_w fB rfl) (b29 37 (by decide))
  obtain ⟨x1, x2, x3, -⟩ := G_b (n := n) tN (show gU B 29 0 36 v 60 = B 60 from But_q fB rfl) (But_q fB rfl)
  refine ⟨RS_c h1 (fun q hq => by rw [But_l fA (K := [12, 13, 14, 15, 16]) rfl q hq]) (by rw [But_q fA rfl]) (But_l fB rfl) (b29 4 (by decide)), RT_c h2 (But_l fA rfl) (by rw [But_q fA rfl]) (fun t k _ => by rw [But_q fA rfl]) (But_l fB rfl) (b29 7 (by decide)), RC_c h3 (But_q fA rfl) (But_q fA rfl) (But_l fB rfl) (b29 21 (by decide)), RO_c h4 (a4 9 (by decide)) (a4 10 (by decide)) (But_q fA rfl) (by rw [But_q fA rfl]) (b29 19 (by decide)) (b29 20 (by decide)) (b29 49 (by decide)) (But_q fB rfl), RW_c h5 (But_q fA rfl) (But_l fB rfl) (b29 37 (by decide)), ?_, x1 g1', x2 g2, x3 g4⟩
  obtain ⟨k1, k2, k3, k4, k5, k6, k7, k8, k9, k10, k11, k12⟩ := h6
  have fr : ∀ q, q ∈ [38, 60, 61, 62, 63, 64, 65, 66, 67] → gU B 29 0 36 v q = B q := But_l fB rfl
  refine ⟨by rw [a4 6 (by decide), b29 37 (by decide)]; exact k1, by rw [gU_s, gU_s], by rw [gU_s, a4 7 (by decide)]; exact hv, by rw [b29 37 (by decide)]; exact k4, ?_, ?_, ?_, ?_, ?_, ?_, ?_, ?_⟩
  · rw [a4 7 (by decide), b29 43 (by decide), But_q fA rfl]; exact k5
  · rw [But_q fA rfl, b29 48 (by decide), fr 65 (by decide)]; exact k6
  · rw [But_q fA rfl, fr 61 (by decide), fr 62 (by decide), fr 63 (by decide), fr 64 (by decide), fr 65 (by decide)]; exact k7
  · intro t s ht hs
    rw [But_q fA rfl, fr 60 (by decide), fr 64 (by decide), aOK_t tN.1, ndd_t tN]
    exact k8 t s ht hs
  · rw [But_q fA rfl, fr 66 (by decide), fr 67 (by decide)]; exact k9
  · intro t s hs ho hd hx
    rw [fr 60 (by decide)] at hx
    rw [But_q fA rfl, k10 t s hs ((aOK_t tN.1 n _ _).mp ho) ((ndd_t tN _).mp hd) hx]
    unfold dgS
    rw [fr 38 (by decide), fr 61 (by decide)]
  · intro t s ht hs ho
    rw [fr 63 (by decide)]
    exact k11 t s ht hs (fun q => ho ((aOK_t tN.1 n _ _).mpr q))
  · intro t s hs ho hd
    rw [fr 60 (by decide), fr 63 (by decide), fr 64 (by decide)]
    exact k12 t s hs ((aOK_t tN.1 n _ _).mp ho) ((ndd_t tN _).mp hd)
theorem gU_id {M : gM} {r i k : Nat} {v : Int} (h : M r i k = v) : gU M r i k v = M := by
  funext q x y
  unfold gU
  by_cases e : q = r ∧ x = i ∧ y = k
  · rw [if_pos e, e.1, e.2.1, e.2.2, h]
  · rw [if_neg e]
/-- the class goes over actions that are nothing -/
theorem clSkip {A : gM} {t : Nat} {x1 : Int} {k : gM → Option gM} (h8 : A 4 0 8 = 0 ∨ A 4 0 8 = 1) : ∀ d s n1 : Nat, s + d = 4 → d < n1 → (∀ i, s ≤ i → i < 4 → A 9 (4 * t + i) 2 = -1) → f_X2_settle_L39 k x1 t t 4 n1 (s : Int) A = k A := by
  intro d
  induction d with
  | zero =>
    intro s n1 h hn _
    obtain ⟨n1, rfl⟩ : ∃ x, n1 = x + 1 := ⟨n1 - 1, by omega⟩
    have e : s = 4 := by omega
    subst e
    rw [f_X2_settle_L39, if_neg (by decide)]
  | succ d ih =>
    intro s n1 h hn hm
    obtain ⟨n1, rfl⟩ : ∃ x, n1 = x + 1 := ⟨n1 - 1, by omega⟩
    have hs : s < 4 := by omega
    have g4 : (0 : Int) ≤ (s : Int) ∧ (s : Int) < 4 := by omega
    have w1 : wI ((s : Int) + 1) = ((s + 1 : Nat) : Int) := wI_s (by omega)
    have e := hm s (Nat.le_refl _) hs
    have nx := ih (s + 1) n1 (by omega) (by omega) (fun i a b => hm i (by omega) b)
    rw [f_X2_settle_L39, if_pos g4.2, og_t g4, Int.toNat_natCast]
    dsimp only [oj]
    rw [if_neg (show ¬ A 9 (4 * t + s) 2 = 0 by rw [e]; decide), isU0 (Or.inl (by rw [e]; decide)), if_pos rfl, w1]
    rcases h8 with q | q
    · rw [if_pos q, gU_id q]
      exact nx
    · rw [if_neg (by rw [q]; exact ne10), gU_id q]
      exact nx
/-- before action (t, s) -/
def bef (t s t' s' : Nat) : Prop := t' < t ∨ (t' = t ∧ s' < s)
def JI (A0 B0 : gM) (n c t s : Nat) (A B : gM) : Prop := SI A B n c ∧ (∀ t' s', bef t s t' s' → s' < 4 → aOK B n t' s' → ndd B t' → B 60 0 (4 * t' + s') = 0 → unf B n t') ∧ (B 29 0 36 = 1 ↔ ∃ t' s', bef t s t' s' ∧ s' < 4 ∧ aOK B n t' s' ∧ ndd B t' ∧ B 60 0 (4 * t' + s') < 3) ∧ But [4, 9, 23, 24] A A0 ∧ (∀ k, k ≠ 8 → A 4 0 k = A0 4 0 k) ∧ But [29, 60, 61, 62, 63, 68] B B0 ∧ ∀ j, j ≠ 36 → B 29 0 j = B0 29 0 j
theorem unf_keep {A B B' : gM} {n t s t' : Nat} (hS : RS A B) (hT : RT A B n) (hN : TdN B B') (hs : s < 4) (ht' : t' < n) (hle : t' ≤ t) (hne : ∀ x, x ≠ 4 * t + s → B' 60 0 x = B 60 0 x) (h : unf B n t') : unf B' n t' := by
  obtain ⟨u, v, x1, x2, x3, x4⟩ := h
  have hu := isI_lt hS hT ht' x1
  refine ⟨u, v, (isI_t hN.1 _ _).mpr x1, x2, (aOK_t hN.1 n _ _).mpr x3, ?_⟩
  rw [hne _ (fun q => by have := (four x2 hs q).1; omega)]
  exact x4
theorem unf_t {B B' : gM} {n t : Nat} (hN : TdN B B') (h60 : B' 60 = B 60) (h : unf B n t) : unf B' n t := by
  obtain ⟨u, v, x1, x2, x3, x4⟩ := h
  exact ⟨u, v, (isI_t hN.1 _ _).mpr x1, x2, (aOK_t hN.1 n _ _).mpr x3, by rw [h60]; exact x4⟩
/-- one action more, on both sides: the flag is 1 if it is unfinished -/
theorem JI_step {A0 B0 A B A1 B1 : gM} {n c t s : Nat} {g : Int} (h : JI A0 B0 n c t s A B) (hb1 : 1 ≤ A0 4 0 7) (hs : s < 4) (hao : aOK B n t s) (hnd : ndd B t) (h1 : SI A1 B1 n c) (fA : But [9, 23, 24] A1 A) (fB : But [60, 61, 62, 63, 68] B1 B) (hne : ∀ x, x ≠ 4 * t + s → B1 60 0 x = B 60 0 x) (hres : B1 60 0 (4 * t + s) = 0 → unf B n t) (hg : g = 0 ∨ g = 1) (hg1 : g = 1 ↔ B 29 0 36 = 1 ∨ B1 60 0 (4 * t + s) < 3) : JI A0 B0 n c t (s + 1) (gU A1 4 0 8 g) (gU B1 29 0 36 g) := by
  obtain ⟨j1, j2, j3, j4, j5, j6, j7⟩ := h
  have tN1 : TdN B B1 := TdN_9 (But_w fB rfl)
  have f2 : But [29] (gU B1 29 0 36 g) B1 := But_u But_r rfl
  have tN2 : TdN B1 (gU B1 29 0 36 g) := TdN_b (But_w f2 rfl) (gU_k (by decide))
  have b60 : gU B1 29 0 36 g 60 = B1 60 := But_q f2 rfl
  have hb : ∀ t' s', bef t (s + 1) t' s' → bef t s t' s' ∨ (t' = t ∧ s' = s) := fun t' s' q => by
    unfold bef at q ⊢
    omega
  have hb2 : ∀ t' s', bef t s t' s' → bef t (s + 1) t' s' ∧ (s' < 4 → 4 * t' + s' ≠ 4 * t + s) := fun t' s' q => by
    unfold bef at q ⊢
    omega
  have ao2 : ∀ t' s', aOK (gU B1 29 0 36 g) n t' s' ↔ aOK B n t' s' := fun t' s' => (aOK_t tN2.1 n _ _).trans (aOK_t tN1.1 n _ _)
  have nd2 : ∀ t', ndd (gU B1 29 0 36 g) t' ↔ ndd B t' := fun t' => (ndd_t tN2 _).trans (ndd_t tN1 _)
  refine ⟨SI_g h1 (hg.imp id (fun z => ⟨z, by rw [But_q fA rfl, j5 7 (by decide)]; exact hb1⟩)), fun t' s' q hs' ho hd hx => ?_, ?_, But_u (But_t j4 (But_w fA rfl)) rfl, fun k hk => ?_, But_u (But_t j6 (But_w fB rfl)) rfl, fun j hj => ?_⟩
  · rw [b60] at hx
    have ho := (ao2 t' s').mp ho
    have hd := (nd2 t').mp hd
    refine unf_t tN2 b60 ?_
    rcases hb t' s' q with q | ⟨q1, q2⟩
    · rw [hne _ ((hb2 t' s' q).2 hs')] at hx
      exact unf_keep j1.1 j1.2.1 tN1 hs ho.1 (by unfold bef at q; omega) hne (j2 t' s' q hs' ho hd hx)
    · subst q1 q2
      exact unf_keep j1.1 j1.2.1 tN1 hs ho.1 (Nat.le_refl _) hne (hres hx)
  · rw [gU_s, hg1, j3, b60]
    constructor
    · rintro (⟨t', s', q1, q2, q3, q4, q5⟩ | q)
      · exact ⟨t', s', (hb2 t' s' q1).1, q2, (ao2 t' s').mpr q3, (nd2 t').mpr q4, by rw [hne _ ((hb2 t' s' q1).2 q2)]; exact q5⟩
      · exact ⟨t, s, by unfold bef; omega, hs, (ao2 t s).mpr hao, (nd2 t).mpr hnd, q⟩
    · rintro ⟨t', s', q1, q2, q3, q4, q5⟩
      rcases hb t' s' q1 with q | ⟨e1, e2⟩
      · rw [hne _ ((hb2 t' s' q).2 q2)] at q5
        exact Or.inl ⟨t', s', q, q2, (ao2 t' s').mp q3, (nd2 t').mp q4, q5⟩
      · rw [e1, e2] at q5
        exact Or.inr q5
  · rw [gU_k hk, But_q fA rfl]
    exact j5 k hk
  · rw [gU_k hj, But_q fB rfl]
    exact j7 j hj
