/-! ### steps -/
/-- one comes from f to u over k inputs -/
def wk (B : gM) (f : Nat) : Nat → Nat → Prop
  | 0, u => u = f
  | k + 1, u => ∃ v, wk B f k v ∧ isI B v u
theorem wk_le {A B : gM} {n f : Nat} (hS : RS A B) (hT : RT A B n) (hf : f < n) : ∀ k u, wk B f k u → u + k ≤ f := by
  intro k
  induction k with
  | zero =>
    intro u h
    have e : u = f := h
    omega
  | succ k ih =>
    intro u h
    obtain ⟨v, h1, h2⟩ := h
    have q := ih v h1
    have := isI_lt hS hT (show v < n by omega) h2
    omega
def stp (B : gM) (f o : Nat) (r : Int) : Prop := (r = -1 ∧ ∀ k, ¬ wk B f k o) ∨ ∃ k : Nat, r = (k : Int) ∧ wk B f k o ∧ ∀ j, wk B f j o → k ≤ j
theorem stp_eq {B : gM} {f o : Nat} {r r' : Int} (h : stp B f o r) (h' : stp B f o r') : r = r' := by
  rcases h with ⟨h1, h2⟩ | ⟨k, h1, h2, h3⟩
  · rcases h' with ⟨g1', g2⟩ | ⟨k', g1', g2, g3⟩
    · rw [h1, g1']
    · exact absurd g2 (h2 k')
  · rcases h' with ⟨g1', g2⟩ | ⟨k', g1', g2, g3⟩
    · exact absurd h2 (g2 k)
    · rw [h1, g1', Nat.le_antisymm (h3 k' g2) (g3 k h2)]
def upD (x d : Int) : Int := if x = -1 ∨ d < x then d else x
theorem upD_2 (x d : Int) : upD (upD x d) d = upD x d := by
  unfold upD
  by_cases h : x = -1 ∨ d < x
  · rw [if_pos h]
    by_cases h2 : d = -1 ∨ d < d
    · rw [if_pos h2]
    · rw [if_neg h2]
  · rw [if_neg h, if_neg h]
theorem upD_le {x d : Int} (hd : 0 ≤ d) : upD x d ≠ -1 ∧ upD x d ≤ d ∧ (x ≠ -1 → upD x d ≤ x) ∧ (upD x d = d ∨ upD x d = x ∧ x ≠ -1) := by
  unfold upD
  by_cases h : x = -1 ∨ d < x
  · rw [if_pos h]
    exact ⟨by omega, Int.le_refl _, fun q => by omega, Or.inl rfl⟩
  · rw [if_neg h]
    exact ⟨by omega, by omega, fun _ => Int.le_refl _, Or.inr ⟨rfl, by omega⟩⟩
theorem sdC {A B M : gM} {n t d : Nat} (hS : RS A B) (hT : RT A B n) (ht : t < n) (hM : But [22] M A) (hd : M 22 0 t = (d : Int)) (hd20 : d ≤ 20) : ∃ M' : gM, f_X5_spreadDistance t M = some M' ∧ But [22] M' A ∧ ∀ u, u < n → (isI B t u → M' 22 0 u = upD (M 22 0 u) ((d + 1 : Nat) : Int)) ∧ (¬ isI B t u → M' 22 0 u = M 22 0 u) := by
  obtain ⟨z, z1, z2, z3⟩ := szT hT ht
  have h14 := hT.1
  have t14 : t < 14 := Nat.lt_of_lt_of_le ht h14
  have hz : z < 64 := by omega
  have e70 : M 7 t 0 = (t : Int) := by rw [But_q hM rfl]; exact hT.2.2.2.2.1 t t14
  have wd : wI ((d : Int) + 1) = ((d + 1 : Nat) : Int) := wI_s (by omega)
  have key : ∃ M' : gM, f_X5_spreadDistance t M = some M' ∧ But [22] M' A ∧ ∀ u, u < n → ((∃ j, j < z ∧ chB B t j = 16 + (u : Int)) → M' 22 0 u = upD (M 22 0 u) ((d + 1 : Nat) : Int)) ∧ (¬ (∃ j, j < z ∧ chB B t j = 16 + (u : Int)) → M' 22 0 u = M 22 0 u) := by
    unfold f_X5_spreadDistance
    rw [e70, at_in t14, hd, wd]
    refine lp0 (F := fun m x i => f_X5_spreadDistance_L16 (fun (M_16_79 : gM) => some M_16_79) t ((d + 1 : Nat) : Int) m i x) z (fun i x => But [22] x A ∧ ∀ u, u < n → ((∃ j, j < i ∧ chB B t j = 16 + (u : Int)) → x 22 0 u = upD (M 22 0 u) ((d + 1 : Nat) : Int)) ∧ (¬ (∃ j, j < i ∧ chB B t j = 16 + (u : Int)) → x 22 0 u = M 22 0 u)) (fun r => ∃ M' : gM, r = some M' ∧ But [22] M' A ∧ ∀ u, u < n → ((∃ j, j < z ∧ chB B t j = 16 + (u : Int)) → M' 22 0 u = upD (M 22 0 u) ((d + 1 : Nat) : Int)) ∧ (¬ (∃ j, j < z ∧ chB B t j = 16 + (u : Int)) → M' 22 0 u = M 22 0 u)) hz M ⟨hM, fun u _ => ⟨fun ⟨j, q, _⟩ => absurd q (Nat.not_lt_zero _), fun _ => rfl⟩⟩ (fun m i x hi hp => Or.inl ?_) (fun m x hp => ⟨x, ?_, hp⟩)
    · obtain ⟨p1, p4⟩ := hp
      have hiB : (i : Int) < B 41 0 t := by rw [z3]; exact Int.ofNat_lt.mpr hi
      have hiz : (i : Int) < (z : Int) := Int.ofNat_lt.mpr hi
      have c := ch_in hS hT ht hiB
      have w1 : wI ((i : Int) + 1) = ((i + 1 : Nat) : Int) := wI_s (by omega)
      have ch : f_X6_chosen t (i : Int) x = chB B t i := by
        have : f_X6_chosen t (i : Int) x = f_X6_chosen t (i : Int) A := by
          unfold f_X6_chosen f_X11_at
          rw [But_q p1 rfl, But_q p1 rfl, But_q p1 rfl, But_q p1 rfl, But_q p1 rfl]
        rw [this]
        exact (chC hS.2.2.1 (hT.2.2.2.2.2.2 t ht).1 hiB).1
      have z8 : x 8 t 5 = (z : Int) := by rw [But_q p1 rfl]; exact z2
      have step : f_X5_spreadDistance_L16 (fun (M_16_79 : gM) => some M_16_79) t ((d + 1 : Nat) : Int) (m + 1) (i : Int) x = if f_X11_at 22 0 14 (wI (chB B t i - 16)) x = -1 then f_X5_spreadDistance_L16 (fun (M_16_79 : gM) => some M_16_79) t ((d + 1 : Nat) : Int) m ((i + 1 : Nat) : Int) (f_X11_store 22 0 14 (wI (chB B t i - 16)) ((d + 1 : Nat) : Int) x) else if ((d + 1 : Nat) : Int) < f_X11_at 22 0 14 (wI (chB B t i - 16)) x then f_X5_spreadDistance_L16 (fun (M_16_79 : gM) => some M_16_79) t ((d + 1 : Nat) : Int) m ((i + 1 : Nat) : Int) (f_X11_store 22 0 14 (wI (chB B t i - 16)) ((d + 1 : Nat) : Int) x) else f_X5_spreadDistance_L16 (fun (M_16_79 : gM) => some M_16_79) t ((d + 1 : Nat) : Int) m ((i + 1 : Nat) : Int) x := by
        rw [f_X5_spreadDistance_L16, z8, if_pos hiz, ch, w1]
        rfl
      show ∃ x', f_X5_spreadDistance_L16 _ t ((d + 1 : Nat) : Int) (m + 1) (i : Int) x = f_X5_spreadDistance_L16 _ t ((d + 1 : Nat) : Int) m ((i + 1 : Nat) : Int) x' ∧ _
      rw [step]
      by_cases e : chB B t i < 16
      · have neg : wI (chB B t i - 16) < 0 := by
          rw [wI_eq (by unfold nmI; omega)]
          omega
        rw [at_neg neg, if_pos rfl, store_neg neg]
        refine ⟨x, rfl, p1, fun u hu => ?_⟩
        rw [ex_s1 (s := i)]
        obtain ⟨a, b⟩ := p4 u hu
        exact ⟨fun q => q.elim a (fun q => absurd q (by omega)), fun q => b (fun z => q (Or.inl z))⟩
      · obtain ⟨u0, hu0⟩ : ∃ u0 : Nat, chB B t i = 16 + (u0 : Int) := ⟨(chB B t i).toNat - 16, by omega⟩
        have hu0n : u0 < n := by omega
        have hu14 : u0 < 14 := by omega
        have w2 : wI (chB B t i - 16) = (u0 : Int) := by rw [hu0, show 16 + (u0 : Int) - 16 = (u0 : Int) by omega, wI_n (by omega)]
        rw [w2, at_in hu14, store_in hu14]
        have other : ∀ u, u < n → u ≠ u0 → ((∃ j, j < i + 1 ∧ chB B t j = 16 + (u : Int)) ↔ ∃ j, j < i ∧ chB B t j = 16 + (u : Int)) := fun u _ hne => by
          rw [ex_s1 (s := i)]
          exact ⟨fun q => q.elim id (fun q => absurd (by omega) hne), Or.inl⟩
        have mine : ∃ j, j < i + 1 ∧ chB B t j = 16 + (u0 : Int) := ⟨i, Nat.lt_succ_self i, hu0⟩
        have val : upD (x 22 0 u0) ((d + 1 : Nat) : Int) = upD (M 22 0 u0) ((d + 1 : Nat) : Int) := by
          obtain ⟨a, b⟩ := p4 u0 hu0n
          by_cases q : ∃ j, j < i ∧ chB B t j = 16 + (u0 : Int)
          · rw [a q, upD_2]
          · rw [b q]
        have fin : ∀ x' : gM, But [22] x' A → (∀ u, u ≠ u0 → x' 22 0 u = x 22 0 u) → x' 22 0 u0 = upD (x 22 0 u0) ((d + 1 : Nat) : Int) → But [22] x' A ∧ ∀ u, u < n → ((∃ j, j < i + 1 ∧ chB B t j = 16 + (u : Int)) → x' 22 0 u = upD (M 22 0 u) ((d + 1 : Nat) : Int)) ∧ (¬ (∃ j, j < i + 1 ∧ chB B t j = 16 + (u : Int)) → x' 22 0 u = M 22 0 u) := fun x' f1 f2 f3 => by
          refine ⟨f1, fun u hu => ?_⟩
          by_cases eu : u = u0
          · rw [eu, f3, val]
            exact ⟨fun _ => rfl, fun q => absurd mine q⟩
          · rw [other u hu eu, f2 u eu]
            exact p4 u hu
        by_cases q1 : x 22 0 u0 = -1
        · rw [if_pos q1]
          exact ⟨_, rfl, fin _ (But_u p1 rfl) (fun u hu => gU_k hu) (by rw [gU_s]; unfold upD; rw [if_pos (Or.inl q1)])⟩
        · rw [if_neg q1]
          by_cases q2 : ((d + 1 : Nat) : Int) < x 22 0 u0
          · rw [if_pos q2]
            exact ⟨_, rfl, fin _ (But_u p1 rfl) (fun u hu => gU_k hu) (by rw [gU_s]; unfold upD; rw [if_pos (Or.inr q2)])⟩
          · rw [if_neg q2]
            exact ⟨_, rfl, fin _ p1 (fun _ _ => rfl) (by unfold upD; rw [if_neg (fun y => y.elim q1 q2)])⟩
    · show f_X5_spreadDistance_L16 _ t ((d + 1 : Nat) : Int) (m + 1) (z : Int) x = _
      rw [f_X5_spreadDistance_L16, But_q hp.1 rfl, z2, if_neg (Int.lt_irrefl _)]
  obtain ⟨M', q1, q2, q5⟩ := key
  refine ⟨M', q1, q2, fun u hu => ?_⟩
  have e : isI B t u ↔ ∃ j, j < z ∧ chB B t j = 16 + (u : Int) := by
    unfold isI
    rw [z3]
    exact ⟨fun ⟨k, a, b⟩ => ⟨k, Int.ofNat_lt.mp a, b⟩, fun ⟨k, a, b⟩ => ⟨k, Int.ofNat_lt.mpr a, b⟩⟩
  rw [e]
  exact q5 u hu
/-- distances, where all from m on were spread -/
def DI (A B : gM) (n f m : Nat) (M : gM) : Prop := But [22] M A ∧ M 22 0 f = 0 ∧ (∀ u, u < n → M 22 0 u = -1 ∨ ∃ k : Nat, M 22 0 u = (k : Int) ∧ wk B f k u) ∧ ∀ v u, m ≤ v → v < n → isI B v u → M 22 0 v ≠ -1 → M 22 0 u ≠ -1 ∧ M 22 0 u ≤ M 22 0 v + 1
theorem DI_step {A B M : gM} {n f i : Nat} (hS : RS A B) (hT : RT A B n) (hf : f < n) (hi : i ≤ f) (h : DI A B n f (i + 1) M) : ∃ M' : gM, (if M 22 0 i = -1 then some M else f_X5_spreadDistance i M) = some M' ∧ DI A B n f i M' := by
  obtain ⟨p1, p2, p3, p4⟩ := h
  have hin : i < n := Nat.lt_of_le_of_lt hi hf
  by_cases e : M 22 0 i = -1
  · refine ⟨M, if_pos e, p1, p2, p3, fun v u hv hvn hvu hne => ?_⟩
    by_cases ev : v = i
    · rw [ev] at hne; exact absurd e hne
    · exact p4 v u (Nat.lt_of_le_of_ne hv (fun q => ev q.symm)) hvn hvu hne
  · obtain ⟨d, d1, d2⟩ := (p3 i hin).resolve_left e
    have db := wk_le hS hT hf d i d2
    have h14 := hT.1
    have d20 : d ≤ 20 := by omega
    obtain ⟨M', s1, s2, s3⟩ := sdC hS hT hin p1 d1 d20
    have keep : ∀ v, i ≤ v → v < n → M' 22 0 v = M 22 0 v := fun v hv hvn => (s3 v hvn).2 (fun q => by have := isI_lt hS hT hin q; omega)
    have hd0 : (0 : Int) ≤ ((d + 1 : Nat) : Int) := Int.natCast_nonneg _
    refine ⟨M', by rw [if_neg e]; exact s1, s2, by rw [keep f hi hf]; exact p2, fun u hu => ?_, fun v u hv hvn hvu hne => ?_⟩
    · by_cases q : isI B i u
      · rw [(s3 u hu).1 q]
        rcases (upD_le (x := M 22 0 u) hd0).2.2.2 with y | ⟨y, y2⟩
        · exact Or.inr ⟨d + 1, y, i, d2, q⟩
        · rw [y]; exact p3 u hu
      · rw [(s3 u hu).2 q]; exact p3 u hu
    · have huv := isI_lt hS hT hvn hvu
      have hun : u < n := Nat.lt_trans huv hvn
      rw [keep v hv hvn] at hne ⊢
      by_cases ev : v = i
      · rw [ev] at hvu ⊢
        rw [(s3 u hun).1 hvu, d1]
        obtain ⟨y1, y2, -⟩ := upD_le (x := M 22 0 u) hd0
        exact ⟨y1, y2⟩
      · obtain ⟨q1, q2⟩ := p4 v u (Nat.lt_of_le_of_ne hv (fun q => ev q.symm)) hvn hvu hne
        by_cases q : isI B i u
        · rw [(s3 u hun).1 q]
          obtain ⟨y1, -, y3, -⟩ := upD_le (x := M 22 0 u) hd0
          exact ⟨y1, Int.le_trans (y3 q1) q2⟩
        · rw [(s3 u hun).2 q]
          exact ⟨q1, q2⟩
theorem DI_end {A B M : gM} {n f m o : Nat} (hS : RS A B) (hT : RT A B n) (hf : f < n) (ho : o < n) (hm : m ≤ o + 1) (h : DI A B n f m M) : stp B f o (M 22 0 o) := by
  obtain ⟨p1, p2, p3, p4⟩ := h
  have C : ∀ k u, o ≤ u → wk B f k u → M 22 0 u ≠ -1 ∧ M 22 0 u ≤ (k : Int) := by
    intro k
    induction k with
    | zero =>
      intro u _ hu
      have e : u = f := hu
      rw [e, p2]
      exact ⟨by decide, Int.le_refl _⟩
    | succ k ih =>
      intro u hou hu
      obtain ⟨v, v1, v2⟩ := hu
      have hvf := wk_le hS hT hf k v v1
      have hvn : v < n := by omega
      have huv := isI_lt hS hT hvn v2
      obtain ⟨a, b⟩ := ih v (by omega) v1
      obtain ⟨a', b'⟩ := p4 v u (by omega) hvn v2 a
      exact ⟨a', by omega⟩
  rcases p3 o ho with q | ⟨k, q1, q2⟩
  · exact Or.inl ⟨q, fun k hk => (C k o (Nat.le_refl _) hk).1 q⟩
  · refine Or.inr ⟨k, q1, q2, fun j hj => ?_⟩
    have := (C j o (Nat.le_refl _) hj).2
    omega
theorem diC {A B : gM} {n f o : Nat} (hS : RS A B) (hT : RT A B n) (hf : f < n) (ho : o < n) : ∃ A' : gM, f_X5_distance (f : Int) (o : Int) A = some (A' 22 0 o, A') ∧ But [22] A' A ∧ stp B f o (A' 22 0 o) := by
  have h14 := hT.1
  have f14 : f < 14 := Nat.lt_of_lt_of_le hf h14
  have o14 : o < 14 := Nat.lt_of_lt_of_le ho h14
  unfold f_X5_distance
  refine lp0 (F := fun m M i => f_X5_distance_L2 (fun (M_2_32 : gM) => f_X5_distance_L34 (fun (M_34_66 : gM) => some (((f_X11_at 22 0 14 (o : Int) M_34_66), M_34_66))) (o : Int) 64 (f : Int) M_2_32) (f : Int) (o : Int) m i M) 14 (fun i M => But [22] M A ∧ ∀ u, u < i → M 22 0 u = if u = f then 0 else -1) (fun r => ∃ A' : gM, r = some (A' 22 0 o, A') ∧ But [22] A' A ∧ stp B f o (A' 22 0 o)) (by decide) A ⟨But_r, fun u q => absurd q (Nat.not_lt_zero _)⟩ (fun m i M hi hp => Or.inl ?_) (fun m M hp => ?_)
  · obtain ⟨p1, p2⟩ := hp
    have hi14 : (i : Int) < 14 := by omega
    have w1 : wI ((i : Int) + 1) = ((i + 1 : Nat) : Int) := wI_s (by omega)
    refine ⟨gU M 22 0 i (if i = f then 0 else -1), ?_, But_u p1 rfl, fun u hu => ?_⟩
    · show f_X5_distance_L2 _ (f : Int) (o : Int) (m + 1) (i : Int) M = _
      rw [f_X5_distance_L2, if_pos hi14]
      dsimp only [oj]
      rw [w1, store_in hi, store_in hi]
      by_cases e : i = f
      · rw [if_pos (show (i : Int) = (f : Int) by rw [e]), if_pos e]
      · rw [if_neg (fun q => e (Int.ofNat_inj.mp q)), if_neg e]
    · by_cases e : u = i
      · rw [e, gU_s]
      · rw [gU_k e]; exact p2 u (lt_ne hu e)
  · obtain ⟨p1, p2⟩ := hp
    show ∃ A' : gM, f_X5_distance_L2 _ (f : Int) (o : Int) (m + 1) ((14 : Nat) : Int) M = _ ∧ _
    rw [f_X5_distance_L2, if_neg (by decide)]
    have hD : DI A B n f (f + 1) M := by
      refine ⟨p1, by rw [p2 f f14, if_pos rfl], fun u hu => ?_, fun v u hv hvn _ hne => ?_⟩
      · rw [p2 u (Nat.lt_of_lt_of_le hu h14)]
        by_cases e : u = f
        · rw [if_pos e]; exact Or.inr ⟨0, rfl, e⟩
        · rw [if_neg e]; exact Or.inl rfl
      · rw [p2 v (Nat.lt_of_lt_of_le hvn h14), if_neg (show ¬ v = f by omega)] at hne
        exact absurd rfl hne
    have ef : (f : Int) = ((f + 1 : Nat) : Int) - 1 := by omega
    rw [ef]
    refine lpd0 (F := fun m x i => f_X5_distance_L34 (fun (M_34_66 : gM) => some (((f_X11_at 22 0 14 (o : Int) M_34_66), M_34_66))) (o : Int) m i x) (f + 1) (fun m x => DI A B n f m x) (fun r => ∃ A' : gM, r = some (A' 22 0 o, A') ∧ But [22] A' A ∧ stp B f o (A' 22 0 o)) (by omega) M hD (fun m i x hi hp => ?_) (fun m x hp => ⟨x, ?_, hp.1, DI_end hS hT hf ho (Nat.zero_le _) hp⟩)
    · have hif : i ≤ f := Nat.le_of_lt_succ hi
      have hin : i < n := Nat.lt_of_le_of_lt hif hf
      have i14 : i < 14 := Nat.lt_of_lt_of_le hin h14
      by_cases e : (o : Int) < (i : Int)
      · have wp : wI ((i : Int) + (-1)) = (i : Int) - 1 := wI_p (by omega)
        have x2 : x 2 0 5 = (n : Int) := by rw [But_q hp.1 rfl]; exact hT.2.1
        obtain ⟨M', s1, s2⟩ := DI_step hS hT hf hif hp
        refine Or.inl ⟨M', ?_, s2⟩
        show f_X5_distance_L34 _ (o : Int) (m + 1) (i : Int) x = _
        rw [f_X5_distance_L34, if_pos e]
        dsimp only [oj]
        rw [at_in i14, wp, tAt x2 h14 hin]
        by_cases q : x 22 0 i = -1
        · rw [if_pos q] at s1 ⊢
          rw [Option.some.inj s1]
        · rw [if_neg q] at s1 ⊢
          rw [s1, ob_s]
      · refine Or.inr ⟨x, ?_, hp.1, DI_end hS hT hf ho (by omega) hp⟩
        show f_X5_distance_L34 _ (o : Int) (m + 1) (i : Int) x = _
        rw [f_X5_distance_L34, if_neg e, at_in o14]
    · show f_X5_distance_L34 _ (o : Int) (m + 1) (-1) x = _
      rw [f_X5_distance_L34, if_neg (by omega), at_in o14]
/-- the reference: one step more from all at once -/
theorem st76 {A B : gM} {n i S x : Nat} {k : Int → Option (Int × gM)} {o z4 : Int} (hS : RS A B) (hT : RT A B n) (hi : i < n) (hS14 : S < 16384) (hx : x < 16384) : f_X12_steps_L76 k o (S : Int) z4 (i : Int) B 64 (x : Int) 0 = k ((if S.testBit i = true then x ||| ibN B i else x : Nat) : Int) := by
  obtain ⟨z, z1, z2, z3⟩ := szT hT hi
  have h14 := hT.1
  have hz : z < 64 := by omega
  have i31 : i < 31 := by omega
  have g15 : (0 : Int) ≤ (i : Int) ∧ (i : Int) < 15 := by omega
  have i15 : i < 15 := by omega
  have hRI := (hT.2.2.2.2.2.2 i hi).1
  by_cases b : S.testBit i = true
  · have bb : gAnd (gShr (S : Int) (i : Int)) 1 = 1 := (bit_1 (lt14_31 hS14) i31).mpr b
    have key := (loop_up (F := fun m (y : Nat) j => f_X12_steps_L76 k o (S : Int) z4 (i : Int) B m (y : Int) j) (B := z) (K := fun y => k (y : Int)) (st := ibS B i) (P := fun _ y => y < 16384) (fun m j y hj hp => by
      have hjB : (j : Int) < B 41 0 i := by rw [z3]; exact Int.ofNat_lt.mpr hj
      have c := ch_in hS hT hi hjB
      have w1 : wI ((j : Int) + 1) = ((j + 1 : Nat) : Int) := wI_s (by omega)
      refine ⟨?_, ibS_lt hS hT hi hjB hp⟩
      show f_X12_steps_L76 k o (S : Int) z4 (i : Int) B (m + 1) (y : Int) (j : Int) = _
      rw [f_X12_steps_L76, og_t g15, Int.toNat_natCast, z3, if_pos (Int.ofNat_lt.mpr hj), if_pos bb, inO hRI i15 hjB, ob_s]
      dsimp only [oj]
      rw [w1]
      unfold ibS
      by_cases e : chB B i j < 16
      · rw [if_pos e, if_pos e, show gOr (y : Int) 0 = ((y ||| 0 : Nat) : Int) from gOr_n (lt14_31 hp) (by decide), Nat.or_zero]
      · obtain ⟨u, hu⟩ : ∃ u : Nat, chB B i j = 16 + (u : Int) := ⟨(chB B i j).toNat - 16, by omega⟩
        have u14 : u < 14 := by omega
        have u31 : u < 31 := by omega
        have w2 : wI (16 + (u : Int) - 16) = (u : Int) := by rw [show 16 + (u : Int) - 16 = (u : Int) by omega, wI_n (by omega)]
        have w3 : (16 + (u : Int)).toNat - 16 = u := by omega
        rw [if_neg e, if_neg e, hu, w2, gShl_n u31, gOr_n (lt14_31 hp) (lt14_31 (pow_14 u14)), w3])
    (fun m y hp => by
      show f_X12_steps_L76 k o (S : Int) z4 (i : Int) B (m + 1) (y : Int) (z : Int) = _
      rw [f_X12_steps_L76, og_t g15, Int.toNat_natCast, z3, if_neg (Int.lt_irrefl _)]) z 64 0 x (by omega) hz hx).1
    have e2 : x ||| ibN B i = itr (ibS B i) z 0 x := by
      unfold ibN
      rw [z3, Int.toNat_natCast, ← itr_or, Nat.or_zero]
    rw [if_pos b, e2]
    exact key
  · have nb : ¬ gAnd (gShr (S : Int) (i : Int)) 1 = 1 := fun q => b ((bit_1 (lt14_31 hS14) i31).mp q)
    rw [if_neg b, f_X12_steps_L76, og_t g15, Int.toNat_natCast, z3, if_neg nb]
    by_cases e4 : (0 : Int) < (z : Int)
    · rw [if_pos e4]
    · rw [if_neg e4]
theorem st64 {A B : gM} {n S : Nat} {k : Int → Option (Int × gM)} {o z4 : Int} (hS : RS A B) (hT : RT A B n) (hS14 : S < 16384) : ∃ y : Nat, f_X12_steps_L64 k o (S : Int) z4 B 64 (S : Int) 0 = k (y : Int) ∧ y < 16384 ∧ ∀ u, y.testBit u = true ↔ S.testBit u = true ∨ ∃ v, v < n ∧ S.testBit v = true ∧ isI B v u := by
  have h14 := hT.1
  have hn64 : n < 64 := by omega
  refine lp0 (F := fun m (x : Nat) i => f_X12_steps_L64 k o (S : Int) z4 B m (x : Int) i) n (fun i x => x < 16384 ∧ ∀ u, x.testBit u = true ↔ S.testBit u = true ∨ ∃ v, v < i ∧ S.testBit v = true ∧ isI B v u) (fun r => ∃ y : Nat, r = k (y : Int) ∧ y < 16384 ∧ ∀ u, y.testBit u = true ↔ S.testBit u = true ∨ ∃ v, v < n ∧ S.testBit v = true ∧ isI B v u) hn64 S ⟨hS14, fun u => ⟨Or.inl, fun q => q.elim id (fun ⟨v, y, _⟩ => absurd y (Nat.not_lt_zero _))⟩⟩ (fun m i x hi hp => Or.inl ?_) (fun m x hp => ⟨x, ?_, hp⟩)
  · obtain ⟨p1, p2⟩ := hp
    have hin : (i : Int) < (n : Int) := Int.ofNat_lt.mpr hi
    have w1 : wI ((i : Int) + 1) = ((i + 1 : Nat) : Int) := wI_s (by omega)
    obtain ⟨ib1, ib2⟩ := ib_bits hS hT hi
    refine ⟨if S.testBit i = true then x ||| ibN B i else x, ?_, ?_, fun u => ?_⟩
    · show f_X12_steps_L64 k o (S : Int) z4 B (m + 1) (x : Int) (i : Int) = _
      rw [f_X12_steps_L64, hT.2.2.1, if_pos hin, w1]
      exact st76 hS hT hi hS14 p1
    · by_cases b : S.testBit i = true
      · rw [if_pos b]; exact or_14 p1 ib1
      · rw [if_neg b]; exact p1
    · rw [ex_s1 (P := fun v => S.testBit v = true ∧ isI B v u) (s := i)]
      by_cases b : S.testBit i = true
      · rw [if_pos b, or_bit, p2 u, ib2 u]
        constructor
        · rintro ((q | q) | q)
          · exact Or.inl q
          · exact Or.inr (Or.inl q)
          · exact Or.inr (Or.inr ⟨b, q⟩)
        · rintro (q | q | q)
          · exact Or.inl (Or.inl q)
          · exact Or.inl (Or.inr q)
          · exact Or.inr q.2
      · rw [if_neg b, p2 u]
        constructor
        · rintro (q | q)
          · exact Or.inl q
          · exact Or.inr (Or.inl q)
        · rintro (q | q | q)
          · exact Or.inl q
          · exact Or.inr q
          · exact absurd q.1 b
  · show f_X12_steps_L64 k o (S : Int) z4 B (m + 1) (x : Int) (n : Int) = _
    rw [f_X12_steps_L64, hT.2.2.1, if_neg (Int.lt_irrefl _)]
theorem stM {A B : gM} {n f o : Nat} (hS : RS A B) (hT : RT A B n) (hf : f < n) (ho : o < n) : ∃ r : Int, f_X12_steps_L37 (some (-1, B)) (o : Int) B 64 (gShl 1 (f : Int)) 0 = some (r, B) ∧ stp B f o r := by
  have h14 := hT.1
  have f14 : f < 14 := Nat.lt_of_lt_of_le hf h14
  have f31 : f < 31 := Nat.lt_trans f14 (by decide)
  have o31 : o < 31 := by omega
  have hn64 : n + 1 < 64 := by omega
  rw [gShl_n f31]
  refine lp0 (F := fun m (x : Nat) i => f_X12_steps_L37 (some (-1, B)) (o : Int) B m (x : Int) i) (n + 1) (fun i x => x < 16384 ∧ (∀ u, x.testBit u = true ↔ ∃ j, j ≤ i ∧ wk B f j u) ∧ ∀ j, j < i → ¬ wk B f j o) (fun q => ∃ r : Int, q = some (r, B) ∧ stp B f o r) hn64 (2 ^ f) ⟨pow_14 f14, fun u => ?_, fun j q => absurd q (Nat.not_lt_zero _)⟩ (fun m i x hi hp => ?_) (fun m x hp => ⟨-1, ?_, Or.inl ⟨rfl, fun k hk => ?_⟩⟩)
  · rw [pow_bit]
    exact ⟨fun q => ⟨0, Nat.le_refl _, q⟩, fun ⟨j, q1, q2⟩ => by
      have : j = 0 := Nat.le_zero.mp q1
      subst this
      exact q2⟩
  · obtain ⟨p1, p2, p3⟩ := hp
    have nin : ¬ (n : Int) < (i : Int) := by omega
    have w1 : wI ((i : Int) + 1) = ((i + 1 : Nat) : Int) := wI_s (by omega)
    by_cases b : x.testBit o = true
    · refine Or.inr ⟨(i : Int), ?_, Or.inr ⟨i, rfl, ?_, fun j hj => ?_⟩⟩
      · show f_X12_steps_L37 _ (o : Int) B (m + 1) (x : Int) (i : Int) = _
        rw [f_X12_steps_L37, hT.2.2.1, if_neg nin, if_pos ((bit_1 (lt14_31 p1) o31).mpr b)]
      · obtain ⟨j, q1, q2⟩ := (p2 o).mp b
        rcases Nat.lt_or_ge j i with y | y
        · exact absurd q2 (p3 j y)
        · rw [Nat.le_antisymm y q1]; exact q2
      · rcases Nat.lt_or_ge j i with y | y
        · exact absurd hj (p3 j y)
        · exact y
    · obtain ⟨y, y1, y2, y3⟩ := st64 (k := fun (y5_64_143 : Int) => f_X12_steps_L37 (some (-1, B)) (o : Int) B m y5_64_143 ((i + 1 : Nat) : Int)) (o := (o : Int)) (z4 := (i : Int)) hS hT p1
      refine Or.inl ⟨y, ?_, y2, fun u => ?_, fun j hj hw => ?_⟩
      · show f_X12_steps_L37 _ (o : Int) B (m + 1) (x : Int) (i : Int) = _
        rw [f_X12_steps_L37, hT.2.2.1, if_neg nin, if_neg (fun q => b ((bit_1 (lt14_31 p1) o31).mp q)), w1]
        exact y1
      · rw [y3 u, p2 u]
        constructor
        · rintro (⟨j, q1, q2⟩ | ⟨v, q1, q2, q3⟩)
          · exact ⟨j, Nat.le_succ_of_le q1, q2⟩
          · obtain ⟨j, q4, q5⟩ := (p2 v).mp q2
            exact ⟨j + 1, Nat.succ_le_succ q4, v, q5, q3⟩
        · rintro ⟨j, q1, q2⟩
          cases j with
          | zero => exact Or.inl ⟨0, Nat.zero_le _, q2⟩
          | succ j =>
            obtain ⟨v, q3, q4⟩ := q2
            have := wk_le hS hT hf j v q3
            exact Or.inr ⟨v, by omega, (p2 v).mpr ⟨j, Nat.le_of_succ_le_succ q1, q3⟩, q4⟩
      · exact b ((p2 o).mpr ⟨j, Nat.le_of_lt_succ hj, hw⟩)
  · have nn : (n : Int) < ((n + 1 : Nat) : Int) := by omega
    show f_X12_steps_L37 _ (o : Int) B (m + 1) (x : Int) ((n + 1 : Nat) : Int) = _
    rw [f_X12_steps_L37, hT.2.2.1, if_pos nn]
  · have := wk_le hS hT hf k o hk
    exact hp.2.2 k (by omega) hk
theorem S_steps {c : Nat} (v1 v2 : Int) : Sim (Rel c) (Rel (c + 1)) (f_L_steps v1 v2) (f_X12_steps v1 v2) := by
  intro A B h
  have h0 := h
  obtain ⟨n, h1, h2, h3, h4, h5, h6, h7⟩ := h0
  have hA := h2.2.1
  have hB := h2.2.2.1
  have hn := h2.1
  by_cases ht : (0 ≤ v1 ∧ v1 < (n : Int)) ∧ (0 ≤ v2 ∧ v2 < (n : Int))
  · obtain ⟨f, rfl⟩ : ∃ f : Nat, v1 = (f : Int) := ⟨v1.toNat, by omega⟩
    obtain ⟨o, rfl⟩ : ∃ o : Nat, v2 = (o : Int) := ⟨v2.toNat, by omega⟩
    have hf : f < n := by omega
    have ho : o < n := by omega
    have k1 := RS_0 0 h1
    have k2 := RT_0 0 h2
    have hR := Rel_thr 0 (Rel_up h)
    obtain ⟨A', a1, a2, a3⟩ := diC k1 k2 hf ho
    obtain ⟨r, b1, b2⟩ := stM k1 k2 hf ho
    have e1 : f_L_steps (f : Int) (o : Int) A = some (0, gU A' 75 0 0 (A' 22 0 o)) := by
      unfold f_L_steps f_X11_steps
      rw [cTar hA, if_pos ht.1, ob_s, ox_r, cTar hA, if_pos ht.2, ob_s, ox_r, a1, ob_s, ob_s]
      rfl
    have e2 : f_X12_steps (f : Int) (o : Int) B = some (r, gU B 29 0 0 0) := by
      unfold f_X12_steps
      dsimp only [oj]
      rw [isT hB hn, if_pos ht.1, if_neg ne10, isT hB hn, if_pos ht.2, if_neg ne10, ask1]
      dsimp only
      rw [if_neg ne10]
      exact b1
    refine ⟨_, _, _, _, e1, e2, gU_s _ _ _ _ _, fun _ => ?_, Rel_out _ (Rel_b hR (But_w a2 rfl) But_r), fun q y1 y2 => ?_, fun q hq => gU_r (by omega)⟩
    · rw [gU_s]; exact stp_eq a3 b2
    · rw [gU_r y2]; exact But_c a2 rfl q y1 y2
  · have e1 : f_L_steps v1 v2 A = some (1, A) := by
      unfold f_L_steps f_X11_steps
      rw [cTar hA]
      by_cases a : 0 ≤ v1 ∧ v1 < (n : Int)
      · rw [if_pos a, ob_s, ox_r, cTar hA, if_neg (fun q => ht ⟨a, q⟩), ob_s, ox_l]
        rfl
      · rw [if_neg a, ob_s, ox_l]
        rfl
    have e2 : f_X12_steps v1 v2 B = some (0, gU B 29 0 0 1) := by
      unfold f_X12_steps
      dsimp only [oj]
      rw [isT hB hn, isT hB hn]
      by_cases a : 0 ≤ v1 ∧ v1 < (n : Int)
      · rw [if_pos a, if_neg ne10, if_neg (fun q => ht ⟨a, q⟩), if_pos rfl, ask0]
        dsimp only
        rw [if_pos rfl]
      · rw [if_neg a, if_pos rfl, ask0]
        dsimp only
        rw [if_pos rfl]
    exact ⟨_, _, _, _, e1, e2, gU_s _ _ _ _ _, fun q => absurd q (by decide), Rel_thr _ (Rel_up h), fun q _ _ => rfl, fun q hq => gU_r (by omega)⟩
