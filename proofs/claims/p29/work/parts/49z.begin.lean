/-! ### an idle worker; an action begins -/
def idl (B : gM) (w : Nat) : Prop := B 54 0 w = -1 ∧ 0 < B 53 0 w
def bestI (B : gM) (m : Nat) (x : Option Nat) : Prop := (x = none ∧ ∀ w, w < m → ¬ idl B w) ∨ ∃ w, w < m ∧ x = some w ∧ idl B w ∧ (∀ v, v < m → idl B v → B 53 0 v ≤ B 53 0 w) ∧ ∀ v, v < w → idl B v → B 53 0 v < B 53 0 w
theorem bestI_eq {B : gM} {m : Nat} {x x' : Option Nat} (h : bestI B m x) (h' : bestI B m x') : x = x' := by
  rcases h with ⟨h1, h2⟩ | ⟨w, h1, h2, h3, h4, h5⟩
  · rcases h' with ⟨g1', g2⟩ | ⟨w', g1', g2, g3, g4, g5⟩
    · rw [h1, g1']
    · exact absurd g3 (h2 w' g1')
  · rcases h' with ⟨g1', g2⟩ | ⟨w', g1', g2, g3, g4, g5⟩
    · exact absurd h3 (g2 w h1)
    · have e : w = w' := by
        rcases Nat.lt_trichotomy w w' with q | q | q
        · exact absurd (g5 w q h3) (Int.not_lt.mpr (h4 w' g1' g3))
        · exact q
        · exact absurd (h5 w' q g3) (Int.not_lt.mpr (g4 w h1 h3))
      rw [h2, g2, e]
theorem bestI_no {B : gM} {m : Nat} {x : Option Nat} (h : bestI B m x) (hn : ¬ idl B m) : bestI B (m + 1) x := by
  rcases h with ⟨h1, h2⟩ | ⟨w, h1, h2, h3, h4, h5⟩
  · exact Or.inl ⟨h1, fun v hv => by
      by_cases e : v = m
      · rw [e]; exact hn
      · exact h2 v (lt_ne hv e)⟩
  · refine Or.inr ⟨w, Nat.lt_succ_of_lt h1, h2, h3, fun v hv hh => ?_, h5⟩
    by_cases e : v = m
    · rw [e] at hh; exact absurd hh hn
    · exact h4 v (lt_ne hv e) hh
theorem bestI_yes {B : gM} {m : Nat} {x : Option Nat} (h : bestI B m x) (hi : idl B m) (hx : ∀ w, x = some w → B 53 0 w < B 53 0 m) : bestI B (m + 1) (some m) := by
  refine Or.inr ⟨m, Nat.lt_succ_self m, rfl, hi, fun v hv hh => ?_, fun v hv hh => ?_⟩
  · by_cases e : v = m
    · rw [e]; exact Int.le_refl _
    · rcases h with ⟨h1, h2⟩ | ⟨w, h1, h2, h3, h4, h5⟩
      · exact absurd hh (h2 v (lt_ne hv e))
      · exact Int.le_trans (h4 v (lt_ne hv e) hh) (Int.le_of_lt (hx w h2))
  · rcases h with ⟨h1, h2⟩ | ⟨w, h1, h2, h3, h4, h5⟩
    · exact absurd hh (h2 v hv)
    · exact Int.lt_of_le_of_lt (h4 v hv hh) (hx w h2)
theorem bestI_stay {B : gM} {m w : Nat} (h : bestI B m (some w)) (hx : B 53 0 m ≤ B 53 0 w) : bestI B (m + 1) (some w) := by
  rcases h with ⟨h1, h2⟩ | ⟨w', h1, h2, h3, h4, h5⟩
  · exact absurd h1 (Option.some_ne_none _)
  · have e : w = w' := Option.some.inj h2
    subst e
    refine Or.inr ⟨w, Nat.lt_succ_of_lt h1, rfl, h3, fun v hv hh => ?_, h5⟩
    by_cases e : v = m
    · rw [e]; exact hx
    · exact h4 v (lt_ne hv e) hh
/-- a worker is at nothing or at an action -/
def W0 (B : gM) : Prop := ∀ w, w < 4 → B 54 0 w = -1 ∨ 0 ≤ B 54 0 w
theorem W0_of {B : gM} {n : Nat} {l : Int} (h : W3 l B n) : W0 B := fun w hw => by
  rcases h w hw with q | ⟨t, s, q, -⟩
  · exact Or.inl q
  · exact Or.inr (by rw [q]; exact Int.natCast_nonneg _)
theorem idC {A B : gM} {w : Nat} (h : W12 A B) (h0 : W0 B) (hw : w < 4) : (f_X10_isIdle w A = 1 ∧ idl B w) ∨ (f_X10_isIdle w A = 0 ∧ ¬ idl B w) := by
  obtain ⟨e1, -, e3, -⟩ := h.1 w
  unfold f_X10_isIdle idl
  dsimp only [oj]
  rw [e1, e3]
  by_cases p : 0 < B 53 0 w
  · rw [if_pos p]
    rcases h0 w hw with q | q
    · rw [q]; exact Or.inl ⟨rfl, rfl, p⟩
    · have : gAct (B 54 0 w) = some (B 54 0 w).toNat := by
        unfold gAct
        rw [if_neg (Int.not_lt.mpr q)]
      rw [this]
      exact Or.inr ⟨rfl, fun z => by omega⟩
  · rw [if_neg p]; exact Or.inr ⟨rfl, fun z => p z.2⟩
theorem siC {A B : gM} (h : W12 A B) (h0 : W0 B) : ∃ x, f_X2_strongestIdle A = some x ∧ bestI B 4 x := by
  unfold f_X2_strongestIdle
  refine lp0 (F := fun m (x : Option Nat) i => f_X2_strongestIdle_L13 (fun (y1_13_58 : Option Nat) => some y1_13_58) 4 A m x i) 4 (fun i x => bestI B i x) (fun r => ∃ x, r = some x ∧ bestI B 4 x) (by decide) none (Or.inl ⟨rfl, fun w q => absurd q (Nat.not_lt_zero _)⟩) (fun m i x hi hp => Or.inl ?_) (fun m x hp => ⟨x, ?_, hp⟩)
  · have g4 : (0 : Int) ≤ (i : Int) ∧ (i : Int) < 4 := by omega
    have w1 : wI ((i : Int) + 1) = ((i + 1 : Nat) : Int) := wI_s (by omega)
    show ∃ x', f_X2_strongestIdle_L13 _ 4 A (m + 1) x (i : Int) = f_X2_strongestIdle_L13 _ 4 A m x' ((i + 1 : Nat) : Int) ∧ _
    rw [f_X2_strongestIdle_L13, if_pos g4.2, og_t g4, Int.toNat_natCast]
    dsimp only [oj]
    rw [w1]
    rcases idC h h0 hi with ⟨q1, q2⟩ | ⟨q1, q2⟩
    · rw [if_neg (by rw [q1]; exact ne10)]
      cases x with
      | none => exact ⟨some i, rfl, bestI_yes hp q2 (fun w q => absurd q.symm (Option.some_ne_none _))⟩
      | some w =>
        show ∃ x', (if A 11 w 1 < A 11 i 1 then f_X2_strongestIdle_L13 _ 4 A m (some i) ((i + 1 : Nat) : Int) else f_X2_strongestIdle_L13 _ 4 A m (some w) ((i + 1 : Nat) : Int)) = _ ∧ _
        rw [(h.1 w).1, (h.1 i).1]
        by_cases e : B 53 0 w < B 53 0 i
        · rw [if_pos e]; exact ⟨some i, rfl, bestI_yes hp q2 (fun w' q => by rw [← Option.some.inj q]; exact e)⟩
        · rw [if_neg e]; exact ⟨some w, rfl, bestI_stay hp (Int.not_lt.mp e)⟩
    · rw [if_pos q1]
      exact ⟨x, rfl, bestI_no hp q2⟩
  · show f_X2_strongestIdle_L13 _ 4 A (m + 1) x ((4 : Nat) : Int) = _
    rw [f_X2_strongestIdle_L13, if_neg (by decide)]
theorem siM (B : gM) : ∃ x, f_X12_idle B = some (encO x) ∧ bestI B 4 x := by
  unfold f_X12_idle
  have main : ∃ x, (∀ w, x = some w → w < 4) ∧ f_X12_idle_L4 (fun (y1_4_60 : Int) => some y1_4_60) B 64 (-1) 0 = some (encO x) ∧ bestI B 4 x := by
    refine lp0 (F := fun m (x : Option Nat) i => f_X12_idle_L4 (fun (y1_4_60 : Int) => some y1_4_60) B m (encO x) i) 4 (fun i x => (∀ w, x = some w → w < 4) ∧ bestI B i x) (fun r => ∃ x, (∀ w, x = some w → w < 4) ∧ r = some (encO x) ∧ bestI B 4 x) (by decide) none ⟨fun w q => absurd q.symm (Option.some_ne_none _), Or.inl ⟨rfl, fun w q => absurd q (Nat.not_lt_zero _)⟩⟩ (fun m i x hi hp => Or.inl ?_) (fun m x hp => ⟨x, hp.1, ?_, hp.2⟩)
    · obtain ⟨p0, hp⟩ := hp
      have g4 : (0 : Int) ≤ (i : Int) ∧ (i : Int) < 4 := by omega
      have w1 : wI ((i : Int) + 1) = ((i + 1 : Nat) : Int) := wI_s (by omega)
      have fi : ∀ w, some i = some w → w < 4 := fun w q => by rw [← Option.some.inj q]; exact hi
      show ∃ x', f_X12_idle_L4 _ B (m + 1) (encO x) (i : Int) = f_X12_idle_L4 _ B m (encO x') ((i + 1 : Nat) : Int) ∧ _
      rw [f_X12_idle_L4, if_pos g4.2, og_t g4, Int.toNat_natCast]
      dsimp only [oj]
      rw [w1]
      by_cases e1 : B 54 0 i = -1
      · rw [if_pos e1, og_t g4]
        by_cases e2 : 0 < B 53 0 i
        · rw [if_pos e2]
          cases x with
          | none =>
            refine ⟨some i, ?_, fi, bestI_yes hp ⟨e1, e2⟩ (fun w q => absurd q.symm (Option.some_ne_none _))⟩
            rw [if_pos (show encO none = -1 from rfl)]
            rfl
          | some w =>
            have hw := p0 w rfl
            have nw : ¬ encO (some w) = -1 := fun q => by
              have : (w : Int) = -1 := q
              omega
            have gw : (0 : Int) ≤ encO (some w) ∧ encO (some w) < 4 := ⟨Int.natCast_nonneg w, Int.ofNat_lt.mpr hw⟩
            have tw : (encO (some w)).toNat = w := Int.toNat_natCast w
            rw [if_neg nw, og_t g4, og_t gw, tw]
            by_cases e : B 53 0 w < B 53 0 i
            · rw [if_pos e]; exact ⟨some i, rfl, fi, bestI_yes hp ⟨e1, e2⟩ (fun w' q => by rw [← Option.some.inj q]; exact e)⟩
            · rw [if_neg e]; exact ⟨some w, rfl, p0, bestI_stay hp (Int.not_lt.mp e)⟩
        · rw [if_neg e2]; exact ⟨x, rfl, p0, bestI_no hp (fun q => e2 q.2)⟩
      · rw [if_neg e1]; exact ⟨x, rfl, p0, bestI_no hp (fun q => e1 q.1)⟩
    · show f_X12_idle_L4 _ B (m + 1) (encO x) ((4 : Nat) : Int) = _
      rw [f_X12_idle_L4, if_neg (by decide)]
  obtain ⟨x, -, x2, x3⟩ := main
  exact ⟨x, x2, x3⟩
theorem keyS_t {B M : gM} (h : Td B M) (C D : Nat → Int) (t s : Nat) : keyS M C D t s = keyS B C D t s := by
  unfold keyS kb0 inV chB
  rw [h 31 (by decide), h 32 (by decide), h 35 (by decide), h 36 (by decide), h 37 (by decide), h 41 (by decide), h 42 (by decide), h 43 (by decide), h 44 (by decide), h 45 (by decide)]
theorem dgS_t {B M : gM} (h : Td B M) (h61 : M 61 = B 61) : dgS M = dgS B := by
  funext t
  unfold dgS
  rw [h 38 (by decide), h61]
/-- ticks, as a number -/
theorem tick_n {wk p : Nat} (h1 : 6 ≤ wk) (h2 : wk ≤ 18) (h3 : 1 ≤ p) (h4 : p ≤ 9) : wI ((wI (wI ((wk : Int) + (p : Int)) - 1)).tdiv (p : Int)) = (((wk + p - 1) / p : Nat) : Int) ∧ 1 ≤ (wk + p - 1) / p ∧ (wk + p - 1) / p ≤ 50 := by
  have l1 : 1 ≤ (wk + p - 1) / p := Nat.div_pos (by omega) (by omega)
  have l2 : (wk + p - 1) / p ≤ 50 := Nat.le_trans (Nat.div_le_self _ _) (by omega)
  refine ⟨?_, l1, l2⟩
  rw [show (wk : Int) + (p : Int) = ((wk + p : Nat) : Int) by omega, wI_n (by omega), show ((wk + p : Nat) : Int) - 1 = ((wk + p - 1 : Nat) : Int) by omega, wI_n (by omega), ← Int.ofNat_tdiv, wI_n (by omega)]
def wkN (B : gM) (t : Nat) : Nat := 6 + 2 * (B 41 0 t).toNat + (if B 35 0 t = 1 then 4 else 0)
def tkN (B : gM) (w t : Nat) : Int := if B 59 0 w = B 36 0 t then (if 1 < (((wkN B t + (B 53 0 w).toNat - 1) / (B 53 0 w).toNat : Nat) : Int) - 2 then (((wkN B t + (B 53 0 w).toNat - 1) / (B 53 0 w).toNat : Nat) : Int) - 2 else 1) else (((wkN B t + (B 53 0 w).toNat - 1) / (B 53 0 w).toNat : Nat) : Int)
theorem wkN_e {z : Nat} (hz : z ≤ 4) : wI (wI (6 + wI (2 * (z : Int))) + 4) = ((6 + 2 * z + 4 : Nat) : Int) ∧ wI (wI (6 + wI (2 * (z : Int))) + 0) = ((6 + 2 * z + 0 : Nat) : Int) := by
  refine ⟨?_, ?_⟩
  · rw [show 2 * (z : Int) = ((2 * z : Nat) : Int) by omega, wI_n (by omega), show 6 + ((2 * z : Nat) : Int) = ((6 + 2 * z : Nat) : Int) by omega, wI_n (by omega), show ((6 + 2 * z : Nat) : Int) + 4 = ((6 + 2 * z + 4 : Nat) : Int) by omega, wI_n (by omega)]
  · rw [show 2 * (z : Int) = ((2 * z : Nat) : Int) by omega, wI_n (by omega), show 6 + ((2 * z : Nat) : Int) = ((6 + 2 * z : Nat) : Int) by omega, wI_n (by omega), show ((6 + 2 * z : Nat) : Int) + 0 = ((6 + 2 * z + 0 : Nat) : Int) by omega, wI_n (by omega)]
theorem tkN_in {B : gM} {w t z : Nat} (hz : z ≤ 4) (h41 : B 41 0 t = (z : Int)) (hp : 0 < B 53 0 w ∧ B 53 0 w ≤ 9) : 1 ≤ tkN B w t ∧ tkN B w t ≤ 50 ∧ 6 ≤ wkN B t ∧ wkN B t ≤ 18 ∧ ∃ p : Nat, B 53 0 w = (p : Int) ∧ 1 ≤ p ∧ p ≤ 9 := by
  have hw : 6 ≤ wkN B t ∧ wkN B t ≤ 18 := by
    unfold wkN
    rw [h41, Int.toNat_natCast]
    by_cases e : B 35 0 t = 1
    · rw [if_pos e]; omega
    · rw [if_neg e]; omega
  obtain ⟨p, hp'⟩ : ∃ p : Nat, B 53 0 w = (p : Int) := ⟨(B 53 0 w).toNat, by omega⟩
  have p1 : 1 ≤ p ∧ p ≤ 9 := by omega
  obtain ⟨-, l1, l2⟩ := tick_n hw.1 hw.2 p1.1 p1.2
  refine ⟨?_, ?_, hw.1, hw.2, p, hp', p1⟩
  · unfold tkN
    rw [hp', Int.toNat_natCast]
    by_cases e : B 59 0 w = B 36 0 t
    · rw [if_pos e]
      by_cases e2 : 1 < (((wkN B t + p - 1) / p : Nat) : Int) - 2
      · rw [if_pos e2]; exact Int.le_of_lt e2
      · rw [if_neg e2]; decide
    · rw [if_neg e]; exact Int.ofNat_le.mpr l1
  · unfold tkN
    rw [hp', Int.toNat_natCast]
    by_cases e : B 59 0 w = B 36 0 t
    · rw [if_pos e]
      by_cases e2 : 1 < (((wkN B t + p - 1) / p : Nat) : Int) - 2
      · rw [if_pos e2]
        generalize (wkN B t + p - 1) / p = g at l2 ⊢
        omega
      · rw [if_neg e2]; decide
    · rw [if_neg e]
      generalize (wkN B t + p - 1) / p = g at l2 ⊢
      omega
theorem wg2 {g : Nat} (h : g ≤ 50) : wI ((g : Int) - 0) = (g : Int) ∧ wI ((g : Int) - 2) = (g : Int) - 2 := by
  refine ⟨?_, wI_eq (by unfold nmI; omega)⟩
  rw [Int.sub_zero, wI_n (by omega)]
theorem ng1 {g : Nat} (h : 1 ≤ g) : ¬ (g : Int) < 1 := by omega
theorem tickM {B M : gM} {w t s z : Nat} (hT : Td B M) (h53 : M 53 = B 53) (h59 : M 59 = B 59) (ht : t < 14) (hs : s < 4) (hw : w < 4) (hz : z ≤ 4) (h41 : B 41 0 t = (z : Int)) (hp : 0 < B 53 0 w ∧ B 53 0 w ≤ 9) : f_X12_ticksOf ((4 * t + s : Nat) : Int) (w : Int) M = some (tkN B w t) := by
  obtain ⟨q1, q2⟩ := td4 ht hs
  obtain ⟨-, -, k1, k2, p, e53, p1, p2⟩ := tkN_in hz h41 hp
  obtain ⟨l0, l1, l2⟩ := tick_n k1 k2 p1 p2
  obtain ⟨we1, we2⟩ := wkN_e hz
  have g14 : (0 : Int) ≤ (t : Int) ∧ (t : Int) < 14 := ⟨Int.natCast_nonneg t, Int.ofNat_lt.mpr ht⟩
  have g15 : (0 : Int) ≤ (t : Int) ∧ (t : Int) < 15 := ⟨Int.natCast_nonneg t, Int.ofNat_lt.mpr (Nat.lt_succ_of_lt ht)⟩
  have g4 : (0 : Int) ≤ (w : Int) ∧ (w : Int) < 4 := ⟨Int.natCast_nonneg w, Int.ofNat_lt.mpr hw⟩
  have pn : ¬ (p : Int) = 0 := fun q => by omega
  have wke : (if B 35 0 t = 1 then wI (wI (6 + wI (2 * (z : Int))) + 4) else wI (wI (6 + wI (2 * (z : Int))) + 0)) = (wkN B t : Int) := by
    unfold wkN
    rw [h41, Int.toNat_natCast]
    by_cases e : B 35 0 t = 1
    · rw [if_pos e, if_pos e, we1]
    · rw [if_neg e, if_neg e, we2]
  have fin : (if B 59 0 w = B 36 0 t then (if wI ((((wkN B t + p - 1) / p : Nat) : Int) - 2) < 1 then some (1 : Int) else some (wI ((((wkN B t + p - 1) / p : Nat) : Int) - 2))) else (if wI ((((wkN B t + p - 1) / p : Nat) : Int) - 0) < 1 then some 1 else some (wI ((((wkN B t + p - 1) / p : Nat) : Int) - 0)))) = some (tkN B w t) := by
    unfold tkN
    rw [e53, Int.toNat_natCast]
    generalize (wkN B t + p - 1) / p = g at l1 l2 ⊢
    obtain ⟨w0, w2⟩ := wg2 l2
    rw [w0, w2]
    by_cases e : B 59 0 w = B 36 0 t
    · rw [if_pos e, if_pos e]
      by_cases e2 : (1 : Int) < (g : Int) - 2
      · rw [if_pos e2, if_neg (Int.not_lt.mpr (Int.le_of_lt e2))]
      · rw [if_neg e2]
        by_cases e3 : (g : Int) - 2 < 1
        · rw [if_pos e3]
        · rw [if_neg e3, Int.le_antisymm (Int.not_lt.mp e2) (Int.not_lt.mp e3)]
    · rw [if_neg e, if_neg e, if_neg (ng1 l1)]
  unfold f_X12_ticksOf
  dsimp only [oj]
  rw [q1, og_t g15, og_t g14, Int.toNat_natCast, Int.toNat_natCast, hT 35 (by decide), hT 36 (by decide), hT 41 (by decide), h53, h59, h41, e53]
  rw [og_t g4, og_t g4, og_t pn, og_t g4, og_t g14, og_t g4, og_t g4, og_t pn, og_t g4, og_t g14]
  rw [← fin]
  by_cases e : B 35 0 t = 1
  · rw [if_pos e] at wke ⊢
    rw [wke, l0]
  · rw [if_neg e] at wke ⊢
    rw [wke, l0]
