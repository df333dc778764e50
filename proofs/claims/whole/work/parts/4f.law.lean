/-! ### the law's loop -/
theorem z9 (x : Int) (h : 0 ≤ x) : (0 : Int) ≤ 0 ∧ (0 : Int) ≤ x := ⟨Int.le_refl _, h⟩
theorem Rel_ini : Rel 0 gMI gMI := by
  have no : ∀ t s, ¬ aOK gMI 0 t s := fun t s q => absurd q.1 (Nat.not_lt_zero _)
  refine ⟨0, ?_, ?_, ?_, ?_, ?_, ?_, ?_⟩
  · exact ⟨⟨0, by decide, rfl, rfl⟩, rfl, rfl, rfl, rfl, rfl, fun _ => z9 999 (by decide), fun _ => z9 9 (by decide), fun _ => z9 9 (by decide), fun _ => z9 15 (by decide), fun _ => z9 999 (by decide)⟩
  · refine ⟨by decide, rfl, rfl, ⟨0, by decide, rfl, rfl, fun k q => absurd q (Nat.not_lt_zero _)⟩, fun t ht => ?_, fun t => ⟨rfl, rfl, rfl, rfl, rfl, rfl⟩, fun t q => absurd q (Nat.not_lt_zero _)⟩
    show (if t = 14 then (-1 : Int) else ((t % 16 : Nat) : Int)) = (t : Int)
    rw [if_neg (by omega), Nat.mod_eq_of_lt (by omega)]
  · exact ⟨0, 0, by decide, by decide, Or.inl rfl, rfl, rfl, rfl, fun e q => absurd q (Nat.not_lt_zero _)⟩
  · exact ⟨rfl, rfl, Or.inr rfl, Or.inl rfl, rfl, rfl⟩
  · refine ⟨fun w => ⟨rfl, rfl, rfl, rfl, rfl, rfl, rfl⟩, fun w hw => ⟨?_, ⟨?_, ?_⟩, (⟨by decide, by decide⟩ : (-1 : Int) ≤ -1 ∧ (-1 : Int) ≤ 3), (⟨by decide, by decide⟩ : nmI 0)⟩, fun w _ => Or.inl rfl, fun w v _ _ _ _ _ => Or.inl rfl⟩
    · show ((w % 4 : Nat) : Int) = (w : Int)
      rw [Nat.mod_eq_of_lt hw]
    · show (0 : Int) ≤ if w = 0 then 1 else 0
      by_cases e : w = 0
      · rw [if_pos e]; decide
      · rw [if_neg e]; decide
    · show (if w = 0 then (1 : Int) else 0) ≤ 9
      by_cases e : w = 0
      · rw [if_pos e]; decide
      · rw [if_neg e]; decide
  · refine ⟨rfl, rfl, Or.inl rfl, ⟨0, by decide, rfl⟩, ⟨0, Nat.le_refl _, rfl, ⟨0, by decide, rfl⟩, fun t _ => ⟨Int.le_refl _, fun q => absurd q (by decide)⟩⟩, ⟨0, Nat.le_refl _, rfl, rfl, fun a => ⟨Int.le_refl _, Int.le_refl _⟩⟩, fun a => ⟨rfl, rfl, rfl, rfl, z9 100002 (by decide), z9 3 (by decide), (⟨by decide, by decide⟩ : nmI 0), Or.inl rfl⟩, fun t s ht hs => ⟨?_, ?_, fun q => absurd q.1 (no t s), fun _ => rfl⟩, fun t _ => ⟨rfl, (⟨by decide, by decide⟩ : (1 : Int) ≤ 5 ∧ (5 : Int) ≤ 50), rfl, (⟨by decide, by decide⟩ : nmI 0)⟩, fun t s _ q => absurd q (no t s), fun t s _ _ _ => rfl, fun t s _ q => absurd q (no t s)⟩
    · show (if 56 ≤ 4 * t + s then (-1 : Int) else ((((4 * t + s) / 4) % 16 : Nat) : Int)) = (t : Int)
      have n56 : ¬ 56 ≤ 4 * t + s := by omega
      have e : ((4 * t + s) / 4) % 16 = t := by omega
      rw [if_neg n56, e]
    · show (((4 * t + s) % 4 : Nat) : Int) = (s : Int)
      have e : (4 * t + s) % 4 = s := by omega
      rw [e]
  · exact ⟨fun _ t s _ q => absurd q (no t s), fun q => absurd q (by decide)⟩
theorem lawS {R R2 : gM → gM → Prop} {fL fM : gM → Option (Int × gM)} {k : gM → Option Unit} {M : gM} (h : Sim R R2 fL fM) (h1 : Two R) (h2 : Two R2) (hI : R M M) (hk : ∀ M', R2 M' M' → k M' = some ()) : (ob (fL M) fun r => ob (fM r.2) fun r' => if (f_X12_thrown r'.2) = r.1 then (if r.1 = 0 then (if gCmp (r'.2 75 0 0) r'.1 = 0 then (k r'.2) else none) else (k r'.2)) else none) = some () := by
  obtain ⟨r, M1, r', M2, q1, q2, q3, q4, q5⟩ := Sim_law h h1 h2 hI
  rw [q1, ob_s]
  dsimp only
  rw [q2, ob_s]
  dsimp only
  rw [show f_X12_thrown M2 = r from q3, if_pos rfl]
  by_cases e : r = 0
  · have g : gCmp (M2 75 0 0) r' = 0 := by rw [q4 e, gCmp_eq]
    rw [if_pos e]
    exact (if_pos g).trans (hk M2 q5)
  · rw [if_neg e]
    exact hk M2 q5
theorem lawV {R R2 : gM → gM → Prop} {fL : gM → Option (Int × gM)} {fM : gM → Option gM} {k : gM → Option Unit} {M : gM} (h : SimV R R2 fL fM) (h1 : Two R) (h2 : Two R2) (hI : R M M) (hk : ∀ M', R2 M' M' → k M' = some ()) : (ob (fL M) fun r => ob (fM r.2) fun r' => if (f_X12_thrown r') = r.1 then (k r') else none) = some () := by
  obtain ⟨r, M1, M2, q1, q2, q3, q5⟩ := SimV_law h h1 h2 hI
  rw [q1, ob_s]
  dsimp only
  rw [q2, ob_s, show f_X12_thrown M2 = r from q3, if_pos rfl]
  exact hk M2 q5
theorem lose01 {v r : Int} {M M' : gM} (h : f_X12_lose v M = some (r, M')) : r = 0 ∨ r = 1 := by
  unfold f_X12_lose og at h
  dsimp only [oj] at h
  repeat' (split at h)
  all_goals first
    | exact Or.inl (congrArg Prod.fst (Option.some.inj h)).symm
    | exact Or.inr (congrArg Prod.fst (Option.some.inj h)).symm
    | cases h
theorem lawB {R R2 : gM → gM → Prop} {fL fM : gM → Option (Int × gM)} {k : gM → Option Unit} {M : gM} (h : Sim R R2 fL fM) (h1 : Two R) (h2 : Two R2) (hI : R M M) (hb : ∀ r M1 M2, fM M1 = some (r, M2) → r = 0 ∨ r = 1) (hk : ∀ M', R2 M' M' → k M' = some ()) : (ob (fL M) fun r => ob (fM r.2) fun r' => if (f_X12_thrown r'.2) = r.1 then (if r.1 = 0 then (if r'.1 = 0 then (if gCmp (r'.2 75 0 0) 0 = 0 then (k r'.2) else none) else (if gCmp (r'.2 75 0 0) 1 = 0 then (k r'.2) else none)) else (k r'.2)) else none) = some () := by
  obtain ⟨r, M1, r', M2, q1, q2, q3, q4, q5⟩ := Sim_law h h1 h2 hI
  have qb := hb r' M1 M2 q2
  rw [q1, ob_s]
  dsimp only
  rw [q2, ob_s]
  dsimp only
  rw [show f_X12_thrown M2 = r from q3, if_pos rfl]
  by_cases e : r = 0
  · rw [if_pos e]
    rcases qb with y | y
    · have g : gCmp (M2 75 0 0) 0 = 0 := by rw [q4 e, y, gCmp_eq]
      exact (if_pos y).trans ((if_pos g).trans (hk M2 q5))
    · have g : gCmp (M2 75 0 0) 1 = 0 := by rw [q4 e, y, gCmp_eq]
      exact (if_neg (fun z => ne10 (y.symm.trans z))).trans ((if_pos g).trans (hk M2 q5))
  · rw [if_neg e]
    exact hk M2 q5
theorem nmI_gXs (xs : Nat → Int32) (k : Nat) : nmI (gXs xs k) := nmI_of _
theorem law_ix {L c j : Nat} (hL : L ≤ 3584) (h : 7 * c + 7 ≤ L) (hj : j < 7) : (0 : Int) ≤ wI (((7 * c : Nat) : Int) + (j : Int)) ∧ wI (((7 * c : Nat) : Int) + (j : Int)) < (L : Int) := by
  have e : ((7 * c : Nat) : Int) + (j : Int) = ((7 * c + j : Nat) : Int) := by omega
  rw [e, wI_n (by omega)]
  omega
set_option maxHeartbeats 4000000 in
theorem law_step {xs : Nat → Int32} {L n c : Nat} {M : gM} (hL : L ≤ 3584) (h7 : 7 * c + 7 ≤ L) (hc : c < 512) (hR : Rel c M M) (hk : ∀ M', Rel (c + 1) M' M' → f_L_law_L23 xs L n (wI (((7 * c : Nat) : Int) + 7)) M' = some ()) : f_L_law_L23 xs L (n + 1) ((7 * c : Nat) : Int) M = some () := by
  have hend : ¬ wI ((L : Int) - 7) < ((7 * c : Nat) : Int) := by
    rw [wI_eq (by unfold nmI; omega)]
    omega
  have g0 : (0 : Int) ≤ ((7 * c : Nat) : Int) ∧ ((7 * c : Nat) : Int) < (L : Int) := by omega
  have g1' : (0 : Int) ≤ wI (((7 * c : Nat) : Int) + 1) ∧ wI (((7 * c : Nat) : Int) + 1) < (L : Int) := law_ix (j := 1) hL h7 (by decide)
  have g2 : (0 : Int) ≤ wI (((7 * c : Nat) : Int) + 2) ∧ wI (((7 * c : Nat) : Int) + 2) < (L : Int) := law_ix (j := 2) hL h7 (by decide)
  have g3 : (0 : Int) ≤ wI (((7 * c : Nat) : Int) + 3) ∧ wI (((7 * c : Nat) : Int) + 3) < (L : Int) := law_ix (j := 3) hL h7 (by decide)
  have g4 : (0 : Int) ≤ wI (((7 * c : Nat) : Int) + 4) ∧ wI (((7 * c : Nat) : Int) + 4) < (L : Int) := law_ix (j := 4) hL h7 (by decide)
  have g5 : (0 : Int) ≤ wI (((7 * c : Nat) : Int) + 5) ∧ wI (((7 * c : Nat) : Int) + 5) < (L : Int) := law_ix (j := 5) hL h7 (by decide)
  have g6 : (0 : Int) ≤ wI (((7 * c : Nat) : Int) + 6) ∧ wI (((7 * c : Nat) : Int) + 6) < (L : Int) := law_ix (j := 6) hL h7 (by decide)
  have c6 : c < 600 := by omega
  rw [f_L_law_L23, if_neg hend, og_t g0]
  dsimp only [oj]
  by_cases e0 : gAnd (gXs xs ((7 * c : Nat) : Int).toNat) 31 = 0
  · rw [if_pos e0]
    simp only [og_t g1', og_t g2]
    exact lawS (S_write _ _) Rel_two Rel_two hR hk
  rw [if_neg e0]
  by_cases e1 : gAnd (gXs xs ((7 * c : Nat) : Int).toNat) 31 = 1
  · rw [if_pos e1]
    simp only [og_t g1', og_t g2]
    exact lawS (S_set _ _) Rel_two Rel_two hR hk
  rw [if_neg e1]
  by_cases e2 : gAnd (gXs xs ((7 * c : Nat) : Int).toNat) 31 = 2
  · rw [if_pos e2]
    simp only [og_t g1', og_t g2]
    exact lawS (S_setTool _ _) Rel_two Rel_two hR hk
  rw [if_neg e2]
  by_cases e3 : gAnd (gXs xs ((7 * c : Nat) : Int).toNat) 31 = 3
  · rw [if_pos e3]
    simp only [og_t g1', og_t g2, og_t g3, og_t g4]
    exact lawS (S_input _ _ (nmI_gXs xs _) (nmI_gXs xs _)) Rel_two Rel_two hR hk
  rw [if_neg e3]
  by_cases e4 : gAnd (gXs xs ((7 * c : Nat) : Int).toNat) 31 = 4
  · rw [if_pos e4]
    simp only [og_t g1', og_t g2, og_t g3, og_t g4, og_t g5, og_t g6]
    exact lawS (S_target _ _ _ _ _ _) Rel_two Rel_two hR hk
  rw [if_neg e4]
  by_cases e5 : gAnd (gXs xs ((7 * c : Nat) : Int).toNat) 31 = 5
  · rw [if_pos e5]
    simp only [og_t g1', og_t g2]
    exact lawS (S_copy _ _) Rel_two Rel_two hR hk
  rw [if_neg e5]
  by_cases e6 : gAnd (gXs xs ((7 * c : Nat) : Int).toNat) 31 = 6
  · rw [if_pos e6]
    simp only [og_t g1', og_t g2]
    exact lawS (S_setPower _ _) Rel_two Rel_two hR hk
  rw [if_neg e6]
  by_cases e7 : gAnd (gXs xs ((7 * c : Nat) : Int).toNat) 31 = 7
  · rw [if_pos e7]
    simp only [og_t g1', og_t g2]
    by_cases a : gXs xs (wI (((7 * c : Nat) : Int) + 1)).toNat = 0
    · by_cases b : gXs xs (wI (((7 * c : Nat) : Int) + 2)).toNat = 0
      · simp only [if_pos a, if_pos b]
        exact hk _ (S_setWays 0 0 0 0 ⟨rfl, Or.inl rfl⟩ ⟨rfl, Or.inl rfl⟩ hR)
      · simp only [if_pos a, if_neg b]
        exact hk _ (S_setWays 0 1 0 1 ⟨rfl, Or.inl rfl⟩ ⟨rfl, Or.inr rfl⟩ hR)
    · by_cases b : gXs xs (wI (((7 * c : Nat) : Int) + 2)).toNat = 0
      · simp only [if_neg a, if_pos b]
        exact hk _ (S_setWays 1 0 1 0 ⟨rfl, Or.inr rfl⟩ ⟨rfl, Or.inl rfl⟩ hR)
      · simp only [if_neg a, if_neg b]
        exact hk _ (S_setWays 1 1 1 1 ⟨rfl, Or.inr rfl⟩ ⟨rfl, Or.inr rfl⟩ hR)
  rw [if_neg e7]
  by_cases e8 : gAnd (gXs xs ((7 * c : Nat) : Int).toNat) 31 = 8
  · rw [if_pos e8]
    obtain ⟨q1, q2⟩ := Q_entries hR
    rw [if_pos q1]
    exact hk _ q2
  rw [if_neg e8]
  by_cases e9 : gAnd (gXs xs ((7 * c : Nat) : Int).toNat) 31 = 9
  · rw [if_pos e9]
    simp only [og_t g1', og_t g2]
    exact lawS (S_entry _ _) Rel_two Rel_two hR hk
  rw [if_neg e9]
  by_cases e10 : gAnd (gXs xs ((7 * c : Nat) : Int).toNat) 31 = 10
  · rw [if_pos e10]
    simp only [og_t g1', og_t g2]
    exact lawV (S_lie _ _) Rel_two Rel_two hR hk
  rw [if_neg e10]
  by_cases e11 : gAnd (gXs xs ((7 * c : Nat) : Int).toNat) 31 = 11
  · rw [if_pos e11]
    simp only [og_t g1']
    exact lawB (S_lose _) Rel_two Rel_two hR (fun r M1 M2 q => lose01 q) hk
  rw [if_neg e11]
  by_cases e12 : gAnd (gXs xs ((7 * c : Nat) : Int).toNat) 31 = 12
  · rw [if_pos e12]
    simp only [og_t g1']
    exact lawS (S_build (Nat.le_of_lt c6) _) Rel_two Rel_two hR hk
  rw [if_neg e12]
  by_cases e13 : gAnd (gXs xs ((7 * c : Nat) : Int).toNat) 31 = 13
  · rw [if_pos e13]
    simp only [og_t g1']
    exact lawS (S_pass c6 _) Rel_two Rel_two hR hk
  rw [if_neg e13]
  by_cases e14 : gAnd (gXs xs ((7 * c : Nat) : Int).toNat) 31 = 14
  · rw [if_pos e14]
    obtain ⟨q1, q2⟩ := Q_goesOn hR
    rw [if_pos q1]
    exact hk _ q2
  rw [if_neg e14]
  by_cases e15 : gAnd (gXs xs ((7 * c : Nat) : Int).toNat) 31 = 15
  · rw [if_pos e15]
    simp only [og_t g1', og_t g2]
    exact lawS (S_state _ _) Rel_two Rel_two hR hk
  rw [if_neg e15]
  by_cases e16 : gAnd (gXs xs ((7 * c : Nat) : Int).toNat) 31 = 16
  · rw [if_pos e16]
    simp only [og_t g1', og_t g2]
    exact lawS (S_result _ _) Rel_two Rel_two hR hk
  rw [if_neg e16]
  by_cases e17 : gAnd (gXs xs ((7 * c : Nat) : Int).toNat) 31 = 17
  · rw [if_pos e17]
    simp only [og_t g1', og_t g2]
    exact lawS (S_about _ _) Rel_two Rel_two hR hk
  rw [if_neg e17]
  by_cases e18 : gAnd (gXs xs ((7 * c : Nat) : Int).toNat) 31 = 18
  · rw [if_pos e18]
    simp only [og_t g1']
    exact lawS (S_proof _) Rel_two Rel_two hR hk
  rw [if_neg e18]
  by_cases e19 : gAnd (gXs xs ((7 * c : Nat) : Int).toNat) 31 = 19
  · rw [if_pos e19]
    simp only [og_t g1']
    exact lawS (S_count _) Rel_two Rel_two hR hk
  rw [if_neg e19]
  by_cases e20 : gAnd (gXs xs ((7 * c : Nat) : Int).toNat) 31 = 20
  · rw [if_pos e20]
    simp only [og_t g1']
    exact lawS (S_needed _) Rel_two Rel_two hR hk
  rw [if_neg e20]
  by_cases e21 : gAnd (gXs xs ((7 * c : Nat) : Int).toNat) 31 = 21
  · rw [if_pos e21]
    simp only [og_t g1']
    exact lawS (S_needing (nmI_gXs xs _)) Rel_two Rel_two hR hk
  rw [if_neg e21]
  by_cases e22 : gAnd (gXs xs ((7 * c : Nat) : Int).toNat) 31 = 22
  · rw [if_pos e22]
    simp only [og_t g1', og_t g2]
    exact lawS (S_steps _ _) Rel_two Rel_two hR hk
  rw [if_neg e22]
  by_cases e23 : gAnd (gXs xs ((7 * c : Nat) : Int).toNat) 31 = 23
  · rw [if_pos e23]
    obtain ⟨q1, q2⟩ := Q_changes hR
    rw [if_pos q1]
    exact hk _ q2
  rw [if_neg e23]
  by_cases e24 : gAnd (gXs xs ((7 * c : Nat) : Int).toNat) 31 = 24
  · rw [if_pos e24]
    simp only [og_t g1']
    exact lawS (S_bisect _) Rel_two Rel_two hR hk
  rw [if_neg e24]
  by_cases e25 : gAnd (gXs xs ((7 * c : Nat) : Int).toNat) 31 = 25
  · rw [if_pos e25]
    obtain ⟨q1, q2⟩ := Q_looks hR
    rw [if_pos q1]
    exact hk _ q2
  rw [if_neg e25]
  exact hk _ (Rel_up hR)
theorem law_go {xs : Nat → Int32} {L : Nat} (hL : L ≤ 3584) : ∀ (n c : Nat) (M : gM), c ≤ 512 → 513 ≤ n + c → Rel c M M → f_L_law_L23 xs L n ((7 * c : Nat) : Int) M = some () := by
  intro n
  induction n with
  | zero => intro c M h1 h2 _; omega
  | succ n ih =>
    intro c M h1 h2 hR
    by_cases h7 : 7 * c + 7 ≤ L
    · have w7 : wI (((7 * c : Nat) : Int) + 7) = ((7 * (c + 1) : Nat) : Int) := by
        rw [show ((7 * c : Nat) : Int) + 7 = ((7 * (c + 1) : Nat) : Int) by omega, wI_n (by omega)]
      refine law_step hL h7 (by omega) hR (fun M' hM' => ?_)
      rw [w7]
      exact ih (c + 1) M' (by omega) (by omega) hM'
    · have hend : wI ((L : Int) - 7) < ((7 * c : Nat) : Int) := by
        rw [wI_eq (by unfold nmI; omega)]
        omega
      rw [f_L_law_L23, if_pos hend]
theorem law_pure (xs : Nat → Int32) (L : Nat) (hL : L ≤ 3584) : f_L_law_L23 xs L 513 0 gMI = some () := law_go hL 513 0 gMI (Nat.zero_le _) (Nat.le_refl _) Rel_ini
