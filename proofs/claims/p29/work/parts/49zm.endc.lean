/-! ### the end, in the class -/
theorem endC {A A' A1 B2 : gM} {n c w t s : Nat} {K : Int} (hJ : EJ A1 B2 n c t s) (gA : gAct (A 11 w 3) = some (4 * t + s)) (e90 : A 9 (4 * t + s) 0 = (t : Int)) (a25 : A 2 0 5 = (n : Int)) (dis : f_X2_dismissFrom (4 * t + s) A = some A') (hA1 : A1 = f_X10_rest w (A' 7 t 4) A') (hK : K = keyS B2 (B2 30 0) (dgS B2) t s) : (same B2 t w K → f_X2_end w A = if brk B2 t K = 0 then f_X2_judge t (4 * t + s) w A1 else some (gU A1 9 (4 * t + s) 2 4)) ∧ (¬ same B2 t w K → f_X2_end w A = some (f_X0_open (4 * t + s) (taA A1 2))) := by
  obtain ⟨h1, h2, h3, h4, ⟨⟨i1, -⟩, -⟩, h6, g1', g2, -, hs, hao, hnd, h60, -⟩ := hJ
  have ht := hao.1
  have ht14 : t < 14 := Nat.lt_of_lt_of_le ht h2.1
  have hk := key_in h1 h2 h6 ht hs
  rw [← hK] at hk
  have hD : inD B2 n t := fun u hu y hy ho => g2 t s hs hao hnd (Or.inr h60) u hu y hy ho
  have kk : f_X9_keyOf 0 t (s : Int) A1 = some K := by rw [keyC h1 h2 ht, keyEq h1 h2 h6 g1' ht hnd hD, hK]
  have e91 : A1 9 (4 * t + s) 1 = (s : Int) := (h6.2.2.2.2.2.2.2.1 t s ht14 hs).2.1
  have e4 : A1 11 w 4 = B2 57 0 w := (i1 w).2.2.2.1
  have e5 : A1 11 w 5 = B2 58 0 w := (i1 w).2.2.2.2.1
  have cc : f_X9_contentFound 0 t K A1 = cnt B2 (B2 30 0) t K := by rw [cntC h2 hk, h1.2.1]
  have tt : f_X2_tally 2 A1 = taA A1 2 := taC (k := 2) (by decide)
  have E : f_X2_end w A = (if (f_X10_beganWith w K (cnt B2 (B2 30 0) t K) A1) = 0 then (some ((f_X0_open (4 * t + s) ((f_X2_tally 2 A1))))) else (if brk B2 t K = 0 then (ob (f_X2_judge t (4 * t + s) w A1) fun r101 => some r101) else (some (gU A1 9 (4 * t + s) 2 4)))) := by
    unfold f_X2_end
    dsimp only [oj]
    rw [gA, om_some, dis, ob_s, e90, tAt a25 h2.1 ht, ← hA1, e91, kk, ob_s, cc, brkC h2]
  rw [ob_r] at E
  rw [E]
  unfold f_X10_beganWith
  rw [e4, e5, tt]
  refine ⟨fun q => ?_, fun q => ?_⟩
  · rw [if_pos q.1, if_pos q.2, if_neg ne10]
  · by_cases q1 : B2 57 0 w = K
    · rw [if_pos q1, if_neg (fun z => q ⟨q1, z⟩), if_pos rfl]
    · rw [if_neg q1, if_pos rfl]
/-- whether it fails -/
def flz (B : gM) (t a : Nat) (r : Int) : Int := if B 35 0 t = 2 then (if gRem r 4 = 0 then 1 else if gRem (wI (wI (3 * B 65 0 a) + r)) 5 < B 40 0 t then 1 else 0) else 0
theorem rem5 {x : Int} (h : 0 ≤ x) (h2 : x < 1000000) : 0 ≤ gRem x 5 := by
  obtain ⟨m, rfl⟩ : ∃ m : Nat, x = (m : Int) := ⟨x.toNat, (Int.toNat_of_nonneg h).symm⟩
  rw [show (5 : Int) = ((5 : Nat) : Int) from rfl, gRem_n (by omega) (by decide) (by decide)]
  exact Int.natCast_nonneg _
theorem arg5 {x r c : Int} (hx : 0 ≤ x ∧ x ≤ 200 * c) (hc : c ≤ 600) (hr : 0 ≤ r ∧ r ≤ 100002) : wI (wI (3 * x) + r) = 3 * x + r ∧ 0 ≤ 3 * x + r ∧ 3 * x + r < 1000000 := by
  have h1 : wI (3 * x) = 3 * x := wI_eq (by unfold nmI; omega)
  rw [h1]
  exact ⟨wI_eq (by unfold nmI; omega), by omega, by omega⟩
theorem flzC {A B : gM} {n c t a : Nat} {r : Int} (h2 : RT A B n) (h6 : RB A B n c) (ht : t < n) (hc : c ≤ 600) (hr : 0 ≤ r ∧ r ≤ 100002) : f_X8_failsAt t (A 9 a 6) r A = flz B t a r := by
  have e3 : A 7 t 3 = B 35 0 t := (h2.2.2.2.2.2.1 t).1
  have e8 : A 7 t 8 = B 40 0 t := (h2.2.2.2.2.2.1 t).2.2.2.2.2
  have e6 : A 9 a 6 = B 65 0 a := (h6.2.2.2.2.2.2.1 a).2.2.1
  have hd : B 35 0 t ≠ 2 → B 40 0 t = 0 := (h2.2.2.2.2.2.2 t ht).2.2.2.2.2.2.2
  obtain ⟨z1, z2, z3⟩ := arg5 (at0 h6 a) (Int.ofNat_le.mpr hc) hr
  have g : f_X8_isGoodResult t r A = if B 35 0 t = 2 then (if gRem r 4 = 0 then 0 else 1) else 1 := by
    unfold f_X8_isGoodResult
    dsimp only [oj]
    rw [e3]
  unfold f_X8_failsAt flz
  dsimp only [oj]
  rw [g, e8, e6]
  by_cases q : B 35 0 t = 2
  · rw [if_pos q, if_pos q]
    by_cases q1 : gRem r 4 = 0
    · rw [if_pos q1, if_pos q1, if_pos rfl]
    · rw [if_neg q1, if_neg q1, if_neg ne10]
  · rw [if_neg q, if_neg q, if_neg ne10, hd q, z1, if_neg (Int.not_lt.mpr (rem5 z2 z3))]
