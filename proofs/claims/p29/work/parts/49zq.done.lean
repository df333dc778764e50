/-! ### DONE on both sides -/
theorem S5_60 {M : gM} {t a : Nat} {R : Int} {w : Nat} {x : Int} : ∀ y, S5 M t a R w x 60 0 y = if y = a then 3 else M 60 0 y := fun y => by
  unfold S5
  rw [gU_r (by decide), gU_r (by decide), gU_r (by decide), gU_r (by decide), gU_same]
  rfl
theorem S5_61 {M : gM} {t a : Nat} {R : Int} {w : Nat} {x : Int} : ∀ y, S5 M t a R w x 61 0 y = if y = a then R else M 61 0 y := fun y => by
  unfold S5
  rw [gU_r (by decide), gU_r (by decide), gU_r (by decide), gU_same, gU_r (by decide)]
  rfl
theorem S5_62 {M : gM} {t a : Nat} {R : Int} {w : Nat} {x : Int} : ∀ y, S5 M t a R w x 62 0 y = if y = a then (w : Int) else M 62 0 y := fun y => by
  unfold S5
  rw [gU_r (by decide), gU_r (by decide), gU_same, gU_r (by decide), gU_r (by decide)]
  rfl
theorem S5_64a {M : gM} {t a : Nat} {R : Int} {w : Nat} {x : Int} : ∀ y, S5 M t a R w x 64 0 y = if y = a then x else M 64 0 y := fun y => by
  unfold S5
  rw [gU_same, gU_r (by decide), gU_r (by decide), gU_r (by decide), gU_r (by decide)]
  rfl
theorem S5_b {M : gM} {t a : Nat} {R : Int} {w : Nat} {x : Int} : But [60, 61, 62, 64] (S5 M t a R w x) (gU M 67 0 t (M 56 0 w)) := fun q hq => by
  by_cases e : q = 67
  · rw [e]
    unfold S5
    funext i j
    rw [gU_r (by decide)]
    unfold gU
    simp
  · rw [S5_o q (by simp only [List.mem_cons, List.not_mem_nil, or_false] at hq ⊢; omega), gU_r e]
theorem doneCM {A3 B3 B : gM} {n c w t s : Nat} {K R r67 : Int} (hJ : EJ A3 B3 n c t s) (hw : w < 4) (e54 : B 54 0 w = ((4 * t + s : Nat) : Int)) (hg : B3 29 0 36 = 1) (hR : 0 ≤ R ∧ R ≤ 100002) (hx : 1 ≤ B3 56 0 w ∧ B3 56 0 w ≤ 50) (h57 : B3 57 0 w = K) (hK : 0 ≤ K ∧ K ≤ 100002) (e67 : r67 = fnd B3 t K) : ∃ A' B' : gM, DC t (4 * t + s) w R A3 = some A' ∧ DM (w : Int) B r67 R B3 = some B' ∧ SJ 0 A' B' n c ∧ But [29, 46, 47, 48, 49, 50, 51, 52, 60, 61, 62, 64, 66, 67, 68] B' B3 ∧ (∀ j, j ≠ 21 → j ≠ 43 → B' 29 0 j = B3 29 0 j) ∧ But [3, 7, 9, 10, 23, 24] A' A3 := by
  obtain ⟨h1, h2, h3, h4, ⟨⟨i1, i1b⟩, -⟩, h6, g1', g2, -, hs, hao, hnd, h60, -⟩ := id hJ
  have ht := hao.1
  have ht14 : t < 14 := Nat.lt_of_lt_of_le ht h2.1
  obtain ⟨m, m1, m4, m7, m38⟩ := shT h2 ht
  have e7 : A3 11 w 7 = B3 56 0 w := (i1 w).2.2.2.2.2.2
  have e4 : A3 11 w 4 = B3 57 0 w := (i1 w).2.2.2.1
  have e5 : A3 11 w 5 = B3 58 0 w := (i1 w).2.2.2.2.1
  have e0 : A3 11 w 0 = (w : Int) := (i1b w hw).1
  have f7 : A3 9 (4 * t + s) 7 = B3 63 0 (4 * t + s) := (h6.2.2.2.2.2.2.1 (4 * t + s)).2.2.2.1
  have hJ4 := EJ_67 hJ hx
  have fA4 : But [7] (gU A3 7 t 9 (B3 56 0 w)) A3 := But_u But_r rfl
  have fin : f_X2_finish t (4 * t + s) R (w : Int) (gU A3 7 t 9 (B3 56 0 w)) = some (dnA (gU A3 7 t 9 (B3 56 0 w)) t s m R (w : Int)) := finC (m := m) ht14 m4 (by rw [gU_k (by decide), m7]) (by rw [gU_k (by decide)]; exact h2.2.2.2.2.1 t ht14)
  obtain ⟨k2, k3, k4, k5, k0⟩ := fiA_9k (A := gU A3 7 t 9 (B3 56 0 w)) (a := 4 * t + s) (r := R) (w := (w : Int))
  have a7 : gU A3 7 t 9 (B3 56 0 w) 9 (4 * t + s) 7 = B3 63 0 (4 * t + s) := by rw [But_q fA4 rfl, f7]
  rw [a7] at k5
  have fD : But [7, 9, 23] (dnA (gU A3 7 t 9 (B3 56 0 w)) t s m R (w : Int)) A3 := But_t (But_w fA4 rfl) (But_w dnA_o rfl)
  have hw3 : (0 : Int) ≤ (w : Int) ∧ (w : Int) ≤ 3 := by omega
  have sj : ∀ x : Int, x = (if 0 < B3 63 0 (4 * t + s) then 1 else 0) → SJ 0 (dnA (gU A3 7 t 9 (B3 56 0 w)) t s m R (w : Int)) (S5 B3 t (4 * t + s) R w x) n c := fun x ex => EJ_dn hJ4 (by rw [gU_r (by decide)]; exact m38) hR hw3 S5_b (fun y => by rw [S5_60, gU_r (by decide)]) (fun y => by rw [S5_61, gU_r (by decide)]) (fun y => by rw [S5_62, gU_r (by decide)]) (fun y => by rw [S5_64a, gU_r (by decide), gU_r (by decide), ex])
  have dc : DC t (4 * t + s) w R A3 = K99 t (4 * t + s) w R (dnA (gU A3 7 t 9 (B3 56 0 w)) t s m R (w : Int)) := by
    unfold DC
    rw [e7, gU_r (by decide), e0, fin, ob_s]
  have dm := DM_eq (r67 := r67) (R := R) (B3 := B3) ht14 hs hw e54
  have d2 : dnA (gU A3 7 t 9 (B3 56 0 w)) t s m R (w : Int) 9 (4 * t + s) 2 = 3 := by rw [dnA_9]; exact k2
  have d5 : dnA (gU A3 7 t 9 (B3 56 0 w)) t s m R (w : Int) 9 (4 * t + s) 5 = (if 0 < B3 63 0 (4 * t + s) then 1 else 0) := by rw [dnA_9]; exact k5
  have d11 : dnA (gU A3 7 t 9 (B3 56 0 w)) t s m R (w : Int) 11 = A3 11 := But_q fD rfl
  rw [dc, dm]
  unfold K99
  rw [if_pos d2, if_pos d2, ob_r, d5, d11, e4, h57, e5, e0]
  by_cases q : 0 < B3 63 0 (4 * t + s)
  · rw [if_pos q, if_neg ne10, if_pos q]
    have sj1 := SJ_ta (k := 4) (sj 1 (if_pos q).symm)
    have tN : TdN B3 (taB (S5 B3 t (4 * t + s) R w 1) 4) := TdN_b (But_w (But_t (But_w S5_o rfl) (But_w taB_o rfl) : But [60, 61, 62, 64, 67, 68] (taB (S5 B3 t (4 * t + s) R w 1) 4) B3) rfl) (by rw [But_q taB_o rfl, But_q S5_o rfl])
    have g36 : taB (S5 B3 t (4 * t + s) R w 1) 4 29 0 36 = 1 := by rw [But_q taB_o rfl, But_q S5_o rfl]; exact hg
    obtain ⟨r1, r2⟩ := SJ_fl sj1 hs ((aOK_t tN.1 n t s).mpr hao) ((ndd_t tN t).mpr hnd) g36
    rw [show f_X2_tally 4 (dnA (gU A3 7 t 9 (B3 56 0 w)) t s m R (w : Int)) = taA (dnA (gU A3 7 t 9 (B3 56 0 w)) t s m R (w : Int)) 4 from taC (k := 4) (by decide)]
    refine ⟨_, _, rfl, rfl, r1, But_t (But_t (But_w S5_o rfl) (But_w taB_o rfl)) (But_w flB_o rfl), fun j j1 j2 => ?_, But_t (But_t (But_w fD rfl) (But_w taA_o rfl)) (But_w r2 rfl)⟩
    unfold flB
    rw [gU_k j2, gU_r (by decide), But_q taB_o rfl, But_q S5_o rfl]
  · rw [if_neg q, if_pos rfl, if_neg q]
    have sj0 := sj 0 (if_neg q).symm
    obtain ⟨A', B', x1, x2, x3, x4, x5, x6, x7⟩ := SJ_kp (file := r67) (con := B3 58 0 w) sj0 hK hR hw3
    have ff : f_X8_fileFound t K (dnA (gU A3 7 t 9 (B3 56 0 w)) t s m R (w : Int)) = r67 := by
      rw [fndC sj0.2.1, e67]
      unfold fnd
      rw [But_q S5_o rfl]
    rw [ff]
    exact ⟨A', B', x1, x2, x3, But_t (But_w S5_o rfl) (But_w x5 rfl), fun j j1 j2 => by rw [x7 j j1, But_q S5_o rfl], But_t (But_w fD rfl) (But_w x4 rfl)⟩
