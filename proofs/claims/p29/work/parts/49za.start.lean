def bnA (A : gM) (w a : Nat) (key con T : Int) : gM := taA (gU (gU (gU (gU (gU A 11 w 3 (a : Int)) 11 w 4 key) 11 w 5 con) 11 w 7 T) 11 w 6 T) 0
def bnB (B : gM) (w a : Nat) (key con T : Int) : gM := taB (gU (gU (gU (gU (gU (gU B 54 0 w (a : Int)) 56 0 w T) 55 0 w T) 57 0 w key) 58 0 w con) 60 0 a 2) 0
theorem bnA_o {A : gM} {w a : Nat} {key con T : Int} : But [11, 24] (bnA A w a key con T) A := But_u (But_u (But_u (But_u (But_u (But_u But_r rfl) rfl) rfl) rfl) rfl) rfl
theorem bnB_o {B : gM} {w a : Nat} {key con T : Int} : But [54, 55, 56, 57, 58, 60, 68] (bnB B w a key con T) B := But_u (But_u (But_u (But_u (But_u (But_u (But_u But_r rfl) rfl) rfl) rfl) rfl) rfl) rfl
theorem tickC {A B : gM} {n w t z : Nat} (hT : RT A B n) (hz : z ≤ 4) (h41 : B 41 0 t = (z : Int)) (h8 : A 8 t 5 = (z : Int)) (hp : 0 < B 53 0 w ∧ B 53 0 w ≤ 9) (a1 : A 11 w 1 = B 53 0 w) (a2 : A 11 w 2 = B 59 0 w) : f_X10_ticksFor w t A = tkN B w t := by
  obtain ⟨-, -, k1, k2, p, e53, p1, p2⟩ := tkN_in hz h41 hp
  obtain ⟨l0, l1, l2⟩ := tick_n k1 k2 p1 p2
  obtain ⟨we1, we2⟩ := wkN_e hz
  obtain ⟨x1, x2, -⟩ := hT.2.2.2.2.2.1 t
  have wke : f_X8_work t A = (wkN B t : Int) := by
    unfold f_X8_work wkN
    rw [h41, Int.toNat_natCast, x1, h8]
    by_cases e : B 35 0 t = 1
    · rw [if_pos e, if_pos e, we1]
    · rw [if_neg e, if_neg e, we2]
  have pp : 0 < A 11 w 1 := by rw [a1]; exact hp.1
  unfold f_X10_ticksFor tkN
  rw [if_pos pp, a1, a2, x2, wke, e53, Int.toNat_natCast, l0]
  generalize (wkN B t + p - 1) / p = g at l1 l2 ⊢
  obtain ⟨-, w2⟩ := wg2 l2
  by_cases e : B 59 0 w = B 36 0 t
  · rw [if_pos e, if_pos e, w2]
    rfl
  · rw [if_neg e, if_neg e]
theorem startC {A B : gM} {n c w t s z : Nat} {A1 : gM} (hS : RS A B) (hT : RT A B n) (hRB : RB A B n c) (hg1 : G1 B n) (ht : t < n) (hd : ndd B t) (hD : inD B n t) (hz : z ≤ 4) (h41 : B 41 0 t = (z : Int)) (hs : s < 4) (hw : w < 4) (hp : 0 < B 53 0 w ∧ B 53 0 w ≤ 9) (a1 : A 11 w 1 = B 53 0 w) (a2 : A 11 w 2 = B 59 0 w) (h1 : But [9] A1 A) (h9 : A1 9 (4 * t + s) 0 = (t : Int) ∧ A1 9 (4 * t + s) 1 = (s : Int)) : f_X2_start w (4 * t + s) A1 = some (bnA A1 w (4 * t + s) (keyS B (B 30 0) (dgS B) t s) (cnt B (B 30 0) t (keyS B (B 30 0) (dgS B) t s)) (tkN B w t)) := by
  have h14 := hT.1
  have hS1 : RS A1 B := RS_9 hS (But_w h1 rfl) But_r
  have hT1 : RT A1 B n := RT_9 hT (But_w h1 rfl) But_r
  have hk := key_in hS hT hRB ht hs
  have ke := keyEq (s := s) hS hT hRB hg1 ht hd hD
  have tA1 : f_X5_targetAt (t : Int) A1 = t := tAt hT1.2.1 h14 ht
  have k1 : f_X9_keyOf 0 t (s : Int) A1 = some (keyS B (B 30 0) (dgS B) t s) := by
    rw [keyC hS1 hT1 ht, But_q h1 rfl, But_q h1 rfl, ke]
  have c1 : f_X9_contentFound 0 t (keyS B (B 30 0) (dgS B) t s) A1 = cnt B (B 30 0) t (keyS B (B 30 0) (dgS B) t s) := by
    rw [cntC hT1 hk, But_q h1 rfl, hS.2.1]
  have tic : f_X10_ticksFor w t (gU (gU (gU A1 11 w 3 ((4 * t + s : Nat) : Int)) 11 w 4 (keyS B (B 30 0) (dgS B) t s)) 11 w 5 (cnt B (B 30 0) t (keyS B (B 30 0) (dgS B) t s))) = tkN B w t := by
    refine tickC (RT_9 hT1 (But_u (But_u (But_u But_r rfl) rfl) rfl) But_r) hz h41 ?_ hp ?_ ?_
    · rw [gU_r (by decide), gU_r (by decide), gU_r (by decide), But_q h1 rfl]
      obtain ⟨y, y1, y2, y3⟩ := szT hT ht
      rw [y2, ← h41, y3]
    · rw [gU_k (by decide), gU_k (by decide), gU_k (by decide), But_q h1 rfl]
      exact a1
    · rw [gU_k (by decide), gU_k (by decide), gU_k (by decide), But_q h1 rfl]
      exact a2
  unfold f_X2_start
  rw [h9.1, h9.2, tA1, k1, ob_s, c1]
  unfold f_X10_start
  rw [tic, gU_s, show (0 : Int) = ((0 : Nat) : Int) from rfl, taC (by decide)]
  rfl
theorem startM {A B B1 : gM} {n c w t s z : Nat} (hS : RS A B) (hT : RT A B n) (hRB : RB A B n c) (ht : t < n) (hz : z ≤ 4) (h41 : B 41 0 t = (z : Int)) (hs : s < 4) (hw : w < 4) (hp : 0 < B 53 0 w ∧ B 53 0 w ≤ 9) (h1 : But [65, 73] B1 B) : f_X12_begins ((4 * t + s : Nat) : Int) (w : Int) B1 = some (bnB B1 w (4 * t + s) (keyS B (B 30 0) (dgS B) t s) (cnt B (B 30 0) t (keyS B (B 30 0) (dgS B) t s)) (tkN B w t)) := by
  have h14 : t < 14 := Nat.lt_of_lt_of_le ht hT.1
  have g4 : (0 : Int) ≤ (w : Int) ∧ (w : Int) < 4 := ⟨Int.natCast_nonneg w, Int.ofNat_lt.mpr hw⟩
  have g56 : (0 : Int) ≤ ((4 * t + s : Nat) : Int) ∧ ((4 * t + s : Nat) : Int) < 56 := by omega
  obtain ⟨q1, q2⟩ := td4 h14 hs
  have hk := key_in hS hT hRB ht hs
  obtain ⟨r1, r2, r3, r4⟩ := r16 hk
  have b1 : But [54, 65, 73] (gU B1 54 0 w ((4 * t + s : Nat) : Int)) B := But_u (But_w h1 rfl) rfl
  have td : ∀ {M : gM}, But [54, 55, 56, 57, 58, 65, 73] M B → Td B M := fun {M} h q hq => h q (fun m => by simp only [List.mem_cons, List.not_mem_nil, or_false] at m hq; omega)
  have tk1 := tickM (B := B) (M := gU B1 54 0 w ((4 * t + s : Nat) : Int)) (td (But_w b1 rfl)) (But_q b1 rfl) (But_q b1 rfl) h14 hs hw hz h41 hp
  have key : ∀ T : Int, f_X12_keyOf ((4 * t + s : Nat) : Int) (gU (gU (gU B1 54 0 w ((4 * t + s : Nat) : Int)) 56 0 w T) 55 0 w T) = some (keyS B (B 30 0) (dgS B) t s) := fun T => by
    have b2 : But [54, 55, 56, 65, 73] (gU (gU (gU B1 54 0 w ((4 * t + s : Nat) : Int)) 56 0 w T) 55 0 w T) B := But_u (But_u (But_w b1 rfl) rfl) rfl
    rw [keyM (RS_9 hS (But_r) (But_w b2 rfl)) (RT_9 hT But_r (But_w b2 rfl)) ht hs, keyS_t (td (But_w b2 rfl)), dgS_t (td (But_w b2 rfl)) (But_q b2 rfl), But_q b2 rfl]
  have b3 : ∀ T k : Int, But [54, 55, 56, 57, 65, 73] (gU (gU (gU (gU B1 54 0 w ((4 * t + s : Nat) : Int)) 56 0 w T) 55 0 w T) 57 0 w k) B := fun T k => But_u (But_u (But_u (But_w b1 rfl) rfl) rfl) rfl
  unfold f_X12_begins
  rw [og_t g4, Int.toNat_natCast, tk1, ob_s, og_t g4, og_t g4, og_t g4, gU_s, key, ob_s, og_t g4, og_t g4, gU_s, q1, fn_t (td (But_w (b3 _ _) rfl)), fndM h14, ob_s]
  dsimp only [oj]
  rw [og_t g4, og_t g56, og_t (by decide), og_t (by decide), Int.toNat_natCast]
  unfold fnd cnt
  by_cases e : B 39 0 t = -1
  · rw [if_pos e, if_pos rfl, if_pos e]
    rfl
  · rw [if_neg e, if_neg r4, og_t ⟨r1, r2⟩, if_neg e, But_q (b3 _ _) rfl, og_t g4, og_t g56, og_t (by decide), og_t (by decide)]
    rfl
