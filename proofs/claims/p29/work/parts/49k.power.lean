theorem refB_pw {B : gM} {w : Nat} {v : Int} (hw : w < 4) (hv : 0 ≤ v ∧ v ≤ 9) (hne : B 53 0 w ≠ v) (a : Int) (ha : B 54 0 w = a) : f_X12_setPower (w : Int) v B = if a = -1 then some (B 53 0 w, pwB B w v) else ob (f_X12_workerAt a (pwB B w v)) fun r83 => if r83 = (-1) then (og ((0 : Int) ≤ a ∧ (a : Int) < 56) <| some (B 53 0 w, gU (gU (pwB B w v) 60 0 a.toNat 1) 68 0 2 (wI ((B 68 0 2) + 1)))) else some (B 53 0 w, pwB B w v) := by
  have g4 : (0 : Int) ≤ (w : Int) ∧ (w : Int) < 4 := by omega
  have e53 : gU B 29 0 0 0 53 0 w = B 53 0 w := by rw [gU_r (by decide)]
  have e54 : gU (gU (gU B 29 0 0 0) 53 0 w v) 59 0 w (-1) 54 0 w = a := by rw [gU_r (by decide), gU_r (by decide), gU_r (by decide), ha]
  have e68 : ∀ k, gU (pwB B w v) 60 0 k 1 68 0 2 = B 68 0 2 := fun k => by rw [gU_r (by decide), But_q pwB_o rfl]
  unfold f_X12_setPower
  dsimp only [oj]
  rw [inn, if_pos (show (0 : Int) ≤ (w : Int) ∧ (w : Int) ≤ 3 by omega), if_neg ne10, inn, if_pos hv, if_neg ne10, ask1]
  dsimp only
  rw [if_neg ne10, og_t g4, Int.toNat_natCast, if_neg (show ¬ gU B 29 0 0 0 53 0 w = v by rw [e53]; exact hne), og_t g4, og_t g4, og_t g4, og_t g4, e54, e53]
  show (if a = -1 then some (B 53 0 w, pwB B w v) else ob (f_X12_workerAt a (pwB B w v)) fun r83 => if r83 = (-1) then (og ((0 : Int) ≤ a ∧ (a : Int) < 56) <| og ((0 : Int) ≤ 2 ∧ (2 : Int) < 5) <| og ((0 : Int) ≤ 2 ∧ (2 : Int) < 5) <| some (B 53 0 w, gU (gU (pwB B w v) 60 0 a.toNat 1) 68 0 2 (wI (((gU (pwB B w v) 60 0 a.toNat 1) 68 0 2) + 1)))) else some (B 53 0 w, pwB B w v)) = _
  simp only [e68, og_t (show (0 : Int) ≤ 2 ∧ (2 : Int) < 5 by decide)]
theorem clsA_pw {A : gM} {w : Nat} {v : Int} (hw : w < 4) (hv : 0 ≤ v ∧ v < 10) : f_X11_setPower (w : Int) v A = if v = A 11 w 1 then some (Sum.inr (A 11 w 1, A)) else ob (f_X2_changePower w v A) fun r52 => some (Sum.inr (A 11 w 1, r52)) := by
  have wa : f_X2_workerAt (w : Int) A = w := by
    unfold f_X2_workerAt
    rw [if_neg (by omega), if_pos (by omega)]
    rfl
  unfold f_X11_setPower
  dsimp only [oj]
  rw [isB, if_pos (show (0 : Int) ≤ (w : Int) ∧ (w : Int) < 4 by omega), if_neg ne10, isB, if_pos hv, if_neg ne10, cArg, if_neg ne10, ob_s, ox_r, wa]
/-- worker w is idle then, another power; no action changes -/
theorem pwRel {c n w : Nat} {A B : gM} {v : Int} (hw : w < 4) (hv : 0 ≤ v ∧ v ≤ 9) (h1 : RS A B) (h2 : RT A B n) (h3 : RC A B) (h4 : RO A B) (h5 : RW A B n) (h6 : RB A B n c) (h7 : RG B n) (hother : B 54 0 w = -1 ∨ ∃ u, u < 4 ∧ u ≠ w ∧ B 54 0 u = B 54 0 w) : Rel c (pwA A w v) (pwB B w v) := by
  obtain ⟨i1, i2, i3⟩ := RW_iff.mp h5
  have fA : But [11] (pwA A w v) A := pwA_o
  have fB : But [29, 53, 54, 59] (pwB B w v) B := pwB_o
  have tN : TdN B (pwB B w v) := TdN_b (But_w fB rfl) (pwB_29 37 (by decide))
  refine ⟨n, RS_c h1 (fun q hq => by rw [But_l fA (K := [12, 13, 14, 15, 16]) rfl q hq]) (by rw [But_q fA rfl]) (But_l fB rfl) (pwB_29 4 (by decide)), RT_c h2 (But_l fA rfl) (by rw [But_q fA rfl]) (fun t k _ => by rw [But_q fA rfl]) (But_l fB rfl) (pwB_29 7 (by decide)), RC_c h3 (But_q fA rfl) (But_q fA rfl) (But_l fB rfl) (pwB_29 21 (by decide)), RO_c h4 (by rw [But_q fA rfl]) (by rw [But_q fA rfl]) (But_q fA rfl) (by rw [But_q fA rfl]) (pwB_29 19 (by decide)) (pwB_29 20 (by decide)) (pwB_29 49 (by decide)) (But_q fB rfl), RW_iff.mpr ⟨pwW hw hv i1, W3_act i2 (Int.le_refl _) tN (fun u hu => ?_), W4_sub i3 (fun u _ => ?_)⟩, RB_c h6 (But_q fA rfl) (by rw [But_q fA rfl]) (by rw [But_q fA rfl]) (by rw [But_q fA rfl]) (by rw [But_q fA rfl]) (fun t k _ => by rw [But_q fA rfl]) (by rw [But_q fA rfl]) (But_l fB rfl) (pwB_29 37 (by decide)) (pwB_29 36 (by decide)) (pwB_29 43 (by decide)) (pwB_29 48 (by decide)), ?_⟩
  · by_cases e : u = w
    · exact Or.inl (by rw [pwB_54, if_pos e])
    · exact Or.inr (Or.inr ⟨fun q hq => by
        exact pwB_k q (by simp only [List.mem_cons, List.not_mem_nil, or_false] at hq ⊢; omega) u e, fun a _ h60 => by rw [But_q fB rfl]; exact h60⟩)
  · by_cases e : u = w
    · exact Or.inl (by rw [pwB_54, if_pos e])
    · exact Or.inr (by rw [pwB_54, if_neg e])
  · have b60 : pwB B w v 60 = B 60 := But_q fB rfl
    refine ⟨fun q => ?_, fun q => ?_⟩
    · rw [pwB_29 36 (by decide)] at q
      intro t s hs ho hd
      rw [b60]
      exact h7.1 q t s hs ((aOK_t tN.1 n t s).mp ho) ((ndd_t tN t).mp hd)
    · rw [pwB_29 36 (by decide)] at q
      obtain ⟨⟨t0, s0, x1, x2, x3, x4⟩, g1', g2, g3, g4⟩ := RG_1 h7 q
      refine ⟨⟨t0, s0, x1, (aOK_t tN.1 n _ _).mpr x2, (ndd_t tN _).mpr x3, by rw [b60]; exact x4⟩, G1_t tN g1', ?_, ?_, ?_⟩
      · intro t s hs ho hd hx u hi y hy hoy
        rw [b60] at hx ⊢
        exact g2 t s hs ((aOK_t tN.1 n _ _).mp ho) ((ndd_t tN _).mp hd) hx u ((isI_t tN.1 _ _).mp hi) y hy ((aOK_t tN.1 n _ _).mp hoy)
      · intro t s hs ho hd hx
        rw [b60] at hx ⊢
        obtain ⟨u, y, z1, z2, z3, z4⟩ := g3 t s hs ((aOK_t tN.1 n _ _).mp ho) ((ndd_t tN _).mp hd) hx
        exact ⟨u, y, (isI_t tN.1 _ _).mpr z1, z2, (aOK_t tN.1 n _ _).mpr z3, z4⟩
      · intro t s hs ho hd hx
        rw [b60] at hx
        obtain ⟨u, u1, u2⟩ := g4 t s hs ((aOK_t tN.1 n _ _).mp ho) ((ndd_t tN _).mp hd) hx
        by_cases e : u = w
        · rcases hother with p | ⟨y, y1, y2, y3⟩
          · rw [e, p] at u2
            omega
          · exact ⟨y, y1, by rw [pwB_54, if_neg y2, y3, ← e, u2]⟩
        · exact ⟨u, u1, by rw [pwB_54, if_neg e, u2]⟩
