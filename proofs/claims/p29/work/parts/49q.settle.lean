/-! ### settle and opens -/
theorem gU_cm {M : gM} {r i k r' i' k' : Nat} {v v' : Int} (h : r ≠ r') : gU (gU M r i k v) r' i' k' v' = gU (gU M r' i' k' v') r i k v := by
  funext q x y
  unfold gU
  by_cases e : q = r ∧ x = i ∧ y = k
  · rw [if_neg (fun z => h (e.1.symm.trans z.1)), if_pos e, if_pos e]
  · rw [if_neg e, if_neg e]
theorem fi_ta {A : gM} {a : Nat} {r w : Int} : fiA (taA A 1) a r w = gU (fiA A a r w) 24 0 1 (wI (A 24 0 1 + 1)) := by
  unfold fiA taA
  rw [gU_r (by decide), gU_cm (r := 24) (r' := 9) (by decide), gU_cm (r := 24) (r' := 9) (by decide), gU_cm (r := 24) (r' := 9) (by decide), gU_cm (r := 24) (r' := 9) (by decide)]
theorem dn_ta {A : gM} {t s m : Nat} {r w : Int} : dnA (taA A 1) t s m r w = taA (dnA A t s m r w) 1 := by
  unfold dnA
  rw [fi_ta, gU_r (by decide), gU_cm (r := 24) (r' := 23) (by decide)]
  show _ = gU _ 24 0 1 (wI (gU (fiA A (4 * t + s) r w) 23 0 t _ 24 0 1 + 1))
  rw [gU_r (by decide), show fiA A (4 * t + s) r w 24 = A 24 from But_q fiA_o rfl]
theorem lvCM {A B : gM} {n c t s : Nat} (h : SI A B n c) (hs : s < 4) (hao : aOK B n t s) (hnd : ndd B t) (h60 : B 60 0 (4 * t + s) = 0) : ∃ A' B' : gM, f_X2_leaveOpen t (4 * t + s) A = some A' ∧ f_X12_opensOne (t : Int) ((4 * t + s : Nat) : Int) B = some B' ∧ SI A' B' n c ∧ But [9, 23, 24] A' A ∧ But [60, 61, 62, 63, 68] B' B ∧ (∀ x, x ≠ 4 * t + s → B' 60 0 x = B 60 0 x) ∧ ((B' 60 0 (4 * t + s) = 0 ∧ unf B n t) ∨ B' 60 0 (4 * t + s) = 1 ∨ B' 60 0 (4 * t + s) = 3 ∨ B' 60 0 (4 * t + s) = 5) := by
  have hh := h
  obtain ⟨h1, h2, ⟨z, f, p1, p2, p3, p4, p5, p6, p7⟩, h4, h5, h6, g1', g2, g4⟩ := hh
  have ht := hao.1
  have h14 : t < 14 := Nat.lt_of_lt_of_le ht h2.1
  obtain ⟨m, m1, m2, m3, m4⟩ := shT h2 ht
  obtain ⟨x0, x1, x2, x3⟩ := h6.2.2.2.2.2.2.2.1 t s h14 hs
  have st0 : A 9 (4 * t + s) 2 = 0 := (x2 ⟨hao, hnd⟩).1.trans h60
  have b56 : (0 : Int) ≤ ((4 * t + s : Nat) : Int) ∧ ((4 * t + s : Nat) : Int) < 56 := by omega
  have hE : ∀ u, isI B t u → stE A B n u := fun u hu => stE_of h6 (Nat.lt_trans (isI_lt h1 h2 ht hu) h14) (g1' t u ht hnd hu)
  have hk := key_in h1 h2 h6 ht hs
  have a49 : A 4 0 9 = B 29 0 19 := h4.1
  obtain ⟨y3, y4, e8, y3i, y4i, hu, hb⟩ := ops8 (z2 := ((4 * t + s : Nat) : Int)) (k := fun (y3_8_113 : Int) (y4_8_113 : Int) => if y3_8_113 = 0 then (oj (fun (xs0_132 : Int) => if xs0_132 = (-1) then (oj (fun (xs2_201 : Int) => og ((0 : Int) ≤ ((4 * t + s : Nat) : Int) ∧ (((4 * t + s : Nat) : Int) : Int) < 56) <| og ((0 : Int) ≤ ((4 * t + s : Nat) : Int) ∧ (((4 * t + s : Nat) : Int) : Int) < 56) <| some (gU (gU B 60 0 ((4 * t + s : Nat) : Int).toNat xs2_201) 63 0 ((4 * t + s : Nat) : Int).toNat 0)) fun k201 => if y4_8_113 = 0 then (k201 1) else (k201 5)) else (og ((0 : Int) ≤ ((4 * t + s : Nat) : Int) ∧ (((4 * t + s : Nat) : Int) : Int) < 56) <| og ((0 : Int) ≤ xs0_132 ∧ (xs0_132 : Int) < 40) <| og ((0 : Int) ≤ ((4 * t + s : Nat) : Int) ∧ (((4 * t + s : Nat) : Int) : Int) < 56) <| og ((0 : Int) ≤ xs0_132 ∧ (xs0_132 : Int) < 40) <| og ((0 : Int) ≤ ((4 * t + s : Nat) : Int) ∧ (((4 * t + s : Nat) : Int) : Int) < 56) <| og ((0 : Int) ≤ 1 ∧ (1 : Int) < 5) <| og ((0 : Int) ≤ 1 ∧ (1 : Int) < 5) <| some (gU (gU (gU (gU B 60 0 ((4 * t + s : Nat) : Int).toNat 3) 61 0 ((4 * t + s : Nat) : Int).toNat ((gU B 60 0 ((4 * t + s : Nat) : Int).toNat 3) 49 0 xs0_132.toNat)) 62 0 ((4 * t + s : Nat) : Int).toNat ((gU (gU B 60 0 ((4 * t + s : Nat) : Int).toNat 3) 61 0 ((4 * t + s : Nat) : Int).toNat ((gU B 60 0 ((4 * t + s : Nat) : Int).toNat 3) 49 0 xs0_132.toNat)) 50 0 xs0_132.toNat)) 68 0 1 (wI (((gU (gU (gU B 60 0 ((4 * t + s : Nat) : Int).toNat 3) 61 0 ((4 * t + s : Nat) : Int).toNat ((gU B 60 0 ((4 * t + s : Nat) : Int).toNat 3) 49 0 xs0_132.toNat)) 62 0 ((4 * t + s : Nat) : Int).toNat ((gU (gU B 60 0 ((4 * t + s : Nat) : Int).toNat 3) 61 0 ((4 * t + s : Nat) : Int).toNat ((gU B 60 0 ((4 * t + s : Nat) : Int).toNat 3) 49 0 xs0_132.toNat)) 50 0 xs0_132.toNat)) 68 0 1) + 1))))) fun k132 => if y4_8_113 = 0 then (ob (f_X12_hit ((4 * t + s : Nat) : Int) B) fun r129 => k132 r129) else (k132 ((-1)))) else (some B)) h1 h2 ht
  have re : f_X12_opensOne (t : Int) ((4 * t + s : Nat) : Int) B = _ := e8
  have rdy : ∀ v : Int, (v = 1 ∨ v = 5) → (v = 1 → inD B n t) → f_X2_leaveOpen t (4 * t + s) A = some (stA A (4 * t + s) v) → f_X12_opensOne (t : Int) ((4 * t + s : Nat) : Int) B = some (stB B (4 * t + s) v) → ∃ A' B' : gM, f_X2_leaveOpen t (4 * t + s) A = some A' ∧ f_X12_opensOne (t : Int) ((4 * t + s : Nat) : Int) B = some B' ∧ SI A' B' n c ∧ But [9, 23, 24] A' A ∧ But [60, 61, 62, 63, 68] B' B ∧ (∀ x, x ≠ 4 * t + s → B' 60 0 x = B 60 0 x) ∧ ((B' 60 0 (4 * t + s) = 0 ∧ unf B n t) ∨ B' 60 0 (4 * t + s) = 1 ∨ B' 60 0 (4 * t + s) = 3 ∨ B' 60 0 (4 * t + s) = 5) := fun v hv hi ea eb =>
    ⟨_, _, ea, eb, SI_st h hs hao hnd h60 hv hi, But_w stA_o rfl, But_w stB_o rfl, fun x hx => by rw [stB_60, if_neg hx], Or.inr (by rw [stB_60, if_pos rfl]; exact hv.elim Or.inl (fun q => Or.inr (Or.inr q)))⟩
  rcases soiC h1 h2 ht hE with ⟨c1, c2⟩ | ⟨c1, c2, c3⟩ | ⟨c1, c2, c3⟩
  · have ea : f_X2_leaveOpen t (4 * t + s) A = some A := by
      unfold f_X2_leaveOpen
      rw [c1, ob_s, if_neg (show ¬ ((0 : Int) = 3) by decide), stA_id st0]
    have eb : f_X12_opensOne (t : Int) ((4 * t + s : Nat) : Int) B = some B := by
      rw [re, hu.mpr c2, if_neg ne10]
    exact ⟨A, B, ea, eb, h, But_r, But_r, fun _ _ => rfl, Or.inl ⟨h60, c2⟩⟩
  · have y30 : y3 = 0 := y3i.resolve_right (fun q => c2 (hu.mp q))
    refine rdy 5 (Or.inr rfl) (fun q => absurd q (by decide)) ?_ ?_
    · unfold f_X2_leaveOpen
      rw [c1, ob_s, if_neg (show ¬ ((5 : Int) = 3) by decide)]
      rfl
    · rw [re, if_pos y30]
      dsimp only [oj]
      rw [hb.mpr c3, if_neg ne10, if_pos rfl, if_neg ne10, og_t b56, og_t b56, Int.toNat_natCast]
      rfl
  · have y30 : y3 = 0 := y3i.resolve_right (fun q => c2 (hu.mp q))
    have y40 : y4 = 0 := y4i.resolve_right (fun q => c3 (hb.mp q))
    have hD : inD B n t := fun u hu v hv ho => by
      have q1 : ¬ B 60 0 (4 * u + v) < 3 := fun q => c2 ⟨u, v, hu, hv, ho, q⟩
      have q2 : ¬ 3 < B 60 0 (4 * u + v) := fun q => c3 ⟨u, v, hu, hv, ho, q⟩
      omega
    have ke := keyEq (s := s) h1 h2 h6 g1' ht hnd hD
    have cl : f_X2_leaveOpen t (4 * t + s) A = if brk B t (keyS B (B 30 0) (dgS B) t s) = 0 then (ob (f_X1_firstFit (keyS B (B 30 0) (dgS B) t s) (fnd B t (keyS B (B 30 0) (dgS B) t s)) (cnt B (B 30 0) t (keyS B (B 30 0) (dgS B) t s)) (B 29 0 19) A) fun r76 => om r76 (some (gU A 9 (4 * t + s) 2 1)) fun a83 => ob (f_X2_finish t (4 * t + s) (taA A 1 10 a83 3) (taA A 1 10 a83 4) (taA A 1)) fun r112 => some r112) else some (gU A 9 (4 * t + s) 2 1) := by
      unfold f_X2_leaveOpen
      rw [c1, ob_s, if_pos rfl, x1, keyC h1 h2 ht, ob_s, ke]
      dsimp only [oj]
      rw [brkC h2, fndC h2, cntC h2 hk, cnt_e h1, a49, show (1 : Int) = ((1 : Nat) : Int) from rfl, taC (by decide)]
      rfl
    have rf : f_X12_opensOne (t : Int) ((4 * t + s : Nat) : Int) B = ob (f_X12_hit_L40 (some (-1)) (t : Int) (keyS B (B 30 0) (dgS B) t s) (fnd B t (keyS B (B 30 0) (dgS B) t s)) (cnt B (B 30 0) t (keyS B (B 30 0) (dgS B) t s)) B 64 0) fun r129 => if r129 = (-1) then some (stB B (4 * t + s) 1) else (og ((0 : Int) ≤ r129 ∧ r129 < 40) <| some (taB (dnB B (4 * t + s) (B 49 0 r129.toNat) (B 50 0 r129.toNat)) 1)) := by
      rw [re, if_pos y30]
      dsimp only [oj]
      rw [if_pos y40, hitM h1 h2 h6 ht hs p1 p6]
      congr 1
      funext r129
      by_cases q : r129 = -1
      · rw [if_pos q, if_pos q, if_pos y40, og_t b56, og_t b56, Int.toNat_natCast]
        rfl
      · rw [if_neg q, if_neg q, og_t b56, Int.toNat_natCast]
        by_cases g : (0 : Int) ≤ r129 ∧ r129 < 40
        · rw [og_t g, og_t b56, og_t g, og_t b56, og_t (by decide), og_t (by decide), og_t g, gU_r (by decide), gU_r (by decide), gU_r (by decide)]
          rfl
        · unfold og
          rw [if_neg g, if_neg g]
    have none2 : f_X2_leaveOpen t (4 * t + s) A = some (gU A 9 (4 * t + s) 2 1) → f_X12_hit_L40 (some (-1)) (t : Int) (keyS B (B 30 0) (dgS B) t s) (fnd B t (keyS B (B 30 0) (dgS B) t s)) (cnt B (B 30 0) t (keyS B (B 30 0) (dgS B) t s)) B 64 0 = some (-1) → ∃ A' B' : gM, f_X2_leaveOpen t (4 * t + s) A = some A' ∧ f_X12_opensOne (t : Int) ((4 * t + s : Nat) : Int) B = some B' ∧ SI A' B' n c ∧ But [9, 23, 24] A' A ∧ But [60, 61, 62, 63, 68] B' B ∧ (∀ x, x ≠ 4 * t + s → B' 60 0 x = B 60 0 x) ∧ ((B' 60 0 (4 * t + s) = 0 ∧ unf B n t) ∨ B' 60 0 (4 * t + s) = 1 ∨ B' 60 0 (4 * t + s) = 3 ∨ B' 60 0 (4 * t + s) = 5) := fun ea eb =>
      rdy 1 (Or.inl rfl) (fun _ => hD) ea (by rw [rf, eb, ob_s, if_pos rfl])
    rcases brk01 B t (keyS B (B 30 0) (dgS B) t s) with b0 | b0
    · rw [if_pos b0] at cl
      rcases ffC (key := keyS B (B 30 0) (dgS B) t s) (file := fnd B t (keyS B (B 30 0) (dgS B) t s)) (con := cnt B (B 30 0) t (keyS B (B 30 0) (dgS B) t s)) p1 p2 p4 p5 p7 with ⟨e, e1, e2, e3, e4⟩ | ⟨e2, e3⟩
      · rcases ffM (K := some (-1)) h14 p1 p6 b0 (file := fnd B t (keyS B (B 30 0) (dgS B) t s)) (con := cnt B (B 30 0) t (keyS B (B 30 0) (dgS B) t s)) with ⟨e', f1, f2, f3, f4⟩ | ⟨-, f3⟩
        · have ee : e' = e := by
            rcases Nat.lt_trichotomy e' e with q | q | q
            · exact absurd f3 (e4 e' q)
            · exact q
            · exact absurd e3 (f4 e q)
          subst ee
          have e40 : e' < 40 := Nat.lt_of_lt_of_le e1 p1
          obtain ⟨q1, q2, q3, q4, q5, q6, q7, q8, q9, q10⟩ := p7 e' e1
          have SIt := SI_dn h hs hao hnd m4 h60 q9 q10
          have ea : f_X2_leaveOpen t (4 * t + s) A = some (dnA (taA A 1) t s m (B 49 0 e') (B 50 0 e')) := by
            rw [cl, e2, ob_s]
            show ob (f_X2_finish t (4 * t + s) (taA A 1 10 ((f + e') % 40) 3) (taA A 1 10 ((f + e') % 40) 4) (taA A 1)) _ = _
            have ta10 : taA A 1 10 = A 10 := But_q taA_o rfl
            have ta7 : taA A 1 7 = A 7 := But_q taA_o rfl
            rw [ta10, q4, q5, finC h14 m2 (by rw [ta7, m3]) (by rw [ta7, h2.2.2.2.2.1 t h14])]
            rfl
          have eb : f_X12_opensOne (t : Int) ((4 * t + s : Nat) : Int) B = some (taB (dnB B (4 * t + s) (B 49 0 e') (B 50 0 e')) 1) := by
            rw [rf, f2, ob_s, if_neg (show ¬ ((e' : Int) = -1) by omega), og_t (show (0 : Int) ≤ (e' : Int) ∧ (e' : Int) < 40 by omega), Int.toNat_natCast]
          have comm : dnA (taA A 1) t s m (B 49 0 e') (B 50 0 e') = taA (dnA A t s m (B 49 0 e') (B 50 0 e')) 1 := dn_ta
          refine ⟨_, _, ea, eb, ?_, ?_, ?_, fun x hx => ?_, Or.inr (Or.inr (Or.inl ?_))⟩
          · rw [comm]
            exact SI_ta SIt
          · rw [comm]
            exact But_u (But_w dnA_o rfl) rfl
          · exact But_u (But_w dnB_o rfl) rfl
          · rw [But_q taB_o rfl, dnB_60, if_neg hx]
          · rw [But_q taB_o rfl, dnB_60, if_pos rfl]
        · exact absurd e3 (f3 e e1)
      · rcases ffM (K := some (-1)) h14 p1 p6 b0 (file := fnd B t (keyS B (B 30 0) (dgS B) t s)) (con := cnt B (B 30 0) t (keyS B (B 30 0) (dgS B) t s)) with ⟨e', f1, f2, f3, f4⟩ | ⟨f2, -⟩
        · exact absurd f3 (e3 e' f1)
        · exact none2 (by rw [cl, e2, ob_s]; rfl) f2
    · rw [if_neg (by rw [b0]; exact ne10)] at cl
      exact none2 cl (ffM1 h14 p1 p6 b0)
