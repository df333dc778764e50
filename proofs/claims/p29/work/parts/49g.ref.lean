/-! ### the reference's freshen -/
/-- a shard's last part: its result and what it is worth -/
def okX (B : gM) (C D : Nat → Int) (t s : Nat) : Int := if brk B t (keyS B C D t s) = 0 then (if B 35 0 t = 2 then (if gRem (frE B C D t s) 4 = 0 then 0 else 1) else 1) else 0
theorem okX_in (B : gM) (C D : Nat → Int) (t s : Nat) : (okX B C D t s = 0 ∨ okX B C D t s = 1) ∧ (okX B C D t s = 1 ↔ okS B C D t s) := by
  unfold okX okS
  by_cases e1 : brk B t (keyS B C D t s) = 0
  · rw [if_pos e1]
    by_cases e2 : B 35 0 t = 2
    · rw [if_pos e2]
      by_cases e3 : gRem (frE B C D t s) 4 = 0
      · rw [if_pos e3]; exact ⟨Or.inl rfl, fun q => absurd q ne01, fun q => absurd ⟨e2, e3⟩ q.2⟩
      · rw [if_neg e3]; exact ⟨Or.inr rfl, fun _ => ⟨e1, fun q => e3 q.2⟩, fun _ => rfl⟩
    · rw [if_neg e2]; exact ⟨Or.inr rfl, fun _ => ⟨e1, fun q => e2 q.1⟩, fun _ => rfl⟩
  · rw [if_neg e1]; exact ⟨Or.inl rfl, fun q => absurd q ne01, fun q => absurd q.1 e1⟩
theorem fr27s {A B M : gM} {n t s m : Nat} {k : gM → Option gM} (hS : RS A B) (hT : RT A B n) (ht : t < n) (hM : Td B M) (hs4 : s < 4) (hs : (s : Int) < B 38 0 t) (h72 : M 72 0 t = 0 ∨ M 72 0 t = 1) (h72' : ∀ u, u < t → M 72 0 u = 0 ∨ M 72 0 u = 1) (hC0 : ∀ k, k < 16 → 0 ≤ M 69 0 k ∧ M 69 0 k ≤ 999) (hD0 : ∀ u, isI B t u → 0 ≤ M 71 0 u ∧ M 71 0 u ≤ 100002) : ∃ M1 : gM, f_X12_freshen_L27 k (t : Int) (m + 1) (s : Int) M = f_X12_freshen_L27 k (t : Int) m ((s + 1 : Nat) : Int) (gU (gU (gU M1 70 0 (4 * t + s) (frE B (M 69 0) (M 71 0) t s)) 72 0 t (gAnd (M1 72 0 t) (okX B (M 69 0) (M 71 0) t s))) 71 0 t (pls (M 71 0 t) (frE B (M 69 0) (M 71 0) t s))) ∧ But [72] M1 M ∧ (∀ u, u ≠ t → M1 72 0 u = M 72 0 u) ∧ (M1 72 0 t = 0 ∨ M1 72 0 t = 1) ∧ (M1 72 0 t = 1 ↔ M 72 0 t = 1 ∧ ∀ u, isI B t u → M 72 0 u = 1) := by
  have h14 : t < 14 := Nat.lt_of_lt_of_le ht hT.1
  have b2 : (0 : Int) ≤ (t : Int) ∧ (t : Int) < 14 := by omega
  have w : wI (wI (4 * (t : Int)) + (s : Int)) = ((4 * t + s : Nat) : Int) := w4 (by omega) (by omega)
  have b3 : (0 : Int) ≤ ((4 * t + s : Nat) : Int) ∧ ((4 * t + s : Nat) : Int) < 56 := by omega
  have w1 : wI ((s : Int) + 1) = ((s + 1 : Nat) : Int) := wI_s (by omega)
  have hk := keyS_in hS hT ht hs4 hC0 hD0
  obtain ⟨r1, r2, r3, r4⟩ := r16 hk
  obtain ⟨M1, e1, e2, e3, e4, e5⟩ := fr47 (x0 := kb0 B t s) (z2 := (s : Int)) (k := fun (y3_47_139 : Int) (M_47_139 : gM) => ob (f_X12_foundBy (t : Int) y3_47_139 M_47_139) fun r142 => oj (fun (xs2_177 : Int) => og ((0 : Int) ≤ ((4 * t + s : Nat) : Int) ∧ (((4 * t + s : Nat) : Int) : Int) < 56) <| og ((0 : Int) ≤ (t : Int) ∧ ((t : Int) : Int) < 14) <| ob (f_X12_breaks (t : Int) y3_47_139 (gU M_47_139 70 0 (4 * t + s) xs2_177)) fun r188 => oj (fun (xs3_224 : Int) => og ((0 : Int) ≤ (t : Int) ∧ ((t : Int) : Int) < 14) <| og ((0 : Int) ≤ (t : Int) ∧ ((t : Int) : Int) < 14) <| og ((0 : Int) ≤ ((4 * t + s : Nat) : Int) ∧ (((4 * t + s : Nat) : Int) : Int) < 56) <| og ((0 : Int) ≤ (t : Int) ∧ ((t : Int) : Int) < 14) <| f_X12_freshen_L27 k (t : Int) m ((s + 1 : Nat) : Int) (gU (gU (gU M_47_139 70 0 (4 * t + s) xs2_177) 72 0 t (gAnd ((gU M_47_139 70 0 (4 * t + s) xs2_177) 72 0 t) xs3_224)) 71 0 t ((f_X12_put ((gU (gU M_47_139 70 0 (4 * t + s) xs2_177) 72 0 t (gAnd ((gU M_47_139 70 0 (4 * t + s) xs2_177) 72 0 t) xs3_224)) 71 0 t) ((gU (gU M_47_139 70 0 (4 * t + s) xs2_177) 72 0 t (gAnd ((gU M_47_139 70 0 (4 * t + s) xs2_177) 72 0 t) xs3_224)) 70 0 (4 * t + s)) (gU (gU M_47_139 70 0 (4 * t + s) xs2_177) 72 0 t (gAnd ((gU M_47_139 70 0 (4 * t + s) xs2_177) 72 0 t) xs3_224)))))) fun k224 => oj (k224 0) fun k223 => if r188 = 0 then (og ((0 : Int) ≤ (t : Int) ∧ ((t : Int) : Int) < 14) <| oj (k224 1) fun k219 => if (gU M_47_139 70 0 (4 * t + s) xs2_177) 35 0 t = 2 then (og ((0 : Int) ≤ ((4 * t + s : Nat) : Int) ∧ (((4 * t + s : Nat) : Int) : Int) < 56) <| if gRem ((gU M_47_139 70 0 (4 * t + s) xs2_177) 70 0 (4 * t + s)) 4 = 0 then (k223) else (k219)) else (k219)) else (k223)) fun k177 => if r142 = (-1) then (k177 y3_47_139) else (og ((0 : Int) ≤ r142 ∧ (r142 : Int) < 16) <| k177 ((f_X12_put y3_47_139 (M_47_139 69 0 r142.toNat) M_47_139)))) hS hT ht hM h72 h72'
  have ek : itr (fun j x => pls x (inV B (M 69 0) (M 71 0) t j)) (B 41 0 t).toNat 0 (kb0 B t s) = keyS B (M 69 0) (M 71 0) t s := rfl
  have tM1 : Td B M1 := fun q hq => by rw [e2 q (fun m => by rw [List.mem_singleton.mp m] at hq; revert hq; decide), hM q hq]
  refine ⟨M1, ?_, e2, e3, e4, e5⟩
  have hL : f_X12_freshen_L27 k (t : Int) (m + 1) (s : Int) M = f_X12_freshen_L47 (fun (y3_47_139 : Int) (M_47_139 : gM) => ob (f_X12_foundBy (t : Int) y3_47_139 M_47_139) fun r142 => oj (fun (xs2_177 : Int) => og ((0 : Int) ≤ ((4 * t + s : Nat) : Int) ∧ (((4 * t + s : Nat) : Int) : Int) < 56) <| og ((0 : Int) ≤ (t : Int) ∧ ((t : Int) : Int) < 14) <| ob (f_X12_breaks (t : Int) y3_47_139 (gU M_47_139 70 0 (4 * t + s) xs2_177)) fun r188 => oj (fun (xs3_224 : Int) => og ((0 : Int) ≤ (t : Int) ∧ ((t : Int) : Int) < 14) <| og ((0 : Int) ≤ (t : Int) ∧ ((t : Int) : Int) < 14) <| og ((0 : Int) ≤ ((4 * t + s : Nat) : Int) ∧ (((4 * t + s : Nat) : Int) : Int) < 56) <| og ((0 : Int) ≤ (t : Int) ∧ ((t : Int) : Int) < 14) <| f_X12_freshen_L27 k (t : Int) m ((s + 1 : Nat) : Int) (gU (gU (gU M_47_139 70 0 (4 * t + s) xs2_177) 72 0 t (gAnd ((gU M_47_139 70 0 (4 * t + s) xs2_177) 72 0 t) xs3_224)) 71 0 t ((f_X12_put ((gU (gU M_47_139 70 0 (4 * t + s) xs2_177) 72 0 t (gAnd ((gU M_47_139 70 0 (4 * t + s) xs2_177) 72 0 t) xs3_224)) 71 0 t) ((gU (gU M_47_139 70 0 (4 * t + s) xs2_177) 72 0 t (gAnd ((gU M_47_139 70 0 (4 * t + s) xs2_177) 72 0 t) xs3_224)) 70 0 (4 * t + s)) (gU (gU M_47_139 70 0 (4 * t + s) xs2_177) 72 0 t (gAnd ((gU M_47_139 70 0 (4 * t + s) xs2_177) 72 0 t) xs3_224)))))) fun k224 => oj (k224 0) fun k223 => if r188 = 0 then (og ((0 : Int) ≤ (t : Int) ∧ ((t : Int) : Int) < 14) <| oj (k224 1) fun k219 => if (gU M_47_139 70 0 (4 * t + s) xs2_177) 35 0 t = 2 then (og ((0 : Int) ≤ ((4 * t + s : Nat) : Int) ∧ (((4 * t + s : Nat) : Int) : Int) < 56) <| if gRem ((gU M_47_139 70 0 (4 * t + s) xs2_177) 70 0 (4 * t + s)) 4 = 0 then (k223) else (k219)) else (k219)) else (k223)) fun k177 => if r142 = (-1) then (k177 y3_47_139) else (og ((0 : Int) ≤ r142 ∧ (r142 : Int) < 16) <| k177 ((f_X12_put y3_47_139 (M_47_139 69 0 r142.toNat) M_47_139)))) (t : Int) (s : Int) 64 (kb0 B t s) 0 M := by
    rw [f_X12_freshen_L27, og_t b2, Int.toNat_natCast, hM 38 (by decide), if_pos hs, kb_t hM, kbM s hT ht, ob_s, w, Int.toNat_natCast, w1]
  rw [hL, e1, ek, fn_t tM1, fndM h14, ob_s]
  have fin : ∀ V : Int, V = frE B (M 69 0) (M 71 0) t s → (og ((0 : Int) ≤ ((4 * t + s : Nat) : Int) ∧ (((4 * t + s : Nat) : Int) : Int) < 56) <| og ((0 : Int) ≤ (t : Int) ∧ ((t : Int) : Int) < 14) <| ob (f_X12_breaks (t : Int) (keyS B (M 69 0) (M 71 0) t s) (gU M1 70 0 (4 * t + s) V)) fun r188 => oj (fun (xs3_224 : Int) => og ((0 : Int) ≤ (t : Int) ∧ ((t : Int) : Int) < 14) <| og ((0 : Int) ≤ (t : Int) ∧ ((t : Int) : Int) < 14) <| og ((0 : Int) ≤ ((4 * t + s : Nat) : Int) ∧ (((4 * t + s : Nat) : Int) : Int) < 56) <| og ((0 : Int) ≤ (t : Int) ∧ ((t : Int) : Int) < 14) <| f_X12_freshen_L27 k (t : Int) m ((s + 1 : Nat) : Int) (gU (gU (gU M1 70 0 (4 * t + s) V) 72 0 t (gAnd ((gU M1 70 0 (4 * t + s) V) 72 0 t) xs3_224)) 71 0 t ((f_X12_put ((gU (gU M1 70 0 (4 * t + s) V) 72 0 t (gAnd ((gU M1 70 0 (4 * t + s) V) 72 0 t) xs3_224)) 71 0 t) ((gU (gU M1 70 0 (4 * t + s) V) 72 0 t (gAnd ((gU M1 70 0 (4 * t + s) V) 72 0 t) xs3_224)) 70 0 (4 * t + s)) (gU (gU M1 70 0 (4 * t + s) V) 72 0 t (gAnd ((gU M1 70 0 (4 * t + s) V) 72 0 t) xs3_224)))))) fun k224 => oj (k224 0) fun k223 => if r188 = 0 then (og ((0 : Int) ≤ (t : Int) ∧ ((t : Int) : Int) < 14) <| oj (k224 1) fun k219 => if (gU M1 70 0 (4 * t + s) V) 35 0 t = 2 then (og ((0 : Int) ≤ ((4 * t + s : Nat) : Int) ∧ (((4 * t + s : Nat) : Int) : Int) < 56) <| if gRem ((gU M1 70 0 (4 * t + s) V) 70 0 (4 * t + s)) 4 = 0 then (k223) else (k219)) else (k219)) else (k223)) = f_X12_freshen_L27 k (t : Int) m ((s + 1 : Nat) : Int) (gU (gU (gU M1 70 0 (4 * t + s) (frE B (M 69 0) (M 71 0) t s)) 72 0 t (gAnd (M1 72 0 t) (okX B (M 69 0) (M 71 0) t s))) 71 0 t (pls (M 71 0 t) (frE B (M 69 0) (M 71 0) t s))) := by
    intro V hV
    subst hV
    have t70 : Td B (gU M1 70 0 (4 * t + s) (frE B (M 69 0) (M 71 0) t s)) := fun q hq => by rw [gU_r (fun e => by rw [e] at hq; revert hq; decide)]; exact tM1 q hq
    have m71 : M1 71 = M 71 := But_q e2 rfl
    have a1 : ∀ X Y v, gU (gU M1 70 0 X Y) 72 0 t v 71 0 t = M 71 0 t := fun X Y v => by rw [gU_r (by decide), gU_r (by decide), m71]
    have a2 : ∀ Y v, gU (gU M1 70 0 (4 * t + s) Y) 72 0 t v 70 0 (4 * t + s) = Y := fun Y v => by rw [gU_r (by decide), gU_s]
    have a3 : ∀ X Y, gU M1 70 0 X Y 72 0 t = M1 72 0 t := fun X Y => by rw [gU_r (by decide)]
    rw [og_t b3, og_t b2, brk_t t70, brkM h14, ob_s]
    dsimp only [oj]
    rw [og_t b2, og_t b2, og_t b3, og_t b2, og_t b2, og_t b2, og_t b2, og_t b3, og_t b2, og_t b3]
    rw [t70 35 (by decide), a1, a1, a2, a2, gU_s, a3, put_p]
    unfold okX
    by_cases c1 : brk B t (keyS B (M 69 0) (M 71 0) t s) = 0
    · rw [if_pos c1, if_pos c1]
      by_cases c2 : B 35 0 t = 2
      · rw [if_pos c2, if_pos c2]
        by_cases c3 : gRem (frE B (M 69 0) (M 71 0) t s) 4 = 0
        · rw [if_pos c3, if_pos c3]
        · rw [if_neg c3, if_neg c3, put_p]
      · rw [if_neg c2, if_neg c2, put_p]
    · rw [if_neg c1, if_neg c1]
  have m69 : M1 69 = M 69 := But_q e2 rfl
  show (if fnd B t (keyS B (M 69 0) (M 71 0) t s) = -1 then _ else _) = _
  by_cases c : B 39 0 t = -1
  · have ef : fnd B t (keyS B (M 69 0) (M 71 0) t s) = -1 := if_pos c
    rw [if_pos ef]
    exact fin _ (by unfold frE res; rw [if_pos c])
  · have ef : fnd B t (keyS B (M 69 0) (M 71 0) t s) = gRem (keyS B (M 69 0) (M 71 0) t s) 16 := if_neg c
    rw [ef, if_neg r4, og_t ⟨r1, r2⟩]
    exact fin _ (by unfold frE res; rw [if_neg c, put_p, m69])
theorem Td_b {B M M' : gM} (h : Td B M) (hb : But [70, 71, 72] M' M) : Td B M' := fun q hq => by
  rw [hb q (fun m => by
    simp only [List.mem_cons, List.not_mem_nil, or_false] at m hq
    omega), h q hq]
/-- a target's shards -/
theorem fr27 {A B M0 : gM} {n t : Nat} {k : gM → Option gM} (hS : RS A B) (hT : RT A B n) (ht : t < n) (hM : Td B M0) (h72 : M0 72 0 t = 1) (h71 : M0 71 0 t = 7) (h72' : ∀ u, u < t → M0 72 0 u = 0 ∨ M0 72 0 u = 1) (hC0 : ∀ k, k < 16 → 0 ≤ M0 69 0 k ∧ M0 69 0 k ≤ 999) (hD0 : ∀ u, u < t → 0 ≤ M0 71 0 u ∧ M0 71 0 u ≤ 100002) : ∃ M' : gM, f_X12_freshen_L27 k (t : Int) 64 0 M0 = k M' ∧ But [70, 71, 72] M' M0 ∧ (∀ u, u ≠ t → M' 71 0 u = M0 71 0 u) ∧ (∀ u, u ≠ t → M' 72 0 u = M0 72 0 u) ∧ M' 71 0 t = frV B (M0 69 0) (M0 71 0) t ∧ (M' 72 0 t = 0 ∨ M' 72 0 t = 1) ∧ (M' 72 0 t = 1 ↔ (∀ u, isI B t u → M0 72 0 u = 1) ∧ ∀ s : Nat, (s : Int) < B 38 0 t → okS B (M0 69 0) (M0 71 0) t s) ∧ (∀ a, a < 4 * t → M' 70 0 a = M0 70 0 a) ∧ ∀ s : Nat, (s : Int) < B 38 0 t → M' 70 0 (4 * t + s) = frE B (M0 69 0) (M0 71 0) t s := by
  obtain ⟨z, z1, z2, z3, z4⟩ := shT hT ht
  have hz : z < 64 := by omega
  have b2 : (0 : Int) ≤ (t : Int) ∧ (t : Int) < 14 := by have := hT.1; omega
  refine lp0 (F := fun m M i => f_X12_freshen_L27 k (t : Int) m i M) z (fun s M => But [70, 71, 72] M M0 ∧ (∀ u, u ≠ t → M 71 0 u = M0 71 0 u) ∧ (∀ u, u ≠ t → M 72 0 u = M0 72 0 u) ∧ M 71 0 t = itr (fun s x => pls x (frE B (M0 69 0) (M0 71 0) t s)) s 0 7 ∧ (M 72 0 t = 0 ∨ M 72 0 t = 1) ∧ (M 72 0 t = 1 ↔ (0 < s → ∀ u, isI B t u → M0 72 0 u = 1) ∧ ∀ s' : Nat, s' < s → okS B (M0 69 0) (M0 71 0) t s') ∧ (∀ a, a < 4 * t → M 70 0 a = M0 70 0 a) ∧ ∀ s' : Nat, s' < s → M 70 0 (4 * t + s') = frE B (M0 69 0) (M0 71 0) t s') (fun r => ∃ M' : gM, r = k M' ∧ But [70, 71, 72] M' M0 ∧ (∀ u, u ≠ t → M' 71 0 u = M0 71 0 u) ∧ (∀ u, u ≠ t → M' 72 0 u = M0 72 0 u) ∧ M' 71 0 t = frV B (M0 69 0) (M0 71 0) t ∧ (M' 72 0 t = 0 ∨ M' 72 0 t = 1) ∧ (M' 72 0 t = 1 ↔ (∀ u, isI B t u → M0 72 0 u = 1) ∧ ∀ s : Nat, (s : Int) < B 38 0 t → okS B (M0 69 0) (M0 71 0) t s) ∧ (∀ a, a < 4 * t → M' 70 0 a = M0 70 0 a) ∧ ∀ s : Nat, (s : Int) < B 38 0 t → M' 70 0 (4 * t + s) = frE B (M0 69 0) (M0 71 0) t s) hz M0 ⟨But_r, fun _ _ => rfl, fun _ _ => rfl, h71, Or.inr h72, ⟨fun _ => ⟨fun q => absurd q (Nat.lt_irrefl _), fun s' q => absurd q (Nat.not_lt_zero _)⟩, fun _ => h72⟩, fun _ _ => rfl, fun s' q => absurd q (Nat.not_lt_zero _)⟩ (fun m s M hs hp => Or.inl ?_) (fun m M hp => ?_)
  · obtain ⟨p1, p2, p3, p4, p5, p6, p7, p8⟩ := hp
    have hs4 : s < 4 := Nat.lt_of_lt_of_le hs z2
    have hsB : (s : Int) < B 38 0 t := by rw [z4]; exact Int.ofNat_lt.mpr hs
    have m69 : M 69 = M0 69 := But_q p1 rfl
    have lt : ∀ u, isI B t u → u < t := fun u hu => isI_lt hS hT ht hu
    have hDD : ∀ u, isI B t u → M 71 0 u = M0 71 0 u := fun u hu => p2 u (Nat.ne_of_lt (lt u hu))
    have hDi : ∀ u, isI B t u → 0 ≤ M 71 0 u ∧ M 71 0 u ≤ 100002 := fun u hu => by rw [hDD u hu]; exact hD0 u (lt u hu)
    have hCi : ∀ k, k < 16 → 0 ≤ M 69 0 k ∧ M 69 0 k ≤ 999 := by rw [m69]; exact hC0
    obtain ⟨M1, e1, e2, e3, e4, e5⟩ := fr27s (m := m) (k := k) hS hT ht (Td_b hM p1) hs4 hsB p5 (fun u hu => by rw [p3 u (Nat.ne_of_lt hu)]; exact h72' u hu) hCi hDi
    have ef : frE B (M 69 0) (M 71 0) t s = frE B (M0 69 0) (M0 71 0) t s := frE_c hS hT ht hs4 (fun _ _ => by rw [m69]) hCi hDD hDi
    have eo : okS B (M 69 0) (M 71 0) t s ↔ okS B (M0 69 0) (M0 71 0) t s := okS_c hS hT ht hs4 (fun _ _ => by rw [m69]) hCi hDD hDi
    obtain ⟨x1, x2⟩ := okX_in B (M 69 0) (M 71 0) t s
    obtain ⟨y1, y2⟩ := gAnd01 e4 x1
    rw [ef] at e1
    refine ⟨_, e1, But_u (But_u (But_u (But_t p1 (But_w e2 rfl)) rfl) rfl) rfl, fun u hu => ?_, fun u hu => ?_, ?_, ?_, ?_, fun a ha => ?_, fun s' hs' => ?_⟩
    · rw [gU_k hu, gU_r (by decide), gU_r (by decide), But_q e2 rfl]
      exact p2 u hu
    · rw [gU_r (by decide), gU_k hu, gU_r (by decide), e3 u hu]
      exact p3 u hu
    · rw [gU_s, itr_s0, p4]
    · rw [gU_r (by decide), gU_s]
      exact y1
    · rw [gU_r (by decide), gU_s, y2, e5, x2, eo, p6]
      constructor
      · rintro ⟨⟨⟨a, b⟩, c⟩, d⟩
        refine ⟨fun _ u hu => ?_, fun s' q => ?_⟩
        · rw [← p3 u (Nat.ne_of_lt (lt u hu))]
          exact c u hu
        · rcases Nat.lt_or_ge s' s with q2 | q2
          · exact b s' q2
          · rw [Nat.le_antisymm (Nat.le_of_lt_succ q) q2]; exact d
      · rintro ⟨a, b⟩
        refine ⟨⟨⟨fun _ => a (Nat.succ_pos s), fun s' q => b s' (Nat.lt_succ_of_lt q)⟩, fun u hu => ?_⟩, b s (Nat.lt_succ_self s)⟩
        rw [p3 u (Nat.ne_of_lt (lt u hu))]
        exact a (Nat.succ_pos s) u hu
    · rw [gU_r (by decide), gU_r (by decide), gU_k (Nat.ne_of_lt (Nat.lt_of_lt_of_le ha (Nat.le_add_right _ _))), But_q e2 rfl]
      exact p7 a ha
    · rw [gU_r (by decide), gU_r (by decide)]
      by_cases e : s' = s
      · rw [e, gU_s]
      · rw [gU_k (fun q => e (Nat.add_left_cancel q)), But_q e2 rfl]
        exact p8 s' (Nat.lt_of_le_of_ne (Nat.le_of_lt_succ hs') e)
  · obtain ⟨p1, p2, p3, p4, p5, p6, p7, p8⟩ := hp
    refine ⟨M, ?_, p1, p2, p3, ?_, p5, p6.trans ?_, p7, fun s hs => p8 s (by rw [z4] at hs; exact Int.ofNat_lt.mp hs)⟩
    · show f_X12_freshen_L27 k (t : Int) (m + 1) (z : Int) M = _
      rw [f_X12_freshen_L27, og_t b2, Int.toNat_natCast, But_q p1 rfl, hM 38 (by decide), z4, if_neg (Int.lt_irrefl _)]
    · rw [p4]
      unfold frV
      rw [z4]
      rfl
    · rw [z4]
      exact ⟨fun q => ⟨q.1 z1, fun s hs => q.2 s (Int.ofNat_lt.mp hs)⟩, fun q => ⟨fun _ => q.1, fun s hs => q.2 s (Int.ofNat_lt.mpr hs)⟩⟩
theorem freshM {A B M0 : gM} {n : Nat} (hS : RS A B) (hT : RT A B n) (hM : Td B M0) (h7 : M0 29 0 7 = B 29 0 7) (hC0 : ∀ k, k < 16 → 0 ≤ M0 69 0 k ∧ M0 69 0 k ≤ 999) : ∃ M' : gM, f_X12_freshen M0 = some M' ∧ But [70, 71, 72] M' M0 ∧ isD B (M0 69 0) (M' 71 0) n ∧ (∀ t, t < n → M' 72 0 t = 0 ∨ M' 72 0 t = 1) ∧ isG B (M0 69 0) (M' 71 0) (fun u => M' 72 0 u = 1) n ∧ ∀ t s : Nat, t < n → (s : Int) < B 38 0 t → M' 70 0 (4 * t + s) = frE B (M0 69 0) (M' 71 0) t s := by
  have h14 := hT.1
  have hn64 : n < 64 := by omega
  have hB : M0 29 0 7 = (n : Int) := h7.trans hT.2.2.1
  unfold f_X12_freshen
  refine lp0 (F := fun m M i => f_X12_freshen_L2 (fun (M_2_263 : gM) => some M_2_263) m i M) n (fun t M => But [70, 71, 72] M M0 ∧ isD B (M0 69 0) (M 71 0) t ∧ (∀ u, u < t → M 72 0 u = 0 ∨ M 72 0 u = 1) ∧ isG B (M0 69 0) (M 71 0) (fun u => M 72 0 u = 1) t ∧ ∀ u s : Nat, u < t → (s : Int) < B 38 0 u → M 70 0 (4 * u + s) = frE B (M0 69 0) (M 71 0) u s) (fun r => ∃ M' : gM, r = some M' ∧ But [70, 71, 72] M' M0 ∧ isD B (M0 69 0) (M' 71 0) n ∧ (∀ t, t < n → M' 72 0 t = 0 ∨ M' 72 0 t = 1) ∧ isG B (M0 69 0) (M' 71 0) (fun u => M' 72 0 u = 1) n ∧ ∀ t s : Nat, t < n → (s : Int) < B 38 0 t → M' 70 0 (4 * t + s) = frE B (M0 69 0) (M' 71 0) t s) hn64 M0 ⟨But_r, fun t q => absurd q (Nat.not_lt_zero _), fun t q => absurd q (Nat.not_lt_zero _), fun t q => absurd q (Nat.not_lt_zero _), fun t s q => absurd q (Nat.not_lt_zero _)⟩ (fun m t M ht hp => Or.inl ?_) (fun m M hp => ?_)
  · obtain ⟨p1, p2, p3, p4, p5⟩ := hp
    have ht14 : t < 14 := Nat.lt_of_lt_of_le ht h14
    have b2 : (0 : Int) ≤ (t : Int) ∧ (t : Int) < 14 := ⟨Int.natCast_nonneg t, Int.ofNat_lt.mpr ht14⟩
    have w1 : wI ((t : Int) + 1) = ((t + 1 : Nat) : Int) := wI_s (Nat.lt_of_lt_of_le (Nat.succ_lt_succ ht14) (by decide))
    have m69 : M 69 = M0 69 := But_q p1 rfl
    have fM : But [70, 71, 72] (gU (gU M 72 0 t 1) 71 0 t 7) M := But_u (But_u But_r rfl) rfl
    have hin := isD_in hS hT (Nat.le_of_lt ht) hC0 p2
    have c69 : gU (gU M 72 0 t 1) 71 0 t 7 69 = M0 69 := by rw [gU_r (by decide), gU_r (by decide), m69]
    have c71 : ∀ u, u ≠ t → gU (gU M 72 0 t 1) 71 0 t 7 71 0 u = M 71 0 u := fun u hu => by rw [gU_k hu, gU_r (by decide)]
    have c72 : ∀ u, u ≠ t → gU (gU M 72 0 t 1) 71 0 t 7 72 0 u = M 72 0 u := fun u hu => by rw [gU_r (by decide), gU_k hu]
    obtain ⟨M', e1, e2, e3, e4, e5, e6, e7, e8, e9⟩ := fr27 (M0 := gU (gU M 72 0 t 1) 71 0 t 7) (k := fun (M_27_257 : gM) => f_X12_freshen_L2 (fun (M_2_263 : gM) => some M_2_263) m ((t + 1 : Nat) : Int) M_27_257) hS hT ht (Td_b (Td_b hM p1) fM) (by rw [gU_r (by decide), gU_s]) (gU_s _ _ _ _ _) (fun u hu => by rw [c72 u (Nat.ne_of_lt hu)]; exact p3 u hu) (by rw [c69]; exact hC0) (fun u hu => by rw [c71 u (Nat.ne_of_lt hu)]; exact hin u hu)
    have lt : ∀ u, isI B t u → u < t := fun u hu => isI_lt hS hT ht hu
    have cD : ∀ u, isI B t u → gU (gU M 72 0 t 1) 71 0 t 7 71 0 u = M 71 0 u := fun u hu => c71 u (Nat.ne_of_lt (lt u hu))
    have cDi : ∀ u, isI B t u → 0 ≤ gU (gU M 72 0 t 1) 71 0 t 7 71 0 u ∧ gU (gU M 72 0 t 1) 71 0 t 7 71 0 u ≤ 100002 := fun u hu => by rw [cD u hu]; exact hin u (lt u hu)
    rw [c69] at e5 e7 e9
    have e5' : M' 71 0 t = frV B (M0 69 0) (M 71 0) t := e5.trans (frV_c hS hT ht (fun _ _ => rfl) hC0 cD cDi)
    have e71 : M' 71 0 = g1 (M 71 0) t (frV B (M0 69 0) (M 71 0) t) := by
      funext u
      by_cases e : u = t
      · rw [e, e5']; exact (if_pos rfl).symm
      · rw [e3 u e, c71 u e]; exact (if_neg e).symm
    obtain ⟨z, z1, z2, z3, z4⟩ := shT hT ht
    have e7' : M' 72 0 t = 1 ↔ (∀ u, isI B t u → M 72 0 u = 1) ∧ ∀ s : Nat, (s : Int) < B 38 0 t → okS B (M0 69 0) (M 71 0) t s := by
      rw [e7]
      have o : ∀ s : Nat, (s : Int) < B 38 0 t → (okS B (M0 69 0) (gU (gU M 72 0 t 1) 71 0 t 7 71 0) t s ↔ okS B (M0 69 0) (M 71 0) t s) := fun s hs => okS_c hS hT ht (by rw [z4] at hs; exact Nat.lt_of_lt_of_le (Int.ofNat_lt.mp hs) z2) (fun _ _ => rfl) hC0 cD cDi
      constructor
      · rintro ⟨a, b⟩
        exact ⟨fun u hu => by rw [← c72 u (Nat.ne_of_lt (lt u hu))]; exact a u hu, fun s hs => (o s hs).mp (b s hs)⟩
      · rintro ⟨a, b⟩
        exact ⟨fun u hu => by rw [c72 u (Nat.ne_of_lt (lt u hu))]; exact a u hu, fun s hs => (o s hs).mpr (b s hs)⟩
    refine ⟨M', ?_, But_t p1 (But_t fM e2), ?_, fun u hu => ?_, ?_, fun u s hu hs => ?_⟩
    · show f_X12_freshen_L2 _ (m + 1) (t : Int) M = _
      rw [f_X12_freshen_L2, But_q p1 rfl, hB, if_pos (Int.ofNat_lt.mpr ht), og_t b2, og_t b2, Int.toNat_natCast, w1]
      exact e1
    · rw [e71]
      exact isD_step hS hT ht hC0 p2
    · by_cases e : u = t
      · rw [e]; exact e6
      · rw [e4 u e, c72 u e]
        exact p3 u (Nat.lt_of_le_of_ne (Nat.le_of_lt_succ hu) e)
    · rw [e71]
      exact isG_step hS hT ht hC0 p2 p4 (fun u hu => by rw [e4 u (Nat.ne_of_lt hu), c72 u (Nat.ne_of_lt hu)]) e7'
    · have hu' := Nat.le_of_lt_succ hu
      have hun := Nat.lt_of_le_of_lt hu' ht
      obtain ⟨y, y1, y2, y3, y4⟩ := shT hT hun
      have hs4 : s < 4 := by rw [y4] at hs; exact Nat.lt_of_lt_of_le (Int.ofNat_lt.mp hs) y2
      have key : frE B (M0 69 0) (M 71 0) u s = frE B (M0 69 0) (M' 71 0) u s := by
        refine frE_c hS hT hun hs4 (fun _ _ => rfl) hC0 (fun v hv => ?_) (fun v hv => ?_)
        · have q := Nat.lt_of_lt_of_le (isI_lt hS hT hun hv) hu'
          rw [e3 v (Nat.ne_of_lt q), c71 v (Nat.ne_of_lt q)]
        · exact hin v (Nat.lt_of_lt_of_le (isI_lt hS hT hun hv) hu')
      rw [← key]
      by_cases e : u = t
      · rw [e] at hs ⊢
        rw [e9 s hs]
        exact frE_c hS hT ht hs4 (fun _ _ => rfl) hC0 cD cDi
      · have q := Nat.lt_of_le_of_ne hu' e
        rw [e8 (4 * u + s) (by omega), gU_r (by decide), gU_r (by decide)]
        exact p5 u s q hs
  · obtain ⟨p1, p2, p3, p4, p5⟩ := hp
    refine ⟨M, ?_, p1, p2, p3, p4, p5⟩
    show f_X12_freshen_L2 _ (m + 1) (n : Int) M = _
    rw [f_X12_freshen_L2, But_q p1 rfl, hB, if_neg (Int.lt_irrefl _)]
