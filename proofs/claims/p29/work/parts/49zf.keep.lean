/-! ### the class keeps -/
theorem flC {A : gM} {p : Nat} {key file con r w : Int} : But [10] (f_X3_fill p key file con r w A) A ∧ (∀ x j, x ≠ p → f_X3_fill p key file con r w A 10 x j = A 10 x j) ∧ f_X3_fill p key file con r w A 10 p 0 = key ∧ f_X3_fill p key file con r w A 10 p 1 = file ∧ f_X3_fill p key file con r w A 10 p 2 = con ∧ f_X3_fill p key file con r w A 10 p 3 = r ∧ f_X3_fill p key file con r w A 10 p 4 = w ∧ f_X3_fill p key file con r w A 10 p 5 = sg3 key r w ∧ f_X3_fill p key file con r w A 10 p 6 = 1 := by
  unfold f_X3_fill
  refine ⟨But_u (But_u (But_u (But_u (But_u (But_u (But_u But_r rfl) rfl) rfl) rfl) rfl) rfl) rfl, fun x j hx => ?_, ?_, ?_, ?_, ?_, ?_, ?_, ?_⟩
  · rw [gU_ne (fun z => hx z.2.1), gU_ne (fun z => hx z.2.1), gU_ne (fun z => hx z.2.1), gU_ne (fun z => hx z.2.1), gU_ne (fun z => hx z.2.1), gU_ne (fun z => hx z.2.1), gU_ne (fun z => hx z.2.1)]
  · rw [gU_k (by decide), gU_k (by decide), gU_k (by decide), gU_k (by decide), gU_k (by decide), gU_k (by decide), gU_s]
  · rw [gU_k (by decide), gU_k (by decide), gU_k (by decide), gU_k (by decide), gU_k (by decide), gU_s]
  · rw [gU_k (by decide), gU_k (by decide), gU_k (by decide), gU_k (by decide), gU_s]
  · rw [gU_k (by decide), gU_k (by decide), gU_k (by decide), gU_s]
  · rw [gU_k (by decide), gU_k (by decide), gU_s]
  · rw [gU_s]
    unfold f_X3_rightSignature f_X11_plus
    simp (disch := decide) only [gU_k, gU_s]
    rfl
  · rw [gU_k (by decide), gU_s]
theorem RE_t {A B A' B' : gM} {p p' e e' : Nat} (h : RE A B p e) (hA : ∀ j, A' 10 p' j = A 10 p j) (hB : ∀ q, q ∈ [46, 47, 48, 49, 50, 51, 52] → B' q 0 e' = B q 0 e) : RE A' B' p' e' := by
  unfold RE at h ⊢
  rw [hA, hA, hA, hA, hA, hA, hA, hB 46 (by decide), hB 47 (by decide), hB 48 (by decide), hB 49 (by decide), hB 50 (by decide), hB 51 (by decide), hB 52 (by decide)]
  exact h
theorem kpX {A M : gM} {l f : Nat} {key file con r w : Int} (hl : l < 40) (hf : f < 40) (hff : f = 0 ∨ l + 1 = 40) (a1 : A 3 0 1 = (f : Int)) (a2 : A 3 0 2 = ((l + 1 : Nat) : Int)) (hE : ∀ e, e < l → RE A M ((f + e) % 40) e) (hk : 0 ≤ key ∧ key ≤ 100002) (hr : 0 ≤ r ∧ r ≤ 100002) (hw : 0 ≤ w ∧ w ≤ 3) : ∃ A' : gM, (ob (f_X1_entryAt (wI ((A 3 0 2) - 1)) A) fun r57 => om r57 (some A) fun a64 => some ((f_X3_fill a64 key file con r w A))) = some A' ∧ But [10] A' A ∧ RC A' (gU (rw7 M l key file con r w (sg3 key r w) 0) 29 0 21 ((l : Int) + 1)) := by
  have w1 : wI (((l + 1 : Nat) : Int) - 1) = (l : Int) := by rw [show ((l + 1 : Nat) : Int) - 1 = (l : Int) by omega, wI_n (by omega)]
  obtain ⟨f0, f1, g0, g1, g2, g3, g4, g5, g6⟩ := flC (A := A) (p := (f + l) % 40) (key := key) (file := file) (con := con) (r := r) (w := w)
  obtain ⟨c0, c1, c2, c3, c4, c5, c6⟩ := rw7_c (B := M) (e := l) (v0 := key) (v1 := file) (v2 := con) (v3 := r) (v4 := w) (v5 := sg3 key r w) (v6 := 0)
  refine ⟨f_X3_fill ((f + l) % 40) key file con r w A, ?_, f0, l + 1, f, hl, hf, hff, by rw [But_q f0 rfl]; exact a1, by rw [But_q f0 rfl]; exact a2, by rw [gU_s]; rfl, fun e he => ?_⟩
  · rw [a2, w1, eAt a1 a2 hf hl (Nat.lt_succ_self l), ob_s, om_some]
  · by_cases q : e = l
    · rw [q]
      unfold RE
      rw [g0, g1, g2, g3, g4, g5, g6, gU_r (by decide), gU_r (by decide), gU_r (by decide), gU_r (by decide), gU_r (by decide), gU_r (by decide), gU_r (by decide), c0, c1, c2, c3, c4, c5, c6, if_pos rfl, if_pos rfl, if_pos rfl, if_pos rfl, if_pos rfl, if_pos rfl, if_pos rfl]
      exact ⟨rfl, rfl, rfl, rfl, rfl, rfl, Or.inl ⟨rfl, rfl⟩, hk, hr, hw⟩
    · have hel : e < l := lt_ne he q
      refine RE_t (hE e hel) (fun j => f1 _ j (ring_ne hf (Nat.lt_trans hel hl) hl q)) (fun x hx => ?_)
      have n29 : x ≠ 29 := fun z => by rw [z] at hx; exact absurd hx (by decide)
      rw [gU_r n29]
      simp only [List.mem_cons, List.not_mem_nil, or_false] at hx
      rcases hx with rfl | rfl | rfl | rfl | rfl | rfl | rfl
      · rw [c0, if_neg q]
      · rw [c1, if_neg q]
      · rw [c2, if_neg q]
      · rw [c3, if_neg q]
      · rw [c4, if_neg q]
      · rw [c5, if_neg q]
      · rw [c6, if_neg q]
theorem rot40 {f e : Nat} (he : e < 39) : ((f + 1) % 40 + e) % 40 = (f + (e + 1)) % 40 := by omega
/-- both keep -/
theorem kpCM {A B : gM} {key file con r w : Int} (h : RC A B) (hk : 0 ≤ key ∧ key ≤ 100002) (hr : 0 ≤ r ∧ r ≤ 100002) (hw : 0 ≤ w ∧ w ≤ 3) : ∃ A' B' : gM, f_X1_keep key file con r w A = some A' ∧ f_X12_keep key file con r w B = some B' ∧ RC A' B' ∧ But [3, 10] A' A ∧ But [29, 46, 47, 48, 49, 50, 51, 52] B' B ∧ (∀ j, j ≠ 1 → j ≠ 2 → A' 3 0 j = A 3 0 j) ∧ ∀ j, j ≠ 21 → B' 29 0 j = B 29 0 j := by
  have h0 := h
  obtain ⟨z, f, hz, hf, hfz, a1, a2, b21, hE⟩ := h
  rcases haC (key := key) (file := file) (con := con) (r := r) (w := w) hz hf a1 a2 hE with ⟨p1, e, e1, e2⟩ | ⟨p1, p2⟩
  · rcases kpM (key := key) (file := file) (con := con) (r := r) (w := w) hz b21 with ⟨q1, -⟩ | ⟨q1, -⟩
    · refine ⟨A, B, ?_, q1, h0, But_r, But_r, fun _ _ _ => rfl, fun _ _ => rfl⟩
      unfold f_X1_keep
      rw [p1, ob_s, if_neg ne10]
    · exact absurd e2 (q1 e e1)
  · rcases kpM (key := key) (file := file) (con := con) (r := r) (w := w) hz b21 with ⟨-, e, e1, e2⟩ | ⟨-, M, l, q1, ql, qM, q29, q46⟩
    · exact absurd e2 (p2 e e1)
    · have cl : ∀ A2 : gM, (if A 3 0 2 < 40 then gU A 3 0 2 (wI ((A 3 0 2) + 1)) else gU A 3 0 1 (gRem (wI ((A 3 0 1) + 1)) 40)) = A2 → f_X1_keep key file con r w A = (ob (f_X1_entryAt (wI ((A2 3 0 2) - 1)) A2) fun r57 => om r57 (some A2) fun a64 => some ((f_X3_fill a64 key file con r w A2))) := by
        intro A2 e2
        unfold f_X1_keep
        rw [p1, ob_s, if_pos rfl]
        dsimp only [oj]
        by_cases e40 : A 3 0 2 < 40
        · rw [if_pos e40] at e2 ⊢
          rw [e2]
        · rw [if_neg e40] at e2 ⊢
          rw [e2]
      have fB : ∀ v : Int, But [29, 46, 47, 48, 49, 50, 51, 52] (gU (rw7 M l key file con r w (sg3 key r w) 0) 29 0 21 v) B := fun v => But_u (But_t qM (But_w rw7_o rfl)) rfl
      have f29 : ∀ v : Int, ∀ j, j ≠ 21 → gU (rw7 M l key file con r w (sg3 key r w) 0) 29 0 21 v 29 0 j = B 29 0 j := fun v j hj => by rw [gU_k hj, But_q rw7_o rfl, q29 j hj]
      by_cases e40 : z = 40
      · rw [if_pos e40] at ql
        have n40 : ¬ A 3 0 2 < 40 := by rw [a2, e40]; decide
        have w1 : gRem (wI ((A 3 0 1) + 1)) 40 = (((f + 1) % 40 : Nat) : Int) := by
          rw [a1, wI_s (by omega), show (40 : Int) = ((40 : Nat) : Int) from rfl, gRem_n (by omega) (by decide) (by decide)]
        have c := cl _ (if_neg n40)
        rw [w1] at c
        obtain ⟨A', x1, x2, x3⟩ := kpX (A := gU A 3 0 1 (((f + 1) % 40 : Nat) : Int)) (M := M) (l := l) (f := (f + 1) % 40) (file := file) (con := con) (by omega) (Nat.mod_lt _ (by decide)) (Or.inr (by omega)) (gU_s _ _ _ _ _) (by rw [gU_k (by decide), a2, e40, ql]) (fun e he => by
          have he39 : e < 39 := by omega
          rw [rot40 he39]
          refine RE_t (hE (e + 1) (by omega)) (fun j => by rw [gU_r (by decide)]) (fun x hx => by rw [q46 x hx, if_pos ⟨e40, he39⟩])) hk hr hw
        refine ⟨A', _, c.trans x1, q1, x3, But_t (But_u But_r rfl) (But_w x2 rfl), fB _, fun j j1 j2 => by rw [But_q x2 rfl, gU_k j1], f29 _⟩
      · rw [if_neg e40] at ql
        have y40 : A 3 0 2 < 40 := by rw [a2]; omega
        have w1 : wI ((A 3 0 2) + 1) = ((l + 1 : Nat) : Int) := by rw [a2, wI_s (by omega), ql]
        have f0 : f = 0 := hfz.resolve_right e40
        have c := cl _ (if_pos y40)
        rw [w1] at c
        obtain ⟨A', x1, x2, x3⟩ := kpX (A := gU A 3 0 2 ((l + 1 : Nat) : Int)) (M := M) (l := l) (f := f) (file := file) (con := con) (by omega) hf (Or.inl f0) (by rw [gU_k (by decide), a1]) (gU_s _ _ _ _ _) (fun e he => RE_t (hE e (by omega)) (fun j => by rw [gU_r (by decide)]) (fun x hx => by rw [q46 x hx, if_neg (fun t => e40 t.1)])) hk hr hw
        refine ⟨A', _, c.trans x1, q1, x3, But_t (But_u But_r rfl) (But_w x2 rfl), fB _, fun j j1 j2 => by rw [But_q x2 rfl, gU_k j2], f29 _⟩
