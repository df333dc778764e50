/-! ## more rows -/
def gArr (r n : Nat) : Prop := (∀ (G : gG) (i : Nat) (m0 : Nat → Int), gCell G r i m0 = .inl (G.2.2 0, n, .inl (fun k => iI (m0 k)))) ∧ (∀ k, gZ r k = false) ∧ n < 2147483648 ∧ r ≠ 11
theorem nmI_l {x : Int} (h : -2147483648 ≤ x ∧ x ≤ 2147483647) : nmI x := h
theorem iI_nat (n : Nat) : Int32.ofNat n = iI (n : Int) := Int32.ofInt_eq_ofNat.symm
def om {β : Type} (o : Option Nat) (a : β) (b : Nat → β) : β := match o with
  | none => a
  | some x => b x
theorem om_n {β : Type} {a : β} {b : Nat → β} {r : β} (h : om none a b = r) : a = r := h
theorem om_s {β : Type} {a : β} {b : Nat → β} {x : Nat} {r : β} (h : om (some x) a b = r) : b x = r := h
theorem gAct_lt {x : Int} {a : Nat} (h : x < 60) (e : gAct x = some a) : a < 60 := by
  unfold gAct at e
  by_cases q : x < 0
  · rw [if_pos q] at e; cases e
  · rw [if_neg q] at e; cases e; omega
/-- a contract out of a body's walk, for a method of the JDK's that no native stands for -/
theorem gOfWF {l : Launch} {G : gG} {y : MethodName} {b : ByteArray} {n : Nat} {r : Option FieldType} {fr lo : Nat} {M : gM} {av : List Value} {Qc : Array Value → State → Outcome → State → Prop} (hy : plainFor y = true) (hlen : (lg_sl av).length ≤ n) (hcat : (lv_args 0 av).all (fun q => q.2.category == 1) = true)
    (body : ∀ (p : Program) (e : Env) (s : State) (m : MethodId) (below : List Frame) (meth : Method) (c : Code), gX G p s m av.toArray meth c y.cls b n r (gWs y b n r) → gH G M s.heap → ∀ ls, gLv ls n (lv_args 0 av) → W p l e { frames := fr, cells := 0, slots := 0, locals := lo } s m av.toArray below meth c s.heap [] 0 0 (MQ below Qc av.toArray s 0 0 (gA G)) (F0 m 0 ls [])) : gMet l y b n r fr lo G M av Qc := by
  unfold gMet Met
  refine MetFree.of_bodySF (code := b) (maxLocals := n) (ret := r) hy ?_ ?_
  · intro args s m h hn
    obtain ⟨meth, c, h1, h2, h3, h4, h5, h6, -, -⟩ := Cond.code_spec hn (atoms_spec (ws := gWs y b n r) h _ List.mem_cons_self)
    exact ⟨meth, c, h1, h2, h3, h4, h5, h6⟩
  · intro p e s m args below meth c s₁ B hml hv _
    have hh0 : s₁.heap = s.heap := by rw [B.state]; rfl
    obtain ⟨rfl, hH, hK⟩ := hv
    have hb := body p e s m below meth c ⟨B.exec, B.bytes, B.returns, hml, findClass_of_methodNamed B.named, atoms_spec (ws := gWs y b n r) B.pre, B.notSynchronized, hK, fun w hw => List.mem_cons_of_mem _ hw⟩ hH _ (gLv_nil (lv_entry av hlen) hcat)
    rw [← lg_entry_eq] at hb
    obtain ⟨t, a1, o, b1, b2, b3⟩ := hb s₁ hh0 (Stand.of_body B)
    exact ⟨t, o, a1, b1, b2, ⟨b3.1, b3.2⟩⟩
theorem gArr_12 : gArr 12 16 := ⟨fun _ _ _ => rfl, fun _ => rfl, by decide, by decide⟩
theorem gArr_13 : gArr 13 4 := ⟨fun _ _ _ => rfl, fun _ => rfl, by decide, by decide⟩
theorem gArr_14 : gArr 14 4 := ⟨fun _ _ _ => rfl, fun _ => rfl, by decide, by decide⟩
theorem gArr_15 : gArr 15 30 := ⟨fun _ _ _ => rfl, fun _ => rfl, by decide, by decide⟩
theorem gArr_16 : gArr 16 30 := ⟨fun _ _ _ => rfl, fun _ => rfl, by decide, by decide⟩
theorem gArr_17 : gArr 17 4 := ⟨fun _ _ _ => rfl, fun _ => rfl, by decide, by decide⟩
theorem gArr_18 : gArr 18 4 := ⟨fun _ _ _ => rfl, fun _ => rfl, by decide, by decide⟩
theorem gArr_19 : gArr 19 4 := ⟨fun _ _ _ => rfl, fun _ => rfl, by decide, by decide⟩
theorem gArr_20 : gArr 20 4 := ⟨fun _ _ _ => rfl, fun _ => rfl, by decide, by decide⟩
theorem gArr_21 : gArr 21 14 := ⟨fun _ _ _ => rfl, fun _ => rfl, by decide, by decide⟩
theorem gArr_22 : gArr 22 14 := ⟨fun _ _ _ => rfl, fun _ => rfl, by decide, by decide⟩
theorem gArr_23 : gArr 23 14 := ⟨fun _ _ _ => rfl, fun _ => rfl, by decide, by decide⟩
theorem gArr_24 : gArr 24 5 := ⟨fun _ _ _ => rfl, fun _ => rfl, by decide, by decide⟩
theorem gPutA (G : gG) (i : Nat) (m0 : Nat → Int) (a : Nat) : gCell G 11 i (g1 m0 3 (a : Int)) = .inr (10, ([.int (iI (m0 0)), .int (iI (m0 1)), .int (iI (m0 2)), va_re (gAd G 9) (gAct (m0 3)), .int (iI (m0 4)), .int (iI (m0 5)), .int (iI (m0 6)), .int (iI (m0 7))] : List Value).set 3 (.ref (gAd G 9 a))) := by
  have h : va_re (gAd G 9) (gAct (a : Int)) = .ref (gAd G 9 a) := by
    rw [gAct_nat]; rfl
  show (Sum.inr (10, [.int (iI (m0 0)), .int (iI (m0 1)), .int (iI (m0 2)), va_re (gAd G 9) (gAct (a : Int)), .int (iI (m0 4)), .int (iI (m0 5)), .int (iI (m0 6)), .int (iI (m0 7))]) : va_E) = _
  rw [h]; rfl
