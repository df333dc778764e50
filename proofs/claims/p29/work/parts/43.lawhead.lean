def R_law : String := "BuildGridLaw"
def lw_P (b : Addr) (xs : List Int32) (args : Array Value) (s : State) : Prop := args = #[.ref b] ∧ s.IntsAt b xs ∧ xs.length ≤ 260 ∧ (Jvm.Cond.and given_1 narrow_1).before args s = true
def lw_Q (_ : Array Value) (s : State) (o : Outcome) (t : State) : Prop := o = .returned (some (.int 1)) ∧ Framed s o t [] 608946 7274932
def lw_Z (below : List Frame) (a : Array Value) (s : State) : State → Prop := fun t => ∃ o, t.status = .running ∧ Ended t below o ∧ lw_Q a s o t
/-- the law's own end, with 1 on the stack, nothing written that was there before, its room as the claim has it -/
theorem lw_ret {p : Program} {l : Launch} {e : Env} {s : State} {m : MethodId} {below : List Frame} {meth : Method} {c : Code} {b : Nat} (hx : p.tables.exec = Jvm.exec) (hb : c.code = code) (hr : meth.sig.returnType = ret) (hlocks : meth.locks = false) {pc : Nat} {H : Heap} {ls : Array Slot} (hdg : decode code pc = .ok (.ireturn, 1)) : W p l e room_1 s m #[Value.ref b] below meth c H [] 608946 7274932 (lw_Z below #[Value.ref b] s) (F0 m pc ls [.int 1]) := by
  intro T hT X
  obtain ⟨fs, hret, hrun, hended, hW, hframe⟩ := X.leave (v := some (.int 1)) (hlocks := hlocks) (fun h => by rw [hr] at h; cases h)
  have hmeth' : T.vm.method? m = some meth := X.method'
  refine ⟨T.setFrames fs, ?_, .returned (some (.int 1)), hrun, hended, rfl, ⟨_, rfl⟩, hW, hframe⟩
  jvm_step X.here [X.here.top, hx, hb, hdg, hmeth', hr, ret, narrow_b1]
  (try refine ⟨rfl, ?_⟩); (try refine ⟨rfl, ?_⟩)
  first | (intro acts; rw [hret _ acts rfl rfl rfl]) | rw [hret _ _ rfl rfl rfl]
  exact Steps.refl _
/-- what holds at the law's entry: the machine, the code, the tables' words (any of lw_tbl by 'hts w (by decide +kernel)'), the script of L ints xs at the cell b, what the Statement gives of the start (any of its parts by flat_of_before) -/
def lw_At (p : Program) (s : State) (m : MethodId) (meth : Method) (c : Code) (b L : Nat) (xs : Nat → Int32) : Prop :=
  p.tables.exec = Jvm.exec ∧ c.code = code ∧ meth.sig.returnType = ret ∧ c.maxLocals = 9 ∧ s.vm.findClass R_law = some m.cls ∧ (∀ w ∈ lw_tbl, w.before #[Value.ref b] s = true) ∧ va_X b L xs s s.heap ∧ b < s.heap.size ∧ meth.locks = false ∧ (Jvm.Cond.and given_1 narrow_1).before #[Value.ref b] s = true
section LAWMAIN
variable {G : gG} {p : Program} {l : Launch} {e : Env} {R : Room} {s : State} {m : MethodId} {args : Array Value} {below : List Frame} {meth : Method} {c : Code} {H : Heap} {locs : List Loc} {cells slots : Nat} {Q : State → Prop} {own : String} {cc : ByteArray} {nL : Nat} {rT : Option FieldType} {ws : List Cond} {pc : Nat} {ls : Array Slot} {st st0 : List Value} {M M' : gM} {lv : List (Nat × Value)} {y : MethodName} {b : ByteArray} {n : Nat} {r : Option FieldType} {fr lo mc ms : Nat} {Qc : Array Value → State → Outcome → State → Prop} {a index : Nat}
def gXs (xs : Nat → Int32) (k : Nat) : Int := (xs k).toInt
theorem g_sld (X : gX G p s m args meth c own cc nL rT ws) {b L : Nat} {xs : Nat → Int32} (hX : va_X b L xs s s.heap) (hbl : b < s.heap.size) (hbA : ¬ gA G b) (hS : va_S (gA G) s.heap H locs) {x : Int} (nx : nmI x) (hx : 0 ≤ x ∧ x < (L : Int)) (d : decode cc pc = .ok (.iaload, 1)) (kk : W p l e R s m args below meth c H locs cells slots Q (F0 m (pc + 1) ls (.int (iI (gXs xs x.toNat)) :: st))) : W p l e R s m args below meth c H locs cells slots Q (F0 m pc ls (.int (iI x) :: .ref b :: st)) :=
  va_sld X.1 X.2.1 hX hbl hbA hS (iI_in nx hx) d (by rw [iI_clamp nx]; rw [show xs x.toNat = iI (gXs xs x.toNat) from iI_of _]; exact kk)
theorem g_slen (X : gX G p s m args meth c own cc nL rT ws) {b L : Nat} {xs : Nat → Int32} (hX : va_X b L xs s s.heap) (hbl : b < s.heap.size) (hbA : ¬ gA G b) (hS : va_S (gA G) s.heap H locs) (d : decode cc pc = .ok (.arraylength, 1)) (kk : W p l e R s m args below meth c H locs cells slots Q (F0 m (pc + 1) ls (.int (iI (L : Int)) :: st))) : W p l e R s m args below meth c H locs cells slots Q (F0 m pc ls (.ref b :: st)) :=
  va_slen X.1 X.2.1 hX hbl hbA hS d (by rw [iI_nat]; exact kk)
theorem gGdW {ws : List Cond} (hs : ∀ w ∈ gBIG, w ∈ ws) {y : MethodName} {b : ByteArray} {n : Nat} {r : Option FieldType} {hh : List (Nat × Nat × Nat × Nat)} (h : Cond.codeWith y b n r hh ∈ gBIG) : GoodIn ws (gWsW y b n r hh) := by
  intro w hw
  rcases List.mem_cons.mp hw with e | e
  · subst e
    exact ⟨hs _ h, good_of_word rfl⟩
  · exact ⟨hs _ e, good_of_word (List.mem_filter.mp e).2⟩
theorem gRunLX (X : gX G p s m args meth c own cc nL rT ws) (Z : gS G s) (hH : gH G M H) (hS : va_S (gA G) s.heap H locs) {As : List Value} {hh : List (Nat × Nat × Nat × Nat)} (hM : gLMet l y b n r hh fr lo mc ms G M As Qc) (hcw : Cond.codeWith y b n r hh ∈ gBIG) (hini : Cond.initialized y.cls ∈ gBIG) (hy : y.cls ≠ "java/lang/invoke/MethodHandle" ∧ y.cls ≠ "java/lang/invoke/VarHandle") (hpar : (parseMethodDescriptor y.desc).map (fun d => d.parameters.length) = some a) (hst0 : Cond.static y ∈ gBIG) (hl : Cond.methodLink own index y ∈ gBIG) (hR : fr + 1 ≤ R.frames ∧ 8 + (n + 11) + lo ≤ R.locals) (hn : As.length = a) (hv : gLv ls nL lv) (hst : st0 = As.reverse ++ st) (hcat : (st.map fun v => v.category).sum ≤ 8) (hcap : cells + mc ≤ R.cells ∧ slots + ms ≤ R.slots) (d : decode cc pc = .ok (.invokestatic index, 3)) :
    vx_Run p l e R s m args below meth c H locs cells slots mc ms (F0 m pc ls st0) st (Qc As.toArray) (gXC G (fun _ => False) M) (gA G) :=
  vx_runSX (As := As) (rest := st) (gX_fix X) hM ⟨⟨rfl, rfl, hR.1, hR.2, pay_in X.2.2.2.2.2.1 (gGdW X.2.2.2.2.2.2.2.2 hcw), List.mem_cons_self⟩, gX_w X hcw, gX_w X hini, hy, fun sig h => by
    rw [h] at hpar
    exact (Option.some.inj hpar).symm, gX_w X hl, gX_w X hst0⟩ ⟨gPx_bl G M _, fun U hU hW => ⟨rfl, ⟨by rw [hU]; exact hH, gK_warm (gX_K X) hW⟩, gS_go Z hW hS hU⟩⟩ rfl hn hv.1.1 hst (lv_room hcat) d hcap
theorem gGoL {res : Int} {av : Array Value} (hr : vx_Run p l e R s m args below meth c H locs cells slots mc ms (F0 m pc ls st0) st (gXi G True res M' av) (gXC G (fun _ => False) M) (gA G)) (hS : va_S (gA G) s.heap H locs)
    (kk : ∀ (H1 : Heap) (locs1 : List Loc), nmI res → gH G M' H1 → va_S (gA G) s.heap H1 locs1 → W p l e R s m args below meth c H1 locs1 (cells + mc) (slots + ms) Q (F0 m (pc + 3) ls (.int (iI res) :: st))) : W p l e R s m args below meth c H locs cells slots Q (F0 m pc ls st0) :=
  gGoXI hr hS (fun E ce q9 H1 locs1 hE _ _ _ _ _ => by obtain ⟨_, h, _⟩ := hE; exact absurd h id) (fun H1 locs1 _ h1 h2 h3 => kk H1 locs1 h1 h2 h3)
theorem gLawEnd {b : Addr} (X : gX G p s m #[Value.ref b] meth c own code nL ret ws) (hG1 : G.1 = s.heap.size) (hS : va_S (gA G) s.heap H locs) (hc : cells ≤ 608946 ∧ slots ≤ 7274932) (d : decode code pc = .ok (.ireturn, 1)) : W p l e room_1 s m #[Value.ref b] below meth c H locs cells slots (lw_Z below #[Value.ref b] s) (F0 m pc ls [.int (iI 1)]) :=
  va_forget (fun q hq => by have h := hS.2.2 q hq; unfold gA at h; omega) (W.widen hc.1 hc.2 (lw_ret X.1 X.2.1 X.2.2.1 (gX_locks X) d))
end LAWMAIN
/-! ## a row of the law's own, that no method of the class reaches; the script, read in a method; how a call is made beside that row -/
def gBn (G : gG) (r : Nat) : gG := (G.1, (G.2.1.1, fun c k => if c = 1000 ∧ k = 0 then r + 1 else G.2.1.2 c k), G.2.2)
theorem gBn_d {G : gG} {r c : Nat} (h : c ≠ 1000) : (gBn G r).2.1.2 c = G.2.1.2 c := by
  funext k
  exact if_neg (fun q => h q.1)
theorem gBn_b {G : gG} {r : Nat} : gBan (gBn G r) = r + 1 := by
  show (if 1000 = 1000 ∧ 0 = 0 then r + 1 else G.2.1.2 1000 0) = r + 1
  exact if_pos ⟨rfl, rfl⟩
theorem gBn_A {G : gG} (h0 : gBan G = 0) {r q : Nat} (h : gA (gBn G r) q) : gA G q := gA_0 h0 h.1
theorem gBn_n {G : gG} {r : Nat} (h : G.1 + gN ≤ r) : ¬ gA (gBn G r) r := fun q => q.2 h gBn_b.symm
theorem gCl_lt {c : Nat} {q : vw_C} (h : gCl[c]? = some q) : c ≠ 1000 := by
  intro e
  subst e
  exact absurd (List.getElem?_eq_some_iff.mp h).1 (by decide)
theorem gBn_at {G : gG} {r : Nat} {q : Nat × va_E} {H : Heap} : va_at (gBn G r).2.1 gCl q H ↔ va_at G.2.1 gCl q H := by
  obtain ⟨a, e⟩ := q
  cases e with
  | inl x => exact Iff.rfl
  | inr o =>
    constructor
    · intro h
      obtain ⟨w, h1, h2⟩ := h
      refine ⟨w, h1, ?_⟩
      rw [gBn_d (gCl_lt h1)] at h2
      exact h2
    · intro h
      obtain ⟨w, h1, h2⟩ := h
      refine ⟨w, h1, ?_⟩
      rw [gBn_d (gCl_lt h1)]
      exact h2
theorem gBn_W {G : gG} {r : Nat} {M : gM} {n : Nat} : gWn (gBn G r) M n = gWn G M n := rfl
theorem gBn_H {G : gG} {r : Nat} {M : gM} {H : Heap} : gH (gBn G r) M H ↔ gH G M H :=
  ⟨fun h => ⟨h.1, fun k q hq => gBn_at.mp (h.2 k q hq)⟩, fun h => ⟨h.1, fun k q hq => gBn_at.mpr (h.2 k q hq)⟩⟩
theorem gBn_K {G : gG} {r : Nat} {U : State} (h : gK G U) : gK (gBn G r) U := ⟨⟨fun c q hq => by rw [gBn_d (gCl_lt hq)]; exact h.1.1 c q hq, h.1.2⟩, h.2⟩
theorem gBn_S {G : gG} {r : Nat} {U : State} (h0 : gBan G = 0) (h : gS G U) : gS (gBn G r) U := ⟨h.1.narrow (fun _ z => gBn_A h0 z), h.2.1.narrow (fun _ z => gBn_A h0 z), h.2.2.1, h.2.2.2⟩
/-- the law's own row of 24 -/
def gR (G : gG) (a : Nat) (R : Nat → Int) (H : Heap) : Prop := gC G a (.inl (G.2.2 0, 24, .inl (fun k => iI (R k)))) H ∧ ∀ k, nmI (R k)
theorem gR_k {G : gG} {a : Nat} {R : Nat → Int} {H H1 : Heap} (h : gR G a R H) (hk : H1[G.1 + a]? = H[G.1 + a]?) : gR G a R H1 := ⟨gC_k h.1 hk, h.2⟩
theorem gH_lt {G : gG} {M : gM} {H : Heap} (h : gH G M H) : G.1 + gN ≤ H.size := by
  have h1 : (gWn G M gN)[gN - 1]? = _ := gWn_at G M (by decide)
  have h2 := (h.2 _ _ h1).lt
  have h3 : G.1 + (gN - 1) < H.size := h2
  have h4 : gN - 1 + 1 = gN := by decide
  omega
theorem gH_ne {G : gG} {M : gM} {H H1 : Heap} {a : Nat} (h : gH G M H) (ha : gN ≤ a) (hk : ∀ q, q ≠ G.1 + a → H1[q]? = H[q]?) : gH G M H1 := by
  refine ⟨h.1, va_P.kept h.2 (fun k q hq => hk _ (fun e => ?_))⟩
  rcases Nat.lt_or_ge k gN with z | z
  · rw [gWn_at G M z] at hq
    cases hq
    have e : G.1 + k = G.1 + a := e
    omega
  · rw [gWn_ge G M z] at hq
    cases hq
section BAN
variable {G : gG} {p : Program} {l : Launch} {e : Env} {R9 : Room} {s : State} {m : MethodId} {args : Array Value} {below : List Frame} {meth : Method} {c : Code} {H : Heap} {locs : List Loc} {cells slots : Nat} {Q : State → Prop} {own : String} {cc : ByteArray} {nL : Nat} {rT : Option FieldType} {ws : List Cond} {pc : Nat} {ls : Array Slot} {st st0 : List Value} {M M' : gM} {lv : List (Nat × Value)} {y : MethodName} {b : ByteArray} {n : Nat} {r : Option FieldType} {fr lo mc ms : Nat} {Qc : Array Value → State → Outcome → State → Prop} {a a9 index : Nat} {R : Nat → Int} {res : Int} {av : Array Value} {C : String}
theorem gBn_X {r9 : Nat} (X : gX G p s m args meth c own cc nL rT ws) : gX (gBn G r9) p s m args meth c own cc nL rT ws := ⟨X.1, X.2.1, X.2.2.1, X.2.2.2.1, X.2.2.2.2.1, X.2.2.2.2.2.1, X.2.2.2.2.2.2.1, gBn_K X.2.2.2.2.2.2.2.1, X.2.2.2.2.2.2.2.2⟩
theorem gBn_va (has : s.heap.size ≤ G.1 + a9) (hS : va_S (gA G) s.heap H locs) : va_S (gA (gBn G (G.1 + a9))) s.heap H [] :=
  ⟨hS.1, fun q h1 h2 => hS.2.1 q h1 (fun z => h2 ⟨z.1, fun _ e => by rw [gBn_b] at e; omega⟩), fun _ h => nomatch h⟩
theorem gBL (X : gX G p s m args meth c own cc nL rT ws) (Z : gS G s) (h0 : gBan G = 0) (ha : gN ≤ a9) (has : s.heap.size ≤ G.1 + a9) (hH : gH G M H) (hR : gR G a9 R H) (hS : va_S (gA G) s.heap H locs) {As : List Value} {hh : List (Nat × Nat × Nat × Nat)} (hM : gLMet l y b n r hh fr lo mc ms (gBn G (G.1 + a9)) M As (gXi (gBn G (G.1 + a9)) True res M')) (hcw : Cond.codeWith y b n r hh ∈ gBIG) (hini : Cond.initialized y.cls ∈ gBIG) (hy : y.cls ≠ "java/lang/invoke/MethodHandle" ∧ y.cls ≠ "java/lang/invoke/VarHandle") (hpar : (parseMethodDescriptor y.desc).map (fun d => d.parameters.length) = some a) (hst0 : Cond.static y ∈ gBIG) (hl : Cond.methodLink own index y ∈ gBIG) (hRm : fr + 1 ≤ R9.frames ∧ 8 + (n + 11) + lo ≤ R9.locals) (hn : As.length = a) (hv : gLv ls nL lv) (hst : st0 = As.reverse ++ st) (hcat : (st.map fun v => v.category).sum ≤ 8) (hcap : cells + mc ≤ R9.cells ∧ slots + ms ≤ R9.slots) (d : decode cc pc = .ok (.invokestatic index, 3))
    (kk : ∀ (H1 : Heap) (locs1 : List Loc), nmI res → gH G M' H1 → gR G a9 R H1 → va_S (gA G) s.heap H1 locs1 → W p l e R9 s m args below meth c H1 locs1 (cells + mc) (slots + ms) Q (F0 m (pc + 3) ls (.int (iI res) :: st))) : W p l e R9 s m args below meth c H locs cells slots Q (F0 m pc ls st0) := by
  have hr : vx_Run p l e R9 s m args below meth c H locs cells slots mc ms (F0 m pc ls st0) st ((gXi (gBn G (G.1 + a9)) True res M') As.toArray) (gXC (gBn G (G.1 + a9)) (fun _ => False) M) (gA (gBn G (G.1 + a9))) :=
    vx_runSX (As := As) (rest := st) (gX_fix X) hM ⟨⟨rfl, rfl, hRm.1, hRm.2, pay_in X.2.2.2.2.2.1 (gGdW X.2.2.2.2.2.2.2.2 hcw), List.mem_cons_self⟩, gX_w X hcw, gX_w X hini, hy, fun sig h => by
      rw [h] at hpar
      exact (Option.some.inj hpar).symm, gX_w X hl, gX_w X hst0⟩ ⟨gPx_bl (gBn G (G.1 + a9)) M _, fun U hU hW => ⟨rfl, ⟨by rw [hU]; exact gBn_H.mpr hH, gK_warm (gX_K (gBn_X X)) hW⟩, gS_go (gBn_S h0 Z) hW (gBn_va has hS) hU⟩⟩ rfl hn hv.1.1 hst (lv_room hcat) d hcap
  exact vx_calli hr hS (fun q _ h => gBn_A h0 h) (fun q h => gBn_A h0 h) (fun q _ h => gBn_A h0 h) (fun E ce q9 u t H1 locs1 ht _ _ hB _ _ _ _ _ _ => by obtain ⟨⟨_, h, _⟩, _⟩ := hB; exact absurd h id) (fun v u t H1 locs1 ht _ hw hB _ hk hS1 => by
    rw [hw.2.1]
    exact kk H1 locs1 hw.2.2 (gBn_H.mp (by rw [← ht]; exact hB)) (gR_k hR (hk _ (gC_lt hR.1) (gBn_n (Nat.add_le_add_left ha _)))) hS1)
theorem gBI (X : gX G p s m args meth c own cc nL rT ws) (h0 : gBan G = 0) (ha : gN ≤ a9) (has : s.heap.size ≤ G.1 + a9) (hH : gH G M H) (hR : gR G a9 R H) (hS : va_S (gA G) s.heap H locs) {rr i : Nat} {As : List Value} (hM : gMet l y b n r fr lo (gBn G (G.1 + a9)) M (.ref (gAd (gBn G (G.1 + a9)) rr i) :: As) (gQi (gBn G (G.1 + a9)) res M')) (hCal : gCal y b n r a C) (hin : Cond.instanceMethod y ∈ gBIG) (hsel : Cond.selects C y y ∈ gBIG) (hl : Cond.methodLink own index y ∈ gBIG) (hi : i < gCnt rr) {ci : Nat} {T : u_T} {N : Nat} {ty : Nat → FieldType} (hC : gCO ci C T N ty) {fs : List Value} (hc : gCell (gBn G (G.1 + a9)) rr i (M rr i) = .inr (ci, fs)) (hRm : fr + 1 ≤ R9.frames ∧ 8 + (n + 11) + lo ≤ R9.locals) (hn : As.length = a) (hv : gLv ls nL lv) (hst : st0 = As.reverse ++ .ref (gAd G rr i) :: st) (hcat : (st.map fun v => v.category).sum ≤ 8) (hcap : cells ≤ R9.cells ∧ slots ≤ R9.slots) (d : decode cc pc = .ok (.invokevirtual index, 3))
    (kk : ∀ (H1 : Heap) (locs1 : List Loc), nmI res → gH G M' H1 → gR G a9 R H1 → va_S (gA G) s.heap H1 locs1 → W p l e R9 s m args below meth c H1 locs1 cells slots Q (F0 m (pc + 3) ls (.int (iI res) :: st))) : W p l e R9 s m args below meth c H locs cells slots Q (F0 m pc ls st0) :=
  va_calli (gRunV (gBn_X (r9 := G.1 + a9) X) (gBn_H.mpr hH) hM hCal hin hsel hl hi hC hc hRm hn hv hst hcat hcap d) hS (fun q _ h => gBn_A h0 h) (fun q h => gBn_A h0 h) (fun v u t H1 locs1 ht _ hw hB _ hk hS1 => by
    rw [hw.1]
    exact kk H1 locs1 hw.2 (gBn_H.mp (by rw [← ht]; exact hB.1)) (gR_k hR (hk _ (gC_lt hR.1) (gBn_n (Nat.add_le_add_left ha _)))) hS1)
theorem gBZ (X : gX G p s m args meth c own cc nL rT ws) (h0 : gBan G = 0) (ha : gN ≤ a9) (has : s.heap.size ≤ G.1 + a9) (hH : gH G M H) (hR : gR G a9 R H) (hS : va_S (gA G) s.heap H locs) {rr i : Nat} {As : List Value} (hM : gMet l y b n r fr lo (gBn G (G.1 + a9)) M (.ref (gAd (gBn G (G.1 + a9)) rr i) :: As) (gQz (gBn G (G.1 + a9)) res M')) (hCal : gCal y b n r a C) (hin : Cond.instanceMethod y ∈ gBIG) (hsel : Cond.selects C y y ∈ gBIG) (hl : Cond.methodLink own index y ∈ gBIG) (hi : i < gCnt rr) {ci : Nat} {T : u_T} {N : Nat} {ty : Nat → FieldType} (hC : gCO ci C T N ty) {fs : List Value} (hc : gCell (gBn G (G.1 + a9)) rr i (M rr i) = .inr (ci, fs)) (hRm : fr + 1 ≤ R9.frames ∧ 8 + (n + 11) + lo ≤ R9.locals) (hn : As.length = a) (hv : gLv ls nL lv) (hst : st0 = As.reverse ++ .ref (gAd G rr i) :: st) (hcat : (st.map fun v => v.category).sum ≤ 8) (hcap : cells ≤ R9.cells ∧ slots ≤ R9.slots) (d : decode cc pc = .ok (.invokevirtual index, 3))
    (kk : ∀ (H1 : Heap) (locs1 : List Loc), (res = 0 ∨ res = 1) → gH G M' H1 → gR G a9 R H1 → va_S (gA G) s.heap H1 locs1 → W p l e R9 s m args below meth c H1 locs1 cells slots Q (F0 m (pc + 3) ls (.int (iI res) :: st))) : W p l e R9 s m args below meth c H locs cells slots Q (F0 m pc ls st0) :=
  va_calli (gRunV (gBn_X (r9 := G.1 + a9) X) (gBn_H.mpr hH) hM hCal hin hsel hl hi hC hc hRm hn hv hst hcat hcap d) hS (fun q _ h => gBn_A h0 h) (fun q h => gBn_A h0 h) (fun v u t H1 locs1 ht _ hw hB _ hk hS1 => by
    rw [hw.1]
    exact kk H1 locs1 hw.2 (gBn_H.mp (by rw [← ht]; exact hB.1)) (gR_k hR (hk _ (gC_lt hR.1) (gBn_n (Nat.add_le_add_left ha _)))) hS1)
theorem gNewR (X : gX G p s m args meth c own cc nL rT ws) (hH : gH G M H) (hS : va_S (gA G) s.heap H locs) (hcells : cells + 1 ≤ R9.cells) (hslots : slots + 24 ≤ R9.slots) (harr : Cond.arrayClass .int ∈ gBIG) (d : decode cc pc = .ok (.newarray .int, 2))
    (kk : ∀ (a9 : Nat) (H1 : Heap), gN ≤ a9 → s.heap.size ≤ G.1 + a9 → gH G M H1 → gR G a9 (fun _ => 0) H1 → va_S (gA G) s.heap H1 locs → W p l e R9 s m args below meth c H1 locs (cells + 1) (slots + 24) Q (F0 m (pc + 2) ls (.ref (G.1 + a9) :: st))) : W p l e R9 s m args below meth c H locs cells slots Q (F0 m pc ls (.int (iI 24) :: st)) := by
  obtain ⟨a9, hz⟩ : ∃ a9, H.size = G.1 + a9 := ⟨H.size - G.1, by have := gH_lt hH; omega⟩
  have ha : gN ≤ a9 := by have := gH_lt hH; omega
  refine c_newa X (t0 := 0) harr rfl rfl (fun cA h1 h2 => gRA_eq h1 h2) hz hS (a0 := (24, .inl (fun _ => 0))) (fun _ => rfl) (by decide) (N' := 24) (by decide) (by decide) hcells hslots d (fun H1 hC _ hk hS1 => ?_)
  refine kk a9 H1 ha (by rw [← hz]; exact hS.1) (gH_kept hH hk) ⟨?_, fun _ => nmI_0⟩ hS1
  have e : (fun k : Nat => iI ((fun _ => 0 : Nat → Int) k)) = fun _ => (0 : Int32) := rfl
  rw [e]
  exact hC
theorem gRast (X : gX G p s m args meth c own cc nL rT ws) (h0 : gBan G = 0) (ha : gN ≤ a9) (hH : gH G M H) (hR : gR G a9 R H) (hS : va_S (gA G) s.heap H locs) {x v : Int} (nx : nmI x) (hx : 0 ≤ x ∧ x < ((24 : Nat) : Int)) (nv : nmI v) (d : decode cc pc = .ok (.iastore, 1))
    (kk : ∀ (H1 : Heap) (locs1 : List Loc), gH G M H1 → gR G a9 (g1 R x.toNat v) H1 → va_S (gA G) s.heap H1 locs1 → W p l e R9 s m args below meth c H1 locs1 cells slots Q (F0 m (pc + 1) ls st)) : W p l e R9 s m args below meth c H locs cells slots Q (F0 m pc ls (.int (iI v) :: .int (iI x) :: .ref (G.1 + a9) :: st)) := by
  refine c_iast X hR.1 (gA_0 h0 (Nat.le_add_right _ _)) hS (iI_in nx hx) d (fun H1 locs1 hC _ hk hS1 => ?_)
  refine kk H1 locs1 (gH_ne hH ha hk) ⟨?_, fun k => ?_⟩ hS1
  · rw [g_upd]
    rw [iI_clamp nx] at hC
    exact hC
  · unfold g1
    by_cases q : k = x.toNat
    · rw [if_pos q]; exact nv
    · rw [if_neg q]; exact hR.2 k
theorem gRald (X : gX G p s m args meth c own cc nL rT ws) (hR : gR G a9 R H) {x : Int} (nx : nmI x) (hx : 0 ≤ x ∧ x < ((24 : Nat) : Int)) (d : decode cc pc = .ok (.iaload, 1))
    (kk : W p l e R9 s m args below meth c H locs cells slots Q (F0 m (pc + 1) ls (.int (iI (R x.toNat)) :: st))) : W p l e R9 s m args below meth c H locs cells slots Q (F0 m pc ls (.int (iI x) :: .ref (G.1 + a9) :: st)) :=
  va_iald (D := G.2.1) (cl := gCl) (tys := gTys G) (ws := [(G.1 + a9, .inl (G.2.2 0, 24, .inl (fun k => iI (R k))))]) X.1 X.2.1 (gX_K X).1 (fun k q hq => by
    have hz : k < 1 := (List.getElem?_eq_some_iff.mp hq).1
    rw [show k = 0 by omega] at hq
    cases hq
    exact hR.1) 0 0 rfl rfl (iI_in nx hx) d (by rw [iI_clamp nx]; exact kk)
/-- what a method that reads the script starts with -/
def gPs (G : gG) (M : gM) (bb L : Nat) (xs : Nat → Int32) (av : List Value) : Array Value → State → Prop := va_Pc av (fun U => (gB G M U ∧ gS G U) ∧ (va_X bb L xs U U.heap ∧ bb < U.heap.size))
theorem gPs_bl (G : gG) (M : gM) (bb L : Nat) (xs : Nat → Int32) (av : List Value) : FrameBlind (gPs G M bb L xs av) := fun a U g mk q => ⟨q.1, ⟨⟨q.2.1.1.1, gK_same (U := U.calling g mk a) q.2.1.1.2 rfl⟩, gS_same q.2.1.2 rfl rfl⟩, va_X.moved (u := U) (U := U.calling g mk a) (Vm.Alike.refl U.vm) q.2.2.1, q.2.2.2⟩
def gSMet (l : Launch) (y : MethodName) (b : ByteArray) (n : Nat) (r : Option FieldType) (fr lo mc ms : Nat) (G : gG) (M : gM) (bb L : Nat) (xs : Nat → Int32) (av : List Value) (Qc : Array Value → State → Outcome → State → Prop) : Prop := vx_Met l y (gWs y b n r) { frames := fr, cells := mc, slots := ms, locals := lo } (gPs G M bb L xs av) Qc (gXC G (fun _ => False) M) mc ms (gA G)
theorem gOfS {bb L : Nat} {xs : Nat → Int32} {av : List Value} (hy : plainName y.cls = true) (hlen : (lg_sl av).length ≤ n) (hcat : (lv_args 0 av).all (fun q => q.2.category == 1) = true)
    (body : ∀ (p : Program) (e : Env) (s : State) (m : MethodId) (below : List Frame) (meth : Method) (c : Code), gX G p s m av.toArray meth c y.cls b n r (gWs y b n r) → gS G s → gH G M s.heap → va_X bb L xs s s.heap → bb < s.heap.size → ∀ ls, gLv ls n (lv_args 0 av) → W p l e { frames := fr, cells := mc, slots := ms, locals := lo } s m av.toArray below meth c s.heap [] 0 0 (vx_MQ below Qc (gXC G (fun _ => False) M) av.toArray s mc ms (gA G)) (F0 m 0 ls [])) : gSMet l y b n r fr lo mc ms G M bb L xs av Qc := by
  refine vx_ofW (cc := b) (maxL := n) (ret := r) hy rfl ?_
  intro p e s m args below meth c s₁ B hml hnt hv
  obtain ⟨rfl, ⟨⟨hH, hK⟩, hZ⟩, hX, hbl⟩ := hv
  rw [lg_entry_eq]
  exact body p e s m below meth c ⟨B.exec, B.bytes, B.returns, hml, findClass_of_methodNamed B.named, atoms_spec (ws := gWs y b n r) B.pre, B.notSynchronized, hK, fun w hw => List.mem_cons_of_mem _ hw⟩ hZ hH hX hbl _ (gLv_nil (lv_entry av hlen) hcat)
theorem gRunSS {bb L : Nat} {xs : Nat → Int32} (X : gX G p s m args meth c own cc nL rT ws) (Z : gS G s) (hH : gH G M H) (hS : va_S (gA G) s.heap H locs) (hXs : va_X bb L xs s s.heap) (hbl : bb < s.heap.size) (hbA : ¬ gA G bb) {As : List Value} (hM : gSMet l y b n r fr lo mc ms G M bb L xs As Qc) (hCal : gCal y b n r a C) (hst0 : Cond.static y ∈ gBIG) (hl : Cond.methodLink own index y ∈ gBIG) (hR : fr + 1 ≤ R9.frames ∧ 8 + (n + 11) + lo ≤ R9.locals) (hn : As.length = a) (hv : gLv ls nL lv) (hst : st0 = As.reverse ++ st) (hcat : (st.map fun v => v.category).sum ≤ 8) (hcap : cells + mc ≤ R9.cells ∧ slots + ms ≤ R9.slots) (d : decode cc pc = .ok (.invokestatic index, 3)) :
    vx_Run p l e R9 s m args below meth c H locs cells slots mc ms (F0 m pc ls st0) st (Qc As.toArray) (gXC G (fun _ => False) M) (gA G) :=
  vx_runS (As := As) (rest := st) (gX_fix X) hM ⟨callB_of a X.2.2.2.2.2.1 (gGd X.2.2.2.2.2.2.2.2 hCal.1) rfl rfl rfl (gX_w X hCal.2.1) (gX_w X hl) ⟨hCal.2.2.2.1.1, hCal.2.2.2.1.2, hCal.2.2.2.2⟩ hR, gX_w X hst0⟩ ⟨gPs_bl G M bb L xs _, fun U hU hW => ⟨rfl, ⟨⟨by rw [hU]; exact hH, gK_warm (gX_K X) hW⟩, gS_go Z hW hS hU⟩, by rw [hU]; exact (hXs.moved hW.alike).kept (hS.2.1 bb hbl hbA), by rw [hU]; exact Nat.lt_of_lt_of_le hbl hS.1⟩⟩ rfl hn hv.1.1 hst (lv_room hcat) d hcap
end BAN
