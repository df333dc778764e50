/-! ## throwing: a method's picture answers .inl (the exception's number) or .inr (its answer) -/
def gExc (e : Nat) : String := if e = 1 then "java/lang/IllegalArgumentException" else if e = 2 then "java/lang/IndexOutOfBoundsException" else "java/lang/IllegalStateException"
def gStr : List (String × Nat × String) := [("BuildGrid", 276, "an argument is out of range"), ("BuildGrid", 280, "not as things stand now"), ("BuildGrid", 285, "no such target"), ("BuildGrid", 178, "no such entry, or what is out of range")]
def gS (G : gG) (U : State) : Prop := vx_Zq Bundle.tN "UNASSIGNED_STACK" Bundle.steD (gA G) U U.heap ∧ vx_Zq Bundle.tN "SUPPRESSED_SENTINEL" Bundle.listD (gA G) U U.heap ∧ (∀ z ∈ gStr, ∃ a, vk_R z.1 z.2.1 z.2.2 a U) ∧ ∀ a b, a ∈ [1, 2, 3] → b ∈ [1, 2, 3] → a ≠ b → va_Nc (gExc a) (gExc b) U
theorem gS_same {G : gG} {s U : State} (h : gS G s) (hv : s.vm = U.vm) (hh : s.heap = U.heap) : gS G U := by
  have ha : s.vm.Alike U.vm := by rw [← hv]; exact Vm.Alike.refl s.vm
  refine ⟨by rw [← hh]; exact vx_Zq.moved ha h.1, by rw [← hh]; exact vx_Zq.moved ha h.2.1, fun z hz => ?_, fun a b ha9 hb9 hn => va_Nc.moved ha (h.2.2.2 a b ha9 hb9 hn)⟩
  obtain ⟨a, hk⟩ := h.2.2.1 z hz
  exact ⟨a, vk_R.same hv.symm hk⟩
theorem gS_go {G : gG} {s U : State} {H : Heap} {locs : List Loc} (h : gS G s) (hW : s.WarmedH U.vm) (hS : va_S (gA G) s.heap H locs) (hU : U.heap = H) : gS G U := by
  refine ⟨?_, ?_, fun z hz => ?_, fun a b ha9 hb9 hn => va_Nc.moved hW.alike (h.2.2.2 a b ha9 hb9 hn)⟩
  · rw [hU]; exact vx_Zq.kept (vx_Zq.moved hW.alike h.1) hS.2.1
  · rw [hU]; exact vx_Zq.kept (vx_Zq.moved hW.alike h.2.1) hS.2.1
  · obtain ⟨a, hk⟩ := h.2.2.1 z hz
    exact ⟨a, vk_R.warm hW hk⟩
theorem gH_kept {G : gG} {M : gM} {H H1 : Heap} (h : gH G M H) (hq : ∀ q : Nat, q < H.size → H1[q]? = H[q]?) : gH G M H1 := ⟨h.1, va_P.kept h.2 (fun k q hk => hq q.1 (h.2 k q hk).lt)⟩
def gNm : List String := ["java/lang/RuntimeException", "java/lang/Exception"]
theorem gHat {args : Array Value} {s : State} {G : gG} {L : List Cond} (hK : gK G s) (hb : ∀ w ∈ gBIG, w.before args s = true) (h : ∀ w ∈ L, w ∈ lw_tbl ∧ (goodWord w || (gIsN w && w.onTables)) = true) : (∀ w ∈ L, w.before args s = true) ∧ ∀ w ∈ L, vx_ot w = true := by
  refine ⟨fun w hw => ?_, fun w hw => ?_⟩
  · obtain ⟨h1, h2⟩ := h w hw
    rcases Bool.or_eq_true_iff.mp h2 with q | q
    · exact hb w (List.mem_filter.mpr ⟨h1, q⟩)
    · have q2 := Bool.and_eq_true_iff.mp q
      exact va_Nw.use q2.2 (hK.2 w (List.mem_filter.mpr ⟨h1, q2.1⟩))
  · obtain ⟨h1, h2⟩ := h w hw
    unfold vx_ot
    rcases Bool.or_eq_true_iff.mp h2 with q | q
    · rw [q, Bool.or_true]
    · rw [(Bool.and_eq_true_iff.mp q).2, Bool.true_or]
def gPx (G : gG) (M : gM) (av : List Value) : Array Value → State → Prop := va_Pc av (fun U => gB G M U ∧ gS G U)
theorem gPx_bl (G : gG) (M : gM) (av : List Value) : FrameBlind (gPx G M av) := fun a U g mk q => ⟨q.1, ⟨q.2.1.1, gK_same (U := U.calling g mk a) q.2.1.2 rfl⟩, gS_same q.2.2 rfl rfl⟩
def gXC (G : gG) (P : Nat → Prop) (M : gM) : String → State → State → Prop := vx_X (fun (_ : Unit) => True) (fun E _ t => (∃ e, P e ∧ E = gExc e) ∧ gH G M t.heap) (gA G)
def gXi (G : gG) (ok : Prop) (res : Int) (M : gM) : Array Value → State → Outcome → State → Prop := va_Qi (fun (v : Int32) (_ : Unit) => ok ∧ v = iI res ∧ nmI res) (fun _ U => gH G M U.heap) (gA G)
def gXz (G : gG) (ok : Prop) (res : Int) (M : gM) : Array Value → State → Outcome → State → Prop := va_Qi (fun (v : Int32) (_ : Unit) => ok ∧ v = iI res ∧ (res = 0 ∨ res = 1)) (fun _ U => gH G M U.heap) (gA G)
def gXv (G : gG) (ok : Prop) (M : gM) : Array Value → State → Outcome → State → Prop := va_Qv (fun (_ : Unit) => ok) (fun _ U => gH G M U.heap) (gA G)
def gXr (G : gG) (ok : Prop) (reg i : Nat) (M : gM) : Array Value → State → Outcome → State → Prop := va_Qr (fun (_ : Unit) => ok) (fun _ a U => (a = gAd G reg i ∧ i < gCnt reg) ∧ gH G M U.heap) (gA G)
def gXMet (l : Launch) (y : MethodName) (b : ByteArray) (n : Nat) (r : Option FieldType) (fr lo mc ms : Nat) (G : gG) (M : gM) (av : List Value) (Qc : Array Value → State → Outcome → State → Prop) (P : Nat → Prop) : Prop := vx_Met l y (gWs y b n r) { frames := fr, cells := mc, slots := ms, locals := lo } (gPx G M av) Qc (gXC G P M) mc ms (gA G)
def ox {α β : Type} (r : Nat ⊕ α) (k : α → Option (Nat ⊕ β)) : Option (Nat ⊕ β) := match r with
  | .inl e => some (.inl e)
  | .inr v => k v
theorem ox_i {α β : Type} {v : α} {k : α → Option (Nat ⊕ β)} {r : Option (Nat ⊕ β)} (h : ox (Sum.inr v) k = r) : k v = r := h
def gvI (q : Nat ⊕ Int) : Int := match q with | .inr z => z | .inl _ => 0
def gvN (q : Nat ⊕ Nat) : Nat := match q with | .inr z => z | .inl _ => 0
def gvM (q : Nat ⊕ gM) : gM := match q with | .inr z => z | .inl _ => fun _ _ _ => 0
def gvP (q : Nat ⊕ (Int × gM)) : Int × gM := match q with | .inr z => z | .inl _ => (0, fun _ _ _ => 0)
section THR
variable {G : gG} {p : Program} {l : Launch} {e : Env} {R : Room} {s : State} {m : MethodId} {args : Array Value} {below : List Frame} {meth : Method} {c : Code} {H : Heap} {locs : List Loc} {cells slots : Nat} {Q : State → Prop} {own : String} {cc : ByteArray} {nL : Nat} {ret : Option FieldType} {ws : List Cond} {pc : Nat} {ls : Array Slot} {st st0 : List Value} {M M' : gM} {lv : List (Nat × Value)} {y : MethodName} {b : ByteArray} {n : Nat} {r : Option FieldType} {fr lo mc ms mc' ms' : Nat} {Qc : Array Value → State → Outcome → State → Prop} {a index : Nat} {C : String} {res : Int} {av : Array Value} {P P' : Nat → Prop}
theorem gThrowW (hl : l.stackTraces = false) (X : gX G p s m args meth c own cc nL ret ws) (Z : gS G s) (hnt : ∀ x ∈ c.exceptionTable.toList, False) (hH : gH G M H) (hS : va_S (gA G) s.heap H locs) (hv : gLv ls nL lv) {ik is ic e9 : Nat} {text : String} (hcls : Bundle.fit (gExc e9) = true) (hk : Cond.classLink own ik (gExc e9) ∈ gBIG) (hini : Cond.initialized (gExc e9) ∈ gBIG) (hstr : (own, is, text) ∈ gStr) (hat : ∀ w ∈ vx_atS own ic (gExc e9) gNm, w ∈ lw_tbl ∧ (goodWord w || (gIsN w && w.onTables)) = true)
    (d0 : decode cc pc = .ok (.new ik, 3)) (d3 : decode cc (pc + 3) = .ok (.dup, 1)) (d4 : decode cc (pc + 4) = .ok (.ldc_w is, 3)) (d7 : decode cc (pc + 7) = .ok (.invokespecial ic, 3)) (d10 : decode cc (pc + 10) = .ok (.athrow, 1))
    (hRf : 5 < R.frames) (hRl : (st.map fun v => v.category).sum + 82 ≤ R.locals) (hRc : cells + 1 ≤ R.cells ∧ slots + 6 ≤ R.slots) (hc : cells + 1 ≤ mc ∧ slots + 6 ≤ ms) (hP : P e9) :
    W p l e R s m args below meth c H locs cells slots (vx_MQ below Qc (gXC G P M) args s mc ms (gA G)) (F0 m pc ls st) := by
  obtain ⟨sa, hsa⟩ := Z.2.2.1 _ hstr
  have hw := gHat (args := args) (gX_K X) (fun w h => gX_w X h) hat
  refine vx_throwSW (A := gA G) (names := gNm) X.1 X.2.1 hl (gX_own X) hcls (by decide) (gX_w X hk) (gX_w X hini) hsa hw.1 (fun w hw9 => ?_) Z.1 Z.2.1 hS (by rw [X.2.2.2.1]; exact hv.1.1) d0 d3 d4 d7 d10 (fun x hx => absurd (hnt x hx) id) hRf hRl hRc.1 hRc.2 (gX_locks X) (fun t ha hz hk9 => ⟨(), trivial, ⟨⟨e9, hP, rfl⟩, gH_kept hH hk9⟩, Nat.le_trans hS.1 hz, fun q h1 h2 => by rw [hk9 q (Nat.lt_of_lt_of_le h1 hS.1)]; exact hS.2.1 q h1 h2⟩) hS.2.2 hc.1 hc.2
  rcases List.mem_cons.mp hw9 with q | q
  · rw [q]; rfl
  · rcases List.mem_cons.mp q with q | q
    · rw [q]; rfl
    · exact hw.2 w q
theorem gThrow (hl : l.stackTraces = false) (X : gX G p s m args meth c own cc nL ret ws) (Z : gS G s) (hnt : ∀ x ∈ c.exceptionTable.toList, False) (hH : gH G M H) (hS : va_S (gA G) s.heap H locs) (hv : gLv ls nL lv) {ik is ic e9 : Nat} {text : String} (hcls : Bundle.fit (gExc e9) = true) (hk : Cond.classLink own ik (gExc e9) ∈ gBIG) (hini : Cond.initialized (gExc e9) ∈ gBIG) (hstr : (own, is, text) ∈ gStr) (hat : ∀ w ∈ vx_atS own ic (gExc e9) gNm, w ∈ lw_tbl ∧ (goodWord w || (gIsN w && w.onTables)) = true)
    (d0 : decode cc pc = .ok (.new ik, 3)) (d3 : decode cc (pc + 3) = .ok (.dup, 1)) (d4 : decode cc (pc + 4) = .ok (.ldc is, 2)) (d7 : decode cc (pc + 6) = .ok (.invokespecial ic, 3)) (d10 : decode cc (pc + 9) = .ok (.athrow, 1))
    (hRf : 5 < R.frames) (hRl : (st.map fun v => v.category).sum + 82 ≤ R.locals) (hRc : cells + 1 ≤ R.cells ∧ slots + 6 ≤ R.slots) (hc : cells + 1 ≤ mc ∧ slots + 6 ≤ ms) (hP : P e9) :
    W p l e R s m args below meth c H locs cells slots (vx_MQ below Qc (gXC G P M) args s mc ms (gA G)) (F0 m pc ls st) := by
  obtain ⟨sa, hsa⟩ := Z.2.2.1 _ hstr
  have hw := gHat (args := args) (gX_K X) (fun w h => gX_w X h) hat
  refine vx_throwS (A := gA G) (names := gNm) X.1 X.2.1 hl (gX_own X) hcls (by decide) (gX_w X hk) (gX_w X hini) hsa hw.1 (fun w hw9 => ?_) Z.1 Z.2.1 hS (by rw [X.2.2.2.1]; exact hv.1.1) d0 d3 d4 d7 d10 (fun x hx => absurd (hnt x hx) id) hRf hRl hRc.1 hRc.2 (gX_locks X) (fun t ha hz hk9 => ⟨(), trivial, ⟨⟨e9, hP, rfl⟩, gH_kept hH hk9⟩, Nat.le_trans hS.1 hz, fun q h1 h2 => by rw [hk9 q (Nat.lt_of_lt_of_le h1 hS.1)]; exact hS.2.1 q h1 h2⟩) hS.2.2 hc.1 hc.2
  rcases List.mem_cons.mp hw9 with q | q
  · rw [q]; rfl
  · rcases List.mem_cons.mp q with q | q
    · rw [q]; rfl
    · exact hw.2 w q
theorem gRunVX (X : gX G p s m args meth c own cc nL ret ws) (Z : gS G s) (hH : gH G M H) (hS : va_S (gA G) s.heap H locs) {rr i : Nat} {As : List Value} (hM : gXMet l y b n r fr lo mc ms G M (.ref (gAd G rr i) :: As) Qc P) (hCal : gCal y b n r a C) (hin : Cond.instanceMethod y ∈ gBIG) (hsel : Cond.selects C y y ∈ gBIG) (hl : Cond.methodLink own index y ∈ gBIG) (hi : i < gCnt rr) {ci : Nat} {T : u_T} {N : Nat} {ty : Nat → FieldType} (hC : gCO ci C T N ty) {fs : List Value} (hc : gCell G rr i (M rr i) = .inr (ci, fs)) (hR : fr + 1 ≤ R.frames ∧ 8 + (n + 11) + lo ≤ R.locals) (hn : As.length = a) (hv : gLv ls nL lv) (hst : st0 = As.reverse ++ .ref (gAd G rr i) :: st) (hcat : (st.map fun v => v.category).sum ≤ 8) (hcap : cells + mc ≤ R.cells ∧ slots + ms ≤ R.slots) (d : decode cc pc = .ok (.invokevirtual index, 3)) :
    vx_Run p l e R s m args below meth c H locs cells slots mc ms (F0 m pc ls st0) st (Qc (Value.ref (gAd G rr i) :: As).toArray) (gXC G P M) (gA G) :=
  vx_runV (C := C) (As := As) (rest := st) (gX_fix X) hM ⟨callB_of a X.2.2.2.2.2.1 (gGd X.2.2.2.2.2.2.2.2 hCal.1) rfl rfl rfl (gX_w X hCal.2.1) (gX_w X hl) ⟨hCal.2.2.2.1.1, hCal.2.2.2.1.2, hCal.2.2.2.2⟩ hR, gX_w X hin, gX_w X hsel⟩ ⟨gPx_bl G M _, gRecv X hH hi hC hc, fun U hU hW => ⟨rfl, ⟨by rw [hU]; exact hH, gK_warm (gX_K X) hW⟩, gS_go Z hW hS hU⟩⟩ rfl hn hv.1.1 hst (lv_room hcat) d hcap
theorem gRunSX (X : gX G p s m args meth c own cc nL ret ws) (Z : gS G s) (hH : gH G M H) (hS : va_S (gA G) s.heap H locs) {As : List Value} (hM : gXMet l y b n r fr lo mc ms G M As Qc P) (hCal : gCal y b n r a C) (hst0 : Cond.static y ∈ gBIG) (hl : Cond.methodLink own index y ∈ gBIG) (hR : fr + 1 ≤ R.frames ∧ 8 + (n + 11) + lo ≤ R.locals) (hn : As.length = a) (hv : gLv ls nL lv) (hst : st0 = As.reverse ++ st) (hcat : (st.map fun v => v.category).sum ≤ 8) (hcap : cells + mc ≤ R.cells ∧ slots + ms ≤ R.slots) (d : decode cc pc = .ok (.invokestatic index, 3)) :
    vx_Run p l e R s m args below meth c H locs cells slots mc ms (F0 m pc ls st0) st (Qc As.toArray) (gXC G P M) (gA G) :=
  vx_runS (As := As) (rest := st) (gX_fix X) hM ⟨callB_of a X.2.2.2.2.2.1 (gGd X.2.2.2.2.2.2.2.2 hCal.1) rfl rfl rfl (gX_w X hCal.2.1) (gX_w X hl) ⟨hCal.2.2.2.1.1, hCal.2.2.2.1.2, hCal.2.2.2.2⟩ hR, gX_w X hst0⟩ ⟨gPx_bl G M _, fun U hU hW => ⟨rfl, ⟨by rw [hU]; exact hH, gK_warm (gX_K X) hW⟩, gS_go Z hW hS hU⟩⟩ rfl hn hv.1.1 hst (lv_room hcat) d hcap
/-- an exception of a callee's goes on to the caller -/
theorem gOutX (X : gX G p s m args meth c own cc nL ret ws) (hnt : ∀ x ∈ c.exceptionTable.toList, False) {E : String} {ce : Cell} {q9 : Nat} (hE : ∃ e9, P e9 ∧ E = gExc e9) (hH : gH G M H) (hS : va_S (gA G) s.heap H locs) (h1 : H[q9]? = some ce) (h2 : ce.vm = .none) (h3 : s.vm.findClass E = some ce.cls) (hc : cells ≤ mc ∧ slots ≤ ms) : vx_W p l e R s m args below meth c H locs cells slots (vx_MQ below Qc (gXC G P M) args s mc ms (gA G)) (F0 m pc ls st) q9 :=
  vx_out (fun x hx => absurd (hnt x hx) id) (gX_locks X) h1 h2 h3 (fun t ht _ => ⟨(), trivial, ⟨hE, by rw [ht]; exact hH⟩, hS.F ht⟩) hS.2.2 hc.1 hc.2
theorem gGoXV {ok : Prop} (hr : vx_Run p l e R s m args below meth c H locs cells slots mc ms (F0 m pc ls st0) st (gXv G ok M' av) (gXC G P M) (gA G)) (hS : va_S (gA G) s.heap H locs)
    (kx : ∀ (E : String) (ce : Cell) (q9 : Addr) (H1 : Heap) (locs1 : List Loc), (∃ e9, P e9 ∧ E = gExc e9) → gH G M H1 → va_S (gA G) s.heap H1 locs1 → H1[q9]? = some ce → ce.vm = .none → s.vm.findClass E = some ce.cls → vx_W p l e R s m args below meth c H1 locs1 (cells + mc) (slots + ms) Q (F0 m pc ls st) q9)
    (kk : ∀ (H1 : Heap) (locs1 : List Loc), ok → gH G M' H1 → va_S (gA G) s.heap H1 locs1 → W p l e R s m args below meth c H1 locs1 (cells + mc) (slots + ms) Q (F0 m (pc + 3) ls st)) : W p l e R s m args below meth c H locs cells slots Q (F0 m pc ls st0) :=
  vx_callv hr hS (fun _ _ h => h) (fun _ h => h) (fun _ _ h => h) (fun E ce q9 u t H1 locs1 ht _ _ hB _ _ hS h1 h2 h3 => kx E ce q9 H1 locs1 hB.1 (by rw [← ht]; exact hB.2) hS h1 h2 h3) (fun u t H1 locs1 ht _ hw hB _ _ hS => kk H1 locs1 hw (by rw [← ht]; exact hB) hS)
theorem gGoXI {ok : Prop} (hr : vx_Run p l e R s m args below meth c H locs cells slots mc ms (F0 m pc ls st0) st (gXi G ok res M' av) (gXC G P M) (gA G)) (hS : va_S (gA G) s.heap H locs)
    (kx : ∀ (E : String) (ce : Cell) (q9 : Addr) (H1 : Heap) (locs1 : List Loc), (∃ e9, P e9 ∧ E = gExc e9) → gH G M H1 → va_S (gA G) s.heap H1 locs1 → H1[q9]? = some ce → ce.vm = .none → s.vm.findClass E = some ce.cls → vx_W p l e R s m args below meth c H1 locs1 (cells + mc) (slots + ms) Q (F0 m pc ls st) q9)
    (kk : ∀ (H1 : Heap) (locs1 : List Loc), ok → nmI res → gH G M' H1 → va_S (gA G) s.heap H1 locs1 → W p l e R s m args below meth c H1 locs1 (cells + mc) (slots + ms) Q (F0 m (pc + 3) ls (.int (iI res) :: st))) : W p l e R s m args below meth c H locs cells slots Q (F0 m pc ls st0) :=
  vx_calli hr hS (fun _ _ h => h) (fun _ h => h) (fun _ _ h => h) (fun E ce q9 u t H1 locs1 ht _ _ hB _ _ hS h1 h2 h3 => kx E ce q9 H1 locs1 hB.1 (by rw [← ht]; exact hB.2) hS h1 h2 h3) (fun v u t H1 locs1 ht _ hw hB _ _ hS => by rw [hw.2.1]; exact kk H1 locs1 hw.1 hw.2.2 (by rw [← ht]; exact hB) hS)
theorem gGoXZ {ok : Prop} (hr : vx_Run p l e R s m args below meth c H locs cells slots mc ms (F0 m pc ls st0) st (gXz G ok res M' av) (gXC G P M) (gA G)) (hS : va_S (gA G) s.heap H locs)
    (kx : ∀ (E : String) (ce : Cell) (q9 : Addr) (H1 : Heap) (locs1 : List Loc), (∃ e9, P e9 ∧ E = gExc e9) → gH G M H1 → va_S (gA G) s.heap H1 locs1 → H1[q9]? = some ce → ce.vm = .none → s.vm.findClass E = some ce.cls → vx_W p l e R s m args below meth c H1 locs1 (cells + mc) (slots + ms) Q (F0 m pc ls st) q9)
    (kk : ∀ (H1 : Heap) (locs1 : List Loc), ok → (res = 0 ∨ res = 1) → gH G M' H1 → va_S (gA G) s.heap H1 locs1 → W p l e R s m args below meth c H1 locs1 (cells + mc) (slots + ms) Q (F0 m (pc + 3) ls (.int (iI res) :: st))) : W p l e R s m args below meth c H locs cells slots Q (F0 m pc ls st0) :=
  vx_calli hr hS (fun _ _ h => h) (fun _ h => h) (fun _ _ h => h) (fun E ce q9 u t H1 locs1 ht _ _ hB _ _ hS h1 h2 h3 => kx E ce q9 H1 locs1 hB.1 (by rw [← ht]; exact hB.2) hS h1 h2 h3) (fun v u t H1 locs1 ht _ hw hB _ _ hS => by rw [hw.2.1]; exact kk H1 locs1 hw.1 hw.2.2 (by rw [← ht]; exact hB) hS)
theorem gCallR9 {S SX : Type} {post : S → Prop} {px : SX → Prop} {B : S → Nat → State → Prop} {BX : String → SX → State → Prop} {AX A0 A1 : Nat → Prop} {free : Addr → Prop} {H0 : Heap} {XCx : Array Value} (hr : vx_Run p l e R s m args below meth c H locs cells slots mc ms (F0 m pc ls st0) st (va_Qr post B A1 XCx) (vx_X px BX AX) free) (hS : va_S A0 H0 H locs) (hA : ∀ q, q < H.size → A1 q → A0 q) (hf : ∀ q, free q → A0 q) (hAX : ∀ q, q < H.size → AX q → A0 q)
    (kx : ∀ (E : String) (ce : Cell) (q9 : Addr) (u : SX) (t : State) (H1 : Heap) (locs1 : List Loc), t.heap = H1 → px u → BX E u t → va_S A0 H0 H1 locs1 → H1[q9]? = some ce → ce.vm = .none → s.vm.findClass E = some ce.cls → vx_W p l e R s m args below meth c H1 locs1 (cells + mc) (slots + ms) Q (F0 m pc ls st) q9)
    (kk : ∀ (u : S) (ra : Nat) (t : State) (H1 : Heap) (locs1 : List Loc), t.heap = H1 → post u → B u ra t → va_S A0 H0 H1 locs1 → W p l e R s m args below meth c H1 locs1 (cells + mc) (slots + ms) Q (F0 m (pc + 3) ls (.ref ra :: st))) : W p l e R s m args below meth c H locs cells slots Q (F0 m pc ls st0) := by
  intro T hT X
  rcases hr T hT X with ⟨v, st₀, t, T', L, h0, X', hL, e1, e2, ⟨⟨u, ra, hv, hp, hb⟩, hF⟩, st⟩ | ⟨q, st₀, t, T', L, E, ce, h0, X', hL, e1, e2, ⟨u, hp, hb, hF⟩, hce, hcv, hcl, st⟩
  · cases hv
    obtain ⟨k1, k2, k3⟩ := vx_keep h0 e1 hS hA hf hL hF
    obtain ⟨t2, a1, b1⟩ := kk u ra t T'.heap (locs ++ L) e1.symm hp hb k3 T' rfl X'
    exact ⟨t2, st t2 a1, b1⟩
  · obtain ⟨k1, k2, k3⟩ := vx_keep h0 e1 hS hAX hf hL hF
    obtain ⟨t2, a1, b1⟩ := kx E ce q u t T'.heap (locs ++ L) e1.symm hp hb k3 (by rw [e1]; exact hce) hcv hcl T' rfl X'
    exact ⟨t2, st.trans a1, b1⟩
theorem gGoXR {ok : Prop} {reg i : Nat} (hr : vx_Run p l e R s m args below meth c H locs cells slots mc ms (F0 m pc ls st0) st (gXr G ok reg i M' av) (gXC G P M) (gA G)) (hS : va_S (gA G) s.heap H locs)
    (kx : ∀ (E : String) (ce : Cell) (q9 : Addr) (H1 : Heap) (locs1 : List Loc), (∃ e9, P e9 ∧ E = gExc e9) → gH G M H1 → va_S (gA G) s.heap H1 locs1 → H1[q9]? = some ce → ce.vm = .none → s.vm.findClass E = some ce.cls → vx_W p l e R s m args below meth c H1 locs1 (cells + mc) (slots + ms) Q (F0 m pc ls st) q9)
    (kk : ∀ (H1 : Heap) (locs1 : List Loc), ok → i < gCnt reg → gH G M' H1 → va_S (gA G) s.heap H1 locs1 → W p l e R s m args below meth c H1 locs1 (cells + mc) (slots + ms) Q (F0 m (pc + 3) ls (.ref (gAd G reg i) :: st))) : W p l e R s m args below meth c H locs cells slots Q (F0 m pc ls st0) :=
  gCallR9 hr hS (fun _ _ h => h) (fun _ h => h) (fun _ _ h => h) (fun E ce q9 u t H1 locs1 ht _ hB hS h1 h2 h3 => kx E ce q9 H1 locs1 hB.1 (by rw [← ht]; exact hB.2) hS h1 h2 h3) (fun u ra t H1 locs1 ht hw hB hS => by rw [hB.1.1]; exact kk H1 locs1 hw hB.1.2 (by rw [← ht]; exact hB.2) hS)
-- ends
theorem gRetXI (X : gX G p s m args meth c own cc nL (some .int) ws) (hH : gH G M H) (hS : va_S (gA G) s.heap H locs) {ok : Prop} (hok : ok) {res : Int} (hn : nmI res) (hc : cells ≤ mc ∧ slots ≤ ms) (d : decode cc pc = .ok (.ireturn, 1)) : W p l e R s m args below meth c H locs cells slots (vx_MQ below (gXi G ok res M) (gXC G P M') args s mc ms (gA G)) (F0 m pc ls [.int (iI res)]) :=
  W.widen hc.1 hc.2 (vx_ret (W.iret X.1 X.2.1 X.2.2.1 (fun t ht hW => ⟨⟨iI res, (), rfl, ⟨hok, rfl, hn⟩, by show gH G M t.heap; rw [ht]; exact hH⟩, hS.F ht⟩) hS.2.2 d (gX_locks X)))
theorem gRetXZ (X : gX G p s m args meth c own cc nL (some .boolean) ws) (hH : gH G M H) (hS : va_S (gA G) s.heap H locs) {ok : Prop} (hok : ok) {res : Int} (hn : res = 0 ∨ res = 1) (hc : cells ≤ mc ∧ slots ≤ ms) (d : decode cc pc = .ok (.ireturn, 1)) : W p l e R s m args below meth c H locs cells slots (vx_MQ below (gXz G ok res M) (gXC G P M') args s mc ms (gA G)) (F0 m pc ls [.int (iI res)]) :=
  W.widen hc.1 hc.2 (vx_ret (W.zret X.1 X.2.1 X.2.2.1 (g_nz hn).1 (fun t ht hW => ⟨⟨iI res, (), rfl, ⟨hok, rfl, hn⟩, by show gH G M t.heap; rw [ht]; exact hH⟩, hS.F ht⟩) hS.2.2 d (gX_locks X)))
theorem gRetXV (X : gX G p s m args meth c own cc nL none ws) (hH : gH G M H) (hS : va_S (gA G) s.heap H locs) {ok : Prop} (hok : ok) (hc : cells ≤ mc ∧ slots ≤ ms) (d : decode cc pc = .ok (.return_, 1)) : W p l e R s m args below meth c H locs cells slots (vx_MQ below (gXv G ok M) (gXC G P M') args s mc ms (gA G)) (F0 m pc ls []) :=
  W.widen hc.1 hc.2 (vx_ret (W.vret X.1 X.2.1 X.2.2.1 (fun t ht hW => ⟨⟨(), rfl, hok, by show gH G M t.heap; rw [ht]; exact hH⟩, hS.F ht⟩) hS.2.2 d (gX_locks X)))
theorem gRetXR {E : String} (X : gX G p s m args meth c own cc nL (some (.object E)) ws) (hH : gH G M H) (hS : va_S (gA G) s.heap H locs) {ok : Prop} (hok : ok) {reg i : Nat} (hi : i < gCnt reg) (hc : cells ≤ mc ∧ slots ≤ ms) (d : decode cc pc = .ok (.areturn, 1)) : W p l e R s m args below meth c H locs cells slots (vx_MQ below (gXr G ok reg i M) (gXC G P M') args s mc ms (gA G)) (F0 m pc ls [.ref (gAd G reg i)]) :=
  W.widen hc.1 hc.2 (vx_ret (W.aret X.1 X.2.1 X.2.2.1 (Or.inl ⟨E, rfl⟩) (Or.inr ⟨_, rfl⟩) (fun t ht hW => ⟨⟨(), gAd G reg i, rfl, hok, ⟨rfl, hi⟩, by show gH G M t.heap; rw [ht]; exact hH⟩, hS.F ht⟩) hS.2.2 d (gX_locks X)))
end THR
theorem iI_64 {a : Int} (h : nmI a) : (iI a).toInt64 = Int64.ofInt a := by
  apply Int64.toInt_inj.mp
  rw [Int32.toInt_toInt64, iI_T h, Int64.toInt_ofInt_of_le (by have := h.1; omega) (by have := h.2; omega)]
def gCmp (a b : Int) : Int := if b < a then 1 else if a = b then 0 else -1
theorem gCmp_0 {a b : Int} : gCmp a b = 0 ↔ a = b := by
  unfold gCmp
  by_cases h : b < a
  · rw [if_pos h]; omega
  · rw [if_neg h]
    by_cases q : a = b
    · rw [if_pos q]; omega
    · rw [if_neg q]; omega
theorem nmI_cmp (a b : Int) : nmI (gCmp a b) := by
  unfold gCmp
  by_cases h : b < a
  · rw [if_pos h]; unfold nmI; omega
  · rw [if_neg h]
    by_cases q : a = b
    · rw [if_pos q]; unfold nmI; omega
    · rw [if_neg q]; unfold nmI; omega
theorem i64_T {a : Int} (h : nmI a) : (Int64.ofInt a).toInt = a := Int64.toInt_ofInt_of_le (by have := h.1; omega) (by have := h.2; omega)
theorem i64_lt {a b : Int} (ha : nmI a) (hb : nmI b) : (Int64.ofInt a < Int64.ofInt b) ↔ a < b := by rw [Int64.lt_iff_toInt_lt, i64_T ha, i64_T hb]
theorem i64_eq {a b : Int} (ha : nmI a) (hb : nmI b) : (Int64.ofInt a = Int64.ofInt b) ↔ a = b := by
  constructor
  · intro h; rw [← i64_T ha, ← i64_T hb, h]
  · intro h; rw [h]
section LAWROWS
variable {G : gG} {p : Program} {l : Launch} {e : Env} {R : Room} {s : State} {m : MethodId} {args : Array Value} {below : List Frame} {meth : Method} {c : Code} {H : Heap} {locs : List Loc} {cells slots : Nat} {Q : State → Prop} {own : String} {cc : ByteArray} {nL : Nat} {ret : Option FieldType} {ws : List Cond} {pc : Nat} {ls : Array Slot} {st st0 : List Value} {M M' : gM} {lv : List (Nat × Value)} {y : MethodName} {b : ByteArray} {n : Nat} {r : Option FieldType} {fr lo mc ms mc' ms' : Nat} {Qc : Array Value → State → Outcome → State → Prop} {a index : Nat} {C : String} {res : Int} {av : Array Value} {P P' : Nat → Prop}
theorem g_i2l (X : gX G p s m args meth c own cc nL ret ws) {a : Int} (na : nmI a) (d : decode cc pc = .ok (.i2l, 1)) (k : W p l e R s m args below meth c H locs cells slots Q (F0 m (pc + 1) ls (.long (Int64.ofInt a) :: st))) : W p l e R s m args below meth c H locs cells slots Q (F0 m pc ls (.int (iI a) :: st)) := lv_i2l X.1 X.2.1 d (iI_64 na) k
theorem gCmp_lg {a b : Int} (ha : nmI a) (hb : nmI b) : lg_cmp (Int64.ofInt a) (Int64.ofInt b) = iI (gCmp a b) := by
  unfold lg_cmp gCmp
  by_cases h : b < a
  · rw [if_pos ((i64_lt hb ha).mpr h), if_pos h]; rfl
  · rw [if_neg (fun z => h ((i64_lt hb ha).mp z)), if_neg h]
    by_cases q : a = b
    · rw [if_pos ((i64_eq ha hb).mpr q), if_pos q]; rfl
    · rw [if_neg (fun z => q ((i64_eq ha hb).mp z)), if_neg q]; rfl
theorem g_lcmp (X : gX G p s m args meth c own cc nL ret ws) {a b : Int} (na : nmI a) (nb : nmI b) (d : decode cc pc = .ok (.lcmp, 1)) (k : W p l e R s m args below meth c H locs cells slots Q (F0 m (pc + 1) ls (.int (iI (gCmp a b)) :: st))) : W p l e R s m args below meth c H locs cells slots Q (F0 m pc ls (.long (Int64.ofInt b) :: .long (Int64.ofInt a) :: st)) := W.lcmp X.1 X.2.1 d (by rw [gCmp_lg na nb]; exact k)
theorem g_upd64 (m0 : Nat → Int) (k : Nat) (x : Int) : (fun j => Int64.ofInt (g1 m0 k x j)) = vp_updL (fun j => Int64.ofInt (m0 j)) k (Int64.ofInt x) := by
  funext j
  unfold vp_updL g1
  by_cases h : j = k
  · simp [h]
  · simp [h]
theorem gOutCatch (X : gX G p s m args meth c own cc nL ret ws) (Z : gS G s) {e9 : Nat} {ce : Cell} {q9 : Nat} {hh : List (Nat × Nat × Nat × Nat)} (hT : c.exceptionTable.toList = tableOf hh) (pre : List ExceptionTableEntry) (x : ExceptionTableEntry) (suf : List ExceptionTableEntry) (hsplit : tableOf hh = pre ++ x :: suf) (hpass : ∀ z ∈ pre, z.catchType ≠ 0 ∧ ∃ a, Cond.classLink own z.catchType (gExc a) ∈ gBIG ∧ a ∈ [1, 2, 3] ∧ e9 ≠ a) (h9 : e9 ∈ [1, 2, 3]) (hx : covers x pc = true) (h0 : x.catchType ≠ 0) (hlink : Cond.classLink own x.catchType (gExc e9) ∈ gBIG) (hcast : Cond.castable (gExc e9) (gExc e9) ∈ gNest) (h1 : H[q9]? = some ce) (h2 : ce.vm = .none) (h3 : s.vm.findClass (gExc e9) = some ce.cls)
    (kk : W p l e R s m args below meth c H locs cells slots Q (F0 m x.handlerPc ls [.ref q9])) : vx_W p l e R s m args below meth c H locs cells slots Q (F0 m pc ls st) q9 :=
  vx_catch (gX_own X) pre x suf (by rw [hT]; exact hsplit) (fun z hz => by
    obtain ⟨hz0, a, ha, h8, hn⟩ := hpass z hz
    exact Or.inr ⟨hz0, gExc a, gX_w X ha, Z.2.2.2 e9 a h9 h8 hn⟩) hx h0 (gX_w X hlink) (va_Nw.use rfl ((gX_K X).2 _ hcast)) h1 h2 h3 kk
end LAWROWS
def gWsW (y : MethodName) (b : ByteArray) (n : Nat) (r : Option FieldType) (hh : List (Nat × Nat × Nat × Nat)) : List Cond := .codeWith y b n r hh :: gBIG
def gLMet (l : Launch) (y : MethodName) (b : ByteArray) (n : Nat) (r : Option FieldType) (hh : List (Nat × Nat × Nat × Nat)) (fr lo mc ms : Nat) (G : gG) (M : gM) (av : List Value) (Qc : Array Value → State → Outcome → State → Prop) : Prop := vx_Met l y (gWsW y b n r hh) { frames := fr, cells := mc, slots := ms, locals := lo } (gPx G M av) Qc (gXC G (fun _ => False) M) mc ms (gA G)
theorem gOfL {l : Launch} {G : gG} {y : MethodName} {b : ByteArray} {n : Nat} {r : Option FieldType} {hh : List (Nat × Nat × Nat × Nat)} {fr lo mc ms : Nat} {M : gM} {av : List Value} {Qc : Array Value → State → Outcome → State → Prop} (hy : plainName y.cls = true) (hlen : (lg_sl av).length ≤ n) (hcat : (lv_args 0 av).all (fun q => q.2.category == 1) = true)
    (body : ∀ (p : Program) (e : Env) (s : State) (m : MethodId) (below : List Frame) (meth : Method) (c : Code), gX G p s m av.toArray meth c y.cls b n r (gWsW y b n r hh) → gS G s → c.exceptionTable.toList = tableOf hh → gH G M s.heap → ∀ ls, gLv ls n (lv_args 0 av) → W p l e { frames := fr, cells := mc, slots := ms, locals := lo } s m av.toArray below meth c s.heap [] 0 0 (vx_MQ below Qc (gXC G (fun _ => False) M) av.toArray s mc ms (gA G)) (F0 m 0 ls [])) : gLMet l y b n r hh fr lo mc ms G M av Qc := by
  refine vx_ofWH (cc := b) (maxL := n) (ret := r) (hh := hh) hy rfl ?_
  intro p e s m args below meth c s₁ B hml hv
  obtain ⟨rfl, ⟨hH, hK⟩, hZ⟩ := hv
  rw [lg_entry_eq]
  have hpre := atoms_spec (ws := gWsW y b n r hh) B.pre
  exact body p e s m below meth c ⟨B.exec, B.bytes, B.returns, hml, findClass_of_methodNamed B.named, hpre, B.notSynchronized, hK, fun w hw => List.mem_cons_of_mem _ hw⟩ hZ (vx_table (x := y) B (hpre _ List.mem_cons_self)) hH _ (gLv_nil (lv_entry av hlen) hcat)
theorem gOfX {l : Launch} {G : gG} {y : MethodName} {b : ByteArray} {n : Nat} {r : Option FieldType} {fr lo mc ms : Nat} {M : gM} {av : List Value} {Qc : Array Value → State → Outcome → State → Prop} {P : Nat → Prop} (hy : plainName y.cls = true) (hlen : (lg_sl av).length ≤ n) (hcat : (lv_args 0 av).all (fun q => q.2.category == 1) = true)
    (body : ∀ (p : Program) (e : Env) (s : State) (m : MethodId) (below : List Frame) (meth : Method) (c : Code), gX G p s m av.toArray meth c y.cls b n r (gWs y b n r) → gS G s → (∀ x ∈ c.exceptionTable.toList, False) → gH G M s.heap → ∀ ls, gLv ls n (lv_args 0 av) → W p l e { frames := fr, cells := mc, slots := ms, locals := lo } s m av.toArray below meth c s.heap [] 0 0 (vx_MQ below Qc (gXC G P M) av.toArray s mc ms (gA G)) (F0 m 0 ls [])) : gXMet l y b n r fr lo mc ms G M av Qc P := by
  refine vx_ofW (cc := b) (maxL := n) (ret := r) hy rfl ?_
  intro p e s m args below meth c s₁ B hml hnt hv
  obtain ⟨rfl, ⟨hH, hK⟩, hZ⟩ := hv
  rw [lg_entry_eq]
  exact body p e s m below meth c ⟨B.exec, B.bytes, B.returns, hml, findClass_of_methodNamed B.named, atoms_spec (ws := gWs y b n r) B.pre, B.notSynchronized, hK, fun w hw => List.mem_cons_of_mem _ hw⟩ hZ hnt hH _ (gLv_nil (lv_entry av hlen) hcat)
theorem gAt_180 : ∀ w ∈ vx_atS "BuildGrid" 180 (gExc 1) gNm, w ∈ lw_tbl ∧ (goodWord w || (gIsN w && w.onTables)) = true := by decide +kernel
theorem gAt_282 : ∀ w ∈ vx_atS "BuildGrid" 282 (gExc 3) gNm, w ∈ lw_tbl ∧ (goodWord w || (gIsN w && w.onTables)) = true := by decide +kernel
theorem gAt_287 : ∀ w ∈ vx_atS "BuildGrid" 287 (gExc 2) gNm, w ∈ lw_tbl ∧ (goodWord w || (gIsN w && w.onTables)) = true := by decide +kernel
