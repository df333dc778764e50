/-! ## constructors: the cells, by their places -/
def gC (G : gG) (a : Nat) (e : va_E) (H : Heap) : Prop := va_at G.2.1 gCl (G.1 + a, e) H
theorem gC_k {G : gG} {a : Nat} {e : va_E} {H H1 : Heap} (h : gC G a e H) (hk : H1[G.1 + a]? = H[G.1 + a]?) : gC G a e H1 := va_at.kept h hk
theorem gC_lt {G : gG} {a : Nat} {e : va_E} {H : Heap} (h : gC G a e H) : G.1 + a < H.size := va_at.lt h
def gRA (G : gG) : Nat → FieldType := fun k => match k with | 0 => .int | 1 => .boolean | 2 => .object "BuildGrid$Action" | 3 => .object "BuildGrid$Entry" | 4 => .object "BuildGrid$Target" | 5 => .object "BuildGrid$Worker" | _ => .long
section CTOR
variable {G : gG} {p : Program} {l : Launch} {e : Env} {R : Room} {s : State} {m : MethodId} {args : Array Value} {below : List Frame} {meth : Method} {c : Code} {H : Heap} {locs : List Loc} {cells slots : Nat} {Q : State → Prop} {own : String} {cc : ByteArray} {nL : Nat} {ret : Option FieldType} {ws : List Cond} {pc : Nat} {ls : Array Slot} {st : List Value} {A : Nat → Prop} {lv : List (Nat × Value)}
theorem c_put (X : gX G p s m args meth c own cc nL ret ws) {ci : Nat} {C : String} {T : u_T} {N : Nat} {ty : Nat → FieldType} (hC : gCO ci C T N ty) {a : Nat} {fs : List Value} (ha : gC G a (.inr (ci, fs)) H) (hA : A (G.1 + a)) (hS : va_S A s.heap H locs) (k : Nat) (hk : k < N) {index : Nat} (hl : Cond.fieldLink own index C (T k).2.1 (T k).2.2.1 ∈ gBIG) (hsame : (T k).1 = C) (hfin : (T k).2.2.2 = false) {tk : FieldType} (hd : parseFieldDescriptor (T k).2.2.1 = some tk) {v : Value} (hn : narrow tk v = v) (hfit : fits tk v = true) (hlen : k < fs.length) (d : decode cc pc = .ok (.putfield index, 3))
    (kk : ∀ (H1 : Heap) (locs1 : List Loc), gC G a (.inr (ci, fs.set k v)) H1 → H1.size = H.size → (∀ q, q ≠ G.1 + a → H1[q]? = H[q]?) → va_S A s.heap H1 locs1 → W p l e R s m args below meth c H1 locs1 cells slots Q (F0 m (pc + 3) ls st)) : W p l e R s m args below meth c H locs cells slots Q (F0 m pc ls (v :: .ref (G.1 + a) :: st)) := by
  have hts := X.2.2.2.2.2.1
  have hin : ∀ w ∈ u_ws C T N, w ∈ ws := fun w hw => X.2.2.2.2.2.2.2.2 w (hC.2.1 w hw)
  have hK := (gX_K X).1
  have hap := va_apart (own := own) hts hin ty hC.2.2.1 hC.2.2.2 hK hC.1
  obtain ⟨r, h1, cell, q1, q2, q3, q4⟩ := ha
  have hr : r = (C, T, N) := Option.some.inj (h1.symm.trans hC.1)
  subst hr
  obtain ⟨hSl, hfc, kC, hkC, hkind⟩ := hK.1 ci _ hC.1
  obtain ⟨cf, kf, fi, f, hi, hsl⟩ := hSl k hk
  have hlay := hts _ (hin _ (u_in_lay hk))
  unfold u_lay at hlay
  rw [if_neg (by rw [hfin]; decide)] at hlay
  have hst := (u_facts hfc hkC (u_lays hts hin hk) hi).1
  have h6 := u_store hfc hkC hkind hlay hi hd hn hfit
  refine W.putK X.1 X.2.1 (f := f) ⟨gX_own X, gX_w X hl, ⟨_, _, _, by rw [← hsame]; exact hi⟩, hst⟩ (by rw [q2]; exact h6) q1 q3 (by rw [hsl]; exact k2_hasslot (q4 k hk)) rfl rfl d fun H' e1 e2 e3 => ?_
  rw [hsl] at e1 ⊢
  exact kk H' _ ⟨_, hC.1, t_OB.to (V := updV (vp_V fs) k v) ⟨_, e1, q2, q3, t_set q4 hap hk v⟩ (fun j _ => vp_updV_set hlen v j)⟩ e2 e3 (hS.put e2 e3 hA)
theorem c_putF (X : gX G p s m args meth c own cc nL ret ws) (hini : meth.name = "<init>") {ci : Nat} {C : String} {T : u_T} {N : Nat} {ty : Nat → FieldType} (hC : gCO ci C T N ty) {a : Nat} {fs : List Value} (ha : gC G a (.inr (ci, fs)) H) (hA : A (G.1 + a)) (hS : va_S A s.heap H locs) (k : Nat) (hk : k < N) {index : Nat} (hl : Cond.fieldLink own index C (T k).2.1 (T k).2.2.1 ∈ gBIG) (hsame : (T k).1 = C) (hown9 : C = own) (hfin : (T k).2.2.2 = true) {tk : FieldType} (hd : parseFieldDescriptor (T k).2.2.1 = some tk) {v : Value} (hn : narrow tk v = v) (hfit : fits tk v = true) (hlen : k < fs.length) (d : decode cc pc = .ok (.putfield index, 3))
    (kk : ∀ (H1 : Heap) (locs1 : List Loc), gC G a (.inr (ci, fs.set k v)) H1 → H1.size = H.size → (∀ q, q ≠ G.1 + a → H1[q]? = H[q]?) → va_S A s.heap H1 locs1 → W p l e R s m args below meth c H1 locs1 cells slots Q (F0 m (pc + 3) ls st)) : W p l e R s m args below meth c H locs cells slots Q (F0 m pc ls (v :: .ref (G.1 + a) :: st)) := by
  have hts := X.2.2.2.2.2.1
  have hin : ∀ w ∈ u_ws C T N, w ∈ ws := fun w hw => X.2.2.2.2.2.2.2.2 w (hC.2.1 w hw)
  have hK := (gX_K X).1
  have hap := va_apart (own := own) hts hin ty hC.2.2.1 hC.2.2.2 hK hC.1
  obtain ⟨r, h1, cell, q1, q2, q3, q4⟩ := ha
  have hr : r = (C, T, N) := Option.some.inj (h1.symm.trans hC.1)
  subst hr
  obtain ⟨hSl, hfc, kC, hkC, hkind⟩ := hK.1 ci _ hC.1
  obtain ⟨cf, kf, fi, f, hi, hsl⟩ := hSl k hk
  have hlay := hts _ (hin _ (u_in_lay hk))
  unfold u_lay at hlay
  rw [if_pos hfin] at hlay
  have hst := (u_facts hfc hkC (u_lays hts hin hk) hi).1
  have hcf : m.cls = cf := by
    obtain ⟨_, _, c', _, _, _, -, -, hf', -, -, -, hown2, -⟩ := Cond.laysFinal_spec hlay
    have e1 : c' = cf := by have := hi.symm.trans hf'; simp at this; exact this.1.symm
    rw [hsame, hown9] at hown2
    rw [← e1]; exact Option.some.inj ((gX_own X).symm.trans hown2)
  have h6 := u_fits hfc hkC hkind (Or.inr hlay) hi hd hn hfit
  refine W.putFinK X.1 X.2.1 (gX_own X) (gX_w X hl) (by rw [← hsame]; exact hi) hst hcf hini (by rw [q2]; exact h6) q1 q3 (by rw [hsl]; exact k2_hasslot (q4 k hk)) rfl rfl d fun H' e1 e2 e3 => ?_
  rw [hsl] at e1 ⊢
  exact kk H' _ ⟨_, hC.1, t_OB.to (V := updV (vp_V fs) k v) ⟨_, e1, q2, q3, t_set q4 hap hk v⟩ (fun j _ => vp_updV_set hlen v j)⟩ e2 e3 (hS.put e2 e3 hA)
theorem c_get (X : gX G p s m args meth c own cc nL ret ws) {ci : Nat} {C : String} {T : u_T} {N : Nat} {ty : Nat → FieldType} (hC : gCO ci C T N ty) {a : Nat} {fs : List Value} (ha : gC G a (.inr (ci, fs)) H) (k : Nat) (hk : k < N) {index : Nat} (hl : Cond.fieldLink own index C (T k).2.1 (T k).2.2.1 ∈ gBIG) (hsame : (T k).1 = C) {v : Value} (hv : fs[k]? = some v) (d : decode cc pc = .ok (.getfield index, 3))
    (kk : W p l e R s m args below meth c H locs cells slots Q (F0 m (pc + 3) ls (v :: st))) : W p l e R s m args below meth c H locs cells slots Q (F0 m pc ls (.ref (G.1 + a) :: st)) :=
  va_get (D := G.2.1) (cl := gCl) (tys := gTys G) (ws := [(G.1 + a, .inr (ci, fs))]) X.1 X.2.1 X.2.2.2.2.2.1 (fun w hw => X.2.2.2.2.2.2.2.2 w (hC.2.1 w hw)) (gX_own X) (gX_K X).1 (fun k q hq => by
    have hz : k < 1 := (List.getElem?_eq_some_iff.mp hq).1
    rw [show k = 0 by omega] at hq
    cases hq
    exact ha) 0 rfl hC.1 k hk (gX_w X hl) (fun x h => by rw [hsame] at h; exact h) hv d kk
theorem c_new (X : gX G p s m args meth c own cc nL ret ws) {ci : Nat} {C : String} {T : u_T} {N : Nat} {ty : Nat → FieldType} (hC : gCO ci C T N ty) {index : Nat} (hcl : Cond.classLink own index C ∈ gBIG) (hinst : Cond.instantiable C N ∈ gBIG) (hini : Cond.initialized C ∈ gBIG) {n : Nat} (hn : H.size = G.1 + n) (hS : va_S A s.heap H locs) {fs : List Value} (hfs : ∀ j, j < N → defaultValue (ty j) = vp_V fs j) (hcells : cells + 1 ≤ R.cells) (hslots : slots + N ≤ R.slots) (d : decode cc pc = .ok (.new index, 3))
    (kk : ∀ (H1 : Heap), gC G n (.inr (ci, fs)) H1 → H1.size = G.1 + (n + 1) → (∀ q, q < H.size → H1[q]? = H[q]?) → va_S A s.heap H1 locs → W p l e R s m args below meth c H1 locs (cells + 1) (slots + N) Q (F0 m (pc + 3) ls (.ref (G.1 + n) :: st))) : W p l e R s m args below meth c H locs cells slots Q (F0 m pc ls st) := by
  have hKn := (gX_K X).1.1 ci _ hC.1
  refine W.newcK X.1 X.2.1 (gX_own X) (gX_w X hcl) (gX_w X hinst) (gX_w X hini) rfl d hcells hslots hKn.2.1 hn fun H1 kC hkC e1 z1 o1 => ?_
  exact kk H1 ⟨_, hC.1, (u_born ty X.2.2.2.2.2.1 (fun w hw => X.2.2.2.2.2.2.2.2 w (hC.2.1 w hw)) hKn hkC e1 hC.2.2.1).to hfs⟩ (by omega) (fun q hq => o1 q (by omega)) ⟨Nat.le_trans hS.1 (by omega), fun x h1 h2 => (o1 x (by have := hS.1; omega)).trans (hS.2.1 x h1 h2), hS.2.2⟩
theorem c_newa (X : gX G p s m args meth c own cc nL ret ws) {atype : ArrayType} {t0 : Nat} {ty : FieldType} (harr : Cond.arrayClass ty ∈ gBIG) (hty : newarray.typeOf atype = ty) (ht : (gTys G)[t0]? = some (G.2.2 t0, ty)) (hra : ∀ cA : ClassId, s.vm.findClass ("[" ++ ty.toString) = some cA → va_RA s (G.2.2 t0) ty → cA = G.2.2 t0) {n : Nat} (hsz : H.size = G.1 + n) (hS : va_S A s.heap H locs) {k : Int32} {N' : Nat} {a0 : vp_A} (ha : ∀ cA : ClassId, vp_cell cA a0 = arrV cA N' (fun _ => defaultValue ty)) (hk : ¬ k < 0) (hN : k.toNatClampNeg = N') (hbytes : N' * componentBytes ty ≤ 536870912) (hcells : cells + 1 ≤ R.cells) (hslots : slots + N' ≤ R.slots) (d : decode cc pc = .ok (.newarray atype, 2))
    (kk : ∀ (H1 : Heap), gC G n (.inl (G.2.2 t0, a0)) H1 → H1.size = G.1 + (n + 1) → (∀ q, q < H.size → H1[q]? = H[q]?) → va_S A s.heap H1 locs → W p l e R s m args below meth c H1 locs (cells + 1) (slots + N') Q (F0 m (pc + 2) ls (.ref (G.1 + n) :: st))) : W p l e R s m args below meth c H locs cells slots Q (F0 m pc ls (.int k :: st)) := by
  subst hty
  refine va_newaK X.1 X.2.1 (gX_w X harr) rfl d rfl hk hN hbytes hcells hslots hsz fun H1 cA e1 z1 o1 hAr hNm => ?_
  have hc := hra cA hNm ((gX_K X).1.2 t0 _ ht).2
  subst hc
  refine kk H1 ?_ (by omega) (fun q hq => o1 q (by omega)) ⟨Nat.le_trans hS.1 (by omega), fun x h1 h2 => (o1 x (by have := hS.1; omega)).trans (hS.2.1 x h1 h2), hS.2.2⟩
  show H1[G.1 + n]? = some (vp_cell _ _)
  rw [ha]
  exact e1
theorem c_newq (X : gX G p s m args meth c own cc nL ret ws) {C : String} {index t0 : Nat} (hcl : Cond.classLink own index C ∈ gBIG) (hov : Cond.arrayOver (.object C) ∈ gNest) (ht : (gTys G)[t0]? = some (G.2.2 t0, .object C)) {n : Nat} (hsz : H.size = G.1 + n) (hS : va_S A s.heap H locs) {k : Int32} {N' : Nat} (hk : ¬ k < 0) (hN : k.toNatClampNeg = N') (hbytes : N' * 4 ≤ 536870912) (hcells : cells + 1 ≤ R.cells) (hslots : slots + N' ≤ R.slots) (d : decode cc pc = .ok (.anewarray index, 3))
    (kk : ∀ (H1 : Heap), gC G n (.inl (G.2.2 t0, N', .inr (.inr (.inr (.inr (fun _ => none)))))) H1 → H1.size = G.1 + (n + 1) → (∀ q, q < H.size → H1[q]? = H[q]?) → va_S A s.heap H1 locs → W p l e R s m args below meth c H1 locs (cells + 1) (slots + N') Q (F0 m (pc + 3) ls (.ref (G.1 + n) :: st))) : W p l e R s m args below meth c H locs cells slots Q (F0 m pc ls (.int k :: st)) := by
  subst hN
  refine W.anew X.1 X.2.1 (gX_own X) (gX_w X hcl) (va_AO.use ((gX_K X).2 _ hov)) rfl d rfl hk hbytes hcells hslots fun cA kA comp f1 f2 f3 f4 => ?_
  generalize hH1 : H.push ({ cls := cA, slots := Array.replicate k.toNatClampNeg .null, vm := .none } : Cell) = H1
  have z1 : H1.size = H.size + 1 := by rw [← hH1, Array.size_push]
  have e1 : H1[H.size]? = some (arrV cA k.toNatClampNeg (fun _ => .null)) := by rw [← hH1, Array.getElem?_push_size, ← arrV_new]
  have o1 : ∀ q : Nat, q < H.size → H1[q]? = H[q]? := fun q hq => by rw [← hH1, Array.getElem?_push, if_neg (Nat.ne_of_lt hq)]
  obtain ⟨kA', comp', g1, g2, g3, g4⟩ := ((gX_K X).1.2 t0 _ ht).2
  have hc : cA = G.2.2 t0 := Option.some.inj (f1.symm.trans g4)
  subst hc
  rw [hsz] at e1 ⊢
  exact kk H1 e1 (by omega) o1 ⟨Nat.le_trans hS.1 (by omega), fun x h1 h2 => (o1 x (by have := hS.1; omega)).trans (hS.2.1 x h1 h2), hS.2.2⟩
theorem c_astq (X : gX G p s m args meth c own cc nL ret ws) {a n v t0 ci : Nat} {cA : ClassId} {r : vw_C} {vs : List Value} {f : Nat → Option Nat} (ha : gC G a (.inl (cA, n, .inr (.inr (.inr (.inr f))))) H) (ht : (gTys G)[t0]? = some (cA, .object r.1)) (hv : gC G v (.inr (ci, vs)) H) (hc : gCl[ci]? = some r) (hA : A (G.1 + a)) (hS : va_S A s.heap H locs) {i : Int32} (hin : vp_in i n) (d : decode cc pc = .ok (.aastore, 1))
    (kk : ∀ (H1 : Heap) (locs1 : List Loc), gC G a (.inl (cA, n, .inr (.inr (.inr (.inr (va_up f i.toNatClampNeg (some (G.1 + v)))))))) H1 → H1.size = H.size → (∀ q, q ≠ G.1 + a → H1[q]? = H[q]?) → va_S A s.heap H1 locs1 → W p l e R s m args below meth c H1 locs1 cells slots Q (F0 m (pc + 1) ls st)) : W p l e R s m args below meth c H locs cells slots Q (F0 m pc ls (.ref (G.1 + v) :: .int i :: .ref (G.1 + a) :: st)) := by
  have hlt : i.toNatClampNeg < n := Nat.not_le.mp fun q => hin (Or.inr q)
  have h0 : ¬ i < 0 := fun q => hin (Or.inl q)
  obtain ⟨r', hr', cellV, g1, g2, g3, -⟩ := hv
  have hK := (gX_K X).1
  have hcls := (hK.1 ci r hc).2
  obtain ⟨kA, comp, k1, k2, k3, -⟩ := (hK.2 t0 _ ht).2
  have hcomp : comp = G.2.1.1 ci := Option.some.inj (k3.symm.trans hcls.1)
  subst hcomp
  obtain ⟨kC, hkC, -⟩ := hcls.2
  refine W.aast X.1 X.2.1 ha (fun q h => by cases h) (fun h => by cases h) k1 k2 rfl hkC ⟨h0, by show _ < (arrV _ _ _).slots.size; rw [arrV_size]; exact hlt⟩ g1 (fun q h => by rw [g3] at h; cases h) (by rw [g2]; exact hkC) (by rw [g2]; exact va_assign hcls) rfl rfl d fun H1 e z oq => ?_
  refine kk H1 _ ?_ z oq (hS.put z oq hA)
  show H1[G.1 + a]? = some (vp_cell _ _)
  rw [e]
  rw [vp_cell_q, vp_cell_q, arrV_store]
  congr 2
  funext q
  by_cases hq : q = i.toNatClampNeg
  · subst hq
    simp [updV, va_up, va_rf]
  · simp [updV, va_up, hq]
theorem c_iast (X : gX G p s m args meth c own cc nL ret ws) {a n : Nat} {f : Nat → Int32} (ha : gC G a (.inl (G.2.2 0, n, .inl f)) H) (hA : A (G.1 + a)) (hS : va_S A s.heap H locs) {i v : Int32} (hin : vp_in i n) (d : decode cc pc = .ok (.iastore, 1))
    (kk : ∀ (H1 : Heap) (locs1 : List Loc), gC G a (.inl (G.2.2 0, n, .inl (upd f i.toNatClampNeg v))) H1 → H1.size = H.size → (∀ q, q ≠ G.1 + a → H1[q]? = H[q]?) → va_S A s.heap H1 locs1 → W p l e R s m args below meth c H1 locs1 cells slots Q (F0 m (pc + 1) ls st)) : W p l e R s m args below meth c H locs cells slots Q (F0 m pc ls (.int v :: .int i :: .ref (G.1 + a) :: st)) := by
  refine W.iast X.1 X.2.1 ha (((gX_K X).1.2 0 _ rfl).1 n (fun j => .int (f j))) (fun q => by cases q) (by show ¬ (i < 0 ∨ (arrV _ _ _).slots.size ≤ _); rw [arrV_size]; exact hin) rfl rfl d fun H1 e z oq => ?_
  refine kk H1 _ ?_ z oq (hS.put z oq hA)
  show H1[G.1 + a]? = some (vp_cell _ _)
  rw [e]
  rw [vp_cell_i, vp_cell_i, arrV_store]
  congr 2
  funext q
  by_cases hq : q = i.toNatClampNeg
  · subst hq
    simp [updV, upd]
  · simp [updV, upd, hq]
theorem c_obj (X : gX G p s m args meth c own cc nL ret ws) {idx a : Nat} (hl : Cond.methodLink own idx Lib.objectInit ∈ gBIG) (hin : Cond.instanceMethod Lib.objectInit ∈ gBIG) (hc : Cond.code Lib.objectInit ⟨#[0xb1]⟩ 1 none ∈ gBIG) (hv : gLv ls nL lv) (d : decode cc pc = .ok (.invokespecial idx, 3)) (hf : 1 ≤ R.frames) (hlo : (st.map fun v => v.category).sum + 12 ≤ R.locals)
    (kk : W p l e R s m args below meth c H locs cells slots Q (F0 m (pc + 3) ls st)) : W p l e R s m args below meth c H locs cells slots Q (F0 m pc ls (.ref a :: st)) :=
  W.objInit X.1 X.2.1 (gX_own X) (gX_w X hl) (gX_w X hin) (gX_w X hc) rfl (by rw [X.2.2.2.1]; exact hv.1.1) rfl d hf (by show 2 * 0 + _ + 12 ≤ _; omega) kk
end CTOR
def gCA (G : gG) (p0 z0 : Nat) : Nat → Prop := fun q => q = G.1 + p0 ∨ G.1 + z0 ≤ q
def gCMet (l : Launch) (y : MethodName) (b : ByteArray) (n fr lo mc ms : Nat) (G : gG) (p0 z0 k : Nat) (av : List Value) (Pre Post : Heap → Prop) : Prop := Met l y (gWs y b n none) { frames := fr, cells := mc, slots := ms, locals := lo } (va_Pc av (fun U => (Pre U.heap ∧ U.heap.size = G.1 + z0) ∧ gK G U)) (va_Qv (fun (_ : Unit) => True) (fun _ t => Post t.heap ∧ t.heap.size = G.1 + (z0 + k)) (gCA G p0 z0)) mc ms (gCA G p0 z0)
theorem gOfC {l : Launch} {G : gG} {y : MethodName} {b : ByteArray} {n fr lo mc ms p0 z0 k : Nat} {av : List Value} {Pre Post : Heap → Prop} (hy : plainName y.cls = true) (hlen : (lg_sl av).length ≤ n) (hcat : (lv_args 0 av).all (fun q => q.2.category == 1) = true) (hyi : y.name = "<init>")
    (body : ∀ (p : Program) (e : Env) (s : State) (m : MethodId) (below : List Frame) (meth : Method) (c : Code), gX G p s m av.toArray meth c y.cls b n none (gWs y b n none) → meth.name = "<init>" → Pre s.heap → s.heap.size = G.1 + z0 → ∀ ls, gLv ls n (lv_args 0 av) → W p l e { frames := fr, cells := mc, slots := ms, locals := lo } s m av.toArray below meth c s.heap [] 0 0 (MQ below (va_Qv (fun (_ : Unit) => True) (fun _ t => Post t.heap ∧ t.heap.size = G.1 + (z0 + k)) (gCA G p0 z0)) av.toArray s mc ms (gCA G p0 z0)) (F0 m 0 ls [])) : gCMet l y b n fr lo mc ms G p0 z0 k av Pre Post := by
  refine Met.ofW (cc := b) (maxL := n) (ret := none) hy rfl ?_
  intro p e s m args below meth c s₁ B hml hv
  obtain ⟨rfl, ⟨hH, hz⟩, hK⟩ := hv
  rw [lg_entry_eq]
  exact body p e s m below meth c ⟨B.exec, B.bytes, B.returns, hml, findClass_of_methodNamed B.named, atoms_spec (ws := gWs y b n none) B.pre, B.notSynchronized, hK, fun w hw => List.mem_cons_of_mem _ hw⟩ ((name_of_methodNamed B.named B.method).1.trans hyi) hH hz _ (gLv_nil (lv_entry av hlen) hcat)
theorem gCPc_bl (G : gG) (av : List Value) (Pre : Heap → Prop) (z : Nat) : FrameBlind (va_Pc av (fun U => (Pre U.heap ∧ U.heap.size = z) ∧ gK G U)) := fun a U g mk q => ⟨q.1, q.2.1, gK_same (U := U.calling g mk a) q.2.2 rfl⟩
section CCALL
variable {G : gG} {p : Program} {l : Launch} {e : Env} {R : Room} {s : State} {m : MethodId} {args : Array Value} {below : List Frame} {meth : Method} {c : Code} {H : Heap} {locs : List Loc} {cells slots : Nat} {Q : State → Prop} {own : String} {cc : ByteArray} {nL : Nat} {ret : Option FieldType} {ws : List Cond} {pc : Nat} {ls : Array Slot} {st st0 : List Value} {A : Nat → Prop} {lv : List (Nat × Value)} {y : MethodName} {b : ByteArray} {n fr lo mc ms p0 z0 k a index : Nat} {C : String} {Pre Post : Heap → Prop} {As : List Value}
theorem c_call (X : gX G p s m args meth c own cc nL ret ws) (hM : gCMet l y b n fr lo mc ms G p0 z0 k (.ref (G.1 + p0) :: As) Pre Post) (hCal : gCal y b n none a C) (hin : Cond.instanceMethod y ∈ gBIG) (hl : Cond.methodLink own index y ∈ gBIG) (hyi : y.name = "<init>") (hpre : Pre H) (hsz : H.size = G.1 + z0) (hS : va_S A s.heap H locs) (hA : ∀ q, gCA G p0 z0 q → A q) (hR : fr + 1 ≤ R.frames ∧ 8 + (n + 11) + lo ≤ R.locals) (hn : As.length = a) (hv : gLv ls nL lv) (hst : st0 = As.reverse ++ .ref (G.1 + p0) :: st) (hcat : (st.map fun v => v.category).sum ≤ 8) (hcap : cells + mc ≤ R.cells ∧ slots + ms ≤ R.slots) (d : decode cc pc = .ok (.invokespecial index, 3))
    (kk : ∀ (H1 : Heap) (locs1 : List Loc), Post H1 → H1.size = G.1 + (z0 + k) → (∀ q : Nat, q < H.size → ¬ gCA G p0 z0 q → H1[q]? = H[q]?) → va_S A s.heap H1 locs1 → W p l e R s m args below meth c H1 locs1 (cells + mc) (slots + ms) Q (F0 m (pc + 3) ls st)) : W p l e R s m args below meth c H locs cells slots Q (F0 m pc ls st0) :=
  va_callv (va_runI (As := As) (rest := st) (gX_fix X) hM (cwI a X.2.2.2.2.2.1 (gGd X.2.2.2.2.2.2.2.2 hCal.1) rfl rfl rfl (gX_w X hCal.2.1) (gX_w X hl) (gX_w X hin) hyi ⟨hCal.2.2.2.1.1, hCal.2.2.2.1.2, hCal.2.2.2.2⟩ hR) ⟨gCPc_bl G _ Pre _, fun U hU hW => ⟨rfl, ⟨by rw [hU]; exact ⟨hpre, hsz⟩, gK_warm (gX_K X) hW⟩⟩⟩ rfl hn hv.1.1 hst (lv_room hcat) d hcap) hS (fun q _ h => hA q h) (fun q h => hA q h) (fun u t H1 locs1 ht _ _ hB _ hk hS => kk H1 locs1 (by rw [← ht]; exact hB.1) (by rw [← ht]; exact hB.2) hk hS)
theorem c_callN (X : gX G p s m args meth c own cc nL ret ws) (hM : gCMet l y b n fr lo mc ms G p0 z0 k (.ref (G.1 + p0) :: As) Pre Post) (hCal : gCal y b n none a C) (hin : Cond.instanceMethod y ∈ gBIG) {host : String} (hl : Cond.methodLinkNest own index y host ∈ gNest) (hyi : y.name = "<init>") (hpre : Pre H) (hsz : H.size = G.1 + z0) (hS : va_S A s.heap H locs) (hA : ∀ q, gCA G p0 z0 q → A q) (hR : fr + 1 ≤ R.frames ∧ 8 + (n + 11) + lo ≤ R.locals) (hn : As.length = a) (hv : gLv ls nL lv) (hst : st0 = As.reverse ++ .ref (G.1 + p0) :: st) (hcat : (st.map fun v => v.category).sum ≤ 8) (hcap : cells + mc ≤ R.cells ∧ slots + ms ≤ R.slots) (d : decode cc pc = .ok (.invokespecial index, 3))
    (kk : ∀ (H1 : Heap) (locs1 : List Loc), Post H1 → H1.size = G.1 + (z0 + k) → (∀ q : Nat, q < H.size → ¬ gCA G p0 z0 q → H1[q]? = H[q]?) → va_S A s.heap H1 locs1 → W p l e R s m args below meth c H1 locs1 (cells + mc) (slots + ms) Q (F0 m (pc + 3) ls st)) : W p l e R s m args below meth c H locs cells slots Q (F0 m pc ls st0) :=
  va_callv (va_runIN (As := As) (rest := st) (gX_fix X) hM ⟨va_cnB (host := host) a X.2.2.2.2.2.1 (gGd X.2.2.2.2.2.2.2.2 hCal.1) rfl rfl rfl ((gX_K X).2 _ hl) (gX_w X hCal.2.1) ⟨hCal.2.2.2.1.1, hCal.2.2.2.1.2, hCal.2.2.2.2⟩ hR, hyi, gX_w X hin⟩ ⟨gCPc_bl G _ Pre _, fun U hU hW => ⟨rfl, ⟨by rw [hU]; exact ⟨hpre, hsz⟩, gK_warm (gX_K X) hW⟩⟩⟩ rfl hn hv.1.1 hst (lv_room hcat) d hcap) hS (fun q _ h => hA q h) (fun q h => hA q h) (fun u t H1 locs1 ht _ _ hB _ hk hS => kk H1 locs1 (by rw [← ht]; exact hB.1) (by rw [← ht]; exact hB.2) hk hS)
theorem c_vret (X : gX G p s m args meth c own cc nL none ws) (hP : Post H) (hsz : H.size = G.1 + (z0 + k)) (hS : va_S (gCA G p0 z0) s.heap H locs) (hc : cells ≤ mc ∧ slots ≤ ms) (d : decode cc pc = .ok (.return_, 1)) : W p l e R s m args below meth c H locs cells slots (MQ below (va_Qv (fun (_ : Unit) => True) (fun _ t => Post t.heap ∧ t.heap.size = G.1 + (z0 + k)) (gCA G p0 z0)) args s mc ms (gCA G p0 z0)) (F0 m pc ls []) :=
  W.widen hc.1 hc.2 (W.vret X.1 X.2.1 X.2.2.1 (fun t ht hW => ⟨⟨(), rfl, trivial, by show Post t.heap ∧ _; rw [ht]; exact ⟨hP, hsz⟩⟩, hS.F ht⟩) hS.2.2 d (gX_locks X))
end CCALL
theorem gRA_eq {s : State} {cA cB : ClassId} {ty : FieldType} (h : s.vm.findClass ("[" ++ ty.toString) = some cA) (h2 : s.vm.findClass ("[" ++ ty.toString) = some cB) : cA = cB := Option.some.inj (h.symm.trans h2)
theorem arrV_ext {cA : ClassId} {n : Nat} {f g : Nat → Value} (h : ∀ j, j < n → f j = g j) : arrV cA n f = arrV cA n g := by
  unfold arrV
  congr 1
  apply Array.ext
  · simp
  · intro i h1 h2
    simp at h1 ⊢
    exact h i h1
theorem gC_q {G : gG} {a n : Nat} {cA : ClassId} {f g : Nat → Option Nat} {H : Heap} (hf : ∀ j, j < n → f j = g j) (h : gC G a (.inl (cA, n, .inr (.inr (.inr (.inr f))))) H) : gC G a (.inl (cA, n, .inr (.inr (.inr (.inr g))))) H := by
  have h1 : H[G.1 + a]? = some (arrV cA n (fun j => va_rf (f j))) := h
  show H[G.1 + a]? = some (arrV cA n (fun j => va_rf (g j)))
  rw [h1, arrV_ext (fun j hj => by rw [hf j hj])]
theorem gC_i {G : gG} {a n : Nat} {cA : ClassId} {f g : Nat → Int32} {H : Heap} (hf : ∀ j, j < n → f j = g j) (h : gC G a (.inl (cA, n, .inl f)) H) : gC G a (.inl (cA, n, .inl g)) H := by
  have h1 : H[G.1 + a]? = some (arrV cA n (fun j => .int (f j))) := h
  show H[G.1 + a]? = some (arrV cA n (fun j => .int (g j)))
  rw [h1, arrV_ext (fun j hj => by rw [hf j hj])]
