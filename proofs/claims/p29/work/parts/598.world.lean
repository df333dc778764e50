/-! ## the start: the world, the object -/
theorem gMI_ok : gOk gMI := by
  refine ⟨fun r i k => ?_, fun r i k h => ?_, fun i => ?_⟩
  · unfold nmI gMI
    split <;> (repeat' split) <;> omega
  · unfold gZ at h
    unfold gMI
    split at h <;> simp_all <;> omega
  · show (if 3 = 0 then ((i % 4 : Nat) : Int) else if 3 = 1 then (if i = 0 then 1 else 0) else if 3 = 2 then -1 else if 3 = 3 then -1 else 0) < (60 : Int)
    simp
theorem gIz {G : gG} {a n : Nat} {cA : ClassId} {g : Nat → Int} {H : Heap} (hg : ∀ j, g j = 0) (h : gC G a (.inl (cA, n, .inl (fun _ => 0))) H) : gC G a (.inl (cA, n, .inl (fun k => iI (g k)))) H := by
  have e : (fun k => iI (g k)) = fun _ => (0 : Int32) := funext fun k => by rw [hg]; rfl
  rw [e]; exact h
theorem gNw_of {w : Cond} {s : State} {b : Addr} (hn : gIsN w = true) (h : w.before #[Value.ref b] s = true) : va_Nw w s := by
  cases w <;> first | exact va_Nw.of rfl h | exact h | cases hn
set_option maxRecDepth 20000 in
theorem gStart {s : State} {b : Addr} (hts : ∀ w ∈ lw_tbl, w.before #[Value.ref b] s = true) (hg : (Jvm.Cond.and given_1 narrow_1).before #[Value.ref b] s = true) : ∃ G : gG, G.1 = s.heap.size ∧ gBan G = 0 ∧ gK G s ∧ gS G s := by
  have hs := flat_of_before _ hg
  have hbig : ∀ w ∈ gBIG, w.before #[Value.ref b] s = true := fun w hw => hts w (List.mem_filter.mp hw).1
  have hnest : ∀ w ∈ gNest, va_Nw w s := fun w hw => gNw_of (List.mem_filter.mp hw).2 (hts w (List.mem_filter.mp hw).1)
  have h13 : ∀ c : Nat, ∃ r : ClassId × (Nat → Nat), ∀ q, gCl[c]? = some q → u_Kn s q.1 q.2.1 q.2.2 r.1 r.2 := by
    intro c
    match c with
    | 0 => obtain ⟨cC, iS, h⟩ := u_known hbig cX0.2.1 (hbig _ k_134); exact ⟨(cC, iS), fun q hq => by cases hq; exact h⟩
    | 1 => obtain ⟨cC, iS, h⟩ := u_known hbig cX1.2.1 (hbig _ k_268); exact ⟨(cC, iS), fun q hq => by cases hq; exact h⟩
    | 2 => obtain ⟨cC, iS, h⟩ := u_known hbig cX2.2.1 (hbig _ k_318); exact ⟨(cC, iS), fun q hq => by cases hq; exact h⟩
    | 3 => obtain ⟨cC, iS, h⟩ := u_known hbig cX3.2.1 (hbig _ k_275); exact ⟨(cC, iS), fun q hq => by cases hq; exact h⟩
    | 4 => obtain ⟨cC, iS, h⟩ := u_known hbig cX4.2.1 (hbig _ k_421); exact ⟨(cC, iS), fun q hq => by cases hq; exact h⟩
    | 5 => obtain ⟨cC, iS, h⟩ := u_known hbig cX5.2.1 (hbig _ k_91); exact ⟨(cC, iS), fun q hq => by cases hq; exact h⟩
    | 6 => obtain ⟨cC, iS, h⟩ := u_known hbig cX6.2.1 (hbig _ k_106); exact ⟨(cC, iS), fun q hq => by cases hq; exact h⟩
    | 7 => obtain ⟨cC, iS, h⟩ := u_known hbig cX7.2.1 (hbig _ k_59); exact ⟨(cC, iS), fun q hq => by cases hq; exact h⟩
    | 8 => obtain ⟨cC, iS, h⟩ := u_known hbig cX8.2.1 (hbig _ k_98); exact ⟨(cC, iS), fun q hq => by cases hq; exact h⟩
    | 9 => obtain ⟨cC, iS, h⟩ := u_known hbig cX9.2.1 (hbig _ k_320); exact ⟨(cC, iS), fun q hq => by cases hq; exact h⟩
    | 10 => obtain ⟨cC, iS, h⟩ := u_known hbig cX10.2.1 (hbig _ k_343); exact ⟨(cC, iS), fun q hq => by cases hq; exact h⟩
    | 11 => obtain ⟨cC, iS, h⟩ := u_known hbig cX11.2.1 (hbig _ k_51); exact ⟨(cC, iS), fun q hq => by cases hq; exact h⟩
    | n + 12 => exact ⟨(0, fun _ => 0), fun q hq => absurd (List.getElem?_eq_some_iff.mp hq).1 (by show ¬ n + 12 < 12; omega)⟩
  obtain ⟨D, hD⟩ := Classical.skolem.mp h13
  have h7 : ∀ k : Nat, ∃ c : ClassId, ∀ ty, ([.int, .int, .object "BuildGrid$Action", .object "BuildGrid$Entry", .object "BuildGrid$Target", .object "BuildGrid$Worker"] : List FieldType)[k]? = some ty → ArrOfT s c ty ∧ va_RA s c ty := by
    intro k
    match k with
    | 0 => obtain ⟨c, k, comp, h1, h2, h3⟩ := Cond.arrayClass_spec (hbig _ k_89); exact ⟨c, fun ty hty => by cases hty; exact ⟨fun N z => ⟨(fun k h => by cases h), k, h2, comp, h3⟩, h1⟩⟩
    | 1 => obtain ⟨c, k, comp, h1, h2, h3⟩ := Cond.arrayClass_spec (hbig _ k_89); exact ⟨c, fun ty hty => by cases hty; exact ⟨fun N z => ⟨(fun k h => by cases h), k, h2, comp, h3⟩, h1⟩⟩
    | 2 => obtain ⟨comp, c, k, h1, h2, h3, h4, h5⟩ := Cond.arrayOver_spec (hnest _ k_104); exact ⟨c, fun ty hty => by cases hty; exact ⟨fun N z => ⟨(fun k h => by cases h), k, h3, comp, h4⟩, ⟨k, comp, h3, h4, h1, h5⟩⟩⟩
    | 3 => obtain ⟨comp, c, k, h1, h2, h3, h4, h5⟩ := Cond.arrayOver_spec (hnest _ k_274); exact ⟨c, fun ty hty => by cases hty; exact ⟨fun N z => ⟨(fun k h => by cases h), k, h3, comp, h4⟩, ⟨k, comp, h3, h4, h1, h5⟩⟩⟩
    | 4 => obtain ⟨comp, c, k, h1, h2, h3, h4, h5⟩ := Cond.arrayOver_spec (hnest _ k_97); exact ⟨c, fun ty hty => by cases hty; exact ⟨fun N z => ⟨(fun k h => by cases h), k, h3, comp, h4⟩, ⟨k, comp, h3, h4, h1, h5⟩⟩⟩
    | 5 => obtain ⟨comp, c, k, h1, h2, h3, h4, h5⟩ := Cond.arrayOver_spec (hnest _ k_381); exact ⟨c, fun ty hty => by cases hty; exact ⟨fun N z => ⟨(fun k h => by cases h), k, h3, comp, h4⟩, ⟨k, comp, h3, h4, h1, h5⟩⟩⟩
    | n + 6 => exact ⟨0, fun q hq => absurd (List.getElem?_eq_some_iff.mp hq).1 (by show ¬ n + 6 < 6; omega)⟩
  obtain ⟨A, hA⟩ := Classical.skolem.mp h7
  refine ⟨(s.heap.size, (fun c => (D c).1, fun c => if c = 1000 then (fun _ => 0) else (D c).2), A), rfl, rfl, ⟨⟨fun c q hq => ?_, fun k q hk => ?_⟩, hnest⟩, ?_⟩
  · have hc : ¬ c = 1000 := fun e => absurd (List.getElem?_eq_some_iff.mp hq).1 (by rw [e]; show ¬ 1000 < 12; decide)
    show u_Kn s q.1 q.2.1 q.2.2 (D c).1 (if c = 1000 then (fun _ => 0) else (D c).2)
    rw [if_neg hc]
    exact hD c q hq
  · match k, hk with
    | 0, hk => cases hk; exact hA 0 _ rfl
    | 1, hk => cases hk; exact hA 0 _ rfl
    | 2, hk => cases hk; exact hA 2 _ rfl
    | 3, hk => cases hk; exact hA 3 _ rfl
    | 4, hk => cases hk; exact hA 4 _ rfl
    | 5, hk => cases hk; exact hA 5 _ rfl
    | n + 6, hk => exact absurd (List.getElem?_eq_some_iff.mp hk).1 (by show ¬ n + 6 < 6; omega)
  · have hA0 : ∀ a : Nat, a < s.heap.size → ¬ gA (s.heap.size, (fun c => (D c).1, fun c => if c = 1000 then (fun _ => 0) else (D c).2), A) a := fun a h q => absurd q.1 (Nat.not_le.mpr h)
    have hx276 : (Cond.exactly (.string "BuildGrid" 276) "java/lang/String").before #[Value.ref b] s = true := hs _ (by decide +kernel)
    have hx280 : (Cond.exactly (.string "BuildGrid" 280) "java/lang/String").before #[Value.ref b] s = true := hs _ (by decide +kernel)
    have hx285 : (Cond.exactly (.string "BuildGrid" 285) "java/lang/String").before #[Value.ref b] s = true := hs _ (by decide +kernel)
    have hx178 : (Cond.exactly (.string "BuildGrid" 178) "java/lang/String").before #[Value.ref b] s = true := hs _ (by decide +kernel)
    have hn12 : va_Nc "java/lang/IllegalArgumentException" "java/lang/IndexOutOfBoundsException" s := va_Nc.of (hs _ (by decide +kernel))
    have hn13 : va_Nc "java/lang/IllegalArgumentException" "java/lang/IllegalStateException" s := va_Nc.of (hs _ (by decide +kernel))
    have hn21 : va_Nc "java/lang/IndexOutOfBoundsException" "java/lang/IllegalArgumentException" s := va_Nc.of (hs _ (by decide +kernel))
    have hn23 : va_Nc "java/lang/IndexOutOfBoundsException" "java/lang/IllegalStateException" s := va_Nc.of (hs _ (by decide +kernel))
    have hn31 : va_Nc "java/lang/IllegalStateException" "java/lang/IllegalArgumentException" s := va_Nc.of (hs _ (by decide +kernel))
    have hn32 : va_Nc "java/lang/IllegalStateException" "java/lang/IndexOutOfBoundsException" s := va_Nc.of (hs _ (by decide +kernel))
    refine ⟨vx_Zqof (hts _ (List.mem_of_getElem? (i := 514) rfl)) (hts _ (List.mem_of_getElem? (i := 43) rfl)) (hs _ (by decide +kernel)) hA0, vx_Zqof (hts _ (List.mem_of_getElem? (i := 516) rfl)) (hts _ (List.mem_of_getElem? (i := 43) rfl)) (hs _ (by decide +kernel)) hA0, fun z hz => ?_, fun a b ha hb hn => ?_⟩
    · simp only [gStr, List.mem_cons, List.not_mem_nil, or_false] at hz
      rcases hz with rfl | rfl | rfl | rfl
      · obtain ⟨a, _, _, _, ha, _⟩ := Cond.exactly_spec hx276; exact ⟨a, vk_R.of (hts _ (List.mem_of_getElem? (i := 528) rfl)) ha⟩
      · obtain ⟨a, _, _, _, ha, _⟩ := Cond.exactly_spec hx280; exact ⟨a, vk_R.of (hts _ (List.mem_of_getElem? (i := 594) rfl)) ha⟩
      · obtain ⟨a, _, _, _, ha, _⟩ := Cond.exactly_spec hx285; exact ⟨a, vk_R.of (hts _ (List.mem_of_getElem? (i := 623) rfl)) ha⟩
      · obtain ⟨a, _, _, _, ha, _⟩ := Cond.exactly_spec hx178; exact ⟨a, vk_R.of (hts _ (List.mem_of_getElem? (i := 690) rfl)) ha⟩
    · simp only [List.mem_cons, List.not_mem_nil, or_false] at ha hb
      rcases ha with rfl | rfl | rfl <;> rcases hb with rfl | rfl | rfl <;> first | exact absurd rfl hn | exact hn12 | exact hn13 | exact hn21 | exact hn23 | exact hn31 | exact hn32
set_option maxHeartbeats 4000000 in
theorem gIni {G : gG} {H : Heap} (h11 : C_X11_init G 0 1 H) : gH G gMI H := by
  obtain ⟨f0, ⟨f1, f2, f3, f4, f5, f6⟩, ⟨f7, f8, f9, f10, ⟨f11, f12, ⟨f13, f14, f15, f16, f17⟩, f18, f19, f20, f21⟩, ⟨f22, f23, f24, f25, f26⟩, ⟨f27, f28, ⟨f29, f30, f31, f32, f33⟩, f34, f35, f36, f37⟩, ⟨f38, f39, ⟨f40, f41, f42, f43, f44⟩, f45, f46, f47, f48⟩, ⟨f49, f50, ⟨f51, f52, f53, f54, f55⟩, f56, f57, f58, f59⟩, ⟨f60, f61, ⟨f62, f63, f64, f65, f66⟩, f67, f68, f69, f70⟩, ⟨f71, f72, ⟨f73, f74, f75, f76, f77⟩, f78, f79, f80, f81⟩, ⟨f82, f83, ⟨f84, f85, f86, f87, f88⟩, f89, f90, f91, f92⟩, ⟨f93, f94, ⟨f95, f96, f97, f98, f99⟩, f100, f101, f102, f103⟩, ⟨f104, f105, ⟨f106, f107, f108, f109, f110⟩, f111, f112, f113, f114⟩, ⟨f115, f116, ⟨f117, f118, f119, f120, f121⟩, f122, f123, f124, f125⟩, ⟨f126, f127, ⟨f128, f129, f130, f131, f132⟩, f133, f134, f135, f136⟩, ⟨f137, f138, ⟨f139, f140, f141, f142, f143⟩, f144, f145, f146, f147⟩, ⟨f148, f149, ⟨f150, f151, f152, f153, f154⟩, f155, f156, f157, f158⟩, ⟨f159, f160, ⟨f161, f162, f163, f164, f165⟩, f166, f167, f168, f169⟩, ⟨f170, f171, ⟨f172, f173, f174, f175, f176⟩, f177, f178, f179, f180⟩⟩, ⟨f181, gr183, f182⟩, ⟨f223, f226, f227, f228, f229, f230, f231⟩, ⟨f224, f225⟩, ⟨f232, ⟨f233, f235⟩, f234⟩⟩ := h11
  refine ⟨gMI_ok, fun k q hq => ?_⟩
  have hk : k < gN := by
    rcases Nat.lt_or_ge k gN with h | h
    · exact h
    · rw [gWn_ge G gMI h] at hq; cases hq
  rw [gWn_at G gMI hk] at hq
  cases hq
  show gC G k _ H
  match k, hk with
  | 0, _ => exact f0
  | 1, _ => exact f1
  | 2, _ => exact gIz (g := gMI 12 0) (fun _ => rfl) f2
  | 3, _ => exact gIz (g := gMI 13 0) (fun _ => rfl) f3
  | 4, _ => exact gIz (g := gMI 14 0) (fun _ => rfl) f4
  | 5, _ => exact gIz (g := gMI 15 0) (fun _ => rfl) f5
  | 6, _ => exact gIz (g := gMI 16 0) (fun _ => rfl) f6
  | 7, _ => exact f7
  | 8, _ => exact gC_q (fun j hj => by
      match j, hj with
      | 0, _ => rfl
      | 1, _ => rfl
      | 2, _ => rfl
      | 3, _ => rfl
      | 4, _ => rfl
      | 5, _ => rfl
      | 6, _ => rfl
      | 7, _ => rfl
      | 8, _ => rfl
      | 9, _ => rfl
      | 10, _ => rfl
      | 11, _ => rfl
      | 12, _ => rfl
      | 13, _ => rfl
      | j + 14, hj => exact absurd hj (by omega)) f8
  | 9, _ => exact gIz (g := gMI 21 0) (fun _ => rfl) f9
  | 10, _ => exact gIz (g := gMI 22 0) (fun _ => rfl) f10
  | 11, _ => exact f11
  | 12, _ => exact gC_q (fun j hj => by
      match j, hj with
      | 0, _ => rfl
      | 1, _ => rfl
      | 2, _ => rfl
      | 3, _ => rfl
      | j + 4, hj => exact absurd hj (by omega)) f12
  | 13, _ => exact f13
  | 14, _ => exact gIz (g := gMI 17 14) (fun _ => rfl) f14
  | 15, _ => exact gIz (g := gMI 18 14) (fun _ => rfl) f15
  | 16, _ => exact gIz (g := gMI 19 14) (fun _ => rfl) f16
  | 17, _ => exact gIz (g := gMI 20 14) (fun _ => rfl) f17
  | 18, _ => exact f18
  | 19, _ => exact f19
  | 20, _ => exact f20
  | 21, _ => exact f21
  | 22, _ => exact f22
  | 23, _ => exact gIz (g := gMI 17 15) (fun _ => rfl) f23
  | 24, _ => exact gIz (g := gMI 18 15) (fun _ => rfl) f24
  | 25, _ => exact gIz (g := gMI 19 15) (fun _ => rfl) f25
  | 26, _ => exact gIz (g := gMI 20 15) (fun _ => rfl) f26
  | 27, _ => exact f27
  | 28, _ => exact gC_q (fun j hj => by
      match j, hj with
      | 0, _ => rfl
      | 1, _ => rfl
      | 2, _ => rfl
      | 3, _ => rfl
      | j + 4, hj => exact absurd hj (by omega)) f28
  | 29, _ => exact f29
  | 30, _ => exact gIz (g := gMI 17 0) (fun _ => rfl) f30
  | 31, _ => exact gIz (g := gMI 18 0) (fun _ => rfl) f31
  | 32, _ => exact gIz (g := gMI 19 0) (fun _ => rfl) f32
  | 33, _ => exact gIz (g := gMI 20 0) (fun _ => rfl) f33
  | 34, _ => exact f34
  | 35, _ => exact f35
  | 36, _ => exact f36
  | 37, _ => exact f37
  | 38, _ => exact f38
  | 39, _ => exact gC_q (fun j hj => by
      match j, hj with
      | 0, _ => rfl
      | 1, _ => rfl
      | 2, _ => rfl
      | 3, _ => rfl
      | j + 4, hj => exact absurd hj (by omega)) f39
  | 40, _ => exact f40
  | 41, _ => exact gIz (g := gMI 17 1) (fun _ => rfl) f41
  | 42, _ => exact gIz (g := gMI 18 1) (fun _ => rfl) f42
  | 43, _ => exact gIz (g := gMI 19 1) (fun _ => rfl) f43
  | 44, _ => exact gIz (g := gMI 20 1) (fun _ => rfl) f44
  | 45, _ => exact f45
  | 46, _ => exact f46
  | 47, _ => exact f47
  | 48, _ => exact f48
  | 49, _ => exact f49
  | 50, _ => exact gC_q (fun j hj => by
      match j, hj with
      | 0, _ => rfl
      | 1, _ => rfl
      | 2, _ => rfl
      | 3, _ => rfl
      | j + 4, hj => exact absurd hj (by omega)) f50
  | 51, _ => exact f51
  | 52, _ => exact gIz (g := gMI 17 2) (fun _ => rfl) f52
  | 53, _ => exact gIz (g := gMI 18 2) (fun _ => rfl) f53
  | 54, _ => exact gIz (g := gMI 19 2) (fun _ => rfl) f54
  | 55, _ => exact gIz (g := gMI 20 2) (fun _ => rfl) f55
  | 56, _ => exact f56
  | 57, _ => exact f57
  | 58, _ => exact f58
  | 59, _ => exact f59
  | 60, _ => exact f60
  | 61, _ => exact gC_q (fun j hj => by
      match j, hj with
      | 0, _ => rfl
      | 1, _ => rfl
      | 2, _ => rfl
      | 3, _ => rfl
      | j + 4, hj => exact absurd hj (by omega)) f61
  | 62, _ => exact f62
  | 63, _ => exact gIz (g := gMI 17 3) (fun _ => rfl) f63
  | 64, _ => exact gIz (g := gMI 18 3) (fun _ => rfl) f64
  | 65, _ => exact gIz (g := gMI 19 3) (fun _ => rfl) f65
  | 66, _ => exact gIz (g := gMI 20 3) (fun _ => rfl) f66
  | 67, _ => exact f67
  | 68, _ => exact f68
  | 69, _ => exact f69
  | 70, _ => exact f70
  | 71, _ => exact f71
  | 72, _ => exact gC_q (fun j hj => by
      match j, hj with
      | 0, _ => rfl
      | 1, _ => rfl
      | 2, _ => rfl
      | 3, _ => rfl
      | j + 4, hj => exact absurd hj (by omega)) f72
  | 73, _ => exact f73
  | 74, _ => exact gIz (g := gMI 17 4) (fun _ => rfl) f74
  | 75, _ => exact gIz (g := gMI 18 4) (fun _ => rfl) f75
  | 76, _ => exact gIz (g := gMI 19 4) (fun _ => rfl) f76
  | 77, _ => exact gIz (g := gMI 20 4) (fun _ => rfl) f77
  | 78, _ => exact f78
  | 79, _ => exact f79
  | 80, _ => exact f80
  | 81, _ => exact f81
  | 82, _ => exact f82
  | 83, _ => exact gC_q (fun j hj => by
      match j, hj with
      | 0, _ => rfl
      | 1, _ => rfl
      | 2, _ => rfl
      | 3, _ => rfl
      | j + 4, hj => exact absurd hj (by omega)) f83
  | 84, _ => exact f84
  | 85, _ => exact gIz (g := gMI 17 5) (fun _ => rfl) f85
  | 86, _ => exact gIz (g := gMI 18 5) (fun _ => rfl) f86
  | 87, _ => exact gIz (g := gMI 19 5) (fun _ => rfl) f87
  | 88, _ => exact gIz (g := gMI 20 5) (fun _ => rfl) f88
  | 89, _ => exact f89
  | 90, _ => exact f90
  | 91, _ => exact f91
  | 92, _ => exact f92
  | 93, _ => exact f93
  | 94, _ => exact gC_q (fun j hj => by
      match j, hj with
      | 0, _ => rfl
      | 1, _ => rfl
      | 2, _ => rfl
      | 3, _ => rfl
      | j + 4, hj => exact absurd hj (by omega)) f94
  | 95, _ => exact f95
  | 96, _ => exact gIz (g := gMI 17 6) (fun _ => rfl) f96
  | 97, _ => exact gIz (g := gMI 18 6) (fun _ => rfl) f97
  | 98, _ => exact gIz (g := gMI 19 6) (fun _ => rfl) f98
  | 99, _ => exact gIz (g := gMI 20 6) (fun _ => rfl) f99
  | 100, _ => exact f100
  | 101, _ => exact f101
  | 102, _ => exact f102
  | 103, _ => exact f103
  | 104, _ => exact f104
  | 105, _ => exact gC_q (fun j hj => by
      match j, hj with
      | 0, _ => rfl
      | 1, _ => rfl
      | 2, _ => rfl
      | 3, _ => rfl
      | j + 4, hj => exact absurd hj (by omega)) f105
  | 106, _ => exact f106
  | 107, _ => exact gIz (g := gMI 17 7) (fun _ => rfl) f107
  | 108, _ => exact gIz (g := gMI 18 7) (fun _ => rfl) f108
  | 109, _ => exact gIz (g := gMI 19 7) (fun _ => rfl) f109
  | 110, _ => exact gIz (g := gMI 20 7) (fun _ => rfl) f110
  | 111, _ => exact f111
  | 112, _ => exact f112
  | 113, _ => exact f113
  | 114, _ => exact f114
  | 115, _ => exact f115
  | 116, _ => exact gC_q (fun j hj => by
      match j, hj with
      | 0, _ => rfl
      | 1, _ => rfl
      | 2, _ => rfl
      | 3, _ => rfl
      | j + 4, hj => exact absurd hj (by omega)) f116
  | 117, _ => exact f117
  | 118, _ => exact gIz (g := gMI 17 8) (fun _ => rfl) f118
  | 119, _ => exact gIz (g := gMI 18 8) (fun _ => rfl) f119
  | 120, _ => exact gIz (g := gMI 19 8) (fun _ => rfl) f120
  | 121, _ => exact gIz (g := gMI 20 8) (fun _ => rfl) f121
  | 122, _ => exact f122
  | 123, _ => exact f123
  | 124, _ => exact f124
  | 125, _ => exact f125
  | 126, _ => exact f126
  | 127, _ => exact gC_q (fun j hj => by
      match j, hj with
      | 0, _ => rfl
      | 1, _ => rfl
      | 2, _ => rfl
      | 3, _ => rfl
      | j + 4, hj => exact absurd hj (by omega)) f127
  | 128, _ => exact f128
  | 129, _ => exact gIz (g := gMI 17 9) (fun _ => rfl) f129
  | 130, _ => exact gIz (g := gMI 18 9) (fun _ => rfl) f130
  | 131, _ => exact gIz (g := gMI 19 9) (fun _ => rfl) f131
  | 132, _ => exact gIz (g := gMI 20 9) (fun _ => rfl) f132
  | 133, _ => exact f133
  | 134, _ => exact f134
  | 135, _ => exact f135
  | 136, _ => exact f136
  | 137, _ => exact f137
  | 138, _ => exact gC_q (fun j hj => by
      match j, hj with
      | 0, _ => rfl
      | 1, _ => rfl
      | 2, _ => rfl
      | 3, _ => rfl
      | j + 4, hj => exact absurd hj (by omega)) f138
  | 139, _ => exact f139
  | 140, _ => exact gIz (g := gMI 17 10) (fun _ => rfl) f140
  | 141, _ => exact gIz (g := gMI 18 10) (fun _ => rfl) f141
  | 142, _ => exact gIz (g := gMI 19 10) (fun _ => rfl) f142
  | 143, _ => exact gIz (g := gMI 20 10) (fun _ => rfl) f143
  | 144, _ => exact f144
  | 145, _ => exact f145
  | 146, _ => exact f146
  | 147, _ => exact f147
  | 148, _ => exact f148
  | 149, _ => exact gC_q (fun j hj => by
      match j, hj with
      | 0, _ => rfl
      | 1, _ => rfl
      | 2, _ => rfl
      | 3, _ => rfl
      | j + 4, hj => exact absurd hj (by omega)) f149
  | 150, _ => exact f150
  | 151, _ => exact gIz (g := gMI 17 11) (fun _ => rfl) f151
  | 152, _ => exact gIz (g := gMI 18 11) (fun _ => rfl) f152
  | 153, _ => exact gIz (g := gMI 19 11) (fun _ => rfl) f153
  | 154, _ => exact gIz (g := gMI 20 11) (fun _ => rfl) f154
  | 155, _ => exact f155
  | 156, _ => exact f156
  | 157, _ => exact f157
  | 158, _ => exact f158
  | 159, _ => exact f159
  | 160, _ => exact gC_q (fun j hj => by
      match j, hj with
      | 0, _ => rfl
      | 1, _ => rfl
      | 2, _ => rfl
      | 3, _ => rfl
      | j + 4, hj => exact absurd hj (by omega)) f160
  | 161, _ => exact f161
  | 162, _ => exact gIz (g := gMI 17 12) (fun _ => rfl) f162
  | 163, _ => exact gIz (g := gMI 18 12) (fun _ => rfl) f163
  | 164, _ => exact gIz (g := gMI 19 12) (fun _ => rfl) f164
  | 165, _ => exact gIz (g := gMI 20 12) (fun _ => rfl) f165
  | 166, _ => exact f166
  | 167, _ => exact f167
  | 168, _ => exact f168
  | 169, _ => exact f169
  | 170, _ => exact f170
  | 171, _ => exact gC_q (fun j hj => by
      match j, hj with
      | 0, _ => rfl
      | 1, _ => rfl
      | 2, _ => rfl
      | 3, _ => rfl
      | j + 4, hj => exact absurd hj (by omega)) f171
  | 172, _ => exact f172
  | 173, _ => exact gIz (g := gMI 17 13) (fun _ => rfl) f173
  | 174, _ => exact gIz (g := gMI 18 13) (fun _ => rfl) f174
  | 175, _ => exact gIz (g := gMI 19 13) (fun _ => rfl) f175
  | 176, _ => exact gIz (g := gMI 20 13) (fun _ => rfl) f176
  | 177, _ => exact f177
  | 178, _ => exact f178
  | 179, _ => exact f179
  | 180, _ => exact f180
  | 181, _ => exact f181
  | 182, _ => exact gC_q (fun j hj => by
      match j, hj with
      | 0, _ => rfl
      | 1, _ => rfl
      | 2, _ => rfl
      | 3, _ => rfl
      | 4, _ => rfl
      | 5, _ => rfl
      | 6, _ => rfl
      | 7, _ => rfl
      | 8, _ => rfl
      | 9, _ => rfl
      | 10, _ => rfl
      | 11, _ => rfl
      | 12, _ => rfl
      | 13, _ => rfl
      | 14, _ => rfl
      | 15, _ => rfl
      | 16, _ => rfl
      | 17, _ => rfl
      | 18, _ => rfl
      | 19, _ => rfl
      | 20, _ => rfl
      | 21, _ => rfl
      | 22, _ => rfl
      | 23, _ => rfl
      | 24, _ => rfl
      | 25, _ => rfl
      | 26, _ => rfl
      | 27, _ => rfl
      | 28, _ => rfl
      | 29, _ => rfl
      | 30, _ => rfl
      | 31, _ => rfl
      | 32, _ => rfl
      | 33, _ => rfl
      | 34, _ => rfl
      | 35, _ => rfl
      | 36, _ => rfl
      | 37, _ => rfl
      | 38, _ => rfl
      | 39, _ => rfl
      | j + 40, hj => exact absurd hj (by omega)) f182
  | 183, _ => exact (gr183 0 (by decide) (by decide))
  | 184, _ => exact (gr183 1 (by decide) (by decide))
  | 185, _ => exact (gr183 2 (by decide) (by decide))
  | 186, _ => exact (gr183 3 (by decide) (by decide))
  | 187, _ => exact (gr183 4 (by decide) (by decide))
  | 188, _ => exact (gr183 5 (by decide) (by decide))
  | 189, _ => exact (gr183 6 (by decide) (by decide))
  | 190, _ => exact (gr183 7 (by decide) (by decide))
  | 191, _ => exact (gr183 8 (by decide) (by decide))
  | 192, _ => exact (gr183 9 (by decide) (by decide))
  | 193, _ => exact (gr183 10 (by decide) (by decide))
  | 194, _ => exact (gr183 11 (by decide) (by decide))
  | 195, _ => exact (gr183 12 (by decide) (by decide))
  | 196, _ => exact (gr183 13 (by decide) (by decide))
  | 197, _ => exact (gr183 14 (by decide) (by decide))
  | 198, _ => exact (gr183 15 (by decide) (by decide))
  | 199, _ => exact (gr183 16 (by decide) (by decide))
  | 200, _ => exact (gr183 17 (by decide) (by decide))
  | 201, _ => exact (gr183 18 (by decide) (by decide))
  | 202, _ => exact (gr183 19 (by decide) (by decide))
  | 203, _ => exact (gr183 20 (by decide) (by decide))
  | 204, _ => exact (gr183 21 (by decide) (by decide))
  | 205, _ => exact (gr183 22 (by decide) (by decide))
  | 206, _ => exact (gr183 23 (by decide) (by decide))
  | 207, _ => exact (gr183 24 (by decide) (by decide))
  | 208, _ => exact (gr183 25 (by decide) (by decide))
  | 209, _ => exact (gr183 26 (by decide) (by decide))
  | 210, _ => exact (gr183 27 (by decide) (by decide))
  | 211, _ => exact (gr183 28 (by decide) (by decide))
  | 212, _ => exact (gr183 29 (by decide) (by decide))
  | 213, _ => exact (gr183 30 (by decide) (by decide))
  | 214, _ => exact (gr183 31 (by decide) (by decide))
  | 215, _ => exact (gr183 32 (by decide) (by decide))
  | 216, _ => exact (gr183 33 (by decide) (by decide))
  | 217, _ => exact (gr183 34 (by decide) (by decide))
  | 218, _ => exact (gr183 35 (by decide) (by decide))
  | 219, _ => exact (gr183 36 (by decide) (by decide))
  | 220, _ => exact (gr183 37 (by decide) (by decide))
  | 221, _ => exact (gr183 38 (by decide) (by decide))
  | 222, _ => exact (gr183 39 (by decide) (by decide))
  | 223, _ => exact f223
  | 224, _ => exact f224
  | 225, _ => exact gIz (g := gMI 23 0) (fun _ => rfl) f225
  | 226, _ => exact f226
  | 227, _ => exact gC_q (fun j hj => by
      match j, hj with
      | 0, _ => rfl
      | 1, _ => rfl
      | 2, _ => rfl
      | 3, _ => rfl
      | j + 4, hj => exact absurd hj (by omega)) f227
  | 228, _ => exact gIz (g := gMI 24 0) (fun _ => rfl) f228
  | 229, _ => exact f229
  | 230, _ => exact f230
  | 231, _ => exact f231
  | 232, _ => exact f232
  | 233, _ => exact f233
  | 234, _ => exact gIz (g := gMI 12 1) (fun _ => rfl) f234
  | 235, _ => exact gIz (g := gMI 23 1) (fun _ => rfl) f235
  | k + 236, hk => exact absurd hk (by unfold gN; omega)
