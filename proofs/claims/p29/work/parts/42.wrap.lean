def ol {α β : Type} (r : Nat ⊕ α) (a : Nat → Option β) (k : α → Option β) : Option β := match r with
  | .inl e => a e
  | .inr v => k v
theorem ol_l {α β : Type} {e : Nat} {a : Nat → Option β} {k : α → Option β} {r : Option β} (h : ol (Sum.inl e) a k = r) : a e = r := h
theorem ol_r {α β : Type} {v : α} {a : Nat → Option β} {k : α → Option β} {r : Option β} (h : ol (Sum.inr v) a k = r) : k v = r := h
def f_L_write (v1 : Int) (v2 : Int) (M0 : gM) : Option (Int × gM) := ob (f_X11_write v1 v2 M0) fun r5 => ol r5 (fun e8 => if e8 = 1 then (some ((1, M0))) else (none)) fun v5_ => some ((0, gU v5_.2 75 0 0 v5_.1))
def f_L_set (v1 : Int) (v2 : Int) (M0 : gM) : Option (Int × gM) := ob (f_X11_set v1 v2 M0) fun r5 => ol r5 (fun e8 => if e8 = 1 then (some ((1, M0))) else (if e8 = 3 then (some ((2, M0))) else (none))) fun v5_ => some ((0, gU v5_.2 75 0 0 v5_.1))
def f_L_setTool (v1 : Int) (v2 : Int) (M0 : gM) : Option (Int × gM) := ob (f_X11_setTool v1 v2 M0) fun r5 => ol r5 (fun e8 => if e8 = 1 then (some ((1, M0))) else (if e8 = 3 then (some ((2, M0))) else (none))) fun v5_ => some ((0, gU v5_.2 75 0 0 v5_.1))
def f_L_input (v1 : Int) (v2 : Int) (v3 : Int) (v4 : Int) (M0 : gM) : Option (Int × gM) := ob (f_X11_input v1 v2 v3 v4 M0) fun r9 => ol r9 (fun e8 => if e8 = 1 then (some ((1, M0))) else (if e8 = 2 then (some ((2, M0))) else (if e8 = 3 then (some ((3, M0))) else (none)))) fun v9_ => some ((0, gU v9_.2 75 0 0 v9_.1))
def f_L_target (v1 : Int) (v2 : Int) (v3 : Int) (v4 : Int) (v5 : Int) (v6 : Int) (M0 : gM) : Option (Int × gM) := ob (f_X11_target v1 v2 v3 v4 v5 v6 M0) fun r13 => ol r13 (fun e8 => if e8 = 1 then (some ((1, M0))) else (if e8 = 3 then (some ((2, M0))) else (none))) fun v13_ => some ((0, gU v13_.2 75 0 0 v13_.1))
def f_L_setPower (v1 : Int) (v2 : Int) (M0 : gM) : Option (Int × gM) := ob (f_X11_setPower v1 v2 M0) fun r5 => ol r5 (fun e8 => if e8 = 1 then (some ((1, M0))) else (none)) fun v5_ => some ((0, gU v5_.2 75 0 0 v5_.1))
def f_L_build (v1 : Int) (M0 : gM) : Option (Int × gM) := ob (f_X11_build v1 M0) fun r4 => ol r4 (fun e8 => if e8 = 1 then (some ((1, M0))) else (if e8 = 3 then (some ((2, M0))) else (none))) fun v4_ => some ((0, gU v4_.2 75 0 0 v4_.1))
def f_L_pass (v1 : Int) (M0 : gM) : Option (Int × gM) := ob (f_X11_pass v1 M0) fun r4 => ol r4 (fun e8 => if e8 = 1 then (some ((1, M0))) else (none)) fun v4_ => some ((0, gU v4_.2 75 0 0 v4_.1))
def f_L_state (v1 : Int) (v2 : Int) (M0 : gM) : Option (Int × gM) := ob (f_X11_state v1 v2 M0) fun r5 => ol r5 (fun e8 => if e8 = 2 then (some ((1, M0))) else (if e8 = 1 then (some ((2, M0))) else (none))) fun v5_ => some ((0, gU M0 75 0 0 v5_))
def f_L_result (v1 : Int) (v2 : Int) (M0 : gM) : Option (Int × gM) := ob (f_X11_result v1 v2 M0) fun r5 => ol r5 (fun e8 => if e8 = 2 then (some ((1, M0))) else (if e8 = 1 then (some ((2, M0))) else (none))) fun v5_ => some ((0, gU M0 75 0 0 v5_))
def f_L_about (v1 : Int) (v2 : Int) (M0 : gM) : Option (Int × gM) := ob (f_X11_about v1 v2 M0) fun r5 => ol r5 (fun e8 => if e8 = 2 then (some ((1, M0))) else (if e8 = 1 then (some ((2, M0))) else (none))) fun v5_ => some ((0, gU v5_.2 75 0 0 v5_.1))
def f_L_proof (v1 : Int) (M0 : gM) : Option (Int × gM) := ob (f_X11_proof v1 M0) fun r4 => ol r4 (fun e8 => if e8 = 2 then (some ((1, M0))) else (if e8 = 3 then (some ((2, M0))) else (none))) fun v4_ => some ((0, gU v4_.2 75 0 0 v4_.1))
def f_L_count (v1 : Int) (M0 : gM) : Option (Int × gM) := ob (f_X11_count v1 M0) fun r4 => ol r4 (fun e8 => if e8 = 1 then (some ((1, M0))) else (none)) fun v4_ => some ((0, gU M0 75 0 0 v4_))
def f_L_needed (v1 : Int) (M0 : gM) : Option (Int × gM) := ob (f_X11_needed v1 M0) fun r4 => ol r4 (fun e8 => if e8 = 2 then (some ((1, M0))) else (none)) fun v4_ => some ((0, gU M0 75 0 0 v4_))
