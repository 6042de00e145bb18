theorem wg_oi : Cond.instanceMethod Lib.objectInit ∈ tg_gG := tg_mem (List.mem_of_getElem? (i := 92) (by decide +kernel)) (by decide +kernel)
theorem wg_oc : Cond.code Lib.objectInit ⟨#[0xb1]⟩ 1 none ∈ tg_gG := tg_mem (List.mem_of_getElem? (i := 93) (by decide +kernel)) (by decide +kernel)
theorem wg_ai : Cond.arrayClass (if false then .boolean else .int) ∈ tg_gG := tg_mem (List.mem_of_getElem? (i := 107) (by decide +kernel)) (by decide +kernel)
theorem wg_az : Cond.arrayClass (if true then .boolean else .int) ∈ tg_gG := tg_mem (List.mem_of_getElem? (i := 174) (by decide +kernel)) (by decide +kernel)
-- X0_init
theorem dX0_init_0 : decode cX0_init 0 = .ok (.aload_n 0, 1) := by decide +kernel
theorem dX0_init_1 : decode cX0_init 1 = .ok (.invokespecial 3, 3) := by decide +kernel
theorem dX0_init_4 : decode cX0_init 4 = .ok (.aload_n 0, 1) := by decide +kernel
theorem dX0_init_5 : decode cX0_init 5 = .ok (.iconst (-1), 1) := by decide +kernel
theorem dX0_init_6 : decode cX0_init 6 = .ok (.putfield 9, 3) := by decide +kernel
theorem dX0_init_9 : decode cX0_init 9 = .ok (.aload_n 0, 1) := by decide +kernel
theorem dX0_init_10 : decode cX0_init 10 = .ok (.iconst (-1), 1) := by decide +kernel
theorem dX0_init_11 : decode cX0_init 11 = .ok (.putfield 15, 3) := by decide +kernel
theorem dX0_init_14 : decode cX0_init 14 = .ok (.aload_n 0, 1) := by decide +kernel
theorem dX0_init_15 : decode cX0_init 15 = .ok (.iconst (-1), 1) := by decide +kernel
theorem dX0_init_16 : decode cX0_init 16 = .ok (.putfield 18, 3) := by decide +kernel
theorem dX0_init_19 : decode cX0_init 19 = .ok (.aload_n 0, 1) := by decide +kernel
theorem dX0_init_20 : decode cX0_init 20 = .ok (.iconst 0, 1) := by decide +kernel
theorem dX0_init_21 : decode cX0_init 21 = .ok (.putfield 21, 3) := by decide +kernel
theorem dX0_init_24 : decode cX0_init 24 = .ok (.return_, 1) := by decide +kernel
theorem wg_X0_o : Cond.methodLink RX0 3 Lib.objectInit ∈ tg_gG := tg_mem (List.mem_of_getElem? (i := 276) (by decide +kernel)) (by decide +kernel)
theorem wg_X0_9 : Cond.fieldLink RX0 9 (TX0 0).1 (TX0 0).2.1 (TX0 0).2.2.1 ∈ tg_gG := tg_mem (List.mem_of_getElem? (i := 277) (by decide +kernel)) (by decide +kernel)
theorem wg_X0_15 : Cond.fieldLink RX0 15 (TX0 1).1 (TX0 1).2.1 (TX0 1).2.2.1 ∈ tg_gG := tg_mem (List.mem_of_getElem? (i := 279) (by decide +kernel)) (by decide +kernel)
theorem wg_X0_18 : Cond.fieldLink RX0 18 (TX0 2).1 (TX0 2).2.1 (TX0 2).2.2.1 ∈ tg_gG := tg_mem (List.mem_of_getElem? (i := 281) (by decide +kernel)) (by decide +kernel)
theorem wg_X0_21 : Cond.fieldLink RX0 21 (TX0 3).1 (TX0 3).2.1 (TX0 3).2.2.1 ∈ tg_gG := tg_mem (List.mem_of_getElem? (i := 283) (by decide +kernel)) (by decide +kernel)
theorem wg_X0_c : tg_Y0 yX0_init cX0_init 1 none 0 := ⟨tg_mem (List.mem_of_getElem? (i := 275) (by decide +kernel)) (by decide +kernel), wi_X0, by decide +kernel, by decide +kernel, by decide +kernel⟩
theorem wg_X0_i : Cond.instanceMethod yX0_init ∈ tg_gG := tg_mem (List.mem_of_getElem? (i := 274) (by decide +kernel)) (by decide +kernel)
def zr_X0_init : Room := { frames := 1, cells := 0, slots := 0, locals := 12 }
def b_X0 (cy : Bool → ClassId) (h0 : Nat) : va_W → Prop := fun w => w = [(h0, .inr (0, [.int (-1), .int (-1), .int (-1), .int (0)]))]
set_option maxHeartbeats 4000000 in
set_option maxRecDepth 100000 in
theorem i_X0 {x : tg_X} {h0 : Nat} (X : cg_M x cX0_init RX0 zr_X0_init (b_X0 (tg_cy x) h0) 0 0) : cg_G x h0 [(h0, .inr (0, [.int 0, .int 0, .int 0, .int 0]))] 0 0 0 [] := by
  refine cg_aload X dX0_init_0 ?_
  refine cg_obj X ⟨wg_X0_o, wg_oi, wg_oc⟩ ⟨Nat.le_of_ble_eq_true rfl, Nat.le_of_ble_eq_true rfl⟩ dX0_init_1 ?_
  refine cg_aload X dX0_init_4 ?_
  refine cg_iconst (v := -1) X dX0_init_5 (by decide) ?_
  refine cg_put X 0 rfl cl_X0 0 (by decide) wg_X0_9 rfl rfl rfl (Nat.le_of_ble_eq_true rfl) dX0_init_6 ?_
  refine cg_re (ws2 := [(h0, .inr (0, [.int (-1), .int 0, .int 0, .int 0]))]) rfl ?_
  refine cg_aload X dX0_init_9 ?_
  refine cg_iconst (v := -1) X dX0_init_10 (by decide) ?_
  refine cg_put X 0 rfl cl_X0 1 (by decide) wg_X0_15 rfl rfl rfl (Nat.le_of_ble_eq_true rfl) dX0_init_11 ?_
  refine cg_re (ws2 := [(h0, .inr (0, [.int (-1), .int (-1), .int 0, .int 0]))]) rfl ?_
  refine cg_aload X dX0_init_14 ?_
  refine cg_iconst (v := -1) X dX0_init_15 (by decide) ?_
  refine cg_put X 0 rfl cl_X0 2 (by decide) wg_X0_18 rfl rfl rfl (Nat.le_of_ble_eq_true rfl) dX0_init_16 ?_
  refine cg_re (ws2 := [(h0, .inr (0, [.int (-1), .int (-1), .int (-1), .int 0]))]) rfl ?_
  refine cg_aload X dX0_init_19 ?_
  refine cg_iconst (v := 0) X dX0_init_20 (by decide) ?_
  refine cg_put X 0 rfl cl_X0 3 (by decide) wg_X0_21 rfl rfl rfl (Nat.le_of_ble_eq_true rfl) dX0_init_21 ?_
  refine cg_re (ws2 := [(h0, .inr (0, [.int (-1), .int (-1), .int (-1), .int (0)]))]) rfl ?_
  exact cg_vret X rfl dX0_init_24
theorem cm_X0_init (l : Launch) (D : va_G) (cy : Bool → ClassId) (tS h0 : Nat) : cg_Met l yX0_init cX0_init zr_X0_init D cy tS h0 (.inr (0, [.int 0, .int 0, .int 0, .int 0])) (b_X0 cy h0) 0 0 := cg_mk (by decide +kernel) rfl (fun p e s m args below meth c Q A X => i_X0 X)
-- X6_init
theorem dX6_init_0 : decode cX6_init 0 = .ok (.aload_n 0, 1) := by decide +kernel
theorem dX6_init_1 : decode cX6_init 1 = .ok (.invokespecial 3, 3) := by decide +kernel
theorem dX6_init_4 : decode cX6_init 4 = .ok (.aload_n 0, 1) := by decide +kernel
theorem dX6_init_5 : decode cX6_init 5 = .ok (.bipush 124, 2) := by decide +kernel
theorem dX6_init_7 : decode cX6_init 7 = .ok (.newarray .int, 2) := by decide +kernel
theorem dX6_init_9 : decode cX6_init 9 = .ok (.putfield 9, 3) := by decide +kernel
theorem dX6_init_12 : decode cX6_init 12 = .ok (.aload_n 0, 1) := by decide +kernel
theorem dX6_init_13 : decode cX6_init 13 = .ok (.iconst 4, 1) := by decide +kernel
theorem dX6_init_14 : decode cX6_init 14 = .ok (.newarray .int, 2) := by decide +kernel
theorem dX6_init_16 : decode cX6_init 16 = .ok (.putfield 15, 3) := by decide +kernel
theorem dX6_init_19 : decode cX6_init 19 = .ok (.return_, 1) := by decide +kernel
theorem wg_X6_o : Cond.methodLink RX6 3 Lib.objectInit ∈ tg_gG := tg_mem (List.mem_of_getElem? (i := 99) (by decide +kernel)) (by decide +kernel)
theorem wg_X6_9 : Cond.fieldLink RX6 9 (TX6 0).1 (TX6 0).2.1 (TX6 0).2.2.1 ∈ tg_gG := tg_mem (List.mem_of_getElem? (i := 100) (by decide +kernel)) (by decide +kernel)
theorem wg_X6_15 : Cond.fieldLink RX6 15 (TX6 1).1 (TX6 1).2.1 (TX6 1).2.2.1 ∈ tg_gG := tg_mem (List.mem_of_getElem? (i := 101) (by decide +kernel)) (by decide +kernel)
theorem wg_X6_c : tg_Y0 yX6_init cX6_init 1 none 0 := ⟨tg_mem (List.mem_of_getElem? (i := 98) (by decide +kernel)) (by decide +kernel), wi_X6, by decide +kernel, by decide +kernel, by decide +kernel⟩
theorem wg_X6_i : Cond.instanceMethod yX6_init ∈ tg_gG := tg_mem (List.mem_of_getElem? (i := 97) (by decide +kernel)) (by decide +kernel)
def zr_X6_init : Room := { frames := 1, cells := 2, slots := 128, locals := 12 }
def b_X6 (cy : Bool → ClassId) (h0 : Nat) : va_W → Prop := fun w => ∃ q1 q2 : Nat, w = [(h0, .inr (6, [.ref q1, .ref q2])), (q1, .inl (cy false, 124, .inl (fun _ => 0))), (q2, .inl (cy false, 4, .inl (fun _ => 0)))]
set_option maxHeartbeats 4000000 in
set_option maxRecDepth 100000 in
theorem i_X6 {x : tg_X} {h0 : Nat} (X : cg_M x cX6_init RX6 zr_X6_init (b_X6 (tg_cy x) h0) 2 128) : cg_G x h0 [(h0, .inr (6, [.null, .null]))] 0 0 0 [] := by
  refine cg_aload X dX6_init_0 ?_
  refine cg_obj X ⟨wg_X6_o, wg_oi, wg_oc⟩ ⟨Nat.le_of_ble_eq_true rfl, Nat.le_of_ble_eq_true rfl⟩ dX6_init_1 ?_
  refine cg_aload X dX6_init_4 ?_
  refine cg_bipush (v := 124) X dX6_init_5 (by decide) ?_
  refine cg_newa (N := 124) (atype := .int) X false rfl wg_ai (by decide) (by decide) (Nat.le_of_ble_eq_true rfl) (Nat.le_of_ble_eq_true rfl) (Nat.le_of_ble_eq_true rfl) dX6_init_7 (fun q1 => ?_)
  refine cg_re (ws2 := [(h0, .inr (6, [.null, .null])), (q1, .inl (tg_cy x false, 124, .inl (fun _ => 0)))]) rfl ?_
  refine cg_putF X 0 rfl cl_X6 0 (by decide) wg_X6_9 rfl rfl rfl rfl (Nat.le_of_ble_eq_true rfl) dX6_init_9 ?_
  refine cg_re (ws2 := [(h0, .inr (6, [.ref q1, .null])), (q1, .inl (tg_cy x false, 124, .inl (fun _ => 0)))]) rfl ?_
  refine cg_aload X dX6_init_12 ?_
  refine cg_iconst (v := 4) X dX6_init_13 (by decide) ?_
  refine cg_newa (N := 4) (atype := .int) X false rfl wg_ai (by decide) (by decide) (Nat.le_of_ble_eq_true rfl) (Nat.le_of_ble_eq_true rfl) (Nat.le_of_ble_eq_true rfl) dX6_init_14 (fun q2 => ?_)
  refine cg_re (ws2 := [(h0, .inr (6, [.ref q1, .null])), (q1, .inl (tg_cy x false, 124, .inl (fun _ => 0))), (q2, .inl (tg_cy x false, 4, .inl (fun _ => 0)))]) rfl ?_
  refine cg_putF X 0 rfl cl_X6 1 (by decide) wg_X6_15 rfl rfl rfl rfl (Nat.le_of_ble_eq_true rfl) dX6_init_16 ?_
  refine cg_re (ws2 := [(h0, .inr (6, [.ref q1, .ref q2])), (q1, .inl (tg_cy x false, 124, .inl (fun _ => 0))), (q2, .inl (tg_cy x false, 4, .inl (fun _ => 0)))]) rfl ?_
  exact cg_vret X ⟨q1, q2, rfl⟩ dX6_init_19
theorem cm_X6_init (l : Launch) (D : va_G) (cy : Bool → ClassId) (tS h0 : Nat) : cg_Met l yX6_init cX6_init zr_X6_init D cy tS h0 (.inr (6, [.null, .null])) (b_X6 cy h0) 2 128 := cg_mk (by decide +kernel) rfl (fun p e s m args below meth c Q A X => i_X6 X)
-- X4_init
theorem dX4_init_0 : decode cX4_init 0 = .ok (.aload_n 0, 1) := by decide +kernel
theorem dX4_init_1 : decode cX4_init 1 = .ok (.invokespecial 3, 3) := by decide +kernel
theorem dX4_init_4 : decode cX4_init 4 = .ok (.aload_n 0, 1) := by decide +kernel
theorem dX4_init_5 : decode cX4_init 5 = .ok (.bipush 8, 2) := by decide +kernel
theorem dX4_init_7 : decode cX4_init 7 = .ok (.newarray .int, 2) := by decide +kernel
theorem dX4_init_9 : decode cX4_init 9 = .ok (.putfield 9, 3) := by decide +kernel
theorem dX4_init_12 : decode cX4_init 12 = .ok (.aload_n 0, 1) := by decide +kernel
theorem dX4_init_13 : decode cX4_init 13 = .ok (.bipush 8, 2) := by decide +kernel
theorem dX4_init_15 : decode cX4_init 15 = .ok (.newarray .int, 2) := by decide +kernel
theorem dX4_init_17 : decode cX4_init 17 = .ok (.putfield 15, 3) := by decide +kernel
theorem dX4_init_20 : decode cX4_init 20 = .ok (.aload_n 0, 1) := by decide +kernel
theorem dX4_init_21 : decode cX4_init 21 = .ok (.iconst 0, 1) := by decide +kernel
theorem dX4_init_22 : decode cX4_init 22 = .ok (.putfield 18, 3) := by decide +kernel
theorem dX4_init_25 : decode cX4_init 25 = .ok (.return_, 1) := by decide +kernel
theorem wg_X4_o : Cond.methodLink RX4 3 Lib.objectInit ∈ tg_gG := tg_mem (List.mem_of_getElem? (i := 113) (by decide +kernel)) (by decide +kernel)
theorem wg_X4_9 : Cond.fieldLink RX4 9 (TX4 0).1 (TX4 0).2.1 (TX4 0).2.2.1 ∈ tg_gG := tg_mem (List.mem_of_getElem? (i := 114) (by decide +kernel)) (by decide +kernel)
theorem wg_X4_15 : Cond.fieldLink RX4 15 (TX4 1).1 (TX4 1).2.1 (TX4 1).2.2.1 ∈ tg_gG := tg_mem (List.mem_of_getElem? (i := 115) (by decide +kernel)) (by decide +kernel)
theorem wg_X4_18 : Cond.fieldLink RX4 18 (TX4 2).1 (TX4 2).2.1 (TX4 2).2.2.1 ∈ tg_gG := tg_mem (List.mem_of_getElem? (i := 116) (by decide +kernel)) (by decide +kernel)
theorem wg_X4_c : tg_Y0 yX4_init cX4_init 1 none 0 := ⟨tg_mem (List.mem_of_getElem? (i := 112) (by decide +kernel)) (by decide +kernel), wi_X4, by decide +kernel, by decide +kernel, by decide +kernel⟩
theorem wg_X4_i : Cond.instanceMethod yX4_init ∈ tg_gG := tg_mem (List.mem_of_getElem? (i := 111) (by decide +kernel)) (by decide +kernel)
def zr_X4_init : Room := { frames := 1, cells := 2, slots := 16, locals := 12 }
def b_X4 (cy : Bool → ClassId) (h0 : Nat) : va_W → Prop := fun w => ∃ q1 q2 : Nat, w = [(h0, .inr (4, [.ref q1, .ref q2, .int (0)])), (q1, .inl (cy false, 8, .inl (fun _ => 0))), (q2, .inl (cy false, 8, .inl (fun _ => 0)))]
set_option maxHeartbeats 4000000 in
set_option maxRecDepth 100000 in
theorem i_X4 {x : tg_X} {h0 : Nat} (X : cg_M x cX4_init RX4 zr_X4_init (b_X4 (tg_cy x) h0) 2 16) : cg_G x h0 [(h0, .inr (4, [.null, .null, .int 0]))] 0 0 0 [] := by
  refine cg_aload X dX4_init_0 ?_
  refine cg_obj X ⟨wg_X4_o, wg_oi, wg_oc⟩ ⟨Nat.le_of_ble_eq_true rfl, Nat.le_of_ble_eq_true rfl⟩ dX4_init_1 ?_
  refine cg_aload X dX4_init_4 ?_
  refine cg_bipush (v := 8) X dX4_init_5 (by decide) ?_
  refine cg_newa (N := 8) (atype := .int) X false rfl wg_ai (by decide) (by decide) (Nat.le_of_ble_eq_true rfl) (Nat.le_of_ble_eq_true rfl) (Nat.le_of_ble_eq_true rfl) dX4_init_7 (fun q1 => ?_)
  refine cg_re (ws2 := [(h0, .inr (4, [.null, .null, .int 0])), (q1, .inl (tg_cy x false, 8, .inl (fun _ => 0)))]) rfl ?_
  refine cg_putF X 0 rfl cl_X4 0 (by decide) wg_X4_9 rfl rfl rfl rfl (Nat.le_of_ble_eq_true rfl) dX4_init_9 ?_
  refine cg_re (ws2 := [(h0, .inr (4, [.ref q1, .null, .int 0])), (q1, .inl (tg_cy x false, 8, .inl (fun _ => 0)))]) rfl ?_
  refine cg_aload X dX4_init_12 ?_
  refine cg_bipush (v := 8) X dX4_init_13 (by decide) ?_
  refine cg_newa (N := 8) (atype := .int) X false rfl wg_ai (by decide) (by decide) (Nat.le_of_ble_eq_true rfl) (Nat.le_of_ble_eq_true rfl) (Nat.le_of_ble_eq_true rfl) dX4_init_15 (fun q2 => ?_)
  refine cg_re (ws2 := [(h0, .inr (4, [.ref q1, .null, .int 0])), (q1, .inl (tg_cy x false, 8, .inl (fun _ => 0))), (q2, .inl (tg_cy x false, 8, .inl (fun _ => 0)))]) rfl ?_
  refine cg_putF X 0 rfl cl_X4 1 (by decide) wg_X4_15 rfl rfl rfl rfl (Nat.le_of_ble_eq_true rfl) dX4_init_17 ?_
  refine cg_re (ws2 := [(h0, .inr (4, [.ref q1, .ref q2, .int 0])), (q1, .inl (tg_cy x false, 8, .inl (fun _ => 0))), (q2, .inl (tg_cy x false, 8, .inl (fun _ => 0)))]) rfl ?_
  refine cg_aload X dX4_init_20 ?_
  refine cg_iconst (v := 0) X dX4_init_21 (by decide) ?_
  refine cg_put X 0 rfl cl_X4 2 (by decide) wg_X4_18 rfl rfl rfl (Nat.le_of_ble_eq_true rfl) dX4_init_22 ?_
  refine cg_re (ws2 := [(h0, .inr (4, [.ref q1, .ref q2, .int (0)])), (q1, .inl (tg_cy x false, 8, .inl (fun _ => 0))), (q2, .inl (tg_cy x false, 8, .inl (fun _ => 0)))]) rfl ?_
  exact cg_vret X ⟨q1, q2, rfl⟩ dX4_init_25
theorem cm_X4_init (l : Launch) (D : va_G) (cy : Bool → ClassId) (tS h0 : Nat) : cg_Met l yX4_init cX4_init zr_X4_init D cy tS h0 (.inr (4, [.null, .null, .int 0])) (b_X4 cy h0) 2 16 := cg_mk (by decide +kernel) rfl (fun p e s m args below meth c Q A X => i_X4 X)
-- X5_init
theorem dX5_init_0 : decode cX5_init 0 = .ok (.aload_n 0, 1) := by decide +kernel
theorem dX5_init_1 : decode cX5_init 1 = .ok (.invokespecial 3, 3) := by decide +kernel
theorem dX5_init_4 : decode cX5_init 4 = .ok (.aload_n 0, 1) := by decide +kernel
theorem dX5_init_5 : decode cX5_init 5 = .ok (.sipush 240, 3) := by decide +kernel
theorem dX5_init_8 : decode cX5_init 8 = .ok (.newarray .int, 2) := by decide +kernel
theorem dX5_init_10 : decode cX5_init 10 = .ok (.putfield 9, 3) := by decide +kernel
theorem dX5_init_13 : decode cX5_init 13 = .ok (.aload_n 0, 1) := by decide +kernel
theorem dX5_init_14 : decode cX5_init 14 = .ok (.iconst 4, 1) := by decide +kernel
theorem dX5_init_15 : decode cX5_init 15 = .ok (.newarray .int, 2) := by decide +kernel
theorem dX5_init_17 : decode cX5_init 17 = .ok (.putfield 15, 3) := by decide +kernel
theorem dX5_init_20 : decode cX5_init 20 = .ok (.aload_n 0, 1) := by decide +kernel
theorem dX5_init_21 : decode cX5_init 21 = .ok (.iconst 4, 1) := by decide +kernel
theorem dX5_init_22 : decode cX5_init 22 = .ok (.newarray .int, 2) := by decide +kernel
theorem dX5_init_24 : decode cX5_init 24 = .ok (.dup, 1) := by decide +kernel
theorem dX5_init_25 : decode cX5_init 25 = .ok (.iconst 0, 1) := by decide +kernel
theorem dX5_init_26 : decode cX5_init 26 = .ok (.iconst (-1), 1) := by decide +kernel
theorem dX5_init_27 : decode cX5_init 27 = .ok (.iastore, 1) := by decide +kernel
theorem dX5_init_28 : decode cX5_init 28 = .ok (.dup, 1) := by decide +kernel
theorem dX5_init_29 : decode cX5_init 29 = .ok (.iconst 1, 1) := by decide +kernel
theorem dX5_init_30 : decode cX5_init 30 = .ok (.iconst (-1), 1) := by decide +kernel
theorem dX5_init_31 : decode cX5_init 31 = .ok (.iastore, 1) := by decide +kernel
theorem dX5_init_32 : decode cX5_init 32 = .ok (.dup, 1) := by decide +kernel
theorem dX5_init_33 : decode cX5_init 33 = .ok (.iconst 2, 1) := by decide +kernel
theorem dX5_init_34 : decode cX5_init 34 = .ok (.iconst (-1), 1) := by decide +kernel
theorem dX5_init_35 : decode cX5_init 35 = .ok (.iastore, 1) := by decide +kernel
theorem dX5_init_36 : decode cX5_init 36 = .ok (.dup, 1) := by decide +kernel
theorem dX5_init_37 : decode cX5_init 37 = .ok (.iconst 3, 1) := by decide +kernel
theorem dX5_init_38 : decode cX5_init 38 = .ok (.iconst (-1), 1) := by decide +kernel
theorem dX5_init_39 : decode cX5_init 39 = .ok (.iastore, 1) := by decide +kernel
theorem dX5_init_40 : decode cX5_init 40 = .ok (.putfield 18, 3) := by decide +kernel
theorem dX5_init_43 : decode cX5_init 43 = .ok (.return_, 1) := by decide +kernel
theorem wg_X5_o : Cond.methodLink RX5 3 Lib.objectInit ∈ tg_gG := tg_mem (List.mem_of_getElem? (i := 130) (by decide +kernel)) (by decide +kernel)
theorem wg_X5_9 : Cond.fieldLink RX5 9 (TX5 0).1 (TX5 0).2.1 (TX5 0).2.2.1 ∈ tg_gG := tg_mem (List.mem_of_getElem? (i := 131) (by decide +kernel)) (by decide +kernel)
theorem wg_X5_15 : Cond.fieldLink RX5 15 (TX5 1).1 (TX5 1).2.1 (TX5 1).2.2.1 ∈ tg_gG := tg_mem (List.mem_of_getElem? (i := 132) (by decide +kernel)) (by decide +kernel)
theorem wg_X5_18 : Cond.fieldLink RX5 18 (TX5 2).1 (TX5 2).2.1 (TX5 2).2.2.1 ∈ tg_gG := tg_mem (List.mem_of_getElem? (i := 133) (by decide +kernel)) (by decide +kernel)
theorem wg_X5_c : tg_Y0 yX5_init cX5_init 1 none 0 := ⟨tg_mem (List.mem_of_getElem? (i := 129) (by decide +kernel)) (by decide +kernel), wi_X5, by decide +kernel, by decide +kernel, by decide +kernel⟩
theorem wg_X5_i : Cond.instanceMethod yX5_init ∈ tg_gG := tg_mem (List.mem_of_getElem? (i := 128) (by decide +kernel)) (by decide +kernel)
def zr_X5_init : Room := { frames := 1, cells := 3, slots := 248, locals := 12 }
def b_X5 (cy : Bool → ClassId) (h0 : Nat) : va_W → Prop := fun w => ∃ q1 q2 q3 : Nat, w = [(h0, .inr (5, [.ref q1, .ref q2, .ref q3])), (q1, .inl (cy false, 240, .inl (fun _ => 0))), (q2, .inl (cy false, 4, .inl (fun _ => 0))), (q3, .inl (cy false, 4, .inl (upd (upd (upd (upd (fun _ => 0) (Int32.toNatClampNeg 0) (-1)) (Int32.toNatClampNeg 1) (-1)) (Int32.toNatClampNeg 2) (-1)) (Int32.toNatClampNeg 3) (-1))))]
set_option maxHeartbeats 4000000 in
set_option maxRecDepth 100000 in
theorem i_X5 {x : tg_X} {h0 : Nat} (X : cg_M x cX5_init RX5 zr_X5_init (b_X5 (tg_cy x) h0) 3 248) : cg_G x h0 [(h0, .inr (5, [.null, .null, .null]))] 0 0 0 [] := by
  refine cg_aload X dX5_init_0 ?_
  refine cg_obj X ⟨wg_X5_o, wg_oi, wg_oc⟩ ⟨Nat.le_of_ble_eq_true rfl, Nat.le_of_ble_eq_true rfl⟩ dX5_init_1 ?_
  refine cg_aload X dX5_init_4 ?_
  refine cg_sipush (v := 240) X dX5_init_5 (by decide) ?_
  refine cg_newa (N := 240) (atype := .int) X false rfl wg_ai (by decide) (by decide) (Nat.le_of_ble_eq_true rfl) (Nat.le_of_ble_eq_true rfl) (Nat.le_of_ble_eq_true rfl) dX5_init_8 (fun q1 => ?_)
  refine cg_re (ws2 := [(h0, .inr (5, [.null, .null, .null])), (q1, .inl (tg_cy x false, 240, .inl (fun _ => 0)))]) rfl ?_
  refine cg_putF X 0 rfl cl_X5 0 (by decide) wg_X5_9 rfl rfl rfl rfl (Nat.le_of_ble_eq_true rfl) dX5_init_10 ?_
  refine cg_re (ws2 := [(h0, .inr (5, [.ref q1, .null, .null])), (q1, .inl (tg_cy x false, 240, .inl (fun _ => 0)))]) rfl ?_
  refine cg_aload X dX5_init_13 ?_
  refine cg_iconst (v := 4) X dX5_init_14 (by decide) ?_
  refine cg_newa (N := 4) (atype := .int) X false rfl wg_ai (by decide) (by decide) (Nat.le_of_ble_eq_true rfl) (Nat.le_of_ble_eq_true rfl) (Nat.le_of_ble_eq_true rfl) dX5_init_15 (fun q2 => ?_)
  refine cg_re (ws2 := [(h0, .inr (5, [.ref q1, .null, .null])), (q1, .inl (tg_cy x false, 240, .inl (fun _ => 0))), (q2, .inl (tg_cy x false, 4, .inl (fun _ => 0)))]) rfl ?_
  refine cg_putF X 0 rfl cl_X5 1 (by decide) wg_X5_15 rfl rfl rfl rfl (Nat.le_of_ble_eq_true rfl) dX5_init_17 ?_
  refine cg_re (ws2 := [(h0, .inr (5, [.ref q1, .ref q2, .null])), (q1, .inl (tg_cy x false, 240, .inl (fun _ => 0))), (q2, .inl (tg_cy x false, 4, .inl (fun _ => 0)))]) rfl ?_
  refine cg_aload X dX5_init_20 ?_
  refine cg_iconst (v := 4) X dX5_init_21 (by decide) ?_
  refine cg_newa (N := 4) (atype := .int) X false rfl wg_ai (by decide) (by decide) (Nat.le_of_ble_eq_true rfl) (Nat.le_of_ble_eq_true rfl) (Nat.le_of_ble_eq_true rfl) dX5_init_22 (fun q3 => ?_)
  refine cg_re (ws2 := [(h0, .inr (5, [.ref q1, .ref q2, .null])), (q1, .inl (tg_cy x false, 240, .inl (fun _ => 0))), (q2, .inl (tg_cy x false, 4, .inl (fun _ => 0))), (q3, .inl (tg_cy x false, 4, .inl (fun _ => 0)))]) rfl ?_
  refine cg_dup X dX5_init_24 rfl ?_
  refine cg_iconst (v := 0) X dX5_init_25 (by decide) ?_
  refine cg_iconst (v := -1) X dX5_init_26 (by decide) ?_
  refine cg_iast X 3 rfl (by unfold vp_in; decide) dX5_init_27 ?_
  refine cg_re (ws2 := [(h0, .inr (5, [.ref q1, .ref q2, .null])), (q1, .inl (tg_cy x false, 240, .inl (fun _ => 0))), (q2, .inl (tg_cy x false, 4, .inl (fun _ => 0))), (q3, .inl (tg_cy x false, 4, .inl (upd (fun _ => 0) (Int32.toNatClampNeg 0) (-1))))]) rfl ?_
  refine cg_dup X dX5_init_28 rfl ?_
  refine cg_iconst (v := 1) X dX5_init_29 (by decide) ?_
  refine cg_iconst (v := -1) X dX5_init_30 (by decide) ?_
  refine cg_iast X 3 rfl (by unfold vp_in; decide) dX5_init_31 ?_
  refine cg_re (ws2 := [(h0, .inr (5, [.ref q1, .ref q2, .null])), (q1, .inl (tg_cy x false, 240, .inl (fun _ => 0))), (q2, .inl (tg_cy x false, 4, .inl (fun _ => 0))), (q3, .inl (tg_cy x false, 4, .inl (upd (upd (fun _ => 0) (Int32.toNatClampNeg 0) (-1)) (Int32.toNatClampNeg 1) (-1))))]) rfl ?_
  refine cg_dup X dX5_init_32 rfl ?_
  refine cg_iconst (v := 2) X dX5_init_33 (by decide) ?_
  refine cg_iconst (v := -1) X dX5_init_34 (by decide) ?_
  refine cg_iast X 3 rfl (by unfold vp_in; decide) dX5_init_35 ?_
  refine cg_re (ws2 := [(h0, .inr (5, [.ref q1, .ref q2, .null])), (q1, .inl (tg_cy x false, 240, .inl (fun _ => 0))), (q2, .inl (tg_cy x false, 4, .inl (fun _ => 0))), (q3, .inl (tg_cy x false, 4, .inl (upd (upd (upd (fun _ => 0) (Int32.toNatClampNeg 0) (-1)) (Int32.toNatClampNeg 1) (-1)) (Int32.toNatClampNeg 2) (-1))))]) rfl ?_
  refine cg_dup X dX5_init_36 rfl ?_
  refine cg_iconst (v := 3) X dX5_init_37 (by decide) ?_
  refine cg_iconst (v := -1) X dX5_init_38 (by decide) ?_
  refine cg_iast X 3 rfl (by unfold vp_in; decide) dX5_init_39 ?_
  refine cg_re (ws2 := [(h0, .inr (5, [.ref q1, .ref q2, .null])), (q1, .inl (tg_cy x false, 240, .inl (fun _ => 0))), (q2, .inl (tg_cy x false, 4, .inl (fun _ => 0))), (q3, .inl (tg_cy x false, 4, .inl (upd (upd (upd (upd (fun _ => 0) (Int32.toNatClampNeg 0) (-1)) (Int32.toNatClampNeg 1) (-1)) (Int32.toNatClampNeg 2) (-1)) (Int32.toNatClampNeg 3) (-1))))]) rfl ?_
  refine cg_putF X 0 rfl cl_X5 2 (by decide) wg_X5_18 rfl rfl rfl rfl (Nat.le_of_ble_eq_true rfl) dX5_init_40 ?_
  refine cg_re (ws2 := [(h0, .inr (5, [.ref q1, .ref q2, .ref q3])), (q1, .inl (tg_cy x false, 240, .inl (fun _ => 0))), (q2, .inl (tg_cy x false, 4, .inl (fun _ => 0))), (q3, .inl (tg_cy x false, 4, .inl (upd (upd (upd (upd (fun _ => 0) (Int32.toNatClampNeg 0) (-1)) (Int32.toNatClampNeg 1) (-1)) (Int32.toNatClampNeg 2) (-1)) (Int32.toNatClampNeg 3) (-1))))]) rfl ?_
  exact cg_vret X ⟨q1, q2, q3, rfl⟩ dX5_init_43
theorem cm_X5_init (l : Launch) (D : va_G) (cy : Bool → ClassId) (tS h0 : Nat) : cg_Met l yX5_init cX5_init zr_X5_init D cy tS h0 (.inr (5, [.null, .null, .null])) (b_X5 cy h0) 3 248 := cg_mk (by decide +kernel) rfl (fun p e s m args below meth c Q A X => i_X5 X)
-- X3_init
theorem dX3_init_0 : decode cX3_init 0 = .ok (.aload_n 0, 1) := by decide +kernel
theorem dX3_init_1 : decode cX3_init 1 = .ok (.invokespecial 3, 3) := by decide +kernel
theorem dX3_init_4 : decode cX3_init 4 = .ok (.aload_n 0, 1) := by decide +kernel
theorem dX3_init_5 : decode cX3_init 5 = .ok (.bipush 8, 2) := by decide +kernel
theorem dX3_init_7 : decode cX3_init 7 = .ok (.newarray .int, 2) := by decide +kernel
theorem dX3_init_9 : decode cX3_init 9 = .ok (.putfield 9, 3) := by decide +kernel
theorem dX3_init_12 : decode cX3_init 12 = .ok (.aload_n 0, 1) := by decide +kernel
theorem dX3_init_13 : decode cX3_init 13 = .ok (.bipush 8, 2) := by decide +kernel
theorem dX3_init_15 : decode cX3_init 15 = .ok (.newarray .int, 2) := by decide +kernel
theorem dX3_init_17 : decode cX3_init 17 = .ok (.putfield 15, 3) := by decide +kernel
theorem dX3_init_20 : decode cX3_init 20 = .ok (.aload_n 0, 1) := by decide +kernel
theorem dX3_init_21 : decode cX3_init 21 = .ok (.bipush 8, 2) := by decide +kernel
theorem dX3_init_23 : decode cX3_init 23 = .ok (.newarray .int, 2) := by decide +kernel
theorem dX3_init_25 : decode cX3_init 25 = .ok (.putfield 18, 3) := by decide +kernel
theorem dX3_init_28 : decode cX3_init 28 = .ok (.aload_n 0, 1) := by decide +kernel
theorem dX3_init_29 : decode cX3_init 29 = .ok (.iconst 0, 1) := by decide +kernel
theorem dX3_init_30 : decode cX3_init 30 = .ok (.putfield 21, 3) := by decide +kernel
theorem dX3_init_33 : decode cX3_init 33 = .ok (.aload_n 0, 1) := by decide +kernel
theorem dX3_init_34 : decode cX3_init 34 = .ok (.iconst 0, 1) := by decide +kernel
theorem dX3_init_35 : decode cX3_init 35 = .ok (.putfield 25, 3) := by decide +kernel
theorem dX3_init_38 : decode cX3_init 38 = .ok (.return_, 1) := by decide +kernel
theorem wg_X3_o : Cond.methodLink RX3 3 Lib.objectInit ∈ tg_gG := tg_mem (List.mem_of_getElem? (i := 152) (by decide +kernel)) (by decide +kernel)
theorem wg_X3_9 : Cond.fieldLink RX3 9 (TX3 0).1 (TX3 0).2.1 (TX3 0).2.2.1 ∈ tg_gG := tg_mem (List.mem_of_getElem? (i := 153) (by decide +kernel)) (by decide +kernel)
theorem wg_X3_15 : Cond.fieldLink RX3 15 (TX3 1).1 (TX3 1).2.1 (TX3 1).2.2.1 ∈ tg_gG := tg_mem (List.mem_of_getElem? (i := 155) (by decide +kernel)) (by decide +kernel)
theorem wg_X3_18 : Cond.fieldLink RX3 18 (TX3 2).1 (TX3 2).2.1 (TX3 2).2.2.1 ∈ tg_gG := tg_mem (List.mem_of_getElem? (i := 156) (by decide +kernel)) (by decide +kernel)
theorem wg_X3_21 : Cond.fieldLink RX3 21 (TX3 3).1 (TX3 3).2.1 (TX3 3).2.2.1 ∈ tg_gG := tg_mem (List.mem_of_getElem? (i := 158) (by decide +kernel)) (by decide +kernel)
theorem wg_X3_25 : Cond.fieldLink RX3 25 (TX3 4).1 (TX3 4).2.1 (TX3 4).2.2.1 ∈ tg_gG := tg_mem (List.mem_of_getElem? (i := 161) (by decide +kernel)) (by decide +kernel)
theorem wg_X3_c : tg_Y0 yX3_init cX3_init 1 none 0 := ⟨tg_mem (List.mem_of_getElem? (i := 151) (by decide +kernel)) (by decide +kernel), wi_X3, by decide +kernel, by decide +kernel, by decide +kernel⟩
theorem wg_X3_i : Cond.instanceMethod yX3_init ∈ tg_gG := tg_mem (List.mem_of_getElem? (i := 150) (by decide +kernel)) (by decide +kernel)
def zr_X3_init : Room := { frames := 1, cells := 3, slots := 24, locals := 12 }
def b_X3 (cy : Bool → ClassId) (h0 : Nat) : va_W → Prop := fun w => ∃ q1 q2 q3 : Nat, w = [(h0, .inr (3, [.ref q1, .ref q2, .ref q3, .int (0), .int (0)])), (q1, .inl (cy false, 8, .inl (fun _ => 0))), (q2, .inl (cy false, 8, .inl (fun _ => 0))), (q3, .inl (cy false, 8, .inl (fun _ => 0)))]
set_option maxHeartbeats 4000000 in
set_option maxRecDepth 100000 in
theorem i_X3 {x : tg_X} {h0 : Nat} (X : cg_M x cX3_init RX3 zr_X3_init (b_X3 (tg_cy x) h0) 3 24) : cg_G x h0 [(h0, .inr (3, [.null, .null, .null, .int 0, .int 0]))] 0 0 0 [] := by
  refine cg_aload X dX3_init_0 ?_
  refine cg_obj X ⟨wg_X3_o, wg_oi, wg_oc⟩ ⟨Nat.le_of_ble_eq_true rfl, Nat.le_of_ble_eq_true rfl⟩ dX3_init_1 ?_
  refine cg_aload X dX3_init_4 ?_
  refine cg_bipush (v := 8) X dX3_init_5 (by decide) ?_
  refine cg_newa (N := 8) (atype := .int) X false rfl wg_ai (by decide) (by decide) (Nat.le_of_ble_eq_true rfl) (Nat.le_of_ble_eq_true rfl) (Nat.le_of_ble_eq_true rfl) dX3_init_7 (fun q1 => ?_)
  refine cg_re (ws2 := [(h0, .inr (3, [.null, .null, .null, .int 0, .int 0])), (q1, .inl (tg_cy x false, 8, .inl (fun _ => 0)))]) rfl ?_
  refine cg_putF X 0 rfl cl_X3 0 (by decide) wg_X3_9 rfl rfl rfl rfl (Nat.le_of_ble_eq_true rfl) dX3_init_9 ?_
  refine cg_re (ws2 := [(h0, .inr (3, [.ref q1, .null, .null, .int 0, .int 0])), (q1, .inl (tg_cy x false, 8, .inl (fun _ => 0)))]) rfl ?_
  refine cg_aload X dX3_init_12 ?_
  refine cg_bipush (v := 8) X dX3_init_13 (by decide) ?_
  refine cg_newa (N := 8) (atype := .int) X false rfl wg_ai (by decide) (by decide) (Nat.le_of_ble_eq_true rfl) (Nat.le_of_ble_eq_true rfl) (Nat.le_of_ble_eq_true rfl) dX3_init_15 (fun q2 => ?_)
  refine cg_re (ws2 := [(h0, .inr (3, [.ref q1, .null, .null, .int 0, .int 0])), (q1, .inl (tg_cy x false, 8, .inl (fun _ => 0))), (q2, .inl (tg_cy x false, 8, .inl (fun _ => 0)))]) rfl ?_
  refine cg_putF X 0 rfl cl_X3 1 (by decide) wg_X3_15 rfl rfl rfl rfl (Nat.le_of_ble_eq_true rfl) dX3_init_17 ?_
  refine cg_re (ws2 := [(h0, .inr (3, [.ref q1, .ref q2, .null, .int 0, .int 0])), (q1, .inl (tg_cy x false, 8, .inl (fun _ => 0))), (q2, .inl (tg_cy x false, 8, .inl (fun _ => 0)))]) rfl ?_
  refine cg_aload X dX3_init_20 ?_
  refine cg_bipush (v := 8) X dX3_init_21 (by decide) ?_
  refine cg_newa (N := 8) (atype := .int) X false rfl wg_ai (by decide) (by decide) (Nat.le_of_ble_eq_true rfl) (Nat.le_of_ble_eq_true rfl) (Nat.le_of_ble_eq_true rfl) dX3_init_23 (fun q3 => ?_)
  refine cg_re (ws2 := [(h0, .inr (3, [.ref q1, .ref q2, .null, .int 0, .int 0])), (q1, .inl (tg_cy x false, 8, .inl (fun _ => 0))), (q2, .inl (tg_cy x false, 8, .inl (fun _ => 0))), (q3, .inl (tg_cy x false, 8, .inl (fun _ => 0)))]) rfl ?_
  refine cg_putF X 0 rfl cl_X3 2 (by decide) wg_X3_18 rfl rfl rfl rfl (Nat.le_of_ble_eq_true rfl) dX3_init_25 ?_
  refine cg_re (ws2 := [(h0, .inr (3, [.ref q1, .ref q2, .ref q3, .int 0, .int 0])), (q1, .inl (tg_cy x false, 8, .inl (fun _ => 0))), (q2, .inl (tg_cy x false, 8, .inl (fun _ => 0))), (q3, .inl (tg_cy x false, 8, .inl (fun _ => 0)))]) rfl ?_
  refine cg_aload X dX3_init_28 ?_
  refine cg_iconst (v := 0) X dX3_init_29 (by decide) ?_
  refine cg_put X 0 rfl cl_X3 3 (by decide) wg_X3_21 rfl rfl rfl (Nat.le_of_ble_eq_true rfl) dX3_init_30 ?_
  refine cg_re (ws2 := [(h0, .inr (3, [.ref q1, .ref q2, .ref q3, .int (0), .int 0])), (q1, .inl (tg_cy x false, 8, .inl (fun _ => 0))), (q2, .inl (tg_cy x false, 8, .inl (fun _ => 0))), (q3, .inl (tg_cy x false, 8, .inl (fun _ => 0)))]) rfl ?_
  refine cg_aload X dX3_init_33 ?_
  refine cg_iconst (v := 0) X dX3_init_34 (by decide) ?_
  refine cg_put X 0 rfl cl_X3 4 (by decide) wg_X3_25 rfl rfl rfl (Nat.le_of_ble_eq_true rfl) dX3_init_35 ?_
  refine cg_re (ws2 := [(h0, .inr (3, [.ref q1, .ref q2, .ref q3, .int (0), .int (0)])), (q1, .inl (tg_cy x false, 8, .inl (fun _ => 0))), (q2, .inl (tg_cy x false, 8, .inl (fun _ => 0))), (q3, .inl (tg_cy x false, 8, .inl (fun _ => 0)))]) rfl ?_
  exact cg_vret X ⟨q1, q2, q3, rfl⟩ dX3_init_38
theorem cm_X3_init (l : Launch) (D : va_G) (cy : Bool → ClassId) (tS h0 : Nat) : cg_Met l yX3_init cX3_init zr_X3_init D cy tS h0 (.inr (3, [.null, .null, .null, .int 0, .int 0])) (b_X3 cy h0) 3 24 := cg_mk (by decide +kernel) rfl (fun p e s m args below meth c Q A X => i_X3 X)
-- X2_init
theorem dX2_init_0 : decode cX2_init 0 = .ok (.aload_n 0, 1) := by decide +kernel
theorem dX2_init_1 : decode cX2_init 1 = .ok (.invokespecial 3, 3) := by decide +kernel
theorem dX2_init_4 : decode cX2_init 4 = .ok (.aload_n 0, 1) := by decide +kernel
theorem dX2_init_5 : decode cX2_init 5 = .ok (.bipush 24, 2) := by decide +kernel
theorem dX2_init_7 : decode cX2_init 7 = .ok (.newarray .int, 2) := by decide +kernel
theorem dX2_init_9 : decode cX2_init 9 = .ok (.putfield 9, 3) := by decide +kernel
theorem dX2_init_12 : decode cX2_init 12 = .ok (.aload_n 0, 1) := by decide +kernel
theorem dX2_init_13 : decode cX2_init 13 = .ok (.bipush 24, 2) := by decide +kernel
theorem dX2_init_15 : decode cX2_init 15 = .ok (.newarray .int, 2) := by decide +kernel
theorem dX2_init_17 : decode cX2_init 17 = .ok (.putfield 15, 3) := by decide +kernel
theorem dX2_init_20 : decode cX2_init 20 = .ok (.aload_n 0, 1) := by decide +kernel
theorem dX2_init_21 : decode cX2_init 21 = .ok (.bipush 48, 2) := by decide +kernel
theorem dX2_init_23 : decode cX2_init 23 = .ok (.newarray .int, 2) := by decide +kernel
theorem dX2_init_25 : decode cX2_init 25 = .ok (.putfield 18, 3) := by decide +kernel
theorem dX2_init_28 : decode cX2_init 28 = .ok (.aload_n 0, 1) := by decide +kernel
theorem dX2_init_29 : decode cX2_init 29 = .ok (.sipush 384, 3) := by decide +kernel
theorem dX2_init_32 : decode cX2_init 32 = .ok (.newarray .int, 2) := by decide +kernel
theorem dX2_init_34 : decode cX2_init 34 = .ok (.putfield 21, 3) := by decide +kernel
theorem dX2_init_37 : decode cX2_init 37 = .ok (.aload_n 0, 1) := by decide +kernel
theorem dX2_init_38 : decode cX2_init 38 = .ok (.sipush 384, 3) := by decide +kernel
theorem dX2_init_41 : decode cX2_init 41 = .ok (.newarray .int, 2) := by decide +kernel
theorem dX2_init_43 : decode cX2_init 43 = .ok (.putfield 24, 3) := by decide +kernel
theorem dX2_init_46 : decode cX2_init 46 = .ok (.aload_n 0, 1) := by decide +kernel
theorem dX2_init_47 : decode cX2_init 47 = .ok (.iconst (-1), 1) := by decide +kernel
theorem dX2_init_48 : decode cX2_init 48 = .ok (.putfield 27, 3) := by decide +kernel
theorem dX2_init_51 : decode cX2_init 51 = .ok (.aload_n 0, 1) := by decide +kernel
theorem dX2_init_52 : decode cX2_init 52 = .ok (.iconst (-1), 1) := by decide +kernel
theorem dX2_init_53 : decode cX2_init 53 = .ok (.putfield 31, 3) := by decide +kernel
theorem dX2_init_56 : decode cX2_init 56 = .ok (.aload_n 0, 1) := by decide +kernel
theorem dX2_init_57 : decode cX2_init 57 = .ok (.bipush 16, 2) := by decide +kernel
theorem dX2_init_59 : decode cX2_init 59 = .ok (.newarray .int, 2) := by decide +kernel
theorem dX2_init_61 : decode cX2_init 61 = .ok (.putfield 34, 3) := by decide +kernel
theorem dX2_init_64 : decode cX2_init 64 = .ok (.aload_n 0, 1) := by decide +kernel
theorem dX2_init_65 : decode cX2_init 65 = .ok (.bipush 12, 2) := by decide +kernel
theorem dX2_init_67 : decode cX2_init 67 = .ok (.putfield 37, 3) := by decide +kernel
theorem dX2_init_70 : decode cX2_init 70 = .ok (.aload_n 0, 1) := by decide +kernel
theorem dX2_init_71 : decode cX2_init 71 = .ok (.iconst 0, 1) := by decide +kernel
theorem dX2_init_72 : decode cX2_init 72 = .ok (.putfield 40, 3) := by decide +kernel
theorem dX2_init_75 : decode cX2_init 75 = .ok (.aload_n 0, 1) := by decide +kernel
theorem dX2_init_76 : decode cX2_init 76 = .ok (.iconst 0, 1) := by decide +kernel
theorem dX2_init_77 : decode cX2_init 77 = .ok (.putfield 43, 3) := by decide +kernel
theorem dX2_init_80 : decode cX2_init 80 = .ok (.aload_n 0, 1) := by decide +kernel
theorem dX2_init_81 : decode cX2_init 81 = .ok (.iconst 0, 1) := by decide +kernel
theorem dX2_init_82 : decode cX2_init 82 = .ok (.putfield 46, 3) := by decide +kernel
theorem dX2_init_85 : decode cX2_init 85 = .ok (.return_, 1) := by decide +kernel
theorem wg_X2_o : Cond.methodLink RX2 3 Lib.objectInit ∈ tg_gG := tg_mem (List.mem_of_getElem? (i := 225) (by decide +kernel)) (by decide +kernel)
theorem wg_X2_9 : Cond.fieldLink RX2 9 (TX2 0).1 (TX2 0).2.1 (TX2 0).2.2.1 ∈ tg_gG := tg_mem (List.mem_of_getElem? (i := 226) (by decide +kernel)) (by decide +kernel)
theorem wg_X2_15 : Cond.fieldLink RX2 15 (TX2 1).1 (TX2 1).2.1 (TX2 1).2.2.1 ∈ tg_gG := tg_mem (List.mem_of_getElem? (i := 229) (by decide +kernel)) (by decide +kernel)
theorem wg_X2_18 : Cond.fieldLink RX2 18 (TX2 2).1 (TX2 2).2.1 (TX2 2).2.2.1 ∈ tg_gG := tg_mem (List.mem_of_getElem? (i := 231) (by decide +kernel)) (by decide +kernel)
theorem wg_X2_21 : Cond.fieldLink RX2 21 (TX2 3).1 (TX2 3).2.1 (TX2 3).2.2.1 ∈ tg_gG := tg_mem (List.mem_of_getElem? (i := 233) (by decide +kernel)) (by decide +kernel)
theorem wg_X2_24 : Cond.fieldLink RX2 24 (TX2 4).1 (TX2 4).2.1 (TX2 4).2.2.1 ∈ tg_gG := tg_mem (List.mem_of_getElem? (i := 235) (by decide +kernel)) (by decide +kernel)
theorem wg_X2_27 : Cond.fieldLink RX2 27 (TX2 5).1 (TX2 5).2.1 (TX2 5).2.2.1 ∈ tg_gG := tg_mem (List.mem_of_getElem? (i := 237) (by decide +kernel)) (by decide +kernel)
theorem wg_X2_31 : Cond.fieldLink RX2 31 (TX2 6).1 (TX2 6).2.1 (TX2 6).2.2.1 ∈ tg_gG := tg_mem (List.mem_of_getElem? (i := 239) (by decide +kernel)) (by decide +kernel)
theorem wg_X2_34 : Cond.fieldLink RX2 34 (TX2 7).1 (TX2 7).2.1 (TX2 7).2.2.1 ∈ tg_gG := tg_mem (List.mem_of_getElem? (i := 241) (by decide +kernel)) (by decide +kernel)
theorem wg_X2_37 : Cond.fieldLink RX2 37 (TX2 8).1 (TX2 8).2.1 (TX2 8).2.2.1 ∈ tg_gG := tg_mem (List.mem_of_getElem? (i := 242) (by decide +kernel)) (by decide +kernel)
theorem wg_X2_40 : Cond.fieldLink RX2 40 (TX2 9).1 (TX2 9).2.1 (TX2 9).2.2.1 ∈ tg_gG := tg_mem (List.mem_of_getElem? (i := 243) (by decide +kernel)) (by decide +kernel)
theorem wg_X2_43 : Cond.fieldLink RX2 43 (TX2 10).1 (TX2 10).2.1 (TX2 10).2.2.1 ∈ tg_gG := tg_mem (List.mem_of_getElem? (i := 244) (by decide +kernel)) (by decide +kernel)
theorem wg_X2_46 : Cond.fieldLink RX2 46 (TX2 11).1 (TX2 11).2.1 (TX2 11).2.2.1 ∈ tg_gG := tg_mem (List.mem_of_getElem? (i := 245) (by decide +kernel)) (by decide +kernel)
theorem wg_X2_c : tg_Y0 yX2_init cX2_init 1 none 0 := ⟨tg_mem (List.mem_of_getElem? (i := 224) (by decide +kernel)) (by decide +kernel), wi_X2, by decide +kernel, by decide +kernel, by decide +kernel⟩
theorem wg_X2_i : Cond.instanceMethod yX2_init ∈ tg_gG := tg_mem (List.mem_of_getElem? (i := 223) (by decide +kernel)) (by decide +kernel)
def zr_X2_init : Room := { frames := 1, cells := 6, slots := 880, locals := 12 }
def b_X2 (cy : Bool → ClassId) (h0 : Nat) : va_W → Prop := fun w => ∃ q1 q2 q3 q4 q5 q6 : Nat, w = [(h0, .inr (2, [.ref q1, .ref q2, .ref q3, .ref q4, .ref q5, .int (-1), .int (-1), .ref q6, .int (12), .int (0), .int (0), .int (0)])), (q1, .inl (cy false, 24, .inl (fun _ => 0))), (q2, .inl (cy false, 24, .inl (fun _ => 0))), (q3, .inl (cy false, 48, .inl (fun _ => 0))), (q4, .inl (cy false, 384, .inl (fun _ => 0))), (q5, .inl (cy false, 384, .inl (fun _ => 0))), (q6, .inl (cy false, 16, .inl (fun _ => 0)))]
set_option maxHeartbeats 4000000 in
set_option maxRecDepth 100000 in
theorem i_X2 {x : tg_X} {h0 : Nat} (X : cg_M x cX2_init RX2 zr_X2_init (b_X2 (tg_cy x) h0) 6 880) : cg_G x h0 [(h0, .inr (2, [.null, .null, .null, .null, .null, .int 0, .int 0, .null, .int 0, .int 0, .int 0, .int 0]))] 0 0 0 [] := by
  refine cg_aload X dX2_init_0 ?_
  refine cg_obj X ⟨wg_X2_o, wg_oi, wg_oc⟩ ⟨Nat.le_of_ble_eq_true rfl, Nat.le_of_ble_eq_true rfl⟩ dX2_init_1 ?_
  refine cg_aload X dX2_init_4 ?_
  refine cg_bipush (v := 24) X dX2_init_5 (by decide) ?_
  refine cg_newa (N := 24) (atype := .int) X false rfl wg_ai (by decide) (by decide) (Nat.le_of_ble_eq_true rfl) (Nat.le_of_ble_eq_true rfl) (Nat.le_of_ble_eq_true rfl) dX2_init_7 (fun q1 => ?_)
  refine cg_re (ws2 := [(h0, .inr (2, [.null, .null, .null, .null, .null, .int 0, .int 0, .null, .int 0, .int 0, .int 0, .int 0])), (q1, .inl (tg_cy x false, 24, .inl (fun _ => 0)))]) rfl ?_
  refine cg_putF X 0 rfl cl_X2 0 (by decide) wg_X2_9 rfl rfl rfl rfl (Nat.le_of_ble_eq_true rfl) dX2_init_9 ?_
  refine cg_re (ws2 := [(h0, .inr (2, [.ref q1, .null, .null, .null, .null, .int 0, .int 0, .null, .int 0, .int 0, .int 0, .int 0])), (q1, .inl (tg_cy x false, 24, .inl (fun _ => 0)))]) rfl ?_
  refine cg_aload X dX2_init_12 ?_
  refine cg_bipush (v := 24) X dX2_init_13 (by decide) ?_
  refine cg_newa (N := 24) (atype := .int) X false rfl wg_ai (by decide) (by decide) (Nat.le_of_ble_eq_true rfl) (Nat.le_of_ble_eq_true rfl) (Nat.le_of_ble_eq_true rfl) dX2_init_15 (fun q2 => ?_)
  refine cg_re (ws2 := [(h0, .inr (2, [.ref q1, .null, .null, .null, .null, .int 0, .int 0, .null, .int 0, .int 0, .int 0, .int 0])), (q1, .inl (tg_cy x false, 24, .inl (fun _ => 0))), (q2, .inl (tg_cy x false, 24, .inl (fun _ => 0)))]) rfl ?_
  refine cg_putF X 0 rfl cl_X2 1 (by decide) wg_X2_15 rfl rfl rfl rfl (Nat.le_of_ble_eq_true rfl) dX2_init_17 ?_
  refine cg_re (ws2 := [(h0, .inr (2, [.ref q1, .ref q2, .null, .null, .null, .int 0, .int 0, .null, .int 0, .int 0, .int 0, .int 0])), (q1, .inl (tg_cy x false, 24, .inl (fun _ => 0))), (q2, .inl (tg_cy x false, 24, .inl (fun _ => 0)))]) rfl ?_
  refine cg_aload X dX2_init_20 ?_
  refine cg_bipush (v := 48) X dX2_init_21 (by decide) ?_
  refine cg_newa (N := 48) (atype := .int) X false rfl wg_ai (by decide) (by decide) (Nat.le_of_ble_eq_true rfl) (Nat.le_of_ble_eq_true rfl) (Nat.le_of_ble_eq_true rfl) dX2_init_23 (fun q3 => ?_)
  refine cg_re (ws2 := [(h0, .inr (2, [.ref q1, .ref q2, .null, .null, .null, .int 0, .int 0, .null, .int 0, .int 0, .int 0, .int 0])), (q1, .inl (tg_cy x false, 24, .inl (fun _ => 0))), (q2, .inl (tg_cy x false, 24, .inl (fun _ => 0))), (q3, .inl (tg_cy x false, 48, .inl (fun _ => 0)))]) rfl ?_
  refine cg_putF X 0 rfl cl_X2 2 (by decide) wg_X2_18 rfl rfl rfl rfl (Nat.le_of_ble_eq_true rfl) dX2_init_25 ?_
  refine cg_re (ws2 := [(h0, .inr (2, [.ref q1, .ref q2, .ref q3, .null, .null, .int 0, .int 0, .null, .int 0, .int 0, .int 0, .int 0])), (q1, .inl (tg_cy x false, 24, .inl (fun _ => 0))), (q2, .inl (tg_cy x false, 24, .inl (fun _ => 0))), (q3, .inl (tg_cy x false, 48, .inl (fun _ => 0)))]) rfl ?_
  refine cg_aload X dX2_init_28 ?_
  refine cg_sipush (v := 384) X dX2_init_29 (by decide) ?_
  refine cg_newa (N := 384) (atype := .int) X false rfl wg_ai (by decide) (by decide) (Nat.le_of_ble_eq_true rfl) (Nat.le_of_ble_eq_true rfl) (Nat.le_of_ble_eq_true rfl) dX2_init_32 (fun q4 => ?_)
  refine cg_re (ws2 := [(h0, .inr (2, [.ref q1, .ref q2, .ref q3, .null, .null, .int 0, .int 0, .null, .int 0, .int 0, .int 0, .int 0])), (q1, .inl (tg_cy x false, 24, .inl (fun _ => 0))), (q2, .inl (tg_cy x false, 24, .inl (fun _ => 0))), (q3, .inl (tg_cy x false, 48, .inl (fun _ => 0))), (q4, .inl (tg_cy x false, 384, .inl (fun _ => 0)))]) rfl ?_
  refine cg_putF X 0 rfl cl_X2 3 (by decide) wg_X2_21 rfl rfl rfl rfl (Nat.le_of_ble_eq_true rfl) dX2_init_34 ?_
  refine cg_re (ws2 := [(h0, .inr (2, [.ref q1, .ref q2, .ref q3, .ref q4, .null, .int 0, .int 0, .null, .int 0, .int 0, .int 0, .int 0])), (q1, .inl (tg_cy x false, 24, .inl (fun _ => 0))), (q2, .inl (tg_cy x false, 24, .inl (fun _ => 0))), (q3, .inl (tg_cy x false, 48, .inl (fun _ => 0))), (q4, .inl (tg_cy x false, 384, .inl (fun _ => 0)))]) rfl ?_
  refine cg_aload X dX2_init_37 ?_
  refine cg_sipush (v := 384) X dX2_init_38 (by decide) ?_
  refine cg_newa (N := 384) (atype := .int) X false rfl wg_ai (by decide) (by decide) (Nat.le_of_ble_eq_true rfl) (Nat.le_of_ble_eq_true rfl) (Nat.le_of_ble_eq_true rfl) dX2_init_41 (fun q5 => ?_)
  refine cg_re (ws2 := [(h0, .inr (2, [.ref q1, .ref q2, .ref q3, .ref q4, .null, .int 0, .int 0, .null, .int 0, .int 0, .int 0, .int 0])), (q1, .inl (tg_cy x false, 24, .inl (fun _ => 0))), (q2, .inl (tg_cy x false, 24, .inl (fun _ => 0))), (q3, .inl (tg_cy x false, 48, .inl (fun _ => 0))), (q4, .inl (tg_cy x false, 384, .inl (fun _ => 0))), (q5, .inl (tg_cy x false, 384, .inl (fun _ => 0)))]) rfl ?_
  refine cg_putF X 0 rfl cl_X2 4 (by decide) wg_X2_24 rfl rfl rfl rfl (Nat.le_of_ble_eq_true rfl) dX2_init_43 ?_
  refine cg_re (ws2 := [(h0, .inr (2, [.ref q1, .ref q2, .ref q3, .ref q4, .ref q5, .int 0, .int 0, .null, .int 0, .int 0, .int 0, .int 0])), (q1, .inl (tg_cy x false, 24, .inl (fun _ => 0))), (q2, .inl (tg_cy x false, 24, .inl (fun _ => 0))), (q3, .inl (tg_cy x false, 48, .inl (fun _ => 0))), (q4, .inl (tg_cy x false, 384, .inl (fun _ => 0))), (q5, .inl (tg_cy x false, 384, .inl (fun _ => 0)))]) rfl ?_
  refine cg_aload X dX2_init_46 ?_
  refine cg_iconst (v := -1) X dX2_init_47 (by decide) ?_
  refine cg_put X 0 rfl cl_X2 5 (by decide) wg_X2_27 rfl rfl rfl (Nat.le_of_ble_eq_true rfl) dX2_init_48 ?_
  refine cg_re (ws2 := [(h0, .inr (2, [.ref q1, .ref q2, .ref q3, .ref q4, .ref q5, .int (-1), .int 0, .null, .int 0, .int 0, .int 0, .int 0])), (q1, .inl (tg_cy x false, 24, .inl (fun _ => 0))), (q2, .inl (tg_cy x false, 24, .inl (fun _ => 0))), (q3, .inl (tg_cy x false, 48, .inl (fun _ => 0))), (q4, .inl (tg_cy x false, 384, .inl (fun _ => 0))), (q5, .inl (tg_cy x false, 384, .inl (fun _ => 0)))]) rfl ?_
  refine cg_aload X dX2_init_51 ?_
  refine cg_iconst (v := -1) X dX2_init_52 (by decide) ?_
  refine cg_put X 0 rfl cl_X2 6 (by decide) wg_X2_31 rfl rfl rfl (Nat.le_of_ble_eq_true rfl) dX2_init_53 ?_
  refine cg_re (ws2 := [(h0, .inr (2, [.ref q1, .ref q2, .ref q3, .ref q4, .ref q5, .int (-1), .int (-1), .null, .int 0, .int 0, .int 0, .int 0])), (q1, .inl (tg_cy x false, 24, .inl (fun _ => 0))), (q2, .inl (tg_cy x false, 24, .inl (fun _ => 0))), (q3, .inl (tg_cy x false, 48, .inl (fun _ => 0))), (q4, .inl (tg_cy x false, 384, .inl (fun _ => 0))), (q5, .inl (tg_cy x false, 384, .inl (fun _ => 0)))]) rfl ?_
  refine cg_aload X dX2_init_56 ?_
  refine cg_bipush (v := 16) X dX2_init_57 (by decide) ?_
  refine cg_newa (N := 16) (atype := .int) X false rfl wg_ai (by decide) (by decide) (Nat.le_of_ble_eq_true rfl) (Nat.le_of_ble_eq_true rfl) (Nat.le_of_ble_eq_true rfl) dX2_init_59 (fun q6 => ?_)
  refine cg_re (ws2 := [(h0, .inr (2, [.ref q1, .ref q2, .ref q3, .ref q4, .ref q5, .int (-1), .int (-1), .null, .int 0, .int 0, .int 0, .int 0])), (q1, .inl (tg_cy x false, 24, .inl (fun _ => 0))), (q2, .inl (tg_cy x false, 24, .inl (fun _ => 0))), (q3, .inl (tg_cy x false, 48, .inl (fun _ => 0))), (q4, .inl (tg_cy x false, 384, .inl (fun _ => 0))), (q5, .inl (tg_cy x false, 384, .inl (fun _ => 0))), (q6, .inl (tg_cy x false, 16, .inl (fun _ => 0)))]) rfl ?_
  refine cg_putF X 0 rfl cl_X2 7 (by decide) wg_X2_34 rfl rfl rfl rfl (Nat.le_of_ble_eq_true rfl) dX2_init_61 ?_
  refine cg_re (ws2 := [(h0, .inr (2, [.ref q1, .ref q2, .ref q3, .ref q4, .ref q5, .int (-1), .int (-1), .ref q6, .int 0, .int 0, .int 0, .int 0])), (q1, .inl (tg_cy x false, 24, .inl (fun _ => 0))), (q2, .inl (tg_cy x false, 24, .inl (fun _ => 0))), (q3, .inl (tg_cy x false, 48, .inl (fun _ => 0))), (q4, .inl (tg_cy x false, 384, .inl (fun _ => 0))), (q5, .inl (tg_cy x false, 384, .inl (fun _ => 0))), (q6, .inl (tg_cy x false, 16, .inl (fun _ => 0)))]) rfl ?_
  refine cg_aload X dX2_init_64 ?_
  refine cg_bipush (v := 12) X dX2_init_65 (by decide) ?_
  refine cg_put X 0 rfl cl_X2 8 (by decide) wg_X2_37 rfl rfl rfl (Nat.le_of_ble_eq_true rfl) dX2_init_67 ?_
  refine cg_re (ws2 := [(h0, .inr (2, [.ref q1, .ref q2, .ref q3, .ref q4, .ref q5, .int (-1), .int (-1), .ref q6, .int (12), .int 0, .int 0, .int 0])), (q1, .inl (tg_cy x false, 24, .inl (fun _ => 0))), (q2, .inl (tg_cy x false, 24, .inl (fun _ => 0))), (q3, .inl (tg_cy x false, 48, .inl (fun _ => 0))), (q4, .inl (tg_cy x false, 384, .inl (fun _ => 0))), (q5, .inl (tg_cy x false, 384, .inl (fun _ => 0))), (q6, .inl (tg_cy x false, 16, .inl (fun _ => 0)))]) rfl ?_
  refine cg_aload X dX2_init_70 ?_
  refine cg_iconst (v := 0) X dX2_init_71 (by decide) ?_
  refine cg_put X 0 rfl cl_X2 9 (by decide) wg_X2_40 rfl rfl rfl (Nat.le_of_ble_eq_true rfl) dX2_init_72 ?_
  refine cg_re (ws2 := [(h0, .inr (2, [.ref q1, .ref q2, .ref q3, .ref q4, .ref q5, .int (-1), .int (-1), .ref q6, .int (12), .int (0), .int 0, .int 0])), (q1, .inl (tg_cy x false, 24, .inl (fun _ => 0))), (q2, .inl (tg_cy x false, 24, .inl (fun _ => 0))), (q3, .inl (tg_cy x false, 48, .inl (fun _ => 0))), (q4, .inl (tg_cy x false, 384, .inl (fun _ => 0))), (q5, .inl (tg_cy x false, 384, .inl (fun _ => 0))), (q6, .inl (tg_cy x false, 16, .inl (fun _ => 0)))]) rfl ?_
  refine cg_aload X dX2_init_75 ?_
  refine cg_iconst (v := 0) X dX2_init_76 (by decide) ?_
  refine cg_put X 0 rfl cl_X2 10 (by decide) wg_X2_43 rfl rfl rfl (Nat.le_of_ble_eq_true rfl) dX2_init_77 ?_
  refine cg_re (ws2 := [(h0, .inr (2, [.ref q1, .ref q2, .ref q3, .ref q4, .ref q5, .int (-1), .int (-1), .ref q6, .int (12), .int (0), .int (0), .int 0])), (q1, .inl (tg_cy x false, 24, .inl (fun _ => 0))), (q2, .inl (tg_cy x false, 24, .inl (fun _ => 0))), (q3, .inl (tg_cy x false, 48, .inl (fun _ => 0))), (q4, .inl (tg_cy x false, 384, .inl (fun _ => 0))), (q5, .inl (tg_cy x false, 384, .inl (fun _ => 0))), (q6, .inl (tg_cy x false, 16, .inl (fun _ => 0)))]) rfl ?_
  refine cg_aload X dX2_init_80 ?_
  refine cg_iconst (v := 0) X dX2_init_81 (by decide) ?_
  refine cg_put X 0 rfl cl_X2 11 (by decide) wg_X2_46 rfl rfl rfl (Nat.le_of_ble_eq_true rfl) dX2_init_82 ?_
  refine cg_re (ws2 := [(h0, .inr (2, [.ref q1, .ref q2, .ref q3, .ref q4, .ref q5, .int (-1), .int (-1), .ref q6, .int (12), .int (0), .int (0), .int (0)])), (q1, .inl (tg_cy x false, 24, .inl (fun _ => 0))), (q2, .inl (tg_cy x false, 24, .inl (fun _ => 0))), (q3, .inl (tg_cy x false, 48, .inl (fun _ => 0))), (q4, .inl (tg_cy x false, 384, .inl (fun _ => 0))), (q5, .inl (tg_cy x false, 384, .inl (fun _ => 0))), (q6, .inl (tg_cy x false, 16, .inl (fun _ => 0)))]) rfl ?_
  exact cg_vret X ⟨q1, q2, q3, q4, q5, q6, rfl⟩ dX2_init_85
theorem cm_X2_init (l : Launch) (D : va_G) (cy : Bool → ClassId) (tS h0 : Nat) : cg_Met l yX2_init cX2_init zr_X2_init D cy tS h0 (.inr (2, [.null, .null, .null, .null, .null, .int 0, .int 0, .null, .int 0, .int 0, .int 0, .int 0])) (b_X2 cy h0) 6 880 := cg_mk (by decide +kernel) rfl (fun p e s m args below meth c Q A X => i_X2 X)
-- X1_init
theorem dX1_init_0 : decode cX1_init 0 = .ok (.aload_n 0, 1) := by decide +kernel
theorem dX1_init_1 : decode cX1_init 1 = .ok (.invokespecial 3, 3) := by decide +kernel
theorem dX1_init_4 : decode cX1_init 4 = .ok (.aload_n 0, 1) := by decide +kernel
theorem dX1_init_5 : decode cX1_init 5 = .ok (.bipush 16, 2) := by decide +kernel
theorem dX1_init_7 : decode cX1_init 7 = .ok (.newarray .boolean, 2) := by decide +kernel
theorem dX1_init_9 : decode cX1_init 9 = .ok (.putfield 9, 3) := by decide +kernel
theorem dX1_init_12 : decode cX1_init 12 = .ok (.aload_n 0, 1) := by decide +kernel
theorem dX1_init_13 : decode cX1_init 13 = .ok (.bipush 16, 2) := by decide +kernel
theorem dX1_init_15 : decode cX1_init 15 = .ok (.newarray .int, 2) := by decide +kernel
theorem dX1_init_17 : decode cX1_init 17 = .ok (.putfield 15, 3) := by decide +kernel
theorem dX1_init_20 : decode cX1_init 20 = .ok (.aload_n 0, 1) := by decide +kernel
theorem dX1_init_21 : decode cX1_init 21 = .ok (.bipush 16, 2) := by decide +kernel
theorem dX1_init_23 : decode cX1_init 23 = .ok (.newarray .int, 2) := by decide +kernel
theorem dX1_init_25 : decode cX1_init 25 = .ok (.putfield 19, 3) := by decide +kernel
theorem dX1_init_28 : decode cX1_init 28 = .ok (.aload_n 0, 1) := by decide +kernel
theorem dX1_init_29 : decode cX1_init 29 = .ok (.bipush 16, 2) := by decide +kernel
theorem dX1_init_31 : decode cX1_init 31 = .ok (.newarray .int, 2) := by decide +kernel
theorem dX1_init_33 : decode cX1_init 33 = .ok (.putfield 22, 3) := by decide +kernel
theorem dX1_init_36 : decode cX1_init 36 = .ok (.aload_n 0, 1) := by decide +kernel
theorem dX1_init_37 : decode cX1_init 37 = .ok (.iconst 2, 1) := by decide +kernel
theorem dX1_init_38 : decode cX1_init 38 = .ok (.newarray .int, 2) := by decide +kernel
theorem dX1_init_40 : decode cX1_init 40 = .ok (.putfield 25, 3) := by decide +kernel
theorem dX1_init_43 : decode cX1_init 43 = .ok (.aload_n 0, 1) := by decide +kernel
theorem dX1_init_44 : decode cX1_init 44 = .ok (.iconst 2, 1) := by decide +kernel
theorem dX1_init_45 : decode cX1_init 45 = .ok (.newarray .int, 2) := by decide +kernel
theorem dX1_init_47 : decode cX1_init 47 = .ok (.putfield 28, 3) := by decide +kernel
theorem dX1_init_50 : decode cX1_init 50 = .ok (.aload_n 0, 1) := by decide +kernel
theorem dX1_init_51 : decode cX1_init 51 = .ok (.bipush 48, 2) := by decide +kernel
theorem dX1_init_53 : decode cX1_init 53 = .ok (.newarray .int, 2) := by decide +kernel
theorem dX1_init_55 : decode cX1_init 55 = .ok (.putfield 31, 3) := by decide +kernel
theorem dX1_init_58 : decode cX1_init 58 = .ok (.aload_n 0, 1) := by decide +kernel
theorem dX1_init_59 : decode cX1_init 59 = .ok (.new 34, 3) := by decide +kernel
theorem dX1_init_62 : decode cX1_init 62 = .ok (.dup, 1) := by decide +kernel
theorem dX1_init_63 : decode cX1_init 63 = .ok (.invokespecial 36, 3) := by decide +kernel
theorem dX1_init_66 : decode cX1_init 66 = .ok (.putfield 37, 3) := by decide +kernel
theorem dX1_init_69 : decode cX1_init 69 = .ok (.aload_n 0, 1) := by decide +kernel
theorem dX1_init_70 : decode cX1_init 70 = .ok (.iconst 0, 1) := by decide +kernel
theorem dX1_init_71 : decode cX1_init 71 = .ok (.putfield 41, 3) := by decide +kernel
theorem dX1_init_74 : decode cX1_init 74 = .ok (.return_, 1) := by decide +kernel
theorem wg_X1_o : Cond.methodLink RX1 3 Lib.objectInit ∈ tg_gG := tg_mem (List.mem_of_getElem? (i := 146) (by decide +kernel)) (by decide +kernel)
theorem wg_X1_9 : Cond.fieldLink RX1 9 (TX1 0).1 (TX1 0).2.1 (TX1 0).2.2.1 ∈ tg_gG := tg_mem (List.mem_of_getElem? (i := 175) (by decide +kernel)) (by decide +kernel)
theorem wg_X1_15 : Cond.fieldLink RX1 15 (TX1 1).1 (TX1 1).2.1 (TX1 1).2.2.1 ∈ tg_gG := tg_mem (List.mem_of_getElem? (i := 178) (by decide +kernel)) (by decide +kernel)
theorem wg_X1_19 : Cond.fieldLink RX1 19 (TX1 2).1 (TX1 2).2.1 (TX1 2).2.2.1 ∈ tg_gG := tg_mem (List.mem_of_getElem? (i := 181) (by decide +kernel)) (by decide +kernel)
theorem wg_X1_22 : Cond.fieldLink RX1 22 (TX1 3).1 (TX1 3).2.1 (TX1 3).2.2.1 ∈ tg_gG := tg_mem (List.mem_of_getElem? (i := 184) (by decide +kernel)) (by decide +kernel)
theorem wg_X1_25 : Cond.fieldLink RX1 25 (TX1 4).1 (TX1 4).2.1 (TX1 4).2.2.1 ∈ tg_gG := tg_mem (List.mem_of_getElem? (i := 187) (by decide +kernel)) (by decide +kernel)
theorem wg_X1_28 : Cond.fieldLink RX1 28 (TX1 5).1 (TX1 5).2.1 (TX1 5).2.2.1 ∈ tg_gG := tg_mem (List.mem_of_getElem? (i := 189) (by decide +kernel)) (by decide +kernel)
theorem wg_X1_31 : Cond.fieldLink RX1 31 (TX1 6).1 (TX1 6).2.1 (TX1 6).2.2.1 ∈ tg_gG := tg_mem (List.mem_of_getElem? (i := 192) (by decide +kernel)) (by decide +kernel)
theorem wg_X1_n34 : Cond.classLink RX1 34 RX3 ∈ tg_gG ∧ Cond.instantiable RX3 5 ∈ tg_gG ∧ Cond.initialized RX3 ∈ tg_gG := ⟨tg_mem (List.mem_of_getElem? (i := 147) (by decide +kernel)) (by decide +kernel), tg_mem (List.mem_of_getElem? (i := 148) (by decide +kernel)) (by decide +kernel), wi_X3⟩
theorem wg_X1_37 : Cond.fieldLink RX1 37 (TX1 7).1 (TX1 7).2.1 (TX1 7).2.2.1 ∈ tg_gG := tg_mem (List.mem_of_getElem? (i := 195) (by decide +kernel)) (by decide +kernel)
theorem wg_X1_41 : Cond.fieldLink RX1 41 (TX1 8).1 (TX1 8).2.1 (TX1 8).2.2.1 ∈ tg_gG := tg_mem (List.mem_of_getElem? (i := 198) (by decide +kernel)) (by decide +kernel)
theorem wg_X1_c : tg_Y0 yX1_init cX1_init 1 none 0 := ⟨tg_mem (List.mem_of_getElem? (i := 145) (by decide +kernel)) (by decide +kernel), wi_X1, by decide +kernel, by decide +kernel, by decide +kernel⟩
theorem wg_X1_i : Cond.instanceMethod yX1_init ∈ tg_gG := tg_mem (List.mem_of_getElem? (i := 144) (by decide +kernel)) (by decide +kernel)
def zr_X1_init : Room := { frames := 2, cells := 11, slots := 145, locals := 32 }
def b_X1 (cy : Bool → ClassId) (h0 : Nat) : va_W → Prop := fun w => ∃ q1 q2 q3 q4 q5 q6 q7 q8 q9 q10 q11 : Nat, w = [(h0, .inr (1, [.ref q1, .ref q2, .ref q3, .ref q4, .ref q5, .ref q6, .ref q7, .ref q8, .int (0)])), (q1, .inl (cy true, 16, .inl (fun _ => 0))), (q2, .inl (cy false, 16, .inl (fun _ => 0))), (q3, .inl (cy false, 16, .inl (fun _ => 0))), (q4, .inl (cy false, 16, .inl (fun _ => 0))), (q5, .inl (cy false, 2, .inl (fun _ => 0))), (q6, .inl (cy false, 2, .inl (fun _ => 0))), (q7, .inl (cy false, 48, .inl (fun _ => 0))), (q8, .inr (3, [.ref q9, .ref q10, .ref q11, .int (0), .int (0)])), (q9, .inl (cy false, 8, .inl (fun _ => 0))), (q10, .inl (cy false, 8, .inl (fun _ => 0))), (q11, .inl (cy false, 8, .inl (fun _ => 0)))]
set_option maxHeartbeats 4000000 in
set_option maxRecDepth 100000 in
theorem i_X1 {x : tg_X} {h0 : Nat} (X : cg_M x cX1_init RX1 zr_X1_init (b_X1 (tg_cy x) h0) 11 145) : cg_G x h0 [(h0, .inr (1, [.null, .null, .null, .null, .null, .null, .null, .null, .int 0]))] 0 0 0 [] := by
  refine cg_aload X dX1_init_0 ?_
  refine cg_obj X ⟨wg_X1_o, wg_oi, wg_oc⟩ ⟨Nat.le_of_ble_eq_true rfl, Nat.le_of_ble_eq_true rfl⟩ dX1_init_1 ?_
  refine cg_aload X dX1_init_4 ?_
  refine cg_bipush (v := 16) X dX1_init_5 (by decide) ?_
  refine cg_newa (N := 16) (atype := .boolean) X true rfl wg_az (by decide) (by decide) (Nat.le_of_ble_eq_true rfl) (Nat.le_of_ble_eq_true rfl) (Nat.le_of_ble_eq_true rfl) dX1_init_7 (fun q1 => ?_)
  refine cg_re (ws2 := [(h0, .inr (1, [.null, .null, .null, .null, .null, .null, .null, .null, .int 0])), (q1, .inl (tg_cy x true, 16, .inl (fun _ => 0)))]) rfl ?_
  refine cg_putF X 0 rfl cl_X1 0 (by decide) wg_X1_9 rfl rfl rfl rfl (Nat.le_of_ble_eq_true rfl) dX1_init_9 ?_
  refine cg_re (ws2 := [(h0, .inr (1, [.ref q1, .null, .null, .null, .null, .null, .null, .null, .int 0])), (q1, .inl (tg_cy x true, 16, .inl (fun _ => 0)))]) rfl ?_
  refine cg_aload X dX1_init_12 ?_
  refine cg_bipush (v := 16) X dX1_init_13 (by decide) ?_
  refine cg_newa (N := 16) (atype := .int) X false rfl wg_ai (by decide) (by decide) (Nat.le_of_ble_eq_true rfl) (Nat.le_of_ble_eq_true rfl) (Nat.le_of_ble_eq_true rfl) dX1_init_15 (fun q2 => ?_)
  refine cg_re (ws2 := [(h0, .inr (1, [.ref q1, .null, .null, .null, .null, .null, .null, .null, .int 0])), (q1, .inl (tg_cy x true, 16, .inl (fun _ => 0))), (q2, .inl (tg_cy x false, 16, .inl (fun _ => 0)))]) rfl ?_
  refine cg_putF X 0 rfl cl_X1 1 (by decide) wg_X1_15 rfl rfl rfl rfl (Nat.le_of_ble_eq_true rfl) dX1_init_17 ?_
  refine cg_re (ws2 := [(h0, .inr (1, [.ref q1, .ref q2, .null, .null, .null, .null, .null, .null, .int 0])), (q1, .inl (tg_cy x true, 16, .inl (fun _ => 0))), (q2, .inl (tg_cy x false, 16, .inl (fun _ => 0)))]) rfl ?_
  refine cg_aload X dX1_init_20 ?_
  refine cg_bipush (v := 16) X dX1_init_21 (by decide) ?_
  refine cg_newa (N := 16) (atype := .int) X false rfl wg_ai (by decide) (by decide) (Nat.le_of_ble_eq_true rfl) (Nat.le_of_ble_eq_true rfl) (Nat.le_of_ble_eq_true rfl) dX1_init_23 (fun q3 => ?_)
  refine cg_re (ws2 := [(h0, .inr (1, [.ref q1, .ref q2, .null, .null, .null, .null, .null, .null, .int 0])), (q1, .inl (tg_cy x true, 16, .inl (fun _ => 0))), (q2, .inl (tg_cy x false, 16, .inl (fun _ => 0))), (q3, .inl (tg_cy x false, 16, .inl (fun _ => 0)))]) rfl ?_
  refine cg_putF X 0 rfl cl_X1 2 (by decide) wg_X1_19 rfl rfl rfl rfl (Nat.le_of_ble_eq_true rfl) dX1_init_25 ?_
  refine cg_re (ws2 := [(h0, .inr (1, [.ref q1, .ref q2, .ref q3, .null, .null, .null, .null, .null, .int 0])), (q1, .inl (tg_cy x true, 16, .inl (fun _ => 0))), (q2, .inl (tg_cy x false, 16, .inl (fun _ => 0))), (q3, .inl (tg_cy x false, 16, .inl (fun _ => 0)))]) rfl ?_
  refine cg_aload X dX1_init_28 ?_
  refine cg_bipush (v := 16) X dX1_init_29 (by decide) ?_
  refine cg_newa (N := 16) (atype := .int) X false rfl wg_ai (by decide) (by decide) (Nat.le_of_ble_eq_true rfl) (Nat.le_of_ble_eq_true rfl) (Nat.le_of_ble_eq_true rfl) dX1_init_31 (fun q4 => ?_)
  refine cg_re (ws2 := [(h0, .inr (1, [.ref q1, .ref q2, .ref q3, .null, .null, .null, .null, .null, .int 0])), (q1, .inl (tg_cy x true, 16, .inl (fun _ => 0))), (q2, .inl (tg_cy x false, 16, .inl (fun _ => 0))), (q3, .inl (tg_cy x false, 16, .inl (fun _ => 0))), (q4, .inl (tg_cy x false, 16, .inl (fun _ => 0)))]) rfl ?_
  refine cg_putF X 0 rfl cl_X1 3 (by decide) wg_X1_22 rfl rfl rfl rfl (Nat.le_of_ble_eq_true rfl) dX1_init_33 ?_
  refine cg_re (ws2 := [(h0, .inr (1, [.ref q1, .ref q2, .ref q3, .ref q4, .null, .null, .null, .null, .int 0])), (q1, .inl (tg_cy x true, 16, .inl (fun _ => 0))), (q2, .inl (tg_cy x false, 16, .inl (fun _ => 0))), (q3, .inl (tg_cy x false, 16, .inl (fun _ => 0))), (q4, .inl (tg_cy x false, 16, .inl (fun _ => 0)))]) rfl ?_
  refine cg_aload X dX1_init_36 ?_
  refine cg_iconst (v := 2) X dX1_init_37 (by decide) ?_
  refine cg_newa (N := 2) (atype := .int) X false rfl wg_ai (by decide) (by decide) (Nat.le_of_ble_eq_true rfl) (Nat.le_of_ble_eq_true rfl) (Nat.le_of_ble_eq_true rfl) dX1_init_38 (fun q5 => ?_)
  refine cg_re (ws2 := [(h0, .inr (1, [.ref q1, .ref q2, .ref q3, .ref q4, .null, .null, .null, .null, .int 0])), (q1, .inl (tg_cy x true, 16, .inl (fun _ => 0))), (q2, .inl (tg_cy x false, 16, .inl (fun _ => 0))), (q3, .inl (tg_cy x false, 16, .inl (fun _ => 0))), (q4, .inl (tg_cy x false, 16, .inl (fun _ => 0))), (q5, .inl (tg_cy x false, 2, .inl (fun _ => 0)))]) rfl ?_
  refine cg_putF X 0 rfl cl_X1 4 (by decide) wg_X1_25 rfl rfl rfl rfl (Nat.le_of_ble_eq_true rfl) dX1_init_40 ?_
  refine cg_re (ws2 := [(h0, .inr (1, [.ref q1, .ref q2, .ref q3, .ref q4, .ref q5, .null, .null, .null, .int 0])), (q1, .inl (tg_cy x true, 16, .inl (fun _ => 0))), (q2, .inl (tg_cy x false, 16, .inl (fun _ => 0))), (q3, .inl (tg_cy x false, 16, .inl (fun _ => 0))), (q4, .inl (tg_cy x false, 16, .inl (fun _ => 0))), (q5, .inl (tg_cy x false, 2, .inl (fun _ => 0)))]) rfl ?_
  refine cg_aload X dX1_init_43 ?_
  refine cg_iconst (v := 2) X dX1_init_44 (by decide) ?_
  refine cg_newa (N := 2) (atype := .int) X false rfl wg_ai (by decide) (by decide) (Nat.le_of_ble_eq_true rfl) (Nat.le_of_ble_eq_true rfl) (Nat.le_of_ble_eq_true rfl) dX1_init_45 (fun q6 => ?_)
  refine cg_re (ws2 := [(h0, .inr (1, [.ref q1, .ref q2, .ref q3, .ref q4, .ref q5, .null, .null, .null, .int 0])), (q1, .inl (tg_cy x true, 16, .inl (fun _ => 0))), (q2, .inl (tg_cy x false, 16, .inl (fun _ => 0))), (q3, .inl (tg_cy x false, 16, .inl (fun _ => 0))), (q4, .inl (tg_cy x false, 16, .inl (fun _ => 0))), (q5, .inl (tg_cy x false, 2, .inl (fun _ => 0))), (q6, .inl (tg_cy x false, 2, .inl (fun _ => 0)))]) rfl ?_
  refine cg_putF X 0 rfl cl_X1 5 (by decide) wg_X1_28 rfl rfl rfl rfl (Nat.le_of_ble_eq_true rfl) dX1_init_47 ?_
  refine cg_re (ws2 := [(h0, .inr (1, [.ref q1, .ref q2, .ref q3, .ref q4, .ref q5, .ref q6, .null, .null, .int 0])), (q1, .inl (tg_cy x true, 16, .inl (fun _ => 0))), (q2, .inl (tg_cy x false, 16, .inl (fun _ => 0))), (q3, .inl (tg_cy x false, 16, .inl (fun _ => 0))), (q4, .inl (tg_cy x false, 16, .inl (fun _ => 0))), (q5, .inl (tg_cy x false, 2, .inl (fun _ => 0))), (q6, .inl (tg_cy x false, 2, .inl (fun _ => 0)))]) rfl ?_
  refine cg_aload X dX1_init_50 ?_
  refine cg_bipush (v := 48) X dX1_init_51 (by decide) ?_
  refine cg_newa (N := 48) (atype := .int) X false rfl wg_ai (by decide) (by decide) (Nat.le_of_ble_eq_true rfl) (Nat.le_of_ble_eq_true rfl) (Nat.le_of_ble_eq_true rfl) dX1_init_53 (fun q7 => ?_)
  refine cg_re (ws2 := [(h0, .inr (1, [.ref q1, .ref q2, .ref q3, .ref q4, .ref q5, .ref q6, .null, .null, .int 0])), (q1, .inl (tg_cy x true, 16, .inl (fun _ => 0))), (q2, .inl (tg_cy x false, 16, .inl (fun _ => 0))), (q3, .inl (tg_cy x false, 16, .inl (fun _ => 0))), (q4, .inl (tg_cy x false, 16, .inl (fun _ => 0))), (q5, .inl (tg_cy x false, 2, .inl (fun _ => 0))), (q6, .inl (tg_cy x false, 2, .inl (fun _ => 0))), (q7, .inl (tg_cy x false, 48, .inl (fun _ => 0)))]) rfl ?_
  refine cg_putF X 0 rfl cl_X1 6 (by decide) wg_X1_31 rfl rfl rfl rfl (Nat.le_of_ble_eq_true rfl) dX1_init_55 ?_
  refine cg_re (ws2 := [(h0, .inr (1, [.ref q1, .ref q2, .ref q3, .ref q4, .ref q5, .ref q6, .ref q7, .null, .int 0])), (q1, .inl (tg_cy x true, 16, .inl (fun _ => 0))), (q2, .inl (tg_cy x false, 16, .inl (fun _ => 0))), (q3, .inl (tg_cy x false, 16, .inl (fun _ => 0))), (q4, .inl (tg_cy x false, 16, .inl (fun _ => 0))), (q5, .inl (tg_cy x false, 2, .inl (fun _ => 0))), (q6, .inl (tg_cy x false, 2, .inl (fun _ => 0))), (q7, .inl (tg_cy x false, 48, .inl (fun _ => 0)))]) rfl ?_
  refine cg_aload X dX1_init_58 ?_
  refine cg_new (fs := [.null, .null, .null, .int 0, .int 0]) X cl_X3 wg_X1_n34 (fun j hj => by rcases (show j = 0 ∨ j = 1 ∨ j = 2 ∨ j = 3 ∨ j = 4 by omega) with rfl | rfl | rfl | rfl | rfl <;> rfl) (Nat.le_of_ble_eq_true rfl) (Nat.le_of_ble_eq_true rfl) dX1_init_59 (fun q8 => ?_)
  refine cg_re (ws2 := [(h0, .inr (1, [.ref q1, .ref q2, .ref q3, .ref q4, .ref q5, .ref q6, .ref q7, .null, .int 0])), (q1, .inl (tg_cy x true, 16, .inl (fun _ => 0))), (q2, .inl (tg_cy x false, 16, .inl (fun _ => 0))), (q3, .inl (tg_cy x false, 16, .inl (fun _ => 0))), (q4, .inl (tg_cy x false, 16, .inl (fun _ => 0))), (q5, .inl (tg_cy x false, 2, .inl (fun _ => 0))), (q6, .inl (tg_cy x false, 2, .inl (fun _ => 0))), (q7, .inl (tg_cy x false, 48, .inl (fun _ => 0))), (q8, .inr (3, [.null, .null, .null, .int 0, .int 0]))]) rfl ?_
  refine cg_dup X dX1_init_62 rfl ?_
  refine cg_callIN (host := "TugOfWar") (wr := [(h0, .inr (1, [.ref q1, .ref q2, .ref q3, .ref q4, .ref q5, .ref q6, .ref q7, .null, .int 0])), (q1, .inl (tg_cy x true, 16, .inl (fun _ => 0))), (q2, .inl (tg_cy x false, 16, .inl (fun _ => 0))), (q3, .inl (tg_cy x false, 16, .inl (fun _ => 0))), (q4, .inl (tg_cy x false, 16, .inl (fun _ => 0))), (q5, .inl (tg_cy x false, 2, .inl (fun _ => 0))), (q6, .inl (tg_cy x false, 2, .inl (fun _ => 0))), (q7, .inl (tg_cy x false, 48, .inl (fun _ => 0)))]) X (cm_X3_init _ _ _ _ q8) wg_X3_c rfl wg_X3_i (fun h => h.2.2.2.2.1) ⟨rfl, rfl, Nat.le_of_ble_eq_true rfl, Nat.le_of_ble_eq_true rfl⟩ ⟨Nat.le_of_ble_eq_true rfl, Nat.le_of_ble_eq_true rfl⟩ 8 [0, 1, 2, 3, 4, 5, 6, 7] rfl rfl (by decide) (by decide) (Nat.le_of_ble_eq_true rfl) dX1_init_63 (fun w1 hB => ?_)
  obtain ⟨q9, q10, q11, rfl⟩ := hB
  refine cg_re (ws2 := [(h0, .inr (1, [.ref q1, .ref q2, .ref q3, .ref q4, .ref q5, .ref q6, .ref q7, .null, .int 0])), (q1, .inl (tg_cy x true, 16, .inl (fun _ => 0))), (q2, .inl (tg_cy x false, 16, .inl (fun _ => 0))), (q3, .inl (tg_cy x false, 16, .inl (fun _ => 0))), (q4, .inl (tg_cy x false, 16, .inl (fun _ => 0))), (q5, .inl (tg_cy x false, 2, .inl (fun _ => 0))), (q6, .inl (tg_cy x false, 2, .inl (fun _ => 0))), (q7, .inl (tg_cy x false, 48, .inl (fun _ => 0))), (q8, .inr (3, [.ref q9, .ref q10, .ref q11, .int (0), .int (0)])), (q9, .inl (tg_cy x false, 8, .inl (fun _ => 0))), (q10, .inl (tg_cy x false, 8, .inl (fun _ => 0))), (q11, .inl (tg_cy x false, 8, .inl (fun _ => 0)))]) rfl ?_
  refine cg_putF X 0 rfl cl_X1 7 (by decide) wg_X1_37 rfl rfl rfl rfl (Nat.le_of_ble_eq_true rfl) dX1_init_66 ?_
  refine cg_re (ws2 := [(h0, .inr (1, [.ref q1, .ref q2, .ref q3, .ref q4, .ref q5, .ref q6, .ref q7, .ref q8, .int 0])), (q1, .inl (tg_cy x true, 16, .inl (fun _ => 0))), (q2, .inl (tg_cy x false, 16, .inl (fun _ => 0))), (q3, .inl (tg_cy x false, 16, .inl (fun _ => 0))), (q4, .inl (tg_cy x false, 16, .inl (fun _ => 0))), (q5, .inl (tg_cy x false, 2, .inl (fun _ => 0))), (q6, .inl (tg_cy x false, 2, .inl (fun _ => 0))), (q7, .inl (tg_cy x false, 48, .inl (fun _ => 0))), (q8, .inr (3, [.ref q9, .ref q10, .ref q11, .int (0), .int (0)])), (q9, .inl (tg_cy x false, 8, .inl (fun _ => 0))), (q10, .inl (tg_cy x false, 8, .inl (fun _ => 0))), (q11, .inl (tg_cy x false, 8, .inl (fun _ => 0)))]) rfl ?_
  refine cg_aload X dX1_init_69 ?_
  refine cg_iconst (v := 0) X dX1_init_70 (by decide) ?_
  refine cg_put X 0 rfl cl_X1 8 (by decide) wg_X1_41 rfl rfl rfl (Nat.le_of_ble_eq_true rfl) dX1_init_71 ?_
  refine cg_re (ws2 := [(h0, .inr (1, [.ref q1, .ref q2, .ref q3, .ref q4, .ref q5, .ref q6, .ref q7, .ref q8, .int (0)])), (q1, .inl (tg_cy x true, 16, .inl (fun _ => 0))), (q2, .inl (tg_cy x false, 16, .inl (fun _ => 0))), (q3, .inl (tg_cy x false, 16, .inl (fun _ => 0))), (q4, .inl (tg_cy x false, 16, .inl (fun _ => 0))), (q5, .inl (tg_cy x false, 2, .inl (fun _ => 0))), (q6, .inl (tg_cy x false, 2, .inl (fun _ => 0))), (q7, .inl (tg_cy x false, 48, .inl (fun _ => 0))), (q8, .inr (3, [.ref q9, .ref q10, .ref q11, .int (0), .int (0)])), (q9, .inl (tg_cy x false, 8, .inl (fun _ => 0))), (q10, .inl (tg_cy x false, 8, .inl (fun _ => 0))), (q11, .inl (tg_cy x false, 8, .inl (fun _ => 0)))]) rfl ?_
  exact cg_vret X ⟨q1, q2, q3, q4, q5, q6, q7, q8, q9, q10, q11, rfl⟩ dX1_init_74
theorem cm_X1_init (l : Launch) (D : va_G) (cy : Bool → ClassId) (tS h0 : Nat) : cg_Met l yX1_init cX1_init zr_X1_init D cy tS h0 (.inr (1, [.null, .null, .null, .null, .null, .null, .null, .null, .int 0])) (b_X1 cy h0) 11 145 := cg_mk (by decide +kernel) rfl (fun p e s m args below meth c Q A X => i_X1 X)
