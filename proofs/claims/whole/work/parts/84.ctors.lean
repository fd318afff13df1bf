/-! the small constructors -/
def mSh : Nat → Int32 := upd (upd (upd (upd (upd (upd (fun _ => 0) 0 60) 1 30) 2 10) 3 0) 4 0) 5 0
set_option maxRecDepth 100000 in
theorem ob0 : Cond.methodLink (w_C 0) 3 objectInit ∈ w_tbl := by decide +kernel
set_option maxRecDepth 100000 in
theorem ei0 : Cond.code yX0_init cX0_init 1 none ∈ w_tbl ∧ Cond.instanceMethod yX0_init ∈ w_tbl ∧ Cond.initialized yX0_init.cls ∈ w_tbl := ⟨by decide +kernel, by decide +kernel, by decide +kernel⟩
theorem df0 : ∀ j, j < w_nf 0 → defaultValue (w_ty 0 j) = vp_V [.null, .null, .null, .null, .null] j := by
  intro j hj
  have hj : j < 5 := hj
  match j, hj with
  | 0, _ => rfl
  | 1, _ => rfl
  | 2, _ => rfl
  | 3, _ => rfl
  | 4, _ => rfl
def cw0 (kc : Nat → ClassId) (h0 : Nat) (f : Nat → Nat) : va_W := [(h0, .inr (0, [.ref (f 0), .ref (f 1), .ref (f 2), .ref (f 3), .ref (f 4)])), (f 0, .inl (kc 0, 10, .inl (fun _ => 0))), (f 1, .inl (kc 0, 60, .inl (fun _ => 0))), (f 2, .inl (kc 0, 10, .inl (fun _ => 0))), (f 3, .inl (kc 0, 30, .inl (fun _ => 0))), (f 4, .inl (kc 0, 10, .inl (fun _ => 0)))]
set_option maxHeartbeats 8000000 in
set_option maxRecDepth 100000 in
theorem cmX0 (l : Launch) : c_Met l 0 yX0_init cX0_init 1 1 5 120 [] [.null, .null, .null, .null, .null] cw0 := by
  refine c_meth (by decide +kernel) rfl rfl (fun _ => Nat.le_of_ble_eq_true rfl) ?_
  intro p e s m below meth c D kc h0 A ls E hC hl
  obtain ⟨hx, hb, hml, hown, hts, hK, hNL, hA, hin, hr, hlk⟩ := id E
  have hl : lv_has ls 1 [(0, .ref h0)] := hl
  refine lv_aload_n hx hb (show decode cX0_init 0 = .ok (.aload_n 0, 1) by decide +kernel) rfl (lv_at hl 0 rfl) ?_
  refine c_obj E ob0 hl.1 (show decode cX0_init 1 = .ok (.invokespecial 3, 3) by decide +kernel) (Nat.le_of_ble_eq_true rfl) (Nat.le_of_ble_eq_true rfl) ?_
  refine lv_aload_n hx hb (show decode cX0_init 4 = .ok (.aload_n 0, 1) by decide +kernel) rfl (lv_at hl 0 rfl) ?_
  refine lv_bipush (v := 10) hx hb (show decode cX0_init 5 = .ok (.bipush 10, 2) by decide +kernel) (by decide) ?_
  refine c_newi (N := 10) E hC (by decide) (by decide) (by decide) (Nat.le_of_ble_eq_true rfl) (Nat.le_of_ble_eq_true rfl) (show decode cX0_init 7 = .ok (.newarray .int, 2) by decide +kernel) (fun q1 H hC => ?_)
  have hC : c_at s D A [(h0, .inr (0, [.null, .null, .null, .null, .null])), (q1, .inl (kc 0, 10, .inl (fun _ => 0)))] _ _ := hC
  refine c_put (j := 0) E hC 0 rfl rfl rfl rfl (Nat.le_of_ble_eq_true rfl) (show decode cX0_init 9 = .ok (.putfield 9, 3) by decide +kernel) (fun H locs hC => ?_)
  have hC : c_at s D A [(h0, .inr (0, [.ref q1, .null, .null, .null, .null])), (q1, .inl (kc 0, 10, .inl (fun _ => 0)))] _ _ := hC
  refine lv_aload_n hx hb (show decode cX0_init 12 = .ok (.aload_n 0, 1) by decide +kernel) rfl (lv_at hl 0 rfl) ?_
  refine lv_bipush (v := 60) hx hb (show decode cX0_init 13 = .ok (.bipush 60, 2) by decide +kernel) (by decide) ?_
  refine c_newi (N := 60) E hC (by decide) (by decide) (by decide) (Nat.le_of_ble_eq_true rfl) (Nat.le_of_ble_eq_true rfl) (show decode cX0_init 15 = .ok (.newarray .int, 2) by decide +kernel) (fun q2 H hC => ?_)
  have hC : c_at s D A [(h0, .inr (0, [.ref q1, .null, .null, .null, .null])), (q1, .inl (kc 0, 10, .inl (fun _ => 0))), (q2, .inl (kc 0, 60, .inl (fun _ => 0)))] _ _ := hC
  refine c_put (j := 1) E hC 0 rfl rfl rfl rfl (Nat.le_of_ble_eq_true rfl) (show decode cX0_init 17 = .ok (.putfield 15, 3) by decide +kernel) (fun H locs hC => ?_)
  have hC : c_at s D A [(h0, .inr (0, [.ref q1, .ref q2, .null, .null, .null])), (q1, .inl (kc 0, 10, .inl (fun _ => 0))), (q2, .inl (kc 0, 60, .inl (fun _ => 0)))] _ _ := hC
  refine lv_aload_n hx hb (show decode cX0_init 20 = .ok (.aload_n 0, 1) by decide +kernel) rfl (lv_at hl 0 rfl) ?_
  refine lv_bipush (v := 10) hx hb (show decode cX0_init 21 = .ok (.bipush 10, 2) by decide +kernel) (by decide) ?_
  refine c_newi (N := 10) E hC (by decide) (by decide) (by decide) (Nat.le_of_ble_eq_true rfl) (Nat.le_of_ble_eq_true rfl) (show decode cX0_init 23 = .ok (.newarray .int, 2) by decide +kernel) (fun q3 H hC => ?_)
  have hC : c_at s D A [(h0, .inr (0, [.ref q1, .ref q2, .null, .null, .null])), (q1, .inl (kc 0, 10, .inl (fun _ => 0))), (q2, .inl (kc 0, 60, .inl (fun _ => 0))), (q3, .inl (kc 0, 10, .inl (fun _ => 0)))] _ _ := hC
  refine c_put (j := 2) E hC 0 rfl rfl rfl rfl (Nat.le_of_ble_eq_true rfl) (show decode cX0_init 25 = .ok (.putfield 18, 3) by decide +kernel) (fun H locs hC => ?_)
  have hC : c_at s D A [(h0, .inr (0, [.ref q1, .ref q2, .ref q3, .null, .null])), (q1, .inl (kc 0, 10, .inl (fun _ => 0))), (q2, .inl (kc 0, 60, .inl (fun _ => 0))), (q3, .inl (kc 0, 10, .inl (fun _ => 0)))] _ _ := hC
  refine lv_aload_n hx hb (show decode cX0_init 28 = .ok (.aload_n 0, 1) by decide +kernel) rfl (lv_at hl 0 rfl) ?_
  refine lv_bipush (v := 30) hx hb (show decode cX0_init 29 = .ok (.bipush 30, 2) by decide +kernel) (by decide) ?_
  refine c_newi (N := 30) E hC (by decide) (by decide) (by decide) (Nat.le_of_ble_eq_true rfl) (Nat.le_of_ble_eq_true rfl) (show decode cX0_init 31 = .ok (.newarray .int, 2) by decide +kernel) (fun q4 H hC => ?_)
  have hC : c_at s D A [(h0, .inr (0, [.ref q1, .ref q2, .ref q3, .null, .null])), (q1, .inl (kc 0, 10, .inl (fun _ => 0))), (q2, .inl (kc 0, 60, .inl (fun _ => 0))), (q3, .inl (kc 0, 10, .inl (fun _ => 0))), (q4, .inl (kc 0, 30, .inl (fun _ => 0)))] _ _ := hC
  refine c_put (j := 3) E hC 0 rfl rfl rfl rfl (Nat.le_of_ble_eq_true rfl) (show decode cX0_init 33 = .ok (.putfield 21, 3) by decide +kernel) (fun H locs hC => ?_)
  have hC : c_at s D A [(h0, .inr (0, [.ref q1, .ref q2, .ref q3, .ref q4, .null])), (q1, .inl (kc 0, 10, .inl (fun _ => 0))), (q2, .inl (kc 0, 60, .inl (fun _ => 0))), (q3, .inl (kc 0, 10, .inl (fun _ => 0))), (q4, .inl (kc 0, 30, .inl (fun _ => 0)))] _ _ := hC
  refine lv_aload_n hx hb (show decode cX0_init 36 = .ok (.aload_n 0, 1) by decide +kernel) rfl (lv_at hl 0 rfl) ?_
  refine lv_bipush (v := 10) hx hb (show decode cX0_init 37 = .ok (.bipush 10, 2) by decide +kernel) (by decide) ?_
  refine c_newi (N := 10) E hC (by decide) (by decide) (by decide) (Nat.le_of_ble_eq_true rfl) (Nat.le_of_ble_eq_true rfl) (show decode cX0_init 39 = .ok (.newarray .int, 2) by decide +kernel) (fun q5 H hC => ?_)
  have hC : c_at s D A [(h0, .inr (0, [.ref q1, .ref q2, .ref q3, .ref q4, .null])), (q1, .inl (kc 0, 10, .inl (fun _ => 0))), (q2, .inl (kc 0, 60, .inl (fun _ => 0))), (q3, .inl (kc 0, 10, .inl (fun _ => 0))), (q4, .inl (kc 0, 30, .inl (fun _ => 0))), (q5, .inl (kc 0, 10, .inl (fun _ => 0)))] _ _ := hC
  refine c_put (j := 4) E hC 0 rfl rfl rfl rfl (Nat.le_of_ble_eq_true rfl) (show decode cX0_init 41 = .ok (.putfield 24, 3) by decide +kernel) (fun H locs hC => ?_)
  have hC : c_at s D A [(h0, .inr (0, [.ref q1, .ref q2, .ref q3, .ref q4, .ref q5])), (q1, .inl (kc 0, 10, .inl (fun _ => 0))), (q2, .inl (kc 0, 60, .inl (fun _ => 0))), (q3, .inl (kc 0, 10, .inl (fun _ => 0))), (q4, .inl (kc 0, 30, .inl (fun _ => 0))), (q5, .inl (kc 0, 10, .inl (fun _ => 0)))] _ _ := hC
  refine W.widen (k := 5) (n := 120) (Nat.le_of_ble_eq_true rfl) (Nat.le_of_ble_eq_true rfl) ?_
  exact c_ret (wo := cw0) (h0 := h0) E (fun k => match k with | 0 => q1 | 1 => q2 | 2 => q3 | 3 => q4 | _ => q5) hC (show decode cX0_init 44 = .ok (.return_, 1) by decide +kernel)
set_option maxRecDepth 100000 in
theorem ob1 : Cond.methodLink (w_C 1) 3 objectInit ∈ w_tbl := by decide +kernel
set_option maxRecDepth 100000 in
theorem ei1 : Cond.code yX1_init cX1_init 2 none ∈ w_tbl ∧ Cond.instanceMethod yX1_init ∈ w_tbl ∧ Cond.initialized yX1_init.cls ∈ w_tbl := ⟨by decide +kernel, by decide +kernel, by decide +kernel⟩
theorem df1 : ∀ j, j < w_nf 1 → defaultValue (w_ty 1 j) = vp_V [.int 0, .int 0, .int 0, .int 0, .int 0, .int 0, .int 0, .int 0, .int 0, .int 0] j := by
  intro j hj
  have hj : j < 10 := hj
  match j, hj with
  | 0, _ => rfl
  | 1, _ => rfl
  | 2, _ => rfl
  | 3, _ => rfl
  | 4, _ => rfl
  | 5, _ => rfl
  | 6, _ => rfl
  | 7, _ => rfl
  | 8, _ => rfl
  | 9, _ => rfl
def cw1 (k : Int32) (kc : Nat → ClassId) (h0 : Nat) (f : Nat → Nat) : va_W := [(h0, .inr (1, [.int k, .int 0, .int 0, .int 0, .int 0, .int 0, .int 0, .int 10000, .int 0, .int 220]))]
set_option maxHeartbeats 8000000 in
set_option maxRecDepth 100000 in
theorem cmX1 (l : Launch) (k : Int32) : c_Met l 1 yX1_init cX1_init 2 1 0 0 [.int k] [.int 0, .int 0, .int 0, .int 0, .int 0, .int 0, .int 0, .int 0, .int 0, .int 0] (cw1 k) := by
  refine c_meth (by decide +kernel) rfl rfl (fun _ => Nat.le_of_ble_eq_true rfl) ?_
  intro p e s m below meth c D kc h0 A ls E hC hl
  obtain ⟨hx, hb, hml, hown, hts, hK, hNL, hA, hin, hr, hlk⟩ := id E
  have hl : lv_has ls 2 [(0, .ref h0), (1, .int k)] := hl
  refine lv_aload_n hx hb (show decode cX1_init 0 = .ok (.aload_n 0, 1) by decide +kernel) rfl (lv_at hl 0 rfl) ?_
  refine c_obj E ob1 hl.1 (show decode cX1_init 1 = .ok (.invokespecial 3, 3) by decide +kernel) (Nat.le_of_ble_eq_true rfl) (Nat.le_of_ble_eq_true rfl) ?_
  refine lv_aload_n hx hb (show decode cX1_init 4 = .ok (.aload_n 0, 1) by decide +kernel) rfl (lv_at hl 0 rfl) ?_
  refine lv_sipush (v := 10000) hx hb (show decode cX1_init 5 = .ok (.sipush 10000, 3) by decide +kernel) (by decide) ?_
  refine c_put (j := 7) E hC 0 rfl rfl rfl rfl (Nat.le_of_ble_eq_true rfl) (show decode cX1_init 8 = .ok (.putfield 9, 3) by decide +kernel) (fun H locs hC => ?_)
  have hC : c_at s D A [(h0, .inr (1, [.int 0, .int 0, .int 0, .int 0, .int 0, .int 0, .int 0, .int 10000, .int 0, .int 0]))] _ _ := hC
  refine lv_aload_n hx hb (show decode cX1_init 11 = .ok (.aload_n 0, 1) by decide +kernel) rfl (lv_at hl 0 rfl) ?_
  refine lv_sipush (v := 220) hx hb (show decode cX1_init 12 = .ok (.sipush 220, 3) by decide +kernel) (by decide) ?_
  refine c_put (j := 9) E hC 0 rfl rfl rfl rfl (Nat.le_of_ble_eq_true rfl) (show decode cX1_init 15 = .ok (.putfield 15, 3) by decide +kernel) (fun H locs hC => ?_)
  have hC : c_at s D A [(h0, .inr (1, [.int 0, .int 0, .int 0, .int 0, .int 0, .int 0, .int 0, .int 10000, .int 0, .int 220]))] _ _ := hC
  refine lv_aload_n hx hb (show decode cX1_init 18 = .ok (.aload_n 0, 1) by decide +kernel) rfl (lv_at hl 0 rfl) ?_
  refine lv_iload_n hx hb (show decode cX1_init 19 = .ok (.iload_n 1, 1) by decide +kernel) rfl (lv_at hl 1 rfl) ?_
  refine c_put (j := 0) E hC 0 rfl rfl rfl rfl (Nat.le_of_ble_eq_true rfl) (show decode cX1_init 20 = .ok (.putfield 18, 3) by decide +kernel) (fun H locs hC => ?_)
  have hC : c_at s D A [(h0, .inr (1, [.int k, .int 0, .int 0, .int 0, .int 0, .int 0, .int 0, .int 10000, .int 0, .int 220]))] _ _ := hC
  refine W.widen (k := 0) (n := 0) (Nat.le_of_ble_eq_true rfl) (Nat.le_of_ble_eq_true rfl) ?_
  exact c_ret (wo := cw1 k) (h0 := h0) E (fun _ => 0) hC (show decode cX1_init 23 = .ok (.return_, 1) by decide +kernel)
set_option maxRecDepth 100000 in
theorem ob2 : Cond.methodLink (w_C 2) 3 objectInit ∈ w_tbl := by decide +kernel
set_option maxRecDepth 100000 in
theorem ei2 : Cond.code yX2_init cX2_init 1 none ∈ w_tbl ∧ Cond.instanceMethod yX2_init ∈ w_tbl ∧ Cond.initialized yX2_init.cls ∈ w_tbl := ⟨by decide +kernel, by decide +kernel, by decide +kernel⟩
theorem df2 : ∀ j, j < w_nf 2 → defaultValue (w_ty 2 j) = vp_V [.null, .null, .null, .null, .null, .int 0] j := by
  intro j hj
  have hj : j < 6 := hj
  match j, hj with
  | 0, _ => rfl
  | 1, _ => rfl
  | 2, _ => rfl
  | 3, _ => rfl
  | 4, _ => rfl
  | 5, _ => rfl
def cw2 (kc : Nat → ClassId) (h0 : Nat) (f : Nat → Nat) : va_W := [(h0, .inr (2, [.ref (f 0), .ref (f 1), .ref (f 2), .ref (f 3), .ref (f 4), .int 0])), (f 0, .inl (kc 0, 160, .inl (fun _ => 0))), (f 1, .inl (kc 0, 160, .inl (fun _ => 0))), (f 2, .inl (kc 0, 160, .inl (fun _ => 0))), (f 3, .inl (kc 0, 160, .inl (fun _ => 0))), (f 4, .inl (kc 0, 160, .inl (fun _ => 0)))]
set_option maxHeartbeats 8000000 in
set_option maxRecDepth 100000 in
theorem cmX2 (l : Launch) : c_Met l 2 yX2_init cX2_init 1 1 5 800 [] [.null, .null, .null, .null, .null, .int 0] cw2 := by
  refine c_meth (by decide +kernel) rfl rfl (fun _ => Nat.le_of_ble_eq_true rfl) ?_
  intro p e s m below meth c D kc h0 A ls E hC hl
  obtain ⟨hx, hb, hml, hown, hts, hK, hNL, hA, hin, hr, hlk⟩ := id E
  have hl : lv_has ls 1 [(0, .ref h0)] := hl
  refine lv_aload_n hx hb (show decode cX2_init 0 = .ok (.aload_n 0, 1) by decide +kernel) rfl (lv_at hl 0 rfl) ?_
  refine c_obj E ob2 hl.1 (show decode cX2_init 1 = .ok (.invokespecial 3, 3) by decide +kernel) (Nat.le_of_ble_eq_true rfl) (Nat.le_of_ble_eq_true rfl) ?_
  refine lv_aload_n hx hb (show decode cX2_init 4 = .ok (.aload_n 0, 1) by decide +kernel) rfl (lv_at hl 0 rfl) ?_
  refine lv_sipush (v := 160) hx hb (show decode cX2_init 5 = .ok (.sipush 160, 3) by decide +kernel) (by decide) ?_
  refine c_newi (N := 160) E hC (by decide) (by decide) (by decide) (Nat.le_of_ble_eq_true rfl) (Nat.le_of_ble_eq_true rfl) (show decode cX2_init 8 = .ok (.newarray .int, 2) by decide +kernel) (fun q1 H hC => ?_)
  have hC : c_at s D A [(h0, .inr (2, [.null, .null, .null, .null, .null, .int 0])), (q1, .inl (kc 0, 160, .inl (fun _ => 0)))] _ _ := hC
  refine c_put (j := 0) E hC 0 rfl rfl rfl rfl (Nat.le_of_ble_eq_true rfl) (show decode cX2_init 10 = .ok (.putfield 9, 3) by decide +kernel) (fun H locs hC => ?_)
  have hC : c_at s D A [(h0, .inr (2, [.ref q1, .null, .null, .null, .null, .int 0])), (q1, .inl (kc 0, 160, .inl (fun _ => 0)))] _ _ := hC
  refine lv_aload_n hx hb (show decode cX2_init 13 = .ok (.aload_n 0, 1) by decide +kernel) rfl (lv_at hl 0 rfl) ?_
  refine lv_sipush (v := 160) hx hb (show decode cX2_init 14 = .ok (.sipush 160, 3) by decide +kernel) (by decide) ?_
  refine c_newi (N := 160) E hC (by decide) (by decide) (by decide) (Nat.le_of_ble_eq_true rfl) (Nat.le_of_ble_eq_true rfl) (show decode cX2_init 17 = .ok (.newarray .int, 2) by decide +kernel) (fun q2 H hC => ?_)
  have hC : c_at s D A [(h0, .inr (2, [.ref q1, .null, .null, .null, .null, .int 0])), (q1, .inl (kc 0, 160, .inl (fun _ => 0))), (q2, .inl (kc 0, 160, .inl (fun _ => 0)))] _ _ := hC
  refine c_put (j := 1) E hC 0 rfl rfl rfl rfl (Nat.le_of_ble_eq_true rfl) (show decode cX2_init 19 = .ok (.putfield 15, 3) by decide +kernel) (fun H locs hC => ?_)
  have hC : c_at s D A [(h0, .inr (2, [.ref q1, .ref q2, .null, .null, .null, .int 0])), (q1, .inl (kc 0, 160, .inl (fun _ => 0))), (q2, .inl (kc 0, 160, .inl (fun _ => 0)))] _ _ := hC
  refine lv_aload_n hx hb (show decode cX2_init 22 = .ok (.aload_n 0, 1) by decide +kernel) rfl (lv_at hl 0 rfl) ?_
  refine lv_sipush (v := 160) hx hb (show decode cX2_init 23 = .ok (.sipush 160, 3) by decide +kernel) (by decide) ?_
  refine c_newi (N := 160) E hC (by decide) (by decide) (by decide) (Nat.le_of_ble_eq_true rfl) (Nat.le_of_ble_eq_true rfl) (show decode cX2_init 26 = .ok (.newarray .int, 2) by decide +kernel) (fun q3 H hC => ?_)
  have hC : c_at s D A [(h0, .inr (2, [.ref q1, .ref q2, .null, .null, .null, .int 0])), (q1, .inl (kc 0, 160, .inl (fun _ => 0))), (q2, .inl (kc 0, 160, .inl (fun _ => 0))), (q3, .inl (kc 0, 160, .inl (fun _ => 0)))] _ _ := hC
  refine c_put (j := 2) E hC 0 rfl rfl rfl rfl (Nat.le_of_ble_eq_true rfl) (show decode cX2_init 28 = .ok (.putfield 18, 3) by decide +kernel) (fun H locs hC => ?_)
  have hC : c_at s D A [(h0, .inr (2, [.ref q1, .ref q2, .ref q3, .null, .null, .int 0])), (q1, .inl (kc 0, 160, .inl (fun _ => 0))), (q2, .inl (kc 0, 160, .inl (fun _ => 0))), (q3, .inl (kc 0, 160, .inl (fun _ => 0)))] _ _ := hC
  refine lv_aload_n hx hb (show decode cX2_init 31 = .ok (.aload_n 0, 1) by decide +kernel) rfl (lv_at hl 0 rfl) ?_
  refine lv_sipush (v := 160) hx hb (show decode cX2_init 32 = .ok (.sipush 160, 3) by decide +kernel) (by decide) ?_
  refine c_newi (N := 160) E hC (by decide) (by decide) (by decide) (Nat.le_of_ble_eq_true rfl) (Nat.le_of_ble_eq_true rfl) (show decode cX2_init 35 = .ok (.newarray .int, 2) by decide +kernel) (fun q4 H hC => ?_)
  have hC : c_at s D A [(h0, .inr (2, [.ref q1, .ref q2, .ref q3, .null, .null, .int 0])), (q1, .inl (kc 0, 160, .inl (fun _ => 0))), (q2, .inl (kc 0, 160, .inl (fun _ => 0))), (q3, .inl (kc 0, 160, .inl (fun _ => 0))), (q4, .inl (kc 0, 160, .inl (fun _ => 0)))] _ _ := hC
  refine c_put (j := 3) E hC 0 rfl rfl rfl rfl (Nat.le_of_ble_eq_true rfl) (show decode cX2_init 37 = .ok (.putfield 21, 3) by decide +kernel) (fun H locs hC => ?_)
  have hC : c_at s D A [(h0, .inr (2, [.ref q1, .ref q2, .ref q3, .ref q4, .null, .int 0])), (q1, .inl (kc 0, 160, .inl (fun _ => 0))), (q2, .inl (kc 0, 160, .inl (fun _ => 0))), (q3, .inl (kc 0, 160, .inl (fun _ => 0))), (q4, .inl (kc 0, 160, .inl (fun _ => 0)))] _ _ := hC
  refine lv_aload_n hx hb (show decode cX2_init 40 = .ok (.aload_n 0, 1) by decide +kernel) rfl (lv_at hl 0 rfl) ?_
  refine lv_sipush (v := 160) hx hb (show decode cX2_init 41 = .ok (.sipush 160, 3) by decide +kernel) (by decide) ?_
  refine c_newi (N := 160) E hC (by decide) (by decide) (by decide) (Nat.le_of_ble_eq_true rfl) (Nat.le_of_ble_eq_true rfl) (show decode cX2_init 44 = .ok (.newarray .int, 2) by decide +kernel) (fun q5 H hC => ?_)
  have hC : c_at s D A [(h0, .inr (2, [.ref q1, .ref q2, .ref q3, .ref q4, .null, .int 0])), (q1, .inl (kc 0, 160, .inl (fun _ => 0))), (q2, .inl (kc 0, 160, .inl (fun _ => 0))), (q3, .inl (kc 0, 160, .inl (fun _ => 0))), (q4, .inl (kc 0, 160, .inl (fun _ => 0))), (q5, .inl (kc 0, 160, .inl (fun _ => 0)))] _ _ := hC
  refine c_put (j := 4) E hC 0 rfl rfl rfl rfl (Nat.le_of_ble_eq_true rfl) (show decode cX2_init 46 = .ok (.putfield 24, 3) by decide +kernel) (fun H locs hC => ?_)
  have hC : c_at s D A [(h0, .inr (2, [.ref q1, .ref q2, .ref q3, .ref q4, .ref q5, .int 0])), (q1, .inl (kc 0, 160, .inl (fun _ => 0))), (q2, .inl (kc 0, 160, .inl (fun _ => 0))), (q3, .inl (kc 0, 160, .inl (fun _ => 0))), (q4, .inl (kc 0, 160, .inl (fun _ => 0))), (q5, .inl (kc 0, 160, .inl (fun _ => 0)))] _ _ := hC
  refine W.widen (k := 5) (n := 800) (Nat.le_of_ble_eq_true rfl) (Nat.le_of_ble_eq_true rfl) ?_
  exact c_ret (wo := cw2) (h0 := h0) E (fun k => match k with | 0 => q1 | 1 => q2 | 2 => q3 | 3 => q4 | _ => q5) hC (show decode cX2_init 49 = .ok (.return_, 1) by decide +kernel)
set_option maxRecDepth 100000 in
theorem ob4 : Cond.methodLink (w_C 4) 3 objectInit ∈ w_tbl := by decide +kernel
set_option maxRecDepth 100000 in
theorem ei4 : Cond.code yX4_init cX4_init 1 none ∈ w_tbl ∧ Cond.instanceMethod yX4_init ∈ w_tbl ∧ Cond.initialized yX4_init.cls ∈ w_tbl := ⟨by decide +kernel, by decide +kernel, by decide +kernel⟩
theorem df4 : ∀ j, j < w_nf 4 → defaultValue (w_ty 4 j) = vp_V [.null, .int 0] j := by
  intro j hj
  have hj : j < 2 := hj
  match j, hj with
  | 0, _ => rfl
  | 1, _ => rfl
def cw4 (kc : Nat → ClassId) (h0 : Nat) (f : Nat → Nat) : va_W := [(h0, .inr (4, [.ref (f 0), .int 3])), (f 0, .inl (kc 0, 6, .inl mSh))]
set_option maxHeartbeats 8000000 in
set_option maxRecDepth 100000 in
theorem cmX4 (l : Launch) : c_Met l 4 yX4_init cX4_init 1 1 1 6 [] [.null, .int 0] cw4 := by
  refine c_meth (by decide +kernel) rfl rfl (fun _ => Nat.le_of_ble_eq_true rfl) ?_
  intro p e s m below meth c D kc h0 A ls E hC hl
  obtain ⟨hx, hb, hml, hown, hts, hK, hNL, hA, hin, hr, hlk⟩ := id E
  have hl : lv_has ls 1 [(0, .ref h0)] := hl
  refine lv_aload_n hx hb (show decode cX4_init 0 = .ok (.aload_n 0, 1) by decide +kernel) rfl (lv_at hl 0 rfl) ?_
  refine c_obj E ob4 hl.1 (show decode cX4_init 1 = .ok (.invokespecial 3, 3) by decide +kernel) (Nat.le_of_ble_eq_true rfl) (Nat.le_of_ble_eq_true rfl) ?_
  refine lv_aload_n hx hb (show decode cX4_init 4 = .ok (.aload_n 0, 1) by decide +kernel) rfl (lv_at hl 0 rfl) ?_
  refine lv_bipush (v := 6) hx hb (show decode cX4_init 5 = .ok (.bipush 6, 2) by decide +kernel) (by decide) ?_
  refine c_newi (N := 6) E hC (by decide) (by decide) (by decide) (Nat.le_of_ble_eq_true rfl) (Nat.le_of_ble_eq_true rfl) (show decode cX4_init 7 = .ok (.newarray .int, 2) by decide +kernel) (fun q1 H hC => ?_)
  have hC : c_at s D A [(h0, .inr (4, [.null, .int 0])), (q1, .inl (kc 0, 6, .inl (fun _ => 0)))] _ _ := hC
  refine lv_dup hx hb (show decode cX4_init 9 = .ok (.dup, 1) by decide +kernel) rfl ?_
  refine lv_iconst (v := 0) hx hb (show decode cX4_init 10 = .ok (.iconst 0, 1) by decide +kernel) (by decide) ?_
  refine lv_bipush (v := 60) hx hb (show decode cX4_init 11 = .ok (.bipush 60, 2) by decide +kernel) (by decide) ?_
  refine c_iast (i := 0) (j := 0) E hC 1 rfl (vp_in_nI (n := 0) (by decide) (by decide)) (by decide) (show decode cX4_init 13 = .ok (.iastore, 1) by decide +kernel) (fun H locs hC => ?_)
  have hC : c_at s D A [(h0, .inr (4, [.null, .int 0])), (q1, .inl (kc 0, 6, .inl (upd (fun _ => 0) 0 60)))] _ _ := hC
  refine lv_dup hx hb (show decode cX4_init 14 = .ok (.dup, 1) by decide +kernel) rfl ?_
  refine lv_iconst (v := 1) hx hb (show decode cX4_init 15 = .ok (.iconst 1, 1) by decide +kernel) (by decide) ?_
  refine lv_bipush (v := 30) hx hb (show decode cX4_init 16 = .ok (.bipush 30, 2) by decide +kernel) (by decide) ?_
  refine c_iast (i := 1) (j := 1) E hC 1 rfl (vp_in_nI (n := 1) (by decide) (by decide)) (by decide) (show decode cX4_init 18 = .ok (.iastore, 1) by decide +kernel) (fun H locs hC => ?_)
  have hC : c_at s D A [(h0, .inr (4, [.null, .int 0])), (q1, .inl (kc 0, 6, .inl (upd (upd (fun _ => 0) 0 60) 1 30)))] _ _ := hC
  refine lv_dup hx hb (show decode cX4_init 19 = .ok (.dup, 1) by decide +kernel) rfl ?_
  refine lv_iconst (v := 2) hx hb (show decode cX4_init 20 = .ok (.iconst 2, 1) by decide +kernel) (by decide) ?_
  refine lv_bipush (v := 10) hx hb (show decode cX4_init 21 = .ok (.bipush 10, 2) by decide +kernel) (by decide) ?_
  refine c_iast (i := 2) (j := 2) E hC 1 rfl (vp_in_nI (n := 2) (by decide) (by decide)) (by decide) (show decode cX4_init 23 = .ok (.iastore, 1) by decide +kernel) (fun H locs hC => ?_)
  have hC : c_at s D A [(h0, .inr (4, [.null, .int 0])), (q1, .inl (kc 0, 6, .inl (upd (upd (upd (fun _ => 0) 0 60) 1 30) 2 10)))] _ _ := hC
  refine lv_dup hx hb (show decode cX4_init 24 = .ok (.dup, 1) by decide +kernel) rfl ?_
  refine lv_iconst (v := 3) hx hb (show decode cX4_init 25 = .ok (.iconst 3, 1) by decide +kernel) (by decide) ?_
  refine lv_iconst (v := 0) hx hb (show decode cX4_init 26 = .ok (.iconst 0, 1) by decide +kernel) (by decide) ?_
  refine c_iast (i := 3) (j := 3) E hC 1 rfl (vp_in_nI (n := 3) (by decide) (by decide)) (by decide) (show decode cX4_init 27 = .ok (.iastore, 1) by decide +kernel) (fun H locs hC => ?_)
  have hC : c_at s D A [(h0, .inr (4, [.null, .int 0])), (q1, .inl (kc 0, 6, .inl (upd (upd (upd (upd (fun _ => 0) 0 60) 1 30) 2 10) 3 0)))] _ _ := hC
  refine lv_dup hx hb (show decode cX4_init 28 = .ok (.dup, 1) by decide +kernel) rfl ?_
  refine lv_iconst (v := 4) hx hb (show decode cX4_init 29 = .ok (.iconst 4, 1) by decide +kernel) (by decide) ?_
  refine lv_iconst (v := 0) hx hb (show decode cX4_init 30 = .ok (.iconst 0, 1) by decide +kernel) (by decide) ?_
  refine c_iast (i := 4) (j := 4) E hC 1 rfl (vp_in_nI (n := 4) (by decide) (by decide)) (by decide) (show decode cX4_init 31 = .ok (.iastore, 1) by decide +kernel) (fun H locs hC => ?_)
  have hC : c_at s D A [(h0, .inr (4, [.null, .int 0])), (q1, .inl (kc 0, 6, .inl (upd (upd (upd (upd (upd (fun _ => 0) 0 60) 1 30) 2 10) 3 0) 4 0)))] _ _ := hC
  refine lv_dup hx hb (show decode cX4_init 32 = .ok (.dup, 1) by decide +kernel) rfl ?_
  refine lv_iconst (v := 5) hx hb (show decode cX4_init 33 = .ok (.iconst 5, 1) by decide +kernel) (by decide) ?_
  refine lv_iconst (v := 0) hx hb (show decode cX4_init 34 = .ok (.iconst 0, 1) by decide +kernel) (by decide) ?_
  refine c_iast (i := 5) (j := 5) E hC 1 rfl (vp_in_nI (n := 5) (by decide) (by decide)) (by decide) (show decode cX4_init 35 = .ok (.iastore, 1) by decide +kernel) (fun H locs hC => ?_)
  have hC : c_at s D A [(h0, .inr (4, [.null, .int 0])), (q1, .inl (kc 0, 6, .inl (upd (upd (upd (upd (upd (upd (fun _ => 0) 0 60) 1 30) 2 10) 3 0) 4 0) 5 0)))] _ _ := hC
  refine c_put (j := 0) E hC 0 rfl rfl rfl rfl (Nat.le_of_ble_eq_true rfl) (show decode cX4_init 36 = .ok (.putfield 9, 3) by decide +kernel) (fun H locs hC => ?_)
  have hC : c_at s D A [(h0, .inr (4, [.ref q1, .int 0])), (q1, .inl (kc 0, 6, .inl (upd (upd (upd (upd (upd (upd (fun _ => 0) 0 60) 1 30) 2 10) 3 0) 4 0) 5 0)))] _ _ := hC
  refine lv_aload_n hx hb (show decode cX4_init 39 = .ok (.aload_n 0, 1) by decide +kernel) rfl (lv_at hl 0 rfl) ?_
  refine lv_iconst (v := 3) hx hb (show decode cX4_init 40 = .ok (.iconst 3, 1) by decide +kernel) (by decide) ?_
  refine c_put (j := 1) E hC 0 rfl rfl rfl rfl (Nat.le_of_ble_eq_true rfl) (show decode cX4_init 41 = .ok (.putfield 15, 3) by decide +kernel) (fun H locs hC => ?_)
  have hC : c_at s D A [(h0, .inr (4, [.ref q1, .int 3])), (q1, .inl (kc 0, 6, .inl (upd (upd (upd (upd (upd (upd (fun _ => 0) 0 60) 1 30) 2 10) 3 0) 4 0) 5 0)))] _ _ := hC
  refine W.widen (k := 1) (n := 6) (Nat.le_of_ble_eq_true rfl) (Nat.le_of_ble_eq_true rfl) ?_
  exact c_ret (wo := cw4) (h0 := h0) E (fun _ => q1) hC (show decode cX4_init 44 = .ok (.return_, 1) by decide +kernel)
set_option maxRecDepth 100000 in
theorem ob5 : Cond.methodLink (w_C 5) 3 objectInit ∈ w_tbl := by decide +kernel
set_option maxRecDepth 100000 in
theorem ei5 : Cond.code yX5_init cX5_init 1 none ∈ w_tbl ∧ Cond.instanceMethod yX5_init ∈ w_tbl ∧ Cond.initialized yX5_init.cls ∈ w_tbl := ⟨by decide +kernel, by decide +kernel, by decide +kernel⟩
theorem df5 : ∀ j, j < w_nf 5 → defaultValue (w_ty 5 j) = vp_V [.null, .int 0, .int 0, .int 0] j := by
  intro j hj
  have hj : j < 4 := hj
  match j, hj with
  | 0, _ => rfl
  | 1, _ => rfl
  | 2, _ => rfl
  | 3, _ => rfl
def cw5 (kc : Nat → ClassId) (h0 : Nat) (f : Nat → Nat) : va_W := [(h0, .inr (5, [.ref (f 0), .int 0, .int 0, .int 0])), (f 0, .inl (kc 0, 60, .inl (fun _ => 0)))]
set_option maxHeartbeats 8000000 in
set_option maxRecDepth 100000 in
theorem cmX5 (l : Launch) : c_Met l 5 yX5_init cX5_init 1 1 1 60 [] [.null, .int 0, .int 0, .int 0] cw5 := by
  refine c_meth (by decide +kernel) rfl rfl (fun _ => Nat.le_of_ble_eq_true rfl) ?_
  intro p e s m below meth c D kc h0 A ls E hC hl
  obtain ⟨hx, hb, hml, hown, hts, hK, hNL, hA, hin, hr, hlk⟩ := id E
  have hl : lv_has ls 1 [(0, .ref h0)] := hl
  refine lv_aload_n hx hb (show decode cX5_init 0 = .ok (.aload_n 0, 1) by decide +kernel) rfl (lv_at hl 0 rfl) ?_
  refine c_obj E ob5 hl.1 (show decode cX5_init 1 = .ok (.invokespecial 3, 3) by decide +kernel) (Nat.le_of_ble_eq_true rfl) (Nat.le_of_ble_eq_true rfl) ?_
  refine lv_aload_n hx hb (show decode cX5_init 4 = .ok (.aload_n 0, 1) by decide +kernel) rfl (lv_at hl 0 rfl) ?_
  refine lv_bipush (v := 60) hx hb (show decode cX5_init 5 = .ok (.bipush 60, 2) by decide +kernel) (by decide) ?_
  refine c_newi (N := 60) E hC (by decide) (by decide) (by decide) (Nat.le_of_ble_eq_true rfl) (Nat.le_of_ble_eq_true rfl) (show decode cX5_init 7 = .ok (.newarray .int, 2) by decide +kernel) (fun q1 H hC => ?_)
  have hC : c_at s D A [(h0, .inr (5, [.null, .int 0, .int 0, .int 0])), (q1, .inl (kc 0, 60, .inl (fun _ => 0)))] _ _ := hC
  refine c_put (j := 0) E hC 0 rfl rfl rfl rfl (Nat.le_of_ble_eq_true rfl) (show decode cX5_init 9 = .ok (.putfield 9, 3) by decide +kernel) (fun H locs hC => ?_)
  have hC : c_at s D A [(h0, .inr (5, [.ref q1, .int 0, .int 0, .int 0])), (q1, .inl (kc 0, 60, .inl (fun _ => 0)))] _ _ := hC
  refine W.widen (k := 1) (n := 60) (Nat.le_of_ble_eq_true rfl) (Nat.le_of_ble_eq_true rfl) ?_
  exact c_ret (wo := cw5) (h0 := h0) E (fun _ => q1) hC (show decode cX5_init 12 = .ok (.return_, 1) by decide +kernel)
set_option maxRecDepth 100000 in
theorem ob6 : Cond.methodLink (w_C 6) 3 objectInit ∈ w_tbl := by decide +kernel
set_option maxRecDepth 100000 in
theorem ei6 : Cond.code yX6_init cX6_init 1 none ∈ w_tbl ∧ Cond.instanceMethod yX6_init ∈ w_tbl ∧ Cond.initialized yX6_init.cls ∈ w_tbl := ⟨by decide +kernel, by decide +kernel, by decide +kernel⟩
theorem df6 : ∀ j, j < w_nf 6 → defaultValue (w_ty 6 j) = vp_V [.null, .int 0, .null] j := by
  intro j hj
  have hj : j < 3 := hj
  match j, hj with
  | 0, _ => rfl
  | 1, _ => rfl
  | 2, _ => rfl
def cw6 (kc : Nat → ClassId) (h0 : Nat) (f : Nat → Nat) : va_W := [(h0, .inr (6, [.ref (f 0), .int 0, .ref (f 1)])), (f 0, .inl (kc 0, 6, .inl (fun _ => 0))), (f 1, .inl (kc 0, 40, .inl (fun _ => 0)))]
set_option maxHeartbeats 8000000 in
set_option maxRecDepth 100000 in
theorem cmX6 (l : Launch) : c_Met l 6 yX6_init cX6_init 1 1 2 46 [] [.null, .int 0, .null] cw6 := by
  refine c_meth (by decide +kernel) rfl rfl (fun _ => Nat.le_of_ble_eq_true rfl) ?_
  intro p e s m below meth c D kc h0 A ls E hC hl
  obtain ⟨hx, hb, hml, hown, hts, hK, hNL, hA, hin, hr, hlk⟩ := id E
  have hl : lv_has ls 1 [(0, .ref h0)] := hl
  refine lv_aload_n hx hb (show decode cX6_init 0 = .ok (.aload_n 0, 1) by decide +kernel) rfl (lv_at hl 0 rfl) ?_
  refine c_obj E ob6 hl.1 (show decode cX6_init 1 = .ok (.invokespecial 3, 3) by decide +kernel) (Nat.le_of_ble_eq_true rfl) (Nat.le_of_ble_eq_true rfl) ?_
  refine lv_aload_n hx hb (show decode cX6_init 4 = .ok (.aload_n 0, 1) by decide +kernel) rfl (lv_at hl 0 rfl) ?_
  refine lv_bipush (v := 6) hx hb (show decode cX6_init 5 = .ok (.bipush 6, 2) by decide +kernel) (by decide) ?_
  refine c_newi (N := 6) E hC (by decide) (by decide) (by decide) (Nat.le_of_ble_eq_true rfl) (Nat.le_of_ble_eq_true rfl) (show decode cX6_init 7 = .ok (.newarray .int, 2) by decide +kernel) (fun q1 H hC => ?_)
  have hC : c_at s D A [(h0, .inr (6, [.null, .int 0, .null])), (q1, .inl (kc 0, 6, .inl (fun _ => 0)))] _ _ := hC
  refine c_put (j := 0) E hC 0 rfl rfl rfl rfl (Nat.le_of_ble_eq_true rfl) (show decode cX6_init 9 = .ok (.putfield 9, 3) by decide +kernel) (fun H locs hC => ?_)
  have hC : c_at s D A [(h0, .inr (6, [.ref q1, .int 0, .null])), (q1, .inl (kc 0, 6, .inl (fun _ => 0)))] _ _ := hC
  refine lv_aload_n hx hb (show decode cX6_init 12 = .ok (.aload_n 0, 1) by decide +kernel) rfl (lv_at hl 0 rfl) ?_
  refine lv_bipush (v := 40) hx hb (show decode cX6_init 13 = .ok (.bipush 40, 2) by decide +kernel) (by decide) ?_
  refine c_newi (N := 40) E hC (by decide) (by decide) (by decide) (Nat.le_of_ble_eq_true rfl) (Nat.le_of_ble_eq_true rfl) (show decode cX6_init 15 = .ok (.newarray .int, 2) by decide +kernel) (fun q2 H hC => ?_)
  have hC : c_at s D A [(h0, .inr (6, [.ref q1, .int 0, .null])), (q1, .inl (kc 0, 6, .inl (fun _ => 0))), (q2, .inl (kc 0, 40, .inl (fun _ => 0)))] _ _ := hC
  refine c_put (j := 2) E hC 0 rfl rfl rfl rfl (Nat.le_of_ble_eq_true rfl) (show decode cX6_init 17 = .ok (.putfield 15, 3) by decide +kernel) (fun H locs hC => ?_)
  have hC : c_at s D A [(h0, .inr (6, [.ref q1, .int 0, .ref q2])), (q1, .inl (kc 0, 6, .inl (fun _ => 0))), (q2, .inl (kc 0, 40, .inl (fun _ => 0)))] _ _ := hC
  refine W.widen (k := 2) (n := 46) (Nat.le_of_ble_eq_true rfl) (Nat.le_of_ble_eq_true rfl) ?_
  exact c_ret (wo := cw6) (h0 := h0) E (fun k => match k with | 0 => q1 | _ => q2) hC (show decode cX6_init 20 = .ok (.return_, 1) by decide +kernel)
