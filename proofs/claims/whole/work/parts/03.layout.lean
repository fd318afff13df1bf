def w_C : Nat → String := fun k => match k with
  | 0 => RX0
  | 1 => RX1
  | 2 => RX2
  | 3 => RX3
  | 4 => RX4
  | 5 => RX5
  | 6 => RX6
  | 7 => RX7
  | 8 => RX8
  | 9 => RJ6
  | 10 => RJ13
  | 11 => RJ9
  | 12 => RJ7
  | _ => ""
def w_T : Nat → u_T := fun k => match k with
  | 0 => TX0
  | 1 => TX1
  | 2 => TX2
  | 3 => TX3
  | 4 => TX4
  | 5 => TX5
  | 6 => TX6
  | 7 => TX7
  | _ => TX8
def w_ty : Nat → Nat → FieldType := fun k => match k with
  | 0 => tyX0
  | 1 => tyX1
  | 2 => tyX2
  | 3 => tyX3
  | 4 => tyX4
  | 5 => tyX5
  | 6 => tyX6
  | 7 => tyX7
  | _ => tyX8
def w_nf : Nat → Nat := fun k => match k with
  | 0 => 5
  | 1 => 10
  | 2 => 6
  | 3 => 13
  | 4 => 2
  | 5 => 4
  | 6 => 3
  | 7 => 7
  | 8 => 42
  | _ => 0
def w_fk0 : Nat → Bool := fun _ => true
def w_fk1 : Nat → Bool := fun _ => false
def w_fk2 : Nat → Bool := fun k => match k with
  | 5 => false
  | _ => true
def w_fk3 : Nat → Bool := fun k => match k with
  | 0 => true
  | 5 => true
  | 6 => true
  | 10 => true
  | 11 => true
  | 12 => true
  | _ => false
def w_fk4 : Nat → Bool := fun k => match k with
  | 0 => true
  | _ => false
def w_fk5 : Nat → Bool := fun k => match k with
  | 0 => true
  | _ => false
def w_fk6 : Nat → Bool := fun k => match k with
  | 1 => false
  | _ => true
def w_fk7 : Nat → Bool := fun _ => true
def w_fk8 : Nat → Bool := fun k => match k with
  | 0 => false
  | 11 => false
  | 12 => false
  | 13 => false
  | 18 => false
  | 19 => false
  | 22 => false
  | 35 => false
  | 39 => false
  | 40 => false
  | 41 => false
  | _ => true
def w_fk : Nat → Nat → Bool := fun k => match k with
  | 0 => w_fk0
  | 1 => w_fk1
  | 2 => w_fk2
  | 3 => w_fk3
  | 4 => w_fk4
  | 5 => w_fk5
  | 6 => w_fk6
  | 7 => w_fk7
  | _ => w_fk8
def w_fl0 : List (Nat × Nat × Nat) := [(9, 0, 0), (15, 0, 1), (18, 0, 2), (21, 0, 3), (24, 0, 4), (33, 2, 5), (45, 2, 0), (48, 1, 0), (57, 1, 1), (67, 2, 1), (70, 2, 2), (73, 2, 3), (83, 2, 4), (92, 1, 6)]
def w_fl1 : List (Nat × Nat × Nat) := [(9, 1, 7), (15, 1, 9), (18, 1, 0), (21, 1, 4), (38, 1, 1), (41, 5, 0), (47, 1, 8)]
def w_fl2 : List (Nat × Nat × Nat) := [(9, 2, 0), (15, 2, 1), (18, 2, 2), (21, 2, 3), (24, 2, 4), (27, 2, 5)]
def w_fl3 : List (Nat × Nat × Nat) := [(11, 3, 0), (17, 3, 2), (21, 3, 3), (24, 3, 5), (28, 3, 6), (31, 3, 10), (34, 3, 11), (37, 3, 12), (43, 3, 1), (46, 1, 1), (49, 1, 2), (52, 1, 3), (55, 1, 0), (58, 3, 4), (61, 3, 8), (64, 3, 9), (88, 3, 7), (101, 1, 4)]
def w_fl4 : List (Nat × Nat × Nat) := [(9, 4, 0), (15, 4, 1)]
def w_fl5 : List (Nat × Nat × Nat) := [(9, 5, 0), (15, 5, 1), (19, 5, 2), (23, 5, 3)]
def w_fl6 : List (Nat × Nat × Nat) := [(9, 6, 0), (15, 6, 2), (28, 6, 1)]
def w_fl7 : List (Nat × Nat × Nat) := [(10, 7, 0), (19, 7, 1), (26, 7, 2), (33, 7, 3), (40, 7, 4), (46, 7, 5), (50, 7, 6), (78, 3, 0), (88, 3, 2), (92, 3, 3), (95, 3, 4), (102, 3, 1), (114, 3, 7), (120, 3, 6), (123, 3, 5), (129, 1, 1), (132, 1, 7), (135, 1, 8), (138, 1, 9), (171, 2, 5), (188, 0, 0), (191, 1, 6), (212, 6, 0), (219, 6, 1), (221, 1, 5), (234, 5, 1), (246, 5, 0), (253, 1, 0), (273, 1, 2), (276, 1, 3), (279, 1, 4)]
def w_fl8 : List (Nat × Nat × Nat) := [(13, 8, 1), (17, 8, 2), (20, 8, 3), (23, 8, 4), (26, 8, 5), (29, 8, 6), (33, 8, 7), (36, 8, 8), (39, 8, 9), (42, 8, 10), (45, 8, 11), (49, 8, 12), (52, 8, 14), (55, 8, 15), (58, 8, 16), (61, 8, 17), (64, 8, 20), (67, 8, 21), (70, 8, 23), (73, 8, 24), (76, 8, 25), (79, 8, 26), (82, 8, 27), (85, 8, 28), (88, 8, 29), (91, 8, 30), (94, 8, 31), (97, 8, 32), (100, 8, 33), (103, 8, 34), (106, 8, 35), (109, 8, 36), (112, 8, 37), (115, 8, 38), (118, 8, 0), (128, 8, 22), (135, 8, 13), (155, 8, 18), (159, 8, 19), (204, 8, 39), (207, 8, 40), (214, 8, 41)]
def w_fl : Nat → List (Nat × Nat × Nat) := fun k => match k with
  | 0 => w_fl0
  | 1 => w_fl1
  | 2 => w_fl2
  | 3 => w_fl3
  | 4 => w_fl4
  | 5 => w_fl5
  | 6 => w_fl6
  | 7 => w_fl7
  | 8 => w_fl8
  | _ => []
def w_k32 : Nat → List (Nat × Int32) := fun k => match k with
  | 7 => [(220, 100000)]
  | 8 => [(223, 100000)]
  | 9 => [(265, 1431655765), (266, 858993459), (267, 252645135)]
  | _ => []
def w_k64 : Nat → List (Nat × Int64) := fun k => match k with
  | 1 => [(50, 10000000)]
  | 6 => [(26, 255)]
  | 8 => [(173, 10000000), (202, 255)]
  | 10 => [(314, 6148914691236517205), (316, 3689348814741910323), (318, 1085102592571150095)]
  | _ => []
noncomputable def w_lk {α : Type} (l : List (Nat × α)) (k : Nat) : Option α := List.rec none (fun a _ ih => match Nat.beq a.1 k with
  | true => some a.2
  | false => ih) l
theorem w_lk_mem {α : Type} {l : List (Nat × α)} {k : Nat} {v : α} (h : w_lk l k = some v) : (k, v) ∈ l := by
  induction l with
  | nil => cases h
  | cons a l ih =>
    have h' : (match Nat.beq a.1 k with
      | true => some a.2
      | false => w_lk l k) = some v := h
    cases hb : Nat.beq a.1 k with
    | true =>
      rw [hb] at h'
      have e := Nat.eq_of_beq_eq_true hb
      have e2 := Option.some.inj h'
      rw [← e, ← e2]
      exact List.mem_cons_self
    | false =>
      rw [hb] at h'
      exact List.mem_cons_of_mem _ (ih h')
def w_tbl : List Cond := lw_tbl.filter goodWord
set_option maxRecDepth 100000 in
theorem w_us0 : ∀ w ∈ u_ws RX0 TX0 5, w ∈ w_tbl := by decide +kernel
set_option maxRecDepth 100000 in
theorem w_us1 : ∀ w ∈ u_ws RX1 TX1 10, w ∈ w_tbl := by decide +kernel
set_option maxRecDepth 100000 in
theorem w_us2 : ∀ w ∈ u_ws RX2 TX2 6, w ∈ w_tbl := by decide +kernel
set_option maxRecDepth 100000 in
theorem w_us3 : ∀ w ∈ u_ws RX3 TX3 13, w ∈ w_tbl := by decide +kernel
set_option maxRecDepth 100000 in
theorem w_us4 : ∀ w ∈ u_ws RX4 TX4 2, w ∈ w_tbl := by decide +kernel
set_option maxRecDepth 100000 in
theorem w_us5 : ∀ w ∈ u_ws RX5 TX5 4, w ∈ w_tbl := by decide +kernel
set_option maxRecDepth 100000 in
theorem w_us6 : ∀ w ∈ u_ws RX6 TX6 3, w ∈ w_tbl := by decide +kernel
set_option maxRecDepth 100000 in
theorem w_us7 : ∀ w ∈ u_ws RX7 TX7 7, w ∈ w_tbl := by decide +kernel
set_option maxRecDepth 100000 in
theorem w_us8 : ∀ w ∈ u_ws RX8 TX8 42, w ∈ w_tbl := by decide +kernel
set_option maxRecDepth 100000 in
theorem w_flok0 : ∀ e ∈ w_fl0, e.2.1 < 9 ∧ e.2.2 < w_nf e.2.1 ∧ Cond.fieldLink RX0 e.1 (w_C e.2.1) (w_T e.2.1 e.2.2).2.1 (w_T e.2.1 e.2.2).2.2.1 ∈ w_tbl := by decide +kernel
set_option maxRecDepth 100000 in
theorem w_flok1 : ∀ e ∈ w_fl1, e.2.1 < 9 ∧ e.2.2 < w_nf e.2.1 ∧ Cond.fieldLink RX1 e.1 (w_C e.2.1) (w_T e.2.1 e.2.2).2.1 (w_T e.2.1 e.2.2).2.2.1 ∈ w_tbl := by decide +kernel
set_option maxRecDepth 100000 in
theorem w_flok2 : ∀ e ∈ w_fl2, e.2.1 < 9 ∧ e.2.2 < w_nf e.2.1 ∧ Cond.fieldLink RX2 e.1 (w_C e.2.1) (w_T e.2.1 e.2.2).2.1 (w_T e.2.1 e.2.2).2.2.1 ∈ w_tbl := by decide +kernel
set_option maxRecDepth 100000 in
theorem w_flok3 : ∀ e ∈ w_fl3, e.2.1 < 9 ∧ e.2.2 < w_nf e.2.1 ∧ Cond.fieldLink RX3 e.1 (w_C e.2.1) (w_T e.2.1 e.2.2).2.1 (w_T e.2.1 e.2.2).2.2.1 ∈ w_tbl := by decide +kernel
set_option maxRecDepth 100000 in
theorem w_flok4 : ∀ e ∈ w_fl4, e.2.1 < 9 ∧ e.2.2 < w_nf e.2.1 ∧ Cond.fieldLink RX4 e.1 (w_C e.2.1) (w_T e.2.1 e.2.2).2.1 (w_T e.2.1 e.2.2).2.2.1 ∈ w_tbl := by decide +kernel
set_option maxRecDepth 100000 in
theorem w_flok5 : ∀ e ∈ w_fl5, e.2.1 < 9 ∧ e.2.2 < w_nf e.2.1 ∧ Cond.fieldLink RX5 e.1 (w_C e.2.1) (w_T e.2.1 e.2.2).2.1 (w_T e.2.1 e.2.2).2.2.1 ∈ w_tbl := by decide +kernel
set_option maxRecDepth 100000 in
theorem w_flok6 : ∀ e ∈ w_fl6, e.2.1 < 9 ∧ e.2.2 < w_nf e.2.1 ∧ Cond.fieldLink RX6 e.1 (w_C e.2.1) (w_T e.2.1 e.2.2).2.1 (w_T e.2.1 e.2.2).2.2.1 ∈ w_tbl := by decide +kernel
set_option maxRecDepth 100000 in
theorem w_flok7 : ∀ e ∈ w_fl7, e.2.1 < 9 ∧ e.2.2 < w_nf e.2.1 ∧ Cond.fieldLink RX7 e.1 (w_C e.2.1) (w_T e.2.1 e.2.2).2.1 (w_T e.2.1 e.2.2).2.2.1 ∈ w_tbl := by decide +kernel
set_option maxRecDepth 100000 in
theorem w_flok8 : ∀ e ∈ w_fl8, e.2.1 < 9 ∧ e.2.2 < w_nf e.2.1 ∧ Cond.fieldLink RX8 e.1 (w_C e.2.1) (w_T e.2.1 e.2.2).2.1 (w_T e.2.1 e.2.2).2.2.1 ∈ w_tbl := by decide +kernel
set_option maxRecDepth 100000 in
theorem w_k32ok7 : ∀ e ∈ w_k32 7, Cond.constant (w_C 7) e.1 e.2 ∈ w_tbl := by decide +kernel
set_option maxRecDepth 100000 in
theorem w_k32ok8 : ∀ e ∈ w_k32 8, Cond.constant (w_C 8) e.1 e.2 ∈ w_tbl := by decide +kernel
set_option maxRecDepth 100000 in
theorem w_k32ok9 : ∀ e ∈ w_k32 9, Cond.constant (w_C 9) e.1 e.2 ∈ w_tbl := by decide +kernel
set_option maxRecDepth 100000 in
theorem w_k64ok1 : ∀ e ∈ w_k64 1, Cond.constantLong (w_C 1) e.1 e.2 ∈ w_tbl := by decide +kernel
set_option maxRecDepth 100000 in
theorem w_k64ok6 : ∀ e ∈ w_k64 6, Cond.constantLong (w_C 6) e.1 e.2 ∈ w_tbl := by decide +kernel
set_option maxRecDepth 100000 in
theorem w_k64ok8 : ∀ e ∈ w_k64 8, Cond.constantLong (w_C 8) e.1 e.2 ∈ w_tbl := by decide +kernel
set_option maxRecDepth 100000 in
theorem w_k64ok10 : ∀ e ∈ w_k64 10, Cond.constantLong (w_C 10) e.1 e.2 ∈ w_tbl := by decide +kernel
