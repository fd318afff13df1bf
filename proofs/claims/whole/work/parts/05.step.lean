/-! an instruction table against the bytes -/
def w_isw : Instr → Bool
  | .tableswitch .. => true
  | _ => false
def w_end : Instr → Bool
  | .tableswitch .. => true
  | .goto _ => true
  | .ireturn => true
  | .return_ => true
  | _ => false
def w_len : Instr → Nat
  | .bipush _ => 2
  | .iload _ => 2
  | .istore _ => 2
  | .aload _ => 2
  | .astore _ => 2
  | .ldc _ => 2
  | .sipush _ => 3
  | .goto _ => 3
  | .ifCond .. => 3
  | .if_icmp .. => 3
  | .getfield _ => 3
  | .putfield _ => 3
  | .invokevirtual _ => 3
  | .invokestatic _ => 3
  | .iinc .. => 3
  | .ldc_w _ => 3
  | .ldc2_w _ => 3
  | _ => 1
noncomputable def w_pc (tb : wT) (i : Nat) : Nat := match w_at tb i with
  | some t => t.2.1
  | none => 0
noncomputable def w_tgB (tb : wT) (pc : Nat) (ins : Instr) (tg : List Nat) : Bool := match ins with
  | .goto off => (match tg with
    | [t] => decide ((pc : Int) + off = (w_pc tb t : Int))
    | _ => false)
  | .ifCond _ off => (match tg with
    | [t] => decide ((pc : Int) + off = (w_pc tb t : Int))
    | _ => false)
  | .if_icmp _ off => (match tg with
    | [t] => decide ((pc : Int) + off = (w_pc tb t : Int))
    | _ => false)
  | .tableswitch d lo hi offs => (match tg with
    | t :: ts => decide ((pc : Int) + d = (w_pc tb t : Int)) && decide (hi - lo + 1 = (ts.length : Int)) && decide (offs.toList.map (fun x => (pc : Int) + x) = ts.map (fun t => (w_pc tb t : Int)))
    | _ => false)
  | _ => true
noncomputable def w_okE (cc : ByteArray) (tb : wT) (i : Nat) (t : Instr × Nat × List Nat) : Bool :=
  (match decode cc t.2.1 with
    | .ok r => decide (r.1 = t.1) && (w_isw t.1 || decide (r.2 = w_len t.1))
    | .error _ => false) && (w_end t.1 || decide (w_pc tb (i + 1) = t.2.1 + w_len t.1)) && w_tgB tb t.2.1 t.1 t.2.2
noncomputable def w_okFrom (cc : ByteArray) (tb : wT) : Nat → wT → Bool
  | _, [] => true
  | i, t :: ts => w_okE cc tb i t && w_okFrom cc tb (i + 1) ts
noncomputable def w_ok (cc : ByteArray) (tb : wT) : Bool := w_okFrom cc tb 0 tb
theorem w_at_nil {α : Type} (i : Nat) : w_at ([] : List α) i = none := rfl
theorem w_at_0 {α : Type} (a : α) (l : List α) : w_at (a :: l) 0 = some a := rfl
theorem w_at_s {α : Type} (a : α) (l : List α) (i : Nat) : w_at (a :: l) (i + 1) = w_at l i := rfl
theorem w_okFrom_at {cc : ByteArray} {tb : wT} : ∀ (l : wT) (j i : Nat) (t : Instr × Nat × List Nat), w_okFrom cc tb j l = true → w_at l i = some t → w_okE cc tb (j + i) t = true := by
  intro l
  induction l with
  | nil => intro j i t _ h; cases h
  | cons a l ih =>
    intro j i t h h2
    have h : (w_okE cc tb j a && w_okFrom cc tb (j + 1) l) = true := h
    rw [Bool.and_eq_true] at h
    cases i with
    | zero =>
      cases h2
      exact h.1
    | succ i =>
      have := ih (j + 1) i t h.2 h2
      rw [show j + (i + 1) = j + 1 + i by omega]
      exact this
theorem w_ok_at {cc : ByteArray} {tb : wT} (h : w_ok cc tb = true) {i : Nat} {t : Instr × Nat × List Nat} (ht : w_at tb i = some t) : w_okE cc tb i t = true := by
  have := w_okFrom_at tb 0 i t h ht
  rwa [Nat.zero_add] at this
theorem w_okE_e {cc : ByteArray} {tb : wT} {i : Nat} {t : Instr × Nat × List Nat} (h : w_okE cc tb i t = true) :
    (∃ L, decode cc t.2.1 = .ok (t.1, L) ∧ (w_isw t.1 = false → L = w_len t.1)) ∧ (w_end t.1 = false → w_pc tb (i + 1) = t.2.1 + w_len t.1) ∧ w_tgB tb t.2.1 t.1 t.2.2 = true := by
  unfold w_okE at h
  rw [Bool.and_eq_true, Bool.and_eq_true] at h
  obtain ⟨⟨h1, h2⟩, h3⟩ := h
  refine ⟨?_, ?_, h3⟩
  · split at h1
    · next r hr =>
      rw [Bool.and_eq_true, Bool.or_eq_true] at h1
      refine ⟨r.2, ?_, fun z => ?_⟩
      · rw [hr, ← of_decide_eq_true h1.1]
      · rcases h1.2 with q | q
        · rw [z] at q; cases q
        · exact of_decide_eq_true q
    · cases h1
  · intro z
    rw [z, Bool.false_or] at h2
    exact of_decide_eq_true h2
/-! the machine's side -/
abbrev w_tys (kc : Nat → ClassId) : List (ClassId × FieldType) := [(kc 0, .int), (kc 1, .boolean), (kc 2, .object RX1), (kc 3, .object RX5)]
def w_NL (U : State) : Prop := va_Nw (.methodLinkNest RX1 30 yX7_within RX7) U ∧ va_Nw (.methodLinkNest RX6 22 yX7_within RX7) U
def w_ov (rty : Option FieldType) (r : Int32) : Option Value := match rty with
  | none => none
  | some _ => some (.int r)
def w_rm (d : Nat) : Room := { frames := d, cells := 0, slots := 0, locals := 40 * d }
section WSTEP
variable {p : Program} {l : Launch} {e : Env} {R : Room} {s : State} {m : MethodId} {args : Array Value} {below : List Frame} {meth : Method} {c : Code}
variable {D : va_G} {kc : Nat → ClassId} {sh : wSh} {rf : Nat → Nat → Nat} {n : Nat} {ad : Nat → Nat} {A : Nat → Prop} {H0 : Heap} {cc : ByteArray} {nL o : Nat} {rty : Option FieldType} {Q : State → Prop}
def w_env (p : Program) (s : State) (m : MethodId) (args : Array Value) (meth : Method) (c : Code) (D : va_G) (kc : Nat → ClassId) (n : Nat) (ad : Nat → Nat) (A : Nat → Prop) (H0 : Heap) (cc : ByteArray) (nL o : Nat) (rty : Option FieldType) : Prop :=
  p.tables.exec = Jvm.exec ∧ c.code = cc ∧ c.maxLocals = nL ∧ s.vm.findClass (w_C o) = some m.cls ∧ (∀ w ∈ w_tbl, w.before args s = true) ∧ va_K D vwCl (w_tys kc) s ∧ w_NL s ∧ (∀ q, H0.size ≤ q → A q) ∧ w_ap n ad A ∧ meth.locks = false ∧ meth.sig.returnType = rty
def w_sim (p : Program) (l : Launch) (e : Env) (R : Room) (s : State) (m : MethodId) (args : Array Value) (below : List Frame) (meth : Method) (c : Code) (D : va_G) (kc : Nat → ClassId) (sh : wSh) (rf : Nat → Nat → Nat) (n : Nat) (ad : Nat → Nat) (A : Nat → Prop) (H0 : Heap) (nL : Nat) (Q : State → Prop) (tb : wT) : wK := fun i ls st μ =>
  ∀ (H : Heap) (locs : List Loc) (la : Array Slot), va_P D vwCl (w_w kc sh rf n ad μ) H → va_S A H0 H locs → w_lok ad nL ls la → W p l e R s m args below meth c H locs 0 0 Q (F0 m (w_pc tb i) la (st.map (w_tr ad)))
/-- a call that may be made -/
def w_Call (l : Launch) (o idx : Nat) (S : wS) (d : Nat) (sh : wSh) (rf : Nat → Nat → Nat) (n : Nat) : Prop :=
  ∀ (p : Program) (e : Env) (s : State) (m : MethodId) (args : Array Value) (below : List Frame) (meth : Method) (c : Code) (D : va_G) (kc : Nat → ClassId) (ad : Nat → Nat) (A : Nat → Prop) (H0 : Heap) (cc : ByteArray) (nL : Nat) (rty : Option FieldType) (Q : State → Prop),
    w_env p s m args meth c D kc n ad A H0 cc nL o rty → ∀ (pc : Nat) (la : Array Slot) (as rest : List Value) (μ : wM) (H : Heap) (locs : List Loc), la.size = nL →
    decode cc pc = .ok ((match S.1 with | true => Instr.invokestatic idx | false => Instr.invokevirtual idx), 3) → as.length = S.2.2.1 → rest.length ≤ 4 → S.2.2.2.1 as μ → va_P D vwCl (w_w kc sh rf n ad μ) H → va_S A H0 H locs →
    (∀ (r : Int32) (μ' : wM) (H1 : Heap) (locs1 : List Loc), S.2.2.2.2 as μ r μ' → va_P D vwCl (w_w kc sh rf n ad μ') H1 → va_S A H0 H1 locs1 → W p l e (w_rm d) s m args below meth c H1 locs1 0 0 Q (F0 m (pc + 3) la ((w_pr S.2.1 r rest).map (w_tr ad)))) →
    W p l e (w_rm d) s m args below meth c H locs 0 0 Q (F0 m pc la ((as.reverse ++ rest).map (w_tr ad)))
theorem w_i_e {st : List Value} {f : Int32 → List Value → Prop} (h : w_i st f) : ∃ x r, st = .int x :: r ∧ f x r := by
  unfold w_i at h
  split at h
  · exact ⟨_, _, rfl, h⟩
  · exact h.elim
theorem w_ii_e {st : List Value} {f : Int32 → Int32 → List Value → Prop} (h : w_ii st f) : ∃ x y r, st = .int y :: .int x :: r ∧ f x y r := by
  unfold w_ii at h
  split at h
  · exact ⟨_, _, _, rfl, h⟩
  · exact h.elim
theorem w_l_e {st : List Value} {f : Int64 → List Value → Prop} (h : w_l st f) : ∃ x r, st = .long x :: r ∧ f x r := by
  unfold w_l at h
  split at h
  · exact ⟨_, _, rfl, h⟩
  · exact h.elim
theorem w_ll_e {st : List Value} {f : Int64 → Int64 → List Value → Prop} (h : w_ll st f) : ∃ x y r, st = .long y :: .long x :: r ∧ f x y r := by
  unfold w_ll at h
  split at h
  · exact ⟨_, _, _, rfl, h⟩
  · exact h.elim
theorem w_li_e {st : List Value} {f : Int64 → Int32 → List Value → Prop} (h : w_li st f) : ∃ x y r, st = .int y :: .long x :: r ∧ f x y r := by
  unfold w_li at h
  split at h
  · exact ⟨_, _, _, rfl, h⟩
  · exact h.elim
theorem w_r_e {st : List Value} {f : Nat → List Value → Prop} (h : w_r st f) : ∃ q r, st = .ref q :: r ∧ f q r := by
  unfold w_r at h
  split at h
  · exact ⟨_, _, rfl, h⟩
  · exact h.elim
theorem w_ir_e {st : List Value} {f : Nat → Int32 → List Value → Prop} (h : w_ir st f) : ∃ q i r, st = .int i :: .ref q :: r ∧ f q i r := by
  unfold w_ir at h
  split at h
  · exact ⟨_, _, _, rfl, h⟩
  · exact h.elim
theorem w_iir_e {st : List Value} {f : Nat → Int32 → Int32 → List Value → Prop} (h : w_iir st f) : ∃ q i x r, st = .int x :: .int i :: .ref q :: r ∧ f q i x r := by
  unfold w_iir at h
  split at h
  · exact ⟨_, _, _, _, rfl, h⟩
  · exact h.elim
theorem w_lv_e {ls : wL} {k : Nat} {f : Value → Prop} (h : w_lv ls k f) : ∃ v, ls[k]? = some (some v) ∧ f v := by
  unfold w_lv at h
  split at h
  · next v hv => exact ⟨v, hv, h⟩
  · exact h.elim
theorem w_st1_e {ls : wL} {k : Nat} {v : Value} {f : wL → Prop} (h : w_st1 ls k v f) : k < ls.length ∧ w_nl ls k = true ∧ f (ls.set k (some v)) := by
  unfold w_st1 at h
  split at h
  · next hb =>
    rw [Bool.and_eq_true] at hb
    exact ⟨Nat.lt_of_lt_of_le (Nat.lt_succ_self k) (Nat.le_of_ble_eq_true hb.1), hb.2, h⟩
  · exact h.elim
theorem w_st2_e {ls : wL} {k : Nat} {v : Value} {f : wL → Prop} (h : w_st2 ls k v f) : k + 1 < ls.length ∧ w_nl ls k = true ∧ f ((ls.set k (some v)).set (k + 1) none) := by
  unfold w_st2 at h
  split at h
  · next hb =>
    rw [Bool.and_eq_true] at hb
    exact ⟨Nat.lt_of_lt_of_le (Nat.lt_succ_self (k + 1)) (Nat.le_of_ble_eq_true hb.1), hb.2, h⟩
  · exact h.elim
theorem w_e_obj {μ : wM} {q ci : Nat} (h : sh q = .inl ci) : w_e kc sh rf ad μ q = .inr (ci, (List.range (w_nf ci)).map (w_fv rf ad μ ci q)) := by
  unfold w_e
  rw [h]
theorem w_e_int {μ : wM} {q len : Nat} (h : sh q = .inr (0, len)) : w_e kc sh rf ad μ q = .inl (kc 0, len, .inl (μ q)) := by
  unfold w_e
  rw [h]
theorem w_e_bool {μ : wM} {q len : Nat} (h : sh q = .inr (1, len)) : w_e kc sh rf ad μ q = .inl (kc 1, len, .inl (μ q)) := by
  unfold w_e
  rw [h]
theorem w_e_ref {μ : wM} {q k len : Nat} (h : sh q = .inr (k + 2, len)) : w_e kc sh rf ad μ q = .inl (kc (k + 2), len, .inr (.inr (.inr (.inr (fun j => some (ad (rf q j))))))) := by
  unfold w_e
  rw [h]
theorem w_w_at {μ : wM} {q : Nat} (h : q < n) : (w_w kc sh rf n ad μ)[q]? = some (ad q, w_e kc sh rf ad μ q) := by
  unfold w_w
  rw [w_get h]
theorem w_w_set {μ : wM} {q j : Nat} {x : Int32} {E : va_E} (h : q < n) (hE : w_e kc sh rf ad (w_up μ q j x) q = E) : (w_w kc sh rf n ad μ).set q (ad q, E) = w_w kc sh rf n ad (w_up μ q j x) := by
  unfold w_w
  refine w_set h ?_ ?_
  · rw [hE]
  · intro i hi
    rw [w_e_o (w_up_o hi)]
theorem w_pv_tr (μ : wM) (ci q j : Nat) : w_tr ad (w_pv rf μ ci q j) = w_fv rf ad μ ci q j := by
  unfold w_pv w_fv
  split <;> rfl
theorem w_cls (ci : Nat) (h : ci < 9) : vwCl[ci]? = some (w_C ci, w_T ci, w_nf ci) ∧ (∀ w ∈ u_ws (w_C ci) (w_T ci) (w_nf ci), w ∈ w_tbl) ∧ (∀ k, k < w_nf ci → parseFieldDescriptor (w_T ci k).2.2.1 = some (w_ty ci k)) ∧ (∀ a, a < w_nf ci → ∀ b, b < w_nf ci → a ≠ b → (w_T ci a).2.1 ≠ (w_T ci b).2.1) ∧ (∀ k, k < w_nf ci → (w_T ci k).1 = w_C ci) := by
  match ci, h with
  | 0, _ => exact ⟨rfl, w_us0, tyX0_ok, nmX0, by decide +kernel⟩
  | 1, _ => exact ⟨rfl, w_us1, tyX1_ok, nmX1, by decide +kernel⟩
  | 2, _ => exact ⟨rfl, w_us2, tyX2_ok, nmX2, by decide +kernel⟩
  | 3, _ => exact ⟨rfl, w_us3, tyX3_ok, nmX3, by decide +kernel⟩
  | 4, _ => exact ⟨rfl, w_us4, tyX4_ok, nmX4, by decide +kernel⟩
  | 5, _ => exact ⟨rfl, w_us5, tyX5_ok, nmX5, by decide +kernel⟩
  | 6, _ => exact ⟨rfl, w_us6, tyX6_ok, nmX6, by decide +kernel⟩
  | 7, _ => exact ⟨rfl, w_us7, tyX7_ok, nmX7, by decide +kernel⟩
  | 8, _ => exact ⟨rfl, w_us8, tyX8_ok, nmX8, by decide +kernel⟩
theorem w_flok (o : Nat) {k ci j : Nat} (h : w_lk (w_fl o) k = some (ci, j)) : ci < 9 ∧ j < w_nf ci ∧ Cond.fieldLink (w_C o) k (w_C ci) (w_T ci j).2.1 (w_T ci j).2.2.1 ∈ w_tbl := by
  have hm := w_lk_mem h
  match o, hm with
  | 0, hm => exact w_flok0 _ hm
  | 1, hm => exact w_flok1 _ hm
  | 2, hm => exact w_flok2 _ hm
  | 3, hm => exact w_flok3 _ hm
  | 4, hm => exact w_flok4 _ hm
  | 5, hm => exact w_flok5 _ hm
  | 6, hm => exact w_flok6 _ hm
  | 7, hm => exact w_flok7 _ hm
  | 8, hm => exact w_flok8 _ hm
  | _ + 9, hm => exact absurd hm List.not_mem_nil
theorem w_k32ok (o : Nat) {k : Nat} {v : Int32} (h : w_lk (w_k32 o) k = some v) : Cond.constant (w_C o) k v ∈ w_tbl := by
  have hm := w_lk_mem h
  match o, hm with
  | 7, hm => exact w_k32ok7 _ hm
  | 8, hm => exact w_k32ok8 _ hm
  | 9, hm => exact w_k32ok9 _ hm
  | 0, hm => exact absurd hm List.not_mem_nil
  | 1, hm => exact absurd hm List.not_mem_nil
  | 2, hm => exact absurd hm List.not_mem_nil
  | 3, hm => exact absurd hm List.not_mem_nil
  | 4, hm => exact absurd hm List.not_mem_nil
  | 5, hm => exact absurd hm List.not_mem_nil
  | 6, hm => exact absurd hm List.not_mem_nil
  | _ + 10, hm => exact absurd hm List.not_mem_nil
theorem w_k64ok (o : Nat) {k : Nat} {v : Int64} (h : w_lk (w_k64 o) k = some v) : Cond.constantLong (w_C o) k v ∈ w_tbl := by
  have hm := w_lk_mem h
  match o, hm with
  | 1, hm => exact w_k64ok1 _ hm
  | 6, hm => exact w_k64ok6 _ hm
  | 8, hm => exact w_k64ok8 _ hm
  | 10, hm => exact w_k64ok10 _ hm
  | 0, hm => exact absurd hm List.not_mem_nil
  | 2, hm => exact absurd hm List.not_mem_nil
  | 3, hm => exact absurd hm List.not_mem_nil
  | 4, hm => exact absurd hm List.not_mem_nil
  | 5, hm => exact absurd hm List.not_mem_nil
  | 7, hm => exact absurd hm List.not_mem_nil
  | 9, hm => exact absurd hm List.not_mem_nil
  | _ + 11, hm => exact absurd hm List.not_mem_nil
end WSTEP
