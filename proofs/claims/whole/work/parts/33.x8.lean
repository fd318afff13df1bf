def fX7_order (i : Int32) (μ : wM) : Int32 × wM := (if ((i : Int32) = (-1)) then ((μ 1 7), μ) else (if (w_inB i 0 ((μ 1 7) - 1)) = true then ((μ 9 (i : Int32).toNatClampNeg), μ) else ((-1), μ)))
/-! X7_order -/
def pX7_order (i : Int32) (μ : wM) : Prop := w_IX μ
def qX7_order (i : Int32) (μ : wM) (r : Int32) (μ' : wM) : Prop := r = (fX7_order i μ).1 ∧ μ' = (fX7_order i μ).2
def sX7_order : wS := (false, false, 2, fun as μ => ∃ i, as = [.ref 0, .int i] ∧ pX7_order i μ, fun as μ r μ' => match as with
  | [.ref _, .int i] => qX7_order i μ r μ'
  | _ => False)
def gX7_order : Nat → Option wS := fun k => match k with
  | 55 => some sX7_within
  | _ => none
def uX7_order : Nat → Option (List Nat) := fun _ => none
set_option maxHeartbeats 4000000 in
set_option maxRecDepth 100000 in
theorem vcX7_order_0 (K : wK) (R : Int32 → wM → Prop) (i : Int32) (μ : wM) (h : (
    (((i : Int32) = (-1)) → R (μ 1 7) μ) ∧
    (¬ ((i : Int32) = (-1)) → (
      ((w_inB i 0 ((μ 1 7) - 1)) = false → R (-1) μ) ∧
      ((w_inB i 0 ((μ 1 7) - 1)) = true → (vp_in i 6) ∧ R (μ 9 (i : Int32).toNatClampNeg) μ))))) : w_n 7 gX7_order shX rfX 43 (some .int) R tX7_order uX7_order K 20 0 [some (.ref 0), some (.int i)] [] μ :=
  And.intro (fun z1504 => And.intro (And.intro (of_decide_eq_true rfl) rfl) (And.intro (And.intro (of_decide_eq_true rfl) rfl) (And.intro trivial ((h.1 z1504))))) (fun z1505 => And.intro (And.intro (of_decide_eq_true rfl) rfl) (And.intro (And.intro (of_decide_eq_true rfl) rfl) (And.intro (Exists.intro _ (Exists.intro _ (Exists.intro _ (And.intro rfl (trivial))))) (fun _ _ z1508 => by obtain ⟨z1506, z1507⟩ := z1508; have z1506 := z1506.symm; have z1507 := z1507.symm; subst z1506; subst z1507; exact And.intro (fun z1509 => And.intro trivial (((h.2 z1505).1 (w_B01_0.mp z1509)))) (fun z1510 => And.intro (And.intro (of_decide_eq_true rfl) rfl) (And.intro (And.intro (of_decide_eq_true rfl) rfl) (And.intro (And.intro (of_decide_eq_true rfl) (Exists.intro _ (And.intro rfl (((h.2 z1505).2 (w_B01_n.mp z1510)).1)))) (And.intro trivial (((h.2 z1505).2 (w_B01_n.mp z1510)).2)))))))))
set_option maxHeartbeats 4000000 in
theorem vX7_order (i : Int32) (μ : wM) (h : pX7_order i μ) (K : wK) (hK : w_cl 7 gX7_order shX rfX 43 (some .int) (qX7_order i μ) tX7_order K) : K 0 [some (.ref 0), some (.int i)] [] μ := by
  refine hK uX7_order 20 _ _ _ _ (vcX7_order_0 K _ i μ ?_)
  clear hK
  unfold pX7_order at h
  have h0 := h
  unfold w_IX at h
  refine And.intro (fun z88 => ?_) (fun z88 => ?_)
  · unfold qX7_order fX7_order
    rw [if_pos z88]
    exact ⟨rfl, rfl⟩
  · refine And.intro (fun z89 => ?_) (fun z89 => ?_)
    · unfold qX7_order fX7_order
      rw [if_neg z88, if_neg (by rw [z89]; exact Bool.false_ne_true)]
      exact ⟨rfl, rfl⟩
    · refine And.intro (by exact ord_in h.2.2.2.2.2.2.2.1 (by assumption)) ?_
      unfold qX7_order fX7_order
      rw [if_neg z88, if_pos z89]
      exact ⟨rfl, rfl⟩
set_option maxRecDepth 100000 in
theorem zX7_order (l : Launch) : ∀ (idx : Nat) (S : wS), gX7_order idx = some S → w_Call l 7 idx S 2 shX rfX 43 := by
  intro idx S hS
  unfold gX7_order at hS
  split at hS
  · cases hS
    exact w_callS (mX7_within l) eX7_within.1 (by decide +kernel) eX7_within.2.1 eX7_within.2.2 (by decide +kernel) (by decide) (by decide)
  · cases hS
theorem mX7_order (l : Launch) : w_Met l yX7_order cX7_order 2 (some .int) 2 shX rfX 43 sX7_order.2.2.2.1 sX7_order.2.2.2.2 :=
  w_meth (o := 7) (Γ := gX7_order) (tb := tX7_order) (by decide +kernel) rfl kX7_order rfl (zX7_order l) (fun as μ h => by obtain ⟨i, rfl, h⟩ := h; exact Nat.le_of_ble_eq_true rfl) (fun as μ h K hK => by obtain ⟨i, rfl, h⟩ := h; exact vX7_order i μ h K hK)
set_option maxRecDepth 100000 in
theorem eX7_order : Cond.code yX7_order cX7_order 2 (some .int) ∈ w_tbl ∧ Cond.instanceMethod yX7_order ∈ w_tbl ∧ Cond.selects (w_C 7) yX7_order yX7_order ∈ w_tbl ∧ Cond.initialized yX7_order.cls ∈ w_tbl := ⟨by decide +kernel, by decide +kernel, by decide +kernel, by decide +kernel⟩
theorem rX7_order : ∀ as μ, sX7_order.2.2.2.1 as μ → ∃ q as', as = .ref q :: as' ∧ q < 43 ∧ shX q = .inl 7 := by
  intro as μ h
  obtain ⟨i, rfl, h⟩ := h
  exact ⟨_, _, rfl, by decide, rfl⟩
