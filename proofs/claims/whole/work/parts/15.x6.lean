theorem has_in {c e : Int32} (h : vp_in c 9) (z : w_hasB c e = true) : vp_in e 8 := by
  obtain ⟨C, hC, rfl, -⟩ := vp_in_le h (by decide)
  obtain ⟨z1, z2⟩ := w_hasB_t.mp z
  obtain ⟨E, hE, rfl⟩ := nI_of (i_nlt.mpr z1)
  exact vp_in_nI (by have := (nI_ltI hE (by omega)).mp z2; omega) (by omega)
theorem in_in {x : Int32} {k : Nat} (hk : k < 1000) (z : w_inB x 0 (nI k) = true) : vp_in x (k + 1) := by
  obtain ⟨z1, z2⟩ := w_inB_t.mp z
  obtain ⟨E, hE, rfl⟩ := nI_of (i_nlt.mpr z1)
  exact vp_in_nI (by have := (nI_leI hE (by omega)).mp z2; omega) (by omega)
theorem in9 {x : Int32} (z : w_inB x 0 9 = true) : vp_in x 10 := in_in (k := 9) (by decide) z
theorem in3 {x : Int32} (z : w_inB x 0 3 = true) : vp_in x 4 := in_in (k := 3) (by decide) z
theorem in2 {x : Int32} (z : w_inB x 0 2 = true) : vp_in x 3 := in_in (k := 2) (by decide) z
theorem nfull_in {c : Int32} (h : vp_in c 9) (z : decide (8 ≤ c) = false) : vp_in c 8 := by
  obtain ⟨C, hC, rfl, -⟩ := vp_in_le h (by decide)
  have z := of_decide_eq_false z
  exact vp_in_nI (by
    rcases Nat.lt_or_ge C 8 with q | q
    · exact q
    · exact absurd (nI_le (a := 8) q (by omega)) z) (by omega)
theorem nfull2_in {c : Int32} (h : vp_in c 161) (z : decide (160 < c + 1) = false) : vp_in c 160 := by
  obtain ⟨C, hC, rfl, -⟩ := vp_in_le h (by decide)
  have z := of_decide_eq_false z
  rw [nI_1] at z
  exact vp_in_nI (by
    rcases Nat.lt_or_ge C 160 with q | q
    · exact q
    · exact absurd (nI_lt (a := 160) (by omega) (by omega)) z) (by omega)
theorem evp {e : Int32} (h : vp_in e 8) : Int32.toNatClampNeg e + 27 < 43 ∧ shX (Int32.toNatClampNeg e + 27) = .inl 1 ∧ True := ⟨(ev_ok h).1, (ev_ok h).2, trivial⟩
theorem tk9 {k men x a b : Int32} (z : w_tk k men x a b = true) : vp_in x 10 := by
  unfold w_tk w_hm at z
  rw [Bool.and_eq_true, Bool.and_eq_true] at z
  exact in9 z.1.1
/-- what holds of the class's memory between calls -/
def w_IL (μ : wM) : Prop := ∀ i, i < (μ 2 5).toNatClampNeg → vp_in (μ 15 i) 10 ∧ ∃ e, e < 8 ∧ μ 14 i = nI e ∧ (μ (e + 27) 1 = 2 → vp_in (μ 16 i) 3)
def w_IX (μ : wM) : Prop := vp_in (μ 1 1) 9 ∧ vp_in (μ 2 5) 161 ∧ w_Z μ ∧ (∀ e, e < 8 → μ (e + 27) 0 = nI e) ∧ w_IL μ ∧ vp_in (μ 4 1) 41 ∧ vp_in (μ 5 1) 7 ∧ vp_in (μ 1 7) 7 ∧ vp_in (μ 1 4) 9
def fX7_event (k : Int32) (p : Int32) (s : Int32) (μ : wM) : Int32 × wM := (if (w_inB k 0 2) = true then (if (w_inB p 1 15) = true then (if (w_inB s 1 12) = true then (if (decide (8 ≤ μ 1 1)) = true then ((-3), μ) else ((μ ((μ 1 1).toNatClampNeg + 27) 0), (w_up (w_up (w_up (w_up μ ((μ 1 1).toNatClampNeg + 27) 1 k) ((μ 1 1).toNatClampNeg + 27) 2 p) ((μ 1 1).toNatClampNeg + 27) 3 s) 1 1 (μ 1 1 + 1)))) else ((-1), μ)) else ((-1), μ)) else ((-1), μ))
/-! X7_event -/
def pX7_event (k : Int32) (p : Int32) (s : Int32) (μ : wM) : Prop := w_IX μ
def qX7_event (k : Int32) (p : Int32) (s : Int32) (μ : wM) (r : Int32) (μ' : wM) : Prop := r = (fX7_event k p s μ).1 ∧ μ' = (fX7_event k p s μ).2
def sX7_event : wS := (false, false, 4, fun as μ => ∃ k, ∃ p, ∃ s, as = [.ref 0, .int k, .int p, .int s] ∧ pX7_event k p s μ, fun as μ r μ' => match as with
  | [.ref _, .int k, .int p, .int s] => qX7_event k p s μ r μ'
  | _ => False)
def gX7_event : Nat → Option wS := fun k => match k with
  | 55 => some sX7_within
  | 59 => some sX3_isFull
  | 63 => some sX3_add
  | _ => none
def uX7_event : Nat → Option (List Nat) := fun _ => none
set_option maxHeartbeats 4000000 in
set_option maxRecDepth 100000 in
theorem vcX7_event_0 (K : wK) (R : Int32 → wM → Prop) (k : Int32) (p : Int32) (s : Int32) (μ : wM) (h : (
    ((w_inB k 0 2) = false → R (-1) μ) ∧
    ((w_inB k 0 2) = true → (
      ((w_inB p 1 15) = false → R (-1) μ) ∧
      ((w_inB p 1 15) = true → (
        ((w_inB s 1 12) = false → R (-1) μ) ∧
        ((w_inB s 1 12) = true → (
          ((decide (8 ≤ μ 1 1)) = false → pX3_add k p s μ ∧ R (μ ((μ 1 1).toNatClampNeg + 27) 0) (w_up (w_up (w_up (w_up μ ((μ 1 1).toNatClampNeg + 27) 1 k) ((μ 1 1).toNatClampNeg + 27) 2 p) ((μ 1 1).toNatClampNeg + 27) 3 s) 1 1 (μ 1 1 + 1))) ∧
          ((decide (8 ≤ μ 1 1)) = true → R (-3) μ))))))))) : w_n 7 gX7_event shX rfX 43 (some .int) R tX7_event uX7_event K 27 0 [some (.ref 0), some (.int k), some (.int p), some (.int s)] [] μ :=
  And.intro (Exists.intro _ (Exists.intro _ (Exists.intro _ (And.intro rfl (trivial))))) (fun _ _ z668 => by obtain ⟨z666, z667⟩ := z668; have z666 := z666.symm; have z667 := z667.symm; subst z666; subst z667; exact And.intro (fun z669 => And.intro trivial ((h.1 (w_B01_0.mp z669)))) (fun z670 => And.intro (Exists.intro _ (Exists.intro _ (Exists.intro _ (And.intro rfl (trivial))))) (fun _ _ z673 => by obtain ⟨z671, z672⟩ := z673; have z671 := z671.symm; have z672 := z672.symm; subst z671; subst z672; exact And.intro (fun z674 => And.intro trivial (((h.2 (w_B01_n.mp z670)).1 (w_B01_0.mp z674)))) (fun z675 => And.intro (Exists.intro _ (Exists.intro _ (Exists.intro _ (And.intro rfl (trivial))))) (fun _ _ z678 => by obtain ⟨z676, z677⟩ := z678; have z676 := z676.symm; have z677 := z677.symm; subst z676; subst z677; exact And.intro (fun z679 => And.intro trivial ((((h.2 (w_B01_n.mp z670)).2 (w_B01_n.mp z675)).1 (w_B01_0.mp z679)))) (fun z680 => And.intro (And.intro (of_decide_eq_true rfl) rfl) (And.intro (And.intro rfl (trivial)) (fun _ _ z683 => by obtain ⟨z681, z682⟩ := z683; have z681 := z681.symm; have z682 := z682.symm; subst z681; subst z682; exact And.intro (fun z684 => And.intro (And.intro (of_decide_eq_true rfl) rfl) (And.intro (Exists.intro _ (Exists.intro _ (Exists.intro _ (And.intro rfl (((((h.2 (w_B01_n.mp z670)).2 (w_B01_n.mp z675)).2 (w_B01_n.mp z680)).1 (w_B01_0.mp z684)).1))))) (fun _ _ z688 => by obtain ⟨z686, z687⟩ := z688; have z686 := z686.symm; have z687 := z687.symm; subst z686; subst z687; exact And.intro trivial (((((h.2 (w_B01_n.mp z670)).2 (w_B01_n.mp z675)).2 (w_B01_n.mp z680)).1 (w_B01_0.mp z684)).2)))) (fun z685 => And.intro trivial (((((h.2 (w_B01_n.mp z670)).2 (w_B01_n.mp z675)).2 (w_B01_n.mp z680)).2 (w_B01_n.mp z685))))))))))))
set_option maxHeartbeats 4000000 in
theorem vX7_event (k : Int32) (p : Int32) (s : Int32) (μ : wM) (h : pX7_event k p s μ) (K : wK) (hK : w_cl 7 gX7_event shX rfX 43 (some .int) (qX7_event k p s μ) tX7_event K) : K 0 [some (.ref 0), some (.int k), some (.int p), some (.int s)] [] μ := by
  refine hK uX7_event 27 _ _ _ _ (vcX7_event_0 K _ k p s μ ?_)
  clear hK
  unfold pX7_event at h
  unfold w_IX at h
  refine And.intro (fun z1 => ?_) (fun z1 => ?_)
  · unfold qX7_event fX7_event
    rw [if_neg (by rw [z1]; exact Bool.false_ne_true)]
    exact ⟨rfl, rfl⟩
  · refine And.intro (fun z2 => ?_) (fun z2 => ?_)
    · unfold qX7_event fX7_event
      rw [if_pos z1, if_neg (by rw [z2]; exact Bool.false_ne_true)]
      exact ⟨rfl, rfl⟩
    · refine And.intro (fun z3 => ?_) (fun z3 => ?_)
      · unfold qX7_event fX7_event
        rw [if_pos z1, if_pos z2, if_neg (by rw [z3]; exact Bool.false_ne_true)]
        exact ⟨rfl, rfl⟩
      · refine And.intro (fun z4 => ?_) (fun z4 => ?_)
        · refine And.intro (by first | exact tk9 (by assumption) | exact has_in h.1 (by assumption) | exact in9 (by assumption) | exact in3 (by assumption) | exact in2 (by assumption) | exact nfull_in h.1 (by assumption) | exact nfull2_in h.2.1 (by assumption) | exact evp (has_in h.1 (by assumption)) | exact h.2.1 | (simp_all; done)) ?_
          unfold qX7_event fX7_event
          rw [if_pos z1, if_pos z2, if_pos z3, if_neg (by rw [z4]; exact Bool.false_ne_true)]
          exact ⟨rfl, rfl⟩
        · unfold qX7_event fX7_event
          rw [if_pos z1, if_pos z2, if_pos z3, if_pos z4]
          exact ⟨rfl, rfl⟩
set_option maxRecDepth 100000 in
theorem zX7_event (l : Launch) : ∀ (idx : Nat) (S : wS), gX7_event idx = some S → w_Call l 7 idx S 2 shX rfX 43 := by
  intro idx S hS
  unfold gX7_event at hS
  split at hS
  · cases hS
    exact w_callS (mX7_within l) eX7_within.1 (by decide +kernel) eX7_within.2.1 eX7_within.2.2 (by decide +kernel) (by decide) (by decide)
  · cases hS
    exact w_callV (ci := 3) (mX3_isFull l) (by decide) rX3_isFull eX3_isFull.1 (by decide +kernel) eX3_isFull.2.1 eX3_isFull.2.2.1 eX3_isFull.2.2.2 (by decide +kernel) (by decide) (by decide)
  · cases hS
    exact w_callV (ci := 3) (mX3_add l) (by decide) rX3_add eX3_add.1 (by decide +kernel) eX3_add.2.1 eX3_add.2.2.1 eX3_add.2.2.2 (by decide +kernel) (by decide) (by decide)
  · cases hS
theorem mX7_event (l : Launch) : w_Met l yX7_event cX7_event 4 (some .int) 2 shX rfX 43 sX7_event.2.2.2.1 sX7_event.2.2.2.2 :=
  w_meth (o := 7) (Γ := gX7_event) (tb := tX7_event) (by decide +kernel) rfl kX7_event rfl (zX7_event l) (fun as μ h => by obtain ⟨k, p, s, rfl, h⟩ := h; exact Nat.le_of_ble_eq_true rfl) (fun as μ h K hK => by obtain ⟨k, p, s, rfl, h⟩ := h; exact vX7_event k p s μ h K hK)
set_option maxRecDepth 100000 in
theorem eX7_event : Cond.code yX7_event cX7_event 4 (some .int) ∈ w_tbl ∧ Cond.instanceMethod yX7_event ∈ w_tbl ∧ Cond.selects (w_C 7) yX7_event yX7_event ∈ w_tbl ∧ Cond.initialized yX7_event.cls ∈ w_tbl := ⟨by decide +kernel, by decide +kernel, by decide +kernel, by decide +kernel⟩
theorem rX7_event : ∀ as μ, sX7_event.2.2.2.1 as μ → ∃ q as', as = .ref q :: as' ∧ q < 43 ∧ shX q = .inl 7 := by
  intro as μ h
  obtain ⟨k, p, s, rfl, h⟩ := h
  exact ⟨_, _, rfl, by decide, rfl⟩

def fX7_enter (e : Int32) (x : Int32) (i : Int32) (μ : wM) : Int32 × wM := (if (w_hasB (μ 1 1) e) = true then (if (w_inB x 0 9) = true then (if ((i : Int32) = 0) then (if (w_tells (μ 14) (μ 15) e x (μ 2 5).toNatClampNeg) = true then ((-2), μ) else ((w_bc (w_men (μ (Int32.toNatClampNeg e + 27) 4) x i)), (w_up μ (Int32.toNatClampNeg e + 27) 4 (w_men (μ (Int32.toNatClampNeg e + 27) 4) x i)))) else ((w_bc (w_men (μ (Int32.toNatClampNeg e + 27) 4) x i)), (w_up μ (Int32.toNatClampNeg e + 27) 4 (w_men (μ (Int32.toNatClampNeg e + 27) 4) x i)))) else ((-1), μ)) else ((-1), μ))
/-! X7_enter -/
def pX7_enter (e : Int32) (x : Int32) (i : Int32) (μ : wM) : Prop := w_IX μ ∧ w_bit i
def qX7_enter (e : Int32) (x : Int32) (i : Int32) (μ : wM) (r : Int32) (μ' : wM) : Prop := r = (fX7_enter e x i μ).1 ∧ μ' = (fX7_enter e x i μ).2
def sX7_enter : wS := (false, false, 4, fun as μ => ∃ e, ∃ x, ∃ i, as = [.ref 0, .int e, .int x, .int i] ∧ pX7_enter e x i μ, fun as μ r μ' => match as with
  | [.ref _, .int e, .int x, .int i] => qX7_enter e x i μ r μ'
  | _ => False)
def gX7_enter : Nat → Option wS := fun k => match k with
  | 67 => some sX3_has
  | 71 => some sX7_isMan
  | 74 => some sX2_tellsOf
  | 82 => some sX1_put
  | _ => none
def uX7_enter : Nat → Option (List Nat) := fun _ => none
set_option maxHeartbeats 4000000 in
set_option maxRecDepth 100000 in
theorem vcX7_enter_0 (K : wK) (R : Int32 → wM → Prop) (e : Int32) (x : Int32) (i : Int32) (μ : wM) (h : (
    ((w_hasB (μ 1 1) e) = false → R (-1) μ) ∧
    ((w_hasB (μ 1 1) e) = true → (
      ((w_inB x 0 9) = false → R (-1) μ) ∧
      ((w_inB x 0 9) = true → (
        (((i : Int32) = 0) → pX2_tellsOf e x μ ∧ (
          ((w_tells (μ 14) (μ 15) e x (μ 2 5).toNatClampNeg) = false → (vp_in e 8) ∧ pX1_put (Int32.toNatClampNeg e + 27) x i μ ∧ R (w_bc (w_men (μ (Int32.toNatClampNeg e + 27) 4) x i)) (w_up μ (Int32.toNatClampNeg e + 27) 4 (w_men (μ (Int32.toNatClampNeg e + 27) 4) x i))) ∧
          ((w_tells (μ 14) (μ 15) e x (μ 2 5).toNatClampNeg) = true → R (-2) μ))) ∧
        (¬ ((i : Int32) = 0) → (vp_in e 8) ∧ pX1_put (Int32.toNatClampNeg e + 27) x i μ ∧ R (w_bc (w_men (μ (Int32.toNatClampNeg e + 27) 4) x i)) (w_up μ (Int32.toNatClampNeg e + 27) 4 (w_men (μ (Int32.toNatClampNeg e + 27) 4) x i))))))))) : w_n 7 gX7_enter shX rfX 43 (some .int) R tX7_enter uX7_enter K 26 0 [some (.ref 0), some (.int e), some (.int x), some (.int i)] [] μ :=
  And.intro (And.intro (of_decide_eq_true rfl) rfl) (And.intro (Exists.intro _ (And.intro rfl (trivial))) (fun _ _ z714 => by obtain ⟨z712, z713⟩ := z714; have z712 := z712.symm; have z713 := z713.symm; subst z712; subst z713; exact And.intro (fun z715 => And.intro trivial ((h.1 (w_B01_0.mp z715)))) (fun z716 => And.intro (Exists.intro _ (And.intro rfl (trivial))) (fun _ _ z719 => by obtain ⟨z717, z718⟩ := z719; have z717 := z717.symm; have z718 := z718.symm; subst z717; subst z718; exact And.intro (fun z720 => And.intro trivial (((h.2 (w_B01_n.mp z716)).1 (w_B01_0.mp z720)))) (fun z721 => And.intro (fun z722 => And.intro (And.intro (of_decide_eq_true rfl) rfl) (And.intro (Exists.intro _ (Exists.intro _ (And.intro rfl ((((h.2 (w_B01_n.mp z716)).2 (w_B01_n.mp z721)).1 z722).1)))) (fun _ _ z726 => by obtain ⟨z724, z725⟩ := z726; have z724 := z724.symm; have z725 := z725.symm; subst z724; subst z725; exact And.intro (fun z727 => And.intro (And.intro (of_decide_eq_true rfl) rfl) (And.intro (And.intro (of_decide_eq_true rfl) rfl) (And.intro (Or.inl (And.intro (of_decide_eq_true rfl) (Exists.intro _ (And.intro rfl (((((h.2 (w_B01_n.mp z716)).2 (w_B01_n.mp z721)).1 z722).2.1 (w_B01_0.mp z727)).1))))) (And.intro (Exists.intro _ (Exists.intro _ (Exists.intro _ (And.intro rfl (((((h.2 (w_B01_n.mp z716)).2 (w_B01_n.mp z721)).1 z722).2.1 (w_B01_0.mp z727)).2.1))))) (fun _ _ z731 => by obtain ⟨z729, z730⟩ := z731; have z729 := z729.symm; have z730 := z730.symm; subst z729; subst z730; exact And.intro trivial (((((h.2 (w_B01_n.mp z716)).2 (w_B01_n.mp z721)).1 z722).2.1 (w_B01_0.mp z727)).2.2)))))) (fun z728 => And.intro trivial (((((h.2 (w_B01_n.mp z716)).2 (w_B01_n.mp z721)).1 z722).2.2 (w_B01_n.mp z728))))))) (fun z723 => And.intro (And.intro (of_decide_eq_true rfl) rfl) (And.intro (And.intro (of_decide_eq_true rfl) rfl) (And.intro (Or.inl (And.intro (of_decide_eq_true rfl) (Exists.intro _ (And.intro rfl ((((h.2 (w_B01_n.mp z716)).2 (w_B01_n.mp z721)).2 z723).1))))) (And.intro (Exists.intro _ (Exists.intro _ (Exists.intro _ (And.intro rfl ((((h.2 (w_B01_n.mp z716)).2 (w_B01_n.mp z721)).2 z723).2.1))))) (fun _ _ z734 => by obtain ⟨z732, z733⟩ := z734; have z732 := z732.symm; have z733 := z733.symm; subst z732; subst z733; exact And.intro trivial ((((h.2 (w_B01_n.mp z716)).2 (w_B01_n.mp z721)).2 z723).2.2)))))))))))
set_option maxHeartbeats 4000000 in
theorem vX7_enter (e : Int32) (x : Int32) (i : Int32) (μ : wM) (h : pX7_enter e x i μ) (K : wK) (hK : w_cl 7 gX7_enter shX rfX 43 (some .int) (qX7_enter e x i μ) tX7_enter K) : K 0 [some (.ref 0), some (.int e), some (.int x), some (.int i)] [] μ := by
  refine hK uX7_enter 26 _ _ _ _ (vcX7_enter_0 K _ e x i μ ?_)
  clear hK
  unfold pX7_enter at h
  unfold w_IX at h
  refine And.intro (fun z5 => ?_) (fun z5 => ?_)
  · unfold qX7_enter fX7_enter
    rw [if_neg (by rw [z5]; exact Bool.false_ne_true)]
    exact ⟨rfl, rfl⟩
  · refine And.intro (fun z6 => ?_) (fun z6 => ?_)
    · unfold qX7_enter fX7_enter
      rw [if_pos z5, if_neg (by rw [z6]; exact Bool.false_ne_true)]
      exact ⟨rfl, rfl⟩
    · refine And.intro (fun z7 => ?_) (fun z7 => ?_)
      · refine And.intro (by first | exact tk9 (by assumption) | exact has_in h.1.1 (by assumption) | exact in9 (by assumption) | exact in3 (by assumption) | exact in2 (by assumption) | exact nfull_in h.1.1 (by assumption) | exact nfull2_in h.1.2.1 (by assumption) | exact evp (has_in h.1.1 (by assumption)) | exact h.1.2.1 | (simp_all; done)) ?_
        refine And.intro (fun z8 => ?_) (fun z8 => ?_)
        · refine And.intro (by first | exact tk9 (by assumption) | exact has_in h.1.1 (by assumption) | exact in9 (by assumption) | exact in3 (by assumption) | exact in2 (by assumption) | exact nfull_in h.1.1 (by assumption) | exact nfull2_in h.1.2.1 (by assumption) | exact evp (has_in h.1.1 (by assumption)) | exact h.1.2.1 | (simp_all; done)) ?_
          refine And.intro (by first | exact tk9 (by assumption) | exact has_in h.1.1 (by assumption) | exact in9 (by assumption) | exact in3 (by assumption) | exact in2 (by assumption) | exact nfull_in h.1.1 (by assumption) | exact nfull2_in h.1.2.1 (by assumption) | exact evp (has_in h.1.1 (by assumption)) | exact h.1.2.1 | (simp_all; done)) ?_
          unfold qX7_enter fX7_enter
          rw [if_pos z5, if_pos z6, if_pos z7, if_neg (by rw [z8]; exact Bool.false_ne_true)]
          exact ⟨rfl, rfl⟩
        · unfold qX7_enter fX7_enter
          rw [if_pos z5, if_pos z6, if_pos z7, if_pos z8]
          exact ⟨rfl, rfl⟩
      · refine And.intro (by first | exact tk9 (by assumption) | exact has_in h.1.1 (by assumption) | exact in9 (by assumption) | exact in3 (by assumption) | exact in2 (by assumption) | exact nfull_in h.1.1 (by assumption) | exact nfull2_in h.1.2.1 (by assumption) | exact evp (has_in h.1.1 (by assumption)) | exact h.1.2.1 | (simp_all; done)) ?_
        refine And.intro (by first | exact tk9 (by assumption) | exact has_in h.1.1 (by assumption) | exact in9 (by assumption) | exact in3 (by assumption) | exact in2 (by assumption) | exact nfull_in h.1.1 (by assumption) | exact nfull2_in h.1.2.1 (by assumption) | exact evp (has_in h.1.1 (by assumption)) | exact h.1.2.1 | (simp_all; done)) ?_
        unfold qX7_enter fX7_enter
        rw [if_pos z5, if_pos z6, if_neg z7]
        exact ⟨rfl, rfl⟩
set_option maxRecDepth 100000 in
theorem zX7_enter (l : Launch) : ∀ (idx : Nat) (S : wS), gX7_enter idx = some S → w_Call l 7 idx S 3 shX rfX 43 := by
  intro idx S hS
  unfold gX7_enter at hS
  split at hS
  · cases hS
    exact w_callV (ci := 3) (mX3_has l) (by decide) rX3_has eX3_has.1 (by decide +kernel) eX3_has.2.1 eX3_has.2.2.1 eX3_has.2.2.2 (by decide +kernel) (by decide) (by decide)
  · cases hS
    exact w_callS (mX7_isMan l) eX7_isMan.1 (by decide +kernel) eX7_isMan.2.1 eX7_isMan.2.2 (by decide +kernel) (by decide) (by decide)
  · cases hS
    exact w_callV (ci := 2) (mX2_tellsOf l) (by decide) rX2_tellsOf eX2_tellsOf.1 (by decide +kernel) eX2_tellsOf.2.1 eX2_tellsOf.2.2.1 eX2_tellsOf.2.2.2 (by decide +kernel) (by decide) (by decide)
  · cases hS
    exact w_callV (ci := 1) (mX1_put l) (by decide) rX1_put eX1_put.1 (by decide +kernel) eX1_put.2.1 eX1_put.2.2.1 eX1_put.2.2.2 (by decide +kernel) (by decide) (by decide)
  · cases hS
theorem mX7_enter (l : Launch) : w_Met l yX7_enter cX7_enter 4 (some .int) 3 shX rfX 43 sX7_enter.2.2.2.1 sX7_enter.2.2.2.2 :=
  w_meth (o := 7) (Γ := gX7_enter) (tb := tX7_enter) (by decide +kernel) rfl kX7_enter rfl (zX7_enter l) (fun as μ h => by obtain ⟨e, x, i, rfl, h⟩ := h; exact Nat.le_of_ble_eq_true rfl) (fun as μ h K hK => by obtain ⟨e, x, i, rfl, h⟩ := h; exact vX7_enter e x i μ h K hK)
set_option maxRecDepth 100000 in
theorem eX7_enter : Cond.code yX7_enter cX7_enter 4 (some .int) ∈ w_tbl ∧ Cond.instanceMethod yX7_enter ∈ w_tbl ∧ Cond.selects (w_C 7) yX7_enter yX7_enter ∈ w_tbl ∧ Cond.initialized yX7_enter.cls ∈ w_tbl := ⟨by decide +kernel, by decide +kernel, by decide +kernel, by decide +kernel⟩
theorem rX7_enter : ∀ as μ, sX7_enter.2.2.2.1 as μ → ∃ q as', as = .ref q :: as' ∧ q < 43 ∧ shX q = .inl 7 := by
  intro as μ h
  obtain ⟨e, x, i, rfl, h⟩ := h
  exact ⟨_, _, rfl, by decide, rfl⟩

def fX7_day (s : Int32) (t : Int32) (μ : wM) : Int32 × wM := (if (w_inB s 1 60) = true then (if (w_inB t 0 6) = true then (1, (w_up (w_up μ 1 2 s) 1 3 t)) else ((-1), μ)) else ((-1), μ))
/-! X7_day -/
def pX7_day (s : Int32) (t : Int32) (μ : wM) : Prop := w_IX μ
def qX7_day (s : Int32) (t : Int32) (μ : wM) (r : Int32) (μ' : wM) : Prop := r = (fX7_day s t μ).1 ∧ μ' = (fX7_day s t μ).2
def sX7_day : wS := (false, false, 3, fun as μ => ∃ s, ∃ t, as = [.ref 0, .int s, .int t] ∧ pX7_day s t μ, fun as μ r μ' => match as with
  | [.ref _, .int s, .int t] => qX7_day s t μ r μ'
  | _ => False)
def gX7_day : Nat → Option wS := fun k => match k with
  | 55 => some sX7_within
  | _ => none
def uX7_day : Nat → Option (List Nat) := fun _ => none
set_option maxHeartbeats 4000000 in
set_option maxRecDepth 100000 in
theorem vcX7_day_0 (K : wK) (R : Int32 → wM → Prop) (s : Int32) (t : Int32) (μ : wM) (h : (
    ((w_inB s 1 60) = false → R (-1) μ) ∧
    ((w_inB s 1 60) = true → (
      ((w_inB t 0 6) = false → R (-1) μ) ∧
      ((w_inB t 0 6) = true → R 1 (w_up (w_up μ 1 2 s) 1 3 t)))))) : w_n 7 gX7_day shX rfX 43 (some .int) R tX7_day uX7_day K 21 0 [some (.ref 0), some (.int s), some (.int t)] [] μ :=
  And.intro (Exists.intro _ (Exists.intro _ (Exists.intro _ (And.intro rfl (trivial))))) (fun _ _ z747 => by obtain ⟨z745, z746⟩ := z747; have z745 := z745.symm; have z746 := z746.symm; subst z745; subst z746; exact And.intro (fun z748 => And.intro trivial ((h.1 (w_B01_0.mp z748)))) (fun z749 => And.intro (Exists.intro _ (Exists.intro _ (Exists.intro _ (And.intro rfl (trivial))))) (fun _ _ z752 => by obtain ⟨z750, z751⟩ := z752; have z750 := z750.symm; have z751 := z751.symm; subst z750; subst z751; exact And.intro (fun z753 => And.intro trivial (((h.2 (w_B01_n.mp z749)).1 (w_B01_0.mp z753)))) (fun z754 => And.intro (And.intro (of_decide_eq_true rfl) rfl) (And.intro (And.intro (of_decide_eq_true rfl) (And.intro rfl (trivial))) (And.intro (And.intro (of_decide_eq_true rfl) rfl) (And.intro (And.intro (of_decide_eq_true rfl) (And.intro rfl (trivial))) (And.intro trivial (((h.2 (w_B01_n.mp z749)).2 (w_B01_n.mp z754)))))))))))
set_option maxHeartbeats 4000000 in
theorem vX7_day (s : Int32) (t : Int32) (μ : wM) (h : pX7_day s t μ) (K : wK) (hK : w_cl 7 gX7_day shX rfX 43 (some .int) (qX7_day s t μ) tX7_day K) : K 0 [some (.ref 0), some (.int s), some (.int t)] [] μ := by
  refine hK uX7_day 21 _ _ _ _ (vcX7_day_0 K _ s t μ ?_)
  clear hK
  unfold pX7_day at h
  unfold w_IX at h
  refine And.intro (fun z9 => ?_) (fun z9 => ?_)
  · unfold qX7_day fX7_day
    rw [if_neg (by rw [z9]; exact Bool.false_ne_true)]
    exact ⟨rfl, rfl⟩
  · refine And.intro (fun z10 => ?_) (fun z10 => ?_)
    · unfold qX7_day fX7_day
      rw [if_pos z9, if_neg (by rw [z10]; exact Bool.false_ne_true)]
      exact ⟨rfl, rfl⟩
    · unfold qX7_day fX7_day
      rw [if_pos z9, if_pos z10]
      exact ⟨rfl, rfl⟩
set_option maxRecDepth 100000 in
theorem zX7_day (l : Launch) : ∀ (idx : Nat) (S : wS), gX7_day idx = some S → w_Call l 7 idx S 2 shX rfX 43 := by
  intro idx S hS
  unfold gX7_day at hS
  split at hS
  · cases hS
    exact w_callS (mX7_within l) eX7_within.1 (by decide +kernel) eX7_within.2.1 eX7_within.2.2 (by decide +kernel) (by decide) (by decide)
  · cases hS
theorem mX7_day (l : Launch) : w_Met l yX7_day cX7_day 3 (some .int) 2 shX rfX 43 sX7_day.2.2.2.1 sX7_day.2.2.2.2 :=
  w_meth (o := 7) (Γ := gX7_day) (tb := tX7_day) (by decide +kernel) rfl kX7_day rfl (zX7_day l) (fun as μ h => by obtain ⟨s, t, rfl, h⟩ := h; exact Nat.le_of_ble_eq_true rfl) (fun as μ h K hK => by obtain ⟨s, t, rfl, h⟩ := h; exact vX7_day s t μ h K hK)
set_option maxRecDepth 100000 in
theorem eX7_day : Cond.code yX7_day cX7_day 3 (some .int) ∈ w_tbl ∧ Cond.instanceMethod yX7_day ∈ w_tbl ∧ Cond.selects (w_C 7) yX7_day yX7_day ∈ w_tbl ∧ Cond.initialized yX7_day.cls ∈ w_tbl := ⟨by decide +kernel, by decide +kernel, by decide +kernel, by decide +kernel⟩
theorem rX7_day : ∀ as μ, sX7_day.2.2.2.1 as μ → ∃ q as', as = .ref q :: as' ∧ q < 43 ∧ shX q = .inl 7 := by
  intro as μ h
  obtain ⟨s, t, rfl, h⟩ := h
  exact ⟨_, _, rfl, by decide, rfl⟩

def fX7_call (e : Int32) (o : Int32) (μ : wM) : Int32 × wM := (if (w_hasB (μ 1 1) e) = true then (if (w_hasB (μ 1 1) o) = true then (if ((e : Int32) = o) then ((-1), μ) else (if (((μ 1 4) : Int32) < 8) then ((μ 1 4 + 1), (w_up (w_up μ 11 (o : Int32).toNatClampNeg (μ 11 (o : Int32).toNatClampNeg ||| ((1 : Int32) <<< (e &&& 31)))) 1 4 (μ 1 4 + 1))) else ((-3), μ))) else ((-1), μ)) else ((-1), μ))
/-! X7_call -/
def pX7_call (e : Int32) (o : Int32) (μ : wM) : Prop := w_IX μ
def qX7_call (e : Int32) (o : Int32) (μ : wM) (r : Int32) (μ' : wM) : Prop := r = (fX7_call e o μ).1 ∧ μ' = (fX7_call e o μ).2
def sX7_call : wS := (false, false, 3, fun as μ => ∃ e, ∃ o, as = [.ref 0, .int e, .int o] ∧ pX7_call e o μ, fun as μ r μ' => match as with
  | [.ref _, .int e, .int o] => qX7_call e o μ r μ'
  | _ => False)
def gX7_call : Nat → Option wS := fun k => match k with
  | 67 => some sX3_has
  | 98 => some sX3_pair
  | _ => none
def uX7_call : Nat → Option (List Nat) := fun _ => none
set_option maxHeartbeats 4000000 in
set_option maxRecDepth 100000 in
theorem vcX7_call_0 (K : wK) (R : Int32 → wM → Prop) (e : Int32) (o : Int32) (μ : wM) (h : (
    ((w_hasB (μ 1 1) e) = false → R (-1) μ) ∧
    ((w_hasB (μ 1 1) e) = true → (
      ((w_hasB (μ 1 1) o) = false → R (-1) μ) ∧
      ((w_hasB (μ 1 1) o) = true → (
        (((e : Int32) = o) → R (-1) μ) ∧
        (¬ ((e : Int32) = o) → (
          ((((μ 1 4) : Int32) < 8) → pX3_pair e o μ ∧ R (μ 1 4 + 1) (w_up (w_up μ 11 (o : Int32).toNatClampNeg (μ 11 (o : Int32).toNatClampNeg ||| ((1 : Int32) <<< (e &&& 31)))) 1 4 (μ 1 4 + 1))) ∧
          (¬ (((μ 1 4) : Int32) < 8) → R (-3) μ))))))))) : w_n 7 gX7_call shX rfX 43 (some .int) R tX7_call uX7_call K 25 0 [some (.ref 0), some (.int e), some (.int o)] [] μ :=
  And.intro (And.intro (of_decide_eq_true rfl) rfl) (And.intro (Exists.intro _ (And.intro rfl (trivial))) (fun _ _ z774 => by obtain ⟨z772, z773⟩ := z774; have z772 := z772.symm; have z773 := z773.symm; subst z772; subst z773; exact And.intro (fun z775 => And.intro trivial ((h.1 (w_B01_0.mp z775)))) (fun z776 => And.intro (And.intro (of_decide_eq_true rfl) rfl) (And.intro (Exists.intro _ (And.intro rfl (trivial))) (fun _ _ z779 => by obtain ⟨z777, z778⟩ := z779; have z777 := z777.symm; have z778 := z778.symm; subst z777; subst z778; exact And.intro (fun z780 => And.intro trivial (((h.2 (w_B01_n.mp z776)).1 (w_B01_0.mp z780)))) (fun z781 => And.intro (fun z782 => And.intro trivial ((((h.2 (w_B01_n.mp z776)).2 (w_B01_n.mp z781)).1 z782))) (fun z783 => And.intro (And.intro (of_decide_eq_true rfl) rfl) (And.intro (And.intro (of_decide_eq_true rfl) rfl) (And.intro (fun z784 => And.intro (And.intro (of_decide_eq_true rfl) rfl) (And.intro (Exists.intro _ (Exists.intro _ (And.intro rfl (((((h.2 (w_B01_n.mp z776)).2 (w_B01_n.mp z781)).2 z783).1 z784).1)))) (fun _ _ z788 => by obtain ⟨z786, z787⟩ := z788; have z786 := z786.symm; have z787 := z787.symm; subst z786; subst z787; exact And.intro trivial (((((h.2 (w_B01_n.mp z776)).2 (w_B01_n.mp z781)).2 z783).1 z784).2)))) (fun z785 => And.intro trivial (((((h.2 (w_B01_n.mp z776)).2 (w_B01_n.mp z781)).2 z783).2 z785))))))))))))
set_option maxHeartbeats 4000000 in
theorem vX7_call (e : Int32) (o : Int32) (μ : wM) (h : pX7_call e o μ) (K : wK) (hK : w_cl 7 gX7_call shX rfX 43 (some .int) (qX7_call e o μ) tX7_call K) : K 0 [some (.ref 0), some (.int e), some (.int o)] [] μ := by
  refine hK uX7_call 25 _ _ _ _ (vcX7_call_0 K _ e o μ ?_)
  clear hK
  unfold pX7_call at h
  unfold w_IX at h
  refine And.intro (fun z11 => ?_) (fun z11 => ?_)
  · unfold qX7_call fX7_call
    rw [if_neg (by rw [z11]; exact Bool.false_ne_true)]
    exact ⟨rfl, rfl⟩
  · refine And.intro (fun z12 => ?_) (fun z12 => ?_)
    · unfold qX7_call fX7_call
      rw [if_pos z11, if_neg (by rw [z12]; exact Bool.false_ne_true)]
      exact ⟨rfl, rfl⟩
    · refine And.intro (fun z13 => ?_) (fun z13 => ?_)
      · unfold qX7_call fX7_call
        rw [if_pos z11, if_pos z12, if_pos z13]
        exact ⟨rfl, rfl⟩
      · refine And.intro (fun z14 => ?_) (fun z14 => ?_)
        · refine And.intro (by first | exact tk9 (by assumption) | exact has_in h.1 (by assumption) | exact in9 (by assumption) | exact in3 (by assumption) | exact in2 (by assumption) | exact nfull_in h.1 (by assumption) | exact nfull2_in h.2.1 (by assumption) | exact evp (has_in h.1 (by assumption)) | exact h.2.1 | (simp_all; done)) ?_
          unfold qX7_call fX7_call
          rw [if_pos z11, if_pos z12, if_neg z13, if_pos z14]
          exact ⟨rfl, rfl⟩
        · unfold qX7_call fX7_call
          rw [if_pos z11, if_pos z12, if_neg z13, if_neg z14]
          exact ⟨rfl, rfl⟩
set_option maxRecDepth 100000 in
theorem zX7_call (l : Launch) : ∀ (idx : Nat) (S : wS), gX7_call idx = some S → w_Call l 7 idx S 2 shX rfX 43 := by
  intro idx S hS
  unfold gX7_call at hS
  split at hS
  · cases hS
    exact w_callV (ci := 3) (mX3_has l) (by decide) rX3_has eX3_has.1 (by decide +kernel) eX3_has.2.1 eX3_has.2.2.1 eX3_has.2.2.2 (by decide +kernel) (by decide) (by decide)
  · cases hS
    exact w_callV (ci := 3) (mX3_pair l) (by decide) rX3_pair eX3_pair.1 (by decide +kernel) eX3_pair.2.1 eX3_pair.2.2.1 eX3_pair.2.2.2 (by decide +kernel) (by decide) (by decide)
  · cases hS
theorem mX7_call (l : Launch) : w_Met l yX7_call cX7_call 3 (some .int) 2 shX rfX 43 sX7_call.2.2.2.1 sX7_call.2.2.2.2 :=
  w_meth (o := 7) (Γ := gX7_call) (tb := tX7_call) (by decide +kernel) rfl kX7_call rfl (zX7_call l) (fun as μ h => by obtain ⟨e, o, rfl, h⟩ := h; exact Nat.le_of_ble_eq_true rfl) (fun as μ h K hK => by obtain ⟨e, o, rfl, h⟩ := h; exact vX7_call e o μ h K hK)
set_option maxRecDepth 100000 in
theorem eX7_call : Cond.code yX7_call cX7_call 3 (some .int) ∈ w_tbl ∧ Cond.instanceMethod yX7_call ∈ w_tbl ∧ Cond.selects (w_C 7) yX7_call yX7_call ∈ w_tbl ∧ Cond.initialized yX7_call.cls ∈ w_tbl := ⟨by decide +kernel, by decide +kernel, by decide +kernel, by decide +kernel⟩
theorem rX7_call : ∀ as μ, sX7_call.2.2.2.1 as μ → ∃ q as', as = .ref q :: as' ∧ q < 43 ∧ shX q = .inl 7 := by
  intro as μ h
  obtain ⟨e, o, rfl, h⟩ := h
  exact ⟨_, _, rfl, by decide, rfl⟩

def fX7_begins (e : Int32) (μ : wM) : Int32 × wM := (if (w_hasB (μ 1 1) e) = true then (if (((μ 1 7) : Int32) = 0) then ((-1), μ) else (if (w_bt (μ 1 8) e) = true then ((μ 10 (e : Int32).toNatClampNeg), μ) else ((-2), μ))) else ((-1), μ))
/-! X7_begins -/
def pX7_begins (e : Int32) (μ : wM) : Prop := w_IX μ
def qX7_begins (e : Int32) (μ : wM) (r : Int32) (μ' : wM) : Prop := r = (fX7_begins e μ).1 ∧ μ' = (fX7_begins e μ).2
def sX7_begins : wS := (false, false, 2, fun as μ => ∃ e, as = [.ref 0, .int e] ∧ pX7_begins e μ, fun as μ r μ' => match as with
  | [.ref _, .int e] => qX7_begins e μ r μ'
  | _ => False)
def gX7_begins : Nat → Option wS := fun k => match k with
  | 67 => some sX3_has
  | 117 => some sX3_isLaid
  | _ => none
def uX7_begins : Nat → Option (List Nat) := fun _ => none
set_option maxHeartbeats 4000000 in
set_option maxRecDepth 100000 in
theorem vcX7_begins_0 (K : wK) (R : Int32 → wM → Prop) (e : Int32) (μ : wM) (h : (
    ((w_hasB (μ 1 1) e) = false → R (-1) μ) ∧
    ((w_hasB (μ 1 1) e) = true → (
      ((((μ 1 7) : Int32) = 0) → R (-1) μ) ∧
      (¬ (((μ 1 7) : Int32) = 0) → (
        ((w_bt (μ 1 8) e) = false → R (-2) μ) ∧
        ((w_bt (μ 1 8) e) = true → (vp_in e 8) ∧ R (μ 10 (e : Int32).toNatClampNeg) μ))))))) : w_n 7 gX7_begins shX rfX 43 (some .int) R tX7_begins uX7_begins K 22 0 [some (.ref 0), some (.int e)] [] μ :=
  And.intro (And.intro (of_decide_eq_true rfl) rfl) (And.intro (Exists.intro _ (And.intro rfl (trivial))) (fun _ _ z803 => by obtain ⟨z801, z802⟩ := z803; have z801 := z801.symm; have z802 := z802.symm; subst z801; subst z802; exact And.intro (fun z804 => And.intro trivial ((h.1 (w_B01_0.mp z804)))) (fun z805 => And.intro (And.intro (of_decide_eq_true rfl) rfl) (And.intro (And.intro (of_decide_eq_true rfl) rfl) (And.intro (fun z806 => And.intro trivial (((h.2 (w_B01_n.mp z805)).1 z806))) (fun z807 => And.intro (And.intro (of_decide_eq_true rfl) rfl) (And.intro (Exists.intro _ (And.intro rfl (trivial))) (fun _ _ z810 => by obtain ⟨z808, z809⟩ := z810; have z808 := z808.symm; have z809 := z809.symm; subst z808; subst z809; exact And.intro (fun z811 => And.intro trivial ((((h.2 (w_B01_n.mp z805)).2 z807).1 (w_B01_0.mp z811)))) (fun z812 => And.intro (And.intro (of_decide_eq_true rfl) rfl) (And.intro (And.intro (of_decide_eq_true rfl) rfl) (And.intro (And.intro (of_decide_eq_true rfl) (Exists.intro _ (And.intro rfl ((((h.2 (w_B01_n.mp z805)).2 z807).2 (w_B01_n.mp z812)).1)))) (And.intro trivial ((((h.2 (w_B01_n.mp z805)).2 z807).2 (w_B01_n.mp z812)).2)))))))))))))
set_option maxHeartbeats 4000000 in
theorem vX7_begins (e : Int32) (μ : wM) (h : pX7_begins e μ) (K : wK) (hK : w_cl 7 gX7_begins shX rfX 43 (some .int) (qX7_begins e μ) tX7_begins K) : K 0 [some (.ref 0), some (.int e)] [] μ := by
  refine hK uX7_begins 22 _ _ _ _ (vcX7_begins_0 K _ e μ ?_)
  clear hK
  unfold pX7_begins at h
  unfold w_IX at h
  refine And.intro (fun z15 => ?_) (fun z15 => ?_)
  · unfold qX7_begins fX7_begins
    rw [if_neg (by rw [z15]; exact Bool.false_ne_true)]
    exact ⟨rfl, rfl⟩
  · refine And.intro (fun z16 => ?_) (fun z16 => ?_)
    · unfold qX7_begins fX7_begins
      rw [if_pos z15, if_pos z16]
      exact ⟨rfl, rfl⟩
    · refine And.intro (fun z17 => ?_) (fun z17 => ?_)
      · unfold qX7_begins fX7_begins
        rw [if_pos z15, if_neg z16, if_neg (by rw [z17]; exact Bool.false_ne_true)]
        exact ⟨rfl, rfl⟩
      · refine And.intro (by first | exact tk9 (by assumption) | exact has_in h.1 (by assumption) | exact in9 (by assumption) | exact in3 (by assumption) | exact in2 (by assumption) | exact nfull_in h.1 (by assumption) | exact nfull2_in h.2.1 (by assumption) | exact evp (has_in h.1 (by assumption)) | exact h.2.1 | (simp_all; done)) ?_
        unfold qX7_begins fX7_begins
        rw [if_pos z15, if_neg z16, if_pos z17]
        exact ⟨rfl, rfl⟩
set_option maxRecDepth 100000 in
theorem zX7_begins (l : Launch) : ∀ (idx : Nat) (S : wS), gX7_begins idx = some S → w_Call l 7 idx S 2 shX rfX 43 := by
  intro idx S hS
  unfold gX7_begins at hS
  split at hS
  · cases hS
    exact w_callV (ci := 3) (mX3_has l) (by decide) rX3_has eX3_has.1 (by decide +kernel) eX3_has.2.1 eX3_has.2.2.1 eX3_has.2.2.2 (by decide +kernel) (by decide) (by decide)
  · cases hS
    exact w_callV (ci := 3) (mX3_isLaid l) (by decide) rX3_isLaid eX3_isLaid.1 (by decide +kernel) eX3_isLaid.2.1 eX3_isLaid.2.2.1 eX3_isLaid.2.2.2 (by decide +kernel) (by decide) (by decide)
  · cases hS
theorem mX7_begins (l : Launch) : w_Met l yX7_begins cX7_begins 2 (some .int) 2 shX rfX 43 sX7_begins.2.2.2.1 sX7_begins.2.2.2.2 :=
  w_meth (o := 7) (Γ := gX7_begins) (tb := tX7_begins) (by decide +kernel) rfl kX7_begins rfl (zX7_begins l) (fun as μ h => by obtain ⟨e, rfl, h⟩ := h; exact Nat.le_of_ble_eq_true rfl) (fun as μ h K hK => by obtain ⟨e, rfl, h⟩ := h; exact vX7_begins e μ h K hK)
set_option maxRecDepth 100000 in
theorem eX7_begins : Cond.code yX7_begins cX7_begins 2 (some .int) ∈ w_tbl ∧ Cond.instanceMethod yX7_begins ∈ w_tbl ∧ Cond.selects (w_C 7) yX7_begins yX7_begins ∈ w_tbl ∧ Cond.initialized yX7_begins.cls ∈ w_tbl := ⟨by decide +kernel, by decide +kernel, by decide +kernel, by decide +kernel⟩
theorem rX7_begins : ∀ as μ, sX7_begins.2.2.2.1 as μ → ∃ q as', as = .ref q :: as' ∧ q < 43 ∧ shX q = .inl 7 := by
  intro as μ h
  obtain ⟨e, rfl, h⟩ := h
  exact ⟨_, _, rfl, by decide, rfl⟩

def fX7_stone (e : Int32) (g : Int32) (s : Int32) (μ : wM) : Int32 × wM := (if (w_hasB (μ 1 1) e) = true then (if (w_inB g 1000 30000) = true then (if (w_inB s (-100) 100) = true then (if (((μ (Int32.toNatClampNeg e + 27) 1) : Int32) = 0) then (1, (w_up (w_up μ (Int32.toNatClampNeg e + 27) 7 g) (Int32.toNatClampNeg e + 27) 8 s)) else ((-12), μ)) else ((-1), μ)) else ((-1), μ)) else ((-1), μ))
/-! X7_stone -/
def pX7_stone (e : Int32) (g : Int32) (s : Int32) (μ : wM) : Prop := w_IX μ
def qX7_stone (e : Int32) (g : Int32) (s : Int32) (μ : wM) (r : Int32) (μ' : wM) : Prop := r = (fX7_stone e g s μ).1 ∧ μ' = (fX7_stone e g s μ).2
def sX7_stone : wS := (false, false, 4, fun as μ => ∃ e, ∃ g, ∃ s, as = [.ref 0, .int e, .int g, .int s] ∧ pX7_stone e g s μ, fun as μ r μ' => match as with
  | [.ref _, .int e, .int g, .int s] => qX7_stone e g s μ r μ'
  | _ => False)
def gX7_stone : Nat → Option wS := fun k => match k with
  | 55 => some sX7_within
  | 67 => some sX3_has
  | _ => none
def uX7_stone : Nat → Option (List Nat) := fun _ => none
set_option maxHeartbeats 4000000 in
set_option maxRecDepth 100000 in
theorem vcX7_stone_0 (K : wK) (R : Int32 → wM → Prop) (e : Int32) (g : Int32) (s : Int32) (μ : wM) (h : (
    ((w_hasB (μ 1 1) e) = false → R (-1) μ) ∧
    ((w_hasB (μ 1 1) e) = true → (
      ((w_inB g 1000 30000) = false → R (-1) μ) ∧
      ((w_inB g 1000 30000) = true → (
        ((w_inB s (-100) 100) = false → R (-1) μ) ∧
        ((w_inB s (-100) 100) = true → (vp_in e 8) ∧ (
          ((((μ (Int32.toNatClampNeg e + 27) 1) : Int32) = 0) → R 1 (w_up (w_up μ (Int32.toNatClampNeg e + 27) 7 g) (Int32.toNatClampNeg e + 27) 8 s)) ∧
          (¬ (((μ (Int32.toNatClampNeg e + 27) 1) : Int32) = 0) → R (-12) μ))))))))) : w_n 7 gX7_stone shX rfX 43 (some .int) R tX7_stone uX7_stone K 33 0 [some (.ref 0), some (.int e), some (.int g), some (.int s), none] [] μ :=
  And.intro (And.intro (of_decide_eq_true rfl) rfl) (And.intro (Exists.intro _ (And.intro rfl (trivial))) (fun _ _ z832 => by obtain ⟨z830, z831⟩ := z832; have z830 := z830.symm; have z831 := z831.symm; subst z830; subst z831; exact And.intro (fun z833 => And.intro trivial ((h.1 (w_B01_0.mp z833)))) (fun z834 => And.intro (Exists.intro _ (Exists.intro _ (Exists.intro _ (And.intro rfl (trivial))))) (fun _ _ z837 => by obtain ⟨z835, z836⟩ := z837; have z835 := z835.symm; have z836 := z836.symm; subst z835; subst z836; exact And.intro (fun z838 => And.intro trivial (((h.2 (w_B01_n.mp z834)).1 (w_B01_0.mp z838)))) (fun z839 => And.intro (Exists.intro _ (Exists.intro _ (Exists.intro _ (And.intro rfl (trivial))))) (fun _ _ z842 => by obtain ⟨z840, z841⟩ := z842; have z840 := z840.symm; have z841 := z841.symm; subst z840; subst z841; exact And.intro (fun z843 => And.intro trivial ((((h.2 (w_B01_n.mp z834)).2 (w_B01_n.mp z839)).1 (w_B01_0.mp z843)))) (fun z844 => And.intro (And.intro (of_decide_eq_true rfl) rfl) (And.intro (And.intro (of_decide_eq_true rfl) rfl) (And.intro (Or.inl (And.intro (of_decide_eq_true rfl) (Exists.intro _ (And.intro rfl ((((h.2 (w_B01_n.mp z834)).2 (w_B01_n.mp z839)).2 (w_B01_n.mp z844)).1))))) (And.intro (ev_ok ((((h.2 (w_B01_n.mp z834)).2 (w_B01_n.mp z839)).2 (w_B01_n.mp z844)).1)) (And.intro (fun z845 => And.intro (And.intro (ev_ok ((((h.2 (w_B01_n.mp z834)).2 (w_B01_n.mp z839)).2 (w_B01_n.mp z844)).1)).1 (And.intro (ev_ok ((((h.2 (w_B01_n.mp z834)).2 (w_B01_n.mp z839)).2 (w_B01_n.mp z844)).1)).2 (trivial))) (And.intro (And.intro (ev_ok ((((h.2 (w_B01_n.mp z834)).2 (w_B01_n.mp z839)).2 (w_B01_n.mp z844)).1)).1 (And.intro (ev_ok ((((h.2 (w_B01_n.mp z834)).2 (w_B01_n.mp z839)).2 (w_B01_n.mp z844)).1)).2 (trivial))) (And.intro trivial (((((h.2 (w_B01_n.mp z834)).2 (w_B01_n.mp z839)).2 (w_B01_n.mp z844)).2.1 z845))))) (fun z846 => And.intro trivial (((((h.2 (w_B01_n.mp z834)).2 (w_B01_n.mp z839)).2 (w_B01_n.mp z844)).2.2 z846))))))))))))))
set_option maxHeartbeats 4000000 in
theorem vX7_stone (e : Int32) (g : Int32) (s : Int32) (μ : wM) (h : pX7_stone e g s μ) (K : wK) (hK : w_cl 7 gX7_stone shX rfX 43 (some .int) (qX7_stone e g s μ) tX7_stone K) : K 0 [some (.ref 0), some (.int e), some (.int g), some (.int s), none] [] μ := by
  refine hK uX7_stone 33 _ _ _ _ (vcX7_stone_0 K _ e g s μ ?_)
  clear hK
  unfold pX7_stone at h
  unfold w_IX at h
  refine And.intro (fun z18 => ?_) (fun z18 => ?_)
  · unfold qX7_stone fX7_stone
    rw [if_neg (by rw [z18]; exact Bool.false_ne_true)]
    exact ⟨rfl, rfl⟩
  · refine And.intro (fun z19 => ?_) (fun z19 => ?_)
    · unfold qX7_stone fX7_stone
      rw [if_pos z18, if_neg (by rw [z19]; exact Bool.false_ne_true)]
      exact ⟨rfl, rfl⟩
    · refine And.intro (fun z20 => ?_) (fun z20 => ?_)
      · unfold qX7_stone fX7_stone
        rw [if_pos z18, if_pos z19, if_neg (by rw [z20]; exact Bool.false_ne_true)]
        exact ⟨rfl, rfl⟩
      · refine And.intro (by first | exact tk9 (by assumption) | exact has_in h.1 (by assumption) | exact in9 (by assumption) | exact in3 (by assumption) | exact in2 (by assumption) | exact nfull_in h.1 (by assumption) | exact nfull2_in h.2.1 (by assumption) | exact evp (has_in h.1 (by assumption)) | exact h.2.1 | (simp_all; done)) ?_
        refine And.intro (fun z21 => ?_) (fun z21 => ?_)
        · unfold qX7_stone fX7_stone
          rw [if_pos z18, if_pos z19, if_pos z20, if_pos z21]
          exact ⟨rfl, rfl⟩
        · unfold qX7_stone fX7_stone
          rw [if_pos z18, if_pos z19, if_pos z20, if_neg z21]
          exact ⟨rfl, rfl⟩
set_option maxRecDepth 100000 in
theorem zX7_stone (l : Launch) : ∀ (idx : Nat) (S : wS), gX7_stone idx = some S → w_Call l 7 idx S 2 shX rfX 43 := by
  intro idx S hS
  unfold gX7_stone at hS
  split at hS
  · cases hS
    exact w_callS (mX7_within l) eX7_within.1 (by decide +kernel) eX7_within.2.1 eX7_within.2.2 (by decide +kernel) (by decide) (by decide)
  · cases hS
    exact w_callV (ci := 3) (mX3_has l) (by decide) rX3_has eX3_has.1 (by decide +kernel) eX3_has.2.1 eX3_has.2.2.1 eX3_has.2.2.2 (by decide +kernel) (by decide) (by decide)
  · cases hS
theorem mX7_stone (l : Launch) : w_Met l yX7_stone cX7_stone 5 (some .int) 2 shX rfX 43 sX7_stone.2.2.2.1 sX7_stone.2.2.2.2 :=
  w_meth (o := 7) (Γ := gX7_stone) (tb := tX7_stone) (by decide +kernel) rfl kX7_stone rfl (zX7_stone l) (fun as μ h => by obtain ⟨e, g, s, rfl, h⟩ := h; exact Nat.le_of_ble_eq_true rfl) (fun as μ h K hK => by obtain ⟨e, g, s, rfl, h⟩ := h; exact vX7_stone e g s μ h K hK)
set_option maxRecDepth 100000 in
theorem eX7_stone : Cond.code yX7_stone cX7_stone 5 (some .int) ∈ w_tbl ∧ Cond.instanceMethod yX7_stone ∈ w_tbl ∧ Cond.selects (w_C 7) yX7_stone yX7_stone ∈ w_tbl ∧ Cond.initialized yX7_stone.cls ∈ w_tbl := ⟨by decide +kernel, by decide +kernel, by decide +kernel, by decide +kernel⟩
theorem rX7_stone : ∀ as μ, sX7_stone.2.2.2.1 as μ → ∃ q as', as = .ref q :: as' ∧ q < 43 ∧ shX q = .inl 7 := by
  intro as μ h
  obtain ⟨e, g, s, rfl, h⟩ := h
  exact ⟨_, _, rfl, by decide, rfl⟩

def fX7_way (e : Int32) (y : Int32) (μ : wM) : Int32 × wM := (if (w_hasB (μ 1 1) e) = true then (if (w_inB y 100 2000) = true then (if (((μ (Int32.toNatClampNeg e + 27) 1) : Int32) = 1) then ((μ (Int32.toNatClampNeg e + 27) 9), (w_up μ (Int32.toNatClampNeg e + 27) 9 y)) else ((-12), μ)) else ((-1), μ)) else ((-1), μ))
/-! X7_way -/
def pX7_way (e : Int32) (y : Int32) (μ : wM) : Prop := w_IX μ
def qX7_way (e : Int32) (y : Int32) (μ : wM) (r : Int32) (μ' : wM) : Prop := r = (fX7_way e y μ).1 ∧ μ' = (fX7_way e y μ).2
def sX7_way : wS := (false, false, 3, fun as μ => ∃ e, ∃ y, as = [.ref 0, .int e, .int y] ∧ pX7_way e y μ, fun as μ r μ' => match as with
  | [.ref _, .int e, .int y] => qX7_way e y μ r μ'
  | _ => False)
def gX7_way : Nat → Option wS := fun k => match k with
  | 55 => some sX7_within
  | 67 => some sX3_has
  | _ => none
def uX7_way : Nat → Option (List Nat) := fun _ => none
set_option maxHeartbeats 4000000 in
set_option maxRecDepth 100000 in
theorem vcX7_way_0 (K : wK) (R : Int32 → wM → Prop) (e : Int32) (y : Int32) (μ : wM) (h : (
    ((w_hasB (μ 1 1) e) = false → R (-1) μ) ∧
    ((w_hasB (μ 1 1) e) = true → (
      ((w_inB y 100 2000) = false → R (-1) μ) ∧
      ((w_inB y 100 2000) = true → (vp_in e 8) ∧ (
        ((((μ (Int32.toNatClampNeg e + 27) 1) : Int32) = 1) → R (μ (Int32.toNatClampNeg e + 27) 9) (w_up μ (Int32.toNatClampNeg e + 27) 9 y)) ∧
        (¬ (((μ (Int32.toNatClampNeg e + 27) 1) : Int32) = 1) → R (-12) μ))))))) : w_n 7 gX7_way shX rfX 43 (some .int) R tX7_way uX7_way K 29 0 [some (.ref 0), some (.int e), some (.int y), none, none] [] μ :=
  And.intro (And.intro (of_decide_eq_true rfl) rfl) (And.intro (Exists.intro _ (And.intro rfl (trivial))) (fun _ _ z861 => by obtain ⟨z859, z860⟩ := z861; have z859 := z859.symm; have z860 := z860.symm; subst z859; subst z860; exact And.intro (fun z862 => And.intro trivial ((h.1 (w_B01_0.mp z862)))) (fun z863 => And.intro (Exists.intro _ (Exists.intro _ (Exists.intro _ (And.intro rfl (trivial))))) (fun _ _ z866 => by obtain ⟨z864, z865⟩ := z866; have z864 := z864.symm; have z865 := z865.symm; subst z864; subst z865; exact And.intro (fun z867 => And.intro trivial (((h.2 (w_B01_n.mp z863)).1 (w_B01_0.mp z867)))) (fun z868 => And.intro (And.intro (of_decide_eq_true rfl) rfl) (And.intro (And.intro (of_decide_eq_true rfl) rfl) (And.intro (Or.inl (And.intro (of_decide_eq_true rfl) (Exists.intro _ (And.intro rfl (((h.2 (w_B01_n.mp z863)).2 (w_B01_n.mp z868)).1))))) (And.intro (ev_ok (((h.2 (w_B01_n.mp z863)).2 (w_B01_n.mp z868)).1)) (And.intro (fun z869 => And.intro (ev_ok (((h.2 (w_B01_n.mp z863)).2 (w_B01_n.mp z868)).1)) (And.intro (And.intro (ev_ok (((h.2 (w_B01_n.mp z863)).2 (w_B01_n.mp z868)).1)).1 (And.intro (ev_ok (((h.2 (w_B01_n.mp z863)).2 (w_B01_n.mp z868)).1)).2 (trivial))) (And.intro trivial ((((h.2 (w_B01_n.mp z863)).2 (w_B01_n.mp z868)).2.1 z869))))) (fun z870 => And.intro trivial ((((h.2 (w_B01_n.mp z863)).2 (w_B01_n.mp z868)).2.2 z870))))))))))))
set_option maxHeartbeats 4000000 in
theorem vX7_way (e : Int32) (y : Int32) (μ : wM) (h : pX7_way e y μ) (K : wK) (hK : w_cl 7 gX7_way shX rfX 43 (some .int) (qX7_way e y μ) tX7_way K) : K 0 [some (.ref 0), some (.int e), some (.int y), none, none] [] μ := by
  refine hK uX7_way 29 _ _ _ _ (vcX7_way_0 K _ e y μ ?_)
  clear hK
  unfold pX7_way at h
  unfold w_IX at h
  refine And.intro (fun z22 => ?_) (fun z22 => ?_)
  · unfold qX7_way fX7_way
    rw [if_neg (by rw [z22]; exact Bool.false_ne_true)]
    exact ⟨rfl, rfl⟩
  · refine And.intro (fun z23 => ?_) (fun z23 => ?_)
    · unfold qX7_way fX7_way
      rw [if_pos z22, if_neg (by rw [z23]; exact Bool.false_ne_true)]
      exact ⟨rfl, rfl⟩
    · refine And.intro (by first | exact tk9 (by assumption) | exact has_in h.1 (by assumption) | exact in9 (by assumption) | exact in3 (by assumption) | exact in2 (by assumption) | exact nfull_in h.1 (by assumption) | exact nfull2_in h.2.1 (by assumption) | exact evp (has_in h.1 (by assumption)) | exact h.2.1 | (simp_all; done)) ?_
      refine And.intro (fun z24 => ?_) (fun z24 => ?_)
      · unfold qX7_way fX7_way
        rw [if_pos z22, if_pos z23, if_pos z24]
        exact ⟨rfl, rfl⟩
      · unfold qX7_way fX7_way
        rw [if_pos z22, if_pos z23, if_neg z24]
        exact ⟨rfl, rfl⟩
set_option maxRecDepth 100000 in
theorem zX7_way (l : Launch) : ∀ (idx : Nat) (S : wS), gX7_way idx = some S → w_Call l 7 idx S 2 shX rfX 43 := by
  intro idx S hS
  unfold gX7_way at hS
  split at hS
  · cases hS
    exact w_callS (mX7_within l) eX7_within.1 (by decide +kernel) eX7_within.2.1 eX7_within.2.2 (by decide +kernel) (by decide) (by decide)
  · cases hS
    exact w_callV (ci := 3) (mX3_has l) (by decide) rX3_has eX3_has.1 (by decide +kernel) eX3_has.2.1 eX3_has.2.2.1 eX3_has.2.2.2 (by decide +kernel) (by decide) (by decide)
  · cases hS
theorem mX7_way (l : Launch) : w_Met l yX7_way cX7_way 5 (some .int) 2 shX rfX 43 sX7_way.2.2.2.1 sX7_way.2.2.2.2 :=
  w_meth (o := 7) (Γ := gX7_way) (tb := tX7_way) (by decide +kernel) rfl kX7_way rfl (zX7_way l) (fun as μ h => by obtain ⟨e, y, rfl, h⟩ := h; exact Nat.le_of_ble_eq_true rfl) (fun as μ h K hK => by obtain ⟨e, y, rfl, h⟩ := h; exact vX7_way e y μ h K hK)
set_option maxRecDepth 100000 in
theorem eX7_way : Cond.code yX7_way cX7_way 5 (some .int) ∈ w_tbl ∧ Cond.instanceMethod yX7_way ∈ w_tbl ∧ Cond.selects (w_C 7) yX7_way yX7_way ∈ w_tbl ∧ Cond.initialized yX7_way.cls ∈ w_tbl := ⟨by decide +kernel, by decide +kernel, by decide +kernel, by decide +kernel⟩
theorem rX7_way : ∀ as μ, sX7_way.2.2.2.1 as μ → ∃ q as', as = .ref q :: as' ∧ q < 43 ∧ shX q = .inl 7 := by
  intro as μ h
  obtain ⟨e, y, rfl, h⟩ := h
  exact ⟨_, _, rfl, by decide, rfl⟩

def fX7_yards (x : Int32) (y : Int32) (μ : wM) : Int32 × wM := (if (w_inB x 0 9) = true then (if (w_inB y (-50) 50) = true then ((μ 7 (x : Int32).toNatClampNeg), (w_up μ 7 (x : Int32).toNatClampNeg y)) else ((-1001), μ)) else ((-1001), μ))
/-! X7_yards -/
def pX7_yards (x : Int32) (y : Int32) (μ : wM) : Prop := w_IX μ
def qX7_yards (x : Int32) (y : Int32) (μ : wM) (r : Int32) (μ' : wM) : Prop := r = (fX7_yards x y μ).1 ∧ μ' = (fX7_yards x y μ).2
def sX7_yards : wS := (false, false, 3, fun as μ => ∃ x, ∃ y, as = [.ref 0, .int x, .int y] ∧ pX7_yards x y μ, fun as μ r μ' => match as with
  | [.ref _, .int x, .int y] => qX7_yards x y μ r μ'
  | _ => False)
def gX7_yards : Nat → Option wS := fun k => match k with
  | 55 => some sX7_within
  | 71 => some sX7_isMan
  | _ => none
def uX7_yards : Nat → Option (List Nat) := fun _ => none
set_option maxHeartbeats 4000000 in
set_option maxRecDepth 100000 in
theorem vcX7_yards_0 (K : wK) (R : Int32 → wM → Prop) (x : Int32) (y : Int32) (μ : wM) (h : (
    ((w_inB x 0 9) = false → R (-1001) μ) ∧
    ((w_inB x 0 9) = true → (
      ((w_inB y (-50) 50) = false → R (-1001) μ) ∧
      ((w_inB y (-50) 50) = true → (vp_in x 10) ∧ R (μ 7 (x : Int32).toNatClampNeg) (w_up μ 7 (x : Int32).toNatClampNeg y)))))) : w_n 7 gX7_yards shX rfX 43 (some .int) R tX7_yards uX7_yards K 21 0 [some (.ref 0), some (.int x), some (.int y), none] [] μ :=
  And.intro (Exists.intro _ (And.intro rfl (trivial))) (fun _ _ z883 => by obtain ⟨z881, z882⟩ := z883; have z881 := z881.symm; have z882 := z882.symm; subst z881; subst z882; exact And.intro (fun z884 => And.intro trivial ((h.1 (w_B01_0.mp z884)))) (fun z885 => And.intro (Exists.intro _ (Exists.intro _ (Exists.intro _ (And.intro rfl (trivial))))) (fun _ _ z888 => by obtain ⟨z886, z887⟩ := z888; have z886 := z886.symm; have z887 := z887.symm; subst z886; subst z887; exact And.intro (fun z889 => And.intro trivial (((h.2 (w_B01_n.mp z885)).1 (w_B01_0.mp z889)))) (fun z890 => And.intro (And.intro (of_decide_eq_true rfl) rfl) (And.intro (And.intro (of_decide_eq_true rfl) (Exists.intro _ (And.intro rfl (((h.2 (w_B01_n.mp z885)).2 (w_B01_n.mp z890)).1)))) (And.intro (And.intro (of_decide_eq_true rfl) rfl) (And.intro (And.intro (of_decide_eq_true rfl) (Exists.intro _ (And.intro rfl (((h.2 (w_B01_n.mp z885)).2 (w_B01_n.mp z890)).1)))) (And.intro trivial (((h.2 (w_B01_n.mp z885)).2 (w_B01_n.mp z890)).2)))))))))
set_option maxHeartbeats 4000000 in
theorem vX7_yards (x : Int32) (y : Int32) (μ : wM) (h : pX7_yards x y μ) (K : wK) (hK : w_cl 7 gX7_yards shX rfX 43 (some .int) (qX7_yards x y μ) tX7_yards K) : K 0 [some (.ref 0), some (.int x), some (.int y), none] [] μ := by
  refine hK uX7_yards 21 _ _ _ _ (vcX7_yards_0 K _ x y μ ?_)
  clear hK
  unfold pX7_yards at h
  unfold w_IX at h
  refine And.intro (fun z25 => ?_) (fun z25 => ?_)
  · unfold qX7_yards fX7_yards
    rw [if_neg (by rw [z25]; exact Bool.false_ne_true)]
    exact ⟨rfl, rfl⟩
  · refine And.intro (fun z26 => ?_) (fun z26 => ?_)
    · unfold qX7_yards fX7_yards
      rw [if_pos z25, if_neg (by rw [z26]; exact Bool.false_ne_true)]
      exact ⟨rfl, rfl⟩
    · refine And.intro (by first | exact tk9 (by assumption) | exact has_in h.1 (by assumption) | exact in9 (by assumption) | exact in3 (by assumption) | exact in2 (by assumption) | exact nfull_in h.1 (by assumption) | exact nfull2_in h.2.1 (by assumption) | exact evp (has_in h.1 (by assumption)) | exact h.2.1 | (simp_all; done)) ?_
      unfold qX7_yards fX7_yards
      rw [if_pos z25, if_pos z26]
      exact ⟨rfl, rfl⟩
set_option maxRecDepth 100000 in
theorem zX7_yards (l : Launch) : ∀ (idx : Nat) (S : wS), gX7_yards idx = some S → w_Call l 7 idx S 3 shX rfX 43 := by
  intro idx S hS
  unfold gX7_yards at hS
  split at hS
  · cases hS
    exact w_callS (mX7_within l) eX7_within.1 (by decide +kernel) eX7_within.2.1 eX7_within.2.2 (by decide +kernel) (by decide) (by decide)
  · cases hS
    exact w_callS (mX7_isMan l) eX7_isMan.1 (by decide +kernel) eX7_isMan.2.1 eX7_isMan.2.2 (by decide +kernel) (by decide) (by decide)
  · cases hS
theorem mX7_yards (l : Launch) : w_Met l yX7_yards cX7_yards 4 (some .int) 3 shX rfX 43 sX7_yards.2.2.2.1 sX7_yards.2.2.2.2 :=
  w_meth (o := 7) (Γ := gX7_yards) (tb := tX7_yards) (by decide +kernel) rfl kX7_yards rfl (zX7_yards l) (fun as μ h => by obtain ⟨x, y, rfl, h⟩ := h; exact Nat.le_of_ble_eq_true rfl) (fun as μ h K hK => by obtain ⟨x, y, rfl, h⟩ := h; exact vX7_yards x y μ h K hK)
set_option maxRecDepth 100000 in
theorem eX7_yards : Cond.code yX7_yards cX7_yards 4 (some .int) ∈ w_tbl ∧ Cond.instanceMethod yX7_yards ∈ w_tbl ∧ Cond.selects (w_C 7) yX7_yards yX7_yards ∈ w_tbl ∧ Cond.initialized yX7_yards.cls ∈ w_tbl := ⟨by decide +kernel, by decide +kernel, by decide +kernel, by decide +kernel⟩
theorem rX7_yards : ∀ as μ, sX7_yards.2.2.2.1 as μ → ∃ q as', as = .ref q :: as' ∧ q < 43 ∧ shX q = .inl 7 := by
  intro as μ h
  obtain ⟨x, y, rfl, h⟩ := h
  exact ⟨_, _, rfl, by decide, rfl⟩

def fX7_entry (e : Int32) (x : Int32) (a : Int32) (b : Int32) (μ : wM) : Int32 × wM := (if (w_hasB (μ 1 1) e) = true then (if (w_tk (μ (Int32.toNatClampNeg e + 27) 1) (μ (Int32.toNatClampNeg e + 27) 4) x a b) = true then (if (decide (160 < μ 2 5 + 1)) = true then ((-3), μ) else ((μ 2 5), (w_up (w_up (w_up (w_up (w_up (w_up μ 14 (μ 2 5).toNatClampNeg e) 15 (μ 2 5).toNatClampNeg x) 16 (μ 2 5).toNatClampNeg a) 17 (μ 2 5).toNatClampNeg b) 18 (μ 2 5).toNatClampNeg (μ 7 (x : Int32).toNatClampNeg)) 2 5 (μ 2 5 + 1)))) else ((-1), μ)) else ((-1), μ))
/-! X7_entry -/
def pX7_entry (e : Int32) (x : Int32) (a : Int32) (b : Int32) (μ : wM) : Prop := w_IX μ
def qX7_entry (e : Int32) (x : Int32) (a : Int32) (b : Int32) (μ : wM) (r : Int32) (μ' : wM) : Prop := r = (fX7_entry e x a b μ).1 ∧ μ' = (fX7_entry e x a b μ).2
def sX7_entry : wS := (false, false, 5, fun as μ => ∃ e, ∃ x, ∃ a, ∃ b, as = [.ref 0, .int e, .int x, .int a, .int b] ∧ pX7_entry e x a b μ, fun as μ r μ' => match as with
  | [.ref _, .int e, .int x, .int a, .int b] => qX7_entry e x a b μ r μ'
  | _ => False)
def gX7_entry : Nat → Option wS := fun k => match k with
  | 67 => some sX3_has
  | 141 => some sX1_takes
  | 144 => some sX2_isFullFor
  | 147 => some sX2_add
  | _ => none
def uX7_entry : Nat → Option (List Nat) := fun _ => none
set_option maxHeartbeats 4000000 in
set_option maxRecDepth 100000 in
theorem vcX7_entry_0 (K : wK) (R : Int32 → wM → Prop) (e : Int32) (x : Int32) (a : Int32) (b : Int32) (μ : wM) (h : (
    ((w_hasB (μ 1 1) e) = false → R (-1) μ) ∧
    ((w_hasB (μ 1 1) e) = true → (vp_in e 8) ∧ pX1_takes (Int32.toNatClampNeg e + 27) x a b μ ∧ (
      ((w_tk (μ (Int32.toNatClampNeg e + 27) 1) (μ (Int32.toNatClampNeg e + 27) 4) x a b) = false → R (-1) μ) ∧
      ((w_tk (μ (Int32.toNatClampNeg e + 27) 1) (μ (Int32.toNatClampNeg e + 27) 4) x a b) = true → (
        ((decide (160 < μ 2 5 + 1)) = false → (vp_in x 10) ∧ pX2_add e x a b (μ 7 (x : Int32).toNatClampNeg) μ ∧ R (μ 2 5) (w_up (w_up (w_up (w_up (w_up (w_up μ 14 (μ 2 5).toNatClampNeg e) 15 (μ 2 5).toNatClampNeg x) 16 (μ 2 5).toNatClampNeg a) 17 (μ 2 5).toNatClampNeg b) 18 (μ 2 5).toNatClampNeg (μ 7 (x : Int32).toNatClampNeg)) 2 5 (μ 2 5 + 1))) ∧
        ((decide (160 < μ 2 5 + 1)) = true → R (-3) μ))))))) : w_n 7 gX7_entry shX rfX 43 (some .int) R tX7_entry uX7_entry K 33 0 [some (.ref 0), some (.int e), some (.int x), some (.int a), some (.int b)] [] μ :=
  And.intro (And.intro (of_decide_eq_true rfl) rfl) (And.intro (Exists.intro _ (And.intro rfl (trivial))) (fun _ _ z911 => by obtain ⟨z909, z910⟩ := z911; have z909 := z909.symm; have z910 := z910.symm; subst z909; subst z910; exact And.intro (fun z912 => And.intro trivial ((h.1 (w_B01_0.mp z912)))) (fun z913 => And.intro (And.intro (of_decide_eq_true rfl) rfl) (And.intro (And.intro (of_decide_eq_true rfl) rfl) (And.intro (Or.inl (And.intro (of_decide_eq_true rfl) (Exists.intro _ (And.intro rfl ((h.2 (w_B01_n.mp z913)).1))))) (And.intro (Exists.intro _ (Exists.intro _ (Exists.intro _ (Exists.intro _ (And.intro rfl ((h.2 (w_B01_n.mp z913)).2.1)))))) (fun _ _ z916 => by obtain ⟨z914, z915⟩ := z916; have z914 := z914.symm; have z915 := z915.symm; subst z914; subst z915; exact And.intro (fun z917 => And.intro trivial (((h.2 (w_B01_n.mp z913)).2.2.1 (w_B01_0.mp z917)))) (fun z918 => And.intro (And.intro (of_decide_eq_true rfl) rfl) (And.intro (Exists.intro _ (And.intro rfl (trivial))) (fun _ _ z921 => by obtain ⟨z919, z920⟩ := z921; have z919 := z919.symm; have z920 := z920.symm; subst z919; subst z920; exact And.intro (fun z922 => And.intro (And.intro (of_decide_eq_true rfl) rfl) (And.intro (And.intro (of_decide_eq_true rfl) rfl) (And.intro (And.intro (of_decide_eq_true rfl) (Exists.intro _ (And.intro rfl ((((h.2 (w_B01_n.mp z913)).2.2.2 (w_B01_n.mp z918)).1 (w_B01_0.mp z922)).1)))) (And.intro (Exists.intro _ (Exists.intro _ (Exists.intro _ (Exists.intro _ (Exists.intro _ (And.intro rfl ((((h.2 (w_B01_n.mp z913)).2.2.2 (w_B01_n.mp z918)).1 (w_B01_0.mp z922)).2.1))))))) (fun _ _ z926 => by obtain ⟨z924, z925⟩ := z926; have z924 := z924.symm; have z925 := z925.symm; subst z924; subst z925; exact And.intro trivial ((((h.2 (w_B01_n.mp z913)).2.2.2 (w_B01_n.mp z918)).1 (w_B01_0.mp z922)).2.2)))))) (fun z923 => And.intro trivial ((((h.2 (w_B01_n.mp z913)).2.2.2 (w_B01_n.mp z918)).2 (w_B01_n.mp z923))))))))))))))
set_option maxHeartbeats 4000000 in
theorem vX7_entry (e : Int32) (x : Int32) (a : Int32) (b : Int32) (μ : wM) (h : pX7_entry e x a b μ) (K : wK) (hK : w_cl 7 gX7_entry shX rfX 43 (some .int) (qX7_entry e x a b μ) tX7_entry K) : K 0 [some (.ref 0), some (.int e), some (.int x), some (.int a), some (.int b)] [] μ := by
  refine hK uX7_entry 33 _ _ _ _ (vcX7_entry_0 K _ e x a b μ ?_)
  clear hK
  unfold pX7_entry at h
  unfold w_IX at h
  refine And.intro (fun z27 => ?_) (fun z27 => ?_)
  · unfold qX7_entry fX7_entry
    rw [if_neg (by rw [z27]; exact Bool.false_ne_true)]
    exact ⟨rfl, rfl⟩
  · refine And.intro (by first | exact tk9 (by assumption) | exact has_in h.1 (by assumption) | exact in9 (by assumption) | exact in3 (by assumption) | exact in2 (by assumption) | exact nfull_in h.1 (by assumption) | exact nfull2_in h.2.1 (by assumption) | exact evp (has_in h.1 (by assumption)) | exact h.2.1 | (simp_all; done)) ?_
    refine And.intro (by first | exact tk9 (by assumption) | exact has_in h.1 (by assumption) | exact in9 (by assumption) | exact in3 (by assumption) | exact in2 (by assumption) | exact nfull_in h.1 (by assumption) | exact nfull2_in h.2.1 (by assumption) | exact evp (has_in h.1 (by assumption)) | exact h.2.1 | (simp_all; done)) ?_
    refine And.intro (fun z28 => ?_) (fun z28 => ?_)
    · unfold qX7_entry fX7_entry
      rw [if_pos z27, if_neg (by rw [z28]; exact Bool.false_ne_true)]
      exact ⟨rfl, rfl⟩
    · refine And.intro (fun z29 => ?_) (fun z29 => ?_)
      · refine And.intro (by first | exact tk9 (by assumption) | exact has_in h.1 (by assumption) | exact in9 (by assumption) | exact in3 (by assumption) | exact in2 (by assumption) | exact nfull_in h.1 (by assumption) | exact nfull2_in h.2.1 (by assumption) | exact evp (has_in h.1 (by assumption)) | exact h.2.1 | (simp_all; done)) ?_
        refine And.intro (by first | exact tk9 (by assumption) | exact has_in h.1 (by assumption) | exact in9 (by assumption) | exact in3 (by assumption) | exact in2 (by assumption) | exact nfull_in h.1 (by assumption) | exact nfull2_in h.2.1 (by assumption) | exact evp (has_in h.1 (by assumption)) | exact h.2.1 | (simp_all; done)) ?_
        unfold qX7_entry fX7_entry
        rw [if_pos z27, if_pos z28, if_neg (by rw [z29]; exact Bool.false_ne_true)]
        exact ⟨rfl, rfl⟩
      · unfold qX7_entry fX7_entry
        rw [if_pos z27, if_pos z28, if_pos z29]
        exact ⟨rfl, rfl⟩
set_option maxRecDepth 100000 in
theorem zX7_entry (l : Launch) : ∀ (idx : Nat) (S : wS), gX7_entry idx = some S → w_Call l 7 idx S 4 shX rfX 43 := by
  intro idx S hS
  unfold gX7_entry at hS
  split at hS
  · cases hS
    exact w_callV (ci := 3) (mX3_has l) (by decide) rX3_has eX3_has.1 (by decide +kernel) eX3_has.2.1 eX3_has.2.2.1 eX3_has.2.2.2 (by decide +kernel) (by decide) (by decide)
  · cases hS
    exact w_callV (ci := 1) (mX1_takes l) (by decide) rX1_takes eX1_takes.1 (by decide +kernel) eX1_takes.2.1 eX1_takes.2.2.1 eX1_takes.2.2.2 (by decide +kernel) (by decide) (by decide)
  · cases hS
    exact w_callV (ci := 2) (mX2_isFullFor l) (by decide) rX2_isFullFor eX2_isFullFor.1 (by decide +kernel) eX2_isFullFor.2.1 eX2_isFullFor.2.2.1 eX2_isFullFor.2.2.2 (by decide +kernel) (by decide) (by decide)
  · cases hS
    exact w_callV (ci := 2) (mX2_add l) (by decide) rX2_add eX2_add.1 (by decide +kernel) eX2_add.2.1 eX2_add.2.2.1 eX2_add.2.2.2 (by decide +kernel) (by decide) (by decide)
  · cases hS
theorem mX7_entry (l : Launch) : w_Met l yX7_entry cX7_entry 5 (some .int) 4 shX rfX 43 sX7_entry.2.2.2.1 sX7_entry.2.2.2.2 :=
  w_meth (o := 7) (Γ := gX7_entry) (tb := tX7_entry) (by decide +kernel) rfl kX7_entry rfl (zX7_entry l) (fun as μ h => by obtain ⟨e, x, a, b, rfl, h⟩ := h; exact Nat.le_of_ble_eq_true rfl) (fun as μ h K hK => by obtain ⟨e, x, a, b, rfl, h⟩ := h; exact vX7_entry e x a b μ h K hK)
set_option maxRecDepth 100000 in
theorem eX7_entry : Cond.code yX7_entry cX7_entry 5 (some .int) ∈ w_tbl ∧ Cond.instanceMethod yX7_entry ∈ w_tbl ∧ Cond.selects (w_C 7) yX7_entry yX7_entry ∈ w_tbl ∧ Cond.initialized yX7_entry.cls ∈ w_tbl := ⟨by decide +kernel, by decide +kernel, by decide +kernel, by decide +kernel⟩
theorem rX7_entry : ∀ as μ, sX7_entry.2.2.2.1 as μ → ∃ q as', as = .ref q :: as' ∧ q < 43 ∧ shX q = .inl 7 := by
  intro as μ h
  obtain ⟨e, x, a, b, rfl, h⟩ := h
  exact ⟨_, _, rfl, by decide, rfl⟩

def fX7_fail (e : Int32) (i : Int32) (μ : wM) : Int32 × wM := (if (w_hasB (μ 1 1) e) = true then (if (((μ (Int32.toNatClampNeg e + 27) 6) : Int32) = 0) then (0, (w_up μ (Int32.toNatClampNeg e + 27) 6 i)) else (1, (w_up μ (Int32.toNatClampNeg e + 27) 6 i))) else ((-1), μ))
/-! X7_fail -/
def pX7_fail (e : Int32) (i : Int32) (μ : wM) : Prop := w_IX μ ∧ w_bit i
def qX7_fail (e : Int32) (i : Int32) (μ : wM) (r : Int32) (μ' : wM) : Prop := r = (fX7_fail e i μ).1 ∧ μ' = (fX7_fail e i μ).2
def sX7_fail : wS := (false, false, 3, fun as μ => ∃ e, ∃ i, as = [.ref 0, .int e, .int i] ∧ pX7_fail e i μ, fun as μ r μ' => match as with
  | [.ref _, .int e, .int i] => qX7_fail e i μ r μ'
  | _ => False)
def gX7_fail : Nat → Option wS := fun k => match k with
  | 67 => some sX3_has
  | _ => none
def uX7_fail : Nat → Option (List Nat) := fun _ => none
set_option maxHeartbeats 4000000 in
set_option maxRecDepth 100000 in
theorem vcX7_fail_0 (K : wK) (R : Int32 → wM → Prop) (e : Int32) (i : Int32) (μ : wM) (h : (
    ((w_hasB (μ 1 1) e) = false → R (-1) μ) ∧
    ((w_hasB (μ 1 1) e) = true → (vp_in e 8) ∧ (
      ((((μ (Int32.toNatClampNeg e + 27) 6) : Int32) = 0) → (w_bit i) ∧ R 0 (w_up μ (Int32.toNatClampNeg e + 27) 6 i)) ∧
      (¬ (((μ (Int32.toNatClampNeg e + 27) 6) : Int32) = 0) → (w_bit i) ∧ R 1 (w_up μ (Int32.toNatClampNeg e + 27) 6 i)))))) : w_n 7 gX7_fail shX rfX 43 (some .int) R tX7_fail uX7_fail K 25 0 [some (.ref 0), some (.int e), some (.int i), none] [] μ :=
  And.intro (And.intro (of_decide_eq_true rfl) rfl) (And.intro (Exists.intro _ (And.intro rfl (trivial))) (fun _ _ z936 => by obtain ⟨z934, z935⟩ := z936; have z934 := z934.symm; have z935 := z935.symm; subst z934; subst z935; exact And.intro (fun z937 => And.intro trivial ((h.1 (w_B01_0.mp z937)))) (fun z938 => And.intro (And.intro (of_decide_eq_true rfl) rfl) (And.intro (And.intro (of_decide_eq_true rfl) rfl) (And.intro (Or.inl (And.intro (of_decide_eq_true rfl) (Exists.intro _ (And.intro rfl ((h.2 (w_B01_n.mp z938)).1))))) (And.intro (ev_ok ((h.2 (w_B01_n.mp z938)).1)) (And.intro (fun z939 => And.intro (And.intro (of_decide_eq_true rfl) rfl) (And.intro (And.intro (of_decide_eq_true rfl) rfl) (And.intro (Or.inl (And.intro (of_decide_eq_true rfl) (Exists.intro _ (And.intro rfl ((h.2 (w_B01_n.mp z938)).1))))) (And.intro (And.intro (ev_ok ((h.2 (w_B01_n.mp z938)).1)).1 (And.intro (ev_ok ((h.2 (w_B01_n.mp z938)).1)).2 ((((h.2 (w_B01_n.mp z938)).2.1 z939).1)))) (And.intro trivial (((h.2 (w_B01_n.mp z938)).2.1 z939).2)))))) (fun z940 => And.intro (And.intro (of_decide_eq_true rfl) rfl) (And.intro (And.intro (of_decide_eq_true rfl) rfl) (And.intro (Or.inl (And.intro (of_decide_eq_true rfl) (Exists.intro _ (And.intro rfl ((h.2 (w_B01_n.mp z938)).1))))) (And.intro (And.intro (ev_ok ((h.2 (w_B01_n.mp z938)).1)).1 (And.intro (ev_ok ((h.2 (w_B01_n.mp z938)).1)).2 ((((h.2 (w_B01_n.mp z938)).2.2 z940).1)))) (And.intro trivial (((h.2 (w_B01_n.mp z938)).2.2 z940).2)))))))))))))
set_option maxHeartbeats 4000000 in
theorem vX7_fail (e : Int32) (i : Int32) (μ : wM) (h : pX7_fail e i μ) (K : wK) (hK : w_cl 7 gX7_fail shX rfX 43 (some .int) (qX7_fail e i μ) tX7_fail K) : K 0 [some (.ref 0), some (.int e), some (.int i), none] [] μ := by
  refine hK uX7_fail 25 _ _ _ _ (vcX7_fail_0 K _ e i μ ?_)
  clear hK
  unfold pX7_fail at h
  unfold w_IX at h
  refine And.intro (fun z30 => ?_) (fun z30 => ?_)
  · unfold qX7_fail fX7_fail
    rw [if_neg (by rw [z30]; exact Bool.false_ne_true)]
    exact ⟨rfl, rfl⟩
  · refine And.intro (by first | exact tk9 (by assumption) | exact has_in h.1.1 (by assumption) | exact in9 (by assumption) | exact in3 (by assumption) | exact in2 (by assumption) | exact nfull_in h.1.1 (by assumption) | exact nfull2_in h.1.2.1 (by assumption) | exact evp (has_in h.1.1 (by assumption)) | exact h.1.2.1 | (simp_all; done)) ?_
    refine And.intro (fun z31 => ?_) (fun z31 => ?_)
    · refine And.intro (by first | exact tk9 (by assumption) | exact has_in h.1.1 (by assumption) | exact in9 (by assumption) | exact in3 (by assumption) | exact in2 (by assumption) | exact nfull_in h.1.1 (by assumption) | exact nfull2_in h.1.2.1 (by assumption) | exact evp (has_in h.1.1 (by assumption)) | exact h.1.2.1 | (simp_all; done)) ?_
      unfold qX7_fail fX7_fail
      rw [if_pos z30, if_pos z31]
      exact ⟨rfl, rfl⟩
    · refine And.intro (by first | exact tk9 (by assumption) | exact has_in h.1.1 (by assumption) | exact in9 (by assumption) | exact in3 (by assumption) | exact in2 (by assumption) | exact nfull_in h.1.1 (by assumption) | exact nfull2_in h.1.2.1 (by assumption) | exact evp (has_in h.1.1 (by assumption)) | exact h.1.2.1 | (simp_all; done)) ?_
      unfold qX7_fail fX7_fail
      rw [if_pos z30, if_neg z31]
      exact ⟨rfl, rfl⟩
set_option maxRecDepth 100000 in
theorem zX7_fail (l : Launch) : ∀ (idx : Nat) (S : wS), gX7_fail idx = some S → w_Call l 7 idx S 2 shX rfX 43 := by
  intro idx S hS
  unfold gX7_fail at hS
  split at hS
  · cases hS
    exact w_callV (ci := 3) (mX3_has l) (by decide) rX3_has eX3_has.1 (by decide +kernel) eX3_has.2.1 eX3_has.2.2.1 eX3_has.2.2.2 (by decide +kernel) (by decide) (by decide)
  · cases hS
theorem mX7_fail (l : Launch) : w_Met l yX7_fail cX7_fail 4 (some .int) 2 shX rfX 43 sX7_fail.2.2.2.1 sX7_fail.2.2.2.2 :=
  w_meth (o := 7) (Γ := gX7_fail) (tb := tX7_fail) (by decide +kernel) rfl kX7_fail rfl (zX7_fail l) (fun as μ h => by obtain ⟨e, i, rfl, h⟩ := h; exact Nat.le_of_ble_eq_true rfl) (fun as μ h K hK => by obtain ⟨e, i, rfl, h⟩ := h; exact vX7_fail e i μ h K hK)
set_option maxRecDepth 100000 in
theorem eX7_fail : Cond.code yX7_fail cX7_fail 4 (some .int) ∈ w_tbl ∧ Cond.instanceMethod yX7_fail ∈ w_tbl ∧ Cond.selects (w_C 7) yX7_fail yX7_fail ∈ w_tbl ∧ Cond.initialized yX7_fail.cls ∈ w_tbl := ⟨by decide +kernel, by decide +kernel, by decide +kernel, by decide +kernel⟩
theorem rX7_fail : ∀ as μ, sX7_fail.2.2.2.1 as μ → ∃ q as', as = .ref q :: as' ∧ q < 43 ∧ shX q = .inl 7 := by
  intro as μ h
  obtain ⟨e, i, rfl, h⟩ := h
  exact ⟨_, _, rfl, by decide, rfl⟩

def fX7_purse (e : Int32) (p : Int32) (μ : wM) : Int32 × wM := (if (w_hasB (μ 1 1) e) = true then (if (w_inB p 0 100000) = true then ((μ (Int32.toNatClampNeg e + 27) 5), (w_up μ (Int32.toNatClampNeg e + 27) 5 p)) else ((-1), μ)) else ((-1), μ))
/-! X7_purse -/
def pX7_purse (e : Int32) (p : Int32) (μ : wM) : Prop := w_IX μ
def qX7_purse (e : Int32) (p : Int32) (μ : wM) (r : Int32) (μ' : wM) : Prop := r = (fX7_purse e p μ).1 ∧ μ' = (fX7_purse e p μ).2
def sX7_purse : wS := (false, false, 3, fun as μ => ∃ e, ∃ p, as = [.ref 0, .int e, .int p] ∧ pX7_purse e p μ, fun as μ r μ' => match as with
  | [.ref _, .int e, .int p] => qX7_purse e p μ r μ'
  | _ => False)
def gX7_purse : Nat → Option wS := fun k => match k with
  | 55 => some sX7_within
  | 67 => some sX3_has
  | _ => none
def uX7_purse : Nat → Option (List Nat) := fun _ => none
set_option maxHeartbeats 4000000 in
set_option maxRecDepth 100000 in
theorem vcX7_purse_0 (K : wK) (R : Int32 → wM → Prop) (e : Int32) (p : Int32) (μ : wM) (h : (
    ((w_hasB (μ 1 1) e) = false → R (-1) μ) ∧
    ((w_hasB (μ 1 1) e) = true → (
      ((w_inB p 0 100000) = false → R (-1) μ) ∧
      ((w_inB p 0 100000) = true → (vp_in e 8) ∧ R (μ (Int32.toNatClampNeg e + 27) 5) (w_up μ (Int32.toNatClampNeg e + 27) 5 p)))))) : w_n 7 gX7_purse shX rfX 43 (some .int) R tX7_purse uX7_purse K 27 0 [some (.ref 0), some (.int e), some (.int p), none] [] μ :=
  And.intro (And.intro (of_decide_eq_true rfl) rfl) (And.intro (Exists.intro _ (And.intro rfl (trivial))) (fun _ _ z953 => by obtain ⟨z951, z952⟩ := z953; have z951 := z951.symm; have z952 := z952.symm; subst z951; subst z952; exact And.intro (fun z954 => And.intro trivial ((h.1 (w_B01_0.mp z954)))) (fun z955 => And.intro (Exists.intro _ (Exists.intro _ (Exists.intro _ (And.intro rfl (trivial))))) (fun _ _ z958 => by obtain ⟨z956, z957⟩ := z958; have z956 := z956.symm; have z957 := z957.symm; subst z956; subst z957; exact And.intro (fun z959 => And.intro trivial (((h.2 (w_B01_n.mp z955)).1 (w_B01_0.mp z959)))) (fun z960 => And.intro (And.intro (of_decide_eq_true rfl) rfl) (And.intro (And.intro (of_decide_eq_true rfl) rfl) (And.intro (Or.inl (And.intro (of_decide_eq_true rfl) (Exists.intro _ (And.intro rfl (((h.2 (w_B01_n.mp z955)).2 (w_B01_n.mp z960)).1))))) (And.intro (ev_ok (((h.2 (w_B01_n.mp z955)).2 (w_B01_n.mp z960)).1)) (And.intro (And.intro (of_decide_eq_true rfl) rfl) (And.intro (And.intro (of_decide_eq_true rfl) rfl) (And.intro (Or.inl (And.intro (of_decide_eq_true rfl) (Exists.intro _ (And.intro rfl (((h.2 (w_B01_n.mp z955)).2 (w_B01_n.mp z960)).1))))) (And.intro (And.intro (ev_ok (((h.2 (w_B01_n.mp z955)).2 (w_B01_n.mp z960)).1)).1 (And.intro (ev_ok (((h.2 (w_B01_n.mp z955)).2 (w_B01_n.mp z960)).1)).2 (trivial))) (And.intro trivial (((h.2 (w_B01_n.mp z955)).2 (w_B01_n.mp z960)).2))))))))))))))
set_option maxHeartbeats 4000000 in
theorem vX7_purse (e : Int32) (p : Int32) (μ : wM) (h : pX7_purse e p μ) (K : wK) (hK : w_cl 7 gX7_purse shX rfX 43 (some .int) (qX7_purse e p μ) tX7_purse K) : K 0 [some (.ref 0), some (.int e), some (.int p), none] [] μ := by
  refine hK uX7_purse 27 _ _ _ _ (vcX7_purse_0 K _ e p μ ?_)
  clear hK
  unfold pX7_purse at h
  unfold w_IX at h
  refine And.intro (fun z32 => ?_) (fun z32 => ?_)
  · unfold qX7_purse fX7_purse
    rw [if_neg (by rw [z32]; exact Bool.false_ne_true)]
    exact ⟨rfl, rfl⟩
  · refine And.intro (fun z33 => ?_) (fun z33 => ?_)
    · unfold qX7_purse fX7_purse
      rw [if_pos z32, if_neg (by rw [z33]; exact Bool.false_ne_true)]
      exact ⟨rfl, rfl⟩
    · refine And.intro (by first | exact tk9 (by assumption) | exact has_in h.1 (by assumption) | exact in9 (by assumption) | exact in3 (by assumption) | exact in2 (by assumption) | exact nfull_in h.1 (by assumption) | exact nfull2_in h.2.1 (by assumption) | exact evp (has_in h.1 (by assumption)) | exact h.2.1 | (simp_all; done)) ?_
      unfold qX7_purse fX7_purse
      rw [if_pos z32, if_pos z33]
      exact ⟨rfl, rfl⟩
set_option maxRecDepth 100000 in
theorem zX7_purse (l : Launch) : ∀ (idx : Nat) (S : wS), gX7_purse idx = some S → w_Call l 7 idx S 2 shX rfX 43 := by
  intro idx S hS
  unfold gX7_purse at hS
  split at hS
  · cases hS
    exact w_callS (mX7_within l) eX7_within.1 (by decide +kernel) eX7_within.2.1 eX7_within.2.2 (by decide +kernel) (by decide) (by decide)
  · cases hS
    exact w_callV (ci := 3) (mX3_has l) (by decide) rX3_has eX3_has.1 (by decide +kernel) eX3_has.2.1 eX3_has.2.2.1 eX3_has.2.2.2 (by decide +kernel) (by decide) (by decide)
  · cases hS
theorem mX7_purse (l : Launch) : w_Met l yX7_purse cX7_purse 4 (some .int) 2 shX rfX 43 sX7_purse.2.2.2.1 sX7_purse.2.2.2.2 :=
  w_meth (o := 7) (Γ := gX7_purse) (tb := tX7_purse) (by decide +kernel) rfl kX7_purse rfl (zX7_purse l) (fun as μ h => by obtain ⟨e, p, rfl, h⟩ := h; exact Nat.le_of_ble_eq_true rfl) (fun as μ h K hK => by obtain ⟨e, p, rfl, h⟩ := h; exact vX7_purse e p μ h K hK)
set_option maxRecDepth 100000 in
theorem eX7_purse : Cond.code yX7_purse cX7_purse 4 (some .int) ∈ w_tbl ∧ Cond.instanceMethod yX7_purse ∈ w_tbl ∧ Cond.selects (w_C 7) yX7_purse yX7_purse ∈ w_tbl ∧ Cond.initialized yX7_purse.cls ∈ w_tbl := ⟨by decide +kernel, by decide +kernel, by decide +kernel, by decide +kernel⟩
theorem rX7_purse : ∀ as μ, sX7_purse.2.2.2.1 as μ → ∃ q as', as = .ref q :: as' ∧ q < 43 ∧ shX q = .inl 7 := by
  intro as μ h
  obtain ⟨e, p, rfl, h⟩ := h
  exact ⟨_, _, rfl, by decide, rfl⟩
