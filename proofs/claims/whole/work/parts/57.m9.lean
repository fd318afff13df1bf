def w_zr (μ : wM) (S k : Nat) : wM := fun p j => if p = 23 ∧ 60 * S ≤ j ∧ j < 60 * S + k then 0 else μ p j
theorem w_zr_s (μ : wM) (S k : Nat) : w_up (w_zr μ S k) 23 (60 * S + k) 0 = w_zr μ S (k + 1) := by
  funext p j
  unfold w_up w_zr
  by_cases c : p = 23 ∧ j = 60 * S + k
  · rw [if_pos c, if_pos (by omega)]
  · rw [if_neg c]
    by_cases c2 : p = 23 ∧ 60 * S ≤ j ∧ j < 60 * S + k
    · rw [if_pos c2, if_pos (by omega)]
    · rw [if_neg c2, if_neg (by omega)]
theorem w_zr_0 (μ : wM) (S : Nat) : w_zr μ S 0 = μ := by
  funext p j
  unfold w_zr
  rw [if_neg (by omega)]
theorem jx600 (S K : Nat) : 60 * nI S + nI K = nI (60 * S + K) := by rw [show (60 : Int32) = nI 60 from rfl, pk_mul, nI_add]
def wm_stF2 (μ : wM) (s a n : Int32) : Int32 × wM := if w_inB s 0 3 = true ∧ w_inB a 0 2 = true ∧ n ≤ 60 then (if 0 ≤ n then (n, w_zr (w_up (w_up μ 21 s.toNatClampNeg a) 22 s.toNatClampNeg n) s.toNatClampNeg 60) else (-14, μ)) else (-1, μ)
/-! X8_sheet -/
def pX8_sheet (s : Int32) (a : Int32) (n : Int32) (μ : wM) : Prop := True
def qX8_sheet (s : Int32) (a : Int32) (n : Int32) (μ : wM) (r : Int32) (μ' : wM) : Prop := r = (wm_stF2 μ s a n).1 ∧ μ' = (wm_stF2 μ s a n).2
def sX8_sheet : wS := (false, false, 4, fun as μ => ∃ s, ∃ a, ∃ n, as = [.ref 0, .int s, .int a, .int n] ∧ pX8_sheet s a n μ, fun as μ r μ' => match as with
  | [.ref _, .int s, .int a, .int n] => qX8_sheet s a n μ r μ'
  | _ => False)
def gX8_sheet : Nat → Option wS := fun k => match k with
  | 1 => some sX8_in
  | 170 => some sX8_isSheet
  | _ => none
def uX8_sheet : Nat → Option (List Nat) := fun j => match j with | 29 => some [] | _ => none
set_option maxHeartbeats 4000000 in
set_option maxRecDepth 100000 in
theorem vcX8_sheet_0 (K : wK) (R : Int32 → wM → Prop) (s : Int32) (a : Int32) (n : Int32) (μ : wM) (h : (
    ((w_inB s 0 3) = false → R (-1) μ) ∧
    ((w_inB s 0 3) = true → (
      ((w_inB a 0 2) = false → R (-1) μ) ∧
      ((w_inB a 0 2) = true → (
        (((n : Int32) ≤ 60) → (
          (((0 : Int32) ≤ n) → (vp_in s 4) ∧ (∀ (m5 : wM), m5 = (w_up (w_up μ 21 (s : Int32).toNatClampNeg a) 22 (s : Int32).toNatClampNeg n) → K 29 [some (.ref 0), some (.int s), some (.int a), some (.int n), some (.int 0)] [] m5)) ∧
          (¬ ((0 : Int32) ≤ n) → R (-14) μ))) ∧
        (¬ ((n : Int32) ≤ 60) → R (-1) μ))))))) : w_n 8 gX8_sheet shM rfM 32 (some .int) R tX8_sheet uX8_sheet K 27 0 [some (.ref 0), some (.int s), some (.int a), some (.int n), none] [] μ :=
  And.intro (Exists.intro _ (And.intro rfl (trivial))) (fun _ _ z2967 => by obtain ⟨z2965, z2966⟩ := z2967; have z2965 := z2965.symm; have z2966 := z2966.symm; subst z2965; subst z2966; exact And.intro (fun z2968 => And.intro trivial ((h.1 (w_B01_0.mp z2968)))) (fun z2969 => And.intro (Exists.intro _ (Exists.intro _ (Exists.intro _ (And.intro rfl (trivial))))) (fun _ _ z2972 => by obtain ⟨z2970, z2971⟩ := z2972; have z2970 := z2970.symm; have z2971 := z2971.symm; subst z2970; subst z2971; exact And.intro (fun z2973 => And.intro trivial (((h.2 (w_B01_n.mp z2969)).1 (w_B01_0.mp z2973)))) (fun z2974 => And.intro (fun z2975 => And.intro (fun z2977 => And.intro (And.intro (of_decide_eq_true rfl) rfl) (And.intro (And.intro (of_decide_eq_true rfl) (Exists.intro _ (And.intro rfl (((((h.2 (w_B01_n.mp z2969)).2 (w_B01_n.mp z2974)).1 z2975).1 z2977).1)))) (And.intro (And.intro (of_decide_eq_true rfl) rfl) (And.intro (And.intro (of_decide_eq_true rfl) (Exists.intro _ (And.intro rfl (((((h.2 (w_B01_n.mp z2969)).2 (w_B01_n.mp z2974)).1 z2975).1 z2977).1)))) ((((((h.2 (w_B01_n.mp z2969)).2 (w_B01_n.mp z2974)).1 z2975).1 z2977).2 _ rfl)))))) (fun z2978 => And.intro trivial (((((h.2 (w_B01_n.mp z2969)).2 (w_B01_n.mp z2974)).1 z2975).2 z2978)))) (fun z2976 => And.intro trivial ((((h.2 (w_B01_n.mp z2969)).2 (w_B01_n.mp z2974)).2 z2976)))))))
set_option maxHeartbeats 4000000 in
set_option maxRecDepth 100000 in
theorem vcX8_sheet_29 (K : wK) (R : Int32 → wM → Prop) (s : Int32) (a : Int32) (n : Int32) (l4 : Int32) (μ : wM) (h : (
    (((60 : Int32) ≤ l4) → R n μ) ∧
    (¬ ((60 : Int32) ≤ l4) → (vp_in ((60 * s) + l4) 240) ∧ K 29 [some (.ref 0), some (.int s), some (.int a), some (.int n), some (.int (l4 + 1))] [] (w_up μ 23 (((60 * s) + l4) : Int32).toNatClampNeg 0)))) : w_n 8 gX8_sheet shM rfM 32 (some .int) R tX8_sheet uX8_sheet K 27 29 [some (.ref 0), some (.int s), some (.int a), some (.int n), some (.int l4)] [] μ :=
  And.intro (fun z2979 => And.intro trivial ((h.1 z2979))) (fun z2980 => And.intro (And.intro (of_decide_eq_true rfl) rfl) (And.intro (And.intro (of_decide_eq_true rfl) (Exists.intro _ (And.intro rfl ((h.2 z2980).1)))) ((h.2 z2980).2)))
set_option maxHeartbeats 4000000 in
theorem vX8_sheet (s : Int32) (a : Int32) (n : Int32) (μ : wM) (h : pX8_sheet s a n μ) (K : wK) (hK : w_cl 8 gX8_sheet shM rfM 32 (some .int) (qX8_sheet s a n μ) tX8_sheet K) : K 0 [some (.ref 0), some (.int s), some (.int a), some (.int n), none] [] μ := by
  unfold pX8_sheet at h
  refine hK uX8_sheet 27 _ _ _ _ (vcX8_sheet_0 K _ s a n μ ?_)
  unfold qX8_sheet wm_stF2
  refine ⟨fun c => by rw [if_neg (by rw [c]; simp)]; exact ⟨rfl, rfl⟩, fun c => ⟨fun c1 => by rw [if_neg (by rw [c1]; simp)]; exact ⟨rfl, rfl⟩, fun c1 => ⟨fun c2 => ⟨fun c3 => ⟨in3 c, fun m5 hm5 => ?_⟩, fun c3 => by rw [if_pos ⟨c, c1, c2⟩, if_neg c3]; exact ⟨rfl, rfl⟩⟩, fun c2 => by rw [if_neg (fun z => c2 z.2.2)]; exact ⟨rfl, rfl⟩⟩⟩⟩
  obtain ⟨S, hS, rfl, hSc⟩ := vp_in_le (in3 c) (by decide)
  rw [hSc] at hm5
  have loop : ∀ (d i : Nat), i + d = 60 → K 29 [some (.ref 0), some (.int (nI S)), some (.int a), some (.int n), some (.int (nI i))] [] (w_zr m5 S i) := by
    intro d
    induction d with
    | zero =>
      intro i hi
      have hi6 : i = 60 := by omega
      subst hi6
      refine hK uX8_sheet 27 _ _ _ _ (vcX8_sheet_29 K _ (nI S) a n (nI 60) (w_zr m5 S 60) ?_)
      refine ⟨fun _ => ?_, fun z => absurd (by decide) z⟩
      unfold qX8_sheet wm_stF2
      rw [if_pos ⟨c, c1, c2⟩, if_pos c3, hSc, hm5]
      exact ⟨rfl, rfl⟩
    | succ d ih =>
      intro i hi
      refine hK uX8_sheet 27 _ _ _ _ (vcX8_sheet_29 K _ (nI S) a n (nI i) (w_zr m5 S i) ?_)
      rw [jx600, nI_clamp (show 60 * S + i < 2 ^ 31 by omega), nI_1, w_zr_s]
      exact ⟨fun z => absurd z (nI_ge (b := 60) (by omega) (by omega)), fun _ => ⟨vp_in_nI (by omega) (by omega), ih (i + 1) (by omega)⟩⟩
  have z := loop 60 0 rfl
  rw [w_zr_0] at z
  exact z
set_option maxRecDepth 100000 in
theorem zX8_sheet (l : Launch) : ∀ (idx : Nat) (S : wS), gX8_sheet idx = some S → w_Call l 8 idx S 3 shM rfM 32 := by
  intro idx S hS
  unfold gX8_sheet at hS
  split at hS
  · cases hS
    exact w_callS (mX8_in l) eX8_in.1 (by decide +kernel) eX8_in.2.1 eX8_in.2.2 (by decide +kernel) (by decide) (by decide)
  · cases hS
    exact w_callS (mX8_isSheet l) eX8_isSheet.1 (by decide +kernel) eX8_isSheet.2.1 eX8_isSheet.2.2 (by decide +kernel) (by decide) (by decide)
  · cases hS
theorem mX8_sheet (l : Launch) : w_Met l yX8_sheet cX8_sheet 5 (some .int) 3 shM rfM 32 sX8_sheet.2.2.2.1 sX8_sheet.2.2.2.2 :=
  w_meth (o := 8) (Γ := gX8_sheet) (tb := tX8_sheet) (by decide +kernel) rfl kX8_sheet rfl (zX8_sheet l) (fun as μ h => by obtain ⟨s, a, n, rfl, h⟩ := h; exact Nat.le_of_ble_eq_true rfl) (fun as μ h K hK => by obtain ⟨s, a, n, rfl, h⟩ := h; exact vX8_sheet s a n μ h K hK)
set_option maxRecDepth 100000 in
theorem eX8_sheet : Cond.code yX8_sheet cX8_sheet 5 (some .int) ∈ w_tbl ∧ Cond.instanceMethod yX8_sheet ∈ w_tbl ∧ Cond.selects (w_C 8) yX8_sheet yX8_sheet ∈ w_tbl ∧ Cond.initialized yX8_sheet.cls ∈ w_tbl := ⟨by decide +kernel, by decide +kernel, by decide +kernel, by decide +kernel⟩
theorem rX8_sheet : ∀ as μ, sX8_sheet.2.2.2.1 as μ → ∃ q as', as = .ref q :: as' ∧ q < 32 ∧ shM q = .inl 8 := by
  intro as μ h
  obtain ⟨s, a, n, rfl, h⟩ := h
  exact ⟨_, _, rfl, by decide, rfl⟩

def w_JS (μ : wM) : Prop := ∀ s, s < 4 → vp_in (μ 22 s) 61
theorem it_in2 {μ : wM} (h : w_JS μ) {s i : Int32} (zs : w_inB s 0 3 = true) (zi : w_inB i 0 (μ 22 s.toNatClampNeg - 1) = true) : vp_in (60 * s + i) 240 := by
  obtain ⟨S, hS, rfl, hSc⟩ := vp_in_le (in3 zs) (by decide)
  obtain ⟨Z, hZ, hZn, -⟩ := vp_in_le (h S hS) (by decide)
  rw [hSc, hZn] at zi
  obtain ⟨z1, z2⟩ := w_inB_t.mp zi
  obtain ⟨I, hI, rfl⟩ := nI_of (i_nlt.mpr z1)
  cases Z with
  | zero =>
    exfalso
    have q := i_le.mp z2
    rw [nI_toInt hI, show (nI 0 - 1 : Int32).toInt = -1 from by decide] at q
    omega
  | succ Z =>
    rw [nI_pred] at z2
    have := (nI_leI hI (by omega)).mp z2
    rw [jx600]
    exact vp_in_nI (by omega) (by omega)
def fX8_item (s : Int32) (a : Int32) (i : Int32) (v : Int32) (μ : wM) : Int32 × wM := (if (w_inB s 0 3) = true then (if (w_inB a 0 2) = true then (if ((0 : Int32) ≤ (μ 21 (s : Int32).toNatClampNeg)) then (if (((μ 21 (s : Int32).toNatClampNeg) : Int32) = a) then (if (w_inB i 0 ((μ 22 (s : Int32).toNatClampNeg) - 1)) = true then (if ((a : Int32) = 0) then (1, (w_up μ 23 (((60 * s) + i) : Int32).toNatClampNeg ((v : Int32).toInt8.toInt32))) else (if ((a : Int32) = 1) then (1, (w_up μ 23 (((60 * s) + i) : Int32).toNatClampNeg ((v : Int32).toInt16.toInt32))) else (1, (w_up μ 23 (((60 * s) + i) : Int32).toNatClampNeg v)))) else ((-13), μ)) else ((-12), μ)) else ((-11), μ)) else ((-1), μ)) else ((-1), μ))
/-! X8_item -/
def pX8_item (s : Int32) (a : Int32) (i : Int32) (v : Int32) (μ : wM) : Prop := w_JS μ
def qX8_item (s : Int32) (a : Int32) (i : Int32) (v : Int32) (μ : wM) (r : Int32) (μ' : wM) : Prop := r = (fX8_item s a i v μ).1 ∧ μ' = (fX8_item s a i v μ).2
def sX8_item : wS := (false, false, 5, fun as μ => ∃ s, ∃ a, ∃ i, ∃ v, as = [.ref 0, .int s, .int a, .int i, .int v] ∧ pX8_item s a i v μ, fun as μ r μ' => match as with
  | [.ref _, .int s, .int a, .int i, .int v] => qX8_item s a i v μ r μ'
  | _ => False)
def gX8_item : Nat → Option wS := fun k => match k with
  | 1 => some sX8_in
  | 170 => some sX8_isSheet
  | _ => none
def uX8_item : Nat → Option (List Nat) := fun _ => none
set_option maxHeartbeats 4000000 in
set_option maxRecDepth 100000 in
theorem vcX8_item_0 (K : wK) (R : Int32 → wM → Prop) (s : Int32) (a : Int32) (i : Int32) (v : Int32) (μ : wM) (h : (
    ((w_inB s 0 3) = false → R (-1) μ) ∧
    ((w_inB s 0 3) = true → (
      ((w_inB a 0 2) = false → R (-1) μ) ∧
      ((w_inB a 0 2) = true → (vp_in s 4) ∧ (
        (((0 : Int32) ≤ (μ 21 (s : Int32).toNatClampNeg)) → (
          ((((μ 21 (s : Int32).toNatClampNeg) : Int32) = a) → (
            ((w_inB i 0 ((μ 22 (s : Int32).toNatClampNeg) - 1)) = false → R (-13) μ) ∧
            ((w_inB i 0 ((μ 22 (s : Int32).toNatClampNeg) - 1)) = true → (
              (((a : Int32) = 0) → (vp_in ((60 * s) + i) 240) ∧ R 1 (w_up μ 23 (((60 * s) + i) : Int32).toNatClampNeg ((v : Int32).toInt8.toInt32))) ∧
              (¬ ((a : Int32) = 0) → (
                (((a : Int32) = 1) → (vp_in ((60 * s) + i) 240) ∧ R 1 (w_up μ 23 (((60 * s) + i) : Int32).toNatClampNeg ((v : Int32).toInt16.toInt32))) ∧
                (¬ ((a : Int32) = 1) → (vp_in ((60 * s) + i) 240) ∧ R 1 (w_up μ 23 (((60 * s) + i) : Int32).toNatClampNeg v)))))))) ∧
          (¬ (((μ 21 (s : Int32).toNatClampNeg) : Int32) = a) → R (-12) μ))) ∧
        (¬ ((0 : Int32) ≤ (μ 21 (s : Int32).toNatClampNeg)) → R (-11) μ))))))) : w_n 8 gX8_item shM rfM 32 (some .int) R tX8_item uX8_item K 48 0 [some (.ref 0), some (.int s), some (.int a), some (.int i), some (.int v)] [] μ :=
  And.intro (Exists.intro _ (And.intro rfl (trivial))) (fun _ _ z3006 => by obtain ⟨z3004, z3005⟩ := z3006; have z3004 := z3004.symm; have z3005 := z3005.symm; subst z3004; subst z3005; exact And.intro (fun z3007 => And.intro trivial ((h.1 (w_B01_0.mp z3007)))) (fun z3008 => And.intro (Exists.intro _ (Exists.intro _ (Exists.intro _ (And.intro rfl (trivial))))) (fun _ _ z3011 => by obtain ⟨z3009, z3010⟩ := z3011; have z3009 := z3009.symm; have z3010 := z3010.symm; subst z3009; subst z3010; exact And.intro (fun z3012 => And.intro trivial (((h.2 (w_B01_n.mp z3008)).1 (w_B01_0.mp z3012)))) (fun z3013 => And.intro (And.intro (of_decide_eq_true rfl) rfl) (And.intro (And.intro (of_decide_eq_true rfl) (Exists.intro _ (And.intro rfl (((h.2 (w_B01_n.mp z3008)).2 (w_B01_n.mp z3013)).1)))) (And.intro (fun z3014 => And.intro (And.intro (of_decide_eq_true rfl) rfl) (And.intro (And.intro (of_decide_eq_true rfl) (Exists.intro _ (And.intro rfl (((h.2 (w_B01_n.mp z3008)).2 (w_B01_n.mp z3013)).1)))) (And.intro (fun z3016 => And.intro (And.intro (of_decide_eq_true rfl) rfl) (And.intro (And.intro (of_decide_eq_true rfl) (Exists.intro _ (And.intro rfl (((h.2 (w_B01_n.mp z3008)).2 (w_B01_n.mp z3013)).1)))) (And.intro (Exists.intro _ (Exists.intro _ (Exists.intro _ (And.intro rfl (trivial))))) (fun _ _ z3020 => by obtain ⟨z3018, z3019⟩ := z3020; have z3018 := z3018.symm; have z3019 := z3019.symm; subst z3018; subst z3019; exact And.intro (fun z3021 => And.intro trivial ((((((h.2 (w_B01_n.mp z3008)).2 (w_B01_n.mp z3013)).2.1 z3014).1 z3016).1 (w_B01_0.mp z3021)))) (fun z3022 => And.intro (And.intro (of_decide_eq_true rfl) rfl) (And.intro (fun z3023 => And.intro (And.intro (of_decide_eq_true rfl) (Exists.intro _ (And.intro rfl (((((((h.2 (w_B01_n.mp z3008)).2 (w_B01_n.mp z3013)).2.1 z3014).1 z3016).2 (w_B01_n.mp z3022)).1 z3023).1)))) (And.intro trivial (((((((h.2 (w_B01_n.mp z3008)).2 (w_B01_n.mp z3013)).2.1 z3014).1 z3016).2 (w_B01_n.mp z3022)).1 z3023).2))) (fun z3024 => And.intro (fun z3025 => And.intro (And.intro (of_decide_eq_true rfl) (Exists.intro _ (And.intro rfl ((((((((h.2 (w_B01_n.mp z3008)).2 (w_B01_n.mp z3013)).2.1 z3014).1 z3016).2 (w_B01_n.mp z3022)).2 z3024).1 z3025).1)))) (And.intro trivial ((((((((h.2 (w_B01_n.mp z3008)).2 (w_B01_n.mp z3013)).2.1 z3014).1 z3016).2 (w_B01_n.mp z3022)).2 z3024).1 z3025).2))) (fun z3026 => And.intro (And.intro (of_decide_eq_true rfl) (Exists.intro _ (And.intro rfl ((((((((h.2 (w_B01_n.mp z3008)).2 (w_B01_n.mp z3013)).2.1 z3014).1 z3016).2 (w_B01_n.mp z3022)).2 z3024).2 z3026).1)))) (And.intro trivial ((((((((h.2 (w_B01_n.mp z3008)).2 (w_B01_n.mp z3013)).2.1 z3014).1 z3016).2 (w_B01_n.mp z3022)).2 z3024).2 z3026).2)))))))))) (fun z3017 => And.intro trivial (((((h.2 (w_B01_n.mp z3008)).2 (w_B01_n.mp z3013)).2.1 z3014).2 z3017)))))) (fun z3015 => And.intro trivial ((((h.2 (w_B01_n.mp z3008)).2 (w_B01_n.mp z3013)).2.2 z3015)))))))))
set_option maxHeartbeats 4000000 in
theorem vX8_item (s : Int32) (a : Int32) (i : Int32) (v : Int32) (μ : wM) (h : pX8_item s a i v μ) (K : wK) (hK : w_cl 8 gX8_item shM rfM 32 (some .int) (qX8_item s a i v μ) tX8_item K) : K 0 [some (.ref 0), some (.int s), some (.int a), some (.int i), some (.int v)] [] μ := by
  refine hK uX8_item 48 _ _ _ _ (vcX8_item_0 K _ s a i v μ ?_)
  clear hK
  unfold pX8_item at h
  have h0 := h
  refine And.intro (fun z103 => ?_) (fun z103 => ?_)
  · unfold qX8_item fX8_item
    rw [if_neg (by rw [z103]; exact Bool.false_ne_true)]
    exact ⟨rfl, rfl⟩
  · refine And.intro (fun z104 => ?_) (fun z104 => ?_)
    · unfold qX8_item fX8_item
      rw [if_pos z103, if_neg (by rw [z104]; exact Bool.false_ne_true)]
      exact ⟨rfl, rfl⟩
    · refine And.intro (by exact in3 (by assumption)) ?_
      refine And.intro (fun z105 => ?_) (fun z105 => ?_)
      · refine And.intro (fun z106 => ?_) (fun z106 => ?_)
        · refine And.intro (fun z107 => ?_) (fun z107 => ?_)
          · unfold qX8_item fX8_item
            rw [if_pos z103, if_pos z104, if_pos z105, if_pos z106, if_neg (by rw [z107]; exact Bool.false_ne_true)]
            exact ⟨rfl, rfl⟩
          · refine And.intro (fun z108 => ?_) (fun z108 => ?_)
            · refine And.intro (by exact it_in2 h0 (by assumption) (by assumption)) ?_
              unfold qX8_item fX8_item
              rw [if_pos z103, if_pos z104, if_pos z105, if_pos z106, if_pos z107, if_pos z108]
              exact ⟨rfl, rfl⟩
            · refine And.intro (fun z109 => ?_) (fun z109 => ?_)
              · refine And.intro (by exact it_in2 h0 (by assumption) (by assumption)) ?_
                unfold qX8_item fX8_item
                rw [if_pos z103, if_pos z104, if_pos z105, if_pos z106, if_pos z107, if_neg z108, if_pos z109]
                exact ⟨rfl, rfl⟩
              · refine And.intro (by exact it_in2 h0 (by assumption) (by assumption)) ?_
                unfold qX8_item fX8_item
                rw [if_pos z103, if_pos z104, if_pos z105, if_pos z106, if_pos z107, if_neg z108, if_neg z109]
                exact ⟨rfl, rfl⟩
        · unfold qX8_item fX8_item
          rw [if_pos z103, if_pos z104, if_pos z105, if_neg z106]
          exact ⟨rfl, rfl⟩
      · unfold qX8_item fX8_item
        rw [if_pos z103, if_pos z104, if_neg z105]
        exact ⟨rfl, rfl⟩
set_option maxRecDepth 100000 in
theorem zX8_item (l : Launch) : ∀ (idx : Nat) (S : wS), gX8_item idx = some S → w_Call l 8 idx S 3 shM rfM 32 := by
  intro idx S hS
  unfold gX8_item at hS
  split at hS
  · cases hS
    exact w_callS (mX8_in l) eX8_in.1 (by decide +kernel) eX8_in.2.1 eX8_in.2.2 (by decide +kernel) (by decide) (by decide)
  · cases hS
    exact w_callS (mX8_isSheet l) eX8_isSheet.1 (by decide +kernel) eX8_isSheet.2.1 eX8_isSheet.2.2 (by decide +kernel) (by decide) (by decide)
  · cases hS
theorem mX8_item (l : Launch) : w_Met l yX8_item cX8_item 5 (some .int) 3 shM rfM 32 sX8_item.2.2.2.1 sX8_item.2.2.2.2 :=
  w_meth (o := 8) (Γ := gX8_item) (tb := tX8_item) (by decide +kernel) rfl kX8_item rfl (zX8_item l) (fun as μ h => by obtain ⟨s, a, i, v, rfl, h⟩ := h; exact Nat.le_of_ble_eq_true rfl) (fun as μ h K hK => by obtain ⟨s, a, i, v, rfl, h⟩ := h; exact vX8_item s a i v μ h K hK)
set_option maxRecDepth 100000 in
theorem eX8_item : Cond.code yX8_item cX8_item 5 (some .int) ∈ w_tbl ∧ Cond.instanceMethod yX8_item ∈ w_tbl ∧ Cond.selects (w_C 8) yX8_item yX8_item ∈ w_tbl ∧ Cond.initialized yX8_item.cls ∈ w_tbl := ⟨by decide +kernel, by decide +kernel, by decide +kernel, by decide +kernel⟩
theorem rX8_item : ∀ as μ, sX8_item.2.2.2.1 as μ → ∃ q as', as = .ref q :: as' ∧ q < 32 ∧ shM q = .inl 8 := by
  intro as μ h
  obtain ⟨s, a, i, v, rfl, h⟩ := h
  exact ⟨_, _, rfl, by decide, rfl⟩

def wm_areT (μ : wM) (e : Int32) (S I n : Nat) : Bool := w_allB (fun k => w_tk1 (μ 1 e.toNatClampNeg) (μ 4 e.toNatClampNeg) (fun j => μ 23 (60 * S + j)) (I + k * w_wd (μ 1 e.toNatClampNeg))) n
def wm_put1 (μ : wM) (e : Int32) (S I : Nat) : wM := w_put μ e (μ 23 (60 * S + I)) (μ 23 (60 * S + (I + 1))) (if μ 1 e.toNatClampNeg = 1 then 0 else μ 23 (60 * S + (I + 2)))
def wm_puts (μ : wM) (e : Int32) (S I : Nat) : Nat → wM
  | 0 => μ
  | k + 1 => wm_put1 (wm_puts μ e S I k) e S (I + k * w_wd (μ 1 e.toNatClampNeg))
theorem w_put_o {μ : wM} {e x a b : Int32} {p : Nat} (h : p ≠ 0 ∧ p ≠ 17 ∧ p ≠ 18 ∧ p ≠ 19 ∧ p ≠ 20) : w_put μ e x a b p = μ p := by
  unfold w_put
  rw [w_up_o h.1, w_up_o h.2.2.2.2, w_up_o h.2.2.2.1, w_up_o h.2.2.1, w_up_o h.2.1]
theorem w_put_c {μ : wM} {e x a b : Int32} : w_put μ e x a b 0 22 = μ 0 22 + 1 := by
  unfold w_put
  rw [w_up_s, upd_in]
theorem w_put_0 {μ : wM} {e x a b : Int32} {j : Nat} (h : j ≠ 22) : w_put μ e x a b 0 j = μ 0 j := by
  unfold w_put
  rw [w_up_s, upd_out h, w_up_o (by decide), w_up_o (by decide), w_up_o (by decide), w_up_o (by decide)]
theorem wm_puts_o {μ : wM} {e : Int32} {S I p : Nat} (h : p ≠ 0 ∧ p ≠ 17 ∧ p ≠ 18 ∧ p ≠ 19 ∧ p ≠ 20) : ∀ k, wm_puts μ e S I k p = μ p := by
  intro k
  induction k with
  | zero => rfl
  | succ k ih => rw [wm_puts, wm_put1, w_put_o h, ih]
theorem wm_puts_c {μ : wM} {e : Int32} {S I C : Nat} (h : μ 0 22 = nI C) : ∀ k, wm_puts μ e S I k 0 22 = nI (C + k) := by
  intro k
  induction k with
  | zero => exact h
  | succ k ih => rw [wm_puts, wm_put1, w_put_c, ih, nI_1]; rfl
def wm_found (μ : wM) (S : Nat) (a i n : Int32) : Int32 := w_found (if 0 ≤ μ 21 S then 1 else 0) (μ 21 S) (μ 22 S) a i n
def wm_enF2 (μ : wM) (e s a i n : Int32) : Int32 × wM := if w_inB e 0 (μ 0 0 - 1) = true ∧ w_inB s 0 3 = true ∧ w_inB a 0 2 = true ∧ w_inB n 0 30 = true then
  (if wm_found μ s.toNatClampNeg a i (n * (if μ 1 e.toNatClampNeg = 1 then 2 else 3)) = 0 then (if wm_areT μ e s.toNatClampNeg i.toNatClampNeg n.toNatClampNeg = true then (if μ 0 22 + n ≤ 160 then (wm_puts μ e s.toNatClampNeg i.toNatClampNeg n.toNatClampNeg 0 22, wm_puts μ e s.toNatClampNeg i.toNatClampNeg n.toNatClampNeg) else (-3, μ)) else (-2, μ)) else (wm_found μ s.toNatClampNeg a i (n * (if μ 1 e.toNatClampNeg = 1 then 2 else 3)), μ)) else (-1, μ)
theorem en_cmp {I M S : Nat} (hI : I < 2 ^ 31) (hM : M < 200) (hS : S < 61) : (lg_cmp ((nI I).toInt64 + (nI M).toInt64) (nI S).toInt64 ≤ 0) ↔ ¬ (nI S - nI I < nI M) := by
  rw [lg_cmp_le, Int64.le_iff_toInt_le]
  have e1 : (nI I).toInt64.toInt = I := by rw [Int32.toInt_toInt64, nI_toInt hI]
  have e2 : (nI M).toInt64.toInt = M := by rw [Int32.toInt_toInt64, nI_toInt (by omega)]
  have e3 : (nI S).toInt64.toInt = S := by rw [Int32.toInt_toInt64, nI_toInt (by omega)]
  rw [fb_addL (by rw [e1, e2]; omega) (by rw [e1, e2]; omega), e1, e2, e3, i_lt, fb_subI (by rw [nI_toInt (by omega), nI_toInt hI]; omega) (by rw [nI_toInt (by omega), nI_toInt hI]; omega), nI_toInt (by omega), nI_toInt hI, nI_toInt (by omega)]
  omega
/-! X8_entries -/
def pX8_entries (e : Int32) (s : Int32) (a : Int32) (i : Int32) (n : Int32) (μ : wM) : Prop := w_JX μ ∧ w_JS μ
def qX8_entries (e : Int32) (s : Int32) (a : Int32) (i : Int32) (n : Int32) (μ : wM) (r : Int32) (μ' : wM) : Prop := r = (wm_enF2 μ e s a i n).1 ∧ μ' = (wm_enF2 μ e s a i n).2
def sX8_entries : wS := (false, false, 6, fun as μ => ∃ e, ∃ s, ∃ a, ∃ i, ∃ n, as = [.ref 0, .int e, .int s, .int a, .int i, .int n] ∧ pX8_entries e s a i n μ, fun as μ r μ' => match as with
  | [.ref _, .int e, .int s, .int a, .int i, .int n] => qX8_entries e s a i n μ r μ'
  | _ => False)
def gX8_entries : Nat → Option wS := fun k => match k with
  | 1 => some sX8_in
  | 121 => some sX8_isEvent
  | 162 => some sX8_isGood
  | 166 => some sX8_put
  | 170 => some sX8_isSheet
  | _ => none
def uX8_entries : Nat → Option (List Nat) := fun j => match j with | 64 => some [8] | 116 => some [8] | _ => none
set_option maxHeartbeats 4000000 in
set_option maxRecDepth 100000 in
theorem vcX8_entries_0 (K : wK) (R : Int32 → wM → Prop) (e : Int32) (s : Int32) (a : Int32) (i : Int32) (n : Int32) (μ : wM) (h : (
    ((w_inB e 0 (μ 0 0 - 1)) = false → R (-1) μ) ∧
    ((w_inB e 0 (μ 0 0 - 1)) = true → (
      ((w_inB s 0 3) = false → R (-1) μ) ∧
      ((w_inB s 0 3) = true → (
        ((w_inB a 0 2) = false → R (-1) μ) ∧
        ((w_inB a 0 2) = true → (
          ((w_inB n 0 30) = false → R (-1) μ) ∧
          ((w_inB n 0 30) = true → (vp_in s 4) ∧ (
            (((0 : Int32) ≤ (μ 21 (s : Int32).toNatClampNeg)) → (
              ((((μ 21 (s : Int32).toNatClampNeg) : Int32) = a) → (vp_in e 8) ∧ (
                ((((μ 1 (e : Int32).toNatClampNeg) : Int32) = 1) → (
                  (((i : Int32) < 0) → R (-13) μ) ∧
                  (¬ ((i : Int32) < 0) → (
                    ((((lg_cmp (((i : Int32).toInt64) + (((2 * n) : Int32).toInt64)) (((μ 22 (s : Int32).toNatClampNeg) : Int32).toInt64)) : Int32) ≤ 0) → K 64 [some (.ref 0), some (.int e), some (.int s), some (.int a), some (.int i), some (.int n), some (.int 2), some (.int 0), none] [] μ) ∧
                    (¬ (((lg_cmp (((i : Int32).toInt64) + (((2 * n) : Int32).toInt64)) (((μ 22 (s : Int32).toNatClampNeg) : Int32).toInt64)) : Int32) ≤ 0) → R (-13) μ))))) ∧
                (¬ (((μ 1 (e : Int32).toNatClampNeg) : Int32) = 1) → (
                  (((i : Int32) < 0) → R (-13) μ) ∧
                  (¬ ((i : Int32) < 0) → (
                    ((((lg_cmp (((i : Int32).toInt64) + (((3 * n) : Int32).toInt64)) (((μ 22 (s : Int32).toNatClampNeg) : Int32).toInt64)) : Int32) ≤ 0) → K 64 [some (.ref 0), some (.int e), some (.int s), some (.int a), some (.int i), some (.int n), some (.int 3), some (.int 0), none] [] μ) ∧
                    (¬ (((lg_cmp (((i : Int32).toInt64) + (((3 * n) : Int32).toInt64)) (((μ 22 (s : Int32).toNatClampNeg) : Int32).toInt64)) : Int32) ≤ 0) → R (-13) μ))))))) ∧
              (¬ (((μ 21 (s : Int32).toNatClampNeg) : Int32) = a) → R (-12) μ))) ∧
            (¬ ((0 : Int32) ≤ (μ 21 (s : Int32).toNatClampNeg)) → R (-11) μ))))))))))) : w_n 8 gX8_entries shM rfM 32 (some .int) R tX8_entries uX8_entries K 57 0 [some (.ref 0), some (.int e), some (.int s), some (.int a), some (.int i), some (.int n), none, none, none] [] μ :=
  And.intro (Exists.intro _ (And.intro rfl (trivial))) (fun _ _ z3089 => by obtain ⟨z3087, z3088⟩ := z3089; have z3087 := z3087.symm; have z3088 := z3088.symm; subst z3087; subst z3088; exact And.intro (fun z3090 => And.intro trivial ((h.1 (w_B01_0.mp z3090)))) (fun z3091 => And.intro (Exists.intro _ (And.intro rfl (trivial))) (fun _ _ z3094 => by obtain ⟨z3092, z3093⟩ := z3094; have z3092 := z3092.symm; have z3093 := z3093.symm; subst z3092; subst z3093; exact And.intro (fun z3095 => And.intro trivial (((h.2 (w_B01_n.mp z3091)).1 (w_B01_0.mp z3095)))) (fun z3096 => And.intro (Exists.intro _ (Exists.intro _ (Exists.intro _ (And.intro rfl (trivial))))) (fun _ _ z3099 => by obtain ⟨z3097, z3098⟩ := z3099; have z3097 := z3097.symm; have z3098 := z3098.symm; subst z3097; subst z3098; exact And.intro (fun z3100 => And.intro trivial ((((h.2 (w_B01_n.mp z3091)).2 (w_B01_n.mp z3096)).1 (w_B01_0.mp z3100)))) (fun z3101 => And.intro (Exists.intro _ (Exists.intro _ (Exists.intro _ (And.intro rfl (trivial))))) (fun _ _ z3104 => by obtain ⟨z3102, z3103⟩ := z3104; have z3102 := z3102.symm; have z3103 := z3103.symm; subst z3102; subst z3103; exact And.intro (fun z3105 => And.intro trivial (((((h.2 (w_B01_n.mp z3091)).2 (w_B01_n.mp z3096)).2 (w_B01_n.mp z3101)).1 (w_B01_0.mp z3105)))) (fun z3106 => And.intro (And.intro (of_decide_eq_true rfl) rfl) (And.intro (And.intro (of_decide_eq_true rfl) (Exists.intro _ (And.intro rfl (((((h.2 (w_B01_n.mp z3091)).2 (w_B01_n.mp z3096)).2 (w_B01_n.mp z3101)).2 (w_B01_n.mp z3106)).1)))) (And.intro (fun z3107 => And.intro (And.intro (of_decide_eq_true rfl) rfl) (And.intro (And.intro (of_decide_eq_true rfl) (Exists.intro _ (And.intro rfl (((((h.2 (w_B01_n.mp z3091)).2 (w_B01_n.mp z3096)).2 (w_B01_n.mp z3101)).2 (w_B01_n.mp z3106)).1)))) (And.intro (fun z3109 => And.intro (And.intro (of_decide_eq_true rfl) rfl) (And.intro (And.intro (of_decide_eq_true rfl) (Exists.intro _ (And.intro rfl (((((((h.2 (w_B01_n.mp z3091)).2 (w_B01_n.mp z3096)).2 (w_B01_n.mp z3101)).2 (w_B01_n.mp z3106)).2.1 z3107).1 z3109).1)))) (And.intro (fun z3111 => And.intro (fun z3113 => And.intro trivial (((((((((h.2 (w_B01_n.mp z3091)).2 (w_B01_n.mp z3096)).2 (w_B01_n.mp z3101)).2 (w_B01_n.mp z3106)).2.1 z3107).1 z3109).2.1 z3111).1 z3113))) (fun z3114 => And.intro (And.intro (of_decide_eq_true rfl) rfl) (And.intro (And.intro (of_decide_eq_true rfl) (Exists.intro _ (And.intro rfl (((((h.2 (w_B01_n.mp z3091)).2 (w_B01_n.mp z3096)).2 (w_B01_n.mp z3101)).2 (w_B01_n.mp z3106)).1)))) (And.intro (fun z3115 => (((((((((h.2 (w_B01_n.mp z3091)).2 (w_B01_n.mp z3096)).2 (w_B01_n.mp z3101)).2 (w_B01_n.mp z3106)).2.1 z3107).1 z3109).2.1 z3111).2 z3114).1 z3115)) (fun z3116 => And.intro trivial ((((((((((h.2 (w_B01_n.mp z3091)).2 (w_B01_n.mp z3096)).2 (w_B01_n.mp z3101)).2 (w_B01_n.mp z3106)).2.1 z3107).1 z3109).2.1 z3111).2 z3114).2 z3116))))))) (fun z3112 => And.intro (fun z3117 => And.intro trivial (((((((((h.2 (w_B01_n.mp z3091)).2 (w_B01_n.mp z3096)).2 (w_B01_n.mp z3101)).2 (w_B01_n.mp z3106)).2.1 z3107).1 z3109).2.2 z3112).1 z3117))) (fun z3118 => And.intro (And.intro (of_decide_eq_true rfl) rfl) (And.intro (And.intro (of_decide_eq_true rfl) (Exists.intro _ (And.intro rfl (((((h.2 (w_B01_n.mp z3091)).2 (w_B01_n.mp z3096)).2 (w_B01_n.mp z3101)).2 (w_B01_n.mp z3106)).1)))) (And.intro (fun z3119 => (((((((((h.2 (w_B01_n.mp z3091)).2 (w_B01_n.mp z3096)).2 (w_B01_n.mp z3101)).2 (w_B01_n.mp z3106)).2.1 z3107).1 z3109).2.2 z3112).2 z3118).1 z3119)) (fun z3120 => And.intro trivial ((((((((((h.2 (w_B01_n.mp z3091)).2 (w_B01_n.mp z3096)).2 (w_B01_n.mp z3101)).2 (w_B01_n.mp z3106)).2.1 z3107).1 z3109).2.2 z3112).2 z3118).2 z3120)))))))))) (fun z3110 => And.intro trivial (((((((h.2 (w_B01_n.mp z3091)).2 (w_B01_n.mp z3096)).2 (w_B01_n.mp z3101)).2 (w_B01_n.mp z3106)).2.1 z3107).2 z3110)))))) (fun z3108 => And.intro trivial ((((((h.2 (w_B01_n.mp z3091)).2 (w_B01_n.mp z3096)).2 (w_B01_n.mp z3101)).2 (w_B01_n.mp z3106)).2.2 z3108)))))))))))))
set_option maxHeartbeats 4000000 in
set_option maxRecDepth 100000 in
theorem vcX8_entries_64 (K : wK) (R : Int32 → wM → Prop) (e : Int32) (s : Int32) (a : Int32) (i : Int32) (n : Int32) (l6 : Int32) (l7 : Int32) (μ : wM) (h : (
    (((n : Int32) ≤ l7) → (
      (((((μ 0 22) + n) : Int32) ≤ 160) → K 116 [some (.ref 0), some (.int e), some (.int s), some (.int a), some (.int i), some (.int n), some (.int l6), some (.int 0), none] [] μ) ∧
      (¬ ((((μ 0 22) + n) : Int32) ≤ 160) → R (-3) μ))) ∧
    (¬ ((n : Int32) ≤ l7) → (∀ (x1 : Int32), x1 = (((60 * s) + i) + (l6 * l7)) → (vp_in x1 240) ∧ (vp_in (x1 + 1) 240) ∧ (
      (((l6 : Int32) = 3) → (vp_in (x1 + 2) 240) ∧ pX8_isGood e (μ 23 (x1 : Int32).toNatClampNeg) (μ 23 ((x1 + 1) : Int32).toNatClampNeg) (μ 23 ((x1 + 2) : Int32).toNatClampNeg) μ ∧ (
        ((w_tk (μ 1 (e : Int32).toNatClampNeg) (μ 4 (e : Int32).toNatClampNeg) (μ 23 (x1 : Int32).toNatClampNeg) (μ 23 ((x1 + 1) : Int32).toNatClampNeg) (μ 23 ((x1 + 2) : Int32).toNatClampNeg)) = false → R (-2) μ) ∧
        ((w_tk (μ 1 (e : Int32).toNatClampNeg) (μ 4 (e : Int32).toNatClampNeg) (μ 23 (x1 : Int32).toNatClampNeg) (μ 23 ((x1 + 1) : Int32).toNatClampNeg) (μ 23 ((x1 + 2) : Int32).toNatClampNeg)) = true → K 64 [some (.ref 0), some (.int e), some (.int s), some (.int a), some (.int i), some (.int n), some (.int l6), some (.int (l7 + 1)), none] [] μ))) ∧
      (¬ ((l6 : Int32) = 3) → pX8_isGood e (μ 23 (x1 : Int32).toNatClampNeg) (μ 23 ((x1 + 1) : Int32).toNatClampNeg) 0 μ ∧ (
        ((w_tk (μ 1 (e : Int32).toNatClampNeg) (μ 4 (e : Int32).toNatClampNeg) (μ 23 (x1 : Int32).toNatClampNeg) (μ 23 ((x1 + 1) : Int32).toNatClampNeg) 0) = false → R (-2) μ) ∧
        ((w_tk (μ 1 (e : Int32).toNatClampNeg) (μ 4 (e : Int32).toNatClampNeg) (μ 23 (x1 : Int32).toNatClampNeg) (μ 23 ((x1 + 1) : Int32).toNatClampNeg) 0) = true → K 64 [some (.ref 0), some (.int e), some (.int s), some (.int a), some (.int i), some (.int n), some (.int l6), some (.int (l7 + 1)), none] [] μ)))))))) : w_n 8 gX8_entries shM rfM 32 (some .int) R tX8_entries uX8_entries K 57 64 [some (.ref 0), some (.int e), some (.int s), some (.int a), some (.int i), some (.int n), some (.int l6), some (.int l7), none] [] μ :=
  And.intro (fun z3121 => And.intro (And.intro (of_decide_eq_true rfl) rfl) (And.intro (fun z3123 => ((h.1 z3121).1 z3123)) (fun z3124 => And.intro trivial (((h.1 z3121).2 z3124))))) (fun z3122 => And.intro (And.intro (of_decide_eq_true rfl) rfl) (And.intro (And.intro (of_decide_eq_true rfl) (Exists.intro _ (And.intro rfl (((h.2 z3122) _ rfl).1)))) (And.intro (And.intro (of_decide_eq_true rfl) rfl) (And.intro (And.intro (of_decide_eq_true rfl) (Exists.intro _ (And.intro rfl (((h.2 z3122) _ rfl).2.1)))) (And.intro (fun z3125 => And.intro (And.intro (of_decide_eq_true rfl) rfl) (And.intro (And.intro (of_decide_eq_true rfl) (Exists.intro _ (And.intro rfl ((((h.2 z3122) _ rfl).2.2.1 z3125).1)))) (And.intro (Exists.intro _ (Exists.intro _ (Exists.intro _ (Exists.intro _ (And.intro rfl ((((h.2 z3122) _ rfl).2.2.1 z3125).2.1)))))) (fun _ _ z3129 => by obtain ⟨z3127, z3128⟩ := z3129; have z3127 := z3127.symm; have z3128 := z3128.symm; subst z3127; subst z3128; exact And.intro (fun z3130 => And.intro trivial (((((h.2 z3122) _ rfl).2.2.1 z3125).2.2.1 (w_B01_0.mp z3130)))) (fun z3131 => ((((h.2 z3122) _ rfl).2.2.1 z3125).2.2.2 (w_B01_n.mp z3131))))))) (fun z3126 => And.intro (Exists.intro _ (Exists.intro _ (Exists.intro _ (Exists.intro _ (And.intro rfl ((((h.2 z3122) _ rfl).2.2.2 z3126).1)))))) (fun _ _ z3134 => by obtain ⟨z3132, z3133⟩ := z3134; have z3132 := z3132.symm; have z3133 := z3133.symm; subst z3132; subst z3133; exact And.intro (fun z3135 => And.intro trivial (((((h.2 z3122) _ rfl).2.2.2 z3126).2.1 (w_B01_0.mp z3135)))) (fun z3136 => ((((h.2 z3122) _ rfl).2.2.2 z3126).2.2 (w_B01_n.mp z3136))))))))))
set_option maxHeartbeats 4000000 in
set_option maxRecDepth 100000 in
theorem vcX8_entries_116 (K : wK) (R : Int32 → wM → Prop) (e : Int32) (s : Int32) (a : Int32) (i : Int32) (n : Int32) (l6 : Int32) (l7 : Int32) (μ : wM) (h : (
    (((n : Int32) ≤ l7) → R (μ 0 22) μ) ∧
    (¬ ((n : Int32) ≤ l7) → (∀ (x1 : Int32), x1 = (((60 * s) + i) + (l6 * l7)) → (vp_in x1 240) ∧ (vp_in (x1 + 1) 240) ∧ (
      (((l6 : Int32) = 3) → (vp_in (x1 + 2) 240) ∧ pX8_put e (μ 23 (x1 : Int32).toNatClampNeg) (μ 23 ((x1 + 1) : Int32).toNatClampNeg) (μ 23 ((x1 + 2) : Int32).toNatClampNeg) μ ∧ (∀ (m4 : wM), m4 = (w_put μ e (μ 23 (x1 : Int32).toNatClampNeg) (μ 23 ((x1 + 1) : Int32).toNatClampNeg) (μ 23 ((x1 + 2) : Int32).toNatClampNeg)) → K 116 [some (.ref 0), some (.int e), some (.int s), some (.int a), some (.int i), some (.int n), some (.int l6), some (.int (l7 + 1)), none] [] m4)) ∧
      (¬ ((l6 : Int32) = 3) → pX8_put e (μ 23 (x1 : Int32).toNatClampNeg) (μ 23 ((x1 + 1) : Int32).toNatClampNeg) 0 μ ∧ (∀ (m7 : wM), m7 = (w_put μ e (μ 23 (x1 : Int32).toNatClampNeg) (μ 23 ((x1 + 1) : Int32).toNatClampNeg) 0) → K 116 [some (.ref 0), some (.int e), some (.int s), some (.int a), some (.int i), some (.int n), some (.int l6), some (.int (l7 + 1)), none] [] m7))))))) : w_n 8 gX8_entries shM rfM 32 (some .int) R tX8_entries uX8_entries K 57 116 [some (.ref 0), some (.int e), some (.int s), some (.int a), some (.int i), some (.int n), some (.int l6), some (.int l7), none] [] μ :=
  And.intro (fun z3137 => And.intro (And.intro (of_decide_eq_true rfl) rfl) (And.intro trivial ((h.1 z3137)))) (fun z3138 => And.intro (And.intro (of_decide_eq_true rfl) rfl) (And.intro (And.intro (of_decide_eq_true rfl) (Exists.intro _ (And.intro rfl (((h.2 z3138) _ rfl).1)))) (And.intro (And.intro (of_decide_eq_true rfl) rfl) (And.intro (And.intro (of_decide_eq_true rfl) (Exists.intro _ (And.intro rfl (((h.2 z3138) _ rfl).2.1)))) (And.intro (fun z3139 => And.intro (And.intro (of_decide_eq_true rfl) rfl) (And.intro (And.intro (of_decide_eq_true rfl) (Exists.intro _ (And.intro rfl ((((h.2 z3138) _ rfl).2.2.1 z3139).1)))) (And.intro (Exists.intro _ (Exists.intro _ (Exists.intro _ (Exists.intro _ (And.intro rfl ((((h.2 z3138) _ rfl).2.2.1 z3139).2.1)))))) (fun _ _ z3143 => by have z3142 := (z3143).symm; subst z3142; exact ((((h.2 z3138) _ rfl).2.2.1 z3139).2.2 _ rfl))))) (fun z3140 => And.intro (Exists.intro _ (Exists.intro _ (Exists.intro _ (Exists.intro _ (And.intro rfl ((((h.2 z3138) _ rfl).2.2.2 z3140).1)))))) (fun _ _ z3146 => by have z3145 := (z3146).symm; subst z3145; exact ((((h.2 z3138) _ rfl).2.2.2 z3140).2 _ rfl))))))))
set_option maxHeartbeats 4000000 in
theorem vX8_entries (e : Int32) (s : Int32) (a : Int32) (i : Int32) (n : Int32) (μ : wM) (h : pX8_entries e s a i n μ) (K : wK) (hK : w_cl 8 gX8_entries shM rfM 32 (some .int) (qX8_entries e s a i n μ) tX8_entries K) : K 0 [some (.ref 0), some (.int e), some (.int s), some (.int a), some (.int i), some (.int n), none, none, none] [] μ := by
  unfold pX8_entries at h
  obtain ⟨h, hjs⟩ := h
  obtain ⟨C, hC, hCn, hCc⟩ := vp_in_le h.2.1 (by decide)
  refine hK uX8_entries 57 _ _ _ _ (vcX8_entries_0 K _ e s a i n μ ?_)
  have bad : ∀ P : Prop, [Decidable P] → ¬ P → ∀ v : Int32 × wM, (-1 : Int32) = (if P then v else (-1, μ)).1 ∧ μ = (if P then v else (-1, μ)).2 := fun P _ hP v => by rw [if_neg hP]; exact ⟨rfl, rfl⟩
  refine ⟨fun c => bad _ (by rw [c]; simp) _, fun c => ⟨fun c1 => bad _ (by rw [c1]; simp) _, fun c1 => ⟨fun c2 => bad _ (by rw [c2]; simp) _, fun c2 => ⟨fun c3 => bad _ (by rw [c3]; simp) _, fun c3 => ?_⟩⟩⟩⟩
  have he := inM_in h.1 c
  have hsin := in3 c1
  obtain ⟨S, hS, rfl, hSc⟩ := vp_in_le hsin (by decide)
  obtain ⟨N, rfl, hN⟩ := in_of (M := 30) (by decide) c3
  have hNc : (nI N).toNatClampNeg = N := nI_clamp (by omega)
  obtain ⟨Z, hZ, hZn, -⟩ := vp_in_le (hjs S hS) (by decide)
  obtain ⟨w1, w2, w3⟩ := w_wd_le (μ 1 e.toNatClampNeg)
  have hwN : N * w_wd (μ 1 e.toNatClampNeg) ≤ N * 3 := Nat.mul_le_mul_left N w1
  rw [hSc]
  have unf : wm_enF2 μ e (nI S) a i (nI N) = (if wm_found μ S a i (nI N * (if μ 1 e.toNatClampNeg = 1 then 2 else 3)) = 0 then (if wm_areT μ e S i.toNatClampNeg N = true then (if μ 0 22 + nI N ≤ 160 then (wm_puts μ e S i.toNatClampNeg N 0 22, wm_puts μ e S i.toNatClampNeg N) else (-3, μ)) else (-2, μ)) else (wm_found μ S a i (nI N * (if μ 1 e.toNatClampNeg = 1 then 2 else 3)), μ)) := by
    unfold wm_enF2
    rw [if_pos ⟨c, c1, c2, c3⟩, hSc, hNc]
  have fnd : ∀ v : Int32, ¬ v = 0 → wm_found μ S a i (nI N * (if μ 1 e.toNatClampNeg = 1 then 2 else 3)) = v → qX8_entries e (nI S) a i (nI N) μ v μ := by
    intro v hv0 hv
    unfold qX8_entries
    rw [unf, hv, if_neg hv0]
    exact ⟨rfl, rfl⟩
  have f13 : 0 ≤ μ 21 S → μ 21 S = a → (i < 0 ∨ μ 22 S - i < nI N * (if μ 1 e.toNatClampNeg = 1 then 2 else 3)) → qX8_entries e (nI S) a i (nI N) μ (-13) μ := by
    intro d1 d2 d3
    refine fnd _ (by decide) ?_
    unfold wm_found w_found
    rw [if_pos d1, if_neg (by decide), if_neg (fun z => z d2), if_pos d3]
  have main : 0 ≤ μ 21 S → μ 21 S = a → ¬ (i < 0 ∨ μ 22 S - i < nI N * (if μ 1 e.toNatClampNeg = 1 then 2 else 3)) → K 64 [some (.ref 0), some (.int e), some (.int (nI S)), some (.int a), some (.int i), some (.int (nI N)), some (.int (nI (w_wd (μ 1 e.toNatClampNeg)))), some (.int 0), none] [] μ := by
    intro d1 d2 d3
    have hf0 : wm_found μ S a i (nI N * (if μ 1 e.toNatClampNeg = 1 then 2 else 3)) = 0 := by
      unfold wm_found w_found
      rw [if_pos d1, if_neg (by decide), if_neg (fun z => z d2), if_neg d3]
    rw [if_pos hf0] at unf
    have hi0 : 0 ≤ i := i_nlt.mp (fun z => d3 (Or.inl z))
    have hle : nI N * (if μ 1 e.toNatClampNeg = 1 then 2 else 3) ≤ μ 22 S - i := i_nlt.mp (fun z => d3 (Or.inr z))
    rw [w_wdI, pk_mul] at hle
    obtain ⟨I, rfl, hI⟩ := w_fd2 hZn hZ (by omega) hi0 hle
    have hIc : (nI I).toNatClampNeg = I := nI_clamp (by omega)
    rw [hIc] at unf
    have hIN : I + N * w_wd (μ 1 e.toNatClampNeg) ≤ 60 := by omega
    have hx : ∀ k, 60 * nI S + nI I + nI (w_wd (μ 1 e.toNatClampNeg)) * nI k = nI (60 * S + (I + k * w_wd (μ 1 e.toNatClampNeg))) := by
      intro k
      rw [jx600, pk_mul, nI_add, Nat.mul_comm (w_wd (μ 1 e.toNatClampNeg)) k]
      exact congrArg nI (by omega)
    have e3 : (nI (w_wd (μ 1 e.toNatClampNeg)) = 3) ↔ ¬ μ 1 e.toNatClampNeg = 1 := by
      unfold w_wd
      by_cases q : μ 1 e.toNatClampNeg = 1
      · rw [if_pos q]; exact ⟨fun z => absurd z (by decide), fun z => absurd q z⟩
      · rw [if_neg q]; exact ⟨fun _ => q, fun _ => rfl⟩
    have l116 : wm_areT μ e S I N = true → C + N ≤ 160 → ∀ (d k : Nat), k + d = N → K 116 [some (.ref 0), some (.int e), some (.int (nI S)), some (.int a), some (.int (nI I)), some (.int (nI N)), some (.int (nI (w_wd (μ 1 e.toNatClampNeg)))), some (.int (nI k)), none] [] (wm_puts μ e S I k) := by
      intro hall hCN d
      have hT := w_allB_t.mp hall
      induction d with
      | zero =>
        intro k hk
        have hkN : k = N := by omega
        subst hkN
        refine hK uX8_entries 57 _ _ _ _ (vcX8_entries_116 K _ e (nI S) a (nI I) (nI k) (nI (w_wd (μ 1 e.toNatClampNeg))) (nI k) (wm_puts μ e S I k) ?_)
        refine ⟨fun _ => ?_, fun z => absurd (nI_le (Nat.le_refl _) (by omega)) z⟩
        unfold qX8_entries
        rw [unf, if_pos hall, if_pos (by rw [hCn, nI_add]; exact nI_le (b := 160) hCN (by omega))]
        exact ⟨rfl, rfl⟩
      | succ d ih =>
        intro k hk
        refine hK uX8_entries 57 _ _ _ _ (vcX8_entries_116 K _ e (nI S) a (nI I) (nI N) (nI (w_wd (μ 1 e.toNatClampNeg))) (nI k) (wm_puts μ e S I k) ?_)
        have hb := ix_lt hIN (show k < N by omega)
        have e23 : wm_puts μ e S I k 23 = μ 23 := wm_puts_o (by decide) k
        have e1 : wm_puts μ e S I k 1 = μ 1 := wm_puts_o (by decide) k
        have z := ih (k + 1) (by omega)
        rw [wm_puts, wm_put1, e23, e1] at z
        rw [hx k, e23, nI_1 k]
        refine ⟨fun z => absurd z (nI_ge (by omega) (by omega)), fun _ => fun x1 hx1 => ?_⟩
        subst hx1
        rw [nI_1, show nI (60 * S + (I + k * w_wd (μ 1 e.toNatClampNeg))) + 2 = nI (60 * S + (I + k * w_wd (μ 1 e.toNatClampNeg)) + 2) from nI_add _ 2, nI_clamp (show 60 * S + (I + k * w_wd (μ 1 e.toNatClampNeg)) < 2 ^ 31 by omega), nI_clamp (show 60 * S + (I + k * w_wd (μ 1 e.toNatClampNeg)) + 1 < 2 ^ 31 by omega), nI_clamp (show 60 * S + (I + k * w_wd (μ 1 e.toNatClampNeg)) + 2 < 2 ^ 31 by omega)]
        have hcp : vp_in (wm_puts μ e S I k 0 22) 160 := by rw [wm_puts_c hCn]; exact vp_in_nI (by omega) (by omega)
        have hxp : vp_in (μ 23 (60 * S + (I + k * w_wd (μ 1 e.toNatClampNeg)))) 10 := tk9 (hT k (by omega))
        refine ⟨vp_in_nI (by omega) (by omega), vp_in_nI (by omega) (by omega), fun c5 => ?_, fun c5 => ?_⟩
        · have c5' := e3.mp c5
          rw [if_neg c5'] at z
          have w33 := w3 c5'
          exact ⟨vp_in_nI (by omega) (by omega), ⟨hcp, he, hxp⟩, fun m hm => by rw [hm]; exact z⟩
        · have c5' : μ 1 e.toNatClampNeg = 1 := Decidable.not_not.mp (fun q => c5 (e3.mpr q))
          rw [if_pos c5'] at z
          exact ⟨⟨hcp, he, hxp⟩, fun m hm => by rw [hm]; exact z⟩
    have l64 : ∀ (d k : Nat), k + d = N → (∀ o, o < k → w_tk1 (μ 1 e.toNatClampNeg) (μ 4 e.toNatClampNeg) (fun j => μ 23 (60 * S + j)) (I + o * w_wd (μ 1 e.toNatClampNeg)) = true) → K 64 [some (.ref 0), some (.int e), some (.int (nI S)), some (.int a), some (.int (nI I)), some (.int (nI N)), some (.int (nI (w_wd (μ 1 e.toNatClampNeg)))), some (.int (nI k)), none] [] μ := by
      intro d
      induction d with
      | zero =>
        intro k hk ho
        have hkN : k = N := by omega
        subst hkN
        refine hK uX8_entries 57 _ _ _ _ (vcX8_entries_64 K _ e (nI S) a (nI I) (nI k) (nI (w_wd (μ 1 e.toNatClampNeg))) (nI k) μ ?_)
        have hall : wm_areT μ e S I k = true := w_allB_t.mpr ho
        refine ⟨fun _ => ⟨fun c5 => ?_, fun c5 => ?_⟩, fun z => absurd (nI_le (Nat.le_refl _) (by omega)) z⟩
        · rw [hCn, nI_add] at c5
          exact l116 hall ((nI_leI (b := 160) (by omega) (by omega)).mp c5) k 0 (by omega)
        · unfold qX8_entries
          rw [unf, if_pos hall, if_neg c5]
          exact ⟨rfl, rfl⟩
      | succ d ih =>
        intro k hk ho
        refine hK uX8_entries 57 _ _ _ _ (vcX8_entries_64 K _ e (nI S) a (nI I) (nI N) (nI (w_wd (μ 1 e.toNatClampNeg))) (nI k) μ ?_)
        have hb := ix_lt hIN (show k < N by omega)
        rw [hx k, nI_1 k]
        refine ⟨fun z => absurd z (nI_ge (by omega) (by omega)), fun _ => fun x1 hx1 => ?_⟩
        subst hx1
        rw [nI_1, show nI (60 * S + (I + k * w_wd (μ 1 e.toNatClampNeg))) + 2 = nI (60 * S + (I + k * w_wd (μ 1 e.toNatClampNeg)) + 2) from nI_add _ 2, nI_clamp (show 60 * S + (I + k * w_wd (μ 1 e.toNatClampNeg)) < 2 ^ 31 by omega), nI_clamp (show 60 * S + (I + k * w_wd (μ 1 e.toNatClampNeg)) + 1 < 2 ^ 31 by omega), nI_clamp (show 60 * S + (I + k * w_wd (μ 1 e.toNatClampNeg)) + 2 < 2 ^ 31 by omega)]
        have yes : w_tk1 (μ 1 e.toNatClampNeg) (μ 4 e.toNatClampNeg) (fun j => μ 23 (60 * S + j)) (I + k * w_wd (μ 1 e.toNatClampNeg)) = true → K 64 [some (.ref 0), some (.int e), some (.int (nI S)), some (.int a), some (.int (nI I)), some (.int (nI N)), some (.int (nI (w_wd (μ 1 e.toNatClampNeg)))), some (.int (nI (k + 1))), none] [] μ := fun hy => ih (k + 1) (by omega) (fun o h2 => by
          by_cases q : o = k
          · rw [q]; exact hy
          · exact ho o (by omega))
        have no : w_tk1 (μ 1 e.toNatClampNeg) (μ 4 e.toNatClampNeg) (fun j => μ 23 (60 * S + j)) (I + k * w_wd (μ 1 e.toNatClampNeg)) = false → qX8_entries e (nI S) a (nI I) (nI N) μ (-2) μ := fun hy => by
          unfold qX8_entries
          rw [unf, if_neg (fun z => by have := w_allB_t.mp z k (by omega); rw [hy] at this; cases this)]
          exact ⟨rfl, rfl⟩
        unfold w_tk1 at yes no
        refine ⟨vp_in_nI (by omega) (by omega), vp_in_nI (by omega) (by omega), fun c5 => ?_, fun c5 => ?_⟩
        · have c5' := e3.mp c5
          rw [if_neg c5'] at yes no
          have w33 := w3 c5'
          exact ⟨vp_in_nI (by omega) (by omega), he, fun c6 => no c6, fun c6 => yes c6⟩
        · have c5' : μ 1 e.toNatClampNeg = 1 := Decidable.not_not.mp (fun q => c5 (e3.mpr q))
          rw [if_pos c5'] at yes no
          exact ⟨he, fun c6 => no c6, fun c6 => yes c6⟩
    exact l64 N 0 (by omega) (fun o ho => absurd ho (Nat.not_lt_zero _))
  refine ⟨hsin, fun d1 => ⟨fun d2 => ⟨he, fun k1 => ?_, fun k1 => ?_⟩, fun d2 => fnd _ (by decide) ?_⟩, fun d1 => fnd _ (by decide) ?_⟩
  · have hm := main d1 d2
    have h13 := f13 d1 d2
    unfold w_wd at hm
    rw [if_pos k1, if_pos k1] at hm
    rw [if_pos k1] at h13
    refine ⟨fun d3 => h13 (Or.inl d3), fun d3 => ?_⟩
    obtain ⟨I, hI, rfl⟩ := nI_of d3
    rw [show (2 : Int32) * nI N = nI (2 * N) from pk_mul 2 N, hZn, en_cmp hI (by omega) hZ, ← hZn]
    rw [show nI N * (2 : Int32) = nI (2 * N) from by rw [show (2 : Int32) = nI 2 from rfl, pk_mul, Nat.mul_comm]] at hm h13
    exact ⟨fun d4 => hm (by rintro (q | q); exact d3 q; exact d4 q), fun d4 => h13 (Or.inr (Decidable.not_not.mp d4))⟩
  · have hm := main d1 d2
    have h13 := f13 d1 d2
    unfold w_wd at hm
    rw [if_neg k1, if_neg k1] at hm
    rw [if_neg k1] at h13
    refine ⟨fun d3 => h13 (Or.inl d3), fun d3 => ?_⟩
    obtain ⟨I, hI, rfl⟩ := nI_of d3
    rw [show (3 : Int32) * nI N = nI (3 * N) from pk_mul 3 N, hZn, en_cmp hI (by omega) hZ, ← hZn]
    rw [show nI N * (3 : Int32) = nI (3 * N) from by rw [show (3 : Int32) = nI 3 from rfl, pk_mul, Nat.mul_comm]] at hm h13
    exact ⟨fun d4 => hm (by rintro (q | q); exact d3 q; exact d4 q), fun d4 => h13 (Or.inr (Decidable.not_not.mp d4))⟩
  · unfold wm_found w_found
    rw [if_pos d1, if_neg (by decide), if_pos d2]
  · unfold wm_found w_found
    rw [if_neg d1, if_pos rfl]
set_option maxRecDepth 100000 in
theorem zX8_entries (l : Launch) : ∀ (idx : Nat) (S : wS), gX8_entries idx = some S → w_Call l 8 idx S 4 shM rfM 32 := by
  intro idx S hS
  unfold gX8_entries at hS
  split at hS
  · cases hS
    exact w_callS (mX8_in l) eX8_in.1 (by decide +kernel) eX8_in.2.1 eX8_in.2.2 (by decide +kernel) (by decide) (by decide)
  · cases hS
    exact w_callV (ci := 8) (mX8_isEvent l) (by decide) rX8_isEvent eX8_isEvent.1 (by decide +kernel) eX8_isEvent.2.1 eX8_isEvent.2.2.1 eX8_isEvent.2.2.2 (by decide +kernel) (by decide) (by decide)
  · cases hS
    exact w_callV (ci := 8) (mX8_isGood l) (by decide) rX8_isGood eX8_isGood.1 (by decide +kernel) eX8_isGood.2.1 eX8_isGood.2.2.1 eX8_isGood.2.2.2 (by decide +kernel) (by decide) (by decide)
  · cases hS
    exact w_callV (ci := 8) (mX8_put l) (by decide) rX8_put eX8_put.1 (by decide +kernel) eX8_put.2.1 eX8_put.2.2.1 eX8_put.2.2.2 (by decide +kernel) (by decide) (by decide)
  · cases hS
    exact w_callS (mX8_isSheet l) eX8_isSheet.1 (by decide +kernel) eX8_isSheet.2.1 eX8_isSheet.2.2 (by decide +kernel) (by decide) (by decide)
  · cases hS
theorem mX8_entries (l : Launch) : w_Met l yX8_entries cX8_entries 9 (some .int) 4 shM rfM 32 sX8_entries.2.2.2.1 sX8_entries.2.2.2.2 :=
  w_meth (o := 8) (Γ := gX8_entries) (tb := tX8_entries) (by decide +kernel) rfl kX8_entries rfl (zX8_entries l) (fun as μ h => by obtain ⟨e, s, a, i, n, rfl, h⟩ := h; exact Nat.le_of_ble_eq_true rfl) (fun as μ h K hK => by obtain ⟨e, s, a, i, n, rfl, h⟩ := h; exact vX8_entries e s a i n μ h K hK)
set_option maxRecDepth 100000 in
theorem eX8_entries : Cond.code yX8_entries cX8_entries 9 (some .int) ∈ w_tbl ∧ Cond.instanceMethod yX8_entries ∈ w_tbl ∧ Cond.selects (w_C 8) yX8_entries yX8_entries ∈ w_tbl ∧ Cond.initialized yX8_entries.cls ∈ w_tbl := ⟨by decide +kernel, by decide +kernel, by decide +kernel, by decide +kernel⟩
theorem rX8_entries : ∀ as μ, sX8_entries.2.2.2.1 as μ → ∃ q as', as = .ref q :: as' ∧ q < 32 ∧ shM q = .inl 8 := by
  intro as μ h
  obtain ⟨e, s, a, i, n, rfl, h⟩ := h
  exact ⟨_, _, rfl, by decide, rfl⟩
