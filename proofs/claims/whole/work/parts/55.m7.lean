def wm_same (μ : wM) (e : Int32) (C n : Nat) : Bool := w_allB (fun j => decide (wm_pl μ e n j = wm_pl μ e C j)) 10
def wm_stF (μ : wM) (e : Int32) : Int32 := nI (w_stl (fun _ => true) (wm_same μ e (μ 0 22).toNatClampNeg) (μ 0 22).toNatClampNeg)
/-! X8_settled -/
def pX8_settled (e : Int32) (μ : wM) : Prop := wm_JV μ
def qX8_settled (e : Int32) (μ : wM) (r : Int32) (μ' : wM) : Prop := r = (if w_inB e 0 (μ 0 0 - 1) = true then wm_stF μ e else -1) ∧ w_sm μ μ'
def sX8_settled : wS := (false, false, 2, fun as μ => ∃ e, as = [.ref 0, .int e] ∧ pX8_settled e μ, fun as μ r μ' => match as with
  | [.ref _, .int e] => qX8_settled e μ r μ'
  | _ => False)
def gX8_settled : Nat → Option wS := fun k => match k with
  | 121 => some sX8_isEvent
  | 196 => some sX8_placeAll
  | _ => none
def uX8_settled : Nat → Option (List Nat) := fun j => match j with | 14 => some [4, 5] | 32 => some [5] | 45 => some [] | _ => none
set_option maxHeartbeats 4000000 in
set_option maxRecDepth 100000 in
theorem vcX8_settled_0 (K : wK) (R : Int32 → wM → Prop) (e : Int32) (μ : wM) (h : (
    ((w_inB e 0 (μ 0 0 - 1)) = false → R (-1) μ) ∧
    ((w_inB e 0 (μ 0 0 - 1)) = true → pX8_placeAll e (μ 0 22) μ ∧ (∀ (r3 : Int32) (m4 : wM), qX8_placeAll e (μ 0 22) μ r3 m4 →
      K 14 [some (.ref 0), some (.int e), some (.int r3), some (.int 0), none, none] [] m4)))) : w_n 8 gX8_settled shM rfM 32 (some .int) R tX8_settled uX8_settled K 21 0 [some (.ref 0), some (.int e), none, none, none, none] [] μ :=
  And.intro (Exists.intro _ (And.intro rfl (trivial))) (fun _ _ z2582 => by obtain ⟨z2580, z2581⟩ := z2582; have z2580 := z2580.symm; have z2581 := z2581.symm; subst z2580; subst z2581; exact And.intro (fun z2583 => And.intro trivial ((h.1 (w_B01_0.mp z2583)))) (fun z2584 => And.intro (And.intro (of_decide_eq_true rfl) rfl) (And.intro (Exists.intro _ (Exists.intro _ (And.intro rfl ((h.2 (w_B01_n.mp z2584)).1)))) (fun r3 m4 z2585 => ((h.2 (w_B01_n.mp z2584)).2 r3 m4 z2585)))))
set_option maxHeartbeats 4000000 in
set_option maxRecDepth 100000 in
theorem vcX8_settled_14 (K : wK) (R : Int32 → wM → Prop) (e : Int32) (l2 : Int32) (l3 : Int32) (μ : wM) (h : (
    (((10 : Int32) ≤ l3) → K 32 [some (.ref 0), some (.int e), some (.int l2), some (.int (μ 0 22)), some (.int 1), none] [] μ) ∧
    (¬ ((10 : Int32) ≤ l3) → (vp_in l3 10) ∧ (∀ (m1 : wM), m1 = (w_up μ 28 (l3 : Int32).toNatClampNeg (μ 27 (l3 : Int32).toNatClampNeg)) → K 14 [some (.ref 0), some (.int e), some (.int l2), some (.int (l3 + 1)), none, none] [] m1)))) : w_n 8 gX8_settled shM rfM 32 (some .int) R tX8_settled uX8_settled K 21 14 [some (.ref 0), some (.int e), some (.int l2), some (.int l3), none, none] [] μ :=
  And.intro (fun z2586 => And.intro (And.intro (of_decide_eq_true rfl) rfl) ((h.1 z2586))) (fun z2587 => And.intro (And.intro (of_decide_eq_true rfl) rfl) (And.intro (And.intro (of_decide_eq_true rfl) rfl) (And.intro (And.intro (of_decide_eq_true rfl) (Exists.intro _ (And.intro rfl ((h.2 z2587).1)))) (And.intro (And.intro (of_decide_eq_true rfl) (Exists.intro _ (And.intro rfl ((h.2 z2587).1)))) (((h.2 z2587).2 _ rfl))))))
set_option maxHeartbeats 4000000 in
set_option maxRecDepth 100000 in
theorem vcX8_settled_32 (K : wK) (R : Int32 → wM → Prop) (e : Int32) (l2 : Int32) (l3 : Int32) (l4 : Int32) (μ : wM) (h : (
    (((l3 : Int32) ≤ 0) → R l3 μ) ∧
    (¬ ((l3 : Int32) ≤ 0) → (
      (((l4 : Int32) = 0) → R l3 μ) ∧
      (¬ ((l4 : Int32) = 0) → pX8_placeAll e (l3 - 1) μ ∧ (∀ (r1 : Int32) (m2 : wM), qX8_placeAll e (l3 - 1) μ r1 m2 →
        K 45 [some (.ref 0), some (.int e), some (.int r1), some (.int l3), some (.int l4), some (.int 0)] [] m2)))))) : w_n 8 gX8_settled shM rfM 32 (some .int) R tX8_settled uX8_settled K 21 32 [some (.ref 0), some (.int e), some (.int l2), some (.int l3), some (.int l4), none] [] μ :=
  And.intro (fun z2588 => And.intro trivial ((h.1 z2588))) (fun z2589 => And.intro (fun z2590 => And.intro trivial (((h.2 z2589).1 z2590))) (fun z2591 => And.intro (Exists.intro _ (Exists.intro _ (And.intro rfl (((h.2 z2589).2 z2591).1)))) (fun r1 m2 z2592 => (((h.2 z2589).2 z2591).2 r1 m2 z2592))))
set_option maxHeartbeats 4000000 in
set_option maxRecDepth 100000 in
theorem vcX8_settled_45 (K : wK) (R : Int32 → wM → Prop) (e : Int32) (l2 : Int32) (l3 : Int32) (l4 : Int32) (l5 : Int32) (μ : wM) (h : (
    (((10 : Int32) ≤ l5) → (
      (((l4 : Int32) = 0) → K 32 [some (.ref 0), some (.int e), some (.int l2), some (.int (l3 - 0)), some (.int l4), none] [] μ) ∧
      (¬ ((l4 : Int32) = 0) → K 32 [some (.ref 0), some (.int e), some (.int l2), some (.int (l3 - 1)), some (.int l4), none] [] μ))) ∧
    (¬ ((10 : Int32) ≤ l5) → (
      (((l4 : Int32) = 0) → K 45 [some (.ref 0), some (.int e), some (.int l2), some (.int l3), some (.int 0), some (.int (l5 + 1))] [] μ) ∧
      (¬ ((l4 : Int32) = 0) → (vp_in l5 10) ∧ (
        ((((μ 27 (l5 : Int32).toNatClampNeg) : Int32) = (μ 28 (l5 : Int32).toNatClampNeg)) → K 45 [some (.ref 0), some (.int e), some (.int l2), some (.int l3), some (.int 1), some (.int (l5 + 1))] [] μ) ∧
        (¬ (((μ 27 (l5 : Int32).toNatClampNeg) : Int32) = (μ 28 (l5 : Int32).toNatClampNeg)) → K 45 [some (.ref 0), some (.int e), some (.int l2), some (.int l3), some (.int 0), some (.int (l5 + 1))] [] μ))))))) : w_n 8 gX8_settled shM rfM 32 (some .int) R tX8_settled uX8_settled K 21 45 [some (.ref 0), some (.int e), some (.int l2), some (.int l3), some (.int l4), some (.int l5)] [] μ :=
  And.intro (fun z2593 => And.intro (fun z2595 => ((h.1 z2593).1 z2595)) (fun z2596 => ((h.1 z2593).2 z2596))) (fun z2594 => And.intro (fun z2597 => ((h.2 z2594).1 z2597)) (fun z2598 => And.intro (And.intro (of_decide_eq_true rfl) rfl) (And.intro (And.intro (of_decide_eq_true rfl) (Exists.intro _ (And.intro rfl (((h.2 z2594).2 z2598).1)))) (And.intro (And.intro (of_decide_eq_true rfl) rfl) (And.intro (And.intro (of_decide_eq_true rfl) (Exists.intro _ (And.intro rfl (((h.2 z2594).2 z2598).1)))) (And.intro (fun z2599 => (((h.2 z2594).2 z2598).2.1 z2599)) (fun z2600 => (((h.2 z2594).2 z2598).2.2 z2600))))))))
set_option maxHeartbeats 4000000 in
theorem vX8_settled (e : Int32) (μ : wM) (h : pX8_settled e μ) (K : wK) (hK : w_cl 8 gX8_settled shM rfM 32 (some .int) (qX8_settled e μ) tX8_settled K) : K 0 [some (.ref 0), some (.int e), none, none, none, none] [] μ := by
  unfold pX8_settled at h
  obtain ⟨C, hC, hCn, hCc⟩ := vp_in_le h.1.2.1 (by decide)
  refine hK uX8_settled 21 _ _ _ _ (vcX8_settled_0 K _ e μ ?_)
  refine ⟨fun c => by unfold qX8_settled; rw [if_neg (by rw [c]; simp)]; exact ⟨rfl, w_sm.refl _⟩, fun c => ?_⟩
  have he := inM_in h.1.1 c
  refine ⟨h.PAc he, fun T ν hm => ?_⟩
  obtain ⟨-, q2, -, q4, -⟩ := hm
  rw [hCc] at q2
  have fin : ∀ (v : Int32) (ρ : wM), w_sm μ ρ → v = wm_stF μ e → qX8_settled e μ v ρ := fun v ρ hs hv => by
    unfold qX8_settled
    rw [if_pos c]
    exact ⟨hv, hs⟩
  have inn : ∀ (n : Nat) (ρ : wM) (T' : Int32), w_sm μ ρ → (∀ j, j < 10 → ρ 28 j = wm_pl μ e C j) → (∀ j, j < 10 → ρ 27 j = wm_pl μ e n j) → (wm_same μ e C n = true → K 32 [some (.ref 0), some (.int e), some (.int T'), some (.int (nI (n + 1) - 1)), some (.int 1), none] [] ρ) → (wm_same μ e C n = false → K 32 [some (.ref 0), some (.int e), some (.int T'), some (.int (nI (n + 1))), some (.int 0), none] [] ρ) → ∀ (d o : Nat), o + d = 10 → K 45 [some (.ref 0), some (.int e), some (.int T'), some (.int (nI (n + 1))), some (.int (w_B01 (w_allB (fun j => decide (wm_pl μ e n j = wm_pl μ e C j)) o))), some (.int (nI o))] [] ρ := by
    intro n ρ T' hs h28 h27 yes no d
    induction d with
    | zero =>
      intro o ho
      have ho10 : o = 10 := by omega
      subst ho10
      refine hK uX8_settled 21 _ _ _ _ (vcX8_settled_45 K _ e T' (nI (n + 1)) (w_B01 (w_allB (fun j => decide (wm_pl μ e n j = wm_pl μ e C j)) 10)) (nI 10) ρ ?_)
      refine ⟨fun _ => ⟨fun z => ?_, fun z => ?_⟩, fun z => absurd (by decide) z⟩
      · have z := w_B01_0.mp z
        rw [z, Int32.sub_zero]
        exact no z
      · have z := w_B01_n.mp z
        rw [z]
        exact yes z
    | succ d ih =>
      intro o ho
      refine hK uX8_settled 21 _ _ _ _ (vcX8_settled_45 K _ e T' (nI (n + 1)) (w_B01 (w_allB (fun j => decide (wm_pl μ e n j = wm_pl μ e C j)) o)) (nI o) ρ ?_)
      have eo : (nI o).toNatClampNeg = o := nI_clamp (by omega)
      have z := ih (o + 1) (by omega)
      rw [w_allB] at z
      rw [eo, nI_1 o, h27 o (by omega), h28 o (by omega)]
      refine ⟨fun z => absurd z (nI_ge (b := 10) (by omega) (by omega)), fun _ => ⟨fun c0 => ?_, fun c0 => ⟨vp_in_nI (by omega) (by omega), fun c1 => ?_, fun c1 => ?_⟩⟩⟩
      · rw [w_B01_0.mp c0, Bool.false_and] at z; exact z
      · rw [w_B01_n.mp c0, decide_eq_true c1] at z; exact z
      · rw [w_B01_n.mp c0, decide_eq_false c1] at z; exact z
  have l32 : ∀ (n : Nat) (ρ : wM) (T' : Int32), n ≤ C → w_sm μ ρ → (∀ j, j < 10 → ρ 28 j = wm_pl μ e C j) → wm_stF μ e = nI (w_stl (fun _ => true) (wm_same μ e C) n) → K 32 [some (.ref 0), some (.int e), some (.int T'), some (.int (nI n)), some (.int 1), none] [] ρ := by
    intro n
    induction n with
    | zero =>
      intro ρ T' hn hs h28 hst
      refine hK uX8_settled 21 _ _ _ _ (vcX8_settled_32 K _ e T' (nI 0) 1 ρ ?_)
      exact ⟨fun _ => fin _ ρ hs (by rw [hst]; rfl), fun z => absurd (by decide) z⟩
    | succ n ih =>
      intro ρ T' hn hs h28 hst
      refine hK uX8_settled 21 _ _ _ _ (vcX8_settled_32 K _ e T' (nI (n + 1)) 1 ρ ?_)
      rw [nI_pred]
      refine ⟨fun z => absurd z (nI_ge (a := 0) (by omega) (by omega)), fun _ => ⟨fun z => absurd z (by decide), fun _ => ⟨(h.PA he (by omega)).sm hs, fun r m hq => ?_⟩⟩⟩
      obtain ⟨-, p2, -, p4, p5⟩ := hq
      rw [nI_clamp (show n < 2 ^ 31 by omega)] at p2
      have hs2 := hs.trans p4
      have h28' : ∀ j, j < 10 → m 28 j = wm_pl μ e C j := fun j hj => by rw [p5]; exact h28 j hj
      rw [w_stl] at hst
      refine inn n m r hs2 h28' (fun j hj => by rw [p2 j hj, hs.pl]) (fun hy => ?_) (fun hno => ?_) 10 0 rfl
      · rw [nI_pred]
        rw [if_neg (by rw [hy]; simp)] at hst
        exact ih m r (by omega) hs2 h28' hst
      · rw [if_pos ⟨rfl, hno⟩] at hst
        refine hK uX8_settled 21 _ _ _ _ (vcX8_settled_32 K _ e r (nI (n + 1)) 0 m ?_)
        exact ⟨fun z => absurd z (nI_ge (a := 0) (by omega) (by omega)), fun _ => ⟨fun _ => fin _ m hs2 hst.symm, fun z => absurd rfl z⟩⟩
  have l14 : ∀ (d i : Nat) (ρ : wM), i + d = 10 → w_sm μ ρ → (∀ j, j < 10 → ρ 27 j = wm_pl μ e C j) → (∀ j, j < i → ρ 28 j = wm_pl μ e C j) → K 14 [some (.ref 0), some (.int e), some (.int T), some (.int (nI i)), none, none] [] ρ := by
    intro d
    induction d with
    | zero =>
      intro i ρ hi hs h27 h28
      refine hK uX8_settled 21 _ _ _ _ (vcX8_settled_14 K _ e T (nI i) ρ ?_)
      rw [hs 0 (by omega), hCn]
      exact ⟨fun _ => l32 C ρ T (Nat.le_refl _) hs (fun j hj => h28 j (by omega)) (by unfold wm_stF; rw [hCc]), fun z => absurd (nI_le (a := 10) (by omega) (by omega)) z⟩
    | succ d ih =>
      intro i ρ hi hs h27 h28
      refine hK uX8_settled 21 _ _ _ _ (vcX8_settled_14 K _ e T (nI i) ρ ?_)
      have ei : (nI i).toNatClampNeg = i := nI_clamp (by omega)
      rw [ei, nI_1 i]
      refine ⟨fun z => absurd z (nI_ge (b := 10) (by omega) (by omega)), fun _ => ⟨vp_in_nI (by omega) (by omega), fun m hm => ?_⟩⟩
      refine ih (i + 1) m (by omega) (fun a ha => by rw [hm, w_up_o (by omega)]; exact hs a ha) (fun j hj => by rw [hm, w_up_o (by decide)]; exact h27 j hj) (fun j hj => ?_)
      rw [hm, w_up_s]
      by_cases q : j = i
      · rw [q, upd_in, h27 i (by omega)]
      · rw [upd_out q]; exact h28 j (by omega)
  exact l14 10 0 ν rfl q4 q2 (fun j hj => absurd hj (Nat.not_lt_zero _))
set_option maxRecDepth 100000 in
theorem zX8_settled (l : Launch) : ∀ (idx : Nat) (S : wS), gX8_settled idx = some S → w_Call l 8 idx S 5 shM rfM 32 := by
  intro idx S hS
  unfold gX8_settled at hS
  split at hS
  · cases hS
    exact w_callV (ci := 8) (mX8_isEvent l) (by decide) rX8_isEvent eX8_isEvent.1 (by decide +kernel) eX8_isEvent.2.1 eX8_isEvent.2.2.1 eX8_isEvent.2.2.2 (by decide +kernel) (by decide) (by decide)
  · cases hS
    exact w_callV (ci := 8) (mX8_placeAll l) (by decide) rX8_placeAll eX8_placeAll.1 (by decide +kernel) eX8_placeAll.2.1 eX8_placeAll.2.2.1 eX8_placeAll.2.2.2 (by decide +kernel) (by decide) (by decide)
  · cases hS
theorem mX8_settled (l : Launch) : w_Met l yX8_settled cX8_settled 6 (some .int) 5 shM rfM 32 sX8_settled.2.2.2.1 sX8_settled.2.2.2.2 :=
  w_meth (o := 8) (Γ := gX8_settled) (tb := tX8_settled) (by decide +kernel) rfl kX8_settled rfl (zX8_settled l) (fun as μ h => by obtain ⟨e, rfl, h⟩ := h; exact Nat.le_of_ble_eq_true rfl) (fun as μ h K hK => by obtain ⟨e, rfl, h⟩ := h; exact vX8_settled e μ h K hK)
set_option maxRecDepth 100000 in
theorem eX8_settled : Cond.code yX8_settled cX8_settled 6 (some .int) ∈ w_tbl ∧ Cond.instanceMethod yX8_settled ∈ w_tbl ∧ Cond.selects (w_C 8) yX8_settled yX8_settled ∈ w_tbl ∧ Cond.initialized yX8_settled.cls ∈ w_tbl := ⟨by decide +kernel, by decide +kernel, by decide +kernel, by decide +kernel⟩
theorem rX8_settled : ∀ as μ, sX8_settled.2.2.2.1 as μ → ∃ q as', as = .ref q :: as' ∧ q < 32 ∧ shM q = .inl 8 := by
  intro as μ h
  obtain ⟨e, rfl, h⟩ := h
  exact ⟨_, _, rfl, by decide, rfl⟩

/-! X8_first -/
def pX8_first (e : Int32) (k : Int32) (μ : wM) : Prop := vp_in e 8 ∧ vp_in (μ 0 35) 7
def qX8_first (e : Int32) (k : Int32) (μ : wM) (r : Int32) (μ' : wM) : Prop := r = (w_of (μ 29) (μ 0 35) (μ 5 e.toNatClampNeg) k) ∧ μ' = μ
def sX8_first : wS := (false, false, 3, fun as μ => ∃ e, ∃ k, as = [.ref 0, .int e, .int k] ∧ pX8_first e k μ, fun as μ r μ' => match as with
  | [.ref _, .int e, .int k] => qX8_first e k μ r μ'
  | _ => False)
def gX8_first : Nat → Option wS := fun k => match k with
  | _ => none
def uX8_first : Nat → Option (List Nat) := fun j => match j with | 4 => some [] | _ => none
set_option maxHeartbeats 4000000 in
set_option maxRecDepth 100000 in
theorem vcX8_first_0 (K : wK) (R : Int32 → wM → Prop) (e : Int32) (k : Int32) (μ : wM) (h : K 4 [some (.ref 0), some (.int e), some (.int k), some (.int 0), some (.int 0)] [] μ) : w_n 8 gX8_first shM rfM 32 (some .int) R tX8_first uX8_first K 18 0 [some (.ref 0), some (.int e), some (.int k), none, none] [] μ :=
  h
set_option maxHeartbeats 4000000 in
set_option maxRecDepth 100000 in
theorem vcX8_first_4 (K : wK) (R : Int32 → wM → Prop) (e : Int32) (k : Int32) (l3 : Int32) (l4 : Int32) (μ : wM) (h : (
    (((k : Int32) ≤ l4) → (vp_in e 8) ∧ R (((μ 5 (e : Int32).toNatClampNeg) * l3) / 100) μ) ∧
    (¬ ((k : Int32) ≤ l4) → (
      ((((μ 0 35) : Int32) ≤ l4) → (vp_in e 8) ∧ R (((μ 5 (e : Int32).toNatClampNeg) * l3) / 100) μ) ∧
      (¬ (((μ 0 35) : Int32) ≤ l4) → (vp_in l4 6) ∧ (∀ (x1 : Int32), x1 = (l3 + (μ 29 (l4 : Int32).toNatClampNeg)) → K 4 [some (.ref 0), some (.int e), some (.int k), some (.int x1), some (.int (l4 + 1))] [] μ)))))) : w_n 8 gX8_first shM rfM 32 (some .int) R tX8_first uX8_first K 18 4 [some (.ref 0), some (.int e), some (.int k), some (.int l3), some (.int l4)] [] μ :=
  And.intro (fun z2605 => And.intro (And.intro (of_decide_eq_true rfl) rfl) (And.intro (And.intro (of_decide_eq_true rfl) (Exists.intro _ (And.intro rfl ((h.1 z2605).1)))) (And.intro ((by decide)) (And.intro trivial ((h.1 z2605).2))))) (fun z2606 => And.intro (And.intro (of_decide_eq_true rfl) rfl) (And.intro (fun z2607 => And.intro (And.intro (of_decide_eq_true rfl) rfl) (And.intro (And.intro (of_decide_eq_true rfl) (Exists.intro _ (And.intro rfl (((h.2 z2606).1 z2607).1)))) (And.intro ((by decide)) (And.intro trivial (((h.2 z2606).1 z2607).2))))) (fun z2608 => And.intro (And.intro (of_decide_eq_true rfl) rfl) (And.intro (And.intro (of_decide_eq_true rfl) (Exists.intro _ (And.intro rfl (((h.2 z2606).2 z2608).1)))) ((((h.2 z2606).2 z2608).2 _ rfl))))))
set_option maxHeartbeats 4000000 in
theorem vX8_first (e : Int32) (k : Int32) (μ : wM) (h : pX8_first e k μ) (K : wK) (hK : w_cl 8 gX8_first shM rfM 32 (some .int) (qX8_first e k μ) tX8_first K) : K 0 [some (.ref 0), some (.int e), some (.int k), none, none] [] μ := by
  unfold pX8_first at h
  obtain ⟨he, hsm⟩ := h
  obtain ⟨C, hC, hCn, hCc⟩ := vp_in_le hsm (by decide)
  have loop : ∀ (d i : Nat), i + d = min k.toNatClampNeg C → K 4 [some (.ref 0), some (.int e), some (.int k), some (.int (w_sum (μ 29) i)), some (.int (nI i))] [] μ := by
    intro d
    induction d with
    | zero =>
      intro i hi
      refine hK uX8_first 18 _ _ _ _ (vcX8_first_4 K _ e k (w_sum (μ 29) i) (nI i) μ ?_)
      have fin : qX8_first e k μ (μ 5 e.toNatClampNeg * w_sum (μ 29) i / 100) μ := by
        unfold qX8_first w_of
        rw [hCc, show min k.toNatClampNeg C = i by omega]
        exact ⟨rfl, rfl⟩
      rw [hCn]
      refine ⟨fun _ => ⟨he, fin⟩, fun c => ⟨fun _ => ⟨he, fin⟩, fun c2 => ?_⟩⟩
      exfalso
      have h1 : ¬ k.toNatClampNeg ≤ i := fun z => c ((cl_le (by omega)).mpr z)
      have h2 : ¬ C ≤ i := fun z => c2 (nI_le z (by omega))
      omega
    | succ d ih =>
      intro i hi
      refine hK uX8_first 18 _ _ _ _ (vcX8_first_4 K _ e k (w_sum (μ 29) i) (nI i) μ ?_)
      have z := ih (i + 1) (by omega)
      have ei : (nI i).toNatClampNeg = i := nI_clamp (by omega)
      rw [hCn, ei, nI_1 i]
      refine ⟨fun c => ?_, fun c => ⟨fun c2 => absurd c2 (nI_ge (by omega) (by omega)), fun c2 => ⟨vp_in_nI (by omega) (by omega), fun x1 hx1 => ?_⟩⟩⟩
      · have := (cl_le (by omega)).mp c
        omega
      · rw [hx1]; exact z
  refine hK uX8_first 18 _ _ _ _ (vcX8_first_0 K _ e k μ ?_)
  exact loop (min k.toNatClampNeg C) 0 (by omega)
set_option maxRecDepth 100000 in
theorem zX8_first (l : Launch) : ∀ (idx : Nat) (S : wS), gX8_first idx = some S → w_Call l 8 idx S 1 shM rfM 32 := by
  intro idx S hS
  unfold gX8_first at hS
  split at hS
  · cases hS
theorem mX8_first (l : Launch) : w_Met l yX8_first cX8_first 5 (some .int) 1 shM rfM 32 sX8_first.2.2.2.1 sX8_first.2.2.2.2 :=
  w_meth (o := 8) (Γ := gX8_first) (tb := tX8_first) (by decide +kernel) rfl kX8_first rfl (zX8_first l) (fun as μ h => by obtain ⟨e, k, rfl, h⟩ := h; exact Nat.le_of_ble_eq_true rfl) (fun as μ h K hK => by obtain ⟨e, k, rfl, h⟩ := h; exact vX8_first e k μ h K hK)
set_option maxRecDepth 100000 in
theorem eX8_first : Cond.code yX8_first cX8_first 5 (some .int) ∈ w_tbl ∧ Cond.instanceMethod yX8_first ∈ w_tbl ∧ Cond.selects (w_C 8) yX8_first yX8_first ∈ w_tbl ∧ Cond.initialized yX8_first.cls ∈ w_tbl := ⟨by decide +kernel, by decide +kernel, by decide +kernel, by decide +kernel⟩
theorem rX8_first : ∀ as μ, sX8_first.2.2.2.1 as μ → ∃ q as', as = .ref q :: as' ∧ q < 32 ∧ shM q = .inl 8 := by
  intro as μ h
  obtain ⟨e, k, rfl, h⟩ := h
  exact ⟨_, _, rfl, by decide, rfl⟩

theorem w_cnt_lt {p : Nat → Bool} {x : Nat} : ∀ n, w_cnt (fun j => p j && decide (j < x)) n = w_cnt p (min n x) := by
  intro n
  induction n with
  | zero => rw [Nat.zero_min]; rfl
  | succ n ih =>
    rw [show w_cnt (fun j => p j && decide (j < x)) (n + 1) = w_cnt (fun j => p j && decide (j < x)) n + (if (p n && decide (n < x)) = true then 1 else 0) from rfl, ih]
    by_cases c : n < x
    · rw [show min (n + 1) x = min n x + 1 by omega, w_cnt, show min n x = n by omega, decide_eq_true c, Bool.and_true]
    · rw [show min (n + 1) x = min n x by omega, decide_eq_false c, Bool.and_false]
      rfl
def wm_won (μ : wM) (e : Int32) (x : Nat) : Int32 := w_wn (wm_pl μ e (μ 0 22).toNatClampNeg) (μ 29) (μ 0 35) (μ 5 e.toNatClampNeg) x
theorem w_sm.won {μ ν : wM} (h : w_sm μ ν) (e : Int32) (x : Nat) : wm_won ν e x = wm_won μ e x := by
  unfold wm_won
  rw [h 0 (by omega), h 29 (by omega), h 5 (by omega), show wm_pl ν e (μ 0 22).toNatClampNeg = wm_pl μ e (μ 0 22).toNatClampNeg from funext (fun m => h.pl e _ m)]
/-! X8_wonOf -/
def pX8_wonOf (e : Int32) (x : Int32) (μ : wM) : Prop := wm_JV μ ∧ vp_in e 8 ∧ vp_in x 10
def qX8_wonOf (e : Int32) (x : Int32) (μ : wM) (r : Int32) (μ' : wM) : Prop := r = wm_won μ e x.toNatClampNeg ∧ w_sm μ μ'
def sX8_wonOf : wS := (false, false, 3, fun as μ => ∃ e, ∃ x, as = [.ref 0, .int e, .int x] ∧ pX8_wonOf e x μ, fun as μ r μ' => match as with
  | [.ref _, .int e, .int x] => qX8_wonOf e x μ r μ'
  | _ => False)
def gX8_wonOf : Nat → Option wS := fun k => match k with
  | 196 => some sX8_placeAll
  | 224 => some sX8_first
  | _ => none
def uX8_wonOf : Nat → Option (List Nat) := fun j => match j with | 21 => some [] | _ => none
set_option maxHeartbeats 4000000 in
set_option maxRecDepth 100000 in
theorem vcX8_wonOf_0 (K : wK) (R : Int32 → wM → Prop) (e : Int32) (x : Int32) (μ : wM) (h : pX8_placeAll e (μ 0 22) μ ∧ (∀ (r1 : Int32) (m2 : wM), qX8_placeAll e (μ 0 22) μ r1 m2 →
    (vp_in x 10) ∧ (∀ (x3 : Int32), x3 = (m2 27 (x : Int32).toNatClampNeg) → (
      (((x3 : Int32) = 0) → R 0 m2) ∧
      (¬ ((x3 : Int32) = 0) → K 21 [some (.ref 0), some (.int e), some (.int x), some (.int r1), some (.int x3), some (.int 0), some (.int 0), some (.int 0)] [] m2))))) : w_n 8 gX8_wonOf shM rfM 32 (some .int) R tX8_wonOf uX8_wonOf K 32 0 [some (.ref 0), some (.int e), some (.int x), none, none, none, none, none] [] μ :=
  And.intro (And.intro (of_decide_eq_true rfl) rfl) (And.intro (Exists.intro _ (Exists.intro _ (And.intro rfl (h.1)))) (fun r1 m2 z2632 => And.intro (And.intro (of_decide_eq_true rfl) rfl) (And.intro (And.intro (of_decide_eq_true rfl) (Exists.intro _ (And.intro rfl ((h.2 r1 m2 z2632).1)))) (And.intro (fun z2633 => And.intro trivial ((((h.2 r1 m2 z2632).2 _ rfl).1 z2633))) (fun z2634 => (((h.2 r1 m2 z2632).2 _ rfl).2 z2634))))))
set_option maxHeartbeats 4000000 in
set_option maxRecDepth 100000 in
theorem vcX8_wonOf_21 (K : wK) (R : Int32 → wM → Prop) (e : Int32) (x : Int32) (l3 : Int32) (l4 : Int32) (l5 : Int32) (l6 : Int32) (l7 : Int32) (μ : wM) (h : (
    (((10 : Int32) ≤ l7) → pX8_first e ((l4 + l5) - 1) μ ∧ pX8_first e (l4 - 1) μ ∧ (∀ (x5 : Int32), x5 = ((w_of (μ 29) (μ 0 35) (μ 5 (e : Int32).toNatClampNeg) ((l4 + l5) - 1)) - (w_of (μ 29) (μ 0 35) (μ 5 (e : Int32).toNatClampNeg) (l4 - 1))) → (l5 ≠ 0) ∧ (
      ((((x5 - x5 / l5 * l5) : Int32) ≤ l6) → R ((x5 / l5) + 0) μ) ∧
      (¬ (((x5 - x5 / l5 * l5) : Int32) ≤ l6) → R ((x5 / l5) + 1) μ)))) ∧
    (¬ ((10 : Int32) ≤ l7) → (vp_in l7 10) ∧ (
      ((((μ 27 (l7 : Int32).toNatClampNeg) : Int32) = l4) → (
        ((((μ 27 (l7 : Int32).toNatClampNeg) : Int32) = l4) → (
          (((x : Int32) ≤ l7) → K 21 [some (.ref 0), some (.int e), some (.int x), some (.int l3), some (.int l4), some (.int (l5 + 1)), some (.int (l6 + 0)), some (.int (l7 + 1))] [] μ) ∧
          (¬ ((x : Int32) ≤ l7) → K 21 [some (.ref 0), some (.int e), some (.int x), some (.int l3), some (.int l4), some (.int (l5 + 1)), some (.int (l6 + 1)), some (.int (l7 + 1))] [] μ))) ∧
        (¬ (((μ 27 (l7 : Int32).toNatClampNeg) : Int32) = l4) → K 21 [some (.ref 0), some (.int e), some (.int x), some (.int l3), some (.int l4), some (.int (l5 + 1)), some (.int (l6 + 0)), some (.int (l7 + 1))] [] μ))) ∧
      (¬ (((μ 27 (l7 : Int32).toNatClampNeg) : Int32) = l4) → (
        ((((μ 27 (l7 : Int32).toNatClampNeg) : Int32) = l4) → (
          (((x : Int32) ≤ l7) → K 21 [some (.ref 0), some (.int e), some (.int x), some (.int l3), some (.int l4), some (.int (l5 + 0)), some (.int (l6 + 0)), some (.int (l7 + 1))] [] μ) ∧
          (¬ ((x : Int32) ≤ l7) → K 21 [some (.ref 0), some (.int e), some (.int x), some (.int l3), some (.int l4), some (.int (l5 + 0)), some (.int (l6 + 1)), some (.int (l7 + 1))] [] μ))) ∧
        (¬ (((μ 27 (l7 : Int32).toNatClampNeg) : Int32) = l4) → K 21 [some (.ref 0), some (.int e), some (.int x), some (.int l3), some (.int l4), some (.int (l5 + 0)), some (.int (l6 + 0)), some (.int (l7 + 1))] [] μ))))))) : w_n 8 gX8_wonOf shM rfM 32 (some .int) R tX8_wonOf uX8_wonOf K 32 21 [some (.ref 0), some (.int e), some (.int x), some (.int l3), some (.int l4), some (.int l5), some (.int l6), some (.int l7)] [] μ :=
  And.intro (fun z2635 => And.intro (Exists.intro _ (Exists.intro _ (And.intro rfl ((h.1 z2635).1)))) (fun _ _ z2639 => by obtain ⟨z2637, z2638⟩ := z2639; have z2637 := z2637.symm; have z2638 := z2638.symm; subst z2637; subst z2638; exact And.intro (Exists.intro _ (Exists.intro _ (And.intro rfl ((h.1 z2635).2.1)))) (fun _ _ z2642 => by obtain ⟨z2640, z2641⟩ := z2642; have z2640 := z2640.symm; have z2641 := z2641.symm; subst z2640; subst z2641; exact And.intro (((h.1 z2635).2.2 _ rfl).1) (And.intro (((h.1 z2635).2.2 _ rfl).1) (And.intro (fun z2643 => And.intro trivial ((((h.1 z2635).2.2 _ rfl).2.1 z2643))) (fun z2644 => And.intro trivial ((((h.1 z2635).2.2 _ rfl).2.2 z2644)))))))) (fun z2636 => And.intro (And.intro (of_decide_eq_true rfl) rfl) (And.intro (And.intro (of_decide_eq_true rfl) (Exists.intro _ (And.intro rfl ((h.2 z2636).1)))) (And.intro (fun z2645 => And.intro (And.intro (of_decide_eq_true rfl) rfl) (And.intro (And.intro (of_decide_eq_true rfl) (Exists.intro _ (And.intro rfl ((h.2 z2636).1)))) (And.intro (fun z2647 => And.intro (fun z2649 => ((((h.2 z2636).2.1 z2645).1 z2647).1 z2649)) (fun z2650 => ((((h.2 z2636).2.1 z2645).1 z2647).2 z2650))) (fun z2648 => (((h.2 z2636).2.1 z2645).2 z2648))))) (fun z2646 => And.intro (And.intro (of_decide_eq_true rfl) rfl) (And.intro (And.intro (of_decide_eq_true rfl) (Exists.intro _ (And.intro rfl ((h.2 z2636).1)))) (And.intro (fun z2651 => And.intro (fun z2653 => ((((h.2 z2636).2.2 z2646).1 z2651).1 z2653)) (fun z2654 => ((((h.2 z2636).2.2 z2646).1 z2651).2 z2654))) (fun z2652 => (((h.2 z2636).2.2 z2646).2 z2652))))))))
set_option maxHeartbeats 4000000 in
theorem vX8_wonOf (e : Int32) (x : Int32) (μ : wM) (h : pX8_wonOf e x μ) (K : wK) (hK : w_cl 8 gX8_wonOf shM rfM 32 (some .int) (qX8_wonOf e x μ) tX8_wonOf K) : K 0 [some (.ref 0), some (.int e), some (.int x), none, none, none, none, none] [] μ := by
  unfold pX8_wonOf at h
  obtain ⟨h, he, hx⟩ := h
  obtain ⟨X, hX, rfl, hXc⟩ := vp_in_le hx (by decide)
  refine hK uX8_wonOf 32 _ _ _ _ (vcX8_wonOf_0 K _ e (nI X) μ ?_)
  refine ⟨h.PAc he, fun T ν hm => ⟨hx, fun p hp => ?_⟩⟩
  obtain ⟨-, q2, -, q4, -⟩ := hm
  generalize hPdef : wm_pl μ e (μ 0 22).toNatClampNeg = P at *
  rw [hXc, q2 X hX] at hp
  have hP12 : vp_in (P X) 12 := by rw [← hPdef]; exact wm_pl_td.2
  have fin : ∀ (v : Int32), v = w_wn P (μ 29) (μ 0 35) (μ 5 e.toNatClampNeg) X → qX8_wonOf e (nI X) μ v ν := fun v hv => by
    unfold qX8_wonOf wm_won
    rw [hXc, hPdef]
    exact ⟨hv, q4⟩
  have loop : ¬ p = 0 → ∀ (d i : Nat), i + d = 10 → K 21 [some (.ref 0), some (.int e), some (.int (nI X)), some (.int T), some (.int p), some (.int (nI (w_cnt (fun j => decide (P j = P X)) i))), some (.int (nI (w_cnt (fun j => decide (P j = P X) && decide (j < X)) i))), some (.int (nI i))] [] ν := by
    intro hp0 d
    induction d with
    | zero =>
      intro i hi
      have hi10 : i = 10 := by omega
      subst hi10
      refine hK uX8_wonOf 32 _ _ _ _ (vcX8_wonOf_21 K _ e (nI X) T p (nI (w_cnt (fun j => decide (P j = P X)) 10)) (nI (w_cnt (fun j => decide (P j = P X) && decide (j < X)) 10)) (nI 10) ν ?_)
      rw [q4 0 (by omega), q4 29 (by omega), q4 5 (by omega)]
      have hsm : vp_in (ν 0 35) 7 := by rw [q4 0 (by omega)]; exact h.1.2.2.2.2.1
      have hmany : 1 ≤ w_cnt (fun j => decide (P j = P X)) 10 := w_cnt_ge hX (by simp)
      have hle := w_cnt_le (fun j => decide (P j = P X)) 10
      have h1 : 1 ≤ nI (w_cnt (fun j => decide (P j = P X)) 10) := nI_le (a := 1) hmany (by omega)
      have hpos : 0 < P X := (nn_pos hP12 (by decide)).mpr (by rw [← hp]; exact hp0)
      rw [w_cnt_lt, show min 10 X = X by omega]
      refine ⟨fun _ => ⟨⟨he, hsm⟩, ⟨he, hsm⟩, fun x5 hx5 => ⟨?_, fun c => fin _ ?_, fun c => fin _ ?_⟩⟩, fun z => absurd (by decide) z⟩
      · intro z; rw [z] at h1; exact absurd h1 (by decide)
      · rw [hp] at hx5
        unfold w_wn
        rw [if_neg (fun z => z hpos)]
        dsimp only
        rw [if_pos h1, ← hx5, if_pos c]
      · rw [hp] at hx5
        unfold w_wn
        rw [if_neg (fun z => z hpos)]
        dsimp only
        rw [if_pos h1, ← hx5, if_neg c]
    | succ d ih =>
      intro i hi
      refine hK uX8_wonOf 32 _ _ _ _ (vcX8_wonOf_21 K _ e (nI X) T p (nI (w_cnt (fun j => decide (P j = P X)) i)) (nI (w_cnt (fun j => decide (P j = P X) && decide (j < X)) i)) (nI i) ν ?_)
      have ei : (nI i).toNatClampNeg = i := nI_clamp (by omega)
      have z := ih (i + 1) (by omega)
      rw [w_cnt, w_cnt] at z
      rw [ei, nI_1 i, q2 i (by omega), Int32.add_zero, Int32.add_zero, nI_1, nI_1]
      refine ⟨fun z => absurd z (nI_ge (b := 10) (by omega) (by omega)), fun _ => ⟨vp_in_nI (by omega) (by omega), fun c => ⟨fun _ => ⟨fun c2 => ?_, fun c2 => ?_⟩, fun c2 => absurd c c2⟩, fun c => ⟨fun c2 => absurd c2 c, fun _ => ?_⟩⟩⟩
      · have c2 : ¬ i < X := fun q => absurd c2 (nI_ge q (by omega))
        rw [hp] at c
        rw [decide_eq_true c, decide_eq_false c2] at z
        exact z
      · have c2 : i < X := by
          rcases Nat.lt_or_ge i X with q | q
          · exact q
          · exact absurd (nI_le q (by omega)) c2
        rw [hp] at c
        rw [decide_eq_true c, decide_eq_true c2] at z
        exact z
      · rw [hp] at c
        rw [decide_eq_false c] at z
        exact z
  refine ⟨fun c => fin 0 ?_, fun c => loop c 10 0 rfl⟩
  unfold w_wn
  rw [if_pos (by rw [← hp, c]; decide)]
set_option maxRecDepth 100000 in
theorem zX8_wonOf (l : Launch) : ∀ (idx : Nat) (S : wS), gX8_wonOf idx = some S → w_Call l 8 idx S 5 shM rfM 32 := by
  intro idx S hS
  unfold gX8_wonOf at hS
  split at hS
  · cases hS
    exact w_callV (ci := 8) (mX8_placeAll l) (by decide) rX8_placeAll eX8_placeAll.1 (by decide +kernel) eX8_placeAll.2.1 eX8_placeAll.2.2.1 eX8_placeAll.2.2.2 (by decide +kernel) (by decide) (by decide)
  · cases hS
    exact w_callV (ci := 8) (mX8_first l) (by decide) rX8_first eX8_first.1 (by decide +kernel) eX8_first.2.1 eX8_first.2.2.1 eX8_first.2.2.2 (by decide +kernel) (by decide) (by decide)
  · cases hS
theorem mX8_wonOf (l : Launch) : w_Met l yX8_wonOf cX8_wonOf 8 (some .int) 5 shM rfM 32 sX8_wonOf.2.2.2.1 sX8_wonOf.2.2.2.2 :=
  w_meth (o := 8) (Γ := gX8_wonOf) (tb := tX8_wonOf) (by decide +kernel) rfl kX8_wonOf rfl (zX8_wonOf l) (fun as μ h => by obtain ⟨e, x, rfl, h⟩ := h; exact Nat.le_of_ble_eq_true rfl) (fun as μ h K hK => by obtain ⟨e, x, rfl, h⟩ := h; exact vX8_wonOf e x μ h K hK)
set_option maxRecDepth 100000 in
theorem eX8_wonOf : Cond.code yX8_wonOf cX8_wonOf 8 (some .int) ∈ w_tbl ∧ Cond.instanceMethod yX8_wonOf ∈ w_tbl ∧ Cond.selects (w_C 8) yX8_wonOf yX8_wonOf ∈ w_tbl ∧ Cond.initialized yX8_wonOf.cls ∈ w_tbl := ⟨by decide +kernel, by decide +kernel, by decide +kernel, by decide +kernel⟩
theorem rX8_wonOf : ∀ as μ, sX8_wonOf.2.2.2.1 as μ → ∃ q as', as = .ref q :: as' ∧ q < 32 ∧ shM q = .inl 8 := by
  intro as μ h
  obtain ⟨e, x, rfl, h⟩ := h
  exact ⟨_, _, rfl, by decide, rfl⟩

/-! X8_won -/
def pX8_won (e : Int32) (x : Int32) (μ : wM) : Prop := wm_JV μ
def qX8_won (e : Int32) (x : Int32) (μ : wM) (r : Int32) (μ' : wM) : Prop := r = (if w_inB e 0 (μ 0 0 - 1) = true ∧ w_inB x 0 9 = true then wm_won μ e x.toNatClampNeg else -1) ∧ w_sm μ μ'
def sX8_won : wS := (false, false, 3, fun as μ => ∃ e, ∃ x, as = [.ref 0, .int e, .int x] ∧ pX8_won e x μ, fun as μ r μ' => match as with
  | [.ref _, .int e, .int x] => qX8_won e x μ r μ'
  | _ => False)
def gX8_won : Nat → Option wS := fun k => match k with
  | 121 => some sX8_isEvent
  | 125 => some sX8_isMan
  | 227 => some sX8_wonOf
  | _ => none
def uX8_won : Nat → Option (List Nat) := fun _ => none
set_option maxHeartbeats 4000000 in
set_option maxRecDepth 100000 in
theorem vcX8_won_0 (K : wK) (R : Int32 → wM → Prop) (e : Int32) (x : Int32) (μ : wM) (h : (
    ((w_inB e 0 (μ 0 0 - 1)) = false → R (-1) μ) ∧
    ((w_inB e 0 (μ 0 0 - 1)) = true → (
      ((w_inB x 0 9) = false → R (-1) μ) ∧
      ((w_inB x 0 9) = true → pX8_wonOf e x μ ∧ (∀ (r5 : Int32) (m6 : wM), qX8_wonOf e x μ r5 m6 →
        R r5 m6)))))) : w_n 8 gX8_won shM rfM 32 (some .int) R tX8_won uX8_won K 14 0 [some (.ref 0), some (.int e), some (.int x)] [] μ :=
  And.intro (Exists.intro _ (And.intro rfl (trivial))) (fun _ _ z2668 => by obtain ⟨z2666, z2667⟩ := z2668; have z2666 := z2666.symm; have z2667 := z2667.symm; subst z2666; subst z2667; exact And.intro (fun z2669 => And.intro trivial ((h.1 (w_B01_0.mp z2669)))) (fun z2670 => And.intro (Exists.intro _ (And.intro rfl (trivial))) (fun _ _ z2673 => by obtain ⟨z2671, z2672⟩ := z2673; have z2671 := z2671.symm; have z2672 := z2672.symm; subst z2671; subst z2672; exact And.intro (fun z2674 => And.intro trivial (((h.2 (w_B01_n.mp z2670)).1 (w_B01_0.mp z2674)))) (fun z2675 => And.intro (Exists.intro _ (Exists.intro _ (And.intro rfl (((h.2 (w_B01_n.mp z2670)).2 (w_B01_n.mp z2675)).1)))) (fun r5 m6 z2676 => And.intro trivial ((((h.2 (w_B01_n.mp z2670)).2 (w_B01_n.mp z2675)).2 r5 m6 z2676)))))))
set_option maxHeartbeats 4000000 in
theorem vX8_won (e : Int32) (x : Int32) (μ : wM) (h : pX8_won e x μ) (K : wK) (hK : w_cl 8 gX8_won shM rfM 32 (some .int) (qX8_won e x μ) tX8_won K) : K 0 [some (.ref 0), some (.int e), some (.int x)] [] μ := by
  refine hK uX8_won 14 _ _ _ _ (vcX8_won_0 K _ e x μ ?_)
  clear hK
  unfold pX8_won at h
  unfold qX8_won
  refine ⟨fun c => ⟨by rw [if_neg (by rw [c]; simp)], w_sm.refl _⟩, fun c => ⟨fun c2 => ⟨by rw [if_neg (by rw [c2]; simp)], w_sm.refl _⟩, fun c2 => ?_⟩⟩
  refine ⟨⟨h, inM_in h.1.1 c, in9 c2⟩, fun r m hq => ?_⟩
  rw [if_pos ⟨c, c2⟩]
  exact hq
set_option maxRecDepth 100000 in
theorem zX8_won (l : Launch) : ∀ (idx : Nat) (S : wS), gX8_won idx = some S → w_Call l 8 idx S 6 shM rfM 32 := by
  intro idx S hS
  unfold gX8_won at hS
  split at hS
  · cases hS
    exact w_callV (ci := 8) (mX8_isEvent l) (by decide) rX8_isEvent eX8_isEvent.1 (by decide +kernel) eX8_isEvent.2.1 eX8_isEvent.2.2.1 eX8_isEvent.2.2.2 (by decide +kernel) (by decide) (by decide)
  · cases hS
    exact w_callS (mX8_isMan l) eX8_isMan.1 (by decide +kernel) eX8_isMan.2.1 eX8_isMan.2.2 (by decide +kernel) (by decide) (by decide)
  · cases hS
    exact w_callV (ci := 8) (mX8_wonOf l) (by decide) rX8_wonOf eX8_wonOf.1 (by decide +kernel) eX8_wonOf.2.1 eX8_wonOf.2.2.1 eX8_wonOf.2.2.2 (by decide +kernel) (by decide) (by decide)
  · cases hS
theorem mX8_won (l : Launch) : w_Met l yX8_won cX8_won 3 (some .int) 6 shM rfM 32 sX8_won.2.2.2.1 sX8_won.2.2.2.2 :=
  w_meth (o := 8) (Γ := gX8_won) (tb := tX8_won) (by decide +kernel) rfl kX8_won rfl (zX8_won l) (fun as μ h => by obtain ⟨e, x, rfl, h⟩ := h; exact Nat.le_of_ble_eq_true rfl) (fun as μ h K hK => by obtain ⟨e, x, rfl, h⟩ := h; exact vX8_won e x μ h K hK)
set_option maxRecDepth 100000 in
theorem eX8_won : Cond.code yX8_won cX8_won 3 (some .int) ∈ w_tbl ∧ Cond.instanceMethod yX8_won ∈ w_tbl ∧ Cond.selects (w_C 8) yX8_won yX8_won ∈ w_tbl ∧ Cond.initialized yX8_won.cls ∈ w_tbl := ⟨by decide +kernel, by decide +kernel, by decide +kernel, by decide +kernel⟩
theorem rX8_won : ∀ as μ, sX8_won.2.2.2.1 as μ → ∃ q as', as = .ref q :: as' ∧ q < 32 ∧ shM q = .inl 8 := by
  intro as μ h
  obtain ⟨e, x, rfl, h⟩ := h
  exact ⟨_, _, rfl, by decide, rfl⟩

/-! X8_all -/
def pX8_all (x : Int32) (μ : wM) : Prop := wm_JV μ
def qX8_all (x : Int32) (μ : wM) (r : Int32) (μ' : wM) : Prop := r = (if w_inB x 0 9 = true then w_sum (fun i => wm_won μ (nI i) x.toNatClampNeg) (μ 0 0).toNatClampNeg else -1) ∧ w_sm μ μ'
def sX8_all : wS := (false, false, 2, fun as μ => ∃ x, as = [.ref 0, .int x] ∧ pX8_all x μ, fun as μ r μ' => match as with
  | [.ref _, .int x] => qX8_all x μ r μ'
  | _ => False)
def gX8_all : Nat → Option wS := fun k => match k with
  | 125 => some sX8_isMan
  | 227 => some sX8_wonOf
  | _ => none
def uX8_all : Nat → Option (List Nat) := fun j => match j with | 9 => some [] | _ => none
set_option maxHeartbeats 4000000 in
set_option maxRecDepth 100000 in
theorem vcX8_all_0 (K : wK) (R : Int32 → wM → Prop) (x : Int32) (μ : wM) (h : (
    ((w_inB x 0 9) = false → R (-1) μ) ∧
    ((w_inB x 0 9) = true → K 9 [some (.ref 0), some (.int x), some (.int 0), some (.int 0)] [] μ))) : w_n 8 gX8_all shM rfM 32 (some .int) R tX8_all uX8_all K 15 0 [some (.ref 0), some (.int x), none, none] [] μ :=
  And.intro (Exists.intro _ (And.intro rfl (trivial))) (fun _ _ z2687 => by obtain ⟨z2685, z2686⟩ := z2687; have z2685 := z2685.symm; have z2686 := z2686.symm; subst z2685; subst z2686; exact And.intro (fun z2688 => And.intro trivial ((h.1 (w_B01_0.mp z2688)))) (fun z2689 => (h.2 (w_B01_n.mp z2689))))
set_option maxHeartbeats 4000000 in
set_option maxRecDepth 100000 in
theorem vcX8_all_9 (K : wK) (R : Int32 → wM → Prop) (x : Int32) (l2 : Int32) (l3 : Int32) (μ : wM) (h : (
    ((((μ 0 0) : Int32) ≤ l3) → R l2 μ) ∧
    (¬ (((μ 0 0) : Int32) ≤ l3) → pX8_wonOf l3 x μ ∧ (∀ (r1 : Int32) (m2 : wM), qX8_wonOf l3 x μ r1 m2 →
      K 9 [some (.ref 0), some (.int x), some (.int (l2 + r1)), some (.int (l3 + 1))] [] m2)))) : w_n 8 gX8_all shM rfM 32 (some .int) R tX8_all uX8_all K 15 9 [some (.ref 0), some (.int x), some (.int l2), some (.int l3)] [] μ :=
  And.intro (And.intro (of_decide_eq_true rfl) rfl) (And.intro (fun z2690 => And.intro trivial ((h.1 z2690))) (fun z2691 => And.intro (Exists.intro _ (Exists.intro _ (And.intro rfl ((h.2 z2691).1)))) (fun r1 m2 z2692 => ((h.2 z2691).2 r1 m2 z2692))))
set_option maxHeartbeats 4000000 in
theorem vX8_all (x : Int32) (μ : wM) (h : pX8_all x μ) (K : wK) (hK : w_cl 8 gX8_all shM rfM 32 (some .int) (qX8_all x μ) tX8_all K) : K 0 [some (.ref 0), some (.int x), none, none] [] μ := by
  unfold pX8_all at h
  obtain ⟨C, hC, hCn, hCc⟩ := vp_in_le h.1.1 (by decide)
  have loop : w_inB x 0 9 = true → ∀ (k i : Nat) (ν : wM), i + k = C → w_sm μ ν → K 9 [some (.ref 0), some (.int x), some (.int (w_sum (fun i => wm_won μ (nI i) x.toNatClampNeg) i)), some (.int (nI i))] [] ν := by
    intro hx k
    induction k with
    | zero =>
      intro i ν hi hs
      refine hK uX8_all 15 _ _ _ _ (vcX8_all_9 K _ x (w_sum (fun i => wm_won μ (nI i) x.toNatClampNeg) i) (nI i) ν ?_)
      rw [hs 0 (by omega), hCn]
      refine ⟨fun _ => ?_, fun z => absurd (nI_le (by omega) (by omega)) z⟩
      unfold qX8_all
      rw [if_pos hx, hCc, show i = C by omega]
      exact ⟨rfl, hs⟩
    | succ k ih =>
      intro i ν hi hs
      refine hK uX8_all 15 _ _ _ _ (vcX8_all_9 K _ x (w_sum (fun i => wm_won μ (nI i) x.toNatClampNeg) i) (nI i) ν ?_)
      rw [hs 0 (by omega), hCn]
      refine ⟨fun z => absurd z (nI_ge (by omega) (by omega)), fun _ => ⟨⟨h.sm hs, vp_in_nI (by omega) (by omega), in9 hx⟩, fun r m hq => ?_⟩⟩
      obtain ⟨q1, q2⟩ := hq
      rw [hs.won] at q1
      rw [q1, nI_1]
      exact ih (i + 1) m (by omega) (hs.trans q2)
  refine hK uX8_all 15 _ _ _ _ (vcX8_all_0 K _ x μ ?_)
  refine ⟨fun c => ?_, fun c => loop c C 0 μ (by omega) (w_sm.refl _)⟩
  unfold qX8_all
  rw [if_neg (by rw [c]; simp)]
  exact ⟨rfl, w_sm.refl _⟩
set_option maxRecDepth 100000 in
theorem zX8_all (l : Launch) : ∀ (idx : Nat) (S : wS), gX8_all idx = some S → w_Call l 8 idx S 6 shM rfM 32 := by
  intro idx S hS
  unfold gX8_all at hS
  split at hS
  · cases hS
    exact w_callS (mX8_isMan l) eX8_isMan.1 (by decide +kernel) eX8_isMan.2.1 eX8_isMan.2.2 (by decide +kernel) (by decide) (by decide)
  · cases hS
    exact w_callV (ci := 8) (mX8_wonOf l) (by decide) rX8_wonOf eX8_wonOf.1 (by decide +kernel) eX8_wonOf.2.1 eX8_wonOf.2.2.1 eX8_wonOf.2.2.2 (by decide +kernel) (by decide) (by decide)
  · cases hS
theorem mX8_all (l : Launch) : w_Met l yX8_all cX8_all 4 (some .int) 6 shM rfM 32 sX8_all.2.2.2.1 sX8_all.2.2.2.2 :=
  w_meth (o := 8) (Γ := gX8_all) (tb := tX8_all) (by decide +kernel) rfl kX8_all rfl (zX8_all l) (fun as μ h => by obtain ⟨x, rfl, h⟩ := h; exact Nat.le_of_ble_eq_true rfl) (fun as μ h K hK => by obtain ⟨x, rfl, h⟩ := h; exact vX8_all x μ h K hK)
set_option maxRecDepth 100000 in
theorem eX8_all : Cond.code yX8_all cX8_all 4 (some .int) ∈ w_tbl ∧ Cond.instanceMethod yX8_all ∈ w_tbl ∧ Cond.selects (w_C 8) yX8_all yX8_all ∈ w_tbl ∧ Cond.initialized yX8_all.cls ∈ w_tbl := ⟨by decide +kernel, by decide +kernel, by decide +kernel, by decide +kernel⟩
theorem rX8_all : ∀ as μ, sX8_all.2.2.2.1 as μ → ∃ q as', as = .ref q :: as' ∧ q < 32 ∧ shM q = .inl 8 := by
  intro as μ h
  obtain ⟨x, rfl, h⟩ := h
  exact ⟨_, _, rfl, by decide, rfl⟩

theorem w_clip (y : Int32) : w_mx (-50) (w_mn 50 y) = if y ≤ 50 then (if -50 ≤ y then y else -50) else 50 := by
  unfold w_mx w_mn
  have e50 : (50 : Int32).toInt = 50 := rfl
  have em : (-50 : Int32).toInt = -50 := rfl
  by_cases c : y ≤ 50
  · rw [if_pos c]
    have c' := i_le.mp c
    by_cases c2 : (-50 : Int32) ≤ y
    · rw [if_pos c2]
      by_cases c3 : y < 50
      · rw [if_pos c3]
        by_cases c4 : (-50 : Int32) < y
        · rw [if_pos c4]
        · rw [if_neg c4]
          have := i_le.mp (i_nlt.mp c4)
          have := i_le.mp c2
          exact i_eq.mpr (by omega)
      · rw [if_neg c3, if_pos (by decide)]
        have := i_le.mp (i_nlt.mp c3)
        exact i_eq.mpr (by omega)
    · rw [if_neg c2]
      have c2 := i_lt.mp (i_nle.mp c2)
      have c3 : y < 50 := i_lt.mpr (by omega)
      rw [if_pos c3, if_neg (fun z => by have := i_lt.mp z; omega)]
  · rw [if_neg c]
    have c' := i_lt.mp (i_nle.mp c)
    have e : (if y < 50 then y else 50) = 50 := if_neg (fun z => by have := i_lt.mp z; omega)
    rw [e, if_pos (by decide)]
def wm_mvF (μ : wM) (e n : Int32) : Int32 × (Nat → Int32) := if w_inB e 0 (μ 0 0 - 1) = true ∧ w_inB n 0 (μ 0 22) = true then (if μ 1 e.toNatClampNeg = 1 then (nI (w_mvc (μ 10) (wm_pl μ e n.toNatClampNeg) (nI (w_cnt (wm_td μ e n.toNatClampNeg) 10)) 10), w_mvr (μ 10) (wm_pl μ e n.toNatClampNeg) (nI (w_cnt (wm_td μ e n.toNatClampNeg) 10)) 10) else (-12, μ 10)) else (-1, μ 10)
/-! X8_move -/
def pX8_move (e : Int32) (n : Int32) (μ : wM) : Prop := wm_JV μ
def qX8_move (e : Int32) (n : Int32) (μ : wM) (r : Int32) (μ' : wM) : Prop := r = (wm_mvF μ e n).1 ∧ w_sm (w_row μ 10 (wm_mvF μ e n).2) μ'
def sX8_move : wS := (false, false, 3, fun as μ => ∃ e, ∃ n, as = [.ref 0, .int e, .int n] ∧ pX8_move e n μ, fun as μ r μ' => match as with
  | [.ref _, .int e, .int n] => qX8_move e n μ r μ'
  | _ => False)
def gX8_move : Nat → Option wS := fun k => match k with
  | 1 => some sX8_in
  | 121 => some sX8_isEvent
  | 196 => some sX8_placeAll
  | _ => none
def uX8_move : Nat → Option (List Nat) := fun j => match j with | 29 => some [6] | _ => none
set_option maxHeartbeats 4000000 in
set_option maxRecDepth 100000 in
theorem vcX8_move_0 (K : wK) (R : Int32 → wM → Prop) (e : Int32) (n : Int32) (μ : wM) (h : (
    ((w_inB e 0 (μ 0 0 - 1)) = false → R (-1) μ) ∧
    ((w_inB e 0 (μ 0 0 - 1)) = true → (
      ((w_inB n 0 (μ 0 22)) = false → R (-1) μ) ∧
      ((w_inB n 0 (μ 0 22)) = true → (vp_in e 8) ∧ (
        ((((μ 1 (e : Int32).toNatClampNeg) : Int32) = 1) → pX8_placeAll e n μ ∧ (∀ (r5 : Int32) (m6 : wM), qX8_placeAll e n μ r5 m6 →
          K 29 [some (.ref 0), some (.int e), some (.int n), some (.int r5), some (.int 0), some (.int 0), none] [] m6)) ∧
        (¬ (((μ 1 (e : Int32).toNatClampNeg) : Int32) = 1) → R (-12) μ))))))) : w_n 8 gX8_move shM rfM 32 (some .int) R tX8_move uX8_move K 53 0 [some (.ref 0), some (.int e), some (.int n), none, none, none, none] [] μ :=
  And.intro (Exists.intro _ (And.intro rfl (trivial))) (fun _ _ z2722 => by obtain ⟨z2720, z2721⟩ := z2722; have z2720 := z2720.symm; have z2721 := z2721.symm; subst z2720; subst z2721; exact And.intro (fun z2723 => And.intro trivial ((h.1 (w_B01_0.mp z2723)))) (fun z2724 => And.intro (And.intro (of_decide_eq_true rfl) rfl) (And.intro (Exists.intro _ (Exists.intro _ (Exists.intro _ (And.intro rfl (trivial))))) (fun _ _ z2727 => by obtain ⟨z2725, z2726⟩ := z2727; have z2725 := z2725.symm; have z2726 := z2726.symm; subst z2725; subst z2726; exact And.intro (fun z2728 => And.intro trivial (((h.2 (w_B01_n.mp z2724)).1 (w_B01_0.mp z2728)))) (fun z2729 => And.intro (And.intro (of_decide_eq_true rfl) rfl) (And.intro (And.intro (of_decide_eq_true rfl) (Exists.intro _ (And.intro rfl (((h.2 (w_B01_n.mp z2724)).2 (w_B01_n.mp z2729)).1)))) (And.intro (fun z2730 => And.intro (Exists.intro _ (Exists.intro _ (And.intro rfl ((((h.2 (w_B01_n.mp z2724)).2 (w_B01_n.mp z2729)).2.1 z2730).1)))) (fun r5 m6 z2732 => ((((h.2 (w_B01_n.mp z2724)).2 (w_B01_n.mp z2729)).2.1 z2730).2 r5 m6 z2732))) (fun z2731 => And.intro trivial ((((h.2 (w_B01_n.mp z2724)).2 (w_B01_n.mp z2729)).2.2 z2731))))))))))
set_option maxHeartbeats 4000000 in
set_option maxRecDepth 100000 in
theorem vcX8_move_29 (K : wK) (R : Int32 → wM → Prop) (e : Int32) (n : Int32) (l3 : Int32) (l4 : Int32) (l5 : Int32) (μ : wM) (h : (
    (((10 : Int32) ≤ l5) → R l4 μ) ∧
    (¬ ((10 : Int32) ≤ l5) → (vp_in l5 10) ∧ (
      ((((μ 27 (l5 : Int32).toNatClampNeg) : Int32) ≤ 0) → K 29 [some (.ref 0), some (.int e), some (.int n), some (.int l3), some (.int l4), some (.int (l5 + 1)), none] [] μ) ∧
      (¬ (((μ 27 (l5 : Int32).toNatClampNeg) : Int32) ≤ 0) → (∀ (x1 : Int32), x1 = ((((μ 10 (l5 : Int32).toNatClampNeg) + (2 * (μ 27 (l5 : Int32).toNatClampNeg))) - 1) - l3) → (
        (((x1 : Int32) ≤ 50) → (
          ((((-50) : Int32) ≤ x1) → (
            (((x1 : Int32) = (μ 10 (l5 : Int32).toNatClampNeg)) → K 29 [some (.ref 0), some (.int e), some (.int n), some (.int l3), some (.int (l4 + 0)), some (.int (l5 + 1)), none] [] (w_up μ 10 (l5 : Int32).toNatClampNeg x1)) ∧
            (¬ ((x1 : Int32) = (μ 10 (l5 : Int32).toNatClampNeg)) → K 29 [some (.ref 0), some (.int e), some (.int n), some (.int l3), some (.int (l4 + 1)), some (.int (l5 + 1)), none] [] (w_up μ 10 (l5 : Int32).toNatClampNeg x1)))) ∧
          (¬ (((-50) : Int32) ≤ x1) → (
            ((((-50) : Int32) = (μ 10 (l5 : Int32).toNatClampNeg)) → K 29 [some (.ref 0), some (.int e), some (.int n), some (.int l3), some (.int (l4 + 0)), some (.int (l5 + 1)), none] [] (w_up μ 10 (l5 : Int32).toNatClampNeg (-50))) ∧
            (¬ (((-50) : Int32) = (μ 10 (l5 : Int32).toNatClampNeg)) → K 29 [some (.ref 0), some (.int e), some (.int n), some (.int l3), some (.int (l4 + 1)), some (.int (l5 + 1)), none] [] (w_up μ 10 (l5 : Int32).toNatClampNeg (-50))))))) ∧
        (¬ ((x1 : Int32) ≤ 50) → (
          (((50 : Int32) = (μ 10 (l5 : Int32).toNatClampNeg)) → K 29 [some (.ref 0), some (.int e), some (.int n), some (.int l3), some (.int (l4 + 0)), some (.int (l5 + 1)), none] [] (w_up μ 10 (l5 : Int32).toNatClampNeg 50)) ∧
          (¬ ((50 : Int32) = (μ 10 (l5 : Int32).toNatClampNeg)) → K 29 [some (.ref 0), some (.int e), some (.int n), some (.int l3), some (.int (l4 + 1)), some (.int (l5 + 1)), none] [] (w_up μ 10 (l5 : Int32).toNatClampNeg 50))))))))))) : w_n 8 gX8_move shM rfM 32 (some .int) R tX8_move uX8_move K 53 29 [some (.ref 0), some (.int e), some (.int n), some (.int l3), some (.int l4), some (.int l5), none] [] μ :=
  And.intro (fun z2733 => And.intro trivial ((h.1 z2733))) (fun z2734 => And.intro (And.intro (of_decide_eq_true rfl) rfl) (And.intro (And.intro (of_decide_eq_true rfl) (Exists.intro _ (And.intro rfl ((h.2 z2734).1)))) (And.intro (fun z2735 => ((h.2 z2734).2.1 z2735)) (fun z2736 => And.intro (And.intro (of_decide_eq_true rfl) rfl) (And.intro (And.intro (of_decide_eq_true rfl) (Exists.intro _ (And.intro rfl ((h.2 z2734).1)))) (And.intro (And.intro (of_decide_eq_true rfl) rfl) (And.intro (And.intro (of_decide_eq_true rfl) (Exists.intro _ (And.intro rfl ((h.2 z2734).1)))) (And.intro (fun z2737 => And.intro (fun z2739 => And.intro (And.intro (of_decide_eq_true rfl) rfl) (And.intro (And.intro (of_decide_eq_true rfl) (Exists.intro _ (And.intro rfl ((h.2 z2734).1)))) (And.intro (fun z2741 => And.intro (And.intro (of_decide_eq_true rfl) rfl) (And.intro (And.intro (of_decide_eq_true rfl) (Exists.intro _ (And.intro rfl ((h.2 z2734).1)))) (((((((h.2 z2734).2.2 z2736) _ rfl).1 z2737).1 z2739).1 z2741)))) (fun z2742 => And.intro (And.intro (of_decide_eq_true rfl) rfl) (And.intro (And.intro (of_decide_eq_true rfl) (Exists.intro _ (And.intro rfl ((h.2 z2734).1)))) (((((((h.2 z2734).2.2 z2736) _ rfl).1 z2737).1 z2739).2 z2742))))))) (fun z2740 => And.intro (And.intro (of_decide_eq_true rfl) rfl) (And.intro (And.intro (of_decide_eq_true rfl) (Exists.intro _ (And.intro rfl ((h.2 z2734).1)))) (And.intro (fun z2743 => And.intro (And.intro (of_decide_eq_true rfl) rfl) (And.intro (And.intro (of_decide_eq_true rfl) (Exists.intro _ (And.intro rfl ((h.2 z2734).1)))) (((((((h.2 z2734).2.2 z2736) _ rfl).1 z2737).2 z2740).1 z2743)))) (fun z2744 => And.intro (And.intro (of_decide_eq_true rfl) rfl) (And.intro (And.intro (of_decide_eq_true rfl) (Exists.intro _ (And.intro rfl ((h.2 z2734).1)))) (((((((h.2 z2734).2.2 z2736) _ rfl).1 z2737).2 z2740).2 z2744)))))))) (fun z2738 => And.intro (And.intro (of_decide_eq_true rfl) rfl) (And.intro (And.intro (of_decide_eq_true rfl) (Exists.intro _ (And.intro rfl ((h.2 z2734).1)))) (And.intro (fun z2745 => And.intro (And.intro (of_decide_eq_true rfl) rfl) (And.intro (And.intro (of_decide_eq_true rfl) (Exists.intro _ (And.intro rfl ((h.2 z2734).1)))) ((((((h.2 z2734).2.2 z2736) _ rfl).2 z2738).1 z2745)))) (fun z2746 => And.intro (And.intro (of_decide_eq_true rfl) rfl) (And.intro (And.intro (of_decide_eq_true rfl) (Exists.intro _ (And.intro rfl ((h.2 z2734).1)))) ((((((h.2 z2734).2.2 z2736) _ rfl).2 z2738).2 z2746)))))))))))))))
set_option maxHeartbeats 4000000 in
theorem vX8_move (e : Int32) (n : Int32) (μ : wM) (h : pX8_move e n μ) (K : wK) (hK : w_cl 8 gX8_move shM rfM 32 (some .int) (qX8_move e n μ) tX8_move K) : K 0 [some (.ref 0), some (.int e), some (.int n), none, none, none, none] [] μ := by
  unfold pX8_move at h
  refine hK uX8_move 53 _ _ _ _ (vcX8_move_0 K _ e n μ ?_)
  have rf : w_sm (w_row μ 10 (μ 10)) μ := by rw [w_row_self]; exact w_sm.refl _
  refine ⟨fun c => ?_, fun c => ⟨fun c1 => ?_, fun c1 => ?_⟩⟩
  · unfold qX8_move wm_mvF
    rw [if_neg (by rw [c]; simp)]
    exact ⟨rfl, rf⟩
  · unfold qX8_move wm_mvF
    rw [if_neg (by rw [c1]; simp)]
    exact ⟨rfl, rf⟩
  have he := inM_in h.1.1 c
  refine ⟨he, fun c2 => ⟨h.PAn he c1, fun T ν hm => ?_⟩, fun c2 => ?_⟩
  · obtain ⟨q1, q2, -, q4, -⟩ := hm
    subst q1
    generalize hT : nI (w_cnt (wm_td μ e n.toNatClampNeg) 10) = T at *
    generalize hP : wm_pl μ e n.toNatClampNeg = P at *
    have loop : ∀ (d i : Nat) (ρ : wM), i + d = 10 → (∀ a, (a ≠ 10 ∧ (a < 24 ∨ 28 < a)) → ρ a = μ a) → (∀ j, j < 10 → ρ 27 j = P j) → ρ 10 = w_mvr (μ 10) P T i → K 29 [some (.ref 0), some (.int e), some (.int n), some (.int T), some (.int (nI (w_mvc (μ 10) P T i))), some (.int (nI i)), none] [] ρ := by
      intro d
      induction d with
      | zero =>
        intro i ρ hi hs h27 h10
        have hi10 : i = 10 := by omega
        subst hi10
        refine hK uX8_move 53 _ _ _ _ (vcX8_move_29 K _ e n T (nI (w_mvc (μ 10) P T 10)) (nI 10) ρ ?_)
        refine ⟨fun _ => ?_, fun z => absurd (by decide) z⟩
        unfold qX8_move wm_mvF
        rw [if_pos ⟨c, c1⟩, if_pos c2, hT, hP]
        refine ⟨rfl, fun a ha => ?_⟩
        by_cases q : a = 10
        · rw [q, w_row_at]; exact h10
        · rw [w_row_ne _ _ q]; exact hs a ⟨q, ha⟩
      | succ d ih =>
        intro i ρ hi hs h27 h10
        refine hK uX8_move 53 _ _ _ _ (vcX8_move_29 K _ e n T (nI (w_mvc (μ 10) P T i)) (nI i) ρ ?_)
        have ei : (nI i).toNatClampNeg = i := nI_clamp (by omega)
        have eg : ρ 10 i = μ 10 i := by rw [h10]; exact if_neg (by omega)
        rw [ei, nI_1 i, h27 i (by omega), eg, Int32.add_zero, nI_1]
        have nx : ∀ v : Int32, v = w_mvy (μ 10) P T i → (v = μ 10 i → K 29 [some (.ref 0), some (.int e), some (.int n), some (.int T), some (.int (nI (w_mvc (μ 10) P T i))), some (.int (nI (i + 1))), none] [] (w_up ρ 10 i v)) ∧ (¬ v = μ 10 i → K 29 [some (.ref 0), some (.int e), some (.int n), some (.int T), some (.int (nI (w_mvc (μ 10) P T i + 1))), some (.int (nI (i + 1))), none] [] (w_up ρ 10 i v)) := by
          intro v hv
          have z := ih (i + 1) (w_up ρ 10 i v) (by omega) (fun a ha => by rw [w_up_o ha.1]; exact hs a ha) (fun j hj => by rw [w_up_o (by decide)]; exact h27 j hj) (by rw [w_up_s, h10, hv, w_mvr_s])
          unfold w_mvc at z ⊢
          rw [w_cnt] at z
          refine ⟨fun c5 => ?_, fun c5 => ?_⟩
          · rw [if_neg (by simp [← hv, c5])] at z; exact z
          · rw [if_pos (by simp [← hv, c5])] at z; exact z
        refine ⟨fun z => absurd z (nI_ge (b := 10) (by omega) (by omega)), fun _ => ⟨vp_in_nI (by omega) (by omega), fun c3 => ?_, fun c3 x1 hx1 => ⟨fun c4 => ⟨fun c5 => nx x1 ?_, fun c5 => nx (-50) ?_⟩, fun c4 => nx 50 ?_⟩⟩⟩
        · have ey : w_mvy (μ 10) P T i = μ 10 i := if_neg (i_nlt.mpr c3)
          have z := ih (i + 1) ρ (by omega) hs h27 (by rw [w_mvr_n _ _ _ _ ey]; exact h10)
          unfold w_mvc at z ⊢
          rw [w_cnt, if_neg (by simp [ey])] at z
          exact z
        · unfold w_mvy; rw [if_pos (i_nle.mp c3), ← hx1, w_clip, if_pos c4, if_pos c5]
        · unfold w_mvy; rw [if_pos (i_nle.mp c3), ← hx1, w_clip, if_pos c4, if_neg c5]
        · unfold w_mvy; rw [if_pos (i_nle.mp c3), ← hx1, w_clip, if_neg c4]
    exact loop 10 0 ν rfl (fun a ha => q4 a ha.2) q2 (by rw [q4 10 (by omega)]; funext j; exact (if_neg (by omega)).symm)
  · unfold qX8_move wm_mvF
    rw [if_pos ⟨c, c1⟩, if_neg c2]
    exact ⟨rfl, rf⟩
set_option maxRecDepth 100000 in
theorem zX8_move (l : Launch) : ∀ (idx : Nat) (S : wS), gX8_move idx = some S → w_Call l 8 idx S 5 shM rfM 32 := by
  intro idx S hS
  unfold gX8_move at hS
  split at hS
  · cases hS
    exact w_callS (mX8_in l) eX8_in.1 (by decide +kernel) eX8_in.2.1 eX8_in.2.2 (by decide +kernel) (by decide) (by decide)
  · cases hS
    exact w_callV (ci := 8) (mX8_isEvent l) (by decide) rX8_isEvent eX8_isEvent.1 (by decide +kernel) eX8_isEvent.2.1 eX8_isEvent.2.2.1 eX8_isEvent.2.2.2 (by decide +kernel) (by decide) (by decide)
  · cases hS
    exact w_callV (ci := 8) (mX8_placeAll l) (by decide) rX8_placeAll eX8_placeAll.1 (by decide +kernel) eX8_placeAll.2.1 eX8_placeAll.2.2.1 eX8_placeAll.2.2.2 (by decide +kernel) (by decide) (by decide)
  · cases hS
theorem mX8_move (l : Launch) : w_Met l yX8_move cX8_move 7 (some .int) 5 shM rfM 32 sX8_move.2.2.2.1 sX8_move.2.2.2.2 :=
  w_meth (o := 8) (Γ := gX8_move) (tb := tX8_move) (by decide +kernel) rfl kX8_move rfl (zX8_move l) (fun as μ h => by obtain ⟨e, n, rfl, h⟩ := h; exact Nat.le_of_ble_eq_true rfl) (fun as μ h K hK => by obtain ⟨e, n, rfl, h⟩ := h; exact vX8_move e n μ h K hK)
set_option maxRecDepth 100000 in
theorem eX8_move : Cond.code yX8_move cX8_move 7 (some .int) ∈ w_tbl ∧ Cond.instanceMethod yX8_move ∈ w_tbl ∧ Cond.selects (w_C 8) yX8_move yX8_move ∈ w_tbl ∧ Cond.initialized yX8_move.cls ∈ w_tbl := ⟨by decide +kernel, by decide +kernel, by decide +kernel, by decide +kernel⟩
theorem rX8_move : ∀ as μ, sX8_move.2.2.2.1 as μ → ∃ q as', as = .ref q :: as' ∧ q < 32 ∧ shM q = .inl 8 := by
  intro as μ h
  obtain ⟨e, n, rfl, h⟩ := h
  exact ⟨_, _, rfl, by decide, rfl⟩

def wm_toldF (μ : wM) (e w : Int32) : Int32 := if w_inB w 0 8 = true then (if 7 ≤ w then (if w.toInt = 7 then μ 0 0 else μ 0 22) else if w_inB e 0 (μ 0 0 - 1) = true then
  (if w.toInt = 0 then μ 1 e.toNatClampNeg else if w.toInt = 1 then μ 2 e.toNatClampNeg else if w.toInt = 2 then μ 3 e.toNatClampNeg else if w.toInt = 3 then μ 4 e.toNatClampNeg else if w.toInt = 4 then μ 5 e.toNatClampNeg else if w.toInt = 5 then (if μ 6 e.toNatClampNeg = 0 then 0 else 1) else nI (w_cnt (wm_td μ e (μ 0 22).toNatClampNeg) 10)) else -1) else -1
/-! X8_told -/
def pX8_told (e : Int32) (w : Int32) (μ : wM) : Prop := wm_JV μ
def qX8_told (e : Int32) (w : Int32) (μ : wM) (r : Int32) (μ' : wM) : Prop := r = wm_toldF μ e w ∧ w_sm μ μ'
def sX8_told : wS := (false, false, 3, fun as μ => ∃ e, ∃ w, as = [.ref 0, .int e, .int w] ∧ pX8_told e w μ, fun as μ r μ' => match as with
  | [.ref _, .int e, .int w] => qX8_told e w μ r μ'
  | _ => False)
def gX8_told : Nat → Option wS := fun k => match k with
  | 1 => some sX8_in
  | 121 => some sX8_isEvent
  | 196 => some sX8_placeAll
  | _ => none
def uX8_told : Nat → Option (List Nat) := fun _ => none
set_option maxHeartbeats 4000000 in
set_option maxRecDepth 100000 in
theorem vcX8_told_0 (K : wK) (R : Int32 → wM → Prop) (e : Int32) (w : Int32) (μ : wM) (h : (
    ((w_inB w 0 8) = false → R (-1) μ) ∧
    ((w_inB w 0 8) = true → (
      (((7 : Int32) ≤ w) → (((w : Int32).toInt = 0 → (vp_in e 8) ∧ R (μ 1 (e : Int32).toNatClampNeg) μ) ∧
        ((w : Int32).toInt = 1 → (vp_in e 8) ∧ R (μ 2 (e : Int32).toNatClampNeg) μ) ∧
        ((w : Int32).toInt = 2 → (vp_in e 8) ∧ R (μ 3 (e : Int32).toNatClampNeg) μ) ∧
        ((w : Int32).toInt = 3 → (vp_in e 8) ∧ R (μ 4 (e : Int32).toNatClampNeg) μ) ∧
        ((w : Int32).toInt = 4 → (vp_in e 8) ∧ R (μ 5 (e : Int32).toNatClampNeg) μ) ∧
        ((w : Int32).toInt = 5 → (vp_in e 8) ∧ (
          ((((μ 6 (e : Int32).toNatClampNeg) : Int32) = 0) → R 0 μ) ∧
          (¬ (((μ 6 (e : Int32).toNatClampNeg) : Int32) = 0) → R 1 μ))) ∧
        ((w : Int32).toInt = 6 → pX8_placeAll e (μ 0 22) μ ∧ (∀ (r3 : Int32) (m4 : wM), qX8_placeAll e (μ 0 22) μ r3 m4 →
          R r3 m4)) ∧
        ((w : Int32).toInt = 7 → R (μ 0 0) μ) ∧
        (((w : Int32).toInt < 0 ∨ 7 < (w : Int32).toInt) → R (μ 0 22) μ))) ∧
      (¬ ((7 : Int32) ≤ w) → (
        ((w_inB e 0 (μ 0 0 - 1)) = false → R (-1) μ) ∧
        ((w_inB e 0 (μ 0 0 - 1)) = true → (((w : Int32).toInt = 0 → (vp_in e 8) ∧ R (μ 1 (e : Int32).toNatClampNeg) μ) ∧
          ((w : Int32).toInt = 1 → (vp_in e 8) ∧ R (μ 2 (e : Int32).toNatClampNeg) μ) ∧
          ((w : Int32).toInt = 2 → (vp_in e 8) ∧ R (μ 3 (e : Int32).toNatClampNeg) μ) ∧
          ((w : Int32).toInt = 3 → (vp_in e 8) ∧ R (μ 4 (e : Int32).toNatClampNeg) μ) ∧
          ((w : Int32).toInt = 4 → (vp_in e 8) ∧ R (μ 5 (e : Int32).toNatClampNeg) μ) ∧
          ((w : Int32).toInt = 5 → (vp_in e 8) ∧ (
            ((((μ 6 (e : Int32).toNatClampNeg) : Int32) = 0) → R 0 μ) ∧
            (¬ (((μ 6 (e : Int32).toNatClampNeg) : Int32) = 0) → R 1 μ))) ∧
          ((w : Int32).toInt = 6 → pX8_placeAll e (μ 0 22) μ ∧ (∀ (r7 : Int32) (m8 : wM), qX8_placeAll e (μ 0 22) μ r7 m8 →
            R r7 m8)) ∧
          ((w : Int32).toInt = 7 → R (μ 0 0) μ) ∧
          (((w : Int32).toInt < 0 ∨ 7 < (w : Int32).toInt) → R (μ 0 22) μ))))))))) : w_n 8 gX8_told shM rfM 32 (some .int) R tX8_told uX8_told K 23 0 [some (.ref 0), some (.int e), some (.int w)] [] μ :=
  And.intro (Exists.intro _ (Exists.intro _ (Exists.intro _ (And.intro rfl (trivial))))) (fun _ _ z2785 => by obtain ⟨z2783, z2784⟩ := z2785; have z2783 := z2783.symm; have z2784 := z2784.symm; subst z2783; subst z2784; exact And.intro (fun z2786 => And.intro trivial ((h.1 (w_B01_0.mp z2786)))) (fun z2787 => And.intro (fun z2788 => And.intro (And.intro (fun z2791 => And.intro (And.intro (of_decide_eq_true rfl) rfl) (And.intro (And.intro (of_decide_eq_true rfl) (Exists.intro _ (And.intro rfl ((((h.2 (w_B01_n.mp z2787)).1 z2788).1 z2791).1)))) (And.intro trivial ((((h.2 (w_B01_n.mp z2787)).1 z2788).1 z2791).2)))) (And.intro (fun z2792 => And.intro (And.intro (of_decide_eq_true rfl) rfl) (And.intro (And.intro (of_decide_eq_true rfl) (Exists.intro _ (And.intro rfl ((((h.2 (w_B01_n.mp z2787)).1 z2788).2.1 z2792).1)))) (And.intro trivial ((((h.2 (w_B01_n.mp z2787)).1 z2788).2.1 z2792).2)))) (And.intro (fun z2793 => And.intro (And.intro (of_decide_eq_true rfl) rfl) (And.intro (And.intro (of_decide_eq_true rfl) (Exists.intro _ (And.intro rfl ((((h.2 (w_B01_n.mp z2787)).1 z2788).2.2.1 z2793).1)))) (And.intro trivial ((((h.2 (w_B01_n.mp z2787)).1 z2788).2.2.1 z2793).2)))) (And.intro (fun z2794 => And.intro (And.intro (of_decide_eq_true rfl) rfl) (And.intro (And.intro (of_decide_eq_true rfl) (Exists.intro _ (And.intro rfl ((((h.2 (w_B01_n.mp z2787)).1 z2788).2.2.2.1 z2794).1)))) (And.intro trivial ((((h.2 (w_B01_n.mp z2787)).1 z2788).2.2.2.1 z2794).2)))) (And.intro (fun z2795 => And.intro (And.intro (of_decide_eq_true rfl) rfl) (And.intro (And.intro (of_decide_eq_true rfl) (Exists.intro _ (And.intro rfl ((((h.2 (w_B01_n.mp z2787)).1 z2788).2.2.2.2.1 z2795).1)))) (And.intro trivial ((((h.2 (w_B01_n.mp z2787)).1 z2788).2.2.2.2.1 z2795).2)))) (And.intro (fun z2796 => And.intro (And.intro (of_decide_eq_true rfl) rfl) (And.intro (And.intro (of_decide_eq_true rfl) (Exists.intro _ (And.intro rfl ((((h.2 (w_B01_n.mp z2787)).1 z2788).2.2.2.2.2.1 z2796).1)))) (And.intro (fun z2797 => And.intro trivial (((((h.2 (w_B01_n.mp z2787)).1 z2788).2.2.2.2.2.1 z2796).2.1 z2797))) (fun z2798 => And.intro trivial (((((h.2 (w_B01_n.mp z2787)).1 z2788).2.2.2.2.2.1 z2796).2.2 z2798)))))) (And.intro (fun z2799 => And.intro (And.intro (of_decide_eq_true rfl) rfl) (And.intro (Exists.intro _ (Exists.intro _ (And.intro rfl ((((h.2 (w_B01_n.mp z2787)).1 z2788).2.2.2.2.2.2.1 z2799).1)))) (fun r3 m4 z2800 => And.intro trivial (((((h.2 (w_B01_n.mp z2787)).1 z2788).2.2.2.2.2.2.1 z2799).2 r3 m4 z2800))))) (And.intro (fun z2801 => And.intro (And.intro (of_decide_eq_true rfl) rfl) (And.intro trivial ((((h.2 (w_B01_n.mp z2787)).1 z2788).2.2.2.2.2.2.2.1 z2801)))) (trivial))))))))) (fun z2790 => And.intro (And.intro (of_decide_eq_true rfl) rfl) (And.intro trivial ((((h.2 (w_B01_n.mp z2787)).1 z2788).2.2.2.2.2.2.2.2 z2790))))) (fun z2789 => And.intro (Exists.intro _ (And.intro rfl (trivial))) (fun _ _ z2804 => by obtain ⟨z2802, z2803⟩ := z2804; have z2802 := z2802.symm; have z2803 := z2803.symm; subst z2802; subst z2803; exact And.intro (fun z2805 => And.intro trivial ((((h.2 (w_B01_n.mp z2787)).2 z2789).1 (w_B01_0.mp z2805)))) (fun z2806 => And.intro (And.intro (fun z2808 => And.intro (And.intro (of_decide_eq_true rfl) rfl) (And.intro (And.intro (of_decide_eq_true rfl) (Exists.intro _ (And.intro rfl (((((h.2 (w_B01_n.mp z2787)).2 z2789).2 (w_B01_n.mp z2806)).1 z2808).1)))) (And.intro trivial (((((h.2 (w_B01_n.mp z2787)).2 z2789).2 (w_B01_n.mp z2806)).1 z2808).2)))) (And.intro (fun z2809 => And.intro (And.intro (of_decide_eq_true rfl) rfl) (And.intro (And.intro (of_decide_eq_true rfl) (Exists.intro _ (And.intro rfl (((((h.2 (w_B01_n.mp z2787)).2 z2789).2 (w_B01_n.mp z2806)).2.1 z2809).1)))) (And.intro trivial (((((h.2 (w_B01_n.mp z2787)).2 z2789).2 (w_B01_n.mp z2806)).2.1 z2809).2)))) (And.intro (fun z2810 => And.intro (And.intro (of_decide_eq_true rfl) rfl) (And.intro (And.intro (of_decide_eq_true rfl) (Exists.intro _ (And.intro rfl (((((h.2 (w_B01_n.mp z2787)).2 z2789).2 (w_B01_n.mp z2806)).2.2.1 z2810).1)))) (And.intro trivial (((((h.2 (w_B01_n.mp z2787)).2 z2789).2 (w_B01_n.mp z2806)).2.2.1 z2810).2)))) (And.intro (fun z2811 => And.intro (And.intro (of_decide_eq_true rfl) rfl) (And.intro (And.intro (of_decide_eq_true rfl) (Exists.intro _ (And.intro rfl (((((h.2 (w_B01_n.mp z2787)).2 z2789).2 (w_B01_n.mp z2806)).2.2.2.1 z2811).1)))) (And.intro trivial (((((h.2 (w_B01_n.mp z2787)).2 z2789).2 (w_B01_n.mp z2806)).2.2.2.1 z2811).2)))) (And.intro (fun z2812 => And.intro (And.intro (of_decide_eq_true rfl) rfl) (And.intro (And.intro (of_decide_eq_true rfl) (Exists.intro _ (And.intro rfl (((((h.2 (w_B01_n.mp z2787)).2 z2789).2 (w_B01_n.mp z2806)).2.2.2.2.1 z2812).1)))) (And.intro trivial (((((h.2 (w_B01_n.mp z2787)).2 z2789).2 (w_B01_n.mp z2806)).2.2.2.2.1 z2812).2)))) (And.intro (fun z2813 => And.intro (And.intro (of_decide_eq_true rfl) rfl) (And.intro (And.intro (of_decide_eq_true rfl) (Exists.intro _ (And.intro rfl (((((h.2 (w_B01_n.mp z2787)).2 z2789).2 (w_B01_n.mp z2806)).2.2.2.2.2.1 z2813).1)))) (And.intro (fun z2814 => And.intro trivial ((((((h.2 (w_B01_n.mp z2787)).2 z2789).2 (w_B01_n.mp z2806)).2.2.2.2.2.1 z2813).2.1 z2814))) (fun z2815 => And.intro trivial ((((((h.2 (w_B01_n.mp z2787)).2 z2789).2 (w_B01_n.mp z2806)).2.2.2.2.2.1 z2813).2.2 z2815)))))) (And.intro (fun z2816 => And.intro (And.intro (of_decide_eq_true rfl) rfl) (And.intro (Exists.intro _ (Exists.intro _ (And.intro rfl (((((h.2 (w_B01_n.mp z2787)).2 z2789).2 (w_B01_n.mp z2806)).2.2.2.2.2.2.1 z2816).1)))) (fun r7 m8 z2817 => And.intro trivial ((((((h.2 (w_B01_n.mp z2787)).2 z2789).2 (w_B01_n.mp z2806)).2.2.2.2.2.2.1 z2816).2 r7 m8 z2817))))) (And.intro (fun z2818 => And.intro (And.intro (of_decide_eq_true rfl) rfl) (And.intro trivial (((((h.2 (w_B01_n.mp z2787)).2 z2789).2 (w_B01_n.mp z2806)).2.2.2.2.2.2.2.1 z2818)))) (trivial))))))))) (fun z2807 => And.intro (And.intro (of_decide_eq_true rfl) rfl) (And.intro trivial (((((h.2 (w_B01_n.mp z2787)).2 z2789).2 (w_B01_n.mp z2806)).2.2.2.2.2.2.2.2 z2807)))))))))
set_option maxHeartbeats 4000000 in
theorem vX8_told (e : Int32) (w : Int32) (μ : wM) (h : pX8_told e w μ) (K : wK) (hK : w_cl 8 gX8_told shM rfM 32 (some .int) (qX8_told e w μ) tX8_told K) : K 0 [some (.ref 0), some (.int e), some (.int w)] [] μ := by
  refine hK uX8_told 23 _ _ _ _ (vcX8_told_0 K _ e w μ ?_)
  clear hK
  unfold pX8_told at h
  unfold qX8_told
  unfold wm_toldF
  have rf := w_sm.refl μ
  have e7 : (7 : Int32).toInt = 7 := rfl
  have e8 : (8 : Int32).toInt = 8 := rfl
  have e0 : (0 : Int32).toInt = 0 := rfl
  refine ⟨fun c => ⟨by rw [if_neg (by rw [c]; simp)], rf⟩, fun c => ?_⟩
  obtain ⟨z1, z2⟩ := w_inB_t.mp c
  have z1 := i_le.mp z1
  have z2 := i_le.mp z2
  rw [if_pos c]
  refine ⟨fun c1 => ?_, fun c1 => ⟨fun c2 => ⟨by rw [if_neg c1, if_neg (by rw [c2]; simp)], rf⟩, fun c2 => ?_⟩⟩
  · rw [if_pos c1]
    have c1 := i_le.mp c1
    refine ⟨fun q => ?_, fun q => ?_, fun q => ?_, fun q => ?_, fun q => ?_, fun q => ?_, fun q => ?_, fun q => ?_, fun q => ?_⟩
    · omega
    · omega
    · omega
    · omega
    · omega
    · omega
    · omega
    · rw [if_pos q]; exact ⟨rfl, rf⟩
    · rw [if_neg (by omega)]; exact ⟨rfl, rf⟩
  · rw [if_neg c1, if_pos c2]
    have c1 := i_lt.mp (i_nle.mp c1)
    have he := inM_in h.1.1 c2
    refine ⟨fun q => ⟨he, ?_⟩, fun q => ⟨he, ?_⟩, fun q => ⟨he, ?_⟩, fun q => ⟨he, ?_⟩, fun q => ⟨he, ?_⟩, fun q => ⟨he, fun c3 => ?_, fun c3 => ?_⟩, fun q => ⟨h.PAc he, fun r m hq => ?_⟩, fun q => ?_, fun q => ?_⟩
    · rw [if_pos q]; exact ⟨rfl, rf⟩
    · rw [if_neg (by omega), if_pos q]; exact ⟨rfl, rf⟩
    · rw [if_neg (by omega), if_neg (by omega), if_pos q]; exact ⟨rfl, rf⟩
    · rw [if_neg (by omega), if_neg (by omega), if_neg (by omega), if_pos q]; exact ⟨rfl, rf⟩
    · rw [if_neg (by omega), if_neg (by omega), if_neg (by omega), if_neg (by omega), if_pos q]; exact ⟨rfl, rf⟩
    · rw [if_neg (by omega), if_neg (by omega), if_neg (by omega), if_neg (by omega), if_neg (by omega), if_pos q, if_pos c3]; exact ⟨rfl, rf⟩
    · rw [if_neg (by omega), if_neg (by omega), if_neg (by omega), if_neg (by omega), if_neg (by omega), if_pos q, if_neg c3]; exact ⟨rfl, rf⟩
    · rw [if_neg (by omega), if_neg (by omega), if_neg (by omega), if_neg (by omega), if_neg (by omega), if_neg (by omega)]
      exact ⟨hq.1, hq.2.2.2.1⟩
    · omega
    · omega
set_option maxRecDepth 100000 in
theorem zX8_told (l : Launch) : ∀ (idx : Nat) (S : wS), gX8_told idx = some S → w_Call l 8 idx S 5 shM rfM 32 := by
  intro idx S hS
  unfold gX8_told at hS
  split at hS
  · cases hS
    exact w_callS (mX8_in l) eX8_in.1 (by decide +kernel) eX8_in.2.1 eX8_in.2.2 (by decide +kernel) (by decide) (by decide)
  · cases hS
    exact w_callV (ci := 8) (mX8_isEvent l) (by decide) rX8_isEvent eX8_isEvent.1 (by decide +kernel) eX8_isEvent.2.1 eX8_isEvent.2.2.1 eX8_isEvent.2.2.2 (by decide +kernel) (by decide) (by decide)
  · cases hS
    exact w_callV (ci := 8) (mX8_placeAll l) (by decide) rX8_placeAll eX8_placeAll.1 (by decide +kernel) eX8_placeAll.2.1 eX8_placeAll.2.2.1 eX8_placeAll.2.2.2 (by decide +kernel) (by decide) (by decide)
  · cases hS
theorem mX8_told (l : Launch) : w_Met l yX8_told cX8_told 3 (some .int) 5 shM rfM 32 sX8_told.2.2.2.1 sX8_told.2.2.2.2 :=
  w_meth (o := 8) (Γ := gX8_told) (tb := tX8_told) (by decide +kernel) rfl kX8_told rfl (zX8_told l) (fun as μ h => by obtain ⟨e, w, rfl, h⟩ := h; exact Nat.le_of_ble_eq_true rfl) (fun as μ h K hK => by obtain ⟨e, w, rfl, h⟩ := h; exact vX8_told e w μ h K hK)
set_option maxRecDepth 100000 in
theorem eX8_told : Cond.code yX8_told cX8_told 3 (some .int) ∈ w_tbl ∧ Cond.instanceMethod yX8_told ∈ w_tbl ∧ Cond.selects (w_C 8) yX8_told yX8_told ∈ w_tbl ∧ Cond.initialized yX8_told.cls ∈ w_tbl := ⟨by decide +kernel, by decide +kernel, by decide +kernel, by decide +kernel⟩
theorem rX8_told : ∀ as μ, sX8_told.2.2.2.1 as μ → ∃ q as', as = .ref q :: as' ∧ q < 32 ∧ shM q = .inl 8 := by
  intro as μ h
  obtain ⟨e, w, rfl, h⟩ := h
  exact ⟨_, _, rfl, by decide, rfl⟩
