theorem w_cnt_pos {p : Nat → Bool} {n : Nat} (h : 0 < w_cnt p n) : ∃ j, j < n ∧ p j = true := by
  induction n with
  | zero => exact absurd h (by unfold w_cnt; omega)
  | succ n ih =>
    unfold w_cnt at h
    by_cases c : p n = true
    · exact ⟨n, by omega, c⟩
    · rw [if_neg c] at h
      obtain ⟨j, hj, hp⟩ := ih (by omega)
      exact ⟨j, by omega, hp⟩
theorem w_cnt_ge {p : Nat → Bool} {n i : Nat} (hi : i < n) (h : p i = true) : 1 ≤ w_cnt p n := by
  induction n with
  | zero => omega
  | succ n ih =>
    unfold w_cnt
    by_cases e : i = n
    · rw [← e, if_pos h]; omega
    · have := ih (by omega); omega
theorem w_cnt_two {p : Nat → Bool} {n i j : Nat} (hij : i ≠ j) (hi : i < n) (hj : j < n) (h1 : p i = true) (h2 : p j = true) : 2 ≤ w_cnt p n := by
  induction n with
  | zero => omega
  | succ n ih =>
    unfold w_cnt
    by_cases e : i = n
    · have := w_cnt_ge (p := p) (n := n) (i := j) (by omega) h2
      rw [← e, if_pos h1]
      rw [← e] at this
      omega
    · by_cases e2 : j = n
      · have := w_cnt_ge (p := p) (n := n) (i := i) (by omega) h1
        rw [← e2, if_pos h2]
        rw [← e2] at this
        omega
      · have := ih (by omega) (by omega); omega
theorem w_lex_irr {f : Nat → Int32} {a : Nat} : ∀ j, w_lex f a a j = false := by
  intro j
  induction j with
  | zero => rfl
  | succ j ih => unfold w_lex; rw [if_pos rfl]; exact ih
theorem w_ahead_irr {k : Int32} {f : Nat → Int32} {a : Nat} : w_ahead k f a a = false := by
  unfold w_ahead
  split
  · exact w_lex_irr 6
  · exact decide_eq_false (fun z => by have := i_lt.mp z; omega)
theorem wm_pl_two {μ : wM} {e : Int32} {N m : Nat} (hm : m < 10) (h : 1 < wm_pl μ e N m) : 2 ≤ w_cnt (wm_td μ e N) 10 := by
  have htd : wm_td μ e N m = true := by
    cases q : wm_td μ e N m with
    | true => rfl
    | false => rw [wm_pl_td.1.mpr q] at h; exact absurd h (by decide)
  unfold wm_pl w_plc at h
  split at h
  · exact absurd h (by decide)
  · next c =>
    have : 0 < w_cnt (fun j => decide (0 < (wm_TT μ e N).2.1 j) && w_ahead (μ 1 e.toNatClampNeg) (wm_TT μ e N).1 j m) 10 := by
      rcases Nat.eq_zero_or_pos (w_cnt (fun j => decide (0 < (wm_TT μ e N).2.1 j) && w_ahead (μ 1 e.toNatClampNeg) (wm_TT μ e N).1 j m) 10) with q | q
      · rw [q] at h; exact absurd h (by decide)
      · exact q
    obtain ⟨j, hj, hp⟩ := w_cnt_pos this
    rw [Bool.and_eq_true] at hp
    have hne : m ≠ j := fun q => by
      rw [q, w_ahead_irr] at hp
      exact absurd hp.2 (by decide)
    refine w_cnt_two hne hm hj htd ?_
    unfold wm_td at htd ⊢
    rw [Bool.and_eq_true] at htd ⊢
    exact ⟨htd.1, hp.1⟩
theorem w_find_no {p : Nat → Bool} : ∀ (k i : Nat), (∀ j, i ≤ j → j < i + k → p j = false) → w_find p k i = -2 := by
  intro k
  induction k with
  | zero => intro i _; rfl
  | succ k ih =>
    intro i h
    show (if p i then nI i else w_find p k (i + 1)) = -2
    rw [if_neg (by rw [h i (by omega) (by omega)]; decide)]
    exact ih (i + 1) (fun j h1 h2 => h j (by omega) (by omega))
theorem w_bts_cg {P Q J L : Nat → Int32} {x : Nat} (hx : x < 10) (h1 : ∀ j, j < 10 → P j = Q j) (h2 : ∀ p, p < 30 → J p = L p) : w_bts P J x = w_bts Q L x := by
  unfold w_bts
  refine w_allB_cg (fun o ho => ?_)
  rw [h1 o ho]
  unfold w_jf
  rw [w_cnt_cg (fun j hj => by rw [h2 (3 * x + j) (by omega), h2 (3 * o + j) (by omega)])]
def wm_px (μ : wM) (e : Int32) (N : Nat) : Int32 := w_find (fun i => decide (1 < wm_pl μ e N i) && w_bts (wm_pl μ e N) (wm_TT μ e N).2.2 i) 10 0
/-! X8_paradox -/
def pX8_paradox (e : Int32) (n : Int32) (μ : wM) : Prop := wm_JV μ
def qX8_paradox (e : Int32) (n : Int32) (μ : wM) (r : Int32) (μ' : wM) : Prop := r = (if w_inB e 0 (μ 0 0 - 1) = true ∧ w_inB n 0 (μ 0 22) = true then (if μ 1 e.toNatClampNeg = 2 then wm_px μ e n.toNatClampNeg else -12) else -1) ∧ w_sm μ μ'
def sX8_paradox : wS := (false, false, 3, fun as μ => ∃ e, ∃ n, as = [.ref 0, .int e, .int n] ∧ pX8_paradox e n μ, fun as μ r μ' => match as with
  | [.ref _, .int e, .int n] => qX8_paradox e n μ r μ'
  | _ => False)
def gX8_paradox : Nat → Option wS := fun k => match k with
  | 1 => some sX8_in
  | 121 => some sX8_isEvent
  | 196 => some sX8_placeAll
  | 199 => some sX8_beats
  | _ => none
def uX8_paradox : Nat → Option (List Nat) := fun j => match j with | 27 => some [5, 6] | 45 => some [] | _ => none
set_option maxHeartbeats 4000000 in
set_option maxRecDepth 100000 in
theorem vcX8_paradox_0 (K : wK) (R : Int32 → wM → Prop) (e : Int32) (n : Int32) (μ : wM) (h : (
    ((w_inB e 0 (μ 0 0 - 1)) = false → R (-1) μ) ∧
    ((w_inB e 0 (μ 0 0 - 1)) = true → (
      ((w_inB n 0 (μ 0 22)) = false → R (-1) μ) ∧
      ((w_inB n 0 (μ 0 22)) = true → (vp_in e 8) ∧ (
        ((((μ 1 (e : Int32).toNatClampNeg) : Int32) = 2) → pX8_placeAll e n μ ∧ (∀ (r5 : Int32) (m6 : wM), qX8_placeAll e n μ r5 m6 →
          K 27 [some (.ref 0), some (.int e), some (.int n), some (.int r5), some (.int 0), none, none] [] m6)) ∧
        (¬ (((μ 1 (e : Int32).toNatClampNeg) : Int32) = 2) → R (-12) μ))))))) : w_n 8 gX8_paradox shM rfM 32 (some .int) R tX8_paradox uX8_paradox K 25 0 [some (.ref 0), some (.int e), some (.int n), none, none, none, none] [] μ :=
  And.intro (Exists.intro _ (And.intro rfl (trivial))) (fun _ _ z2527 => by obtain ⟨z2525, z2526⟩ := z2527; have z2525 := z2525.symm; have z2526 := z2526.symm; subst z2525; subst z2526; exact And.intro (fun z2528 => And.intro trivial ((h.1 (w_B01_0.mp z2528)))) (fun z2529 => And.intro (And.intro (of_decide_eq_true rfl) rfl) (And.intro (Exists.intro _ (Exists.intro _ (Exists.intro _ (And.intro rfl (trivial))))) (fun _ _ z2532 => by obtain ⟨z2530, z2531⟩ := z2532; have z2530 := z2530.symm; have z2531 := z2531.symm; subst z2530; subst z2531; exact And.intro (fun z2533 => And.intro trivial (((h.2 (w_B01_n.mp z2529)).1 (w_B01_0.mp z2533)))) (fun z2534 => And.intro (And.intro (of_decide_eq_true rfl) rfl) (And.intro (And.intro (of_decide_eq_true rfl) (Exists.intro _ (And.intro rfl (((h.2 (w_B01_n.mp z2529)).2 (w_B01_n.mp z2534)).1)))) (And.intro (fun z2535 => And.intro (Exists.intro _ (Exists.intro _ (And.intro rfl ((((h.2 (w_B01_n.mp z2529)).2 (w_B01_n.mp z2534)).2.1 z2535).1)))) (fun r5 m6 z2537 => ((((h.2 (w_B01_n.mp z2529)).2 (w_B01_n.mp z2534)).2.1 z2535).2 r5 m6 z2537))) (fun z2536 => And.intro trivial ((((h.2 (w_B01_n.mp z2529)).2 (w_B01_n.mp z2534)).2.2 z2536))))))))))
set_option maxHeartbeats 4000000 in
set_option maxRecDepth 100000 in
theorem vcX8_paradox_27 (K : wK) (R : Int32 → wM → Prop) (e : Int32) (n : Int32) (l3 : Int32) (l4 : Int32) (μ : wM) (h : (
    (((10 : Int32) ≤ l4) → R (-2) μ) ∧
    (¬ ((10 : Int32) ≤ l4) → (
      (((l3 : Int32) ≤ 1) → R (-2) μ) ∧
      (¬ ((l3 : Int32) ≤ 1) → (vp_in l4 10) ∧ (
        ((((μ 27 (l4 : Int32).toNatClampNeg) : Int32) ≤ 1) → K 45 [some (.ref 0), some (.int e), some (.int n), some (.int l3), some (.int l4), some (.int 0), some (.int 0)] [] μ) ∧
        (¬ (((μ 27 (l4 : Int32).toNatClampNeg) : Int32) ≤ 1) → K 45 [some (.ref 0), some (.int e), some (.int n), some (.int l3), some (.int l4), some (.int 1), some (.int 0)] [] μ))))))) : w_n 8 gX8_paradox shM rfM 32 (some .int) R tX8_paradox uX8_paradox K 25 27 [some (.ref 0), some (.int e), some (.int n), some (.int l3), some (.int l4), none, none] [] μ :=
  And.intro (fun z2538 => And.intro trivial ((h.1 z2538))) (fun z2539 => And.intro (fun z2540 => And.intro trivial (((h.2 z2539).1 z2540))) (fun z2541 => And.intro (And.intro (of_decide_eq_true rfl) rfl) (And.intro (And.intro (of_decide_eq_true rfl) (Exists.intro _ (And.intro rfl (((h.2 z2539).2 z2541).1)))) (And.intro (fun z2542 => (((h.2 z2539).2 z2541).2.1 z2542)) (fun z2543 => (((h.2 z2539).2 z2541).2.2 z2543))))))
set_option maxHeartbeats 4000000 in
set_option maxRecDepth 100000 in
theorem vcX8_paradox_45 (K : wK) (R : Int32 → wM → Prop) (e : Int32) (n : Int32) (l3 : Int32) (l4 : Int32) (l5 : Int32) (l6 : Int32) (μ : wM) (h : (
    (((10 : Int32) ≤ l6) → (
      (((l5 : Int32) = 0) → K 27 [some (.ref 0), some (.int e), some (.int n), some (.int l3), some (.int (l4 + 1)), none, none] [] μ) ∧
      (¬ ((l5 : Int32) = 0) → R l4 μ))) ∧
    (¬ ((10 : Int32) ≤ l6) → (
      (((l5 : Int32) = 0) → K 45 [some (.ref 0), some (.int e), some (.int n), some (.int l3), some (.int l4), some (.int 0), some (.int (l6 + 1))] [] μ) ∧
      (¬ ((l5 : Int32) = 0) → (
        (((l6 : Int32) = l4) → K 45 [some (.ref 0), some (.int e), some (.int n), some (.int l3), some (.int l4), some (.int 1), some (.int (l6 + 1))] [] μ) ∧
        (¬ ((l6 : Int32) = l4) → (vp_in l6 10) ∧ (
          ((((μ 27 (l6 : Int32).toNatClampNeg) : Int32) = 0) → K 45 [some (.ref 0), some (.int e), some (.int n), some (.int l3), some (.int l4), some (.int 1), some (.int (l6 + 1))] [] μ) ∧
          (¬ (((μ 27 (l6 : Int32).toNatClampNeg) : Int32) = 0) → pX8_beats l4 l6 μ ∧ (
            ((decide (2 ≤ w_jf (μ 26) (l4 : Int32).toNatClampNeg (l6 : Int32).toNatClampNeg 3)) = false → K 45 [some (.ref 0), some (.int e), some (.int n), some (.int l3), some (.int l4), some (.int 0), some (.int (l6 + 1))] [] μ) ∧
            ((decide (2 ≤ w_jf (μ 26) (l4 : Int32).toNatClampNeg (l6 : Int32).toNatClampNeg 3)) = true → K 45 [some (.ref 0), some (.int e), some (.int n), some (.int l3), some (.int l4), some (.int 1), some (.int (l6 + 1))] [] μ))))))))))) : w_n 8 gX8_paradox shM rfM 32 (some .int) R tX8_paradox uX8_paradox K 25 45 [some (.ref 0), some (.int e), some (.int n), some (.int l3), some (.int l4), some (.int l5), some (.int l6)] [] μ :=
  And.intro (fun z2544 => And.intro (fun z2546 => ((h.1 z2544).1 z2546)) (fun z2547 => And.intro trivial (((h.1 z2544).2 z2547)))) (fun z2545 => And.intro (fun z2548 => ((h.2 z2545).1 z2548)) (fun z2549 => And.intro (fun z2550 => (((h.2 z2545).2 z2549).1 z2550)) (fun z2551 => And.intro (And.intro (of_decide_eq_true rfl) rfl) (And.intro (And.intro (of_decide_eq_true rfl) (Exists.intro _ (And.intro rfl ((((h.2 z2545).2 z2549).2 z2551).1)))) (And.intro (fun z2552 => ((((h.2 z2545).2 z2549).2 z2551).2.1 z2552)) (fun z2553 => And.intro (Exists.intro _ (Exists.intro _ (And.intro rfl (((((h.2 z2545).2 z2549).2 z2551).2.2 z2553).1)))) (fun _ _ z2556 => by obtain ⟨z2554, z2555⟩ := z2556; have z2554 := z2554.symm; have z2555 := z2555.symm; subst z2554; subst z2555; exact And.intro (fun z2557 => (((((h.2 z2545).2 z2549).2 z2551).2.2 z2553).2.1 (w_B01_0.mp z2557))) (fun z2558 => (((((h.2 z2545).2 z2549).2 z2551).2.2 z2553).2.2 (w_B01_n.mp z2558))))))))))
set_option maxHeartbeats 4000000 in
theorem vX8_paradox (e : Int32) (n : Int32) (μ : wM) (h : pX8_paradox e n μ) (K : wK) (hK : w_cl 8 gX8_paradox shM rfM 32 (some .int) (qX8_paradox e n μ) tX8_paradox K) : K 0 [some (.ref 0), some (.int e), some (.int n), none, none, none, none] [] μ := by
  unfold pX8_paradox at h
  refine hK uX8_paradox 25 _ _ _ _ (vcX8_paradox_0 K _ e n μ ?_)
  have bad : ∀ P : Prop, [Decidable P] → ¬ P → ∀ v : Int32, (-1 : Int32) = (if P then v else -1) ∧ w_sm μ μ := fun P _ hP v => ⟨by rw [if_neg hP], w_sm.refl _⟩
  refine ⟨fun c => bad _ (by rw [c]; simp) _, fun c => ⟨fun c1 => bad _ (by rw [c1]; simp) _, fun c1 => ?_⟩⟩
  have he := inM_in h.1.1 c
  refine ⟨he, fun c2 => ⟨h.PAn he c1, fun T ν hm => ?_⟩, fun c2 => by unfold qX8_paradox; rw [if_pos ⟨c, c1⟩, if_neg c2]; exact ⟨rfl, w_sm.refl _⟩⟩
  obtain ⟨q1, q2, q3, q4, -⟩ := hm
  have q3 := q3 c2
  generalize hN : n.toNatClampNeg = N at *
  have fin : ∀ v : Int32, v = wm_px μ e N → qX8_paradox e n μ v ν := fun v hv => by
    unfold qX8_paradox
    rw [if_pos ⟨c, c1⟩, if_pos c2, hN]
    exact ⟨hv, q4⟩
  have hbt : ∀ i, i < 10 → (decide (1 < ν 27 i) && w_bts (ν 27) (ν 26) i) = (decide (1 < wm_pl μ e N i) && w_bts (wm_pl μ e N) (wm_TT μ e N).2.2 i) := fun i hi => by
    rw [q2 i hi, w_bts_cg hi q2 q3]
  have hTle := w_cnt_le (wm_td μ e N) 10
  have hlow : T ≤ 1 → ∀ i, i < 10 → (decide (1 < wm_pl μ e N i) && w_bts (wm_pl μ e N) (wm_TT μ e N).2.2 i) = false := by
    intro hT i hi
    cases q : decide (1 < wm_pl μ e N i) with
    | false => rfl
    | true =>
      have := wm_pl_two hi (of_decide_eq_true q)
      rw [q1] at hT
      have := (nI_leI (a := w_cnt (wm_td μ e N) 10) (b := 1) (by omega) (by omega)).mp hT
      omega
  have inn : ∀ i, i < 10 → ((decide (1 < ν 27 i) && w_bts (ν 27) (ν 26) i) = true → qX8_paradox e n μ (nI i) ν) → ((decide (1 < ν 27 i) && w_bts (ν 27) (ν 26) i) = false → K 27 [some (.ref 0), some (.int e), some (.int n), some (.int T), some (.int (nI (i + 1))), none, none] [] ν) → ∀ (d o : Nat), o + d = 10 → K 45 [some (.ref 0), some (.int e), some (.int n), some (.int T), some (.int (nI i)), some (.int (w_B01 (decide (1 < ν 27 i) && w_allB (fun o => decide (o = i) || (!(decide (0 < ν 27 o)) || decide (2 ≤ w_jf (ν 26) i o 3))) o))), some (.int (nI o))] [] ν := by
    intro i hi yes no d
    induction d with
    | zero =>
      intro o ho
      have ho10 : o = 10 := by omega
      subst ho10
      refine hK uX8_paradox 25 _ _ _ _ (vcX8_paradox_45 K _ e n T (nI i) (w_B01 (decide (1 < ν 27 i) && w_allB (fun o => decide (o = i) || (!(decide (0 < ν 27 o)) || decide (2 ≤ w_jf (ν 26) i o 3))) 10)) (nI 10) ν ?_)
      rw [nI_1 i]
      exact ⟨fun _ => ⟨fun z => no (w_B01_0.mp z), fun z => yes (w_B01_n.mp z)⟩, fun z => absurd (by decide) z⟩
    | succ d ih =>
      intro o ho
      refine hK uX8_paradox 25 _ _ _ _ (vcX8_paradox_45 K _ e n T (nI i) (w_B01 (decide (1 < ν 27 i) && w_allB (fun o => decide (o = i) || (!(decide (0 < ν 27 o)) || decide (2 ≤ w_jf (ν 26) i o 3))) o)) (nI o) ν ?_)
      have eo : (nI o).toNatClampNeg = o := nI_clamp (by omega)
      have ei : (nI i).toNatClampNeg = i := nI_clamp (by omega)
      have z := ih (o + 1) (by omega)
      rw [w_allB, ← Bool.and_assoc] at z
      rw [eo, ei, nI_1 o]
      have hp : vp_in (ν 27 o) 12 := by rw [q2 o (by omega)]; exact wm_pl_td.2
      refine ⟨fun z => absurd z (nI_ge (b := 10) (by omega) (by omega)), fun _ => ⟨fun c0 => ?_, fun c0 => ⟨fun c3 => ?_, fun c3 => ⟨vp_in_nI (by omega) (by omega), fun c4 => ?_, fun c4 => ⟨⟨vp_in_nI (by omega) (by omega), vp_in_nI (by omega) (by omega)⟩, fun c5 => ?_, fun c5 => ?_⟩⟩⟩⟩⟩
      · rw [w_B01_0.mp c0, Bool.false_and] at z; exact z
      · have c3 : o = i := (nI_eq (by omega) (by omega)).mp c3
        rw [w_B01_n.mp c0, decide_eq_true c3] at z; exact z
      · rw [w_B01_n.mp c0, decide_eq_false (show ¬ 0 < ν 27 o by rw [c4]; decide)] at z
        simp only [Bool.not_false, Bool.true_or, Bool.or_true, Bool.and_true] at z
        exact z
      · have n1 : ¬ o = i := fun q => c3 (by rw [q])
        rw [w_B01_n.mp c0, decide_eq_false n1, decide_eq_true ((nn_pos hp (by decide)).mpr c4), c5] at z
        exact z
      · have n1 : ¬ o = i := fun q => c3 (by rw [q])
        rw [w_B01_n.mp c0, decide_eq_false n1, decide_eq_true ((nn_pos hp (by decide)).mpr c4), c5] at z
        exact z
  have loop : ∀ (d i : Nat), i + d = 10 → wm_px μ e N = w_find (fun i => decide (1 < wm_pl μ e N i) && w_bts (wm_pl μ e N) (wm_TT μ e N).2.2 i) d i → K 27 [some (.ref 0), some (.int e), some (.int n), some (.int T), some (.int (nI i)), none, none] [] ν := by
    intro d
    induction d with
    | zero =>
      intro i hi hpx
      refine hK uX8_paradox 25 _ _ _ _ (vcX8_paradox_27 K _ e n T (nI i) ν ?_)
      exact ⟨fun _ => fin _ hpx.symm, fun z => absurd (nI_le (a := 10) (by omega) (by omega)) z⟩
    | succ d ih =>
      intro i hi hpx
      refine hK uX8_paradox 25 _ _ _ _ (vcX8_paradox_27 K _ e n T (nI i) ν ?_)
      have ei : (nI i).toNatClampNeg = i := nI_clamp (by omega)
      rw [ei]
      have hpx' : wm_px μ e N = (if (decide (1 < wm_pl μ e N i) && w_bts (wm_pl μ e N) (wm_TT μ e N).2.2 i) = true then nI i else w_find (fun i => decide (1 < wm_pl μ e N i) && w_bts (wm_pl μ e N) (wm_TT μ e N).2.2 i) d (i + 1)) := hpx
      have nx := inn i (by omega) (fun hy => fin _ (by rw [hpx', if_pos (by rw [← hbt i (by omega)]; exact hy)])) (fun hn => ih (i + 1) (by omega) (by rw [hpx', if_neg (by rw [← hbt i (by omega), hn]; decide)])) 10 0 rfl
      rw [w_allB, Bool.and_true] at nx
      refine ⟨fun z => absurd z (nI_ge (b := 10) (by omega) (by omega)), fun _ => ⟨fun c5 => fin _ ?_, fun c5 => ⟨vp_in_nI (by omega) (by omega), fun c6 => ?_, fun c6 => ?_⟩⟩⟩
      · unfold wm_px
        rw [w_find_no 10 0 (fun j _ hj => hlow c5 j (by omega))]
      · rw [decide_eq_false (i_nlt.mpr c6)] at nx; exact nx
      · rw [decide_eq_true (i_nle.mp c6)] at nx; exact nx
  exact loop 10 0 rfl rfl
set_option maxRecDepth 100000 in
theorem zX8_paradox (l : Launch) : ∀ (idx : Nat) (S : wS), gX8_paradox idx = some S → w_Call l 8 idx S 5 shM rfM 32 := by
  intro idx S hS
  unfold gX8_paradox at hS
  split at hS
  · cases hS
    exact w_callS (mX8_in l) eX8_in.1 (by decide +kernel) eX8_in.2.1 eX8_in.2.2 (by decide +kernel) (by decide) (by decide)
  · cases hS
    exact w_callV (ci := 8) (mX8_isEvent l) (by decide) rX8_isEvent eX8_isEvent.1 (by decide +kernel) eX8_isEvent.2.1 eX8_isEvent.2.2.1 eX8_isEvent.2.2.2 (by decide +kernel) (by decide) (by decide)
  · cases hS
    exact w_callV (ci := 8) (mX8_placeAll l) (by decide) rX8_placeAll eX8_placeAll.1 (by decide +kernel) eX8_placeAll.2.1 eX8_placeAll.2.2.1 eX8_placeAll.2.2.2 (by decide +kernel) (by decide) (by decide)
  · cases hS
    exact w_callV (ci := 8) (mX8_beats l) (by decide) rX8_beats eX8_beats.1 (by decide +kernel) eX8_beats.2.1 eX8_beats.2.2.1 eX8_beats.2.2.2 (by decide +kernel) (by decide) (by decide)
  · cases hS
theorem mX8_paradox (l : Launch) : w_Met l yX8_paradox cX8_paradox 7 (some .int) 5 shM rfM 32 sX8_paradox.2.2.2.1 sX8_paradox.2.2.2.2 :=
  w_meth (o := 8) (Γ := gX8_paradox) (tb := tX8_paradox) (by decide +kernel) rfl kX8_paradox rfl (zX8_paradox l) (fun as μ h => by obtain ⟨e, n, rfl, h⟩ := h; exact Nat.le_of_ble_eq_true rfl) (fun as μ h K hK => by obtain ⟨e, n, rfl, h⟩ := h; exact vX8_paradox e n μ h K hK)
set_option maxRecDepth 100000 in
theorem eX8_paradox : Cond.code yX8_paradox cX8_paradox 7 (some .int) ∈ w_tbl ∧ Cond.instanceMethod yX8_paradox ∈ w_tbl ∧ Cond.selects (w_C 8) yX8_paradox yX8_paradox ∈ w_tbl ∧ Cond.initialized yX8_paradox.cls ∈ w_tbl := ⟨by decide +kernel, by decide +kernel, by decide +kernel, by decide +kernel⟩
theorem rX8_paradox : ∀ as μ, sX8_paradox.2.2.2.1 as μ → ∃ q as', as = .ref q :: as' ∧ q < 32 ∧ shM q = .inl 8 := by
  intro as μ h
  obtain ⟨e, n, rfl, h⟩ := h
  exact ⟨_, _, rfl, by decide, rfl⟩
