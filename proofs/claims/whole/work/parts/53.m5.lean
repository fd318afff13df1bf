theorem wm_TT_fr {μ ν : wM} (h : ∀ a, a < 24 → ν a = μ a) (e : Int32) (N : Nat) : wm_TT ν e N = wm_TT μ e N := by
  rw [wm_TT_rb, wm_TT_rb, h 1 (by decide), h 7 (by decide), h 8 (by decide), h 9 (by decide), h 17 (by decide), h 18 (by decide), h 19 (by decide), h 20 (by decide)]
theorem wm_EV.fr {μ ν : wM} (h : ∀ a, a < 24 → ν a = μ a) {e : Int32} {N : Nat} (hv : wm_EV μ e N) : wm_EV ν e N := by
  unfold wm_EV
  rw [h 1 (by decide), h 9 (by decide), h 17 (by decide), h 18 (by decide), h 19 (by decide), h 20 (by decide)]
  exact hv
theorem wm_EV.le {μ : wM} {e : Int32} {N M : Nat} (hv : wm_EV μ e N) (h : M ≤ N) : wm_EV μ e M := ⟨hv.1, by have := hv.2.1; omega, fun i hi => hv.2.2 i (by omega)⟩
theorem wm_OK.fr {T : wB} {k : Int32} {X Y : Nat} {ν ν' : wM} (h : wm_OK T k X ν) (hXY : X ≠ Y) (hf : wm_fr Y ν ν') : wm_OK T k X ν' := by
  obtain ⟨h1, h2, h3, h4⟩ := h
  refine ⟨by rw [hf.2.2.1 X hXY]; exact h1, fun q => by rw [hf.2.1 (6 * X) (by omega)]; exact h2 q, fun q i hi => by rw [hf.2.1 (6 * X + i) (by omega)]; exact h3 q i hi, fun q j hj => by rw [hf.2.2.2 (3 * X + j) (by omega)]; exact h4 q j hj⟩
theorem wm_OK.row {T : wB} {k : Int32} {X : Nat} {ν ν' : wM} (h : wm_OK T k X ν) (h4 : ν' 24 = ν 24) (h5 : ν' 25 = ν 25) (h6 : ν' 26 = ν 26) : wm_OK T k X ν' := by
  unfold wm_OK
  rw [h4, h5, h6]
  exact h
def w_nn (t : wB) : Prop := ∀ m, vp_in (t.2.1 m) 7
theorem w_take_n {k g sl way : Int32} {m : Nat} {a b y : Int32} {t : wB} (h : w_nn t) : w_nn (w_take k g sl way m a b y t) := by
  unfold w_take
  split
  · exact h
  · split
    · split
      · exact h
      · next hc =>
        intro j
        dsimp only
        by_cases e : j = m
        · obtain ⟨C, hC, hCn, -⟩ := vp_in_le (h m) (by decide)
          rw [hCn] at hc
          rw [e, upd_in, hCn, nI_1]
          refine vp_in_nI ?_ (by omega)
          rcases Nat.lt_or_ge C 6 with z | z
          · omega
          · exact absurd (nI_le (a := 6) z (by omega)) hc
        · rw [upd_out e]; exact h j
    · split
      · split
        · intro j
          dsimp only
          by_cases e : j = m
          · rw [e, upd_in]; exact vp_in_nI (n := 1) (by decide) (by decide)
          · rw [upd_out e]; exact h j
        · exact h
      · exact h
theorem wm_T_n (μ : wM) (e : Int32) : ∀ (i : Nat) (t : wB), w_nn t → w_nn (w_tks (wm_hit μ e) (wm_stp μ e) i t) := by
  intro i
  induction i with
  | zero => intro t h; exact h
  | succ i ih =>
    intro t h
    rw [w_tks]
    refine ih _ ?_
    split
    · exact w_take_n h
    · exact h
theorem w_join_n {t : wB} (h : w_nn t) : ∀ m, w_nn (w_join t m) := by
  intro m
  induction m with
  | zero => exact h
  | succ m ih =>
    unfold w_join
    dsimp only
    split
    · intro j
      dsimp only
      by_cases e : j = m
      · rw [e, upd_in]; exact vp_in_nI (n := 1) (by decide) (by decide)
      · rw [upd_out e]; exact ih j
    · exact ih
theorem wm_TT_n (μ : wM) (e : Int32) (N : Nat) : w_nn (wm_TT μ e N) := by
  have h0 : w_nn (wm_T μ e N) := wm_T_n μ e N w_c0 (fun _ => vp_in_nI (n := 0) (by decide) (by decide))
  unfold wm_TT
  split
  · exact w_join_n h0 10
  · exact h0
theorem nn_pos {x : Int32} {n : Nat} (h : vp_in x n) (hn : n < 2 ^ 31) : (0 < x ↔ ¬ x = 0) := by
  obtain ⟨C, hC, hCn, -⟩ := vp_in_le h hn
  rw [hCn]
  constructor
  · intro z q
    rw [q] at z
    exact absurd z (by decide)
  · intro z
    have : C ≠ 0 := fun q => z (by rw [q]; rfl)
    exact nI_lt (a := 0) (by omega) (by omega)
theorem w_lex_cg {f g : Nat → Int32} {a b : Nat} : ∀ j, j ≤ 6 → (∀ i, i < 6 → f (6 * a + i) = g (6 * a + i)) → (∀ i, i < 6 → f (6 * b + i) = g (6 * b + i)) → w_lex f a b j = w_lex g a b j := by
  intro j
  induction j with
  | zero => intro _ _ _; rfl
  | succ j ih =>
    intro hj h1 h2
    unfold w_lex
    rw [h1 (5 - j) (by omega), h2 (5 - j) (by omega), ih (by omega) h1 h2]
theorem wm_ahead_cg {T : wB} {k : Int32} {ν : wM} {a b : Nat} (ha : wm_OK T k a ν) (hb : wm_OK T k b ν) (h1 : 0 < T.2.1 a) (h2 : 0 < T.2.1 b) : w_ahead k (ν 24) a b = w_ahead k T.1 a b := by
  unfold w_ahead
  split
  · next k0 => exact w_lex_cg 6 (Nat.le_refl _) (ha.2.2.1 k0) (hb.2.2.1 k0)
  · rw [ha.2.1 h1, hb.2.1 h2]
def wm_pl (μ : wM) (e : Int32) (N m : Nat) : Int32 := w_plc (μ 1 e.toNatClampNeg) (μ 6 e.toNatClampNeg) (wm_TT μ e N).1 (wm_TT μ e N).2.1 m
def wm_td (μ : wM) (e : Int32) (N : Nat) : Nat → Bool := fun m => decide (μ 6 e.toNatClampNeg = 0) && decide (0 < (wm_TT μ e N).2.1 m)
/-- the model's scratch rows -/
def w_sm (μ ν : wM) : Prop := ∀ a, (a < 24 ∨ 28 < a) → ν a = μ a
theorem w_sm.refl (μ : wM) : w_sm μ μ := fun _ _ => rfl
theorem w_sm.trans {μ ν ρ : wM} (h : w_sm μ ν) (h2 : w_sm ν ρ) : w_sm μ ρ := fun a ha => (h2 a ha).trans (h a ha)
theorem w_sm.pl {μ ν : wM} (h : w_sm μ ν) (e : Int32) (N m : Nat) : wm_pl ν e N m = wm_pl μ e N m := by
  unfold wm_pl
  rw [wm_TT_fr (fun a ha => h a (Or.inl ha)), h 1 (by omega), h 6 (by omega)]
theorem wm_pl_td {μ : wM} {e : Int32} {N m : Nat} : (wm_pl μ e N m = 0 ↔ wm_td μ e N m = false) ∧ vp_in (wm_pl μ e N m) 12 := by
  have hn := wm_TT_n μ e N m
  have hp := nn_pos hn (by decide)
  unfold wm_pl w_plc wm_td
  by_cases c : ¬ μ 6 e.toNatClampNeg = 0 ∨ (wm_TT μ e N).2.1 m = 0
  · rw [if_pos c]
    refine ⟨⟨fun _ => ?_, fun _ => rfl⟩, vp_in_nI (n := 0) (by decide) (by decide)⟩
    rcases c with c | c
    · simp [c]
    · rw [c]; simp
  · rw [if_neg c]
    have hc := w_cnt_le (fun j => decide (0 < (wm_TT μ e N).2.1 j) && w_ahead (μ 1 e.toNatClampNeg) (wm_TT μ e N).1 j m) 10
    generalize w_cnt (fun j => decide (0 < (wm_TT μ e N).2.1 j) && w_ahead (μ 1 e.toNatClampNeg) (wm_TT μ e N).1 j m) 10 = C at *
    rw [show (1 : Int32) = nI 1 from rfl, nI_add]
    refine ⟨⟨fun z => ?_, fun z => ?_⟩, vp_in_nI (by omega) (by omega)⟩
    · have := (nI_eq (a := 1 + C) (b := 0) (by omega) (by omega)).mp z
      omega
    · exfalso
      apply c
      by_cases c1 : μ 6 e.toNatClampNeg = 0
      · right
        have : ¬ 0 < (wm_TT μ e N).2.1 m := by simpa [c1] using z
        exact Decidable.not_not.mp (fun q => this (hp.mpr q))
      · exact Or.inl c1
def wm_PA (μ : wM) (e n : Int32) : Prop := ∃ N : Nat, n = nI N ∧ wm_EV μ e N ∧ vp_in (μ 1 e.toNatClampNeg) 3
theorem wm_PA.sm {μ ν : wM} (h : w_sm μ ν) {e n : Int32} (hp : wm_PA μ e n) : wm_PA ν e n := by
  obtain ⟨N, h1, h2, h3⟩ := hp
  exact ⟨N, h1, h2.fr (fun a ha => h a (Or.inl ha)), by rw [h 1 (by omega)]; exact h3⟩
theorem k012 {k : Int32} (h : vp_in k 3) : k = 0 ∨ k = 1 ∨ k = 2 := by
  obtain ⟨C, hC, hCn, -⟩ := vp_in_le h (by decide)
  rw [hCn]
  match C, hC with
  | 0, _ => exact Or.inl rfl
  | 1, _ => exact Or.inr (Or.inl rfl)
  | 2, _ => exact Or.inr (Or.inr rfl)
/-! X8_markAll -/
def pX8_markAll (e : Int32) (n : Int32) (μ : wM) : Prop := wm_PA μ e n
def qX8_markAll (e : Int32) (n : Int32) (μ : wM) (r : Int32) (μ' : wM) : Prop := (∀ X, X < 10 → wm_OK (wm_TT μ e n.toNatClampNeg) (μ 1 e.toNatClampNeg) X μ') ∧ ∀ a, (a < 24 ∨ 26 < a) → μ' a = μ a
def sX8_markAll : wS := (false, true, 3, fun as μ => ∃ e, ∃ n, as = [.ref 0, .int e, .int n] ∧ pX8_markAll e n μ, fun as μ r μ' => match as with
  | [.ref _, .int e, .int n] => qX8_markAll e n μ r μ'
  | _ => False)
def gX8_markAll : Nat → Option wS := fun k => match k with
  | 179 => some sX8_markThrow
  | 183 => some sX8_markRace
  | 186 => some sX8_markDance
  | _ => none
def uX8_markAll : Nat → Option (List Nat) := fun j => match j with | 2 => some [] | _ => none
set_option maxHeartbeats 4000000 in
set_option maxRecDepth 100000 in
theorem vcX8_markAll_0 (K : wK) (R : Int32 → wM → Prop) (e : Int32) (n : Int32) (μ : wM) (h : K 2 [some (.ref 0), some (.int e), some (.int n), some (.int 0)] [] μ) : w_n 8 gX8_markAll shM rfM 32 none R tX8_markAll uX8_markAll K 24 0 [some (.ref 0), some (.int e), some (.int n), none] [] μ :=
  h
set_option maxHeartbeats 4000000 in
set_option maxRecDepth 100000 in
theorem vcX8_markAll_2 (K : wK) (R : Int32 → wM → Prop) (e : Int32) (n : Int32) (l3 : Int32) (μ : wM) (h : (
    (((10 : Int32) ≤ l3) → R 0 μ) ∧
    (¬ ((10 : Int32) ≤ l3) → (vp_in e 8) ∧ (
      ((((μ 1 (e : Int32).toNatClampNeg) : Int32) = 0) → pX8_markThrow e l3 n μ ∧ (∀ (r1 : Int32) (m2 : wM), qX8_markThrow e l3 n μ r1 m2 →
        K 2 [some (.ref 0), some (.int e), some (.int n), some (.int (l3 + 1))] [] m2)) ∧
      (¬ (((μ 1 (e : Int32).toNatClampNeg) : Int32) = 0) → (
        ((((μ 1 (e : Int32).toNatClampNeg) : Int32) = 1) → pX8_markRace e l3 n μ ∧ (∀ (r3 : Int32) (m4 : wM), qX8_markRace e l3 n μ r3 m4 →
          K 2 [some (.ref 0), some (.int e), some (.int n), some (.int (l3 + 1))] [] m4)) ∧
        (¬ (((μ 1 (e : Int32).toNatClampNeg) : Int32) = 1) → pX8_markDance e l3 n μ ∧ (∀ (r5 : Int32) (m6 : wM), qX8_markDance e l3 n μ r5 m6 →
          K 2 [some (.ref 0), some (.int e), some (.int n), some (.int (l3 + 1))] [] m6)))))))) : w_n 8 gX8_markAll shM rfM 32 none R tX8_markAll uX8_markAll K 24 2 [some (.ref 0), some (.int e), some (.int n), some (.int l3)] [] μ :=
  And.intro (fun z2304 => (h.1 z2304)) (fun z2305 => And.intro (And.intro (of_decide_eq_true rfl) rfl) (And.intro (And.intro (of_decide_eq_true rfl) (Exists.intro _ (And.intro rfl ((h.2 z2305).1)))) (And.intro (fun z2306 => And.intro (Exists.intro _ (Exists.intro _ (Exists.intro _ (And.intro rfl (((h.2 z2305).2.1 z2306).1))))) (fun r1 m2 z2308 => (((h.2 z2305).2.1 z2306).2 r1 m2 z2308))) (fun z2307 => And.intro (And.intro (of_decide_eq_true rfl) rfl) (And.intro (And.intro (of_decide_eq_true rfl) (Exists.intro _ (And.intro rfl ((h.2 z2305).1)))) (And.intro (fun z2309 => And.intro (Exists.intro _ (Exists.intro _ (Exists.intro _ (And.intro rfl ((((h.2 z2305).2.2 z2307).1 z2309).1))))) (fun r3 m4 z2311 => ((((h.2 z2305).2.2 z2307).1 z2309).2 r3 m4 z2311))) (fun z2310 => And.intro (Exists.intro _ (Exists.intro _ (Exists.intro _ (And.intro rfl ((((h.2 z2305).2.2 z2307).2 z2310).1))))) (fun r5 m6 z2312 => ((((h.2 z2305).2.2 z2307).2 z2310).2 r5 m6 z2312)))))))))
set_option maxHeartbeats 4000000 in
theorem vX8_markAll (e : Int32) (n : Int32) (μ : wM) (h : pX8_markAll e n μ) (K : wK) (hK : w_cl 8 gX8_markAll shM rfM 32 none (qX8_markAll e n μ) tX8_markAll K) : K 0 [some (.ref 0), some (.int e), some (.int n), none] [] μ := by
  unfold pX8_markAll at h
  obtain ⟨N, rfl, hv, hk⟩ := h
  have hN := hv.2.1
  have eN : (nI N).toNatClampNeg = N := nI_clamp (by omega)
  have loop : ∀ (d i : Nat) (ν : wM), i + d = 10 → (∀ X, X < i → wm_OK (wm_TT μ e N) (μ 1 e.toNatClampNeg) X ν) → (∀ a, (a < 24 ∨ 26 < a) → ν a = μ a) → K 2 [some (.ref 0), some (.int e), some (.int (nI N)), some (.int (nI i))] [] ν := by
    intro d
    induction d with
    | zero =>
      intro i ν hi ho hf
      refine hK uX8_markAll 24 _ _ _ _ (vcX8_markAll_2 K _ e (nI N) (nI i) ν ?_)
      refine ⟨fun _ => ⟨fun X hX => by rw [eN]; exact ho X (by omega), hf⟩, fun z => absurd (nI_le (a := 10) (by omega) (by omega)) z⟩
    | succ d ih =>
      intro i ν hi ho hf
      refine hK uX8_markAll 24 _ _ _ _ (vcX8_markAll_2 K _ e (nI N) (nI i) ν ?_)
      have hvν : wm_EV ν e N := hv.fr (fun a ha => hf a (Or.inl ha))
      have hT : wm_TT ν e N = wm_TT μ e N := wm_TT_fr (fun a ha => hf a (Or.inl ha)) e N
      have nx : ∀ m : wM, (∃ X N' : Nat, nI i = nI X ∧ X < 10 ∧ nI N = nI N' ∧ N' ≤ 160 ∧ wm_OK (wm_TT ν e N') (ν 1 e.toNatClampNeg) X m ∧ wm_fr X ν m) → K 2 [some (.ref 0), some (.int e), some (.int (nI N)), some (.int (nI i + 1))] [] m := by
        rintro m ⟨X, N', h1, h1', h2, h2', h3, h4⟩
        have e1 : i = X := (nI_eq (by omega) (by omega)).mp h1
        have e2 : N = N' := (nI_eq (by omega) (by omega)).mp h2
        subst e1 e2
        rw [hT, hf 1 (by omega)] at h3
        rw [nI_1]
        refine ih (i + 1) m (by omega) (fun X hX => ?_) (fun a ha => (h4.1 a ha).trans (hf a ha))
        by_cases q : X = i
        · rw [q]; exact h3
        · exact (ho X (by omega)).fr q h4
      rw [hf 1 (by omega)]
      refine ⟨fun z => absurd z (nI_ge (b := 10) (by omega) (by omega)), fun _ => ⟨hv.1, fun c => ⟨⟨i, N, rfl, by omega, rfl, hvν, by rw [hf 1 (by omega)]; exact c⟩, fun r m hq => nx m hq⟩, fun c => ⟨fun c2 => ⟨⟨i, N, rfl, by omega, rfl, hvν, by rw [hf 1 (by omega)]; exact c2⟩, fun r m hq => nx m hq⟩, fun c2 => ⟨⟨i, N, rfl, by omega, rfl, hvν, ?_⟩, fun r m hq => nx m hq⟩⟩⟩⟩
      rw [hf 1 (by omega)]
      rcases k012 hk with q | q | q
      · exact absurd q c
      · exact absurd q c2
      · exact q
  refine hK uX8_markAll 24 _ _ _ _ (vcX8_markAll_0 K _ e (nI N) μ ?_)
  exact loop 10 0 μ rfl (fun X hX => absurd hX (Nat.not_lt_zero _)) (fun _ _ => rfl)
set_option maxRecDepth 100000 in
theorem zX8_markAll (l : Launch) : ∀ (idx : Nat) (S : wS), gX8_markAll idx = some S → w_Call l 8 idx S 3 shM rfM 32 := by
  intro idx S hS
  unfold gX8_markAll at hS
  split at hS
  · cases hS
    exact w_callV (ci := 8) (mX8_markThrow l) (by decide) rX8_markThrow eX8_markThrow.1 (by decide +kernel) eX8_markThrow.2.1 eX8_markThrow.2.2.1 eX8_markThrow.2.2.2 (by decide +kernel) (by decide) (by decide)
  · cases hS
    exact w_callV (ci := 8) (mX8_markRace l) (by decide) rX8_markRace eX8_markRace.1 (by decide +kernel) eX8_markRace.2.1 eX8_markRace.2.2.1 eX8_markRace.2.2.2 (by decide +kernel) (by decide) (by decide)
  · cases hS
    exact w_callV (ci := 8) (mX8_markDance l) (by decide) rX8_markDance eX8_markDance.1 (by decide +kernel) eX8_markDance.2.1 eX8_markDance.2.2.1 eX8_markDance.2.2.2 (by decide +kernel) (by decide) (by decide)
  · cases hS
theorem mX8_markAll (l : Launch) : w_Met l yX8_markAll cX8_markAll 4 none 3 shM rfM 32 sX8_markAll.2.2.2.1 sX8_markAll.2.2.2.2 :=
  w_meth (o := 8) (Γ := gX8_markAll) (tb := tX8_markAll) (by decide +kernel) rfl kX8_markAll rfl (zX8_markAll l) (fun as μ h => by obtain ⟨e, n, rfl, h⟩ := h; exact Nat.le_of_ble_eq_true rfl) (fun as μ h K hK => by obtain ⟨e, n, rfl, h⟩ := h; exact vX8_markAll e n μ h K hK)
set_option maxRecDepth 100000 in
theorem eX8_markAll : Cond.code yX8_markAll cX8_markAll 4 none ∈ w_tbl ∧ Cond.instanceMethod yX8_markAll ∈ w_tbl ∧ Cond.selects (w_C 8) yX8_markAll yX8_markAll ∈ w_tbl ∧ Cond.initialized yX8_markAll.cls ∈ w_tbl := ⟨by decide +kernel, by decide +kernel, by decide +kernel, by decide +kernel⟩
theorem rX8_markAll : ∀ as μ, sX8_markAll.2.2.2.1 as μ → ∃ q as', as = .ref q :: as' ∧ q < 32 ∧ shM q = .inl 8 := by
  intro as μ h
  obtain ⟨e, n, rfl, h⟩ := h
  exact ⟨_, _, rfl, by decide, rfl⟩

/-! X8_isAhead -/
def pX8_isAhead (e : Int32) (a : Int32) (b : Int32) (μ : wM) : Prop := vp_in e 8 ∧ vp_in a 10 ∧ vp_in b 10
def qX8_isAhead (e : Int32) (a : Int32) (b : Int32) (μ : wM) (r : Int32) (μ' : wM) : Prop := r = (w_B01 (w_ahead (μ 1 e.toNatClampNeg) (μ 24) a.toNatClampNeg b.toNatClampNeg)) ∧ μ' = μ
def sX8_isAhead : wS := (false, false, 4, fun as μ => ∃ e, ∃ a, ∃ b, as = [.ref 0, .int e, .int a, .int b] ∧ pX8_isAhead e a b μ, fun as μ r μ' => match as with
  | [.ref _, .int e, .int a, .int b] => qX8_isAhead e a b μ r μ'
  | _ => False)
def gX8_isAhead : Nat → Option wS := fun k => match k with
  | _ => none
def uX8_isAhead : Nat → Option (List Nat) := fun j => match j with | 24 => some [] | _ => none
set_option maxHeartbeats 4000000 in
set_option maxRecDepth 100000 in
theorem vcX8_isAhead_0 (K : wK) (R : Int32 → wM → Prop) (e : Int32) (a : Int32) (b : Int32) (μ : wM) (h : (vp_in e 8) ∧ (
    ((((μ 1 (e : Int32).toNatClampNeg) : Int32) = 0) → K 24 [some (.ref 0), some (.int e), some (.int a), some (.int b), some (.int 0)] [] μ) ∧
    (¬ (((μ 1 (e : Int32).toNatClampNeg) : Int32) = 0) → (vp_in (6 * a) 60) ∧ (vp_in (6 * b) 60) ∧ (
      ((((μ 24 ((6 * b) : Int32).toNatClampNeg) : Int32) ≤ (μ 24 ((6 * a) : Int32).toNatClampNeg)) → R 0 μ) ∧
      (¬ (((μ 24 ((6 * b) : Int32).toNatClampNeg) : Int32) ≤ (μ 24 ((6 * a) : Int32).toNatClampNeg)) → R 1 μ))))) : w_n 8 gX8_isAhead shM rfM 32 (some .boolean) R tX8_isAhead uX8_isAhead K 44 0 [some (.ref 0), some (.int e), some (.int a), some (.int b), none] [] μ :=
  And.intro (And.intro (of_decide_eq_true rfl) rfl) (And.intro (And.intro (of_decide_eq_true rfl) (Exists.intro _ (And.intro rfl (h.1)))) (And.intro (fun z2329 => (h.2.1 z2329)) (fun z2330 => And.intro (And.intro (of_decide_eq_true rfl) rfl) (And.intro (And.intro (of_decide_eq_true rfl) (Exists.intro _ (And.intro rfl ((h.2.2 z2330).1)))) (And.intro (And.intro (of_decide_eq_true rfl) rfl) (And.intro (And.intro (of_decide_eq_true rfl) (Exists.intro _ (And.intro rfl ((h.2.2 z2330).2.1)))) (And.intro (fun z2331 => And.intro (Or.inl rfl) (((h.2.2 z2330).2.2.1 z2331))) (fun z2332 => And.intro (Or.inr rfl) (((h.2.2 z2330).2.2.2 z2332))))))))))
set_option maxHeartbeats 4000000 in
set_option maxRecDepth 100000 in
theorem vcX8_isAhead_24 (K : wK) (R : Int32 → wM → Prop) (e : Int32) (a : Int32) (b : Int32) (l4 : Int32) (μ : wM) (h : (
    (((6 : Int32) ≤ l4) → (
      (((6 : Int32) ≤ l4) → R 0 μ) ∧
      (¬ ((6 : Int32) ≤ l4) → (vp_in ((6 * a) + l4) 60) ∧ (vp_in ((6 * b) + l4) 60) ∧ (
        ((((μ 24 (((6 * a) + l4) : Int32).toNatClampNeg) : Int32) ≤ (μ 24 (((6 * b) + l4) : Int32).toNatClampNeg)) → R 0 μ) ∧
        (¬ (((μ 24 (((6 * a) + l4) : Int32).toNatClampNeg) : Int32) ≤ (μ 24 (((6 * b) + l4) : Int32).toNatClampNeg)) → R 1 μ))))) ∧
    (¬ ((6 : Int32) ≤ l4) → (vp_in ((6 * a) + l4) 60) ∧ (vp_in ((6 * b) + l4) 60) ∧ (
      ((((μ 24 (((6 * a) + l4) : Int32).toNatClampNeg) : Int32) = (μ 24 (((6 * b) + l4) : Int32).toNatClampNeg)) → K 24 [some (.ref 0), some (.int e), some (.int a), some (.int b), some (.int (l4 + 1))] [] μ) ∧
      (¬ (((μ 24 (((6 * a) + l4) : Int32).toNatClampNeg) : Int32) = (μ 24 (((6 * b) + l4) : Int32).toNatClampNeg)) → (
        (((6 : Int32) ≤ l4) → R 0 μ) ∧
        (¬ ((6 : Int32) ≤ l4) → (
          ((((μ 24 (((6 * a) + l4) : Int32).toNatClampNeg) : Int32) ≤ (μ 24 (((6 * b) + l4) : Int32).toNatClampNeg)) → R 0 μ) ∧
          (¬ (((μ 24 (((6 * a) + l4) : Int32).toNatClampNeg) : Int32) ≤ (μ 24 (((6 * b) + l4) : Int32).toNatClampNeg)) → R 1 μ))))))))) : w_n 8 gX8_isAhead shM rfM 32 (some .boolean) R tX8_isAhead uX8_isAhead K 44 24 [some (.ref 0), some (.int e), some (.int a), some (.int b), some (.int l4)] [] μ :=
  And.intro (fun z2333 => And.intro (fun z2335 => And.intro (Or.inl rfl) (((h.1 z2333).1 z2335))) (fun z2336 => And.intro (And.intro (of_decide_eq_true rfl) rfl) (And.intro (And.intro (of_decide_eq_true rfl) (Exists.intro _ (And.intro rfl (((h.1 z2333).2 z2336).1)))) (And.intro (And.intro (of_decide_eq_true rfl) rfl) (And.intro (And.intro (of_decide_eq_true rfl) (Exists.intro _ (And.intro rfl (((h.1 z2333).2 z2336).2.1)))) (And.intro (fun z2337 => And.intro (Or.inl rfl) ((((h.1 z2333).2 z2336).2.2.1 z2337))) (fun z2338 => And.intro (Or.inr rfl) ((((h.1 z2333).2 z2336).2.2.2 z2338))))))))) (fun z2334 => And.intro (And.intro (of_decide_eq_true rfl) rfl) (And.intro (And.intro (of_decide_eq_true rfl) (Exists.intro _ (And.intro rfl ((h.2 z2334).1)))) (And.intro (And.intro (of_decide_eq_true rfl) rfl) (And.intro (And.intro (of_decide_eq_true rfl) (Exists.intro _ (And.intro rfl ((h.2 z2334).2.1)))) (And.intro (fun z2339 => ((h.2 z2334).2.2.1 z2339)) (fun z2340 => And.intro (fun z2341 => And.intro (Or.inl rfl) ((((h.2 z2334).2.2.2 z2340).1 z2341))) (fun z2342 => And.intro (And.intro (of_decide_eq_true rfl) rfl) (And.intro (And.intro (of_decide_eq_true rfl) (Exists.intro _ (And.intro rfl ((h.2 z2334).1)))) (And.intro (And.intro (of_decide_eq_true rfl) rfl) (And.intro (And.intro (of_decide_eq_true rfl) (Exists.intro _ (And.intro rfl ((h.2 z2334).2.1)))) (And.intro (fun z2343 => And.intro (Or.inl rfl) (((((h.2 z2334).2.2.2 z2340).2 z2342).1 z2343))) (fun z2344 => And.intro (Or.inr rfl) (((((h.2 z2334).2.2.2 z2340).2 z2342).2 z2344))))))))))))))
set_option maxHeartbeats 4000000 in
theorem vX8_isAhead (e : Int32) (a : Int32) (b : Int32) (μ : wM) (h : pX8_isAhead e a b μ) (K : wK) (hK : w_cl 8 gX8_isAhead shM rfM 32 (some .boolean) (qX8_isAhead e a b μ) tX8_isAhead K) : K 0 [some (.ref 0), some (.int e), some (.int a), some (.int b), none] [] μ := by
  unfold pX8_isAhead at h
  obtain ⟨h1, h3, h4⟩ := h
  obtain ⟨X, hX, rfl, hXc⟩ := vp_in_le h3 (by decide)
  obtain ⟨Y, hY, rfl, hYc⟩ := vp_in_le h4 (by decide)
  have loop : ∀ (j i : Nat), i + j = 6 → w_B01 (w_ahead (μ 1 e.toNatClampNeg) (μ 24) X Y) = w_B01 (w_lex (μ 24) X Y j) → K 24 [some (.ref 0), some (.int e), some (.int (nI X)), some (.int (nI Y)), some (.int (nI i))] [] μ := by
    intro j
    induction j with
    | zero =>
      intro i hi he
      refine hK uX8_isAhead 44 _ _ _ _ (vcX8_isAhead_24 K _ e (nI X) (nI Y) (nI i) μ ?_)
      have hle : (6 : Int32) ≤ nI i := nI_le (a := 6) (by omega) (by omega)
      refine ⟨fun _ => ⟨fun _ => ⟨?_, rfl⟩, fun z => absurd hle z⟩, fun z => absurd hle z⟩
      rw [hXc, hYc, he]
      rfl
    | succ j ih =>
      intro i hi he
      refine hK uX8_isAhead 44 _ _ _ _ (vcX8_isAhead_24 K _ e (nI X) (nI Y) (nI i) μ ?_)
      unfold w_lex at he
      rw [show 5 - j = i by omega] at he
      have hlt : ¬ (6 : Int32) ≤ nI i := fun z => absurd z (nI_ge (b := 6) (by omega) (by omega))
      rw [jx6, jx6, nI_clamp (show 6 * X + i < 2 ^ 31 by omega), nI_clamp (show 6 * Y + i < 2 ^ 31 by omega), nI_1]
      refine ⟨fun z => absurd z hlt, fun _ => ⟨vp_in_nI (by omega) (by omega), vp_in_nI (by omega) (by omega), fun c => ?_, fun c => ⟨fun z => absurd z hlt, fun _ => ⟨fun c2 => ⟨?_, rfl⟩, fun c2 => ⟨?_, rfl⟩⟩⟩⟩⟩
      · rw [if_pos c] at he
        exact ih (i + 1) (by omega) he
      · rw [hXc, hYc, he, if_neg c]
        exact w_B01_f (by simp only [decide_eq_true_eq]; exact i_nlt.mpr c2)
      · rw [hXc, hYc, he, if_neg c]
        exact w_B01_t (by simp only [decide_eq_true_eq]; exact i_nle.mp c2)
  refine hK uX8_isAhead 44 _ _ _ _ (vcX8_isAhead_0 K _ e (nI X) (nI Y) μ ?_)
  refine ⟨h1, fun c => ?_, fun c => ?_⟩
  · exact loop 6 0 rfl (by unfold w_ahead; rw [if_pos c])
  · rw [jx60, jx60, nI_clamp (show 6 * X < 2 ^ 31 by omega), nI_clamp (show 6 * Y < 2 ^ 31 by omega)]
    refine ⟨vp_in_nI (by omega) (by omega), vp_in_nI (by omega) (by omega), ?_⟩
    unfold qX8_isAhead w_ahead
    rw [hXc, hYc, if_neg c]
    refine ⟨fun c2 => ⟨w_B01_f ?_, rfl⟩, fun c2 => ⟨w_B01_t ?_, rfl⟩⟩
    · simp only [decide_eq_true_eq]; exact i_nlt.mpr c2
    · simp only [decide_eq_true_eq]; exact i_nle.mp c2
set_option maxRecDepth 100000 in
theorem zX8_isAhead (l : Launch) : ∀ (idx : Nat) (S : wS), gX8_isAhead idx = some S → w_Call l 8 idx S 1 shM rfM 32 := by
  intro idx S hS
  unfold gX8_isAhead at hS
  split at hS
  · cases hS
theorem mX8_isAhead (l : Launch) : w_Met l yX8_isAhead cX8_isAhead 5 (some .boolean) 1 shM rfM 32 sX8_isAhead.2.2.2.1 sX8_isAhead.2.2.2.2 :=
  w_meth (o := 8) (Γ := gX8_isAhead) (tb := tX8_isAhead) (by decide +kernel) rfl kX8_isAhead rfl (zX8_isAhead l) (fun as μ h => by obtain ⟨e, a, b, rfl, h⟩ := h; exact Nat.le_of_ble_eq_true rfl) (fun as μ h K hK => by obtain ⟨e, a, b, rfl, h⟩ := h; exact vX8_isAhead e a b μ h K hK)
set_option maxRecDepth 100000 in
theorem eX8_isAhead : Cond.code yX8_isAhead cX8_isAhead 5 (some .boolean) ∈ w_tbl ∧ Cond.instanceMethod yX8_isAhead ∈ w_tbl ∧ Cond.selects (w_C 8) yX8_isAhead yX8_isAhead ∈ w_tbl ∧ Cond.initialized yX8_isAhead.cls ∈ w_tbl := ⟨by decide +kernel, by decide +kernel, by decide +kernel, by decide +kernel⟩
theorem rX8_isAhead : ∀ as μ, sX8_isAhead.2.2.2.1 as μ → ∃ q as', as = .ref q :: as' ∧ q < 32 ∧ shM q = .inl 8 := by
  intro as μ h
  obtain ⟨e, a, b, rfl, h⟩ := h
  exact ⟨_, _, rfl, by decide, rfl⟩

/-! X8_placeAll -/
def pX8_placeAll (e : Int32) (n : Int32) (μ : wM) : Prop := wm_PA μ e n
def qX8_placeAll (e : Int32) (n : Int32) (μ : wM) (r : Int32) (μ' : wM) : Prop := r = nI (w_cnt (wm_td μ e n.toNatClampNeg) 10) ∧ (∀ j, j < 10 → μ' 27 j = wm_pl μ e n.toNatClampNeg j) ∧ (μ 1 e.toNatClampNeg = 2 → ∀ p, p < 30 → μ' 26 p = (wm_TT μ e n.toNatClampNeg).2.2 p) ∧ w_sm μ μ' ∧ μ' 28 = μ 28
def sX8_placeAll : wS := (false, false, 3, fun as μ => ∃ e, ∃ n, as = [.ref 0, .int e, .int n] ∧ pX8_placeAll e n μ, fun as μ r μ' => match as with
  | [.ref _, .int e, .int n] => qX8_placeAll e n μ r μ'
  | _ => False)
def gX8_placeAll : Nat → Option wS := fun k => match k with
  | 189 => some sX8_markAll
  | 193 => some sX8_isAhead
  | _ => none
def uX8_placeAll : Nat → Option (List Nat) := fun j => match j with | 8 => some [5] | 34 => some [] | _ => none
set_option maxHeartbeats 4000000 in
set_option maxRecDepth 100000 in
theorem vcX8_placeAll_0 (K : wK) (R : Int32 → wM → Prop) (e : Int32) (n : Int32) (μ : wM) (h : pX8_markAll e n μ ∧ (∀ (r1 : Int32) (m2 : wM), qX8_markAll e n μ r1 m2 →
    K 8 [some (.ref 0), some (.int e), some (.int n), some (.int 0), some (.int 0), none] [] m2)) : w_n 8 gX8_placeAll shM rfM 32 (some .int) R tX8_placeAll uX8_placeAll K 28 0 [some (.ref 0), some (.int e), some (.int n), none, none, none] [] μ :=
  And.intro (Exists.intro _ (Exists.intro _ (And.intro rfl (h.1)))) (fun r1 m2 z2361 => (h.2 r1 m2 z2361))
set_option maxHeartbeats 4000000 in
set_option maxRecDepth 100000 in
theorem vcX8_placeAll_8 (K : wK) (R : Int32 → wM → Prop) (e : Int32) (n : Int32) (l3 : Int32) (l4 : Int32) (μ : wM) (h : (
    (((10 : Int32) ≤ l4) → R l3 μ) ∧
    (¬ ((10 : Int32) ≤ l4) → (vp_in l4 10) ∧ (
      ((((μ 25 (l4 : Int32).toNatClampNeg) : Int32) = 0) → K 8 [some (.ref 0), some (.int e), some (.int n), some (.int l3), some (.int (l4 + 1)), none] [] (w_up μ 27 (l4 : Int32).toNatClampNeg 0)) ∧
      (¬ (((μ 25 (l4 : Int32).toNatClampNeg) : Int32) = 0) → (vp_in e 8) ∧ (
        ((((μ 6 (e : Int32).toNatClampNeg) : Int32) = 0) → (∀ (m1 : wM), m1 = (w_up (w_up μ 27 (l4 : Int32).toNatClampNeg 0) 27 (l4 : Int32).toNatClampNeg 1) → K 34 [some (.ref 0), some (.int e), some (.int n), some (.int (l3 + 1)), some (.int l4), some (.int 0)] [] m1)) ∧
        (¬ (((μ 6 (e : Int32).toNatClampNeg) : Int32) = 0) → K 8 [some (.ref 0), some (.int e), some (.int n), some (.int l3), some (.int (l4 + 1)), none] [] (w_up μ 27 (l4 : Int32).toNatClampNeg 0)))))))) : w_n 8 gX8_placeAll shM rfM 32 (some .int) R tX8_placeAll uX8_placeAll K 28 8 [some (.ref 0), some (.int e), some (.int n), some (.int l3), some (.int l4), none] [] μ :=
  And.intro (fun z2362 => And.intro trivial ((h.1 z2362))) (fun z2363 => And.intro (And.intro (of_decide_eq_true rfl) rfl) (And.intro (And.intro (of_decide_eq_true rfl) (Exists.intro _ (And.intro rfl ((h.2 z2363).1)))) (And.intro (And.intro (of_decide_eq_true rfl) rfl) (And.intro (And.intro (of_decide_eq_true rfl) (Exists.intro _ (And.intro rfl ((h.2 z2363).1)))) (And.intro (fun z2364 => ((h.2 z2363).2.1 z2364)) (fun z2365 => And.intro (And.intro (of_decide_eq_true rfl) rfl) (And.intro (And.intro (of_decide_eq_true rfl) (Exists.intro _ (And.intro rfl (((h.2 z2363).2.2 z2365).1)))) (And.intro (fun z2366 => And.intro (And.intro (of_decide_eq_true rfl) rfl) (And.intro (And.intro (of_decide_eq_true rfl) (Exists.intro _ (And.intro rfl ((h.2 z2363).1)))) (((((h.2 z2363).2.2 z2365).2.1 z2366) _ rfl)))) (fun z2367 => (((h.2 z2363).2.2 z2365).2.2 z2367))))))))))
set_option maxHeartbeats 4000000 in
set_option maxRecDepth 100000 in
theorem vcX8_placeAll_34 (K : wK) (R : Int32 → wM → Prop) (e : Int32) (n : Int32) (l3 : Int32) (l4 : Int32) (l5 : Int32) (μ : wM) (h : (
    (((10 : Int32) ≤ l5) → K 8 [some (.ref 0), some (.int e), some (.int n), some (.int l3), some (.int (l4 + 1)), none] [] μ) ∧
    (¬ ((10 : Int32) ≤ l5) → (vp_in l4 10) ∧ (vp_in l5 10) ∧ (
      ((((μ 25 (l5 : Int32).toNatClampNeg) : Int32) = 0) → (∀ (m1 : wM), m1 = (w_up μ 27 (l4 : Int32).toNatClampNeg ((μ 27 (l4 : Int32).toNatClampNeg) + 0)) → K 34 [some (.ref 0), some (.int e), some (.int n), some (.int l3), some (.int l4), some (.int (l5 + 1))] [] m1)) ∧
      (¬ (((μ 25 (l5 : Int32).toNatClampNeg) : Int32) = 0) → pX8_isAhead e l5 l4 μ ∧ (
        ((w_ahead (μ 1 (e : Int32).toNatClampNeg) (μ 24) (l5 : Int32).toNatClampNeg (l4 : Int32).toNatClampNeg) = false → (∀ (m4 : wM), m4 = (w_up μ 27 (l4 : Int32).toNatClampNeg ((μ 27 (l4 : Int32).toNatClampNeg) + 0)) → K 34 [some (.ref 0), some (.int e), some (.int n), some (.int l3), some (.int l4), some (.int (l5 + 1))] [] m4)) ∧
        ((w_ahead (μ 1 (e : Int32).toNatClampNeg) (μ 24) (l5 : Int32).toNatClampNeg (l4 : Int32).toNatClampNeg) = true → (∀ (m5 : wM), m5 = (w_up μ 27 (l4 : Int32).toNatClampNeg ((μ 27 (l4 : Int32).toNatClampNeg) + 1)) → K 34 [some (.ref 0), some (.int e), some (.int n), some (.int l3), some (.int l4), some (.int (l5 + 1))] [] m5)))))))) : w_n 8 gX8_placeAll shM rfM 32 (some .int) R tX8_placeAll uX8_placeAll K 28 34 [some (.ref 0), some (.int e), some (.int n), some (.int l3), some (.int l4), some (.int l5)] [] μ :=
  And.intro (fun z2368 => (h.1 z2368)) (fun z2369 => And.intro (And.intro (of_decide_eq_true rfl) rfl) (And.intro (And.intro (of_decide_eq_true rfl) (Exists.intro _ (And.intro rfl ((h.2 z2369).1)))) (And.intro (And.intro (of_decide_eq_true rfl) rfl) (And.intro (And.intro (of_decide_eq_true rfl) (Exists.intro _ (And.intro rfl ((h.2 z2369).2.1)))) (And.intro (fun z2370 => And.intro (And.intro (of_decide_eq_true rfl) (Exists.intro _ (And.intro rfl ((h.2 z2369).1)))) ((((h.2 z2369).2.2.1 z2370) _ rfl))) (fun z2371 => And.intro (Exists.intro _ (Exists.intro _ (Exists.intro _ (And.intro rfl (((h.2 z2369).2.2.2 z2371).1))))) (fun _ _ z2374 => by obtain ⟨z2372, z2373⟩ := z2374; have z2372 := z2372.symm; have z2373 := z2373.symm; subst z2372; subst z2373; exact And.intro (fun z2375 => And.intro (And.intro (of_decide_eq_true rfl) (Exists.intro _ (And.intro rfl ((h.2 z2369).1)))) (((((h.2 z2369).2.2.2 z2371).2.1 (w_B01_0.mp z2375)) _ rfl))) (fun z2376 => And.intro (And.intro (of_decide_eq_true rfl) (Exists.intro _ (And.intro rfl ((h.2 z2369).1)))) (((((h.2 z2369).2.2.2 z2371).2.2 (w_B01_n.mp z2376)) _ rfl))))))))))
set_option maxHeartbeats 4000000 in
theorem vX8_placeAll (e : Int32) (n : Int32) (μ : wM) (h : pX8_placeAll e n μ) (K : wK) (hK : w_cl 8 gX8_placeAll shM rfM 32 (some .int) (qX8_placeAll e n μ) tX8_placeAll K) : K 0 [some (.ref 0), some (.int e), some (.int n), none, none, none] [] μ := by
  unfold pX8_placeAll at h
  obtain ⟨N, hN0, hv, hk⟩ := id h
  have hN := hv.2.1
  have he := hv.1
  subst hN0
  have eN : (nI N).toNatClampNeg = N := nI_clamp (by omega)
  have hn : ∀ m, (0 < (wm_TT μ e N).2.1 m ↔ ¬ (wm_TT μ e N).2.1 m = 0) := fun m => nn_pos (wm_TT_n μ e N m) (by decide)
  have inn : ∀ (i : Nat) (c : Int32) (g : wM → Prop), i < 10 → (wm_td μ e N i = true) → (∀ ν : wM, (∀ X, X < 10 → wm_OK (wm_TT μ e N) (μ 1 e.toNatClampNeg) X ν) → (∀ a, (a < 24 ∨ 27 < a) → ν a = μ a) → (∀ j, j < i + 1 → ν 27 j = wm_pl μ e N j) → K 8 [some (.ref 0), some (.int e), some (.int (nI N)), some (.int c), some (.int (nI (i + 1))), none] [] ν) → ∀ (d o : Nat) (ν : wM), o + d = 10 → (∀ X, X < 10 → wm_OK (wm_TT μ e N) (μ 1 e.toNatClampNeg) X ν) → (∀ a, (a < 24 ∨ 27 < a) → ν a = μ a) → (∀ j, j < i → ν 27 j = wm_pl μ e N j) → ν 27 i = 1 + nI (w_cnt (fun j => decide (0 < (wm_TT μ e N).2.1 j) && w_ahead (μ 1 e.toNatClampNeg) (wm_TT μ e N).1 j i) o) → K 34 [some (.ref 0), some (.int e), some (.int (nI N)), some (.int c), some (.int (nI i)), some (.int (nI o))] [] ν := by
    intro i c g hi htd nx d
    have hcn : 0 < (wm_TT μ e N).2.1 i := by
      unfold wm_td at htd
      simp only [Bool.and_eq_true, decide_eq_true_eq] at htd
      exact htd.2
    have hvd : μ 6 e.toNatClampNeg = 0 := by
      unfold wm_td at htd
      simp only [Bool.and_eq_true, decide_eq_true_eq] at htd
      exact htd.1
    induction d with
    | zero =>
      intro o ν hd ho hf hl hc
      refine hK uX8_placeAll 28 _ _ _ _ (vcX8_placeAll_34 K _ e (nI N) c (nI i) (nI o) ν ?_)
      rw [nI_1 i]
      refine ⟨fun _ => nx ν ho hf (fun j hj => ?_), fun z => absurd (nI_le (a := 10) (by omega) (by omega)) z⟩
      by_cases q : j = i
      · rw [q, hc, show o = 10 by omega]
        unfold wm_pl w_plc
        rw [if_neg (by rintro (w | w); exact w hvd; rw [w] at hcn; exact absurd hcn (by decide))]
      · exact hl j (by omega)
    | succ d ih =>
      intro o ν hd ho hf hl hc
      refine hK uX8_placeAll 28 _ _ _ _ (vcX8_placeAll_34 K _ e (nI N) c (nI i) (nI o) ν ?_)
      have eo : (nI o).toNatClampNeg = o := nI_clamp (by omega)
      have ei : (nI i).toNatClampNeg = i := nI_clamp (by omega)
      rw [eo, ei, nI_1 o, hf 1 (by omega)]
      have step : ∀ (v : Int32) (b : Bool), b = (decide (0 < (wm_TT μ e N).2.1 o) && w_ahead (μ 1 e.toNatClampNeg) (wm_TT μ e N).1 o i) → v = nI (if b = true then 1 else 0) → ∀ m : wM, m = w_up ν 27 i (ν 27 i + v) → K 34 [some (.ref 0), some (.int e), some (.int (nI N)), some (.int c), some (.int (nI i)), some (.int (nI (o + 1)))] [] m := by
        intro v b hb hvb m hm
        refine ih (o + 1) m (by omega) (fun X hX => (ho X hX).row ?_ ?_ ?_) (fun a ha => ?_) (fun j hj => ?_) ?_
        · rw [hm, w_up_o (by decide)]
        · rw [hm, w_up_o (by decide)]
        · rw [hm, w_up_o (by decide)]
        · rw [hm, w_up_o (by omega)]; exact hf a ha
        · rw [hm, w_up_s, upd_out (by omega)]; exact hl j hj
        · rw [hm, w_up_s, upd_in, hc, hvb, w_cnt, ← hb, Int32.add_assoc, nI_add]
      have hOo := ho o (by omega)
      have hhas : ν 25 o = w_B01 (decide (0 < (wm_TT μ e N).2.1 o)) := hOo.1
      rw [hhas]
      refine ⟨fun z => absurd z (nI_ge (b := 10) (by omega) (by omega)), fun _ => ⟨vp_in_nI (by omega) (by omega), vp_in_nI (by omega) (by omega), fun c1 => step 0 false ?_ rfl, fun c1 => ?_⟩⟩
      · rw [w_B01_0.mp c1]; rfl
      · have c1 := w_B01_n.mp c1
        have hao := wm_ahead_cg hOo (ho i hi) (of_decide_eq_true c1) hcn
        refine ⟨⟨he, vp_in_nI (by omega) (by omega), vp_in_nI (by omega) (by omega)⟩, fun c2 => step 0 false ?_ rfl, fun c2 => step 1 true ?_ rfl⟩
        · rw [c1, ← hao, c2]; rfl
        · rw [c1, ← hao, c2]; rfl
  have loop : ∀ (d i : Nat) (ν : wM), i + d = 10 → (∀ X, X < 10 → wm_OK (wm_TT μ e N) (μ 1 e.toNatClampNeg) X ν) → (∀ a, (a < 24 ∨ 27 < a) → ν a = μ a) → (∀ j, j < i → ν 27 j = wm_pl μ e N j) → K 8 [some (.ref 0), some (.int e), some (.int (nI N)), some (.int (nI (w_cnt (wm_td μ e N) i))), some (.int (nI i)), none] [] ν := by
    intro d
    induction d with
    | zero =>
      intro i ν hi ho hf hl
      refine hK uX8_placeAll 28 _ _ _ _ (vcX8_placeAll_8 K _ e (nI N) (nI (w_cnt (wm_td μ e N) i)) (nI i) ν ?_)
      refine ⟨fun _ => ⟨by rw [eN, show i = 10 by omega], fun j hj => by rw [eN]; exact hl j (by omega), fun k2 p hp => ?_, fun a ha => hf a (by omega), hf 28 (by omega)⟩, fun z => absurd (nI_le (a := 10) (by omega) (by omega)) z⟩
      have := (ho (p / 3) (by omega)).2.2.2 k2 (p % 3) (by omega)
      rw [show 3 * (p / 3) + p % 3 = p by omega] at this
      rw [eN]
      exact this
    | succ d ih =>
      intro i ν hi ho hf hl
      refine hK uX8_placeAll 28 _ _ _ _ (vcX8_placeAll_8 K _ e (nI N) (nI (w_cnt (wm_td μ e N) i)) (nI i) ν ?_)
      have ei : (nI i).toNatClampNeg = i := nI_clamp (by omega)
      have hhas : ν 25 i = w_B01 (decide (0 < (wm_TT μ e N).2.1 i)) := (ho i (by omega)).1
      have no : wm_td μ e N i = false → K 8 [some (.ref 0), some (.int e), some (.int (nI N)), some (.int (nI (w_cnt (wm_td μ e N) i))), some (.int (nI (i + 1))), none] [] (w_up ν 27 i 0) := by
        intro hno
        have z := ih (i + 1) (w_up ν 27 i 0) (by omega) (fun X hX => (ho X hX).row (by rw [w_up_o (by decide)]) (by rw [w_up_o (by decide)]) (by rw [w_up_o (by decide)])) (fun a ha => by rw [w_up_o (by omega)]; exact hf a ha) (fun j hj => by
          rw [w_up_s]
          by_cases q : j = i
          · rw [q, upd_in]; exact (wm_pl_td.1.mpr hno).symm
          · rw [upd_out q]; exact hl j (by omega))
        rw [w_cnt, hno] at z
        exact z
      rw [ei, nI_1 i, hhas, hf 6 (by omega), nI_1]
      refine ⟨fun z => absurd z (nI_ge (b := 10) (by omega) (by omega)), fun _ => ⟨vp_in_nI (by omega) (by omega), fun c1 => no ?_, fun c1 => ⟨he, fun c2 => fun m hm => ?_, fun c2 => no ?_⟩⟩⟩
      · unfold wm_td; rw [w_B01_0.mp c1]; simp
      · have htd : wm_td μ e N i = true := by unfold wm_td; rw [w_B01_n.mp c1]; simp [c2]
        refine inn i _ (fun _ => True) (by omega) htd (fun ν' a1 a2 a3 => ?_) 10 0 m rfl (fun X hX => (ho X hX).row (by rw [hm, w_up_o (by decide), w_up_o (by decide)]) (by rw [hm, w_up_o (by decide), w_up_o (by decide)]) (by rw [hm, w_up_o (by decide), w_up_o (by decide)])) (fun a ha => by rw [hm, w_up_o (by omega), w_up_o (by omega)]; exact hf a ha) (fun j hj => by rw [hm, w_up_s, upd_out (by omega), w_up_s, upd_out (by omega)]; exact hl j hj) (by rw [hm, w_up_s, upd_in]; rfl)
        have z := ih (i + 1) ν' (by omega) a1 a2 a3
        rw [w_cnt, htd] at z
        exact z
      · unfold wm_td; simp [c2]
  refine hK uX8_placeAll 28 _ _ _ _ (vcX8_placeAll_0 K _ e (nI N) μ ?_)
  refine ⟨h, fun r m hq => ?_⟩
  obtain ⟨h2, h3⟩ := hq
  rw [eN] at h2
  exact loop 10 0 m rfl h2 (fun a ha => h3 a (by omega)) (fun j hj => absurd hj (Nat.not_lt_zero _))
set_option maxRecDepth 100000 in
theorem zX8_placeAll (l : Launch) : ∀ (idx : Nat) (S : wS), gX8_placeAll idx = some S → w_Call l 8 idx S 4 shM rfM 32 := by
  intro idx S hS
  unfold gX8_placeAll at hS
  split at hS
  · cases hS
    exact w_callV (ci := 8) (mX8_markAll l) (by decide) rX8_markAll eX8_markAll.1 (by decide +kernel) eX8_markAll.2.1 eX8_markAll.2.2.1 eX8_markAll.2.2.2 (by decide +kernel) (by decide) (by decide)
  · cases hS
    exact w_callV (ci := 8) (mX8_isAhead l) (by decide) rX8_isAhead eX8_isAhead.1 (by decide +kernel) eX8_isAhead.2.1 eX8_isAhead.2.2.1 eX8_isAhead.2.2.2 (by decide +kernel) (by decide) (by decide)
  · cases hS
theorem mX8_placeAll (l : Launch) : w_Met l yX8_placeAll cX8_placeAll 6 (some .int) 4 shM rfM 32 sX8_placeAll.2.2.2.1 sX8_placeAll.2.2.2.2 :=
  w_meth (o := 8) (Γ := gX8_placeAll) (tb := tX8_placeAll) (by decide +kernel) rfl kX8_placeAll rfl (zX8_placeAll l) (fun as μ h => by obtain ⟨e, n, rfl, h⟩ := h; exact Nat.le_of_ble_eq_true rfl) (fun as μ h K hK => by obtain ⟨e, n, rfl, h⟩ := h; exact vX8_placeAll e n μ h K hK)
set_option maxRecDepth 100000 in
theorem eX8_placeAll : Cond.code yX8_placeAll cX8_placeAll 6 (some .int) ∈ w_tbl ∧ Cond.instanceMethod yX8_placeAll ∈ w_tbl ∧ Cond.selects (w_C 8) yX8_placeAll yX8_placeAll ∈ w_tbl ∧ Cond.initialized yX8_placeAll.cls ∈ w_tbl := ⟨by decide +kernel, by decide +kernel, by decide +kernel, by decide +kernel⟩
theorem rX8_placeAll : ∀ as μ, sX8_placeAll.2.2.2.1 as μ → ∃ q as', as = .ref q :: as' ∧ q < 32 ∧ shM q = .inl 8 := by
  intro as μ h
  obtain ⟨e, n, rfl, h⟩ := h
  exact ⟨_, _, rfl, by decide, rfl⟩

/-- what holds of the model's entries between calls -/
def wm_JV (μ : wM) : Prop := w_JX μ ∧ (∀ e : Nat, e < 8 → vp_in (μ 1 e) 3) ∧ ∀ i, i < (μ 0 22).toNatClampNeg → vp_in (μ 18 i) 10 ∧ ∃ e : Nat, e < 8 ∧ μ 17 i = nI e ∧ (μ 1 e = 2 → vp_in (μ 19 i) 3 ∧ vp_in (μ 20 i) 10 ∧ ¬ μ 20 i = 0) ∧ (μ 1 e = 1 → ¬ μ 9 e - μ 20 i < 1)
theorem wm_JV.PA {μ : wM} (h : wm_JV μ) {e : Int32} {N : Nat} (he : vp_in e 8) (hN : N ≤ (μ 0 22).toNatClampNeg) : wm_PA μ e (nI N) := by
  have := vp_in_lt h.1.2.1
  refine ⟨N, rfl, ⟨he, by omega, fun i hi hie => ?_⟩, h.2.1 _ (vp_in_lt he)⟩
  obtain ⟨a1, E, hE, a2, a3, a4⟩ := h.2.2 i (by omega)
  rw [a2] at hie
  have e2 : e.toNatClampNeg = E := by rw [← hie]; exact nI_clamp (by omega)
  rw [e2]
  exact ⟨a1, a3, a4⟩
theorem wm_JV.PAc {μ : wM} (h : wm_JV μ) {e : Int32} (he : vp_in e 8) : wm_PA μ e (μ 0 22) := by
  have := h.PA he (Nat.le_refl _)
  obtain ⟨C, hC, hCn, hCc⟩ := vp_in_le h.1.2.1 (by decide)
  rw [hCc, ← hCn] at this
  exact this
theorem wm_JV.PAn {μ : wM} (h : wm_JV μ) {e n : Int32} (he : vp_in e 8) (hn : w_inB n 0 (μ 0 22) = true) : wm_PA μ e n := by
  obtain ⟨z1, z2⟩ := w_inB_t.mp hn
  obtain ⟨N, hN, rfl⟩ := nI_of (i_nlt.mpr z1)
  obtain ⟨C, hC, hCn, hCc⟩ := vp_in_le h.1.2.1 (by decide)
  rw [hCn] at z2
  exact h.PA he (by rw [hCc]; exact (nI_leI hN (by omega)).mp z2)
theorem wm_JV.sm {μ ν : wM} (h : wm_JV μ) (hs : w_sm μ ν) : wm_JV ν := by
  unfold wm_JV w_JX
  rw [hs 0 (by omega), hs 1 (by omega), hs 9 (by omega), hs 17 (by omega), hs 18 (by omega), hs 19 (by omega), hs 20 (by omega)]
  exact h
/-! X8_mark -/
def pX8_mark (e : Int32) (x : Int32) (n : Int32) (k : Int32) (μ : wM) : Prop := wm_JV μ
def qX8_mark (e : Int32) (x : Int32) (n : Int32) (k : Int32) (μ : wM) (r : Int32) (μ' : wM) : Prop := r = (if w_inB e 0 (μ 0 0 - 1) = true ∧ w_inB x 0 9 = true ∧ w_inB n 0 (μ 0 22) = true ∧ w_inB k 0 (if μ 1 e.toNatClampNeg = 0 then 5 else 0) = true then (if 0 < (wm_TT μ e n.toNatClampNeg).2.1 x.toNatClampNeg then (wm_TT μ e n.toNatClampNeg).1 (6 * x.toNatClampNeg + k.toNatClampNeg) else -2) else -1) ∧ w_sm μ μ'
def sX8_mark : wS := (false, false, 5, fun as μ => ∃ e, ∃ x, ∃ n, ∃ k, as = [.ref 0, .int e, .int x, .int n, .int k] ∧ pX8_mark e x n k μ, fun as μ r μ' => match as with
  | [.ref _, .int e, .int x, .int n, .int k] => qX8_mark e x n k μ r μ'
  | _ => False)
def gX8_mark : Nat → Option wS := fun k => match k with
  | 1 => some sX8_in
  | 121 => some sX8_isEvent
  | 125 => some sX8_isMan
  | 189 => some sX8_markAll
  | _ => none
def uX8_mark : Nat → Option (List Nat) := fun _ => none
set_option maxHeartbeats 4000000 in
set_option maxRecDepth 100000 in
theorem vcX8_mark_0 (K : wK) (R : Int32 → wM → Prop) (e : Int32) (x : Int32) (n : Int32) (k : Int32) (μ : wM) (h : (
    ((w_inB e 0 (μ 0 0 - 1)) = false → R (-1) μ) ∧
    ((w_inB e 0 (μ 0 0 - 1)) = true → (
      ((w_inB x 0 9) = false → R (-1) μ) ∧
      ((w_inB x 0 9) = true → (
        ((w_inB n 0 (μ 0 22)) = false → R (-1) μ) ∧
        ((w_inB n 0 (μ 0 22)) = true → (vp_in e 8) ∧ (
          ((((μ 1 (e : Int32).toNatClampNeg) : Int32) = 0) → (
            ((w_inB k 0 5) = false → R (-1) μ) ∧
            ((w_inB k 0 5) = true → pX8_markAll e n μ ∧ (∀ (r9 : Int32) (m10 : wM), qX8_markAll e n μ r9 m10 →
              (vp_in x 10) ∧ (
                ((((m10 25 (x : Int32).toNatClampNeg) : Int32) = 0) → R (-2) m10) ∧
                (¬ (((m10 25 (x : Int32).toNatClampNeg) : Int32) = 0) → (vp_in ((6 * x) + k) 60) ∧ R (m10 24 (((6 * x) + k) : Int32).toNatClampNeg) m10)))))) ∧
          (¬ (((μ 1 (e : Int32).toNatClampNeg) : Int32) = 0) → (
            ((w_inB k 0 0) = false → R (-1) μ) ∧
            ((w_inB k 0 0) = true → pX8_markAll e n μ ∧ (∀ (r13 : Int32) (m14 : wM), qX8_markAll e n μ r13 m14 →
              (vp_in x 10) ∧ (
                ((((m14 25 (x : Int32).toNatClampNeg) : Int32) = 0) → R (-2) m14) ∧
                (¬ (((m14 25 (x : Int32).toNatClampNeg) : Int32) = 0) → (vp_in ((6 * x) + k) 60) ∧ R (m14 24 (((6 * x) + k) : Int32).toNatClampNeg) m14)))))))))))))) : w_n 8 gX8_mark shM rfM 32 (some .int) R tX8_mark uX8_mark K 44 0 [some (.ref 0), some (.int e), some (.int x), some (.int n), some (.int k)] [] μ :=
  And.intro (Exists.intro _ (And.intro rfl (trivial))) (fun _ _ z2412 => by obtain ⟨z2410, z2411⟩ := z2412; have z2410 := z2410.symm; have z2411 := z2411.symm; subst z2410; subst z2411; exact And.intro (fun z2413 => And.intro trivial ((h.1 (w_B01_0.mp z2413)))) (fun z2414 => And.intro (Exists.intro _ (And.intro rfl (trivial))) (fun _ _ z2417 => by obtain ⟨z2415, z2416⟩ := z2417; have z2415 := z2415.symm; have z2416 := z2416.symm; subst z2415; subst z2416; exact And.intro (fun z2418 => And.intro trivial (((h.2 (w_B01_n.mp z2414)).1 (w_B01_0.mp z2418)))) (fun z2419 => And.intro (And.intro (of_decide_eq_true rfl) rfl) (And.intro (Exists.intro _ (Exists.intro _ (Exists.intro _ (And.intro rfl (trivial))))) (fun _ _ z2422 => by obtain ⟨z2420, z2421⟩ := z2422; have z2420 := z2420.symm; have z2421 := z2421.symm; subst z2420; subst z2421; exact And.intro (fun z2423 => And.intro trivial ((((h.2 (w_B01_n.mp z2414)).2 (w_B01_n.mp z2419)).1 (w_B01_0.mp z2423)))) (fun z2424 => And.intro (And.intro (of_decide_eq_true rfl) rfl) (And.intro (And.intro (of_decide_eq_true rfl) (Exists.intro _ (And.intro rfl ((((h.2 (w_B01_n.mp z2414)).2 (w_B01_n.mp z2419)).2 (w_B01_n.mp z2424)).1)))) (And.intro (fun z2425 => And.intro (Exists.intro _ (Exists.intro _ (Exists.intro _ (And.intro rfl (trivial))))) (fun _ _ z2429 => by obtain ⟨z2427, z2428⟩ := z2429; have z2427 := z2427.symm; have z2428 := z2428.symm; subst z2427; subst z2428; exact And.intro (fun z2430 => And.intro trivial ((((((h.2 (w_B01_n.mp z2414)).2 (w_B01_n.mp z2419)).2 (w_B01_n.mp z2424)).2.1 z2425).1 (w_B01_0.mp z2430)))) (fun z2431 => And.intro (Exists.intro _ (Exists.intro _ (And.intro rfl ((((((h.2 (w_B01_n.mp z2414)).2 (w_B01_n.mp z2419)).2 (w_B01_n.mp z2424)).2.1 z2425).2 (w_B01_n.mp z2431)).1)))) (fun r9 m10 z2432 => And.intro (And.intro (of_decide_eq_true rfl) rfl) (And.intro (And.intro (of_decide_eq_true rfl) (Exists.intro _ (And.intro rfl (((((((h.2 (w_B01_n.mp z2414)).2 (w_B01_n.mp z2419)).2 (w_B01_n.mp z2424)).2.1 z2425).2 (w_B01_n.mp z2431)).2 r9 m10 z2432).1)))) (And.intro (fun z2433 => And.intro trivial ((((((((h.2 (w_B01_n.mp z2414)).2 (w_B01_n.mp z2419)).2 (w_B01_n.mp z2424)).2.1 z2425).2 (w_B01_n.mp z2431)).2 r9 m10 z2432).2.1 z2433))) (fun z2434 => And.intro (And.intro (of_decide_eq_true rfl) rfl) (And.intro (And.intro (of_decide_eq_true rfl) (Exists.intro _ (And.intro rfl ((((((((h.2 (w_B01_n.mp z2414)).2 (w_B01_n.mp z2419)).2 (w_B01_n.mp z2424)).2.1 z2425).2 (w_B01_n.mp z2431)).2 r9 m10 z2432).2.2 z2434).1)))) (And.intro trivial ((((((((h.2 (w_B01_n.mp z2414)).2 (w_B01_n.mp z2419)).2 (w_B01_n.mp z2424)).2.1 z2425).2 (w_B01_n.mp z2431)).2 r9 m10 z2432).2.2 z2434).2)))))))))) (fun z2426 => And.intro (Exists.intro _ (Exists.intro _ (Exists.intro _ (And.intro rfl (trivial))))) (fun _ _ z2437 => by obtain ⟨z2435, z2436⟩ := z2437; have z2435 := z2435.symm; have z2436 := z2436.symm; subst z2435; subst z2436; exact And.intro (fun z2438 => And.intro trivial ((((((h.2 (w_B01_n.mp z2414)).2 (w_B01_n.mp z2419)).2 (w_B01_n.mp z2424)).2.2 z2426).1 (w_B01_0.mp z2438)))) (fun z2439 => And.intro (Exists.intro _ (Exists.intro _ (And.intro rfl ((((((h.2 (w_B01_n.mp z2414)).2 (w_B01_n.mp z2419)).2 (w_B01_n.mp z2424)).2.2 z2426).2 (w_B01_n.mp z2439)).1)))) (fun r13 m14 z2440 => And.intro (And.intro (of_decide_eq_true rfl) rfl) (And.intro (And.intro (of_decide_eq_true rfl) (Exists.intro _ (And.intro rfl (((((((h.2 (w_B01_n.mp z2414)).2 (w_B01_n.mp z2419)).2 (w_B01_n.mp z2424)).2.2 z2426).2 (w_B01_n.mp z2439)).2 r13 m14 z2440).1)))) (And.intro (fun z2441 => And.intro trivial ((((((((h.2 (w_B01_n.mp z2414)).2 (w_B01_n.mp z2419)).2 (w_B01_n.mp z2424)).2.2 z2426).2 (w_B01_n.mp z2439)).2 r13 m14 z2440).2.1 z2441))) (fun z2442 => And.intro (And.intro (of_decide_eq_true rfl) rfl) (And.intro (And.intro (of_decide_eq_true rfl) (Exists.intro _ (And.intro rfl ((((((((h.2 (w_B01_n.mp z2414)).2 (w_B01_n.mp z2419)).2 (w_B01_n.mp z2424)).2.2 z2426).2 (w_B01_n.mp z2439)).2 r13 m14 z2440).2.2 z2442).1)))) (And.intro trivial ((((((((h.2 (w_B01_n.mp z2414)).2 (w_B01_n.mp z2419)).2 (w_B01_n.mp z2424)).2.2 z2426).2 (w_B01_n.mp z2439)).2 r13 m14 z2440).2.2 z2442).2)))))))))))))))))))
set_option maxHeartbeats 4000000 in
theorem vX8_mark (e : Int32) (x : Int32) (n : Int32) (k : Int32) (μ : wM) (h : pX8_mark e x n k μ) (K : wK) (hK : w_cl 8 gX8_mark shM rfM 32 (some .int) (qX8_mark e x n k μ) tX8_mark K) : K 0 [some (.ref 0), some (.int e), some (.int x), some (.int n), some (.int k)] [] μ := by
  refine hK uX8_mark 44 _ _ _ _ (vcX8_mark_0 K _ e x n k μ ?_)
  clear hK
  unfold pX8_mark at h
  unfold qX8_mark
  have bad : ∀ P : Prop, [Decidable P] → ¬ P → ∀ v : Int32, (-1 : Int32) = (if P then v else -1) ∧ w_sm μ μ := fun P _ hP v => ⟨by rw [if_neg hP], w_sm.refl _⟩
  refine ⟨fun c => bad _ (by rw [c]; simp) _, fun c => ⟨fun c1 => bad _ (by rw [c1]; simp) _, fun c1 => ⟨fun c2 => bad _ (by rw [c2]; simp) _, fun c2 => ?_⟩⟩⟩
  have he := inM_in h.1.1 c
  have hx := in9 c1
  obtain ⟨X, hX, rfl, hXc⟩ := vp_in_le hx (by decide)
  have main : ∀ K' : Nat, K' < 6 → (¬ μ 1 e.toNatClampNeg = 0 → K' = 0) → k = nI K' → ∀ m : wM, qX8_markAll e n μ 0 m → vp_in (nI X) 10 ∧ ((m 25 X = 0 → (-2 : Int32) = (if 0 < (wm_TT μ e n.toNatClampNeg).2.1 X then (wm_TT μ e n.toNatClampNeg).1 (6 * X + k.toNatClampNeg) else -2) ∧ w_sm μ m) ∧ (¬ m 25 X = 0 → vp_in (6 * nI X + k) 60 ∧ (m 24 (6 * nI X + k).toNatClampNeg = (if 0 < (wm_TT μ e n.toNatClampNeg).2.1 X then (wm_TT μ e n.toNatClampNeg).1 (6 * X + k.toNatClampNeg) else -2) ∧ w_sm μ m))) := by
    intro K' hK' hk0 hkn m hm
    subst hkn
    obtain ⟨q1, q2⟩ := hm
    obtain ⟨o1, o2, o3, -⟩ := q1 X hX
    have hs : w_sm μ m := fun a ha => q2 a (by omega)
    rw [o1, jx6, nI_clamp (show 6 * X + K' < 2 ^ 31 by omega), nI_clamp (show K' < 2 ^ 31 by omega)]
    refine ⟨hx, fun c5 => ⟨?_, hs⟩, fun c5 => ⟨vp_in_nI (by omega) (by omega), ?_, hs⟩⟩
    · rw [if_neg (of_decide_eq_false (w_B01_0.mp c5))]
    · have c5 := of_decide_eq_true (w_B01_n.mp c5)
      rw [if_pos c5]
      by_cases k0 : μ 1 e.toNatClampNeg = 0
      · exact o3 k0 K' hK'
      · rw [hk0 k0]; exact o2 c5
  refine ⟨he, fun c3 => ⟨fun c4 => bad _ (by rw [if_pos c3, c4]; simp) _, fun c4 => ⟨h.PAn he c2, fun r m hm => ?_⟩⟩, fun c3 => ⟨fun c4 => bad _ (by rw [if_neg c3, c4]; simp) _, fun c4 => ⟨h.PAn he c2, fun r m hm => ?_⟩⟩⟩
  · obtain ⟨K', hkn, hK'⟩ := in_of (M := 5) (by decide) c4
    rw [if_pos ⟨c, c1, c2, by rw [if_pos c3]; exact c4⟩, hXc]
    exact main K' (by omega) (fun z => absurd c3 z) hkn m hm
  · obtain ⟨K', hkn, hK'⟩ := in_of (M := 0) (by decide) c4
    rw [if_pos ⟨c, c1, c2, by rw [if_neg c3]; exact c4⟩, hXc]
    exact main K' (by omega) (fun _ => by omega) hkn m hm
set_option maxRecDepth 100000 in
theorem zX8_mark (l : Launch) : ∀ (idx : Nat) (S : wS), gX8_mark idx = some S → w_Call l 8 idx S 4 shM rfM 32 := by
  intro idx S hS
  unfold gX8_mark at hS
  split at hS
  · cases hS
    exact w_callS (mX8_in l) eX8_in.1 (by decide +kernel) eX8_in.2.1 eX8_in.2.2 (by decide +kernel) (by decide) (by decide)
  · cases hS
    exact w_callV (ci := 8) (mX8_isEvent l) (by decide) rX8_isEvent eX8_isEvent.1 (by decide +kernel) eX8_isEvent.2.1 eX8_isEvent.2.2.1 eX8_isEvent.2.2.2 (by decide +kernel) (by decide) (by decide)
  · cases hS
    exact w_callS (mX8_isMan l) eX8_isMan.1 (by decide +kernel) eX8_isMan.2.1 eX8_isMan.2.2 (by decide +kernel) (by decide) (by decide)
  · cases hS
    exact w_callV (ci := 8) (mX8_markAll l) (by decide) rX8_markAll eX8_markAll.1 (by decide +kernel) eX8_markAll.2.1 eX8_markAll.2.2.1 eX8_markAll.2.2.2 (by decide +kernel) (by decide) (by decide)
  · cases hS
theorem mX8_mark (l : Launch) : w_Met l yX8_mark cX8_mark 5 (some .int) 4 shM rfM 32 sX8_mark.2.2.2.1 sX8_mark.2.2.2.2 :=
  w_meth (o := 8) (Γ := gX8_mark) (tb := tX8_mark) (by decide +kernel) rfl kX8_mark rfl (zX8_mark l) (fun as μ h => by obtain ⟨e, x, n, k, rfl, h⟩ := h; exact Nat.le_of_ble_eq_true rfl) (fun as μ h K hK => by obtain ⟨e, x, n, k, rfl, h⟩ := h; exact vX8_mark e x n k μ h K hK)
set_option maxRecDepth 100000 in
theorem eX8_mark : Cond.code yX8_mark cX8_mark 5 (some .int) ∈ w_tbl ∧ Cond.instanceMethod yX8_mark ∈ w_tbl ∧ Cond.selects (w_C 8) yX8_mark yX8_mark ∈ w_tbl ∧ Cond.initialized yX8_mark.cls ∈ w_tbl := ⟨by decide +kernel, by decide +kernel, by decide +kernel, by decide +kernel⟩
theorem rX8_mark : ∀ as μ, sX8_mark.2.2.2.1 as μ → ∃ q as', as = .ref q :: as' ∧ q < 32 ∧ shM q = .inl 8 := by
  intro as μ h
  obtain ⟨e, x, n, k, rfl, h⟩ := h
  exact ⟨_, _, rfl, by decide, rfl⟩

/-! X8_place -/
def pX8_place (e : Int32) (x : Int32) (n : Int32) (μ : wM) : Prop := wm_JV μ
def qX8_place (e : Int32) (x : Int32) (n : Int32) (μ : wM) (r : Int32) (μ' : wM) : Prop := r = (if w_inB e 0 (μ 0 0 - 1) = true ∧ w_inB x 0 9 = true ∧ w_inB n 0 (μ 0 22) = true then (if wm_pl μ e n.toNatClampNeg x.toNatClampNeg = 0 then -2 else wm_pl μ e n.toNatClampNeg x.toNatClampNeg) else -1) ∧ w_sm μ μ'
def sX8_place : wS := (false, false, 4, fun as μ => ∃ e, ∃ x, ∃ n, as = [.ref 0, .int e, .int x, .int n] ∧ pX8_place e x n μ, fun as μ r μ' => match as with
  | [.ref _, .int e, .int x, .int n] => qX8_place e x n μ r μ'
  | _ => False)
def gX8_place : Nat → Option wS := fun k => match k with
  | 1 => some sX8_in
  | 121 => some sX8_isEvent
  | 125 => some sX8_isMan
  | 196 => some sX8_placeAll
  | _ => none
def uX8_place : Nat → Option (List Nat) := fun _ => none
set_option maxHeartbeats 4000000 in
set_option maxRecDepth 100000 in
theorem vcX8_place_0 (K : wK) (R : Int32 → wM → Prop) (e : Int32) (x : Int32) (n : Int32) (μ : wM) (h : (
    ((w_inB e 0 (μ 0 0 - 1)) = false → R (-1) μ) ∧
    ((w_inB e 0 (μ 0 0 - 1)) = true → (
      ((w_inB x 0 9) = false → R (-1) μ) ∧
      ((w_inB x 0 9) = true → (
        ((w_inB n 0 (μ 0 22)) = false → R (-1) μ) ∧
        ((w_inB n 0 (μ 0 22)) = true → pX8_placeAll e n μ ∧ (∀ (r7 : Int32) (m8 : wM), qX8_placeAll e n μ r7 m8 →
          (vp_in x 10) ∧ (
            ((((m8 27 (x : Int32).toNatClampNeg) : Int32) = 0) → R (-2) m8) ∧
            (¬ (((m8 27 (x : Int32).toNatClampNeg) : Int32) = 0) → R (m8 27 (x : Int32).toNatClampNeg) m8)))))))))) : w_n 8 gX8_place shM rfM 32 (some .int) R tX8_place uX8_place K 29 0 [some (.ref 0), some (.int e), some (.int x), some (.int n), none] [] μ :=
  And.intro (Exists.intro _ (And.intro rfl (trivial))) (fun _ _ z2463 => by obtain ⟨z2461, z2462⟩ := z2463; have z2461 := z2461.symm; have z2462 := z2462.symm; subst z2461; subst z2462; exact And.intro (fun z2464 => And.intro trivial ((h.1 (w_B01_0.mp z2464)))) (fun z2465 => And.intro (Exists.intro _ (And.intro rfl (trivial))) (fun _ _ z2468 => by obtain ⟨z2466, z2467⟩ := z2468; have z2466 := z2466.symm; have z2467 := z2467.symm; subst z2466; subst z2467; exact And.intro (fun z2469 => And.intro trivial (((h.2 (w_B01_n.mp z2465)).1 (w_B01_0.mp z2469)))) (fun z2470 => And.intro (And.intro (of_decide_eq_true rfl) rfl) (And.intro (Exists.intro _ (Exists.intro _ (Exists.intro _ (And.intro rfl (trivial))))) (fun _ _ z2473 => by obtain ⟨z2471, z2472⟩ := z2473; have z2471 := z2471.symm; have z2472 := z2472.symm; subst z2471; subst z2472; exact And.intro (fun z2474 => And.intro trivial ((((h.2 (w_B01_n.mp z2465)).2 (w_B01_n.mp z2470)).1 (w_B01_0.mp z2474)))) (fun z2475 => And.intro (Exists.intro _ (Exists.intro _ (And.intro rfl ((((h.2 (w_B01_n.mp z2465)).2 (w_B01_n.mp z2470)).2 (w_B01_n.mp z2475)).1)))) (fun r7 m8 z2476 => And.intro (And.intro (of_decide_eq_true rfl) rfl) (And.intro (And.intro (of_decide_eq_true rfl) (Exists.intro _ (And.intro rfl (((((h.2 (w_B01_n.mp z2465)).2 (w_B01_n.mp z2470)).2 (w_B01_n.mp z2475)).2 r7 m8 z2476).1)))) (And.intro (fun z2477 => And.intro trivial ((((((h.2 (w_B01_n.mp z2465)).2 (w_B01_n.mp z2470)).2 (w_B01_n.mp z2475)).2 r7 m8 z2476).2.1 z2477))) (fun z2478 => And.intro (And.intro (of_decide_eq_true rfl) rfl) (And.intro (And.intro (of_decide_eq_true rfl) (Exists.intro _ (And.intro rfl (((((h.2 (w_B01_n.mp z2465)).2 (w_B01_n.mp z2470)).2 (w_B01_n.mp z2475)).2 r7 m8 z2476).1)))) (And.intro trivial ((((((h.2 (w_B01_n.mp z2465)).2 (w_B01_n.mp z2470)).2 (w_B01_n.mp z2475)).2 r7 m8 z2476).2.2 z2478)))))))))))))))
set_option maxHeartbeats 4000000 in
theorem vX8_place (e : Int32) (x : Int32) (n : Int32) (μ : wM) (h : pX8_place e x n μ) (K : wK) (hK : w_cl 8 gX8_place shM rfM 32 (some .int) (qX8_place e x n μ) tX8_place K) : K 0 [some (.ref 0), some (.int e), some (.int x), some (.int n), none] [] μ := by
  refine hK uX8_place 29 _ _ _ _ (vcX8_place_0 K _ e x n μ ?_)
  clear hK
  unfold pX8_place at h
  unfold qX8_place
  have bad : ∀ P : Prop, [Decidable P] → ¬ P → ∀ v : Int32, (-1 : Int32) = (if P then v else -1) ∧ w_sm μ μ := fun P _ hP v => ⟨by rw [if_neg hP], w_sm.refl _⟩
  refine ⟨fun c => bad _ (by rw [c]; simp) _, fun c => ⟨fun c1 => bad _ (by rw [c1]; simp) _, fun c1 => ⟨fun c2 => bad _ (by rw [c2]; simp) _, fun c2 => ?_⟩⟩⟩
  have he := inM_in h.1.1 c
  have hx := in9 c1
  rw [if_pos ⟨c, c1, c2⟩]
  refine ⟨h.PAn he c2, fun r m hm => ?_⟩
  obtain ⟨-, q2, -, q4, -⟩ := hm
  rw [q2 _ (vp_in_lt hx)]
  refine ⟨hx, fun c5 => ⟨by rw [if_pos c5], q4⟩, fun c5 => ⟨by rw [if_neg c5], q4⟩⟩
set_option maxRecDepth 100000 in
theorem zX8_place (l : Launch) : ∀ (idx : Nat) (S : wS), gX8_place idx = some S → w_Call l 8 idx S 5 shM rfM 32 := by
  intro idx S hS
  unfold gX8_place at hS
  split at hS
  · cases hS
    exact w_callS (mX8_in l) eX8_in.1 (by decide +kernel) eX8_in.2.1 eX8_in.2.2 (by decide +kernel) (by decide) (by decide)
  · cases hS
    exact w_callV (ci := 8) (mX8_isEvent l) (by decide) rX8_isEvent eX8_isEvent.1 (by decide +kernel) eX8_isEvent.2.1 eX8_isEvent.2.2.1 eX8_isEvent.2.2.2 (by decide +kernel) (by decide) (by decide)
  · cases hS
    exact w_callS (mX8_isMan l) eX8_isMan.1 (by decide +kernel) eX8_isMan.2.1 eX8_isMan.2.2 (by decide +kernel) (by decide) (by decide)
  · cases hS
    exact w_callV (ci := 8) (mX8_placeAll l) (by decide) rX8_placeAll eX8_placeAll.1 (by decide +kernel) eX8_placeAll.2.1 eX8_placeAll.2.2.1 eX8_placeAll.2.2.2 (by decide +kernel) (by decide) (by decide)
  · cases hS
theorem mX8_place (l : Launch) : w_Met l yX8_place cX8_place 5 (some .int) 5 shM rfM 32 sX8_place.2.2.2.1 sX8_place.2.2.2.2 :=
  w_meth (o := 8) (Γ := gX8_place) (tb := tX8_place) (by decide +kernel) rfl kX8_place rfl (zX8_place l) (fun as μ h => by obtain ⟨e, x, n, rfl, h⟩ := h; exact Nat.le_of_ble_eq_true rfl) (fun as μ h K hK => by obtain ⟨e, x, n, rfl, h⟩ := h; exact vX8_place e x n μ h K hK)
set_option maxRecDepth 100000 in
theorem eX8_place : Cond.code yX8_place cX8_place 5 (some .int) ∈ w_tbl ∧ Cond.instanceMethod yX8_place ∈ w_tbl ∧ Cond.selects (w_C 8) yX8_place yX8_place ∈ w_tbl ∧ Cond.initialized yX8_place.cls ∈ w_tbl := ⟨by decide +kernel, by decide +kernel, by decide +kernel, by decide +kernel⟩
theorem rX8_place : ∀ as μ, sX8_place.2.2.2.1 as μ → ∃ q as', as = .ref q :: as' ∧ q < 32 ∧ shM q = .inl 8 := by
  intro as μ h
  obtain ⟨e, x, n, rfl, h⟩ := h
  exact ⟨_, _, rfl, by decide, rfl⟩

/-! X8_beats -/
def pX8_beats (a : Int32) (b : Int32) (μ : wM) : Prop := vp_in a 10 ∧ vp_in b 10
def qX8_beats (a : Int32) (b : Int32) (μ : wM) (r : Int32) (μ' : wM) : Prop := r = (w_B01 (decide (2 ≤ w_jf (μ 26) a.toNatClampNeg b.toNatClampNeg 3))) ∧ μ' = μ
def sX8_beats : wS := (false, false, 3, fun as μ => ∃ a, ∃ b, as = [.ref 0, .int a, .int b] ∧ pX8_beats a b μ, fun as μ r μ' => match as with
  | [.ref _, .int a, .int b] => qX8_beats a b μ r μ'
  | _ => False)
def gX8_beats : Nat → Option wS := fun k => match k with
  | _ => none
def uX8_beats : Nat → Option (List Nat) := fun j => match j with | 4 => some [] | _ => none
set_option maxHeartbeats 4000000 in
set_option maxRecDepth 100000 in
theorem vcX8_beats_0 (K : wK) (R : Int32 → wM → Prop) (a : Int32) (b : Int32) (μ : wM) (h : K 4 [some (.ref 0), some (.int a), some (.int b), some (.int 0), some (.int 0)] [] μ) : w_n 8 gX8_beats shM rfM 32 (some .boolean) R tX8_beats uX8_beats K 29 0 [some (.ref 0), some (.int a), some (.int b), none, none] [] μ :=
  h
set_option maxHeartbeats 4000000 in
set_option maxRecDepth 100000 in
theorem vcX8_beats_4 (K : wK) (R : Int32 → wM → Prop) (a : Int32) (b : Int32) (l3 : Int32) (l4 : Int32) (μ : wM) (h : (
    (((3 : Int32) ≤ l4) → (
      (((l3 : Int32) ≤ 1) → R 0 μ) ∧
      (¬ ((l3 : Int32) ≤ 1) → R 1 μ))) ∧
    (¬ ((3 : Int32) ≤ l4) → (vp_in ((3 * a) + l4) 30) ∧ (vp_in ((3 * b) + l4) 30) ∧ (
      ((((μ 26 (((3 * b) + l4) : Int32).toNatClampNeg) : Int32) ≤ (μ 26 (((3 * a) + l4) : Int32).toNatClampNeg)) → K 4 [some (.ref 0), some (.int a), some (.int b), some (.int (l3 + 0)), some (.int (l4 + 1))] [] μ) ∧
      (¬ (((μ 26 (((3 * b) + l4) : Int32).toNatClampNeg) : Int32) ≤ (μ 26 (((3 * a) + l4) : Int32).toNatClampNeg)) → K 4 [some (.ref 0), some (.int a), some (.int b), some (.int (l3 + 1)), some (.int (l4 + 1))] [] μ))))) : w_n 8 gX8_beats shM rfM 32 (some .boolean) R tX8_beats uX8_beats K 29 4 [some (.ref 0), some (.int a), some (.int b), some (.int l3), some (.int l4)] [] μ :=
  And.intro (fun z2485 => And.intro (fun z2487 => And.intro (Or.inl rfl) (((h.1 z2485).1 z2487))) (fun z2488 => And.intro (Or.inr rfl) (((h.1 z2485).2 z2488)))) (fun z2486 => And.intro (And.intro (of_decide_eq_true rfl) rfl) (And.intro (And.intro (of_decide_eq_true rfl) (Exists.intro _ (And.intro rfl ((h.2 z2486).1)))) (And.intro (And.intro (of_decide_eq_true rfl) rfl) (And.intro (And.intro (of_decide_eq_true rfl) (Exists.intro _ (And.intro rfl ((h.2 z2486).2.1)))) (And.intro (fun z2489 => ((h.2 z2486).2.2.1 z2489)) (fun z2490 => ((h.2 z2486).2.2.2 z2490)))))))
set_option maxHeartbeats 4000000 in
theorem vX8_beats (a : Int32) (b : Int32) (μ : wM) (h : pX8_beats a b μ) (K : wK) (hK : w_cl 8 gX8_beats shM rfM 32 (some .boolean) (qX8_beats a b μ) tX8_beats K) : K 0 [some (.ref 0), some (.int a), some (.int b), none, none] [] μ := by
  unfold pX8_beats at h
  obtain ⟨h3, h4⟩ := h
  obtain ⟨X, hX, rfl, hXc⟩ := vp_in_le h3 (by decide)
  obtain ⟨Y, hY, rfl, hYc⟩ := vp_in_le h4 (by decide)
  have loop : ∀ (k i : Nat), i + k = 3 → K 4 [some (.ref 0), some (.int (nI X)), some (.int (nI Y)), some (.int (nI (w_jf (μ 26) X Y i))), some (.int (nI i))] [] μ := by
    intro k
    induction k with
    | zero =>
      intro i hi
      refine hK uX8_beats 29 _ _ _ _ (vcX8_beats_4 K _ (nI X) (nI Y) (nI (w_jf (μ 26) X Y i)) (nI i) μ ?_)
      have hi3 : i = 3 := by omega
      subst hi3
      have hle : w_jf (μ 26) X Y 3 ≤ 3 := w_cnt_le _ _
      refine ⟨fun _ => ⟨fun c => ⟨w_B01_f ?_, rfl⟩, fun c => ⟨w_B01_t ?_, rfl⟩⟩, fun z => absurd (by decide) z⟩
      · rw [hXc, hYc]
        simp only [decide_eq_true_eq]
        have := (nI_leI (a := w_jf (μ 26) X Y 3) (b := 1) (by omega) (by omega)).mp c
        omega
      · rw [hXc, hYc]
        simp only [decide_eq_true_eq]
        rcases Nat.lt_or_ge (w_jf (μ 26) X Y 3) 2 with q | q
        · exact absurd (nI_le (b := 1) (by omega) (by omega)) c
        · exact q
    | succ k ih =>
      intro i hi
      refine hK uX8_beats 29 _ _ _ _ (vcX8_beats_4 K _ (nI X) (nI Y) (nI (w_jf (μ 26) X Y i)) (nI i) μ ?_)
      have z := ih (i + 1) (by omega)
      unfold w_jf at z
      rw [w_cnt] at z
      rw [jx3, jx3, nI_clamp (show 3 * X + i < 2 ^ 31 by omega), nI_clamp (show 3 * Y + i < 2 ^ 31 by omega), nI_1 i]
      refine ⟨fun z => absurd z (nI_ge (b := 3) (by omega) (by omega)), fun _ => ⟨vp_in_nI (by omega) (by omega), vp_in_nI (by omega) (by omega), fun c => ?_, fun c => ?_⟩⟩
      · rw [if_neg (by simp only [decide_eq_true_eq]; exact i_nlt.mpr c)] at z
        rw [Int32.add_zero]
        exact z
      · rw [if_pos (by simp only [decide_eq_true_eq]; exact i_nle.mp c), ← nI_1] at z
        exact z
  refine hK uX8_beats 29 _ _ _ _ (vcX8_beats_0 K _ (nI X) (nI Y) μ ?_)
  exact loop 3 0 rfl
set_option maxRecDepth 100000 in
theorem zX8_beats (l : Launch) : ∀ (idx : Nat) (S : wS), gX8_beats idx = some S → w_Call l 8 idx S 1 shM rfM 32 := by
  intro idx S hS
  unfold gX8_beats at hS
  split at hS
  · cases hS
theorem mX8_beats (l : Launch) : w_Met l yX8_beats cX8_beats 5 (some .boolean) 1 shM rfM 32 sX8_beats.2.2.2.1 sX8_beats.2.2.2.2 :=
  w_meth (o := 8) (Γ := gX8_beats) (tb := tX8_beats) (by decide +kernel) rfl kX8_beats rfl (zX8_beats l) (fun as μ h => by obtain ⟨a, b, rfl, h⟩ := h; exact Nat.le_of_ble_eq_true rfl) (fun as μ h K hK => by obtain ⟨a, b, rfl, h⟩ := h; exact vX8_beats a b μ h K hK)
set_option maxRecDepth 100000 in
theorem eX8_beats : Cond.code yX8_beats cX8_beats 5 (some .boolean) ∈ w_tbl ∧ Cond.instanceMethod yX8_beats ∈ w_tbl ∧ Cond.selects (w_C 8) yX8_beats yX8_beats ∈ w_tbl ∧ Cond.initialized yX8_beats.cls ∈ w_tbl := ⟨by decide +kernel, by decide +kernel, by decide +kernel, by decide +kernel⟩
theorem rX8_beats : ∀ as μ, sX8_beats.2.2.2.1 as μ → ∃ q as', as = .ref q :: as' ∧ q < 32 ∧ shM q = .inl 8 := by
  intro as μ h
  obtain ⟨a, b, rfl, h⟩ := h
  exact ⟨_, _, rfl, by decide, rfl⟩
