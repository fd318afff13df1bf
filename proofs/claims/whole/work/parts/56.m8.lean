theorem w_skip_in {p : Nat → Bool} : ∀ (k i j : Nat), i ≤ j → j < w_skip p i k → p j = true := by
  intro k
  induction k with
  | zero => intro i j h1 h2; rw [w_skip] at h2; omega
  | succ k ih =>
    intro i j h1 h2
    by_cases c : p i = true
    · rw [w_skip_yes c] at h2
      by_cases e : j = i
      · rw [e]; exact c
      · exact ih (i + 1) j (by omega) h2
    · rw [w_skip_no c] at h2; omega
theorem w_skip_out {p : Nat → Bool} : ∀ (k i : Nat), w_skip p i k < i + k → p (w_skip p i k) = false := by
  intro k
  induction k with
  | zero => intro i h; rw [w_skip] at h; omega
  | succ k ih =>
    intro i h
    by_cases c : p i = true
    · rw [w_skip_yes c] at h ⊢
      exact ih (i + 1) (by omega)
    · rw [w_skip_no c]
      cases q : p i with
      | false => rfl
      | true => exact absurd q c
theorem w_bb_s {f : Nat → Int32} {L i : Nat} (h : i < L) (c : f i = 32) : w_bb f L i = w_bb f L (i + 1) := by
  unfold w_bb
  rw [show L - i = (L - (i + 1)) + 1 by omega, w_skip_yes (by simp [c])]
theorem w_bb_n {f : Nat → Int32} {L i : Nat} (c : ¬ f i = 32) : w_bb f L i = i := by
  unfold w_bb
  exact w_skip_no (by simp [c])
theorem w_bb_L {f : Nat → Int32} {L : Nat} : w_bb f L L = L := by
  unfold w_bb
  rw [Nat.sub_self]; rfl
theorem w_bd_s {f : Nat → Int32} {L i : Nat} (h : i < L) (c : w_inB (f i) 48 57 = true) : w_bd f L i = w_bd f L (i + 1) := by
  unfold w_bd
  rw [show L - i = (L - (i + 1)) + 1 by omega, w_skip_yes c]
theorem w_bd_n {f : Nat → Int32} {L i : Nat} (c : w_inB (f i) 48 57 = false) : w_bd f L i = i := by
  unfold w_bd
  exact w_skip_no (by rw [c]; decide)
theorem w_bd_L {f : Nat → Int32} {L : Nat} : w_bd f L L = L := by
  unfold w_bd
  rw [Nat.sub_self]; rfl
theorem w_bb_bb {f : Nat → Int32} {L i : Nat} (h : i ≤ L) : w_bb f L (w_bb f L i) = w_bb f L i := by
  have hle := (w_bb_le (f := f) h).2
  by_cases c : w_bb f L i = L
  · rw [c, w_bb_L]
  · refine w_bb_n ?_
    have : (decide (f (w_bb f L i) = 32)) = false := w_skip_out (p := fun j => decide (f j = 32)) (L - i) i (by unfold w_bb at c hle; omega)
    exact of_decide_eq_false this
theorem nI_dif {a b : Nat} (h : a ≤ b) : nI b - nI a = nI (b - a) := by
  have : nI b = nI (b - a) + nI a := by rw [nI_add, show b - a + a = b by omega]
  rw [this, Int32.add_sub_cancel]
theorem w_num_rng {f : Nat → Int32} {a : Nat} : ∀ k, k ≤ 3 → (∀ j, j < k → w_inB (f (a + j)) 48 57 = true) → ∃ V : Nat, w_num f a k = nI V ∧ V < 10 ^ k := by
  intro k
  induction k with
  | zero => intro _ _; exact ⟨0, rfl, by decide⟩
  | succ k ih =>
    intro hk hd
    obtain ⟨V, hV, hVlt⟩ := ih (by omega) (fun j hj => hd j (by omega))
    obtain ⟨z1, z2⟩ := w_inB_t.mp (hd k (by omega))
    have : ¬ f (a + k) < 0 := fun q => by
      have q1 := i_lt.mp q
      have q2 := i_le.mp z1
      have e0 : (0 : Int32).toInt = 0 := rfl
      have e48 : (48 : Int32).toInt = 48 := rfl
      omega
    obtain ⟨D, hD, hDn⟩ := nI_of this
    rw [hDn] at z1 z2
    have z1 := (nI_leI (a := 48) (by omega) hD).mp z1
    have z2 := (nI_leI (b := 57) hD (by omega)).mp z2
    refine ⟨V * 10 + (D - 48), ?_, ?_⟩
    · rw [w_num, hV, hDn, show (10 : Int32) = nI 10 from rfl, pk_mul, nI_add, show (48 : Int32) = nI 48 from rfl, nI_dif (by omega)]
      exact congrArg nI (by omega)
    · rw [Nat.pow_succ]; omega
def wm_tp (μ : wM) (w : Int64) (n L j : Nat) : wM := fun a b => if a = 31 ∧ L ≤ b ∧ b < L + j then w_byte w (nI (n - 1 - (b - L))) else if a = 0 ∧ b = 39 then nI (L + j) else μ a b
theorem wm_tp_0 {μ : wM} {w : Int64} {n L : Nat} (h : μ 0 39 = nI L) : wm_tp μ w n L 0 = μ := by
  funext a b
  unfold wm_tp
  rw [if_neg (by omega)]
  by_cases c : a = 0 ∧ b = 39
  · rw [if_pos c, c.1, c.2, h]; rfl
  · rw [if_neg c]
theorem wm_tp_s {μ : wM} {w : Int64} {n L j : Nat} (hj : j < n) : w_up (w_up (wm_tp μ w n L j) 31 (L + j) (w_byte w (nI (n - 1 - j)))) 0 39 (nI (L + j + 1)) = wm_tp μ w n L (j + 1) := by
  funext a b
  unfold w_up wm_tp
  by_cases c0 : a = 0 ∧ b = 39
  · obtain ⟨rfl, rfl⟩ := c0
    rw [if_pos ⟨rfl, rfl⟩, if_neg (by omega), if_pos ⟨rfl, rfl⟩]
    rfl
  · rw [if_neg c0]
    by_cases c1 : a = 31 ∧ b = L + j
    · obtain ⟨rfl, rfl⟩ := c1
      rw [if_pos ⟨rfl, rfl⟩, if_pos (by omega), show L + j - L = j by omega]
    · rw [if_neg c1]
      by_cases c2 : a = 31 ∧ L ≤ b ∧ b < L + j
      · rw [if_pos c2, if_pos (by omega)]
      · rw [if_neg c2, if_neg c0, if_neg (by omega), if_neg c0]
def wm_tyF (μ : wM) (w : Int64) (n : Int32) : Int32 × wM := if w_inB n 1 8 = true ∧ w_typ w n.toNatClampNeg = true then (if μ 0 39 + n ≤ 40 then (nI ((μ 0 39).toNatClampNeg + n.toNatClampNeg), wm_tp μ w n.toNatClampNeg (μ 0 39).toNatClampNeg n.toNatClampNeg) else (-3, μ)) else (-1, μ)
/-! X8_type -/
def pX8_type (w : Int64) (n : Int32) (μ : wM) : Prop := w_JX μ
def qX8_type (w : Int64) (n : Int32) (μ : wM) (r : Int32) (μ' : wM) : Prop := r = (wm_tyF μ w n).1 ∧ μ' = (wm_tyF μ w n).2
def sX8_type : wS := (false, false, 3, fun as μ => ∃ w, ∃ n, as = [.ref 0, .long w, .int n] ∧ pX8_type w n μ, fun as μ r μ' => match as with
  | [.ref _, .long w, .int n] => qX8_type w n μ r μ'
  | _ => False)
def gX8_type : Nat → Option wS := fun k => match k with
  | 1 => some sX8_in
  | _ => none
def uX8_type : Nat → Option (List Nat) := fun j => match j with | 9 => some [2] | 40 => some [2] | _ => none
set_option maxHeartbeats 4000000 in
set_option maxRecDepth 100000 in
theorem vcX8_type_0 (K : wK) (R : Int32 → wM → Prop) (w : Int64) (n : Int32) (μ : wM) (h : (
    ((w_inB n 1 8) = false → R (-1) μ) ∧
    ((w_inB n 1 8) = true → K 9 [some (.ref 0), some (.long w), none, some (.int n), some (.int 0)] [] μ))) : w_n 8 gX8_type shM rfM 32 (some .int) R tX8_type uX8_type K 25 0 [some (.ref 0), some (.long w), none, some (.int n), none] [] μ :=
  And.intro (Exists.intro _ (Exists.intro _ (Exists.intro _ (And.intro rfl (trivial))))) (fun _ _ z2837 => by obtain ⟨z2835, z2836⟩ := z2837; have z2835 := z2835.symm; have z2836 := z2836.symm; subst z2835; subst z2836; exact And.intro (fun z2838 => And.intro trivial ((h.1 (w_B01_0.mp z2838)))) (fun z2839 => (h.2 (w_B01_n.mp z2839))))
set_option maxHeartbeats 4000000 in
set_option maxRecDepth 100000 in
theorem vcX8_type_9 (K : wK) (R : Int32 → wM → Prop) (w : Int64) (n : Int32) (l4 : Int32) (μ : wM) (h : (
    (((n : Int32) ≤ l4) → (
      (((((μ 0 39) + n) : Int32) ≤ 40) → K 40 [some (.ref 0), some (.long w), none, some (.int n), some (.int (n - 1))] [] μ) ∧
      (¬ ((((μ 0 39) + n) : Int32) ≤ 40) → R (-3) μ))) ∧
    (¬ ((n : Int32) ≤ l4) → (
      ((w_inB (((((w : Int64) >>> (((8 * l4) : Int32).toInt64 &&& 63)) &&& 255) : Int64).toInt32) 32 126) = false → R (-1) μ) ∧
      ((w_inB (((((w : Int64) >>> (((8 * l4) : Int32).toInt64 &&& 63)) &&& 255) : Int64).toInt32) 32 126) = true → K 9 [some (.ref 0), some (.long w), none, some (.int n), some (.int (l4 + 1))] [] μ))))) : w_n 8 gX8_type shM rfM 32 (some .int) R tX8_type uX8_type K 25 9 [some (.ref 0), some (.long w), none, some (.int n), some (.int l4)] [] μ :=
  And.intro (fun z2840 => And.intro (And.intro (of_decide_eq_true rfl) rfl) (And.intro (fun z2842 => ((h.1 z2840).1 z2842)) (fun z2843 => And.intro trivial (((h.1 z2840).2 z2843))))) (fun z2841 => And.intro (Exists.intro _ (Exists.intro _ (Exists.intro _ (And.intro rfl (trivial))))) (fun _ _ z2846 => by obtain ⟨z2844, z2845⟩ := z2846; have z2844 := z2844.symm; have z2845 := z2845.symm; subst z2844; subst z2845; exact And.intro (fun z2847 => And.intro trivial (((h.2 z2841).1 (w_B01_0.mp z2847)))) (fun z2848 => ((h.2 z2841).2 (w_B01_n.mp z2848)))))
set_option maxHeartbeats 4000000 in
set_option maxRecDepth 100000 in
theorem vcX8_type_40 (K : wK) (R : Int32 → wM → Prop) (w : Int64) (n : Int32) (l4 : Int32) (μ : wM) (h : (
    (((l4 : Int32) < 0) → R (μ 0 39) μ) ∧
    (¬ ((l4 : Int32) < 0) → (vp_in (μ 0 39) 40) ∧ (∀ (m1 : wM), m1 = (w_up μ 31 ((μ 0 39) : Int32).toNatClampNeg (((((w : Int64) >>> (((8 * l4) : Int32).toInt64 &&& 63)) &&& 255) : Int64).toInt32)) → K 40 [some (.ref 0), some (.long w), none, some (.int n), some (.int (l4 + (-1)))] [] (w_up m1 0 39 ((μ 0 39) + 1)))))) : w_n 8 gX8_type shM rfM 32 (some .int) R tX8_type uX8_type K 25 40 [some (.ref 0), some (.long w), none, some (.int n), some (.int l4)] [] μ :=
  And.intro (fun z2849 => And.intro (And.intro (of_decide_eq_true rfl) rfl) (And.intro trivial ((h.1 z2849)))) (fun z2850 => And.intro (And.intro (of_decide_eq_true rfl) rfl) (And.intro (And.intro (of_decide_eq_true rfl) rfl) (And.intro (And.intro (of_decide_eq_true rfl) (Exists.intro _ (And.intro rfl ((h.2 z2850).1)))) (And.intro (And.intro (of_decide_eq_true rfl) rfl) (And.intro (And.intro (of_decide_eq_true rfl) (And.intro rfl (trivial))) (((h.2 z2850).2 _ rfl)))))))
set_option maxHeartbeats 4000000 in
theorem vX8_type (w : Int64) (n : Int32) (μ : wM) (h : pX8_type w n μ) (K : wK) (hK : w_cl 8 gX8_type shM rfM 32 (some .int) (qX8_type w n μ) tX8_type K) : K 0 [some (.ref 0), some (.long w), none, some (.int n), none] [] μ := by
  unfold pX8_type at h
  obtain ⟨L, hL, hLn, hLc⟩ := vp_in_le h.2.2.2.2.2 (by decide)
  refine hK uX8_type 25 _ _ _ _ (vcX8_type_0 K _ w n μ ?_)
  refine ⟨fun c => by unfold qX8_type wm_tyF; rw [if_neg (by rw [c]; simp)]; exact ⟨rfl, rfl⟩, fun c => ?_⟩
  obtain ⟨z1, z2⟩ := w_inB_t.mp c
  obtain ⟨N, hN8, hNn⟩ : ∃ N : Nat, N ≤ 8 ∧ n = nI N := nI_of2 (M := 8) (n := 8) rfl (fun q => by
    have := i_le.mp z1
    have := i_lt.mp q
    have e1 : (1 : Int32).toInt = 1 := rfl
    have e0 : (0 : Int32).toInt = 0 := rfl
    omega) z2
  have hNc : n.toNatClampNeg = N := by rw [hNn]; exact nI_clamp (by omega)
  have l40 : w_typ w N = true → L + N ≤ 40 → ∀ (i j : Nat), i + j = N → K 40 [some (.ref 0), some (.long w), none, some (.int n), some (.int (nI i - 1))] [] (wm_tp μ w N L j) := by
    intro hty hLN i
    induction i with
    | zero =>
      intro j hj
      have hjN : j = N := by omega
      subst hjN
      refine hK uX8_type 25 _ _ _ _ (vcX8_type_40 K _ w n (nI 0 - 1) (wm_tp μ w j L j) ?_)
      refine ⟨fun _ => ?_, fun z => absurd (by decide) z⟩
      unfold qX8_type wm_tyF
      rw [if_pos ⟨c, by rw [hNc]; exact hty⟩, if_pos (by rw [hLn, hNn, nI_add]; exact nI_le (b := 40) hLN (by omega)), hNc, hLc]
      refine ⟨?_, rfl⟩
      unfold wm_tp
      rw [if_neg (by omega), if_pos ⟨rfl, rfl⟩]
    | succ i ih =>
      intro j hj
      rw [nI_pred]
      refine hK uX8_type 25 _ _ _ _ (vcX8_type_40 K _ w n (nI i) (wm_tp μ w N L j) ?_)
      have e39 : wm_tp μ w N L j 0 39 = nI (L + j) := by unfold wm_tp; rw [if_neg (by omega), if_pos ⟨rfl, rfl⟩]
      rw [e39, nI_clamp (show L + j < 2 ^ 31 by omega), show nI i + (-1) = nI i - 1 from (Int32.sub_eq_add_neg _ _).symm, nI_1]
      refine ⟨fun z => absurd z (nI_pos (by omega)), fun _ => ⟨vp_in_nI (by omega) (by omega), fun m1 hm1 => ?_⟩⟩
      have z := ih (j + 1) (by omega)
      rw [← wm_tp_s (show j < N by omega), show N - 1 - j = i by omega] at z
      rw [hm1]
      exact z
  have l9 : ∀ (d i : Nat), i + d = N → w_typ w i = true → K 9 [some (.ref 0), some (.long w), none, some (.int n), some (.int (nI i))] [] μ := by
    intro d
    induction d with
    | zero =>
      intro i hi hty
      have hiN : i = N := by omega
      subst hiN
      refine hK uX8_type 25 _ _ _ _ (vcX8_type_9 K _ w n (nI i) μ ?_)
      rw [hNn]
      refine ⟨fun _ => ⟨fun c2 => ?_, fun c2 => ?_⟩, fun z => absurd (nI_le (Nat.le_refl _) (by omega)) z⟩
      · rw [hLn, nI_add] at c2
        have z := l40 hty ((nI_leI (b := 40) (by omega) (by omega)).mp c2) i 0 (by omega)
        rw [wm_tp_0 hLn, hNn] at z
        exact z
      · rw [← hNn] at c2 ⊢
        unfold qX8_type wm_tyF
        rw [if_pos ⟨c, by rw [hNc]; exact hty⟩, if_neg c2]
        exact ⟨rfl, rfl⟩
    | succ d ih =>
      intro i hi hty
      refine hK uX8_type 25 _ _ _ _ (vcX8_type_9 K _ w n (nI i) μ ?_)
      rw [nI_1]
      refine ⟨fun z => absurd z (by rw [hNn]; exact nI_ge (by omega) (by omega)), fun _ => ⟨fun c2 => ?_, fun c2 => ih (i + 1) (by omega) ?_⟩⟩
      · unfold qX8_type wm_tyF
        rw [if_neg ?_]
        · exact ⟨rfl, rfl⟩
        · rintro ⟨-, q⟩
          rw [hNc] at q
          have q := w_typ_le (show i + 1 ≤ N by omega) q
          rw [w_typ, Bool.and_eq_true] at q
          have q2 := q.2
          unfold w_byte at q2
          rw [c2] at q2
          cases q2
      · rw [w_typ, hty]; exact c2
  exact l9 N 0 (by omega) rfl
set_option maxRecDepth 100000 in
theorem zX8_type (l : Launch) : ∀ (idx : Nat) (S : wS), gX8_type idx = some S → w_Call l 8 idx S 2 shM rfM 32 := by
  intro idx S hS
  unfold gX8_type at hS
  split at hS
  · cases hS
    exact w_callS (mX8_in l) eX8_in.1 (by decide +kernel) eX8_in.2.1 eX8_in.2.2 (by decide +kernel) (by decide) (by decide)
  · cases hS
theorem mX8_type (l : Launch) : w_Met l yX8_type cX8_type 5 (some .int) 2 shM rfM 32 sX8_type.2.2.2.1 sX8_type.2.2.2.2 :=
  w_meth (o := 8) (Γ := gX8_type) (tb := tX8_type) (by decide +kernel) rfl kX8_type rfl (zX8_type l) (fun as μ h => by obtain ⟨w, n, rfl, h⟩ := h; exact Nat.le_of_ble_eq_true rfl) (fun as μ h K hK => by obtain ⟨w, n, rfl, h⟩ := h; exact vX8_type w n μ h K hK)
set_option maxRecDepth 100000 in
theorem eX8_type : Cond.code yX8_type cX8_type 5 (some .int) ∈ w_tbl ∧ Cond.instanceMethod yX8_type ∈ w_tbl ∧ Cond.selects (w_C 8) yX8_type yX8_type ∈ w_tbl ∧ Cond.initialized yX8_type.cls ∈ w_tbl := ⟨by decide +kernel, by decide +kernel, by decide +kernel, by decide +kernel⟩
theorem rX8_type : ∀ as μ, sX8_type.2.2.2.1 as μ → ∃ q as', as = .ref q :: as' ∧ q < 32 ∧ shM q = .inl 8 := by
  intro as μ h
  obtain ⟨w, n, rfl, h⟩ := h
  exact ⟨_, _, rfl, by decide, rfl⟩

/-! X8_next -/
def pX8_next (μ : wM) : Prop := ∃ L A : Nat, L ≤ 40 ∧ μ 0 39 = nI L ∧ μ 0 40 = nI A ∧ A ≤ L
def qX8_next (μ : wM) (r : Int32) (μ' : wM) : Prop := ∃ L A : Nat, L ≤ 40 ∧ μ 0 39 = nI L ∧ μ 0 40 = nI A ∧ A ≤ L ∧ r = (if w_bb (μ 31) L A < L then μ 31 (w_bb (μ 31) L A) else 0) ∧ μ' = w_up μ 0 40 (nI (w_bb (μ 31) L A))
def sX8_next : wS := (false, false, 1, fun as μ => as = [.ref 0] ∧ pX8_next μ, fun as μ r μ' => match as with
  | [.ref _] => qX8_next μ r μ'
  | _ => False)
def gX8_next : Nat → Option wS := fun k => match k with
  | _ => none
def uX8_next : Nat → Option (List Nat) := fun j => match j with | 0 => some [] | _ => none
set_option maxHeartbeats 4000000 in
set_option maxRecDepth 100000 in
theorem vcX8_next_0 (K : wK) (R : Int32 → wM → Prop) (μ : wM) (h : (
    ((((μ 0 39) : Int32) ≤ (μ 0 40)) → (
      ((((μ 0 39) : Int32) ≤ (μ 0 40)) → R 0 μ) ∧
      (¬ (((μ 0 39) : Int32) ≤ (μ 0 40)) → (vp_in (μ 0 40) 40) ∧ R (μ 31 ((μ 0 40) : Int32).toNatClampNeg) μ))) ∧
    (¬ (((μ 0 39) : Int32) ≤ (μ 0 40)) → (vp_in (μ 0 40) 40) ∧ (
      ((((μ 31 ((μ 0 40) : Int32).toNatClampNeg) : Int32) = 32) → K 0 [some (.ref 0)] [] (w_up μ 0 40 ((μ 0 40) + 1))) ∧
      (¬ (((μ 31 ((μ 0 40) : Int32).toNatClampNeg) : Int32) = 32) → (
        ((((μ 0 39) : Int32) ≤ (μ 0 40)) → R 0 μ) ∧
        (¬ (((μ 0 39) : Int32) ≤ (μ 0 40)) → R (μ 31 ((μ 0 40) : Int32).toNatClampNeg) μ))))))) : w_n 8 gX8_next shM rfM 32 (some .int) R tX8_next uX8_next K 25 0 [some (.ref 0)] [] μ :=
  And.intro (And.intro (of_decide_eq_true rfl) rfl) (And.intro (And.intro (of_decide_eq_true rfl) rfl) (And.intro (fun z2859 => And.intro (And.intro (of_decide_eq_true rfl) rfl) (And.intro (And.intro (of_decide_eq_true rfl) rfl) (And.intro (fun z2861 => And.intro trivial (((h.1 z2859).1 z2861))) (fun z2862 => And.intro (And.intro (of_decide_eq_true rfl) rfl) (And.intro (And.intro (of_decide_eq_true rfl) rfl) (And.intro (And.intro (of_decide_eq_true rfl) (Exists.intro _ (And.intro rfl (((h.1 z2859).2 z2862).1)))) (And.intro trivial (((h.1 z2859).2 z2862).2)))))))) (fun z2860 => And.intro (And.intro (of_decide_eq_true rfl) rfl) (And.intro (And.intro (of_decide_eq_true rfl) rfl) (And.intro (And.intro (of_decide_eq_true rfl) (Exists.intro _ (And.intro rfl ((h.2 z2860).1)))) (And.intro (fun z2863 => And.intro (And.intro (of_decide_eq_true rfl) rfl) (And.intro (And.intro (of_decide_eq_true rfl) (And.intro rfl (trivial))) (((h.2 z2860).2.1 z2863)))) (fun z2864 => And.intro (And.intro (of_decide_eq_true rfl) rfl) (And.intro (And.intro (of_decide_eq_true rfl) rfl) (And.intro (fun z2865 => And.intro trivial ((((h.2 z2860).2.2 z2864).1 z2865))) (fun z2866 => And.intro (And.intro (of_decide_eq_true rfl) rfl) (And.intro (And.intro (of_decide_eq_true rfl) rfl) (And.intro (And.intro (of_decide_eq_true rfl) (Exists.intro _ (And.intro rfl ((h.2 z2860).1)))) (And.intro trivial ((((h.2 z2860).2.2 z2864).2 z2866)))))))))))))))
set_option maxHeartbeats 4000000 in
theorem vX8_next (μ : wM) (h : pX8_next μ) (K : wK) (hK : w_cl 8 gX8_next shM rfM 32 (some .int) (qX8_next μ) tX8_next K) : K 0 [some (.ref 0)] [] μ := by
  unfold pX8_next at h
  obtain ⟨L, A, hL, h39, h40, hA⟩ := h
  have loop : ∀ (d p : Nat), p + d = L → w_bb (μ 31) L p = w_bb (μ 31) L A → K 0 [some (.ref 0)] [] (w_up μ 0 40 (nI p)) := by
    intro d
    induction d with
    | zero =>
      intro p hp hb
      have hpL : p = L := by omega
      subst hpL
      refine hK uX8_next 25 _ _ _ _ (vcX8_next_0 K _ (w_up μ 0 40 (nI p)) ?_)
      have e39 : w_up μ 0 40 (nI p) 0 39 = nI p := by unfold w_up; rw [if_neg (by omega)]; exact h39
      have e40 : w_up μ 0 40 (nI p) 0 40 = nI p := by unfold w_up; rw [if_pos ⟨rfl, rfl⟩]
      rw [e39, e40]
      have hle : nI p ≤ nI p := nI_le (Nat.le_refl _) (by omega)
      refine ⟨fun _ => ⟨fun _ => ⟨p, A, hL, h39, h40, hA, ?_, ?_⟩, fun z => absurd hle z⟩, fun z => absurd hle z⟩
      · rw [← hb, w_bb_L, if_neg (by omega)]
      · rw [← hb, w_bb_L]
    | succ d ih =>
      intro p hp hb
      refine hK uX8_next 25 _ _ _ _ (vcX8_next_0 K _ (w_up μ 0 40 (nI p)) ?_)
      have e39 : w_up μ 0 40 (nI p) 0 39 = nI L := by unfold w_up; rw [if_neg (by omega)]; exact h39
      have e40 : w_up μ 0 40 (nI p) 0 40 = nI p := by unfold w_up; rw [if_pos ⟨rfl, rfl⟩]
      have e31 : w_up μ 0 40 (nI p) 31 = μ 31 := w_up_o (by decide)
      rw [e39, e40, e31, nI_clamp (show p < 2 ^ 31 by omega), nI_1]
      have hlt : ¬ nI L ≤ nI p := nI_ge (by omega) (by omega)
      refine ⟨fun z => absurd z hlt, fun _ => ⟨vp_in_nI (by omega) (by omega), fun c => ?_, fun c => ⟨fun z => absurd z hlt, fun _ => ⟨L, A, hL, h39, h40, hA, ?_, ?_⟩⟩⟩⟩
      · have z := ih (p + 1) (by omega) (by rw [← hb, w_bb_s (by omega) c])
        have e : w_up (w_up μ 0 40 (nI p)) 0 40 (nI (p + 1)) = w_up μ 0 40 (nI (p + 1)) := by
          funext a b
          unfold w_up
          by_cases q : a = 0 ∧ b = 40
          · rw [if_pos q, if_pos q]
          · rw [if_neg q, if_neg q, if_neg q]
        rw [e]
        exact z
      · rw [← hb, w_bb_n c, if_pos (by omega)]
      · rw [← hb, w_bb_n c]
  have z := loop (L - A) A (by omega) rfl
  have e : w_up μ 0 40 (nI A) = μ := by
    funext a b
    unfold w_up
    by_cases q : a = 0 ∧ b = 40
    · rw [if_pos q, q.1, q.2, h40]
    · rw [if_neg q]
  rw [e] at z
  exact z
set_option maxRecDepth 100000 in
theorem zX8_next (l : Launch) : ∀ (idx : Nat) (S : wS), gX8_next idx = some S → w_Call l 8 idx S 1 shM rfM 32 := by
  intro idx S hS
  unfold gX8_next at hS
  split at hS
  · cases hS
theorem mX8_next (l : Launch) : w_Met l yX8_next cX8_next 1 (some .int) 1 shM rfM 32 sX8_next.2.2.2.1 sX8_next.2.2.2.2 :=
  w_meth (o := 8) (Γ := gX8_next) (tb := tX8_next) (by decide +kernel) rfl kX8_next rfl (zX8_next l) (fun as μ h => by obtain ⟨rfl, h⟩ := h; exact Nat.le_of_ble_eq_true rfl) (fun as μ h K hK => by obtain ⟨rfl, h⟩ := h; exact vX8_next  μ h K hK)
set_option maxRecDepth 100000 in
theorem eX8_next : Cond.code yX8_next cX8_next 1 (some .int) ∈ w_tbl ∧ Cond.instanceMethod yX8_next ∈ w_tbl ∧ Cond.selects (w_C 8) yX8_next yX8_next ∈ w_tbl ∧ Cond.initialized yX8_next.cls ∈ w_tbl := ⟨by decide +kernel, by decide +kernel, by decide +kernel, by decide +kernel⟩
theorem rX8_next : ∀ as μ, sX8_next.2.2.2.1 as μ → ∃ q as', as = .ref q :: as' ∧ q < 32 ∧ shM q = .inl 8 := by
  intro as μ h
  obtain ⟨rfl, h⟩ := h
  exact ⟨_, _, rfl, by decide, rfl⟩

/-! X8_number -/
def pX8_number (t : Int32) (μ : wM) : Prop := ∃ L A : Nat, L ≤ 40 ∧ μ 0 39 = nI L ∧ μ 0 40 = nI A ∧ A ≤ L
def qX8_number (t : Int32) (μ : wM) (r : Int32) (μ' : wM) : Prop := ∃ L A a e : Nat, L ≤ 40 ∧ μ 0 39 = nI L ∧ μ 0 40 = nI A ∧ A ≤ L ∧ a = w_bb (μ 31) L A ∧ e = w_bd (μ 31) L a ∧ ((e = a ∨ 3 < e - a ∨ ¬ w_num (μ 31) a (e - a) ≤ t) → r = -1 ∧ μ' = w_up (w_up μ 0 40 (nI e)) 0 41 (nI a)) ∧ (¬ (e = a ∨ 3 < e - a ∨ ¬ w_num (μ 31) a (e - a) ≤ t) → r = w_num (μ 31) a (e - a) ∧ μ' = w_up μ 0 40 (nI e))
def sX8_number : wS := (false, false, 2, fun as μ => ∃ t, as = [.ref 0, .int t] ∧ pX8_number t μ, fun as μ r μ' => match as with
  | [.ref _, .int t] => qX8_number t μ r μ'
  | _ => False)
def gX8_number : Nat → Option wS := fun k => match k with
  | 1 => some sX8_in
  | 210 => some sX8_next
  | _ => none
def uX8_number : Nat → Option (List Nat) := fun j => match j with | 17 => some [] | _ => none
set_option maxHeartbeats 4000000 in
set_option maxRecDepth 100000 in
theorem vcX8_number_0 (K : wK) (R : Int32 → wM → Prop) (t : Int32) (μ : wM) (h : pX8_next  μ ∧ (∀ (r1 : Int32) (m2 : wM), qX8_next  μ r1 m2 →
    (
      ((w_inB r1 48 57) = false → R (-1) (w_up m2 0 41 (m2 0 40))) ∧
      ((w_inB r1 48 57) = true → K 17 [some (.ref 0), some (.int t), some (.int (m2 0 40)), some (.int 0)] [] m2)))) : w_n 8 gX8_number shM rfM 32 (some .int) R tX8_number uX8_number K 42 0 [some (.ref 0), some (.int t), none, none] [] μ :=
  And.intro (And.intro rfl (h.1)) (fun r1 m2 z2890 => And.intro (Exists.intro _ (Exists.intro _ (Exists.intro _ (And.intro rfl (trivial))))) (fun _ _ z2893 => by obtain ⟨z2891, z2892⟩ := z2893; have z2891 := z2891.symm; have z2892 := z2892.symm; subst z2891; subst z2892; exact And.intro (fun z2894 => And.intro (And.intro (of_decide_eq_true rfl) rfl) (And.intro (And.intro (of_decide_eq_true rfl) (And.intro rfl (trivial))) (And.intro trivial (((h.2 r1 m2 z2890).1 (w_B01_0.mp z2894)))))) (fun z2895 => And.intro (And.intro (of_decide_eq_true rfl) rfl) (((h.2 r1 m2 z2890).2 (w_B01_n.mp z2895))))))
set_option maxHeartbeats 4000000 in
set_option maxRecDepth 100000 in
theorem vcX8_number_17 (K : wK) (R : Int32 → wM → Prop) (t : Int32) (l2 : Int32) (l3 : Int32) (μ : wM) (h : (
    ((((μ 0 39) : Int32) ≤ (μ 0 40)) → (
      (((3 : Int32) < ((μ 0 40) - l2)) → R (-1) (w_up μ 0 41 l2)) ∧
      (¬ ((3 : Int32) < ((μ 0 40) - l2)) → (
        (((l3 : Int32) ≤ t) → R l3 μ) ∧
        (¬ ((l3 : Int32) ≤ t) → R (-1) (w_up μ 0 41 l2)))))) ∧
    (¬ (((μ 0 39) : Int32) ≤ (μ 0 40)) → (vp_in (μ 0 40) 40) ∧ (
      ((w_inB (μ 31 ((μ 0 40) : Int32).toNatClampNeg) 48 57) = false → (
        (((3 : Int32) < ((μ 0 40) - l2)) → R (-1) (w_up μ 0 41 l2)) ∧
        (¬ ((3 : Int32) < ((μ 0 40) - l2)) → (
          (((l3 : Int32) ≤ t) → R l3 μ) ∧
          (¬ ((l3 : Int32) ≤ t) → R (-1) (w_up μ 0 41 l2)))))) ∧
      ((w_inB (μ 31 ((μ 0 40) : Int32).toNatClampNeg) 48 57) = true → (
        (((4 : Int32) ≤ ((μ 0 40) - l2)) → K 17 [some (.ref 0), some (.int t), some (.int l2), some (.int l3)] [] (w_up μ 0 40 ((μ 0 40) + 1))) ∧
        (¬ ((4 : Int32) ≤ ((μ 0 40) - l2)) → (∀ (x3 : Int32), x3 = (((10 * l3) + (μ 31 ((μ 0 40) : Int32).toNatClampNeg)) - 48) → K 17 [some (.ref 0), some (.int t), some (.int l2), some (.int x3)] [] (w_up μ 0 40 ((μ 0 40) + 1)))))))))) : w_n 8 gX8_number shM rfM 32 (some .int) R tX8_number uX8_number K 42 17 [some (.ref 0), some (.int t), some (.int l2), some (.int l3)] [] μ :=
  And.intro (And.intro (of_decide_eq_true rfl) rfl) (And.intro (And.intro (of_decide_eq_true rfl) rfl) (And.intro (fun z2896 => And.intro (And.intro (of_decide_eq_true rfl) rfl) (And.intro (fun z2898 => And.intro (And.intro (of_decide_eq_true rfl) (And.intro rfl (trivial))) (And.intro trivial (((h.1 z2896).1 z2898)))) (fun z2899 => And.intro (fun z2900 => And.intro trivial ((((h.1 z2896).2 z2899).1 z2900))) (fun z2901 => And.intro (And.intro (of_decide_eq_true rfl) (And.intro rfl (trivial))) (And.intro trivial ((((h.1 z2896).2 z2899).2 z2901))))))) (fun z2897 => And.intro (And.intro (of_decide_eq_true rfl) rfl) (And.intro (And.intro (of_decide_eq_true rfl) rfl) (And.intro (And.intro (of_decide_eq_true rfl) (Exists.intro _ (And.intro rfl ((h.2 z2897).1)))) (And.intro (Exists.intro _ (Exists.intro _ (Exists.intro _ (And.intro rfl (trivial))))) (fun _ _ z2904 => by obtain ⟨z2902, z2903⟩ := z2904; have z2902 := z2902.symm; have z2903 := z2903.symm; subst z2902; subst z2903; exact And.intro (fun z2905 => And.intro (And.intro (of_decide_eq_true rfl) rfl) (And.intro (fun z2907 => And.intro (And.intro (of_decide_eq_true rfl) (And.intro rfl (trivial))) (And.intro trivial ((((h.2 z2897).2.1 (w_B01_0.mp z2905)).1 z2907)))) (fun z2908 => And.intro (fun z2909 => And.intro trivial (((((h.2 z2897).2.1 (w_B01_0.mp z2905)).2 z2908).1 z2909))) (fun z2910 => And.intro (And.intro (of_decide_eq_true rfl) (And.intro rfl (trivial))) (And.intro trivial (((((h.2 z2897).2.1 (w_B01_0.mp z2905)).2 z2908).2 z2910))))))) (fun z2906 => And.intro (And.intro (of_decide_eq_true rfl) rfl) (And.intro (fun z2911 => And.intro (And.intro (of_decide_eq_true rfl) rfl) (And.intro (And.intro (of_decide_eq_true rfl) (And.intro rfl (trivial))) ((((h.2 z2897).2.2 (w_B01_n.mp z2906)).1 z2911)))) (fun z2912 => And.intro (And.intro (of_decide_eq_true rfl) rfl) (And.intro (And.intro (of_decide_eq_true rfl) rfl) (And.intro (And.intro (of_decide_eq_true rfl) (Exists.intro _ (And.intro rfl ((h.2 z2897).1)))) (And.intro (And.intro (of_decide_eq_true rfl) rfl) (And.intro (And.intro (of_decide_eq_true rfl) (And.intro rfl (trivial))) (((((h.2 z2897).2.2 (w_B01_n.mp z2906)).2 z2912) _ rfl))))))))))))))))
set_option maxHeartbeats 4000000 in
theorem vX8_number (t : Int32) (μ : wM) (h : pX8_number t μ) (K : wK) (hK : w_cl 8 gX8_number shM rfM 32 (some .int) (qX8_number t μ) tX8_number K) : K 0 [some (.ref 0), some (.int t), none, none] [] μ := by
  unfold pX8_number at h
  obtain ⟨L, A, hL, h39, h40, hA⟩ := id h
  refine hK uX8_number 42 _ _ _ _ (vcX8_number_0 K _ t μ ?_)
  refine ⟨h, fun r1 m2 hq => ?_⟩
  obtain ⟨L', A', hL', h39', h40', hA', hr, hm⟩ := hq
  have eL : L' = L := (nI_eq (by omega) (by omega)).mp (h39'.symm.trans h39)
  have eA : A' = A := (nI_eq (by omega) (by omega)).mp (h40'.symm.trans h40)
  subst eL eA
  clear h39' h40' hL' hA'
  generalize ha : w_bb (μ 31) L' A' = a at *
  have haL : a ≤ L' := by rw [← ha]; exact (w_bb_le hA).2
  have m40 : m2 0 40 = nI a := by rw [hm]; unfold w_up; rw [if_pos ⟨rfl, rfl⟩]
  generalize he : w_bd (μ 31) L' a = e at *
  have hea : a ≤ e ∧ e ≤ L' := by rw [← he]; exact w_bd_le haL
  have bad : (e = a ∨ 3 < e - a ∨ ¬ w_num (μ 31) a (e - a) ≤ t) → qX8_number t μ (-1) (w_up (w_up μ 0 40 (nI e)) 0 41 (nI a)) := fun hb => ⟨L', A', a, e, hL, h39, h40, hA, ha.symm, he.symm, fun _ => ⟨rfl, rfl⟩, fun q => absurd hb q⟩
  have loop : e ≠ a → ∀ (d p : Nat), p + d = L' → a ≤ p → w_bd (μ 31) L' p = e → K 17 [some (.ref 0), some (.int t), some (.int (nI a)), some (.int (w_num (μ 31) a (min (p - a) 4)))] [] (w_up μ 0 40 (nI p)) := by
    intro hne
    have exit : ∀ p, p = e → ((3 < nI p - nI a → qX8_number t μ (-1) (w_up (w_up μ 0 40 (nI p)) 0 41 (nI a))) ∧ (¬ 3 < nI p - nI a → (w_num (μ 31) a (min (p - a) 4) ≤ t → qX8_number t μ (w_num (μ 31) a (min (p - a) 4)) (w_up μ 0 40 (nI p))) ∧ (¬ w_num (μ 31) a (min (p - a) 4) ≤ t → qX8_number t μ (-1) (w_up (w_up μ 0 40 (nI p)) 0 41 (nI a))))) := by
      intro p hp
      subst hp
      rw [nI_dif hea.1]
      refine ⟨fun c => bad (Or.inr (Or.inl ((nI_ltI (a := 3) (by omega) (by omega)).mp c))), fun c => ?_⟩
      have c3 : p - a ≤ 3 := by
        rcases Nat.lt_or_ge 3 (p - a) with q | q
        · exact absurd (nI_lt (a := 3) q (by omega)) c
        · exact q
      rw [show min (p - a) 4 = p - a by omega]
      refine ⟨fun c2 => ?_, fun c2 => bad (Or.inr (Or.inr c2))⟩
      by_cases hb : p = a ∨ 3 < p - a ∨ ¬ w_num (μ 31) a (p - a) ≤ t
      · rcases hb with q | q | q
        · exact absurd q hne
        · omega
        · exact absurd c2 q
      · exact ⟨L', A', a, p, hL, h39, h40, hA, ha.symm, he.symm, fun q => absurd q hb, fun _ => ⟨rfl, rfl⟩⟩
    intro d
    induction d with
    | zero =>
      intro p hp hap hb
      have hpL : p = L' := by omega
      refine hK uX8_number 42 _ _ _ _ (vcX8_number_17 K _ t (nI a) (w_num (μ 31) a (min (p - a) 4)) (w_up μ 0 40 (nI p)) ?_)
      have e39 : w_up μ 0 40 (nI p) 0 39 = nI L' := by unfold w_up; rw [if_neg (by omega)]; exact h39
      have e40 : w_up μ 0 40 (nI p) 0 40 = nI p := by unfold w_up; rw [if_pos ⟨rfl, rfl⟩]
      rw [e39, e40]
      have hpe : p = e := by rw [← hb, hpL, w_bd_L]
      exact ⟨fun _ => exit p hpe, fun z => absurd (nI_le (by omega) (by omega)) z⟩
    | succ d ih =>
      intro p hp hap hb
      refine hK uX8_number 42 _ _ _ _ (vcX8_number_17 K _ t (nI a) (w_num (μ 31) a (min (p - a) 4)) (w_up μ 0 40 (nI p)) ?_)
      have e39 : w_up μ 0 40 (nI p) 0 39 = nI L' := by unfold w_up; rw [if_neg (by omega)]; exact h39
      have e40 : w_up μ 0 40 (nI p) 0 40 = nI p := by unfold w_up; rw [if_pos ⟨rfl, rfl⟩]
      have e31 : w_up μ 0 40 (nI p) 31 = μ 31 := w_up_o (by decide)
      rw [e39, e40, e31, nI_clamp (show p < 2 ^ 31 by omega), nI_1]
      have hlt : ¬ nI L' ≤ nI p := nI_ge (by omega) (by omega)
      have e : w_up (w_up μ 0 40 (nI p)) 0 40 (nI (p + 1)) = w_up μ 0 40 (nI (p + 1)) := by
        funext a b
        unfold w_up
        by_cases q : a = 0 ∧ b = 40
        · rw [if_pos q, if_pos q]
        · rw [if_neg q, if_neg q, if_neg q]
      rw [e]
      refine ⟨fun z => absurd z hlt, fun _ => ⟨vp_in_nI (by omega) (by omega), fun c => exit p (by rw [← hb, w_bd_n c]), fun c => ?_⟩⟩
      have z := ih (p + 1) (by omega) (by omega) (by rw [← hb, w_bd_s (by omega) c])
      rw [nI_dif hap]
      refine ⟨fun c4 => ?_, fun c4 x3 hx3 => ?_⟩
      · have c4 := (nI_leI (a := 4) (by omega) (by omega)).mp c4
        rw [show min (p + 1 - a) 4 = min (p - a) 4 by omega] at z
        exact z
      · have c4 : p - a < 4 := by
          rcases Nat.lt_or_ge (p - a) 4 with q | q
          · exact q
          · exact absurd (nI_le (a := 4) q (by omega)) c4
        rw [show min (p + 1 - a) 4 = p - a + 1 by omega, w_num, show a + (p - a) = p by omega, Int32.mul_comm] at z
        rw [hx3, show min (p - a) 4 = p - a by omega]
        exact z
  rw [m40]
  refine ⟨fun c => ?_, fun c => ?_⟩
  · have hen : e = a := by
      rw [← he]
      by_cases q : a < L'
      · rw [if_pos q] at hr; rw [hr] at c; exact w_bd_n c
      · rw [show a = L' by omega, w_bd_L]
    have z := bad (Or.inl hen)
    rw [hen] at z
    rw [hm]
    exact z
  · have haL' : a < L' := by
      rcases Nat.lt_or_ge a L' with q | q
      · exact q
      · rw [if_neg (by omega)] at hr; rw [hr] at c; exact absurd c (by decide)
    rw [if_pos haL'] at hr
    rw [hr] at c
    have hne : e ≠ a := by
      rw [← he, w_bd_s haL' c]
      have := (w_bd_le (f := μ 31) (show a + 1 ≤ L' by omega)).1
      omega
    have z := loop hne (L' - a) a (by omega) (Nat.le_refl _) he
    rw [show min (a - a) 4 = 0 by omega] at z
    rw [hm]
    exact z
set_option maxRecDepth 100000 in
theorem zX8_number (l : Launch) : ∀ (idx : Nat) (S : wS), gX8_number idx = some S → w_Call l 8 idx S 2 shM rfM 32 := by
  intro idx S hS
  unfold gX8_number at hS
  split at hS
  · cases hS
    exact w_callS (mX8_in l) eX8_in.1 (by decide +kernel) eX8_in.2.1 eX8_in.2.2 (by decide +kernel) (by decide) (by decide)
  · cases hS
    exact w_callV (ci := 8) (mX8_next l) (by decide) rX8_next eX8_next.1 (by decide +kernel) eX8_next.2.1 eX8_next.2.2.1 eX8_next.2.2.2 (by decide +kernel) (by decide) (by decide)
  · cases hS
theorem mX8_number (l : Launch) : w_Met l yX8_number cX8_number 4 (some .int) 2 shM rfM 32 sX8_number.2.2.2.1 sX8_number.2.2.2.2 :=
  w_meth (o := 8) (Γ := gX8_number) (tb := tX8_number) (by decide +kernel) rfl kX8_number rfl (zX8_number l) (fun as μ h => by obtain ⟨t, rfl, h⟩ := h; exact Nat.le_of_ble_eq_true rfl) (fun as μ h K hK => by obtain ⟨t, rfl, h⟩ := h; exact vX8_number t μ h K hK)
set_option maxRecDepth 100000 in
theorem eX8_number : Cond.code yX8_number cX8_number 4 (some .int) ∈ w_tbl ∧ Cond.instanceMethod yX8_number ∈ w_tbl ∧ Cond.selects (w_C 8) yX8_number yX8_number ∈ w_tbl ∧ Cond.initialized yX8_number.cls ∈ w_tbl := ⟨by decide +kernel, by decide +kernel, by decide +kernel, by decide +kernel⟩
theorem rX8_number : ∀ as μ, sX8_number.2.2.2.1 as μ → ∃ q as', as = .ref q :: as' ∧ q < 32 ∧ shM q = .inl 8 := by
  intro as μ h
  obtain ⟨t, rfl, h⟩ := h
  exact ⟨_, _, rfl, by decide, rfl⟩

/-- the model's reading: what it leaves as it was -/
def wm_rf (μ ν : wM) : Prop := (∀ a, a ≠ 0 → a ≠ 30 → ν a = μ a) ∧ (∀ j, j ≠ 40 → j ≠ 41 → ν 0 j = μ 0 j)
theorem wm_rf.refl (μ : wM) : wm_rf μ μ := ⟨fun _ _ _ => rfl, fun _ _ _ => rfl⟩
theorem wm_rf.u0 {μ ν : wM} (h : wm_rf μ ν) {j : Nat} (hj : j = 40 ∨ j = 41) (v : Int32) : wm_rf μ (w_up ν 0 j v) := by
  refine ⟨fun a h1 h2 => by rw [w_up_o h1]; exact h.1 a h1 h2, fun p h1 h2 => ?_⟩
  rw [w_up_s, upd_out (by omega)]
  exact h.2 p h1 h2
theorem wm_rf.u30 {μ ν : wM} (h : wm_rf μ ν) (j : Nat) (v : Int32) : wm_rf μ (w_up ν 30 j v) := by
  refine ⟨fun a h1 h2 => by rw [w_up_o h2]; exact h.1 a h1 h2, fun p h1 h2 => ?_⟩
  rw [w_up_o (by decide)]
  exact h.2 p h1 h2
def wm_RR (μ : wM) : Int32 × (Nat → Int32) := w_rd (μ 31) (μ 0 39).toNatClampNeg 6 0 0 0 (μ 30)
theorem rd_neg : ∀ i, i < 43 → (-20 - nI i : Int32) < 0 := by decide +kernel
/-! X8_reads -/
def pX8_reads (μ : wM) : Prop := vp_in (μ 0 39) 41 ∧ ∀ i, i < (μ 0 39).toNatClampNeg → ¬ μ 31 i = 0
def qX8_reads (μ : wM) (r : Int32) (μ' : wM) : Prop := r = (if (wm_RR μ).1 < 0 then -1 else (wm_RR μ).1) ∧ ((wm_RR μ).1 < 0 → -20 - μ' 0 41 = (wm_RR μ).1) ∧ (¬ (wm_RR μ).1 < 0 → μ' 30 = (wm_RR μ).2) ∧ wm_rf μ μ'
def sX8_reads : wS := (false, false, 1, fun as μ => as = [.ref 0] ∧ pX8_reads μ, fun as μ r μ' => match as with
  | [.ref _] => qX8_reads μ r μ'
  | _ => False)
def gX8_reads : Nat → Option wS := fun k => match k with
  | 210 => some sX8_next
  | 217 => some sX8_number
  | _ => none
def uX8_reads : Nat → Option (List Nat) := fun j => match j with | 9 => some [4] | _ => none
set_option maxHeartbeats 4000000 in
set_option maxRecDepth 100000 in
theorem vcX8_reads_0 (K : wK) (R : Int32 → wM → Prop) (μ : wM) (h : K 9 [some (.ref 0), some (.int 0), some (.int 0), some (.int 1), none] [] (w_up μ 0 40 0)) : w_n 8 gX8_reads shM rfM 32 (some .int) R tX8_reads uX8_reads K 42 0 [some (.ref 0), none, none, none, none] [] μ :=
  And.intro (And.intro (of_decide_eq_true rfl) (And.intro rfl (trivial))) (h)
set_option maxHeartbeats 4000000 in
set_option maxRecDepth 100000 in
theorem vcX8_reads_9 (K : wK) (R : Int32 → wM → Prop) (l1 : Int32) (l2 : Int32) (l3 : Int32) (μ : wM) (h : (
    (((l3 : Int32) = 0) → pX8_next  (w_up μ 0 41 (μ 0 40)) ∧ (∀ (r1 : Int32) (m2 : wM), qX8_next  (w_up μ 0 41 (μ 0 40)) r1 m2 →
      (
        (((r1 : Int32) = 0) → R l1 m2) ∧
        (¬ ((r1 : Int32) = 0) → R (-1) m2)))) ∧
    (¬ ((l3 : Int32) = 0) → pX8_number (100 - l2) μ ∧ (∀ (r3 : Int32) (m4 : wM), qX8_number (100 - l2) μ r3 m4 →
      (
        (((0 : Int32) ≤ r3) → (vp_in l1 6) ∧ pX8_next  (w_up m4 30 (l1 : Int32).toNatClampNeg r3) ∧ (∀ (r5 : Int32) (m6 : wM), qX8_next  (w_up m4 30 (l1 : Int32).toNatClampNeg r3) r5 m6 →
          (
            (((r5 : Int32) = 44) → (
              (((6 : Int32) ≤ (l1 + 1)) → K 9 [some (.ref 0), some (.int (l1 + 1)), some (.int (l2 + r3)), some (.int 0), none] [] (w_up m6 0 40 ((m6 0 40) + 0))) ∧
              (¬ ((6 : Int32) ≤ (l1 + 1)) → K 9 [some (.ref 0), some (.int (l1 + 1)), some (.int (l2 + r3)), some (.int 1), none] [] (w_up m6 0 40 ((m6 0 40) + 1))))) ∧
            (¬ ((r5 : Int32) = 44) → K 9 [some (.ref 0), some (.int (l1 + 1)), some (.int (l2 + r3)), some (.int 0), none] [] (w_up m6 0 40 ((m6 0 40) + 0)))))) ∧
        (¬ ((0 : Int32) ≤ r3) → R (-1) m4)))))) : w_n 8 gX8_reads shM rfM 32 (some .int) R tX8_reads uX8_reads K 42 9 [some (.ref 0), some (.int l1), some (.int l2), some (.int l3), none] [] μ :=
  And.intro (fun z2926 => And.intro (And.intro (of_decide_eq_true rfl) rfl) (And.intro (And.intro (of_decide_eq_true rfl) (And.intro rfl (trivial))) (And.intro (And.intro rfl ((h.1 z2926).1)) (fun r1 m2 z2928 => And.intro (fun z2929 => And.intro trivial ((((h.1 z2926).2 r1 m2 z2928).1 z2929))) (fun z2930 => And.intro trivial ((((h.1 z2926).2 r1 m2 z2928).2 z2930))))))) (fun z2927 => And.intro (Exists.intro _ (And.intro rfl ((h.2 z2927).1))) (fun r3 m4 z2931 => And.intro (fun z2932 => And.intro (And.intro (of_decide_eq_true rfl) rfl) (And.intro (And.intro (of_decide_eq_true rfl) (Exists.intro _ (And.intro rfl ((((h.2 z2927).2 r3 m4 z2931).1 z2932).1)))) (And.intro (And.intro rfl ((((h.2 z2927).2 r3 m4 z2931).1 z2932).2.1)) (fun r5 m6 z2934 => And.intro (fun z2935 => And.intro (fun z2937 => And.intro (And.intro (of_decide_eq_true rfl) rfl) (And.intro (fun _ => And.intro (And.intro (of_decide_eq_true rfl) (And.intro rfl (trivial))) (((((((h.2 z2927).2 r3 m4 z2931).1 z2932).2.2 r5 m6 z2934).1 z2935).1 z2937))) (fun z => absurd (by decide) z))) (fun z2938 => And.intro (And.intro (of_decide_eq_true rfl) rfl) (And.intro (fun z => absurd z (by decide)) (fun _ => And.intro (And.intro (of_decide_eq_true rfl) (And.intro rfl (trivial))) (((((((h.2 z2927).2 r3 m4 z2931).1 z2932).2.2 r5 m6 z2934).1 z2935).2 z2938)))))) (fun z2936 => And.intro (And.intro (of_decide_eq_true rfl) rfl) (And.intro (fun _ => And.intro (And.intro (of_decide_eq_true rfl) (And.intro rfl (trivial))) ((((((h.2 z2927).2 r3 m4 z2931).1 z2932).2.2 r5 m6 z2934).2 z2936))) (fun z => absurd (by decide) z))))))) (fun z2933 => And.intro trivial ((((h.2 z2927).2 r3 m4 z2931).2 z2933)))))
set_option maxHeartbeats 4000000 in
theorem vX8_reads (μ : wM) (h : pX8_reads μ) (K : wK) (hK : w_cl 8 gX8_reads shM rfM 32 (some .int) (qX8_reads μ) tX8_reads K) : K 0 [some (.ref 0), none, none, none, none] [] μ := by
  unfold pX8_reads at h
  obtain ⟨h1, h2⟩ := h
  obtain ⟨L, hL, hLn, hLc⟩ := vp_in_le h1 (by decide)
  rw [hLc] at h2
  have fail : ∀ (x : Nat) (g : Nat → Int32) (ν : wM), x < 43 → wm_RR μ = (-20 - nI x, g) → wm_rf μ ν → ν 0 41 = nI x → qX8_reads μ (-1) ν := by
    intro x g ν hx hR hf h41
    have hn := rd_neg x hx
    unfold qX8_reads
    rw [hR]
    exact ⟨by rw [if_pos hn], fun _ => by rw [h41], fun q => absurd hn q, hf⟩
  have good : ∀ (c : Nat) (g : Nat → Int32) (ν : wM), c < 10 → wm_RR μ = (nI c, g) → wm_rf μ ν → ν 30 = g → qX8_reads μ (nI c) ν := by
    intro c g ν hc hR hf h30
    have hn : ¬ nI c < 0 := nI_pos (by omega)
    unfold qX8_reads
    rw [hR]
    exact ⟨by rw [if_neg hn], fun q => absurd q hn, fun _ => h30, hf⟩
  have end0 : ∀ (c z : Nat) (t : Int32) (g : Nat → Int32) (ν : wM), c < 10 → z ≤ L → w_bb (μ 31) L z = z → wm_rf μ ν → ν 0 40 = nI z → ν 30 = g → (z = L → wm_RR μ = (nI c, g)) → (¬ z = L → wm_RR μ = (-20 - nI z, g)) → K 9 [some (.ref 0), some (.int (nI c)), some (.int t), some (.int 0), none] [] ν := by
    intro c z t g ν hc hz hbb hf h40 h30 yes no
    refine hK uX8_reads 42 _ _ _ _ (vcX8_reads_9 K _ (nI c) t 0 ν ?_)
    refine ⟨fun _ => ⟨⟨L, z, by omega, ?_, ?_, hz⟩, fun r1 m2 hq => ?_⟩, fun q => absurd rfl q⟩
    · rw [w_up_s, upd_out (by decide), hf.2 39 (by decide) (by decide)]; exact hLn
    · rw [w_up_s, upd_out (by decide)]; exact h40
    · obtain ⟨L', A', hL', h39', h40', hA', hr, hm⟩ := hq
      rw [w_up_s, upd_out (by decide), hf.2 39 (by decide) (by decide)] at h39'
      rw [w_up_s, upd_out (by decide)] at h40'
      have eL : L' = L := (nI_eq (by omega) (by omega)).mp (h39'.symm.trans hLn)
      have eA : A' = z := (nI_eq (by omega) (by omega)).mp (h40'.symm.trans h40)
      subst eL eA
      rw [w_up_o (by decide), hf.1 31 (by decide) (by decide), hbb] at hr hm
      have hf2 : wm_rf μ m2 := by rw [hm]; exact (hf.u0 (Or.inr rfl) _).u0 (Or.inl rfl) _
      have h41 : m2 0 41 = nI A' := by rw [hm, w_up_s, upd_out (by decide), w_up_s, upd_in]; exact h40
      have h30' : m2 30 = g := by rw [hm, w_up_o (by decide), w_up_o (by decide)]; exact h30
      by_cases c1 : A' = L'
      · rw [if_neg (by omega)] at hr
        exact ⟨fun _ => good c g m2 hc (yes c1) hf2 h30', fun q => absurd hr q⟩
      · rw [if_pos (by omega)] at hr
        refine ⟨fun q => absurd (hr.symm.trans q) (h2 A' (by omega)), fun _ => fail A' g m2 (by omega) (no c1) hf2 h41⟩
  have body : ∀ (k c i T : Nat) (g : Nat → Int32) (ν : wM), c + (k + 1) = 6 → i ≤ L → T ≤ 100 → w_rd (μ 31) L (k + 1) c i (nI T) g = wm_RR μ → wm_rf μ ν → ν 0 40 = nI i → ν 30 = g → (∀ (i' T' : Nat) (g' : Nat → Int32) (ν' : wM), c + 1 < 6 → i' ≤ L → T' ≤ 100 → w_rd (μ 31) L k (c + 1) i' (nI T') g' = wm_RR μ → wm_rf μ ν' → ν' 0 40 = nI i' → ν' 30 = g' → K 9 [some (.ref 0), some (.int (nI (c + 1))), some (.int (nI T')), some (.int 1), none] [] ν') → K 9 [some (.ref 0), some (.int (nI c)), some (.int (nI T)), some (.int 1), none] [] ν := by
    intro k c i T g ν hc hi hT hR hf h40 h30 nx
    refine hK uX8_reads 42 _ _ _ _ (vcX8_reads_9 K _ (nI c) (nI T) 1 ν ?_)
    have h39 : ν 0 39 = nI L := by rw [hf.2 39 (by decide) (by decide)]; exact hLn
    have h31 : ν 31 = μ 31 := hf.1 31 (by decide) (by decide)
    refine ⟨fun q => absurd q (by decide), fun _ => ⟨⟨L, i, by omega, h39, h40, hi⟩, fun r3 m4 hq => ?_⟩⟩
    obtain ⟨L', A', a, e, hL', h39', h40', hA', ha, he, hbad, hgood⟩ := hq
    have eL : L' = L := (nI_eq (by omega) (by omega)).mp (h39'.symm.trans h39)
    have eA : A' = i := (nI_eq (by omega) (by omega)).mp (h40'.symm.trans h40)
    subst eL eA
    rw [h31] at ha he hbad hgood
    rw [w_rd] at hR
    dsimp only at hR
    rw [← ha, ← he] at hR
    have haL : a ≤ L' := by rw [ha]; exact (w_bb_le hi).2
    have heL : a ≤ e ∧ e ≤ L' := by rw [he]; exact w_bd_le haL
    have f41 : ∀ ν' : wM, ν' = w_up (w_up ν 0 40 (nI e)) 0 41 (nI a) → wm_rf μ ν' ∧ ν' 0 41 = nI a := fun ν' hν => ⟨by rw [hν]; exact (hf.u0 (Or.inl rfl) _).u0 (Or.inr rfl) _, by rw [hν, w_up_s, upd_in]⟩
    by_cases b1 : e = a ∨ 3 < e - a
    · obtain ⟨r3e, m4e⟩ := hbad (by rcases b1 with q | q; exact Or.inl q; exact Or.inr (Or.inl q))
      rw [if_pos b1] at hR
      subst r3e
      exact ⟨fun q => absurd q (by decide), fun _ => fail a g m4 (by omega) hR.symm (f41 m4 m4e).1 (f41 m4 m4e).2⟩
    · rw [if_neg b1] at hR
      have b1a : ¬ e = a := fun q => b1 (Or.inl q)
      have b1b : ¬ 3 < e - a := fun q => b1 (Or.inr q)
      obtain ⟨V, hV, hVlt⟩ := w_num_rng (f := μ 31) (a := a) (e - a) (by omega) (fun j hj => w_skip_in (p := fun j => w_inB (μ 31 j) 48 57) (L' - a) a (a + j) (by omega) (by have : w_skip (fun j => w_inB (μ 31 j) 48 57) a (L' - a) = e := he.symm; omega))
      have hV1000 : V < 1000 := Nat.lt_of_lt_of_le hVlt (Nat.pow_le_pow_right (by decide) (show e - a ≤ 3 by omega))
      rw [hV] at hR hbad hgood
      have e100 : (100 : Int32) - nI T = nI (100 - T) := nI_dif (b := 100) hT
      rw [e100] at hbad hgood
      have iff1 : nI V ≤ nI (100 - T) ↔ T + V ≤ 100 := by rw [nI_leI (by omega) (by omega)]; omega
      have iff2 : nI T + nI V ≤ 100 ↔ T + V ≤ 100 := by rw [nI_add]; exact nI_leI (b := 100) (by omega) (by omega)
      by_cases b2 : T + V ≤ 100
      · obtain ⟨r3e, m4e⟩ := hgood (by rintro (q | q | q); exact b1a q; exact b1b q; exact q (iff1.mpr b2))
        rw [if_neg (fun q => q (iff2.mpr b2))] at hR
        subst r3e
        have c6 : (nI c).toNatClampNeg = c := nI_clamp (by omega)
        rw [c6]
        have m39 : m4 0 39 = nI L' := by rw [m4e, w_up_s, upd_out (by decide)]; exact h39
        have m31 : m4 31 = μ 31 := by rw [m4e, w_up_o (by decide)]; exact h31
        refine ⟨fun _ => ⟨vp_in_nI (by omega) (by omega), ⟨L', e, by omega, ?_, ?_, heL.2⟩, fun r5 m6 hq => ?_⟩, fun q => absurd (nI_pos' (by omega)) q⟩
        · rw [w_up_o (by decide)]; exact m39
        · rw [w_up_o (by decide), m4e, w_up_s, upd_in]
        · obtain ⟨L2, A2, hL2, h392, h402, hA2, hr5, hm6⟩ := hq
          rw [w_up_o (by decide)] at h392 h402
          have eL : L2 = L' := (nI_eq (by omega) (by omega)).mp (h392.symm.trans m39)
          have eA : A2 = e := (nI_eq (by omega) (by omega)).mp (h402.symm.trans (by rw [m4e, w_up_s, upd_in]))
          subst eL eA
          rw [w_up_o (by decide), m31] at hr5 hm6
          generalize hz : w_bb (μ 31) L2 A2 = z at *
          have hzL : z ≤ L2 := by rw [← hz]; exact (w_bb_le heL.2).2
          have hzz : w_bb (μ 31) L2 z = z := by rw [← hz]; exact w_bb_bb heL.2
          have m640 : m6 0 40 = nI z := by rw [hm6, w_up_s, upd_in]
          have m6f : wm_rf μ m6 := by rw [hm6, m4e]; exact ((hf.u0 (Or.inl rfl) _).u30 _ _).u0 (Or.inl rfl) _
          have m630 : m6 30 = upd g c (nI V) := by rw [hm6, w_up_o (by decide), w_up_s, m4e, w_up_o (by decide), h30]
          have stop : (z = L2 → wm_RR μ = (nI (c + 1), upd g c (nI V))) → (¬ z = L2 → wm_RR μ = (-20 - nI z, upd g c (nI V))) → K 9 [some (.ref 0), some (.int (nI c + 1)), some (.int (nI T + nI V)), some (.int 0), none] [] (w_up m6 0 40 (m6 0 40 + 0)) := by
            intro y1 y2
            rw [nI_1]
            exact end0 (c + 1) z _ (upd g c (nI V)) _ (by omega) hzL hzz (m6f.u0 (Or.inl rfl) _) (by rw [w_up_s, upd_in, m640, Int32.add_zero]) (by rw [w_up_o (by decide)]; exact m630) y1 y2
          refine ⟨fun c44 => ?_, fun c44 => stop (fun q => ?_) (fun q => ?_)⟩
          · have hzlt : z < L2 := by
              rcases Nat.lt_or_ge z L2 with q | q
              · exact q
              · rw [if_neg (by omega)] at hr5; rw [hr5] at c44; exact absurd c44 (by decide)
            rw [if_pos hzlt] at hr5
            have hne : ¬ z = L2 := by omega
            have f44 : μ 31 z = 44 := hr5.symm.trans c44
            rw [if_neg hne] at hR
            refine ⟨fun c5 => stop (fun q => absurd q hne) (fun _ => ?_), fun c5 => ?_⟩
            · rw [nI_1] at c5
              have c5 := (nI_leI (a := 6) (by omega) (by omega)).mp c5
              rw [if_pos (Or.inr (by omega))] at hR
              exact hR.symm
            · rw [nI_1] at c5
              have c5' : c + 1 < 6 := by
                rcases Nat.lt_or_ge (c + 1) 6 with q | q
                · exact q
                · exact absurd (nI_le (a := 6) q (by omega)) c5
              rw [if_neg (by rintro (q | q); exact q f44; omega), nI_add] at hR
              rw [nI_1, nI_add, m640, nI_1]
              exact nx (z + 1) (T + V) (upd g c (nI V)) _ c5' (by omega) b2 hR (m6f.u0 (Or.inl rfl) _) (by rw [w_up_s, upd_in]) (by rw [w_up_o (by decide)]; exact m630)
          · rw [if_pos q] at hR; exact hR.symm
          · rw [if_pos (by omega)] at hr5
            rw [if_neg q, if_pos (Or.inl (fun y => c44 (hr5.trans y)))] at hR
            exact hR.symm
      · obtain ⟨r3e, m4e⟩ := hbad (Or.inr (Or.inr (fun q => b2 (iff1.mp q))))
        rw [if_pos (fun q => b2 (iff2.mp q))] at hR
        subst r3e
        exact ⟨fun q => absurd q (by decide), fun _ => fail a _ m4 (by omega) hR.symm (f41 m4 m4e).1 (f41 m4 m4e).2⟩
  have loop : ∀ (k c i T : Nat) (g : Nat → Int32) (ν : wM), c + (k + 1) = 6 → i ≤ L → T ≤ 100 → w_rd (μ 31) L (k + 1) c i (nI T) g = wm_RR μ → wm_rf μ ν → ν 0 40 = nI i → ν 30 = g → K 9 [some (.ref 0), some (.int (nI c)), some (.int (nI T)), some (.int 1), none] [] ν := by
    intro k
    induction k with
    | zero =>
      intro c i T g ν hc hi hT hR hf h40 h30
      exact body 0 c i T g ν hc hi hT hR hf h40 h30 (fun _ _ _ _ h6 => by omega)
    | succ k ih =>
      intro c i T g ν hc hi hT hR hf h40 h30
      exact body (k + 1) c i T g ν hc hi hT hR hf h40 h30 (fun i' T' g' ν' _ a1 a2 a3 a4 a5 a6 => ih (c + 1) i' T' g' ν' (by omega) a1 a2 a3 a4 a5 a6)
  refine hK uX8_reads 42 _ _ _ _ (vcX8_reads_0 K _ μ ?_)
  have z := loop 5 0 0 0 (μ 30) (w_up μ 0 40 0) rfl (by omega) (by omega) (by unfold wm_RR; rw [hLc]; rfl) ((wm_rf.refl μ).u0 (Or.inl rfl) _) (by rw [w_up_s, upd_in]; rfl) (by rw [w_up_o (by decide)])
  exact z
set_option maxRecDepth 100000 in
theorem zX8_reads (l : Launch) : ∀ (idx : Nat) (S : wS), gX8_reads idx = some S → w_Call l 8 idx S 3 shM rfM 32 := by
  intro idx S hS
  unfold gX8_reads at hS
  split at hS
  · cases hS
    exact w_callV (ci := 8) (mX8_next l) (by decide) rX8_next eX8_next.1 (by decide +kernel) eX8_next.2.1 eX8_next.2.2.1 eX8_next.2.2.2 (by decide +kernel) (by decide) (by decide)
  · cases hS
    exact w_callV (ci := 8) (mX8_number l) (by decide) rX8_number eX8_number.1 (by decide +kernel) eX8_number.2.1 eX8_number.2.2.1 eX8_number.2.2.2 (by decide +kernel) (by decide) (by decide)
  · cases hS
theorem mX8_reads (l : Launch) : w_Met l yX8_reads cX8_reads 5 (some .int) 3 shM rfM 32 sX8_reads.2.2.2.1 sX8_reads.2.2.2.2 :=
  w_meth (o := 8) (Γ := gX8_reads) (tb := tX8_reads) (by decide +kernel) rfl kX8_reads rfl (zX8_reads l) (fun as μ h => by obtain ⟨rfl, h⟩ := h; exact Nat.le_of_ble_eq_true rfl) (fun as μ h K hK => by obtain ⟨rfl, h⟩ := h; exact vX8_reads  μ h K hK)
set_option maxRecDepth 100000 in
theorem eX8_reads : Cond.code yX8_reads cX8_reads 5 (some .int) ∈ w_tbl ∧ Cond.instanceMethod yX8_reads ∈ w_tbl ∧ Cond.selects (w_C 8) yX8_reads yX8_reads ∈ w_tbl ∧ Cond.initialized yX8_reads.cls ∈ w_tbl := ⟨by decide +kernel, by decide +kernel, by decide +kernel, by decide +kernel⟩
theorem rX8_reads : ∀ as μ, sX8_reads.2.2.2.1 as μ → ∃ q as', as = .ref q :: as' ∧ q < 32 ∧ shM q = .inl 8 := by
  intro as μ h
  obtain ⟨rfl, h⟩ := h
  exact ⟨_, _, rfl, by decide, rfl⟩

/-! X8_shares -/
def pX8_shares (μ : wM) : Prop := vp_in (μ 0 39) 41 ∧ ∀ i, i < (μ 0 39).toNatClampNeg → ¬ μ 31 i = 0
def qX8_shares (μ : wM) (r : Int32) (μ' : wM) : Prop := r = (wm_RR μ).1 ∧ (∀ a, a ≠ 0 → a ≠ 29 → a ≠ 30 → μ' a = μ a) ∧ (∀ j, j ≠ 35 → j ≠ 39 → j ≠ 40 → j ≠ 41 → μ' 0 j = μ 0 j) ∧ μ' 0 39 = 0 ∧ ((wm_RR μ).1 < 0 → μ' 0 35 = μ 0 35 ∧ μ' 29 = μ 29) ∧ (¬ (wm_RR μ).1 < 0 → μ' 0 35 = (wm_RR μ).1 ∧ ∀ i, μ' 29 i = if i < (wm_RR μ).1.toNatClampNeg then (wm_RR μ).2 i else μ 29 i)
def sX8_shares : wS := (false, false, 1, fun as μ => as = [.ref 0] ∧ pX8_shares μ, fun as μ r μ' => match as with
  | [.ref _] => qX8_shares μ r μ'
  | _ => False)
def gX8_shares : Nat → Option wS := fun k => match k with
  | 220 => some sX8_reads
  | _ => none
def uX8_shares : Nat → Option (List Nat) := fun j => match j with | 18 => some [] | _ => none
set_option maxHeartbeats 4000000 in
set_option maxRecDepth 100000 in
theorem vcX8_shares_0 (K : wK) (R : Int32 → wM → Prop) (μ : wM) (h : pX8_reads  μ ∧ (∀ (r1 : Int32) (m2 : wM), qX8_reads  μ r1 m2 →
    (
      (((0 : Int32) ≤ r1) → K 18 [some (.ref 0), some (.int r1), some (.int 0)] [] (w_up (w_up m2 0 39 0) 0 35 r1)) ∧
      (¬ ((0 : Int32) ≤ r1) → R ((-20) - (m2 0 41)) (w_up m2 0 39 0))))) : w_n 8 gX8_shares shM rfM 32 (some .int) R tX8_shares uX8_shares K 15 0 [some (.ref 0), none, none] [] μ :=
  And.intro (And.intro rfl (h.1)) (fun r1 m2 z2944 => And.intro (And.intro (of_decide_eq_true rfl) (And.intro rfl (trivial))) (And.intro (fun z2945 => And.intro (And.intro (of_decide_eq_true rfl) (And.intro rfl (trivial))) (((h.2 r1 m2 z2944).1 z2945))) (fun z2946 => And.intro (And.intro (of_decide_eq_true rfl) rfl) (And.intro trivial (((h.2 r1 m2 z2944).2 z2946))))))
set_option maxHeartbeats 4000000 in
set_option maxRecDepth 100000 in
theorem vcX8_shares_18 (K : wK) (R : Int32 → wM → Prop) (l1 : Int32) (l2 : Int32) (μ : wM) (h : (
    (((l1 : Int32) ≤ l2) → R l1 μ) ∧
    (¬ ((l1 : Int32) ≤ l2) → (vp_in l2 6) ∧ (∀ (m1 : wM), m1 = (w_up μ 29 (l2 : Int32).toNatClampNeg (μ 30 (l2 : Int32).toNatClampNeg)) → K 18 [some (.ref 0), some (.int l1), some (.int (l2 + 1))] [] m1)))) : w_n 8 gX8_shares shM rfM 32 (some .int) R tX8_shares uX8_shares K 15 18 [some (.ref 0), some (.int l1), some (.int l2)] [] μ :=
  And.intro (fun z2947 => And.intro trivial ((h.1 z2947))) (fun z2948 => And.intro (And.intro (of_decide_eq_true rfl) rfl) (And.intro (And.intro (of_decide_eq_true rfl) rfl) (And.intro (And.intro (of_decide_eq_true rfl) (Exists.intro _ (And.intro rfl ((h.2 z2948).1)))) (And.intro (And.intro (of_decide_eq_true rfl) (Exists.intro _ (And.intro rfl ((h.2 z2948).1)))) (((h.2 z2948).2 _ rfl))))))
set_option maxHeartbeats 4000000 in
theorem vX8_shares (μ : wM) (h : pX8_shares μ) (K : wK) (hK : w_cl 8 gX8_shares shM rfM 32 (some .int) (qX8_shares μ) tX8_shares K) : K 0 [some (.ref 0), none, none] [] μ := by
  unfold pX8_shares at h
  have h0 := h
  obtain ⟨h1, h2⟩ := h
  obtain ⟨L, hL, hLn, hLc⟩ := vp_in_le h1 (by decide)
  refine hK uX8_shares 15 _ _ _ _ (vcX8_shares_0 K _ μ ?_)
  refine ⟨h0, fun r1 m2 hq => ?_⟩
  obtain ⟨q1, q2, q3, q4⟩ := hq
  have hle : (wm_RR μ).1 ≤ nI (0 + 6) := by unfold wm_RR; rw [hLc]; exact w_rd_le hL 6 0 0 0 _ (by omega) (by omega)
  by_cases c : (wm_RR μ).1 < 0
  · rw [if_pos c] at q1
    subst q1
    refine ⟨fun q => absurd q (by decide), fun _ => ⟨q2 c, fun a a1 a2 a3 => ?_, fun j j1 j2 j3 j4 => ?_, ?_, fun _ => ⟨?_, ?_⟩, fun q => absurd c q⟩⟩
    · rw [w_up_o a1]; exact q4.1 a a1 a3
    · rw [w_up_s, upd_out j2]; exact q4.2 j j3 j4
    · rw [w_up_s, upd_in]
    · rw [w_up_s, upd_out (by decide)]; exact q4.2 35 (by decide) (by decide)
    · rw [w_up_o (by decide)]; exact q4.1 29 (by decide) (by decide)
  · rw [if_neg c] at q1
    obtain ⟨C, hC31, hCn⟩ := nI_of c
    rw [hCn] at hle
    have hC6 : C ≤ 6 := by have := (nI_leI hC31 (by omega)).mp hle; omega
    rw [hCn] at q1
    subst q1
    have hCc : (nI C).toNatClampNeg = C := nI_clamp hC31
    have loop : ∀ (d i : Nat) (ν : wM), i + d = C → (∀ a, a ≠ 0 → a ≠ 29 → ν a = m2 a) → ν 0 = (w_up (w_up m2 0 39 0) 0 35 (nI C)) 0 → (∀ j, ν 29 j = if j < i then m2 30 j else m2 29 j) → K 18 [some (.ref 0), some (.int (nI C)), some (.int (nI i))] [] ν := by
      intro d
      induction d with
      | zero =>
        intro i ν hi hf h0 h29
        have hiC : i = C := by omega
        subst hiC
        refine hK uX8_shares 15 _ _ _ _ (vcX8_shares_18 K _ (nI i) (nI i) ν ?_)
        refine ⟨fun _ => ⟨hCn.symm, fun a a1 a2 a3 => (hf a a1 a2).trans (q4.1 a a1 a3), fun j j1 j2 j3 j4 => ?_, ?_, fun q => absurd q c, fun _ => ⟨?_, fun j => ?_⟩⟩, fun z => absurd (nI_le (Nat.le_refl _) (by omega)) z⟩
        · rw [h0, w_up_s, upd_out j1, w_up_s, upd_out j2]; exact q4.2 j j3 j4
        · rw [h0, w_up_s, upd_out (by decide), w_up_s, upd_in]
        · rw [h0, w_up_s, upd_in, hCn]
        · rw [h29 j, hCn, hCc, q3 c, q4.1 29 (by decide) (by decide)]
      | succ d ih =>
        intro i ν hi hf h0 h29
        refine hK uX8_shares 15 _ _ _ _ (vcX8_shares_18 K _ (nI C) (nI i) ν ?_)
        have ei : (nI i).toNatClampNeg = i := nI_clamp (by omega)
        rw [ei, nI_1]
        refine ⟨fun z => absurd z (nI_ge (by omega) (by omega)), fun _ => ⟨vp_in_nI (by omega) (by omega), fun m1 hm1 => ?_⟩⟩
        refine ih (i + 1) m1 (by omega) (fun a a1 a2 => by rw [hm1, w_up_o a2]; exact hf a a1 a2) (by rw [hm1, w_up_o (by decide)]; exact h0) (fun j => ?_)
        rw [hm1, w_up_s]
        by_cases e : j = i
        · rw [e, upd_in, if_pos (by omega), hf 30 (by decide) (by decide)]
        · rw [upd_out e, h29 j]
          by_cases e2 : j < i
          · rw [if_pos e2, if_pos (by omega)]
          · rw [if_neg e2, if_neg (by omega)]
    refine ⟨fun _ => loop C 0 _ (by omega) (fun a a1 a2 => by rw [w_up_o a1, w_up_o a1]) rfl (fun j => ?_), fun q => absurd (nI_pos' (by omega)) q⟩
    rw [w_up_o (by decide), w_up_o (by decide), if_neg (by omega)]
set_option maxRecDepth 100000 in
theorem zX8_shares (l : Launch) : ∀ (idx : Nat) (S : wS), gX8_shares idx = some S → w_Call l 8 idx S 4 shM rfM 32 := by
  intro idx S hS
  unfold gX8_shares at hS
  split at hS
  · cases hS
    exact w_callV (ci := 8) (mX8_reads l) (by decide) rX8_reads eX8_reads.1 (by decide +kernel) eX8_reads.2.1 eX8_reads.2.2.1 eX8_reads.2.2.2 (by decide +kernel) (by decide) (by decide)
  · cases hS
theorem mX8_shares (l : Launch) : w_Met l yX8_shares cX8_shares 3 (some .int) 4 shM rfM 32 sX8_shares.2.2.2.1 sX8_shares.2.2.2.2 :=
  w_meth (o := 8) (Γ := gX8_shares) (tb := tX8_shares) (by decide +kernel) rfl kX8_shares rfl (zX8_shares l) (fun as μ h => by obtain ⟨rfl, h⟩ := h; exact Nat.le_of_ble_eq_true rfl) (fun as μ h K hK => by obtain ⟨rfl, h⟩ := h; exact vX8_shares  μ h K hK)
set_option maxRecDepth 100000 in
theorem eX8_shares : Cond.code yX8_shares cX8_shares 3 (some .int) ∈ w_tbl ∧ Cond.instanceMethod yX8_shares ∈ w_tbl ∧ Cond.selects (w_C 8) yX8_shares yX8_shares ∈ w_tbl ∧ Cond.initialized yX8_shares.cls ∈ w_tbl := ⟨by decide +kernel, by decide +kernel, by decide +kernel, by decide +kernel⟩
theorem rX8_shares : ∀ as μ, sX8_shares.2.2.2.1 as μ → ∃ q as', as = .ref q :: as' ∧ q < 32 ∧ shM q = .inl 8 := by
  intro as μ h
  obtain ⟨rfl, h⟩ := h
  exact ⟨_, _, rfl, by decide, rfl⟩
