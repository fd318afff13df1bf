def w_tp (μ : wM) (w : Int64) (n L j : Nat) : wM := fun a b => if a = 25 ∧ L ≤ b ∧ b < L + j then w_byte w (nI (n - 1 - (b - L))) else if a = 4 ∧ b = 1 then nI (L + j) else μ a b
theorem w_tp_0 {μ : wM} {w : Int64} {n L : Nat} (h : μ 4 1 = nI L) : w_tp μ w n L 0 = μ := by
  funext a b
  unfold w_tp
  rw [if_neg (by omega)]
  by_cases e : a = 4 ∧ b = 1
  · rw [if_pos e, e.1, e.2, h]; rfl
  · rw [if_neg e]
theorem w_tp_s {μ : wM} {w : Int64} {n L j : Nat} (hj : j < n) : w_up (w_up (w_tp μ w n L j) 25 (L + j) (w_byte w (nI (n - 1 - j)))) 4 1 (nI (L + j + 1)) = w_tp μ w n L (j + 1) := by
  funext a b
  unfold w_up w_tp
  by_cases e4 : a = 4 ∧ b = 1
  · obtain ⟨rfl, rfl⟩ := e4
    simp
    rfl
  · rw [if_neg e4, if_neg e4, if_neg e4]
    by_cases e : a = 25 ∧ b = L + j
    · obtain ⟨rfl, rfl⟩ := e
      rw [if_pos ⟨rfl, rfl⟩, if_pos ⟨rfl, by omega, by omega⟩, Nat.add_sub_cancel_left]
    · rw [if_neg e]
      by_cases e2 : a = 25 ∧ L ≤ b ∧ b < L + j
      · rw [if_pos e2, if_pos ⟨e2.1, e2.2.1, by omega⟩]
      · rw [if_neg e2, if_neg (fun z => e2 ⟨z.1, z.2.1, by
          have := z.2.2
          have : b ≠ L + j := fun q => e ⟨z.1, q⟩
          omega⟩)]
def w_skip (p : Nat → Bool) (i : Nat) : Nat → Nat
  | 0 => i
  | k + 1 => if p i then w_skip p (i + 1) k else i
theorem w_skip_le (p : Nat → Bool) : ∀ (k i : Nat), i ≤ w_skip p i k ∧ w_skip p i k ≤ i + k := by
  intro k
  induction k with
  | zero => intro i; exact ⟨Nat.le_refl _, Nat.le_refl _⟩
  | succ k ih =>
    intro i
    unfold w_skip
    by_cases h : p i = true
    · rw [if_pos h]
      have := ih (i + 1)
      omega
    · rw [if_neg h]
      omega
def w_num (f : Nat → Int32) (i : Nat) : Nat → Int32
  | 0 => 0
  | k + 1 => w_num f i k * 10 + f (i + k) - 48
def w_bb (f : Nat → Int32) (L i : Nat) : Nat := w_skip (fun j => decide (f j = 32)) i (L - i)
def w_bd (f : Nat → Int32) (L i : Nat) : Nat := w_skip (fun j => w_inB (f j) 48 57) i (L - i)
theorem w_bb_le {f : Nat → Int32} {L i : Nat} (h : i ≤ L) : i ≤ w_bb f L i ∧ w_bb f L i ≤ L := by
  have := w_skip_le (fun j => decide (f j = 32)) (L - i) i
  unfold w_bb
  omega
theorem w_bd_le {f : Nat → Int32} {L i : Nat} (h : i ≤ L) : i ≤ w_bd f L i ∧ w_bd f L i ≤ L := by
  have := w_skip_le (fun j => w_inB (f j) 48 57) (L - i) i
  unfold w_bd
  omega
theorem w_skip_yes {p : Nat → Bool} {i k : Nat} (h : p i = true) : w_skip p i (k + 1) = w_skip p (i + 1) k := by
  rw [w_skip, if_pos h]
theorem w_skip_no {p : Nat → Bool} {i k : Nat} (h : ¬ p i = true) : w_skip p i k = i := by
  cases k with
  | zero => rfl
  | succ k => rw [w_skip, if_neg h]
/-- reading the tape: the answer, and the numbers so far -/
def w_rd (f : Nat → Int32) (L : Nat) : Nat → Nat → Nat → Int32 → (Nat → Int32) → Int32 × (Nat → Int32)
  | 0, _, i, _, g => (-20 - nI i, g)
  | k + 1, c, i, t, g =>
    let a := w_bb f L i
    let e := w_bd f L a
    if e = a ∨ 3 < e - a then (-20 - nI a, g) else
    let v := w_num f a (e - a)
    if ¬ t + v ≤ 100 then (-20 - nI a, upd g c v) else
    let z := w_bb f L e
    if z = L then (nI (c + 1), upd g c v) else
    if ¬ f z = 44 ∨ c = 5 then (-20 - nI z, upd g c v) else
    w_rd f L k (c + 1) (z + 1) (t + v) (upd g c v)
/-! X6_add -/
def pX6_add (w : Int64) (n : Int32) (μ : wM) : Prop := vp_in (μ 4 1) 41 ∧ 1 ≤ n ∧ n ≤ 8 ∧ (μ 4 1).toNatClampNeg + n.toNatClampNeg ≤ 40
def qX6_add (w : Int64) (n : Int32) (μ : wM) (r : Int32) (μ' : wM) : Prop := r = nI ((μ 4 1).toNatClampNeg + n.toNatClampNeg) ∧ μ' = w_tp μ w n.toNatClampNeg (μ 4 1).toNatClampNeg n.toNatClampNeg
def sX6_add : wS := (false, false, 3, fun as μ => ∃ w, ∃ n, as = [.ref 4, .long w, .int n] ∧ pX6_add w n μ, fun as μ r μ' => match as with
  | [.ref _, .long w, .int n] => qX6_add w n μ r μ'
  | _ => False)
def gX6_add : Nat → Option wS := fun k => match k with
  | 18 => some sX6_byteOf
  | _ => none
def uX6_add : Nat → Option (List Nat) := fun j => match j with | 4 => some [2] | _ => none
set_option maxHeartbeats 4000000 in
set_option maxRecDepth 100000 in
theorem vcX6_add_0 (K : wK) (R : Int32 → wM → Prop) (w : Int64) (n : Int32) (μ : wM) (h : K 4 [some (.ref 4), some (.long w), none, some (.int n), some (.int (n - 1))] [] μ) : w_n 6 gX6_add shX rfX 43 (some .int) R tX6_add uX6_add K 20 0 [some (.ref 4), some (.long w), none, some (.int n), none] [] μ :=
  h
set_option maxHeartbeats 4000000 in
set_option maxRecDepth 100000 in
theorem vcX6_add_4 (K : wK) (R : Int32 → wM → Prop) (w : Int64) (n : Int32) (l4 : Int32) (μ : wM) (h : (
    (((l4 : Int32) < 0) → R (μ 4 1) μ) ∧
    (¬ ((l4 : Int32) < 0) → (vp_in (μ 4 1) 40) ∧ (∀ (m3 : wM), m3 = (w_up (w_up μ 25 ((μ 4 1) : Int32).toNatClampNeg (w_byte w l4)) 4 1 ((μ 4 1) + 1)) → K 4 [some (.ref 4), some (.long w), none, some (.int n), some (.int (l4 + (-1)))] [] m3)))) : w_n 6 gX6_add shX rfX 43 (some .int) R tX6_add uX6_add K 20 4 [some (.ref 4), some (.long w), none, some (.int n), some (.int l4)] [] μ :=
  And.intro (fun z252 => And.intro (And.intro (of_decide_eq_true rfl) rfl) (And.intro trivial ((h.1 z252)))) (fun z253 => And.intro (And.intro (of_decide_eq_true rfl) rfl) (And.intro (And.intro (of_decide_eq_true rfl) rfl) (And.intro (Exists.intro _ (Exists.intro _ (And.intro rfl (trivial)))) (fun _ _ z256 => by obtain ⟨z254, z255⟩ := z256; subst z254; subst z255; exact And.intro (And.intro (of_decide_eq_true rfl) (Exists.intro _ (And.intro rfl ((h.2 z253).1)))) (And.intro (And.intro (of_decide_eq_true rfl) rfl) (And.intro (And.intro (of_decide_eq_true rfl) (And.intro rfl (trivial))) (((h.2 z253).2 _ rfl))))))))
set_option maxHeartbeats 4000000 in
theorem vX6_add (w : Int64) (n : Int32) (μ : wM) (h : pX6_add w n μ) (K : wK) (hK : w_cl 6 gX6_add shX rfX 43 (some .int) (qX6_add w n μ) tX6_add K) : K 0 [some (.ref 4), some (.long w), none, some (.int n), none] [] μ := by
  unfold pX6_add at h
  obtain ⟨h1, h2, h3, h4⟩ := h
  obtain ⟨L, hL, hLn, hLc⟩ := vp_in_le h1 (by decide)
  rw [hLc] at h4
  have h8 : n.toNatClampNeg ≤ 8 := (cl_le (i := 8) (by decide)).mp h3
  obtain ⟨N, hN, hNn⟩ : ∃ N : Nat, N ≤ 8 ∧ n = nI N := nI_of2 (M := 8) (n := 8) rfl (fun z => by
    have := i_le.mp h2
    have := i_lt.mp z
    have e1 : (1 : Int32).toInt = 1 := rfl
    have e0 : (0 : Int32).toInt = 0 := rfl
    omega) h3
  have hNc : n.toNatClampNeg = N := by rw [hNn]; exact nI_clamp (by omega)
  have loop : ∀ (k j : Nat), j + k = N → K 4 [some (.ref 4), some (.long w), none, some (.int n), some (.int (nI k - 1))] [] (w_tp μ w N L j) := by
    intro k
    induction k with
    | zero =>
      intro j hj
      refine hK uX6_add 20 _ _ _ _ (vcX6_add_4 K _ w n (nI 0 - 1) (w_tp μ w N L j) ?_)
      refine ⟨fun _ => ?_, fun z => absurd (by decide) z⟩
      show _ = nI _ ∧ _ = w_tp _ _ _ _ _
      rw [hLc, hNc, show j = N by omega]
      refine ⟨?_, rfl⟩
      unfold w_tp
      rw [if_neg (by omega), if_pos ⟨rfl, rfl⟩]
    | succ k ih =>
      intro j hj
      rw [nI_pred]
      refine hK uX6_add 20 _ _ _ _ (vcX6_add_4 K _ w n (nI k) (w_tp μ w N L j) ?_)
      have e1 : w_tp μ w N L j 4 1 = nI (L + j) := by
        unfold w_tp
        rw [if_neg (by omega), if_pos ⟨rfl, rfl⟩]
      refine ⟨fun z => absurd z (nI_pos (by omega)), fun _ => ⟨by rw [e1]; exact vp_in_nI (by omega) (by omega), fun m hm => ?_⟩⟩
      rw [e1, nI_clamp (by omega), nI_1, show nI k = nI (N - 1 - j) by rw [show k = N - 1 - j by omega], w_tp_s (by omega)] at hm
      rw [hm]
      have := ih (j + 1) (by omega)
      rw [show nI k + -1 = nI k - 1 from (Int32.sub_eq_add_neg _ _).symm]
      exact this
  refine hK uX6_add 20 _ _ _ _ (vcX6_add_0 K _ w n μ ?_)
  have z := loop N 0 (by omega)
  rw [w_tp_0 hLn, ← hNn] at z
  exact z
set_option maxRecDepth 100000 in
theorem zX6_add (l : Launch) : ∀ (idx : Nat) (S : wS), gX6_add idx = some S → w_Call l 6 idx S 2 shX rfX 43 := by
  intro idx S hS
  unfold gX6_add at hS
  split at hS
  · cases hS
    exact w_callS (mX6_byteOf l) eX6_byteOf.1 (by decide +kernel) eX6_byteOf.2.1 eX6_byteOf.2.2 (by decide +kernel) (by decide) (by decide)
  · cases hS
theorem mX6_add (l : Launch) : w_Met l yX6_add cX6_add 5 (some .int) 2 shX rfX 43 sX6_add.2.2.2.1 sX6_add.2.2.2.2 :=
  w_meth (o := 6) (Γ := gX6_add) (tb := tX6_add) (by decide +kernel) rfl kX6_add rfl (zX6_add l) (fun as μ h => by obtain ⟨w, n, rfl, h⟩ := h; exact Nat.le_of_ble_eq_true rfl) (fun as μ h K hK => by obtain ⟨w, n, rfl, h⟩ := h; exact vX6_add w n μ h K hK)
set_option maxRecDepth 100000 in
theorem eX6_add : Cond.code yX6_add cX6_add 5 (some .int) ∈ w_tbl ∧ Cond.instanceMethod yX6_add ∈ w_tbl ∧ Cond.selects (w_C 6) yX6_add yX6_add ∈ w_tbl ∧ Cond.initialized yX6_add.cls ∈ w_tbl := ⟨by decide +kernel, by decide +kernel, by decide +kernel, by decide +kernel⟩
theorem rX6_add : ∀ as μ, sX6_add.2.2.2.1 as μ → ∃ q as', as = .ref q :: as' ∧ q < 43 ∧ shX q = .inl 6 := by
  intro as μ h
  obtain ⟨w, n, rfl, h⟩ := h
  exact ⟨_, _, rfl, by decide, rfl⟩

/-! X6_behindBlanks -/
def pX6_behindBlanks (i : Int32) (μ : wM) : Prop := vp_in i 41 ∧ vp_in (μ 4 1) 41 ∧ i ≤ μ 4 1
def qX6_behindBlanks (i : Int32) (μ : wM) (r : Int32) (μ' : wM) : Prop := r = (nI (w_bb (μ 25) (μ 4 1).toNatClampNeg i.toNatClampNeg)) ∧ μ' = μ
def sX6_behindBlanks : wS := (false, false, 2, fun as μ => ∃ i, as = [.ref 4, .int i] ∧ pX6_behindBlanks i μ, fun as μ r μ' => match as with
  | [.ref _, .int i] => qX6_behindBlanks i μ r μ'
  | _ => False)
def gX6_behindBlanks : Nat → Option wS := fun k => match k with
  | _ => none
def uX6_behindBlanks : Nat → Option (List Nat) := fun j => match j with | 2 => some [] | _ => none
set_option maxHeartbeats 4000000 in
set_option maxRecDepth 100000 in
theorem vcX6_behindBlanks_0 (K : wK) (R : Int32 → wM → Prop) (i : Int32) (μ : wM) (h : K 2 [some (.ref 4), some (.int i), some (.int i)] [] μ) : w_n 6 gX6_behindBlanks shX rfX 43 (some .int) R tX6_behindBlanks uX6_behindBlanks K 14 0 [some (.ref 4), some (.int i), none] [] μ :=
  h
set_option maxHeartbeats 4000000 in
set_option maxRecDepth 100000 in
theorem vcX6_behindBlanks_2 (K : wK) (R : Int32 → wM → Prop) (i : Int32) (l2 : Int32) (μ : wM) (h : (
    ((((μ 4 1) : Int32) ≤ l2) → R l2 μ) ∧
    (¬ (((μ 4 1) : Int32) ≤ l2) → (vp_in l2 40) ∧ (
      ((((μ 25 (l2 : Int32).toNatClampNeg) : Int32) = 32) → K 2 [some (.ref 4), some (.int i), some (.int (l2 + 1))] [] μ) ∧
      (¬ (((μ 25 (l2 : Int32).toNatClampNeg) : Int32) = 32) → R l2 μ))))) : w_n 6 gX6_behindBlanks shX rfX 43 (some .int) R tX6_behindBlanks uX6_behindBlanks K 14 2 [some (.ref 4), some (.int i), some (.int l2)] [] μ :=
  And.intro (And.intro (of_decide_eq_true rfl) rfl) (And.intro (fun z261 => And.intro trivial ((h.1 z261))) (fun z262 => And.intro (And.intro (of_decide_eq_true rfl) rfl) (And.intro (And.intro (of_decide_eq_true rfl) (Exists.intro _ (And.intro rfl ((h.2 z262).1)))) (And.intro (fun z263 => ((h.2 z262).2.1 z263)) (fun z264 => And.intro trivial (((h.2 z262).2.2 z264)))))))
set_option maxHeartbeats 4000000 in
theorem vX6_behindBlanks (i : Int32) (μ : wM) (h : pX6_behindBlanks i μ) (K : wK) (hK : w_cl 6 gX6_behindBlanks shX rfX 43 (some .int) (qX6_behindBlanks i μ) tX6_behindBlanks K) : K 0 [some (.ref 4), some (.int i), none] [] μ := by
  unfold pX6_behindBlanks at h
  obtain ⟨h1, h2, h3⟩ := h
  obtain ⟨L, hL, hLn, hLc⟩ := vp_in_le h2 (by decide)
  obtain ⟨I, hI, rfl, hIc⟩ := vp_in_le h1 (by decide)
  rw [hLn] at h3
  have h3 := (nI_leI (by omega) (by omega)).mp h3
  have loop : ∀ (k j : Nat), j + k = L → I ≤ j → w_bb (μ 25) L I = w_skip (fun j => decide (μ 25 j = 32)) j k → K 2 [some (.ref 4), some (.int (nI I)), some (.int (nI j))] [] μ := by
    intro k
    induction k with
    | zero =>
      intro j hj hIj he
      refine hK uX6_behindBlanks 14 _ _ _ _ (vcX6_behindBlanks_2 K _ (nI I) (nI j) μ ?_)
      rw [hLn]
      refine ⟨fun _ => ⟨?_, rfl⟩, fun z => absurd (nI_le (by omega) (by omega)) z⟩
      rw [hLc, hIc, he]
      rfl
    | succ k ih =>
      intro j hj hIj he
      refine hK uX6_behindBlanks 14 _ _ _ _ (vcX6_behindBlanks_2 K _ (nI I) (nI j) μ ?_)
      rw [hLn, nI_clamp (by omega)]
      refine ⟨fun z => absurd z (nI_ge (by omega) (by omega)), fun _ => ⟨vp_in_nI (by omega) (by omega), fun z => ?_, fun z => ⟨?_, rfl⟩⟩⟩
      · rw [nI_1]
        exact ih (j + 1) (by omega) (by omega) (by rw [he, w_skip_yes (by simp [z])])
      · rw [hLc, hIc, he, w_skip_no (by simp [z])]
  refine hK uX6_behindBlanks 14 _ _ _ _ (vcX6_behindBlanks_0 K _ (nI I) μ ?_)
  exact loop (L - I) I (by omega) (Nat.le_refl _) rfl
set_option maxRecDepth 100000 in
theorem zX6_behindBlanks (l : Launch) : ∀ (idx : Nat) (S : wS), gX6_behindBlanks idx = some S → w_Call l 6 idx S 1 shX rfX 43 := by
  intro idx S hS
  unfold gX6_behindBlanks at hS
  split at hS
  · cases hS
theorem mX6_behindBlanks (l : Launch) : w_Met l yX6_behindBlanks cX6_behindBlanks 3 (some .int) 1 shX rfX 43 sX6_behindBlanks.2.2.2.1 sX6_behindBlanks.2.2.2.2 :=
  w_meth (o := 6) (Γ := gX6_behindBlanks) (tb := tX6_behindBlanks) (by decide +kernel) rfl kX6_behindBlanks rfl (zX6_behindBlanks l) (fun as μ h => by obtain ⟨i, rfl, h⟩ := h; exact Nat.le_of_ble_eq_true rfl) (fun as μ h K hK => by obtain ⟨i, rfl, h⟩ := h; exact vX6_behindBlanks i μ h K hK)
set_option maxRecDepth 100000 in
theorem eX6_behindBlanks : Cond.code yX6_behindBlanks cX6_behindBlanks 3 (some .int) ∈ w_tbl ∧ Cond.instanceMethod yX6_behindBlanks ∈ w_tbl ∧ Cond.selects (w_C 6) yX6_behindBlanks yX6_behindBlanks ∈ w_tbl ∧ Cond.initialized yX6_behindBlanks.cls ∈ w_tbl := ⟨by decide +kernel, by decide +kernel, by decide +kernel, by decide +kernel⟩
theorem rX6_behindBlanks : ∀ as μ, sX6_behindBlanks.2.2.2.1 as μ → ∃ q as', as = .ref q :: as' ∧ q < 43 ∧ shX q = .inl 6 := by
  intro as μ h
  obtain ⟨i, rfl, h⟩ := h
  exact ⟨_, _, rfl, by decide, rfl⟩

/-! X6_behindDigits -/
def pX6_behindDigits (i : Int32) (μ : wM) : Prop := vp_in i 41 ∧ vp_in (μ 4 1) 41 ∧ i ≤ μ 4 1
def qX6_behindDigits (i : Int32) (μ : wM) (r : Int32) (μ' : wM) : Prop := r = (nI (w_bd (μ 25) (μ 4 1).toNatClampNeg i.toNatClampNeg)) ∧ μ' = μ
def sX6_behindDigits : wS := (false, false, 2, fun as μ => ∃ i, as = [.ref 4, .int i] ∧ pX6_behindDigits i μ, fun as μ r μ' => match as with
  | [.ref _, .int i] => qX6_behindDigits i μ r μ'
  | _ => False)
def gX6_behindDigits : Nat → Option wS := fun k => match k with
  | 22 => some sX7_within
  | _ => none
def uX6_behindDigits : Nat → Option (List Nat) := fun j => match j with | 2 => some [] | _ => none
set_option maxHeartbeats 4000000 in
set_option maxRecDepth 100000 in
theorem vcX6_behindDigits_0 (K : wK) (R : Int32 → wM → Prop) (i : Int32) (μ : wM) (h : K 2 [some (.ref 4), some (.int i), some (.int i)] [] μ) : w_n 6 gX6_behindDigits shX rfX 43 (some .int) R tX6_behindDigits uX6_behindDigits K 16 0 [some (.ref 4), some (.int i), none] [] μ :=
  h
set_option maxHeartbeats 4000000 in
set_option maxRecDepth 100000 in
theorem vcX6_behindDigits_2 (K : wK) (R : Int32 → wM → Prop) (i : Int32) (l2 : Int32) (μ : wM) (h : (
    ((((μ 4 1) : Int32) ≤ l2) → R l2 μ) ∧
    (¬ (((μ 4 1) : Int32) ≤ l2) → (vp_in l2 40) ∧ (
      ((w_inB (μ 25 (l2 : Int32).toNatClampNeg) 48 57) = false → R l2 μ) ∧
      ((w_inB (μ 25 (l2 : Int32).toNatClampNeg) 48 57) = true → K 2 [some (.ref 4), some (.int i), some (.int (l2 + 1))] [] μ))))) : w_n 6 gX6_behindDigits shX rfX 43 (some .int) R tX6_behindDigits uX6_behindDigits K 16 2 [some (.ref 4), some (.int i), some (.int l2)] [] μ :=
  And.intro (And.intro (of_decide_eq_true rfl) rfl) (And.intro (fun z272 => And.intro trivial ((h.1 z272))) (fun z273 => And.intro (And.intro (of_decide_eq_true rfl) rfl) (And.intro (And.intro (of_decide_eq_true rfl) (Exists.intro _ (And.intro rfl ((h.2 z273).1)))) (And.intro (Exists.intro _ (Exists.intro _ (Exists.intro _ (And.intro rfl (trivial))))) (fun _ _ z276 => by obtain ⟨z274, z275⟩ := z276; subst z274; subst z275; exact And.intro (fun z277 => And.intro trivial (((h.2 z273).2.1 (w_B01_0.mp z277)))) (fun z278 => ((h.2 z273).2.2 (w_B01_n.mp z278))))))))
set_option maxHeartbeats 4000000 in
theorem vX6_behindDigits (i : Int32) (μ : wM) (h : pX6_behindDigits i μ) (K : wK) (hK : w_cl 6 gX6_behindDigits shX rfX 43 (some .int) (qX6_behindDigits i μ) tX6_behindDigits K) : K 0 [some (.ref 4), some (.int i), none] [] μ := by
  unfold pX6_behindDigits at h
  obtain ⟨h1, h2, h3⟩ := h
  obtain ⟨L, hL, hLn, hLc⟩ := vp_in_le h2 (by decide)
  obtain ⟨I, hI, rfl, hIc⟩ := vp_in_le h1 (by decide)
  rw [hLn] at h3
  have h3 := (nI_leI (by omega) (by omega)).mp h3
  have loop : ∀ (k j : Nat), j + k = L → I ≤ j → w_bd (μ 25) L I = w_skip (fun j => w_inB (μ 25 j) 48 57) j k → K 2 [some (.ref 4), some (.int (nI I)), some (.int (nI j))] [] μ := by
    intro k
    induction k with
    | zero =>
      intro j hj hIj he
      refine hK uX6_behindDigits 16 _ _ _ _ (vcX6_behindDigits_2 K _ (nI I) (nI j) μ ?_)
      rw [hLn]
      refine ⟨fun _ => ⟨?_, rfl⟩, fun z => absurd (nI_le (by omega) (by omega)) z⟩
      rw [hLc, hIc, he]
      rfl
    | succ k ih =>
      intro j hj hIj he
      refine hK uX6_behindDigits 16 _ _ _ _ (vcX6_behindDigits_2 K _ (nI I) (nI j) μ ?_)
      rw [hLn, nI_clamp (by omega)]
      refine ⟨fun z => absurd z (nI_ge (by omega) (by omega)), fun _ => ⟨vp_in_nI (by omega) (by omega), fun z => ⟨?_, rfl⟩, fun z => ?_⟩⟩
      · rw [hLc, hIc, he, w_skip_no (by simp [z])]
      · rw [nI_1]
        exact ih (j + 1) (by omega) (by omega) (by rw [he, w_skip_yes (by simp [z])])
  refine hK uX6_behindDigits 16 _ _ _ _ (vcX6_behindDigits_0 K _ (nI I) μ ?_)
  exact loop (L - I) I (by omega) (Nat.le_refl _) rfl
set_option maxRecDepth 100000 in
theorem zX6_behindDigits (l : Launch) : ∀ (idx : Nat) (S : wS), gX6_behindDigits idx = some S → w_Call l 6 idx S 2 shX rfX 43 := by
  intro idx S hS
  unfold gX6_behindDigits at hS
  split at hS
  · cases hS
    exact w_callSN (mX7_within l) eX7_within.1 (fun U hU => hU.2) eX7_within.2.1 eX7_within.2.2 (by decide +kernel) (by decide) (by decide)
  · cases hS
theorem mX6_behindDigits (l : Launch) : w_Met l yX6_behindDigits cX6_behindDigits 3 (some .int) 2 shX rfX 43 sX6_behindDigits.2.2.2.1 sX6_behindDigits.2.2.2.2 :=
  w_meth (o := 6) (Γ := gX6_behindDigits) (tb := tX6_behindDigits) (by decide +kernel) rfl kX6_behindDigits rfl (zX6_behindDigits l) (fun as μ h => by obtain ⟨i, rfl, h⟩ := h; exact Nat.le_of_ble_eq_true rfl) (fun as μ h K hK => by obtain ⟨i, rfl, h⟩ := h; exact vX6_behindDigits i μ h K hK)
set_option maxRecDepth 100000 in
theorem eX6_behindDigits : Cond.code yX6_behindDigits cX6_behindDigits 3 (some .int) ∈ w_tbl ∧ Cond.instanceMethod yX6_behindDigits ∈ w_tbl ∧ Cond.selects (w_C 6) yX6_behindDigits yX6_behindDigits ∈ w_tbl ∧ Cond.initialized yX6_behindDigits.cls ∈ w_tbl := ⟨by decide +kernel, by decide +kernel, by decide +kernel, by decide +kernel⟩
theorem rX6_behindDigits : ∀ as μ, sX6_behindDigits.2.2.2.1 as μ → ∃ q as', as = .ref q :: as' ∧ q < 43 ∧ shX q = .inl 6 := by
  intro as μ h
  obtain ⟨i, rfl, h⟩ := h
  exact ⟨_, _, rfl, by decide, rfl⟩

/-! X6_numberOf -/
def pX6_numberOf (i : Int32) (k : Int32) (μ : wM) : Prop := vp_in i 41 ∧ vp_in k 41 ∧ i ≤ k
def qX6_numberOf (i : Int32) (k : Int32) (μ : wM) (r : Int32) (μ' : wM) : Prop := r = (w_num (μ 25) i.toNatClampNeg (k.toNatClampNeg - i.toNatClampNeg)) ∧ μ' = μ
def sX6_numberOf : wS := (false, false, 3, fun as μ => ∃ i, ∃ k, as = [.ref 4, .int i, .int k] ∧ pX6_numberOf i k μ, fun as μ r μ' => match as with
  | [.ref _, .int i, .int k] => qX6_numberOf i k μ r μ'
  | _ => False)
def gX6_numberOf : Nat → Option wS := fun k => match k with
  | _ => none
def uX6_numberOf : Nat → Option (List Nat) := fun j => match j with | 4 => some [] | _ => none
set_option maxHeartbeats 4000000 in
set_option maxRecDepth 100000 in
theorem vcX6_numberOf_0 (K : wK) (R : Int32 → wM → Prop) (i : Int32) (k : Int32) (μ : wM) (h : K 4 [some (.ref 4), some (.int i), some (.int k), some (.int 0), some (.int i)] [] μ) : w_n 6 gX6_numberOf shX rfX 43 (some .int) R tX6_numberOf uX6_numberOf K 18 0 [some (.ref 4), some (.int i), some (.int k), none, none] [] μ :=
  h
set_option maxHeartbeats 4000000 in
set_option maxRecDepth 100000 in
theorem vcX6_numberOf_4 (K : wK) (R : Int32 → wM → Prop) (i : Int32) (k : Int32) (l3 : Int32) (l4 : Int32) (μ : wM) (h : (
    (((k : Int32) ≤ l4) → R l3 μ) ∧
    (¬ ((k : Int32) ≤ l4) → (vp_in l4 40) ∧ (∀ (x1 : Int32), x1 = (((l3 * 10) + (μ 25 (l4 : Int32).toNatClampNeg)) - 48) → K 4 [some (.ref 4), some (.int i), some (.int k), some (.int x1), some (.int (l4 + 1))] [] μ)))) : w_n 6 gX6_numberOf shX rfX 43 (some .int) R tX6_numberOf uX6_numberOf K 18 4 [some (.ref 4), some (.int i), some (.int k), some (.int l3), some (.int l4)] [] μ :=
  And.intro (fun z281 => And.intro trivial ((h.1 z281))) (fun z282 => And.intro (And.intro (of_decide_eq_true rfl) rfl) (And.intro (And.intro (of_decide_eq_true rfl) (Exists.intro _ (And.intro rfl ((h.2 z282).1)))) (((h.2 z282).2 _ rfl))))
set_option maxHeartbeats 4000000 in
theorem vX6_numberOf (i : Int32) (k : Int32) (μ : wM) (h : pX6_numberOf i k μ) (K : wK) (hK : w_cl 6 gX6_numberOf shX rfX 43 (some .int) (qX6_numberOf i k μ) tX6_numberOf K) : K 0 [some (.ref 4), some (.int i), some (.int k), none, none] [] μ := by
  unfold pX6_numberOf at h
  obtain ⟨h1, h2, h3⟩ := h
  obtain ⟨I, hI, rfl, hIc⟩ := vp_in_le h1 (by decide)
  obtain ⟨E, hE, rfl, hEc⟩ := vp_in_le h2 (by decide)
  have h3 := (nI_leI (by omega) (by omega)).mp h3
  have loop : ∀ (k j : Nat), I + j + k = E → K 4 [some (.ref 4), some (.int (nI I)), some (.int (nI E)), some (.int (w_num (μ 25) I j)), some (.int (nI (I + j)))] [] μ := by
    intro k
    induction k with
    | zero =>
      intro j hj
      refine hK uX6_numberOf 18 _ _ _ _ (vcX6_numberOf_4 K _ (nI I) (nI E) (w_num (μ 25) I j) (nI (I + j)) μ ?_)
      refine ⟨fun _ => ⟨?_, rfl⟩, fun z => absurd (nI_le (by omega) (by omega)) z⟩
      rw [hEc, hIc, show j = E - I by omega]
    | succ k ih =>
      intro j hj
      refine hK uX6_numberOf 18 _ _ _ _ (vcX6_numberOf_4 K _ (nI I) (nI E) (w_num (μ 25) I j) (nI (I + j)) μ ?_)
      refine ⟨fun z => absurd z (nI_ge (by omega) (by omega)), fun _ => ⟨vp_in_nI (by omega) (by omega), fun x hx => ?_⟩⟩
      rw [nI_clamp (by omega)] at hx
      rw [nI_1, hx]
      exact ih (j + 1) (by omega)
  refine hK uX6_numberOf 18 _ _ _ _ (vcX6_numberOf_0 K _ (nI I) (nI E) μ ?_)
  exact loop (E - I) 0 (by omega)
set_option maxRecDepth 100000 in
theorem zX6_numberOf (l : Launch) : ∀ (idx : Nat) (S : wS), gX6_numberOf idx = some S → w_Call l 6 idx S 1 shX rfX 43 := by
  intro idx S hS
  unfold gX6_numberOf at hS
  split at hS
  · cases hS
theorem mX6_numberOf (l : Launch) : w_Met l yX6_numberOf cX6_numberOf 5 (some .int) 1 shX rfX 43 sX6_numberOf.2.2.2.1 sX6_numberOf.2.2.2.2 :=
  w_meth (o := 6) (Γ := gX6_numberOf) (tb := tX6_numberOf) (by decide +kernel) rfl kX6_numberOf rfl (zX6_numberOf l) (fun as μ h => by obtain ⟨i, k, rfl, h⟩ := h; exact Nat.le_of_ble_eq_true rfl) (fun as μ h K hK => by obtain ⟨i, k, rfl, h⟩ := h; exact vX6_numberOf i k μ h K hK)
set_option maxRecDepth 100000 in
theorem eX6_numberOf : Cond.code yX6_numberOf cX6_numberOf 5 (some .int) ∈ w_tbl ∧ Cond.instanceMethod yX6_numberOf ∈ w_tbl ∧ Cond.selects (w_C 6) yX6_numberOf yX6_numberOf ∈ w_tbl ∧ Cond.initialized yX6_numberOf.cls ∈ w_tbl := ⟨by decide +kernel, by decide +kernel, by decide +kernel, by decide +kernel⟩
theorem rX6_numberOf : ∀ as μ, sX6_numberOf.2.2.2.1 as μ → ∃ q as', as = .ref q :: as' ∧ q < 43 ∧ shX q = .inl 6 := by
  intro as μ h
  obtain ⟨i, k, rfl, h⟩ := h
  exact ⟨_, _, rfl, by decide, rfl⟩

/-! X6_read -/
def pX6_read (μ : wM) : Prop := vp_in (μ 4 1) 41
def qX6_read (μ : wM) (r : Int32) (μ' : wM) : Prop := ∃ g, r = (w_rd (μ 25) (μ 4 1).toNatClampNeg 6 0 0 0 (μ 24)).1 ∧ g = (w_rd (μ 25) (μ 4 1).toNatClampNeg 6 0 0 0 (μ 24)).2 ∧ μ' = fun a => if a = 24 then g else μ a
def sX6_read : wS := (false, false, 1, fun as μ => as = [.ref 4] ∧ pX6_read μ, fun as μ r μ' => match as with
  | [.ref _] => qX6_read μ r μ'
  | _ => False)
def gX6_read : Nat → Option wS := fun k => match k with
  | 32 => some sX6_behindBlanks
  | 36 => some sX6_behindDigits
  | 39 => some sX6_numberOf
  | _ => none
def uX6_read : Nat → Option (List Nat) := fun j => match j with | 6 => some [4] | _ => none
set_option maxHeartbeats 4000000 in
set_option maxRecDepth 100000 in
theorem vcX6_read_0 (K : wK) (R : Int32 → wM → Prop) (μ : wM) (h : K 6 [some (.ref 4), some (.int 0), some (.int 0), some (.int 0), none] [] μ) : w_n 6 gX6_read shX rfX 43 (some .int) R tX6_read uX6_read K 59 0 [some (.ref 4), none, none, none, none] [] μ :=
  h
set_option maxHeartbeats 4000000 in
set_option maxRecDepth 100000 in
theorem vcX6_read_6 (K : wK) (R : Int32 → wM → Prop) (l1 : Int32) (l2 : Int32) (l3 : Int32) (μ : wM) (h : (
    (((6 : Int32) ≤ l3) → R ((-20) - l1) μ) ∧
    (¬ ((6 : Int32) ≤ l3) → pX6_behindBlanks l1 μ ∧ (∀ (x3 : Int32), x3 = (nI (w_bb (μ 25) (μ 4 1).toNatClampNeg (l1 : Int32).toNatClampNeg)) → pX6_behindDigits x3 μ ∧ (∀ (x6 : Int32), x6 = (nI (w_bd (μ 25) (μ 4 1).toNatClampNeg (x3 : Int32).toNatClampNeg)) → (
      (((x6 : Int32) = x3) → R ((-20) - x3) μ) ∧
      (¬ ((x6 : Int32) = x3) → (
        ((((x6 - x3) : Int32) ≤ 3) → pX6_numberOf x3 x6 μ ∧ (vp_in l3 6) ∧ (∀ (m9 : wM), m9 = (w_up μ 24 (l3 : Int32).toNatClampNeg (w_num (μ 25) (x3 : Int32).toNatClampNeg ((x6 : Int32).toNatClampNeg - (x3 : Int32).toNatClampNeg))) → (∀ (x10 : Int32), x10 = (l2 + (m9 24 (l3 : Int32).toNatClampNeg)) → (
          (((x10 : Int32) ≤ 100) → pX6_behindBlanks x6 m9 ∧ (∀ (x13 : Int32), x13 = (nI (w_bb (m9 25) (m9 4 1).toNatClampNeg (x6 : Int32).toNatClampNeg)) → (
            (((x13 : Int32) = (μ 4 1)) → R (l3 + 1) m9) ∧
            (¬ ((x13 : Int32) = (μ 4 1)) → (vp_in x13 40) ∧ (
              ((((μ 25 (x13 : Int32).toNatClampNeg) : Int32) = 44) → (
                (((l3 : Int32) = 5) → R ((-20) - x13) m9) ∧
                (¬ ((l3 : Int32) = 5) → K 6 [some (.ref 4), some (.int (x13 + 1)), some (.int x10), some (.int (l3 + 1)), none] [] m9))) ∧
              (¬ (((μ 25 (x13 : Int32).toNatClampNeg) : Int32) = 44) → R ((-20) - x13) m9)))))) ∧
          (¬ ((x10 : Int32) ≤ 100) → R ((-20) - x3) m9))))) ∧
        (¬ (((x6 - x3) : Int32) ≤ 3) → R ((-20) - x3) μ))))))))) : w_n 6 gX6_read shX rfX 43 (some .int) R tX6_read uX6_read K 59 6 [some (.ref 4), some (.int l1), some (.int l2), some (.int l3), none] [] μ :=
  And.intro (fun z309 => And.intro trivial ((h.1 z309))) (fun z310 => And.intro (Exists.intro _ (And.intro rfl ((h.2 z310).1))) (fun _ _ z313 => by obtain ⟨z311, z312⟩ := z313; subst z311; subst z312; exact And.intro (Exists.intro _ (And.intro rfl (((h.2 z310).2 _ rfl).1))) (fun _ _ z316 => by obtain ⟨z314, z315⟩ := z316; subst z314; subst z315; exact And.intro (fun z317 => And.intro trivial (((((h.2 z310).2 _ rfl).2 _ rfl).1 z317))) (fun z318 => And.intro (fun z319 => And.intro (And.intro (of_decide_eq_true rfl) rfl) (And.intro (Exists.intro _ (Exists.intro _ (And.intro rfl ((((((h.2 z310).2 _ rfl).2 _ rfl).2 z318).1 z319).1)))) (fun _ _ z323 => by obtain ⟨z321, z322⟩ := z323; subst z321; subst z322; exact And.intro (And.intro (of_decide_eq_true rfl) (Exists.intro _ (And.intro rfl ((((((h.2 z310).2 _ rfl).2 _ rfl).2 z318).1 z319).2.1)))) (And.intro (And.intro (of_decide_eq_true rfl) rfl) (And.intro (And.intro (of_decide_eq_true rfl) (Exists.intro _ (And.intro rfl ((((((h.2 z310).2 _ rfl).2 _ rfl).2 z318).1 z319).2.1)))) (And.intro (fun z324 => And.intro (Exists.intro _ (And.intro rfl (((((((((h.2 z310).2 _ rfl).2 _ rfl).2 z318).1 z319).2.2 _ rfl) _ rfl).1 z324).1))) (fun _ _ z328 => by obtain ⟨z326, z327⟩ := z328; subst z326; subst z327; exact And.intro (And.intro (of_decide_eq_true rfl) rfl) (And.intro (fun z329 => And.intro trivial (((((((((((h.2 z310).2 _ rfl).2 _ rfl).2 z318).1 z319).2.2 _ rfl) _ rfl).1 z324).2 _ rfl).1 z329))) (fun z330 => And.intro (And.intro (of_decide_eq_true rfl) rfl) (And.intro (And.intro (of_decide_eq_true rfl) (Exists.intro _ (And.intro rfl (((((((((((h.2 z310).2 _ rfl).2 _ rfl).2 z318).1 z319).2.2 _ rfl) _ rfl).1 z324).2 _ rfl).2 z330).1)))) (And.intro (fun z331 => And.intro (fun z333 => And.intro trivial (((((((((((((h.2 z310).2 _ rfl).2 _ rfl).2 z318).1 z319).2.2 _ rfl) _ rfl).1 z324).2 _ rfl).2 z330).2.1 z331).1 z333))) (fun z334 => ((((((((((((h.2 z310).2 _ rfl).2 _ rfl).2 z318).1 z319).2.2 _ rfl) _ rfl).1 z324).2 _ rfl).2 z330).2.1 z331).2 z334))) (fun z332 => And.intro trivial ((((((((((((h.2 z310).2 _ rfl).2 _ rfl).2 z318).1 z319).2.2 _ rfl) _ rfl).1 z324).2 _ rfl).2 z330).2.2 z332))))))))) (fun z325 => And.intro trivial (((((((((h.2 z310).2 _ rfl).2 _ rfl).2 z318).1 z319).2.2 _ rfl) _ rfl).2 z325))))))))) (fun z320 => And.intro trivial ((((((h.2 z310).2 _ rfl).2 _ rfl).2 z318).2 z320)))))))
set_option maxHeartbeats 4000000 in
theorem vX6_read (μ : wM) (h : pX6_read μ) (K : wK) (hK : w_cl 6 gX6_read shX rfX 43 (some .int) (qX6_read μ) tX6_read K) : K 0 [some (.ref 4), none, none, none, none] [] μ := by
  unfold pX6_read at h
  obtain ⟨L, hL, hLn, hLc⟩ := vp_in_le h (by decide)
  have loop : ∀ (k c i : Nat) (t : Int32) (g : Nat → Int32), c + k = 6 → i ≤ L → w_rd (μ 25) L k c i t g = w_rd (μ 25) L 6 0 0 0 (μ 24) → K 6 [some (.ref 4), some (.int (nI i)), some (.int t), some (.int (nI c)), none] [] (fun a => if a = 24 then g else μ a) := by
    intro k
    induction k with
    | zero =>
      intro c i t g hc hi he
      refine hK uX6_read 59 _ _ _ _ (vcX6_read_6 K _ (nI i) t (nI c) (fun a => if a = 24 then g else μ a) ?_)
      refine ⟨fun _ => ?_, fun z => absurd (nI_le (a := 6) (by omega) (by omega)) z⟩
      unfold qX6_read
      rw [hLc, ← he]
      exact ⟨g, rfl, rfl, rfl⟩
    | succ k ih =>
      intro c i t g hc hi he
      have fin : ∀ (r : Int32) (g2 : Nat → Int32), w_rd (μ 25) L 6 0 0 0 (μ 24) = (r, g2) → qX6_read μ r (fun a => if a = 24 then g2 else μ a) := by
        intro r g2 e
        unfold qX6_read
        rw [hLc, e]
        exact ⟨g2, rfl, rfl, rfl⟩
      have b1 := w_bb_le (f := μ 25) hi
      have b2 := w_bd_le (f := μ 25) b1.2
      have b3 := w_bb_le (f := μ 25) b2.2
      have hup : ∀ v : Int32, w_up (fun a => if a = 24 then g else μ a) 24 c v = fun a => if a = 24 then upd g c v else μ a := by
        intro v
        funext a b
        unfold w_up upd
        by_cases ha : a = 24
        · by_cases hb : b = c <;> simp [ha, hb]
        · simp [ha]
      rw [w_rd] at he
      refine hK uX6_read 59 _ _ _ _ (vcX6_read_6 K _ (nI i) t (nI c) (fun a => if a = 24 then g else μ a) ?_)
      refine ⟨fun z => absurd z (nI_ge (b := 6) (by omega) (by omega)), fun _ => ⟨⟨vp_in_nI (by omega) (by omega), h, ?_⟩, fun x3 hx3 => ?_⟩⟩
      · show nI i ≤ μ 4 1
        rw [hLn]
        exact nI_le hi (by omega)
      have hx3 : x3 = nI (w_bb (μ 25) L i) := by
        rw [hx3]
        show nI (w_bb (μ 25) (μ 4 1).toNatClampNeg (nI i).toNatClampNeg) = _
        rw [hLc, nI_clamp (by omega)]
      refine ⟨⟨by rw [hx3]; exact vp_in_nI (by omega) (by omega), h, ?_⟩, fun x6 hx6 => ?_⟩
      · show x3 ≤ μ 4 1
        rw [hLn, hx3]
        exact nI_le b1.2 (by omega)
      have hx6 : x6 = nI (w_bd (μ 25) L (w_bb (μ 25) L i)) := by
        rw [hx6, hx3]
        show nI (w_bd (μ 25) (μ 4 1).toNatClampNeg (nI (w_bb (μ 25) L i)).toNatClampNeg) = _
        rw [hLc, nI_clamp (by omega)]
      generalize ha : w_bb (μ 25) L i = a at *
      generalize hz : w_bd (μ 25) L a = z at *
      dsimp only at he
      refine ⟨fun c1 => ?_, fun c1 => ⟨fun c2 => ⟨⟨by rw [hx3]; exact vp_in_nI (by omega) (by omega), by rw [hx6]; exact vp_in_nI (by omega) (by omega), by rw [hx3, hx6]; exact nI_le (by omega) (by omega)⟩, vp_in_nI (by omega) (by omega), fun m9 hm9 x10 hx10 => ⟨fun c3 => ?_, fun c3 => ?_⟩⟩, fun c2 => ?_⟩⟩
      · rw [hx3, hx6] at c1
        have c1 := (nI_eq (by omega) (by omega)).mp c1
        rw [if_pos (Or.inl c1)] at he
        rw [hx3]
        exact fin _ _ he.symm
      · rw [hx3, hx6] at c1 c2
        have c1 : ¬ z = a := fun q => c1 (by rw [q])
        rw [pk_sub (by omega)] at c2
        have c2 : z - a ≤ 3 := (nI_leI (b := 3) (by omega) (by omega)).mp c2
        rw [if_neg (by omega)] at he
        have hm9 : m9 = fun q => if q = 24 then upd g c (w_num (μ 25) a (z - a)) else μ q := by
          rw [hm9, hx3, hx6, nI_clamp (by omega), nI_clamp (by omega), nI_clamp (by omega), ← hup]
          rfl
        have hx10 : x10 = t + w_num (μ 25) a (z - a) := by
          rw [hx10, hm9, nI_clamp (by omega)]
          simp [upd]
        rw [if_neg (fun q => q (by rw [← hx10]; exact c3))] at he
        have q1 : m9 4 1 = nI L := by rw [hm9]; exact hLn
        have q2 : m9 25 = μ 25 := by rw [hm9]; rfl
        refine ⟨⟨by rw [hx6]; exact vp_in_nI (by omega) (by omega), by rw [q1]; exact vp_in_nI (by omega) (by omega), by rw [q1, hx6]; exact nI_le (by omega) (by omega)⟩, fun x13 hx13 => ?_⟩
        have hx13 : x13 = nI (w_bb (μ 25) L z) := by
          rw [hx13, q1, q2, hx6, nI_clamp (by omega), nI_clamp (by omega)]
        generalize hw : w_bb (μ 25) L z = w at *
        refine ⟨fun c4 => ?_, fun c4 => ⟨?_, fun c5 => ⟨fun c6 => ?_, fun c6 => ?_⟩, fun c5 => ?_⟩⟩
        · have c4 : x13 = μ 4 1 := c4
          rw [hLn, hx13] at c4
          rw [if_pos ((nI_eq (by omega) (by omega)).mp c4)] at he
          rw [nI_1, hm9]
          exact fin _ _ he.symm
        · have c4 : ¬ x13 = μ 4 1 := c4
          rw [hLn, hx13] at c4
          rw [hx13]
          exact vp_in_nI (by have : ¬ w = L := fun q => c4 (by rw [q]); omega) (by omega)
        · have c4 : ¬ x13 = μ 4 1 := c4
          rw [hLn, hx13] at c4
          rw [if_neg (fun q => c4 (by rw [q]))] at he
          have c6 : c = 5 := (nI_eq (b := 5) (by omega) (by omega)).mp c6
          rw [if_pos (Or.inr c6)] at he
          rw [hm9, hx13]
          exact fin _ _ he.symm
        · have c4 : ¬ x13 = μ 4 1 := c4
          rw [hLn, hx13] at c4
          rw [if_neg (fun q => c4 (by rw [q]))] at he
          have c5 : μ 25 x13.toNatClampNeg = 44 := c5
          rw [hx13, nI_clamp (by omega)] at c5
          have c6 : ¬ c = 5 := fun q => c6 (by rw [q]; rfl)
          rw [if_neg (by rintro (q | q); exact q c5; exact c6 q), ← hx10] at he
          rw [hm9, hx13, nI_1, nI_1]
          exact ih (c + 1) (w + 1) x10 _ (by omega) (by have : ¬ w = L := fun q => c4 (by rw [q]); omega) he
        · have c4 : ¬ x13 = μ 4 1 := c4
          rw [hLn, hx13] at c4
          rw [if_neg (fun q => c4 (by rw [q]))] at he
          have c5 : ¬ μ 25 x13.toNatClampNeg = 44 := c5
          rw [hx13, nI_clamp (by omega)] at c5
          rw [if_pos (Or.inl c5)] at he
          rw [hm9, hx13]
          exact fin _ _ he.symm
      · rw [hx3, hx6] at c1 c2
        have c1 : ¬ z = a := fun q => c1 (by rw [q])
        rw [pk_sub (by omega)] at c2
        have c2 : z - a ≤ 3 := (nI_leI (b := 3) (by omega) (by omega)).mp c2
        rw [if_neg (by omega)] at he
        have hm9 : m9 = fun q => if q = 24 then upd g c (w_num (μ 25) a (z - a)) else μ q := by
          rw [hm9, hx3, hx6, nI_clamp (by omega), nI_clamp (by omega), nI_clamp (by omega), ← hup]
          rfl
        have hx10 : x10 = t + w_num (μ 25) a (z - a) := by
          rw [hx10, hm9, nI_clamp (by omega)]
          simp [upd]
        rw [if_pos (fun q => c3 (by rw [hx10]; exact q))] at he
        rw [hm9, hx3]
        exact fin _ _ he.symm
      · rw [hx3, hx6] at c1 c2
        have c1 : ¬ z = a := fun q => c1 (by rw [q])
        rw [pk_sub (by omega)] at c2
        have c2 : ¬ z - a ≤ 3 := fun q => c2 ((nI_leI (b := 3) (by omega) (by omega)).mpr q)
        rw [if_pos (Or.inr (by omega))] at he
        rw [hx3]
        exact fin _ _ he.symm
  refine hK uX6_read 59 _ _ _ _ (vcX6_read_0 K _ μ ?_)
  have z := loop 6 0 0 0 (μ 24) rfl (Nat.zero_le _) rfl
  rw [show (fun a => if a = 24 then μ 24 else μ a) = μ from by funext a; by_cases ha : a = 24 <;> simp [ha]] at z
  exact z
set_option maxRecDepth 100000 in
theorem zX6_read (l : Launch) : ∀ (idx : Nat) (S : wS), gX6_read idx = some S → w_Call l 6 idx S 3 shX rfX 43 := by
  intro idx S hS
  unfold gX6_read at hS
  split at hS
  · cases hS
    exact w_callV (ci := 6) (mX6_behindBlanks l) (by decide) rX6_behindBlanks eX6_behindBlanks.1 (by decide +kernel) eX6_behindBlanks.2.1 eX6_behindBlanks.2.2.1 eX6_behindBlanks.2.2.2 (by decide +kernel) (by decide) (by decide)
  · cases hS
    exact w_callV (ci := 6) (mX6_behindDigits l) (by decide) rX6_behindDigits eX6_behindDigits.1 (by decide +kernel) eX6_behindDigits.2.1 eX6_behindDigits.2.2.1 eX6_behindDigits.2.2.2 (by decide +kernel) (by decide) (by decide)
  · cases hS
    exact w_callV (ci := 6) (mX6_numberOf l) (by decide) rX6_numberOf eX6_numberOf.1 (by decide +kernel) eX6_numberOf.2.1 eX6_numberOf.2.2.1 eX6_numberOf.2.2.2 (by decide +kernel) (by decide) (by decide)
  · cases hS
theorem mX6_read (l : Launch) : w_Met l yX6_read cX6_read 5 (some .int) 3 shX rfX 43 sX6_read.2.2.2.1 sX6_read.2.2.2.2 :=
  w_meth (o := 6) (Γ := gX6_read) (tb := tX6_read) (by decide +kernel) rfl kX6_read rfl (zX6_read l) (fun as μ h => by obtain ⟨rfl, h⟩ := h; exact Nat.le_of_ble_eq_true rfl) (fun as μ h K hK => by obtain ⟨rfl, h⟩ := h; exact vX6_read  μ h K hK)
set_option maxRecDepth 100000 in
theorem eX6_read : Cond.code yX6_read cX6_read 5 (some .int) ∈ w_tbl ∧ Cond.instanceMethod yX6_read ∈ w_tbl ∧ Cond.selects (w_C 6) yX6_read yX6_read ∈ w_tbl ∧ Cond.initialized yX6_read.cls ∈ w_tbl := ⟨by decide +kernel, by decide +kernel, by decide +kernel, by decide +kernel⟩
theorem rX6_read : ∀ as μ, sX6_read.2.2.2.1 as μ → ∃ q as', as = .ref q :: as' ∧ q < 43 ∧ shX q = .inl 6 := by
  intro as μ h
  obtain ⟨rfl, h⟩ := h
  exact ⟨_, _, rfl, by decide, rfl⟩
