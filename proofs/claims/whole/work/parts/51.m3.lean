theorem jx6 (X K : Nat) : 6 * nI X + nI K = nI (6 * X + K) := by rw [show (6 : Int32) = nI 6 from rfl, pk_mul, nI_add]
theorem jx60 (X : Nat) : 6 * nI X = nI (6 * X) := by rw [show (6 : Int32) = nI 6 from rfl, pk_mul]
theorem jx3 (X K : Nat) : 3 * nI X + nI K = nI (3 * X + K) := by rw [show (3 : Int32) = nI 3 from rfl, pk_mul, nI_add]
theorem jx30 (X : Nat) : 3 * nI X = nI (3 * X) := by rw [show (3 : Int32) = nI 3 from rfl, pk_mul]
def wm_hit (μ : wM) (e : Int32) : Nat → Bool := fun i => decide (μ 17 i = e)
def wm_stp (μ : wM) (e : Int32) : Nat → wB → wB := fun i t => w_take (μ 1 e.toNatClampNeg) (μ 7 e.toNatClampNeg) (μ 8 e.toNatClampNeg) (μ 9 e.toNatClampNeg) (μ 18 i).toNatClampNeg (μ 19 i) (μ 20 i) (μ 20 i) t
def wm_T (μ : wM) (e : Int32) (N : Nat) : wB := w_tks (wm_hit μ e) (wm_stp μ e) N w_c0
def wm_TT (μ : wM) (e : Int32) (N : Nat) : wB := if μ 1 e.toNatClampNeg = 2 then w_join (wm_T μ e N) 10 else wm_T μ e N
theorem wm_TT_rb (μ : wM) (e : Int32) (N : Nat) : wm_TT μ e N = w_rb (μ 1 e.toNatClampNeg) (μ 7 e.toNatClampNeg) (μ 8 e.toNatClampNeg) (μ 9 e.toNatClampNeg) e (μ 17) (μ 18) (μ 19) (μ 20) (μ 20) N := rfl
def wm_EV (μ : wM) (e : Int32) (N : Nat) : Prop := vp_in e 8 ∧ N ≤ 160 ∧ ∀ i, i < N → μ 17 i = e → vp_in (μ 18 i) 10 ∧ (μ 1 e.toNatClampNeg = 2 → vp_in (μ 19 i) 3 ∧ vp_in (μ 20 i) 10 ∧ ¬ μ 20 i = 0) ∧ (μ 1 e.toNatClampNeg = 1 → ¬ μ 9 e.toNatClampNeg - μ 20 i < 1)
/-- a man's slice is as the reading tells -/
def wm_OK (T : wB) (k : Int32) (X : Nat) (ν : wM) : Prop := ν 25 X = w_B01 (decide (0 < T.2.1 X)) ∧ (0 < T.2.1 X → ν 24 (6 * X) = T.1 (6 * X)) ∧ (k = 0 → ∀ i, i < 6 → ν 24 (6 * X + i) = T.1 (6 * X + i)) ∧ (k = 2 → ∀ j, j < 3 → ν 26 (3 * X + j) = T.2.2 (3 * X + j))
/-- nothing but a man's slice has changed -/
def wm_fr (X : Nat) (μ ν : wM) : Prop := (∀ a, (a < 24 ∨ 26 < a) → ν a = μ a) ∧ (∀ j, (j < 6 * X ∨ 6 * X + 6 ≤ j) → ν 24 j = μ 24 j) ∧ (∀ j, j ≠ X → ν 25 j = μ 25 j) ∧ (∀ j, (j < 3 * X ∨ 3 * X + 3 ≤ j) → ν 26 j = μ 26 j)
theorem w_ins_cg {v : Int32} {off : Nat} : ∀ (c : Nat) (f g : Nat → Int32), c ≤ 5 → (∀ j, j < 6 → f (off + j) = g (off + j)) → ∀ j, j < 6 → w_ins f off v c (off + j) = w_ins g off v c (off + j) := by
  intro c
  induction c with
  | zero =>
    intro f g hc h j hj
    rw [w_ins, w_ins]
    unfold upd
    by_cases e : off + j = off
    · rw [if_pos e, if_pos e]
    · rw [if_neg e, if_neg e, h j hj]
  | succ c ih =>
    intro f g hc h j hj
    rw [w_ins, w_ins, h c (by omega)]
    have hu : ∀ x : Int32, ∀ j, j < 6 → upd f (off + (c + 1)) x (off + j) = upd g (off + (c + 1)) x (off + j) := by
      intro x j hj
      unfold upd
      by_cases e : off + j = off + (c + 1)
      · rw [if_pos e, if_pos e]
      · rw [if_neg e, if_neg e, h j hj]
    split
    · exact ih _ _ (by omega) (hu _) j hj
    · exact hu _ j hj
/-- another man's entry leaves the slice -/
theorem w_take_o {k g sl way : Int32} {m X : Nat} {a b y : Int32} {t : wB} (hm : m ≠ X) (ha : k = 2 → a.toNatClampNeg < 3) : (w_take k g sl way m a b y t).2.1 X = t.2.1 X ∧ (∀ j, j < 6 → (w_take k g sl way m a b y t).1 (6 * X + j) = t.1 (6 * X + j)) ∧ (∀ j, j < 3 → (w_take k g sl way m a b y t).2.2 (3 * X + j) = t.2.2 (3 * X + j)) := by
  unfold w_take
  by_cases k2 : k = 2
  · rw [if_pos k2]
    refine ⟨rfl, fun _ _ => rfl, fun j hj => ?_⟩
    have := ha k2
    dsimp only
    split
    · rw [upd_out (by omega)]
    · rfl
  · rw [if_neg k2]
    by_cases k0 : k = 0
    · rw [if_pos k0]
      split
      · exact ⟨rfl, fun _ _ => rfl, fun _ _ => rfl⟩
      · next hc =>
        have hc6 : (t.2.1 m).toNatClampNeg < 6 := by
          rcases Nat.lt_or_ge (t.2.1 m).toNatClampNeg 6 with z | z
          · exact z
          · exfalso
            apply hc
            have : ¬ t.2.1 m ≤ nI 5 := fun q => by have := (cl_le (by omega)).mp q; omega
            have := i_lt.mp (i_nle.mp this)
            rw [i_le]
            have e5 : (nI 5).toInt = 5 := rfl
            have e6 : (6 : Int32).toInt = 6 := rfl
            omega
        refine ⟨?_, fun j hj => ?_, fun _ _ => rfl⟩
        · dsimp only
          rw [upd_out (fun z => hm z.symm)]
        · dsimp only
          rw [w_ins_out _ _ _ (by omega)]
    · rw [if_neg k0]
      by_cases k1 : k = 1
      · rw [if_pos k1]
        split
        · refine ⟨?_, fun j hj => ?_, fun _ _ => rfl⟩
          · dsimp only
            rw [upd_out (fun z => hm z.symm)]
          · dsimp only
            rw [upd_out (by omega)]
        · exact ⟨rfl, fun _ _ => rfl, fun _ _ => rfl⟩
      · rw [if_neg k1]
        exact ⟨rfl, fun _ _ => rfl, fun _ _ => rfl⟩
/-- a full slice stays -/
theorem w_tks_full {μ : wM} {e : Int32} {X : Nat} : ∀ (i : Nat) (t : wB), (μ 1 e.toNatClampNeg = 0 ∧ 6 ≤ t.2.1 X ∨ μ 1 e.toNatClampNeg = 1 ∧ ¬ t.2.1 X = 0) → (w_tks (wm_hit μ e) (wm_stp μ e) i t).2.1 X = t.2.1 X ∧ ∀ j, j < 6 → (w_tks (wm_hit μ e) (wm_stp μ e) i t).1 (6 * X + j) = t.1 (6 * X + j) := by
  intro i
  induction i with
  | zero => intro t _; exact ⟨rfl, fun _ _ => rfl⟩
  | succ i ih =>
    intro t ht
    rw [w_tks]
    have key : (wm_stp μ e i t).2.1 X = t.2.1 X ∧ ∀ j, j < 6 → (wm_stp μ e i t).1 (6 * X + j) = t.1 (6 * X + j) := by
      by_cases c : (μ 18 i).toNatClampNeg = X
      · unfold wm_stp w_take
        rw [c]
        rcases ht with ⟨h1, h2⟩ | ⟨h1, h2⟩
        · rw [if_neg (by rw [h1]; decide), if_pos h1, if_pos h2]
          exact ⟨rfl, fun _ _ => rfl⟩
        · rw [if_neg (by rw [h1]; decide), if_neg (by rw [h1]; decide), if_pos h1, if_neg h2]
          exact ⟨rfl, fun _ _ => rfl⟩
      · have := w_take_o (k := μ 1 e.toNatClampNeg) (g := μ 7 e.toNatClampNeg) (sl := μ 8 e.toNatClampNeg) (way := μ 9 e.toNatClampNeg) (a := μ 19 i) (b := μ 20 i) (y := μ 20 i) (t := t) c (fun k2 => by rcases ht with ⟨h1, -⟩ | ⟨h1, -⟩ <;> rw [h1] at k2 <;> exact absurd k2 (by decide))
        exact ⟨this.1, this.2.1⟩
    by_cases c : wm_hit μ e i = true
    · rw [if_pos c]
      have := ih (wm_stp μ e i t) (by rw [key.1]; exact ht)
      exact ⟨this.1.trans key.1, fun j hj => (this.2 j hj).trans (key.2 j hj)⟩
    · rw [if_neg c]
      exact ih t ht
/-! X8_fairMark -/
def pX8_fairMark (e : Int32) (k : Int32) (μ : wM) : Prop := vp_in e 8 ∧ vp_in k 160
def qX8_fairMark (e : Int32) (k : Int32) (μ : wM) (r : Int32) (μ' : wM) : Prop := r = (w_fair (μ 7 e.toNatClampNeg) (μ 8 e.toNatClampNeg) (μ 19 k.toNatClampNeg) (μ 20 k.toNatClampNeg)) ∧ μ' = μ
def sX8_fairMark : wS := (false, false, 3, fun as μ => ∃ e, ∃ k, as = [.ref 0, .int e, .int k] ∧ pX8_fairMark e k μ, fun as μ r μ' => match as with
  | [.ref _, .int e, .int k] => qX8_fairMark e k μ r μ'
  | _ => False)
def gX8_fairMark : Nat → Option wS := fun k => match k with
  | _ => none
def uX8_fairMark : Nat → Option (List Nat) := fun _ => none
set_option maxHeartbeats 4000000 in
set_option maxRecDepth 100000 in
theorem vcX8_fairMark_0 (K : wK) (R : Int32 → wM → Prop) (e : Int32) (k : Int32) (μ : wM) (h : (vp_in k 160) ∧ (
    (((0 : Int32) ≤ (μ 19 (k : Int32).toNatClampNeg)) → (vp_in e 8) ∧ (∀ (x1 : Int64), x1 = (((((μ 19 (k : Int32).toNatClampNeg) : Int32).toInt64) * ((((1000 - (μ 8 (e : Int32).toNatClampNeg)) - (2 * (μ 20 (k : Int32).toNatClampNeg))) : Int32).toInt64)) * (((μ 7 (e : Int32).toNatClampNeg) : Int32).toInt64)) → R (((x1 / 10000000) : Int64).toInt32) μ)) ∧
    (¬ ((0 : Int32) ≤ (μ 19 (k : Int32).toNatClampNeg)) → R (-1) μ))) : w_n 8 gX8_fairMark shM rfM 32 (some .int) R tX8_fairMark uX8_fairMark K 38 0 [some (.ref 0), some (.int e), some (.int k), none, none] [] μ :=
  And.intro (And.intro (of_decide_eq_true rfl) rfl) (And.intro (And.intro (of_decide_eq_true rfl) (Exists.intro _ (And.intro rfl (h.1)))) (And.intro (fun z2191 => And.intro (And.intro (of_decide_eq_true rfl) rfl) (And.intro (And.intro (of_decide_eq_true rfl) (Exists.intro _ (And.intro rfl (h.1)))) (And.intro (And.intro (of_decide_eq_true rfl) rfl) (And.intro (And.intro (of_decide_eq_true rfl) (Exists.intro _ (And.intro rfl ((h.2.1 z2191).1)))) (And.intro (And.intro (of_decide_eq_true rfl) rfl) (And.intro (And.intro (of_decide_eq_true rfl) (Exists.intro _ (And.intro rfl (h.1)))) (And.intro (And.intro (of_decide_eq_true rfl) rfl) (And.intro (And.intro (of_decide_eq_true rfl) (Exists.intro _ (And.intro rfl ((h.2.1 z2191).1)))) (And.intro ((by decide)) (And.intro trivial (((h.2.1 z2191).2 _ rfl)))))))))))) (fun z2192 => And.intro trivial ((h.2.2 z2192)))))
set_option maxHeartbeats 4000000 in
theorem vX8_fairMark (e : Int32) (k : Int32) (μ : wM) (h : pX8_fairMark e k μ) (K : wK) (hK : w_cl 8 gX8_fairMark shM rfM 32 (some .int) (qX8_fairMark e k μ) tX8_fairMark K) : K 0 [some (.ref 0), some (.int e), some (.int k), none, none] [] μ := by
  refine hK uX8_fairMark 38 _ _ _ _ (vcX8_fairMark_0 K _ e k μ ?_)
  clear hK
  unfold pX8_fairMark at h
  unfold qX8_fairMark
  unfold w_fair
  refine ⟨h.2, fun c => ⟨h.1, fun x1 hx1 => ⟨?_, rfl⟩⟩, fun c => ⟨?_, rfl⟩⟩
  · rw [if_neg (i_nlt.mpr c), hx1]
  · rw [if_pos (i_nle.mp c)]
set_option maxRecDepth 100000 in
theorem zX8_fairMark (l : Launch) : ∀ (idx : Nat) (S : wS), gX8_fairMark idx = some S → w_Call l 8 idx S 1 shM rfM 32 := by
  intro idx S hS
  unfold gX8_fairMark at hS
  split at hS
  · cases hS
theorem mX8_fairMark (l : Launch) : w_Met l yX8_fairMark cX8_fairMark 5 (some .int) 1 shM rfM 32 sX8_fairMark.2.2.2.1 sX8_fairMark.2.2.2.2 :=
  w_meth (o := 8) (Γ := gX8_fairMark) (tb := tX8_fairMark) (by decide +kernel) rfl kX8_fairMark rfl (zX8_fairMark l) (fun as μ h => by obtain ⟨e, k, rfl, h⟩ := h; exact Nat.le_of_ble_eq_true rfl) (fun as μ h K hK => by obtain ⟨e, k, rfl, h⟩ := h; exact vX8_fairMark e k μ h K hK)
set_option maxRecDepth 100000 in
theorem eX8_fairMark : Cond.code yX8_fairMark cX8_fairMark 5 (some .int) ∈ w_tbl ∧ Cond.instanceMethod yX8_fairMark ∈ w_tbl ∧ Cond.selects (w_C 8) yX8_fairMark yX8_fairMark ∈ w_tbl ∧ Cond.initialized yX8_fairMark.cls ∈ w_tbl := ⟨by decide +kernel, by decide +kernel, by decide +kernel, by decide +kernel⟩
theorem rX8_fairMark : ∀ as μ, sX8_fairMark.2.2.2.1 as μ → ∃ q as', as = .ref q :: as' ∧ q < 32 ∧ shM q = .inl 8 := by
  intro as μ h
  obtain ⟨e, k, rfl, h⟩ := h
  exact ⟨_, _, rfl, by decide, rfl⟩

/-! X8_markThrow -/
def pX8_markThrow (e : Int32) (x : Int32) (n : Int32) (μ : wM) : Prop := ∃ X N : Nat, x = nI X ∧ X < 10 ∧ n = nI N ∧ wm_EV μ e N ∧ μ 1 e.toNatClampNeg = 0
def qX8_markThrow (e : Int32) (x : Int32) (n : Int32) (μ : wM) (r : Int32) (μ' : wM) : Prop := ∃ X N : Nat, x = nI X ∧ X < 10 ∧ n = nI N ∧ N ≤ 160 ∧ wm_OK (wm_TT μ e N) (μ 1 e.toNatClampNeg) X μ' ∧ wm_fr X μ μ'
def sX8_markThrow : wS := (false, true, 4, fun as μ => ∃ e, ∃ x, ∃ n, as = [.ref 0, .int e, .int x, .int n] ∧ pX8_markThrow e x n μ, fun as μ r μ' => match as with
  | [.ref _, .int e, .int x, .int n] => qX8_markThrow e x n μ r μ'
  | _ => False)
def gX8_markThrow : Nat → Option wS := fun k => match k with
  | 175 => some sX8_fairMark
  | _ => none
def uX8_markThrow : Nat → Option (List Nat) := fun j => match j with | 4 => some [6, 7] | 22 => some [6, 7] | 50 => some [] | _ => none
set_option maxHeartbeats 4000000 in
set_option maxRecDepth 100000 in
theorem vcX8_markThrow_0 (K : wK) (R : Int32 → wM → Prop) (e : Int32) (x : Int32) (n : Int32) (μ : wM) (h : K 4 [some (.ref 0), some (.int e), some (.int x), some (.int n), some (.int 0), some (.int 0), none, none] [] μ) : w_n 8 gX8_markThrow shM rfM 32 none R tX8_markThrow uX8_markThrow K 30 0 [some (.ref 0), some (.int e), some (.int x), some (.int n), none, none, none, none] [] μ :=
  h
set_option maxHeartbeats 4000000 in
set_option maxRecDepth 100000 in
theorem vcX8_markThrow_4 (K : wK) (R : Int32 → wM → Prop) (e : Int32) (x : Int32) (n : Int32) (l4 : Int32) (l5 : Int32) (μ : wM) (h : (
    (((6 : Int32) ≤ l5) → K 22 [some (.ref 0), some (.int e), some (.int x), some (.int n), some (.int l4), some (.int (n - 1)), none, none] [] μ) ∧
    (¬ ((6 : Int32) ≤ l5) → (vp_in ((6 * x) + l5) 60) ∧ K 4 [some (.ref 0), some (.int e), some (.int x), some (.int n), some (.int l4), some (.int (l5 + 1)), none, none] [] (w_up μ 24 (((6 * x) + l5) : Int32).toNatClampNeg (-1))))) : w_n 8 gX8_markThrow shM rfM 32 none R tX8_markThrow uX8_markThrow K 30 4 [some (.ref 0), some (.int e), some (.int x), some (.int n), some (.int l4), some (.int l5), none, none] [] μ :=
  And.intro (fun z2214 => (h.1 z2214)) (fun z2215 => And.intro (And.intro (of_decide_eq_true rfl) rfl) (And.intro (And.intro (of_decide_eq_true rfl) (Exists.intro _ (And.intro rfl ((h.2 z2215).1)))) ((h.2 z2215).2)))
set_option maxHeartbeats 4000000 in
set_option maxRecDepth 100000 in
theorem vcX8_markThrow_22 (K : wK) (R : Int32 → wM → Prop) (e : Int32) (x : Int32) (n : Int32) (l4 : Int32) (l5 : Int32) (μ : wM) (h : (
    (((l5 : Int32) < 0) → (
      (((l4 : Int32) ≤ 0) → (vp_in x 10) ∧ R 0 (w_up μ 25 (x : Int32).toNatClampNeg 0)) ∧
      (¬ ((l4 : Int32) ≤ 0) → (vp_in x 10) ∧ R 0 (w_up μ 25 (x : Int32).toNatClampNeg 1)))) ∧
    (¬ ((l5 : Int32) < 0) → (
      (((6 : Int32) ≤ l4) → (
        (((l4 : Int32) ≤ 0) → (vp_in x 10) ∧ R 0 (w_up μ 25 (x : Int32).toNatClampNeg 0)) ∧
        (¬ ((l4 : Int32) ≤ 0) → (vp_in x 10) ∧ R 0 (w_up μ 25 (x : Int32).toNatClampNeg 1)))) ∧
      (¬ ((6 : Int32) ≤ l4) → (vp_in l5 160) ∧ (
        ((((μ 17 (l5 : Int32).toNatClampNeg) : Int32) = e) → (
          ((((μ 18 (l5 : Int32).toNatClampNeg) : Int32) = x) → pX8_fairMark e l5 μ ∧ (∀ (x3 : Int32), x3 = (w_fair (μ 7 (e : Int32).toNatClampNeg) (μ 8 (e : Int32).toNatClampNeg) (μ 19 (l5 : Int32).toNatClampNeg) (μ 20 (l5 : Int32).toNatClampNeg)) → K 50 [some (.ref 0), some (.int e), some (.int x), some (.int n), some (.int l4), some (.int l5), some (.int x3), some (.int ((6 * x) + l4))] [] μ)) ∧
          (¬ (((μ 18 (l5 : Int32).toNatClampNeg) : Int32) = x) → K 22 [some (.ref 0), some (.int e), some (.int x), some (.int n), some (.int l4), some (.int (l5 + (-1))), none, none] [] μ))) ∧
        (¬ (((μ 17 (l5 : Int32).toNatClampNeg) : Int32) = e) → K 22 [some (.ref 0), some (.int e), some (.int x), some (.int n), some (.int l4), some (.int (l5 + (-1))), none, none] [] μ))))))) : w_n 8 gX8_markThrow shM rfM 32 none R tX8_markThrow uX8_markThrow K 30 22 [some (.ref 0), some (.int e), some (.int x), some (.int n), some (.int l4), some (.int l5), none, none] [] μ :=
  And.intro (fun z2216 => And.intro (And.intro (of_decide_eq_true rfl) rfl) (And.intro (fun z2218 => And.intro (And.intro (And.intro (of_decide_eq_true rfl) (Exists.intro _ (And.intro rfl (((h.1 z2216).1 z2218).1)))) (Or.inl rfl)) (((h.1 z2216).1 z2218).2)) (fun z2219 => And.intro (And.intro (And.intro (of_decide_eq_true rfl) (Exists.intro _ (And.intro rfl (((h.1 z2216).2 z2219).1)))) (Or.inr rfl)) (((h.1 z2216).2 z2219).2)))) (fun z2217 => And.intro (fun z2220 => And.intro (And.intro (of_decide_eq_true rfl) rfl) (And.intro (fun z2222 => And.intro (And.intro (And.intro (of_decide_eq_true rfl) (Exists.intro _ (And.intro rfl ((((h.2 z2217).1 z2220).1 z2222).1)))) (Or.inl rfl)) ((((h.2 z2217).1 z2220).1 z2222).2)) (fun z2223 => And.intro (And.intro (And.intro (of_decide_eq_true rfl) (Exists.intro _ (And.intro rfl ((((h.2 z2217).1 z2220).2 z2223).1)))) (Or.inr rfl)) ((((h.2 z2217).1 z2220).2 z2223).2)))) (fun z2221 => And.intro (And.intro (of_decide_eq_true rfl) rfl) (And.intro (And.intro (of_decide_eq_true rfl) (Exists.intro _ (And.intro rfl (((h.2 z2217).2 z2221).1)))) (And.intro (fun z2224 => And.intro (And.intro (of_decide_eq_true rfl) rfl) (And.intro (And.intro (of_decide_eq_true rfl) (Exists.intro _ (And.intro rfl (((h.2 z2217).2 z2221).1)))) (And.intro (fun z2226 => And.intro (Exists.intro _ (Exists.intro _ (And.intro rfl (((((h.2 z2217).2 z2221).2.1 z2224).1 z2226).1)))) (fun _ _ z2230 => by obtain ⟨z2228, z2229⟩ := z2230; have z2228 := z2228.symm; have z2229 := z2229.symm; subst z2228; subst z2229; exact (((((h.2 z2217).2 z2221).2.1 z2224).1 z2226).2 _ rfl))) (fun z2227 => ((((h.2 z2217).2 z2221).2.1 z2224).2 z2227))))) (fun z2225 => (((h.2 z2217).2 z2221).2.2 z2225))))))
set_option maxHeartbeats 4000000 in
set_option maxRecDepth 100000 in
theorem vcX8_markThrow_50 (K : wK) (R : Int32 → wM → Prop) (e : Int32) (x : Int32) (n : Int32) (l4 : Int32) (l5 : Int32) (l6 : Int32) (l7 : Int32) (μ : wM) (h : (
    (((l7 : Int32) ≤ (6 * x)) → (vp_in l7 60) ∧ K 22 [some (.ref 0), some (.int e), some (.int x), some (.int n), some (.int (l4 + 1)), some (.int (l5 + (-1))), none, none] [] (w_up μ 24 (l7 : Int32).toNatClampNeg l6)) ∧
    (¬ ((l7 : Int32) ≤ (6 * x)) → (vp_in (l7 - 1) 60) ∧ (
      (((l6 : Int32) ≤ (μ 24 ((l7 - 1) : Int32).toNatClampNeg)) → (vp_in l7 60) ∧ K 22 [some (.ref 0), some (.int e), some (.int x), some (.int n), some (.int (l4 + 1)), some (.int (l5 + (-1))), none, none] [] (w_up μ 24 (l7 : Int32).toNatClampNeg l6)) ∧
      (¬ ((l6 : Int32) ≤ (μ 24 ((l7 - 1) : Int32).toNatClampNeg)) → (vp_in l7 60) ∧ (∀ (m1 : wM), m1 = (w_up μ 24 (l7 : Int32).toNatClampNeg (μ 24 ((l7 - 1) : Int32).toNatClampNeg)) → K 50 [some (.ref 0), some (.int e), some (.int x), some (.int n), some (.int l4), some (.int l5), some (.int l6), some (.int (l7 + (-1)))] [] m1)))))) : w_n 8 gX8_markThrow shM rfM 32 none R tX8_markThrow uX8_markThrow K 30 50 [some (.ref 0), some (.int e), some (.int x), some (.int n), some (.int l4), some (.int l5), some (.int l6), some (.int l7)] [] μ :=
  And.intro (fun z2231 => And.intro (And.intro (of_decide_eq_true rfl) rfl) (And.intro (And.intro (of_decide_eq_true rfl) (Exists.intro _ (And.intro rfl ((h.1 z2231).1)))) ((h.1 z2231).2))) (fun z2232 => And.intro (And.intro (of_decide_eq_true rfl) rfl) (And.intro (And.intro (of_decide_eq_true rfl) (Exists.intro _ (And.intro rfl ((h.2 z2232).1)))) (And.intro (fun z2233 => And.intro (And.intro (of_decide_eq_true rfl) rfl) (And.intro (And.intro (of_decide_eq_true rfl) (Exists.intro _ (And.intro rfl (((h.2 z2232).2.1 z2233).1)))) (((h.2 z2232).2.1 z2233).2))) (fun z2234 => And.intro (And.intro (of_decide_eq_true rfl) rfl) (And.intro (And.intro (of_decide_eq_true rfl) rfl) (And.intro (And.intro (of_decide_eq_true rfl) (Exists.intro _ (And.intro rfl ((h.2 z2232).1)))) (And.intro (And.intro (of_decide_eq_true rfl) (Exists.intro _ (And.intro rfl (((h.2 z2232).2.2 z2234).1)))) ((((h.2 z2232).2.2 z2234).2 _ rfl)))))))))
set_option maxHeartbeats 4000000 in
theorem vX8_markThrow (e : Int32) (x : Int32) (n : Int32) (μ : wM) (h : pX8_markThrow e x n μ) (K : wK) (hK : w_cl 8 gX8_markThrow shM rfM 32 none (qX8_markThrow e x n μ) tX8_markThrow K) : K 0 [some (.ref 0), some (.int e), some (.int x), some (.int n), none, none, none, none] [] μ := by
  unfold pX8_markThrow at h
  obtain ⟨X, N, rfl, hX, rfl, ⟨he, hN, hv⟩, hk⟩ := h
  have eX : (nI X).toNatClampNeg = X := nI_clamp (by omega)
  have hxin : vp_in (nI X) 10 := vp_in_nI (by omega) (by omega)
  have eTT : wm_TT μ e N = wm_T μ e N := if_neg (by rw [hk]; decide)
  have fin : ∀ (c : Nat) (g : Nat → Int32), c ≤ 6 → (wm_T μ e N).2.1 X = nI c → (∀ j, j < 6 → g (6 * X + j) = (wm_T μ e N).1 (6 * X + j)) → (∀ p, (p < 6 * X ∨ 6 * X + 6 ≤ p) → g p = μ 24 p) → (nI c ≤ 0 → vp_in (nI X) 10 ∧ qX8_markThrow e (nI X) (nI N) μ 0 (w_up (w_row μ 24 g) 25 (nI X).toNatClampNeg 0)) ∧ (¬ nI c ≤ 0 → vp_in (nI X) 10 ∧ qX8_markThrow e (nI X) (nI N) μ 0 (w_up (w_row μ 24 g) 25 (nI X).toNatClampNeg 1)) := by
    intro c g hc hT hg ho
    have key : ∀ v : Int32, v = w_B01 (decide (0 < (wm_T μ e N).2.1 X)) → qX8_markThrow e (nI X) (nI N) μ 0 (w_up (w_row μ 24 g) 25 (nI X).toNatClampNeg v) := by
      intro v hv2
      refine ⟨X, N, rfl, hX, rfl, hN, ?_, ?_⟩
      · rw [eTT]
        have e24 : w_up (w_row μ 24 g) 25 (nI X).toNatClampNeg v 24 = g := by rw [w_up_o (by decide), w_row_at]
        refine ⟨?_, fun _ => ?_, fun _ i hi => ?_, fun k2 => ?_⟩
        · rw [w_up_s, eX, upd_in, hv2]
        · rw [e24]; exact hg 0 (by omega)
        · rw [e24]; exact hg i hi
        · rw [hk] at k2; exact absurd k2 (by decide)
      · refine ⟨fun a ha => ?_, fun j hj => ?_, fun j hj => ?_, fun j hj => ?_⟩
        · rw [w_up_o (by omega), w_row_ne _ _ (by omega)]
        · rw [w_up_o (by decide), w_row_at]; exact ho j hj
        · rw [w_up_s, eX, upd_out hj, w_row_ne _ _ (by decide)]
        · rw [w_up_o (by decide), w_row_ne _ _ (by decide)]
    refine ⟨fun c0 => ⟨hxin, key 0 ?_⟩, fun c0 => ⟨hxin, key 1 ?_⟩⟩
    · rw [hT]
      exact w_B01_f (by simp only [decide_eq_true_eq]; exact i_nlt.mpr c0)
    · rw [hT]
      exact w_B01_t (by simp only [decide_eq_true_eq]; exact i_nle.mp c0)
  have loop : ∀ (i c : Nat) (g : Nat → Int32) (t : wB), i ≤ N → c ≤ 6 → w_tks (wm_hit μ e) (wm_stp μ e) i t = wm_T μ e N → t.2.1 X = nI c → (∀ j, j < 6 → g (6 * X + j) = t.1 (6 * X + j)) → (∀ p, (p < 6 * X ∨ 6 * X + 6 ≤ p) → g p = μ 24 p) → K 22 [some (.ref 0), some (.int e), some (.int (nI X)), some (.int (nI N)), some (.int (nI c)), some (.int (nI i - 1)), none, none] [] (w_row μ 24 g) := by
    intro i
    induction i with
    | zero =>
      intro c g t hi hc hw ht hg ho
      refine hK uX8_markThrow 30 _ _ _ _ (vcX8_markThrow_22 K _ e (nI X) (nI N) (nI c) (nI 0 - 1) (w_row μ 24 g) ?_)
      have hw : t = wm_T μ e N := hw
      rw [hw] at ht
      refine ⟨fun _ => fin c g hc ht (fun j hj => by rw [hg j hj, hw]) ho, fun z => absurd (by decide) z⟩
    | succ i ih =>
      intro c g t hi hc hw ht hg ho
      rw [nI_pred]
      refine hK uX8_markThrow 30 _ _ _ _ (vcX8_markThrow_22 K _ e (nI X) (nI N) (nI c) (nI i) (w_row μ 24 g) ?_)
      rw [w_tks] at hw
      have ei : (nI i).toNatClampNeg = i := nI_clamp (by omega)
      rw [ei, show nI i + (-1) = nI i - 1 from (Int32.sub_eq_add_neg _ _).symm, w_row_ne _ _ (show 17 ≠ 24 by decide), w_row_ne _ _ (show 18 ≠ 24 by decide), w_row_ne _ _ (show 7 ≠ 24 by decide), w_row_ne _ _ (show 8 ≠ 24 by decide), w_row_ne _ _ (show 19 ≠ 24 by decide), w_row_ne _ _ (show 20 ≠ 24 by decide)]
      refine ⟨fun z => absurd z (nI_pos (by omega)), fun _ => ⟨fun c6 => ?_, fun c6 => ⟨vp_in_nI (by omega) (by omega), fun c1 => ⟨fun c2 => ⟨⟨he, vp_in_nI (by omega) (by omega)⟩, fun x3 hx3 => ?_⟩, fun c2 => ?_⟩, fun c1 => ?_⟩⟩⟩
      · have hf := w_tks_full (X := X) (i + 1) t (Or.inl ⟨hk, by rw [ht]; exact c6⟩)
        rw [w_tks, hw] at hf
        exact fin c g hc (hf.1.trans ht) (fun j hj => (hg j hj).trans (hf.2 j hj).symm) ho
      · have hc5 : c < 6 := by
          rcases Nat.lt_or_ge c 6 with z | z
          · exact z
          · exact absurd (nI_le (a := 6) z (by omega)) c6
        rw [if_pos (by unfold wm_hit; simp [c1])] at hw
        have e18 : (μ 18 i).toNatClampNeg = X := by rw [c2]; exact eX
        have hstp : wm_stp μ e i t = (w_ins t.1 (6 * X) x3 c, upd t.2.1 X (t.2.1 X + 1), t.2.2) := by
          unfold wm_stp w_take
          rw [if_neg (by rw [hk]; decide), if_pos hk, e18, if_neg (by rw [ht]; exact c6), ht, nI_clamp (by omega), ← hx3]
        rw [hstp] at hw
        have nx := ih (c + 1) (w_ins g (6 * X) x3 c) _ (by omega) (by omega) hw (by dsimp only; rw [upd_in, ht, nI_1]) (w_ins_cg c g t.1 (by omega) hg) (fun p hp => by rw [w_ins_out c g p (by omega)]; exact ho p hp)
        have inn : ∀ (d : Nat) (f : Nat → Int32), d ≤ c → w_ins f (6 * X) x3 d = w_ins g (6 * X) x3 c → K 50 [some (.ref 0), some (.int e), some (.int (nI X)), some (.int (nI N)), some (.int (nI c)), some (.int (nI i)), some (.int x3), some (.int (nI (6 * X + d)))] [] (w_row μ 24 f) := by
          intro d
          induction d with
          | zero =>
            intro f hd hf
            refine hK uX8_markThrow 30 _ _ _ _ (vcX8_markThrow_50 K _ e (nI X) (nI N) (nI c) (nI i) x3 (nI (6 * X + 0)) (w_row μ 24 f) ?_)
            rw [jx60, nI_1, show nI i + (-1) = nI i - 1 from (Int32.sub_eq_add_neg _ _).symm]
            refine ⟨fun _ => ⟨vp_in_nI (by omega) (by omega), ?_⟩, fun z => absurd (nI_le (by omega) (by omega)) z⟩
            rw [nI_clamp (by omega), w_row_up]
            have hf : upd f (6 * X + 0) x3 = w_ins g (6 * X) x3 c := hf
            rw [hf]
            exact nx
          | succ d ihd =>
            intro f hd hf
            refine hK uX8_markThrow 30 _ _ _ _ (vcX8_markThrow_50 K _ e (nI X) (nI N) (nI c) (nI i) x3 (nI (6 * X + (d + 1))) (w_row μ 24 f) ?_)
            rw [show 6 * X + (d + 1) = 6 * X + d + 1 by omega, nI_pred, nI_clamp (by omega), nI_clamp (by omega), w_row_at, jx60, nI_1 c, show nI i + (-1) = nI i - 1 from (Int32.sub_eq_add_neg _ _).symm, w_row_up, w_row_up]
            rw [w_ins] at hf
            refine ⟨fun z => absurd z (nI_ge (by omega) (by omega)), fun _ => ⟨vp_in_nI (by omega) (by omega), fun z => ⟨vp_in_nI (by omega) (by omega), ?_⟩, fun z => ⟨vp_in_nI (by omega) (by omega), fun m hm => ?_⟩⟩⟩
            · rw [if_neg (i_nlt.mpr z)] at hf
              rw [show 6 * X + d + 1 = 6 * X + (d + 1) by omega, hf]
              exact nx
            · rw [if_pos (i_nle.mp z)] at hf
              rw [hm, pk_m1]
              exact ihd _ (by omega) hf
        rw [jx6]
        exact inn c g (Nat.le_refl _) rfl
      · rw [if_pos (by unfold wm_hit; simp [c1])] at hw
        have e18 : (μ 18 i).toNatClampNeg ≠ X := fun z => c2 (by
          obtain ⟨M, hM, hMn, hMc⟩ := vp_in_le (hv i (by omega) c1).1 (by decide)
          rw [hMc] at z
          rw [hMn, z])
        have ho2 := w_take_o (k := μ 1 e.toNatClampNeg) (g := μ 7 e.toNatClampNeg) (sl := μ 8 e.toNatClampNeg) (way := μ 9 e.toNatClampNeg) (a := μ 19 i) (b := μ 20 i) (y := μ 20 i) (t := t) e18 (fun k2 => by rw [hk] at k2; exact absurd k2 (by decide))
        exact ih c g (wm_stp μ e i t) (by omega) hc hw (ho2.1.trans ht) (fun j hj => (hg j hj).trans (ho2.2.1 j hj).symm) ho
      · rw [if_neg (by unfold wm_hit; simp [c1])] at hw
        exact ih c g t (by omega) hc hw ht hg ho
  have l4 : ∀ (d j : Nat), j + d = 6 → K 4 [some (.ref 0), some (.int e), some (.int (nI X)), some (.int (nI N)), some (.int 0), some (.int (nI j)), none, none] [] (w_row μ 24 (fun p => if 6 * X ≤ p ∧ p < 6 * X + j then -1 else μ 24 p)) := by
    intro d
    induction d with
    | zero =>
      intro j hj
      refine hK uX8_markThrow 30 _ _ _ _ (vcX8_markThrow_4 K _ e (nI X) (nI N) 0 (nI j) (w_row μ 24 (fun p => if 6 * X ≤ p ∧ p < 6 * X + j then -1 else μ 24 p)) ?_)
      refine ⟨fun _ => ?_, fun z => absurd (nI_le (a := 6) (by omega) (by omega)) z⟩
      refine loop N 0 _ w_c0 (Nat.le_refl _) (by omega) rfl rfl (fun i hi => ?_) (fun p hp => ?_)
      · show (if 6 * X ≤ 6 * X + i ∧ 6 * X + i < 6 * X + j then (-1 : Int32) else μ 24 (6 * X + i)) = if 6 * X + i < 60 then -1 else 0
        rw [if_pos (by omega), if_pos (by omega)]
      · exact if_neg (by omega)
    | succ d ih =>
      intro j hj
      refine hK uX8_markThrow 30 _ _ _ _ (vcX8_markThrow_4 K _ e (nI X) (nI N) 0 (nI j) (w_row μ 24 (fun p => if 6 * X ≤ p ∧ p < 6 * X + j then -1 else μ 24 p)) ?_)
      refine ⟨fun z => absurd z (nI_ge (b := 6) (by omega) (by omega)), fun _ => ?_⟩
      rw [jx6, nI_clamp (by omega), nI_1]
      refine ⟨vp_in_nI (by omega) (by omega), ?_⟩
      have z := ih (j + 1) (by omega)
      rw [w_row_up, show upd (fun p => if 6 * X ≤ p ∧ p < 6 * X + j then -1 else μ 24 p) (6 * X + j) (-1) = (fun p => if 6 * X ≤ p ∧ p < 6 * X + (j + 1) then -1 else μ 24 p) from ?_]
      · exact z
      · funext p
        unfold upd
        by_cases q : p = 6 * X + j
        · rw [if_pos q, if_pos (by omega)]
        · rw [if_neg q]
          dsimp only
          by_cases q2 : 6 * X ≤ p ∧ p < 6 * X + j
          · rw [if_pos q2, if_pos (by omega)]
          · rw [if_neg q2, if_neg (by omega)]
  refine hK uX8_markThrow 30 _ _ _ _ (vcX8_markThrow_0 K _ e (nI X) (nI N) μ ?_)
  have z := l4 6 0 rfl
  rw [show (fun p => if 6 * X ≤ p ∧ p < 6 * X + 0 then (-1 : Int32) else μ 24 p) = μ 24 from by funext p; exact if_neg (by omega), w_row_self] at z
  exact z
set_option maxRecDepth 100000 in
theorem zX8_markThrow (l : Launch) : ∀ (idx : Nat) (S : wS), gX8_markThrow idx = some S → w_Call l 8 idx S 2 shM rfM 32 := by
  intro idx S hS
  unfold gX8_markThrow at hS
  split at hS
  · cases hS
    exact w_callV (ci := 8) (mX8_fairMark l) (by decide) rX8_fairMark eX8_fairMark.1 (by decide +kernel) eX8_fairMark.2.1 eX8_fairMark.2.2.1 eX8_fairMark.2.2.2 (by decide +kernel) (by decide) (by decide)
  · cases hS
theorem mX8_markThrow (l : Launch) : w_Met l yX8_markThrow cX8_markThrow 8 none 2 shM rfM 32 sX8_markThrow.2.2.2.1 sX8_markThrow.2.2.2.2 :=
  w_meth (o := 8) (Γ := gX8_markThrow) (tb := tX8_markThrow) (by decide +kernel) rfl kX8_markThrow rfl (zX8_markThrow l) (fun as μ h => by obtain ⟨e, x, n, rfl, h⟩ := h; exact Nat.le_of_ble_eq_true rfl) (fun as μ h K hK => by obtain ⟨e, x, n, rfl, h⟩ := h; exact vX8_markThrow e x n μ h K hK)
set_option maxRecDepth 100000 in
theorem eX8_markThrow : Cond.code yX8_markThrow cX8_markThrow 8 none ∈ w_tbl ∧ Cond.instanceMethod yX8_markThrow ∈ w_tbl ∧ Cond.selects (w_C 8) yX8_markThrow yX8_markThrow ∈ w_tbl ∧ Cond.initialized yX8_markThrow.cls ∈ w_tbl := ⟨by decide +kernel, by decide +kernel, by decide +kernel, by decide +kernel⟩
theorem rX8_markThrow : ∀ as μ, sX8_markThrow.2.2.2.1 as μ → ∃ q as', as = .ref q :: as' ∧ q < 32 ∧ shM q = .inl 8 := by
  intro as μ h
  obtain ⟨e, x, n, rfl, h⟩ := h
  exact ⟨_, _, rfl, by decide, rfl⟩
