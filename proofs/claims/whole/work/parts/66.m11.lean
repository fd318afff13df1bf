def rowF (ν : wM) (f : Nat → Nat) (N : Nat) : Prop := 1 ≤ N ∧ N ≤ 6 ∧ ∀ x, x < N → ν 13 x = nI (f x) ∧ f x < 8
theorem nI_m2 {N : Nat} (h : 1 ≤ N) : nI N - 2 = nI (N - 1) - 1 := by
  rw [show N = N - 1 + 1 by omega, ← nI_1, Nat.add_sub_cancel]
  rw [show (2 : Int32) = 1 + 1 from rfl]
  rw [Int32.sub_eq_add_neg, Int32.sub_eq_add_neg, Int32.neg_add, Int32.add_assoc, show (1 : Int32) + (-1 - 1) = -1 from rfl]
/-- a row half turned round -/
def cuT (f1 : Nat → Nat) (i N t : Nat) : Nat → Nat := fun x => if (i < x ∧ x < i + 1 + t) ∨ (N < x + 1 + t ∧ x < N) then f1 (i + N - x) else f1 x
/-! X8_countsUp -/
def pX8_countsUp (n : Int32) (μ : wM) : Prop := ∃ (f : Nat → Nat) (N : Nat), n = nI N ∧ rowF μ f N
def qX8_countsUp (n : Int32) (μ : wM) (r : Int32) (μ' : wM) : Prop := ∀ (f : Nat → Nat) (N : Nat), n = nI N → rowF μ f N → (∀ a, a ≠ 13 → μ' a = μ a) ∧ (cuI f (N - 1) = 0 → r = 0 ∧ μ' 13 = μ 13) ∧ (¬ cuI f (N - 1) = 0 → r = 1 ∧ ∀ x, x < N → μ' 13 x = nI (cuR f N (cuI f (N - 1) - 1) (cuJ f (f (cuI f (N - 1) - 1)) N) x))
def sX8_countsUp : wS := (false, false, 2, fun as μ => ∃ n, as = [.ref 0, .int n] ∧ pX8_countsUp n μ, fun as μ r μ' => match as with
  | [.ref _, .int n] => qX8_countsUp n μ r μ'
  | _ => False)
def gX8_countsUp : Nat → Option wS := fun k => match k with
  | _ => none
def uX8_countsUp : Nat → Option (List Nat) := fun j => match j with | 4 => some [3, 4, 5, 6] | 27 => some [4, 5, 6] | 64 => some [] | _ => none
set_option maxHeartbeats 4000000 in
set_option maxRecDepth 100000 in
theorem vcX8_countsUp_0 (K : wK) (R : Int32 → wM → Prop) (n : Int32) (μ : wM) (h : K 4 [some (.ref 0), some (.int n), some (.int (n - 2)), none, none, none, none] [] μ) : w_n 8 gX8_countsUp shM rfM 32 (some .boolean) R tX8_countsUp uX8_countsUp K 37 0 [some (.ref 0), some (.int n), none, none, none, none, none] [] μ :=
  h
set_option maxHeartbeats 4000000 in
set_option maxRecDepth 100000 in
theorem vcX8_countsUp_4 (K : wK) (R : Int32 → wM → Prop) (n : Int32) (l2 : Int32) (μ : wM) (h : (
    (((l2 : Int32) < 0) → (
      (((0 : Int32) ≤ l2) → K 27 [some (.ref 0), some (.int n), some (.int l2), some (.int (n - 1)), none, none, none] [] μ) ∧
      (¬ ((0 : Int32) ≤ l2) → R 0 μ))) ∧
    (¬ ((l2 : Int32) < 0) → (vp_in l2 6) ∧ (vp_in (l2 + 1) 6) ∧ (
      ((((μ 13 (l2 : Int32).toNatClampNeg) : Int32) ≤ (μ 13 ((l2 + 1) : Int32).toNatClampNeg)) → (
        (((0 : Int32) ≤ l2) → K 27 [some (.ref 0), some (.int n), some (.int l2), some (.int (n - 1)), none, none, none] [] μ) ∧
        (¬ ((0 : Int32) ≤ l2) → R 0 μ))) ∧
      (¬ (((μ 13 (l2 : Int32).toNatClampNeg) : Int32) ≤ (μ 13 ((l2 + 1) : Int32).toNatClampNeg)) → K 4 [some (.ref 0), some (.int n), some (.int (l2 + (-1))), none, none, none, none] [] μ))))) : w_n 8 gX8_countsUp shM rfM 32 (some .boolean) R tX8_countsUp uX8_countsUp K 37 4 [some (.ref 0), some (.int n), some (.int l2), none, none, none, none] [] μ :=
  And.intro (fun z3438 => And.intro (fun z3440 => ((h.1 z3438).1 z3440)) (fun z3441 => And.intro (Or.inl rfl) (((h.1 z3438).2 z3441)))) (fun z3439 => And.intro (And.intro (of_decide_eq_true rfl) rfl) (And.intro (And.intro (of_decide_eq_true rfl) (Exists.intro _ (And.intro rfl ((h.2 z3439).1)))) (And.intro (And.intro (of_decide_eq_true rfl) rfl) (And.intro (And.intro (of_decide_eq_true rfl) (Exists.intro _ (And.intro rfl ((h.2 z3439).2.1)))) (And.intro (fun z3442 => And.intro (fun z3444 => (((h.2 z3439).2.2.1 z3442).1 z3444)) (fun z3445 => And.intro (Or.inl rfl) ((((h.2 z3439).2.2.1 z3442).2 z3445)))) (fun z3443 => ((h.2 z3439).2.2.2 z3443)))))))
set_option maxHeartbeats 4000000 in
set_option maxRecDepth 100000 in
theorem vcX8_countsUp_27 (K : wK) (R : Int32 → wM → Prop) (n : Int32) (l2 : Int32) (l3 : Int32) (μ : wM) (h : (vp_in l3 6) ∧ (vp_in l2 6) ∧ (
    ((((μ 13 (l2 : Int32).toNatClampNeg) : Int32) ≤ (μ 13 (l3 : Int32).toNatClampNeg)) → (∀ (x1 : Int32), x1 = (μ 13 (l2 : Int32).toNatClampNeg) → (∀ (m2 : wM), m2 = (w_up μ 13 (l2 : Int32).toNatClampNeg (μ 13 (l3 : Int32).toNatClampNeg)) → K 64 [some (.ref 0), some (.int n), some (.int l2), some (.int l3), some (.int x1), some (.int (l2 + 1)), some (.int (n - 1))] [] (w_up m2 13 (l3 : Int32).toNatClampNeg x1)))) ∧
    (¬ (((μ 13 (l2 : Int32).toNatClampNeg) : Int32) ≤ (μ 13 (l3 : Int32).toNatClampNeg)) → K 27 [some (.ref 0), some (.int n), some (.int l2), some (.int (l3 + (-1))), none, none, none] [] μ))) : w_n 8 gX8_countsUp shM rfM 32 (some .boolean) R tX8_countsUp uX8_countsUp K 37 27 [some (.ref 0), some (.int n), some (.int l2), some (.int l3), none, none, none] [] μ :=
  And.intro (And.intro (of_decide_eq_true rfl) rfl) (And.intro (And.intro (of_decide_eq_true rfl) (Exists.intro _ (And.intro rfl (h.1)))) (And.intro (And.intro (of_decide_eq_true rfl) rfl) (And.intro (And.intro (of_decide_eq_true rfl) (Exists.intro _ (And.intro rfl (h.2.1)))) (And.intro (fun z3446 => And.intro (And.intro (of_decide_eq_true rfl) rfl) (And.intro (And.intro (of_decide_eq_true rfl) (Exists.intro _ (And.intro rfl (h.2.1)))) (And.intro (And.intro (of_decide_eq_true rfl) rfl) (And.intro (And.intro (of_decide_eq_true rfl) rfl) (And.intro (And.intro (of_decide_eq_true rfl) (Exists.intro _ (And.intro rfl (h.1)))) (And.intro (And.intro (of_decide_eq_true rfl) (Exists.intro _ (And.intro rfl (h.2.1)))) (And.intro (And.intro (of_decide_eq_true rfl) rfl) (And.intro (And.intro (of_decide_eq_true rfl) (Exists.intro _ (And.intro rfl (h.1)))) ((((h.2.2.1 z3446) _ rfl) _ rfl)))))))))) (fun z3447 => (h.2.2.2 z3447))))))
set_option maxHeartbeats 4000000 in
set_option maxRecDepth 100000 in
theorem vcX8_countsUp_64 (K : wK) (R : Int32 → wM → Prop) (n : Int32) (l2 : Int32) (l3 : Int32) (l4 : Int32) (l5 : Int32) (l6 : Int32) (μ : wM) (h : (
    (((l6 : Int32) ≤ l5) → R 1 μ) ∧
    (¬ ((l6 : Int32) ≤ l5) → (vp_in l5 6) ∧ (∀ (x1 : Int32), x1 = (μ 13 (l5 : Int32).toNatClampNeg) → (vp_in l6 6) ∧ (∀ (m2 : wM), m2 = (w_up μ 13 (l5 : Int32).toNatClampNeg (μ 13 (l6 : Int32).toNatClampNeg)) → K 64 [some (.ref 0), some (.int n), some (.int l2), some (.int l3), some (.int x1), some (.int (l5 + 1)), some (.int (l6 + (-1)))] [] (w_up m2 13 (l6 : Int32).toNatClampNeg x1)))))) : w_n 8 gX8_countsUp shM rfM 32 (some .boolean) R tX8_countsUp uX8_countsUp K 37 64 [some (.ref 0), some (.int n), some (.int l2), some (.int l3), some (.int l4), some (.int l5), some (.int l6)] [] μ :=
  And.intro (fun z3448 => And.intro (Or.inr rfl) ((h.1 z3448))) (fun z3449 => And.intro (And.intro (of_decide_eq_true rfl) rfl) (And.intro (And.intro (of_decide_eq_true rfl) (Exists.intro _ (And.intro rfl ((h.2 z3449).1)))) (And.intro (And.intro (of_decide_eq_true rfl) rfl) (And.intro (And.intro (of_decide_eq_true rfl) rfl) (And.intro (And.intro (of_decide_eq_true rfl) (Exists.intro _ (And.intro rfl (((h.2 z3449).2 _ rfl).1)))) (And.intro (And.intro (of_decide_eq_true rfl) (Exists.intro _ (And.intro rfl ((h.2 z3449).1)))) (And.intro (And.intro (of_decide_eq_true rfl) rfl) (And.intro (And.intro (of_decide_eq_true rfl) (Exists.intro _ (And.intro rfl (((h.2 z3449).2 _ rfl).1)))) ((((h.2 z3449).2 _ rfl).2 _ rfl))))))))))
set_option maxHeartbeats 4000000 in
theorem vX8_countsUp (n : Int32) (μ : wM) (h : pX8_countsUp n μ) (K : wK) (hK : w_cl 8 gX8_countsUp shM rfM 32 (some .boolean) (qX8_countsUp n μ) tX8_countsUp K) : K 0 [some (.ref 0), some (.int n), none, none, none, none, none] [] μ := by
  unfold pX8_countsUp at h
  obtain ⟨f, N, rfl, hN1, hN6, hrow⟩ := h
  -- the answer does not hang on f behind the row
  have cgI : ∀ (f' : Nat → Nat), (∀ x, x < N → f' x = f x) → ∀ k, k < N → cuI f' k = cuI f k := by
    intro f' hf' k
    induction k with
    | zero => intro _; rfl
    | succ k ih => intro hk; rw [cuI, cuI, hf' (k + 1) hk, hf' k (by omega), ih (by omega)]
  have cgJ : ∀ (f' : Nat → Nat) (v : Nat), (∀ x, x < N → f' x = f x) → ∀ k, k ≤ N → cuJ f' v k = cuJ f v k := by
    intro f' v hf' k
    induction k with
    | zero => intro _; rfl
    | succ k ih => intro hk; rw [cuJ, cuJ, hf' k (by omega), ih (by omega)]
  have leI : ∀ k, cuI f k ≤ k := by
    intro k
    induction k with
    | zero => exact Nat.le_refl _
    | succ k ih => rw [cuI]; split <;> omega
  have ltJ : ∀ v k, 1 ≤ k → cuJ f v k < k := by
    intro v k
    induction k with
    | zero => intro h; omega
    | succ k ih =>
      intro _
      rw [cuJ]
      split
      · cases k with
        | zero => rw [cuJ]; omega
        | succ k => have := ih (by omega); omega
      · omega
  have post : ∀ (r : Int32) (ν : wM), (∀ a, a ≠ 13 → ν a = μ a) → (cuI f (N - 1) = 0 → r = 0 ∧ ν 13 = μ 13) → (¬ cuI f (N - 1) = 0 → r = 1 ∧ ∀ x, x < N → ν 13 x = nI (cuR f N (cuI f (N - 1) - 1) (cuJ f (f (cuI f (N - 1) - 1)) N) x)) → qX8_countsUp (nI N) μ r ν := by
    intro r ν h1 h2 h3 f' N' e1 hr'
    have hNN : N = N' := (nI_eq (by omega) (by have := hr'.2.1; omega)).mp e1
    subst hNN
    have hff : ∀ x, x < N → f' x = f x := fun x hx => (nI_eq (by have := (hr'.2.2 x hx).2; omega) (by have := (hrow x hx).2; omega)).mp ((hr'.2.2 x hx).1.symm.trans (hrow x hx).1)
    rw [cgI f' hff (N - 1) (by omega)]
    refine ⟨h1, h2, fun z => ?_⟩
    obtain ⟨g1, g2⟩ := h3 z
    refine ⟨g1, fun x hx => ?_⟩
    have hi := leI (N - 1)
    rw [g2 x hx, hff _ (by omega), cgJ f' _ hff N (Nat.le_refl _)]
    have hj := ltJ (f (cuI f (N - 1) - 1)) N (by omega)
    unfold cuR
    dsimp only
    refine congrArg nI ?_
    rw [hff _ (show cuI f (N - 1) - 1 < N by omega), hff _ hj]
    split
    · rw [hff _ (by omega)]
    · rw [hff _ hx]
  have l64 : ∀ (i j : Nat) (x4 : Int32) (f1 : Nat → Nat), i + 1 = cuI f (N - 1) → j = cuJ f (f i) N → (∀ y, f1 y = if y = j then f i else if y = i then f j else f y) → ∀ (d t : Nat) (ν : wM) (x4 : Int32), N ≤ i + 2 + 2 * t + d → t ≤ N → i + 1 + t ≤ N → (∀ a, a ≠ 13 → ν a = μ a) → (∀ x, x < N → ν 13 x = nI (cuT f1 i N t x)) → K 64 [some (.ref 0), some (.int (nI N)), some (.int (nI i)), some (.int (nI j)), some (.int x4), some (.int (nI (i + 1 + t))), some (.int (nI (N - t) - 1))] [] ν := by
    intro i j _ f1 hi hj hf1 d
    have hiN := leI (N - 1)
    have fin : ∀ (t : Nat) (ν : wM), (N < i + 2 + 2 * t + 1) → i + 1 + t ≤ N → (∀ a, a ≠ 13 → ν a = μ a) → (∀ x, x < N → ν 13 x = nI (cuT f1 i N t x)) → qX8_countsUp (nI N) μ 1 ν := by
      intro t ν ht ht2 hf hν
      refine post 1 ν hf (fun z => by omega) (fun _ => ⟨rfl, fun x hx => ?_⟩)
      rw [hν x hx, ← hi, show i + 1 - 1 = i by omega, ← hj]
      refine congrArg nI ?_
      unfold cuT cuR
      dsimp only
      simp only [hf1]
      by_cases q : i < x ∧ x < N
      · rw [if_pos q]
        by_cases q2 : (i < x ∧ x < i + 1 + t) ∨ (N < x + 1 + t ∧ x < N)
        · rw [if_pos q2]
        · rw [if_neg q2, show i + N - x = x by omega]
      · rw [if_neg q, if_neg (by omega)]
    induction d with
    | zero =>
      intro t ν x4 h1 h2 h2' hf hν
      refine hK uX8_countsUp 37 _ _ _ _ (vcX8_countsUp_64 K _ (nI N) (nI i) (nI j) x4 (nI (i + 1 + t)) (nI (N - t) - 1) ν ?_)
      have hle : nI (N - t) - 1 ≤ nI (i + 1 + t) := by
        cases q : N - t with
        | zero => exact Int32.le_trans (show nI 0 - 1 ≤ nI 0 by decide) (nI_le (by omega) (by omega))
        | succ k => rw [nI_pred]; exact nI_le (by omega) (by omega)
      exact ⟨fun _ => fin t ν (by omega) h2' hf hν, fun z => absurd hle z⟩
    | succ d ih =>
      intro t ν x4 h1 h2 h2' hf hν
      refine hK uX8_countsUp 37 _ _ _ _ (vcX8_countsUp_64 K _ (nI N) (nI i) (nI j) x4 (nI (i + 1 + t)) (nI (N - t) - 1) ν ?_)
      by_cases hlt : N ≤ i + 2 + 2 * t
      · have hle : nI (N - t) - 1 ≤ nI (i + 1 + t) := by
          cases q : N - t with
          | zero => exact Int32.le_trans (show nI 0 - 1 ≤ nI 0 by decide) (nI_le (by omega) (by omega))
          | succ k => rw [nI_pred]; exact nI_le (by omega) (by omega)
        exact ⟨fun _ => fin t ν (by omega) h2' hf hν, fun z => absurd hle z⟩
      · obtain ⟨b, hb⟩ : ∃ b, N - t = b + 1 := ⟨N - t - 1, by omega⟩
        rw [hb, nI_pred, nI_clamp (show i + 1 + t < 2 ^ 31 by omega), nI_clamp (show b < 2 ^ 31 by omega), hν (i + 1 + t) (by omega), hν b (by omega), nI_1, show nI b + (-1) = nI b - 1 from (Int32.sub_eq_add_neg _ _).symm]
        refine ⟨fun z => absurd z (nI_ge (by omega) (by omega)), fun _ => ⟨vp_in_nI (by omega) (by omega), fun x1 hx1 => ⟨vp_in_nI (by omega) (by omega), fun m2 hm2 => ?_⟩⟩⟩
        have z := ih (t + 1) (w_up m2 13 b x1) x1 (by omega) (by omega) (by omega) (fun a ha => by rw [w_up_o ha, hm2, w_up_o ha]; exact hf a ha) (fun x hx => by
          rw [w_up_s, hm2, w_up_s]
          unfold cuT at hx1 ⊢
          by_cases q1 : x = b
          · rw [q1, upd_in, hx1, if_neg (by omega), if_pos (by omega)]
            exact congrArg nI (congrArg f1 (by omega))
          · rw [upd_out q1]
            by_cases q2 : x = i + 1 + t
            · rw [q2, upd_in, if_neg (by omega), if_pos (by omega)]
              exact congrArg nI (congrArg f1 (by omega))
            · rw [upd_out q2, hν x hx]
              unfold cuT
              refine congrArg nI ?_
              by_cases q3 : (i < x ∧ x < i + 1 + t) ∨ (N < x + 1 + t ∧ x < N)
              · rw [if_pos q3, if_pos (by omega)]
              · rw [if_neg q3, if_neg (by omega)])
        rw [show N - (t + 1) = b by omega, show i + 1 + (t + 1) = i + 1 + t + 1 by omega] at z
        exact z
  have l27 : ∀ i : Nat, i + 1 = cuI f (N - 1) → f i ≤ f (i + 1) → ∀ k : Nat, i + 2 ≤ k → k ≤ N → cuJ f (f i) k = cuJ f (f i) N → K 27 [some (.ref 0), some (.int (nI N)), some (.int (nI i)), some (.int (nI k - 1)), none, none, none] [] μ := by
    intro i hi hfi k
    have hiN := leI (N - 1)
    induction k with
    | zero => intro h; omega
    | succ k ih =>
      intro h1 h2 hJ
      rw [nI_pred]
      refine hK uX8_countsUp 37 _ _ _ _ (vcX8_countsUp_27 K _ (nI N) (nI i) (nI k) μ ?_)
      rw [nI_clamp (show i < 2 ^ 31 by omega), nI_clamp (show k < 2 ^ 31 by omega), (hrow i (by omega)).1, (hrow k (by omega)).1, nI_1, show nI k + (-1) = nI k - 1 from (Int32.sub_eq_add_neg _ _).symm]
      have r1 := (hrow i (by omega)).2
      have r2 := (hrow k (by omega)).2
      rw [cuJ] at hJ
      refine ⟨vp_in_nI (by omega) (by omega), vp_in_nI (by omega) (by omega), fun c => fun x1 hx1 m2 hm2 => ?_, fun c => ?_⟩
      · have c := (nI_leI (by omega) (by omega)).mp c
        rw [if_neg (by omega)] at hJ
        have z := l64 i k x1 (fun y => if y = k then f i else if y = i then f k else f y) hi hJ (fun y => rfl) N 0 (w_up m2 13 k x1) x1 (by omega) (by omega) (by omega) (fun a ha => by rw [w_up_o ha, hm2, w_up_o ha]) (fun x hx => by
          rw [w_up_s, hm2, w_up_s]
          unfold cuT
          rw [if_neg (by omega)]
          dsimp only
          by_cases q1 : x = k
          · rw [q1, upd_in, if_pos rfl, hx1]
          · rw [upd_out q1, if_neg q1]
            by_cases q2 : x = i
            · rw [q2, upd_in, if_pos rfl]
            · rw [upd_out q2, if_neg q2, (hrow x hx).1])
        exact z
      · have c : f k < f i := by
          rcases Nat.lt_or_ge (f k) (f i) with q | q
          · exact q
          · exact absurd (nI_le q (by omega)) c
        rw [if_pos c] at hJ
        have hk2 : k ≠ i + 1 := fun q => by rw [q] at c; omega
        exact ih (by omega) (by omega) hJ
  have l4 : ∀ k : Nat, k ≤ N - 1 → cuI f k = cuI f (N - 1) → K 4 [some (.ref 0), some (.int (nI N)), some (.int (nI k - 1)), none, none, none, none] [] μ := by
    intro k
    induction k with
    | zero =>
      intro hk hI
      refine hK uX8_countsUp 37 _ _ _ _ (vcX8_countsUp_4 K _ (nI N) (nI 0 - 1) μ ?_)
      exact ⟨fun _ => ⟨fun z => absurd z (by decide), fun _ => post 0 μ (fun _ _ => rfl) (fun _ => ⟨rfl, rfl⟩) (fun z => absurd hI.symm z)⟩, fun z => absurd (by decide) z⟩
    | succ k ih =>
      intro hk hI
      rw [nI_pred]
      refine hK uX8_countsUp 37 _ _ _ _ (vcX8_countsUp_4 K _ (nI N) (nI k) μ ?_)
      rw [nI_1, nI_clamp (show k < 2 ^ 31 by omega), nI_clamp (show k + 1 < 2 ^ 31 by omega), (hrow k (by omega)).1, (hrow (k + 1) (by omega)).1, show nI k + (-1) = nI k - 1 from (Int32.sub_eq_add_neg _ _).symm]
      have r1 := (hrow k (by omega)).2
      have r2 := (hrow (k + 1) (by omega)).2
      rw [cuI] at hI
      refine ⟨fun z => absurd z (nI_pos (by omega)), fun _ => ⟨vp_in_nI (by omega) (by omega), vp_in_nI (by omega) (by omega), fun c => ⟨fun _ => ?_, fun z => absurd (nI_pos' (by omega)) z⟩, fun c => ?_⟩⟩
      · have c := (nI_leI (by omega) (by omega)).mp c
        rw [if_neg (by omega)] at hI
        exact l27 k hI c N (by omega) (Nat.le_refl _) rfl
      · have c : f (k + 1) < f k := by
          rcases Nat.lt_or_ge (f (k + 1)) (f k) with q | q
          · exact q
          · exact absurd (nI_le q (by omega)) c
        rw [if_pos c] at hI
        exact ih (by omega) hI
  refine hK uX8_countsUp 37 _ _ _ _ (vcX8_countsUp_0 K _ (nI N) μ ?_)
  rw [nI_m2 hN1]
  exact l4 (N - 1) (Nat.le_refl _) rfl
set_option maxRecDepth 100000 in
theorem zX8_countsUp (l : Launch) : ∀ (idx : Nat) (S : wS), gX8_countsUp idx = some S → w_Call l 8 idx S 1 shM rfM 32 := by
  intro idx S hS
  unfold gX8_countsUp at hS
  split at hS
  · cases hS
theorem mX8_countsUp (l : Launch) : w_Met l yX8_countsUp cX8_countsUp 7 (some .boolean) 1 shM rfM 32 sX8_countsUp.2.2.2.1 sX8_countsUp.2.2.2.2 :=
  w_meth (o := 8) (Γ := gX8_countsUp) (tb := tX8_countsUp) (by decide +kernel) rfl kX8_countsUp rfl (zX8_countsUp l) (fun as μ h => by obtain ⟨n, rfl, h⟩ := h; exact Nat.le_of_ble_eq_true rfl) (fun as μ h K hK => by obtain ⟨n, rfl, h⟩ := h; exact vX8_countsUp n μ h K hK)
set_option maxRecDepth 100000 in
theorem eX8_countsUp : Cond.code yX8_countsUp cX8_countsUp 7 (some .boolean) ∈ w_tbl ∧ Cond.instanceMethod yX8_countsUp ∈ w_tbl ∧ Cond.selects (w_C 8) yX8_countsUp yX8_countsUp ∈ w_tbl ∧ Cond.initialized yX8_countsUp.cls ∈ w_tbl := ⟨by decide +kernel, by decide +kernel, by decide +kernel, by decide +kernel⟩
theorem rX8_countsUp : ∀ as μ, sX8_countsUp.2.2.2.1 as μ → ∃ q as', as = .ref q :: as' ∧ q < 32 ∧ shM q = .inl 8 := by
  intro as μ h
  obtain ⟨n, rfl, h⟩ := h
  exact ⟨_, _, rfl, by decide, rfl⟩

/-! X8_keep -/
def pX8_keep (n : Int32) (μ : wM) : Prop := ∃ p : List Nat, n = nI p.length ∧ rowP μ p
def qX8_keep (n : Int32) (μ : wM) (r : Int32) (μ' : wM) : Prop := ∀ p : List Nat, n = nI p.length → rowP μ p → (∀ a, a ≠ 0 → a ≠ 15 → a ≠ 16 → μ' a = μ a) ∧ (∀ j, j ≠ 18 → j ≠ 19 → μ' 0 j = μ 0 j) ∧ μ' 0 18 = 1 ∧ μ' 0 19 = n ∧ (∀ i, i < p.length → μ' 15 i = nI (p.getD i 0)) ∧ ∀ e, e < 8 → μ' 16 e = if e ∈ p then μ 14 e else -1
def sX8_keep : wS := (false, true, 2, fun as μ => ∃ n, as = [.ref 0, .int n] ∧ pX8_keep n μ, fun as μ r μ' => match as with
  | [.ref _, .int n] => qX8_keep n μ r μ'
  | _ => False)
def gX8_keep : Nat → Option wS := fun k => match k with
  | _ => none
def uX8_keep : Nat → Option (List Nat) := fun j => match j with | 8 => some [] | 20 => some [] | _ => none
set_option maxHeartbeats 4000000 in
set_option maxRecDepth 100000 in
theorem vcX8_keep_0 (K : wK) (R : Int32 → wM → Prop) (n : Int32) (μ : wM) (h : K 8 [some (.ref 0), some (.int n), some (.int 0)] [] (w_up (w_up μ 0 18 1) 0 19 n)) : w_n 8 gX8_keep shM rfM 32 none R tX8_keep uX8_keep K 29 0 [some (.ref 0), some (.int n), none] [] μ :=
  And.intro (And.intro (of_decide_eq_true rfl) (And.intro rfl (Or.inr rfl))) (And.intro (And.intro (of_decide_eq_true rfl) (And.intro rfl (trivial))) (h))
set_option maxHeartbeats 4000000 in
set_option maxRecDepth 100000 in
theorem vcX8_keep_8 (K : wK) (R : Int32 → wM → Prop) (n : Int32) (l2 : Int32) (μ : wM) (h : (
    (((8 : Int32) ≤ l2) → K 20 [some (.ref 0), some (.int n), some (.int 0)] [] μ) ∧
    (¬ ((8 : Int32) ≤ l2) → (vp_in l2 8) ∧ K 8 [some (.ref 0), some (.int n), some (.int (l2 + 1))] [] (w_up μ 16 (l2 : Int32).toNatClampNeg (-1))))) : w_n 8 gX8_keep shM rfM 32 none R tX8_keep uX8_keep K 29 8 [some (.ref 0), some (.int n), some (.int l2)] [] μ :=
  And.intro (fun z3454 => (h.1 z3454)) (fun z3455 => And.intro (And.intro (of_decide_eq_true rfl) rfl) (And.intro (And.intro (of_decide_eq_true rfl) (Exists.intro _ (And.intro rfl ((h.2 z3455).1)))) ((h.2 z3455).2)))
set_option maxHeartbeats 4000000 in
set_option maxRecDepth 100000 in
theorem vcX8_keep_20 (K : wK) (R : Int32 → wM → Prop) (n : Int32) (l2 : Int32) (μ : wM) (h : (
    (((n : Int32) ≤ l2) → R 0 μ) ∧
    (¬ ((n : Int32) ≤ l2) → (vp_in l2 6) ∧ (∀ (m1 : wM), m1 = (w_up μ 15 (l2 : Int32).toNatClampNeg (μ 13 (l2 : Int32).toNatClampNeg)) → (vp_in (μ 13 (l2 : Int32).toNatClampNeg) 8) ∧ (∀ (m2 : wM), m2 = (w_up m1 16 ((μ 13 (l2 : Int32).toNatClampNeg) : Int32).toNatClampNeg (μ 14 ((μ 13 (l2 : Int32).toNatClampNeg) : Int32).toNatClampNeg)) → K 20 [some (.ref 0), some (.int n), some (.int (l2 + 1))] [] m2))))) : w_n 8 gX8_keep shM rfM 32 none R tX8_keep uX8_keep K 29 20 [some (.ref 0), some (.int n), some (.int l2)] [] μ :=
  And.intro (fun z3456 => (h.1 z3456)) (fun z3457 => And.intro (And.intro (of_decide_eq_true rfl) rfl) (And.intro (And.intro (of_decide_eq_true rfl) rfl) (And.intro (And.intro (of_decide_eq_true rfl) (Exists.intro _ (And.intro rfl ((h.2 z3457).1)))) (And.intro (And.intro (of_decide_eq_true rfl) (Exists.intro _ (And.intro rfl ((h.2 z3457).1)))) (And.intro (And.intro (of_decide_eq_true rfl) rfl) (And.intro (And.intro (of_decide_eq_true rfl) rfl) (And.intro (And.intro (of_decide_eq_true rfl) (Exists.intro _ (And.intro rfl ((h.2 z3457).1)))) (And.intro (And.intro (of_decide_eq_true rfl) rfl) (And.intro (And.intro (of_decide_eq_true rfl) rfl) (And.intro (And.intro (of_decide_eq_true rfl) (Exists.intro _ (And.intro rfl ((h.2 z3457).1)))) (And.intro (And.intro (of_decide_eq_true rfl) (Exists.intro _ (And.intro rfl (((h.2 z3457).2 _ rfl).1)))) (And.intro (And.intro (of_decide_eq_true rfl) (Exists.intro _ (And.intro rfl (((h.2 z3457).2 _ rfl).1)))) ((((h.2 z3457).2 _ rfl).2 _ rfl))))))))))))))
set_option maxHeartbeats 4000000 in
theorem vX8_keep (n : Int32) (μ : wM) (h : pX8_keep n μ) (K : wK) (hK : w_cl 8 gX8_keep shM rfM 32 none (qX8_keep n μ) tX8_keep K) : K 0 [some (.ref 0), some (.int n), none] [] μ := by
  unfold pX8_keep at h
  obtain ⟨p, rfl, hp⟩ := h
  have post : ∀ (ν : wM), (∀ a, a ≠ 0 → a ≠ 15 → a ≠ 16 → ν a = μ a) → (∀ j, j ≠ 18 → j ≠ 19 → ν 0 j = μ 0 j) → ν 0 18 = 1 → ν 0 19 = nI p.length → (∀ i, i < p.length → ν 15 i = nI (p.getD i 0)) → (∀ e, e < 8 → ν 16 e = if e ∈ p then μ 14 e else -1) → qX8_keep (nI p.length) μ 0 ν := by
    intro ν h1 h2 h3 h4 h5 h6 p' e1 hp'
    have hlen : p.length = p'.length := (nI_eq (by have := hp.1; omega) (by have := hp'.1; omega)).mp e1
    have : p = p' := by
      apply List.ext_getElem hlen
      intro i i1 i2
      have h5 := hp.2.2.2 i i1
      have h6 := hp'.2.2.2 i i2
      have m1 := (hp.2.2.1 _ (getD_mem i1)).1
      have m2 := (hp'.2.2.1 _ (getD_mem i2)).1
      have := (nI_eq (by omega) (by omega)).mp (h5.symm.trans h6)
      rw [List.getD_eq_getElem?_getD, List.getD_eq_getElem?_getD, List.getElem?_eq_getElem i1, List.getElem?_eq_getElem i2] at this
      exact this
    subst this
    exact ⟨h1, h2, h3, h4, h5, h6⟩
  obtain ⟨hp6, hnd, hlt, hrow⟩ := hp
  have l20 : ∀ (d i : Nat) (ν : wM), i + d = p.length → (∀ a, a ≠ 0 → a ≠ 15 → a ≠ 16 → ν a = μ a) → (∀ j, j ≠ 18 → j ≠ 19 → ν 0 j = μ 0 j) → ν 0 18 = 1 → ν 0 19 = nI p.length → (∀ k, k < i → ν 15 k = nI (p.getD k 0)) → (∀ e, e < 8 → ν 16 e = if e ∈ p.take i then μ 14 e else -1) → K 20 [some (.ref 0), some (.int (nI p.length)), some (.int (nI i))] [] ν := by
    intro d
    induction d with
    | zero =>
      intro i ν hi h1 h2 h3 h4 h5 h6
      have hip : i = p.length := by omega
      subst hip
      refine hK uX8_keep 29 _ _ _ _ (vcX8_keep_20 K _ (nI p.length) (nI p.length) ν ?_)
      rw [List.take_length] at h6
      exact ⟨fun _ => post ν h1 h2 h3 h4 h5 h6, fun z => absurd (nI_le (Nat.le_refl _) (by omega)) z⟩
    | succ d ih =>
      intro i ν hi h1 h2 h3 h4 h5 h6
      refine hK uX8_keep 29 _ _ _ _ (vcX8_keep_20 K _ (nI p.length) (nI i) ν ?_)
      have hil : i < p.length := by omega
      have hE := (hlt _ (getD_mem hil)).1
      have ei : (nI i).toNatClampNeg = i := nI_clamp (by omega)
      rw [ei, nI_1, show ν 13 i = nI (p.getD i 0) from by rw [h1 13 (by decide) (by decide) (by decide)]; exact hrow i hil, nI_clamp (show p.getD i 0 < 2 ^ 31 by omega), h1 14 (by decide) (by decide) (by decide)]
      refine ⟨fun z => absurd z (nI_ge (by omega) (by omega)), fun _ => ⟨vp_in_nI (by omega) (by omega), fun m1 hm1 => ⟨vp_in_nI (by omega) (by omega), fun m2 hm2 => ?_⟩⟩⟩
      refine ih (i + 1) m2 (by omega) (fun a a1 a2 a3 => by rw [hm2, w_up_o a3, hm1, w_up_o a2]; exact h1 a a1 a2 a3) (fun j j1 j2 => by rw [hm2, w_up_o (by decide), hm1, w_up_o (by decide)]; exact h2 j j1 j2) (by rw [hm2, w_up_o (by decide), hm1, w_up_o (by decide)]; exact h3) (by rw [hm2, w_up_o (by decide), hm1, w_up_o (by decide)]; exact h4) (fun k hk => ?_) (fun e he => ?_)
      · rw [hm2, w_up_o (by decide), hm1, w_up_s]
        by_cases q : k = i
        · rw [q, upd_in]
        · rw [upd_out q]; exact h5 k (by omega)
      · rw [hm2, w_up_s, take_s hil]
        by_cases q : e = p.getD i 0
        · rw [q, upd_in, if_pos (List.mem_append.mpr (Or.inr (List.mem_singleton.mpr rfl)))]
        · rw [upd_out q, hm1, w_up_o (by decide), h6 e he]
          by_cases q2 : e ∈ p.take i
          · rw [if_pos q2, if_pos (List.mem_append.mpr (Or.inl q2))]
          · rw [if_neg q2, if_neg (fun z => by rcases List.mem_append.mp z with z | z; exact q2 z; exact q (List.mem_singleton.mp z))]
  have l8 : ∀ (d i : Nat) (ν : wM), i + d = 8 → (∀ a, a ≠ 0 → a ≠ 16 → ν a = μ a) → (∀ j, j ≠ 18 → j ≠ 19 → ν 0 j = μ 0 j) → ν 0 18 = 1 → ν 0 19 = nI p.length → (∀ e, e < i → ν 16 e = -1) → K 8 [some (.ref 0), some (.int (nI p.length)), some (.int (nI i))] [] ν := by
    intro d
    induction d with
    | zero =>
      intro i ν hi h1 h2 h3 h4 h6
      have hi8 : i = 8 := by omega
      subst hi8
      refine hK uX8_keep 29 _ _ _ _ (vcX8_keep_8 K _ (nI p.length) (nI 8) ν ?_)
      refine ⟨fun _ => l20 p.length 0 ν (by omega) (fun a a1 _ a3 => h1 a a1 a3) h2 h3 h4 (fun k hk => absurd hk (Nat.not_lt_zero _)) (fun e he => ?_), fun z => absurd (by decide) z⟩
      rw [List.take_zero, if_neg (by intro z; cases z)]
      exact h6 e he
    | succ d ih =>
      intro i ν hi h1 h2 h3 h4 h6
      refine hK uX8_keep 29 _ _ _ _ (vcX8_keep_8 K _ (nI p.length) (nI i) ν ?_)
      rw [nI_clamp (show i < 2 ^ 31 by omega), nI_1]
      refine ⟨fun z => absurd z (nI_ge (b := 8) (by omega) (by omega)), fun _ => ⟨vp_in_nI (by omega) (by omega), ?_⟩⟩
      refine ih (i + 1) _ (by omega) (fun a a1 a3 => by rw [w_up_o a3]; exact h1 a a1 a3) (fun j j1 j2 => by rw [w_up_o (by decide)]; exact h2 j j1 j2) (by rw [w_up_o (by decide)]; exact h3) (by rw [w_up_o (by decide)]; exact h4) (fun e he => ?_)
      rw [w_up_s]
      by_cases q : e = i
      · rw [q, upd_in]
      · rw [upd_out q]; exact h6 e (by omega)
  refine hK uX8_keep 29 _ _ _ _ (vcX8_keep_0 K _ (nI p.length) μ ?_)
  exact l8 8 0 _ rfl (fun a a1 _ => by rw [w_up_o a1, w_up_o a1]) (fun j j1 j2 => by rw [w_up_s, upd_out j2, w_up_s, upd_out j1]) (by rw [w_up_s, upd_out (by decide), w_up_s, upd_in]) (by rw [w_up_s, upd_in]) (fun e he => absurd he (Nat.not_lt_zero _))
set_option maxRecDepth 100000 in
theorem zX8_keep (l : Launch) : ∀ (idx : Nat) (S : wS), gX8_keep idx = some S → w_Call l 8 idx S 1 shM rfM 32 := by
  intro idx S hS
  unfold gX8_keep at hS
  split at hS
  · cases hS
theorem mX8_keep (l : Launch) : w_Met l yX8_keep cX8_keep 3 none 1 shM rfM 32 sX8_keep.2.2.2.1 sX8_keep.2.2.2.2 :=
  w_meth (o := 8) (Γ := gX8_keep) (tb := tX8_keep) (by decide +kernel) rfl kX8_keep rfl (zX8_keep l) (fun as μ h => by obtain ⟨n, rfl, h⟩ := h; exact Nat.le_of_ble_eq_true rfl) (fun as μ h K hK => by obtain ⟨n, rfl, h⟩ := h; exact vX8_keep n μ h K hK)
set_option maxRecDepth 100000 in
theorem eX8_keep : Cond.code yX8_keep cX8_keep 3 none ∈ w_tbl ∧ Cond.instanceMethod yX8_keep ∈ w_tbl ∧ Cond.selects (w_C 8) yX8_keep yX8_keep ∈ w_tbl ∧ Cond.initialized yX8_keep.cls ∈ w_tbl := ⟨by decide +kernel, by decide +kernel, by decide +kernel, by decide +kernel⟩
theorem rX8_keep : ∀ as μ, sX8_keep.2.2.2.1 as μ → ∃ q as', as = .ref q :: as' ∧ q < 32 ∧ shM q = .inl 8 := by
  intro as μ h
  obtain ⟨n, rfl, h⟩ := h
  exact ⟨_, _, rfl, by decide, rfl⟩
