def dM (ν : wM) : wD := (fun e => if e < 8 then (ν 3 e).toNatClampNeg else 0, fun e o => decide (e < 8 ∧ o < 8) && w_tells (ν 11) (ν 12) (nI e) (nI o) (ν 0 13).toNatClampNeg, fun e o => decide (e < 8 ∧ o < 8) && decide (¬ ν 4 e &&& ν 4 o = 0), fun e o => decide (e < 8 ∧ o < 8) && decide (¬ ν 2 e &&& ν 2 o = 0), (ν 0 12).toNatClampNeg, (ν 0 11).toNatClampNeg)
def wm_LY (ν : wM) : Prop := (∀ e, e < 8 → vp_in (ν 3 e) 13) ∧ vp_in (ν 0 11) 61 ∧ vp_in (ν 0 12) 7 ∧ vp_in (ν 0 13) 9
theorem dM_sp {μ : wM} (h : wm_LY μ) {e : Nat} (he : e < 8) : μ 3 e = nI ((dM μ).sp e) ∧ (dM μ).sp e < 13 := by
  obtain ⟨A, hA, hAn, hAc⟩ := vp_in_le (h.1 e he) (by decide)
  have : (dM μ).sp e = A := by show (if e < 8 then (μ 3 e).toNatClampNeg else 0) = A; rw [if_pos he, hAc]
  rw [this]
  exact ⟨hAn, hA⟩
theorem dM_rest {μ : wM} (h : wm_LY μ) : μ 0 12 = nI (dM μ).rest ∧ (dM μ).rest < 7 := by
  obtain ⟨A, hA, hAn, hAc⟩ := vp_in_le h.2.2.1 (by decide)
  have : (dM μ).rest = A := hAc
  rw [this]
  exact ⟨hAn, hA⟩
theorem dM_len {μ : wM} (h : wm_LY μ) : μ 0 11 = nI (dM μ).len ∧ (dM μ).len < 61 := by
  obtain ⟨A, hA, hAn, hAc⟩ := vp_in_le h.2.1 (by decide)
  have : (dM μ).len = A := hAc
  rw [this]
  exact ⟨hAn, hA⟩
theorem go_N {ν : wM} (h : wm_LY ν) {E S O F : Nat} (hE : E < 8) (hO : O < 8) (hS : S < 100) (hF : F < 100) (hf : ν 14 O = nI F) : w_go ν (ν 14) (nI E) (nI S) (nI O) = goN (dM ν) E S O F := by
  obtain ⟨a1, a2⟩ := dM_sp h hE
  obtain ⟨b1, b2⟩ := dM_sp h hO
  obtain ⟨r1, r2⟩ := dM_rest h
  have eE : (nI E).toNatClampNeg = E := nI_clamp (by omega)
  have eO : (nI O).toNatClampNeg = O := nI_clamp (by omega)
  have hEO : decide (E < 8 ∧ O < 8) = true := decide_eq_true ⟨hE, hO⟩
  have hOE : decide (O < 8 ∧ E < 8) = true := decide_eq_true ⟨hO, hE⟩
  have lt : ∀ a b : Nat, a < 1000 → b < 1000 → (nI a < nI b ↔ a < b) := fun a b h1 h2 => nI_ltI (by omega) (by omega)
  unfold w_go w_goB goN
  rw [eE, eO, hf, a1, b1, r1, nI_add, nI_add, nI_add, nI_add]
  rw [show (dM ν).prt E O = decide (¬ ν 2 E &&& ν 2 O = 0) from by show (decide (E < 8 ∧ O < 8) && _) = _; rw [hEO, Bool.true_and]]
  rw [show (dM ν).men E O = decide (¬ ν 4 E &&& ν 4 O = 0) from by show (decide (E < 8 ∧ O < 8) && _) = _; rw [hEO, Bool.true_and]]
  rw [show (dM ν).cal E O = w_tells (ν 11) (ν 12) (nI E) (nI O) (ν 0 13).toNatClampNeg from by show (decide (E < 8 ∧ O < 8) && _) = _; rw [hEO, Bool.true_and]]
  rw [show (dM ν).cal O E = w_tells (ν 11) (ν 12) (nI O) (nI E) (ν 0 13).toNatClampNeg from by show (decide (O < 8 ∧ E < 8) && _) = _; rw [hOE, Bool.true_and]]
  simp only [lt S (F + (dM ν).sp O) (by omega) (by omega), lt F (S + (dM ν).sp E) (by omega) (by omega), lt S (F + (dM ν).sp O + (dM ν).rest) (by omega) (by omega), lt F (S + (dM ν).sp E + (dM ν).rest) (by omega) (by omega)]
  generalize w_tells (ν 11) (ν 12) (nI E) (nI O) (ν 0 13).toNatClampNeg = c1
  generalize w_tells (ν 11) (ν 12) (nI O) (nI E) (ν 0 13).toNatClampNeg = c2
  by_cases p1 : ν 2 E &&& ν 2 O = 0
  · by_cases p2 : ν 4 E &&& ν 4 O = 0
    · cases c1 <;> cases c2 <;> simp [p1, p2] <;> (try split) <;> simp_all <;> omega
    · cases c1 <;> cases c2 <;> simp [p1, p2] <;> (try split) <;> simp_all <;> omega
  · by_cases p2 : ν 4 E &&& ν 4 O = 0
    · cases c1 <;> cases c2 <;> simp [p1, p2] <;> (try split) <;> simp_all <;> omega
    · cases c1 <;> cases c2 <;> simp [p1, p2] <;> (try split) <;> simp_all <;> omega
theorem take_s {p : List Nat} {i : Nat} (h : i < p.length) : p.take (i + 1) = p.take i ++ [p.getD i 0] := by
  rw [List.take_add_one, List.getElem?_eq_getElem h, List.getD_eq_getElem?_getD, List.getElem?_eq_getElem h]
  rfl
theorem drop_s {p : List Nat} {i : Nat} (h : i < p.length) : p.drop i = p.getD i 0 :: p.drop (i + 1) := by
  rw [List.drop_eq_getElem_cons h, List.getD_eq_getElem?_getD, List.getElem?_eq_getElem h]
  rfl
theorem getD_mem {p : List Nat} {i : Nat} (h : i < p.length) : p.getD i 0 ∈ p := by
  rw [List.getD_eq_getElem?_getD, List.getElem?_eq_getElem h]
  exact List.getElem_mem h
theorem take_mem {p : List Nat} {i o : Nat} (h : o ∈ p.take i) : ∃ k, k < i ∧ k < p.length ∧ o = p.getD k 0 := by
  obtain ⟨k, hk, hko⟩ := List.mem_iff_getElem.mp h
  rw [List.length_take] at hk
  refine ⟨k, by omega, by omega, ?_⟩
  rw [List.getD_eq_getElem?_getD, List.getElem?_eq_getElem (by omega), ← hko, List.getElem_take]
  rfl
theorem allB_take {D : wD} {E s : Nat} {bg : Nat → Nat} {p : List Nat} : ∀ i, i ≤ p.length → w_allB (fun k => goN D E s (p.getD k 0) (bg (p.getD k 0))) i = g_all D E (p.take i) bg s := by
  intro i
  induction i with
  | zero => intro _; rfl
  | succ i ih =>
    intro hi
    rw [w_allB, ih (by omega), take_s (by omega)]
    unfold g_all
    rw [List.all_append]
    simp
theorem nodup_take {p : List Nat} (h : p.Nodup) {i : Nat} (hi : i < p.length) : ∀ o, o ∈ p.take i → o ≠ p.getD i 0 := by
  intro o ho
  obtain ⟨k, h1, h2, rfl⟩ := take_mem ho
  rw [List.getD_eq_getElem?_getD, List.getD_eq_getElem?_getD, List.getElem?_eq_getElem h2, List.getElem?_eq_getElem hi]
  exact List.pairwise_iff_getElem.mp h k i h2 hi h1
def rowP (ν : wM) (p : List Nat) : Prop := p.length ≤ 6 ∧ p.Nodup ∧ (∀ e, e ∈ p → e < 8 ∧ 1 ≤ (dM ν).sp e) ∧ ∀ i, i < p.length → ν 13 i = nI (p.getD i 0)
/-! X8_layRow -/
def pX8_layRow (n : Int32) (μ : wM) : Prop := wm_LY μ ∧ ∃ p : List Nat, n = nI p.length ∧ rowP μ p
def qX8_layRow (n : Int32) (μ : wM) (r : Int32) (μ' : wM) : Prop := ∀ p : List Nat, n = nI p.length → rowP μ p → (∀ a, a ≠ 14 → μ' a = μ a) ∧ (evalL (dM μ) p [] (fun _ => 0) 0 = none → r = -1) ∧ (∀ R : Nat × (Nat → Nat), evalL (dM μ) p [] (fun _ => 0) 0 = some R → r = nI R.1 ∧ R.1 ≤ 60 ∧ ∀ e, e ∈ p → μ' 14 e = nI (R.2 e))
def sX8_layRow : wS := (false, false, 2, fun as μ => ∃ n, as = [.ref 0, .int n] ∧ pX8_layRow n μ, fun as μ r μ' => match as with
  | [.ref _, .int n] => qX8_layRow n μ r μ'
  | _ => False)
def gX8_layRow : Nat → Option wS := fun k => match k with
  | 142 => some sX8_goes
  | _ => none
def uX8_layRow : Nat → Option (List Nat) := fun j => match j with | 4 => some [4, 5, 6, 7] | 16 => some [7] | 31 => some [] | _ => none
set_option maxHeartbeats 4000000 in
set_option maxRecDepth 100000 in
theorem vcX8_layRow_0 (K : wK) (R : Int32 → wM → Prop) (n : Int32) (μ : wM) (h : K 4 [some (.ref 0), some (.int n), some (.int 0), some (.int 0), none, none, none, none] [] μ) : w_n 8 gX8_layRow shM rfM 32 (some .int) R tX8_layRow uX8_layRow K 38 0 [some (.ref 0), some (.int n), none, none, none, none, none, none] [] μ :=
  h
set_option maxHeartbeats 4000000 in
set_option maxRecDepth 100000 in
theorem vcX8_layRow_4 (K : wK) (R : Int32 → wM → Prop) (n : Int32) (l2 : Int32) (l3 : Int32) (μ : wM) (h : (
    (((n : Int32) ≤ l3) → R l2 μ) ∧
    (¬ ((n : Int32) ≤ l3) → (vp_in l3 6) ∧ (∀ (x1 : Int32), x1 = (μ 13 (l3 : Int32).toNatClampNeg) → K 16 [some (.ref 0), some (.int n), some (.int l2), some (.int l3), some (.int x1), some (.int 0), some (.int 0), none] [] μ)))) : w_n 8 gX8_layRow shM rfM 32 (some .int) R tX8_layRow uX8_layRow K 38 4 [some (.ref 0), some (.int n), some (.int l2), some (.int l3), none, none, none, none] [] μ :=
  And.intro (fun z3401 => And.intro trivial ((h.1 z3401))) (fun z3402 => And.intro (And.intro (of_decide_eq_true rfl) rfl) (And.intro (And.intro (of_decide_eq_true rfl) (Exists.intro _ (And.intro rfl ((h.2 z3402).1)))) (((h.2 z3402).2 _ rfl))))
set_option maxHeartbeats 4000000 in
set_option maxRecDepth 100000 in
theorem vcX8_layRow_16 (K : wK) (R : Int32 → wM → Prop) (n : Int32) (l2 : Int32) (l3 : Int32) (l4 : Int32) (l5 : Int32) (l6 : Int32) (μ : wM) (h : (vp_in l4 8) ∧ (
    ((((μ 0 11) : Int32) < (l5 + (μ 3 (l4 : Int32).toNatClampNeg))) → (
      (((l6 : Int32) = 0) → R (-1) μ) ∧
      (¬ ((l6 : Int32) = 0) → (
        ((((l5 + (μ 3 (l4 : Int32).toNatClampNeg)) : Int32) ≤ l2) → K 4 [some (.ref 0), some (.int n), some (.int l2), some (.int (l3 + 1)), none, none, none, none] [] (w_up μ 14 (l4 : Int32).toNatClampNeg l5)) ∧
        (¬ (((l5 + (μ 3 (l4 : Int32).toNatClampNeg)) : Int32) ≤ l2) → (∀ (x1 : Int32), x1 = (l5 + (μ 3 (l4 : Int32).toNatClampNeg)) → K 4 [some (.ref 0), some (.int n), some (.int x1), some (.int (l3 + 1)), none, none, none, none] [] (w_up μ 14 (l4 : Int32).toNatClampNeg l5))))))) ∧
    (¬ (((μ 0 11) : Int32) < (l5 + (μ 3 (l4 : Int32).toNatClampNeg))) → (
      (((l6 : Int32) = 0) → K 31 [some (.ref 0), some (.int n), some (.int l2), some (.int l3), some (.int l4), some (.int l5), some (.int 1), some (.int 0)] [] μ) ∧
      (¬ ((l6 : Int32) = 0) → (
        (((l6 : Int32) = 0) → R (-1) μ) ∧
        (¬ ((l6 : Int32) = 0) → (
          ((((l5 + (μ 3 (l4 : Int32).toNatClampNeg)) : Int32) ≤ l2) → K 4 [some (.ref 0), some (.int n), some (.int l2), some (.int (l3 + 1)), none, none, none, none] [] (w_up μ 14 (l4 : Int32).toNatClampNeg l5)) ∧
          (¬ (((l5 + (μ 3 (l4 : Int32).toNatClampNeg)) : Int32) ≤ l2) → (∀ (x2 : Int32), x2 = (l5 + (μ 3 (l4 : Int32).toNatClampNeg)) → K 4 [some (.ref 0), some (.int n), some (.int x2), some (.int (l3 + 1)), none, none, none, none] [] (w_up μ 14 (l4 : Int32).toNatClampNeg l5))))))))))) : w_n 8 gX8_layRow shM rfM 32 (some .int) R tX8_layRow uX8_layRow K 38 16 [some (.ref 0), some (.int n), some (.int l2), some (.int l3), some (.int l4), some (.int l5), some (.int l6), none] [] μ :=
  And.intro (And.intro (of_decide_eq_true rfl) rfl) (And.intro (And.intro (of_decide_eq_true rfl) (Exists.intro _ (And.intro rfl (h.1)))) (And.intro (And.intro (of_decide_eq_true rfl) rfl) (And.intro (fun z3403 => And.intro (fun z3405 => And.intro trivial (((h.2.1 z3403).1 z3405))) (fun z3406 => And.intro (And.intro (of_decide_eq_true rfl) rfl) (And.intro (And.intro (of_decide_eq_true rfl) (Exists.intro _ (And.intro rfl (h.1)))) (And.intro (And.intro (of_decide_eq_true rfl) rfl) (And.intro (And.intro (of_decide_eq_true rfl) (Exists.intro _ (And.intro rfl (h.1)))) (And.intro (fun z3407 => (((h.2.1 z3403).2 z3406).1 z3407)) (fun z3408 => And.intro (And.intro (of_decide_eq_true rfl) rfl) (And.intro (And.intro (of_decide_eq_true rfl) (Exists.intro _ (And.intro rfl (h.1)))) (((((h.2.1 z3403).2 z3406).2 z3408) _ rfl)))))))))) (fun z3404 => And.intro (fun z3409 => ((h.2.2 z3404).1 z3409)) (fun z3410 => And.intro (fun z3411 => And.intro trivial ((((h.2.2 z3404).2 z3410).1 z3411))) (fun z3412 => And.intro (And.intro (of_decide_eq_true rfl) rfl) (And.intro (And.intro (of_decide_eq_true rfl) (Exists.intro _ (And.intro rfl (h.1)))) (And.intro (And.intro (of_decide_eq_true rfl) rfl) (And.intro (And.intro (of_decide_eq_true rfl) (Exists.intro _ (And.intro rfl (h.1)))) (And.intro (fun z3413 => ((((h.2.2 z3404).2 z3410).2 z3412).1 z3413)) (fun z3414 => And.intro (And.intro (of_decide_eq_true rfl) rfl) (And.intro (And.intro (of_decide_eq_true rfl) (Exists.intro _ (And.intro rfl (h.1)))) ((((((h.2.2 z3404).2 z3410).2 z3412).2 z3414) _ rfl))))))))))))))
set_option maxHeartbeats 4000000 in
set_option maxRecDepth 100000 in
theorem vcX8_layRow_31 (K : wK) (R : Int32 → wM → Prop) (n : Int32) (l2 : Int32) (l3 : Int32) (l4 : Int32) (l5 : Int32) (l6 : Int32) (l7 : Int32) (μ : wM) (h : (
    (((l3 : Int32) ≤ l7) → (
      (((l6 : Int32) = 0) → K 16 [some (.ref 0), some (.int n), some (.int l2), some (.int l3), some (.int l4), some (.int (l5 + 1)), some (.int l6), none] [] μ) ∧
      (¬ ((l6 : Int32) = 0) → K 16 [some (.ref 0), some (.int n), some (.int l2), some (.int l3), some (.int l4), some (.int (l5 + 0)), some (.int l6), none] [] μ))) ∧
    (¬ ((l3 : Int32) ≤ l7) → (
      (((l6 : Int32) = 0) → K 31 [some (.ref 0), some (.int n), some (.int l2), some (.int l3), some (.int l4), some (.int l5), some (.int 0), some (.int (l7 + 1))] [] μ) ∧
      (¬ ((l6 : Int32) = 0) → (vp_in l7 6) ∧ pX8_goes l4 l5 (μ 13 (l7 : Int32).toNatClampNeg) μ ∧ (
        ((w_go μ (μ 14) l4 l5 (μ 13 (l7 : Int32).toNatClampNeg)) = false → K 31 [some (.ref 0), some (.int n), some (.int l2), some (.int l3), some (.int l4), some (.int l5), some (.int 0), some (.int (l7 + 1))] [] μ) ∧
        ((w_go μ (μ 14) l4 l5 (μ 13 (l7 : Int32).toNatClampNeg)) = true → K 31 [some (.ref 0), some (.int n), some (.int l2), some (.int l3), some (.int l4), some (.int l5), some (.int 1), some (.int (l7 + 1))] [] μ))))))) : w_n 8 gX8_layRow shM rfM 32 (some .int) R tX8_layRow uX8_layRow K 38 31 [some (.ref 0), some (.int n), some (.int l2), some (.int l3), some (.int l4), some (.int l5), some (.int l6), some (.int l7)] [] μ :=
  And.intro (fun z3415 => And.intro (fun z3417 => ((h.1 z3415).1 z3417)) (fun z3418 => ((h.1 z3415).2 z3418))) (fun z3416 => And.intro (fun z3419 => ((h.2 z3416).1 z3419)) (fun z3420 => And.intro (And.intro (of_decide_eq_true rfl) rfl) (And.intro (And.intro (of_decide_eq_true rfl) (Exists.intro _ (And.intro rfl (((h.2 z3416).2 z3420).1)))) (And.intro (Exists.intro _ (Exists.intro _ (Exists.intro _ (And.intro rfl (((h.2 z3416).2 z3420).2.1))))) (fun _ _ z3423 => by obtain ⟨z3421, z3422⟩ := z3423; have z3421 := z3421.symm; have z3422 := z3422.symm; subst z3421; subst z3422; exact And.intro (fun z3424 => (((h.2 z3416).2 z3420).2.2.1 (w_B01_0.mp z3424))) (fun z3425 => (((h.2 z3416).2 z3420).2.2.2 (w_B01_n.mp z3425))))))))
set_option maxHeartbeats 4000000 in
theorem vX8_layRow (n : Int32) (μ : wM) (h : pX8_layRow n μ) (K : wK) (hK : w_cl 8 gX8_layRow shM rfM 32 (some .int) (qX8_layRow n μ) tX8_layRow K) : K 0 [some (.ref 0), some (.int n), none, none, none, none, none, none] [] μ := by
  unfold pX8_layRow at h
  obtain ⟨hL, p, rfl, hp⟩ := h
  obtain ⟨l1, l2⟩ := dM_len hL
  have post : ∀ (r : Int32) (ν : wM), (∀ a, a ≠ 14 → ν a = μ a) → (evalL (dM μ) p [] (fun _ => 0) 0 = none → r = -1) → (∀ R : Nat × (Nat → Nat), evalL (dM μ) p [] (fun _ => 0) 0 = some R → r = nI R.1 ∧ R.1 ≤ 60 ∧ ∀ e, e ∈ p → ν 14 e = nI (R.2 e)) → qX8_layRow (nI p.length) μ r ν := by
    intro r ν h1 h2 h3 p' e1 hp'
    have hlen : p.length = p'.length := (nI_eq (by have := hp.1; omega) (by have := hp'.1; omega)).mp e1
    have : p = p' := by
      apply List.ext_getElem hlen
      intro i i1 i2
      have h5 := hp.2.2.2 i i1
      have h6 := hp'.2.2.2 i i2
      have m1 := (hp.2.2.1 _ (getD_mem i1)).1
      have m2 := (hp'.2.2.1 _ (getD_mem i2)).1
      have := (nI_eq (by omega) (by omega)).mp (h5.symm.trans h6)
      rw [List.getD_eq_getElem?_getD, List.getD_eq_getElem?_getD, List.getElem?_eq_getElem i1, List.getElem?_eq_getElem i2] at this
      exact this
    subst this
    exact ⟨h1, h2, h3⟩
  obtain ⟨hp6, hnd, hlt, hrow⟩ := hp
  have l4 : ∀ (d i en : Nat) (bg : Nat → Nat) (ν : wM), i + d = p.length → (∀ a, a ≠ 14 → ν a = μ a) → evalL (dM μ) p [] (fun _ => 0) 0 = evalL (dM μ) (p.drop i) (p.take i) bg en → (∀ o, o ∈ p.take i → ν 14 o = nI (bg o) ∧ bg o ≤ 60) → en ≤ (dM μ).len → K 4 [some (.ref 0), some (.int (nI p.length)), some (.int (nI en)), some (.int (nI i)), none, none, none, none] [] ν := by
    intro d
    induction d with
    | zero =>
      intro i en bg ν hi hf hev hag hen
      have hip : i = p.length := by omega
      subst hip
      refine hK uX8_layRow 38 _ _ _ _ (vcX8_layRow_4 K _ (nI p.length) (nI en) (nI p.length) ν ?_)
      refine ⟨fun _ => ?_, fun z => absurd (nI_le (Nat.le_refl _) (by omega)) z⟩
      rw [List.drop_length, List.take_length, evalL] at hev
      rw [List.take_length] at hag
      refine post _ ν hf (fun z => ?_) (fun R hR => ?_)
      · rw [hev] at z; cases z
      · rw [hev] at hR; cases hR
        exact ⟨rfl, by omega, fun e he => (hag e he).1⟩
    | succ d ih =>
      intro i en bg ν hi hf hev hag hen
      refine hK uX8_layRow 38 _ _ _ _ (vcX8_layRow_4 K _ (nI p.length) (nI en) (nI i) ν ?_)
      have hil : i < p.length := by omega
      have ei : (nI i).toNatClampNeg = i := nI_clamp (by omega)
      rw [ei, hf 13 (by decide), hrow i hil]
      refine ⟨fun z => absurd z (nI_ge (by omega) (by omega)), fun _ => ⟨vp_in_nI (by omega) (by omega), fun x1 hx1 => ?_⟩⟩
      subst hx1
      obtain ⟨hE, hE1⟩ := hlt _ (getD_mem hil)
      have htk := take_s hil
      have hne := nodup_take hnd hil
      rw [drop_s hil, evalL] at hev
      generalize p.getD i 0 = E at *
      have eE : (nI E).toNatClampNeg = E := nI_clamp (by omega)
      have hE8 : vp_in (nI E) 8 := vp_in_nI (by omega) (by omega)
      obtain ⟨s1, s2⟩ := dM_sp hL hE
      have hLν : wm_LY ν := by unfold wm_LY; rw [hf 3 (by decide), hf 0 (by decide)]; exact hL
      have hdν : dM ν = dM μ := by unfold dM; rw [hf 3 (by decide), hf 0 (by decide), hf 11 (by decide), hf 12 (by decide), hf 4 (by decide), hf 2 (by decide)]
      have hcases := w_ft_cases (g_all (dM μ) E (p.take i) bg) (dM μ).len 0
      have hff : ffN (dM μ) E (p.take i) bg = w_ft (g_all (dM μ) E (p.take i) bg) (dM μ).len 0 := rfl
      -- found at s
      have found : ∀ s : Nat, s + (dM μ).sp E ≤ (dM μ).len → (∀ t, t < s → g_all (dM μ) E (p.take i) bg t = false) → g_all (dM μ) E (p.take i) bg s = true → ((nI (s + (dM μ).sp E) ≤ nI en → K 4 [some (.ref 0), some (.int (nI p.length)), some (.int (nI en)), some (.int (nI (i + 1))), none, none, none, none] [] (w_up ν 14 E (nI s))) ∧ (¬ nI (s + (dM μ).sp E) ≤ nI en → ∀ x : Int32, x = nI (s + (dM μ).sp E) → K 4 [some (.ref 0), some (.int (nI p.length)), some (.int x), some (.int (nI (i + 1))), none, none, none, none] [] (w_up ν 14 E (nI s)))) := by
        intro s hs hlow hgs
        have hfe : ffN (dM μ) E (p.take i) bg = s := w_ft_found hgs _ 0 (by omega) (by omega) (fun t _ h2 => hlow t h2)
        have nx : K 4 [some (.ref 0), some (.int (nI p.length)), some (.int (nI (max en (s + (dM μ).sp E)))), some (.int (nI (i + 1))), none, none, none, none] [] (w_up ν 14 E (nI s)) := by
          rw [hfe, if_pos (by omega)] at hev
          refine ih (i + 1) _ (l_upd bg E s) _ (by omega) (fun a ha => by rw [w_up_o ha]; exact hf a ha) (by rw [hev, htk]) (fun o ho => ?_) (by omega)
          rw [htk] at ho
          unfold l_upd
          rcases List.mem_append.mp ho with ho | ho
          · rw [if_neg (hne o ho), w_up_s, upd_out (hne o ho)]
            exact hag o ho
          · rw [List.mem_singleton.mp ho, if_pos rfl, w_up_s, upd_in]
            exact ⟨rfl, by omega⟩
        refine ⟨fun c => ?_, fun c x hx => ?_⟩
        · have c := (nI_leI (by omega) (by omega)).mp c
          rw [show max en (s + (dM μ).sp E) = en by omega] at nx
          exact nx
        · have c : en < s + (dM μ).sp E := by
            rcases Nat.lt_or_ge en (s + (dM μ).sp E) with q | q
            · exact q
            · exact absurd (nI_le q (by omega)) c
          rw [show max en (s + (dM μ).sp E) = s + (dM μ).sp E by omega] at nx
          rw [hx]
          exact nx
      have yes : ∀ s : Nat, s + (dM μ).sp E ≤ (dM μ).len → (∀ t, t < s → g_all (dM μ) E (p.take i) bg t = false) → g_all (dM μ) E (p.take i) bg s = true → K 16 [some (.ref 0), some (.int (nI p.length)), some (.int (nI en)), some (.int (nI i)), some (.int (nI E)), some (.int (nI s)), some (.int 1), none] [] ν := by
        intro s hs hlow hgs
        have fd := found s hs hlow hgs
        refine hK uX8_layRow 38 _ _ _ _ (vcX8_layRow_16 K _ (nI p.length) (nI en) (nI i) (nI E) (nI s) 1 ν ?_)
        rw [eE, hf 3 (by decide), s1, nI_add, nI_1, hf 0 (by decide), l1]
        exact ⟨hE8, fun _ => ⟨fun z => absurd z (by decide), fun _ => fd⟩, fun _ => ⟨fun z => absurd z (by decide), fun _ => ⟨fun z => absurd z (by decide), fun _ => fd⟩⟩⟩
      have inn : ∀ s : Nat, s ≤ 60 → (g_all (dM μ) E (p.take i) bg s = true → K 16 [some (.ref 0), some (.int (nI p.length)), some (.int (nI en)), some (.int (nI i)), some (.int (nI E)), some (.int (nI s)), some (.int 1), none] [] ν) → (g_all (dM μ) E (p.take i) bg s = false → K 16 [some (.ref 0), some (.int (nI p.length)), some (.int (nI en)), some (.int (nI i)), some (.int (nI E)), some (.int (nI (s + 1))), some (.int 0), none] [] ν) → ∀ (d k : Nat), k + d = i → K 31 [some (.ref 0), some (.int (nI p.length)), some (.int (nI en)), some (.int (nI i)), some (.int (nI E)), some (.int (nI s)), some (.int (w_B01 (w_allB (fun k => goN (dM μ) E s (p.getD k 0) (bg (p.getD k 0))) k))), some (.int (nI k))] [] ν := by
        intro s hs y n d
        induction d with
        | zero =>
          intro k hk
          have hki : k = i := by omega
          subst hki
          refine hK uX8_layRow 38 _ _ _ _ (vcX8_layRow_31 K _ (nI p.length) (nI en) (nI k) (nI E) (nI s) (w_B01 (w_allB (fun k => goN (dM μ) E s (p.getD k 0) (bg (p.getD k 0))) k)) (nI k) ν ?_)
          rw [allB_take k (by omega), Int32.add_zero, nI_1]
          refine ⟨fun _ => ⟨fun z => ?_, fun z => ?_⟩, fun z => absurd (nI_le (Nat.le_refl _) (by omega)) z⟩
          · have z := w_B01_0.mp z; rw [z]; exact n z
          · have z := w_B01_n.mp z; rw [z]; exact y z
        | succ d ihd =>
          intro k hk
          refine hK uX8_layRow 38 _ _ _ _ (vcX8_layRow_31 K _ (nI p.length) (nI en) (nI i) (nI E) (nI s) (w_B01 (w_allB (fun k => goN (dM μ) E s (p.getD k 0) (bg (p.getD k 0))) k)) (nI k) ν ?_)
          have z := ihd (k + 1) (by omega)
          rw [w_allB] at z
          have hkl : k < p.length := by omega
          have ek : (nI k).toNatClampNeg = k := nI_clamp (by omega)
          have hO := (hlt _ (getD_mem hkl)).1
          have hmem : p.getD k 0 ∈ p.take i := by
            have h5 : p.take (k + 1) = p.take k ++ [p.getD k 0] := take_s hkl
            have h6 : p.getD k 0 ∈ p.take (k + 1) := by rw [h5]; exact List.mem_append.mpr (Or.inr (List.mem_singleton.mpr rfl))
            exact (List.take_subset_take_left p (show k + 1 ≤ i by omega)) h6
          obtain ⟨q1, q2⟩ := hag _ hmem
          have hgo : w_go ν (ν 14) (nI E) (nI s) (nI (p.getD k 0)) = goN (dM μ) E s (p.getD k 0) (bg (p.getD k 0)) := by
            rw [go_N hLν hE hO (by omega) (by omega) q1, hdν]
          rw [ek, nI_1 k, show ν 13 k = nI (p.getD k 0) from by rw [hf 13 (by decide)]; exact hrow k hkl, hgo]
          refine ⟨fun z => absurd z (nI_ge (by omega) (by omega)), fun _ => ⟨fun c => ?_, fun c => ⟨vp_in_nI (by omega) (by omega), ⟨hE8, vp_in_nI (by omega) (by omega), hLν.2.2.2⟩, fun c2 => ?_, fun c2 => ?_⟩⟩⟩
          · rw [w_B01_0.mp c, Bool.false_and] at z; exact z
          · rw [w_B01_n.mp c, c2] at z; exact z
          · rw [w_B01_n.mp c, c2] at z; exact z
      have l16 : ∀ (d s : Nat), s + d = 61 → (∀ t, t < s → g_all (dM μ) E (p.take i) bg t = false) → K 16 [some (.ref 0), some (.int (nI p.length)), some (.int (nI en)), some (.int (nI i)), some (.int (nI E)), some (.int (nI s)), some (.int 0), none] [] ν := by
        have stop : ∀ s : Nat, (∀ t, t < s → g_all (dM μ) E (p.take i) bg t = false) → (dM μ).len < s + (dM μ).sp E → qX8_layRow (nI p.length) μ (-1) ν := by
          intro s hlow hs
          have : evalL (dM μ) p [] (fun _ => 0) 0 = none := by
            rw [hev, if_neg ?_]
            rw [hff]
            rcases hcases with ⟨a1, -⟩ | ⟨-, a2, a3, -⟩
            · rw [a1]; omega
            · have : s ≤ w_ft (g_all (dM μ) E (p.take i) bg) (dM μ).len 0 := by
                rcases Nat.lt_or_ge (w_ft (g_all (dM μ) E (p.take i) bg) (dM μ).len 0) s with q | q
                · rw [hlow _ q] at a3; cases a3
                · exact q
              omega
          exact post _ ν hf (fun _ => rfl) (fun R hR => by rw [this] at hR; cases hR)
        intro d
        induction d with
        | zero =>
          intro s hs hlow
          refine hK uX8_layRow 38 _ _ _ _ (vcX8_layRow_16 K _ (nI p.length) (nI en) (nI i) (nI E) (nI s) 0 ν ?_)
          rw [eE, hf 3 (by decide), s1, nI_add, hf 0 (by decide), l1]
          refine ⟨hE8, fun c => ⟨fun _ => stop s hlow (by omega), fun z => absurd rfl z⟩, fun c => absurd (nI_lt (by omega) (by omega)) c⟩
        | succ d ihd =>
          intro s hs hlow
          refine hK uX8_layRow 38 _ _ _ _ (vcX8_layRow_16 K _ (nI p.length) (nI en) (nI i) (nI E) (nI s) 0 ν ?_)
          rw [eE, hf 3 (by decide), s1, nI_add, hf 0 (by decide), l1]
          refine ⟨hE8, fun c => ⟨fun _ => stop s hlow ((nI_ltI (by omega) (by omega)).mp c), fun z => absurd rfl z⟩, fun c => ⟨fun _ => ?_, fun z => absurd rfl z⟩⟩
          have c : s + (dM μ).sp E ≤ (dM μ).len := by
            rcases Nat.lt_or_ge (dM μ).len (s + (dM μ).sp E) with q | q
            · exact absurd (nI_lt q (by omega)) c
            · exact q
          exact inn s (by omega) (fun hg => yes s c hlow hg) (fun hg => ihd (s + 1) (by omega) (fun t ht => by
            by_cases q : t = s
            · rw [q]; exact hg
            · exact hlow t (by omega))) i 0 (by omega)
      exact l16 61 0 rfl (fun t ht => absurd ht (Nat.not_lt_zero _))
  refine hK uX8_layRow 38 _ _ _ _ (vcX8_layRow_0 K _ (nI p.length) μ ?_)
  exact l4 p.length 0 0 (fun _ => 0) μ (by omega) (fun _ _ => rfl) rfl (fun o ho => by rw [List.take_zero] at ho; cases ho) (by omega)
set_option maxRecDepth 100000 in
theorem zX8_layRow (l : Launch) : ∀ (idx : Nat) (S : wS), gX8_layRow idx = some S → w_Call l 8 idx S 3 shM rfM 32 := by
  intro idx S hS
  unfold gX8_layRow at hS
  split at hS
  · cases hS
    exact w_callV (ci := 8) (mX8_goes l) (by decide) rX8_goes eX8_goes.1 (by decide +kernel) eX8_goes.2.1 eX8_goes.2.2.1 eX8_goes.2.2.2 (by decide +kernel) (by decide) (by decide)
  · cases hS
theorem mX8_layRow (l : Launch) : w_Met l yX8_layRow cX8_layRow 8 (some .int) 3 shM rfM 32 sX8_layRow.2.2.2.1 sX8_layRow.2.2.2.2 :=
  w_meth (o := 8) (Γ := gX8_layRow) (tb := tX8_layRow) (by decide +kernel) rfl kX8_layRow rfl (zX8_layRow l) (fun as μ h => by obtain ⟨n, rfl, h⟩ := h; exact Nat.le_of_ble_eq_true rfl) (fun as μ h K hK => by obtain ⟨n, rfl, h⟩ := h; exact vX8_layRow n μ h K hK)
set_option maxRecDepth 100000 in
theorem eX8_layRow : Cond.code yX8_layRow cX8_layRow 8 (some .int) ∈ w_tbl ∧ Cond.instanceMethod yX8_layRow ∈ w_tbl ∧ Cond.selects (w_C 8) yX8_layRow yX8_layRow ∈ w_tbl ∧ Cond.initialized yX8_layRow.cls ∈ w_tbl := ⟨by decide +kernel, by decide +kernel, by decide +kernel, by decide +kernel⟩
theorem rX8_layRow : ∀ as μ, sX8_layRow.2.2.2.1 as μ → ∃ q as', as = .ref q :: as' ∧ q < 32 ∧ shM q = .inl 8 := by
  intro as μ h
  obtain ⟨n, rfl, h⟩ := h
  exact ⟨_, _, rfl, by decide, rfl⟩
