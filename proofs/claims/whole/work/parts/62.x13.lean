def dX (μ : wM) : wD := (fun e => if e < 8 then (μ (e + 27) 3).toNatClampNeg else 0, fun e o => decide (e < 8 ∧ o < 8) && w_bt (μ 11 o) (nI e), fun e o => decide (e < 8 ∧ o < 8) && decide (¬ μ (e + 27) 4 &&& μ (o + 27) 4 = 0), fun e o => decide (e < 8 ∧ o < 8) && decide (¬ μ (e + 27) 2 &&& μ (o + 27) 2 = 0), (μ 1 3).toNatClampNeg, (μ 1 2).toNatClampNeg)
def w_LY (μ : wM) : Prop := (∀ e, e < 8 → vp_in (μ (e + 27) 3) 13) ∧ vp_in (μ 1 2) 61 ∧ vp_in (μ 1 3) 7
theorem dX_sp {μ : wM} (h : w_LY μ) {e : Nat} (he : e < 8) : μ (e + 27) 3 = nI ((dX μ).sp e) ∧ (dX μ).sp e < 13 := by
  obtain ⟨A, hA, hAn, hAc⟩ := vp_in_le (h.1 e he) (by decide)
  have : (dX μ).sp e = A := by show (if e < 8 then (μ (e + 27) 3).toNatClampNeg else 0) = A; rw [if_pos he, hAc]
  rw [this]
  exact ⟨hAn, hA⟩
theorem dX_rest {μ : wM} (h : w_LY μ) : μ 1 3 = nI (dX μ).rest ∧ (dX μ).rest < 7 := by
  obtain ⟨A, hA, hAn, hAc⟩ := vp_in_le h.2.2 (by decide)
  have : (dX μ).rest = A := hAc
  rw [this]
  exact ⟨hAn, hA⟩
theorem dX_len {μ : wM} (h : w_LY μ) : μ 1 2 = nI (dX μ).len ∧ (dX μ).len < 61 := by
  obtain ⟨A, hA, hAn, hAc⟩ := vp_in_le h.2.1 (by decide)
  have : (dX μ).len = A := hAc
  rw [this]
  exact ⟨hAn, hA⟩
theorem dX_cal {μ : wM} {e o : Nat} (he : e < 8) (ho : o < 8) : (((μ 11 o >>> (nI e &&& 31)) &&& 1) = 1) ↔ (dX μ).cal e o = true := by
  show _ ↔ (decide (e < 8 ∧ o < 8) && w_bt (μ 11 o) (nI e)) = true
  rw [decide_eq_true ⟨he, ho⟩, Bool.true_and]
  unfold w_bt
  exact (decide_eq_true_iff).symm
theorem dX_men {μ : wM} {e o : Nat} (he : e < 8) (ho : o < 8) : (¬ μ (e + 27) 4 &&& μ (o + 27) 4 = 0) ↔ (dX μ).men e o = true := by
  show _ ↔ (decide (e < 8 ∧ o < 8) && decide (¬ μ (e + 27) 4 &&& μ (o + 27) 4 = 0)) = true
  rw [decide_eq_true ⟨he, ho⟩, Bool.true_and]
  exact (decide_eq_true_iff).symm
theorem dX_prt {μ : wM} {e o : Nat} (he : e < 8) (ho : o < 8) : (¬ μ (e + 27) 2 &&& μ (o + 27) 2 = 0) ↔ (dX μ).prt e o = true := by
  show _ ↔ (decide (e < 8 ∧ o < 8) && decide (¬ μ (e + 27) 2 &&& μ (o + 27) 2 = 0)) = true
  rw [decide_eq_true ⟨he, ho⟩, Bool.true_and]
  exact (decide_eq_true_iff).symm
def w_tl (μ : wM) (n : Nat) : List Nat := (List.range n).map (fun i => (μ 12 i).toNatClampNeg)
def w_tb (μ : wM) : Nat → Nat := fun o => (μ 13 o).toNatClampNeg
theorem w_tl_s (μ : wM) (n : Nat) : w_tl μ (n + 1) = w_tl μ n ++ [(μ 12 n).toNatClampNeg] := by
  unfold w_tl
  rw [List.range_succ, List.map_append]
  rfl
def w_pbI (μ : wM) (o e s : Int32) : Int32 := nI (pbN (dX μ) o.toNatClampNeg e.toNatClampNeg s.toNatClampNeg (w_tb μ o.toNatClampNeg))
def w_ffI (μ : wM) (e d : Int32) : Int32 := nI (ffN (dX μ) e.toNatClampNeg (w_tl μ d.toNatClampNeg) (w_tb μ))
/-! X3_pushedBy -/
def pX3_pushedBy (o : Int32) (e : Int32) (s : Int32) (μ : wM) : Prop := w_LY μ ∧ vp_in o 8 ∧ vp_in e 8 ∧ vp_in s 1001 ∧ vp_in (μ 13 o.toNatClampNeg) 61
def qX3_pushedBy (o : Int32) (e : Int32) (s : Int32) (μ : wM) (r : Int32) (μ' : wM) : Prop := r = (w_pbI μ o e s) ∧ μ' = μ
def sX3_pushedBy : wS := (false, false, 4, fun as μ => ∃ o, ∃ e, ∃ s, as = [.ref 1, .int o, .int e, .int s] ∧ pX3_pushedBy o e s μ, fun as μ r μ' => match as with
  | [.ref _, .int o, .int e, .int s] => qX3_pushedBy o e s μ r μ'
  | _ => False)
def gX3_pushedBy : Nat → Option wS := fun k => match k with
  | _ => none
def uX3_pushedBy : Nat → Option (List Nat) := fun j => match j with | 40 => some [] | 55 => some [] | 78 => some [] | _ => none
set_option maxHeartbeats 4000000 in
set_option maxRecDepth 100000 in
theorem vcX3_pushedBy_0 (K : wK) (R : Int32 → wM → Prop) (o : Int32) (e : Int32) (s : Int32) (μ : wM) (h : (vp_in e 8) ∧ (vp_in o 8) ∧ (∀ (x1 : Int32), x1 = (s + (μ (Int32.toNatClampNeg e + 27) 3)) → (∀ (x2 : Int32), x2 = (μ 13 (o : Int32).toNatClampNeg) → (∀ (x3 : Int32), x3 = (x2 + (μ (Int32.toNatClampNeg o + 27) 3)) → (
    ((((((μ 11 (o : Int32).toNatClampNeg) >>> (e &&& 31)) &&& 1) : Int32) = 1) → (
      (((x1 : Int32) ≤ x2) → K 40 [some (.ref 1), some (.int o), some (.int e), some (.int s), some (.ref (Int32.toNatClampNeg e + 27)), some (.ref (Int32.toNatClampNeg o + 27)), some (.int x1), some (.int x2), some (.int x3)] [] μ) ∧
      (¬ ((x1 : Int32) ≤ x2) → R 1000 μ))) ∧
    (¬ (((((μ 11 (o : Int32).toNatClampNeg) >>> (e &&& 31)) &&& 1) : Int32) = 1) → K 40 [some (.ref 1), some (.int o), some (.int e), some (.int s), some (.ref (Int32.toNatClampNeg e + 27)), some (.ref (Int32.toNatClampNeg o + 27)), some (.int x1), some (.int x2), some (.int x3)] [] μ)))))) : w_n 3 gX3_pushedBy shX rfX 43 (some .int) R tX3_pushedBy uX3_pushedBy K 41 0 [some (.ref 1), some (.int o), some (.int e), some (.int s), none, none, none, none, none] [] μ :=
  And.intro (And.intro (of_decide_eq_true rfl) rfl) (And.intro (Or.inl (And.intro (of_decide_eq_true rfl) (Exists.intro _ (And.intro rfl (h.1))))) (And.intro (And.intro (of_decide_eq_true rfl) rfl) (And.intro (Or.inl (And.intro (of_decide_eq_true rfl) (Exists.intro _ (And.intro rfl (h.2.1))))) (And.intro (ev_ok (h.1)) (And.intro (And.intro (of_decide_eq_true rfl) rfl) (And.intro (And.intro (of_decide_eq_true rfl) (Exists.intro _ (And.intro rfl (h.2.1)))) (And.intro (ev_ok (h.2.1)) (And.intro (And.intro (of_decide_eq_true rfl) rfl) (And.intro (And.intro (of_decide_eq_true rfl) (Exists.intro _ (And.intro rfl (h.2.1)))) (And.intro (fun z3283 => And.intro (fun z3285 => (((((h.2.2 _ rfl) _ rfl) _ rfl).1 z3283).1 z3285)) (fun z3286 => And.intro trivial ((((((h.2.2 _ rfl) _ rfl) _ rfl).1 z3283).2 z3286)))) (fun z3284 => ((((h.2.2 _ rfl) _ rfl) _ rfl).2 z3284))))))))))))
set_option maxHeartbeats 4000000 in
set_option maxRecDepth 100000 in
theorem vcX3_pushedBy_40 (K : wK) (R : Int32 → wM → Prop) (o : Int32) (e : Int32) (s : Int32) (l6 : Int32) (l7 : Int32) (l8 : Int32) (μ : wM) (h : (vp_in e 8) ∧ (
    ((((((μ 11 (e : Int32).toNatClampNeg) >>> (o &&& 31)) &&& 1) : Int32) = 1) → (
      (((l8 : Int32) ≤ s) → K 55 [some (.ref 1), some (.int o), some (.int e), some (.int s), some (.ref (Int32.toNatClampNeg e + 27)), some (.ref (Int32.toNatClampNeg o + 27)), some (.int l6), some (.int l7), some (.int l8)] [] μ) ∧
      (¬ ((l8 : Int32) ≤ s) → R l8 μ))) ∧
    (¬ (((((μ 11 (e : Int32).toNatClampNeg) >>> (o &&& 31)) &&& 1) : Int32) = 1) → K 55 [some (.ref 1), some (.int o), some (.int e), some (.int s), some (.ref (Int32.toNatClampNeg e + 27)), some (.ref (Int32.toNatClampNeg o + 27)), some (.int l6), some (.int l7), some (.int l8)] [] μ))) : w_n 3 gX3_pushedBy shX rfX 43 (some .int) R tX3_pushedBy uX3_pushedBy K 41 40 [some (.ref 1), some (.int o), some (.int e), some (.int s), some (.ref (Int32.toNatClampNeg e + 27)), some (.ref (Int32.toNatClampNeg o + 27)), some (.int l6), some (.int l7), some (.int l8)] [] μ :=
  And.intro (And.intro (of_decide_eq_true rfl) rfl) (And.intro (And.intro (of_decide_eq_true rfl) (Exists.intro _ (And.intro rfl (h.1)))) (And.intro (fun z3287 => And.intro (fun z3289 => ((h.2.1 z3287).1 z3289)) (fun z3290 => And.intro trivial (((h.2.1 z3287).2 z3290)))) (fun z3288 => (h.2.2 z3288))))
set_option maxHeartbeats 4000000 in
set_option maxRecDepth 100000 in
theorem vcX3_pushedBy_55 (K : wK) (R : Int32 → wM → Prop) (o : Int32) (e : Int32) (s : Int32) (l6 : Int32) (l7 : Int32) (l8 : Int32) (μ : wM) (h : (vp_in e 8) ∧ (vp_in o 8) ∧ (
    (((((μ (Int32.toNatClampNeg e + 27) 4) &&& (μ (Int32.toNatClampNeg o + 27) 4)) : Int32) = 0) → K 78 [some (.ref 1), some (.int o), some (.int e), some (.int s), some (.ref (Int32.toNatClampNeg e + 27)), some (.ref (Int32.toNatClampNeg o + 27)), some (.int l6), some (.int l7), some (.int l8)] [] μ) ∧
    (¬ ((((μ (Int32.toNatClampNeg e + 27) 4) &&& (μ (Int32.toNatClampNeg o + 27) 4)) : Int32) = 0) → (
      ((((l8 + (μ 1 3)) : Int32) ≤ s) → K 78 [some (.ref 1), some (.int o), some (.int e), some (.int s), some (.ref (Int32.toNatClampNeg e + 27)), some (.ref (Int32.toNatClampNeg o + 27)), some (.int l6), some (.int l7), some (.int l8)] [] μ) ∧
      (¬ (((l8 + (μ 1 3)) : Int32) ≤ s) → (
        ((((l6 + (μ 1 3)) : Int32) ≤ l7) → K 78 [some (.ref 1), some (.int o), some (.int e), some (.int s), some (.ref (Int32.toNatClampNeg e + 27)), some (.ref (Int32.toNatClampNeg o + 27)), some (.int l6), some (.int l7), some (.int l8)] [] μ) ∧
        (¬ (((l6 + (μ 1 3)) : Int32) ≤ l7) → R (l8 + (μ 1 3)) μ))))))) : w_n 3 gX3_pushedBy shX rfX 43 (some .int) R tX3_pushedBy uX3_pushedBy K 41 55 [some (.ref 1), some (.int o), some (.int e), some (.int s), some (.ref (Int32.toNatClampNeg e + 27)), some (.ref (Int32.toNatClampNeg o + 27)), some (.int l6), some (.int l7), some (.int l8)] [] μ :=
  And.intro (ev_ok (h.1)) (And.intro (ev_ok (h.2.1)) (And.intro (fun z3291 => (h.2.2.1 z3291)) (fun z3292 => And.intro (And.intro (of_decide_eq_true rfl) rfl) (And.intro (fun z3293 => ((h.2.2.2 z3292).1 z3293)) (fun z3294 => And.intro (And.intro (of_decide_eq_true rfl) rfl) (And.intro (fun z3295 => (((h.2.2.2 z3292).2 z3294).1 z3295)) (fun z3296 => And.intro (And.intro (of_decide_eq_true rfl) rfl) (And.intro trivial ((((h.2.2.2 z3292).2 z3294).2 z3296))))))))))
set_option maxHeartbeats 4000000 in
set_option maxRecDepth 100000 in
theorem vcX3_pushedBy_78 (K : wK) (R : Int32 → wM → Prop) (o : Int32) (e : Int32) (s : Int32) (l6 : Int32) (l7 : Int32) (l8 : Int32) (μ : wM) (h : (vp_in e 8) ∧ (vp_in o 8) ∧ (
    (((((μ (Int32.toNatClampNeg e + 27) 2) &&& (μ (Int32.toNatClampNeg o + 27) 2)) : Int32) = 0) → R s μ) ∧
    (¬ ((((μ (Int32.toNatClampNeg e + 27) 2) &&& (μ (Int32.toNatClampNeg o + 27) 2)) : Int32) = 0) → (
      (((l8 : Int32) ≤ s) → R s μ) ∧
      (¬ ((l8 : Int32) ≤ s) → (
        (((l6 : Int32) ≤ l7) → R s μ) ∧
        (¬ ((l6 : Int32) ≤ l7) → R l8 μ))))))) : w_n 3 gX3_pushedBy shX rfX 43 (some .int) R tX3_pushedBy uX3_pushedBy K 41 78 [some (.ref 1), some (.int o), some (.int e), some (.int s), some (.ref (Int32.toNatClampNeg e + 27)), some (.ref (Int32.toNatClampNeg o + 27)), some (.int l6), some (.int l7), some (.int l8)] [] μ :=
  And.intro (ev_ok (h.1)) (And.intro (ev_ok (h.2.1)) (And.intro (fun z3297 => And.intro trivial ((h.2.2.1 z3297))) (fun z3298 => And.intro (fun z3299 => And.intro trivial (((h.2.2.2 z3298).1 z3299))) (fun z3300 => And.intro (fun z3301 => And.intro trivial ((((h.2.2.2 z3298).2 z3300).1 z3301))) (fun z3302 => And.intro trivial ((((h.2.2.2 z3298).2 z3300).2 z3302)))))))
set_option maxHeartbeats 4000000 in
theorem vX3_pushedBy (o : Int32) (e : Int32) (s : Int32) (μ : wM) (h : pX3_pushedBy o e s μ) (K : wK) (hK : w_cl 3 gX3_pushedBy shX rfX 43 (some .int) (qX3_pushedBy o e s μ) tX3_pushedBy K) : K 0 [some (.ref 1), some (.int o), some (.int e), some (.int s), none, none, none, none, none] [] μ := by
  unfold pX3_pushedBy at h
  obtain ⟨hL, ho, he, hs, hf⟩ := h
  obtain ⟨O, hO, rfl, hOc⟩ := vp_in_le ho (by decide)
  obtain ⟨E, hE, rfl, hEc⟩ := vp_in_le he (by decide)
  obtain ⟨S, hS, rfl, hSc⟩ := vp_in_le hs (by decide)
  rw [hOc] at hf
  obtain ⟨F, hF, hFn, hFc⟩ := vp_in_le hf (by decide)
  obtain ⟨a1, a2⟩ := dX_sp hL hE
  obtain ⟨b1, b2⟩ := dX_sp hL hO
  obtain ⟨r1, r2⟩ := dX_rest hL
  have ans : ∀ v : Nat, v = pbN (dX μ) O E S F → qX3_pushedBy (nI O) (nI E) (nI S) μ (nI v) μ := fun v hv => by
    unfold qX3_pushedBy w_pbI w_tb
    rw [hOc, hEc, hSc, hFc, hv]
    exact ⟨rfl, rfl⟩
  have le : ∀ a b : Nat, a < 2000 → b < 2000 → (nI a ≤ nI b ↔ a ≤ b) := fun a b h1 h2 => nI_leI (by omega) (by omega)
  unfold pbN at ans
  have k78 : ¬ ((dX μ).cal E O = true ∧ F < S + (dX μ).sp E) → ¬ ((dX μ).cal O E = true ∧ S < F + (dX μ).sp O) → ¬ ((dX μ).men E O = true ∧ S < F + (dX μ).sp O + (dX μ).rest ∧ F < S + (dX μ).sp E + (dX μ).rest) → K 78 [some (.ref 1), some (.int (nI O)), some (.int (nI E)), some (.int (nI S)), some (.ref (Int32.toNatClampNeg (nI E) + 27)), some (.ref (Int32.toNatClampNeg (nI O) + 27)), some (.int (nI (S + (dX μ).sp E))), some (.int (nI F)), some (.int (nI (F + (dX μ).sp O)))] [] μ := by
    intro n1 n2 n3
    rw [if_neg n1, if_neg n2, if_neg n3] at ans
    refine hK uX3_pushedBy 41 _ _ _ _ (vcX3_pushedBy_78 K _ (nI O) (nI E) (nI S) (nI (S + (dX μ).sp E)) (nI F) (nI (F + (dX μ).sp O)) μ ?_)
    rw [hEc, hOc, le _ _ (by omega) (by omega), le _ _ (by omega) (by omega)]
    refine ⟨he, ho, fun c => ans S ?_, fun c => ⟨fun c2 => ans S ?_, fun c2 => ⟨fun c3 => ans S ?_, fun c3 => ans _ ?_⟩⟩⟩
    · rw [if_neg (fun z => (dX_prt hE hO).mpr z.1 c)]
    · rw [if_neg (fun z => by omega)]
    · rw [if_neg (fun z => by omega)]
    · rw [if_pos ⟨(dX_prt hE hO).mp c, by omega, by omega⟩]
  have k55 : ¬ ((dX μ).cal E O = true ∧ F < S + (dX μ).sp E) → ¬ ((dX μ).cal O E = true ∧ S < F + (dX μ).sp O) → K 55 [some (.ref 1), some (.int (nI O)), some (.int (nI E)), some (.int (nI S)), some (.ref (Int32.toNatClampNeg (nI E) + 27)), some (.ref (Int32.toNatClampNeg (nI O) + 27)), some (.int (nI (S + (dX μ).sp E))), some (.int (nI F)), some (.int (nI (F + (dX μ).sp O)))] [] μ := by
    intro n1 n2
    refine hK uX3_pushedBy 41 _ _ _ _ (vcX3_pushedBy_55 K _ (nI O) (nI E) (nI S) (nI (S + (dX μ).sp E)) (nI F) (nI (F + (dX μ).sp O)) μ ?_)
    rw [hEc, hOc, r1, nI_add, nI_add, le _ _ (by omega) (by omega), le _ _ (by omega) (by omega)]
    rw [hEc, hOc] at k78
    refine ⟨he, ho, fun c => k78 n1 n2 (fun z => (dX_men hE hO).mpr z.1 c), fun c => ⟨fun c2 => k78 n1 n2 (fun z => by omega), fun c2 => ⟨fun c3 => k78 n1 n2 (fun z => by omega), fun c3 => ?_⟩⟩⟩
    rw [if_neg n1, if_neg n2] at ans
    exact ans _ (by rw [if_pos ⟨(dX_men hE hO).mp c, by omega, by omega⟩])
  have k40 : ¬ ((dX μ).cal E O = true ∧ F < S + (dX μ).sp E) → K 40 [some (.ref 1), some (.int (nI O)), some (.int (nI E)), some (.int (nI S)), some (.ref (Int32.toNatClampNeg (nI E) + 27)), some (.ref (Int32.toNatClampNeg (nI O) + 27)), some (.int (nI (S + (dX μ).sp E))), some (.int (nI F)), some (.int (nI (F + (dX μ).sp O)))] [] μ := by
    intro n1
    refine hK uX3_pushedBy 41 _ _ _ _ (vcX3_pushedBy_40 K _ (nI O) (nI E) (nI S) (nI (S + (dX μ).sp E)) (nI F) (nI (F + (dX μ).sp O)) μ ?_)
    rw [hEc, le _ _ (by omega) (by omega)]
    rw [hEc] at k55
    refine ⟨he, fun c => ⟨fun c2 => k55 n1 (fun z => by omega), fun c2 => ?_⟩, fun c => k55 n1 (fun z => c ((dX_cal hO hE).mpr z.1))⟩
    rw [if_neg n1] at ans
    exact ans _ (by rw [if_pos ⟨(dX_cal hO hE).mp c, by omega⟩])
  refine hK uX3_pushedBy 41 _ _ _ _ (vcX3_pushedBy_0 K _ (nI O) (nI E) (nI S) μ ?_)
  refine ⟨he, ho, fun x1 e1 x2 e2 x3 e3 => ?_⟩
  rw [hEc, a1, nI_add] at e1
  rw [hOc, hFn] at e2
  rw [hOc, b1, e2, nI_add] at e3
  subst e1 e2 e3
  rw [hOc, le _ _ (by omega) (by omega)]
  rw [hOc] at k40
  refine ⟨fun c => ⟨fun c2 => k40 (fun z => by omega), fun c2 => ?_⟩, fun c => k40 (fun z => c ((dX_cal hE hO).mpr z.1))⟩
  exact ans 1000 (by rw [if_pos ⟨(dX_cal hE hO).mp c, by omega⟩])
set_option maxRecDepth 100000 in
theorem zX3_pushedBy (l : Launch) : ∀ (idx : Nat) (S : wS), gX3_pushedBy idx = some S → w_Call l 3 idx S 1 shX rfX 43 := by
  intro idx S hS
  unfold gX3_pushedBy at hS
  split at hS
  · cases hS
theorem mX3_pushedBy (l : Launch) : w_Met l yX3_pushedBy cX3_pushedBy 9 (some .int) 1 shX rfX 43 sX3_pushedBy.2.2.2.1 sX3_pushedBy.2.2.2.2 :=
  w_meth (o := 3) (Γ := gX3_pushedBy) (tb := tX3_pushedBy) (by decide +kernel) rfl kX3_pushedBy rfl (zX3_pushedBy l) (fun as μ h => by obtain ⟨o, e, s, rfl, h⟩ := h; exact Nat.le_of_ble_eq_true rfl) (fun as μ h K hK => by obtain ⟨o, e, s, rfl, h⟩ := h; exact vX3_pushedBy o e s μ h K hK)
set_option maxRecDepth 100000 in
theorem eX3_pushedBy : Cond.code yX3_pushedBy cX3_pushedBy 9 (some .int) ∈ w_tbl ∧ Cond.instanceMethod yX3_pushedBy ∈ w_tbl ∧ Cond.selects (w_C 3) yX3_pushedBy yX3_pushedBy ∈ w_tbl ∧ Cond.initialized yX3_pushedBy.cls ∈ w_tbl := ⟨by decide +kernel, by decide +kernel, by decide +kernel, by decide +kernel⟩
theorem rX3_pushedBy : ∀ as μ, sX3_pushedBy.2.2.2.1 as μ → ∃ q as', as = .ref q :: as' ∧ q < 43 ∧ shX q = .inl 3 := by
  intro as μ h
  obtain ⟨o, e, s, rfl, h⟩ := h
  exact ⟨_, _, rfl, by decide, rfl⟩

/-! X3_firstFit -/
def pX3_firstFit (e : Int32) (d : Int32) (μ : wM) : Prop := w_LY μ ∧ vp_in e 8 ∧ vp_in d 7 ∧ ∀ i, i < d.toNatClampNeg → vp_in (μ 12 i) 8 ∧ vp_in (μ 13 (μ 12 i).toNatClampNeg) 61
def qX3_firstFit (e : Int32) (d : Int32) (μ : wM) (r : Int32) (μ' : wM) : Prop := r = (w_ffI μ e d) ∧ μ' = μ
def sX3_firstFit : wS := (false, false, 3, fun as μ => ∃ e, ∃ d, as = [.ref 1, .int e, .int d] ∧ pX3_firstFit e d μ, fun as μ r μ' => match as with
  | [.ref _, .int e, .int d] => qX3_firstFit e d μ r μ'
  | _ => False)
def gX3_firstFit : Nat → Option wS := fun k => match k with
  | 97 => some sX3_pushedBy
  | _ => none
def uX3_firstFit : Nat → Option (List Nat) := fun j => match j with | 4 => some [5, 6] | 15 => some [] | _ => none
set_option maxHeartbeats 4000000 in
set_option maxRecDepth 100000 in
theorem vcX3_firstFit_0 (K : wK) (R : Int32 → wM → Prop) (e : Int32) (d : Int32) (μ : wM) (h : K 4 [some (.ref 1), some (.int e), some (.int d), some (.int 0), some (.int 0), none, none] [] μ) : w_n 3 gX3_firstFit shX rfX 43 (some .int) R tX3_firstFit uX3_firstFit K 16 0 [some (.ref 1), some (.int e), some (.int d), none, none, none, none] [] μ :=
  h
set_option maxHeartbeats 4000000 in
set_option maxRecDepth 100000 in
theorem vcX3_firstFit_4 (K : wK) (R : Int32 → wM → Prop) (e : Int32) (d : Int32) (l3 : Int32) (l4 : Int32) (μ : wM) (h : (
    (((60 : Int32) < l4) → R 1000 μ) ∧
    (¬ ((60 : Int32) < l4) → (
      ((((μ 1 2) : Int32) ≤ l3) → R 1000 μ) ∧
      (¬ (((μ 1 2) : Int32) ≤ l3) → K 15 [some (.ref 1), some (.int e), some (.int d), some (.int l3), some (.int l4), some (.int l3), some (.int 0)] [] μ))))) : w_n 3 gX3_firstFit shX rfX 43 (some .int) R tX3_firstFit uX3_firstFit K 16 4 [some (.ref 1), some (.int e), some (.int d), some (.int l3), some (.int l4), none, none] [] μ :=
  And.intro (fun z3314 => And.intro trivial ((h.1 z3314))) (fun z3315 => And.intro (And.intro (of_decide_eq_true rfl) rfl) (And.intro (fun z3316 => And.intro trivial (((h.2 z3315).1 z3316))) (fun z3317 => ((h.2 z3315).2 z3317))))
set_option maxHeartbeats 4000000 in
set_option maxRecDepth 100000 in
theorem vcX3_firstFit_15 (K : wK) (R : Int32 → wM → Prop) (e : Int32) (d : Int32) (l3 : Int32) (l4 : Int32) (l5 : Int32) (l6 : Int32) (μ : wM) (h : (
    (((d : Int32) ≤ l6) → (
      (((l5 : Int32) = l3) → R l3 μ) ∧
      (¬ ((l5 : Int32) = l3) → K 4 [some (.ref 1), some (.int e), some (.int d), some (.int l5), some (.int (l4 + 1)), none, none] [] μ))) ∧
    (¬ ((d : Int32) ≤ l6) → (vp_in l6 6) ∧ pX3_pushedBy (μ 12 (l6 : Int32).toNatClampNeg) e l5 μ ∧ (∀ (x3 : Int32), x3 = (w_pbI μ (μ 12 (l6 : Int32).toNatClampNeg) e l5) → K 15 [some (.ref 1), some (.int e), some (.int d), some (.int l3), some (.int l4), some (.int x3), some (.int (l6 + 1))] [] μ)))) : w_n 3 gX3_firstFit shX rfX 43 (some .int) R tX3_firstFit uX3_firstFit K 16 15 [some (.ref 1), some (.int e), some (.int d), some (.int l3), some (.int l4), some (.int l5), some (.int l6)] [] μ :=
  And.intro (fun z3318 => And.intro (fun z3320 => And.intro trivial (((h.1 z3318).1 z3320))) (fun z3321 => ((h.1 z3318).2 z3321))) (fun z3319 => And.intro (And.intro (of_decide_eq_true rfl) rfl) (And.intro (And.intro (of_decide_eq_true rfl) (Exists.intro _ (And.intro rfl ((h.2 z3319).1)))) (And.intro (Exists.intro _ (Exists.intro _ (Exists.intro _ (And.intro rfl ((h.2 z3319).2.1))))) (fun _ _ z3324 => by obtain ⟨z3322, z3323⟩ := z3324; have z3322 := z3322.symm; have z3323 := z3323.symm; subst z3322; subst z3323; exact ((h.2 z3319).2.2 _ rfl)))))
set_option maxHeartbeats 4000000 in
theorem vX3_firstFit (e : Int32) (d : Int32) (μ : wM) (h : pX3_firstFit e d μ) (K : wK) (hK : w_cl 3 gX3_firstFit shX rfX 43 (some .int) (qX3_firstFit e d μ) tX3_firstFit K) : K 0 [some (.ref 1), some (.int e), some (.int d), none, none, none, none] [] μ := by
  unfold pX3_firstFit at h
  obtain ⟨hL, he, hd, hp⟩ := h
  obtain ⟨N, hN, rfl, hNc⟩ := vp_in_le hd (by decide)
  obtain ⟨E, hE, rfl, hEc⟩ := vp_in_le he (by decide)
  rw [hNc] at hp
  obtain ⟨l1, l2⟩ := dX_len hL
  obtain ⟨r1, r2⟩ := dX_rest hL
  have hmem : ∀ n, n ≤ N → ∀ o, o ∈ w_tl μ n → w_tb μ o + (dX μ).sp o + (dX μ).rest ≤ 1000 := by
    intro n hn o ho
    unfold w_tl at ho
    obtain ⟨i, hi, rfl⟩ := List.mem_map.mp ho
    have hi := List.mem_range.mp hi
    obtain ⟨q1, q2⟩ := hp i (by omega)
    have := vp_in_lt q2
    have := (dX_sp hL (vp_in_lt q1)).2
    unfold w_tb
    omega
  have ans : ∀ v : Nat, v = ffN (dX μ) E (w_tl μ N) (w_tb μ) → qX3_firstFit (nI E) (nI N) μ (nI v) μ := fun v hv => by
    unfold qX3_firstFit w_ffI
    rw [hEc, hNc, hv]
    exact ⟨rfl, rfl⟩
  have inn : ∀ (A : Nat) (t : Int32), A < 1000 → (pbL (dX μ) E (w_tb μ) (w_tl μ N) A = A → qX3_firstFit (nI E) (nI N) μ (nI A) μ) → (¬ pbL (dX μ) E (w_tb μ) (w_tl μ N) A = A → K 4 [some (.ref 1), some (.int (nI E)), some (.int (nI N)), some (.int (nI (pbL (dX μ) E (w_tb μ) (w_tl μ N) A))), some (.int (t + 1)), none, none] [] μ) → ∀ (k i : Nat), i + k = N → K 15 [some (.ref 1), some (.int (nI E)), some (.int (nI N)), some (.int (nI A)), some (.int t), some (.int (nI (pbL (dX μ) E (w_tb μ) (w_tl μ i) A))), some (.int (nI i))] [] μ := by
    intro A t hA yes no k
    induction k with
    | zero =>
      intro i hi
      have hiN : i = N := by omega
      subst hiN
      refine hK uX3_firstFit 16 _ _ _ _ (vcX3_firstFit_15 K _ (nI E) (nI i) (nI A) t (nI (pbL (dX μ) E (w_tb μ) (w_tl μ i) A)) (nI i) μ ?_)
      obtain ⟨p1, p2, -⟩ := pbL_ok (D := dX μ) (e := E) (b := w_tb μ) (w_tl μ i) A (hmem i (Nat.le_refl _)) (by omega)
      refine ⟨fun _ => ⟨fun c => yes ((nI_eq (by omega) (by omega)).mp c), fun c => no (fun z => c (by rw [z]))⟩, fun z => absurd (nI_le (Nat.le_refl _) (by omega)) z⟩
    | succ k ih =>
      intro i hi
      refine hK uX3_firstFit 16 _ _ _ _ (vcX3_firstFit_15 K _ (nI E) (nI N) (nI A) t (nI (pbL (dX μ) E (w_tb μ) (w_tl μ i) A)) (nI i) μ ?_)
      obtain ⟨p1, p2, -⟩ := pbL_ok (D := dX μ) (e := E) (b := w_tb μ) (w_tl μ i) A (hmem i (by omega)) (by omega)
      obtain ⟨q1, q2⟩ := hp i (by omega)
      have ei : (nI i).toNatClampNeg = i := nI_clamp (by omega)
      have z := ih (i + 1) (by omega)
      rw [w_tl_s, show pbL (dX μ) E (w_tb μ) (w_tl μ i ++ [(μ 12 i).toNatClampNeg]) A = pbN (dX μ) (μ 12 i).toNatClampNeg E (pbL (dX μ) E (w_tb μ) (w_tl μ i) A) (w_tb μ (μ 12 i).toNatClampNeg) from by unfold pbL; rw [List.foldl_append]; rfl] at z
      rw [ei, nI_1]
      refine ⟨fun z => absurd z (nI_ge (by omega) (by omega)), fun _ => ⟨vp_in_nI (by omega) (by omega), ⟨hL, q1, he, vp_in_nI (by omega) (by omega), q2⟩, fun x3 hx3 => ?_⟩⟩
      unfold w_pbI at hx3
      rw [hEc, nI_clamp (show pbL (dX μ) E (w_tb μ) (w_tl μ i) A < 2 ^ 31 by omega)] at hx3
      rw [hx3]
      exact z
  have loop : ∀ (k t A : Nat), t + k = 61 → t ≤ A → A ≤ 1000 → (∀ s, s < A → g_all (dX μ) E (w_tl μ N) (w_tb μ) s = false) → K 4 [some (.ref 1), some (.int (nI E)), some (.int (nI N)), some (.int (nI A)), some (.int (nI t)), none, none] [] μ := by
    have over : ∀ A : Nat, (dX μ).len ≤ A → (∀ s, s < A → g_all (dX μ) E (w_tl μ N) (w_tb μ) s = false) → qX3_firstFit (nI E) (nI N) μ 1000 μ := by
      intro A h1 h2
      exact ans 1000 (by unfold ffN; rw [w_ft_none _ _ (fun t _ h3 => h2 t (by omega))])
    intro k
    induction k with
    | zero =>
      intro t A ht htA hA hg
      refine hK uX3_firstFit 16 _ _ _ _ (vcX3_firstFit_4 K _ (nI E) (nI N) (nI A) (nI t) μ ?_)
      exact ⟨fun _ => over A (by omega) hg, fun z => absurd (nI_lt (a := 60) (by omega) (by omega)) z⟩
    | succ k ih =>
      intro t A ht htA hA hg
      refine hK uX3_firstFit 16 _ _ _ _ (vcX3_firstFit_4 K _ (nI E) (nI N) (nI A) (nI t) μ ?_)
      rw [l1]
      refine ⟨fun z => absurd z (nI_nlt (a := 60) (by omega) (by omega)), fun _ => ⟨fun c => over A ((nI_leI (by omega) (by omega)).mp c) hg, fun c => ?_⟩⟩
      have hAl : A < (dX μ).len := by
        rcases Nat.lt_or_ge A (dX μ).len with q | q
        · exact q
        · exact absurd (nI_le q (by omega)) c
      obtain ⟨p1, p2, p3, p4⟩ := pbL_ok (D := dX μ) (e := E) (b := w_tb μ) (w_tl μ N) A (hmem N (Nat.le_refl _)) (by omega)
      refine inn A (nI t) (by omega) (fun hy => ans A ?_) (fun hno => ?_) N 0 (by omega)
      · unfold ffN
        exact (w_ft_found (p3 (by omega) hy) _ 0 (by omega) (by omega) (fun s _ h2 => hg s h2)).symm
      · rw [nI_1]
        refine ih (t + 1) _ (by omega) (by omega) p2 (fun s hs => ?_)
        rcases Nat.lt_or_ge s A with q | q
        · exact hg s q
        · exact p4 s q hs
  refine hK uX3_firstFit 16 _ _ _ _ (vcX3_firstFit_0 K _ (nI E) (nI N) μ ?_)
  exact loop 61 0 0 rfl (by omega) (by omega) (fun s hs => absurd hs (Nat.not_lt_zero _))
set_option maxRecDepth 100000 in
theorem zX3_firstFit (l : Launch) : ∀ (idx : Nat) (S : wS), gX3_firstFit idx = some S → w_Call l 3 idx S 2 shX rfX 43 := by
  intro idx S hS
  unfold gX3_firstFit at hS
  split at hS
  · cases hS
    exact w_callV (ci := 3) (mX3_pushedBy l) (by decide) rX3_pushedBy eX3_pushedBy.1 (by decide +kernel) eX3_pushedBy.2.1 eX3_pushedBy.2.2.1 eX3_pushedBy.2.2.2 (by decide +kernel) (by decide) (by decide)
  · cases hS
theorem mX3_firstFit (l : Launch) : w_Met l yX3_firstFit cX3_firstFit 7 (some .int) 2 shX rfX 43 sX3_firstFit.2.2.2.1 sX3_firstFit.2.2.2.2 :=
  w_meth (o := 3) (Γ := gX3_firstFit) (tb := tX3_firstFit) (by decide +kernel) rfl kX3_firstFit rfl (zX3_firstFit l) (fun as μ h => by obtain ⟨e, d, rfl, h⟩ := h; exact Nat.le_of_ble_eq_true rfl) (fun as μ h K hK => by obtain ⟨e, d, rfl, h⟩ := h; exact vX3_firstFit e d μ h K hK)
set_option maxRecDepth 100000 in
theorem eX3_firstFit : Cond.code yX3_firstFit cX3_firstFit 7 (some .int) ∈ w_tbl ∧ Cond.instanceMethod yX3_firstFit ∈ w_tbl ∧ Cond.selects (w_C 3) yX3_firstFit yX3_firstFit ∈ w_tbl ∧ Cond.initialized yX3_firstFit.cls ∈ w_tbl := ⟨by decide +kernel, by decide +kernel, by decide +kernel, by decide +kernel⟩
theorem rX3_firstFit : ∀ as μ, sX3_firstFit.2.2.2.1 as μ → ∃ q as', as = .ref q :: as' ∧ q < 43 ∧ shX q = .inl 3 := by
  intro as μ h
  obtain ⟨e, d, rfl, h⟩ := h
  exact ⟨_, _, rfl, by decide, rfl⟩

/-! X3_keep -/
def pX3_keep (d : Int32) (n : Int32) (μ : wM) : Prop := True
def qX3_keep (d : Int32) (n : Int32) (μ : wM) (r : Int32) (μ' : wM) : Prop := μ' = w_cp (w_cp (w_up (w_up μ 1 9 n) 1 7 d) 12 9 0 0 6) 13 10 0 0 8
def sX3_keep : wS := (false, true, 3, fun as μ => ∃ d, ∃ n, as = [.ref 1, .int d, .int n] ∧ pX3_keep d n μ, fun as μ r μ' => match as with
  | [.ref _, .int d, .int n] => qX3_keep d n μ r μ'
  | _ => False)
def gX3_keep : Nat → Option wS := fun k => match k with
  | 91 => some (sCopy shX 43)
  | _ => none
def uX3_keep : Nat → Option (List Nat) := fun _ => none
set_option maxHeartbeats 4000000 in
set_option maxRecDepth 100000 in
theorem vcX3_keep_0 (K : wK) (R : Int32 → wM → Prop) (d : Int32) (n : Int32) (μ : wM) (h : (sCopy_ok shX 43 12 0 9 0 6) ∧ (sCopy_ok shX 43 13 0 10 0 8) ∧ R 0 (w_cp (w_cp (w_up (w_up μ 1 9 n) 1 7 d) 12 9 (0 : Int32).toNatClampNeg (0 : Int32).toNatClampNeg (6 : Int32).toNatClampNeg) 13 10 (0 : Int32).toNatClampNeg (0 : Int32).toNatClampNeg (8 : Int32).toNatClampNeg)) : w_n 3 gX3_keep shX rfX 43 none R tX3_keep uX3_keep K 24 0 [some (.ref 1), some (.int d), some (.int n)] [] μ :=
  And.intro (And.intro (of_decide_eq_true rfl) (And.intro rfl (trivial))) (And.intro (And.intro (of_decide_eq_true rfl) (And.intro rfl (trivial))) (And.intro (And.intro (of_decide_eq_true rfl) rfl) (And.intro (And.intro (of_decide_eq_true rfl) rfl) (And.intro (h.1) (fun _ _ z3327 => by cases z3327; exact And.intro (And.intro (of_decide_eq_true rfl) rfl) (And.intro (And.intro (of_decide_eq_true rfl) rfl) (And.intro (h.2.1) (fun _ _ z3328 => by cases z3328; exact h.2.2))))))))
set_option maxHeartbeats 4000000 in
theorem vX3_keep (d : Int32) (n : Int32) (μ : wM) (h : pX3_keep d n μ) (K : wK) (hK : w_cl 3 gX3_keep shX rfX 43 none (qX3_keep d n μ) tX3_keep K) : K 0 [some (.ref 1), some (.int d), some (.int n)] [] μ := by
  refine hK uX3_keep 24 _ _ _ _ (vcX3_keep_0 K _ d n μ ?_)
  clear hK
  unfold pX3_keep at h
  unfold qX3_keep
  exact ⟨⟨12, 0, 9, 0, 6, rfl, by decide, by decide, 6, 6, rfl, rfl, by decide, by decide, by decide, by decide, by decide⟩, ⟨13, 0, 10, 0, 8, rfl, by decide, by decide, 8, 8, rfl, rfl, by decide, by decide, by decide, by decide, by decide⟩, rfl⟩
set_option maxRecDepth 100000 in
theorem zX3_keep (l : Launch) : ∀ (idx : Nat) (S : wS), gX3_keep idx = some S → w_Call l 3 idx S 1 shX rfX 43 := by
  intro idx S hS
  unfold gX3_keep at hS
  split at hS
  · cases hS
    exact w_callCopy (by decide) (by decide +kernel) (by decide +kernel) (by decide +kernel) (by decide +kernel)
  · cases hS
theorem mX3_keep (l : Launch) : w_Met l yX3_keep cX3_keep 3 none 1 shX rfX 43 sX3_keep.2.2.2.1 sX3_keep.2.2.2.2 :=
  w_meth (o := 3) (Γ := gX3_keep) (tb := tX3_keep) (by decide +kernel) rfl kX3_keep rfl (zX3_keep l) (fun as μ h => by obtain ⟨d, n, rfl, h⟩ := h; exact Nat.le_of_ble_eq_true rfl) (fun as μ h K hK => by obtain ⟨d, n, rfl, h⟩ := h; exact vX3_keep d n μ h K hK)
set_option maxRecDepth 100000 in
theorem eX3_keep : Cond.code yX3_keep cX3_keep 3 none ∈ w_tbl ∧ Cond.instanceMethod yX3_keep ∈ w_tbl ∧ Cond.selects (w_C 3) yX3_keep yX3_keep ∈ w_tbl ∧ Cond.initialized yX3_keep.cls ∈ w_tbl := ⟨by decide +kernel, by decide +kernel, by decide +kernel, by decide +kernel⟩
theorem rX3_keep : ∀ as μ, sX3_keep.2.2.2.1 as μ → ∃ q as', as = .ref q :: as' ∧ q < 43 ∧ shX q = .inl 3 := by
  intro as μ h
  obtain ⟨d, n, rfl, h⟩ := h
  exact ⟨_, _, rfl, by decide, rfl⟩
