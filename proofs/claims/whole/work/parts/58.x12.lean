def w_anyB (p : Nat → Bool) : Nat → Bool
  | 0 => false
  | k + 1 => w_anyB p k || p k
theorem w_anyB_t {p : Nat → Bool} {k : Nat} : w_anyB p k = true ↔ ∃ j, j < k ∧ p j = true := by
  induction k with
  | zero => exact ⟨fun h => (Bool.false_ne_true h).elim, fun ⟨j, hj, _⟩ => absurd hj (Nat.not_lt_zero _)⟩
  | succ k ih =>
    unfold w_anyB
    rw [Bool.or_eq_true, ih]
    constructor
    · rintro (⟨j, hj, hp⟩ | hp)
      · exact ⟨j, by omega, hp⟩
      · exact ⟨k, by omega, hp⟩
    · rintro ⟨j, hj, hp⟩
      by_cases e : j = k
      · rw [← e]; exact Or.inr hp
      · exact Or.inl ⟨j, by omega, hp⟩
def w_iv (μ : wM) (x : Int32) (i s : Nat) : Bool := w_hm (μ ((μ 9 i).toNatClampNeg + 27) 4) x && (decide ((μ 10 (μ 9 i).toNatClampNeg).toNatClampNeg ≤ s) && decide (s < (μ 10 (μ 9 i).toNatClampNeg).toNatClampNeg + (μ ((μ 9 i).toNatClampNeg + 27) 3).toNatClampNeg))
def w_bz (μ : wM) (x : Int32) (i s : Nat) : Bool := w_anyB (fun j => w_iv μ x j s) i
/-- the first of a set, and one behind its last -/
def w_ex (b : Nat → Bool) (F T : Nat) : Prop := (F = 60 ∧ T = 0 ∧ ∀ s, b s = false) ∨ (F < T ∧ T ≤ 60 ∧ b F = true ∧ (∀ s, s < F → b s = false) ∧ b (T - 1) = true ∧ (∀ s, T ≤ s → b s = false))
def w_idR (b : Nat → Bool) (r : Int32) : Prop := ∃ F T, w_ex b F T ∧ r = (if T = 0 then -2 else nI T - nI F - nI (w_cnt b 60))
theorem w_ex_1 {b : Nat → Bool} {F T F' T' : Nat} (h : w_ex b F T) (h' : w_ex b F' T') : F = F' ∧ T = T' := by
  rcases h with ⟨a1, a2, a3⟩ | ⟨a1, a2, a3, a4, a5, a6⟩
  · rcases h' with ⟨b1, b2, b3⟩ | ⟨b1, b2, b3, b4, b5, b6⟩
    · omega
    · rw [a3] at b3; cases b3
  · rcases h' with ⟨b1, b2, b3⟩ | ⟨b1, b2, b3, b4, b5, b6⟩
    · rw [b3] at a3; cases a3
    · constructor
      · rcases Nat.lt_trichotomy F F' with q | q | q
        · rw [b4 F q] at a3; cases a3
        · exact q
        · rw [a4 F' q] at b3; cases b3
      · rcases Nat.lt_trichotomy T T' with q | q | q
        · rw [a6 (T' - 1) (by omega)] at b5; cases b5
        · exact q
        · rw [b6 (T - 1) (by omega)] at a5; cases a5
theorem w_idR_1 {b : Nat → Bool} {r r' : Int32} (h : w_idR b r) (h' : w_idR b r') : r = r' := by
  obtain ⟨F, T, h1, h2⟩ := h
  obtain ⟨F', T', h1', h2'⟩ := h'
  obtain ⟨rfl, rfl⟩ := w_ex_1 h1 h1'
  rw [h2, h2']
theorem w_ex_add {b : Nat → Bool} {F T p k : Nat} (h : w_ex b F T) (hk : 1 ≤ k) (hp : p + k ≤ 60) : w_ex (fun s => b s || (decide (p ≤ s) && decide (s < p + k))) (min F p) (max T (p + k)) := by
  right
  have e0 : ∀ s, b s = false → ¬ (p ≤ s ∧ s < p + k) → (b s || (decide (p ≤ s) && decide (s < p + k))) = false := by
    intro s h1 h2
    rw [h1, Bool.false_or]
    by_cases c : p ≤ s
    · rw [decide_eq_false (fun z => h2 ⟨c, z⟩), Bool.and_false]
    · rw [decide_eq_false c, Bool.false_and]
  have e1 : ∀ s, p ≤ s → s < p + k → (b s || (decide (p ≤ s) && decide (s < p + k))) = true := by
    intro s h1 h2
    rw [decide_eq_true h1, decide_eq_true h2, Bool.and_true, Bool.or_true]
  have e2 : ∀ s, b s = true → (b s || (decide (p ≤ s) && decide (s < p + k))) = true := by
    intro s h1
    rw [h1, Bool.true_or]
  rcases h with ⟨a1, a2, a3⟩ | ⟨a1, a2, a3, a4, a5, a6⟩
  · rw [show min F p = p by omega, show max T (p + k) = p + k by omega]
    exact ⟨by omega, by omega, e1 p (by omega) (by omega), fun s hs => e0 s (a3 s) (by omega), e1 (p + k - 1) (by omega) (by omega), fun s hs => e0 s (a3 s) (by omega)⟩
  · refine ⟨by omega, by omega, ?_, fun s hs => e0 s (a4 s (by omega)) (by omega), ?_, fun s hs => e0 s (a6 s (by omega)) (by omega)⟩
    · rcases Nat.le_total F p with q | q
      · rw [show min F p = F by omega]; exact e2 F a3
      · rw [show min F p = p by omega]; exact e1 p (by omega) (by omega)
    · rcases Nat.le_total T (p + k) with q | q
      · rw [show max T (p + k) = p + k by omega]; exact e1 _ (by omega) (by omega)
      · rw [show max T (p + k) = T by omega]; exact e2 _ a5
theorem w_cnt_tail {b : Nat → Bool} {m : Nat} : ∀ d, (∀ s, m ≤ s → b s = false) → w_cnt b (m + d) = w_cnt b m := by
  intro d h
  induction d with
  | zero => rfl
  | succ d ih => rw [show m + (d + 1) = (m + d) + 1 by omega, w_cnt, ih, h (m + d) (by omega)]; rfl
theorem w_cnt_none {b : Nat → Bool} (h : ∀ s, b s = false) : ∀ n, w_cnt b n = 0 := by
  intro n
  induction n with
  | zero => rfl
  | succ n ih => rw [w_cnt, ih, h n]; rfl
def w_DY (μ : wM) : Prop := vp_in (μ 1 7) 7 ∧ ∀ i, i < (μ 1 7).toNatClampNeg → ∃ E P K : Nat, E < 8 ∧ μ 9 i = nI E ∧ μ (E + 27) 0 = nI E ∧ μ 10 E = nI P ∧ μ (E + 27) 3 = nI K ∧ 1 ≤ K ∧ P + K ≤ 60
theorem lN_orI {W p k : Nat} (hW : W < 2 ^ 60) (hpk : p + k ≤ 60) : (lN W ||| ((((1 : Int64) <<< ((nI k).toInt64 &&& 63)) - 1) <<< ((nI p).toInt64 &&& 63))) = lN (W ||| ((2 ^ k - 1) * 2 ^ p)) ∧ (W ||| ((2 ^ k - 1) * 2 ^ p)) < 2 ^ 60 ∧ ∀ s, (W ||| ((2 ^ k - 1) * 2 ^ p)).testBit s = (W.testBit s || (decide (p ≤ s) && decide (s < p + k))) := by
  have hpos : 1 ≤ 2 ^ k := Nat.one_le_two_pow
  have hlt : (2 ^ k - 1) * 2 ^ p < 2 ^ 60 := by
    have h1 : (2 ^ k - 1) * 2 ^ p < 2 ^ k * 2 ^ p := Nat.mul_lt_mul_of_pos_right (by omega) (Nat.two_pow_pos p)
    rw [← Nat.pow_add] at h1
    exact Nat.lt_of_lt_of_le h1 (Nat.pow_le_pow_right (by decide) (by omega))
  refine ⟨?_, Nat.or_lt_two_pow hW hlt, fun s => ?_⟩
  · rw [show (1 : Int64) <<< ((nI k).toInt64 &&& 63) = lN (1 * 2 ^ k) from wb_shl 1 (by omega), Nat.one_mul, show (1 : Int64) = lN 1 from rfl, lN_sub hpos, wb_shl _ (by omega), wb_or (by omega) (by omega)]
  · rw [Nat.testBit_or, Nat.testBit_mul_two_pow, Nat.testBit_two_pow_sub_one]
    congr 1
    by_cases c : p ≤ s
    · rw [decide_eq_true c]
      simp only [Bool.true_and]
      exact decide_eq_decide.mpr (by omega)
    · rw [decide_eq_false c]
      rfl
/-! X3_idleOf -/
def pX3_idleOf (x : Int32) (μ : wM) : Prop := w_DY μ
def qX3_idleOf (x : Int32) (μ : wM) (r : Int32) (μ' : wM) : Prop := w_idR (w_bz μ x (μ 1 7).toNatClampNeg) r ∧ μ' = μ
def sX3_idleOf : wS := (false, false, 2, fun as μ => ∃ x, as = [.ref 1, .int x] ∧ pX3_idleOf x μ, fun as μ r μ' => match as with
  | [.ref _, .int x] => qX3_idleOf x μ r μ'
  | _ => False)
def gX3_idleOf : Nat → Option wS := fun k => match k with
  | 83 => some sJ9_max_7cf53
  | 104 => some sX1_hasMan
  | 108 => some sJ9_min_7cf53
  | 111 => some sJ13_bitCount_95d88
  | _ => none
def uX3_idleOf : Nat → Option (List Nat) := fun j => match j with | 8 => some [3, 7, 8] | _ => none
set_option maxHeartbeats 4000000 in
set_option maxRecDepth 100000 in
theorem vcX3_idleOf_0 (K : wK) (R : Int32 → wM → Prop) (x : Int32) (μ : wM) (h : K 8 [some (.ref 1), some (.int x), some (.long 0), none, some (.int 60), some (.int 0), some (.int 0), none, none] [] μ) : w_n 3 gX3_idleOf shX rfX 43 (some .int) R tX3_idleOf uX3_idleOf K 48 0 [some (.ref 1), some (.int x), none, none, none, none, none, none, none] [] μ :=
  h
set_option maxHeartbeats 4000000 in
set_option maxRecDepth 100000 in
theorem vcX3_idleOf_8 (K : wK) (R : Int32 → wM → Prop) (x : Int32) (l2 : Int64) (l4 : Int32) (l5 : Int32) (l6 : Int32) (μ : wM) (h : (
    ((((μ 1 7) : Int32) ≤ l6) → (
      ((((lg_cmp l2 0) : Int32) = 0) → R (-2) μ) ∧
      (¬ (((lg_cmp l2 0) : Int32) = 0) → R ((l5 - l4) - (w_bcl l2)) μ))) ∧
    (¬ (((μ 1 7) : Int32) ≤ l6) → (vp_in l6 6) ∧ (vp_in (μ 9 (l6 : Int32).toNatClampNeg) 8) ∧ pX1_hasMan (Int32.toNatClampNeg (μ 9 (l6 : Int32).toNatClampNeg) + 27) x μ ∧ (
      ((w_hm (μ (Int32.toNatClampNeg (μ 9 (l6 : Int32).toNatClampNeg) + 27) 4) x) = false → K 8 [some (.ref 1), some (.int x), some (.long l2), none, some (.int l4), some (.int l5), some (.int (l6 + 1)), none, none] [] μ) ∧
      ((w_hm (μ (Int32.toNatClampNeg (μ 9 (l6 : Int32).toNatClampNeg) + 27) 4) x) = true → (vp_in (μ (Int32.toNatClampNeg (μ 9 (l6 : Int32).toNatClampNeg) + 27) 0) 8) ∧ (∀ (x5 : Int32), x5 = (μ 10 ((μ (Int32.toNatClampNeg (μ 9 (l6 : Int32).toNatClampNeg) + 27) 0) : Int32).toNatClampNeg) → (∀ (x6 : Int64), x6 = (l2 ||| (((((1 : Int64) <<< (((μ (Int32.toNatClampNeg (μ 9 (l6 : Int32).toNatClampNeg) + 27) 3) : Int32).toInt64 &&& 63)) - 1) : Int64) <<< ((x5 : Int32).toInt64 &&& 63))) → (∀ (x11 : Int32), x11 = (w_mx l5 (x5 + (μ (Int32.toNatClampNeg (μ 9 (l6 : Int32).toNatClampNeg) + 27) 3))) → K 8 [some (.ref 1), some (.int x), some (.long x6), none, some (.int (w_mn l4 x5)), some (.int x11), some (.int (l6 + 1)), none, none] [] μ)))))))) : w_n 3 gX3_idleOf shX rfX 43 (some .int) R tX3_idleOf uX3_idleOf K 48 8 [some (.ref 1), some (.int x), some (.long l2), none, some (.int l4), some (.int l5), some (.int l6), none, none] [] μ :=
  And.intro (And.intro (of_decide_eq_true rfl) rfl) (And.intro (fun z3165 => And.intro (fun z3167 => And.intro trivial (((h.1 z3165).1 z3167))) (fun z3168 => And.intro (Exists.intro _ (And.intro rfl (trivial))) (fun _ _ z3171 => by obtain ⟨z3169, z3170⟩ := z3171; have z3169 := z3169.symm; have z3170 := z3170.symm; subst z3169; subst z3170; exact And.intro trivial (((h.1 z3165).2 z3168))))) (fun z3166 => And.intro (And.intro (of_decide_eq_true rfl) rfl) (And.intro (And.intro (of_decide_eq_true rfl) rfl) (And.intro (And.intro (of_decide_eq_true rfl) (Exists.intro _ (And.intro rfl ((h.2 z3166).1)))) (And.intro (Or.inl (And.intro (of_decide_eq_true rfl) (Exists.intro _ (And.intro rfl ((h.2 z3166).2.1))))) (And.intro (Exists.intro _ (Exists.intro _ (And.intro rfl ((h.2 z3166).2.2.1)))) (fun _ _ z3174 => by obtain ⟨z3172, z3173⟩ := z3174; have z3172 := z3172.symm; have z3173 := z3173.symm; subst z3172; subst z3173; exact And.intro (fun z3175 => ((h.2 z3166).2.2.2.1 (w_B01_0.mp z3175))) (fun z3176 => And.intro (And.intro (of_decide_eq_true rfl) rfl) (And.intro (ev_ok ((h.2 z3166).2.1)) (And.intro (And.intro (of_decide_eq_true rfl) (Exists.intro _ (And.intro rfl (((h.2 z3166).2.2.2.2 (w_B01_n.mp z3176)).1)))) (And.intro (ev_ok ((h.2 z3166).2.1)) (And.intro (Exists.intro _ (Exists.intro _ (And.intro rfl (trivial)))) (fun _ _ z3179 => by obtain ⟨z3177, z3178⟩ := z3179; have z3177 := z3177.symm; have z3178 := z3178.symm; subst z3177; subst z3178; exact And.intro (ev_ok ((h.2 z3166).2.1)) (And.intro (Exists.intro _ (Exists.intro _ (And.intro rfl (trivial)))) (fun _ _ z3182 => by obtain ⟨z3180, z3181⟩ := z3182; have z3180 := z3180.symm; have z3181 := z3181.symm; subst z3180; subst z3181; exact (((((h.2 z3166).2.2.2.2 (w_B01_n.mp z3176)).2 _ rfl) _ rfl) _ rfl))))))))))))))))
set_option maxHeartbeats 4000000 in
theorem vX3_idleOf (x : Int32) (μ : wM) (h : pX3_idleOf x μ) (K : wK) (hK : w_cl 3 gX3_idleOf shX rfX 43 (some .int) (qX3_idleOf x μ) tX3_idleOf K) : K 0 [some (.ref 1), some (.int x), none, none, none, none, none, none, none] [] μ := by
  unfold pX3_idleOf at h
  obtain ⟨h1, h2⟩ := h
  obtain ⟨C, hC, hCn, hCc⟩ := vp_in_le h1 (by decide)
  rw [hCc] at h2
  have loop : ∀ (d i W F T : Nat), i + d = C → W < 2 ^ 60 → (∀ s, W.testBit s = w_bz μ x i s) → w_ex (w_bz μ x i) F T → K 8 [some (.ref 1), some (.int x), some (.long (lN W)), none, some (.int (nI F)), some (.int (nI T)), some (.int (nI i)), none, none] [] μ := by
    intro d
    induction d with
    | zero =>
      intro i W F T hi hW hb hex
      have hiC : i = C := by omega
      subst hiC
      refine hK uX3_idleOf 48 _ _ _ _ (vcX3_idleOf_8 K _ x (lN W) (nI F) (nI T) (nI i) μ ?_)
      rw [hCn]
      refine ⟨fun _ => ?_, fun z => absurd (nI_le (Nat.le_refl _) (by omega)) z⟩
      have hcnt : w_bcl (lN W) = nI (w_cnt (w_bz μ x i) 60) := by
        rw [w_bcl_n (by omega), show (fun s => W.testBit s) = w_bz μ x i from funext hb, show 64 = 60 + 4 from rfl, w_cnt_tail 4 (fun s hs => by rw [← hb]; exact Nat.testBit_lt_two_pow (Nat.lt_of_lt_of_le hW (Nat.pow_le_pow_right (by decide) hs)))]
      have hT0 : (lg_cmp (lN W) 0 = 0) ↔ T = 0 := by
        rw [lg_cmp_eq]
        constructor
        · intro hz
          have hW0 : W = 0 := (fb_lN_inj (a := W) (b := 0) (by omega) (by omega)).mp hz
          rcases hex with ⟨-, a2, -⟩ | ⟨-, -, a3, -⟩
          · exact a2
          · rw [← hb, hW0, Nat.zero_testBit] at a3; cases a3
        · intro hz
          rcases hex with ⟨-, -, a3⟩ | ⟨a1, -⟩
          · have : W = 0 := Nat.eq_of_testBit_eq (fun s => by rw [hb, a3, Nat.zero_testBit])
            rw [this]; rfl
          · omega
      refine ⟨fun c => ⟨?_, rfl⟩, fun c => ⟨?_, rfl⟩⟩
      · rw [hCc]
        exact ⟨F, T, hex, by rw [if_pos (hT0.mp c)]⟩
      · rw [hCc]
        exact ⟨F, T, hex, by rw [if_neg (fun q => c (hT0.mpr q)), hcnt]⟩
    | succ d ih =>
      intro i W F T hi hW hb hex
      refine hK uX3_idleOf 48 _ _ _ _ (vcX3_idleOf_8 K _ x (lN W) (nI F) (nI T) (nI i) μ ?_)
      obtain ⟨E, P, Kk, hE, g1, g2, g3, g4, g5, g6⟩ := h2 i (by omega)
      have ei : (nI i).toNatClampNeg = i := nI_clamp (by omega)
      have eE : (nI E).toNatClampNeg = E := nI_clamp (by omega)
      rw [hCn, ei, g1, eE, g2, eE, g3, g4, nI_1]
      refine ⟨fun z => absurd z (nI_ge (by omega) (by omega)), fun _ => ⟨vp_in_nI (by omega) (by omega), vp_in_nI (by omega) (by omega), ⟨by omega, shX_ev hE, trivial⟩, fun c => ?_, fun c => ⟨vp_in_nI (by omega) (by omega), fun x5 hx5 x6 hx6 x11 hx11 => ?_⟩⟩⟩
      · refine ih (i + 1) W F T (by omega) hW (fun s => ?_) ?_
        · rw [hb]
          show w_bz μ x i s = (w_bz μ x i s || w_iv μ x i s)
          unfold w_iv
          rw [g1, eE, c, Bool.false_and, Bool.or_false]
        · have e : w_bz μ x (i + 1) = w_bz μ x i := by
            funext s
            show (w_bz μ x i s || w_iv μ x i s) = w_bz μ x i s
            unfold w_iv
            rw [g1, eE, c, Bool.false_and, Bool.or_false]
          rw [e]
          exact hex
      · subst hx5
        obtain ⟨o1, o2, o3⟩ := lN_orI hW g6
        have ev : ∀ s, w_bz μ x (i + 1) s = (w_bz μ x i s || (decide (P ≤ s) && decide (s < P + Kk))) := by
          intro s
          show (w_bz μ x i s || w_iv μ x i s) = _
          unfold w_iv
          rw [g1, eE, c, g3, g4, nI_clamp (show P < 2 ^ 31 by omega), nI_clamp (show Kk < 2 ^ 31 by omega), Bool.true_and]
        have hF : F ≤ 60 ∧ T ≤ 60 := by rcases hex with ⟨a1, a2, -⟩ | ⟨a1, a2, -⟩ <;> omega
        have e1 : w_mn (nI F) (nI P) = nI (min F P) := by
          unfold w_mn
          by_cases q : P < F
          · rw [if_pos (nI_lt q (by omega)), show min F P = P by omega]
          · rw [if_neg (nI_nlt (by omega) (by omega)), show min F P = F by omega]
        have e2 : w_mx (nI T) (nI P + nI Kk) = nI (max T (P + Kk)) := by
          rw [nI_add]
          unfold w_mx
          by_cases q : T < P + Kk
          · rw [if_pos (nI_lt q (by omega)), show max T (P + Kk) = P + Kk by omega]
          · rw [if_neg (nI_nlt (by omega) (by omega)), show max T (P + Kk) = T by omega]
        rw [hx6, o1, e1, hx11, e2]
        refine ih (i + 1) _ _ _ (by omega) o2 (fun s => by rw [o3, ev, hb]) ?_
        rw [show w_bz μ x (i + 1) = fun s => w_bz μ x i s || (decide (P ≤ s) && decide (s < P + Kk)) from funext ev]
        exact w_ex_add hex g5 g6
  refine hK uX3_idleOf 48 _ _ _ _ (vcX3_idleOf_0 K _ x μ ?_)
  exact loop C 0 0 60 0 (by omega) (by decide) (fun s => Nat.zero_testBit s) (Or.inl ⟨rfl, rfl, fun _ => rfl⟩)
set_option maxRecDepth 100000 in
theorem zX3_idleOf (l : Launch) : ∀ (idx : Nat) (S : wS), gX3_idleOf idx = some S → w_Call l 3 idx S 3 shX rfX 43 := by
  intro idx S hS
  unfold gX3_idleOf at hS
  split at hS
  · cases hS
    exact w_callMax (by decide) (by decide +kernel) (by decide +kernel) (by decide +kernel) (by decide +kernel)
  · cases hS
    exact w_callV (ci := 1) (mX1_hasMan l) (by decide) rX1_hasMan eX1_hasMan.1 (by decide +kernel) eX1_hasMan.2.1 eX1_hasMan.2.2.1 eX1_hasMan.2.2.2 (by decide +kernel) (by decide) (by decide)
  · cases hS
    exact w_callMin (by decide) (by decide +kernel) (by decide +kernel) (by decide +kernel) (by decide +kernel)
  · cases hS
    exact w_callS (mJ13_bitCount_95d88 l) eJ13_bitCount_95d88.1 (by decide +kernel) eJ13_bitCount_95d88.2.1 eJ13_bitCount_95d88.2.2 (by decide +kernel) (by decide) (by decide)
  · cases hS
theorem mX3_idleOf (l : Launch) : w_Met l yX3_idleOf cX3_idleOf 9 (some .int) 3 shX rfX 43 sX3_idleOf.2.2.2.1 sX3_idleOf.2.2.2.2 :=
  w_meth (o := 3) (Γ := gX3_idleOf) (tb := tX3_idleOf) (by decide +kernel) rfl kX3_idleOf rfl (zX3_idleOf l) (fun as μ h => by obtain ⟨x, rfl, h⟩ := h; exact Nat.le_of_ble_eq_true rfl) (fun as μ h K hK => by obtain ⟨x, rfl, h⟩ := h; exact vX3_idleOf x μ h K hK)
set_option maxRecDepth 100000 in
theorem eX3_idleOf : Cond.code yX3_idleOf cX3_idleOf 9 (some .int) ∈ w_tbl ∧ Cond.instanceMethod yX3_idleOf ∈ w_tbl ∧ Cond.selects (w_C 3) yX3_idleOf yX3_idleOf ∈ w_tbl ∧ Cond.initialized yX3_idleOf.cls ∈ w_tbl := ⟨by decide +kernel, by decide +kernel, by decide +kernel, by decide +kernel⟩
theorem rX3_idleOf : ∀ as μ, sX3_idleOf.2.2.2.1 as μ → ∃ q as', as = .ref q :: as' ∧ q < 43 ∧ shX q = .inl 3 := by
  intro as μ h
  obtain ⟨x, rfl, h⟩ := h
  exact ⟨_, _, rfl, by decide, rfl⟩

/-! X7_idle -/
def pX7_idle (x : Int32) (μ : wM) : Prop := w_DY μ
def qX7_idle (x : Int32) (μ : wM) (r : Int32) (μ' : wM) : Prop := ((w_inB x 0 9 = true ∧ ¬ μ 1 7 = 0) → w_idR (w_bz μ x (μ 1 7).toNatClampNeg) r) ∧ (¬ (w_inB x 0 9 = true ∧ ¬ μ 1 7 = 0) → r = -1) ∧ μ' = μ
def sX7_idle : wS := (false, false, 2, fun as μ => ∃ x, as = [.ref 0, .int x] ∧ pX7_idle x μ, fun as μ r μ' => match as with
  | [.ref _, .int x] => qX7_idle x μ r μ'
  | _ => False)
def gX7_idle : Nat → Option wS := fun k => match k with
  | 71 => some sX7_isMan
  | 126 => some sX3_idleOf
  | _ => none
def uX7_idle : Nat → Option (List Nat) := fun _ => none
set_option maxHeartbeats 4000000 in
set_option maxRecDepth 100000 in
theorem vcX7_idle_0 (K : wK) (R : Int32 → wM → Prop) (x : Int32) (μ : wM) (h : (
    ((w_inB x 0 9) = false → R (-1) μ) ∧
    ((w_inB x 0 9) = true → (
      ((((μ 1 7) : Int32) = 0) → R (-1) μ) ∧
      (¬ (((μ 1 7) : Int32) = 0) → pX3_idleOf x μ ∧ (∀ (r3 : Int32) (m4 : wM), qX3_idleOf x μ r3 m4 →
        R r3 m4)))))) : w_n 7 gX7_idle shX rfX 43 (some .int) R tX7_idle uX7_idle K 13 0 [some (.ref 0), some (.int x)] [] μ :=
  And.intro (Exists.intro _ (And.intro rfl (trivial))) (fun _ _ z3193 => by obtain ⟨z3191, z3192⟩ := z3193; have z3191 := z3191.symm; have z3192 := z3192.symm; subst z3191; subst z3192; exact And.intro (fun z3194 => And.intro trivial ((h.1 (w_B01_0.mp z3194)))) (fun z3195 => And.intro (And.intro (of_decide_eq_true rfl) rfl) (And.intro (And.intro (of_decide_eq_true rfl) rfl) (And.intro (fun z3196 => And.intro trivial (((h.2 (w_B01_n.mp z3195)).1 z3196))) (fun z3197 => And.intro (And.intro (of_decide_eq_true rfl) rfl) (And.intro (Exists.intro _ (And.intro rfl (((h.2 (w_B01_n.mp z3195)).2 z3197).1))) (fun r3 m4 z3198 => And.intro trivial ((((h.2 (w_B01_n.mp z3195)).2 z3197).2 r3 m4 z3198)))))))))
set_option maxHeartbeats 4000000 in
theorem vX7_idle (x : Int32) (μ : wM) (h : pX7_idle x μ) (K : wK) (hK : w_cl 7 gX7_idle shX rfX 43 (some .int) (qX7_idle x μ) tX7_idle K) : K 0 [some (.ref 0), some (.int x)] [] μ := by
  refine hK uX7_idle 13 _ _ _ _ (vcX7_idle_0 K _ x μ ?_)
  clear hK
  unfold pX7_idle at h
  unfold qX7_idle
  refine ⟨fun c => ⟨fun z => by rw [c] at z; exact absurd z.1 (by decide), fun _ => rfl, rfl⟩, fun c => ⟨fun c2 => ⟨fun z => absurd c2 z.2, fun _ => rfl, rfl⟩, fun c2 => ⟨h, fun r m hq => ?_⟩⟩⟩
  obtain ⟨q1, q2⟩ := hq
  exact ⟨fun _ => q1, fun z => absurd ⟨c, c2⟩ z, q2⟩
set_option maxRecDepth 100000 in
theorem zX7_idle (l : Launch) : ∀ (idx : Nat) (S : wS), gX7_idle idx = some S → w_Call l 7 idx S 4 shX rfX 43 := by
  intro idx S hS
  unfold gX7_idle at hS
  split at hS
  · cases hS
    exact w_callS (mX7_isMan l) eX7_isMan.1 (by decide +kernel) eX7_isMan.2.1 eX7_isMan.2.2 (by decide +kernel) (by decide) (by decide)
  · cases hS
    exact w_callV (ci := 3) (mX3_idleOf l) (by decide) rX3_idleOf eX3_idleOf.1 (by decide +kernel) eX3_idleOf.2.1 eX3_idleOf.2.2.1 eX3_idleOf.2.2.2 (by decide +kernel) (by decide) (by decide)
  · cases hS
theorem mX7_idle (l : Launch) : w_Met l yX7_idle cX7_idle 2 (some .int) 4 shX rfX 43 sX7_idle.2.2.2.1 sX7_idle.2.2.2.2 :=
  w_meth (o := 7) (Γ := gX7_idle) (tb := tX7_idle) (by decide +kernel) rfl kX7_idle rfl (zX7_idle l) (fun as μ h => by obtain ⟨x, rfl, h⟩ := h; exact Nat.le_of_ble_eq_true rfl) (fun as μ h K hK => by obtain ⟨x, rfl, h⟩ := h; exact vX7_idle x μ h K hK)
set_option maxRecDepth 100000 in
theorem eX7_idle : Cond.code yX7_idle cX7_idle 2 (some .int) ∈ w_tbl ∧ Cond.instanceMethod yX7_idle ∈ w_tbl ∧ Cond.selects (w_C 7) yX7_idle yX7_idle ∈ w_tbl ∧ Cond.initialized yX7_idle.cls ∈ w_tbl := ⟨by decide +kernel, by decide +kernel, by decide +kernel, by decide +kernel⟩
theorem rX7_idle : ∀ as μ, sX7_idle.2.2.2.1 as μ → ∃ q as', as = .ref q :: as' ∧ q < 43 ∧ shX q = .inl 7 := by
  intro as μ h
  obtain ⟨x, rfl, h⟩ := h
  exact ⟨_, _, rfl, by decide, rfl⟩

def wm_iv (μ : wM) (x : Int32) (e s : Nat) : Bool := decide (¬ μ 16 e < 0) && (w_bt (μ 4 e) x && w_inB (nI s) (μ 16 e) (μ 16 e + μ 3 e - 1))
def wm_bz (μ : wM) (x : Int32) (s : Nat) : Bool := decide (s < 1000) && w_anyB (fun e => wm_iv μ x e s) (μ 0 0).toNatClampNeg
/-! X8_idle -/
def pX8_idle (x : Int32) (μ : wM) : Prop := vp_in (μ 0 0) 9 ∧ ∀ s, 60 ≤ s → wm_bz μ x s = false
def qX8_idle (x : Int32) (μ : wM) (r : Int32) (μ' : wM) : Prop := ((w_inB x 0 9 = true ∧ ¬ μ 0 18 = 0) → w_idR (wm_bz μ x) r) ∧ (¬ (w_inB x 0 9 = true ∧ ¬ μ 0 18 = 0) → r = -1) ∧ μ' = μ
def sX8_idle : wS := (false, false, 2, fun as μ => ∃ x, as = [.ref 0, .int x] ∧ pX8_idle x μ, fun as μ r μ' => match as with
  | [.ref _, .int x] => qX8_idle x μ r μ'
  | _ => False)
def gX8_idle : Nat → Option wS := fun k => match k with
  | 1 => some sX8_in
  | 125 => some sX8_isMan
  | _ => none
def uX8_idle : Nat → Option (List Nat) := fun j => match j with | 16 => some [6, 7, 8] | 23 => some [8] | _ => none
set_option maxHeartbeats 4000000 in
set_option maxRecDepth 100000 in
theorem vcX8_idle_0 (K : wK) (R : Int32 → wM → Prop) (x : Int32) (μ : wM) (h : (
    ((((μ 0 18) : Int32) = 0) → R (-1) μ) ∧
    (¬ (((μ 0 18) : Int32) = 0) → (
      ((w_inB x 0 9) = false → R (-1) μ) ∧
      ((w_inB x 0 9) = true → K 16 [some (.ref 0), some (.int x), some (.int (-1)), some (.int (-1)), some (.int 0), some (.int 0), none, none, none] [] μ))))) : w_n 8 gX8_idle shM rfM 32 (some .int) R tX8_idle uX8_idle K 51 0 [some (.ref 0), some (.int x), none, none, none, none, none, none, none] [] μ :=
  And.intro (And.intro (of_decide_eq_true rfl) rfl) (And.intro (fun z3231 => And.intro trivial ((h.1 z3231))) (fun z3232 => And.intro (Exists.intro _ (And.intro rfl (trivial))) (fun _ _ z3235 => by obtain ⟨z3233, z3234⟩ := z3235; have z3233 := z3233.symm; have z3234 := z3234.symm; subst z3233; subst z3234; exact And.intro (fun z3236 => And.intro trivial (((h.2 z3232).1 (w_B01_0.mp z3236)))) (fun z3237 => ((h.2 z3232).2 (w_B01_n.mp z3237))))))
set_option maxHeartbeats 4000000 in
set_option maxRecDepth 100000 in
theorem vcX8_idle_16 (K : wK) (R : Int32 → wM → Prop) (x : Int32) (l2 : Int32) (l3 : Int32) (l4 : Int32) (l5 : Int32) (μ : wM) (h : (
    (((72 : Int32) ≤ l5) → (
      (((0 : Int32) ≤ l2) → R (((l3 - l2) + 1) - l4) μ) ∧
      (¬ ((0 : Int32) ≤ l2) → R (-2) μ))) ∧
    (¬ ((72 : Int32) ≤ l5) → K 23 [some (.ref 0), some (.int x), some (.int l2), some (.int l3), some (.int l4), some (.int l5), some (.int 0), some (.int 0), none] [] μ))) : w_n 8 gX8_idle shM rfM 32 (some .int) R tX8_idle uX8_idle K 51 16 [some (.ref 0), some (.int x), some (.int l2), some (.int l3), some (.int l4), some (.int l5), none, none, none] [] μ :=
  And.intro (fun z3238 => And.intro (fun z3240 => And.intro trivial (((h.1 z3238).1 z3240))) (fun z3241 => And.intro trivial (((h.1 z3238).2 z3241)))) (fun z3239 => (h.2 z3239))
set_option maxHeartbeats 4000000 in
set_option maxRecDepth 100000 in
theorem vcX8_idle_23 (K : wK) (R : Int32 → wM → Prop) (x : Int32) (l2 : Int32) (l3 : Int32) (l4 : Int32) (l5 : Int32) (l6 : Int32) (l7 : Int32) (μ : wM) (h : (
    ((((μ 0 0) : Int32) ≤ l7) → (
      (((l6 : Int32) = 0) → K 16 [some (.ref 0), some (.int x), some (.int l2), some (.int l3), some (.int l4), some (.int (l5 + 1)), none, none, none] [] μ) ∧
      (¬ ((l6 : Int32) = 0) → (
        (((0 : Int32) ≤ l2) → K 16 [some (.ref 0), some (.int x), some (.int l2), some (.int l5), some (.int (l4 + 1)), some (.int (l5 + 1)), none, none, none] [] μ) ∧
        (¬ ((0 : Int32) ≤ l2) → K 16 [some (.ref 0), some (.int x), some (.int l5), some (.int l5), some (.int (l4 + 1)), some (.int (l5 + 1)), none, none, none] [] μ))))) ∧
    (¬ (((μ 0 0) : Int32) ≤ l7) → (vp_in l7 8) ∧ (
      ((((μ 16 (l7 : Int32).toNatClampNeg) : Int32) < 0) → (
        (((l6 : Int32) = 0) → K 23 [some (.ref 0), some (.int x), some (.int l2), some (.int l3), some (.int l4), some (.int l5), some (.int 0), some (.int (l7 + 1)), none] [] μ) ∧
        (¬ ((l6 : Int32) = 0) → K 23 [some (.ref 0), some (.int x), some (.int l2), some (.int l3), some (.int l4), some (.int l5), some (.int 1), some (.int (l7 + 1)), none] [] μ))) ∧
      (¬ (((μ 16 (l7 : Int32).toNatClampNeg) : Int32) < 0) → (
        ((((((μ 4 (l7 : Int32).toNatClampNeg) >>> (x &&& 31)) &&& 1) : Int32) = 1) → (
          (((l6 : Int32) = 0) → (
            ((w_inB l5 (μ 16 (l7 : Int32).toNatClampNeg) (((μ 16 (l7 : Int32).toNatClampNeg) + (μ 3 (l7 : Int32).toNatClampNeg)) - 1)) = false → K 23 [some (.ref 0), some (.int x), some (.int l2), some (.int l3), some (.int l4), some (.int l5), some (.int 0), some (.int (l7 + 1)), none] [] μ) ∧
            ((w_inB l5 (μ 16 (l7 : Int32).toNatClampNeg) (((μ 16 (l7 : Int32).toNatClampNeg) + (μ 3 (l7 : Int32).toNatClampNeg)) - 1)) = true → K 23 [some (.ref 0), some (.int x), some (.int l2), some (.int l3), some (.int l4), some (.int l5), some (.int 1), some (.int (l7 + 1)), none] [] μ))) ∧
          (¬ ((l6 : Int32) = 0) → K 23 [some (.ref 0), some (.int x), some (.int l2), some (.int l3), some (.int l4), some (.int l5), some (.int 1), some (.int (l7 + 1)), none] [] μ))) ∧
        (¬ (((((μ 4 (l7 : Int32).toNatClampNeg) >>> (x &&& 31)) &&& 1) : Int32) = 1) → (
          (((l6 : Int32) = 0) → K 23 [some (.ref 0), some (.int x), some (.int l2), some (.int l3), some (.int l4), some (.int l5), some (.int 0), some (.int (l7 + 1)), none] [] μ) ∧
          (¬ ((l6 : Int32) = 0) → K 23 [some (.ref 0), some (.int x), some (.int l2), some (.int l3), some (.int l4), some (.int l5), some (.int 1), some (.int (l7 + 1)), none] [] μ))))))))) : w_n 8 gX8_idle shM rfM 32 (some .int) R tX8_idle uX8_idle K 51 23 [some (.ref 0), some (.int x), some (.int l2), some (.int l3), some (.int l4), some (.int l5), some (.int l6), some (.int l7), none] [] μ :=
  And.intro (And.intro (of_decide_eq_true rfl) rfl) (And.intro (fun z3242 => And.intro (fun z3244 => ((h.1 z3242).1 z3244)) (fun z3245 => And.intro (fun z3246 => (((h.1 z3242).2 z3245).1 z3246)) (fun z3247 => (((h.1 z3242).2 z3245).2 z3247)))) (fun z3243 => And.intro (And.intro (of_decide_eq_true rfl) rfl) (And.intro (And.intro (of_decide_eq_true rfl) (Exists.intro _ (And.intro rfl ((h.2 z3243).1)))) (And.intro (fun z3248 => And.intro (fun z3250 => And.intro (fun _ => (((h.2 z3243).2.1 z3248).1 z3250)) (fun z => absurd (by decide) z)) (fun z3251 => (((h.2 z3243).2.1 z3248).2 z3251))) (fun z3249 => And.intro (And.intro (of_decide_eq_true rfl) rfl) (And.intro (And.intro (of_decide_eq_true rfl) (Exists.intro _ (And.intro rfl ((h.2 z3243).1)))) (And.intro (fun z3252 => And.intro (fun z3254 => And.intro (fun z => absurd z (by decide)) (fun _ => And.intro (And.intro (of_decide_eq_true rfl) rfl) (And.intro (And.intro (of_decide_eq_true rfl) (Exists.intro _ (And.intro rfl ((h.2 z3243).1)))) (And.intro (And.intro (of_decide_eq_true rfl) rfl) (And.intro (And.intro (of_decide_eq_true rfl) (Exists.intro _ (And.intro rfl ((h.2 z3243).1)))) (And.intro (And.intro (of_decide_eq_true rfl) rfl) (And.intro (And.intro (of_decide_eq_true rfl) (Exists.intro _ (And.intro rfl ((h.2 z3243).1)))) (And.intro (Exists.intro _ (Exists.intro _ (Exists.intro _ (And.intro rfl (trivial))))) (fun _ _ z3258 => by obtain ⟨z3256, z3257⟩ := z3258; have z3256 := z3256.symm; have z3257 := z3257.symm; subst z3256; subst z3257; exact And.intro (fun z3259 => (((((h.2 z3243).2.2 z3249).1 z3252).1 z3254).1 (w_B01_0.mp z3259))) (fun z3260 => (((((h.2 z3243).2.2 z3249).1 z3252).1 z3254).2 (w_B01_n.mp z3260)))))))))))) (fun z3255 => ((((h.2 z3243).2.2 z3249).1 z3252).2 z3255))) (fun z3253 => And.intro (fun z3261 => And.intro (fun _ => ((((h.2 z3243).2.2 z3249).2 z3253).1 z3261)) (fun z => absurd (by decide) z)) (fun z3262 => ((((h.2 z3243).2.2 z3249).2 z3253).2 z3262))))))))))
set_option maxHeartbeats 4000000 in
theorem vX8_idle (x : Int32) (μ : wM) (h : pX8_idle x μ) (K : wK) (hK : w_cl 8 gX8_idle shM rfM 32 (some .int) (qX8_idle x μ) tX8_idle K) : K 0 [some (.ref 0), some (.int x), none, none, none, none, none, none, none] [] μ := by
  unfold pX8_idle at h
  obtain ⟨h1, h2⟩ := h
  obtain ⟨C, hC, hCn, hCc⟩ := vp_in_le h1 (by decide)
  refine hK uX8_idle 51 _ _ _ _ (vcX8_idle_0 K _ x μ ?_)
  refine ⟨fun c => ⟨fun z => absurd c z.2, fun _ => rfl, rfl⟩, fun c => ⟨fun c2 => ⟨fun z => by rw [c2] at z; exact absurd z.1 (by decide), fun _ => rfl, rfl⟩, fun c2 => ?_⟩⟩
  have fin : ∀ r, w_idR (wm_bz μ x) r → qX8_idle x μ r μ := fun r hr => ⟨fun _ => hr, fun z => absurd ⟨c2, c⟩ z, rfl⟩
  have inn : ∀ (s : Nat) (l2 l3 l4 : Int32), s < 72 → (wm_bz μ x s = false → K 16 [some (.ref 0), some (.int x), some (.int l2), some (.int l3), some (.int l4), some (.int (nI (s + 1))), none, none, none] [] μ) → (wm_bz μ x s = true → 0 ≤ l2 → K 16 [some (.ref 0), some (.int x), some (.int l2), some (.int (nI s)), some (.int (l4 + 1)), some (.int (nI (s + 1))), none, none, none] [] μ) → (wm_bz μ x s = true → ¬ 0 ≤ l2 → K 16 [some (.ref 0), some (.int x), some (.int (nI s)), some (.int (nI s)), some (.int (l4 + 1)), some (.int (nI (s + 1))), none, none, none] [] μ) → ∀ (d e : Nat), e + d = C → K 23 [some (.ref 0), some (.int x), some (.int l2), some (.int l3), some (.int l4), some (.int (nI s)), some (.int (w_B01 (w_anyB (fun e => wm_iv μ x e s) e))), some (.int (nI e)), none] [] μ := by
    intro s l2 l3 l4 hs no y1 y2 d
    induction d with
    | zero =>
      intro e he
      have heC : e = C := by omega
      subst heC
      refine hK uX8_idle 51 _ _ _ _ (vcX8_idle_23 K _ x l2 l3 l4 (nI s) (w_B01 (w_anyB (fun e => wm_iv μ x e s) e)) (nI e) μ ?_)
      have eb : wm_bz μ x s = w_anyB (fun e => wm_iv μ x e s) e := by unfold wm_bz; rw [hCc, decide_eq_true (show s < 1000 by omega), Bool.true_and]
      rw [← eb, hCn, nI_1]
      exact ⟨fun _ => ⟨fun z => no (w_B01_0.mp z), fun z => ⟨fun c5 => y1 (w_B01_n.mp z) c5, fun c5 => y2 (w_B01_n.mp z) c5⟩⟩, fun z => absurd (nI_le (Nat.le_refl _) (by omega)) z⟩
    | succ d ih =>
      intro e he
      refine hK uX8_idle 51 _ _ _ _ (vcX8_idle_23 K _ x l2 l3 l4 (nI s) (w_B01 (w_anyB (fun e => wm_iv μ x e s) e)) (nI e) μ ?_)
      have ee : (nI e).toNatClampNeg = e := nI_clamp (by omega)
      have z := ih (e + 1) (by omega)
      rw [show w_anyB (fun e => wm_iv μ x e s) (e + 1) = (w_anyB (fun e => wm_iv μ x e s) e || wm_iv μ x e s) from rfl] at z
      rw [hCn, ee, nI_1 e]
      generalize w_anyB (fun e => wm_iv μ x e s) e = A at z ⊢
      unfold wm_iv w_bt at z
      refine ⟨fun z => absurd z (nI_ge (by omega) (by omega)), fun _ => ⟨vp_in_nI (by omega) (by omega), fun c3 => ?_, fun c3 => ⟨fun c4 => ?_, fun c4 => ?_⟩⟩⟩
      · rw [decide_eq_false (fun q => q c3), Bool.false_and, Bool.or_false] at z
        exact ⟨fun a0 => by rw [w_B01_0.mp a0] at z; exact z, fun a1 => by rw [w_B01_n.mp a1] at z; exact z⟩
      · rw [decide_eq_true c3, decide_eq_true c4, Bool.true_and, Bool.true_and] at z
        refine ⟨fun a0 => ?_, fun a1 => by rw [w_B01_n.mp a1] at z; exact z⟩
        rw [w_B01_0.mp a0] at z
        exact ⟨fun c5 => by rw [c5] at z; exact z, fun c5 => by rw [c5] at z; exact z⟩
      · rw [decide_eq_true c3, decide_eq_false c4, Bool.true_and, Bool.false_and, Bool.or_false] at z
        exact ⟨fun a0 => by rw [w_B01_0.mp a0] at z; exact z, fun a1 => by rw [w_B01_n.mp a1] at z; exact z⟩
  have loop : ∀ (d s : Nat) (l2 l3 : Int32), s + d = 72 → ((l2 = -1 ∧ l3 = -1 ∧ ∀ t, t < s → wm_bz μ x t = false) ∨ ∃ F T : Nat, F < T ∧ T ≤ s ∧ wm_bz μ x F = true ∧ (∀ t, t < F → wm_bz μ x t = false) ∧ wm_bz μ x (T - 1) = true ∧ (∀ t, T ≤ t → t < s → wm_bz μ x t = false) ∧ l2 = nI F ∧ l3 = nI (T - 1)) → K 16 [some (.ref 0), some (.int x), some (.int l2), some (.int l3), some (.int (nI (w_cnt (wm_bz μ x) s))), some (.int (nI s)), none, none, none] [] μ := by
    intro d
    induction d with
    | zero =>
      intro s l2 l3 hs hst
      have hs72 : s = 72 := by omega
      subst hs72
      refine hK uX8_idle 51 _ _ _ _ (vcX8_idle_16 K _ x l2 l3 (nI (w_cnt (wm_bz μ x) 72)) (nI 72) μ ?_)
      refine ⟨fun _ => ?_, fun z => absurd (by decide) z⟩
      rcases hst with ⟨a1, a2, a3⟩ | ⟨F, T, a1, a2, a3, a4, a5, a6, a7, a8⟩
      · rw [a1]
        refine ⟨fun z => absurd z (by decide), fun _ => fin _ ⟨60, 0, Or.inl ⟨rfl, rfl, fun t => ?_⟩, by rw [if_pos rfl]⟩⟩
        rcases Nat.lt_or_ge t 60 with q | q
        · exact a3 t (by omega)
        · exact h2 t q
      · have hT60 : T ≤ 60 := by
          rcases Nat.lt_or_ge (T - 1) 60 with q | q
          · omega
          · rw [h2 _ q] at a5; cases a5
        rw [a7, a8, nI_dif (show F ≤ T - 1 by omega), nI_1, show 72 = 60 + 12 from rfl, w_cnt_tail 12 h2]
        refine ⟨fun _ => fin _ ⟨F, T, Or.inr ⟨a1, hT60, a3, a4, a5, fun t ht => ?_⟩, ?_⟩, fun z => absurd (nI_pos' (by omega)) z⟩
        · rcases Nat.lt_or_ge t 60 with q | q
          · exact a6 t ht (by omega)
          · exact h2 t q
        · rw [if_neg (by omega), nI_dif (show F ≤ T by omega), show T - 1 - F + 1 = T - F by omega]
    | succ d ih =>
      intro s l2 l3 hs hst
      refine hK uX8_idle 51 _ _ _ _ (vcX8_idle_16 K _ x l2 l3 (nI (w_cnt (wm_bz μ x) s)) (nI s) μ ?_)
      refine ⟨fun z => absurd z (nI_ge (b := 72) (by omega) (by omega)), fun _ => ?_⟩
      refine inn s l2 l3 _ (by omega) (fun hb => ?_) (fun hb hl => ?_) (fun hb hl => ?_) C 0 (by omega)
      · have z := ih (s + 1) l2 l3 (by omega) (by
          rcases hst with ⟨a1, a2, a3⟩ | ⟨F, T, a1, a2, a3, a4, a5, a6, a7, a8⟩
          · refine Or.inl ⟨a1, a2, fun t ht => ?_⟩
            by_cases q : t = s
            · rw [q]; exact hb
            · exact a3 t (by omega)
          · refine Or.inr ⟨F, T, a1, by omega, a3, a4, a5, fun t h1 h2 => ?_, a7, a8⟩
            by_cases q : t = s
            · rw [q]; exact hb
            · exact a6 t h1 (by omega))
        rw [w_cnt, hb] at z
        exact z
      · have z := ih (s + 1) l2 (nI s) (by omega) (by
          rcases hst with ⟨a1, a2, a3⟩ | ⟨F, T, a1, a2, a3, a4, a5, a6, a7, a8⟩
          · rw [a1] at hl; exact absurd hl (by decide)
          · exact Or.inr ⟨F, s + 1, by omega, by omega, a3, a4, hb, fun t h1 h2 => by omega, a7, rfl⟩)
        rw [w_cnt, hb] at z
        rw [nI_1]
        exact z
      · have z := ih (s + 1) (nI s) (nI s) (by omega) (by
          rcases hst with ⟨a1, a2, a3⟩ | ⟨F, T, a1, a2, a3, a4, a5, a6, a7, a8⟩
          · exact Or.inr ⟨s, s + 1, by omega, by omega, hb, a3, hb, fun t h1 h2 => by omega, rfl, rfl⟩
          · rw [a7] at hl; exact absurd (nI_pos' (by omega)) hl)
        rw [w_cnt, hb] at z
        rw [nI_1]
        exact z
  exact loop 72 0 (-1) (-1) rfl (Or.inl ⟨rfl, rfl, fun t ht => absurd ht (Nat.not_lt_zero _)⟩)
set_option maxRecDepth 100000 in
theorem zX8_idle (l : Launch) : ∀ (idx : Nat) (S : wS), gX8_idle idx = some S → w_Call l 8 idx S 3 shM rfM 32 := by
  intro idx S hS
  unfold gX8_idle at hS
  split at hS
  · cases hS
    exact w_callS (mX8_in l) eX8_in.1 (by decide +kernel) eX8_in.2.1 eX8_in.2.2 (by decide +kernel) (by decide) (by decide)
  · cases hS
    exact w_callS (mX8_isMan l) eX8_isMan.1 (by decide +kernel) eX8_isMan.2.1 eX8_isMan.2.2 (by decide +kernel) (by decide) (by decide)
  · cases hS
theorem mX8_idle (l : Launch) : w_Met l yX8_idle cX8_idle 9 (some .int) 3 shM rfM 32 sX8_idle.2.2.2.1 sX8_idle.2.2.2.2 :=
  w_meth (o := 8) (Γ := gX8_idle) (tb := tX8_idle) (by decide +kernel) rfl kX8_idle rfl (zX8_idle l) (fun as μ h => by obtain ⟨x, rfl, h⟩ := h; exact Nat.le_of_ble_eq_true rfl) (fun as μ h K hK => by obtain ⟨x, rfl, h⟩ := h; exact vX8_idle x μ h K hK)
set_option maxRecDepth 100000 in
theorem eX8_idle : Cond.code yX8_idle cX8_idle 9 (some .int) ∈ w_tbl ∧ Cond.instanceMethod yX8_idle ∈ w_tbl ∧ Cond.selects (w_C 8) yX8_idle yX8_idle ∈ w_tbl ∧ Cond.initialized yX8_idle.cls ∈ w_tbl := ⟨by decide +kernel, by decide +kernel, by decide +kernel, by decide +kernel⟩
theorem rX8_idle : ∀ as μ, sX8_idle.2.2.2.1 as μ → ∃ q as', as = .ref q :: as' ∧ q < 32 ∧ shM q = .inl 8 := by
  intro as μ h
  obtain ⟨x, rfl, h⟩ := h
  exact ⟨_, _, rfl, by decide, rfl⟩
